theorem ct_pack_0 {w : Nat → Bool} {d : Nat} {h : am_Hp} {I : sm_I} {X : sm_X} (hS : sm tbc h I X) {x : Nat} {k0 n0 pr td : Int32} {vq va vs : Value} (hx : h[x]? = some (.inl (9, [.int k0, .int n0, .int pr, .int td, vq, va, vs, .null]))) (hxw : w x = true) (hxt : tbc x = none) {va1 vb1 : Value} (h211 : X 211 0 = va1) (h212 : X 212 0 = vb1) (hf1 : am_fit (.object "MirrorPairs$Request") va1 = true) (hf2 : am_fit (.object "MirrorPairs$Answer") vb1 = true) (hd : 1 ≤ d) : am_Ev (am_prog w) d 22 [.ref 59, .ref x] h (fun r h' => r = none ∧ h'[x]? = some (.inl (9, [.int k0, .int n0, .int pr, .int td, va1, vb1, vs, .null])) ∧ pq x h h') := by
  obtain ⟨d, rfl⟩ : ∃ e, d = e + 1 := ⟨d - 1, by omega⟩
  refine ev_go rfl (Nat.le_of_ble_eq_true rfl) rfl ?_
  refine go_s (pc' := 1) rfl rfl rfl rfl ?_
  refine go_s (pc' := 2) rfl rfl rfl rfl ?_
  refine go_sget (pc' := 3) (v := va1) hS rfl rfl rfl (by decide) h211 rfl ?_
  refine go_putF (pc' := 4) rfl hx rfl (by decide) (Nat.le_of_ble_eq_true rfl) hf1 hxw rfl (fun h1 hc2 hp3 => ?_)
  have hS4 := sm_pq hS hp3 hxt
  refine go_s (pc' := 5) rfl rfl rfl rfl ?_
  refine go_s (pc' := 6) rfl rfl rfl rfl ?_
  refine go_sget (pc' := 7) (v := vb1) hS4 rfl rfl rfl (by decide) h212 rfl ?_
  refine go_putF (pc' := 8) rfl hc2 rfl (by decide) (Nat.le_of_ble_eq_true rfl) hf2 hxw rfl (fun h5 hc6 hp7 => ?_)
  have hS8 := sm_pq hS4 hp7 hxt
  have hP9 := pq_trans hp3 hp7
  refine go_ret rfl rfl ?_
  exact ⟨rfl, hc6, hP9⟩
theorem ct_pack_1 {w : Nat → Bool} {d : Nat} {h : am_Hp} {I : sm_I} {X : sm_X} (hS : sm tbc h I X) {x : Nat} {k0 n0 pr td : Int32} {vq va vs : Value} (hx : h[x]? = some (.inl (9, [.int k0, .int n0, .int pr, .int td, vq, va, vs, .null]))) (hxw : w x = true) (hxt : tbc x = none) {va1 vb1 : Value} (h211 : X 211 1 = va1) (h212 : X 212 1 = vb1) (hf1 : am_fit (.object "MirrorPairs$Request") va1 = true) (hf2 : am_fit (.object "MirrorPairs$Answer") vb1 = true) (hd : 1 ≤ d) : am_Ev (am_prog w) d 22 [.ref 60, .ref x] h (fun r h' => r = none ∧ h'[x]? = some (.inl (9, [.int k0, .int n0, .int pr, .int td, va1, vb1, vs, .null])) ∧ pq x h h') := by
  obtain ⟨d, rfl⟩ : ∃ e, d = e + 1 := ⟨d - 1, by omega⟩
  refine ev_go rfl (Nat.le_of_ble_eq_true rfl) rfl ?_
  refine go_s (pc' := 1) rfl rfl rfl rfl ?_
  refine go_s (pc' := 2) rfl rfl rfl rfl ?_
  refine go_sget (pc' := 3) (v := va1) hS rfl rfl rfl (by decide) h211 rfl ?_
  refine go_putF (pc' := 4) rfl hx rfl (by decide) (Nat.le_of_ble_eq_true rfl) hf1 hxw rfl (fun h1 hc2 hp3 => ?_)
  have hS4 := sm_pq hS hp3 hxt
  refine go_s (pc' := 5) rfl rfl rfl rfl ?_
  refine go_s (pc' := 6) rfl rfl rfl rfl ?_
  refine go_sget (pc' := 7) (v := vb1) hS4 rfl rfl rfl (by decide) h212 rfl ?_
  refine go_putF (pc' := 8) rfl hc2 rfl (by decide) (Nat.le_of_ble_eq_true rfl) hf2 hxw rfl (fun h5 hc6 hp7 => ?_)
  have hS8 := sm_pq hS4 hp7 hxt
  have hP9 := pq_trans hp3 hp7
  refine go_ret rfl rfl ?_
  exact ⟨rfl, hc6, hP9⟩
theorem ct_packS {w : Nat → Bool} {d : Nat} {h : am_Hp} {I : sm_I} {X : sm_X} (hS : sm tbc h I X) (hWn : ∀ a, h.length ≤ a → w a = true) {x : Nat} {k0 n0 pr td : Int32} {vq va vs : Value} (hx : h[x]? = some (.inl (9, [.int k0, .int n0, .int pr, .int td, vq, va, vs, .null]))) (hxw : w x = true) (hxt : tbc x = none) {ad : Nat → Nat} {S : sm_I} {Y : sm_X} (h208 : X 208 0 = .ref (ad 0)) (hA : adk ad) (hSs : sm (tbs ad) h S Y) (hZ : ∀ i, i < 12 → ad i ≠ 0) (hxn : tbs ad x = none) (hfit : am_fit (.object "MirrorPairs$Request") (Y 200 0) = true) (hbf : am_fit .boolean (.int (S 0 3)) = true) (hd : 2 ≤ d) : am_Ev (am_prog w) d 20 [.ref 32, .ref x] h (fun r h' => r = none ∧ h'[x]? = some (.inl (9, [.int k0, .int n0, .int pr, .int td, vq, va, .ref h.length, .null])) ∧ sm (tbs (adC ad h.length (h.length + 1))) h' S Y ∧ qa x h h' 9 216) := by
  obtain ⟨d, rfl⟩ : ∃ e, d = e + 1 := ⟨d - 1, by omega⟩
  refine ev_go rfl (Nat.le_of_ble_eq_true rfl) rfl ?_
  refine go_s (pc' := 1) rfl rfl rfl rfl ?_
  refine go_newF (pc' := 2) (n := 14) rfl rfl rfl rfl (fun L1 h2 hL3 hc4 hg5 => ?_)
  have hq6 := (hg5.2.2 _ (lt_of hx)).trans hx
  have lt_x_L1 : x < L1 := hL3 ▸ lt_of hx
  have nb_L1 := tbc_out L1 (by have := sm_len hS; omega)
  have hS7 := sm_gq hS hg5
  refine go_s (pc' := 3) rfl rfl rfl rfl ?_
  refine go_s (pc' := 4) rfl rfl rfl rfl ?_
  refine go_sget (pc' := 5) (v := .ref (ad 0)) hS7 rfl rfl rfl (by decide) h208 rfl ?_
  have hna : tbs ad L1 = none := tbs_new hA hSs (by omega)
  have hSs2 := sm_gq hSs hg5
  refine go_callI (pc' := 6) rfl rfl rfl (Nat.le_of_ble_eq_true rfl) rfl hc4 rfl rfl rfl (ci_ssc hA hSs2 hZ hc4 hna (hWn _ (by omega)) hfit hbf (by omega)) (fun r h8 q9 => ?_)
  obtain ⟨rfl, hSs3, hq3, hSn⟩ := q9
  have hx3 := (hq3.2.2 x (lt_of hq6) (by have := lt_of hx; omega)).trans hq6
  refine go_putF (pc' := 7) rfl hx3 rfl (by decide) (Nat.le_of_ble_eq_true rfl) rfl hxw rfl (fun h10 hc11 hp12 => ?_)
  refine go_ret rfl rfl ?_
  have hp := hp12
  obtain rfl : L1 = h.length := by omega
  have hl2 := hg5.1
  refine ⟨rfl, hc11, sm_pq (by rw [hl2] at hSn; exact hSn) hp (by refine tbs_none (fun i hi e => ?_); unfold adC at e; have := lt_of hx; split at e; omega; split at e; omega; exact tbs_ne hA hxn hi e), ⟨?_, ?_, fun b hb hne => ?_⟩⟩
  · rw [hp.1, hq3.1, hl2]
  · rw [hp.2.1, hq3.2.1, hg5.2.1]
  · rw [hp.2.2 b hne, hq3.2.2 b (by omega) (by omega), hg5.2.2 b hb]
theorem St_fr {w : Nat → Bool} {h h2 : am_Hp} {ow : ow_T} {ad : Nat → Nat} {S : sm_I} {Y : sm_X} {k s : Nat} (o : OW w h ow) (ho : ∀ i, i < 12 → ow (ad i) ≠ 0) (hs : sm (tbs ad) h S Y) (f : fr tbc h h2 k s) : sm (tbs ad) h2 S Y := by
  refine sm_dyn hs (fun x hx => ?_)
  obtain ⟨y, hy⟩ := Option.ne_none_iff_exists'.mp hx
  obtain ⟨i, hi, rfl, -⟩ := tbs_of hy
  exact f.2.2.2 _ (o.2.2 _ (ho i hi)).2.1 (OW_lt o (ho i hi))
theorem cm_sS_0 {w : Nat → Bool} {d : Nat} {h : am_Hp} {e : Nat} {m0 : mg} {B : Nat} {I : sm_I} {Q : mQ} {Z : mZ} (hC : CA w e m0 B h (I, Q, Z)) (hB2 : B < 2 ^ 29) (hv : lv I 0 = true) {kd : Int32} (hkd : kd = 3 ∨ kd = 4) (hd : 4 ≤ d) : am_Ev (am_prog w) d 18 [.ref 1, .ref 32, .int kd] h (fun r h' => r = none ∧ CA w e m0 (B + 344) h' (msS 0 kd (I, Q, Z))) := by
  obtain ⟨X, ow, sb, hS, hD, hB, hQ⟩ := hC
  change sm tbc h I X at hS
  change CD w e m0 h I Q Z X ow sb at hD
  change co h I ≤ B at hB
  change ∀ l, l < 16 → (Q l).length ≤ h.length at hQ
  have hW := hD.1.1
  have hWn : ∀ a, List.length h ≤ a → w a = true := fun a ha => (hD.1.2.1 a ha).1
  have hF1 := fr_refl tbc h
  have hln : 62 ≤ List.length h := sm_len hS
  obtain ⟨k208, kst, -⟩ := hD.2.2.2.2.1
  obtain ⟨ad, S, Y, k0, hA, k2, k3, k4, k5⟩ := kst hv
  have hft := SQ_fit k5
  have hoa : ∀ i, i < 12 → ow (ad i) ≠ 0 := fun i hi => by
    by_cases c : i < 9
    · have := k2 i c; omega
    · have := k3 i (by omega) hi; omega
  have hZ0 : ∀ i, i < 12 → ad i ≠ 0 := fun i hi => (hD.1.2.2 _ (hoa i hi)).2.2
  rw [← k0] at k208
  obtain ⟨d, rfl⟩ : ∃ e, d = e + 1 := ⟨d - 1, by omega⟩
  refine ev_go rfl (Nat.le_of_ble_eq_true rfl) rfl ?_
  rcases hD.2.2.2.2.2.2 0 (by decide) with e11 | e11 | e11
  · exact absurd hv (by simp [lv, e11])
  · skip
    change I 11 0 = 0 at e11
    refine go_s (pc' := 1) rfl rfl rfl rfl ?_
    refine go_s (pc' := 2) rfl rfl rfl rfl ?_
    refine go_sget (pc' := 3) (v := .int (I 15 0)) hS rfl rfl rfl (by decide) rfl rfl ?_
    refine go_s (pc' := 4) (st' := [.int 1, .int (I 15 0), .ref 32]) rfl rfl rfl rfl ?_
    refine go_s (pc' := 5) rfl rfl rfl rfl ?_
    refine go_sput (pc' := 6) hS rfl rfl rfl (by decide) tbc_inj (Nat.le_of_ble_eq_true rfl) rfl (hW _ rfl) rfl (fun h2 hS3 hE4 => ?_)
    have hF5 := fr_trans hF1 (fr_e hE4)
    refine go_newF (pc' := 7) (n := 8) rfl rfl rfl rfl (fun L6 h7 hL8 hc9 hg10 => ?_)
    have ge_L6 : _ ≤ L6 := hL8 ▸ hF5.1
    have nb_L6 := tbc_out L6 (by have := sm_len hS3; omega)
    have hS11 := sm_gq hS3 hg10
    have hF12 := fr_gq hF5 hg10
    refine go_s (pc' := 8) rfl rfl rfl rfl ?_
    refine go_s (pc' := 9) rfl rfl rfl rfl ?_
    refine go_callI (pc' := 10) rfl rfl rfl (Nat.le_of_ble_eq_true rfl) rfl hc9 rfl rfl rfl (ci_msg hc9 (hWn _ (by omega)) (by omega)) (fun r h13 q14 => ?_)
    obtain ⟨rfl, hc15, hp16⟩ := q14
    have hS17 := sm_pq hS11 hp16 nb_L6
    have hF18 := fr_pq hF12 hp16 (by omega)
    refine go_s (pc' := 11) (lo' := [some (.ref 1), some (.ref 32), some (.int kd), some (.ref L6)]) rfl rfl rfl rfl ?_
    refine go_s (pc' := 12) rfl rfl rfl rfl ?_
    refine go_s (pc' := 13) rfl rfl rfl rfl ?_
    refine go_sget (pc' := 14) (v := .int 0) hS17 rfl rfl rfl (by decide) rfl rfl ?_
    refine go_putF (pc' := 15) rfl hc15 rfl (by decide) (Nat.le_of_ble_eq_true rfl) rfl (hWn _ (by omega)) rfl (fun h19 hc20 hp21 => ?_)
    have hS22 := sm_pq hS17 hp21 nb_L6
    have hF23 := fr_pq hF18 hp21 (by omega)
    refine go_s (pc' := 16) rfl rfl rfl rfl ?_
    refine go_s (pc' := 17) rfl rfl rfl rfl ?_
    refine go_sget (pc' := 18) (v := .int ((I 15 0) + 1)) hS22 rfl rfl rfl (by decide) rfl rfl ?_
    refine go_putF (pc' := 19) rfl hc20 rfl (by decide) (Nat.le_of_ble_eq_true rfl) rfl (hWn _ (by omega)) rfl (fun h24 hc25 hp26 => ?_)
    have hS27 := sm_pq hS22 hp26 nb_L6
    have hF28 := fr_pq hF23 hp26 (by omega)
    refine go_s (pc' := 20) rfl rfl rfl rfl ?_
    refine go_s (pc' := 21) rfl rfl rfl rfl ?_
    have hSs2 : sm (tbs ad) h24 S Y := St_fr hD.1 hoa k4 hF28
    have hxl : L6 < List.length h24 := lt_of hc25
    have hxn : tbs ad L6 = none := tbs_new hA k4 (by omega)
    refine go_callV (pc' := 22) rfl rfl rfl (Nat.le_of_ble_eq_true rfl) rfl (sm_o hS27 rfl) rfl rfl rfl (ct_packS hS27 (fun a ha => hWn a (Nat.le_trans hF28.1 ha)) hc25 (hWn _ (by omega)) nb_L6 k208 hA hSs2 hZ0 hxn hft.1 hft.2 (by omega)) (fun r h29 q30 => ?_)
    obtain ⟨rfl, hx7, hS7, hq7⟩ := q30
    have hS8 := sm_qa hS27 hq7 nb_L6
    have hF8 := fr_qa hF28 hq7 (by omega)
    have hb7 : List.length h ≤ List.length h24 := hF28.1
    refine go_s (pc' := 23) rfl rfl rfl rfl ?_
    refine go_sget (pc' := 24) (v := .ref 2) hS8 rfl rfl rfl (by decide) rfl rfl ?_
    refine go_s (pc' := 25) rfl rfl rfl rfl ?_
    refine go_sget (pc' := 26) (v := .int 0) hS8 rfl rfl rfl (by decide) (congrArg Value.int e11) rfl ?_
    refine go_s (pc' := 27) rfl rfl rfl rfl ?_
    refine go_callV (pc' := 28) rfl rfl rfl (Nat.le_of_ble_eq_true rfl) rfl (sm_o hS8 rfl) rfl rfl rfl (ct_oh_0 hS8 (by omega)) (fun r h31 q32 => ?_)
    obtain ⟨rfl, rfl⟩ := q32
    have hoh : ohI (uI I 15 0 ((I 15 0) + 1)) 0 = 1 := by simp [ohI, uI, e11]
    rw [hoh]
    refine go_s (pc' := 29) rfl rfl rfl rfl ?_
    have hms : msS 0 kd (I, Q, Z) = msnd 0 1 (mgS kd 0 (I 15 0 + 1) (Z (rwi I 0))) ((uI I 15 0 ((I 15 0) + 1)), Q, Z) := by
      unfold msS
      rw [show pn (I, Q, Z).1 0 = 0 by simp [pn, e11], show ohn (I, Q, Z).1 0 = 1 by simp [ohn, e11]]
    have hbl : List.length h24 + 8 < List.length h31 := by
      have := hq7.1
      omega
    have hD9 : CD w e m0 h31 (uI I 15 0 ((I 15 0) + 1)) Q Z X (owc ow (List.length h24)) sb := CD_I (CD_cp hD hF8 hb7 hbl hln) ⟨rfl, rfl, rfl, rfl, rfl, rfl, rfl, rfl, rfl, rfl, rfl, rfl, rfl, rfl, rfl⟩
    have hA9 : adk (adC ad (List.length h24) (List.length h24 + 1)) := adC_k hA (by omega) (tbs_new hA k4 hb7) (fun i hi => by have := tbs_lt hA k4 hi; omega)
    have hst9 := St_cp hD.1 hF8 hb7 hA9 k3 hS7 k5
    have hsb : sb < List.length h := OW_lt hD.1 (by rw [← k0]; exact hoa 0 (by decide))
    have hox : owc ow (List.length h24) L6 = 0 := by
      unfold owc
      rw [if_neg (by omega)]
      exact (hD.1.2.1 _ (by omega)).2
    have hB9 : co h31 (uI I 15 0 ((I 15 0) + 1)) ≤ B + 344 := by
      have := co_fr (I := I) (J := (uI I 15 0 ((I 15 0) + 1))) hF8 rfl
      omega
    refine go_callV (pc' := 30) rfl rfl rfl (Nat.le_of_ble_eq_true rfl) rfl (sm_o hS8 rfl) rfl rfl rfl (ct_send hS8 hD9 hB9 (fun l hl => by have := hQ l hl; have := lt_of hx7; omega) (by omega) (f := 0) (t := 1) (by decide) (by decide) (by decide) (m := mgS kd 0 (I 15 0 + 1) (Z (rwi I 0))) hx7 hox (hWn _ (by omega)) nb_L6 (by omega) (MF_S0 hkd (by omega) hst9) (by omega)) (fun r h33 q34 => ?_)
    rw [← hms] at q34
    obtain ⟨rfl, hC9⟩ := q34
    refine go_ret rfl rfl ?_
    exact ⟨rfl, hC9⟩
  · skip
    change I 11 0 = 1 at e11
    refine go_s (pc' := 1) rfl rfl rfl rfl ?_
    refine go_s (pc' := 2) rfl rfl rfl rfl ?_
    refine go_sget (pc' := 3) (v := .int (I 15 0)) hS rfl rfl rfl (by decide) rfl rfl ?_
    refine go_s (pc' := 4) (st' := [.int 1, .int (I 15 0), .ref 32]) rfl rfl rfl rfl ?_
    refine go_s (pc' := 5) rfl rfl rfl rfl ?_
    refine go_sput (pc' := 6) hS rfl rfl rfl (by decide) tbc_inj (Nat.le_of_ble_eq_true rfl) rfl (hW _ rfl) rfl (fun h35 hS36 hE37 => ?_)
    have hF38 := fr_trans hF1 (fr_e hE37)
    refine go_newF (pc' := 7) (n := 8) rfl rfl rfl rfl (fun L39 h40 hL41 hc42 hg43 => ?_)
    have ge_L39 : _ ≤ L39 := hL41 ▸ hF38.1
    have nb_L39 := tbc_out L39 (by have := sm_len hS36; omega)
    have hS44 := sm_gq hS36 hg43
    have hF45 := fr_gq hF38 hg43
    refine go_s (pc' := 8) rfl rfl rfl rfl ?_
    refine go_s (pc' := 9) rfl rfl rfl rfl ?_
    refine go_callI (pc' := 10) rfl rfl rfl (Nat.le_of_ble_eq_true rfl) rfl hc42 rfl rfl rfl (ci_msg hc42 (hWn _ (by omega)) (by omega)) (fun r h46 q47 => ?_)
    obtain ⟨rfl, hc48, hp49⟩ := q47
    have hS50 := sm_pq hS44 hp49 nb_L39
    have hF51 := fr_pq hF45 hp49 (by omega)
    refine go_s (pc' := 11) (lo' := [some (.ref 1), some (.ref 32), some (.int kd), some (.ref L39)]) rfl rfl rfl rfl ?_
    refine go_s (pc' := 12) rfl rfl rfl rfl ?_
    refine go_s (pc' := 13) rfl rfl rfl rfl ?_
    refine go_sget (pc' := 14) (v := .int 0) hS50 rfl rfl rfl (by decide) rfl rfl ?_
    refine go_putF (pc' := 15) rfl hc48 rfl (by decide) (Nat.le_of_ble_eq_true rfl) rfl (hWn _ (by omega)) rfl (fun h52 hc53 hp54 => ?_)
    have hS55 := sm_pq hS50 hp54 nb_L39
    have hF56 := fr_pq hF51 hp54 (by omega)
    refine go_s (pc' := 16) rfl rfl rfl rfl ?_
    refine go_s (pc' := 17) rfl rfl rfl rfl ?_
    refine go_sget (pc' := 18) (v := .int ((I 15 0) + 1)) hS55 rfl rfl rfl (by decide) rfl rfl ?_
    refine go_putF (pc' := 19) rfl hc53 rfl (by decide) (Nat.le_of_ble_eq_true rfl) rfl (hWn _ (by omega)) rfl (fun h57 hc58 hp59 => ?_)
    have hS60 := sm_pq hS55 hp59 nb_L39
    have hF61 := fr_pq hF56 hp59 (by omega)
    refine go_s (pc' := 20) rfl rfl rfl rfl ?_
    refine go_s (pc' := 21) rfl rfl rfl rfl ?_
    have hSs2 : sm (tbs ad) h57 S Y := St_fr hD.1 hoa k4 hF61
    have hxl : L39 < List.length h57 := lt_of hc58
    have hxn : tbs ad L39 = none := tbs_new hA k4 (by omega)
    refine go_callV (pc' := 22) rfl rfl rfl (Nat.le_of_ble_eq_true rfl) rfl (sm_o hS60 rfl) rfl rfl rfl (ct_packS hS60 (fun a ha => hWn a (Nat.le_trans hF61.1 ha)) hc58 (hWn _ (by omega)) nb_L39 k208 hA hSs2 hZ0 hxn hft.1 hft.2 (by omega)) (fun r h62 q63 => ?_)
    obtain ⟨rfl, hx7, hS7, hq7⟩ := q63
    have hS8 := sm_qa hS60 hq7 nb_L39
    have hF8 := fr_qa hF61 hq7 (by omega)
    have hb7 : List.length h ≤ List.length h57 := hF61.1
    refine go_s (pc' := 23) rfl rfl rfl rfl ?_
    refine go_sget (pc' := 24) (v := .ref 2) hS8 rfl rfl rfl (by decide) rfl rfl ?_
    refine go_s (pc' := 25) rfl rfl rfl rfl ?_
    refine go_sget (pc' := 26) (v := .int 1) hS8 rfl rfl rfl (by decide) (congrArg Value.int e11) rfl ?_
    refine go_s (pc' := 27) rfl rfl rfl rfl ?_
    refine go_callV (pc' := 28) rfl rfl rfl (Nat.le_of_ble_eq_true rfl) rfl (sm_o hS8 rfl) rfl rfl rfl (ct_oh_0 hS8 (by omega)) (fun r h64 q65 => ?_)
    obtain ⟨rfl, rfl⟩ := q65
    have hoh : ohI (uI I 15 0 ((I 15 0) + 1)) 0 = 0 := by simp [ohI, uI, e11]
    rw [hoh]
    refine go_s (pc' := 29) rfl rfl rfl rfl ?_
    have hms : msS 0 kd (I, Q, Z) = msnd 1 0 (mgS kd 0 (I 15 0 + 1) (Z (rwi I 0))) ((uI I 15 0 ((I 15 0) + 1)), Q, Z) := by
      unfold msS
      rw [show pn (I, Q, Z).1 0 = 1 by simp [pn, e11], show ohn (I, Q, Z).1 0 = 0 by simp [ohn, e11]]
    have hbl : List.length h57 + 8 < List.length h64 := by
      have := hq7.1
      omega
    have hD9 : CD w e m0 h64 (uI I 15 0 ((I 15 0) + 1)) Q Z X (owc ow (List.length h57)) sb := CD_I (CD_cp hD hF8 hb7 hbl hln) ⟨rfl, rfl, rfl, rfl, rfl, rfl, rfl, rfl, rfl, rfl, rfl, rfl, rfl, rfl, rfl⟩
    have hA9 : adk (adC ad (List.length h57) (List.length h57 + 1)) := adC_k hA (by omega) (tbs_new hA k4 hb7) (fun i hi => by have := tbs_lt hA k4 hi; omega)
    have hst9 := St_cp hD.1 hF8 hb7 hA9 k3 hS7 k5
    have hsb : sb < List.length h := OW_lt hD.1 (by rw [← k0]; exact hoa 0 (by decide))
    have hox : owc ow (List.length h57) L39 = 0 := by
      unfold owc
      rw [if_neg (by omega)]
      exact (hD.1.2.1 _ (by omega)).2
    have hB9 : co h64 (uI I 15 0 ((I 15 0) + 1)) ≤ B + 344 := by
      have := co_fr (I := I) (J := (uI I 15 0 ((I 15 0) + 1))) hF8 rfl
      omega
    refine go_callV (pc' := 30) rfl rfl rfl (Nat.le_of_ble_eq_true rfl) rfl (sm_o hS8 rfl) rfl rfl rfl (ct_send hS8 hD9 hB9 (fun l hl => by have := hQ l hl; have := lt_of hx7; omega) (by omega) (f := 1) (t := 0) (by decide) (by decide) (by decide) (m := mgS kd 0 (I 15 0 + 1) (Z (rwi I 0))) hx7 hox (hWn _ (by omega)) nb_L39 (by omega) (MF_S0 hkd (by omega) hst9) (by omega)) (fun r h66 q67 => ?_)
    rw [← hms] at q67
    obtain ⟨rfl, hC9⟩ := q67
    refine go_ret rfl rfl ?_
    exact ⟨rfl, hC9⟩
theorem cm_sS_1 {w : Nat → Bool} {d : Nat} {h : am_Hp} {e : Nat} {m0 : mg} {B : Nat} {I : sm_I} {Q : mQ} {Z : mZ} (hC : CA w e m0 B h (I, Q, Z)) (hB2 : B < 2 ^ 29) (hv : lv I 1 = true) {kd : Int32} (hkd : kd = 3 ∨ kd = 4) (hd : 4 ≤ d) : am_Ev (am_prog w) d 18 [.ref 1, .ref 59, .int kd] h (fun r h' => r = none ∧ CA w e m0 (B + 20) h' (msS 1 kd (I, Q, Z))) := by
  obtain ⟨X, ow, sb, hS, hD, hB, hQ⟩ := hC
  change sm tbc h I X at hS
  change CD w e m0 h I Q Z X ow sb at hD
  change co h I ≤ B at hB
  change ∀ l, l < 16 → (Q l).length ≤ h.length at hQ
  have hW := hD.1.1
  have hWn : ∀ a, List.length h ≤ a → w a = true := fun a ha => (hD.1.2.1 a ha).1
  have hF1 := fr_refl tbc h
  have hln : 62 ≤ List.length h := sm_len hS
  have htr := (hD.2.2.2.2.2.1 0 (by decide)).1 hv
  have hft := TR_fit htr
  obtain ⟨d, rfl⟩ : ∃ e, d = e + 1 := ⟨d - 1, by omega⟩
  refine ev_go rfl (Nat.le_of_ble_eq_true rfl) rfl ?_
  rcases hD.2.2.2.2.2.2 1 (by decide) with e11 | e11 | e11
  · exact absurd hv (by simp [lv, e11])
  · skip
    change I 11 1 = 2 at e11
    refine go_s (pc' := 1) rfl rfl rfl rfl ?_
    refine go_s (pc' := 2) rfl rfl rfl rfl ?_
    refine go_sget (pc' := 3) (v := .int (I 15 1)) hS rfl rfl rfl (by decide) rfl rfl ?_
    refine go_s (pc' := 4) (st' := [.int 1, .int (I 15 1), .ref 59]) rfl rfl rfl rfl ?_
    refine go_s (pc' := 5) rfl rfl rfl rfl ?_
    refine go_sput (pc' := 6) hS rfl rfl rfl (by decide) tbc_inj (Nat.le_of_ble_eq_true rfl) rfl (hW _ rfl) rfl (fun h2 hS3 hE4 => ?_)
    have hF5 := fr_trans hF1 (fr_e hE4)
    refine go_newF (pc' := 7) (n := 8) rfl rfl rfl rfl (fun L6 h7 hL8 hc9 hg10 => ?_)
    have ge_L6 : _ ≤ L6 := hL8 ▸ hF5.1
    have nb_L6 := tbc_out L6 (by have := sm_len hS3; omega)
    have hS11 := sm_gq hS3 hg10
    have hF12 := fr_gq hF5 hg10
    refine go_s (pc' := 8) rfl rfl rfl rfl ?_
    refine go_s (pc' := 9) rfl rfl rfl rfl ?_
    refine go_callI (pc' := 10) rfl rfl rfl (Nat.le_of_ble_eq_true rfl) rfl hc9 rfl rfl rfl (ci_msg hc9 (hWn _ (by omega)) (by omega)) (fun r h13 q14 => ?_)
    obtain ⟨rfl, hc15, hp16⟩ := q14
    have hS17 := sm_pq hS11 hp16 nb_L6
    have hF18 := fr_pq hF12 hp16 (by omega)
    refine go_s (pc' := 11) (lo' := [some (.ref 1), some (.ref 59), some (.int kd), some (.ref L6)]) rfl rfl rfl rfl ?_
    refine go_s (pc' := 12) rfl rfl rfl rfl ?_
    refine go_s (pc' := 13) rfl rfl rfl rfl ?_
    refine go_sget (pc' := 14) (v := .int 1) hS17 rfl rfl rfl (by decide) rfl rfl ?_
    refine go_putF (pc' := 15) rfl hc15 rfl (by decide) (Nat.le_of_ble_eq_true rfl) rfl (hWn _ (by omega)) rfl (fun h19 hc20 hp21 => ?_)
    have hS22 := sm_pq hS17 hp21 nb_L6
    have hF23 := fr_pq hF18 hp21 (by omega)
    refine go_s (pc' := 16) rfl rfl rfl rfl ?_
    refine go_s (pc' := 17) rfl rfl rfl rfl ?_
    refine go_sget (pc' := 18) (v := .int ((I 15 1) + 1)) hS22 rfl rfl rfl (by decide) rfl rfl ?_
    refine go_putF (pc' := 19) rfl hc20 rfl (by decide) (Nat.le_of_ble_eq_true rfl) rfl (hWn _ (by omega)) rfl (fun h24 hc25 hp26 => ?_)
    have hS27 := sm_pq hS22 hp26 nb_L6
    have hF28 := fr_pq hF23 hp26 (by omega)
    refine go_s (pc' := 20) rfl rfl rfl rfl ?_
    refine go_s (pc' := 21) rfl rfl rfl rfl ?_
    refine go_callV (pc' := 22) rfl rfl rfl (Nat.le_of_ble_eq_true rfl) rfl (sm_o hS27 rfl) rfl rfl rfl (ct_pack_0 hS27 hc25 (hWn _ (by omega)) nb_L6 rfl rfl hft.1 hft.2 (by omega)) (fun r h29 q30 => ?_)
    obtain ⟨rfl, hx7, hp7⟩ := q30
    have hS31 := sm_pq hS27 hp7 nb_L6
    have hF32 := fr_pq hF28 hp7 (by omega)
    refine go_s (pc' := 23) rfl rfl rfl rfl ?_
    refine go_sget (pc' := 24) (v := .ref 2) hS31 rfl rfl rfl (by decide) rfl rfl ?_
    refine go_s (pc' := 25) rfl rfl rfl rfl ?_
    refine go_sget (pc' := 26) (v := .int 2) hS31 rfl rfl rfl (by decide) (congrArg Value.int e11) rfl ?_
    refine go_s (pc' := 27) rfl rfl rfl rfl ?_
    refine go_callV (pc' := 28) rfl rfl rfl (Nat.le_of_ble_eq_true rfl) rfl (sm_o hS31 rfl) rfl rfl rfl (ct_oh_1 hS31 (by omega)) (fun r h33 q34 => ?_)
    obtain ⟨rfl, rfl⟩ := q34
    have hoh : ohI (uI I 15 1 ((I 15 1) + 1)) 1 = 3 := by simp [ohI, uI, e11]
    rw [hoh]
    refine go_s (pc' := 29) rfl rfl rfl rfl ?_
    have hms : msS 1 kd (I, Q, Z) = msnd 2 3 (mgS kd 1 (I 15 1 + 1) (Z (rwi I 1))) ((uI I 15 1 ((I 15 1) + 1)), Q, Z) := by
      unfold msS
      rw [show pn (I, Q, Z).1 1 = 2 by simp [pn, e11], show ohn (I, Q, Z).1 1 = 3 by simp [ohn, e11]]
    have hD9 : CD w e m0 h33 (uI I 15 1 ((I 15 1) + 1)) Q Z X ow sb := CD_I (CD_fr hD hF32) ⟨rfl, rfl, rfl, rfl, rfl, rfl, rfl, rfl, rfl, rfl, rfl, rfl, rfl, rfl, rfl⟩
    have hox : ow L6 = 0 := (hD.1.2.1 _ (by omega)).2
    have htr9 := (hD9.2.2.2.2.2.1 0 (by decide)).1 hv
    have hB9 : co h33 (uI I 15 1 ((I 15 1) + 1)) ≤ B + 20 := by
      have := co_fr (I := I) (J := (uI I 15 1 ((I 15 1) + 1))) hF32 rfl
      omega
    refine go_callV (pc' := 30) rfl rfl rfl (Nat.le_of_ble_eq_true rfl) rfl (sm_o hS31 rfl) rfl rfl rfl (ct_send hS31 hD9 hB9 (fun l hl => by have := hQ l hl; have := lt_of hx7; omega) (by omega) (f := 2) (t := 3) (by decide) (by decide) (by decide) (m := mgS kd 1 (I 15 1 + 1) (Z (rwi I 1))) hx7 hox (hWn _ (by omega)) nb_L6 (by omega) (MF_S1 (t := 0) hkd (by decide) htr9) (by omega)) (fun r h35 q36 => ?_)
    rw [← hms] at q36
    obtain ⟨rfl, hC9⟩ := q36
    refine go_ret rfl rfl ?_
    exact ⟨rfl, hC9⟩
  · skip
    change I 11 1 = 3 at e11
    refine go_s (pc' := 1) rfl rfl rfl rfl ?_
    refine go_s (pc' := 2) rfl rfl rfl rfl ?_
    refine go_sget (pc' := 3) (v := .int (I 15 1)) hS rfl rfl rfl (by decide) rfl rfl ?_
    refine go_s (pc' := 4) (st' := [.int 1, .int (I 15 1), .ref 59]) rfl rfl rfl rfl ?_
    refine go_s (pc' := 5) rfl rfl rfl rfl ?_
    refine go_sput (pc' := 6) hS rfl rfl rfl (by decide) tbc_inj (Nat.le_of_ble_eq_true rfl) rfl (hW _ rfl) rfl (fun h37 hS38 hE39 => ?_)
    have hF40 := fr_trans hF1 (fr_e hE39)
    refine go_newF (pc' := 7) (n := 8) rfl rfl rfl rfl (fun L41 h42 hL43 hc44 hg45 => ?_)
    have ge_L41 : _ ≤ L41 := hL43 ▸ hF40.1
    have nb_L41 := tbc_out L41 (by have := sm_len hS38; omega)
    have hS46 := sm_gq hS38 hg45
    have hF47 := fr_gq hF40 hg45
    refine go_s (pc' := 8) rfl rfl rfl rfl ?_
    refine go_s (pc' := 9) rfl rfl rfl rfl ?_
    refine go_callI (pc' := 10) rfl rfl rfl (Nat.le_of_ble_eq_true rfl) rfl hc44 rfl rfl rfl (ci_msg hc44 (hWn _ (by omega)) (by omega)) (fun r h48 q49 => ?_)
    obtain ⟨rfl, hc50, hp51⟩ := q49
    have hS52 := sm_pq hS46 hp51 nb_L41
    have hF53 := fr_pq hF47 hp51 (by omega)
    refine go_s (pc' := 11) (lo' := [some (.ref 1), some (.ref 59), some (.int kd), some (.ref L41)]) rfl rfl rfl rfl ?_
    refine go_s (pc' := 12) rfl rfl rfl rfl ?_
    refine go_s (pc' := 13) rfl rfl rfl rfl ?_
    refine go_sget (pc' := 14) (v := .int 1) hS52 rfl rfl rfl (by decide) rfl rfl ?_
    refine go_putF (pc' := 15) rfl hc50 rfl (by decide) (Nat.le_of_ble_eq_true rfl) rfl (hWn _ (by omega)) rfl (fun h54 hc55 hp56 => ?_)
    have hS57 := sm_pq hS52 hp56 nb_L41
    have hF58 := fr_pq hF53 hp56 (by omega)
    refine go_s (pc' := 16) rfl rfl rfl rfl ?_
    refine go_s (pc' := 17) rfl rfl rfl rfl ?_
    refine go_sget (pc' := 18) (v := .int ((I 15 1) + 1)) hS57 rfl rfl rfl (by decide) rfl rfl ?_
    refine go_putF (pc' := 19) rfl hc55 rfl (by decide) (Nat.le_of_ble_eq_true rfl) rfl (hWn _ (by omega)) rfl (fun h59 hc60 hp61 => ?_)
    have hS62 := sm_pq hS57 hp61 nb_L41
    have hF63 := fr_pq hF58 hp61 (by omega)
    refine go_s (pc' := 20) rfl rfl rfl rfl ?_
    refine go_s (pc' := 21) rfl rfl rfl rfl ?_
    refine go_callV (pc' := 22) rfl rfl rfl (Nat.le_of_ble_eq_true rfl) rfl (sm_o hS62 rfl) rfl rfl rfl (ct_pack_0 hS62 hc60 (hWn _ (by omega)) nb_L41 rfl rfl hft.1 hft.2 (by omega)) (fun r h64 q65 => ?_)
    obtain ⟨rfl, hx7, hp7⟩ := q65
    have hS66 := sm_pq hS62 hp7 nb_L41
    have hF67 := fr_pq hF63 hp7 (by omega)
    refine go_s (pc' := 23) rfl rfl rfl rfl ?_
    refine go_sget (pc' := 24) (v := .ref 2) hS66 rfl rfl rfl (by decide) rfl rfl ?_
    refine go_s (pc' := 25) rfl rfl rfl rfl ?_
    refine go_sget (pc' := 26) (v := .int 3) hS66 rfl rfl rfl (by decide) (congrArg Value.int e11) rfl ?_
    refine go_s (pc' := 27) rfl rfl rfl rfl ?_
    refine go_callV (pc' := 28) rfl rfl rfl (Nat.le_of_ble_eq_true rfl) rfl (sm_o hS66 rfl) rfl rfl rfl (ct_oh_1 hS66 (by omega)) (fun r h68 q69 => ?_)
    obtain ⟨rfl, rfl⟩ := q69
    have hoh : ohI (uI I 15 1 ((I 15 1) + 1)) 1 = 2 := by simp [ohI, uI, e11]
    rw [hoh]
    refine go_s (pc' := 29) rfl rfl rfl rfl ?_
    have hms : msS 1 kd (I, Q, Z) = msnd 3 2 (mgS kd 1 (I 15 1 + 1) (Z (rwi I 1))) ((uI I 15 1 ((I 15 1) + 1)), Q, Z) := by
      unfold msS
      rw [show pn (I, Q, Z).1 1 = 3 by simp [pn, e11], show ohn (I, Q, Z).1 1 = 2 by simp [ohn, e11]]
    have hD9 : CD w e m0 h68 (uI I 15 1 ((I 15 1) + 1)) Q Z X ow sb := CD_I (CD_fr hD hF67) ⟨rfl, rfl, rfl, rfl, rfl, rfl, rfl, rfl, rfl, rfl, rfl, rfl, rfl, rfl, rfl⟩
    have hox : ow L41 = 0 := (hD.1.2.1 _ (by omega)).2
    have htr9 := (hD9.2.2.2.2.2.1 0 (by decide)).1 hv
    have hB9 : co h68 (uI I 15 1 ((I 15 1) + 1)) ≤ B + 20 := by
      have := co_fr (I := I) (J := (uI I 15 1 ((I 15 1) + 1))) hF67 rfl
      omega
    refine go_callV (pc' := 30) rfl rfl rfl (Nat.le_of_ble_eq_true rfl) rfl (sm_o hS66 rfl) rfl rfl rfl (ct_send hS66 hD9 hB9 (fun l hl => by have := hQ l hl; have := lt_of hx7; omega) (by omega) (f := 3) (t := 2) (by decide) (by decide) (by decide) (m := mgS kd 1 (I 15 1 + 1) (Z (rwi I 1))) hx7 hox (hWn _ (by omega)) nb_L41 (by omega) (MF_S1 (t := 0) hkd (by decide) htr9) (by omega)) (fun r h70 q71 => ?_)
    rw [← hms] at q71
    obtain ⟨rfl, hC9⟩ := q71
    refine go_ret rfl rfl ?_
    exact ⟨rfl, hC9⟩
theorem cm_sS_2 {w : Nat → Bool} {d : Nat} {h : am_Hp} {e : Nat} {m0 : mg} {B : Nat} {I : sm_I} {Q : mQ} {Z : mZ} (hC : CA w e m0 B h (I, Q, Z)) (hB2 : B < 2 ^ 29) (hv : lv I 2 = true) {kd : Int32} (hkd : kd = 3 ∨ kd = 4) (hd : 4 ≤ d) : am_Ev (am_prog w) d 18 [.ref 1, .ref 60, .int kd] h (fun r h' => r = none ∧ CA w e m0 (B + 20) h' (msS 2 kd (I, Q, Z))) := by
  obtain ⟨X, ow, sb, hS, hD, hB, hQ⟩ := hC
  change sm tbc h I X at hS
  change CD w e m0 h I Q Z X ow sb at hD
  change co h I ≤ B at hB
  change ∀ l, l < 16 → (Q l).length ≤ h.length at hQ
  have hW := hD.1.1
  have hWn : ∀ a, List.length h ≤ a → w a = true := fun a ha => (hD.1.2.1 a ha).1
  have hF1 := fr_refl tbc h
  have hln : 62 ≤ List.length h := sm_len hS
  have htr := (hD.2.2.2.2.2.1 1 (by decide)).1 hv
  have hft := TR_fit htr
  obtain ⟨d, rfl⟩ : ∃ e, d = e + 1 := ⟨d - 1, by omega⟩
  refine ev_go rfl (Nat.le_of_ble_eq_true rfl) rfl ?_
  rcases hD.2.2.2.2.2.2 2 (by decide) with e11 | e11 | e11
  · exact absurd hv (by simp [lv, e11])
  · skip
    change I 11 2 = 2 at e11
    refine go_s (pc' := 1) rfl rfl rfl rfl ?_
    refine go_s (pc' := 2) rfl rfl rfl rfl ?_
    refine go_sget (pc' := 3) (v := .int (I 15 2)) hS rfl rfl rfl (by decide) rfl rfl ?_
    refine go_s (pc' := 4) (st' := [.int 1, .int (I 15 2), .ref 60]) rfl rfl rfl rfl ?_
    refine go_s (pc' := 5) rfl rfl rfl rfl ?_
    refine go_sput (pc' := 6) hS rfl rfl rfl (by decide) tbc_inj (Nat.le_of_ble_eq_true rfl) rfl (hW _ rfl) rfl (fun h2 hS3 hE4 => ?_)
    have hF5 := fr_trans hF1 (fr_e hE4)
    refine go_newF (pc' := 7) (n := 8) rfl rfl rfl rfl (fun L6 h7 hL8 hc9 hg10 => ?_)
    have ge_L6 : _ ≤ L6 := hL8 ▸ hF5.1
    have nb_L6 := tbc_out L6 (by have := sm_len hS3; omega)
    have hS11 := sm_gq hS3 hg10
    have hF12 := fr_gq hF5 hg10
    refine go_s (pc' := 8) rfl rfl rfl rfl ?_
    refine go_s (pc' := 9) rfl rfl rfl rfl ?_
    refine go_callI (pc' := 10) rfl rfl rfl (Nat.le_of_ble_eq_true rfl) rfl hc9 rfl rfl rfl (ci_msg hc9 (hWn _ (by omega)) (by omega)) (fun r h13 q14 => ?_)
    obtain ⟨rfl, hc15, hp16⟩ := q14
    have hS17 := sm_pq hS11 hp16 nb_L6
    have hF18 := fr_pq hF12 hp16 (by omega)
    refine go_s (pc' := 11) (lo' := [some (.ref 1), some (.ref 60), some (.int kd), some (.ref L6)]) rfl rfl rfl rfl ?_
    refine go_s (pc' := 12) rfl rfl rfl rfl ?_
    refine go_s (pc' := 13) rfl rfl rfl rfl ?_
    refine go_sget (pc' := 14) (v := .int 2) hS17 rfl rfl rfl (by decide) rfl rfl ?_
    refine go_putF (pc' := 15) rfl hc15 rfl (by decide) (Nat.le_of_ble_eq_true rfl) rfl (hWn _ (by omega)) rfl (fun h19 hc20 hp21 => ?_)
    have hS22 := sm_pq hS17 hp21 nb_L6
    have hF23 := fr_pq hF18 hp21 (by omega)
    refine go_s (pc' := 16) rfl rfl rfl rfl ?_
    refine go_s (pc' := 17) rfl rfl rfl rfl ?_
    refine go_sget (pc' := 18) (v := .int ((I 15 2) + 1)) hS22 rfl rfl rfl (by decide) rfl rfl ?_
    refine go_putF (pc' := 19) rfl hc20 rfl (by decide) (Nat.le_of_ble_eq_true rfl) rfl (hWn _ (by omega)) rfl (fun h24 hc25 hp26 => ?_)
    have hS27 := sm_pq hS22 hp26 nb_L6
    have hF28 := fr_pq hF23 hp26 (by omega)
    refine go_s (pc' := 20) rfl rfl rfl rfl ?_
    refine go_s (pc' := 21) rfl rfl rfl rfl ?_
    refine go_callV (pc' := 22) rfl rfl rfl (Nat.le_of_ble_eq_true rfl) rfl (sm_o hS27 rfl) rfl rfl rfl (ct_pack_1 hS27 hc25 (hWn _ (by omega)) nb_L6 rfl rfl hft.1 hft.2 (by omega)) (fun r h29 q30 => ?_)
    obtain ⟨rfl, hx7, hp7⟩ := q30
    have hS31 := sm_pq hS27 hp7 nb_L6
    have hF32 := fr_pq hF28 hp7 (by omega)
    refine go_s (pc' := 23) rfl rfl rfl rfl ?_
    refine go_sget (pc' := 24) (v := .ref 2) hS31 rfl rfl rfl (by decide) rfl rfl ?_
    refine go_s (pc' := 25) rfl rfl rfl rfl ?_
    refine go_sget (pc' := 26) (v := .int 2) hS31 rfl rfl rfl (by decide) (congrArg Value.int e11) rfl ?_
    refine go_s (pc' := 27) rfl rfl rfl rfl ?_
    refine go_callV (pc' := 28) rfl rfl rfl (Nat.le_of_ble_eq_true rfl) rfl (sm_o hS31 rfl) rfl rfl rfl (ct_oh_2 hS31 (by omega)) (fun r h33 q34 => ?_)
    obtain ⟨rfl, rfl⟩ := q34
    have hoh : ohI (uI I 15 2 ((I 15 2) + 1)) 2 = 3 := by simp [ohI, uI, e11]
    rw [hoh]
    refine go_s (pc' := 29) rfl rfl rfl rfl ?_
    have hms : msS 2 kd (I, Q, Z) = msnd 2 3 (mgS kd 2 (I 15 2 + 1) (Z (rwi I 2))) ((uI I 15 2 ((I 15 2) + 1)), Q, Z) := by
      unfold msS
      rw [show pn (I, Q, Z).1 2 = 2 by simp [pn, e11], show ohn (I, Q, Z).1 2 = 3 by simp [ohn, e11]]
    have hD9 : CD w e m0 h33 (uI I 15 2 ((I 15 2) + 1)) Q Z X ow sb := CD_I (CD_fr hD hF32) ⟨rfl, rfl, rfl, rfl, rfl, rfl, rfl, rfl, rfl, rfl, rfl, rfl, rfl, rfl, rfl⟩
    have hox : ow L6 = 0 := (hD.1.2.1 _ (by omega)).2
    have htr9 := (hD9.2.2.2.2.2.1 1 (by decide)).1 hv
    have hB9 : co h33 (uI I 15 2 ((I 15 2) + 1)) ≤ B + 20 := by
      have := co_fr (I := I) (J := (uI I 15 2 ((I 15 2) + 1))) hF32 rfl
      omega
    refine go_callV (pc' := 30) rfl rfl rfl (Nat.le_of_ble_eq_true rfl) rfl (sm_o hS31 rfl) rfl rfl rfl (ct_send hS31 hD9 hB9 (fun l hl => by have := hQ l hl; have := lt_of hx7; omega) (by omega) (f := 2) (t := 3) (by decide) (by decide) (by decide) (m := mgS kd 2 (I 15 2 + 1) (Z (rwi I 2))) hx7 hox (hWn _ (by omega)) nb_L6 (by omega) (MF_S1 (t := 1) hkd (by decide) htr9) (by omega)) (fun r h35 q36 => ?_)
    rw [← hms] at q36
    obtain ⟨rfl, hC9⟩ := q36
    refine go_ret rfl rfl ?_
    exact ⟨rfl, hC9⟩
  · skip
    change I 11 2 = 3 at e11
    refine go_s (pc' := 1) rfl rfl rfl rfl ?_
    refine go_s (pc' := 2) rfl rfl rfl rfl ?_
    refine go_sget (pc' := 3) (v := .int (I 15 2)) hS rfl rfl rfl (by decide) rfl rfl ?_
    refine go_s (pc' := 4) (st' := [.int 1, .int (I 15 2), .ref 60]) rfl rfl rfl rfl ?_
    refine go_s (pc' := 5) rfl rfl rfl rfl ?_
    refine go_sput (pc' := 6) hS rfl rfl rfl (by decide) tbc_inj (Nat.le_of_ble_eq_true rfl) rfl (hW _ rfl) rfl (fun h37 hS38 hE39 => ?_)
    have hF40 := fr_trans hF1 (fr_e hE39)
    refine go_newF (pc' := 7) (n := 8) rfl rfl rfl rfl (fun L41 h42 hL43 hc44 hg45 => ?_)
    have ge_L41 : _ ≤ L41 := hL43 ▸ hF40.1
    have nb_L41 := tbc_out L41 (by have := sm_len hS38; omega)
    have hS46 := sm_gq hS38 hg45
    have hF47 := fr_gq hF40 hg45
    refine go_s (pc' := 8) rfl rfl rfl rfl ?_
    refine go_s (pc' := 9) rfl rfl rfl rfl ?_
    refine go_callI (pc' := 10) rfl rfl rfl (Nat.le_of_ble_eq_true rfl) rfl hc44 rfl rfl rfl (ci_msg hc44 (hWn _ (by omega)) (by omega)) (fun r h48 q49 => ?_)
    obtain ⟨rfl, hc50, hp51⟩ := q49
    have hS52 := sm_pq hS46 hp51 nb_L41
    have hF53 := fr_pq hF47 hp51 (by omega)
    refine go_s (pc' := 11) (lo' := [some (.ref 1), some (.ref 60), some (.int kd), some (.ref L41)]) rfl rfl rfl rfl ?_
    refine go_s (pc' := 12) rfl rfl rfl rfl ?_
    refine go_s (pc' := 13) rfl rfl rfl rfl ?_
    refine go_sget (pc' := 14) (v := .int 2) hS52 rfl rfl rfl (by decide) rfl rfl ?_
    refine go_putF (pc' := 15) rfl hc50 rfl (by decide) (Nat.le_of_ble_eq_true rfl) rfl (hWn _ (by omega)) rfl (fun h54 hc55 hp56 => ?_)
    have hS57 := sm_pq hS52 hp56 nb_L41
    have hF58 := fr_pq hF53 hp56 (by omega)
    refine go_s (pc' := 16) rfl rfl rfl rfl ?_
    refine go_s (pc' := 17) rfl rfl rfl rfl ?_
    refine go_sget (pc' := 18) (v := .int ((I 15 2) + 1)) hS57 rfl rfl rfl (by decide) rfl rfl ?_
    refine go_putF (pc' := 19) rfl hc55 rfl (by decide) (Nat.le_of_ble_eq_true rfl) rfl (hWn _ (by omega)) rfl (fun h59 hc60 hp61 => ?_)
    have hS62 := sm_pq hS57 hp61 nb_L41
    have hF63 := fr_pq hF58 hp61 (by omega)
    refine go_s (pc' := 20) rfl rfl rfl rfl ?_
    refine go_s (pc' := 21) rfl rfl rfl rfl ?_
    refine go_callV (pc' := 22) rfl rfl rfl (Nat.le_of_ble_eq_true rfl) rfl (sm_o hS62 rfl) rfl rfl rfl (ct_pack_1 hS62 hc60 (hWn _ (by omega)) nb_L41 rfl rfl hft.1 hft.2 (by omega)) (fun r h64 q65 => ?_)
    obtain ⟨rfl, hx7, hp7⟩ := q65
    have hS66 := sm_pq hS62 hp7 nb_L41
    have hF67 := fr_pq hF63 hp7 (by omega)
    refine go_s (pc' := 23) rfl rfl rfl rfl ?_
    refine go_sget (pc' := 24) (v := .ref 2) hS66 rfl rfl rfl (by decide) rfl rfl ?_
    refine go_s (pc' := 25) rfl rfl rfl rfl ?_
    refine go_sget (pc' := 26) (v := .int 3) hS66 rfl rfl rfl (by decide) (congrArg Value.int e11) rfl ?_
    refine go_s (pc' := 27) rfl rfl rfl rfl ?_
    refine go_callV (pc' := 28) rfl rfl rfl (Nat.le_of_ble_eq_true rfl) rfl (sm_o hS66 rfl) rfl rfl rfl (ct_oh_2 hS66 (by omega)) (fun r h68 q69 => ?_)
    obtain ⟨rfl, rfl⟩ := q69
    have hoh : ohI (uI I 15 2 ((I 15 2) + 1)) 2 = 2 := by simp [ohI, uI, e11]
    rw [hoh]
    refine go_s (pc' := 29) rfl rfl rfl rfl ?_
    have hms : msS 2 kd (I, Q, Z) = msnd 3 2 (mgS kd 2 (I 15 2 + 1) (Z (rwi I 2))) ((uI I 15 2 ((I 15 2) + 1)), Q, Z) := by
      unfold msS
      rw [show pn (I, Q, Z).1 2 = 3 by simp [pn, e11], show ohn (I, Q, Z).1 2 = 2 by simp [ohn, e11]]
    have hD9 : CD w e m0 h68 (uI I 15 2 ((I 15 2) + 1)) Q Z X ow sb := CD_I (CD_fr hD hF67) ⟨rfl, rfl, rfl, rfl, rfl, rfl, rfl, rfl, rfl, rfl, rfl, rfl, rfl, rfl, rfl⟩
    have hox : ow L41 = 0 := (hD.1.2.1 _ (by omega)).2
    have htr9 := (hD9.2.2.2.2.2.1 1 (by decide)).1 hv
    have hB9 : co h68 (uI I 15 2 ((I 15 2) + 1)) ≤ B + 20 := by
      have := co_fr (I := I) (J := (uI I 15 2 ((I 15 2) + 1))) hF67 rfl
      omega
    refine go_callV (pc' := 30) rfl rfl rfl (Nat.le_of_ble_eq_true rfl) rfl (sm_o hS66 rfl) rfl rfl rfl (ct_send hS66 hD9 hB9 (fun l hl => by have := hQ l hl; have := lt_of hx7; omega) (by omega) (f := 3) (t := 2) (by decide) (by decide) (by decide) (m := mgS kd 2 (I 15 2 + 1) (Z (rwi I 2))) hx7 hox (hWn _ (by omega)) nb_L41 (by omega) (MF_S1 (t := 1) hkd (by decide) htr9) (by omega)) (fun r h70 q71 => ?_)
    rw [← hms] at q71
    obtain ⟨rfl, hC9⟩ := q71
    refine go_ret rfl rfl ?_
    exact ⟨rfl, hC9⟩
