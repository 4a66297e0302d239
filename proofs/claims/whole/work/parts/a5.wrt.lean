theorem ca_wr_0 {w : Nat → Bool} {d : Nat} {h : am_Hp} {m0 : mg} {B : Nat} {I : sm_I} {Q : mQ} {Z : mZ} (hC : CA w 32 m0 B h (I, Q, Z)) (hB2 : B < 2 ^ 26) (hdo : I 16 0 = 2 → ¬ (Z (rwi I 0)).1 3 = 0) (hwb : WB (Z (rwi I 0))) (hn35 : (Z (rwi I 0)).2.2.length ≤ 35) {g : Nat} (hg30 : g < 2 ^ 30) (eg : I 22 0 = nI g) (hsi : lv I 0 = true → I 16 0 = 2 → SI (mwrt 0 (I, Q, Z)).2) (hd : 8 ≤ d) : am_Ev (am_prog w) d 90 [.ref 1, .int 0] h (fun r h' => r = some (.int (mwr 0 (I, Q, Z)).1) ∧ CA w 32 m0 (B + 400) h' (mwr 0 (I, Q, Z)).2) := by
  obtain ⟨X, ow, sb, hS, hD, hB, hQ⟩ := hC
  change sm tbc h I X at hS
  change CD w 32 m0 h I Q Z X ow sb at hD
  change co h I ≤ B at hB
  change ∀ l, l < 16 → (Q l).length ≤ h.length at hQ
  have hW := hD.1.1
  have hWn : ∀ a, List.length h ≤ a → w a = true := fun a ha => (hD.1.2.1 a ha).1
  have hF1 := fr_refl tbc h
  have hln : 62 ≤ List.length h := sm_len hS
  obtain ⟨d, rfl⟩ : ∃ e, d = e + 1 := ⟨d - 1, by omega⟩
  refine ev_go rfl (Nat.le_of_ble_eq_true rfl) rfl ?_
  refine go_s (pc' := 1) rfl rfl rfl rfl ?_
  refine go_s (pc' := 2) (st' := [.int 2, .int 0]) rfl rfl rfl rfl ?_
  refine go_callS (pc' := 3) rfl rfl rfl (Nat.le_of_ble_eq_true rfl) rfl rfl rfl (ct_within_t (q := 0) (n := 2) (by decide) (by decide) (by omega)) (fun r h2 q3 => ?_)
  obtain ⟨rfl, rfl⟩ := q3
  refine go_ifP (t' := 14) (pc' := 4) rfl rfl rfl (fun (c : (1 : Int32) = 0) => absurd c (by decide)) (fun _ => ?_)
  refine go_s (pc' := 5) rfl rfl rfl rfl ?_
  refine go_s (pc' := 6) rfl rfl rfl rfl ?_
  refine go_sget (pc' := 7) (v := .ref 32) hS rfl rfl rfl (by decide) rfl rfl ?_
  refine go_callV (pc' := 8) rfl rfl rfl (Nat.le_of_ble_eq_true rfl) rfl (sm_o hS rfl) rfl rfl rfl (ct_works_0 hS (hD.2.2.2.2.2.2 0 (by decide)) (by omega)) (fun r h4 q5 => ?_)
  obtain ⟨rfl, rfl⟩ := q5
  cases u6 : lv I 0
  · skip
    show am_Go _ _ _ _ 8 _ [.int 0] _ _
    refine go_ifP (t' := 14) (pc' := 9) rfl rfl rfl (fun _ => ?_) (fun (c : ¬ ((0 : Int32) = 0)) => absurd (by decide) c)
    refine go_s (pc' := 15) (st' := [.int (-1)]) rfl rfl rfl rfl ?_
    refine go_ret rfl rfl ?_
    have hms : mwr 0 (I, Q, Z) = (-1, (I, Q, Z)) := if_neg (fun z => absurd (z.1.symm.trans (show lv (I, Q, Z).1 0 = false from u6)) (by decide))
    rw [hms]
    exact ⟨rfl, X, ow, sb, hS, hD, Nat.le_trans hB (by omega), hQ⟩
  · skip
    show am_Go _ _ _ _ 8 _ [.int 1] _ _
    refine go_ifP (t' := 14) (pc' := 9) rfl rfl rfl (fun (c : (1 : Int32) = 0) => absurd c (by decide)) (fun _ => ?_)
    refine go_s (pc' := 10) rfl rfl rfl rfl ?_
    refine go_sget (pc' := 11) (v := .ref 32) hS rfl rfl rfl (by decide) rfl rfl ?_
    refine go_sget (pc' := 12) (v := .int (I 16 0)) hS rfl rfl rfl (by decide) rfl rfl ?_
    refine go_s (pc' := 13) (st' := [.int 2, .int (I 16 0)]) rfl rfl rfl rfl ?_
    refine go_icmpP (t' := 16) (pc' := 14) rfl rfl rfl (fun (c7 : (I 16 0) = 2) => ?_) (fun (c7 : ¬ (I 16 0) = 2) => ?_)
    · skip
      have hv := u6
      have t2 : I 16 0 = 2 := c7
      obtain ⟨k208, kst, -⟩ := hD.2.2.2.2.1
      obtain ⟨ad, S, Y, k0, hA, k2, k3, k4, k5, hoa, hZ0, hWa, htc⟩ := St_open hD.1 (kst hv)
      rw [← k0] at k208
      obtain ⟨⟨Wl, w1, w2⟩, -⟩ := id k5
      obtain rfl := w2 (hdo t2)
      have hsd := k4 (ad 0) _ _ (tbs_at hA (i := 0) (by decide))
      refine go_s (pc' := 17) rfl rfl rfl rfl ?_
      refine go_sget (pc' := 18) (v := .ref 24) hS rfl rfl rfl (by decide) rfl rfl ?_
      refine go_s (pc' := 19) rfl rfl rfl rfl ?_
      refine go_s (pc' := 20) rfl rfl rfl rfl ?_
      refine go_sget (pc' := 21) (v := .ref 32) hS rfl rfl rfl (by decide) rfl rfl ?_
      refine go_sget (pc' := 22) (v := .ref (ad 0)) hS rfl rfl rfl (by decide) k208 rfl ?_
      refine go_get (pc' := 23) rfl hsd rfl (by decide) rfl rfl ?_
      have hsw : h4[ad 9]? = some (.inl (6, [.ref (ad 10), .ref (ad 11), .int (nI (Z (rwi I 0)).2.2.length)])) := by
        rw [k4 (ad 9) _ _ (tbs_at hA (i := 9) (by decide))]
        have z := w1.2.2.2.1
        simp only [sm_c, sm_v, List.map]
        simp [z]
      obtain ⟨n5, h205, h56⟩ := hD.2.2.2.1.1 1 (by decide)
      obtain ⟨n6, h206, h66⟩ := hD.2.2.2.1.2.1 0 (by decide)
      refine go_callV (pc' := 24) rfl rfl rfl (Nat.le_of_ble_eq_true rfl) rfl (sm_o hS rfl) rfl rfl rfl (cx_wn_0 hS hD hB hQ (by omega) htc hZ0 hsw (k4 (ad 10) _ _ (tbs_at hA (i := 10) (by decide))) (k4 (ad 11) _ _ (tbs_at hA (i := 11) (by decide))) rfl w1.2.2.2.2.2.2.2.1 rfl hn35 hg30 hwb (by rw [h206, h66 t2, eg]) eg h205 h56 (by omega)) (fun r h8 q9 => ?_)
      obtain ⟨rfl, hC10⟩ := q9
      obtain ⟨M5, eM5⟩ : ∃ y, y = (mwrt 0 (I, Q, Z)).2 := ⟨_, rfl⟩
      have hI9 := hsi hv t2
      rw [← eM5] at hC10 hI9
      obtain ⟨I5, Q5, Z5⟩ := M5
      obtain ⟨X5, ow5, sb5, hS5, hD5, hB5, hQ5⟩ := id hC10
      refine go_s (pc' := 25) (lo' := [some (.ref 1), some (.int 0), some (.int ((mwrt 0 (I, Q, Z)).1))]) rfl rfl rfl rfl ?_
      refine go_s (pc' := 26) rfl rfl rfl rfl ?_
      refine go_callV (pc' := 27) rfl rfl rfl (Nat.le_of_ble_eq_true rfl) rfl (sm_o hS5 rfl) rfl rfl rfl (cm_run hC10 (by omega) hI9 (by omega)) (fun r h11 q12 => ?_)
      obtain ⟨rfl, hC7⟩ := q12
      refine go_s (pc' := 28) rfl rfl rfl rfl ?_
      refine go_ret rfl rfl ?_
      have hms : mwr 0 (I, Q, Z) = ((mwrt 0 (I, Q, Z)).1, mset 10 (mwrt 0 (I, Q, Z)).2) := if_pos ⟨hv, t2⟩
      rw [hms]
      refine ⟨rfl, ?_⟩
      show CA w 32 m0 _ _ (mset 10 (mwrt 0 (I, Q, Z)).2)
      rw [← eM5]
      exact hC7
    · skip
      refine go_s (pc' := 15) (st' := [.int (-1)]) rfl rfl rfl rfl ?_
      refine go_ret rfl rfl ?_
      have hms : mwr 0 (I, Q, Z) = (-1, (I, Q, Z)) := if_neg (fun z => c7 z.2)
      rw [hms]
      exact ⟨rfl, X, ow, sb, hS, hD, Nat.le_trans hB (by omega), hQ⟩
theorem ca_wr_1 {w : Nat → Bool} {d : Nat} {h : am_Hp} {m0 : mg} {B : Nat} {I : sm_I} {Q : mQ} {Z : mZ} (hC : CA w 32 m0 B h (I, Q, Z)) (hB2 : B < 2 ^ 26) (hdo : I 16 0 = 2 → ¬ (Z (rwi I 0)).1 3 = 0) (hwb : WB (Z (rwi I 0))) (hn35 : (Z (rwi I 0)).2.2.length ≤ 35) {g : Nat} (hg30 : g < 2 ^ 30) (eg : I 22 1 = nI g) (hsi : lv I 0 = true → I 16 0 = 2 → SI (mwrt 1 (I, Q, Z)).2) (hd : 8 ≤ d) : am_Ev (am_prog w) d 90 [.ref 1, .int 1] h (fun r h' => r = some (.int (mwr 1 (I, Q, Z)).1) ∧ CA w 32 m0 (B + 400) h' (mwr 1 (I, Q, Z)).2) := by
  obtain ⟨X, ow, sb, hS, hD, hB, hQ⟩ := hC
  change sm tbc h I X at hS
  change CD w 32 m0 h I Q Z X ow sb at hD
  change co h I ≤ B at hB
  change ∀ l, l < 16 → (Q l).length ≤ h.length at hQ
  have hW := hD.1.1
  have hWn : ∀ a, List.length h ≤ a → w a = true := fun a ha => (hD.1.2.1 a ha).1
  have hF1 := fr_refl tbc h
  have hln : 62 ≤ List.length h := sm_len hS
  obtain ⟨d, rfl⟩ : ∃ e, d = e + 1 := ⟨d - 1, by omega⟩
  refine ev_go rfl (Nat.le_of_ble_eq_true rfl) rfl ?_
  refine go_s (pc' := 1) rfl rfl rfl rfl ?_
  refine go_s (pc' := 2) (st' := [.int 2, .int 1]) rfl rfl rfl rfl ?_
  refine go_callS (pc' := 3) rfl rfl rfl (Nat.le_of_ble_eq_true rfl) rfl rfl rfl (ct_within_t (q := 1) (n := 2) (by decide) (by decide) (by omega)) (fun r h2 q3 => ?_)
  obtain ⟨rfl, rfl⟩ := q3
  refine go_ifP (t' := 14) (pc' := 4) rfl rfl rfl (fun (c : (1 : Int32) = 0) => absurd c (by decide)) (fun _ => ?_)
  refine go_s (pc' := 5) rfl rfl rfl rfl ?_
  refine go_s (pc' := 6) rfl rfl rfl rfl ?_
  refine go_sget (pc' := 7) (v := .ref 32) hS rfl rfl rfl (by decide) rfl rfl ?_
  refine go_callV (pc' := 8) rfl rfl rfl (Nat.le_of_ble_eq_true rfl) rfl (sm_o hS rfl) rfl rfl rfl (ct_works_0 hS (hD.2.2.2.2.2.2 0 (by decide)) (by omega)) (fun r h4 q5 => ?_)
  obtain ⟨rfl, rfl⟩ := q5
  cases u6 : lv I 0
  · skip
    show am_Go _ _ _ _ 8 _ [.int 0] _ _
    refine go_ifP (t' := 14) (pc' := 9) rfl rfl rfl (fun _ => ?_) (fun (c : ¬ ((0 : Int32) = 0)) => absurd (by decide) c)
    refine go_s (pc' := 15) (st' := [.int (-1)]) rfl rfl rfl rfl ?_
    refine go_ret rfl rfl ?_
    have hms : mwr 1 (I, Q, Z) = (-1, (I, Q, Z)) := if_neg (fun z => absurd (z.1.symm.trans (show lv (I, Q, Z).1 0 = false from u6)) (by decide))
    rw [hms]
    exact ⟨rfl, X, ow, sb, hS, hD, Nat.le_trans hB (by omega), hQ⟩
  · skip
    show am_Go _ _ _ _ 8 _ [.int 1] _ _
    refine go_ifP (t' := 14) (pc' := 9) rfl rfl rfl (fun (c : (1 : Int32) = 0) => absurd c (by decide)) (fun _ => ?_)
    refine go_s (pc' := 10) rfl rfl rfl rfl ?_
    refine go_sget (pc' := 11) (v := .ref 32) hS rfl rfl rfl (by decide) rfl rfl ?_
    refine go_sget (pc' := 12) (v := .int (I 16 0)) hS rfl rfl rfl (by decide) rfl rfl ?_
    refine go_s (pc' := 13) (st' := [.int 2, .int (I 16 0)]) rfl rfl rfl rfl ?_
    refine go_icmpP (t' := 16) (pc' := 14) rfl rfl rfl (fun (c7 : (I 16 0) = 2) => ?_) (fun (c7 : ¬ (I 16 0) = 2) => ?_)
    · skip
      have hv := u6
      have t2 : I 16 0 = 2 := c7
      obtain ⟨k208, kst, -⟩ := hD.2.2.2.2.1
      obtain ⟨ad, S, Y, k0, hA, k2, k3, k4, k5, hoa, hZ0, hWa, htc⟩ := St_open hD.1 (kst hv)
      rw [← k0] at k208
      obtain ⟨⟨Wl, w1, w2⟩, -⟩ := id k5
      obtain rfl := w2 (hdo t2)
      have hsd := k4 (ad 0) _ _ (tbs_at hA (i := 0) (by decide))
      refine go_s (pc' := 17) rfl rfl rfl rfl ?_
      refine go_sget (pc' := 18) (v := .ref 24) hS rfl rfl rfl (by decide) rfl rfl ?_
      refine go_s (pc' := 19) rfl rfl rfl rfl ?_
      refine go_s (pc' := 20) rfl rfl rfl rfl ?_
      refine go_sget (pc' := 21) (v := .ref 32) hS rfl rfl rfl (by decide) rfl rfl ?_
      refine go_sget (pc' := 22) (v := .ref (ad 0)) hS rfl rfl rfl (by decide) k208 rfl ?_
      refine go_get (pc' := 23) rfl hsd rfl (by decide) rfl rfl ?_
      have hsw : h4[ad 9]? = some (.inl (6, [.ref (ad 10), .ref (ad 11), .int (nI (Z (rwi I 0)).2.2.length)])) := by
        rw [k4 (ad 9) _ _ (tbs_at hA (i := 9) (by decide))]
        have z := w1.2.2.2.1
        simp only [sm_c, sm_v, List.map]
        simp [z]
      obtain ⟨n5, h205, h56⟩ := hD.2.2.2.1.1 0 (by decide)
      obtain ⟨n6, h206, h66⟩ := hD.2.2.2.1.2.1 1 (by decide)
      refine go_callV (pc' := 24) rfl rfl rfl (Nat.le_of_ble_eq_true rfl) rfl (sm_o hS rfl) rfl rfl rfl (cx_wn_1 hS hD hB hQ (by omega) htc hZ0 hsw (k4 (ad 10) _ _ (tbs_at hA (i := 10) (by decide))) (k4 (ad 11) _ _ (tbs_at hA (i := 11) (by decide))) rfl w1.2.2.2.2.2.2.2.1 rfl hn35 hg30 hwb (by rw [h206, h66 t2, eg]) eg h205 h56 (by omega)) (fun r h8 q9 => ?_)
      obtain ⟨rfl, hC10⟩ := q9
      obtain ⟨M5, eM5⟩ : ∃ y, y = (mwrt 1 (I, Q, Z)).2 := ⟨_, rfl⟩
      have hI9 := hsi hv t2
      rw [← eM5] at hC10 hI9
      obtain ⟨I5, Q5, Z5⟩ := M5
      obtain ⟨X5, ow5, sb5, hS5, hD5, hB5, hQ5⟩ := id hC10
      refine go_s (pc' := 25) (lo' := [some (.ref 1), some (.int 1), some (.int ((mwrt 1 (I, Q, Z)).1))]) rfl rfl rfl rfl ?_
      refine go_s (pc' := 26) rfl rfl rfl rfl ?_
      refine go_callV (pc' := 27) rfl rfl rfl (Nat.le_of_ble_eq_true rfl) rfl (sm_o hS5 rfl) rfl rfl rfl (cm_run hC10 (by omega) hI9 (by omega)) (fun r h11 q12 => ?_)
      obtain ⟨rfl, hC7⟩ := q12
      refine go_s (pc' := 28) rfl rfl rfl rfl ?_
      refine go_ret rfl rfl ?_
      have hms : mwr 1 (I, Q, Z) = ((mwrt 1 (I, Q, Z)).1, mset 10 (mwrt 1 (I, Q, Z)).2) := if_pos ⟨hv, t2⟩
      rw [hms]
      refine ⟨rfl, ?_⟩
      show CA w 32 m0 _ _ (mset 10 (mwrt 1 (I, Q, Z)).2)
      rw [← eM5]
      exact hC7
    · skip
      refine go_s (pc' := 15) (st' := [.int (-1)]) rfl rfl rfl rfl ?_
      refine go_ret rfl rfl ?_
      have hms : mwr 1 (I, Q, Z) = (-1, (I, Q, Z)) := if_neg (fun z => c7 z.2)
      rw [hms]
      exact ⟨rfl, X, ow, sb, hS, hD, Nat.le_trans hB (by omega), hQ⟩
theorem ca_wr_f {w : Nat → Bool} {d : Nat} {h : am_Hp} {m0 : mg} {B : Nat} {I : sm_I} {Q : mQ} {Z : mZ} (hC : CA w 32 m0 B h (I, Q, Z)) (hB2 : B < 2 ^ 26) {a : Int32} (hn : a < 0 ∨ nI 2 ≤ a) (hd : 3 ≤ d) : am_Ev (am_prog w) d 90 [.ref 1, .int a] h (fun r h' => r = some (.int (-1)) ∧ h' = h) := by
  obtain ⟨X, ow, sb, hS, hD, hB, hQ⟩ := hC
  change sm tbc h I X at hS
  change CD w 32 m0 h I Q Z X ow sb at hD
  change co h I ≤ B at hB
  change ∀ l, l < 16 → (Q l).length ≤ h.length at hQ
  have hW := hD.1.1
  have hWn : ∀ a, List.length h ≤ a → w a = true := fun a ha => (hD.1.2.1 a ha).1
  have hF1 := fr_refl tbc h
  have hln : 62 ≤ List.length h := sm_len hS
  obtain ⟨d, rfl⟩ : ∃ e, d = e + 1 := ⟨d - 1, by omega⟩
  refine ev_go rfl (Nat.le_of_ble_eq_true rfl) rfl ?_
  refine go_s (pc' := 1) rfl rfl rfl rfl ?_
  refine go_s (pc' := 2) (st' := [.int 2, .int a]) rfl rfl rfl rfl ?_
  refine go_callS (pc' := 3) rfl rfl rfl (Nat.le_of_ble_eq_true rfl) rfl rfl rfl (ct_within_f (a := a) (n := 2) hn (by omega)) (fun r h2 q3 => ?_)
  obtain ⟨rfl, rfl⟩ := q3
  refine go_ifP (t' := 14) (pc' := 4) rfl rfl rfl (fun _ => ?_) (fun (c : ¬ ((0 : Int32) = 0)) => absurd (by decide) c)
  refine go_s (pc' := 15) (st' := [.int (-1)]) rfl rfl rfl rfl ?_
  refine go_ret rfl rfl ?_
  exact ⟨rfl, rfl⟩
def mcp0 (I : sm_I) (d q : Nat) : sm_I := uI (uC I 7 (245 * d + q * 5) 5 (fun j => I 7 (245 * (1 - d) + (q * 5 + j)))) 6 d (nI (q + 1))
def mcpI (I : sm_I) (d q : Nat) : sm_I := if 49 ≤ q + 1 then uI (uI (mcp0 I d q) 5 d 1) 22 d (I 22 (1 - d)) else mcp0 I d q
def mcpy (M : mM) : Int32 × mM := if rv M.1 0 = true then (M.1 6 0, (mcpI M.1 0 (M.1 6 0).toNatClampNeg, M.2)) else if rv M.1 1 = true then (M.1 6 1, (mcpI M.1 1 (M.1 6 1).toNatClampNeg, M.2)) else (-1, M)
theorem cm_rvn {w : Nat → Bool} {d : Nat} {h : am_Hp} {m0 : mg} {B : Nat} {I : sm_I} {Q : mQ} {Z : mZ} (hC : CA w 32 m0 B h (I, Q, Z)) (hB2 : B < 2 ^ 26) (hnx : ∀ d, d < 2 → rv I d = true → ∃ q, q < 49 ∧ I 6 d = nI q) (hd : 3 ≤ d) : am_Ev (am_prog w) d 95 [.ref 24] h (fun r h' => r = some (.int (mcpy (I, Q, Z)).1) ∧ CA w 32 m0 B h' (mcpy (I, Q, Z)).2) := by
  obtain ⟨X, ow, sb, hS, hD, hB, hQ⟩ := hC
  change sm tbc h I X at hS
  change CD w 32 m0 h I Q Z X ow sb at hD
  change co h I ≤ B at hB
  change ∀ l, l < 16 → (Q l).length ≤ h.length at hQ
  have hW := hD.1.1
  have hWn : ∀ a, List.length h ≤ a → w a = true := fun a ha => (hD.1.2.1 a ha).1
  have hF1 := fr_refl tbc h
  have hln : 62 ≤ List.length h := sm_len hS
  obtain ⟨d, rfl⟩ : ∃ e, d = e + 1 := ⟨d - 1, by omega⟩
  refine ev_go rfl (Nat.le_of_ble_eq_true rfl) rfl ?_
  obtain ⟨n50, h50, h50b⟩ := hD.2.2.2.1.1 0 (by decide)
  obtain ⟨n51, h51, h51b⟩ := hD.2.2.2.1.1 1 (by decide)
  obtain ⟨n60, h60, h60b⟩ := hD.2.2.2.1.2.1 0 (by decide)
  obtain ⟨n61, h61, h61b⟩ := hD.2.2.2.1.2.1 1 (by decide)
  refine go_s (pc' := 1) (st' := [.int 0]) rfl rfl rfl rfl ?_
  refine go_s (pc' := 2) (lo' := [some (.ref 24), some (.int 0), none]) rfl rfl rfl rfl ?_
  refine go_s (pc' := 3) rfl rfl rfl rfl ?_
  refine go_s (pc' := 4) (st' := [.int 2, .int 0]) rfl rfl rfl rfl ?_
  refine go_icmpP (t' := 60) (pc' := 5) rfl rfl rfl (fun (c : 2 ≤ (0 : Int32)) => absurd c (by decide)) (fun _ => ?_)
  refine go_s (pc' := 6) rfl rfl rfl rfl ?_
  refine go_s (pc' := 7) rfl rfl rfl rfl ?_
  refine go_callV (pc' := 8) rfl rfl rfl (Nat.le_of_ble_eq_true rfl) rfl (sm_o hS rfl) rfl rfl rfl (ct_rv_0 hS (by omega)) (fun r h2 q3 => ?_)
  obtain ⟨rfl, rfl⟩ := q3
  cases u4 : rv I 0
  · skip
    show am_Go _ _ _ _ 8 _ [.int 0] _ _
    refine go_ifP (t' := 58) (pc' := 9) rfl rfl rfl (fun _ => ?_) (fun (c : ¬ ((0 : Int32) = 0)) => absurd (by decide) c)
    refine go_s (pc' := 59) (lo' := [some (.ref 24), some (.int 1), none]) rfl rfl rfl rfl ?_
    refine go_s (pc' := 2) rfl rfl rfl rfl ?_
    refine go_s (pc' := 3) rfl rfl rfl rfl ?_
    refine go_s (pc' := 4) (st' := [.int 2, .int 1]) rfl rfl rfl rfl ?_
    refine go_icmpP (t' := 60) (pc' := 5) rfl rfl rfl (fun (c : 2 ≤ (1 : Int32)) => absurd c (by decide)) (fun _ => ?_)
    refine go_s (pc' := 6) rfl rfl rfl rfl ?_
    refine go_s (pc' := 7) rfl rfl rfl rfl ?_
    refine go_callV (pc' := 8) rfl rfl rfl (Nat.le_of_ble_eq_true rfl) rfl (sm_o hS rfl) rfl rfl rfl (ct_rv_1 hS (by omega)) (fun r h5 q6 => ?_)
    obtain ⟨rfl, rfl⟩ := q6
    cases u7 : rv I 1
    · skip
      show am_Go _ _ _ _ 8 _ [.int 0] _ _
      refine go_ifP (t' := 58) (pc' := 9) rfl rfl rfl (fun _ => ?_) (fun (c : ¬ ((0 : Int32) = 0)) => absurd (by decide) c)
      refine go_s (pc' := 59) (lo' := [some (.ref 24), some (.int 2), none]) rfl rfl rfl rfl ?_
      refine go_s (pc' := 2) rfl rfl rfl rfl ?_
      refine go_s (pc' := 3) rfl rfl rfl rfl ?_
      refine go_s (pc' := 4) (st' := [.int 2, .int 2]) rfl rfl rfl rfl ?_
      refine go_icmpP (t' := 60) (pc' := 5) rfl rfl rfl (fun _ => ?_) (fun (c : ¬ (2 ≤ (2 : Int32))) => absurd (by decide) c)
      refine go_s (pc' := 61) (st' := [.int (-1)]) rfl rfl rfl rfl ?_
      refine go_ret rfl rfl ?_
      have hms : mcpy (I, Q, Z) = (-1, (I, Q, Z)) := by
        unfold mcpy
        rw [if_neg (by rw [show rv (I, Q, Z).1 0 = false from u4]; decide), if_neg (by rw [show rv (I, Q, Z).1 1 = false from u7]; decide)]
      rw [hms]
      exact ⟨rfl, X, ow, sb, hS, hD, hB, hQ⟩
    · skip
      show am_Go _ _ _ _ 8 _ [.int 1] _ _
      refine go_ifP (t' := 58) (pc' := 9) rfl rfl rfl (fun (c : (1 : Int32) = 0) => absurd c (by decide)) (fun _ => ?_)
      obtain ⟨q, hq, eq⟩ := hnx 1 (by decide) u7
      have h5q : X 205 1 = .int (nI q) := by rw [h51, h51b (by have z := u7; unfold rv at z; simp at z; exact z.1.1), eq]
      refine go_s (pc' := 10) rfl rfl rfl rfl ?_
      refine go_sget (pc' := 11) (v := .ref 27) hS rfl rfl rfl (by decide) rfl rfl ?_
      refine go_s (pc' := 12) rfl rfl rfl rfl ?_
      refine go_sald (pc' := 13) (q := 1) (v := .int (nI q)) hS rfl rfl rfl rfl (by decide) h5q rfl ?_
      refine go_s (pc' := 14) (lo' := [some (.ref 24), some (.int 1), some (.int (nI q))]) rfl rfl rfl rfl ?_
      refine go_s (pc' := 15) rfl rfl rfl rfl ?_
      refine go_s (pc' := 16) rfl rfl rfl rfl ?_
      refine go_s (pc' := 17) rfl rfl rfl rfl ?_
      refine go_s (pc' := 18) rfl rfl rfl rfl ?_
      refine go_sget (pc' := 19) (v := .ref 29) hS rfl rfl rfl (by decide) rfl rfl ?_
      refine go_s (pc' := 20) (st' := [.int 1, .ref 29, .int (nI q), .int 1, .ref 24]) rfl rfl rfl rfl ?_
      refine go_s (pc' := 21) rfl rfl rfl rfl ?_
      refine go_s (pc' := 22) (st' := [.int 0, .ref 29, .int (nI q), .int 1, .ref 24]) rfl rfl rfl rfl ?_
      refine go_sald (pc' := 23) (q := 0) (v := .ref 30) hS rfl rfl rfl rfl (by decide) rfl rfl ?_
      refine go_s (pc' := 24) rfl rfl rfl rfl ?_
      refine go_s (pc' := 25) (st' := [.int 5, .int (nI q), .ref 30, .int (nI q), .int 1, .ref 24]) rfl rfl rfl rfl ?_
      refine go_nmul (pc' := 26) (a := q) (b := 5) rfl rfl rfl rfl rfl ?_
      refine go_callV (pc' := 27) rfl rfl rfl (Nat.le_of_ble_eq_true rfl) rfl (sm_o hS rfl) rfl rfl rfl (ct_put_1 hS hW (q := q) (sp := (q * 5)) (g := (fun j => I 7 (245 * 0 + (q * 5 + j)))) hq (hS 30 _ _ (tb_ds (d := 0) (by decide))) (by simp; omega) (by simp) (fun j hj => by rw [List.getElem?_map, List.getElem?_map, List.getElem?_range (by omega)]; rfl) (by decide) (by omega)) (fun r h8 q9 => ?_)
      obtain ⟨rfl, hS10, hE11⟩ := q9
      have hF12 := fr_trans hF1 (fr_e hE11)
      refine go_s (pc' := 28) rfl rfl rfl rfl ?_
      refine go_sget (pc' := 29) (v := .ref 27) hS10 rfl rfl rfl (by decide) rfl rfl ?_
      refine go_s (pc' := 30) rfl rfl rfl rfl ?_
      refine go_s (pc' := 31) rfl rfl rfl rfl ?_
      refine go_sald (pc' := 32) (q := 1) (v := .int (nI q)) hS10 rfl rfl rfl rfl (by decide) h5q rfl ?_
      refine go_s (pc' := 33) (st' := [.int 1, .int (nI q), .int 1, .ref 27]) rfl rfl rfl rfl ?_
      refine go_nadd (pc' := 34) (a := q) (b := 1) rfl rfl rfl rfl rfl ?_
      refine go_siastX (pc' := 35) (q := 1) hS10 rfl rfl tbc_inj (Nat.le_of_ble_eq_true rfl) (Nat.le_of_ble_eq_true rfl) rfl (by decide) (by decide) (hW _ rfl) rfl (fun h13 hS14 hE15 => ?_)
      have hF16 := fr_trans hF12 (fr_e hE15)
      refine go_s (pc' := 36) rfl rfl rfl rfl ?_
      refine go_sget (pc' := 37) (v := .ref 27) hS14 rfl rfl rfl (by decide) rfl rfl ?_
      refine go_s (pc' := 38) rfl rfl rfl rfl ?_
      refine go_sald (pc' := 39) (q := 1) (v := .int (nI (q + 1))) hS14 rfl rfl rfl rfl (by decide) rfl rfl ?_
      refine go_s (pc' := 40) (st' := [.int 49, .int (nI (q + 1))]) rfl rfl rfl rfl ?_
      by_cases h49 : q + 1 < 49
      · skip
        refine go_icmpP (t' := 56) (pc' := 41) rfl rfl rfl (fun _ => ?_) (fun (c : ¬ ((nI (q + 1)) < 49)) => absurd (Int32.not_le.mp (nI_ge (b := 49) h49 (by decide))) c)
        refine go_s (pc' := 57) rfl rfl rfl rfl ?_
        refine go_ret rfl rfl ?_
        have hms : mcpy (I, Q, Z) = (nI q, (mcpI I 1 q, Q, Z)) := by
          unfold mcpy
          rw [if_neg (by rw [show rv (I, Q, Z).1 0 = false from u4]; decide), if_pos (show rv (I, Q, Z).1 1 = true from u7), show (I, Q, Z).1 6 1 = nI q from eq, nI_clamp (by omega)]
        have hD8 := CD_205 (d := 1) (v := nI (q + 1)) (CD_I (J := uC I 7 (245 * 1 + q * 5) 5 (fun j => I 7 (245 * 0 + (q * 5 + j)))) (CD_fr hD hF16) ⟨rfl, rfl, rfl, rfl, rfl, rfl, rfl, rfl, rfl, rfl, rfl, rfl, rfl, rfl, rfl⟩)
        have hS8 := sm_12 (c := 6) (k := 1) (v := nI (q + 1)) hS14 rfl
        have hmI : mcpI I 1 q = mcp0 I 1 q := if_neg (by omega)
        rw [hms, hmI]
        refine ⟨rfl, (uX X 205 1 (.int (nI (q + 1)))), ow, sb, hS8, hD8, ?_, fun l hl => Nat.le_trans (hQ l hl) hF16.1⟩
        have := co_fr (I := I) (J := mcp0 I 1 q) hF16 rfl
        show co _ (mcp0 I 1 q) ≤ B
        omega
      · skip
        refine go_icmpP (t' := 56) (pc' := 41) rfl rfl rfl (fun (c : (nI (q + 1)) < 49) => absurd c (Int32.not_lt.mpr (nI_le (a := 49) (by omega) (by omega)))) (fun _ => ?_)
        refine go_s (pc' := 42) rfl rfl rfl rfl ?_
        refine go_sget (pc' := 43) (v := .ref 26) hS14 rfl rfl rfl (by decide) rfl rfl ?_
        refine go_s (pc' := 44) rfl rfl rfl rfl ?_
        refine go_s (pc' := 45) (st' := [.int 1, .int 1, .ref 26]) rfl rfl rfl rfl ?_
        refine go_szast (pc' := 46) (q := 1) hS14 rfl rfl tbc_inj (Nat.le_of_ble_eq_true rfl) rfl (by decide) (by decide) rfl (hW _ rfl) rfl (fun h17 hS18 hE19 => ?_)
        have hF20 := fr_trans hF16 (fr_e hE19)
        refine go_s (pc' := 47) rfl rfl rfl rfl ?_
        refine go_sget (pc' := 48) (v := .ref 28) hS18 rfl rfl rfl (by decide) rfl rfl ?_
        refine go_s (pc' := 49) rfl rfl rfl rfl ?_
        refine go_s (pc' := 50) rfl rfl rfl rfl ?_
        refine go_sget (pc' := 51) (v := .ref 28) hS18 rfl rfl rfl (by decide) rfl rfl ?_
        refine go_s (pc' := 52) (st' := [.int 1, .ref 28, .int 1, .ref 28]) rfl rfl rfl rfl ?_
        refine go_s (pc' := 53) rfl rfl rfl rfl ?_
        refine go_s (pc' := 54) (st' := [.int 0, .ref 28, .int 1, .ref 28]) rfl rfl rfl rfl ?_
        refine go_sald (pc' := 55) (q := 0) (v := .int n60) hS18 rfl rfl rfl rfl (by decide) h60 rfl ?_
        refine go_siastX (pc' := 56) (q := 1) hS18 rfl rfl tbc_inj (Nat.le_of_ble_eq_true rfl) (Nat.le_of_ble_eq_true rfl) rfl (by decide) (by decide) (hW _ rfl) rfl (fun h21 hS22 hE23 => ?_)
        have hF24 := fr_trans hF20 (fr_e hE23)
        refine go_s (pc' := 57) rfl rfl rfl rfl ?_
        refine go_ret rfl rfl ?_
        have hms : mcpy (I, Q, Z) = (nI q, (mcpI I 1 q, Q, Z)) := by
          unfold mcpy
          rw [if_neg (by rw [show rv (I, Q, Z).1 0 = false from u4]; decide), if_pos (show rv (I, Q, Z).1 1 = true from u7), show (I, Q, Z).1 6 1 = nI q from eq, nI_clamp (by omega)]
        have hD8 := CD_205 (d := 1) (v := nI (q + 1)) (CD_I (J := uC I 7 (245 * 1 + q * 5) 5 (fun j => I 7 (245 * 0 + (q * 5 + j)))) (CD_fr hD hF24) ⟨rfl, rfl, rfl, rfl, rfl, rfl, rfl, rfl, rfl, rfl, rfl, rfl, rfl, rfl, rfl⟩)
        have hS8 := sm_12 (c := 6) (k := 1) (v := nI (q + 1)) hS22 rfl
        have hmI : mcpI I 1 q = uI (uI (mcp0 I 1 q) 5 1 1) 22 1 (I 22 0) := if_pos (by omega)
        rw [hms, hmI]
        have hD9 := CD_206 (d := 1) (v := I 22 0) (x := n60) (CD_I (J := uI (mcp0 I 1 q) 5 1 1) hD8 ⟨rfl, rfl, rfl, rfl, rfl, rfl, rfl, rfl, rfl, rfl, rfl, rfl, rfl, rfl, rfl⟩) (fun z => h60b z)
        have hS9 : sm tbc h21 (uI (uI (mcp0 I 1 q) 5 1 1) 22 1 (I 22 0)) (uX (uX X 205 1 (.int (nI (q + 1)))) 206 1 (.int n60)) := by
          refine sm_12 (c := 22) ?_ rfl
          refine sm_hid hS22 (fun c j hc => ?_)
          have h6 : c ≠ 6 := fun e => by subst e; cases hc
          simp only [mcp0, uI, h6, false_and, if_false]
        refine ⟨rfl, (uX (uX X 205 1 (.int (nI (q + 1)))) 206 1 (.int n60)), ow, sb, hS9, hD9, ?_, fun l hl => Nat.le_trans (hQ l hl) hF24.1⟩
        have := co_fr (I := I) (J := uI (uI (mcp0 I 1 q) 5 1 1) 22 1 (I 22 0)) hF24 rfl
        show co _ (uI (uI (mcp0 I 1 q) 5 1 1) 22 1 (I 22 0)) ≤ B
        omega
  · skip
    show am_Go _ _ _ _ 8 _ [.int 1] _ _
    refine go_ifP (t' := 58) (pc' := 9) rfl rfl rfl (fun (c : (1 : Int32) = 0) => absurd c (by decide)) (fun _ => ?_)
    obtain ⟨q, hq, eq⟩ := hnx 0 (by decide) u4
    have h5q : X 205 0 = .int (nI q) := by rw [h50, h50b (by have z := u4; unfold rv at z; simp at z; exact z.1.1), eq]
    refine go_s (pc' := 10) rfl rfl rfl rfl ?_
    refine go_sget (pc' := 11) (v := .ref 27) hS rfl rfl rfl (by decide) rfl rfl ?_
    refine go_s (pc' := 12) rfl rfl rfl rfl ?_
    refine go_sald (pc' := 13) (q := 0) (v := .int (nI q)) hS rfl rfl rfl rfl (by decide) h5q rfl ?_
    refine go_s (pc' := 14) (lo' := [some (.ref 24), some (.int 0), some (.int (nI q))]) rfl rfl rfl rfl ?_
    refine go_s (pc' := 15) rfl rfl rfl rfl ?_
    refine go_s (pc' := 16) rfl rfl rfl rfl ?_
    refine go_s (pc' := 17) rfl rfl rfl rfl ?_
    refine go_s (pc' := 18) rfl rfl rfl rfl ?_
    refine go_sget (pc' := 19) (v := .ref 29) hS rfl rfl rfl (by decide) rfl rfl ?_
    refine go_s (pc' := 20) (st' := [.int 1, .ref 29, .int (nI q), .int 0, .ref 24]) rfl rfl rfl rfl ?_
    refine go_s (pc' := 21) rfl rfl rfl rfl ?_
    refine go_s (pc' := 22) (st' := [.int 1, .ref 29, .int (nI q), .int 0, .ref 24]) rfl rfl rfl rfl ?_
    refine go_sald (pc' := 23) (q := 1) (v := .ref 31) hS rfl rfl rfl rfl (by decide) rfl rfl ?_
    refine go_s (pc' := 24) rfl rfl rfl rfl ?_
    refine go_s (pc' := 25) (st' := [.int 5, .int (nI q), .ref 31, .int (nI q), .int 0, .ref 24]) rfl rfl rfl rfl ?_
    refine go_nmul (pc' := 26) (a := q) (b := 5) rfl rfl rfl rfl rfl ?_
    refine go_callV (pc' := 27) rfl rfl rfl (Nat.le_of_ble_eq_true rfl) rfl (sm_o hS rfl) rfl rfl rfl (ct_put_0 hS hW (q := q) (sp := (q * 5)) (g := (fun j => I 7 (245 * 1 + (q * 5 + j)))) hq (hS 31 _ _ (tb_ds (d := 1) (by decide))) (by simp; omega) (by simp) (fun j hj => by rw [List.getElem?_map, List.getElem?_map, List.getElem?_range (by omega)]; rfl) (by decide) (by omega)) (fun r h25 q26 => ?_)
    obtain ⟨rfl, hS27, hE28⟩ := q26
    have hF29 := fr_trans hF1 (fr_e hE28)
    refine go_s (pc' := 28) rfl rfl rfl rfl ?_
    refine go_sget (pc' := 29) (v := .ref 27) hS27 rfl rfl rfl (by decide) rfl rfl ?_
    refine go_s (pc' := 30) rfl rfl rfl rfl ?_
    refine go_s (pc' := 31) rfl rfl rfl rfl ?_
    refine go_sald (pc' := 32) (q := 0) (v := .int (nI q)) hS27 rfl rfl rfl rfl (by decide) h5q rfl ?_
    refine go_s (pc' := 33) (st' := [.int 1, .int (nI q), .int 0, .ref 27]) rfl rfl rfl rfl ?_
    refine go_nadd (pc' := 34) (a := q) (b := 1) rfl rfl rfl rfl rfl ?_
    refine go_siastX (pc' := 35) (q := 0) hS27 rfl rfl tbc_inj (Nat.le_of_ble_eq_true rfl) (Nat.le_of_ble_eq_true rfl) rfl (by decide) (by decide) (hW _ rfl) rfl (fun h30 hS31 hE32 => ?_)
    have hF33 := fr_trans hF29 (fr_e hE32)
    refine go_s (pc' := 36) rfl rfl rfl rfl ?_
    refine go_sget (pc' := 37) (v := .ref 27) hS31 rfl rfl rfl (by decide) rfl rfl ?_
    refine go_s (pc' := 38) rfl rfl rfl rfl ?_
    refine go_sald (pc' := 39) (q := 0) (v := .int (nI (q + 1))) hS31 rfl rfl rfl rfl (by decide) rfl rfl ?_
    refine go_s (pc' := 40) (st' := [.int 49, .int (nI (q + 1))]) rfl rfl rfl rfl ?_
    by_cases h49 : q + 1 < 49
    · skip
      refine go_icmpP (t' := 56) (pc' := 41) rfl rfl rfl (fun _ => ?_) (fun (c : ¬ ((nI (q + 1)) < 49)) => absurd (Int32.not_le.mp (nI_ge (b := 49) h49 (by decide))) c)
      refine go_s (pc' := 57) rfl rfl rfl rfl ?_
      refine go_ret rfl rfl ?_
      have hms : mcpy (I, Q, Z) = (nI q, (mcpI I 0 q, Q, Z)) := by
        unfold mcpy
        rw [if_pos (show rv (I, Q, Z).1 0 = true from u4), show (I, Q, Z).1 6 0 = nI q from eq, nI_clamp (by omega)]
      have hD8 := CD_205 (d := 0) (v := nI (q + 1)) (CD_I (J := uC I 7 (245 * 0 + q * 5) 5 (fun j => I 7 (245 * 1 + (q * 5 + j)))) (CD_fr hD hF33) ⟨rfl, rfl, rfl, rfl, rfl, rfl, rfl, rfl, rfl, rfl, rfl, rfl, rfl, rfl, rfl⟩)
      have hS8 := sm_12 (c := 6) (k := 0) (v := nI (q + 1)) hS31 rfl
      have hmI : mcpI I 0 q = mcp0 I 0 q := if_neg (by omega)
      rw [hms, hmI]
      refine ⟨rfl, (uX X 205 0 (.int (nI (q + 1)))), ow, sb, hS8, hD8, ?_, fun l hl => Nat.le_trans (hQ l hl) hF33.1⟩
      have := co_fr (I := I) (J := mcp0 I 0 q) hF33 rfl
      show co _ (mcp0 I 0 q) ≤ B
      omega
    · skip
      refine go_icmpP (t' := 56) (pc' := 41) rfl rfl rfl (fun (c : (nI (q + 1)) < 49) => absurd c (Int32.not_lt.mpr (nI_le (a := 49) (by omega) (by omega)))) (fun _ => ?_)
      refine go_s (pc' := 42) rfl rfl rfl rfl ?_
      refine go_sget (pc' := 43) (v := .ref 26) hS31 rfl rfl rfl (by decide) rfl rfl ?_
      refine go_s (pc' := 44) rfl rfl rfl rfl ?_
      refine go_s (pc' := 45) (st' := [.int 1, .int 0, .ref 26]) rfl rfl rfl rfl ?_
      refine go_szast (pc' := 46) (q := 0) hS31 rfl rfl tbc_inj (Nat.le_of_ble_eq_true rfl) rfl (by decide) (by decide) rfl (hW _ rfl) rfl (fun h34 hS35 hE36 => ?_)
      have hF37 := fr_trans hF33 (fr_e hE36)
      refine go_s (pc' := 47) rfl rfl rfl rfl ?_
      refine go_sget (pc' := 48) (v := .ref 28) hS35 rfl rfl rfl (by decide) rfl rfl ?_
      refine go_s (pc' := 49) rfl rfl rfl rfl ?_
      refine go_s (pc' := 50) rfl rfl rfl rfl ?_
      refine go_sget (pc' := 51) (v := .ref 28) hS35 rfl rfl rfl (by decide) rfl rfl ?_
      refine go_s (pc' := 52) (st' := [.int 1, .ref 28, .int 0, .ref 28]) rfl rfl rfl rfl ?_
      refine go_s (pc' := 53) rfl rfl rfl rfl ?_
      refine go_s (pc' := 54) (st' := [.int 1, .ref 28, .int 0, .ref 28]) rfl rfl rfl rfl ?_
      refine go_sald (pc' := 55) (q := 1) (v := .int n61) hS35 rfl rfl rfl rfl (by decide) h61 rfl ?_
      refine go_siastX (pc' := 56) (q := 0) hS35 rfl rfl tbc_inj (Nat.le_of_ble_eq_true rfl) (Nat.le_of_ble_eq_true rfl) rfl (by decide) (by decide) (hW _ rfl) rfl (fun h38 hS39 hE40 => ?_)
      have hF41 := fr_trans hF37 (fr_e hE40)
      refine go_s (pc' := 57) rfl rfl rfl rfl ?_
      refine go_ret rfl rfl ?_
      have hms : mcpy (I, Q, Z) = (nI q, (mcpI I 0 q, Q, Z)) := by
        unfold mcpy
        rw [if_pos (show rv (I, Q, Z).1 0 = true from u4), show (I, Q, Z).1 6 0 = nI q from eq, nI_clamp (by omega)]
      have hD8 := CD_205 (d := 0) (v := nI (q + 1)) (CD_I (J := uC I 7 (245 * 0 + q * 5) 5 (fun j => I 7 (245 * 1 + (q * 5 + j)))) (CD_fr hD hF41) ⟨rfl, rfl, rfl, rfl, rfl, rfl, rfl, rfl, rfl, rfl, rfl, rfl, rfl, rfl, rfl⟩)
      have hS8 := sm_12 (c := 6) (k := 0) (v := nI (q + 1)) hS39 rfl
      have hmI : mcpI I 0 q = uI (uI (mcp0 I 0 q) 5 0 1) 22 0 (I 22 1) := if_pos (by omega)
      rw [hms, hmI]
      have hD9 := CD_206 (d := 0) (v := I 22 1) (x := n61) (CD_I (J := uI (mcp0 I 0 q) 5 0 1) hD8 ⟨rfl, rfl, rfl, rfl, rfl, rfl, rfl, rfl, rfl, rfl, rfl, rfl, rfl, rfl, rfl⟩) (fun z => h61b z)
      have hS9 : sm tbc h38 (uI (uI (mcp0 I 0 q) 5 0 1) 22 0 (I 22 1)) (uX (uX X 205 0 (.int (nI (q + 1)))) 206 0 (.int n61)) := by
        refine sm_12 (c := 22) ?_ rfl
        refine sm_hid hS39 (fun c j hc => ?_)
        have h6 : c ≠ 6 := fun e => by subst e; cases hc
        simp only [mcp0, uI, h6, false_and, if_false]
      refine ⟨rfl, (uX (uX X 205 0 (.int (nI (q + 1)))) 206 0 (.int n61)), ow, sb, hS9, hD9, ?_, fun l hl => Nat.le_trans (hQ l hl) hF41.1⟩
      have := co_fr (I := I) (J := uI (uI (mcp0 I 0 q) 5 0 1) 22 0 (I 22 1)) hF41 rfl
      show co _ (uI (uI (mcp0 I 0 q) 5 0 1) 22 0 (I 22 1)) ≤ B
      omega
theorem ca_cpy {w : Nat → Bool} {d : Nat} {h : am_Hp} {m0 : mg} {B : Nat} {I : sm_I} {Q : mQ} {Z : mZ} (hC : CA w 32 m0 B h (I, Q, Z)) (hB2 : B < 2 ^ 26) (hnx : ∀ d, d < 2 → rv I d = true → ∃ q, q < 49 ∧ I 6 d = nI q) (hd : 4 ≤ d) : am_Ev (am_prog w) d 94 [.ref 1] h (fun r h' => r = some (.int (mcpy (I, Q, Z)).1) ∧ CA w 32 m0 B h' (mcpy (I, Q, Z)).2) := by
  have hC0 := hC
  obtain ⟨X, ow, sb, hS, hD, hB, hQ⟩ := hC
  change sm tbc h I X at hS
  change CD w 32 m0 h I Q Z X ow sb at hD
  change co h I ≤ B at hB
  change ∀ l, l < 16 → (Q l).length ≤ h.length at hQ
  have hW := hD.1.1
  have hWn : ∀ a, List.length h ≤ a → w a = true := fun a ha => (hD.1.2.1 a ha).1
  have hF1 := fr_refl tbc h
  have hln : 62 ≤ List.length h := sm_len hS
  obtain ⟨d, rfl⟩ : ∃ e, d = e + 1 := ⟨d - 1, by omega⟩
  refine ev_go rfl (Nat.le_of_ble_eq_true rfl) rfl ?_
  refine go_s (pc' := 1) rfl rfl rfl rfl ?_
  refine go_sget (pc' := 2) (v := .ref 24) hS rfl rfl rfl (by decide) rfl rfl ?_
  refine go_callV (pc' := 3) rfl rfl rfl (Nat.le_of_ble_eq_true rfl) rfl (sm_o hS rfl) rfl rfl rfl (cm_rvn hC0 hB2 hnx (by omega)) (fun r h2 q3 => ?_)
  obtain ⟨rfl, hC9⟩ := q3
  refine go_ret rfl rfl ?_
  exact ⟨rfl, hC9⟩
