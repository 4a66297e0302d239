theorem adN_ge {L n i : Nat} (hn : L < n) (hi : i < 12) : L ≤ adN L n i := by
  unfold adN
  split
  · omega
  · split <;> omega
theorem SQ_rs {h : am_Hp} {ow : ow_T} {S : sm_I} {f : Nat → Int32} (k : sc S (mrs f)) (b : S 0 3 = 1) : SQ h ow S (fun _ _ => .null) (mrs2 f) := by
  have e3 : (mrs2 f).1 3 = 2 := by simp [mrs2, uF]
  refine ⟨⟨(mrs f).2.2, ?_, fun _ => rfl⟩, ?_, fun z => ?_, fun _ => rfl⟩
  · have := sc_34 (S2 := S) (F := uF (uF (mrs f).1 3 2) 4 0) k (fun j h1 h2 => by simp [uF, h1, h2]) (fun c j _ => rfl)
    exact this
  · rw [b, e3]; rfl
  · rw [e3] at z; exact absurd z (by decide)
theorem DT_rs {I J : sm_I} {X X2 : sm_X} (k : DT I X) (h4 : J 4 = I 4) (h12 : J 12 = I 12) (h7 : X2 207 = X 207) (g : ∀ d, d < 2 → J 22 d = 0 ∧ X2 206 d = .int 0) (h5 : ∀ d, d < 2 → (X2 205 d = X 205 d ∧ J 6 d = I 6 d) ∨ (X2 205 d = .int 0 ∧ J 6 d = 0)) : DT J X2 := by
  obtain ⟨d1, d2, d3⟩ := k
  refine ⟨fun d hd => ?_, fun d hd => ⟨0, (g d hd).2, fun _ => (g d hd).1.symm⟩, fun k hk => by rw [h7, h12]; exact d3 k hk⟩
  rcases h5 d hd with ⟨a, b⟩ | ⟨a, b⟩
  · obtain ⟨n, y, z⟩ := d1 d hd
    exact ⟨n, by rw [a]; exact y, by rw [h4, b]; exact z⟩
  · exact ⟨0, a, fun _ => b.symm⟩
theorem cx_rss_11 {w : Nat → Bool} {d : Nat} {h : am_Hp} {m0 : mg} {B : Nat} {I : sm_I} {Q : mQ} {Z : mZ} {X : sm_X} {ow : ow_T} {sb : Nat} (hS : sm tbc h I X) (hD : CD w 32 m0 h I Q Z X ow sb) (hB : co h I ≤ B) (hQ : ∀ l, l < 16 → (Q l).length ≤ h.length) (hB2 : B < 2 ^ 26) (u0 : us I 0 = true) (u1 : us I 1 = true) (hK : mrk (dsk I 0)) (hd : 6 ≤ d) : am_Ev (am_prog w) d 72 [.ref 1] h (fun r h' => r = some (.int 1) ∧ ∃ (L : Nat) (S : sm_I), h.length ≤ L ∧ L + 11 < h'.length ∧ sm tbc h' (uI (uI (uI I 5 1 0) 23 0 1) 16 0 2) (uX (uX (uX (uX X 205 1 (.int 0)) 208 0 (.ref L)) 206 0 (.int 0)) 206 1 (.int 0)) ∧ sm (tbs (adN L (L + 1))) h' S (fun _ _ => .null) ∧ sc S (mrs (dsk I 0)) ∧ S 0 3 = 1 ∧ fr tbc h h' 12 429) := by
  change sm tbc h I X at hS
  change CD w 32 m0 h I Q Z X ow sb at hD
  change co h I ≤ B at hB
  change ∀ l, l < 16 → (Q l).length ≤ h.length at hQ
  have hW := hD.1.1
  have hWn : ∀ a, List.length h ≤ a → w a = true := fun a ha => (hD.1.2.1 a ha).1
  have hF1 := fr_refl tbc h
  have hln : 62 ≤ List.length h := sm_len hS
  obtain ⟨d, rfl⟩ : ∃ e, d = e + 1 := ⟨d - 1, by omega⟩
  refine ev_go rfl (Nat.le_of_ble_eq_true rfl) rfl ?_
  have hbth : (us I 0 && us I 1) = true := by rw [u0, u1]; rfl
  have hch : chs I = 0 := by simp [chs, u0, u1]
  refine go_s (pc' := 1) rfl rfl rfl rfl ?_
  refine go_sget (pc' := 2) (v := .ref 24) hS rfl rfl rfl (by decide) rfl rfl ?_
  refine go_callV (pc' := 3) rfl rfl rfl (Nat.le_of_ble_eq_true rfl) rfl (sm_o hS rfl) rfl rfl rfl (ct_choose hS hW (by omega)) (fun r h2 q3 => ?_)
  obtain ⟨rfl, hS4, hE5⟩ := q3
  rw [hbth] at hS4
  change sm tbc h2 (uI I 5 1 0) (uX X 205 1 (.int 0)) at hS4
  have hF6 := fr_trans hF1 (fr_e hE5)
  rw [hch]
  refine go_s (pc' := 4) (lo' := [some (.ref 1), some (.int 0)]) rfl rfl rfl rfl ?_
  refine go_s (pc' := 5) rfl rfl rfl rfl ?_
  refine go_s (pc' := 6) (st' := [.int (-1), .int 0]) rfl rfl rfl rfl ?_
  refine go_icmpP (t' := 9) (pc' := 7) rfl rfl rfl (fun _ => ?_) (fun (c : ¬ (¬ (0 : Int32) = (-1))) => absurd (by decide) c)
  refine go_s (pc' := 10) rfl rfl rfl rfl ?_
  refine go_sget (pc' := 11) (v := .ref 32) hS4 rfl rfl rfl (by decide) rfl rfl ?_
  refine go_newF (pc' := 12) (n := 14) rfl rfl rfl rfl (fun L7 h8 hL9 hc10 hg11 => ?_)
  have ge_L7 : _ ≤ L7 := hL9 ▸ hF6.1
  have nb_L7 := tbc_out L7 (by have := sm_len hS4; omega)
  have hS12 := sm_gq hS4 hg11
  have hF13 := fr_gq hF6 hg11
  have hg_len := hg11.1
  refine go_s (pc' := 13) rfl rfl rfl rfl ?_
  have hlL : List.length h8 = L7 + 1 := by have := lt_of hc10; have := hg_len; omega
  refine go_callI (pc' := 14) rfl rfl rfl (Nat.le_of_ble_eq_true rfl) rfl hc10 rfl rfl rfl (ci_ssn hc10 (hWn _ (by omega)) (by omega) (fun x hx => hWn x (by omega)) (by omega)) (fun r h14 q15 => ?_)
  obtain ⟨rfl, hSs, hq6⟩ := q15
  rw [hlL] at hSs
  have hS6 := sm_qa hS12 hq6 nb_L7
  have hF6 := fr_qa hF13 hq6 (by omega)
  have hl6 := hq6.1
  refine go_sputX (pc' := 15) hS6 rfl rfl rfl (by decide) tbc_inj (Nat.le_of_ble_eq_true rfl) (Nat.le_of_ble_eq_true rfl) rfl (hW _ rfl) rfl (fun h16 hS17 hE18 => ?_)
  have hF19 := fr_trans hF6 (fr_e hE18)
  have hSs20 := sm_dyn hSs (fun x hx => hE18.2.2 x (by
    obtain ⟨y, hy⟩ := Option.ne_none_iff_exists'.mp hx
    obtain ⟨i, hi, rfl, -⟩ := tbs_of hy
    exact tbc_out _ (by have := adN_ge (L := L7) (n := L7 + 1) (by omega) hi; omega)))
  have hlqhSs20 : List.length h16 = _ := hE18.1
  refine go_s (pc' := 16) rfl rfl rfl rfl ?_
  refine go_sget (pc' := 17) (v := .ref 32) hS17 rfl rfl rfl (by decide) rfl rfl ?_
  refine go_sget (pc' := 18) (v := .ref L7) hS17 rfl rfl rfl (by decide) rfl rfl ?_
  refine go_s (pc' := 19) rfl rfl rfl rfl ?_
  refine go_sget (pc' := 20) (v := .ref 24) hS17 rfl rfl rfl (by decide) rfl rfl ?_
  refine go_sget (pc' := 21) (v := .ref 29) hS17 rfl rfl rfl (by decide) rfl rfl ?_
  refine go_s (pc' := 22) rfl rfl rfl rfl ?_
  refine go_sald (pc' := 23) (q := 0) (v := .ref 30) hS17 rfl rfl rfl rfl (by decide) rfl rfl ?_
  have hA : adk (adN L7 (L7 + 1)) := adN_k (by omega)
  have hwn : tbs (adN L7 (L7 + 1)) 30 = none := tbs_none (fun i hi e => by have := adN_ge (L := L7) (n := L7 + 1) (by omega) hi; omega)
  refine go_callV (pc' := 24) rfl rfl rfl (Nat.le_of_ble_eq_true rfl) rfl (sm_o hSs20 (tbs_at hA (i := 0) (by decide))) rfl rfl rfl (cs_rst hA hSs20 (fun i hi => by have := adN_ge (L := L7) (n := L7 + 1) (by omega) hi; omega) (fun i hi => hWn _ (by have := adN_ge (L := L7) (n := L7 + 1) (by omega) hi; omega)) (hS17 30 _ _ (tb_ds (d := 0) (by decide))) (f := dsk I 0) (fun j hj => by rw [List.getElem?_map, List.getElem?_map, List.getElem?_range (by omega)]; rfl) (by simp) hwn (by decide) hK (by omega)) (fun r h21 q22 => ?_)
  obtain ⟨rfl, S9, hS9s, hm9, hb9, hE9⟩ := q22
  have hS9 : sm tbc h21 (uI I 5 1 0) (uX (uX X 205 1 (.int 0)) 208 0 (.ref L7)) := sm_dyn hS17 (fun x hx => hE9.2.2 x (tbs_none (fun i hi e => by
    have := adN_ge (L := L7) (n := L7 + 1) (by omega) hi
    exact hx (tbc_out x (by omega)))))
  have hF9 := fr_se hF19 hE9 (fun x _ hl => tbs_none (fun i hi e => by have := adN_ge (L := L7) (n := L7 + 1) (by omega) hi; omega))
  have hl9 : List.length h21 = _ := hE9.1
  refine go_s (pc' := 25) rfl rfl rfl rfl ?_
  refine go_sget (pc' := 26) (v := .ref 32) hS9 rfl rfl rfl (by decide) rfl rfl ?_
  refine go_s (pc' := 27) (st' := [.int 1, .ref 32]) rfl rfl rfl rfl ?_
  refine go_sput (pc' := 28) hS9 rfl rfl rfl (by decide) tbc_inj (Nat.le_of_ble_eq_true rfl) rfl (hW _ rfl) rfl (fun h23 hS24 hE25 => ?_)
  have hF26 := fr_trans hF9 (fr_e hE25)
  have hSs27 := sm_dyn hS9s (fun x hx => hE25.2.2 x (by
    obtain ⟨y, hy⟩ := Option.ne_none_iff_exists'.mp hx
    obtain ⟨i, hi, rfl, -⟩ := tbs_of hy
    exact tbc_out _ (by have := adN_ge (L := L7) (n := L7 + 1) (by omega) hi; omega)))
  have hlqhSs27 : List.length h23 = _ := hE25.1
  refine go_s (pc' := 29) rfl rfl rfl rfl ?_
  refine go_callV (pc' := 30) rfl rfl rfl (Nat.le_of_ble_eq_true rfl) rfl (sm_o hS24 rfl) rfl rfl rfl (ct_startWriting hS24 hW (by omega)) (fun r h28 q29 => ?_)
  obtain ⟨rfl, hS30, hE31⟩ := q29
  have hF32 := fr_trans hF26 (fr_e hE31)
  have hSs33 := sm_dyn hSs27 (fun x hx => hE31.2.2 x (by
    obtain ⟨y, hy⟩ := Option.ne_none_iff_exists'.mp hx
    obtain ⟨i, hi, rfl, -⟩ := tbs_of hy
    exact tbc_out _ (by have := adN_ge (L := L7) (n := L7 + 1) (by omega) hi; omega)))
  have hlqhSs33 : List.length h28 = _ := hE31.1
  refine go_s (pc' := 31) (st' := [.int 1]) rfl rfl rfl rfl ?_
  refine go_ret rfl rfl ?_
  exact ⟨rfl, L7, S9, by omega, by omega, hS30, hSs33, hm9, hb9, hF32⟩
theorem cx_rss_10 {w : Nat → Bool} {d : Nat} {h : am_Hp} {m0 : mg} {B : Nat} {I : sm_I} {Q : mQ} {Z : mZ} {X : sm_X} {ow : ow_T} {sb : Nat} (hS : sm tbc h I X) (hD : CD w 32 m0 h I Q Z X ow sb) (hB : co h I ≤ B) (hQ : ∀ l, l < 16 → (Q l).length ≤ h.length) (hB2 : B < 2 ^ 26) (u0 : us I 0 = true) (u1 : us I 1 = false) (hK : mrk (dsk I 0)) (hd : 6 ≤ d) : am_Ev (am_prog w) d 72 [.ref 1] h (fun r h' => r = some (.int 1) ∧ ∃ (L : Nat) (S : sm_I), h.length ≤ L ∧ L + 11 < h'.length ∧ sm tbc h' (uI (uI I 23 0 1) 16 0 2) (uX (uX (uX X 208 0 (.ref L)) 206 0 (.int 0)) 206 1 (.int 0)) ∧ sm (tbs (adN L (L + 1))) h' S (fun _ _ => .null) ∧ sc S (mrs (dsk I 0)) ∧ S 0 3 = 1 ∧ fr tbc h h' 12 429) := by
  change sm tbc h I X at hS
  change CD w 32 m0 h I Q Z X ow sb at hD
  change co h I ≤ B at hB
  change ∀ l, l < 16 → (Q l).length ≤ h.length at hQ
  have hW := hD.1.1
  have hWn : ∀ a, List.length h ≤ a → w a = true := fun a ha => (hD.1.2.1 a ha).1
  have hF1 := fr_refl tbc h
  have hln : 62 ≤ List.length h := sm_len hS
  obtain ⟨d, rfl⟩ : ∃ e, d = e + 1 := ⟨d - 1, by omega⟩
  refine ev_go rfl (Nat.le_of_ble_eq_true rfl) rfl ?_
  have hbth : (us I 0 && us I 1) = false := by rw [u0, u1]; rfl
  have hch : chs I = 0 := by simp [chs, u0, u1]
  refine go_s (pc' := 1) rfl rfl rfl rfl ?_
  refine go_sget (pc' := 2) (v := .ref 24) hS rfl rfl rfl (by decide) rfl rfl ?_
  refine go_callV (pc' := 3) rfl rfl rfl (Nat.le_of_ble_eq_true rfl) rfl (sm_o hS rfl) rfl rfl rfl (ct_choose hS hW (by omega)) (fun r h2 q3 => ?_)
  obtain ⟨rfl, hS4, hE5⟩ := q3
  rw [hbth] at hS4
  change sm tbc h2 I X at hS4
  have hF6 := fr_trans hF1 (fr_e hE5)
  rw [hch]
  refine go_s (pc' := 4) (lo' := [some (.ref 1), some (.int 0)]) rfl rfl rfl rfl ?_
  refine go_s (pc' := 5) rfl rfl rfl rfl ?_
  refine go_s (pc' := 6) (st' := [.int (-1), .int 0]) rfl rfl rfl rfl ?_
  refine go_icmpP (t' := 9) (pc' := 7) rfl rfl rfl (fun _ => ?_) (fun (c : ¬ (¬ (0 : Int32) = (-1))) => absurd (by decide) c)
  refine go_s (pc' := 10) rfl rfl rfl rfl ?_
  refine go_sget (pc' := 11) (v := .ref 32) hS4 rfl rfl rfl (by decide) rfl rfl ?_
  refine go_newF (pc' := 12) (n := 14) rfl rfl rfl rfl (fun L7 h8 hL9 hc10 hg11 => ?_)
  have ge_L7 : _ ≤ L7 := hL9 ▸ hF6.1
  have nb_L7 := tbc_out L7 (by have := sm_len hS4; omega)
  have hS12 := sm_gq hS4 hg11
  have hF13 := fr_gq hF6 hg11
  have hg_len := hg11.1
  refine go_s (pc' := 13) rfl rfl rfl rfl ?_
  have hlL : List.length h8 = L7 + 1 := by have := lt_of hc10; have := hg_len; omega
  refine go_callI (pc' := 14) rfl rfl rfl (Nat.le_of_ble_eq_true rfl) rfl hc10 rfl rfl rfl (ci_ssn hc10 (hWn _ (by omega)) (by omega) (fun x hx => hWn x (by omega)) (by omega)) (fun r h14 q15 => ?_)
  obtain ⟨rfl, hSs, hq6⟩ := q15
  rw [hlL] at hSs
  have hS6 := sm_qa hS12 hq6 nb_L7
  have hF6 := fr_qa hF13 hq6 (by omega)
  have hl6 := hq6.1
  refine go_sputX (pc' := 15) hS6 rfl rfl rfl (by decide) tbc_inj (Nat.le_of_ble_eq_true rfl) (Nat.le_of_ble_eq_true rfl) rfl (hW _ rfl) rfl (fun h16 hS17 hE18 => ?_)
  have hF19 := fr_trans hF6 (fr_e hE18)
  have hSs20 := sm_dyn hSs (fun x hx => hE18.2.2 x (by
    obtain ⟨y, hy⟩ := Option.ne_none_iff_exists'.mp hx
    obtain ⟨i, hi, rfl, -⟩ := tbs_of hy
    exact tbc_out _ (by have := adN_ge (L := L7) (n := L7 + 1) (by omega) hi; omega)))
  have hlqhSs20 : List.length h16 = _ := hE18.1
  refine go_s (pc' := 16) rfl rfl rfl rfl ?_
  refine go_sget (pc' := 17) (v := .ref 32) hS17 rfl rfl rfl (by decide) rfl rfl ?_
  refine go_sget (pc' := 18) (v := .ref L7) hS17 rfl rfl rfl (by decide) rfl rfl ?_
  refine go_s (pc' := 19) rfl rfl rfl rfl ?_
  refine go_sget (pc' := 20) (v := .ref 24) hS17 rfl rfl rfl (by decide) rfl rfl ?_
  refine go_sget (pc' := 21) (v := .ref 29) hS17 rfl rfl rfl (by decide) rfl rfl ?_
  refine go_s (pc' := 22) rfl rfl rfl rfl ?_
  refine go_sald (pc' := 23) (q := 0) (v := .ref 30) hS17 rfl rfl rfl rfl (by decide) rfl rfl ?_
  have hA : adk (adN L7 (L7 + 1)) := adN_k (by omega)
  have hwn : tbs (adN L7 (L7 + 1)) 30 = none := tbs_none (fun i hi e => by have := adN_ge (L := L7) (n := L7 + 1) (by omega) hi; omega)
  refine go_callV (pc' := 24) rfl rfl rfl (Nat.le_of_ble_eq_true rfl) rfl (sm_o hSs20 (tbs_at hA (i := 0) (by decide))) rfl rfl rfl (cs_rst hA hSs20 (fun i hi => by have := adN_ge (L := L7) (n := L7 + 1) (by omega) hi; omega) (fun i hi => hWn _ (by have := adN_ge (L := L7) (n := L7 + 1) (by omega) hi; omega)) (hS17 30 _ _ (tb_ds (d := 0) (by decide))) (f := dsk I 0) (fun j hj => by rw [List.getElem?_map, List.getElem?_map, List.getElem?_range (by omega)]; rfl) (by simp) hwn (by decide) hK (by omega)) (fun r h21 q22 => ?_)
  obtain ⟨rfl, S9, hS9s, hm9, hb9, hE9⟩ := q22
  have hS9 : sm tbc h21 I (uX X 208 0 (.ref L7)) := sm_dyn hS17 (fun x hx => hE9.2.2 x (tbs_none (fun i hi e => by
    have := adN_ge (L := L7) (n := L7 + 1) (by omega) hi
    exact hx (tbc_out x (by omega)))))
  have hF9 := fr_se hF19 hE9 (fun x _ hl => tbs_none (fun i hi e => by have := adN_ge (L := L7) (n := L7 + 1) (by omega) hi; omega))
  have hl9 : List.length h21 = _ := hE9.1
  refine go_s (pc' := 25) rfl rfl rfl rfl ?_
  refine go_sget (pc' := 26) (v := .ref 32) hS9 rfl rfl rfl (by decide) rfl rfl ?_
  refine go_s (pc' := 27) (st' := [.int 1, .ref 32]) rfl rfl rfl rfl ?_
  refine go_sput (pc' := 28) hS9 rfl rfl rfl (by decide) tbc_inj (Nat.le_of_ble_eq_true rfl) rfl (hW _ rfl) rfl (fun h23 hS24 hE25 => ?_)
  have hF26 := fr_trans hF9 (fr_e hE25)
  have hSs27 := sm_dyn hS9s (fun x hx => hE25.2.2 x (by
    obtain ⟨y, hy⟩ := Option.ne_none_iff_exists'.mp hx
    obtain ⟨i, hi, rfl, -⟩ := tbs_of hy
    exact tbc_out _ (by have := adN_ge (L := L7) (n := L7 + 1) (by omega) hi; omega)))
  have hlqhSs27 : List.length h23 = _ := hE25.1
  refine go_s (pc' := 29) rfl rfl rfl rfl ?_
  refine go_callV (pc' := 30) rfl rfl rfl (Nat.le_of_ble_eq_true rfl) rfl (sm_o hS24 rfl) rfl rfl rfl (ct_startWriting hS24 hW (by omega)) (fun r h28 q29 => ?_)
  obtain ⟨rfl, hS30, hE31⟩ := q29
  have hF32 := fr_trans hF26 (fr_e hE31)
  have hSs33 := sm_dyn hSs27 (fun x hx => hE31.2.2 x (by
    obtain ⟨y, hy⟩ := Option.ne_none_iff_exists'.mp hx
    obtain ⟨i, hi, rfl, -⟩ := tbs_of hy
    exact tbc_out _ (by have := adN_ge (L := L7) (n := L7 + 1) (by omega) hi; omega)))
  have hlqhSs33 : List.length h28 = _ := hE31.1
  refine go_s (pc' := 31) (st' := [.int 1]) rfl rfl rfl rfl ?_
  refine go_ret rfl rfl ?_
  exact ⟨rfl, L7, S9, by omega, by omega, hS30, hSs33, hm9, hb9, hF32⟩
theorem cx_rss_01 {w : Nat → Bool} {d : Nat} {h : am_Hp} {m0 : mg} {B : Nat} {I : sm_I} {Q : mQ} {Z : mZ} {X : sm_X} {ow : ow_T} {sb : Nat} (hS : sm tbc h I X) (hD : CD w 32 m0 h I Q Z X ow sb) (hB : co h I ≤ B) (hQ : ∀ l, l < 16 → (Q l).length ≤ h.length) (hB2 : B < 2 ^ 26) (u0 : us I 0 = false) (u1 : us I 1 = true) (hK : mrk (dsk I 1)) (hd : 6 ≤ d) : am_Ev (am_prog w) d 72 [.ref 1] h (fun r h' => r = some (.int 1) ∧ ∃ (L : Nat) (S : sm_I), h.length ≤ L ∧ L + 11 < h'.length ∧ sm tbc h' (uI (uI I 23 0 1) 16 0 2) (uX (uX (uX X 208 0 (.ref L)) 206 0 (.int 0)) 206 1 (.int 0)) ∧ sm (tbs (adN L (L + 1))) h' S (fun _ _ => .null) ∧ sc S (mrs (dsk I 1)) ∧ S 0 3 = 1 ∧ fr tbc h h' 12 429) := by
  change sm tbc h I X at hS
  change CD w 32 m0 h I Q Z X ow sb at hD
  change co h I ≤ B at hB
  change ∀ l, l < 16 → (Q l).length ≤ h.length at hQ
  have hW := hD.1.1
  have hWn : ∀ a, List.length h ≤ a → w a = true := fun a ha => (hD.1.2.1 a ha).1
  have hF1 := fr_refl tbc h
  have hln : 62 ≤ List.length h := sm_len hS
  obtain ⟨d, rfl⟩ : ∃ e, d = e + 1 := ⟨d - 1, by omega⟩
  refine ev_go rfl (Nat.le_of_ble_eq_true rfl) rfl ?_
  have hbth : (us I 0 && us I 1) = false := by rw [u0, u1]; rfl
  have hch : chs I = 1 := by simp [chs, u0, u1]
  refine go_s (pc' := 1) rfl rfl rfl rfl ?_
  refine go_sget (pc' := 2) (v := .ref 24) hS rfl rfl rfl (by decide) rfl rfl ?_
  refine go_callV (pc' := 3) rfl rfl rfl (Nat.le_of_ble_eq_true rfl) rfl (sm_o hS rfl) rfl rfl rfl (ct_choose hS hW (by omega)) (fun r h2 q3 => ?_)
  obtain ⟨rfl, hS4, hE5⟩ := q3
  rw [hbth] at hS4
  change sm tbc h2 I X at hS4
  have hF6 := fr_trans hF1 (fr_e hE5)
  rw [hch]
  refine go_s (pc' := 4) (lo' := [some (.ref 1), some (.int 1)]) rfl rfl rfl rfl ?_
  refine go_s (pc' := 5) rfl rfl rfl rfl ?_
  refine go_s (pc' := 6) (st' := [.int (-1), .int 1]) rfl rfl rfl rfl ?_
  refine go_icmpP (t' := 9) (pc' := 7) rfl rfl rfl (fun _ => ?_) (fun (c : ¬ (¬ (1 : Int32) = (-1))) => absurd (by decide) c)
  refine go_s (pc' := 10) rfl rfl rfl rfl ?_
  refine go_sget (pc' := 11) (v := .ref 32) hS4 rfl rfl rfl (by decide) rfl rfl ?_
  refine go_newF (pc' := 12) (n := 14) rfl rfl rfl rfl (fun L7 h8 hL9 hc10 hg11 => ?_)
  have ge_L7 : _ ≤ L7 := hL9 ▸ hF6.1
  have nb_L7 := tbc_out L7 (by have := sm_len hS4; omega)
  have hS12 := sm_gq hS4 hg11
  have hF13 := fr_gq hF6 hg11
  have hg_len := hg11.1
  refine go_s (pc' := 13) rfl rfl rfl rfl ?_
  have hlL : List.length h8 = L7 + 1 := by have := lt_of hc10; have := hg_len; omega
  refine go_callI (pc' := 14) rfl rfl rfl (Nat.le_of_ble_eq_true rfl) rfl hc10 rfl rfl rfl (ci_ssn hc10 (hWn _ (by omega)) (by omega) (fun x hx => hWn x (by omega)) (by omega)) (fun r h14 q15 => ?_)
  obtain ⟨rfl, hSs, hq6⟩ := q15
  rw [hlL] at hSs
  have hS6 := sm_qa hS12 hq6 nb_L7
  have hF6 := fr_qa hF13 hq6 (by omega)
  have hl6 := hq6.1
  refine go_sputX (pc' := 15) hS6 rfl rfl rfl (by decide) tbc_inj (Nat.le_of_ble_eq_true rfl) (Nat.le_of_ble_eq_true rfl) rfl (hW _ rfl) rfl (fun h16 hS17 hE18 => ?_)
  have hF19 := fr_trans hF6 (fr_e hE18)
  have hSs20 := sm_dyn hSs (fun x hx => hE18.2.2 x (by
    obtain ⟨y, hy⟩ := Option.ne_none_iff_exists'.mp hx
    obtain ⟨i, hi, rfl, -⟩ := tbs_of hy
    exact tbc_out _ (by have := adN_ge (L := L7) (n := L7 + 1) (by omega) hi; omega)))
  have hlqhSs20 : List.length h16 = _ := hE18.1
  refine go_s (pc' := 16) rfl rfl rfl rfl ?_
  refine go_sget (pc' := 17) (v := .ref 32) hS17 rfl rfl rfl (by decide) rfl rfl ?_
  refine go_sget (pc' := 18) (v := .ref L7) hS17 rfl rfl rfl (by decide) rfl rfl ?_
  refine go_s (pc' := 19) rfl rfl rfl rfl ?_
  refine go_sget (pc' := 20) (v := .ref 24) hS17 rfl rfl rfl (by decide) rfl rfl ?_
  refine go_sget (pc' := 21) (v := .ref 29) hS17 rfl rfl rfl (by decide) rfl rfl ?_
  refine go_s (pc' := 22) rfl rfl rfl rfl ?_
  refine go_sald (pc' := 23) (q := 1) (v := .ref 31) hS17 rfl rfl rfl rfl (by decide) rfl rfl ?_
  have hA : adk (adN L7 (L7 + 1)) := adN_k (by omega)
  have hwn : tbs (adN L7 (L7 + 1)) 31 = none := tbs_none (fun i hi e => by have := adN_ge (L := L7) (n := L7 + 1) (by omega) hi; omega)
  refine go_callV (pc' := 24) rfl rfl rfl (Nat.le_of_ble_eq_true rfl) rfl (sm_o hSs20 (tbs_at hA (i := 0) (by decide))) rfl rfl rfl (cs_rst hA hSs20 (fun i hi => by have := adN_ge (L := L7) (n := L7 + 1) (by omega) hi; omega) (fun i hi => hWn _ (by have := adN_ge (L := L7) (n := L7 + 1) (by omega) hi; omega)) (hS17 31 _ _ (tb_ds (d := 1) (by decide))) (f := dsk I 1) (fun j hj => by rw [List.getElem?_map, List.getElem?_map, List.getElem?_range (by omega)]; rfl) (by simp) hwn (by decide) hK (by omega)) (fun r h21 q22 => ?_)
  obtain ⟨rfl, S9, hS9s, hm9, hb9, hE9⟩ := q22
  have hS9 : sm tbc h21 I (uX X 208 0 (.ref L7)) := sm_dyn hS17 (fun x hx => hE9.2.2 x (tbs_none (fun i hi e => by
    have := adN_ge (L := L7) (n := L7 + 1) (by omega) hi
    exact hx (tbc_out x (by omega)))))
  have hF9 := fr_se hF19 hE9 (fun x _ hl => tbs_none (fun i hi e => by have := adN_ge (L := L7) (n := L7 + 1) (by omega) hi; omega))
  have hl9 : List.length h21 = _ := hE9.1
  refine go_s (pc' := 25) rfl rfl rfl rfl ?_
  refine go_sget (pc' := 26) (v := .ref 32) hS9 rfl rfl rfl (by decide) rfl rfl ?_
  refine go_s (pc' := 27) (st' := [.int 1, .ref 32]) rfl rfl rfl rfl ?_
  refine go_sput (pc' := 28) hS9 rfl rfl rfl (by decide) tbc_inj (Nat.le_of_ble_eq_true rfl) rfl (hW _ rfl) rfl (fun h23 hS24 hE25 => ?_)
  have hF26 := fr_trans hF9 (fr_e hE25)
  have hSs27 := sm_dyn hS9s (fun x hx => hE25.2.2 x (by
    obtain ⟨y, hy⟩ := Option.ne_none_iff_exists'.mp hx
    obtain ⟨i, hi, rfl, -⟩ := tbs_of hy
    exact tbc_out _ (by have := adN_ge (L := L7) (n := L7 + 1) (by omega) hi; omega)))
  have hlqhSs27 : List.length h23 = _ := hE25.1
  refine go_s (pc' := 29) rfl rfl rfl rfl ?_
  refine go_callV (pc' := 30) rfl rfl rfl (Nat.le_of_ble_eq_true rfl) rfl (sm_o hS24 rfl) rfl rfl rfl (ct_startWriting hS24 hW (by omega)) (fun r h28 q29 => ?_)
  obtain ⟨rfl, hS30, hE31⟩ := q29
  have hF32 := fr_trans hF26 (fr_e hE31)
  have hSs33 := sm_dyn hSs27 (fun x hx => hE31.2.2 x (by
    obtain ⟨y, hy⟩ := Option.ne_none_iff_exists'.mp hx
    obtain ⟨i, hi, rfl, -⟩ := tbs_of hy
    exact tbc_out _ (by have := adN_ge (L := L7) (n := L7 + 1) (by omega) hi; omega)))
  have hlqhSs33 : List.length h28 = _ := hE31.1
  refine go_s (pc' := 31) (st' := [.int 1]) rfl rfl rfl rfl ?_
  refine go_ret rfl rfl ?_
  exact ⟨rfl, L7, S9, by omega, by omega, hS30, hSs33, hm9, hb9, hF32⟩
theorem cx_rss_00 {w : Nat → Bool} {d : Nat} {h : am_Hp} {m0 : mg} {B : Nat} {I : sm_I} {Q : mQ} {Z : mZ} {X : sm_X} {ow : ow_T} {sb : Nat} (hS : sm tbc h I X) (hD : CD w 32 m0 h I Q Z X ow sb) (hB : co h I ≤ B) (hQ : ∀ l, l < 16 → (Q l).length ≤ h.length) (hB2 : B < 2 ^ 26) (u0 : us I 0 = false) (u1 : us I 1 = false) (hd : 6 ≤ d) : am_Ev (am_prog w) d 72 [.ref 1] h (fun r h' => r = some (.int 0) ∧ sm tbc h' I X ∧ fr tbc h h' 0 0) := by
  change sm tbc h I X at hS
  change CD w 32 m0 h I Q Z X ow sb at hD
  change co h I ≤ B at hB
  change ∀ l, l < 16 → (Q l).length ≤ h.length at hQ
  have hW := hD.1.1
  have hWn : ∀ a, List.length h ≤ a → w a = true := fun a ha => (hD.1.2.1 a ha).1
  have hF1 := fr_refl tbc h
  have hln : 62 ≤ List.length h := sm_len hS
  obtain ⟨d, rfl⟩ : ∃ e, d = e + 1 := ⟨d - 1, by omega⟩
  refine ev_go rfl (Nat.le_of_ble_eq_true rfl) rfl ?_
  have hbth : (us I 0 && us I 1) = false := by rw [u0, u1]; rfl
  have hch : chs I = -1 := by simp [chs, u0, u1]
  refine go_s (pc' := 1) rfl rfl rfl rfl ?_
  refine go_sget (pc' := 2) (v := .ref 24) hS rfl rfl rfl (by decide) rfl rfl ?_
  refine go_callV (pc' := 3) rfl rfl rfl (Nat.le_of_ble_eq_true rfl) rfl (sm_o hS rfl) rfl rfl rfl (ct_choose hS hW (by omega)) (fun r h2 q3 => ?_)
  obtain ⟨rfl, hS4, hE5⟩ := q3
  rw [hbth] at hS4
  change sm tbc h2 I X at hS4
  have hF6 := fr_trans hF1 (fr_e hE5)
  rw [hch]
  refine go_s (pc' := 4) (lo' := [some (.ref 1), some (.int (-1))]) rfl rfl rfl rfl ?_
  refine go_s (pc' := 5) rfl rfl rfl rfl ?_
  refine go_s (pc' := 6) (st' := [.int (-1), .int (-1)]) rfl rfl rfl rfl ?_
  refine go_icmpP (t' := 9) (pc' := 7) rfl rfl rfl (fun (c : ¬ ((-1) : Int32) = (-1)) => absurd c (by decide)) (fun _ => ?_)
  refine go_s (pc' := 8) (st' := [.int 0]) rfl rfl rfl rfl ?_
  refine go_ret rfl rfl ?_
  exact ⟨rfl, hS4, hF6⟩
