/-! restarts -/
theorem MID_rN {X k : Nat} {M : mM} (hX : X < 2 ^ 28) (k0 : MID X M) (hk : k < 3) (h11 : M.1 11 k = -1) (hfu : ¬ fup M.1 (if k = 0 then 0 else 2) = -1) (hc : k = 0 → ¬ chs M.1 = -1) : MID (X + 1) (rrsN k M) ∧ sq (rrsN k M).2.1 ≤ 5 := by
  obtain ⟨dl, d12, d13, d16⟩ := dead k0 hk h11
  by_cases e : k = 0
  · subst e
    rw [if_pos rfl] at hfu
    obtain ⟨hm, m1, m2, m3, m4, m5⟩ := fup_c hfu (by omega)
    obtain ⟨d, hd, h1, h2, h3, h4⟩ := chs_c k0.2.1 (hc rfl)
    obtain ⟨e1, e2⟩ := rsS_e k0 h11 m3 m1 m4 hd h1 h2 h4
    obtain ⟨r1, r2, r3, r4, r5, r6⟩ := MID_rS (by omega) k0 h11 (by omega : hm = 0 ∨ hm = 1) m5 hd h2
    rw [e1]
    exact ⟨r1, sq_5 (X := X + 1) (k := 0) (by omega) r1 (by omega) (NM_US (by omega) (r1.2.2.1 0 (by omega)).1 r4).1⟩
  · obtain ⟨t, rfl⟩ : ∃ t, k = 1 + t := ⟨k - 1, by omega⟩
    rw [if_neg e] at hfu
    obtain ⟨hm, m1, m2, m3, m4, m5⟩ := fup_c hfu (by omega)
    obtain ⟨e1, e2⟩ := rsT_e d12 d16 m3 m1 m4
    obtain ⟨r1, r2, r3, r4⟩ := MID_rT k0 (by omega : t < 2) h11 (by omega : hm = 2 ∨ hm = 3) m5
    rw [e1]
    exact ⟨r1, sq_5 (X := X + 1) (k := 1 + t) (by omega) r1 (by omega) (NM_US (by omega) (r1.2.2.1 (1 + t) (by omega)).1 r4).1⟩
theorem clI_jn {I K : sm_I} {r n : Nat} : clI (jn I K) r n = jn I (clI K r n) := by
  funext c j
  simp only [clI, jn]
  by_cases e1 : c < 50
  · rw [if_neg (by omega), if_pos e1, if_pos e1]
  · rw [if_neg e1, if_neg e1]
theorem cl_z {K : sm_I} {r j : Nat} (hj : j < 424) : clI K r 424 51 (424 * r + j) = 0 := by
  unfold clI
  rw [if_pos ⟨rfl, by omega, by omega⟩]
theorem rch_o {d c : Nat} {I : sm_I} (h5 : c ≠ 5) (h6 : c ≠ 6) : rchI d I c = I c := by
  unfold rchI
  rw [uI_f h5]
  split
  · rfl
  · rw [uI_f h6]
theorem rch_jn {d : Nat} {I K : sm_I} : rchI d (jn I K) = jn (rchI d I) K := by
  unfold rchI
  have e : jn I K 5 (1 - d) = I 5 (1 - d) := jn_at (by decide)
  rw [e]
  split
  · exact jn_lo (by decide)
  · rw [jn_lo (by decide), jn_lo (by decide)]
theorem rx_rT_1_2 {w : Nat → Bool} {d : Nat} {h : am_Hp} {I K : sm_I} {Y : sm_X} {am ln : Nat} (hr : rk am 77) (hS : sm (tbr am (13 * ln) 77 5088) h (jn I K) Y) (hln : ln < 2 ^ 20) (hW : ∀ a, 62 ≤ a → a ≤ 88 → w a = true) (e11 : I 11 1 = 2) (hd : 2 ≤ d) : am_Ev (am_prog w) d 175 [.ref 62, .int 1] h (fun r h' => r = none ∧ sm (tbr am (13 * ln) 77 5088) h' (jn (uI (uI I 17 0 (I 17 0 + 1)) 18 0 0) (uI (uI K 51 859 (I 17 0 + 1)) 51 853 (-1))) Y ∧ sm_e (tbr am (13 * ln) 77 5088) h h') := by
  obtain ⟨d, rfl⟩ : ∃ e, d = e + 1 := ⟨d - 1, by omega⟩
  refine ev_go rfl (Nat.le_of_ble_eq_true rfl) rfl ?_
  refine go_s (pc' := 1) rfl rfl rfl rfl ?_
  refine go_s (pc' := 2) rfl rfl rfl rfl ?_
  refine go_callV (pc' := 3) rfl rfl rfl (Nat.le_of_ble_eq_true rfl) rfl (sm_o hS rfl) rfl rfl rfl (rt_at_1 hr hS (Or.inr (Or.inl e11)) (fun z => absurd (e11.symm.trans z) (by decide)) (by omega)) (fun r h1 q2 => ?_)
  obtain ⟨rfl, rfl⟩ := q2
  rw [show rwi (jn I K) 1 = 2 by unfold rwi pn; rw [show (jn I K) 11 1 = 2 from e11]; rfl]
  show am_Go _ _ _ _ 3 _ [.int 848] _ _
  refine go_s (pc' := 4) (lo' := [some (.ref 62), some (.int 1), some (.int 848)]) rfl rfl rfl rfl ?_
  refine go_s (pc' := 5) rfl rfl rfl rfl ?_
  refine go_sget (pc' := 6) (v := .ref 84) hS rfl rfl rfl (by decide) rfl rfl ?_
  refine go_s (pc' := 7) rfl rfl rfl rfl ?_
  refine go_s (pc' := 8) (st' := [.int 1, .int 1, .ref 84]) rfl rfl rfl rfl ?_
  refine go_s (pc' := 9) (st' := [.int 0, .ref 84]) rfl rfl rfl rfl ?_
  refine go_s (pc' := 10) rfl rfl rfl rfl ?_
  refine go_sald (pc' := 11) (q := 0) (v := .int (I 17 0)) hS rfl (tr_s hr (a := 84) rfl (by decide)) rfl rfl (by decide) rfl rfl ?_
  refine go_s (pc' := 12) (st' := [.int 1, .int (I 17 0), .int 0, .ref 84]) rfl rfl rfl rfl ?_
  refine go_s (pc' := 13) rfl rfl rfl rfl ?_
  refine go_siast (pc' := 14) (q := 0) hS rfl (tr_s hr (a := 84) rfl (by decide)) tbr_inj (Nat.le_of_ble_eq_true rfl) rfl (by decide) (by decide) (hW _ (by decide) (by decide)) rfl (fun h3 hS4 hE5 => ?_)
  refine go_s (pc' := 15) rfl rfl rfl rfl ?_
  refine go_sget (pc' := 16) (v := .ref 77) hS4 rfl rfl rfl (by decide) rfl rfl ?_
  refine go_s (pc' := 17) rfl rfl rfl rfl ?_
  refine go_s (pc' := 18) (st' := [.int 11, .int 848, .ref 77]) rfl rfl rfl rfl ?_
  refine go_s (pc' := 19) (st' := [.int 859, .ref 77]) rfl rfl rfl rfl ?_
  refine go_s (pc' := 20) rfl rfl rfl rfl ?_
  refine go_sget (pc' := 21) (v := .ref 84) hS4 rfl rfl rfl (by decide) rfl rfl ?_
  refine go_s (pc' := 22) rfl rfl rfl rfl ?_
  refine go_s (pc' := 23) (st' := [.int 1, .int 1, .ref 84, .int 859, .ref 77]) rfl rfl rfl rfl ?_
  refine go_s (pc' := 24) (st' := [.int 0, .ref 84, .int 859, .ref 77]) rfl rfl rfl rfl ?_
  refine go_sald (pc' := 25) (q := 0) (v := .int ((I 17 0) + 1)) hS4 rfl (tr_s hr (a := 84) rfl (by decide)) rfl rfl (by decide) rfl rfl ?_
  refine go_siast (pc' := 26) (q := 859) hS4 rfl (tr_as hr (by omega)) tbr_inj (Nat.le_of_ble_eq_true rfl) rfl (by decide) (by decide) (hW _ (by decide) (by decide)) rfl (fun h6 hS7 hE8 => ?_)
  have hE9 := sm_e_trans hE5 hE8
  refine go_s (pc' := 27) rfl rfl rfl rfl ?_
  refine go_sget (pc' := 28) (v := .ref 77) hS7 rfl rfl rfl (by decide) rfl rfl ?_
  refine go_s (pc' := 29) rfl rfl rfl rfl ?_
  refine go_s (pc' := 30) (st' := [.int 5, .int 848, .ref 77]) rfl rfl rfl rfl ?_
  refine go_s (pc' := 31) (st' := [.int 853, .ref 77]) rfl rfl rfl rfl ?_
  refine go_s (pc' := 32) (st' := [.int (-1), .int 853, .ref 77]) rfl rfl rfl rfl ?_
  refine go_siast (pc' := 33) (q := 853) hS7 rfl (tr_as hr (by omega)) tbr_inj (Nat.le_of_ble_eq_true rfl) rfl (by decide) (by decide) (hW _ (by decide) (by decide)) rfl (fun h10 hS11 hE12 => ?_)
  have hE13 := sm_e_trans hE9 hE12
  refine go_s (pc' := 34) rfl rfl rfl rfl ?_
  refine go_sget (pc' := 35) (v := .ref 85) hS11 rfl rfl rfl (by decide) rfl rfl ?_
  refine go_s (pc' := 36) rfl rfl rfl rfl ?_
  refine go_s (pc' := 37) (st' := [.int 1, .int 1, .ref 85]) rfl rfl rfl rfl ?_
  refine go_s (pc' := 38) (st' := [.int 0, .ref 85]) rfl rfl rfl rfl ?_
  refine go_s (pc' := 39) (st' := [.int 0, .int 0, .ref 85]) rfl rfl rfl rfl ?_
  refine go_szast (pc' := 40) (q := 0) hS11 rfl (tr_s hr (a := 85) rfl (by decide)) tbr_inj (Nat.le_of_ble_eq_true rfl) rfl (by decide) (by decide) rfl (hW _ (by decide) (by decide)) rfl (fun h14 hS15 hE16 => ?_)
  have hE17 := sm_e_trans hE13 hE16
  refine go_ret rfl rfl ?_
  change sm (tbr am (13 * ln) 77 5088) _ (uI (uI (uI (uI (jn I K) 17 0 ((I 17 0) + 1)) 51 859 ((I 17 0) + 1)) 51 853 (-1)) 18 0 0) Y at hS15
  rw [jn_lo (c := 17) (by decide), jn_hi (c := 51) (by decide), jn_hi (c := 51) (by decide), jn_lo (c := 18) (by decide)] at hS15
  exact ⟨rfl, hS15, hE17⟩
theorem rx_rT_1_3 {w : Nat → Bool} {d : Nat} {h : am_Hp} {I K : sm_I} {Y : sm_X} {am ln : Nat} (hr : rk am 77) (hS : sm (tbr am (13 * ln) 77 5088) h (jn I K) Y) (hln : ln < 2 ^ 20) (hW : ∀ a, 62 ≤ a → a ≤ 88 → w a = true) (e11 : I 11 1 = 3) (hd : 2 ≤ d) : am_Ev (am_prog w) d 175 [.ref 62, .int 1] h (fun r h' => r = none ∧ sm (tbr am (13 * ln) 77 5088) h' (jn (uI (uI I 17 0 (I 17 0 + 1)) 18 0 0) (uI (uI K 51 1283 (I 17 0 + 1)) 51 1277 (-1))) Y ∧ sm_e (tbr am (13 * ln) 77 5088) h h') := by
  obtain ⟨d, rfl⟩ : ∃ e, d = e + 1 := ⟨d - 1, by omega⟩
  refine ev_go rfl (Nat.le_of_ble_eq_true rfl) rfl ?_
  refine go_s (pc' := 1) rfl rfl rfl rfl ?_
  refine go_s (pc' := 2) rfl rfl rfl rfl ?_
  refine go_callV (pc' := 3) rfl rfl rfl (Nat.le_of_ble_eq_true rfl) rfl (sm_o hS rfl) rfl rfl rfl (rt_at_1 hr hS (Or.inr (Or.inr e11)) (fun z => absurd (e11.symm.trans z) (by decide)) (by omega)) (fun r h1 q2 => ?_)
  obtain ⟨rfl, rfl⟩ := q2
  rw [show rwi (jn I K) 1 = 3 by unfold rwi pn; rw [show (jn I K) 11 1 = 3 from e11]; rfl]
  show am_Go _ _ _ _ 3 _ [.int 1272] _ _
  refine go_s (pc' := 4) (lo' := [some (.ref 62), some (.int 1), some (.int 1272)]) rfl rfl rfl rfl ?_
  refine go_s (pc' := 5) rfl rfl rfl rfl ?_
  refine go_sget (pc' := 6) (v := .ref 84) hS rfl rfl rfl (by decide) rfl rfl ?_
  refine go_s (pc' := 7) rfl rfl rfl rfl ?_
  refine go_s (pc' := 8) (st' := [.int 1, .int 1, .ref 84]) rfl rfl rfl rfl ?_
  refine go_s (pc' := 9) (st' := [.int 0, .ref 84]) rfl rfl rfl rfl ?_
  refine go_s (pc' := 10) rfl rfl rfl rfl ?_
  refine go_sald (pc' := 11) (q := 0) (v := .int (I 17 0)) hS rfl (tr_s hr (a := 84) rfl (by decide)) rfl rfl (by decide) rfl rfl ?_
  refine go_s (pc' := 12) (st' := [.int 1, .int (I 17 0), .int 0, .ref 84]) rfl rfl rfl rfl ?_
  refine go_s (pc' := 13) rfl rfl rfl rfl ?_
  refine go_siast (pc' := 14) (q := 0) hS rfl (tr_s hr (a := 84) rfl (by decide)) tbr_inj (Nat.le_of_ble_eq_true rfl) rfl (by decide) (by decide) (hW _ (by decide) (by decide)) rfl (fun h3 hS4 hE5 => ?_)
  refine go_s (pc' := 15) rfl rfl rfl rfl ?_
  refine go_sget (pc' := 16) (v := .ref 77) hS4 rfl rfl rfl (by decide) rfl rfl ?_
  refine go_s (pc' := 17) rfl rfl rfl rfl ?_
  refine go_s (pc' := 18) (st' := [.int 11, .int 1272, .ref 77]) rfl rfl rfl rfl ?_
  refine go_s (pc' := 19) (st' := [.int 1283, .ref 77]) rfl rfl rfl rfl ?_
  refine go_s (pc' := 20) rfl rfl rfl rfl ?_
  refine go_sget (pc' := 21) (v := .ref 84) hS4 rfl rfl rfl (by decide) rfl rfl ?_
  refine go_s (pc' := 22) rfl rfl rfl rfl ?_
  refine go_s (pc' := 23) (st' := [.int 1, .int 1, .ref 84, .int 1283, .ref 77]) rfl rfl rfl rfl ?_
  refine go_s (pc' := 24) (st' := [.int 0, .ref 84, .int 1283, .ref 77]) rfl rfl rfl rfl ?_
  refine go_sald (pc' := 25) (q := 0) (v := .int ((I 17 0) + 1)) hS4 rfl (tr_s hr (a := 84) rfl (by decide)) rfl rfl (by decide) rfl rfl ?_
  refine go_siast (pc' := 26) (q := 1283) hS4 rfl (tr_as hr (by omega)) tbr_inj (Nat.le_of_ble_eq_true rfl) rfl (by decide) (by decide) (hW _ (by decide) (by decide)) rfl (fun h6 hS7 hE8 => ?_)
  have hE9 := sm_e_trans hE5 hE8
  refine go_s (pc' := 27) rfl rfl rfl rfl ?_
  refine go_sget (pc' := 28) (v := .ref 77) hS7 rfl rfl rfl (by decide) rfl rfl ?_
  refine go_s (pc' := 29) rfl rfl rfl rfl ?_
  refine go_s (pc' := 30) (st' := [.int 5, .int 1272, .ref 77]) rfl rfl rfl rfl ?_
  refine go_s (pc' := 31) (st' := [.int 1277, .ref 77]) rfl rfl rfl rfl ?_
  refine go_s (pc' := 32) (st' := [.int (-1), .int 1277, .ref 77]) rfl rfl rfl rfl ?_
  refine go_siast (pc' := 33) (q := 1277) hS7 rfl (tr_as hr (by omega)) tbr_inj (Nat.le_of_ble_eq_true rfl) rfl (by decide) (by decide) (hW _ (by decide) (by decide)) rfl (fun h10 hS11 hE12 => ?_)
  have hE13 := sm_e_trans hE9 hE12
  refine go_s (pc' := 34) rfl rfl rfl rfl ?_
  refine go_sget (pc' := 35) (v := .ref 85) hS11 rfl rfl rfl (by decide) rfl rfl ?_
  refine go_s (pc' := 36) rfl rfl rfl rfl ?_
  refine go_s (pc' := 37) (st' := [.int 1, .int 1, .ref 85]) rfl rfl rfl rfl ?_
  refine go_s (pc' := 38) (st' := [.int 0, .ref 85]) rfl rfl rfl rfl ?_
  refine go_s (pc' := 39) (st' := [.int 0, .int 0, .ref 85]) rfl rfl rfl rfl ?_
  refine go_szast (pc' := 40) (q := 0) hS11 rfl (tr_s hr (a := 85) rfl (by decide)) tbr_inj (Nat.le_of_ble_eq_true rfl) rfl (by decide) (by decide) rfl (hW _ (by decide) (by decide)) rfl (fun h14 hS15 hE16 => ?_)
  have hE17 := sm_e_trans hE13 hE16
  refine go_ret rfl rfl ?_
  change sm (tbr am (13 * ln) 77 5088) _ (uI (uI (uI (uI (jn I K) 17 0 ((I 17 0) + 1)) 51 1283 ((I 17 0) + 1)) 51 1277 (-1)) 18 0 0) Y at hS15
  rw [jn_lo (c := 17) (by decide), jn_hi (c := 51) (by decide), jn_hi (c := 51) (by decide), jn_lo (c := 18) (by decide)] at hS15
  exact ⟨rfl, hS15, hE17⟩
theorem rx_rT_2_2 {w : Nat → Bool} {d : Nat} {h : am_Hp} {I K : sm_I} {Y : sm_X} {am ln : Nat} (hr : rk am 77) (hS : sm (tbr am (13 * ln) 77 5088) h (jn I K) Y) (hln : ln < 2 ^ 20) (hW : ∀ a, 62 ≤ a → a ≤ 88 → w a = true) (e11 : I 11 2 = 2) (hd : 2 ≤ d) : am_Ev (am_prog w) d 175 [.ref 62, .int 2] h (fun r h' => r = none ∧ sm (tbr am (13 * ln) 77 5088) h' (jn (uI (uI I 17 1 (I 17 1 + 1)) 18 1 0) (uI (uI K 51 1707 (I 17 1 + 1)) 51 1701 (-1))) Y ∧ sm_e (tbr am (13 * ln) 77 5088) h h') := by
  obtain ⟨d, rfl⟩ : ∃ e, d = e + 1 := ⟨d - 1, by omega⟩
  refine ev_go rfl (Nat.le_of_ble_eq_true rfl) rfl ?_
  refine go_s (pc' := 1) rfl rfl rfl rfl ?_
  refine go_s (pc' := 2) rfl rfl rfl rfl ?_
  refine go_callV (pc' := 3) rfl rfl rfl (Nat.le_of_ble_eq_true rfl) rfl (sm_o hS rfl) rfl rfl rfl (rt_at_2 hr hS (Or.inr (Or.inl e11)) (fun z => absurd (e11.symm.trans z) (by decide)) (by omega)) (fun r h1 q2 => ?_)
  obtain ⟨rfl, rfl⟩ := q2
  rw [show rwi (jn I K) 2 = 4 by unfold rwi pn; rw [show (jn I K) 11 2 = 2 from e11]; rfl]
  show am_Go _ _ _ _ 3 _ [.int 1696] _ _
  refine go_s (pc' := 4) (lo' := [some (.ref 62), some (.int 2), some (.int 1696)]) rfl rfl rfl rfl ?_
  refine go_s (pc' := 5) rfl rfl rfl rfl ?_
  refine go_sget (pc' := 6) (v := .ref 84) hS rfl rfl rfl (by decide) rfl rfl ?_
  refine go_s (pc' := 7) rfl rfl rfl rfl ?_
  refine go_s (pc' := 8) (st' := [.int 1, .int 2, .ref 84]) rfl rfl rfl rfl ?_
  refine go_s (pc' := 9) (st' := [.int 1, .ref 84]) rfl rfl rfl rfl ?_
  refine go_s (pc' := 10) rfl rfl rfl rfl ?_
  refine go_sald (pc' := 11) (q := 1) (v := .int (I 17 1)) hS rfl (tr_s hr (a := 84) rfl (by decide)) rfl rfl (by decide) rfl rfl ?_
  refine go_s (pc' := 12) (st' := [.int 1, .int (I 17 1), .int 1, .ref 84]) rfl rfl rfl rfl ?_
  refine go_s (pc' := 13) rfl rfl rfl rfl ?_
  refine go_siast (pc' := 14) (q := 1) hS rfl (tr_s hr (a := 84) rfl (by decide)) tbr_inj (Nat.le_of_ble_eq_true rfl) rfl (by decide) (by decide) (hW _ (by decide) (by decide)) rfl (fun h3 hS4 hE5 => ?_)
  refine go_s (pc' := 15) rfl rfl rfl rfl ?_
  refine go_sget (pc' := 16) (v := .ref 77) hS4 rfl rfl rfl (by decide) rfl rfl ?_
  refine go_s (pc' := 17) rfl rfl rfl rfl ?_
  refine go_s (pc' := 18) (st' := [.int 11, .int 1696, .ref 77]) rfl rfl rfl rfl ?_
  refine go_s (pc' := 19) (st' := [.int 1707, .ref 77]) rfl rfl rfl rfl ?_
  refine go_s (pc' := 20) rfl rfl rfl rfl ?_
  refine go_sget (pc' := 21) (v := .ref 84) hS4 rfl rfl rfl (by decide) rfl rfl ?_
  refine go_s (pc' := 22) rfl rfl rfl rfl ?_
  refine go_s (pc' := 23) (st' := [.int 1, .int 2, .ref 84, .int 1707, .ref 77]) rfl rfl rfl rfl ?_
  refine go_s (pc' := 24) (st' := [.int 1, .ref 84, .int 1707, .ref 77]) rfl rfl rfl rfl ?_
  refine go_sald (pc' := 25) (q := 1) (v := .int ((I 17 1) + 1)) hS4 rfl (tr_s hr (a := 84) rfl (by decide)) rfl rfl (by decide) rfl rfl ?_
  refine go_siast (pc' := 26) (q := 1707) hS4 rfl (tr_as hr (by omega)) tbr_inj (Nat.le_of_ble_eq_true rfl) rfl (by decide) (by decide) (hW _ (by decide) (by decide)) rfl (fun h6 hS7 hE8 => ?_)
  have hE9 := sm_e_trans hE5 hE8
  refine go_s (pc' := 27) rfl rfl rfl rfl ?_
  refine go_sget (pc' := 28) (v := .ref 77) hS7 rfl rfl rfl (by decide) rfl rfl ?_
  refine go_s (pc' := 29) rfl rfl rfl rfl ?_
  refine go_s (pc' := 30) (st' := [.int 5, .int 1696, .ref 77]) rfl rfl rfl rfl ?_
  refine go_s (pc' := 31) (st' := [.int 1701, .ref 77]) rfl rfl rfl rfl ?_
  refine go_s (pc' := 32) (st' := [.int (-1), .int 1701, .ref 77]) rfl rfl rfl rfl ?_
  refine go_siast (pc' := 33) (q := 1701) hS7 rfl (tr_as hr (by omega)) tbr_inj (Nat.le_of_ble_eq_true rfl) rfl (by decide) (by decide) (hW _ (by decide) (by decide)) rfl (fun h10 hS11 hE12 => ?_)
  have hE13 := sm_e_trans hE9 hE12
  refine go_s (pc' := 34) rfl rfl rfl rfl ?_
  refine go_sget (pc' := 35) (v := .ref 85) hS11 rfl rfl rfl (by decide) rfl rfl ?_
  refine go_s (pc' := 36) rfl rfl rfl rfl ?_
  refine go_s (pc' := 37) (st' := [.int 1, .int 2, .ref 85]) rfl rfl rfl rfl ?_
  refine go_s (pc' := 38) (st' := [.int 1, .ref 85]) rfl rfl rfl rfl ?_
  refine go_s (pc' := 39) (st' := [.int 0, .int 1, .ref 85]) rfl rfl rfl rfl ?_
  refine go_szast (pc' := 40) (q := 1) hS11 rfl (tr_s hr (a := 85) rfl (by decide)) tbr_inj (Nat.le_of_ble_eq_true rfl) rfl (by decide) (by decide) rfl (hW _ (by decide) (by decide)) rfl (fun h14 hS15 hE16 => ?_)
  have hE17 := sm_e_trans hE13 hE16
  refine go_ret rfl rfl ?_
  change sm (tbr am (13 * ln) 77 5088) _ (uI (uI (uI (uI (jn I K) 17 1 ((I 17 1) + 1)) 51 1707 ((I 17 1) + 1)) 51 1701 (-1)) 18 1 0) Y at hS15
  rw [jn_lo (c := 17) (by decide), jn_hi (c := 51) (by decide), jn_hi (c := 51) (by decide), jn_lo (c := 18) (by decide)] at hS15
  exact ⟨rfl, hS15, hE17⟩
theorem rx_rT_2_3 {w : Nat → Bool} {d : Nat} {h : am_Hp} {I K : sm_I} {Y : sm_X} {am ln : Nat} (hr : rk am 77) (hS : sm (tbr am (13 * ln) 77 5088) h (jn I K) Y) (hln : ln < 2 ^ 20) (hW : ∀ a, 62 ≤ a → a ≤ 88 → w a = true) (e11 : I 11 2 = 3) (hd : 2 ≤ d) : am_Ev (am_prog w) d 175 [.ref 62, .int 2] h (fun r h' => r = none ∧ sm (tbr am (13 * ln) 77 5088) h' (jn (uI (uI I 17 1 (I 17 1 + 1)) 18 1 0) (uI (uI K 51 2131 (I 17 1 + 1)) 51 2125 (-1))) Y ∧ sm_e (tbr am (13 * ln) 77 5088) h h') := by
  obtain ⟨d, rfl⟩ : ∃ e, d = e + 1 := ⟨d - 1, by omega⟩
  refine ev_go rfl (Nat.le_of_ble_eq_true rfl) rfl ?_
  refine go_s (pc' := 1) rfl rfl rfl rfl ?_
  refine go_s (pc' := 2) rfl rfl rfl rfl ?_
  refine go_callV (pc' := 3) rfl rfl rfl (Nat.le_of_ble_eq_true rfl) rfl (sm_o hS rfl) rfl rfl rfl (rt_at_2 hr hS (Or.inr (Or.inr e11)) (fun z => absurd (e11.symm.trans z) (by decide)) (by omega)) (fun r h1 q2 => ?_)
  obtain ⟨rfl, rfl⟩ := q2
  rw [show rwi (jn I K) 2 = 5 by unfold rwi pn; rw [show (jn I K) 11 2 = 3 from e11]; rfl]
  show am_Go _ _ _ _ 3 _ [.int 2120] _ _
  refine go_s (pc' := 4) (lo' := [some (.ref 62), some (.int 2), some (.int 2120)]) rfl rfl rfl rfl ?_
  refine go_s (pc' := 5) rfl rfl rfl rfl ?_
  refine go_sget (pc' := 6) (v := .ref 84) hS rfl rfl rfl (by decide) rfl rfl ?_
  refine go_s (pc' := 7) rfl rfl rfl rfl ?_
  refine go_s (pc' := 8) (st' := [.int 1, .int 2, .ref 84]) rfl rfl rfl rfl ?_
  refine go_s (pc' := 9) (st' := [.int 1, .ref 84]) rfl rfl rfl rfl ?_
  refine go_s (pc' := 10) rfl rfl rfl rfl ?_
  refine go_sald (pc' := 11) (q := 1) (v := .int (I 17 1)) hS rfl (tr_s hr (a := 84) rfl (by decide)) rfl rfl (by decide) rfl rfl ?_
  refine go_s (pc' := 12) (st' := [.int 1, .int (I 17 1), .int 1, .ref 84]) rfl rfl rfl rfl ?_
  refine go_s (pc' := 13) rfl rfl rfl rfl ?_
  refine go_siast (pc' := 14) (q := 1) hS rfl (tr_s hr (a := 84) rfl (by decide)) tbr_inj (Nat.le_of_ble_eq_true rfl) rfl (by decide) (by decide) (hW _ (by decide) (by decide)) rfl (fun h3 hS4 hE5 => ?_)
  refine go_s (pc' := 15) rfl rfl rfl rfl ?_
  refine go_sget (pc' := 16) (v := .ref 77) hS4 rfl rfl rfl (by decide) rfl rfl ?_
  refine go_s (pc' := 17) rfl rfl rfl rfl ?_
  refine go_s (pc' := 18) (st' := [.int 11, .int 2120, .ref 77]) rfl rfl rfl rfl ?_
  refine go_s (pc' := 19) (st' := [.int 2131, .ref 77]) rfl rfl rfl rfl ?_
  refine go_s (pc' := 20) rfl rfl rfl rfl ?_
  refine go_sget (pc' := 21) (v := .ref 84) hS4 rfl rfl rfl (by decide) rfl rfl ?_
  refine go_s (pc' := 22) rfl rfl rfl rfl ?_
  refine go_s (pc' := 23) (st' := [.int 1, .int 2, .ref 84, .int 2131, .ref 77]) rfl rfl rfl rfl ?_
  refine go_s (pc' := 24) (st' := [.int 1, .ref 84, .int 2131, .ref 77]) rfl rfl rfl rfl ?_
  refine go_sald (pc' := 25) (q := 1) (v := .int ((I 17 1) + 1)) hS4 rfl (tr_s hr (a := 84) rfl (by decide)) rfl rfl (by decide) rfl rfl ?_
  refine go_siast (pc' := 26) (q := 2131) hS4 rfl (tr_as hr (by omega)) tbr_inj (Nat.le_of_ble_eq_true rfl) rfl (by decide) (by decide) (hW _ (by decide) (by decide)) rfl (fun h6 hS7 hE8 => ?_)
  have hE9 := sm_e_trans hE5 hE8
  refine go_s (pc' := 27) rfl rfl rfl rfl ?_
  refine go_sget (pc' := 28) (v := .ref 77) hS7 rfl rfl rfl (by decide) rfl rfl ?_
  refine go_s (pc' := 29) rfl rfl rfl rfl ?_
  refine go_s (pc' := 30) (st' := [.int 5, .int 2120, .ref 77]) rfl rfl rfl rfl ?_
  refine go_s (pc' := 31) (st' := [.int 2125, .ref 77]) rfl rfl rfl rfl ?_
  refine go_s (pc' := 32) (st' := [.int (-1), .int 2125, .ref 77]) rfl rfl rfl rfl ?_
  refine go_siast (pc' := 33) (q := 2125) hS7 rfl (tr_as hr (by omega)) tbr_inj (Nat.le_of_ble_eq_true rfl) rfl (by decide) (by decide) (hW _ (by decide) (by decide)) rfl (fun h10 hS11 hE12 => ?_)
  have hE13 := sm_e_trans hE9 hE12
  refine go_s (pc' := 34) rfl rfl rfl rfl ?_
  refine go_sget (pc' := 35) (v := .ref 85) hS11 rfl rfl rfl (by decide) rfl rfl ?_
  refine go_s (pc' := 36) rfl rfl rfl rfl ?_
  refine go_s (pc' := 37) (st' := [.int 1, .int 2, .ref 85]) rfl rfl rfl rfl ?_
  refine go_s (pc' := 38) (st' := [.int 1, .ref 85]) rfl rfl rfl rfl ?_
  refine go_s (pc' := 39) (st' := [.int 0, .int 1, .ref 85]) rfl rfl rfl rfl ?_
  refine go_szast (pc' := 40) (q := 1) hS11 rfl (tr_s hr (a := 85) rfl (by decide)) tbr_inj (Nat.le_of_ble_eq_true rfl) rfl (by decide) (by decide) rfl (hW _ (by decide) (by decide)) rfl (fun h14 hS15 hE16 => ?_)
  have hE17 := sm_e_trans hE13 hE16
  refine go_ret rfl rfl ?_
  change sm (tbr am (13 * ln) 77 5088) _ (uI (uI (uI (uI (jn I K) 17 1 ((I 17 1) + 1)) 51 2131 ((I 17 1) + 1)) 51 2125 (-1)) 18 1 0) Y at hS15
  rw [jn_lo (c := 17) (by decide), jn_hi (c := 51) (by decide), jn_hi (c := 51) (by decide), jn_lo (c := 18) (by decide)] at hS15
  exact ⟨rfl, hS15, hE17⟩
theorem ra_rs_0 {w : Nat → Bool} {d B R : Nat} {h : am_Hp} {I : sm_I} {Q : mQ} {Z : mZ} (hA : RA w B R [] true h (I, Q, Z)) (hR : R + 1 < 40000) {X : Nat} (hM : MID X (I, Q, Z)) (hX : X + 60 < 2 ^ 28) (hd : 6 ≤ d) : am_Ev (am_prog w) d 170 [.ref 62, .int 0] h (fun r h' => r = none ∧ RA w B (R + 1) [] true h' (rrs 0 (I, Q, Z))) := by
  obtain ⟨K, Y, am, ln, hS, hU⟩ := RA_u.mp hA
  change sm (tbr am (13 * ln) 77 5088) h (jn I K) Y at hS
  obtain ⟨hW, hWm, -, -, hr, -⟩ := id hU.1
  have hln := RU_ln hU (by omega)
  obtain ⟨d, rfl⟩ : ∃ e, d = e + 1 := ⟨d - 1, by omega⟩
  refine ev_go rfl (Nat.le_of_ble_eq_true rfl) rfl ?_
  have hp0 : prk I 0 := (hM.2.2.1 0 (by decide)).1
  have hp1 : prk I 1 := (hM.2.2.1 1 (by decide)).1
  have hp2 : prk I 2 := (hM.2.2.1 2 (by decide)).1
  by_cases u0 : I 0 0 = 0
  · skip
    by_cases u1 : I 0 1 = 0
    · skip
      have hf : fup I 0 = -1 := (if_pos u0).trans (if_pos u1)
      refine go_s (pc' := 1) rfl rfl rfl rfl ?_
      refine go_s (pc' := 2) rfl rfl rfl rfl ?_
      refine go_callV (pc' := 3) rfl rfl rfl (Nat.le_of_ble_eq_true rfl) rfl (sm_o hS rfl) rfl rfl rfl (rt_fh_0 hr hS (by omega)) (fun r h1 q2 => ?_)
      obtain ⟨rfl, rfl⟩ := q2
      rw [show fup (jn I K) 0 = (-1) from hf]
      show am_Go _ _ _ _ 3 _ [.int (-1)] _ _
      refine go_s (pc' := 4) (lo' := [some (.ref 62), some (.int 0), some (.int (-1)), none]) rfl rfl rfl rfl ?_
      refine go_s (pc' := 5) rfl rfl rfl rfl ?_
      refine go_s (pc' := 6) (st' := [.int 0, .ref 62]) rfl rfl rfl rfl ?_
      refine go_callV (pc' := 7) rfl rfl rfl (Nat.le_of_ble_eq_true rfl) rfl (sm_o hS rfl) rfl rfl rfl (rt_us_0 hr hS (by omega)) (fun r h3 q4 => ?_)
      obtain ⟨rfl, rfl⟩ := q4
      rw [show us (jn I K) 0 = us I 0 from rfl]
      cases u5 : us I 0
      · skip
        show am_Go _ _ _ _ 7 _ [.int 0] _ _
        refine go_ifP (t' := 10) (pc' := 8) rfl rfl rfl (fun _ => ?_) (fun (c : ¬ ((0 : Int32) = 0)) => absurd (by decide) c)
        refine go_s (pc' := 11) rfl rfl rfl rfl ?_
        refine go_s (pc' := 12) (st' := [.int 1, .ref 62]) rfl rfl rfl rfl ?_
        refine go_callV (pc' := 13) rfl rfl rfl (Nat.le_of_ble_eq_true rfl) rfl (sm_o hS rfl) rfl rfl rfl (rt_us_1 hr hS (by omega)) (fun r h6 q7 => ?_)
        obtain ⟨rfl, rfl⟩ := q7
        rw [show us (jn I K) 1 = us I 1 from rfl]
        cases u8 : us I 1
        · skip
          show am_Go _ _ _ _ 13 _ [.int 0] _ _
          refine go_ifP (t' := 16) (pc' := 14) rfl rfl rfl (fun _ => ?_) (fun (c : ¬ ((0 : Int32) = 0)) => absurd (by decide) c)
          refine go_s (pc' := 17) (st' := [.int (-1)]) rfl rfl rfl rfl ?_
          refine go_s (pc' := 18) (lo' := [some (.ref 62), some (.int 0), some (.int (-1)), some (.int (-1))]) rfl rfl rfl rfl ?_
          refine go_s (pc' := 19) rfl rfl rfl rfl ?_
          refine go_sget (pc' := 20) (v := .ref 78) hS rfl rfl rfl (by decide) rfl rfl ?_
          refine go_s (pc' := 21) rfl rfl rfl rfl ?_
          refine go_sald (pc' := 22) (q := 0) (v := .int (I 11 0)) hS rfl (tr_s hr (a := 78) rfl (by decide)) rfl rfl (by decide) rfl rfl ?_
          refine go_s (pc' := 23) (st' := [.int (-1), .int (I 11 0)]) rfl rfl rfl rfl ?_
          refine go_icmpP (t' := 32) (pc' := 24) rfl rfl rfl (fun (c9 : ¬ (I 11 0) = (-1)) => ?_) (fun (c9' : ¬ ¬ (I 11 0) = (-1)) => ?_)
          · skip
            refine go_ret rfl rfl ?_
            have hms : rrs 0 (I, Q, Z) = (I, Q, Z) := if_pos (Or.inl c9)
            rw [hms]
            exact ⟨rfl, RA_R (by omega) hA⟩
          · skip
            have c9 : (I 11 0) = (-1) := Decidable.not_not.mp c9'
            refine go_s (pc' := 25) rfl rfl rfl rfl ?_
            refine go_s (pc' := 26) (st' := [.int (-1), .int (-1)]) rfl rfl rfl rfl ?_
            refine go_icmpP (t' := 32) (pc' := 27) rfl rfl rfl (fun _ => ?_) (fun (c : ¬ (((-1) : Int32) = (-1))) => absurd (by decide) c)
            refine go_ret rfl rfl ?_
            have hms : rrs 0 (I, Q, Z) = (I, Q, Z) := if_pos (Or.inr (Or.inl hf))
            rw [hms]
            exact ⟨rfl, RA_R (by omega) hA⟩
        · skip
          show am_Go _ _ _ _ 13 _ [.int 1] _ _
          refine go_ifP (t' := 16) (pc' := 14) rfl rfl rfl (fun (c : (1 : Int32) = 0) => absurd c (by decide)) (fun _ => ?_)
          refine go_s (pc' := 15) (st' := [.int 1]) rfl rfl rfl rfl ?_
          refine go_s (pc' := 17) rfl rfl rfl rfl ?_
          refine go_s (pc' := 18) (lo' := [some (.ref 62), some (.int 0), some (.int (-1)), some (.int 1)]) rfl rfl rfl rfl ?_
          refine go_s (pc' := 19) rfl rfl rfl rfl ?_
          refine go_sget (pc' := 20) (v := .ref 78) hS rfl rfl rfl (by decide) rfl rfl ?_
          refine go_s (pc' := 21) rfl rfl rfl rfl ?_
          refine go_sald (pc' := 22) (q := 0) (v := .int (I 11 0)) hS rfl (tr_s hr (a := 78) rfl (by decide)) rfl rfl (by decide) rfl rfl ?_
          refine go_s (pc' := 23) (st' := [.int (-1), .int (I 11 0)]) rfl rfl rfl rfl ?_
          refine go_icmpP (t' := 32) (pc' := 24) rfl rfl rfl (fun (c10 : ¬ (I 11 0) = (-1)) => ?_) (fun (c10' : ¬ ¬ (I 11 0) = (-1)) => ?_)
          · skip
            refine go_ret rfl rfl ?_
            have hms : rrs 0 (I, Q, Z) = (I, Q, Z) := if_pos (Or.inl c10)
            rw [hms]
            exact ⟨rfl, RA_R (by omega) hA⟩
          · skip
            have c10 : (I 11 0) = (-1) := Decidable.not_not.mp c10'
            refine go_s (pc' := 25) rfl rfl rfl rfl ?_
            refine go_s (pc' := 26) (st' := [.int (-1), .int (-1)]) rfl rfl rfl rfl ?_
            refine go_icmpP (t' := 32) (pc' := 27) rfl rfl rfl (fun _ => ?_) (fun (c : ¬ (((-1) : Int32) = (-1))) => absurd (by decide) c)
            refine go_ret rfl rfl ?_
            have hms : rrs 0 (I, Q, Z) = (I, Q, Z) := if_pos (Or.inr (Or.inl hf))
            rw [hms]
            exact ⟨rfl, RA_R (by omega) hA⟩
      · skip
        show am_Go _ _ _ _ 7 _ [.int 1] _ _
        refine go_ifP (t' := 10) (pc' := 8) rfl rfl rfl (fun (c : (1 : Int32) = 0) => absurd c (by decide)) (fun _ => ?_)
        refine go_s (pc' := 9) (st' := [.int 0]) rfl rfl rfl rfl ?_
        refine go_s (pc' := 17) rfl rfl rfl rfl ?_
        refine go_s (pc' := 18) (lo' := [some (.ref 62), some (.int 0), some (.int (-1)), some (.int 0)]) rfl rfl rfl rfl ?_
        refine go_s (pc' := 19) rfl rfl rfl rfl ?_
        refine go_sget (pc' := 20) (v := .ref 78) hS rfl rfl rfl (by decide) rfl rfl ?_
        refine go_s (pc' := 21) rfl rfl rfl rfl ?_
        refine go_sald (pc' := 22) (q := 0) (v := .int (I 11 0)) hS rfl (tr_s hr (a := 78) rfl (by decide)) rfl rfl (by decide) rfl rfl ?_
        refine go_s (pc' := 23) (st' := [.int (-1), .int (I 11 0)]) rfl rfl rfl rfl ?_
        refine go_icmpP (t' := 32) (pc' := 24) rfl rfl rfl (fun (c11 : ¬ (I 11 0) = (-1)) => ?_) (fun (c11' : ¬ ¬ (I 11 0) = (-1)) => ?_)
        · skip
          refine go_ret rfl rfl ?_
          have hms : rrs 0 (I, Q, Z) = (I, Q, Z) := if_pos (Or.inl c11)
          rw [hms]
          exact ⟨rfl, RA_R (by omega) hA⟩
        · skip
          have c11 : (I 11 0) = (-1) := Decidable.not_not.mp c11'
          refine go_s (pc' := 25) rfl rfl rfl rfl ?_
          refine go_s (pc' := 26) (st' := [.int (-1), .int (-1)]) rfl rfl rfl rfl ?_
          refine go_icmpP (t' := 32) (pc' := 27) rfl rfl rfl (fun _ => ?_) (fun (c : ¬ (((-1) : Int32) = (-1))) => absurd (by decide) c)
          refine go_ret rfl rfl ?_
          have hms : rrs 0 (I, Q, Z) = (I, Q, Z) := if_pos (Or.inr (Or.inl hf))
          rw [hms]
          exact ⟨rfl, RA_R (by omega) hA⟩
    · skip
      have hf : fup I 0 = 1 := (if_pos u0).trans (if_neg u1)
      refine go_s (pc' := 1) rfl rfl rfl rfl ?_
      refine go_s (pc' := 2) rfl rfl rfl rfl ?_
      refine go_callV (pc' := 3) rfl rfl rfl (Nat.le_of_ble_eq_true rfl) rfl (sm_o hS rfl) rfl rfl rfl (rt_fh_0 hr hS (by omega)) (fun r h12 q13 => ?_)
      obtain ⟨rfl, rfl⟩ := q13
      rw [show fup (jn I K) 0 = 1 from hf]
      show am_Go _ _ _ _ 3 _ [.int 1] _ _
      refine go_s (pc' := 4) (lo' := [some (.ref 62), some (.int 0), some (.int 1), none]) rfl rfl rfl rfl ?_
      refine go_s (pc' := 5) rfl rfl rfl rfl ?_
      refine go_s (pc' := 6) (st' := [.int 0, .ref 62]) rfl rfl rfl rfl ?_
      refine go_callV (pc' := 7) rfl rfl rfl (Nat.le_of_ble_eq_true rfl) rfl (sm_o hS rfl) rfl rfl rfl (rt_us_0 hr hS (by omega)) (fun r h14 q15 => ?_)
      obtain ⟨rfl, rfl⟩ := q15
      rw [show us (jn I K) 0 = us I 0 from rfl]
      cases u16 : us I 0
      · skip
        show am_Go _ _ _ _ 7 _ [.int 0] _ _
        refine go_ifP (t' := 10) (pc' := 8) rfl rfl rfl (fun _ => ?_) (fun (c : ¬ ((0 : Int32) = 0)) => absurd (by decide) c)
        refine go_s (pc' := 11) rfl rfl rfl rfl ?_
        refine go_s (pc' := 12) (st' := [.int 1, .ref 62]) rfl rfl rfl rfl ?_
        refine go_callV (pc' := 13) rfl rfl rfl (Nat.le_of_ble_eq_true rfl) rfl (sm_o hS rfl) rfl rfl rfl (rt_us_1 hr hS (by omega)) (fun r h17 q18 => ?_)
        obtain ⟨rfl, rfl⟩ := q18
        rw [show us (jn I K) 1 = us I 1 from rfl]
        cases u19 : us I 1
        · skip
          show am_Go _ _ _ _ 13 _ [.int 0] _ _
          refine go_ifP (t' := 16) (pc' := 14) rfl rfl rfl (fun _ => ?_) (fun (c : ¬ ((0 : Int32) = 0)) => absurd (by decide) c)
          refine go_s (pc' := 17) (st' := [.int (-1)]) rfl rfl rfl rfl ?_
          refine go_s (pc' := 18) (lo' := [some (.ref 62), some (.int 0), some (.int 1), some (.int (-1))]) rfl rfl rfl rfl ?_
          refine go_s (pc' := 19) rfl rfl rfl rfl ?_
          refine go_sget (pc' := 20) (v := .ref 78) hS rfl rfl rfl (by decide) rfl rfl ?_
          refine go_s (pc' := 21) rfl rfl rfl rfl ?_
          refine go_sald (pc' := 22) (q := 0) (v := .int (I 11 0)) hS rfl (tr_s hr (a := 78) rfl (by decide)) rfl rfl (by decide) rfl rfl ?_
          refine go_s (pc' := 23) (st' := [.int (-1), .int (I 11 0)]) rfl rfl rfl rfl ?_
          refine go_icmpP (t' := 32) (pc' := 24) rfl rfl rfl (fun (c20 : ¬ (I 11 0) = (-1)) => ?_) (fun (c20' : ¬ ¬ (I 11 0) = (-1)) => ?_)
          · skip
            refine go_ret rfl rfl ?_
            have hms : rrs 0 (I, Q, Z) = (I, Q, Z) := if_pos (Or.inl c20)
            rw [hms]
            exact ⟨rfl, RA_R (by omega) hA⟩
          · skip
            have c20 : (I 11 0) = (-1) := Decidable.not_not.mp c20'
            refine go_s (pc' := 25) rfl rfl rfl rfl ?_
            refine go_s (pc' := 26) (st' := [.int (-1), .int 1]) rfl rfl rfl rfl ?_
            refine go_icmpP (t' := 32) (pc' := 27) rfl rfl rfl (fun (c : (1 : Int32) = (-1)) => absurd c (by decide)) (fun _ => ?_)
            refine go_s (pc' := 28) rfl rfl rfl rfl ?_
            refine go_ifP (t' := 33) (pc' := 29) rfl rfl rfl (fun (c : ¬ (0 : Int32) = 0) => absurd c (by decide)) (fun _ => ?_)
            refine go_s (pc' := 30) rfl rfl rfl rfl ?_
            refine go_s (pc' := 31) (st' := [.int (-1), .int (-1)]) rfl rfl rfl rfl ?_
            refine go_icmpP (t' := 33) (pc' := 32) rfl rfl rfl (fun (c : ¬ ((-1) : Int32) = (-1)) => absurd c (by decide)) (fun _ => ?_)
            refine go_ret rfl rfl ?_
            have hms : rrs 0 (I, Q, Z) = (I, Q, Z) := if_pos (Or.inr (Or.inr ⟨rfl, by show chs I = -1; unfold chs; rw [if_neg (by rw [u16]; decide), if_neg (by rw [u19]; decide)]⟩))
            rw [hms]
            exact ⟨rfl, RA_R (by omega) hA⟩
        · skip
          show am_Go _ _ _ _ 13 _ [.int 1] _ _
          refine go_ifP (t' := 16) (pc' := 14) rfl rfl rfl (fun (c : (1 : Int32) = 0) => absurd c (by decide)) (fun _ => ?_)
          refine go_s (pc' := 15) (st' := [.int 1]) rfl rfl rfl rfl ?_
          refine go_s (pc' := 17) rfl rfl rfl rfl ?_
          refine go_s (pc' := 18) (lo' := [some (.ref 62), some (.int 0), some (.int 1), some (.int 1)]) rfl rfl rfl rfl ?_
          refine go_s (pc' := 19) rfl rfl rfl rfl ?_
          refine go_sget (pc' := 20) (v := .ref 78) hS rfl rfl rfl (by decide) rfl rfl ?_
          refine go_s (pc' := 21) rfl rfl rfl rfl ?_
          refine go_sald (pc' := 22) (q := 0) (v := .int (I 11 0)) hS rfl (tr_s hr (a := 78) rfl (by decide)) rfl rfl (by decide) rfl rfl ?_
          refine go_s (pc' := 23) (st' := [.int (-1), .int (I 11 0)]) rfl rfl rfl rfl ?_
          refine go_icmpP (t' := 32) (pc' := 24) rfl rfl rfl (fun (c21 : ¬ (I 11 0) = (-1)) => ?_) (fun (c21' : ¬ ¬ (I 11 0) = (-1)) => ?_)
          · skip
            refine go_ret rfl rfl ?_
            have hms : rrs 0 (I, Q, Z) = (I, Q, Z) := if_pos (Or.inl c21)
            rw [hms]
            exact ⟨rfl, RA_R (by omega) hA⟩
          · skip
            have c21 : (I 11 0) = (-1) := Decidable.not_not.mp c21'
            refine go_s (pc' := 25) rfl rfl rfl rfl ?_
            refine go_s (pc' := 26) (st' := [.int (-1), .int 1]) rfl rfl rfl rfl ?_
            refine go_icmpP (t' := 32) (pc' := 27) rfl rfl rfl (fun (c : (1 : Int32) = (-1)) => absurd c (by decide)) (fun _ => ?_)
            refine go_s (pc' := 28) rfl rfl rfl rfl ?_
            refine go_ifP (t' := 33) (pc' := 29) rfl rfl rfl (fun (c : ¬ (0 : Int32) = 0) => absurd c (by decide)) (fun _ => ?_)
            refine go_s (pc' := 30) rfl rfl rfl rfl ?_
            refine go_s (pc' := 31) (st' := [.int (-1), .int 1]) rfl rfl rfl rfl ?_
            refine go_icmpP (t' := 33) (pc' := 32) rfl rfl rfl (fun _ => ?_) (fun (c : ¬ (¬ (1 : Int32) = (-1))) => absurd (by decide) c)
            refine go_s (pc' := 34) rfl rfl rfl rfl ?_
            refine go_sget (pc' := 35) (v := .ref 78) hS rfl rfl rfl (by decide) rfl rfl ?_
            refine go_s (pc' := 36) rfl rfl rfl rfl ?_
            refine go_s (pc' := 37) rfl rfl rfl rfl ?_
            refine go_siast (pc' := 38) (q := 0) hS rfl (tr_s hr (a := 78) rfl (by decide)) tbr_inj (Nat.le_of_ble_eq_true rfl) rfl (by decide) (by decide) (hW _ (by decide) (by decide)) rfl (fun h22 hS23 hE24 => ?_)
            refine go_s (pc' := 39) rfl rfl rfl rfl ?_
            refine go_sget (pc' := 40) (v := .ref 79) hS23 rfl rfl rfl (by decide) rfl rfl ?_
            refine go_s (pc' := 41) rfl rfl rfl rfl ?_
            refine go_s (pc' := 42) (st' := [.int (-1), .int 0, .ref 79]) rfl rfl rfl rfl ?_
            refine go_siast (pc' := 43) (q := 0) hS23 rfl (tr_s hr (a := 79) rfl (by decide)) tbr_inj (Nat.le_of_ble_eq_true rfl) rfl (by decide) (by decide) (hW _ (by decide) (by decide)) rfl (fun h25 hS26 hE27 => ?_)
            have hE28 := sm_e_trans hE24 hE27
            change sm (tbr am (13 * ln) 77 5088) _ (uI (uI (jn I K) 11 0 1) 12 0 (-1)) Y at hS26
            rw [jn_lo (c := 11) (by decide), jn_lo (c := 12) (by decide)] at hS26
            have hU29 : RU w B R [] true h25 am ln K ((uI (uI I 11 0 1) 12 0 (-1)), Q, Z) := RU_I (hE28) (I' := (uI (uI I 11 0 1) 12 0 (-1))) (fun _ => rfl) (fun _ => rfl) (Nat.le_refl _) hU
            have hS30 : sm (tbr am (13 * ln) 77 5088) _ (jn (uI (uI (uI I 11 0 1) 12 0 (-1)) 40 0 0) K) Y := sm_jg hr hS26 (fun c j _ n1 n2 n3 => uI_c n3)
            have hU31 : RU w B R [] true h25 am ln K ((uI (uI (uI I 11 0 1) 12 0 (-1)) 40 0 0), Q, Z) := RU_I (sm_e_refl (tbr am (13 * ln) 77 5088) _) (fun _ => rfl) (fun _ => rfl) (Nat.le_refl _) hU29
            refine go_s (pc' := 44) rfl rfl rfl rfl ?_
            refine go_s (pc' := 45) rfl rfl rfl rfl ?_
            have hU32 : RU w B R [] true h25 am ln K ((uI (uI (uI I 11 0 1) 12 0 (-1)) 40 0 0), Q, Z) := RU_I (sm_e_refl (tbr am (13 * ln) 77 5088) _) (I' := (uI (uI (uI I 11 0 1) 12 0 (-1)) 40 0 0)) (fun _ => rfl) (fun _ => rfl) (Nat.le_refl _) hU31
            refine go_callV (pc' := 46) rfl rfl rfl (Nat.le_of_ble_eq_true rfl) rfl (sm_o hS30 rfl) rfl rfl rfl (rt_stops_0 hr hS30 hW (by omega)) (fun r h33 q34 => ?_)
            obtain ⟨rfl, hS35, hE36⟩ := q34
            change sm (tbr am (13 * ln) 77 5088) _ (mstI 0 (jn (uI (uI (uI I 11 0 1) 12 0 (-1)) 40 0 0) K)) Y at hS35
            rw [mst_jn] at hS35
            have hU37 : RU w B R [] true h33 am ln K ((mstI 0 (uI (uI (uI I 11 0 1) 12 0 (-1)) 40 0 0)), Q, Z) := RU_I hE36 mst_24 mst_25 mst_stn hU32
            have ep38 : (mstI 0 (uI (uI (uI I 11 0 1) 12 0 (-1)) 40 0 0)) 11 0 = 1 := (congrFun mst_11 0).trans (show (uI (uI (uI I 11 0 1) 12 0 (-1)) 40 0 0) 11 0 = 1 from rfl)
            refine go_s (pc' := 47) rfl rfl rfl rfl ?_
            refine go_s (pc' := 48) (st' := [.int 2, .ref 62]) rfl rfl rfl rfl ?_
            refine go_s (pc' := 49) rfl rfl rfl rfl ?_
            refine go_s (pc' := 50) (st' := [.int 0, .ref 62]) rfl rfl rfl rfl ?_
            refine go_s (pc' := 51) rfl rfl rfl rfl ?_
            refine go_s (pc' := 52) (st' := [.int 2, .int 1, .int 0, .ref 62]) rfl rfl rfl rfl ?_
            refine go_s (pc' := 53) (st' := [.int 1, .int 0, .ref 62]) rfl rfl rfl rfl ?_
            refine go_s (pc' := 54) (st' := [.int 1, .ref 62]) rfl rfl rfl rfl ?_
            have hU39 : RU w B R [] true h33 am ln K ((mstI 0 (uI (uI (uI I 11 0 1) 12 0 (-1)) 40 0 0)), Q, Z) := RU_I (sm_e_refl (tbr am (13 * ln) 77 5088) _) (I' := (mstI 0 (uI (uI (uI I 11 0 1) 12 0 (-1)) 40 0 0))) (fun _ => rfl) (fun _ => rfl) (Nat.le_refl _) hU37
            refine go_callV (pc' := 55) rfl rfl rfl (Nat.le_of_ble_eq_true rfl) rfl (sm_o hS35 rfl) rfl rfl rfl (rs_cl hr hS35 hW (hW 77 (by decide) (by decide)) (r9 := 1) (by decide) (by decide) (by omega)) (fun r h40 q41 => ?_)
            obtain ⟨rfl, hS42, hE43⟩ := q41
            rw [clI_jn] at hS42
            obtain ⟨K9, eK9⟩ : ∃ z, z = clI K 1 424 := ⟨_, rfl⟩
            rw [← eK9] at hS42
            have f9 : rfr K K9 1 := by
              rw [eK9]
              exact clI_r (Nat.le_refl _)
            have z9 : ∀ j, j < 424 → K9 51 (424 * 1 + j) = 0 := fun j hj => by
              rw [eK9]
              exact cl_z hj
            have hR9 : RS K9 1 (fun _ => 0, [], []) := by
              rw [eK9]
              exact RS_cl
            refine go_s (pc' := 56) rfl rfl rfl rfl ?_
            refine go_ifP (t' := 61) (pc' := 57) rfl rfl rfl (fun (c : ¬ (0 : Int32) = 0) => absurd c (by decide)) (fun _ => ?_)
            refine go_s (pc' := 58) rfl rfl rfl rfl ?_
            refine go_s (pc' := 59) rfl rfl rfl rfl ?_
            have hus : us I 1 = true := u19
            have hLG : LG X (dsk I 1) := (hM.2.2.2.2.2.2.2.2.1 1 (by decide) (us_5 hM.2.1 (by decide) hus).2).1
            obtain ⟨-, hmk, hw35, -, -, hw0⟩ := GB_rs (by omega) hLG
            have hEK : EK (rdL (dsk I 1)) := hLG.choose_spec.2.2.2.2.2.2
            have hpn : prk (jn (mstI 0 (uI (uI (uI I 11 0 1) 12 0 (-1)) 40 0 0)) K9) 0 ∧ ¬ (jn (mstI 0 (uI (uI (uI I 11 0 1) 12 0 (-1)) 40 0 0)) K9) 11 0 = -1 ∧ rwi (jn (mstI 0 (uI (uI (uI I 11 0 1) 12 0 (-1)) 40 0 0)) K9) 0 = 1 := ⟨(Or.inr (Or.inr ep38)), (fun z => absurd (ep38.symm.trans z) (by decide)), rwi_l (v := 1) ep38 (by decide)⟩
            refine go_callV (pc' := 60) rfl rfl rfl (Nat.le_of_ble_eq_true rfl) rfl (sm_o hS42 rfl) rfl rfl rfl (rs_rst_1 hr hS42 hW (hW 77 (by decide) (by decide)) (rho := 1) hpn.1 hpn.2.1 hpn.2.2 (by decide) (by decide) (RS_jn hR9) hmk hEK (by omega)) (fun r h44 q45 => ?_)
            obtain ⟨rfl, K8, hS8, hE8, hR8, hf8⟩ := q45
            change RS K8 1 (mrs2 (dsk I 1)) at hR8
            rw [rch_jn, jn_lo (c := 22) (by decide), jn_lo (c := 22) (by decide), jn_lo (c := 16) (by decide), jn_lo (c := 23) (by decide)] at hf8
            have eK8 := jn_rfr hf8
            rw [eK8] at hS8
            have hE46 := sm_e_trans hE43 hE8
            have hst8 : stn (uI (uI (uI (uI (rchI 1 (mstI 0 (uI (uI (uI I 11 0 1) 12 0 (-1)) 40 0 0))) 22 0 0) 22 1 0) 16 0 2) 23 0 1) ≤ stn (mstI 0 (uI (uI (uI I 11 0 1) 12 0 (-1)) 40 0 0)) := by
              unfold stn
              rw [uI_c (by decide), uI_c (by decide), uI_c (by decide), uI_c (by decide), rch_o (by decide) (by decide)]
              exact Nat.le_refl _
            have h48 : ∀ c, c = 24 ∨ c = 25 → ∀ l, (uI (uI (uI (uI (rchI 1 (mstI 0 (uI (uI (uI I 11 0 1) 12 0 (-1)) 40 0 0))) 22 0 0) 22 1 0) 16 0 2) 23 0 1) c l = (mstI 0 (uI (uI (uI I 11 0 1) 12 0 (-1)) 40 0 0)) c l := fun c hc l => by
              rw [uI_c (by omega), uI_c (by omega), uI_c (by omega), uI_c (by omega), rch_o (by omega) (by omega)]
            have hU47 : RU w B R [] true h44 am ln K8 ((uI (uI (uI (uI (rchI 1 (mstI 0 (uI (uI (uI I 11 0 1) 12 0 (-1)) 40 0 0))) 22 0 0) 22 1 0) 16 0 2) 23 0 1), Q, uZ Z 1 (mrs2 (dsk I 1))) := RU_row (K' := K8) (s := (mrs2 (dsk I 1))) (by decide) (fun c j hc hn => by
              rw [hf8 c j hn, jn_ge hc]
              exact f9 c j hn) ⟨fun _ => ⟨hR8, by rw [hw0]; exact Nat.zero_le _, by omega, LKs_rs hmk⟩, fun h => absurd h (by decide)⟩ (RU_I hE46 (I' := (uI (uI (uI (uI (rchI 1 (mstI 0 (uI (uI (uI I 11 0 1) 12 0 (-1)) 40 0 0))) 22 0 0) 22 1 0) 16 0 2) 23 0 1)) (h48 24 (Or.inl rfl)) (h48 25 (Or.inr rfl)) hst8 hU39)
            have ep48 : (uI (uI (uI (uI (rchI 1 (mstI 0 (uI (uI (uI I 11 0 1) 12 0 (-1)) 40 0 0))) 22 0 0) 22 1 0) 16 0 2) 23 0 1) 11 0 = 1 := by
              rw [uI_c (by decide), uI_c (by decide), uI_c (by decide), uI_c (by decide), rch_o (by decide) (by decide)]
              exact ep38
            have e049 : (uI (uI (uI (uI (rchI 1 (mstI 0 (uI (uI (uI I 11 0 1) 12 0 (-1)) 40 0 0))) 22 0 0) 22 1 0) 16 0 2) 23 0 1) 0 0 = I 0 0 := by
              rw [uI_c (by decide), uI_c (by decide), uI_c (by decide), uI_c (by decide), rch_o (by decide) (by decide)]
              rfl
            refine go_s (pc' := 64) rfl rfl rfl rfl ?_
            have hch : chs I = 1 := by
              unfold chs
              rw [if_neg (by rw [u16]; decide), if_pos u19]
            have hN : rrsN 0 (I, Q, Z) = ((uI (uI (uI (uI (rchI 1 (mstI 0 (uI (uI (uI I 11 0 1) 12 0 (-1)) 40 0 0))) 22 0 0) 22 1 0) 16 0 2) 23 0 1), Q, (uZ Z 1 (mrs2 (dsk I 1)))) := by
              unfold rrsN rrs1
              rw [if_pos rfl, if_pos rfl, show fup ((I, Q, Z) : mM).1 0 = 1 from hf, show (chs (((uI (uI (uI I 11 0 1) 12 0 (-1)) 40 0 0), Q, Z) : mM).1).toNatClampNeg = 1 by rw [show chs (((uI (uI (uI I 11 0 1) 12 0 (-1)) 40 0 0), Q, Z) : mM).1 = 1 from hch]; rfl]
              unfold rrsS
              rw [show rwi (((uI (uI (uI I 11 0 1) 12 0 (-1)) 40 0 0), Q, Z) : mM).1 0 = 1 from rwi_l (v := 1) rfl (by decide)]
              rfl
            have hMN := MID_rN (k := 0) (by omega) hM (by decide) c21 (show ¬ fup I 0 = -1 by rw [hf]; decide) (fun _ => show ¬ chs I = -1 by rw [hch]; decide)
            have hnc : ¬ (¬ ((I, Q, Z) : mM).1 11 0 = -1 ∨ fup ((I, Q, Z) : mM).1 (if 0 = 0 then 0 else 2) = -1 ∨ (0 = 0 ∧ chs ((I, Q, Z) : mM).1 = -1)) := fun z => z.elim (fun y => y c21) (fun z => z.elim (fun y => absurd (hf.symm.trans y) (by decide)) (fun y => absurd (hch.symm.trans y.2) (by decide)))
            refine go_s (pc' := 65) rfl rfl rfl rfl ?_
            refine go_sget (pc' := 66) (v := .ref 63) hS8 rfl rfl rfl (by decide) rfl rfl ?_
            refine go_s (pc' := 67) rfl rfl rfl rfl ?_
            refine go_callS (pc' := 68) rfl rfl rfl (Nat.le_of_ble_eq_true rfl) rfl rfl rfl (rt_oh_1 (by omega)) (fun r h50 q51 => ?_)
            obtain ⟨rfl, rfl⟩ := q51
            refine go_sald (pc' := 69) (q := 0) (v := .int (I 0 0)) hS8 rfl (tr_s hr (a := 63) rfl (by decide)) rfl rfl (by decide) (congrArg Value.int e049) rfl ?_
            refine go_ifP (t' := 73) (pc' := 70) rfl rfl rfl (fun (c52 : (I 0 0) = 0) => ?_) (fun (c52 : ¬ (I 0 0) = 0) => ?_)
            · skip
              refine go_ret rfl rfl ?_
              have hA53 : RA w B R [] true h50 ((uI (uI (uI (uI (rchI 1 (mstI 0 (uI (uI (uI I 11 0 1) 12 0 (-1)) 40 0 0))) 22 0 0) 22 1 0) 16 0 2) 23 0 1), Q, (uZ Z 1 (mrs2 (dsk I 1)))) := RA_u.mpr ⟨_, _, _, _, hS8, hU47⟩
              have hms : rrs 0 (I, Q, Z) = ((uI (uI (uI (uI (rchI 1 (mstI 0 (uI (uI (uI I 11 0 1) 12 0 (-1)) 40 0 0))) 22 0 0) 22 1 0) 16 0 2) 23 0 1), Q, (uZ Z 1 (mrs2 (dsk I 1)))) := by
                unfold rrs
                rw [if_neg hnc, hN, show ohn (((uI (uI (uI (uI (rchI 1 (mstI 0 (uI (uI (uI I 11 0 1) 12 0 (-1)) 40 0 0))) 22 0 0) 22 1 0) 16 0 2) 23 0 1), Q, (uZ Z 1 (mrs2 (dsk I 1)))) : mM).1 0 = 0 from ohn_l (v := 1) ep48 (by decide)]
                exact if_pos c52
              rw [hms]
              exact ⟨rfl, RA_R (by omega) hA53⟩
            · skip
              refine go_s (pc' := 71) rfl rfl rfl rfl ?_
              refine go_s (pc' := 72) rfl rfl rfl rfl ?_
              have h5 : sq Q + hc [] true ≤ 5 := by
                have z := hMN.2
                rw [hN] at z
                have z2 : sq Q ≤ 5 := z
                have z3 : hc [] true = 0 := rfl
                omega
              have hU54 : RU w B R [] true h50 am ln K8 ((uI (uI (uI (uI (rchI 1 (mstI 0 (uI (uI (uI I 11 0 1) 12 0 (-1)) 40 0 0))) 22 0 0) 22 1 0) 16 0 2) 23 0 1), Q, (uZ Z 1 (mrs2 (dsk I 1)))) := RU_I (sm_e_refl (tbr am (13 * ln) 77 5088) _) (I' := (uI (uI (uI (uI (rchI 1 (mstI 0 (uI (uI (uI I 11 0 1) 12 0 (-1)) 40 0 0))) 22 0 0) 22 1 0) 16 0 2) 23 0 1)) (fun _ => rfl) (fun _ => rfl) (Nat.le_refl _) hU47
              have hA55 : RA w B R [] true h50 ((uI (uI (uI (uI (rchI 1 (mstI 0 (uI (uI (uI I 11 0 1) 12 0 (-1)) 40 0 0))) 22 0 0) 22 1 0) 16 0 2) 23 0 1), Q, (uZ Z 1 (mrs2 (dsk I 1)))) := RA_u.mpr ⟨_, _, _, _, hS8, hU54⟩
              refine go_callV (pc' := 73) rfl rfl rfl (Nat.le_of_ble_eq_true rfl) rfl (sm_o hS8 rfl) rfl rfl rfl (ra_sc_0 hA55 (by omega) (Or.inr (Or.inr ep48)) (fun z => absurd (ep48.symm.trans z) (by decide)) h5 (by omega)) (fun r h56 q57 => ?_)
              obtain ⟨rfl, hA58⟩ := q57
              refine go_ret rfl rfl ?_
              have hms : rrs 0 (I, Q, Z) = rsc 0 ((uI (uI (uI (uI (rchI 1 (mstI 0 (uI (uI (uI I 11 0 1) 12 0 (-1)) 40 0 0))) 22 0 0) 22 1 0) 16 0 2) 23 0 1), Q, (uZ Z 1 (mrs2 (dsk I 1)))) := by
                unfold rrs
                rw [if_neg hnc, hN, show ohn (((uI (uI (uI (uI (rchI 1 (mstI 0 (uI (uI (uI I 11 0 1) 12 0 (-1)) 40 0 0))) 22 0 0) 22 1 0) 16 0 2) 23 0 1), Q, (uZ Z 1 (mrs2 (dsk I 1)))) : mM).1 0 = 0 from ohn_l (v := 1) ep48 (by decide)]
                exact if_neg c52
              rw [hms]
              exact ⟨rfl, hA58⟩
      · skip
        show am_Go _ _ _ _ 7 _ [.int 1] _ _
        refine go_ifP (t' := 10) (pc' := 8) rfl rfl rfl (fun (c : (1 : Int32) = 0) => absurd c (by decide)) (fun _ => ?_)
        refine go_s (pc' := 9) (st' := [.int 0]) rfl rfl rfl rfl ?_
        refine go_s (pc' := 17) rfl rfl rfl rfl ?_
        refine go_s (pc' := 18) (lo' := [some (.ref 62), some (.int 0), some (.int 1), some (.int 0)]) rfl rfl rfl rfl ?_
        refine go_s (pc' := 19) rfl rfl rfl rfl ?_
        refine go_sget (pc' := 20) (v := .ref 78) hS rfl rfl rfl (by decide) rfl rfl ?_
        refine go_s (pc' := 21) rfl rfl rfl rfl ?_
        refine go_sald (pc' := 22) (q := 0) (v := .int (I 11 0)) hS rfl (tr_s hr (a := 78) rfl (by decide)) rfl rfl (by decide) rfl rfl ?_
        refine go_s (pc' := 23) (st' := [.int (-1), .int (I 11 0)]) rfl rfl rfl rfl ?_
        refine go_icmpP (t' := 32) (pc' := 24) rfl rfl rfl (fun (c59 : ¬ (I 11 0) = (-1)) => ?_) (fun (c59' : ¬ ¬ (I 11 0) = (-1)) => ?_)
        · skip
          refine go_ret rfl rfl ?_
          have hms : rrs 0 (I, Q, Z) = (I, Q, Z) := if_pos (Or.inl c59)
          rw [hms]
          exact ⟨rfl, RA_R (by omega) hA⟩
        · skip
          have c59 : (I 11 0) = (-1) := Decidable.not_not.mp c59'
          refine go_s (pc' := 25) rfl rfl rfl rfl ?_
          refine go_s (pc' := 26) (st' := [.int (-1), .int 1]) rfl rfl rfl rfl ?_
          refine go_icmpP (t' := 32) (pc' := 27) rfl rfl rfl (fun (c : (1 : Int32) = (-1)) => absurd c (by decide)) (fun _ => ?_)
          refine go_s (pc' := 28) rfl rfl rfl rfl ?_
          refine go_ifP (t' := 33) (pc' := 29) rfl rfl rfl (fun (c : ¬ (0 : Int32) = 0) => absurd c (by decide)) (fun _ => ?_)
          refine go_s (pc' := 30) rfl rfl rfl rfl ?_
          refine go_s (pc' := 31) (st' := [.int (-1), .int 0]) rfl rfl rfl rfl ?_
          refine go_icmpP (t' := 33) (pc' := 32) rfl rfl rfl (fun _ => ?_) (fun (c : ¬ (¬ (0 : Int32) = (-1))) => absurd (by decide) c)
          refine go_s (pc' := 34) rfl rfl rfl rfl ?_
          refine go_sget (pc' := 35) (v := .ref 78) hS rfl rfl rfl (by decide) rfl rfl ?_
          refine go_s (pc' := 36) rfl rfl rfl rfl ?_
          refine go_s (pc' := 37) rfl rfl rfl rfl ?_
          refine go_siast (pc' := 38) (q := 0) hS rfl (tr_s hr (a := 78) rfl (by decide)) tbr_inj (Nat.le_of_ble_eq_true rfl) rfl (by decide) (by decide) (hW _ (by decide) (by decide)) rfl (fun h60 hS61 hE62 => ?_)
          refine go_s (pc' := 39) rfl rfl rfl rfl ?_
          refine go_sget (pc' := 40) (v := .ref 79) hS61 rfl rfl rfl (by decide) rfl rfl ?_
          refine go_s (pc' := 41) rfl rfl rfl rfl ?_
          refine go_s (pc' := 42) (st' := [.int (-1), .int 0, .ref 79]) rfl rfl rfl rfl ?_
          refine go_siast (pc' := 43) (q := 0) hS61 rfl (tr_s hr (a := 79) rfl (by decide)) tbr_inj (Nat.le_of_ble_eq_true rfl) rfl (by decide) (by decide) (hW _ (by decide) (by decide)) rfl (fun h63 hS64 hE65 => ?_)
          have hE66 := sm_e_trans hE62 hE65
          change sm (tbr am (13 * ln) 77 5088) _ (uI (uI (jn I K) 11 0 1) 12 0 (-1)) Y at hS64
          rw [jn_lo (c := 11) (by decide), jn_lo (c := 12) (by decide)] at hS64
          have hU67 : RU w B R [] true h63 am ln K ((uI (uI I 11 0 1) 12 0 (-1)), Q, Z) := RU_I (hE66) (I' := (uI (uI I 11 0 1) 12 0 (-1))) (fun _ => rfl) (fun _ => rfl) (Nat.le_refl _) hU
          have hS68 : sm (tbr am (13 * ln) 77 5088) _ (jn (uI (uI (uI I 11 0 1) 12 0 (-1)) 40 0 0) K) Y := sm_jg hr hS64 (fun c j _ n1 n2 n3 => uI_c n3)
          have hU69 : RU w B R [] true h63 am ln K ((uI (uI (uI I 11 0 1) 12 0 (-1)) 40 0 0), Q, Z) := RU_I (sm_e_refl (tbr am (13 * ln) 77 5088) _) (fun _ => rfl) (fun _ => rfl) (Nat.le_refl _) hU67
          refine go_s (pc' := 44) rfl rfl rfl rfl ?_
          refine go_s (pc' := 45) rfl rfl rfl rfl ?_
          have hU70 : RU w B R [] true h63 am ln K ((uI (uI (uI I 11 0 1) 12 0 (-1)) 40 0 0), Q, Z) := RU_I (sm_e_refl (tbr am (13 * ln) 77 5088) _) (I' := (uI (uI (uI I 11 0 1) 12 0 (-1)) 40 0 0)) (fun _ => rfl) (fun _ => rfl) (Nat.le_refl _) hU69
          refine go_callV (pc' := 46) rfl rfl rfl (Nat.le_of_ble_eq_true rfl) rfl (sm_o hS68 rfl) rfl rfl rfl (rt_stops_0 hr hS68 hW (by omega)) (fun r h71 q72 => ?_)
          obtain ⟨rfl, hS73, hE74⟩ := q72
          change sm (tbr am (13 * ln) 77 5088) _ (mstI 0 (jn (uI (uI (uI I 11 0 1) 12 0 (-1)) 40 0 0) K)) Y at hS73
          rw [mst_jn] at hS73
          have hU75 : RU w B R [] true h71 am ln K ((mstI 0 (uI (uI (uI I 11 0 1) 12 0 (-1)) 40 0 0)), Q, Z) := RU_I hE74 mst_24 mst_25 mst_stn hU70
          have ep76 : (mstI 0 (uI (uI (uI I 11 0 1) 12 0 (-1)) 40 0 0)) 11 0 = 1 := (congrFun mst_11 0).trans (show (uI (uI (uI I 11 0 1) 12 0 (-1)) 40 0 0) 11 0 = 1 from rfl)
          refine go_s (pc' := 47) rfl rfl rfl rfl ?_
          refine go_s (pc' := 48) (st' := [.int 2, .ref 62]) rfl rfl rfl rfl ?_
          refine go_s (pc' := 49) rfl rfl rfl rfl ?_
          refine go_s (pc' := 50) (st' := [.int 0, .ref 62]) rfl rfl rfl rfl ?_
          refine go_s (pc' := 51) rfl rfl rfl rfl ?_
          refine go_s (pc' := 52) (st' := [.int 2, .int 1, .int 0, .ref 62]) rfl rfl rfl rfl ?_
          refine go_s (pc' := 53) (st' := [.int 1, .int 0, .ref 62]) rfl rfl rfl rfl ?_
          refine go_s (pc' := 54) (st' := [.int 1, .ref 62]) rfl rfl rfl rfl ?_
          have hU77 : RU w B R [] true h71 am ln K ((mstI 0 (uI (uI (uI I 11 0 1) 12 0 (-1)) 40 0 0)), Q, Z) := RU_I (sm_e_refl (tbr am (13 * ln) 77 5088) _) (I' := (mstI 0 (uI (uI (uI I 11 0 1) 12 0 (-1)) 40 0 0))) (fun _ => rfl) (fun _ => rfl) (Nat.le_refl _) hU75
          refine go_callV (pc' := 55) rfl rfl rfl (Nat.le_of_ble_eq_true rfl) rfl (sm_o hS73 rfl) rfl rfl rfl (rs_cl hr hS73 hW (hW 77 (by decide) (by decide)) (r9 := 1) (by decide) (by decide) (by omega)) (fun r h78 q79 => ?_)
          obtain ⟨rfl, hS80, hE81⟩ := q79
          rw [clI_jn] at hS80
          obtain ⟨K9, eK9⟩ : ∃ z, z = clI K 1 424 := ⟨_, rfl⟩
          rw [← eK9] at hS80
          have f9 : rfr K K9 1 := by
            rw [eK9]
            exact clI_r (Nat.le_refl _)
          have z9 : ∀ j, j < 424 → K9 51 (424 * 1 + j) = 0 := fun j hj => by
            rw [eK9]
            exact cl_z hj
          have hR9 : RS K9 1 (fun _ => 0, [], []) := by
            rw [eK9]
            exact RS_cl
          refine go_s (pc' := 56) rfl rfl rfl rfl ?_
          refine go_ifP (t' := 61) (pc' := 57) rfl rfl rfl (fun (c : ¬ (0 : Int32) = 0) => absurd c (by decide)) (fun _ => ?_)
          refine go_s (pc' := 58) rfl rfl rfl rfl ?_
          refine go_s (pc' := 59) rfl rfl rfl rfl ?_
          have hus : us I 0 = true := u16
          have hLG : LG X (dsk I 0) := (hM.2.2.2.2.2.2.2.2.1 0 (by decide) (us_5 hM.2.1 (by decide) hus).2).1
          obtain ⟨-, hmk, hw35, -, -, hw0⟩ := GB_rs (by omega) hLG
          have hEK : EK (rdL (dsk I 0)) := hLG.choose_spec.2.2.2.2.2.2
          have hpn : prk (jn (mstI 0 (uI (uI (uI I 11 0 1) 12 0 (-1)) 40 0 0)) K9) 0 ∧ ¬ (jn (mstI 0 (uI (uI (uI I 11 0 1) 12 0 (-1)) 40 0 0)) K9) 11 0 = -1 ∧ rwi (jn (mstI 0 (uI (uI (uI I 11 0 1) 12 0 (-1)) 40 0 0)) K9) 0 = 1 := ⟨(Or.inr (Or.inr ep76)), (fun z => absurd (ep76.symm.trans z) (by decide)), rwi_l (v := 1) ep76 (by decide)⟩
          refine go_callV (pc' := 60) rfl rfl rfl (Nat.le_of_ble_eq_true rfl) rfl (sm_o hS80 rfl) rfl rfl rfl (rs_rst_0 hr hS80 hW (hW 77 (by decide) (by decide)) (rho := 1) hpn.1 hpn.2.1 hpn.2.2 (by decide) (by decide) (RS_jn hR9) hmk hEK (by omega)) (fun r h82 q83 => ?_)
          obtain ⟨rfl, K8, hS8, hE8, hR8, hf8⟩ := q83
          change RS K8 1 (mrs2 (dsk I 0)) at hR8
          rw [rch_jn, jn_lo (c := 22) (by decide), jn_lo (c := 22) (by decide), jn_lo (c := 16) (by decide), jn_lo (c := 23) (by decide)] at hf8
          have eK8 := jn_rfr hf8
          rw [eK8] at hS8
          have hE84 := sm_e_trans hE81 hE8
          have hst8 : stn (uI (uI (uI (uI (rchI 0 (mstI 0 (uI (uI (uI I 11 0 1) 12 0 (-1)) 40 0 0))) 22 0 0) 22 1 0) 16 0 2) 23 0 1) ≤ stn (mstI 0 (uI (uI (uI I 11 0 1) 12 0 (-1)) 40 0 0)) := by
            unfold stn
            rw [uI_c (by decide), uI_c (by decide), uI_c (by decide), uI_c (by decide), rch_o (by decide) (by decide)]
            exact Nat.le_refl _
          have h48 : ∀ c, c = 24 ∨ c = 25 → ∀ l, (uI (uI (uI (uI (rchI 0 (mstI 0 (uI (uI (uI I 11 0 1) 12 0 (-1)) 40 0 0))) 22 0 0) 22 1 0) 16 0 2) 23 0 1) c l = (mstI 0 (uI (uI (uI I 11 0 1) 12 0 (-1)) 40 0 0)) c l := fun c hc l => by
            rw [uI_c (by omega), uI_c (by omega), uI_c (by omega), uI_c (by omega), rch_o (by omega) (by omega)]
          have hU85 : RU w B R [] true h82 am ln K8 ((uI (uI (uI (uI (rchI 0 (mstI 0 (uI (uI (uI I 11 0 1) 12 0 (-1)) 40 0 0))) 22 0 0) 22 1 0) 16 0 2) 23 0 1), Q, uZ Z 1 (mrs2 (dsk I 0))) := RU_row (K' := K8) (s := (mrs2 (dsk I 0))) (by decide) (fun c j hc hn => by
            rw [hf8 c j hn, jn_ge hc]
            exact f9 c j hn) ⟨fun _ => ⟨hR8, by rw [hw0]; exact Nat.zero_le _, by omega, LKs_rs hmk⟩, fun h => absurd h (by decide)⟩ (RU_I hE84 (I' := (uI (uI (uI (uI (rchI 0 (mstI 0 (uI (uI (uI I 11 0 1) 12 0 (-1)) 40 0 0))) 22 0 0) 22 1 0) 16 0 2) 23 0 1)) (h48 24 (Or.inl rfl)) (h48 25 (Or.inr rfl)) hst8 hU77)
          have ep86 : (uI (uI (uI (uI (rchI 0 (mstI 0 (uI (uI (uI I 11 0 1) 12 0 (-1)) 40 0 0))) 22 0 0) 22 1 0) 16 0 2) 23 0 1) 11 0 = 1 := by
            rw [uI_c (by decide), uI_c (by decide), uI_c (by decide), uI_c (by decide), rch_o (by decide) (by decide)]
            exact ep76
          have e087 : (uI (uI (uI (uI (rchI 0 (mstI 0 (uI (uI (uI I 11 0 1) 12 0 (-1)) 40 0 0))) 22 0 0) 22 1 0) 16 0 2) 23 0 1) 0 0 = I 0 0 := by
            rw [uI_c (by decide), uI_c (by decide), uI_c (by decide), uI_c (by decide), rch_o (by decide) (by decide)]
            rfl
          refine go_s (pc' := 64) rfl rfl rfl rfl ?_
          have hch : chs I = 0 := by
            unfold chs
            rw [if_pos u16]
          have hN : rrsN 0 (I, Q, Z) = ((uI (uI (uI (uI (rchI 0 (mstI 0 (uI (uI (uI I 11 0 1) 12 0 (-1)) 40 0 0))) 22 0 0) 22 1 0) 16 0 2) 23 0 1), Q, (uZ Z 1 (mrs2 (dsk I 0)))) := by
            unfold rrsN rrs1
            rw [if_pos rfl, if_pos rfl, show fup ((I, Q, Z) : mM).1 0 = 1 from hf, show (chs (((uI (uI (uI I 11 0 1) 12 0 (-1)) 40 0 0), Q, Z) : mM).1).toNatClampNeg = 0 by rw [show chs (((uI (uI (uI I 11 0 1) 12 0 (-1)) 40 0 0), Q, Z) : mM).1 = 0 from hch]; rfl]
            unfold rrsS
            rw [show rwi (((uI (uI (uI I 11 0 1) 12 0 (-1)) 40 0 0), Q, Z) : mM).1 0 = 1 from rwi_l (v := 1) rfl (by decide)]
            rfl
          have hMN := MID_rN (k := 0) (by omega) hM (by decide) c59 (show ¬ fup I 0 = -1 by rw [hf]; decide) (fun _ => show ¬ chs I = -1 by rw [hch]; decide)
          have hnc : ¬ (¬ ((I, Q, Z) : mM).1 11 0 = -1 ∨ fup ((I, Q, Z) : mM).1 (if 0 = 0 then 0 else 2) = -1 ∨ (0 = 0 ∧ chs ((I, Q, Z) : mM).1 = -1)) := fun z => z.elim (fun y => y c59) (fun z => z.elim (fun y => absurd (hf.symm.trans y) (by decide)) (fun y => absurd (hch.symm.trans y.2) (by decide)))
          refine go_s (pc' := 65) rfl rfl rfl rfl ?_
          refine go_sget (pc' := 66) (v := .ref 63) hS8 rfl rfl rfl (by decide) rfl rfl ?_
          refine go_s (pc' := 67) rfl rfl rfl rfl ?_
          refine go_callS (pc' := 68) rfl rfl rfl (Nat.le_of_ble_eq_true rfl) rfl rfl rfl (rt_oh_1 (by omega)) (fun r h88 q89 => ?_)
          obtain ⟨rfl, rfl⟩ := q89
          refine go_sald (pc' := 69) (q := 0) (v := .int (I 0 0)) hS8 rfl (tr_s hr (a := 63) rfl (by decide)) rfl rfl (by decide) (congrArg Value.int e087) rfl ?_
          refine go_ifP (t' := 73) (pc' := 70) rfl rfl rfl (fun (c90 : (I 0 0) = 0) => ?_) (fun (c90 : ¬ (I 0 0) = 0) => ?_)
          · skip
            refine go_ret rfl rfl ?_
            have hA91 : RA w B R [] true h88 ((uI (uI (uI (uI (rchI 0 (mstI 0 (uI (uI (uI I 11 0 1) 12 0 (-1)) 40 0 0))) 22 0 0) 22 1 0) 16 0 2) 23 0 1), Q, (uZ Z 1 (mrs2 (dsk I 0)))) := RA_u.mpr ⟨_, _, _, _, hS8, hU85⟩
            have hms : rrs 0 (I, Q, Z) = ((uI (uI (uI (uI (rchI 0 (mstI 0 (uI (uI (uI I 11 0 1) 12 0 (-1)) 40 0 0))) 22 0 0) 22 1 0) 16 0 2) 23 0 1), Q, (uZ Z 1 (mrs2 (dsk I 0)))) := by
              unfold rrs
              rw [if_neg hnc, hN, show ohn (((uI (uI (uI (uI (rchI 0 (mstI 0 (uI (uI (uI I 11 0 1) 12 0 (-1)) 40 0 0))) 22 0 0) 22 1 0) 16 0 2) 23 0 1), Q, (uZ Z 1 (mrs2 (dsk I 0)))) : mM).1 0 = 0 from ohn_l (v := 1) ep86 (by decide)]
              exact if_pos c90
            rw [hms]
            exact ⟨rfl, RA_R (by omega) hA91⟩
          · skip
            refine go_s (pc' := 71) rfl rfl rfl rfl ?_
            refine go_s (pc' := 72) rfl rfl rfl rfl ?_
            have h5 : sq Q + hc [] true ≤ 5 := by
              have z := hMN.2
              rw [hN] at z
              have z2 : sq Q ≤ 5 := z
              have z3 : hc [] true = 0 := rfl
              omega
            have hU92 : RU w B R [] true h88 am ln K8 ((uI (uI (uI (uI (rchI 0 (mstI 0 (uI (uI (uI I 11 0 1) 12 0 (-1)) 40 0 0))) 22 0 0) 22 1 0) 16 0 2) 23 0 1), Q, (uZ Z 1 (mrs2 (dsk I 0)))) := RU_I (sm_e_refl (tbr am (13 * ln) 77 5088) _) (I' := (uI (uI (uI (uI (rchI 0 (mstI 0 (uI (uI (uI I 11 0 1) 12 0 (-1)) 40 0 0))) 22 0 0) 22 1 0) 16 0 2) 23 0 1)) (fun _ => rfl) (fun _ => rfl) (Nat.le_refl _) hU85
            have hA93 : RA w B R [] true h88 ((uI (uI (uI (uI (rchI 0 (mstI 0 (uI (uI (uI I 11 0 1) 12 0 (-1)) 40 0 0))) 22 0 0) 22 1 0) 16 0 2) 23 0 1), Q, (uZ Z 1 (mrs2 (dsk I 0)))) := RA_u.mpr ⟨_, _, _, _, hS8, hU92⟩
            refine go_callV (pc' := 73) rfl rfl rfl (Nat.le_of_ble_eq_true rfl) rfl (sm_o hS8 rfl) rfl rfl rfl (ra_sc_0 hA93 (by omega) (Or.inr (Or.inr ep86)) (fun z => absurd (ep86.symm.trans z) (by decide)) h5 (by omega)) (fun r h94 q95 => ?_)
            obtain ⟨rfl, hA96⟩ := q95
            refine go_ret rfl rfl ?_
            have hms : rrs 0 (I, Q, Z) = rsc 0 ((uI (uI (uI (uI (rchI 0 (mstI 0 (uI (uI (uI I 11 0 1) 12 0 (-1)) 40 0 0))) 22 0 0) 22 1 0) 16 0 2) 23 0 1), Q, (uZ Z 1 (mrs2 (dsk I 0)))) := by
              unfold rrs
              rw [if_neg hnc, hN, show ohn (((uI (uI (uI (uI (rchI 0 (mstI 0 (uI (uI (uI I 11 0 1) 12 0 (-1)) 40 0 0))) 22 0 0) 22 1 0) 16 0 2) 23 0 1), Q, (uZ Z 1 (mrs2 (dsk I 0)))) : mM).1 0 = 0 from ohn_l (v := 1) ep86 (by decide)]
              exact if_neg c90
            rw [hms]
            exact ⟨rfl, hA96⟩
  · skip
    have hf : fup I 0 = 0 := if_neg u0
    refine go_s (pc' := 1) rfl rfl rfl rfl ?_
    refine go_s (pc' := 2) rfl rfl rfl rfl ?_
    refine go_callV (pc' := 3) rfl rfl rfl (Nat.le_of_ble_eq_true rfl) rfl (sm_o hS rfl) rfl rfl rfl (rt_fh_0 hr hS (by omega)) (fun r h97 q98 => ?_)
    obtain ⟨rfl, rfl⟩ := q98
    rw [show fup (jn I K) 0 = 0 from hf]
    show am_Go _ _ _ _ 3 _ [.int 0] _ _
    refine go_s (pc' := 4) (lo' := [some (.ref 62), some (.int 0), some (.int 0), none]) rfl rfl rfl rfl ?_
    refine go_s (pc' := 5) rfl rfl rfl rfl ?_
    refine go_s (pc' := 6) (st' := [.int 0, .ref 62]) rfl rfl rfl rfl ?_
    refine go_callV (pc' := 7) rfl rfl rfl (Nat.le_of_ble_eq_true rfl) rfl (sm_o hS rfl) rfl rfl rfl (rt_us_0 hr hS (by omega)) (fun r h99 q100 => ?_)
    obtain ⟨rfl, rfl⟩ := q100
    rw [show us (jn I K) 0 = us I 0 from rfl]
    cases u101 : us I 0
    · skip
      show am_Go _ _ _ _ 7 _ [.int 0] _ _
      refine go_ifP (t' := 10) (pc' := 8) rfl rfl rfl (fun _ => ?_) (fun (c : ¬ ((0 : Int32) = 0)) => absurd (by decide) c)
      refine go_s (pc' := 11) rfl rfl rfl rfl ?_
      refine go_s (pc' := 12) (st' := [.int 1, .ref 62]) rfl rfl rfl rfl ?_
      refine go_callV (pc' := 13) rfl rfl rfl (Nat.le_of_ble_eq_true rfl) rfl (sm_o hS rfl) rfl rfl rfl (rt_us_1 hr hS (by omega)) (fun r h102 q103 => ?_)
      obtain ⟨rfl, rfl⟩ := q103
      rw [show us (jn I K) 1 = us I 1 from rfl]
      cases u104 : us I 1
      · skip
        show am_Go _ _ _ _ 13 _ [.int 0] _ _
        refine go_ifP (t' := 16) (pc' := 14) rfl rfl rfl (fun _ => ?_) (fun (c : ¬ ((0 : Int32) = 0)) => absurd (by decide) c)
        refine go_s (pc' := 17) (st' := [.int (-1)]) rfl rfl rfl rfl ?_
        refine go_s (pc' := 18) (lo' := [some (.ref 62), some (.int 0), some (.int 0), some (.int (-1))]) rfl rfl rfl rfl ?_
        refine go_s (pc' := 19) rfl rfl rfl rfl ?_
        refine go_sget (pc' := 20) (v := .ref 78) hS rfl rfl rfl (by decide) rfl rfl ?_
        refine go_s (pc' := 21) rfl rfl rfl rfl ?_
        refine go_sald (pc' := 22) (q := 0) (v := .int (I 11 0)) hS rfl (tr_s hr (a := 78) rfl (by decide)) rfl rfl (by decide) rfl rfl ?_
        refine go_s (pc' := 23) (st' := [.int (-1), .int (I 11 0)]) rfl rfl rfl rfl ?_
        refine go_icmpP (t' := 32) (pc' := 24) rfl rfl rfl (fun (c105 : ¬ (I 11 0) = (-1)) => ?_) (fun (c105' : ¬ ¬ (I 11 0) = (-1)) => ?_)
        · skip
          refine go_ret rfl rfl ?_
          have hms : rrs 0 (I, Q, Z) = (I, Q, Z) := if_pos (Or.inl c105)
          rw [hms]
          exact ⟨rfl, RA_R (by omega) hA⟩
        · skip
          have c105 : (I 11 0) = (-1) := Decidable.not_not.mp c105'
          refine go_s (pc' := 25) rfl rfl rfl rfl ?_
          refine go_s (pc' := 26) (st' := [.int (-1), .int 0]) rfl rfl rfl rfl ?_
          refine go_icmpP (t' := 32) (pc' := 27) rfl rfl rfl (fun (c : (0 : Int32) = (-1)) => absurd c (by decide)) (fun _ => ?_)
          refine go_s (pc' := 28) rfl rfl rfl rfl ?_
          refine go_ifP (t' := 33) (pc' := 29) rfl rfl rfl (fun (c : ¬ (0 : Int32) = 0) => absurd c (by decide)) (fun _ => ?_)
          refine go_s (pc' := 30) rfl rfl rfl rfl ?_
          refine go_s (pc' := 31) (st' := [.int (-1), .int (-1)]) rfl rfl rfl rfl ?_
          refine go_icmpP (t' := 33) (pc' := 32) rfl rfl rfl (fun (c : ¬ ((-1) : Int32) = (-1)) => absurd c (by decide)) (fun _ => ?_)
          refine go_ret rfl rfl ?_
          have hms : rrs 0 (I, Q, Z) = (I, Q, Z) := if_pos (Or.inr (Or.inr ⟨rfl, by show chs I = -1; unfold chs; rw [if_neg (by rw [u101]; decide), if_neg (by rw [u104]; decide)]⟩))
          rw [hms]
          exact ⟨rfl, RA_R (by omega) hA⟩
      · skip
        show am_Go _ _ _ _ 13 _ [.int 1] _ _
        refine go_ifP (t' := 16) (pc' := 14) rfl rfl rfl (fun (c : (1 : Int32) = 0) => absurd c (by decide)) (fun _ => ?_)
        refine go_s (pc' := 15) (st' := [.int 1]) rfl rfl rfl rfl ?_
        refine go_s (pc' := 17) rfl rfl rfl rfl ?_
        refine go_s (pc' := 18) (lo' := [some (.ref 62), some (.int 0), some (.int 0), some (.int 1)]) rfl rfl rfl rfl ?_
        refine go_s (pc' := 19) rfl rfl rfl rfl ?_
        refine go_sget (pc' := 20) (v := .ref 78) hS rfl rfl rfl (by decide) rfl rfl ?_
        refine go_s (pc' := 21) rfl rfl rfl rfl ?_
        refine go_sald (pc' := 22) (q := 0) (v := .int (I 11 0)) hS rfl (tr_s hr (a := 78) rfl (by decide)) rfl rfl (by decide) rfl rfl ?_
        refine go_s (pc' := 23) (st' := [.int (-1), .int (I 11 0)]) rfl rfl rfl rfl ?_
        refine go_icmpP (t' := 32) (pc' := 24) rfl rfl rfl (fun (c106 : ¬ (I 11 0) = (-1)) => ?_) (fun (c106' : ¬ ¬ (I 11 0) = (-1)) => ?_)
        · skip
          refine go_ret rfl rfl ?_
          have hms : rrs 0 (I, Q, Z) = (I, Q, Z) := if_pos (Or.inl c106)
          rw [hms]
          exact ⟨rfl, RA_R (by omega) hA⟩
        · skip
          have c106 : (I 11 0) = (-1) := Decidable.not_not.mp c106'
          refine go_s (pc' := 25) rfl rfl rfl rfl ?_
          refine go_s (pc' := 26) (st' := [.int (-1), .int 0]) rfl rfl rfl rfl ?_
          refine go_icmpP (t' := 32) (pc' := 27) rfl rfl rfl (fun (c : (0 : Int32) = (-1)) => absurd c (by decide)) (fun _ => ?_)
          refine go_s (pc' := 28) rfl rfl rfl rfl ?_
          refine go_ifP (t' := 33) (pc' := 29) rfl rfl rfl (fun (c : ¬ (0 : Int32) = 0) => absurd c (by decide)) (fun _ => ?_)
          refine go_s (pc' := 30) rfl rfl rfl rfl ?_
          refine go_s (pc' := 31) (st' := [.int (-1), .int 1]) rfl rfl rfl rfl ?_
          refine go_icmpP (t' := 33) (pc' := 32) rfl rfl rfl (fun _ => ?_) (fun (c : ¬ (¬ (1 : Int32) = (-1))) => absurd (by decide) c)
          refine go_s (pc' := 34) rfl rfl rfl rfl ?_
          refine go_sget (pc' := 35) (v := .ref 78) hS rfl rfl rfl (by decide) rfl rfl ?_
          refine go_s (pc' := 36) rfl rfl rfl rfl ?_
          refine go_s (pc' := 37) rfl rfl rfl rfl ?_
          refine go_siast (pc' := 38) (q := 0) hS rfl (tr_s hr (a := 78) rfl (by decide)) tbr_inj (Nat.le_of_ble_eq_true rfl) rfl (by decide) (by decide) (hW _ (by decide) (by decide)) rfl (fun h107 hS108 hE109 => ?_)
          refine go_s (pc' := 39) rfl rfl rfl rfl ?_
          refine go_sget (pc' := 40) (v := .ref 79) hS108 rfl rfl rfl (by decide) rfl rfl ?_
          refine go_s (pc' := 41) rfl rfl rfl rfl ?_
          refine go_s (pc' := 42) (st' := [.int (-1), .int 0, .ref 79]) rfl rfl rfl rfl ?_
          refine go_siast (pc' := 43) (q := 0) hS108 rfl (tr_s hr (a := 79) rfl (by decide)) tbr_inj (Nat.le_of_ble_eq_true rfl) rfl (by decide) (by decide) (hW _ (by decide) (by decide)) rfl (fun h110 hS111 hE112 => ?_)
          have hE113 := sm_e_trans hE109 hE112
          change sm (tbr am (13 * ln) 77 5088) _ (uI (uI (jn I K) 11 0 0) 12 0 (-1)) Y at hS111
          rw [jn_lo (c := 11) (by decide), jn_lo (c := 12) (by decide)] at hS111
          have hU114 : RU w B R [] true h110 am ln K ((uI (uI I 11 0 0) 12 0 (-1)), Q, Z) := RU_I (hE113) (I' := (uI (uI I 11 0 0) 12 0 (-1))) (fun _ => rfl) (fun _ => rfl) (Nat.le_refl _) hU
          have hS115 : sm (tbr am (13 * ln) 77 5088) _ (jn (uI (uI (uI I 11 0 0) 12 0 (-1)) 40 0 0) K) Y := sm_jg hr hS111 (fun c j _ n1 n2 n3 => uI_c n3)
          have hU116 : RU w B R [] true h110 am ln K ((uI (uI (uI I 11 0 0) 12 0 (-1)) 40 0 0), Q, Z) := RU_I (sm_e_refl (tbr am (13 * ln) 77 5088) _) (fun _ => rfl) (fun _ => rfl) (Nat.le_refl _) hU114
          refine go_s (pc' := 44) rfl rfl rfl rfl ?_
          refine go_s (pc' := 45) rfl rfl rfl rfl ?_
          have hU117 : RU w B R [] true h110 am ln K ((uI (uI (uI I 11 0 0) 12 0 (-1)) 40 0 0), Q, Z) := RU_I (sm_e_refl (tbr am (13 * ln) 77 5088) _) (I' := (uI (uI (uI I 11 0 0) 12 0 (-1)) 40 0 0)) (fun _ => rfl) (fun _ => rfl) (Nat.le_refl _) hU116
          refine go_callV (pc' := 46) rfl rfl rfl (Nat.le_of_ble_eq_true rfl) rfl (sm_o hS115 rfl) rfl rfl rfl (rt_stops_0 hr hS115 hW (by omega)) (fun r h118 q119 => ?_)
          obtain ⟨rfl, hS120, hE121⟩ := q119
          change sm (tbr am (13 * ln) 77 5088) _ (mstI 0 (jn (uI (uI (uI I 11 0 0) 12 0 (-1)) 40 0 0) K)) Y at hS120
          rw [mst_jn] at hS120
          have hU122 : RU w B R [] true h118 am ln K ((mstI 0 (uI (uI (uI I 11 0 0) 12 0 (-1)) 40 0 0)), Q, Z) := RU_I hE121 mst_24 mst_25 mst_stn hU117
          have ep123 : (mstI 0 (uI (uI (uI I 11 0 0) 12 0 (-1)) 40 0 0)) 11 0 = 0 := (congrFun mst_11 0).trans (show (uI (uI (uI I 11 0 0) 12 0 (-1)) 40 0 0) 11 0 = 0 from rfl)
          refine go_s (pc' := 47) rfl rfl rfl rfl ?_
          refine go_s (pc' := 48) (st' := [.int 2, .ref 62]) rfl rfl rfl rfl ?_
          refine go_s (pc' := 49) rfl rfl rfl rfl ?_
          refine go_s (pc' := 50) (st' := [.int 0, .ref 62]) rfl rfl rfl rfl ?_
          refine go_s (pc' := 51) rfl rfl rfl rfl ?_
          refine go_s (pc' := 52) (st' := [.int 2, .int 0, .int 0, .ref 62]) rfl rfl rfl rfl ?_
          refine go_s (pc' := 53) (st' := [.int 0, .int 0, .ref 62]) rfl rfl rfl rfl ?_
          refine go_s (pc' := 54) (st' := [.int 0, .ref 62]) rfl rfl rfl rfl ?_
          have hU124 : RU w B R [] true h118 am ln K ((mstI 0 (uI (uI (uI I 11 0 0) 12 0 (-1)) 40 0 0)), Q, Z) := RU_I (sm_e_refl (tbr am (13 * ln) 77 5088) _) (I' := (mstI 0 (uI (uI (uI I 11 0 0) 12 0 (-1)) 40 0 0))) (fun _ => rfl) (fun _ => rfl) (Nat.le_refl _) hU122
          refine go_callV (pc' := 55) rfl rfl rfl (Nat.le_of_ble_eq_true rfl) rfl (sm_o hS120 rfl) rfl rfl rfl (rs_cl hr hS120 hW (hW 77 (by decide) (by decide)) (r9 := 0) (by decide) (by decide) (by omega)) (fun r h125 q126 => ?_)
          obtain ⟨rfl, hS127, hE128⟩ := q126
          rw [clI_jn] at hS127
          obtain ⟨K9, eK9⟩ : ∃ z, z = clI K 0 424 := ⟨_, rfl⟩
          rw [← eK9] at hS127
          have f9 : rfr K K9 0 := by
            rw [eK9]
            exact clI_r (Nat.le_refl _)
          have z9 : ∀ j, j < 424 → K9 51 (424 * 0 + j) = 0 := fun j hj => by
            rw [eK9]
            exact cl_z hj
          have hR9 : RS K9 0 (fun _ => 0, [], []) := by
            rw [eK9]
            exact RS_cl
          refine go_s (pc' := 56) rfl rfl rfl rfl ?_
          refine go_ifP (t' := 61) (pc' := 57) rfl rfl rfl (fun (c : ¬ (0 : Int32) = 0) => absurd c (by decide)) (fun _ => ?_)
          refine go_s (pc' := 58) rfl rfl rfl rfl ?_
          refine go_s (pc' := 59) rfl rfl rfl rfl ?_
          have hus : us I 1 = true := u104
          have hLG : LG X (dsk I 1) := (hM.2.2.2.2.2.2.2.2.1 1 (by decide) (us_5 hM.2.1 (by decide) hus).2).1
          obtain ⟨-, hmk, hw35, -, -, hw0⟩ := GB_rs (by omega) hLG
          have hEK : EK (rdL (dsk I 1)) := hLG.choose_spec.2.2.2.2.2.2
          have hpn : prk (jn (mstI 0 (uI (uI (uI I 11 0 0) 12 0 (-1)) 40 0 0)) K9) 0 ∧ ¬ (jn (mstI 0 (uI (uI (uI I 11 0 0) 12 0 (-1)) 40 0 0)) K9) 11 0 = -1 ∧ rwi (jn (mstI 0 (uI (uI (uI I 11 0 0) 12 0 (-1)) 40 0 0)) K9) 0 = 0 := ⟨(Or.inr (Or.inl ep123)), (fun z => absurd (ep123.symm.trans z) (by decide)), rwi_l (v := 0) ep123 (by decide)⟩
          refine go_callV (pc' := 60) rfl rfl rfl (Nat.le_of_ble_eq_true rfl) rfl (sm_o hS127 rfl) rfl rfl rfl (rs_rst_1 hr hS127 hW (hW 77 (by decide) (by decide)) (rho := 0) hpn.1 hpn.2.1 hpn.2.2 (by decide) (by decide) (RS_jn hR9) hmk hEK (by omega)) (fun r h129 q130 => ?_)
          obtain ⟨rfl, K8, hS8, hE8, hR8, hf8⟩ := q130
          change RS K8 0 (mrs2 (dsk I 1)) at hR8
          rw [rch_jn, jn_lo (c := 22) (by decide), jn_lo (c := 22) (by decide), jn_lo (c := 16) (by decide), jn_lo (c := 23) (by decide)] at hf8
          have eK8 := jn_rfr hf8
          rw [eK8] at hS8
          have hE131 := sm_e_trans hE128 hE8
          have hst8 : stn (uI (uI (uI (uI (rchI 1 (mstI 0 (uI (uI (uI I 11 0 0) 12 0 (-1)) 40 0 0))) 22 0 0) 22 1 0) 16 0 2) 23 0 1) ≤ stn (mstI 0 (uI (uI (uI I 11 0 0) 12 0 (-1)) 40 0 0)) := by
            unfold stn
            rw [uI_c (by decide), uI_c (by decide), uI_c (by decide), uI_c (by decide), rch_o (by decide) (by decide)]
            exact Nat.le_refl _
          have h48 : ∀ c, c = 24 ∨ c = 25 → ∀ l, (uI (uI (uI (uI (rchI 1 (mstI 0 (uI (uI (uI I 11 0 0) 12 0 (-1)) 40 0 0))) 22 0 0) 22 1 0) 16 0 2) 23 0 1) c l = (mstI 0 (uI (uI (uI I 11 0 0) 12 0 (-1)) 40 0 0)) c l := fun c hc l => by
            rw [uI_c (by omega), uI_c (by omega), uI_c (by omega), uI_c (by omega), rch_o (by omega) (by omega)]
          have hU132 : RU w B R [] true h129 am ln K8 ((uI (uI (uI (uI (rchI 1 (mstI 0 (uI (uI (uI I 11 0 0) 12 0 (-1)) 40 0 0))) 22 0 0) 22 1 0) 16 0 2) 23 0 1), Q, uZ Z 0 (mrs2 (dsk I 1))) := RU_row (K' := K8) (s := (mrs2 (dsk I 1))) (by decide) (fun c j hc hn => by
            rw [hf8 c j hn, jn_ge hc]
            exact f9 c j hn) ⟨fun _ => ⟨hR8, by rw [hw0]; exact Nat.zero_le _, by omega, LKs_rs hmk⟩, fun h => absurd h (by decide)⟩ (RU_I hE131 (I' := (uI (uI (uI (uI (rchI 1 (mstI 0 (uI (uI (uI I 11 0 0) 12 0 (-1)) 40 0 0))) 22 0 0) 22 1 0) 16 0 2) 23 0 1)) (h48 24 (Or.inl rfl)) (h48 25 (Or.inr rfl)) hst8 hU124)
          have ep133 : (uI (uI (uI (uI (rchI 1 (mstI 0 (uI (uI (uI I 11 0 0) 12 0 (-1)) 40 0 0))) 22 0 0) 22 1 0) 16 0 2) 23 0 1) 11 0 = 0 := by
            rw [uI_c (by decide), uI_c (by decide), uI_c (by decide), uI_c (by decide), rch_o (by decide) (by decide)]
            exact ep123
          have e0134 : (uI (uI (uI (uI (rchI 1 (mstI 0 (uI (uI (uI I 11 0 0) 12 0 (-1)) 40 0 0))) 22 0 0) 22 1 0) 16 0 2) 23 0 1) 0 1 = I 0 1 := by
            rw [uI_c (by decide), uI_c (by decide), uI_c (by decide), uI_c (by decide), rch_o (by decide) (by decide)]
            rfl
          refine go_s (pc' := 64) rfl rfl rfl rfl ?_
          have hch : chs I = 1 := by
            unfold chs
            rw [if_neg (by rw [u101]; decide), if_pos u104]
          have hN : rrsN 0 (I, Q, Z) = ((uI (uI (uI (uI (rchI 1 (mstI 0 (uI (uI (uI I 11 0 0) 12 0 (-1)) 40 0 0))) 22 0 0) 22 1 0) 16 0 2) 23 0 1), Q, (uZ Z 0 (mrs2 (dsk I 1)))) := by
            unfold rrsN rrs1
            rw [if_pos rfl, if_pos rfl, show fup ((I, Q, Z) : mM).1 0 = 0 from hf, show (chs (((uI (uI (uI I 11 0 0) 12 0 (-1)) 40 0 0), Q, Z) : mM).1).toNatClampNeg = 1 by rw [show chs (((uI (uI (uI I 11 0 0) 12 0 (-1)) 40 0 0), Q, Z) : mM).1 = 1 from hch]; rfl]
            unfold rrsS
            rw [show rwi (((uI (uI (uI I 11 0 0) 12 0 (-1)) 40 0 0), Q, Z) : mM).1 0 = 0 from rwi_l (v := 0) rfl (by decide)]
            rfl
          have hMN := MID_rN (k := 0) (by omega) hM (by decide) c106 (show ¬ fup I 0 = -1 by rw [hf]; decide) (fun _ => show ¬ chs I = -1 by rw [hch]; decide)
          have hnc : ¬ (¬ ((I, Q, Z) : mM).1 11 0 = -1 ∨ fup ((I, Q, Z) : mM).1 (if 0 = 0 then 0 else 2) = -1 ∨ (0 = 0 ∧ chs ((I, Q, Z) : mM).1 = -1)) := fun z => z.elim (fun y => y c106) (fun z => z.elim (fun y => absurd (hf.symm.trans y) (by decide)) (fun y => absurd (hch.symm.trans y.2) (by decide)))
          refine go_s (pc' := 65) rfl rfl rfl rfl ?_
          refine go_sget (pc' := 66) (v := .ref 63) hS8 rfl rfl rfl (by decide) rfl rfl ?_
          refine go_s (pc' := 67) rfl rfl rfl rfl ?_
          refine go_callS (pc' := 68) rfl rfl rfl (Nat.le_of_ble_eq_true rfl) rfl rfl rfl (rt_oh_0 (by omega)) (fun r h135 q136 => ?_)
          obtain ⟨rfl, rfl⟩ := q136
          refine go_sald (pc' := 69) (q := 1) (v := .int (I 0 1)) hS8 rfl (tr_s hr (a := 63) rfl (by decide)) rfl rfl (by decide) (congrArg Value.int e0134) rfl ?_
          refine go_ifP (t' := 73) (pc' := 70) rfl rfl rfl (fun (c137 : (I 0 1) = 0) => ?_) (fun (c137 : ¬ (I 0 1) = 0) => ?_)
          · skip
            refine go_ret rfl rfl ?_
            have hA138 : RA w B R [] true h135 ((uI (uI (uI (uI (rchI 1 (mstI 0 (uI (uI (uI I 11 0 0) 12 0 (-1)) 40 0 0))) 22 0 0) 22 1 0) 16 0 2) 23 0 1), Q, (uZ Z 0 (mrs2 (dsk I 1)))) := RA_u.mpr ⟨_, _, _, _, hS8, hU132⟩
            have hms : rrs 0 (I, Q, Z) = ((uI (uI (uI (uI (rchI 1 (mstI 0 (uI (uI (uI I 11 0 0) 12 0 (-1)) 40 0 0))) 22 0 0) 22 1 0) 16 0 2) 23 0 1), Q, (uZ Z 0 (mrs2 (dsk I 1)))) := by
              unfold rrs
              rw [if_neg hnc, hN, show ohn (((uI (uI (uI (uI (rchI 1 (mstI 0 (uI (uI (uI I 11 0 0) 12 0 (-1)) 40 0 0))) 22 0 0) 22 1 0) 16 0 2) 23 0 1), Q, (uZ Z 0 (mrs2 (dsk I 1)))) : mM).1 0 = 1 from ohn_l (v := 0) ep133 (by decide)]
              exact if_pos c137
            rw [hms]
            exact ⟨rfl, RA_R (by omega) hA138⟩
          · skip
            refine go_s (pc' := 71) rfl rfl rfl rfl ?_
            refine go_s (pc' := 72) rfl rfl rfl rfl ?_
            have h5 : sq Q + hc [] true ≤ 5 := by
              have z := hMN.2
              rw [hN] at z
              have z2 : sq Q ≤ 5 := z
              have z3 : hc [] true = 0 := rfl
              omega
            have hU139 : RU w B R [] true h135 am ln K8 ((uI (uI (uI (uI (rchI 1 (mstI 0 (uI (uI (uI I 11 0 0) 12 0 (-1)) 40 0 0))) 22 0 0) 22 1 0) 16 0 2) 23 0 1), Q, (uZ Z 0 (mrs2 (dsk I 1)))) := RU_I (sm_e_refl (tbr am (13 * ln) 77 5088) _) (I' := (uI (uI (uI (uI (rchI 1 (mstI 0 (uI (uI (uI I 11 0 0) 12 0 (-1)) 40 0 0))) 22 0 0) 22 1 0) 16 0 2) 23 0 1)) (fun _ => rfl) (fun _ => rfl) (Nat.le_refl _) hU132
            have hA140 : RA w B R [] true h135 ((uI (uI (uI (uI (rchI 1 (mstI 0 (uI (uI (uI I 11 0 0) 12 0 (-1)) 40 0 0))) 22 0 0) 22 1 0) 16 0 2) 23 0 1), Q, (uZ Z 0 (mrs2 (dsk I 1)))) := RA_u.mpr ⟨_, _, _, _, hS8, hU139⟩
            refine go_callV (pc' := 73) rfl rfl rfl (Nat.le_of_ble_eq_true rfl) rfl (sm_o hS8 rfl) rfl rfl rfl (ra_sc_0 hA140 (by omega) (Or.inr (Or.inl ep133)) (fun z => absurd (ep133.symm.trans z) (by decide)) h5 (by omega)) (fun r h141 q142 => ?_)
            obtain ⟨rfl, hA143⟩ := q142
            refine go_ret rfl rfl ?_
            have hms : rrs 0 (I, Q, Z) = rsc 0 ((uI (uI (uI (uI (rchI 1 (mstI 0 (uI (uI (uI I 11 0 0) 12 0 (-1)) 40 0 0))) 22 0 0) 22 1 0) 16 0 2) 23 0 1), Q, (uZ Z 0 (mrs2 (dsk I 1)))) := by
              unfold rrs
              rw [if_neg hnc, hN, show ohn (((uI (uI (uI (uI (rchI 1 (mstI 0 (uI (uI (uI I 11 0 0) 12 0 (-1)) 40 0 0))) 22 0 0) 22 1 0) 16 0 2) 23 0 1), Q, (uZ Z 0 (mrs2 (dsk I 1)))) : mM).1 0 = 1 from ohn_l (v := 0) ep133 (by decide)]
              exact if_neg c137
            rw [hms]
            exact ⟨rfl, hA143⟩
    · skip
      show am_Go _ _ _ _ 7 _ [.int 1] _ _
      refine go_ifP (t' := 10) (pc' := 8) rfl rfl rfl (fun (c : (1 : Int32) = 0) => absurd c (by decide)) (fun _ => ?_)
      refine go_s (pc' := 9) (st' := [.int 0]) rfl rfl rfl rfl ?_
      refine go_s (pc' := 17) rfl rfl rfl rfl ?_
      refine go_s (pc' := 18) (lo' := [some (.ref 62), some (.int 0), some (.int 0), some (.int 0)]) rfl rfl rfl rfl ?_
      refine go_s (pc' := 19) rfl rfl rfl rfl ?_
      refine go_sget (pc' := 20) (v := .ref 78) hS rfl rfl rfl (by decide) rfl rfl ?_
      refine go_s (pc' := 21) rfl rfl rfl rfl ?_
      refine go_sald (pc' := 22) (q := 0) (v := .int (I 11 0)) hS rfl (tr_s hr (a := 78) rfl (by decide)) rfl rfl (by decide) rfl rfl ?_
      refine go_s (pc' := 23) (st' := [.int (-1), .int (I 11 0)]) rfl rfl rfl rfl ?_
      refine go_icmpP (t' := 32) (pc' := 24) rfl rfl rfl (fun (c144 : ¬ (I 11 0) = (-1)) => ?_) (fun (c144' : ¬ ¬ (I 11 0) = (-1)) => ?_)
      · skip
        refine go_ret rfl rfl ?_
        have hms : rrs 0 (I, Q, Z) = (I, Q, Z) := if_pos (Or.inl c144)
        rw [hms]
        exact ⟨rfl, RA_R (by omega) hA⟩
      · skip
        have c144 : (I 11 0) = (-1) := Decidable.not_not.mp c144'
        refine go_s (pc' := 25) rfl rfl rfl rfl ?_
        refine go_s (pc' := 26) (st' := [.int (-1), .int 0]) rfl rfl rfl rfl ?_
        refine go_icmpP (t' := 32) (pc' := 27) rfl rfl rfl (fun (c : (0 : Int32) = (-1)) => absurd c (by decide)) (fun _ => ?_)
        refine go_s (pc' := 28) rfl rfl rfl rfl ?_
        refine go_ifP (t' := 33) (pc' := 29) rfl rfl rfl (fun (c : ¬ (0 : Int32) = 0) => absurd c (by decide)) (fun _ => ?_)
        refine go_s (pc' := 30) rfl rfl rfl rfl ?_
        refine go_s (pc' := 31) (st' := [.int (-1), .int 0]) rfl rfl rfl rfl ?_
        refine go_icmpP (t' := 33) (pc' := 32) rfl rfl rfl (fun _ => ?_) (fun (c : ¬ (¬ (0 : Int32) = (-1))) => absurd (by decide) c)
        refine go_s (pc' := 34) rfl rfl rfl rfl ?_
        refine go_sget (pc' := 35) (v := .ref 78) hS rfl rfl rfl (by decide) rfl rfl ?_
        refine go_s (pc' := 36) rfl rfl rfl rfl ?_
        refine go_s (pc' := 37) rfl rfl rfl rfl ?_
        refine go_siast (pc' := 38) (q := 0) hS rfl (tr_s hr (a := 78) rfl (by decide)) tbr_inj (Nat.le_of_ble_eq_true rfl) rfl (by decide) (by decide) (hW _ (by decide) (by decide)) rfl (fun h145 hS146 hE147 => ?_)
        refine go_s (pc' := 39) rfl rfl rfl rfl ?_
        refine go_sget (pc' := 40) (v := .ref 79) hS146 rfl rfl rfl (by decide) rfl rfl ?_
        refine go_s (pc' := 41) rfl rfl rfl rfl ?_
        refine go_s (pc' := 42) (st' := [.int (-1), .int 0, .ref 79]) rfl rfl rfl rfl ?_
        refine go_siast (pc' := 43) (q := 0) hS146 rfl (tr_s hr (a := 79) rfl (by decide)) tbr_inj (Nat.le_of_ble_eq_true rfl) rfl (by decide) (by decide) (hW _ (by decide) (by decide)) rfl (fun h148 hS149 hE150 => ?_)
        have hE151 := sm_e_trans hE147 hE150
        change sm (tbr am (13 * ln) 77 5088) _ (uI (uI (jn I K) 11 0 0) 12 0 (-1)) Y at hS149
        rw [jn_lo (c := 11) (by decide), jn_lo (c := 12) (by decide)] at hS149
        have hU152 : RU w B R [] true h148 am ln K ((uI (uI I 11 0 0) 12 0 (-1)), Q, Z) := RU_I (hE151) (I' := (uI (uI I 11 0 0) 12 0 (-1))) (fun _ => rfl) (fun _ => rfl) (Nat.le_refl _) hU
        have hS153 : sm (tbr am (13 * ln) 77 5088) _ (jn (uI (uI (uI I 11 0 0) 12 0 (-1)) 40 0 0) K) Y := sm_jg hr hS149 (fun c j _ n1 n2 n3 => uI_c n3)
        have hU154 : RU w B R [] true h148 am ln K ((uI (uI (uI I 11 0 0) 12 0 (-1)) 40 0 0), Q, Z) := RU_I (sm_e_refl (tbr am (13 * ln) 77 5088) _) (fun _ => rfl) (fun _ => rfl) (Nat.le_refl _) hU152
        refine go_s (pc' := 44) rfl rfl rfl rfl ?_
        refine go_s (pc' := 45) rfl rfl rfl rfl ?_
        have hU155 : RU w B R [] true h148 am ln K ((uI (uI (uI I 11 0 0) 12 0 (-1)) 40 0 0), Q, Z) := RU_I (sm_e_refl (tbr am (13 * ln) 77 5088) _) (I' := (uI (uI (uI I 11 0 0) 12 0 (-1)) 40 0 0)) (fun _ => rfl) (fun _ => rfl) (Nat.le_refl _) hU154
        refine go_callV (pc' := 46) rfl rfl rfl (Nat.le_of_ble_eq_true rfl) rfl (sm_o hS153 rfl) rfl rfl rfl (rt_stops_0 hr hS153 hW (by omega)) (fun r h156 q157 => ?_)
        obtain ⟨rfl, hS158, hE159⟩ := q157
        change sm (tbr am (13 * ln) 77 5088) _ (mstI 0 (jn (uI (uI (uI I 11 0 0) 12 0 (-1)) 40 0 0) K)) Y at hS158
        rw [mst_jn] at hS158
        have hU160 : RU w B R [] true h156 am ln K ((mstI 0 (uI (uI (uI I 11 0 0) 12 0 (-1)) 40 0 0)), Q, Z) := RU_I hE159 mst_24 mst_25 mst_stn hU155
        have ep161 : (mstI 0 (uI (uI (uI I 11 0 0) 12 0 (-1)) 40 0 0)) 11 0 = 0 := (congrFun mst_11 0).trans (show (uI (uI (uI I 11 0 0) 12 0 (-1)) 40 0 0) 11 0 = 0 from rfl)
        refine go_s (pc' := 47) rfl rfl rfl rfl ?_
        refine go_s (pc' := 48) (st' := [.int 2, .ref 62]) rfl rfl rfl rfl ?_
        refine go_s (pc' := 49) rfl rfl rfl rfl ?_
        refine go_s (pc' := 50) (st' := [.int 0, .ref 62]) rfl rfl rfl rfl ?_
        refine go_s (pc' := 51) rfl rfl rfl rfl ?_
        refine go_s (pc' := 52) (st' := [.int 2, .int 0, .int 0, .ref 62]) rfl rfl rfl rfl ?_
        refine go_s (pc' := 53) (st' := [.int 0, .int 0, .ref 62]) rfl rfl rfl rfl ?_
        refine go_s (pc' := 54) (st' := [.int 0, .ref 62]) rfl rfl rfl rfl ?_
        have hU162 : RU w B R [] true h156 am ln K ((mstI 0 (uI (uI (uI I 11 0 0) 12 0 (-1)) 40 0 0)), Q, Z) := RU_I (sm_e_refl (tbr am (13 * ln) 77 5088) _) (I' := (mstI 0 (uI (uI (uI I 11 0 0) 12 0 (-1)) 40 0 0))) (fun _ => rfl) (fun _ => rfl) (Nat.le_refl _) hU160
        refine go_callV (pc' := 55) rfl rfl rfl (Nat.le_of_ble_eq_true rfl) rfl (sm_o hS158 rfl) rfl rfl rfl (rs_cl hr hS158 hW (hW 77 (by decide) (by decide)) (r9 := 0) (by decide) (by decide) (by omega)) (fun r h163 q164 => ?_)
        obtain ⟨rfl, hS165, hE166⟩ := q164
        rw [clI_jn] at hS165
        obtain ⟨K9, eK9⟩ : ∃ z, z = clI K 0 424 := ⟨_, rfl⟩
        rw [← eK9] at hS165
        have f9 : rfr K K9 0 := by
          rw [eK9]
          exact clI_r (Nat.le_refl _)
        have z9 : ∀ j, j < 424 → K9 51 (424 * 0 + j) = 0 := fun j hj => by
          rw [eK9]
          exact cl_z hj
        have hR9 : RS K9 0 (fun _ => 0, [], []) := by
          rw [eK9]
          exact RS_cl
        refine go_s (pc' := 56) rfl rfl rfl rfl ?_
        refine go_ifP (t' := 61) (pc' := 57) rfl rfl rfl (fun (c : ¬ (0 : Int32) = 0) => absurd c (by decide)) (fun _ => ?_)
        refine go_s (pc' := 58) rfl rfl rfl rfl ?_
        refine go_s (pc' := 59) rfl rfl rfl rfl ?_
        have hus : us I 0 = true := u101
        have hLG : LG X (dsk I 0) := (hM.2.2.2.2.2.2.2.2.1 0 (by decide) (us_5 hM.2.1 (by decide) hus).2).1
        obtain ⟨-, hmk, hw35, -, -, hw0⟩ := GB_rs (by omega) hLG
        have hEK : EK (rdL (dsk I 0)) := hLG.choose_spec.2.2.2.2.2.2
        have hpn : prk (jn (mstI 0 (uI (uI (uI I 11 0 0) 12 0 (-1)) 40 0 0)) K9) 0 ∧ ¬ (jn (mstI 0 (uI (uI (uI I 11 0 0) 12 0 (-1)) 40 0 0)) K9) 11 0 = -1 ∧ rwi (jn (mstI 0 (uI (uI (uI I 11 0 0) 12 0 (-1)) 40 0 0)) K9) 0 = 0 := ⟨(Or.inr (Or.inl ep161)), (fun z => absurd (ep161.symm.trans z) (by decide)), rwi_l (v := 0) ep161 (by decide)⟩
        refine go_callV (pc' := 60) rfl rfl rfl (Nat.le_of_ble_eq_true rfl) rfl (sm_o hS165 rfl) rfl rfl rfl (rs_rst_0 hr hS165 hW (hW 77 (by decide) (by decide)) (rho := 0) hpn.1 hpn.2.1 hpn.2.2 (by decide) (by decide) (RS_jn hR9) hmk hEK (by omega)) (fun r h167 q168 => ?_)
        obtain ⟨rfl, K8, hS8, hE8, hR8, hf8⟩ := q168
        change RS K8 0 (mrs2 (dsk I 0)) at hR8
        rw [rch_jn, jn_lo (c := 22) (by decide), jn_lo (c := 22) (by decide), jn_lo (c := 16) (by decide), jn_lo (c := 23) (by decide)] at hf8
        have eK8 := jn_rfr hf8
        rw [eK8] at hS8
        have hE169 := sm_e_trans hE166 hE8
        have hst8 : stn (uI (uI (uI (uI (rchI 0 (mstI 0 (uI (uI (uI I 11 0 0) 12 0 (-1)) 40 0 0))) 22 0 0) 22 1 0) 16 0 2) 23 0 1) ≤ stn (mstI 0 (uI (uI (uI I 11 0 0) 12 0 (-1)) 40 0 0)) := by
          unfold stn
          rw [uI_c (by decide), uI_c (by decide), uI_c (by decide), uI_c (by decide), rch_o (by decide) (by decide)]
          exact Nat.le_refl _
        have h48 : ∀ c, c = 24 ∨ c = 25 → ∀ l, (uI (uI (uI (uI (rchI 0 (mstI 0 (uI (uI (uI I 11 0 0) 12 0 (-1)) 40 0 0))) 22 0 0) 22 1 0) 16 0 2) 23 0 1) c l = (mstI 0 (uI (uI (uI I 11 0 0) 12 0 (-1)) 40 0 0)) c l := fun c hc l => by
          rw [uI_c (by omega), uI_c (by omega), uI_c (by omega), uI_c (by omega), rch_o (by omega) (by omega)]
        have hU170 : RU w B R [] true h167 am ln K8 ((uI (uI (uI (uI (rchI 0 (mstI 0 (uI (uI (uI I 11 0 0) 12 0 (-1)) 40 0 0))) 22 0 0) 22 1 0) 16 0 2) 23 0 1), Q, uZ Z 0 (mrs2 (dsk I 0))) := RU_row (K' := K8) (s := (mrs2 (dsk I 0))) (by decide) (fun c j hc hn => by
          rw [hf8 c j hn, jn_ge hc]
          exact f9 c j hn) ⟨fun _ => ⟨hR8, by rw [hw0]; exact Nat.zero_le _, by omega, LKs_rs hmk⟩, fun h => absurd h (by decide)⟩ (RU_I hE169 (I' := (uI (uI (uI (uI (rchI 0 (mstI 0 (uI (uI (uI I 11 0 0) 12 0 (-1)) 40 0 0))) 22 0 0) 22 1 0) 16 0 2) 23 0 1)) (h48 24 (Or.inl rfl)) (h48 25 (Or.inr rfl)) hst8 hU162)
        have ep171 : (uI (uI (uI (uI (rchI 0 (mstI 0 (uI (uI (uI I 11 0 0) 12 0 (-1)) 40 0 0))) 22 0 0) 22 1 0) 16 0 2) 23 0 1) 11 0 = 0 := by
          rw [uI_c (by decide), uI_c (by decide), uI_c (by decide), uI_c (by decide), rch_o (by decide) (by decide)]
          exact ep161
        have e0172 : (uI (uI (uI (uI (rchI 0 (mstI 0 (uI (uI (uI I 11 0 0) 12 0 (-1)) 40 0 0))) 22 0 0) 22 1 0) 16 0 2) 23 0 1) 0 1 = I 0 1 := by
          rw [uI_c (by decide), uI_c (by decide), uI_c (by decide), uI_c (by decide), rch_o (by decide) (by decide)]
          rfl
        refine go_s (pc' := 64) rfl rfl rfl rfl ?_
        have hch : chs I = 0 := by
          unfold chs
          rw [if_pos u101]
        have hN : rrsN 0 (I, Q, Z) = ((uI (uI (uI (uI (rchI 0 (mstI 0 (uI (uI (uI I 11 0 0) 12 0 (-1)) 40 0 0))) 22 0 0) 22 1 0) 16 0 2) 23 0 1), Q, (uZ Z 0 (mrs2 (dsk I 0)))) := by
          unfold rrsN rrs1
          rw [if_pos rfl, if_pos rfl, show fup ((I, Q, Z) : mM).1 0 = 0 from hf, show (chs (((uI (uI (uI I 11 0 0) 12 0 (-1)) 40 0 0), Q, Z) : mM).1).toNatClampNeg = 0 by rw [show chs (((uI (uI (uI I 11 0 0) 12 0 (-1)) 40 0 0), Q, Z) : mM).1 = 0 from hch]; rfl]
          unfold rrsS
          rw [show rwi (((uI (uI (uI I 11 0 0) 12 0 (-1)) 40 0 0), Q, Z) : mM).1 0 = 0 from rwi_l (v := 0) rfl (by decide)]
          rfl
        have hMN := MID_rN (k := 0) (by omega) hM (by decide) c144 (show ¬ fup I 0 = -1 by rw [hf]; decide) (fun _ => show ¬ chs I = -1 by rw [hch]; decide)
        have hnc : ¬ (¬ ((I, Q, Z) : mM).1 11 0 = -1 ∨ fup ((I, Q, Z) : mM).1 (if 0 = 0 then 0 else 2) = -1 ∨ (0 = 0 ∧ chs ((I, Q, Z) : mM).1 = -1)) := fun z => z.elim (fun y => y c144) (fun z => z.elim (fun y => absurd (hf.symm.trans y) (by decide)) (fun y => absurd (hch.symm.trans y.2) (by decide)))
        refine go_s (pc' := 65) rfl rfl rfl rfl ?_
        refine go_sget (pc' := 66) (v := .ref 63) hS8 rfl rfl rfl (by decide) rfl rfl ?_
        refine go_s (pc' := 67) rfl rfl rfl rfl ?_
        refine go_callS (pc' := 68) rfl rfl rfl (Nat.le_of_ble_eq_true rfl) rfl rfl rfl (rt_oh_0 (by omega)) (fun r h173 q174 => ?_)
        obtain ⟨rfl, rfl⟩ := q174
        refine go_sald (pc' := 69) (q := 1) (v := .int (I 0 1)) hS8 rfl (tr_s hr (a := 63) rfl (by decide)) rfl rfl (by decide) (congrArg Value.int e0172) rfl ?_
        refine go_ifP (t' := 73) (pc' := 70) rfl rfl rfl (fun (c175 : (I 0 1) = 0) => ?_) (fun (c175 : ¬ (I 0 1) = 0) => ?_)
        · skip
          refine go_ret rfl rfl ?_
          have hA176 : RA w B R [] true h173 ((uI (uI (uI (uI (rchI 0 (mstI 0 (uI (uI (uI I 11 0 0) 12 0 (-1)) 40 0 0))) 22 0 0) 22 1 0) 16 0 2) 23 0 1), Q, (uZ Z 0 (mrs2 (dsk I 0)))) := RA_u.mpr ⟨_, _, _, _, hS8, hU170⟩
          have hms : rrs 0 (I, Q, Z) = ((uI (uI (uI (uI (rchI 0 (mstI 0 (uI (uI (uI I 11 0 0) 12 0 (-1)) 40 0 0))) 22 0 0) 22 1 0) 16 0 2) 23 0 1), Q, (uZ Z 0 (mrs2 (dsk I 0)))) := by
            unfold rrs
            rw [if_neg hnc, hN, show ohn (((uI (uI (uI (uI (rchI 0 (mstI 0 (uI (uI (uI I 11 0 0) 12 0 (-1)) 40 0 0))) 22 0 0) 22 1 0) 16 0 2) 23 0 1), Q, (uZ Z 0 (mrs2 (dsk I 0)))) : mM).1 0 = 1 from ohn_l (v := 0) ep171 (by decide)]
            exact if_pos c175
          rw [hms]
          exact ⟨rfl, RA_R (by omega) hA176⟩
        · skip
          refine go_s (pc' := 71) rfl rfl rfl rfl ?_
          refine go_s (pc' := 72) rfl rfl rfl rfl ?_
          have h5 : sq Q + hc [] true ≤ 5 := by
            have z := hMN.2
            rw [hN] at z
            have z2 : sq Q ≤ 5 := z
            have z3 : hc [] true = 0 := rfl
            omega
          have hU177 : RU w B R [] true h173 am ln K8 ((uI (uI (uI (uI (rchI 0 (mstI 0 (uI (uI (uI I 11 0 0) 12 0 (-1)) 40 0 0))) 22 0 0) 22 1 0) 16 0 2) 23 0 1), Q, (uZ Z 0 (mrs2 (dsk I 0)))) := RU_I (sm_e_refl (tbr am (13 * ln) 77 5088) _) (I' := (uI (uI (uI (uI (rchI 0 (mstI 0 (uI (uI (uI I 11 0 0) 12 0 (-1)) 40 0 0))) 22 0 0) 22 1 0) 16 0 2) 23 0 1)) (fun _ => rfl) (fun _ => rfl) (Nat.le_refl _) hU170
          have hA178 : RA w B R [] true h173 ((uI (uI (uI (uI (rchI 0 (mstI 0 (uI (uI (uI I 11 0 0) 12 0 (-1)) 40 0 0))) 22 0 0) 22 1 0) 16 0 2) 23 0 1), Q, (uZ Z 0 (mrs2 (dsk I 0)))) := RA_u.mpr ⟨_, _, _, _, hS8, hU177⟩
          refine go_callV (pc' := 73) rfl rfl rfl (Nat.le_of_ble_eq_true rfl) rfl (sm_o hS8 rfl) rfl rfl rfl (ra_sc_0 hA178 (by omega) (Or.inr (Or.inl ep171)) (fun z => absurd (ep171.symm.trans z) (by decide)) h5 (by omega)) (fun r h179 q180 => ?_)
          obtain ⟨rfl, hA181⟩ := q180
          refine go_ret rfl rfl ?_
          have hms : rrs 0 (I, Q, Z) = rsc 0 ((uI (uI (uI (uI (rchI 0 (mstI 0 (uI (uI (uI I 11 0 0) 12 0 (-1)) 40 0 0))) 22 0 0) 22 1 0) 16 0 2) 23 0 1), Q, (uZ Z 0 (mrs2 (dsk I 0)))) := by
            unfold rrs
            rw [if_neg hnc, hN, show ohn (((uI (uI (uI (uI (rchI 0 (mstI 0 (uI (uI (uI I 11 0 0) 12 0 (-1)) 40 0 0))) 22 0 0) 22 1 0) 16 0 2) 23 0 1), Q, (uZ Z 0 (mrs2 (dsk I 0)))) : mM).1 0 = 1 from ohn_l (v := 0) ep171 (by decide)]
            exact if_neg c175
          rw [hms]
          exact ⟨rfl, hA181⟩
theorem ra_rs_1 {w : Nat → Bool} {d B R : Nat} {h : am_Hp} {I : sm_I} {Q : mQ} {Z : mZ} (hA : RA w B R [] true h (I, Q, Z)) (hR : R + 1 < 40000) {X : Nat} (hM : MID X (I, Q, Z)) (hX : X + 60 < 2 ^ 28) (hd : 6 ≤ d) : am_Ev (am_prog w) d 170 [.ref 62, .int 1] h (fun r h' => r = none ∧ RA w B (R + 1) [] true h' (rrs 1 (I, Q, Z))) := by
  obtain ⟨K, Y, am, ln, hS, hU⟩ := RA_u.mp hA
  change sm (tbr am (13 * ln) 77 5088) h (jn I K) Y at hS
  obtain ⟨hW, hWm, -, -, hr, -⟩ := id hU.1
  have hln := RU_ln hU (by omega)
  obtain ⟨d, rfl⟩ : ∃ e, d = e + 1 := ⟨d - 1, by omega⟩
  refine ev_go rfl (Nat.le_of_ble_eq_true rfl) rfl ?_
  have hp0 : prk I 0 := (hM.2.2.1 0 (by decide)).1
  have hp1 : prk I 1 := (hM.2.2.1 1 (by decide)).1
  have hp2 : prk I 2 := (hM.2.2.1 2 (by decide)).1
  by_cases u0 : I 0 2 = 0
  · skip
    by_cases u1 : I 0 3 = 0
    · skip
      have hf : fup I 2 = -1 := (if_pos u0).trans (if_pos u1)
      refine go_s (pc' := 1) rfl rfl rfl rfl ?_
      refine go_s (pc' := 2) rfl rfl rfl rfl ?_
      refine go_callV (pc' := 3) rfl rfl rfl (Nat.le_of_ble_eq_true rfl) rfl (sm_o hS rfl) rfl rfl rfl (rt_fh_1 hr hS (by omega)) (fun r h1 q2 => ?_)
      obtain ⟨rfl, rfl⟩ := q2
      rw [show fup (jn I K) 2 = (-1) from hf]
      show am_Go _ _ _ _ 3 _ [.int (-1)] _ _
      refine go_s (pc' := 4) (lo' := [some (.ref 62), some (.int 1), some (.int (-1)), none]) rfl rfl rfl rfl ?_
      refine go_s (pc' := 5) rfl rfl rfl rfl ?_
      refine go_s (pc' := 6) (st' := [.int 0, .ref 62]) rfl rfl rfl rfl ?_
      refine go_callV (pc' := 7) rfl rfl rfl (Nat.le_of_ble_eq_true rfl) rfl (sm_o hS rfl) rfl rfl rfl (rt_us_0 hr hS (by omega)) (fun r h3 q4 => ?_)
      obtain ⟨rfl, rfl⟩ := q4
      rw [show us (jn I K) 0 = us I 0 from rfl]
      cases u5 : us I 0
      · skip
        show am_Go _ _ _ _ 7 _ [.int 0] _ _
        refine go_ifP (t' := 10) (pc' := 8) rfl rfl rfl (fun _ => ?_) (fun (c : ¬ ((0 : Int32) = 0)) => absurd (by decide) c)
        refine go_s (pc' := 11) rfl rfl rfl rfl ?_
        refine go_s (pc' := 12) (st' := [.int 1, .ref 62]) rfl rfl rfl rfl ?_
        refine go_callV (pc' := 13) rfl rfl rfl (Nat.le_of_ble_eq_true rfl) rfl (sm_o hS rfl) rfl rfl rfl (rt_us_1 hr hS (by omega)) (fun r h6 q7 => ?_)
        obtain ⟨rfl, rfl⟩ := q7
        rw [show us (jn I K) 1 = us I 1 from rfl]
        cases u8 : us I 1
        · skip
          show am_Go _ _ _ _ 13 _ [.int 0] _ _
          refine go_ifP (t' := 16) (pc' := 14) rfl rfl rfl (fun _ => ?_) (fun (c : ¬ ((0 : Int32) = 0)) => absurd (by decide) c)
          refine go_s (pc' := 17) (st' := [.int (-1)]) rfl rfl rfl rfl ?_
          refine go_s (pc' := 18) (lo' := [some (.ref 62), some (.int 1), some (.int (-1)), some (.int (-1))]) rfl rfl rfl rfl ?_
          refine go_s (pc' := 19) rfl rfl rfl rfl ?_
          refine go_sget (pc' := 20) (v := .ref 78) hS rfl rfl rfl (by decide) rfl rfl ?_
          refine go_s (pc' := 21) rfl rfl rfl rfl ?_
          refine go_sald (pc' := 22) (q := 1) (v := .int (I 11 1)) hS rfl (tr_s hr (a := 78) rfl (by decide)) rfl rfl (by decide) rfl rfl ?_
          refine go_s (pc' := 23) (st' := [.int (-1), .int (I 11 1)]) rfl rfl rfl rfl ?_
          refine go_icmpP (t' := 32) (pc' := 24) rfl rfl rfl (fun (c9 : ¬ (I 11 1) = (-1)) => ?_) (fun (c9' : ¬ ¬ (I 11 1) = (-1)) => ?_)
          · skip
            refine go_ret rfl rfl ?_
            have hms : rrs 1 (I, Q, Z) = (I, Q, Z) := if_pos (Or.inl c9)
            rw [hms]
            exact ⟨rfl, RA_R (by omega) hA⟩
          · skip
            have c9 : (I 11 1) = (-1) := Decidable.not_not.mp c9'
            refine go_s (pc' := 25) rfl rfl rfl rfl ?_
            refine go_s (pc' := 26) (st' := [.int (-1), .int (-1)]) rfl rfl rfl rfl ?_
            refine go_icmpP (t' := 32) (pc' := 27) rfl rfl rfl (fun _ => ?_) (fun (c : ¬ (((-1) : Int32) = (-1))) => absurd (by decide) c)
            refine go_ret rfl rfl ?_
            have hms : rrs 1 (I, Q, Z) = (I, Q, Z) := if_pos (Or.inr (Or.inl hf))
            rw [hms]
            exact ⟨rfl, RA_R (by omega) hA⟩
        · skip
          show am_Go _ _ _ _ 13 _ [.int 1] _ _
          refine go_ifP (t' := 16) (pc' := 14) rfl rfl rfl (fun (c : (1 : Int32) = 0) => absurd c (by decide)) (fun _ => ?_)
          refine go_s (pc' := 15) (st' := [.int 1]) rfl rfl rfl rfl ?_
          refine go_s (pc' := 17) rfl rfl rfl rfl ?_
          refine go_s (pc' := 18) (lo' := [some (.ref 62), some (.int 1), some (.int (-1)), some (.int 1)]) rfl rfl rfl rfl ?_
          refine go_s (pc' := 19) rfl rfl rfl rfl ?_
          refine go_sget (pc' := 20) (v := .ref 78) hS rfl rfl rfl (by decide) rfl rfl ?_
          refine go_s (pc' := 21) rfl rfl rfl rfl ?_
          refine go_sald (pc' := 22) (q := 1) (v := .int (I 11 1)) hS rfl (tr_s hr (a := 78) rfl (by decide)) rfl rfl (by decide) rfl rfl ?_
          refine go_s (pc' := 23) (st' := [.int (-1), .int (I 11 1)]) rfl rfl rfl rfl ?_
          refine go_icmpP (t' := 32) (pc' := 24) rfl rfl rfl (fun (c10 : ¬ (I 11 1) = (-1)) => ?_) (fun (c10' : ¬ ¬ (I 11 1) = (-1)) => ?_)
          · skip
            refine go_ret rfl rfl ?_
            have hms : rrs 1 (I, Q, Z) = (I, Q, Z) := if_pos (Or.inl c10)
            rw [hms]
            exact ⟨rfl, RA_R (by omega) hA⟩
          · skip
            have c10 : (I 11 1) = (-1) := Decidable.not_not.mp c10'
            refine go_s (pc' := 25) rfl rfl rfl rfl ?_
            refine go_s (pc' := 26) (st' := [.int (-1), .int (-1)]) rfl rfl rfl rfl ?_
            refine go_icmpP (t' := 32) (pc' := 27) rfl rfl rfl (fun _ => ?_) (fun (c : ¬ (((-1) : Int32) = (-1))) => absurd (by decide) c)
            refine go_ret rfl rfl ?_
            have hms : rrs 1 (I, Q, Z) = (I, Q, Z) := if_pos (Or.inr (Or.inl hf))
            rw [hms]
            exact ⟨rfl, RA_R (by omega) hA⟩
      · skip
        show am_Go _ _ _ _ 7 _ [.int 1] _ _
        refine go_ifP (t' := 10) (pc' := 8) rfl rfl rfl (fun (c : (1 : Int32) = 0) => absurd c (by decide)) (fun _ => ?_)
        refine go_s (pc' := 9) (st' := [.int 0]) rfl rfl rfl rfl ?_
        refine go_s (pc' := 17) rfl rfl rfl rfl ?_
        refine go_s (pc' := 18) (lo' := [some (.ref 62), some (.int 1), some (.int (-1)), some (.int 0)]) rfl rfl rfl rfl ?_
        refine go_s (pc' := 19) rfl rfl rfl rfl ?_
        refine go_sget (pc' := 20) (v := .ref 78) hS rfl rfl rfl (by decide) rfl rfl ?_
        refine go_s (pc' := 21) rfl rfl rfl rfl ?_
        refine go_sald (pc' := 22) (q := 1) (v := .int (I 11 1)) hS rfl (tr_s hr (a := 78) rfl (by decide)) rfl rfl (by decide) rfl rfl ?_
        refine go_s (pc' := 23) (st' := [.int (-1), .int (I 11 1)]) rfl rfl rfl rfl ?_
        refine go_icmpP (t' := 32) (pc' := 24) rfl rfl rfl (fun (c11 : ¬ (I 11 1) = (-1)) => ?_) (fun (c11' : ¬ ¬ (I 11 1) = (-1)) => ?_)
        · skip
          refine go_ret rfl rfl ?_
          have hms : rrs 1 (I, Q, Z) = (I, Q, Z) := if_pos (Or.inl c11)
          rw [hms]
          exact ⟨rfl, RA_R (by omega) hA⟩
        · skip
          have c11 : (I 11 1) = (-1) := Decidable.not_not.mp c11'
          refine go_s (pc' := 25) rfl rfl rfl rfl ?_
          refine go_s (pc' := 26) (st' := [.int (-1), .int (-1)]) rfl rfl rfl rfl ?_
          refine go_icmpP (t' := 32) (pc' := 27) rfl rfl rfl (fun _ => ?_) (fun (c : ¬ (((-1) : Int32) = (-1))) => absurd (by decide) c)
          refine go_ret rfl rfl ?_
          have hms : rrs 1 (I, Q, Z) = (I, Q, Z) := if_pos (Or.inr (Or.inl hf))
          rw [hms]
          exact ⟨rfl, RA_R (by omega) hA⟩
    · skip
      have hf : fup I 2 = 3 := (if_pos u0).trans (if_neg u1)
      refine go_s (pc' := 1) rfl rfl rfl rfl ?_
      refine go_s (pc' := 2) rfl rfl rfl rfl ?_
      refine go_callV (pc' := 3) rfl rfl rfl (Nat.le_of_ble_eq_true rfl) rfl (sm_o hS rfl) rfl rfl rfl (rt_fh_1 hr hS (by omega)) (fun r h12 q13 => ?_)
      obtain ⟨rfl, rfl⟩ := q13
      rw [show fup (jn I K) 2 = 3 from hf]
      show am_Go _ _ _ _ 3 _ [.int 3] _ _
      refine go_s (pc' := 4) (lo' := [some (.ref 62), some (.int 1), some (.int 3), none]) rfl rfl rfl rfl ?_
      refine go_s (pc' := 5) rfl rfl rfl rfl ?_
      refine go_s (pc' := 6) (st' := [.int 0, .ref 62]) rfl rfl rfl rfl ?_
      refine go_callV (pc' := 7) rfl rfl rfl (Nat.le_of_ble_eq_true rfl) rfl (sm_o hS rfl) rfl rfl rfl (rt_us_0 hr hS (by omega)) (fun r h14 q15 => ?_)
      obtain ⟨rfl, rfl⟩ := q15
      rw [show us (jn I K) 0 = us I 0 from rfl]
      cases u16 : us I 0
      · skip
        show am_Go _ _ _ _ 7 _ [.int 0] _ _
        refine go_ifP (t' := 10) (pc' := 8) rfl rfl rfl (fun _ => ?_) (fun (c : ¬ ((0 : Int32) = 0)) => absurd (by decide) c)
        refine go_s (pc' := 11) rfl rfl rfl rfl ?_
        refine go_s (pc' := 12) (st' := [.int 1, .ref 62]) rfl rfl rfl rfl ?_
        refine go_callV (pc' := 13) rfl rfl rfl (Nat.le_of_ble_eq_true rfl) rfl (sm_o hS rfl) rfl rfl rfl (rt_us_1 hr hS (by omega)) (fun r h17 q18 => ?_)
        obtain ⟨rfl, rfl⟩ := q18
        rw [show us (jn I K) 1 = us I 1 from rfl]
        cases u19 : us I 1
        · skip
          show am_Go _ _ _ _ 13 _ [.int 0] _ _
          refine go_ifP (t' := 16) (pc' := 14) rfl rfl rfl (fun _ => ?_) (fun (c : ¬ ((0 : Int32) = 0)) => absurd (by decide) c)
          refine go_s (pc' := 17) (st' := [.int (-1)]) rfl rfl rfl rfl ?_
          refine go_s (pc' := 18) (lo' := [some (.ref 62), some (.int 1), some (.int 3), some (.int (-1))]) rfl rfl rfl rfl ?_
          refine go_s (pc' := 19) rfl rfl rfl rfl ?_
          refine go_sget (pc' := 20) (v := .ref 78) hS rfl rfl rfl (by decide) rfl rfl ?_
          refine go_s (pc' := 21) rfl rfl rfl rfl ?_
          refine go_sald (pc' := 22) (q := 1) (v := .int (I 11 1)) hS rfl (tr_s hr (a := 78) rfl (by decide)) rfl rfl (by decide) rfl rfl ?_
          refine go_s (pc' := 23) (st' := [.int (-1), .int (I 11 1)]) rfl rfl rfl rfl ?_
          refine go_icmpP (t' := 32) (pc' := 24) rfl rfl rfl (fun (c20 : ¬ (I 11 1) = (-1)) => ?_) (fun (c20' : ¬ ¬ (I 11 1) = (-1)) => ?_)
          · skip
            refine go_ret rfl rfl ?_
            have hms : rrs 1 (I, Q, Z) = (I, Q, Z) := if_pos (Or.inl c20)
            rw [hms]
            exact ⟨rfl, RA_R (by omega) hA⟩
          · skip
            have c20 : (I 11 1) = (-1) := Decidable.not_not.mp c20'
            refine go_s (pc' := 25) rfl rfl rfl rfl ?_
            refine go_s (pc' := 26) (st' := [.int (-1), .int 3]) rfl rfl rfl rfl ?_
            refine go_icmpP (t' := 32) (pc' := 27) rfl rfl rfl (fun (c : (3 : Int32) = (-1)) => absurd c (by decide)) (fun _ => ?_)
            refine go_s (pc' := 28) rfl rfl rfl rfl ?_
            refine go_ifP (t' := 33) (pc' := 29) rfl rfl rfl (fun _ => ?_) (fun (c : ¬ (¬ (1 : Int32) = 0)) => absurd (by decide) c)
            refine go_s (pc' := 34) rfl rfl rfl rfl ?_
            refine go_sget (pc' := 35) (v := .ref 78) hS rfl rfl rfl (by decide) rfl rfl ?_
            refine go_s (pc' := 36) rfl rfl rfl rfl ?_
            refine go_s (pc' := 37) rfl rfl rfl rfl ?_
            refine go_siast (pc' := 38) (q := 1) hS rfl (tr_s hr (a := 78) rfl (by decide)) tbr_inj (Nat.le_of_ble_eq_true rfl) rfl (by decide) (by decide) (hW _ (by decide) (by decide)) rfl (fun h21 hS22 hE23 => ?_)
            refine go_s (pc' := 39) rfl rfl rfl rfl ?_
            refine go_sget (pc' := 40) (v := .ref 79) hS22 rfl rfl rfl (by decide) rfl rfl ?_
            refine go_s (pc' := 41) rfl rfl rfl rfl ?_
            refine go_s (pc' := 42) (st' := [.int (-1), .int 1, .ref 79]) rfl rfl rfl rfl ?_
            refine go_siast (pc' := 43) (q := 1) hS22 rfl (tr_s hr (a := 79) rfl (by decide)) tbr_inj (Nat.le_of_ble_eq_true rfl) rfl (by decide) (by decide) (hW _ (by decide) (by decide)) rfl (fun h24 hS25 hE26 => ?_)
            have hE27 := sm_e_trans hE23 hE26
            change sm (tbr am (13 * ln) 77 5088) _ (uI (uI (jn I K) 11 1 3) 12 1 (-1)) Y at hS25
            rw [jn_lo (c := 11) (by decide), jn_lo (c := 12) (by decide)] at hS25
            have hU28 : RU w B R [] true h24 am ln K ((uI (uI I 11 1 3) 12 1 (-1)), Q, Z) := RU_I (hE27) (I' := (uI (uI I 11 1 3) 12 1 (-1))) (fun _ => rfl) (fun _ => rfl) (Nat.le_refl _) hU
            have hS29 : sm (tbr am (13 * ln) 77 5088) _ (jn (uI (uI (uI I 11 1 3) 12 1 (-1)) 40 1 0) K) Y := sm_jg hr hS25 (fun c j _ n1 n2 n3 => uI_c n3)
            have hU30 : RU w B R [] true h24 am ln K ((uI (uI (uI I 11 1 3) 12 1 (-1)) 40 1 0), Q, Z) := RU_I (sm_e_refl (tbr am (13 * ln) 77 5088) _) (fun _ => rfl) (fun _ => rfl) (Nat.le_refl _) hU28
            refine go_s (pc' := 44) rfl rfl rfl rfl ?_
            refine go_s (pc' := 45) rfl rfl rfl rfl ?_
            have hU31 : RU w B R [] true h24 am ln K ((uI (uI (uI I 11 1 3) 12 1 (-1)) 40 1 0), Q, Z) := RU_I (sm_e_refl (tbr am (13 * ln) 77 5088) _) (I' := (uI (uI (uI I 11 1 3) 12 1 (-1)) 40 1 0)) (fun _ => rfl) (fun _ => rfl) (Nat.le_refl _) hU30
            refine go_callV (pc' := 46) rfl rfl rfl (Nat.le_of_ble_eq_true rfl) rfl (sm_o hS29 rfl) rfl rfl rfl (rt_stops_1 hr hS29 hW (by omega)) (fun r h32 q33 => ?_)
            obtain ⟨rfl, hS34, hE35⟩ := q33
            change sm (tbr am (13 * ln) 77 5088) _ (mstI 1 (jn (uI (uI (uI I 11 1 3) 12 1 (-1)) 40 1 0) K)) Y at hS34
            rw [mst_jn] at hS34
            have hU36 : RU w B R [] true h32 am ln K ((mstI 1 (uI (uI (uI I 11 1 3) 12 1 (-1)) 40 1 0)), Q, Z) := RU_I hE35 mst_24 mst_25 mst_stn hU31
            have ep37 : (mstI 1 (uI (uI (uI I 11 1 3) 12 1 (-1)) 40 1 0)) 11 1 = 3 := (congrFun mst_11 1).trans (show (uI (uI (uI I 11 1 3) 12 1 (-1)) 40 1 0) 11 1 = 3 from rfl)
            refine go_s (pc' := 47) rfl rfl rfl rfl ?_
            refine go_s (pc' := 48) (st' := [.int 2, .ref 62]) rfl rfl rfl rfl ?_
            refine go_s (pc' := 49) rfl rfl rfl rfl ?_
            refine go_s (pc' := 50) (st' := [.int 2, .ref 62]) rfl rfl rfl rfl ?_
            refine go_s (pc' := 51) rfl rfl rfl rfl ?_
            refine go_s (pc' := 52) (st' := [.int 2, .int 3, .int 2, .ref 62]) rfl rfl rfl rfl ?_
            refine go_s (pc' := 53) (st' := [.int 1, .int 2, .ref 62]) rfl rfl rfl rfl ?_
            refine go_s (pc' := 54) (st' := [.int 3, .ref 62]) rfl rfl rfl rfl ?_
            have hU38 : RU w B R [] true h32 am ln K ((mstI 1 (uI (uI (uI I 11 1 3) 12 1 (-1)) 40 1 0)), Q, Z) := RU_I (sm_e_refl (tbr am (13 * ln) 77 5088) _) (I' := (mstI 1 (uI (uI (uI I 11 1 3) 12 1 (-1)) 40 1 0))) (fun _ => rfl) (fun _ => rfl) (Nat.le_refl _) hU36
            refine go_callV (pc' := 55) rfl rfl rfl (Nat.le_of_ble_eq_true rfl) rfl (sm_o hS34 rfl) rfl rfl rfl (rs_cl hr hS34 hW (hW 77 (by decide) (by decide)) (r9 := 3) (by decide) (by decide) (by omega)) (fun r h39 q40 => ?_)
            obtain ⟨rfl, hS41, hE42⟩ := q40
            rw [clI_jn] at hS41
            obtain ⟨K9, eK9⟩ : ∃ z, z = clI K 3 424 := ⟨_, rfl⟩
            rw [← eK9] at hS41
            have f9 : rfr K K9 3 := by
              rw [eK9]
              exact clI_r (Nat.le_refl _)
            have z9 : ∀ j, j < 424 → K9 51 (424 * 3 + j) = 0 := fun j hj => by
              rw [eK9]
              exact cl_z hj
            have hR9 : RS K9 3 (fun _ => 0, [], []) := by
              rw [eK9]
              exact RS_cl
            refine go_s (pc' := 56) rfl rfl rfl rfl ?_
            refine go_ifP (t' := 61) (pc' := 57) rfl rfl rfl (fun _ => ?_) (fun (c : ¬ (¬ (1 : Int32) = 0)) => absurd (by decide) c)
            refine go_s (pc' := 62) rfl rfl rfl rfl ?_
            refine go_s (pc' := 63) rfl rfl rfl rfl ?_
            refine go_callV (pc' := 64) rfl rfl rfl (Nat.le_of_ble_eq_true rfl) rfl (sm_o hS41 rfl) rfl rfl rfl (rx_rT_1_3 hr hS41 hln hW ep37 (by omega)) (fun r h43 q44 => ?_)
            obtain ⟨rfl, hS45, hE46⟩ := q44
            have hE47 := sm_e_trans hE42 hE46
            have hU48 : RU w B R [] true h43 am ln (uI (uI K9 51 1283 ((mstI 1 (uI (uI (uI I 11 1 3) 12 1 (-1)) 40 1 0)) 17 0 + 1)) 51 1277 (-1)) ((uI (uI (mstI 1 (uI (uI (uI I 11 1 3) 12 1 (-1)) 40 1 0)) 17 0 ((mstI 1 (uI (uI (uI I 11 1 3) 12 1 (-1)) 40 1 0)) 17 0 + 1)) 18 0 0), Q, uZ Z 3 (rwT ((mstI 1 (uI (uI (uI I 11 1 3) 12 1 (-1)) 40 1 0)) 17 0 + 1))) := RU_row (K' := (uI (uI K9 51 1283 ((mstI 1 (uI (uI (uI I 11 1 3) 12 1 (-1)) 40 1 0)) 17 0 + 1)) 51 1277 (-1))) (s := (rwT ((mstI 1 (uI (uI (uI I 11 1 3) 12 1 (-1)) 40 1 0)) 17 0 + 1))) (by decide) (fun c j hc hn => by
              rw [← f9 c j hn]
              simp only [uI]
              rw [if_neg (by omega), if_neg (by omega)]) (⟨fun h => absurd h (by decide), fun _ j hj => by
              match j, hj with
              | 0, _ => (repeat (first | rw [uI_e (by decide)] | rw [uI_j (by decide)])) <;> first | rfl | exact z9 0 (by decide)
              | 1, _ => (repeat (first | rw [uI_e (by decide)] | rw [uI_j (by decide)])) <;> first | rfl | exact z9 1 (by decide)
              | 2, _ => (repeat (first | rw [uI_e (by decide)] | rw [uI_j (by decide)])) <;> first | rfl | exact z9 2 (by decide)
              | 3, _ => (repeat (first | rw [uI_e (by decide)] | rw [uI_j (by decide)])) <;> first | rfl | exact z9 3 (by decide)
              | 4, _ => (repeat (first | rw [uI_e (by decide)] | rw [uI_j (by decide)])) <;> first | rfl | exact z9 4 (by decide)
              | 5, _ => (repeat (first | rw [uI_e (by decide)] | rw [uI_j (by decide)])) <;> first | rfl | exact z9 5 (by decide)
              | 6, _ => (repeat (first | rw [uI_e (by decide)] | rw [uI_j (by decide)])) <;> first | rfl | exact z9 6 (by decide)
              | 7, _ => (repeat (first | rw [uI_e (by decide)] | rw [uI_j (by decide)])) <;> first | rfl | exact z9 7 (by decide)
              | 8, _ => (repeat (first | rw [uI_e (by decide)] | rw [uI_j (by decide)])) <;> first | rfl | exact z9 8 (by decide)
              | 9, _ => (repeat (first | rw [uI_e (by decide)] | rw [uI_j (by decide)])) <;> first | rfl | exact z9 9 (by decide)
              | 10, _ => (repeat (first | rw [uI_e (by decide)] | rw [uI_j (by decide)])) <;> first | rfl | exact z9 10 (by decide)
              | 11, _ => (repeat (first | rw [uI_e (by decide)] | rw [uI_j (by decide)])) <;> first | rfl | exact z9 11 (by decide)⟩) (RU_I hE47 (I' := (uI (uI (mstI 1 (uI (uI (uI I 11 1 3) 12 1 (-1)) 40 1 0)) 17 0 ((mstI 1 (uI (uI (uI I 11 1 3) 12 1 (-1)) 40 1 0)) 17 0 + 1)) 18 0 0)) (fun _ => rfl) (fun _ => rfl) (Nat.le_refl _) hU38)
            have hN : rrsN 1 (I, Q, Z) = ((uI (uI (mstI 1 (uI (uI (uI I 11 1 3) 12 1 (-1)) 40 1 0)) 17 0 ((mstI 1 (uI (uI (uI I 11 1 3) 12 1 (-1)) 40 1 0)) 17 0 + 1)) 18 0 0), Q, (uZ Z 3 (rwT ((mstI 1 (uI (uI (uI I 11 1 3) 12 1 (-1)) 40 1 0)) 17 0 + 1)))) := by
              unfold rrsN rrs1
              rw [if_neg (by decide), if_neg (by decide), show fup ((I, Q, Z) : mM).1 2 = 3 from hf]
              unfold rrsT
              rw [show rwi (((uI (uI (uI I 11 1 3) 12 1 (-1)) 40 1 0), Q, Z) : mM).1 1 = 3 from rwi_l (v := 3) rfl (by decide)]
              rw [uI_x (c := 18) (c' := 16) (by decide), uI_x (c := 17) (c' := 16) (by decide), show mstI 1 (uI (uI (uI I 11 1 3) 12 1 (-1)) 40 1 0) = uI (uI (uI (uI I 11 1 3) 12 1 (-1)) 40 1 0) 16 1 0 from if_neg (by decide)]
              rfl
            have hMN := MID_rN (k := 1) (by omega) hM (by decide) c20 (show ¬ fup I 2 = -1 by rw [hf]; decide) (fun z => absurd z (by decide))
            have hnc : ¬ (¬ ((I, Q, Z) : mM).1 11 1 = -1 ∨ fup ((I, Q, Z) : mM).1 (if 1 = 0 then 0 else 2) = -1 ∨ (1 = 0 ∧ chs ((I, Q, Z) : mM).1 = -1)) := fun z => z.elim (fun y => y c20) (fun z => z.elim (fun y => absurd (hf.symm.trans y) (by decide)) (fun y => absurd y.1 (by decide)))
            refine go_s (pc' := 65) rfl rfl rfl rfl ?_
            refine go_sget (pc' := 66) (v := .ref 63) hS45 rfl rfl rfl (by decide) rfl rfl ?_
            refine go_s (pc' := 67) rfl rfl rfl rfl ?_
            refine go_callS (pc' := 68) rfl rfl rfl (Nat.le_of_ble_eq_true rfl) rfl rfl rfl (rt_oh_3 (by omega)) (fun r h49 q50 => ?_)
            obtain ⟨rfl, rfl⟩ := q50
            refine go_sald (pc' := 69) (q := 2) (v := .int ((uI (uI (mstI 1 (uI (uI (uI I 11 1 3) 12 1 (-1)) 40 1 0)) 17 0 ((mstI 1 (uI (uI (uI I 11 1 3) 12 1 (-1)) 40 1 0)) 17 0 + 1)) 18 0 0) 0 2)) hS45 rfl (tr_s hr (a := 63) rfl (by decide)) rfl rfl (by decide) rfl rfl ?_
            refine go_ifP (t' := 73) (pc' := 70) rfl rfl rfl (fun (c51 : ((uI (uI (mstI 1 (uI (uI (uI I 11 1 3) 12 1 (-1)) 40 1 0)) 17 0 ((mstI 1 (uI (uI (uI I 11 1 3) 12 1 (-1)) 40 1 0)) 17 0 + 1)) 18 0 0) 0 2) = 0) => ?_) (fun (c51 : ¬ ((uI (uI (mstI 1 (uI (uI (uI I 11 1 3) 12 1 (-1)) 40 1 0)) 17 0 ((mstI 1 (uI (uI (uI I 11 1 3) 12 1 (-1)) 40 1 0)) 17 0 + 1)) 18 0 0) 0 2) = 0) => ?_)
            · skip
              refine go_ret rfl rfl ?_
              have hA52 : RA w B R [] true h49 ((uI (uI (mstI 1 (uI (uI (uI I 11 1 3) 12 1 (-1)) 40 1 0)) 17 0 ((mstI 1 (uI (uI (uI I 11 1 3) 12 1 (-1)) 40 1 0)) 17 0 + 1)) 18 0 0), Q, (uZ Z 3 (rwT ((mstI 1 (uI (uI (uI I 11 1 3) 12 1 (-1)) 40 1 0)) 17 0 + 1)))) := RA_u.mpr ⟨_, _, _, _, hS45, hU48⟩
              have hms : rrs 1 (I, Q, Z) = ((uI (uI (mstI 1 (uI (uI (uI I 11 1 3) 12 1 (-1)) 40 1 0)) 17 0 ((mstI 1 (uI (uI (uI I 11 1 3) 12 1 (-1)) 40 1 0)) 17 0 + 1)) 18 0 0), Q, (uZ Z 3 (rwT ((mstI 1 (uI (uI (uI I 11 1 3) 12 1 (-1)) 40 1 0)) 17 0 + 1)))) := by
                unfold rrs
                rw [if_neg hnc, hN, show ohn (((uI (uI (mstI 1 (uI (uI (uI I 11 1 3) 12 1 (-1)) 40 1 0)) 17 0 ((mstI 1 (uI (uI (uI I 11 1 3) 12 1 (-1)) 40 1 0)) 17 0 + 1)) 18 0 0), Q, (uZ Z 3 (rwT ((mstI 1 (uI (uI (uI I 11 1 3) 12 1 (-1)) 40 1 0)) 17 0 + 1)))) : mM).1 1 = 2 from ohn_l (v := 3) (show (uI (uI (mstI 1 (uI (uI (uI I 11 1 3) 12 1 (-1)) 40 1 0)) 17 0 ((mstI 1 (uI (uI (uI I 11 1 3) 12 1 (-1)) 40 1 0)) 17 0 + 1)) 18 0 0) 11 1 = 3 from ep37) (by decide)]
                exact if_pos c51
              rw [hms]
              exact ⟨rfl, RA_R (by omega) hA52⟩
            · skip
              refine go_s (pc' := 71) rfl rfl rfl rfl ?_
              refine go_s (pc' := 72) rfl rfl rfl rfl ?_
              have h5 : sq Q + hc [] true ≤ 5 := by
                have z := hMN.2
                rw [hN] at z
                have z2 : sq Q ≤ 5 := z
                have z3 : hc [] true = 0 := rfl
                omega
              have hU53 : RU w B R [] true h49 am ln (uI (uI K9 51 1283 ((mstI 1 (uI (uI (uI I 11 1 3) 12 1 (-1)) 40 1 0)) 17 0 + 1)) 51 1277 (-1)) ((uI (uI (mstI 1 (uI (uI (uI I 11 1 3) 12 1 (-1)) 40 1 0)) 17 0 ((mstI 1 (uI (uI (uI I 11 1 3) 12 1 (-1)) 40 1 0)) 17 0 + 1)) 18 0 0), Q, (uZ Z 3 (rwT ((mstI 1 (uI (uI (uI I 11 1 3) 12 1 (-1)) 40 1 0)) 17 0 + 1)))) := RU_I (sm_e_refl (tbr am (13 * ln) 77 5088) _) (I' := (uI (uI (mstI 1 (uI (uI (uI I 11 1 3) 12 1 (-1)) 40 1 0)) 17 0 ((mstI 1 (uI (uI (uI I 11 1 3) 12 1 (-1)) 40 1 0)) 17 0 + 1)) 18 0 0)) (fun _ => rfl) (fun _ => rfl) (Nat.le_refl _) hU48
              have hA54 : RA w B R [] true h49 ((uI (uI (mstI 1 (uI (uI (uI I 11 1 3) 12 1 (-1)) 40 1 0)) 17 0 ((mstI 1 (uI (uI (uI I 11 1 3) 12 1 (-1)) 40 1 0)) 17 0 + 1)) 18 0 0), Q, (uZ Z 3 (rwT ((mstI 1 (uI (uI (uI I 11 1 3) 12 1 (-1)) 40 1 0)) 17 0 + 1)))) := RA_u.mpr ⟨_, _, _, _, hS45, hU53⟩
              refine go_callV (pc' := 73) rfl rfl rfl (Nat.le_of_ble_eq_true rfl) rfl (sm_o hS45 rfl) rfl rfl rfl (ra_sc_1 hA54 (by omega) (Or.inr (Or.inr (show (uI (uI (mstI 1 (uI (uI (uI I 11 1 3) 12 1 (-1)) 40 1 0)) 17 0 ((mstI 1 (uI (uI (uI I 11 1 3) 12 1 (-1)) 40 1 0)) 17 0 + 1)) 18 0 0) 11 1 = 3 from ep37))) (fun z => absurd ((show (uI (uI (mstI 1 (uI (uI (uI I 11 1 3) 12 1 (-1)) 40 1 0)) 17 0 ((mstI 1 (uI (uI (uI I 11 1 3) 12 1 (-1)) 40 1 0)) 17 0 + 1)) 18 0 0) 11 1 = 3 from ep37).symm.trans z) (by decide)) h5 (by omega)) (fun r h55 q56 => ?_)
              obtain ⟨rfl, hA57⟩ := q56
              refine go_ret rfl rfl ?_
              have hms : rrs 1 (I, Q, Z) = rsc 1 ((uI (uI (mstI 1 (uI (uI (uI I 11 1 3) 12 1 (-1)) 40 1 0)) 17 0 ((mstI 1 (uI (uI (uI I 11 1 3) 12 1 (-1)) 40 1 0)) 17 0 + 1)) 18 0 0), Q, (uZ Z 3 (rwT ((mstI 1 (uI (uI (uI I 11 1 3) 12 1 (-1)) 40 1 0)) 17 0 + 1)))) := by
                unfold rrs
                rw [if_neg hnc, hN, show ohn (((uI (uI (mstI 1 (uI (uI (uI I 11 1 3) 12 1 (-1)) 40 1 0)) 17 0 ((mstI 1 (uI (uI (uI I 11 1 3) 12 1 (-1)) 40 1 0)) 17 0 + 1)) 18 0 0), Q, (uZ Z 3 (rwT ((mstI 1 (uI (uI (uI I 11 1 3) 12 1 (-1)) 40 1 0)) 17 0 + 1)))) : mM).1 1 = 2 from ohn_l (v := 3) (show (uI (uI (mstI 1 (uI (uI (uI I 11 1 3) 12 1 (-1)) 40 1 0)) 17 0 ((mstI 1 (uI (uI (uI I 11 1 3) 12 1 (-1)) 40 1 0)) 17 0 + 1)) 18 0 0) 11 1 = 3 from ep37) (by decide)]
                exact if_neg c51
              rw [hms]
              exact ⟨rfl, hA57⟩
        · skip
          show am_Go _ _ _ _ 13 _ [.int 1] _ _
          refine go_ifP (t' := 16) (pc' := 14) rfl rfl rfl (fun (c : (1 : Int32) = 0) => absurd c (by decide)) (fun _ => ?_)
          refine go_s (pc' := 15) (st' := [.int 1]) rfl rfl rfl rfl ?_
          refine go_s (pc' := 17) rfl rfl rfl rfl ?_
          refine go_s (pc' := 18) (lo' := [some (.ref 62), some (.int 1), some (.int 3), some (.int 1)]) rfl rfl rfl rfl ?_
          refine go_s (pc' := 19) rfl rfl rfl rfl ?_
          refine go_sget (pc' := 20) (v := .ref 78) hS rfl rfl rfl (by decide) rfl rfl ?_
          refine go_s (pc' := 21) rfl rfl rfl rfl ?_
          refine go_sald (pc' := 22) (q := 1) (v := .int (I 11 1)) hS rfl (tr_s hr (a := 78) rfl (by decide)) rfl rfl (by decide) rfl rfl ?_
          refine go_s (pc' := 23) (st' := [.int (-1), .int (I 11 1)]) rfl rfl rfl rfl ?_
          refine go_icmpP (t' := 32) (pc' := 24) rfl rfl rfl (fun (c58 : ¬ (I 11 1) = (-1)) => ?_) (fun (c58' : ¬ ¬ (I 11 1) = (-1)) => ?_)
          · skip
            refine go_ret rfl rfl ?_
            have hms : rrs 1 (I, Q, Z) = (I, Q, Z) := if_pos (Or.inl c58)
            rw [hms]
            exact ⟨rfl, RA_R (by omega) hA⟩
          · skip
            have c58 : (I 11 1) = (-1) := Decidable.not_not.mp c58'
            refine go_s (pc' := 25) rfl rfl rfl rfl ?_
            refine go_s (pc' := 26) (st' := [.int (-1), .int 3]) rfl rfl rfl rfl ?_
            refine go_icmpP (t' := 32) (pc' := 27) rfl rfl rfl (fun (c : (3 : Int32) = (-1)) => absurd c (by decide)) (fun _ => ?_)
            refine go_s (pc' := 28) rfl rfl rfl rfl ?_
            refine go_ifP (t' := 33) (pc' := 29) rfl rfl rfl (fun _ => ?_) (fun (c : ¬ (¬ (1 : Int32) = 0)) => absurd (by decide) c)
            refine go_s (pc' := 34) rfl rfl rfl rfl ?_
            refine go_sget (pc' := 35) (v := .ref 78) hS rfl rfl rfl (by decide) rfl rfl ?_
            refine go_s (pc' := 36) rfl rfl rfl rfl ?_
            refine go_s (pc' := 37) rfl rfl rfl rfl ?_
            refine go_siast (pc' := 38) (q := 1) hS rfl (tr_s hr (a := 78) rfl (by decide)) tbr_inj (Nat.le_of_ble_eq_true rfl) rfl (by decide) (by decide) (hW _ (by decide) (by decide)) rfl (fun h59 hS60 hE61 => ?_)
            refine go_s (pc' := 39) rfl rfl rfl rfl ?_
            refine go_sget (pc' := 40) (v := .ref 79) hS60 rfl rfl rfl (by decide) rfl rfl ?_
            refine go_s (pc' := 41) rfl rfl rfl rfl ?_
            refine go_s (pc' := 42) (st' := [.int (-1), .int 1, .ref 79]) rfl rfl rfl rfl ?_
            refine go_siast (pc' := 43) (q := 1) hS60 rfl (tr_s hr (a := 79) rfl (by decide)) tbr_inj (Nat.le_of_ble_eq_true rfl) rfl (by decide) (by decide) (hW _ (by decide) (by decide)) rfl (fun h62 hS63 hE64 => ?_)
            have hE65 := sm_e_trans hE61 hE64
            change sm (tbr am (13 * ln) 77 5088) _ (uI (uI (jn I K) 11 1 3) 12 1 (-1)) Y at hS63
            rw [jn_lo (c := 11) (by decide), jn_lo (c := 12) (by decide)] at hS63
            have hU66 : RU w B R [] true h62 am ln K ((uI (uI I 11 1 3) 12 1 (-1)), Q, Z) := RU_I (hE65) (I' := (uI (uI I 11 1 3) 12 1 (-1))) (fun _ => rfl) (fun _ => rfl) (Nat.le_refl _) hU
            have hS67 : sm (tbr am (13 * ln) 77 5088) _ (jn (uI (uI (uI I 11 1 3) 12 1 (-1)) 40 1 0) K) Y := sm_jg hr hS63 (fun c j _ n1 n2 n3 => uI_c n3)
            have hU68 : RU w B R [] true h62 am ln K ((uI (uI (uI I 11 1 3) 12 1 (-1)) 40 1 0), Q, Z) := RU_I (sm_e_refl (tbr am (13 * ln) 77 5088) _) (fun _ => rfl) (fun _ => rfl) (Nat.le_refl _) hU66
            refine go_s (pc' := 44) rfl rfl rfl rfl ?_
            refine go_s (pc' := 45) rfl rfl rfl rfl ?_
            have hU69 : RU w B R [] true h62 am ln K ((uI (uI (uI I 11 1 3) 12 1 (-1)) 40 1 0), Q, Z) := RU_I (sm_e_refl (tbr am (13 * ln) 77 5088) _) (I' := (uI (uI (uI I 11 1 3) 12 1 (-1)) 40 1 0)) (fun _ => rfl) (fun _ => rfl) (Nat.le_refl _) hU68
            refine go_callV (pc' := 46) rfl rfl rfl (Nat.le_of_ble_eq_true rfl) rfl (sm_o hS67 rfl) rfl rfl rfl (rt_stops_1 hr hS67 hW (by omega)) (fun r h70 q71 => ?_)
            obtain ⟨rfl, hS72, hE73⟩ := q71
            change sm (tbr am (13 * ln) 77 5088) _ (mstI 1 (jn (uI (uI (uI I 11 1 3) 12 1 (-1)) 40 1 0) K)) Y at hS72
            rw [mst_jn] at hS72
            have hU74 : RU w B R [] true h70 am ln K ((mstI 1 (uI (uI (uI I 11 1 3) 12 1 (-1)) 40 1 0)), Q, Z) := RU_I hE73 mst_24 mst_25 mst_stn hU69
            have ep75 : (mstI 1 (uI (uI (uI I 11 1 3) 12 1 (-1)) 40 1 0)) 11 1 = 3 := (congrFun mst_11 1).trans (show (uI (uI (uI I 11 1 3) 12 1 (-1)) 40 1 0) 11 1 = 3 from rfl)
            refine go_s (pc' := 47) rfl rfl rfl rfl ?_
            refine go_s (pc' := 48) (st' := [.int 2, .ref 62]) rfl rfl rfl rfl ?_
            refine go_s (pc' := 49) rfl rfl rfl rfl ?_
            refine go_s (pc' := 50) (st' := [.int 2, .ref 62]) rfl rfl rfl rfl ?_
            refine go_s (pc' := 51) rfl rfl rfl rfl ?_
            refine go_s (pc' := 52) (st' := [.int 2, .int 3, .int 2, .ref 62]) rfl rfl rfl rfl ?_
            refine go_s (pc' := 53) (st' := [.int 1, .int 2, .ref 62]) rfl rfl rfl rfl ?_
            refine go_s (pc' := 54) (st' := [.int 3, .ref 62]) rfl rfl rfl rfl ?_
            have hU76 : RU w B R [] true h70 am ln K ((mstI 1 (uI (uI (uI I 11 1 3) 12 1 (-1)) 40 1 0)), Q, Z) := RU_I (sm_e_refl (tbr am (13 * ln) 77 5088) _) (I' := (mstI 1 (uI (uI (uI I 11 1 3) 12 1 (-1)) 40 1 0))) (fun _ => rfl) (fun _ => rfl) (Nat.le_refl _) hU74
            refine go_callV (pc' := 55) rfl rfl rfl (Nat.le_of_ble_eq_true rfl) rfl (sm_o hS72 rfl) rfl rfl rfl (rs_cl hr hS72 hW (hW 77 (by decide) (by decide)) (r9 := 3) (by decide) (by decide) (by omega)) (fun r h77 q78 => ?_)
            obtain ⟨rfl, hS79, hE80⟩ := q78
            rw [clI_jn] at hS79
            obtain ⟨K9, eK9⟩ : ∃ z, z = clI K 3 424 := ⟨_, rfl⟩
            rw [← eK9] at hS79
            have f9 : rfr K K9 3 := by
              rw [eK9]
              exact clI_r (Nat.le_refl _)
            have z9 : ∀ j, j < 424 → K9 51 (424 * 3 + j) = 0 := fun j hj => by
              rw [eK9]
              exact cl_z hj
            have hR9 : RS K9 3 (fun _ => 0, [], []) := by
              rw [eK9]
              exact RS_cl
            refine go_s (pc' := 56) rfl rfl rfl rfl ?_
            refine go_ifP (t' := 61) (pc' := 57) rfl rfl rfl (fun _ => ?_) (fun (c : ¬ (¬ (1 : Int32) = 0)) => absurd (by decide) c)
            refine go_s (pc' := 62) rfl rfl rfl rfl ?_
            refine go_s (pc' := 63) rfl rfl rfl rfl ?_
            refine go_callV (pc' := 64) rfl rfl rfl (Nat.le_of_ble_eq_true rfl) rfl (sm_o hS79 rfl) rfl rfl rfl (rx_rT_1_3 hr hS79 hln hW ep75 (by omega)) (fun r h81 q82 => ?_)
            obtain ⟨rfl, hS83, hE84⟩ := q82
            have hE85 := sm_e_trans hE80 hE84
            have hU86 : RU w B R [] true h81 am ln (uI (uI K9 51 1283 ((mstI 1 (uI (uI (uI I 11 1 3) 12 1 (-1)) 40 1 0)) 17 0 + 1)) 51 1277 (-1)) ((uI (uI (mstI 1 (uI (uI (uI I 11 1 3) 12 1 (-1)) 40 1 0)) 17 0 ((mstI 1 (uI (uI (uI I 11 1 3) 12 1 (-1)) 40 1 0)) 17 0 + 1)) 18 0 0), Q, uZ Z 3 (rwT ((mstI 1 (uI (uI (uI I 11 1 3) 12 1 (-1)) 40 1 0)) 17 0 + 1))) := RU_row (K' := (uI (uI K9 51 1283 ((mstI 1 (uI (uI (uI I 11 1 3) 12 1 (-1)) 40 1 0)) 17 0 + 1)) 51 1277 (-1))) (s := (rwT ((mstI 1 (uI (uI (uI I 11 1 3) 12 1 (-1)) 40 1 0)) 17 0 + 1))) (by decide) (fun c j hc hn => by
              rw [← f9 c j hn]
              simp only [uI]
              rw [if_neg (by omega), if_neg (by omega)]) (⟨fun h => absurd h (by decide), fun _ j hj => by
              match j, hj with
              | 0, _ => (repeat (first | rw [uI_e (by decide)] | rw [uI_j (by decide)])) <;> first | rfl | exact z9 0 (by decide)
              | 1, _ => (repeat (first | rw [uI_e (by decide)] | rw [uI_j (by decide)])) <;> first | rfl | exact z9 1 (by decide)
              | 2, _ => (repeat (first | rw [uI_e (by decide)] | rw [uI_j (by decide)])) <;> first | rfl | exact z9 2 (by decide)
              | 3, _ => (repeat (first | rw [uI_e (by decide)] | rw [uI_j (by decide)])) <;> first | rfl | exact z9 3 (by decide)
              | 4, _ => (repeat (first | rw [uI_e (by decide)] | rw [uI_j (by decide)])) <;> first | rfl | exact z9 4 (by decide)
              | 5, _ => (repeat (first | rw [uI_e (by decide)] | rw [uI_j (by decide)])) <;> first | rfl | exact z9 5 (by decide)
              | 6, _ => (repeat (first | rw [uI_e (by decide)] | rw [uI_j (by decide)])) <;> first | rfl | exact z9 6 (by decide)
              | 7, _ => (repeat (first | rw [uI_e (by decide)] | rw [uI_j (by decide)])) <;> first | rfl | exact z9 7 (by decide)
              | 8, _ => (repeat (first | rw [uI_e (by decide)] | rw [uI_j (by decide)])) <;> first | rfl | exact z9 8 (by decide)
              | 9, _ => (repeat (first | rw [uI_e (by decide)] | rw [uI_j (by decide)])) <;> first | rfl | exact z9 9 (by decide)
              | 10, _ => (repeat (first | rw [uI_e (by decide)] | rw [uI_j (by decide)])) <;> first | rfl | exact z9 10 (by decide)
              | 11, _ => (repeat (first | rw [uI_e (by decide)] | rw [uI_j (by decide)])) <;> first | rfl | exact z9 11 (by decide)⟩) (RU_I hE85 (I' := (uI (uI (mstI 1 (uI (uI (uI I 11 1 3) 12 1 (-1)) 40 1 0)) 17 0 ((mstI 1 (uI (uI (uI I 11 1 3) 12 1 (-1)) 40 1 0)) 17 0 + 1)) 18 0 0)) (fun _ => rfl) (fun _ => rfl) (Nat.le_refl _) hU76)
            have hN : rrsN 1 (I, Q, Z) = ((uI (uI (mstI 1 (uI (uI (uI I 11 1 3) 12 1 (-1)) 40 1 0)) 17 0 ((mstI 1 (uI (uI (uI I 11 1 3) 12 1 (-1)) 40 1 0)) 17 0 + 1)) 18 0 0), Q, (uZ Z 3 (rwT ((mstI 1 (uI (uI (uI I 11 1 3) 12 1 (-1)) 40 1 0)) 17 0 + 1)))) := by
              unfold rrsN rrs1
              rw [if_neg (by decide), if_neg (by decide), show fup ((I, Q, Z) : mM).1 2 = 3 from hf]
              unfold rrsT
              rw [show rwi (((uI (uI (uI I 11 1 3) 12 1 (-1)) 40 1 0), Q, Z) : mM).1 1 = 3 from rwi_l (v := 3) rfl (by decide)]
              rw [uI_x (c := 18) (c' := 16) (by decide), uI_x (c := 17) (c' := 16) (by decide), show mstI 1 (uI (uI (uI I 11 1 3) 12 1 (-1)) 40 1 0) = uI (uI (uI (uI I 11 1 3) 12 1 (-1)) 40 1 0) 16 1 0 from if_neg (by decide)]
              rfl
            have hMN := MID_rN (k := 1) (by omega) hM (by decide) c58 (show ¬ fup I 2 = -1 by rw [hf]; decide) (fun z => absurd z (by decide))
            have hnc : ¬ (¬ ((I, Q, Z) : mM).1 11 1 = -1 ∨ fup ((I, Q, Z) : mM).1 (if 1 = 0 then 0 else 2) = -1 ∨ (1 = 0 ∧ chs ((I, Q, Z) : mM).1 = -1)) := fun z => z.elim (fun y => y c58) (fun z => z.elim (fun y => absurd (hf.symm.trans y) (by decide)) (fun y => absurd y.1 (by decide)))
            refine go_s (pc' := 65) rfl rfl rfl rfl ?_
            refine go_sget (pc' := 66) (v := .ref 63) hS83 rfl rfl rfl (by decide) rfl rfl ?_
            refine go_s (pc' := 67) rfl rfl rfl rfl ?_
            refine go_callS (pc' := 68) rfl rfl rfl (Nat.le_of_ble_eq_true rfl) rfl rfl rfl (rt_oh_3 (by omega)) (fun r h87 q88 => ?_)
            obtain ⟨rfl, rfl⟩ := q88
            refine go_sald (pc' := 69) (q := 2) (v := .int ((uI (uI (mstI 1 (uI (uI (uI I 11 1 3) 12 1 (-1)) 40 1 0)) 17 0 ((mstI 1 (uI (uI (uI I 11 1 3) 12 1 (-1)) 40 1 0)) 17 0 + 1)) 18 0 0) 0 2)) hS83 rfl (tr_s hr (a := 63) rfl (by decide)) rfl rfl (by decide) rfl rfl ?_
            refine go_ifP (t' := 73) (pc' := 70) rfl rfl rfl (fun (c89 : ((uI (uI (mstI 1 (uI (uI (uI I 11 1 3) 12 1 (-1)) 40 1 0)) 17 0 ((mstI 1 (uI (uI (uI I 11 1 3) 12 1 (-1)) 40 1 0)) 17 0 + 1)) 18 0 0) 0 2) = 0) => ?_) (fun (c89 : ¬ ((uI (uI (mstI 1 (uI (uI (uI I 11 1 3) 12 1 (-1)) 40 1 0)) 17 0 ((mstI 1 (uI (uI (uI I 11 1 3) 12 1 (-1)) 40 1 0)) 17 0 + 1)) 18 0 0) 0 2) = 0) => ?_)
            · skip
              refine go_ret rfl rfl ?_
              have hA90 : RA w B R [] true h87 ((uI (uI (mstI 1 (uI (uI (uI I 11 1 3) 12 1 (-1)) 40 1 0)) 17 0 ((mstI 1 (uI (uI (uI I 11 1 3) 12 1 (-1)) 40 1 0)) 17 0 + 1)) 18 0 0), Q, (uZ Z 3 (rwT ((mstI 1 (uI (uI (uI I 11 1 3) 12 1 (-1)) 40 1 0)) 17 0 + 1)))) := RA_u.mpr ⟨_, _, _, _, hS83, hU86⟩
              have hms : rrs 1 (I, Q, Z) = ((uI (uI (mstI 1 (uI (uI (uI I 11 1 3) 12 1 (-1)) 40 1 0)) 17 0 ((mstI 1 (uI (uI (uI I 11 1 3) 12 1 (-1)) 40 1 0)) 17 0 + 1)) 18 0 0), Q, (uZ Z 3 (rwT ((mstI 1 (uI (uI (uI I 11 1 3) 12 1 (-1)) 40 1 0)) 17 0 + 1)))) := by
                unfold rrs
                rw [if_neg hnc, hN, show ohn (((uI (uI (mstI 1 (uI (uI (uI I 11 1 3) 12 1 (-1)) 40 1 0)) 17 0 ((mstI 1 (uI (uI (uI I 11 1 3) 12 1 (-1)) 40 1 0)) 17 0 + 1)) 18 0 0), Q, (uZ Z 3 (rwT ((mstI 1 (uI (uI (uI I 11 1 3) 12 1 (-1)) 40 1 0)) 17 0 + 1)))) : mM).1 1 = 2 from ohn_l (v := 3) (show (uI (uI (mstI 1 (uI (uI (uI I 11 1 3) 12 1 (-1)) 40 1 0)) 17 0 ((mstI 1 (uI (uI (uI I 11 1 3) 12 1 (-1)) 40 1 0)) 17 0 + 1)) 18 0 0) 11 1 = 3 from ep75) (by decide)]
                exact if_pos c89
              rw [hms]
              exact ⟨rfl, RA_R (by omega) hA90⟩
            · skip
              refine go_s (pc' := 71) rfl rfl rfl rfl ?_
              refine go_s (pc' := 72) rfl rfl rfl rfl ?_
              have h5 : sq Q + hc [] true ≤ 5 := by
                have z := hMN.2
                rw [hN] at z
                have z2 : sq Q ≤ 5 := z
                have z3 : hc [] true = 0 := rfl
                omega
              have hU91 : RU w B R [] true h87 am ln (uI (uI K9 51 1283 ((mstI 1 (uI (uI (uI I 11 1 3) 12 1 (-1)) 40 1 0)) 17 0 + 1)) 51 1277 (-1)) ((uI (uI (mstI 1 (uI (uI (uI I 11 1 3) 12 1 (-1)) 40 1 0)) 17 0 ((mstI 1 (uI (uI (uI I 11 1 3) 12 1 (-1)) 40 1 0)) 17 0 + 1)) 18 0 0), Q, (uZ Z 3 (rwT ((mstI 1 (uI (uI (uI I 11 1 3) 12 1 (-1)) 40 1 0)) 17 0 + 1)))) := RU_I (sm_e_refl (tbr am (13 * ln) 77 5088) _) (I' := (uI (uI (mstI 1 (uI (uI (uI I 11 1 3) 12 1 (-1)) 40 1 0)) 17 0 ((mstI 1 (uI (uI (uI I 11 1 3) 12 1 (-1)) 40 1 0)) 17 0 + 1)) 18 0 0)) (fun _ => rfl) (fun _ => rfl) (Nat.le_refl _) hU86
              have hA92 : RA w B R [] true h87 ((uI (uI (mstI 1 (uI (uI (uI I 11 1 3) 12 1 (-1)) 40 1 0)) 17 0 ((mstI 1 (uI (uI (uI I 11 1 3) 12 1 (-1)) 40 1 0)) 17 0 + 1)) 18 0 0), Q, (uZ Z 3 (rwT ((mstI 1 (uI (uI (uI I 11 1 3) 12 1 (-1)) 40 1 0)) 17 0 + 1)))) := RA_u.mpr ⟨_, _, _, _, hS83, hU91⟩
              refine go_callV (pc' := 73) rfl rfl rfl (Nat.le_of_ble_eq_true rfl) rfl (sm_o hS83 rfl) rfl rfl rfl (ra_sc_1 hA92 (by omega) (Or.inr (Or.inr (show (uI (uI (mstI 1 (uI (uI (uI I 11 1 3) 12 1 (-1)) 40 1 0)) 17 0 ((mstI 1 (uI (uI (uI I 11 1 3) 12 1 (-1)) 40 1 0)) 17 0 + 1)) 18 0 0) 11 1 = 3 from ep75))) (fun z => absurd ((show (uI (uI (mstI 1 (uI (uI (uI I 11 1 3) 12 1 (-1)) 40 1 0)) 17 0 ((mstI 1 (uI (uI (uI I 11 1 3) 12 1 (-1)) 40 1 0)) 17 0 + 1)) 18 0 0) 11 1 = 3 from ep75).symm.trans z) (by decide)) h5 (by omega)) (fun r h93 q94 => ?_)
              obtain ⟨rfl, hA95⟩ := q94
              refine go_ret rfl rfl ?_
              have hms : rrs 1 (I, Q, Z) = rsc 1 ((uI (uI (mstI 1 (uI (uI (uI I 11 1 3) 12 1 (-1)) 40 1 0)) 17 0 ((mstI 1 (uI (uI (uI I 11 1 3) 12 1 (-1)) 40 1 0)) 17 0 + 1)) 18 0 0), Q, (uZ Z 3 (rwT ((mstI 1 (uI (uI (uI I 11 1 3) 12 1 (-1)) 40 1 0)) 17 0 + 1)))) := by
                unfold rrs
                rw [if_neg hnc, hN, show ohn (((uI (uI (mstI 1 (uI (uI (uI I 11 1 3) 12 1 (-1)) 40 1 0)) 17 0 ((mstI 1 (uI (uI (uI I 11 1 3) 12 1 (-1)) 40 1 0)) 17 0 + 1)) 18 0 0), Q, (uZ Z 3 (rwT ((mstI 1 (uI (uI (uI I 11 1 3) 12 1 (-1)) 40 1 0)) 17 0 + 1)))) : mM).1 1 = 2 from ohn_l (v := 3) (show (uI (uI (mstI 1 (uI (uI (uI I 11 1 3) 12 1 (-1)) 40 1 0)) 17 0 ((mstI 1 (uI (uI (uI I 11 1 3) 12 1 (-1)) 40 1 0)) 17 0 + 1)) 18 0 0) 11 1 = 3 from ep75) (by decide)]
                exact if_neg c89
              rw [hms]
              exact ⟨rfl, hA95⟩
      · skip
        show am_Go _ _ _ _ 7 _ [.int 1] _ _
        refine go_ifP (t' := 10) (pc' := 8) rfl rfl rfl (fun (c : (1 : Int32) = 0) => absurd c (by decide)) (fun _ => ?_)
        refine go_s (pc' := 9) (st' := [.int 0]) rfl rfl rfl rfl ?_
        refine go_s (pc' := 17) rfl rfl rfl rfl ?_
        refine go_s (pc' := 18) (lo' := [some (.ref 62), some (.int 1), some (.int 3), some (.int 0)]) rfl rfl rfl rfl ?_
        refine go_s (pc' := 19) rfl rfl rfl rfl ?_
        refine go_sget (pc' := 20) (v := .ref 78) hS rfl rfl rfl (by decide) rfl rfl ?_
        refine go_s (pc' := 21) rfl rfl rfl rfl ?_
        refine go_sald (pc' := 22) (q := 1) (v := .int (I 11 1)) hS rfl (tr_s hr (a := 78) rfl (by decide)) rfl rfl (by decide) rfl rfl ?_
        refine go_s (pc' := 23) (st' := [.int (-1), .int (I 11 1)]) rfl rfl rfl rfl ?_
        refine go_icmpP (t' := 32) (pc' := 24) rfl rfl rfl (fun (c96 : ¬ (I 11 1) = (-1)) => ?_) (fun (c96' : ¬ ¬ (I 11 1) = (-1)) => ?_)
        · skip
          refine go_ret rfl rfl ?_
          have hms : rrs 1 (I, Q, Z) = (I, Q, Z) := if_pos (Or.inl c96)
          rw [hms]
          exact ⟨rfl, RA_R (by omega) hA⟩
        · skip
          have c96 : (I 11 1) = (-1) := Decidable.not_not.mp c96'
          refine go_s (pc' := 25) rfl rfl rfl rfl ?_
          refine go_s (pc' := 26) (st' := [.int (-1), .int 3]) rfl rfl rfl rfl ?_
          refine go_icmpP (t' := 32) (pc' := 27) rfl rfl rfl (fun (c : (3 : Int32) = (-1)) => absurd c (by decide)) (fun _ => ?_)
          refine go_s (pc' := 28) rfl rfl rfl rfl ?_
          refine go_ifP (t' := 33) (pc' := 29) rfl rfl rfl (fun _ => ?_) (fun (c : ¬ (¬ (1 : Int32) = 0)) => absurd (by decide) c)
          refine go_s (pc' := 34) rfl rfl rfl rfl ?_
          refine go_sget (pc' := 35) (v := .ref 78) hS rfl rfl rfl (by decide) rfl rfl ?_
          refine go_s (pc' := 36) rfl rfl rfl rfl ?_
          refine go_s (pc' := 37) rfl rfl rfl rfl ?_
          refine go_siast (pc' := 38) (q := 1) hS rfl (tr_s hr (a := 78) rfl (by decide)) tbr_inj (Nat.le_of_ble_eq_true rfl) rfl (by decide) (by decide) (hW _ (by decide) (by decide)) rfl (fun h97 hS98 hE99 => ?_)
          refine go_s (pc' := 39) rfl rfl rfl rfl ?_
          refine go_sget (pc' := 40) (v := .ref 79) hS98 rfl rfl rfl (by decide) rfl rfl ?_
          refine go_s (pc' := 41) rfl rfl rfl rfl ?_
          refine go_s (pc' := 42) (st' := [.int (-1), .int 1, .ref 79]) rfl rfl rfl rfl ?_
          refine go_siast (pc' := 43) (q := 1) hS98 rfl (tr_s hr (a := 79) rfl (by decide)) tbr_inj (Nat.le_of_ble_eq_true rfl) rfl (by decide) (by decide) (hW _ (by decide) (by decide)) rfl (fun h100 hS101 hE102 => ?_)
          have hE103 := sm_e_trans hE99 hE102
          change sm (tbr am (13 * ln) 77 5088) _ (uI (uI (jn I K) 11 1 3) 12 1 (-1)) Y at hS101
          rw [jn_lo (c := 11) (by decide), jn_lo (c := 12) (by decide)] at hS101
          have hU104 : RU w B R [] true h100 am ln K ((uI (uI I 11 1 3) 12 1 (-1)), Q, Z) := RU_I (hE103) (I' := (uI (uI I 11 1 3) 12 1 (-1))) (fun _ => rfl) (fun _ => rfl) (Nat.le_refl _) hU
          have hS105 : sm (tbr am (13 * ln) 77 5088) _ (jn (uI (uI (uI I 11 1 3) 12 1 (-1)) 40 1 0) K) Y := sm_jg hr hS101 (fun c j _ n1 n2 n3 => uI_c n3)
          have hU106 : RU w B R [] true h100 am ln K ((uI (uI (uI I 11 1 3) 12 1 (-1)) 40 1 0), Q, Z) := RU_I (sm_e_refl (tbr am (13 * ln) 77 5088) _) (fun _ => rfl) (fun _ => rfl) (Nat.le_refl _) hU104
          refine go_s (pc' := 44) rfl rfl rfl rfl ?_
          refine go_s (pc' := 45) rfl rfl rfl rfl ?_
          have hU107 : RU w B R [] true h100 am ln K ((uI (uI (uI I 11 1 3) 12 1 (-1)) 40 1 0), Q, Z) := RU_I (sm_e_refl (tbr am (13 * ln) 77 5088) _) (I' := (uI (uI (uI I 11 1 3) 12 1 (-1)) 40 1 0)) (fun _ => rfl) (fun _ => rfl) (Nat.le_refl _) hU106
          refine go_callV (pc' := 46) rfl rfl rfl (Nat.le_of_ble_eq_true rfl) rfl (sm_o hS105 rfl) rfl rfl rfl (rt_stops_1 hr hS105 hW (by omega)) (fun r h108 q109 => ?_)
          obtain ⟨rfl, hS110, hE111⟩ := q109
          change sm (tbr am (13 * ln) 77 5088) _ (mstI 1 (jn (uI (uI (uI I 11 1 3) 12 1 (-1)) 40 1 0) K)) Y at hS110
          rw [mst_jn] at hS110
          have hU112 : RU w B R [] true h108 am ln K ((mstI 1 (uI (uI (uI I 11 1 3) 12 1 (-1)) 40 1 0)), Q, Z) := RU_I hE111 mst_24 mst_25 mst_stn hU107
          have ep113 : (mstI 1 (uI (uI (uI I 11 1 3) 12 1 (-1)) 40 1 0)) 11 1 = 3 := (congrFun mst_11 1).trans (show (uI (uI (uI I 11 1 3) 12 1 (-1)) 40 1 0) 11 1 = 3 from rfl)
          refine go_s (pc' := 47) rfl rfl rfl rfl ?_
          refine go_s (pc' := 48) (st' := [.int 2, .ref 62]) rfl rfl rfl rfl ?_
          refine go_s (pc' := 49) rfl rfl rfl rfl ?_
          refine go_s (pc' := 50) (st' := [.int 2, .ref 62]) rfl rfl rfl rfl ?_
          refine go_s (pc' := 51) rfl rfl rfl rfl ?_
          refine go_s (pc' := 52) (st' := [.int 2, .int 3, .int 2, .ref 62]) rfl rfl rfl rfl ?_
          refine go_s (pc' := 53) (st' := [.int 1, .int 2, .ref 62]) rfl rfl rfl rfl ?_
          refine go_s (pc' := 54) (st' := [.int 3, .ref 62]) rfl rfl rfl rfl ?_
          have hU114 : RU w B R [] true h108 am ln K ((mstI 1 (uI (uI (uI I 11 1 3) 12 1 (-1)) 40 1 0)), Q, Z) := RU_I (sm_e_refl (tbr am (13 * ln) 77 5088) _) (I' := (mstI 1 (uI (uI (uI I 11 1 3) 12 1 (-1)) 40 1 0))) (fun _ => rfl) (fun _ => rfl) (Nat.le_refl _) hU112
          refine go_callV (pc' := 55) rfl rfl rfl (Nat.le_of_ble_eq_true rfl) rfl (sm_o hS110 rfl) rfl rfl rfl (rs_cl hr hS110 hW (hW 77 (by decide) (by decide)) (r9 := 3) (by decide) (by decide) (by omega)) (fun r h115 q116 => ?_)
          obtain ⟨rfl, hS117, hE118⟩ := q116
          rw [clI_jn] at hS117
          obtain ⟨K9, eK9⟩ : ∃ z, z = clI K 3 424 := ⟨_, rfl⟩
          rw [← eK9] at hS117
          have f9 : rfr K K9 3 := by
            rw [eK9]
            exact clI_r (Nat.le_refl _)
          have z9 : ∀ j, j < 424 → K9 51 (424 * 3 + j) = 0 := fun j hj => by
            rw [eK9]
            exact cl_z hj
          have hR9 : RS K9 3 (fun _ => 0, [], []) := by
            rw [eK9]
            exact RS_cl
          refine go_s (pc' := 56) rfl rfl rfl rfl ?_
          refine go_ifP (t' := 61) (pc' := 57) rfl rfl rfl (fun _ => ?_) (fun (c : ¬ (¬ (1 : Int32) = 0)) => absurd (by decide) c)
          refine go_s (pc' := 62) rfl rfl rfl rfl ?_
          refine go_s (pc' := 63) rfl rfl rfl rfl ?_
          refine go_callV (pc' := 64) rfl rfl rfl (Nat.le_of_ble_eq_true rfl) rfl (sm_o hS117 rfl) rfl rfl rfl (rx_rT_1_3 hr hS117 hln hW ep113 (by omega)) (fun r h119 q120 => ?_)
          obtain ⟨rfl, hS121, hE122⟩ := q120
          have hE123 := sm_e_trans hE118 hE122
          have hU124 : RU w B R [] true h119 am ln (uI (uI K9 51 1283 ((mstI 1 (uI (uI (uI I 11 1 3) 12 1 (-1)) 40 1 0)) 17 0 + 1)) 51 1277 (-1)) ((uI (uI (mstI 1 (uI (uI (uI I 11 1 3) 12 1 (-1)) 40 1 0)) 17 0 ((mstI 1 (uI (uI (uI I 11 1 3) 12 1 (-1)) 40 1 0)) 17 0 + 1)) 18 0 0), Q, uZ Z 3 (rwT ((mstI 1 (uI (uI (uI I 11 1 3) 12 1 (-1)) 40 1 0)) 17 0 + 1))) := RU_row (K' := (uI (uI K9 51 1283 ((mstI 1 (uI (uI (uI I 11 1 3) 12 1 (-1)) 40 1 0)) 17 0 + 1)) 51 1277 (-1))) (s := (rwT ((mstI 1 (uI (uI (uI I 11 1 3) 12 1 (-1)) 40 1 0)) 17 0 + 1))) (by decide) (fun c j hc hn => by
            rw [← f9 c j hn]
            simp only [uI]
            rw [if_neg (by omega), if_neg (by omega)]) (⟨fun h => absurd h (by decide), fun _ j hj => by
            match j, hj with
            | 0, _ => (repeat (first | rw [uI_e (by decide)] | rw [uI_j (by decide)])) <;> first | rfl | exact z9 0 (by decide)
            | 1, _ => (repeat (first | rw [uI_e (by decide)] | rw [uI_j (by decide)])) <;> first | rfl | exact z9 1 (by decide)
            | 2, _ => (repeat (first | rw [uI_e (by decide)] | rw [uI_j (by decide)])) <;> first | rfl | exact z9 2 (by decide)
            | 3, _ => (repeat (first | rw [uI_e (by decide)] | rw [uI_j (by decide)])) <;> first | rfl | exact z9 3 (by decide)
            | 4, _ => (repeat (first | rw [uI_e (by decide)] | rw [uI_j (by decide)])) <;> first | rfl | exact z9 4 (by decide)
            | 5, _ => (repeat (first | rw [uI_e (by decide)] | rw [uI_j (by decide)])) <;> first | rfl | exact z9 5 (by decide)
            | 6, _ => (repeat (first | rw [uI_e (by decide)] | rw [uI_j (by decide)])) <;> first | rfl | exact z9 6 (by decide)
            | 7, _ => (repeat (first | rw [uI_e (by decide)] | rw [uI_j (by decide)])) <;> first | rfl | exact z9 7 (by decide)
            | 8, _ => (repeat (first | rw [uI_e (by decide)] | rw [uI_j (by decide)])) <;> first | rfl | exact z9 8 (by decide)
            | 9, _ => (repeat (first | rw [uI_e (by decide)] | rw [uI_j (by decide)])) <;> first | rfl | exact z9 9 (by decide)
            | 10, _ => (repeat (first | rw [uI_e (by decide)] | rw [uI_j (by decide)])) <;> first | rfl | exact z9 10 (by decide)
            | 11, _ => (repeat (first | rw [uI_e (by decide)] | rw [uI_j (by decide)])) <;> first | rfl | exact z9 11 (by decide)⟩) (RU_I hE123 (I' := (uI (uI (mstI 1 (uI (uI (uI I 11 1 3) 12 1 (-1)) 40 1 0)) 17 0 ((mstI 1 (uI (uI (uI I 11 1 3) 12 1 (-1)) 40 1 0)) 17 0 + 1)) 18 0 0)) (fun _ => rfl) (fun _ => rfl) (Nat.le_refl _) hU114)
          have hN : rrsN 1 (I, Q, Z) = ((uI (uI (mstI 1 (uI (uI (uI I 11 1 3) 12 1 (-1)) 40 1 0)) 17 0 ((mstI 1 (uI (uI (uI I 11 1 3) 12 1 (-1)) 40 1 0)) 17 0 + 1)) 18 0 0), Q, (uZ Z 3 (rwT ((mstI 1 (uI (uI (uI I 11 1 3) 12 1 (-1)) 40 1 0)) 17 0 + 1)))) := by
            unfold rrsN rrs1
            rw [if_neg (by decide), if_neg (by decide), show fup ((I, Q, Z) : mM).1 2 = 3 from hf]
            unfold rrsT
            rw [show rwi (((uI (uI (uI I 11 1 3) 12 1 (-1)) 40 1 0), Q, Z) : mM).1 1 = 3 from rwi_l (v := 3) rfl (by decide)]
            rw [uI_x (c := 18) (c' := 16) (by decide), uI_x (c := 17) (c' := 16) (by decide), show mstI 1 (uI (uI (uI I 11 1 3) 12 1 (-1)) 40 1 0) = uI (uI (uI (uI I 11 1 3) 12 1 (-1)) 40 1 0) 16 1 0 from if_neg (by decide)]
            rfl
          have hMN := MID_rN (k := 1) (by omega) hM (by decide) c96 (show ¬ fup I 2 = -1 by rw [hf]; decide) (fun z => absurd z (by decide))
          have hnc : ¬ (¬ ((I, Q, Z) : mM).1 11 1 = -1 ∨ fup ((I, Q, Z) : mM).1 (if 1 = 0 then 0 else 2) = -1 ∨ (1 = 0 ∧ chs ((I, Q, Z) : mM).1 = -1)) := fun z => z.elim (fun y => y c96) (fun z => z.elim (fun y => absurd (hf.symm.trans y) (by decide)) (fun y => absurd y.1 (by decide)))
          refine go_s (pc' := 65) rfl rfl rfl rfl ?_
          refine go_sget (pc' := 66) (v := .ref 63) hS121 rfl rfl rfl (by decide) rfl rfl ?_
          refine go_s (pc' := 67) rfl rfl rfl rfl ?_
          refine go_callS (pc' := 68) rfl rfl rfl (Nat.le_of_ble_eq_true rfl) rfl rfl rfl (rt_oh_3 (by omega)) (fun r h125 q126 => ?_)
          obtain ⟨rfl, rfl⟩ := q126
          refine go_sald (pc' := 69) (q := 2) (v := .int ((uI (uI (mstI 1 (uI (uI (uI I 11 1 3) 12 1 (-1)) 40 1 0)) 17 0 ((mstI 1 (uI (uI (uI I 11 1 3) 12 1 (-1)) 40 1 0)) 17 0 + 1)) 18 0 0) 0 2)) hS121 rfl (tr_s hr (a := 63) rfl (by decide)) rfl rfl (by decide) rfl rfl ?_
          refine go_ifP (t' := 73) (pc' := 70) rfl rfl rfl (fun (c127 : ((uI (uI (mstI 1 (uI (uI (uI I 11 1 3) 12 1 (-1)) 40 1 0)) 17 0 ((mstI 1 (uI (uI (uI I 11 1 3) 12 1 (-1)) 40 1 0)) 17 0 + 1)) 18 0 0) 0 2) = 0) => ?_) (fun (c127 : ¬ ((uI (uI (mstI 1 (uI (uI (uI I 11 1 3) 12 1 (-1)) 40 1 0)) 17 0 ((mstI 1 (uI (uI (uI I 11 1 3) 12 1 (-1)) 40 1 0)) 17 0 + 1)) 18 0 0) 0 2) = 0) => ?_)
          · skip
            refine go_ret rfl rfl ?_
            have hA128 : RA w B R [] true h125 ((uI (uI (mstI 1 (uI (uI (uI I 11 1 3) 12 1 (-1)) 40 1 0)) 17 0 ((mstI 1 (uI (uI (uI I 11 1 3) 12 1 (-1)) 40 1 0)) 17 0 + 1)) 18 0 0), Q, (uZ Z 3 (rwT ((mstI 1 (uI (uI (uI I 11 1 3) 12 1 (-1)) 40 1 0)) 17 0 + 1)))) := RA_u.mpr ⟨_, _, _, _, hS121, hU124⟩
            have hms : rrs 1 (I, Q, Z) = ((uI (uI (mstI 1 (uI (uI (uI I 11 1 3) 12 1 (-1)) 40 1 0)) 17 0 ((mstI 1 (uI (uI (uI I 11 1 3) 12 1 (-1)) 40 1 0)) 17 0 + 1)) 18 0 0), Q, (uZ Z 3 (rwT ((mstI 1 (uI (uI (uI I 11 1 3) 12 1 (-1)) 40 1 0)) 17 0 + 1)))) := by
              unfold rrs
              rw [if_neg hnc, hN, show ohn (((uI (uI (mstI 1 (uI (uI (uI I 11 1 3) 12 1 (-1)) 40 1 0)) 17 0 ((mstI 1 (uI (uI (uI I 11 1 3) 12 1 (-1)) 40 1 0)) 17 0 + 1)) 18 0 0), Q, (uZ Z 3 (rwT ((mstI 1 (uI (uI (uI I 11 1 3) 12 1 (-1)) 40 1 0)) 17 0 + 1)))) : mM).1 1 = 2 from ohn_l (v := 3) (show (uI (uI (mstI 1 (uI (uI (uI I 11 1 3) 12 1 (-1)) 40 1 0)) 17 0 ((mstI 1 (uI (uI (uI I 11 1 3) 12 1 (-1)) 40 1 0)) 17 0 + 1)) 18 0 0) 11 1 = 3 from ep113) (by decide)]
              exact if_pos c127
            rw [hms]
            exact ⟨rfl, RA_R (by omega) hA128⟩
          · skip
            refine go_s (pc' := 71) rfl rfl rfl rfl ?_
            refine go_s (pc' := 72) rfl rfl rfl rfl ?_
            have h5 : sq Q + hc [] true ≤ 5 := by
              have z := hMN.2
              rw [hN] at z
              have z2 : sq Q ≤ 5 := z
              have z3 : hc [] true = 0 := rfl
              omega
            have hU129 : RU w B R [] true h125 am ln (uI (uI K9 51 1283 ((mstI 1 (uI (uI (uI I 11 1 3) 12 1 (-1)) 40 1 0)) 17 0 + 1)) 51 1277 (-1)) ((uI (uI (mstI 1 (uI (uI (uI I 11 1 3) 12 1 (-1)) 40 1 0)) 17 0 ((mstI 1 (uI (uI (uI I 11 1 3) 12 1 (-1)) 40 1 0)) 17 0 + 1)) 18 0 0), Q, (uZ Z 3 (rwT ((mstI 1 (uI (uI (uI I 11 1 3) 12 1 (-1)) 40 1 0)) 17 0 + 1)))) := RU_I (sm_e_refl (tbr am (13 * ln) 77 5088) _) (I' := (uI (uI (mstI 1 (uI (uI (uI I 11 1 3) 12 1 (-1)) 40 1 0)) 17 0 ((mstI 1 (uI (uI (uI I 11 1 3) 12 1 (-1)) 40 1 0)) 17 0 + 1)) 18 0 0)) (fun _ => rfl) (fun _ => rfl) (Nat.le_refl _) hU124
            have hA130 : RA w B R [] true h125 ((uI (uI (mstI 1 (uI (uI (uI I 11 1 3) 12 1 (-1)) 40 1 0)) 17 0 ((mstI 1 (uI (uI (uI I 11 1 3) 12 1 (-1)) 40 1 0)) 17 0 + 1)) 18 0 0), Q, (uZ Z 3 (rwT ((mstI 1 (uI (uI (uI I 11 1 3) 12 1 (-1)) 40 1 0)) 17 0 + 1)))) := RA_u.mpr ⟨_, _, _, _, hS121, hU129⟩
            refine go_callV (pc' := 73) rfl rfl rfl (Nat.le_of_ble_eq_true rfl) rfl (sm_o hS121 rfl) rfl rfl rfl (ra_sc_1 hA130 (by omega) (Or.inr (Or.inr (show (uI (uI (mstI 1 (uI (uI (uI I 11 1 3) 12 1 (-1)) 40 1 0)) 17 0 ((mstI 1 (uI (uI (uI I 11 1 3) 12 1 (-1)) 40 1 0)) 17 0 + 1)) 18 0 0) 11 1 = 3 from ep113))) (fun z => absurd ((show (uI (uI (mstI 1 (uI (uI (uI I 11 1 3) 12 1 (-1)) 40 1 0)) 17 0 ((mstI 1 (uI (uI (uI I 11 1 3) 12 1 (-1)) 40 1 0)) 17 0 + 1)) 18 0 0) 11 1 = 3 from ep113).symm.trans z) (by decide)) h5 (by omega)) (fun r h131 q132 => ?_)
            obtain ⟨rfl, hA133⟩ := q132
            refine go_ret rfl rfl ?_
            have hms : rrs 1 (I, Q, Z) = rsc 1 ((uI (uI (mstI 1 (uI (uI (uI I 11 1 3) 12 1 (-1)) 40 1 0)) 17 0 ((mstI 1 (uI (uI (uI I 11 1 3) 12 1 (-1)) 40 1 0)) 17 0 + 1)) 18 0 0), Q, (uZ Z 3 (rwT ((mstI 1 (uI (uI (uI I 11 1 3) 12 1 (-1)) 40 1 0)) 17 0 + 1)))) := by
              unfold rrs
              rw [if_neg hnc, hN, show ohn (((uI (uI (mstI 1 (uI (uI (uI I 11 1 3) 12 1 (-1)) 40 1 0)) 17 0 ((mstI 1 (uI (uI (uI I 11 1 3) 12 1 (-1)) 40 1 0)) 17 0 + 1)) 18 0 0), Q, (uZ Z 3 (rwT ((mstI 1 (uI (uI (uI I 11 1 3) 12 1 (-1)) 40 1 0)) 17 0 + 1)))) : mM).1 1 = 2 from ohn_l (v := 3) (show (uI (uI (mstI 1 (uI (uI (uI I 11 1 3) 12 1 (-1)) 40 1 0)) 17 0 ((mstI 1 (uI (uI (uI I 11 1 3) 12 1 (-1)) 40 1 0)) 17 0 + 1)) 18 0 0) 11 1 = 3 from ep113) (by decide)]
              exact if_neg c127
            rw [hms]
            exact ⟨rfl, hA133⟩
  · skip
    have hf : fup I 2 = 2 := if_neg u0
    refine go_s (pc' := 1) rfl rfl rfl rfl ?_
    refine go_s (pc' := 2) rfl rfl rfl rfl ?_
    refine go_callV (pc' := 3) rfl rfl rfl (Nat.le_of_ble_eq_true rfl) rfl (sm_o hS rfl) rfl rfl rfl (rt_fh_1 hr hS (by omega)) (fun r h134 q135 => ?_)
    obtain ⟨rfl, rfl⟩ := q135
    rw [show fup (jn I K) 2 = 2 from hf]
    show am_Go _ _ _ _ 3 _ [.int 2] _ _
    refine go_s (pc' := 4) (lo' := [some (.ref 62), some (.int 1), some (.int 2), none]) rfl rfl rfl rfl ?_
    refine go_s (pc' := 5) rfl rfl rfl rfl ?_
    refine go_s (pc' := 6) (st' := [.int 0, .ref 62]) rfl rfl rfl rfl ?_
    refine go_callV (pc' := 7) rfl rfl rfl (Nat.le_of_ble_eq_true rfl) rfl (sm_o hS rfl) rfl rfl rfl (rt_us_0 hr hS (by omega)) (fun r h136 q137 => ?_)
    obtain ⟨rfl, rfl⟩ := q137
    rw [show us (jn I K) 0 = us I 0 from rfl]
    cases u138 : us I 0
    · skip
      show am_Go _ _ _ _ 7 _ [.int 0] _ _
      refine go_ifP (t' := 10) (pc' := 8) rfl rfl rfl (fun _ => ?_) (fun (c : ¬ ((0 : Int32) = 0)) => absurd (by decide) c)
      refine go_s (pc' := 11) rfl rfl rfl rfl ?_
      refine go_s (pc' := 12) (st' := [.int 1, .ref 62]) rfl rfl rfl rfl ?_
      refine go_callV (pc' := 13) rfl rfl rfl (Nat.le_of_ble_eq_true rfl) rfl (sm_o hS rfl) rfl rfl rfl (rt_us_1 hr hS (by omega)) (fun r h139 q140 => ?_)
      obtain ⟨rfl, rfl⟩ := q140
      rw [show us (jn I K) 1 = us I 1 from rfl]
      cases u141 : us I 1
      · skip
        show am_Go _ _ _ _ 13 _ [.int 0] _ _
        refine go_ifP (t' := 16) (pc' := 14) rfl rfl rfl (fun _ => ?_) (fun (c : ¬ ((0 : Int32) = 0)) => absurd (by decide) c)
        refine go_s (pc' := 17) (st' := [.int (-1)]) rfl rfl rfl rfl ?_
        refine go_s (pc' := 18) (lo' := [some (.ref 62), some (.int 1), some (.int 2), some (.int (-1))]) rfl rfl rfl rfl ?_
        refine go_s (pc' := 19) rfl rfl rfl rfl ?_
        refine go_sget (pc' := 20) (v := .ref 78) hS rfl rfl rfl (by decide) rfl rfl ?_
        refine go_s (pc' := 21) rfl rfl rfl rfl ?_
        refine go_sald (pc' := 22) (q := 1) (v := .int (I 11 1)) hS rfl (tr_s hr (a := 78) rfl (by decide)) rfl rfl (by decide) rfl rfl ?_
        refine go_s (pc' := 23) (st' := [.int (-1), .int (I 11 1)]) rfl rfl rfl rfl ?_
        refine go_icmpP (t' := 32) (pc' := 24) rfl rfl rfl (fun (c142 : ¬ (I 11 1) = (-1)) => ?_) (fun (c142' : ¬ ¬ (I 11 1) = (-1)) => ?_)
        · skip
          refine go_ret rfl rfl ?_
          have hms : rrs 1 (I, Q, Z) = (I, Q, Z) := if_pos (Or.inl c142)
          rw [hms]
          exact ⟨rfl, RA_R (by omega) hA⟩
        · skip
          have c142 : (I 11 1) = (-1) := Decidable.not_not.mp c142'
          refine go_s (pc' := 25) rfl rfl rfl rfl ?_
          refine go_s (pc' := 26) (st' := [.int (-1), .int 2]) rfl rfl rfl rfl ?_
          refine go_icmpP (t' := 32) (pc' := 27) rfl rfl rfl (fun (c : (2 : Int32) = (-1)) => absurd c (by decide)) (fun _ => ?_)
          refine go_s (pc' := 28) rfl rfl rfl rfl ?_
          refine go_ifP (t' := 33) (pc' := 29) rfl rfl rfl (fun _ => ?_) (fun (c : ¬ (¬ (1 : Int32) = 0)) => absurd (by decide) c)
          refine go_s (pc' := 34) rfl rfl rfl rfl ?_
          refine go_sget (pc' := 35) (v := .ref 78) hS rfl rfl rfl (by decide) rfl rfl ?_
          refine go_s (pc' := 36) rfl rfl rfl rfl ?_
          refine go_s (pc' := 37) rfl rfl rfl rfl ?_
          refine go_siast (pc' := 38) (q := 1) hS rfl (tr_s hr (a := 78) rfl (by decide)) tbr_inj (Nat.le_of_ble_eq_true rfl) rfl (by decide) (by decide) (hW _ (by decide) (by decide)) rfl (fun h143 hS144 hE145 => ?_)
          refine go_s (pc' := 39) rfl rfl rfl rfl ?_
          refine go_sget (pc' := 40) (v := .ref 79) hS144 rfl rfl rfl (by decide) rfl rfl ?_
          refine go_s (pc' := 41) rfl rfl rfl rfl ?_
          refine go_s (pc' := 42) (st' := [.int (-1), .int 1, .ref 79]) rfl rfl rfl rfl ?_
          refine go_siast (pc' := 43) (q := 1) hS144 rfl (tr_s hr (a := 79) rfl (by decide)) tbr_inj (Nat.le_of_ble_eq_true rfl) rfl (by decide) (by decide) (hW _ (by decide) (by decide)) rfl (fun h146 hS147 hE148 => ?_)
          have hE149 := sm_e_trans hE145 hE148
          change sm (tbr am (13 * ln) 77 5088) _ (uI (uI (jn I K) 11 1 2) 12 1 (-1)) Y at hS147
          rw [jn_lo (c := 11) (by decide), jn_lo (c := 12) (by decide)] at hS147
          have hU150 : RU w B R [] true h146 am ln K ((uI (uI I 11 1 2) 12 1 (-1)), Q, Z) := RU_I (hE149) (I' := (uI (uI I 11 1 2) 12 1 (-1))) (fun _ => rfl) (fun _ => rfl) (Nat.le_refl _) hU
          have hS151 : sm (tbr am (13 * ln) 77 5088) _ (jn (uI (uI (uI I 11 1 2) 12 1 (-1)) 40 1 0) K) Y := sm_jg hr hS147 (fun c j _ n1 n2 n3 => uI_c n3)
          have hU152 : RU w B R [] true h146 am ln K ((uI (uI (uI I 11 1 2) 12 1 (-1)) 40 1 0), Q, Z) := RU_I (sm_e_refl (tbr am (13 * ln) 77 5088) _) (fun _ => rfl) (fun _ => rfl) (Nat.le_refl _) hU150
          refine go_s (pc' := 44) rfl rfl rfl rfl ?_
          refine go_s (pc' := 45) rfl rfl rfl rfl ?_
          have hU153 : RU w B R [] true h146 am ln K ((uI (uI (uI I 11 1 2) 12 1 (-1)) 40 1 0), Q, Z) := RU_I (sm_e_refl (tbr am (13 * ln) 77 5088) _) (I' := (uI (uI (uI I 11 1 2) 12 1 (-1)) 40 1 0)) (fun _ => rfl) (fun _ => rfl) (Nat.le_refl _) hU152
          refine go_callV (pc' := 46) rfl rfl rfl (Nat.le_of_ble_eq_true rfl) rfl (sm_o hS151 rfl) rfl rfl rfl (rt_stops_1 hr hS151 hW (by omega)) (fun r h154 q155 => ?_)
          obtain ⟨rfl, hS156, hE157⟩ := q155
          change sm (tbr am (13 * ln) 77 5088) _ (mstI 1 (jn (uI (uI (uI I 11 1 2) 12 1 (-1)) 40 1 0) K)) Y at hS156
          rw [mst_jn] at hS156
          have hU158 : RU w B R [] true h154 am ln K ((mstI 1 (uI (uI (uI I 11 1 2) 12 1 (-1)) 40 1 0)), Q, Z) := RU_I hE157 mst_24 mst_25 mst_stn hU153
          have ep159 : (mstI 1 (uI (uI (uI I 11 1 2) 12 1 (-1)) 40 1 0)) 11 1 = 2 := (congrFun mst_11 1).trans (show (uI (uI (uI I 11 1 2) 12 1 (-1)) 40 1 0) 11 1 = 2 from rfl)
          refine go_s (pc' := 47) rfl rfl rfl rfl ?_
          refine go_s (pc' := 48) (st' := [.int 2, .ref 62]) rfl rfl rfl rfl ?_
          refine go_s (pc' := 49) rfl rfl rfl rfl ?_
          refine go_s (pc' := 50) (st' := [.int 2, .ref 62]) rfl rfl rfl rfl ?_
          refine go_s (pc' := 51) rfl rfl rfl rfl ?_
          refine go_s (pc' := 52) (st' := [.int 2, .int 2, .int 2, .ref 62]) rfl rfl rfl rfl ?_
          refine go_s (pc' := 53) (st' := [.int 0, .int 2, .ref 62]) rfl rfl rfl rfl ?_
          refine go_s (pc' := 54) (st' := [.int 2, .ref 62]) rfl rfl rfl rfl ?_
          have hU160 : RU w B R [] true h154 am ln K ((mstI 1 (uI (uI (uI I 11 1 2) 12 1 (-1)) 40 1 0)), Q, Z) := RU_I (sm_e_refl (tbr am (13 * ln) 77 5088) _) (I' := (mstI 1 (uI (uI (uI I 11 1 2) 12 1 (-1)) 40 1 0))) (fun _ => rfl) (fun _ => rfl) (Nat.le_refl _) hU158
          refine go_callV (pc' := 55) rfl rfl rfl (Nat.le_of_ble_eq_true rfl) rfl (sm_o hS156 rfl) rfl rfl rfl (rs_cl hr hS156 hW (hW 77 (by decide) (by decide)) (r9 := 2) (by decide) (by decide) (by omega)) (fun r h161 q162 => ?_)
          obtain ⟨rfl, hS163, hE164⟩ := q162
          rw [clI_jn] at hS163
          obtain ⟨K9, eK9⟩ : ∃ z, z = clI K 2 424 := ⟨_, rfl⟩
          rw [← eK9] at hS163
          have f9 : rfr K K9 2 := by
            rw [eK9]
            exact clI_r (Nat.le_refl _)
          have z9 : ∀ j, j < 424 → K9 51 (424 * 2 + j) = 0 := fun j hj => by
            rw [eK9]
            exact cl_z hj
          have hR9 : RS K9 2 (fun _ => 0, [], []) := by
            rw [eK9]
            exact RS_cl
          refine go_s (pc' := 56) rfl rfl rfl rfl ?_
          refine go_ifP (t' := 61) (pc' := 57) rfl rfl rfl (fun _ => ?_) (fun (c : ¬ (¬ (1 : Int32) = 0)) => absurd (by decide) c)
          refine go_s (pc' := 62) rfl rfl rfl rfl ?_
          refine go_s (pc' := 63) rfl rfl rfl rfl ?_
          refine go_callV (pc' := 64) rfl rfl rfl (Nat.le_of_ble_eq_true rfl) rfl (sm_o hS163 rfl) rfl rfl rfl (rx_rT_1_2 hr hS163 hln hW ep159 (by omega)) (fun r h165 q166 => ?_)
          obtain ⟨rfl, hS167, hE168⟩ := q166
          have hE169 := sm_e_trans hE164 hE168
          have hU170 : RU w B R [] true h165 am ln (uI (uI K9 51 859 ((mstI 1 (uI (uI (uI I 11 1 2) 12 1 (-1)) 40 1 0)) 17 0 + 1)) 51 853 (-1)) ((uI (uI (mstI 1 (uI (uI (uI I 11 1 2) 12 1 (-1)) 40 1 0)) 17 0 ((mstI 1 (uI (uI (uI I 11 1 2) 12 1 (-1)) 40 1 0)) 17 0 + 1)) 18 0 0), Q, uZ Z 2 (rwT ((mstI 1 (uI (uI (uI I 11 1 2) 12 1 (-1)) 40 1 0)) 17 0 + 1))) := RU_row (K' := (uI (uI K9 51 859 ((mstI 1 (uI (uI (uI I 11 1 2) 12 1 (-1)) 40 1 0)) 17 0 + 1)) 51 853 (-1))) (s := (rwT ((mstI 1 (uI (uI (uI I 11 1 2) 12 1 (-1)) 40 1 0)) 17 0 + 1))) (by decide) (fun c j hc hn => by
            rw [← f9 c j hn]
            simp only [uI]
            rw [if_neg (by omega), if_neg (by omega)]) (⟨fun h => absurd h (by decide), fun _ j hj => by
            match j, hj with
            | 0, _ => (repeat (first | rw [uI_e (by decide)] | rw [uI_j (by decide)])) <;> first | rfl | exact z9 0 (by decide)
            | 1, _ => (repeat (first | rw [uI_e (by decide)] | rw [uI_j (by decide)])) <;> first | rfl | exact z9 1 (by decide)
            | 2, _ => (repeat (first | rw [uI_e (by decide)] | rw [uI_j (by decide)])) <;> first | rfl | exact z9 2 (by decide)
            | 3, _ => (repeat (first | rw [uI_e (by decide)] | rw [uI_j (by decide)])) <;> first | rfl | exact z9 3 (by decide)
            | 4, _ => (repeat (first | rw [uI_e (by decide)] | rw [uI_j (by decide)])) <;> first | rfl | exact z9 4 (by decide)
            | 5, _ => (repeat (first | rw [uI_e (by decide)] | rw [uI_j (by decide)])) <;> first | rfl | exact z9 5 (by decide)
            | 6, _ => (repeat (first | rw [uI_e (by decide)] | rw [uI_j (by decide)])) <;> first | rfl | exact z9 6 (by decide)
            | 7, _ => (repeat (first | rw [uI_e (by decide)] | rw [uI_j (by decide)])) <;> first | rfl | exact z9 7 (by decide)
            | 8, _ => (repeat (first | rw [uI_e (by decide)] | rw [uI_j (by decide)])) <;> first | rfl | exact z9 8 (by decide)
            | 9, _ => (repeat (first | rw [uI_e (by decide)] | rw [uI_j (by decide)])) <;> first | rfl | exact z9 9 (by decide)
            | 10, _ => (repeat (first | rw [uI_e (by decide)] | rw [uI_j (by decide)])) <;> first | rfl | exact z9 10 (by decide)
            | 11, _ => (repeat (first | rw [uI_e (by decide)] | rw [uI_j (by decide)])) <;> first | rfl | exact z9 11 (by decide)⟩) (RU_I hE169 (I' := (uI (uI (mstI 1 (uI (uI (uI I 11 1 2) 12 1 (-1)) 40 1 0)) 17 0 ((mstI 1 (uI (uI (uI I 11 1 2) 12 1 (-1)) 40 1 0)) 17 0 + 1)) 18 0 0)) (fun _ => rfl) (fun _ => rfl) (Nat.le_refl _) hU160)
          have hN : rrsN 1 (I, Q, Z) = ((uI (uI (mstI 1 (uI (uI (uI I 11 1 2) 12 1 (-1)) 40 1 0)) 17 0 ((mstI 1 (uI (uI (uI I 11 1 2) 12 1 (-1)) 40 1 0)) 17 0 + 1)) 18 0 0), Q, (uZ Z 2 (rwT ((mstI 1 (uI (uI (uI I 11 1 2) 12 1 (-1)) 40 1 0)) 17 0 + 1)))) := by
            unfold rrsN rrs1
            rw [if_neg (by decide), if_neg (by decide), show fup ((I, Q, Z) : mM).1 2 = 2 from hf]
            unfold rrsT
            rw [show rwi (((uI (uI (uI I 11 1 2) 12 1 (-1)) 40 1 0), Q, Z) : mM).1 1 = 2 from rwi_l (v := 2) rfl (by decide)]
            rw [uI_x (c := 18) (c' := 16) (by decide), uI_x (c := 17) (c' := 16) (by decide), show mstI 1 (uI (uI (uI I 11 1 2) 12 1 (-1)) 40 1 0) = uI (uI (uI (uI I 11 1 2) 12 1 (-1)) 40 1 0) 16 1 0 from if_neg (by decide)]
            rfl
          have hMN := MID_rN (k := 1) (by omega) hM (by decide) c142 (show ¬ fup I 2 = -1 by rw [hf]; decide) (fun z => absurd z (by decide))
          have hnc : ¬ (¬ ((I, Q, Z) : mM).1 11 1 = -1 ∨ fup ((I, Q, Z) : mM).1 (if 1 = 0 then 0 else 2) = -1 ∨ (1 = 0 ∧ chs ((I, Q, Z) : mM).1 = -1)) := fun z => z.elim (fun y => y c142) (fun z => z.elim (fun y => absurd (hf.symm.trans y) (by decide)) (fun y => absurd y.1 (by decide)))
          refine go_s (pc' := 65) rfl rfl rfl rfl ?_
          refine go_sget (pc' := 66) (v := .ref 63) hS167 rfl rfl rfl (by decide) rfl rfl ?_
          refine go_s (pc' := 67) rfl rfl rfl rfl ?_
          refine go_callS (pc' := 68) rfl rfl rfl (Nat.le_of_ble_eq_true rfl) rfl rfl rfl (rt_oh_2 (by omega)) (fun r h171 q172 => ?_)
          obtain ⟨rfl, rfl⟩ := q172
          refine go_sald (pc' := 69) (q := 3) (v := .int ((uI (uI (mstI 1 (uI (uI (uI I 11 1 2) 12 1 (-1)) 40 1 0)) 17 0 ((mstI 1 (uI (uI (uI I 11 1 2) 12 1 (-1)) 40 1 0)) 17 0 + 1)) 18 0 0) 0 3)) hS167 rfl (tr_s hr (a := 63) rfl (by decide)) rfl rfl (by decide) rfl rfl ?_
          refine go_ifP (t' := 73) (pc' := 70) rfl rfl rfl (fun (c173 : ((uI (uI (mstI 1 (uI (uI (uI I 11 1 2) 12 1 (-1)) 40 1 0)) 17 0 ((mstI 1 (uI (uI (uI I 11 1 2) 12 1 (-1)) 40 1 0)) 17 0 + 1)) 18 0 0) 0 3) = 0) => ?_) (fun (c173 : ¬ ((uI (uI (mstI 1 (uI (uI (uI I 11 1 2) 12 1 (-1)) 40 1 0)) 17 0 ((mstI 1 (uI (uI (uI I 11 1 2) 12 1 (-1)) 40 1 0)) 17 0 + 1)) 18 0 0) 0 3) = 0) => ?_)
          · skip
            refine go_ret rfl rfl ?_
            have hA174 : RA w B R [] true h171 ((uI (uI (mstI 1 (uI (uI (uI I 11 1 2) 12 1 (-1)) 40 1 0)) 17 0 ((mstI 1 (uI (uI (uI I 11 1 2) 12 1 (-1)) 40 1 0)) 17 0 + 1)) 18 0 0), Q, (uZ Z 2 (rwT ((mstI 1 (uI (uI (uI I 11 1 2) 12 1 (-1)) 40 1 0)) 17 0 + 1)))) := RA_u.mpr ⟨_, _, _, _, hS167, hU170⟩
            have hms : rrs 1 (I, Q, Z) = ((uI (uI (mstI 1 (uI (uI (uI I 11 1 2) 12 1 (-1)) 40 1 0)) 17 0 ((mstI 1 (uI (uI (uI I 11 1 2) 12 1 (-1)) 40 1 0)) 17 0 + 1)) 18 0 0), Q, (uZ Z 2 (rwT ((mstI 1 (uI (uI (uI I 11 1 2) 12 1 (-1)) 40 1 0)) 17 0 + 1)))) := by
              unfold rrs
              rw [if_neg hnc, hN, show ohn (((uI (uI (mstI 1 (uI (uI (uI I 11 1 2) 12 1 (-1)) 40 1 0)) 17 0 ((mstI 1 (uI (uI (uI I 11 1 2) 12 1 (-1)) 40 1 0)) 17 0 + 1)) 18 0 0), Q, (uZ Z 2 (rwT ((mstI 1 (uI (uI (uI I 11 1 2) 12 1 (-1)) 40 1 0)) 17 0 + 1)))) : mM).1 1 = 3 from ohn_l (v := 2) (show (uI (uI (mstI 1 (uI (uI (uI I 11 1 2) 12 1 (-1)) 40 1 0)) 17 0 ((mstI 1 (uI (uI (uI I 11 1 2) 12 1 (-1)) 40 1 0)) 17 0 + 1)) 18 0 0) 11 1 = 2 from ep159) (by decide)]
              exact if_pos c173
            rw [hms]
            exact ⟨rfl, RA_R (by omega) hA174⟩
          · skip
            refine go_s (pc' := 71) rfl rfl rfl rfl ?_
            refine go_s (pc' := 72) rfl rfl rfl rfl ?_
            have h5 : sq Q + hc [] true ≤ 5 := by
              have z := hMN.2
              rw [hN] at z
              have z2 : sq Q ≤ 5 := z
              have z3 : hc [] true = 0 := rfl
              omega
            have hU175 : RU w B R [] true h171 am ln (uI (uI K9 51 859 ((mstI 1 (uI (uI (uI I 11 1 2) 12 1 (-1)) 40 1 0)) 17 0 + 1)) 51 853 (-1)) ((uI (uI (mstI 1 (uI (uI (uI I 11 1 2) 12 1 (-1)) 40 1 0)) 17 0 ((mstI 1 (uI (uI (uI I 11 1 2) 12 1 (-1)) 40 1 0)) 17 0 + 1)) 18 0 0), Q, (uZ Z 2 (rwT ((mstI 1 (uI (uI (uI I 11 1 2) 12 1 (-1)) 40 1 0)) 17 0 + 1)))) := RU_I (sm_e_refl (tbr am (13 * ln) 77 5088) _) (I' := (uI (uI (mstI 1 (uI (uI (uI I 11 1 2) 12 1 (-1)) 40 1 0)) 17 0 ((mstI 1 (uI (uI (uI I 11 1 2) 12 1 (-1)) 40 1 0)) 17 0 + 1)) 18 0 0)) (fun _ => rfl) (fun _ => rfl) (Nat.le_refl _) hU170
            have hA176 : RA w B R [] true h171 ((uI (uI (mstI 1 (uI (uI (uI I 11 1 2) 12 1 (-1)) 40 1 0)) 17 0 ((mstI 1 (uI (uI (uI I 11 1 2) 12 1 (-1)) 40 1 0)) 17 0 + 1)) 18 0 0), Q, (uZ Z 2 (rwT ((mstI 1 (uI (uI (uI I 11 1 2) 12 1 (-1)) 40 1 0)) 17 0 + 1)))) := RA_u.mpr ⟨_, _, _, _, hS167, hU175⟩
            refine go_callV (pc' := 73) rfl rfl rfl (Nat.le_of_ble_eq_true rfl) rfl (sm_o hS167 rfl) rfl rfl rfl (ra_sc_1 hA176 (by omega) (Or.inr (Or.inl (show (uI (uI (mstI 1 (uI (uI (uI I 11 1 2) 12 1 (-1)) 40 1 0)) 17 0 ((mstI 1 (uI (uI (uI I 11 1 2) 12 1 (-1)) 40 1 0)) 17 0 + 1)) 18 0 0) 11 1 = 2 from ep159))) (fun z => absurd ((show (uI (uI (mstI 1 (uI (uI (uI I 11 1 2) 12 1 (-1)) 40 1 0)) 17 0 ((mstI 1 (uI (uI (uI I 11 1 2) 12 1 (-1)) 40 1 0)) 17 0 + 1)) 18 0 0) 11 1 = 2 from ep159).symm.trans z) (by decide)) h5 (by omega)) (fun r h177 q178 => ?_)
            obtain ⟨rfl, hA179⟩ := q178
            refine go_ret rfl rfl ?_
            have hms : rrs 1 (I, Q, Z) = rsc 1 ((uI (uI (mstI 1 (uI (uI (uI I 11 1 2) 12 1 (-1)) 40 1 0)) 17 0 ((mstI 1 (uI (uI (uI I 11 1 2) 12 1 (-1)) 40 1 0)) 17 0 + 1)) 18 0 0), Q, (uZ Z 2 (rwT ((mstI 1 (uI (uI (uI I 11 1 2) 12 1 (-1)) 40 1 0)) 17 0 + 1)))) := by
              unfold rrs
              rw [if_neg hnc, hN, show ohn (((uI (uI (mstI 1 (uI (uI (uI I 11 1 2) 12 1 (-1)) 40 1 0)) 17 0 ((mstI 1 (uI (uI (uI I 11 1 2) 12 1 (-1)) 40 1 0)) 17 0 + 1)) 18 0 0), Q, (uZ Z 2 (rwT ((mstI 1 (uI (uI (uI I 11 1 2) 12 1 (-1)) 40 1 0)) 17 0 + 1)))) : mM).1 1 = 3 from ohn_l (v := 2) (show (uI (uI (mstI 1 (uI (uI (uI I 11 1 2) 12 1 (-1)) 40 1 0)) 17 0 ((mstI 1 (uI (uI (uI I 11 1 2) 12 1 (-1)) 40 1 0)) 17 0 + 1)) 18 0 0) 11 1 = 2 from ep159) (by decide)]
              exact if_neg c173
            rw [hms]
            exact ⟨rfl, hA179⟩
      · skip
        show am_Go _ _ _ _ 13 _ [.int 1] _ _
        refine go_ifP (t' := 16) (pc' := 14) rfl rfl rfl (fun (c : (1 : Int32) = 0) => absurd c (by decide)) (fun _ => ?_)
        refine go_s (pc' := 15) (st' := [.int 1]) rfl rfl rfl rfl ?_
        refine go_s (pc' := 17) rfl rfl rfl rfl ?_
        refine go_s (pc' := 18) (lo' := [some (.ref 62), some (.int 1), some (.int 2), some (.int 1)]) rfl rfl rfl rfl ?_
        refine go_s (pc' := 19) rfl rfl rfl rfl ?_
        refine go_sget (pc' := 20) (v := .ref 78) hS rfl rfl rfl (by decide) rfl rfl ?_
        refine go_s (pc' := 21) rfl rfl rfl rfl ?_
        refine go_sald (pc' := 22) (q := 1) (v := .int (I 11 1)) hS rfl (tr_s hr (a := 78) rfl (by decide)) rfl rfl (by decide) rfl rfl ?_
        refine go_s (pc' := 23) (st' := [.int (-1), .int (I 11 1)]) rfl rfl rfl rfl ?_
        refine go_icmpP (t' := 32) (pc' := 24) rfl rfl rfl (fun (c180 : ¬ (I 11 1) = (-1)) => ?_) (fun (c180' : ¬ ¬ (I 11 1) = (-1)) => ?_)
        · skip
          refine go_ret rfl rfl ?_
          have hms : rrs 1 (I, Q, Z) = (I, Q, Z) := if_pos (Or.inl c180)
          rw [hms]
          exact ⟨rfl, RA_R (by omega) hA⟩
        · skip
          have c180 : (I 11 1) = (-1) := Decidable.not_not.mp c180'
          refine go_s (pc' := 25) rfl rfl rfl rfl ?_
          refine go_s (pc' := 26) (st' := [.int (-1), .int 2]) rfl rfl rfl rfl ?_
          refine go_icmpP (t' := 32) (pc' := 27) rfl rfl rfl (fun (c : (2 : Int32) = (-1)) => absurd c (by decide)) (fun _ => ?_)
          refine go_s (pc' := 28) rfl rfl rfl rfl ?_
          refine go_ifP (t' := 33) (pc' := 29) rfl rfl rfl (fun _ => ?_) (fun (c : ¬ (¬ (1 : Int32) = 0)) => absurd (by decide) c)
          refine go_s (pc' := 34) rfl rfl rfl rfl ?_
          refine go_sget (pc' := 35) (v := .ref 78) hS rfl rfl rfl (by decide) rfl rfl ?_
          refine go_s (pc' := 36) rfl rfl rfl rfl ?_
          refine go_s (pc' := 37) rfl rfl rfl rfl ?_
          refine go_siast (pc' := 38) (q := 1) hS rfl (tr_s hr (a := 78) rfl (by decide)) tbr_inj (Nat.le_of_ble_eq_true rfl) rfl (by decide) (by decide) (hW _ (by decide) (by decide)) rfl (fun h181 hS182 hE183 => ?_)
          refine go_s (pc' := 39) rfl rfl rfl rfl ?_
          refine go_sget (pc' := 40) (v := .ref 79) hS182 rfl rfl rfl (by decide) rfl rfl ?_
          refine go_s (pc' := 41) rfl rfl rfl rfl ?_
          refine go_s (pc' := 42) (st' := [.int (-1), .int 1, .ref 79]) rfl rfl rfl rfl ?_
          refine go_siast (pc' := 43) (q := 1) hS182 rfl (tr_s hr (a := 79) rfl (by decide)) tbr_inj (Nat.le_of_ble_eq_true rfl) rfl (by decide) (by decide) (hW _ (by decide) (by decide)) rfl (fun h184 hS185 hE186 => ?_)
          have hE187 := sm_e_trans hE183 hE186
          change sm (tbr am (13 * ln) 77 5088) _ (uI (uI (jn I K) 11 1 2) 12 1 (-1)) Y at hS185
          rw [jn_lo (c := 11) (by decide), jn_lo (c := 12) (by decide)] at hS185
          have hU188 : RU w B R [] true h184 am ln K ((uI (uI I 11 1 2) 12 1 (-1)), Q, Z) := RU_I (hE187) (I' := (uI (uI I 11 1 2) 12 1 (-1))) (fun _ => rfl) (fun _ => rfl) (Nat.le_refl _) hU
          have hS189 : sm (tbr am (13 * ln) 77 5088) _ (jn (uI (uI (uI I 11 1 2) 12 1 (-1)) 40 1 0) K) Y := sm_jg hr hS185 (fun c j _ n1 n2 n3 => uI_c n3)
          have hU190 : RU w B R [] true h184 am ln K ((uI (uI (uI I 11 1 2) 12 1 (-1)) 40 1 0), Q, Z) := RU_I (sm_e_refl (tbr am (13 * ln) 77 5088) _) (fun _ => rfl) (fun _ => rfl) (Nat.le_refl _) hU188
          refine go_s (pc' := 44) rfl rfl rfl rfl ?_
          refine go_s (pc' := 45) rfl rfl rfl rfl ?_
          have hU191 : RU w B R [] true h184 am ln K ((uI (uI (uI I 11 1 2) 12 1 (-1)) 40 1 0), Q, Z) := RU_I (sm_e_refl (tbr am (13 * ln) 77 5088) _) (I' := (uI (uI (uI I 11 1 2) 12 1 (-1)) 40 1 0)) (fun _ => rfl) (fun _ => rfl) (Nat.le_refl _) hU190
          refine go_callV (pc' := 46) rfl rfl rfl (Nat.le_of_ble_eq_true rfl) rfl (sm_o hS189 rfl) rfl rfl rfl (rt_stops_1 hr hS189 hW (by omega)) (fun r h192 q193 => ?_)
          obtain ⟨rfl, hS194, hE195⟩ := q193
          change sm (tbr am (13 * ln) 77 5088) _ (mstI 1 (jn (uI (uI (uI I 11 1 2) 12 1 (-1)) 40 1 0) K)) Y at hS194
          rw [mst_jn] at hS194
          have hU196 : RU w B R [] true h192 am ln K ((mstI 1 (uI (uI (uI I 11 1 2) 12 1 (-1)) 40 1 0)), Q, Z) := RU_I hE195 mst_24 mst_25 mst_stn hU191
          have ep197 : (mstI 1 (uI (uI (uI I 11 1 2) 12 1 (-1)) 40 1 0)) 11 1 = 2 := (congrFun mst_11 1).trans (show (uI (uI (uI I 11 1 2) 12 1 (-1)) 40 1 0) 11 1 = 2 from rfl)
          refine go_s (pc' := 47) rfl rfl rfl rfl ?_
          refine go_s (pc' := 48) (st' := [.int 2, .ref 62]) rfl rfl rfl rfl ?_
          refine go_s (pc' := 49) rfl rfl rfl rfl ?_
          refine go_s (pc' := 50) (st' := [.int 2, .ref 62]) rfl rfl rfl rfl ?_
          refine go_s (pc' := 51) rfl rfl rfl rfl ?_
          refine go_s (pc' := 52) (st' := [.int 2, .int 2, .int 2, .ref 62]) rfl rfl rfl rfl ?_
          refine go_s (pc' := 53) (st' := [.int 0, .int 2, .ref 62]) rfl rfl rfl rfl ?_
          refine go_s (pc' := 54) (st' := [.int 2, .ref 62]) rfl rfl rfl rfl ?_
          have hU198 : RU w B R [] true h192 am ln K ((mstI 1 (uI (uI (uI I 11 1 2) 12 1 (-1)) 40 1 0)), Q, Z) := RU_I (sm_e_refl (tbr am (13 * ln) 77 5088) _) (I' := (mstI 1 (uI (uI (uI I 11 1 2) 12 1 (-1)) 40 1 0))) (fun _ => rfl) (fun _ => rfl) (Nat.le_refl _) hU196
          refine go_callV (pc' := 55) rfl rfl rfl (Nat.le_of_ble_eq_true rfl) rfl (sm_o hS194 rfl) rfl rfl rfl (rs_cl hr hS194 hW (hW 77 (by decide) (by decide)) (r9 := 2) (by decide) (by decide) (by omega)) (fun r h199 q200 => ?_)
          obtain ⟨rfl, hS201, hE202⟩ := q200
          rw [clI_jn] at hS201
          obtain ⟨K9, eK9⟩ : ∃ z, z = clI K 2 424 := ⟨_, rfl⟩
          rw [← eK9] at hS201
          have f9 : rfr K K9 2 := by
            rw [eK9]
            exact clI_r (Nat.le_refl _)
          have z9 : ∀ j, j < 424 → K9 51 (424 * 2 + j) = 0 := fun j hj => by
            rw [eK9]
            exact cl_z hj
          have hR9 : RS K9 2 (fun _ => 0, [], []) := by
            rw [eK9]
            exact RS_cl
          refine go_s (pc' := 56) rfl rfl rfl rfl ?_
          refine go_ifP (t' := 61) (pc' := 57) rfl rfl rfl (fun _ => ?_) (fun (c : ¬ (¬ (1 : Int32) = 0)) => absurd (by decide) c)
          refine go_s (pc' := 62) rfl rfl rfl rfl ?_
          refine go_s (pc' := 63) rfl rfl rfl rfl ?_
          refine go_callV (pc' := 64) rfl rfl rfl (Nat.le_of_ble_eq_true rfl) rfl (sm_o hS201 rfl) rfl rfl rfl (rx_rT_1_2 hr hS201 hln hW ep197 (by omega)) (fun r h203 q204 => ?_)
          obtain ⟨rfl, hS205, hE206⟩ := q204
          have hE207 := sm_e_trans hE202 hE206
          have hU208 : RU w B R [] true h203 am ln (uI (uI K9 51 859 ((mstI 1 (uI (uI (uI I 11 1 2) 12 1 (-1)) 40 1 0)) 17 0 + 1)) 51 853 (-1)) ((uI (uI (mstI 1 (uI (uI (uI I 11 1 2) 12 1 (-1)) 40 1 0)) 17 0 ((mstI 1 (uI (uI (uI I 11 1 2) 12 1 (-1)) 40 1 0)) 17 0 + 1)) 18 0 0), Q, uZ Z 2 (rwT ((mstI 1 (uI (uI (uI I 11 1 2) 12 1 (-1)) 40 1 0)) 17 0 + 1))) := RU_row (K' := (uI (uI K9 51 859 ((mstI 1 (uI (uI (uI I 11 1 2) 12 1 (-1)) 40 1 0)) 17 0 + 1)) 51 853 (-1))) (s := (rwT ((mstI 1 (uI (uI (uI I 11 1 2) 12 1 (-1)) 40 1 0)) 17 0 + 1))) (by decide) (fun c j hc hn => by
            rw [← f9 c j hn]
            simp only [uI]
            rw [if_neg (by omega), if_neg (by omega)]) (⟨fun h => absurd h (by decide), fun _ j hj => by
            match j, hj with
            | 0, _ => (repeat (first | rw [uI_e (by decide)] | rw [uI_j (by decide)])) <;> first | rfl | exact z9 0 (by decide)
            | 1, _ => (repeat (first | rw [uI_e (by decide)] | rw [uI_j (by decide)])) <;> first | rfl | exact z9 1 (by decide)
            | 2, _ => (repeat (first | rw [uI_e (by decide)] | rw [uI_j (by decide)])) <;> first | rfl | exact z9 2 (by decide)
            | 3, _ => (repeat (first | rw [uI_e (by decide)] | rw [uI_j (by decide)])) <;> first | rfl | exact z9 3 (by decide)
            | 4, _ => (repeat (first | rw [uI_e (by decide)] | rw [uI_j (by decide)])) <;> first | rfl | exact z9 4 (by decide)
            | 5, _ => (repeat (first | rw [uI_e (by decide)] | rw [uI_j (by decide)])) <;> first | rfl | exact z9 5 (by decide)
            | 6, _ => (repeat (first | rw [uI_e (by decide)] | rw [uI_j (by decide)])) <;> first | rfl | exact z9 6 (by decide)
            | 7, _ => (repeat (first | rw [uI_e (by decide)] | rw [uI_j (by decide)])) <;> first | rfl | exact z9 7 (by decide)
            | 8, _ => (repeat (first | rw [uI_e (by decide)] | rw [uI_j (by decide)])) <;> first | rfl | exact z9 8 (by decide)
            | 9, _ => (repeat (first | rw [uI_e (by decide)] | rw [uI_j (by decide)])) <;> first | rfl | exact z9 9 (by decide)
            | 10, _ => (repeat (first | rw [uI_e (by decide)] | rw [uI_j (by decide)])) <;> first | rfl | exact z9 10 (by decide)
            | 11, _ => (repeat (first | rw [uI_e (by decide)] | rw [uI_j (by decide)])) <;> first | rfl | exact z9 11 (by decide)⟩) (RU_I hE207 (I' := (uI (uI (mstI 1 (uI (uI (uI I 11 1 2) 12 1 (-1)) 40 1 0)) 17 0 ((mstI 1 (uI (uI (uI I 11 1 2) 12 1 (-1)) 40 1 0)) 17 0 + 1)) 18 0 0)) (fun _ => rfl) (fun _ => rfl) (Nat.le_refl _) hU198)
          have hN : rrsN 1 (I, Q, Z) = ((uI (uI (mstI 1 (uI (uI (uI I 11 1 2) 12 1 (-1)) 40 1 0)) 17 0 ((mstI 1 (uI (uI (uI I 11 1 2) 12 1 (-1)) 40 1 0)) 17 0 + 1)) 18 0 0), Q, (uZ Z 2 (rwT ((mstI 1 (uI (uI (uI I 11 1 2) 12 1 (-1)) 40 1 0)) 17 0 + 1)))) := by
            unfold rrsN rrs1
            rw [if_neg (by decide), if_neg (by decide), show fup ((I, Q, Z) : mM).1 2 = 2 from hf]
            unfold rrsT
            rw [show rwi (((uI (uI (uI I 11 1 2) 12 1 (-1)) 40 1 0), Q, Z) : mM).1 1 = 2 from rwi_l (v := 2) rfl (by decide)]
            rw [uI_x (c := 18) (c' := 16) (by decide), uI_x (c := 17) (c' := 16) (by decide), show mstI 1 (uI (uI (uI I 11 1 2) 12 1 (-1)) 40 1 0) = uI (uI (uI (uI I 11 1 2) 12 1 (-1)) 40 1 0) 16 1 0 from if_neg (by decide)]
            rfl
          have hMN := MID_rN (k := 1) (by omega) hM (by decide) c180 (show ¬ fup I 2 = -1 by rw [hf]; decide) (fun z => absurd z (by decide))
          have hnc : ¬ (¬ ((I, Q, Z) : mM).1 11 1 = -1 ∨ fup ((I, Q, Z) : mM).1 (if 1 = 0 then 0 else 2) = -1 ∨ (1 = 0 ∧ chs ((I, Q, Z) : mM).1 = -1)) := fun z => z.elim (fun y => y c180) (fun z => z.elim (fun y => absurd (hf.symm.trans y) (by decide)) (fun y => absurd y.1 (by decide)))
          refine go_s (pc' := 65) rfl rfl rfl rfl ?_
          refine go_sget (pc' := 66) (v := .ref 63) hS205 rfl rfl rfl (by decide) rfl rfl ?_
          refine go_s (pc' := 67) rfl rfl rfl rfl ?_
          refine go_callS (pc' := 68) rfl rfl rfl (Nat.le_of_ble_eq_true rfl) rfl rfl rfl (rt_oh_2 (by omega)) (fun r h209 q210 => ?_)
          obtain ⟨rfl, rfl⟩ := q210
          refine go_sald (pc' := 69) (q := 3) (v := .int ((uI (uI (mstI 1 (uI (uI (uI I 11 1 2) 12 1 (-1)) 40 1 0)) 17 0 ((mstI 1 (uI (uI (uI I 11 1 2) 12 1 (-1)) 40 1 0)) 17 0 + 1)) 18 0 0) 0 3)) hS205 rfl (tr_s hr (a := 63) rfl (by decide)) rfl rfl (by decide) rfl rfl ?_
          refine go_ifP (t' := 73) (pc' := 70) rfl rfl rfl (fun (c211 : ((uI (uI (mstI 1 (uI (uI (uI I 11 1 2) 12 1 (-1)) 40 1 0)) 17 0 ((mstI 1 (uI (uI (uI I 11 1 2) 12 1 (-1)) 40 1 0)) 17 0 + 1)) 18 0 0) 0 3) = 0) => ?_) (fun (c211 : ¬ ((uI (uI (mstI 1 (uI (uI (uI I 11 1 2) 12 1 (-1)) 40 1 0)) 17 0 ((mstI 1 (uI (uI (uI I 11 1 2) 12 1 (-1)) 40 1 0)) 17 0 + 1)) 18 0 0) 0 3) = 0) => ?_)
          · skip
            refine go_ret rfl rfl ?_
            have hA212 : RA w B R [] true h209 ((uI (uI (mstI 1 (uI (uI (uI I 11 1 2) 12 1 (-1)) 40 1 0)) 17 0 ((mstI 1 (uI (uI (uI I 11 1 2) 12 1 (-1)) 40 1 0)) 17 0 + 1)) 18 0 0), Q, (uZ Z 2 (rwT ((mstI 1 (uI (uI (uI I 11 1 2) 12 1 (-1)) 40 1 0)) 17 0 + 1)))) := RA_u.mpr ⟨_, _, _, _, hS205, hU208⟩
            have hms : rrs 1 (I, Q, Z) = ((uI (uI (mstI 1 (uI (uI (uI I 11 1 2) 12 1 (-1)) 40 1 0)) 17 0 ((mstI 1 (uI (uI (uI I 11 1 2) 12 1 (-1)) 40 1 0)) 17 0 + 1)) 18 0 0), Q, (uZ Z 2 (rwT ((mstI 1 (uI (uI (uI I 11 1 2) 12 1 (-1)) 40 1 0)) 17 0 + 1)))) := by
              unfold rrs
              rw [if_neg hnc, hN, show ohn (((uI (uI (mstI 1 (uI (uI (uI I 11 1 2) 12 1 (-1)) 40 1 0)) 17 0 ((mstI 1 (uI (uI (uI I 11 1 2) 12 1 (-1)) 40 1 0)) 17 0 + 1)) 18 0 0), Q, (uZ Z 2 (rwT ((mstI 1 (uI (uI (uI I 11 1 2) 12 1 (-1)) 40 1 0)) 17 0 + 1)))) : mM).1 1 = 3 from ohn_l (v := 2) (show (uI (uI (mstI 1 (uI (uI (uI I 11 1 2) 12 1 (-1)) 40 1 0)) 17 0 ((mstI 1 (uI (uI (uI I 11 1 2) 12 1 (-1)) 40 1 0)) 17 0 + 1)) 18 0 0) 11 1 = 2 from ep197) (by decide)]
              exact if_pos c211
            rw [hms]
            exact ⟨rfl, RA_R (by omega) hA212⟩
          · skip
            refine go_s (pc' := 71) rfl rfl rfl rfl ?_
            refine go_s (pc' := 72) rfl rfl rfl rfl ?_
            have h5 : sq Q + hc [] true ≤ 5 := by
              have z := hMN.2
              rw [hN] at z
              have z2 : sq Q ≤ 5 := z
              have z3 : hc [] true = 0 := rfl
              omega
            have hU213 : RU w B R [] true h209 am ln (uI (uI K9 51 859 ((mstI 1 (uI (uI (uI I 11 1 2) 12 1 (-1)) 40 1 0)) 17 0 + 1)) 51 853 (-1)) ((uI (uI (mstI 1 (uI (uI (uI I 11 1 2) 12 1 (-1)) 40 1 0)) 17 0 ((mstI 1 (uI (uI (uI I 11 1 2) 12 1 (-1)) 40 1 0)) 17 0 + 1)) 18 0 0), Q, (uZ Z 2 (rwT ((mstI 1 (uI (uI (uI I 11 1 2) 12 1 (-1)) 40 1 0)) 17 0 + 1)))) := RU_I (sm_e_refl (tbr am (13 * ln) 77 5088) _) (I' := (uI (uI (mstI 1 (uI (uI (uI I 11 1 2) 12 1 (-1)) 40 1 0)) 17 0 ((mstI 1 (uI (uI (uI I 11 1 2) 12 1 (-1)) 40 1 0)) 17 0 + 1)) 18 0 0)) (fun _ => rfl) (fun _ => rfl) (Nat.le_refl _) hU208
            have hA214 : RA w B R [] true h209 ((uI (uI (mstI 1 (uI (uI (uI I 11 1 2) 12 1 (-1)) 40 1 0)) 17 0 ((mstI 1 (uI (uI (uI I 11 1 2) 12 1 (-1)) 40 1 0)) 17 0 + 1)) 18 0 0), Q, (uZ Z 2 (rwT ((mstI 1 (uI (uI (uI I 11 1 2) 12 1 (-1)) 40 1 0)) 17 0 + 1)))) := RA_u.mpr ⟨_, _, _, _, hS205, hU213⟩
            refine go_callV (pc' := 73) rfl rfl rfl (Nat.le_of_ble_eq_true rfl) rfl (sm_o hS205 rfl) rfl rfl rfl (ra_sc_1 hA214 (by omega) (Or.inr (Or.inl (show (uI (uI (mstI 1 (uI (uI (uI I 11 1 2) 12 1 (-1)) 40 1 0)) 17 0 ((mstI 1 (uI (uI (uI I 11 1 2) 12 1 (-1)) 40 1 0)) 17 0 + 1)) 18 0 0) 11 1 = 2 from ep197))) (fun z => absurd ((show (uI (uI (mstI 1 (uI (uI (uI I 11 1 2) 12 1 (-1)) 40 1 0)) 17 0 ((mstI 1 (uI (uI (uI I 11 1 2) 12 1 (-1)) 40 1 0)) 17 0 + 1)) 18 0 0) 11 1 = 2 from ep197).symm.trans z) (by decide)) h5 (by omega)) (fun r h215 q216 => ?_)
            obtain ⟨rfl, hA217⟩ := q216
            refine go_ret rfl rfl ?_
            have hms : rrs 1 (I, Q, Z) = rsc 1 ((uI (uI (mstI 1 (uI (uI (uI I 11 1 2) 12 1 (-1)) 40 1 0)) 17 0 ((mstI 1 (uI (uI (uI I 11 1 2) 12 1 (-1)) 40 1 0)) 17 0 + 1)) 18 0 0), Q, (uZ Z 2 (rwT ((mstI 1 (uI (uI (uI I 11 1 2) 12 1 (-1)) 40 1 0)) 17 0 + 1)))) := by
              unfold rrs
              rw [if_neg hnc, hN, show ohn (((uI (uI (mstI 1 (uI (uI (uI I 11 1 2) 12 1 (-1)) 40 1 0)) 17 0 ((mstI 1 (uI (uI (uI I 11 1 2) 12 1 (-1)) 40 1 0)) 17 0 + 1)) 18 0 0), Q, (uZ Z 2 (rwT ((mstI 1 (uI (uI (uI I 11 1 2) 12 1 (-1)) 40 1 0)) 17 0 + 1)))) : mM).1 1 = 3 from ohn_l (v := 2) (show (uI (uI (mstI 1 (uI (uI (uI I 11 1 2) 12 1 (-1)) 40 1 0)) 17 0 ((mstI 1 (uI (uI (uI I 11 1 2) 12 1 (-1)) 40 1 0)) 17 0 + 1)) 18 0 0) 11 1 = 2 from ep197) (by decide)]
              exact if_neg c211
            rw [hms]
            exact ⟨rfl, hA217⟩
    · skip
      show am_Go _ _ _ _ 7 _ [.int 1] _ _
      refine go_ifP (t' := 10) (pc' := 8) rfl rfl rfl (fun (c : (1 : Int32) = 0) => absurd c (by decide)) (fun _ => ?_)
      refine go_s (pc' := 9) (st' := [.int 0]) rfl rfl rfl rfl ?_
      refine go_s (pc' := 17) rfl rfl rfl rfl ?_
      refine go_s (pc' := 18) (lo' := [some (.ref 62), some (.int 1), some (.int 2), some (.int 0)]) rfl rfl rfl rfl ?_
      refine go_s (pc' := 19) rfl rfl rfl rfl ?_
      refine go_sget (pc' := 20) (v := .ref 78) hS rfl rfl rfl (by decide) rfl rfl ?_
      refine go_s (pc' := 21) rfl rfl rfl rfl ?_
      refine go_sald (pc' := 22) (q := 1) (v := .int (I 11 1)) hS rfl (tr_s hr (a := 78) rfl (by decide)) rfl rfl (by decide) rfl rfl ?_
      refine go_s (pc' := 23) (st' := [.int (-1), .int (I 11 1)]) rfl rfl rfl rfl ?_
      refine go_icmpP (t' := 32) (pc' := 24) rfl rfl rfl (fun (c218 : ¬ (I 11 1) = (-1)) => ?_) (fun (c218' : ¬ ¬ (I 11 1) = (-1)) => ?_)
      · skip
        refine go_ret rfl rfl ?_
        have hms : rrs 1 (I, Q, Z) = (I, Q, Z) := if_pos (Or.inl c218)
        rw [hms]
        exact ⟨rfl, RA_R (by omega) hA⟩
      · skip
        have c218 : (I 11 1) = (-1) := Decidable.not_not.mp c218'
        refine go_s (pc' := 25) rfl rfl rfl rfl ?_
        refine go_s (pc' := 26) (st' := [.int (-1), .int 2]) rfl rfl rfl rfl ?_
        refine go_icmpP (t' := 32) (pc' := 27) rfl rfl rfl (fun (c : (2 : Int32) = (-1)) => absurd c (by decide)) (fun _ => ?_)
        refine go_s (pc' := 28) rfl rfl rfl rfl ?_
        refine go_ifP (t' := 33) (pc' := 29) rfl rfl rfl (fun _ => ?_) (fun (c : ¬ (¬ (1 : Int32) = 0)) => absurd (by decide) c)
        refine go_s (pc' := 34) rfl rfl rfl rfl ?_
        refine go_sget (pc' := 35) (v := .ref 78) hS rfl rfl rfl (by decide) rfl rfl ?_
        refine go_s (pc' := 36) rfl rfl rfl rfl ?_
        refine go_s (pc' := 37) rfl rfl rfl rfl ?_
        refine go_siast (pc' := 38) (q := 1) hS rfl (tr_s hr (a := 78) rfl (by decide)) tbr_inj (Nat.le_of_ble_eq_true rfl) rfl (by decide) (by decide) (hW _ (by decide) (by decide)) rfl (fun h219 hS220 hE221 => ?_)
        refine go_s (pc' := 39) rfl rfl rfl rfl ?_
        refine go_sget (pc' := 40) (v := .ref 79) hS220 rfl rfl rfl (by decide) rfl rfl ?_
        refine go_s (pc' := 41) rfl rfl rfl rfl ?_
        refine go_s (pc' := 42) (st' := [.int (-1), .int 1, .ref 79]) rfl rfl rfl rfl ?_
        refine go_siast (pc' := 43) (q := 1) hS220 rfl (tr_s hr (a := 79) rfl (by decide)) tbr_inj (Nat.le_of_ble_eq_true rfl) rfl (by decide) (by decide) (hW _ (by decide) (by decide)) rfl (fun h222 hS223 hE224 => ?_)
        have hE225 := sm_e_trans hE221 hE224
        change sm (tbr am (13 * ln) 77 5088) _ (uI (uI (jn I K) 11 1 2) 12 1 (-1)) Y at hS223
        rw [jn_lo (c := 11) (by decide), jn_lo (c := 12) (by decide)] at hS223
        have hU226 : RU w B R [] true h222 am ln K ((uI (uI I 11 1 2) 12 1 (-1)), Q, Z) := RU_I (hE225) (I' := (uI (uI I 11 1 2) 12 1 (-1))) (fun _ => rfl) (fun _ => rfl) (Nat.le_refl _) hU
        have hS227 : sm (tbr am (13 * ln) 77 5088) _ (jn (uI (uI (uI I 11 1 2) 12 1 (-1)) 40 1 0) K) Y := sm_jg hr hS223 (fun c j _ n1 n2 n3 => uI_c n3)
        have hU228 : RU w B R [] true h222 am ln K ((uI (uI (uI I 11 1 2) 12 1 (-1)) 40 1 0), Q, Z) := RU_I (sm_e_refl (tbr am (13 * ln) 77 5088) _) (fun _ => rfl) (fun _ => rfl) (Nat.le_refl _) hU226
        refine go_s (pc' := 44) rfl rfl rfl rfl ?_
        refine go_s (pc' := 45) rfl rfl rfl rfl ?_
        have hU229 : RU w B R [] true h222 am ln K ((uI (uI (uI I 11 1 2) 12 1 (-1)) 40 1 0), Q, Z) := RU_I (sm_e_refl (tbr am (13 * ln) 77 5088) _) (I' := (uI (uI (uI I 11 1 2) 12 1 (-1)) 40 1 0)) (fun _ => rfl) (fun _ => rfl) (Nat.le_refl _) hU228
        refine go_callV (pc' := 46) rfl rfl rfl (Nat.le_of_ble_eq_true rfl) rfl (sm_o hS227 rfl) rfl rfl rfl (rt_stops_1 hr hS227 hW (by omega)) (fun r h230 q231 => ?_)
        obtain ⟨rfl, hS232, hE233⟩ := q231
        change sm (tbr am (13 * ln) 77 5088) _ (mstI 1 (jn (uI (uI (uI I 11 1 2) 12 1 (-1)) 40 1 0) K)) Y at hS232
        rw [mst_jn] at hS232
        have hU234 : RU w B R [] true h230 am ln K ((mstI 1 (uI (uI (uI I 11 1 2) 12 1 (-1)) 40 1 0)), Q, Z) := RU_I hE233 mst_24 mst_25 mst_stn hU229
        have ep235 : (mstI 1 (uI (uI (uI I 11 1 2) 12 1 (-1)) 40 1 0)) 11 1 = 2 := (congrFun mst_11 1).trans (show (uI (uI (uI I 11 1 2) 12 1 (-1)) 40 1 0) 11 1 = 2 from rfl)
        refine go_s (pc' := 47) rfl rfl rfl rfl ?_
        refine go_s (pc' := 48) (st' := [.int 2, .ref 62]) rfl rfl rfl rfl ?_
        refine go_s (pc' := 49) rfl rfl rfl rfl ?_
        refine go_s (pc' := 50) (st' := [.int 2, .ref 62]) rfl rfl rfl rfl ?_
        refine go_s (pc' := 51) rfl rfl rfl rfl ?_
        refine go_s (pc' := 52) (st' := [.int 2, .int 2, .int 2, .ref 62]) rfl rfl rfl rfl ?_
        refine go_s (pc' := 53) (st' := [.int 0, .int 2, .ref 62]) rfl rfl rfl rfl ?_
        refine go_s (pc' := 54) (st' := [.int 2, .ref 62]) rfl rfl rfl rfl ?_
        have hU236 : RU w B R [] true h230 am ln K ((mstI 1 (uI (uI (uI I 11 1 2) 12 1 (-1)) 40 1 0)), Q, Z) := RU_I (sm_e_refl (tbr am (13 * ln) 77 5088) _) (I' := (mstI 1 (uI (uI (uI I 11 1 2) 12 1 (-1)) 40 1 0))) (fun _ => rfl) (fun _ => rfl) (Nat.le_refl _) hU234
        refine go_callV (pc' := 55) rfl rfl rfl (Nat.le_of_ble_eq_true rfl) rfl (sm_o hS232 rfl) rfl rfl rfl (rs_cl hr hS232 hW (hW 77 (by decide) (by decide)) (r9 := 2) (by decide) (by decide) (by omega)) (fun r h237 q238 => ?_)
        obtain ⟨rfl, hS239, hE240⟩ := q238
        rw [clI_jn] at hS239
        obtain ⟨K9, eK9⟩ : ∃ z, z = clI K 2 424 := ⟨_, rfl⟩
        rw [← eK9] at hS239
        have f9 : rfr K K9 2 := by
          rw [eK9]
          exact clI_r (Nat.le_refl _)
        have z9 : ∀ j, j < 424 → K9 51 (424 * 2 + j) = 0 := fun j hj => by
          rw [eK9]
          exact cl_z hj
        have hR9 : RS K9 2 (fun _ => 0, [], []) := by
          rw [eK9]
          exact RS_cl
        refine go_s (pc' := 56) rfl rfl rfl rfl ?_
        refine go_ifP (t' := 61) (pc' := 57) rfl rfl rfl (fun _ => ?_) (fun (c : ¬ (¬ (1 : Int32) = 0)) => absurd (by decide) c)
        refine go_s (pc' := 62) rfl rfl rfl rfl ?_
        refine go_s (pc' := 63) rfl rfl rfl rfl ?_
        refine go_callV (pc' := 64) rfl rfl rfl (Nat.le_of_ble_eq_true rfl) rfl (sm_o hS239 rfl) rfl rfl rfl (rx_rT_1_2 hr hS239 hln hW ep235 (by omega)) (fun r h241 q242 => ?_)
        obtain ⟨rfl, hS243, hE244⟩ := q242
        have hE245 := sm_e_trans hE240 hE244
        have hU246 : RU w B R [] true h241 am ln (uI (uI K9 51 859 ((mstI 1 (uI (uI (uI I 11 1 2) 12 1 (-1)) 40 1 0)) 17 0 + 1)) 51 853 (-1)) ((uI (uI (mstI 1 (uI (uI (uI I 11 1 2) 12 1 (-1)) 40 1 0)) 17 0 ((mstI 1 (uI (uI (uI I 11 1 2) 12 1 (-1)) 40 1 0)) 17 0 + 1)) 18 0 0), Q, uZ Z 2 (rwT ((mstI 1 (uI (uI (uI I 11 1 2) 12 1 (-1)) 40 1 0)) 17 0 + 1))) := RU_row (K' := (uI (uI K9 51 859 ((mstI 1 (uI (uI (uI I 11 1 2) 12 1 (-1)) 40 1 0)) 17 0 + 1)) 51 853 (-1))) (s := (rwT ((mstI 1 (uI (uI (uI I 11 1 2) 12 1 (-1)) 40 1 0)) 17 0 + 1))) (by decide) (fun c j hc hn => by
          rw [← f9 c j hn]
          simp only [uI]
          rw [if_neg (by omega), if_neg (by omega)]) (⟨fun h => absurd h (by decide), fun _ j hj => by
          match j, hj with
          | 0, _ => (repeat (first | rw [uI_e (by decide)] | rw [uI_j (by decide)])) <;> first | rfl | exact z9 0 (by decide)
          | 1, _ => (repeat (first | rw [uI_e (by decide)] | rw [uI_j (by decide)])) <;> first | rfl | exact z9 1 (by decide)
          | 2, _ => (repeat (first | rw [uI_e (by decide)] | rw [uI_j (by decide)])) <;> first | rfl | exact z9 2 (by decide)
          | 3, _ => (repeat (first | rw [uI_e (by decide)] | rw [uI_j (by decide)])) <;> first | rfl | exact z9 3 (by decide)
          | 4, _ => (repeat (first | rw [uI_e (by decide)] | rw [uI_j (by decide)])) <;> first | rfl | exact z9 4 (by decide)
          | 5, _ => (repeat (first | rw [uI_e (by decide)] | rw [uI_j (by decide)])) <;> first | rfl | exact z9 5 (by decide)
          | 6, _ => (repeat (first | rw [uI_e (by decide)] | rw [uI_j (by decide)])) <;> first | rfl | exact z9 6 (by decide)
          | 7, _ => (repeat (first | rw [uI_e (by decide)] | rw [uI_j (by decide)])) <;> first | rfl | exact z9 7 (by decide)
          | 8, _ => (repeat (first | rw [uI_e (by decide)] | rw [uI_j (by decide)])) <;> first | rfl | exact z9 8 (by decide)
          | 9, _ => (repeat (first | rw [uI_e (by decide)] | rw [uI_j (by decide)])) <;> first | rfl | exact z9 9 (by decide)
          | 10, _ => (repeat (first | rw [uI_e (by decide)] | rw [uI_j (by decide)])) <;> first | rfl | exact z9 10 (by decide)
          | 11, _ => (repeat (first | rw [uI_e (by decide)] | rw [uI_j (by decide)])) <;> first | rfl | exact z9 11 (by decide)⟩) (RU_I hE245 (I' := (uI (uI (mstI 1 (uI (uI (uI I 11 1 2) 12 1 (-1)) 40 1 0)) 17 0 ((mstI 1 (uI (uI (uI I 11 1 2) 12 1 (-1)) 40 1 0)) 17 0 + 1)) 18 0 0)) (fun _ => rfl) (fun _ => rfl) (Nat.le_refl _) hU236)
        have hN : rrsN 1 (I, Q, Z) = ((uI (uI (mstI 1 (uI (uI (uI I 11 1 2) 12 1 (-1)) 40 1 0)) 17 0 ((mstI 1 (uI (uI (uI I 11 1 2) 12 1 (-1)) 40 1 0)) 17 0 + 1)) 18 0 0), Q, (uZ Z 2 (rwT ((mstI 1 (uI (uI (uI I 11 1 2) 12 1 (-1)) 40 1 0)) 17 0 + 1)))) := by
          unfold rrsN rrs1
          rw [if_neg (by decide), if_neg (by decide), show fup ((I, Q, Z) : mM).1 2 = 2 from hf]
          unfold rrsT
          rw [show rwi (((uI (uI (uI I 11 1 2) 12 1 (-1)) 40 1 0), Q, Z) : mM).1 1 = 2 from rwi_l (v := 2) rfl (by decide)]
          rw [uI_x (c := 18) (c' := 16) (by decide), uI_x (c := 17) (c' := 16) (by decide), show mstI 1 (uI (uI (uI I 11 1 2) 12 1 (-1)) 40 1 0) = uI (uI (uI (uI I 11 1 2) 12 1 (-1)) 40 1 0) 16 1 0 from if_neg (by decide)]
          rfl
        have hMN := MID_rN (k := 1) (by omega) hM (by decide) c218 (show ¬ fup I 2 = -1 by rw [hf]; decide) (fun z => absurd z (by decide))
        have hnc : ¬ (¬ ((I, Q, Z) : mM).1 11 1 = -1 ∨ fup ((I, Q, Z) : mM).1 (if 1 = 0 then 0 else 2) = -1 ∨ (1 = 0 ∧ chs ((I, Q, Z) : mM).1 = -1)) := fun z => z.elim (fun y => y c218) (fun z => z.elim (fun y => absurd (hf.symm.trans y) (by decide)) (fun y => absurd y.1 (by decide)))
        refine go_s (pc' := 65) rfl rfl rfl rfl ?_
        refine go_sget (pc' := 66) (v := .ref 63) hS243 rfl rfl rfl (by decide) rfl rfl ?_
        refine go_s (pc' := 67) rfl rfl rfl rfl ?_
        refine go_callS (pc' := 68) rfl rfl rfl (Nat.le_of_ble_eq_true rfl) rfl rfl rfl (rt_oh_2 (by omega)) (fun r h247 q248 => ?_)
        obtain ⟨rfl, rfl⟩ := q248
        refine go_sald (pc' := 69) (q := 3) (v := .int ((uI (uI (mstI 1 (uI (uI (uI I 11 1 2) 12 1 (-1)) 40 1 0)) 17 0 ((mstI 1 (uI (uI (uI I 11 1 2) 12 1 (-1)) 40 1 0)) 17 0 + 1)) 18 0 0) 0 3)) hS243 rfl (tr_s hr (a := 63) rfl (by decide)) rfl rfl (by decide) rfl rfl ?_
        refine go_ifP (t' := 73) (pc' := 70) rfl rfl rfl (fun (c249 : ((uI (uI (mstI 1 (uI (uI (uI I 11 1 2) 12 1 (-1)) 40 1 0)) 17 0 ((mstI 1 (uI (uI (uI I 11 1 2) 12 1 (-1)) 40 1 0)) 17 0 + 1)) 18 0 0) 0 3) = 0) => ?_) (fun (c249 : ¬ ((uI (uI (mstI 1 (uI (uI (uI I 11 1 2) 12 1 (-1)) 40 1 0)) 17 0 ((mstI 1 (uI (uI (uI I 11 1 2) 12 1 (-1)) 40 1 0)) 17 0 + 1)) 18 0 0) 0 3) = 0) => ?_)
        · skip
          refine go_ret rfl rfl ?_
          have hA250 : RA w B R [] true h247 ((uI (uI (mstI 1 (uI (uI (uI I 11 1 2) 12 1 (-1)) 40 1 0)) 17 0 ((mstI 1 (uI (uI (uI I 11 1 2) 12 1 (-1)) 40 1 0)) 17 0 + 1)) 18 0 0), Q, (uZ Z 2 (rwT ((mstI 1 (uI (uI (uI I 11 1 2) 12 1 (-1)) 40 1 0)) 17 0 + 1)))) := RA_u.mpr ⟨_, _, _, _, hS243, hU246⟩
          have hms : rrs 1 (I, Q, Z) = ((uI (uI (mstI 1 (uI (uI (uI I 11 1 2) 12 1 (-1)) 40 1 0)) 17 0 ((mstI 1 (uI (uI (uI I 11 1 2) 12 1 (-1)) 40 1 0)) 17 0 + 1)) 18 0 0), Q, (uZ Z 2 (rwT ((mstI 1 (uI (uI (uI I 11 1 2) 12 1 (-1)) 40 1 0)) 17 0 + 1)))) := by
            unfold rrs
            rw [if_neg hnc, hN, show ohn (((uI (uI (mstI 1 (uI (uI (uI I 11 1 2) 12 1 (-1)) 40 1 0)) 17 0 ((mstI 1 (uI (uI (uI I 11 1 2) 12 1 (-1)) 40 1 0)) 17 0 + 1)) 18 0 0), Q, (uZ Z 2 (rwT ((mstI 1 (uI (uI (uI I 11 1 2) 12 1 (-1)) 40 1 0)) 17 0 + 1)))) : mM).1 1 = 3 from ohn_l (v := 2) (show (uI (uI (mstI 1 (uI (uI (uI I 11 1 2) 12 1 (-1)) 40 1 0)) 17 0 ((mstI 1 (uI (uI (uI I 11 1 2) 12 1 (-1)) 40 1 0)) 17 0 + 1)) 18 0 0) 11 1 = 2 from ep235) (by decide)]
            exact if_pos c249
          rw [hms]
          exact ⟨rfl, RA_R (by omega) hA250⟩
        · skip
          refine go_s (pc' := 71) rfl rfl rfl rfl ?_
          refine go_s (pc' := 72) rfl rfl rfl rfl ?_
          have h5 : sq Q + hc [] true ≤ 5 := by
            have z := hMN.2
            rw [hN] at z
            have z2 : sq Q ≤ 5 := z
            have z3 : hc [] true = 0 := rfl
            omega
          have hU251 : RU w B R [] true h247 am ln (uI (uI K9 51 859 ((mstI 1 (uI (uI (uI I 11 1 2) 12 1 (-1)) 40 1 0)) 17 0 + 1)) 51 853 (-1)) ((uI (uI (mstI 1 (uI (uI (uI I 11 1 2) 12 1 (-1)) 40 1 0)) 17 0 ((mstI 1 (uI (uI (uI I 11 1 2) 12 1 (-1)) 40 1 0)) 17 0 + 1)) 18 0 0), Q, (uZ Z 2 (rwT ((mstI 1 (uI (uI (uI I 11 1 2) 12 1 (-1)) 40 1 0)) 17 0 + 1)))) := RU_I (sm_e_refl (tbr am (13 * ln) 77 5088) _) (I' := (uI (uI (mstI 1 (uI (uI (uI I 11 1 2) 12 1 (-1)) 40 1 0)) 17 0 ((mstI 1 (uI (uI (uI I 11 1 2) 12 1 (-1)) 40 1 0)) 17 0 + 1)) 18 0 0)) (fun _ => rfl) (fun _ => rfl) (Nat.le_refl _) hU246
          have hA252 : RA w B R [] true h247 ((uI (uI (mstI 1 (uI (uI (uI I 11 1 2) 12 1 (-1)) 40 1 0)) 17 0 ((mstI 1 (uI (uI (uI I 11 1 2) 12 1 (-1)) 40 1 0)) 17 0 + 1)) 18 0 0), Q, (uZ Z 2 (rwT ((mstI 1 (uI (uI (uI I 11 1 2) 12 1 (-1)) 40 1 0)) 17 0 + 1)))) := RA_u.mpr ⟨_, _, _, _, hS243, hU251⟩
          refine go_callV (pc' := 73) rfl rfl rfl (Nat.le_of_ble_eq_true rfl) rfl (sm_o hS243 rfl) rfl rfl rfl (ra_sc_1 hA252 (by omega) (Or.inr (Or.inl (show (uI (uI (mstI 1 (uI (uI (uI I 11 1 2) 12 1 (-1)) 40 1 0)) 17 0 ((mstI 1 (uI (uI (uI I 11 1 2) 12 1 (-1)) 40 1 0)) 17 0 + 1)) 18 0 0) 11 1 = 2 from ep235))) (fun z => absurd ((show (uI (uI (mstI 1 (uI (uI (uI I 11 1 2) 12 1 (-1)) 40 1 0)) 17 0 ((mstI 1 (uI (uI (uI I 11 1 2) 12 1 (-1)) 40 1 0)) 17 0 + 1)) 18 0 0) 11 1 = 2 from ep235).symm.trans z) (by decide)) h5 (by omega)) (fun r h253 q254 => ?_)
          obtain ⟨rfl, hA255⟩ := q254
          refine go_ret rfl rfl ?_
          have hms : rrs 1 (I, Q, Z) = rsc 1 ((uI (uI (mstI 1 (uI (uI (uI I 11 1 2) 12 1 (-1)) 40 1 0)) 17 0 ((mstI 1 (uI (uI (uI I 11 1 2) 12 1 (-1)) 40 1 0)) 17 0 + 1)) 18 0 0), Q, (uZ Z 2 (rwT ((mstI 1 (uI (uI (uI I 11 1 2) 12 1 (-1)) 40 1 0)) 17 0 + 1)))) := by
            unfold rrs
            rw [if_neg hnc, hN, show ohn (((uI (uI (mstI 1 (uI (uI (uI I 11 1 2) 12 1 (-1)) 40 1 0)) 17 0 ((mstI 1 (uI (uI (uI I 11 1 2) 12 1 (-1)) 40 1 0)) 17 0 + 1)) 18 0 0), Q, (uZ Z 2 (rwT ((mstI 1 (uI (uI (uI I 11 1 2) 12 1 (-1)) 40 1 0)) 17 0 + 1)))) : mM).1 1 = 3 from ohn_l (v := 2) (show (uI (uI (mstI 1 (uI (uI (uI I 11 1 2) 12 1 (-1)) 40 1 0)) 17 0 ((mstI 1 (uI (uI (uI I 11 1 2) 12 1 (-1)) 40 1 0)) 17 0 + 1)) 18 0 0) 11 1 = 2 from ep235) (by decide)]
            exact if_neg c249
          rw [hms]
          exact ⟨rfl, hA255⟩
theorem ra_rs_2 {w : Nat → Bool} {d B R : Nat} {h : am_Hp} {I : sm_I} {Q : mQ} {Z : mZ} (hA : RA w B R [] true h (I, Q, Z)) (hR : R + 1 < 40000) {X : Nat} (hM : MID X (I, Q, Z)) (hX : X + 60 < 2 ^ 28) (hd : 6 ≤ d) : am_Ev (am_prog w) d 170 [.ref 62, .int 2] h (fun r h' => r = none ∧ RA w B (R + 1) [] true h' (rrs 2 (I, Q, Z))) := by
  obtain ⟨K, Y, am, ln, hS, hU⟩ := RA_u.mp hA
  change sm (tbr am (13 * ln) 77 5088) h (jn I K) Y at hS
  obtain ⟨hW, hWm, -, -, hr, -⟩ := id hU.1
  have hln := RU_ln hU (by omega)
  obtain ⟨d, rfl⟩ : ∃ e, d = e + 1 := ⟨d - 1, by omega⟩
  refine ev_go rfl (Nat.le_of_ble_eq_true rfl) rfl ?_
  have hp0 : prk I 0 := (hM.2.2.1 0 (by decide)).1
  have hp1 : prk I 1 := (hM.2.2.1 1 (by decide)).1
  have hp2 : prk I 2 := (hM.2.2.1 2 (by decide)).1
  by_cases u0 : I 0 2 = 0
  · skip
    by_cases u1 : I 0 3 = 0
    · skip
      have hf : fup I 2 = -1 := (if_pos u0).trans (if_pos u1)
      refine go_s (pc' := 1) rfl rfl rfl rfl ?_
      refine go_s (pc' := 2) rfl rfl rfl rfl ?_
      refine go_callV (pc' := 3) rfl rfl rfl (Nat.le_of_ble_eq_true rfl) rfl (sm_o hS rfl) rfl rfl rfl (rt_fh_2 hr hS (by omega)) (fun r h1 q2 => ?_)
      obtain ⟨rfl, rfl⟩ := q2
      rw [show fup (jn I K) 2 = (-1) from hf]
      show am_Go _ _ _ _ 3 _ [.int (-1)] _ _
      refine go_s (pc' := 4) (lo' := [some (.ref 62), some (.int 2), some (.int (-1)), none]) rfl rfl rfl rfl ?_
      refine go_s (pc' := 5) rfl rfl rfl rfl ?_
      refine go_s (pc' := 6) (st' := [.int 0, .ref 62]) rfl rfl rfl rfl ?_
      refine go_callV (pc' := 7) rfl rfl rfl (Nat.le_of_ble_eq_true rfl) rfl (sm_o hS rfl) rfl rfl rfl (rt_us_0 hr hS (by omega)) (fun r h3 q4 => ?_)
      obtain ⟨rfl, rfl⟩ := q4
      rw [show us (jn I K) 0 = us I 0 from rfl]
      cases u5 : us I 0
      · skip
        show am_Go _ _ _ _ 7 _ [.int 0] _ _
        refine go_ifP (t' := 10) (pc' := 8) rfl rfl rfl (fun _ => ?_) (fun (c : ¬ ((0 : Int32) = 0)) => absurd (by decide) c)
        refine go_s (pc' := 11) rfl rfl rfl rfl ?_
        refine go_s (pc' := 12) (st' := [.int 1, .ref 62]) rfl rfl rfl rfl ?_
        refine go_callV (pc' := 13) rfl rfl rfl (Nat.le_of_ble_eq_true rfl) rfl (sm_o hS rfl) rfl rfl rfl (rt_us_1 hr hS (by omega)) (fun r h6 q7 => ?_)
        obtain ⟨rfl, rfl⟩ := q7
        rw [show us (jn I K) 1 = us I 1 from rfl]
        cases u8 : us I 1
        · skip
          show am_Go _ _ _ _ 13 _ [.int 0] _ _
          refine go_ifP (t' := 16) (pc' := 14) rfl rfl rfl (fun _ => ?_) (fun (c : ¬ ((0 : Int32) = 0)) => absurd (by decide) c)
          refine go_s (pc' := 17) (st' := [.int (-1)]) rfl rfl rfl rfl ?_
          refine go_s (pc' := 18) (lo' := [some (.ref 62), some (.int 2), some (.int (-1)), some (.int (-1))]) rfl rfl rfl rfl ?_
          refine go_s (pc' := 19) rfl rfl rfl rfl ?_
          refine go_sget (pc' := 20) (v := .ref 78) hS rfl rfl rfl (by decide) rfl rfl ?_
          refine go_s (pc' := 21) rfl rfl rfl rfl ?_
          refine go_sald (pc' := 22) (q := 2) (v := .int (I 11 2)) hS rfl (tr_s hr (a := 78) rfl (by decide)) rfl rfl (by decide) rfl rfl ?_
          refine go_s (pc' := 23) (st' := [.int (-1), .int (I 11 2)]) rfl rfl rfl rfl ?_
          refine go_icmpP (t' := 32) (pc' := 24) rfl rfl rfl (fun (c9 : ¬ (I 11 2) = (-1)) => ?_) (fun (c9' : ¬ ¬ (I 11 2) = (-1)) => ?_)
          · skip
            refine go_ret rfl rfl ?_
            have hms : rrs 2 (I, Q, Z) = (I, Q, Z) := if_pos (Or.inl c9)
            rw [hms]
            exact ⟨rfl, RA_R (by omega) hA⟩
          · skip
            have c9 : (I 11 2) = (-1) := Decidable.not_not.mp c9'
            refine go_s (pc' := 25) rfl rfl rfl rfl ?_
            refine go_s (pc' := 26) (st' := [.int (-1), .int (-1)]) rfl rfl rfl rfl ?_
            refine go_icmpP (t' := 32) (pc' := 27) rfl rfl rfl (fun _ => ?_) (fun (c : ¬ (((-1) : Int32) = (-1))) => absurd (by decide) c)
            refine go_ret rfl rfl ?_
            have hms : rrs 2 (I, Q, Z) = (I, Q, Z) := if_pos (Or.inr (Or.inl hf))
            rw [hms]
            exact ⟨rfl, RA_R (by omega) hA⟩
        · skip
          show am_Go _ _ _ _ 13 _ [.int 1] _ _
          refine go_ifP (t' := 16) (pc' := 14) rfl rfl rfl (fun (c : (1 : Int32) = 0) => absurd c (by decide)) (fun _ => ?_)
          refine go_s (pc' := 15) (st' := [.int 1]) rfl rfl rfl rfl ?_
          refine go_s (pc' := 17) rfl rfl rfl rfl ?_
          refine go_s (pc' := 18) (lo' := [some (.ref 62), some (.int 2), some (.int (-1)), some (.int 1)]) rfl rfl rfl rfl ?_
          refine go_s (pc' := 19) rfl rfl rfl rfl ?_
          refine go_sget (pc' := 20) (v := .ref 78) hS rfl rfl rfl (by decide) rfl rfl ?_
          refine go_s (pc' := 21) rfl rfl rfl rfl ?_
          refine go_sald (pc' := 22) (q := 2) (v := .int (I 11 2)) hS rfl (tr_s hr (a := 78) rfl (by decide)) rfl rfl (by decide) rfl rfl ?_
          refine go_s (pc' := 23) (st' := [.int (-1), .int (I 11 2)]) rfl rfl rfl rfl ?_
          refine go_icmpP (t' := 32) (pc' := 24) rfl rfl rfl (fun (c10 : ¬ (I 11 2) = (-1)) => ?_) (fun (c10' : ¬ ¬ (I 11 2) = (-1)) => ?_)
          · skip
            refine go_ret rfl rfl ?_
            have hms : rrs 2 (I, Q, Z) = (I, Q, Z) := if_pos (Or.inl c10)
            rw [hms]
            exact ⟨rfl, RA_R (by omega) hA⟩
          · skip
            have c10 : (I 11 2) = (-1) := Decidable.not_not.mp c10'
            refine go_s (pc' := 25) rfl rfl rfl rfl ?_
            refine go_s (pc' := 26) (st' := [.int (-1), .int (-1)]) rfl rfl rfl rfl ?_
            refine go_icmpP (t' := 32) (pc' := 27) rfl rfl rfl (fun _ => ?_) (fun (c : ¬ (((-1) : Int32) = (-1))) => absurd (by decide) c)
            refine go_ret rfl rfl ?_
            have hms : rrs 2 (I, Q, Z) = (I, Q, Z) := if_pos (Or.inr (Or.inl hf))
            rw [hms]
            exact ⟨rfl, RA_R (by omega) hA⟩
      · skip
        show am_Go _ _ _ _ 7 _ [.int 1] _ _
        refine go_ifP (t' := 10) (pc' := 8) rfl rfl rfl (fun (c : (1 : Int32) = 0) => absurd c (by decide)) (fun _ => ?_)
        refine go_s (pc' := 9) (st' := [.int 0]) rfl rfl rfl rfl ?_
        refine go_s (pc' := 17) rfl rfl rfl rfl ?_
        refine go_s (pc' := 18) (lo' := [some (.ref 62), some (.int 2), some (.int (-1)), some (.int 0)]) rfl rfl rfl rfl ?_
        refine go_s (pc' := 19) rfl rfl rfl rfl ?_
        refine go_sget (pc' := 20) (v := .ref 78) hS rfl rfl rfl (by decide) rfl rfl ?_
        refine go_s (pc' := 21) rfl rfl rfl rfl ?_
        refine go_sald (pc' := 22) (q := 2) (v := .int (I 11 2)) hS rfl (tr_s hr (a := 78) rfl (by decide)) rfl rfl (by decide) rfl rfl ?_
        refine go_s (pc' := 23) (st' := [.int (-1), .int (I 11 2)]) rfl rfl rfl rfl ?_
        refine go_icmpP (t' := 32) (pc' := 24) rfl rfl rfl (fun (c11 : ¬ (I 11 2) = (-1)) => ?_) (fun (c11' : ¬ ¬ (I 11 2) = (-1)) => ?_)
        · skip
          refine go_ret rfl rfl ?_
          have hms : rrs 2 (I, Q, Z) = (I, Q, Z) := if_pos (Or.inl c11)
          rw [hms]
          exact ⟨rfl, RA_R (by omega) hA⟩
        · skip
          have c11 : (I 11 2) = (-1) := Decidable.not_not.mp c11'
          refine go_s (pc' := 25) rfl rfl rfl rfl ?_
          refine go_s (pc' := 26) (st' := [.int (-1), .int (-1)]) rfl rfl rfl rfl ?_
          refine go_icmpP (t' := 32) (pc' := 27) rfl rfl rfl (fun _ => ?_) (fun (c : ¬ (((-1) : Int32) = (-1))) => absurd (by decide) c)
          refine go_ret rfl rfl ?_
          have hms : rrs 2 (I, Q, Z) = (I, Q, Z) := if_pos (Or.inr (Or.inl hf))
          rw [hms]
          exact ⟨rfl, RA_R (by omega) hA⟩
    · skip
      have hf : fup I 2 = 3 := (if_pos u0).trans (if_neg u1)
      refine go_s (pc' := 1) rfl rfl rfl rfl ?_
      refine go_s (pc' := 2) rfl rfl rfl rfl ?_
      refine go_callV (pc' := 3) rfl rfl rfl (Nat.le_of_ble_eq_true rfl) rfl (sm_o hS rfl) rfl rfl rfl (rt_fh_2 hr hS (by omega)) (fun r h12 q13 => ?_)
      obtain ⟨rfl, rfl⟩ := q13
      rw [show fup (jn I K) 2 = 3 from hf]
      show am_Go _ _ _ _ 3 _ [.int 3] _ _
      refine go_s (pc' := 4) (lo' := [some (.ref 62), some (.int 2), some (.int 3), none]) rfl rfl rfl rfl ?_
      refine go_s (pc' := 5) rfl rfl rfl rfl ?_
      refine go_s (pc' := 6) (st' := [.int 0, .ref 62]) rfl rfl rfl rfl ?_
      refine go_callV (pc' := 7) rfl rfl rfl (Nat.le_of_ble_eq_true rfl) rfl (sm_o hS rfl) rfl rfl rfl (rt_us_0 hr hS (by omega)) (fun r h14 q15 => ?_)
      obtain ⟨rfl, rfl⟩ := q15
      rw [show us (jn I K) 0 = us I 0 from rfl]
      cases u16 : us I 0
      · skip
        show am_Go _ _ _ _ 7 _ [.int 0] _ _
        refine go_ifP (t' := 10) (pc' := 8) rfl rfl rfl (fun _ => ?_) (fun (c : ¬ ((0 : Int32) = 0)) => absurd (by decide) c)
        refine go_s (pc' := 11) rfl rfl rfl rfl ?_
        refine go_s (pc' := 12) (st' := [.int 1, .ref 62]) rfl rfl rfl rfl ?_
        refine go_callV (pc' := 13) rfl rfl rfl (Nat.le_of_ble_eq_true rfl) rfl (sm_o hS rfl) rfl rfl rfl (rt_us_1 hr hS (by omega)) (fun r h17 q18 => ?_)
        obtain ⟨rfl, rfl⟩ := q18
        rw [show us (jn I K) 1 = us I 1 from rfl]
        cases u19 : us I 1
        · skip
          show am_Go _ _ _ _ 13 _ [.int 0] _ _
          refine go_ifP (t' := 16) (pc' := 14) rfl rfl rfl (fun _ => ?_) (fun (c : ¬ ((0 : Int32) = 0)) => absurd (by decide) c)
          refine go_s (pc' := 17) (st' := [.int (-1)]) rfl rfl rfl rfl ?_
          refine go_s (pc' := 18) (lo' := [some (.ref 62), some (.int 2), some (.int 3), some (.int (-1))]) rfl rfl rfl rfl ?_
          refine go_s (pc' := 19) rfl rfl rfl rfl ?_
          refine go_sget (pc' := 20) (v := .ref 78) hS rfl rfl rfl (by decide) rfl rfl ?_
          refine go_s (pc' := 21) rfl rfl rfl rfl ?_
          refine go_sald (pc' := 22) (q := 2) (v := .int (I 11 2)) hS rfl (tr_s hr (a := 78) rfl (by decide)) rfl rfl (by decide) rfl rfl ?_
          refine go_s (pc' := 23) (st' := [.int (-1), .int (I 11 2)]) rfl rfl rfl rfl ?_
          refine go_icmpP (t' := 32) (pc' := 24) rfl rfl rfl (fun (c20 : ¬ (I 11 2) = (-1)) => ?_) (fun (c20' : ¬ ¬ (I 11 2) = (-1)) => ?_)
          · skip
            refine go_ret rfl rfl ?_
            have hms : rrs 2 (I, Q, Z) = (I, Q, Z) := if_pos (Or.inl c20)
            rw [hms]
            exact ⟨rfl, RA_R (by omega) hA⟩
          · skip
            have c20 : (I 11 2) = (-1) := Decidable.not_not.mp c20'
            refine go_s (pc' := 25) rfl rfl rfl rfl ?_
            refine go_s (pc' := 26) (st' := [.int (-1), .int 3]) rfl rfl rfl rfl ?_
            refine go_icmpP (t' := 32) (pc' := 27) rfl rfl rfl (fun (c : (3 : Int32) = (-1)) => absurd c (by decide)) (fun _ => ?_)
            refine go_s (pc' := 28) rfl rfl rfl rfl ?_
            refine go_ifP (t' := 33) (pc' := 29) rfl rfl rfl (fun _ => ?_) (fun (c : ¬ (¬ (2 : Int32) = 0)) => absurd (by decide) c)
            refine go_s (pc' := 34) rfl rfl rfl rfl ?_
            refine go_sget (pc' := 35) (v := .ref 78) hS rfl rfl rfl (by decide) rfl rfl ?_
            refine go_s (pc' := 36) rfl rfl rfl rfl ?_
            refine go_s (pc' := 37) rfl rfl rfl rfl ?_
            refine go_siast (pc' := 38) (q := 2) hS rfl (tr_s hr (a := 78) rfl (by decide)) tbr_inj (Nat.le_of_ble_eq_true rfl) rfl (by decide) (by decide) (hW _ (by decide) (by decide)) rfl (fun h21 hS22 hE23 => ?_)
            refine go_s (pc' := 39) rfl rfl rfl rfl ?_
            refine go_sget (pc' := 40) (v := .ref 79) hS22 rfl rfl rfl (by decide) rfl rfl ?_
            refine go_s (pc' := 41) rfl rfl rfl rfl ?_
            refine go_s (pc' := 42) (st' := [.int (-1), .int 2, .ref 79]) rfl rfl rfl rfl ?_
            refine go_siast (pc' := 43) (q := 2) hS22 rfl (tr_s hr (a := 79) rfl (by decide)) tbr_inj (Nat.le_of_ble_eq_true rfl) rfl (by decide) (by decide) (hW _ (by decide) (by decide)) rfl (fun h24 hS25 hE26 => ?_)
            have hE27 := sm_e_trans hE23 hE26
            change sm (tbr am (13 * ln) 77 5088) _ (uI (uI (jn I K) 11 2 3) 12 2 (-1)) Y at hS25
            rw [jn_lo (c := 11) (by decide), jn_lo (c := 12) (by decide)] at hS25
            have hU28 : RU w B R [] true h24 am ln K ((uI (uI I 11 2 3) 12 2 (-1)), Q, Z) := RU_I (hE27) (I' := (uI (uI I 11 2 3) 12 2 (-1))) (fun _ => rfl) (fun _ => rfl) (Nat.le_refl _) hU
            have hS29 : sm (tbr am (13 * ln) 77 5088) _ (jn (uI (uI (uI I 11 2 3) 12 2 (-1)) 40 2 0) K) Y := sm_jg hr hS25 (fun c j _ n1 n2 n3 => uI_c n3)
            have hU30 : RU w B R [] true h24 am ln K ((uI (uI (uI I 11 2 3) 12 2 (-1)) 40 2 0), Q, Z) := RU_I (sm_e_refl (tbr am (13 * ln) 77 5088) _) (fun _ => rfl) (fun _ => rfl) (Nat.le_refl _) hU28
            refine go_s (pc' := 44) rfl rfl rfl rfl ?_
            refine go_s (pc' := 45) rfl rfl rfl rfl ?_
            have hU31 : RU w B R [] true h24 am ln K ((uI (uI (uI I 11 2 3) 12 2 (-1)) 40 2 0), Q, Z) := RU_I (sm_e_refl (tbr am (13 * ln) 77 5088) _) (I' := (uI (uI (uI I 11 2 3) 12 2 (-1)) 40 2 0)) (fun _ => rfl) (fun _ => rfl) (Nat.le_refl _) hU30
            refine go_callV (pc' := 46) rfl rfl rfl (Nat.le_of_ble_eq_true rfl) rfl (sm_o hS29 rfl) rfl rfl rfl (rt_stops_2 hr hS29 hW (by omega)) (fun r h32 q33 => ?_)
            obtain ⟨rfl, hS34, hE35⟩ := q33
            change sm (tbr am (13 * ln) 77 5088) _ (mstI 2 (jn (uI (uI (uI I 11 2 3) 12 2 (-1)) 40 2 0) K)) Y at hS34
            rw [mst_jn] at hS34
            have hU36 : RU w B R [] true h32 am ln K ((mstI 2 (uI (uI (uI I 11 2 3) 12 2 (-1)) 40 2 0)), Q, Z) := RU_I hE35 mst_24 mst_25 mst_stn hU31
            have ep37 : (mstI 2 (uI (uI (uI I 11 2 3) 12 2 (-1)) 40 2 0)) 11 2 = 3 := (congrFun mst_11 2).trans (show (uI (uI (uI I 11 2 3) 12 2 (-1)) 40 2 0) 11 2 = 3 from rfl)
            refine go_s (pc' := 47) rfl rfl rfl rfl ?_
            refine go_s (pc' := 48) (st' := [.int 2, .ref 62]) rfl rfl rfl rfl ?_
            refine go_s (pc' := 49) rfl rfl rfl rfl ?_
            refine go_s (pc' := 50) (st' := [.int 4, .ref 62]) rfl rfl rfl rfl ?_
            refine go_s (pc' := 51) rfl rfl rfl rfl ?_
            refine go_s (pc' := 52) (st' := [.int 2, .int 3, .int 4, .ref 62]) rfl rfl rfl rfl ?_
            refine go_s (pc' := 53) (st' := [.int 1, .int 4, .ref 62]) rfl rfl rfl rfl ?_
            refine go_s (pc' := 54) (st' := [.int 5, .ref 62]) rfl rfl rfl rfl ?_
            have hU38 : RU w B R [] true h32 am ln K ((mstI 2 (uI (uI (uI I 11 2 3) 12 2 (-1)) 40 2 0)), Q, Z) := RU_I (sm_e_refl (tbr am (13 * ln) 77 5088) _) (I' := (mstI 2 (uI (uI (uI I 11 2 3) 12 2 (-1)) 40 2 0))) (fun _ => rfl) (fun _ => rfl) (Nat.le_refl _) hU36
            refine go_callV (pc' := 55) rfl rfl rfl (Nat.le_of_ble_eq_true rfl) rfl (sm_o hS34 rfl) rfl rfl rfl (rs_cl hr hS34 hW (hW 77 (by decide) (by decide)) (r9 := 5) (by decide) (by decide) (by omega)) (fun r h39 q40 => ?_)
            obtain ⟨rfl, hS41, hE42⟩ := q40
            rw [clI_jn] at hS41
            obtain ⟨K9, eK9⟩ : ∃ z, z = clI K 5 424 := ⟨_, rfl⟩
            rw [← eK9] at hS41
            have f9 : rfr K K9 5 := by
              rw [eK9]
              exact clI_r (Nat.le_refl _)
            have z9 : ∀ j, j < 424 → K9 51 (424 * 5 + j) = 0 := fun j hj => by
              rw [eK9]
              exact cl_z hj
            have hR9 : RS K9 5 (fun _ => 0, [], []) := by
              rw [eK9]
              exact RS_cl
            refine go_s (pc' := 56) rfl rfl rfl rfl ?_
            refine go_ifP (t' := 61) (pc' := 57) rfl rfl rfl (fun _ => ?_) (fun (c : ¬ (¬ (2 : Int32) = 0)) => absurd (by decide) c)
            refine go_s (pc' := 62) rfl rfl rfl rfl ?_
            refine go_s (pc' := 63) rfl rfl rfl rfl ?_
            refine go_callV (pc' := 64) rfl rfl rfl (Nat.le_of_ble_eq_true rfl) rfl (sm_o hS41 rfl) rfl rfl rfl (rx_rT_2_3 hr hS41 hln hW ep37 (by omega)) (fun r h43 q44 => ?_)
            obtain ⟨rfl, hS45, hE46⟩ := q44
            have hE47 := sm_e_trans hE42 hE46
            have hU48 : RU w B R [] true h43 am ln (uI (uI K9 51 2131 ((mstI 2 (uI (uI (uI I 11 2 3) 12 2 (-1)) 40 2 0)) 17 1 + 1)) 51 2125 (-1)) ((uI (uI (mstI 2 (uI (uI (uI I 11 2 3) 12 2 (-1)) 40 2 0)) 17 1 ((mstI 2 (uI (uI (uI I 11 2 3) 12 2 (-1)) 40 2 0)) 17 1 + 1)) 18 1 0), Q, uZ Z 5 (rwT ((mstI 2 (uI (uI (uI I 11 2 3) 12 2 (-1)) 40 2 0)) 17 1 + 1))) := RU_row (K' := (uI (uI K9 51 2131 ((mstI 2 (uI (uI (uI I 11 2 3) 12 2 (-1)) 40 2 0)) 17 1 + 1)) 51 2125 (-1))) (s := (rwT ((mstI 2 (uI (uI (uI I 11 2 3) 12 2 (-1)) 40 2 0)) 17 1 + 1))) (by decide) (fun c j hc hn => by
              rw [← f9 c j hn]
              simp only [uI]
              rw [if_neg (by omega), if_neg (by omega)]) (⟨fun h => absurd h (by decide), fun _ j hj => by
              match j, hj with
              | 0, _ => (repeat (first | rw [uI_e (by decide)] | rw [uI_j (by decide)])) <;> first | rfl | exact z9 0 (by decide)
              | 1, _ => (repeat (first | rw [uI_e (by decide)] | rw [uI_j (by decide)])) <;> first | rfl | exact z9 1 (by decide)
              | 2, _ => (repeat (first | rw [uI_e (by decide)] | rw [uI_j (by decide)])) <;> first | rfl | exact z9 2 (by decide)
              | 3, _ => (repeat (first | rw [uI_e (by decide)] | rw [uI_j (by decide)])) <;> first | rfl | exact z9 3 (by decide)
              | 4, _ => (repeat (first | rw [uI_e (by decide)] | rw [uI_j (by decide)])) <;> first | rfl | exact z9 4 (by decide)
              | 5, _ => (repeat (first | rw [uI_e (by decide)] | rw [uI_j (by decide)])) <;> first | rfl | exact z9 5 (by decide)
              | 6, _ => (repeat (first | rw [uI_e (by decide)] | rw [uI_j (by decide)])) <;> first | rfl | exact z9 6 (by decide)
              | 7, _ => (repeat (first | rw [uI_e (by decide)] | rw [uI_j (by decide)])) <;> first | rfl | exact z9 7 (by decide)
              | 8, _ => (repeat (first | rw [uI_e (by decide)] | rw [uI_j (by decide)])) <;> first | rfl | exact z9 8 (by decide)
              | 9, _ => (repeat (first | rw [uI_e (by decide)] | rw [uI_j (by decide)])) <;> first | rfl | exact z9 9 (by decide)
              | 10, _ => (repeat (first | rw [uI_e (by decide)] | rw [uI_j (by decide)])) <;> first | rfl | exact z9 10 (by decide)
              | 11, _ => (repeat (first | rw [uI_e (by decide)] | rw [uI_j (by decide)])) <;> first | rfl | exact z9 11 (by decide)⟩) (RU_I hE47 (I' := (uI (uI (mstI 2 (uI (uI (uI I 11 2 3) 12 2 (-1)) 40 2 0)) 17 1 ((mstI 2 (uI (uI (uI I 11 2 3) 12 2 (-1)) 40 2 0)) 17 1 + 1)) 18 1 0)) (fun _ => rfl) (fun _ => rfl) (Nat.le_refl _) hU38)
            have hN : rrsN 2 (I, Q, Z) = ((uI (uI (mstI 2 (uI (uI (uI I 11 2 3) 12 2 (-1)) 40 2 0)) 17 1 ((mstI 2 (uI (uI (uI I 11 2 3) 12 2 (-1)) 40 2 0)) 17 1 + 1)) 18 1 0), Q, (uZ Z 5 (rwT ((mstI 2 (uI (uI (uI I 11 2 3) 12 2 (-1)) 40 2 0)) 17 1 + 1)))) := by
              unfold rrsN rrs1
              rw [if_neg (by decide), if_neg (by decide), show fup ((I, Q, Z) : mM).1 2 = 3 from hf]
              unfold rrsT
              rw [show rwi (((uI (uI (uI I 11 2 3) 12 2 (-1)) 40 2 0), Q, Z) : mM).1 2 = 5 from rwi_l (v := 3) rfl (by decide)]
              rw [uI_x (c := 18) (c' := 16) (by decide), uI_x (c := 17) (c' := 16) (by decide), show mstI 2 (uI (uI (uI I 11 2 3) 12 2 (-1)) 40 2 0) = uI (uI (uI (uI I 11 2 3) 12 2 (-1)) 40 2 0) 16 2 0 from if_neg (by decide)]
              rfl
            have hMN := MID_rN (k := 2) (by omega) hM (by decide) c20 (show ¬ fup I 2 = -1 by rw [hf]; decide) (fun z => absurd z (by decide))
            have hnc : ¬ (¬ ((I, Q, Z) : mM).1 11 2 = -1 ∨ fup ((I, Q, Z) : mM).1 (if 2 = 0 then 0 else 2) = -1 ∨ (2 = 0 ∧ chs ((I, Q, Z) : mM).1 = -1)) := fun z => z.elim (fun y => y c20) (fun z => z.elim (fun y => absurd (hf.symm.trans y) (by decide)) (fun y => absurd y.1 (by decide)))
            refine go_s (pc' := 65) rfl rfl rfl rfl ?_
            refine go_sget (pc' := 66) (v := .ref 63) hS45 rfl rfl rfl (by decide) rfl rfl ?_
            refine go_s (pc' := 67) rfl rfl rfl rfl ?_
            refine go_callS (pc' := 68) rfl rfl rfl (Nat.le_of_ble_eq_true rfl) rfl rfl rfl (rt_oh_3 (by omega)) (fun r h49 q50 => ?_)
            obtain ⟨rfl, rfl⟩ := q50
            refine go_sald (pc' := 69) (q := 2) (v := .int ((uI (uI (mstI 2 (uI (uI (uI I 11 2 3) 12 2 (-1)) 40 2 0)) 17 1 ((mstI 2 (uI (uI (uI I 11 2 3) 12 2 (-1)) 40 2 0)) 17 1 + 1)) 18 1 0) 0 2)) hS45 rfl (tr_s hr (a := 63) rfl (by decide)) rfl rfl (by decide) rfl rfl ?_
            refine go_ifP (t' := 73) (pc' := 70) rfl rfl rfl (fun (c51 : ((uI (uI (mstI 2 (uI (uI (uI I 11 2 3) 12 2 (-1)) 40 2 0)) 17 1 ((mstI 2 (uI (uI (uI I 11 2 3) 12 2 (-1)) 40 2 0)) 17 1 + 1)) 18 1 0) 0 2) = 0) => ?_) (fun (c51 : ¬ ((uI (uI (mstI 2 (uI (uI (uI I 11 2 3) 12 2 (-1)) 40 2 0)) 17 1 ((mstI 2 (uI (uI (uI I 11 2 3) 12 2 (-1)) 40 2 0)) 17 1 + 1)) 18 1 0) 0 2) = 0) => ?_)
            · skip
              refine go_ret rfl rfl ?_
              have hA52 : RA w B R [] true h49 ((uI (uI (mstI 2 (uI (uI (uI I 11 2 3) 12 2 (-1)) 40 2 0)) 17 1 ((mstI 2 (uI (uI (uI I 11 2 3) 12 2 (-1)) 40 2 0)) 17 1 + 1)) 18 1 0), Q, (uZ Z 5 (rwT ((mstI 2 (uI (uI (uI I 11 2 3) 12 2 (-1)) 40 2 0)) 17 1 + 1)))) := RA_u.mpr ⟨_, _, _, _, hS45, hU48⟩
              have hms : rrs 2 (I, Q, Z) = ((uI (uI (mstI 2 (uI (uI (uI I 11 2 3) 12 2 (-1)) 40 2 0)) 17 1 ((mstI 2 (uI (uI (uI I 11 2 3) 12 2 (-1)) 40 2 0)) 17 1 + 1)) 18 1 0), Q, (uZ Z 5 (rwT ((mstI 2 (uI (uI (uI I 11 2 3) 12 2 (-1)) 40 2 0)) 17 1 + 1)))) := by
                unfold rrs
                rw [if_neg hnc, hN, show ohn (((uI (uI (mstI 2 (uI (uI (uI I 11 2 3) 12 2 (-1)) 40 2 0)) 17 1 ((mstI 2 (uI (uI (uI I 11 2 3) 12 2 (-1)) 40 2 0)) 17 1 + 1)) 18 1 0), Q, (uZ Z 5 (rwT ((mstI 2 (uI (uI (uI I 11 2 3) 12 2 (-1)) 40 2 0)) 17 1 + 1)))) : mM).1 2 = 2 from ohn_l (v := 3) (show (uI (uI (mstI 2 (uI (uI (uI I 11 2 3) 12 2 (-1)) 40 2 0)) 17 1 ((mstI 2 (uI (uI (uI I 11 2 3) 12 2 (-1)) 40 2 0)) 17 1 + 1)) 18 1 0) 11 2 = 3 from ep37) (by decide)]
                exact if_pos c51
              rw [hms]
              exact ⟨rfl, RA_R (by omega) hA52⟩
            · skip
              refine go_s (pc' := 71) rfl rfl rfl rfl ?_
              refine go_s (pc' := 72) rfl rfl rfl rfl ?_
              have h5 : sq Q + hc [] true ≤ 5 := by
                have z := hMN.2
                rw [hN] at z
                have z2 : sq Q ≤ 5 := z
                have z3 : hc [] true = 0 := rfl
                omega
              have hU53 : RU w B R [] true h49 am ln (uI (uI K9 51 2131 ((mstI 2 (uI (uI (uI I 11 2 3) 12 2 (-1)) 40 2 0)) 17 1 + 1)) 51 2125 (-1)) ((uI (uI (mstI 2 (uI (uI (uI I 11 2 3) 12 2 (-1)) 40 2 0)) 17 1 ((mstI 2 (uI (uI (uI I 11 2 3) 12 2 (-1)) 40 2 0)) 17 1 + 1)) 18 1 0), Q, (uZ Z 5 (rwT ((mstI 2 (uI (uI (uI I 11 2 3) 12 2 (-1)) 40 2 0)) 17 1 + 1)))) := RU_I (sm_e_refl (tbr am (13 * ln) 77 5088) _) (I' := (uI (uI (mstI 2 (uI (uI (uI I 11 2 3) 12 2 (-1)) 40 2 0)) 17 1 ((mstI 2 (uI (uI (uI I 11 2 3) 12 2 (-1)) 40 2 0)) 17 1 + 1)) 18 1 0)) (fun _ => rfl) (fun _ => rfl) (Nat.le_refl _) hU48
              have hA54 : RA w B R [] true h49 ((uI (uI (mstI 2 (uI (uI (uI I 11 2 3) 12 2 (-1)) 40 2 0)) 17 1 ((mstI 2 (uI (uI (uI I 11 2 3) 12 2 (-1)) 40 2 0)) 17 1 + 1)) 18 1 0), Q, (uZ Z 5 (rwT ((mstI 2 (uI (uI (uI I 11 2 3) 12 2 (-1)) 40 2 0)) 17 1 + 1)))) := RA_u.mpr ⟨_, _, _, _, hS45, hU53⟩
              refine go_callV (pc' := 73) rfl rfl rfl (Nat.le_of_ble_eq_true rfl) rfl (sm_o hS45 rfl) rfl rfl rfl (ra_sc_2 hA54 (by omega) (Or.inr (Or.inr (show (uI (uI (mstI 2 (uI (uI (uI I 11 2 3) 12 2 (-1)) 40 2 0)) 17 1 ((mstI 2 (uI (uI (uI I 11 2 3) 12 2 (-1)) 40 2 0)) 17 1 + 1)) 18 1 0) 11 2 = 3 from ep37))) (fun z => absurd ((show (uI (uI (mstI 2 (uI (uI (uI I 11 2 3) 12 2 (-1)) 40 2 0)) 17 1 ((mstI 2 (uI (uI (uI I 11 2 3) 12 2 (-1)) 40 2 0)) 17 1 + 1)) 18 1 0) 11 2 = 3 from ep37).symm.trans z) (by decide)) h5 (by omega)) (fun r h55 q56 => ?_)
              obtain ⟨rfl, hA57⟩ := q56
              refine go_ret rfl rfl ?_
              have hms : rrs 2 (I, Q, Z) = rsc 2 ((uI (uI (mstI 2 (uI (uI (uI I 11 2 3) 12 2 (-1)) 40 2 0)) 17 1 ((mstI 2 (uI (uI (uI I 11 2 3) 12 2 (-1)) 40 2 0)) 17 1 + 1)) 18 1 0), Q, (uZ Z 5 (rwT ((mstI 2 (uI (uI (uI I 11 2 3) 12 2 (-1)) 40 2 0)) 17 1 + 1)))) := by
                unfold rrs
                rw [if_neg hnc, hN, show ohn (((uI (uI (mstI 2 (uI (uI (uI I 11 2 3) 12 2 (-1)) 40 2 0)) 17 1 ((mstI 2 (uI (uI (uI I 11 2 3) 12 2 (-1)) 40 2 0)) 17 1 + 1)) 18 1 0), Q, (uZ Z 5 (rwT ((mstI 2 (uI (uI (uI I 11 2 3) 12 2 (-1)) 40 2 0)) 17 1 + 1)))) : mM).1 2 = 2 from ohn_l (v := 3) (show (uI (uI (mstI 2 (uI (uI (uI I 11 2 3) 12 2 (-1)) 40 2 0)) 17 1 ((mstI 2 (uI (uI (uI I 11 2 3) 12 2 (-1)) 40 2 0)) 17 1 + 1)) 18 1 0) 11 2 = 3 from ep37) (by decide)]
                exact if_neg c51
              rw [hms]
              exact ⟨rfl, hA57⟩
        · skip
          show am_Go _ _ _ _ 13 _ [.int 1] _ _
          refine go_ifP (t' := 16) (pc' := 14) rfl rfl rfl (fun (c : (1 : Int32) = 0) => absurd c (by decide)) (fun _ => ?_)
          refine go_s (pc' := 15) (st' := [.int 1]) rfl rfl rfl rfl ?_
          refine go_s (pc' := 17) rfl rfl rfl rfl ?_
          refine go_s (pc' := 18) (lo' := [some (.ref 62), some (.int 2), some (.int 3), some (.int 1)]) rfl rfl rfl rfl ?_
          refine go_s (pc' := 19) rfl rfl rfl rfl ?_
          refine go_sget (pc' := 20) (v := .ref 78) hS rfl rfl rfl (by decide) rfl rfl ?_
          refine go_s (pc' := 21) rfl rfl rfl rfl ?_
          refine go_sald (pc' := 22) (q := 2) (v := .int (I 11 2)) hS rfl (tr_s hr (a := 78) rfl (by decide)) rfl rfl (by decide) rfl rfl ?_
          refine go_s (pc' := 23) (st' := [.int (-1), .int (I 11 2)]) rfl rfl rfl rfl ?_
          refine go_icmpP (t' := 32) (pc' := 24) rfl rfl rfl (fun (c58 : ¬ (I 11 2) = (-1)) => ?_) (fun (c58' : ¬ ¬ (I 11 2) = (-1)) => ?_)
          · skip
            refine go_ret rfl rfl ?_
            have hms : rrs 2 (I, Q, Z) = (I, Q, Z) := if_pos (Or.inl c58)
            rw [hms]
            exact ⟨rfl, RA_R (by omega) hA⟩
          · skip
            have c58 : (I 11 2) = (-1) := Decidable.not_not.mp c58'
            refine go_s (pc' := 25) rfl rfl rfl rfl ?_
            refine go_s (pc' := 26) (st' := [.int (-1), .int 3]) rfl rfl rfl rfl ?_
            refine go_icmpP (t' := 32) (pc' := 27) rfl rfl rfl (fun (c : (3 : Int32) = (-1)) => absurd c (by decide)) (fun _ => ?_)
            refine go_s (pc' := 28) rfl rfl rfl rfl ?_
            refine go_ifP (t' := 33) (pc' := 29) rfl rfl rfl (fun _ => ?_) (fun (c : ¬ (¬ (2 : Int32) = 0)) => absurd (by decide) c)
            refine go_s (pc' := 34) rfl rfl rfl rfl ?_
            refine go_sget (pc' := 35) (v := .ref 78) hS rfl rfl rfl (by decide) rfl rfl ?_
            refine go_s (pc' := 36) rfl rfl rfl rfl ?_
            refine go_s (pc' := 37) rfl rfl rfl rfl ?_
            refine go_siast (pc' := 38) (q := 2) hS rfl (tr_s hr (a := 78) rfl (by decide)) tbr_inj (Nat.le_of_ble_eq_true rfl) rfl (by decide) (by decide) (hW _ (by decide) (by decide)) rfl (fun h59 hS60 hE61 => ?_)
            refine go_s (pc' := 39) rfl rfl rfl rfl ?_
            refine go_sget (pc' := 40) (v := .ref 79) hS60 rfl rfl rfl (by decide) rfl rfl ?_
            refine go_s (pc' := 41) rfl rfl rfl rfl ?_
            refine go_s (pc' := 42) (st' := [.int (-1), .int 2, .ref 79]) rfl rfl rfl rfl ?_
            refine go_siast (pc' := 43) (q := 2) hS60 rfl (tr_s hr (a := 79) rfl (by decide)) tbr_inj (Nat.le_of_ble_eq_true rfl) rfl (by decide) (by decide) (hW _ (by decide) (by decide)) rfl (fun h62 hS63 hE64 => ?_)
            have hE65 := sm_e_trans hE61 hE64
            change sm (tbr am (13 * ln) 77 5088) _ (uI (uI (jn I K) 11 2 3) 12 2 (-1)) Y at hS63
            rw [jn_lo (c := 11) (by decide), jn_lo (c := 12) (by decide)] at hS63
            have hU66 : RU w B R [] true h62 am ln K ((uI (uI I 11 2 3) 12 2 (-1)), Q, Z) := RU_I (hE65) (I' := (uI (uI I 11 2 3) 12 2 (-1))) (fun _ => rfl) (fun _ => rfl) (Nat.le_refl _) hU
            have hS67 : sm (tbr am (13 * ln) 77 5088) _ (jn (uI (uI (uI I 11 2 3) 12 2 (-1)) 40 2 0) K) Y := sm_jg hr hS63 (fun c j _ n1 n2 n3 => uI_c n3)
            have hU68 : RU w B R [] true h62 am ln K ((uI (uI (uI I 11 2 3) 12 2 (-1)) 40 2 0), Q, Z) := RU_I (sm_e_refl (tbr am (13 * ln) 77 5088) _) (fun _ => rfl) (fun _ => rfl) (Nat.le_refl _) hU66
            refine go_s (pc' := 44) rfl rfl rfl rfl ?_
            refine go_s (pc' := 45) rfl rfl rfl rfl ?_
            have hU69 : RU w B R [] true h62 am ln K ((uI (uI (uI I 11 2 3) 12 2 (-1)) 40 2 0), Q, Z) := RU_I (sm_e_refl (tbr am (13 * ln) 77 5088) _) (I' := (uI (uI (uI I 11 2 3) 12 2 (-1)) 40 2 0)) (fun _ => rfl) (fun _ => rfl) (Nat.le_refl _) hU68
            refine go_callV (pc' := 46) rfl rfl rfl (Nat.le_of_ble_eq_true rfl) rfl (sm_o hS67 rfl) rfl rfl rfl (rt_stops_2 hr hS67 hW (by omega)) (fun r h70 q71 => ?_)
            obtain ⟨rfl, hS72, hE73⟩ := q71
            change sm (tbr am (13 * ln) 77 5088) _ (mstI 2 (jn (uI (uI (uI I 11 2 3) 12 2 (-1)) 40 2 0) K)) Y at hS72
            rw [mst_jn] at hS72
            have hU74 : RU w B R [] true h70 am ln K ((mstI 2 (uI (uI (uI I 11 2 3) 12 2 (-1)) 40 2 0)), Q, Z) := RU_I hE73 mst_24 mst_25 mst_stn hU69
            have ep75 : (mstI 2 (uI (uI (uI I 11 2 3) 12 2 (-1)) 40 2 0)) 11 2 = 3 := (congrFun mst_11 2).trans (show (uI (uI (uI I 11 2 3) 12 2 (-1)) 40 2 0) 11 2 = 3 from rfl)
            refine go_s (pc' := 47) rfl rfl rfl rfl ?_
            refine go_s (pc' := 48) (st' := [.int 2, .ref 62]) rfl rfl rfl rfl ?_
            refine go_s (pc' := 49) rfl rfl rfl rfl ?_
            refine go_s (pc' := 50) (st' := [.int 4, .ref 62]) rfl rfl rfl rfl ?_
            refine go_s (pc' := 51) rfl rfl rfl rfl ?_
            refine go_s (pc' := 52) (st' := [.int 2, .int 3, .int 4, .ref 62]) rfl rfl rfl rfl ?_
            refine go_s (pc' := 53) (st' := [.int 1, .int 4, .ref 62]) rfl rfl rfl rfl ?_
            refine go_s (pc' := 54) (st' := [.int 5, .ref 62]) rfl rfl rfl rfl ?_
            have hU76 : RU w B R [] true h70 am ln K ((mstI 2 (uI (uI (uI I 11 2 3) 12 2 (-1)) 40 2 0)), Q, Z) := RU_I (sm_e_refl (tbr am (13 * ln) 77 5088) _) (I' := (mstI 2 (uI (uI (uI I 11 2 3) 12 2 (-1)) 40 2 0))) (fun _ => rfl) (fun _ => rfl) (Nat.le_refl _) hU74
            refine go_callV (pc' := 55) rfl rfl rfl (Nat.le_of_ble_eq_true rfl) rfl (sm_o hS72 rfl) rfl rfl rfl (rs_cl hr hS72 hW (hW 77 (by decide) (by decide)) (r9 := 5) (by decide) (by decide) (by omega)) (fun r h77 q78 => ?_)
            obtain ⟨rfl, hS79, hE80⟩ := q78
            rw [clI_jn] at hS79
            obtain ⟨K9, eK9⟩ : ∃ z, z = clI K 5 424 := ⟨_, rfl⟩
            rw [← eK9] at hS79
            have f9 : rfr K K9 5 := by
              rw [eK9]
              exact clI_r (Nat.le_refl _)
            have z9 : ∀ j, j < 424 → K9 51 (424 * 5 + j) = 0 := fun j hj => by
              rw [eK9]
              exact cl_z hj
            have hR9 : RS K9 5 (fun _ => 0, [], []) := by
              rw [eK9]
              exact RS_cl
            refine go_s (pc' := 56) rfl rfl rfl rfl ?_
            refine go_ifP (t' := 61) (pc' := 57) rfl rfl rfl (fun _ => ?_) (fun (c : ¬ (¬ (2 : Int32) = 0)) => absurd (by decide) c)
            refine go_s (pc' := 62) rfl rfl rfl rfl ?_
            refine go_s (pc' := 63) rfl rfl rfl rfl ?_
            refine go_callV (pc' := 64) rfl rfl rfl (Nat.le_of_ble_eq_true rfl) rfl (sm_o hS79 rfl) rfl rfl rfl (rx_rT_2_3 hr hS79 hln hW ep75 (by omega)) (fun r h81 q82 => ?_)
            obtain ⟨rfl, hS83, hE84⟩ := q82
            have hE85 := sm_e_trans hE80 hE84
            have hU86 : RU w B R [] true h81 am ln (uI (uI K9 51 2131 ((mstI 2 (uI (uI (uI I 11 2 3) 12 2 (-1)) 40 2 0)) 17 1 + 1)) 51 2125 (-1)) ((uI (uI (mstI 2 (uI (uI (uI I 11 2 3) 12 2 (-1)) 40 2 0)) 17 1 ((mstI 2 (uI (uI (uI I 11 2 3) 12 2 (-1)) 40 2 0)) 17 1 + 1)) 18 1 0), Q, uZ Z 5 (rwT ((mstI 2 (uI (uI (uI I 11 2 3) 12 2 (-1)) 40 2 0)) 17 1 + 1))) := RU_row (K' := (uI (uI K9 51 2131 ((mstI 2 (uI (uI (uI I 11 2 3) 12 2 (-1)) 40 2 0)) 17 1 + 1)) 51 2125 (-1))) (s := (rwT ((mstI 2 (uI (uI (uI I 11 2 3) 12 2 (-1)) 40 2 0)) 17 1 + 1))) (by decide) (fun c j hc hn => by
              rw [← f9 c j hn]
              simp only [uI]
              rw [if_neg (by omega), if_neg (by omega)]) (⟨fun h => absurd h (by decide), fun _ j hj => by
              match j, hj with
              | 0, _ => (repeat (first | rw [uI_e (by decide)] | rw [uI_j (by decide)])) <;> first | rfl | exact z9 0 (by decide)
              | 1, _ => (repeat (first | rw [uI_e (by decide)] | rw [uI_j (by decide)])) <;> first | rfl | exact z9 1 (by decide)
              | 2, _ => (repeat (first | rw [uI_e (by decide)] | rw [uI_j (by decide)])) <;> first | rfl | exact z9 2 (by decide)
              | 3, _ => (repeat (first | rw [uI_e (by decide)] | rw [uI_j (by decide)])) <;> first | rfl | exact z9 3 (by decide)
              | 4, _ => (repeat (first | rw [uI_e (by decide)] | rw [uI_j (by decide)])) <;> first | rfl | exact z9 4 (by decide)
              | 5, _ => (repeat (first | rw [uI_e (by decide)] | rw [uI_j (by decide)])) <;> first | rfl | exact z9 5 (by decide)
              | 6, _ => (repeat (first | rw [uI_e (by decide)] | rw [uI_j (by decide)])) <;> first | rfl | exact z9 6 (by decide)
              | 7, _ => (repeat (first | rw [uI_e (by decide)] | rw [uI_j (by decide)])) <;> first | rfl | exact z9 7 (by decide)
              | 8, _ => (repeat (first | rw [uI_e (by decide)] | rw [uI_j (by decide)])) <;> first | rfl | exact z9 8 (by decide)
              | 9, _ => (repeat (first | rw [uI_e (by decide)] | rw [uI_j (by decide)])) <;> first | rfl | exact z9 9 (by decide)
              | 10, _ => (repeat (first | rw [uI_e (by decide)] | rw [uI_j (by decide)])) <;> first | rfl | exact z9 10 (by decide)
              | 11, _ => (repeat (first | rw [uI_e (by decide)] | rw [uI_j (by decide)])) <;> first | rfl | exact z9 11 (by decide)⟩) (RU_I hE85 (I' := (uI (uI (mstI 2 (uI (uI (uI I 11 2 3) 12 2 (-1)) 40 2 0)) 17 1 ((mstI 2 (uI (uI (uI I 11 2 3) 12 2 (-1)) 40 2 0)) 17 1 + 1)) 18 1 0)) (fun _ => rfl) (fun _ => rfl) (Nat.le_refl _) hU76)
            have hN : rrsN 2 (I, Q, Z) = ((uI (uI (mstI 2 (uI (uI (uI I 11 2 3) 12 2 (-1)) 40 2 0)) 17 1 ((mstI 2 (uI (uI (uI I 11 2 3) 12 2 (-1)) 40 2 0)) 17 1 + 1)) 18 1 0), Q, (uZ Z 5 (rwT ((mstI 2 (uI (uI (uI I 11 2 3) 12 2 (-1)) 40 2 0)) 17 1 + 1)))) := by
              unfold rrsN rrs1
              rw [if_neg (by decide), if_neg (by decide), show fup ((I, Q, Z) : mM).1 2 = 3 from hf]
              unfold rrsT
              rw [show rwi (((uI (uI (uI I 11 2 3) 12 2 (-1)) 40 2 0), Q, Z) : mM).1 2 = 5 from rwi_l (v := 3) rfl (by decide)]
              rw [uI_x (c := 18) (c' := 16) (by decide), uI_x (c := 17) (c' := 16) (by decide), show mstI 2 (uI (uI (uI I 11 2 3) 12 2 (-1)) 40 2 0) = uI (uI (uI (uI I 11 2 3) 12 2 (-1)) 40 2 0) 16 2 0 from if_neg (by decide)]
              rfl
            have hMN := MID_rN (k := 2) (by omega) hM (by decide) c58 (show ¬ fup I 2 = -1 by rw [hf]; decide) (fun z => absurd z (by decide))
            have hnc : ¬ (¬ ((I, Q, Z) : mM).1 11 2 = -1 ∨ fup ((I, Q, Z) : mM).1 (if 2 = 0 then 0 else 2) = -1 ∨ (2 = 0 ∧ chs ((I, Q, Z) : mM).1 = -1)) := fun z => z.elim (fun y => y c58) (fun z => z.elim (fun y => absurd (hf.symm.trans y) (by decide)) (fun y => absurd y.1 (by decide)))
            refine go_s (pc' := 65) rfl rfl rfl rfl ?_
            refine go_sget (pc' := 66) (v := .ref 63) hS83 rfl rfl rfl (by decide) rfl rfl ?_
            refine go_s (pc' := 67) rfl rfl rfl rfl ?_
            refine go_callS (pc' := 68) rfl rfl rfl (Nat.le_of_ble_eq_true rfl) rfl rfl rfl (rt_oh_3 (by omega)) (fun r h87 q88 => ?_)
            obtain ⟨rfl, rfl⟩ := q88
            refine go_sald (pc' := 69) (q := 2) (v := .int ((uI (uI (mstI 2 (uI (uI (uI I 11 2 3) 12 2 (-1)) 40 2 0)) 17 1 ((mstI 2 (uI (uI (uI I 11 2 3) 12 2 (-1)) 40 2 0)) 17 1 + 1)) 18 1 0) 0 2)) hS83 rfl (tr_s hr (a := 63) rfl (by decide)) rfl rfl (by decide) rfl rfl ?_
            refine go_ifP (t' := 73) (pc' := 70) rfl rfl rfl (fun (c89 : ((uI (uI (mstI 2 (uI (uI (uI I 11 2 3) 12 2 (-1)) 40 2 0)) 17 1 ((mstI 2 (uI (uI (uI I 11 2 3) 12 2 (-1)) 40 2 0)) 17 1 + 1)) 18 1 0) 0 2) = 0) => ?_) (fun (c89 : ¬ ((uI (uI (mstI 2 (uI (uI (uI I 11 2 3) 12 2 (-1)) 40 2 0)) 17 1 ((mstI 2 (uI (uI (uI I 11 2 3) 12 2 (-1)) 40 2 0)) 17 1 + 1)) 18 1 0) 0 2) = 0) => ?_)
            · skip
              refine go_ret rfl rfl ?_
              have hA90 : RA w B R [] true h87 ((uI (uI (mstI 2 (uI (uI (uI I 11 2 3) 12 2 (-1)) 40 2 0)) 17 1 ((mstI 2 (uI (uI (uI I 11 2 3) 12 2 (-1)) 40 2 0)) 17 1 + 1)) 18 1 0), Q, (uZ Z 5 (rwT ((mstI 2 (uI (uI (uI I 11 2 3) 12 2 (-1)) 40 2 0)) 17 1 + 1)))) := RA_u.mpr ⟨_, _, _, _, hS83, hU86⟩
              have hms : rrs 2 (I, Q, Z) = ((uI (uI (mstI 2 (uI (uI (uI I 11 2 3) 12 2 (-1)) 40 2 0)) 17 1 ((mstI 2 (uI (uI (uI I 11 2 3) 12 2 (-1)) 40 2 0)) 17 1 + 1)) 18 1 0), Q, (uZ Z 5 (rwT ((mstI 2 (uI (uI (uI I 11 2 3) 12 2 (-1)) 40 2 0)) 17 1 + 1)))) := by
                unfold rrs
                rw [if_neg hnc, hN, show ohn (((uI (uI (mstI 2 (uI (uI (uI I 11 2 3) 12 2 (-1)) 40 2 0)) 17 1 ((mstI 2 (uI (uI (uI I 11 2 3) 12 2 (-1)) 40 2 0)) 17 1 + 1)) 18 1 0), Q, (uZ Z 5 (rwT ((mstI 2 (uI (uI (uI I 11 2 3) 12 2 (-1)) 40 2 0)) 17 1 + 1)))) : mM).1 2 = 2 from ohn_l (v := 3) (show (uI (uI (mstI 2 (uI (uI (uI I 11 2 3) 12 2 (-1)) 40 2 0)) 17 1 ((mstI 2 (uI (uI (uI I 11 2 3) 12 2 (-1)) 40 2 0)) 17 1 + 1)) 18 1 0) 11 2 = 3 from ep75) (by decide)]
                exact if_pos c89
              rw [hms]
              exact ⟨rfl, RA_R (by omega) hA90⟩
            · skip
              refine go_s (pc' := 71) rfl rfl rfl rfl ?_
              refine go_s (pc' := 72) rfl rfl rfl rfl ?_
              have h5 : sq Q + hc [] true ≤ 5 := by
                have z := hMN.2
                rw [hN] at z
                have z2 : sq Q ≤ 5 := z
                have z3 : hc [] true = 0 := rfl
                omega
              have hU91 : RU w B R [] true h87 am ln (uI (uI K9 51 2131 ((mstI 2 (uI (uI (uI I 11 2 3) 12 2 (-1)) 40 2 0)) 17 1 + 1)) 51 2125 (-1)) ((uI (uI (mstI 2 (uI (uI (uI I 11 2 3) 12 2 (-1)) 40 2 0)) 17 1 ((mstI 2 (uI (uI (uI I 11 2 3) 12 2 (-1)) 40 2 0)) 17 1 + 1)) 18 1 0), Q, (uZ Z 5 (rwT ((mstI 2 (uI (uI (uI I 11 2 3) 12 2 (-1)) 40 2 0)) 17 1 + 1)))) := RU_I (sm_e_refl (tbr am (13 * ln) 77 5088) _) (I' := (uI (uI (mstI 2 (uI (uI (uI I 11 2 3) 12 2 (-1)) 40 2 0)) 17 1 ((mstI 2 (uI (uI (uI I 11 2 3) 12 2 (-1)) 40 2 0)) 17 1 + 1)) 18 1 0)) (fun _ => rfl) (fun _ => rfl) (Nat.le_refl _) hU86
              have hA92 : RA w B R [] true h87 ((uI (uI (mstI 2 (uI (uI (uI I 11 2 3) 12 2 (-1)) 40 2 0)) 17 1 ((mstI 2 (uI (uI (uI I 11 2 3) 12 2 (-1)) 40 2 0)) 17 1 + 1)) 18 1 0), Q, (uZ Z 5 (rwT ((mstI 2 (uI (uI (uI I 11 2 3) 12 2 (-1)) 40 2 0)) 17 1 + 1)))) := RA_u.mpr ⟨_, _, _, _, hS83, hU91⟩
              refine go_callV (pc' := 73) rfl rfl rfl (Nat.le_of_ble_eq_true rfl) rfl (sm_o hS83 rfl) rfl rfl rfl (ra_sc_2 hA92 (by omega) (Or.inr (Or.inr (show (uI (uI (mstI 2 (uI (uI (uI I 11 2 3) 12 2 (-1)) 40 2 0)) 17 1 ((mstI 2 (uI (uI (uI I 11 2 3) 12 2 (-1)) 40 2 0)) 17 1 + 1)) 18 1 0) 11 2 = 3 from ep75))) (fun z => absurd ((show (uI (uI (mstI 2 (uI (uI (uI I 11 2 3) 12 2 (-1)) 40 2 0)) 17 1 ((mstI 2 (uI (uI (uI I 11 2 3) 12 2 (-1)) 40 2 0)) 17 1 + 1)) 18 1 0) 11 2 = 3 from ep75).symm.trans z) (by decide)) h5 (by omega)) (fun r h93 q94 => ?_)
              obtain ⟨rfl, hA95⟩ := q94
              refine go_ret rfl rfl ?_
              have hms : rrs 2 (I, Q, Z) = rsc 2 ((uI (uI (mstI 2 (uI (uI (uI I 11 2 3) 12 2 (-1)) 40 2 0)) 17 1 ((mstI 2 (uI (uI (uI I 11 2 3) 12 2 (-1)) 40 2 0)) 17 1 + 1)) 18 1 0), Q, (uZ Z 5 (rwT ((mstI 2 (uI (uI (uI I 11 2 3) 12 2 (-1)) 40 2 0)) 17 1 + 1)))) := by
                unfold rrs
                rw [if_neg hnc, hN, show ohn (((uI (uI (mstI 2 (uI (uI (uI I 11 2 3) 12 2 (-1)) 40 2 0)) 17 1 ((mstI 2 (uI (uI (uI I 11 2 3) 12 2 (-1)) 40 2 0)) 17 1 + 1)) 18 1 0), Q, (uZ Z 5 (rwT ((mstI 2 (uI (uI (uI I 11 2 3) 12 2 (-1)) 40 2 0)) 17 1 + 1)))) : mM).1 2 = 2 from ohn_l (v := 3) (show (uI (uI (mstI 2 (uI (uI (uI I 11 2 3) 12 2 (-1)) 40 2 0)) 17 1 ((mstI 2 (uI (uI (uI I 11 2 3) 12 2 (-1)) 40 2 0)) 17 1 + 1)) 18 1 0) 11 2 = 3 from ep75) (by decide)]
                exact if_neg c89
              rw [hms]
              exact ⟨rfl, hA95⟩
      · skip
        show am_Go _ _ _ _ 7 _ [.int 1] _ _
        refine go_ifP (t' := 10) (pc' := 8) rfl rfl rfl (fun (c : (1 : Int32) = 0) => absurd c (by decide)) (fun _ => ?_)
        refine go_s (pc' := 9) (st' := [.int 0]) rfl rfl rfl rfl ?_
        refine go_s (pc' := 17) rfl rfl rfl rfl ?_
        refine go_s (pc' := 18) (lo' := [some (.ref 62), some (.int 2), some (.int 3), some (.int 0)]) rfl rfl rfl rfl ?_
        refine go_s (pc' := 19) rfl rfl rfl rfl ?_
        refine go_sget (pc' := 20) (v := .ref 78) hS rfl rfl rfl (by decide) rfl rfl ?_
        refine go_s (pc' := 21) rfl rfl rfl rfl ?_
        refine go_sald (pc' := 22) (q := 2) (v := .int (I 11 2)) hS rfl (tr_s hr (a := 78) rfl (by decide)) rfl rfl (by decide) rfl rfl ?_
        refine go_s (pc' := 23) (st' := [.int (-1), .int (I 11 2)]) rfl rfl rfl rfl ?_
        refine go_icmpP (t' := 32) (pc' := 24) rfl rfl rfl (fun (c96 : ¬ (I 11 2) = (-1)) => ?_) (fun (c96' : ¬ ¬ (I 11 2) = (-1)) => ?_)
        · skip
          refine go_ret rfl rfl ?_
          have hms : rrs 2 (I, Q, Z) = (I, Q, Z) := if_pos (Or.inl c96)
          rw [hms]
          exact ⟨rfl, RA_R (by omega) hA⟩
        · skip
          have c96 : (I 11 2) = (-1) := Decidable.not_not.mp c96'
          refine go_s (pc' := 25) rfl rfl rfl rfl ?_
          refine go_s (pc' := 26) (st' := [.int (-1), .int 3]) rfl rfl rfl rfl ?_
          refine go_icmpP (t' := 32) (pc' := 27) rfl rfl rfl (fun (c : (3 : Int32) = (-1)) => absurd c (by decide)) (fun _ => ?_)
          refine go_s (pc' := 28) rfl rfl rfl rfl ?_
          refine go_ifP (t' := 33) (pc' := 29) rfl rfl rfl (fun _ => ?_) (fun (c : ¬ (¬ (2 : Int32) = 0)) => absurd (by decide) c)
          refine go_s (pc' := 34) rfl rfl rfl rfl ?_
          refine go_sget (pc' := 35) (v := .ref 78) hS rfl rfl rfl (by decide) rfl rfl ?_
          refine go_s (pc' := 36) rfl rfl rfl rfl ?_
          refine go_s (pc' := 37) rfl rfl rfl rfl ?_
          refine go_siast (pc' := 38) (q := 2) hS rfl (tr_s hr (a := 78) rfl (by decide)) tbr_inj (Nat.le_of_ble_eq_true rfl) rfl (by decide) (by decide) (hW _ (by decide) (by decide)) rfl (fun h97 hS98 hE99 => ?_)
          refine go_s (pc' := 39) rfl rfl rfl rfl ?_
          refine go_sget (pc' := 40) (v := .ref 79) hS98 rfl rfl rfl (by decide) rfl rfl ?_
          refine go_s (pc' := 41) rfl rfl rfl rfl ?_
          refine go_s (pc' := 42) (st' := [.int (-1), .int 2, .ref 79]) rfl rfl rfl rfl ?_
          refine go_siast (pc' := 43) (q := 2) hS98 rfl (tr_s hr (a := 79) rfl (by decide)) tbr_inj (Nat.le_of_ble_eq_true rfl) rfl (by decide) (by decide) (hW _ (by decide) (by decide)) rfl (fun h100 hS101 hE102 => ?_)
          have hE103 := sm_e_trans hE99 hE102
          change sm (tbr am (13 * ln) 77 5088) _ (uI (uI (jn I K) 11 2 3) 12 2 (-1)) Y at hS101
          rw [jn_lo (c := 11) (by decide), jn_lo (c := 12) (by decide)] at hS101
          have hU104 : RU w B R [] true h100 am ln K ((uI (uI I 11 2 3) 12 2 (-1)), Q, Z) := RU_I (hE103) (I' := (uI (uI I 11 2 3) 12 2 (-1))) (fun _ => rfl) (fun _ => rfl) (Nat.le_refl _) hU
          have hS105 : sm (tbr am (13 * ln) 77 5088) _ (jn (uI (uI (uI I 11 2 3) 12 2 (-1)) 40 2 0) K) Y := sm_jg hr hS101 (fun c j _ n1 n2 n3 => uI_c n3)
          have hU106 : RU w B R [] true h100 am ln K ((uI (uI (uI I 11 2 3) 12 2 (-1)) 40 2 0), Q, Z) := RU_I (sm_e_refl (tbr am (13 * ln) 77 5088) _) (fun _ => rfl) (fun _ => rfl) (Nat.le_refl _) hU104
          refine go_s (pc' := 44) rfl rfl rfl rfl ?_
          refine go_s (pc' := 45) rfl rfl rfl rfl ?_
          have hU107 : RU w B R [] true h100 am ln K ((uI (uI (uI I 11 2 3) 12 2 (-1)) 40 2 0), Q, Z) := RU_I (sm_e_refl (tbr am (13 * ln) 77 5088) _) (I' := (uI (uI (uI I 11 2 3) 12 2 (-1)) 40 2 0)) (fun _ => rfl) (fun _ => rfl) (Nat.le_refl _) hU106
          refine go_callV (pc' := 46) rfl rfl rfl (Nat.le_of_ble_eq_true rfl) rfl (sm_o hS105 rfl) rfl rfl rfl (rt_stops_2 hr hS105 hW (by omega)) (fun r h108 q109 => ?_)
          obtain ⟨rfl, hS110, hE111⟩ := q109
          change sm (tbr am (13 * ln) 77 5088) _ (mstI 2 (jn (uI (uI (uI I 11 2 3) 12 2 (-1)) 40 2 0) K)) Y at hS110
          rw [mst_jn] at hS110
          have hU112 : RU w B R [] true h108 am ln K ((mstI 2 (uI (uI (uI I 11 2 3) 12 2 (-1)) 40 2 0)), Q, Z) := RU_I hE111 mst_24 mst_25 mst_stn hU107
          have ep113 : (mstI 2 (uI (uI (uI I 11 2 3) 12 2 (-1)) 40 2 0)) 11 2 = 3 := (congrFun mst_11 2).trans (show (uI (uI (uI I 11 2 3) 12 2 (-1)) 40 2 0) 11 2 = 3 from rfl)
          refine go_s (pc' := 47) rfl rfl rfl rfl ?_
          refine go_s (pc' := 48) (st' := [.int 2, .ref 62]) rfl rfl rfl rfl ?_
          refine go_s (pc' := 49) rfl rfl rfl rfl ?_
          refine go_s (pc' := 50) (st' := [.int 4, .ref 62]) rfl rfl rfl rfl ?_
          refine go_s (pc' := 51) rfl rfl rfl rfl ?_
          refine go_s (pc' := 52) (st' := [.int 2, .int 3, .int 4, .ref 62]) rfl rfl rfl rfl ?_
          refine go_s (pc' := 53) (st' := [.int 1, .int 4, .ref 62]) rfl rfl rfl rfl ?_
          refine go_s (pc' := 54) (st' := [.int 5, .ref 62]) rfl rfl rfl rfl ?_
          have hU114 : RU w B R [] true h108 am ln K ((mstI 2 (uI (uI (uI I 11 2 3) 12 2 (-1)) 40 2 0)), Q, Z) := RU_I (sm_e_refl (tbr am (13 * ln) 77 5088) _) (I' := (mstI 2 (uI (uI (uI I 11 2 3) 12 2 (-1)) 40 2 0))) (fun _ => rfl) (fun _ => rfl) (Nat.le_refl _) hU112
          refine go_callV (pc' := 55) rfl rfl rfl (Nat.le_of_ble_eq_true rfl) rfl (sm_o hS110 rfl) rfl rfl rfl (rs_cl hr hS110 hW (hW 77 (by decide) (by decide)) (r9 := 5) (by decide) (by decide) (by omega)) (fun r h115 q116 => ?_)
          obtain ⟨rfl, hS117, hE118⟩ := q116
          rw [clI_jn] at hS117
          obtain ⟨K9, eK9⟩ : ∃ z, z = clI K 5 424 := ⟨_, rfl⟩
          rw [← eK9] at hS117
          have f9 : rfr K K9 5 := by
            rw [eK9]
            exact clI_r (Nat.le_refl _)
          have z9 : ∀ j, j < 424 → K9 51 (424 * 5 + j) = 0 := fun j hj => by
            rw [eK9]
            exact cl_z hj
          have hR9 : RS K9 5 (fun _ => 0, [], []) := by
            rw [eK9]
            exact RS_cl
          refine go_s (pc' := 56) rfl rfl rfl rfl ?_
          refine go_ifP (t' := 61) (pc' := 57) rfl rfl rfl (fun _ => ?_) (fun (c : ¬ (¬ (2 : Int32) = 0)) => absurd (by decide) c)
          refine go_s (pc' := 62) rfl rfl rfl rfl ?_
          refine go_s (pc' := 63) rfl rfl rfl rfl ?_
          refine go_callV (pc' := 64) rfl rfl rfl (Nat.le_of_ble_eq_true rfl) rfl (sm_o hS117 rfl) rfl rfl rfl (rx_rT_2_3 hr hS117 hln hW ep113 (by omega)) (fun r h119 q120 => ?_)
          obtain ⟨rfl, hS121, hE122⟩ := q120
          have hE123 := sm_e_trans hE118 hE122
          have hU124 : RU w B R [] true h119 am ln (uI (uI K9 51 2131 ((mstI 2 (uI (uI (uI I 11 2 3) 12 2 (-1)) 40 2 0)) 17 1 + 1)) 51 2125 (-1)) ((uI (uI (mstI 2 (uI (uI (uI I 11 2 3) 12 2 (-1)) 40 2 0)) 17 1 ((mstI 2 (uI (uI (uI I 11 2 3) 12 2 (-1)) 40 2 0)) 17 1 + 1)) 18 1 0), Q, uZ Z 5 (rwT ((mstI 2 (uI (uI (uI I 11 2 3) 12 2 (-1)) 40 2 0)) 17 1 + 1))) := RU_row (K' := (uI (uI K9 51 2131 ((mstI 2 (uI (uI (uI I 11 2 3) 12 2 (-1)) 40 2 0)) 17 1 + 1)) 51 2125 (-1))) (s := (rwT ((mstI 2 (uI (uI (uI I 11 2 3) 12 2 (-1)) 40 2 0)) 17 1 + 1))) (by decide) (fun c j hc hn => by
            rw [← f9 c j hn]
            simp only [uI]
            rw [if_neg (by omega), if_neg (by omega)]) (⟨fun h => absurd h (by decide), fun _ j hj => by
            match j, hj with
            | 0, _ => (repeat (first | rw [uI_e (by decide)] | rw [uI_j (by decide)])) <;> first | rfl | exact z9 0 (by decide)
            | 1, _ => (repeat (first | rw [uI_e (by decide)] | rw [uI_j (by decide)])) <;> first | rfl | exact z9 1 (by decide)
            | 2, _ => (repeat (first | rw [uI_e (by decide)] | rw [uI_j (by decide)])) <;> first | rfl | exact z9 2 (by decide)
            | 3, _ => (repeat (first | rw [uI_e (by decide)] | rw [uI_j (by decide)])) <;> first | rfl | exact z9 3 (by decide)
            | 4, _ => (repeat (first | rw [uI_e (by decide)] | rw [uI_j (by decide)])) <;> first | rfl | exact z9 4 (by decide)
            | 5, _ => (repeat (first | rw [uI_e (by decide)] | rw [uI_j (by decide)])) <;> first | rfl | exact z9 5 (by decide)
            | 6, _ => (repeat (first | rw [uI_e (by decide)] | rw [uI_j (by decide)])) <;> first | rfl | exact z9 6 (by decide)
            | 7, _ => (repeat (first | rw [uI_e (by decide)] | rw [uI_j (by decide)])) <;> first | rfl | exact z9 7 (by decide)
            | 8, _ => (repeat (first | rw [uI_e (by decide)] | rw [uI_j (by decide)])) <;> first | rfl | exact z9 8 (by decide)
            | 9, _ => (repeat (first | rw [uI_e (by decide)] | rw [uI_j (by decide)])) <;> first | rfl | exact z9 9 (by decide)
            | 10, _ => (repeat (first | rw [uI_e (by decide)] | rw [uI_j (by decide)])) <;> first | rfl | exact z9 10 (by decide)
            | 11, _ => (repeat (first | rw [uI_e (by decide)] | rw [uI_j (by decide)])) <;> first | rfl | exact z9 11 (by decide)⟩) (RU_I hE123 (I' := (uI (uI (mstI 2 (uI (uI (uI I 11 2 3) 12 2 (-1)) 40 2 0)) 17 1 ((mstI 2 (uI (uI (uI I 11 2 3) 12 2 (-1)) 40 2 0)) 17 1 + 1)) 18 1 0)) (fun _ => rfl) (fun _ => rfl) (Nat.le_refl _) hU114)
          have hN : rrsN 2 (I, Q, Z) = ((uI (uI (mstI 2 (uI (uI (uI I 11 2 3) 12 2 (-1)) 40 2 0)) 17 1 ((mstI 2 (uI (uI (uI I 11 2 3) 12 2 (-1)) 40 2 0)) 17 1 + 1)) 18 1 0), Q, (uZ Z 5 (rwT ((mstI 2 (uI (uI (uI I 11 2 3) 12 2 (-1)) 40 2 0)) 17 1 + 1)))) := by
            unfold rrsN rrs1
            rw [if_neg (by decide), if_neg (by decide), show fup ((I, Q, Z) : mM).1 2 = 3 from hf]
            unfold rrsT
            rw [show rwi (((uI (uI (uI I 11 2 3) 12 2 (-1)) 40 2 0), Q, Z) : mM).1 2 = 5 from rwi_l (v := 3) rfl (by decide)]
            rw [uI_x (c := 18) (c' := 16) (by decide), uI_x (c := 17) (c' := 16) (by decide), show mstI 2 (uI (uI (uI I 11 2 3) 12 2 (-1)) 40 2 0) = uI (uI (uI (uI I 11 2 3) 12 2 (-1)) 40 2 0) 16 2 0 from if_neg (by decide)]
            rfl
          have hMN := MID_rN (k := 2) (by omega) hM (by decide) c96 (show ¬ fup I 2 = -1 by rw [hf]; decide) (fun z => absurd z (by decide))
          have hnc : ¬ (¬ ((I, Q, Z) : mM).1 11 2 = -1 ∨ fup ((I, Q, Z) : mM).1 (if 2 = 0 then 0 else 2) = -1 ∨ (2 = 0 ∧ chs ((I, Q, Z) : mM).1 = -1)) := fun z => z.elim (fun y => y c96) (fun z => z.elim (fun y => absurd (hf.symm.trans y) (by decide)) (fun y => absurd y.1 (by decide)))
          refine go_s (pc' := 65) rfl rfl rfl rfl ?_
          refine go_sget (pc' := 66) (v := .ref 63) hS121 rfl rfl rfl (by decide) rfl rfl ?_
          refine go_s (pc' := 67) rfl rfl rfl rfl ?_
          refine go_callS (pc' := 68) rfl rfl rfl (Nat.le_of_ble_eq_true rfl) rfl rfl rfl (rt_oh_3 (by omega)) (fun r h125 q126 => ?_)
          obtain ⟨rfl, rfl⟩ := q126
          refine go_sald (pc' := 69) (q := 2) (v := .int ((uI (uI (mstI 2 (uI (uI (uI I 11 2 3) 12 2 (-1)) 40 2 0)) 17 1 ((mstI 2 (uI (uI (uI I 11 2 3) 12 2 (-1)) 40 2 0)) 17 1 + 1)) 18 1 0) 0 2)) hS121 rfl (tr_s hr (a := 63) rfl (by decide)) rfl rfl (by decide) rfl rfl ?_
          refine go_ifP (t' := 73) (pc' := 70) rfl rfl rfl (fun (c127 : ((uI (uI (mstI 2 (uI (uI (uI I 11 2 3) 12 2 (-1)) 40 2 0)) 17 1 ((mstI 2 (uI (uI (uI I 11 2 3) 12 2 (-1)) 40 2 0)) 17 1 + 1)) 18 1 0) 0 2) = 0) => ?_) (fun (c127 : ¬ ((uI (uI (mstI 2 (uI (uI (uI I 11 2 3) 12 2 (-1)) 40 2 0)) 17 1 ((mstI 2 (uI (uI (uI I 11 2 3) 12 2 (-1)) 40 2 0)) 17 1 + 1)) 18 1 0) 0 2) = 0) => ?_)
          · skip
            refine go_ret rfl rfl ?_
            have hA128 : RA w B R [] true h125 ((uI (uI (mstI 2 (uI (uI (uI I 11 2 3) 12 2 (-1)) 40 2 0)) 17 1 ((mstI 2 (uI (uI (uI I 11 2 3) 12 2 (-1)) 40 2 0)) 17 1 + 1)) 18 1 0), Q, (uZ Z 5 (rwT ((mstI 2 (uI (uI (uI I 11 2 3) 12 2 (-1)) 40 2 0)) 17 1 + 1)))) := RA_u.mpr ⟨_, _, _, _, hS121, hU124⟩
            have hms : rrs 2 (I, Q, Z) = ((uI (uI (mstI 2 (uI (uI (uI I 11 2 3) 12 2 (-1)) 40 2 0)) 17 1 ((mstI 2 (uI (uI (uI I 11 2 3) 12 2 (-1)) 40 2 0)) 17 1 + 1)) 18 1 0), Q, (uZ Z 5 (rwT ((mstI 2 (uI (uI (uI I 11 2 3) 12 2 (-1)) 40 2 0)) 17 1 + 1)))) := by
              unfold rrs
              rw [if_neg hnc, hN, show ohn (((uI (uI (mstI 2 (uI (uI (uI I 11 2 3) 12 2 (-1)) 40 2 0)) 17 1 ((mstI 2 (uI (uI (uI I 11 2 3) 12 2 (-1)) 40 2 0)) 17 1 + 1)) 18 1 0), Q, (uZ Z 5 (rwT ((mstI 2 (uI (uI (uI I 11 2 3) 12 2 (-1)) 40 2 0)) 17 1 + 1)))) : mM).1 2 = 2 from ohn_l (v := 3) (show (uI (uI (mstI 2 (uI (uI (uI I 11 2 3) 12 2 (-1)) 40 2 0)) 17 1 ((mstI 2 (uI (uI (uI I 11 2 3) 12 2 (-1)) 40 2 0)) 17 1 + 1)) 18 1 0) 11 2 = 3 from ep113) (by decide)]
              exact if_pos c127
            rw [hms]
            exact ⟨rfl, RA_R (by omega) hA128⟩
          · skip
            refine go_s (pc' := 71) rfl rfl rfl rfl ?_
            refine go_s (pc' := 72) rfl rfl rfl rfl ?_
            have h5 : sq Q + hc [] true ≤ 5 := by
              have z := hMN.2
              rw [hN] at z
              have z2 : sq Q ≤ 5 := z
              have z3 : hc [] true = 0 := rfl
              omega
            have hU129 : RU w B R [] true h125 am ln (uI (uI K9 51 2131 ((mstI 2 (uI (uI (uI I 11 2 3) 12 2 (-1)) 40 2 0)) 17 1 + 1)) 51 2125 (-1)) ((uI (uI (mstI 2 (uI (uI (uI I 11 2 3) 12 2 (-1)) 40 2 0)) 17 1 ((mstI 2 (uI (uI (uI I 11 2 3) 12 2 (-1)) 40 2 0)) 17 1 + 1)) 18 1 0), Q, (uZ Z 5 (rwT ((mstI 2 (uI (uI (uI I 11 2 3) 12 2 (-1)) 40 2 0)) 17 1 + 1)))) := RU_I (sm_e_refl (tbr am (13 * ln) 77 5088) _) (I' := (uI (uI (mstI 2 (uI (uI (uI I 11 2 3) 12 2 (-1)) 40 2 0)) 17 1 ((mstI 2 (uI (uI (uI I 11 2 3) 12 2 (-1)) 40 2 0)) 17 1 + 1)) 18 1 0)) (fun _ => rfl) (fun _ => rfl) (Nat.le_refl _) hU124
            have hA130 : RA w B R [] true h125 ((uI (uI (mstI 2 (uI (uI (uI I 11 2 3) 12 2 (-1)) 40 2 0)) 17 1 ((mstI 2 (uI (uI (uI I 11 2 3) 12 2 (-1)) 40 2 0)) 17 1 + 1)) 18 1 0), Q, (uZ Z 5 (rwT ((mstI 2 (uI (uI (uI I 11 2 3) 12 2 (-1)) 40 2 0)) 17 1 + 1)))) := RA_u.mpr ⟨_, _, _, _, hS121, hU129⟩
            refine go_callV (pc' := 73) rfl rfl rfl (Nat.le_of_ble_eq_true rfl) rfl (sm_o hS121 rfl) rfl rfl rfl (ra_sc_2 hA130 (by omega) (Or.inr (Or.inr (show (uI (uI (mstI 2 (uI (uI (uI I 11 2 3) 12 2 (-1)) 40 2 0)) 17 1 ((mstI 2 (uI (uI (uI I 11 2 3) 12 2 (-1)) 40 2 0)) 17 1 + 1)) 18 1 0) 11 2 = 3 from ep113))) (fun z => absurd ((show (uI (uI (mstI 2 (uI (uI (uI I 11 2 3) 12 2 (-1)) 40 2 0)) 17 1 ((mstI 2 (uI (uI (uI I 11 2 3) 12 2 (-1)) 40 2 0)) 17 1 + 1)) 18 1 0) 11 2 = 3 from ep113).symm.trans z) (by decide)) h5 (by omega)) (fun r h131 q132 => ?_)
            obtain ⟨rfl, hA133⟩ := q132
            refine go_ret rfl rfl ?_
            have hms : rrs 2 (I, Q, Z) = rsc 2 ((uI (uI (mstI 2 (uI (uI (uI I 11 2 3) 12 2 (-1)) 40 2 0)) 17 1 ((mstI 2 (uI (uI (uI I 11 2 3) 12 2 (-1)) 40 2 0)) 17 1 + 1)) 18 1 0), Q, (uZ Z 5 (rwT ((mstI 2 (uI (uI (uI I 11 2 3) 12 2 (-1)) 40 2 0)) 17 1 + 1)))) := by
              unfold rrs
              rw [if_neg hnc, hN, show ohn (((uI (uI (mstI 2 (uI (uI (uI I 11 2 3) 12 2 (-1)) 40 2 0)) 17 1 ((mstI 2 (uI (uI (uI I 11 2 3) 12 2 (-1)) 40 2 0)) 17 1 + 1)) 18 1 0), Q, (uZ Z 5 (rwT ((mstI 2 (uI (uI (uI I 11 2 3) 12 2 (-1)) 40 2 0)) 17 1 + 1)))) : mM).1 2 = 2 from ohn_l (v := 3) (show (uI (uI (mstI 2 (uI (uI (uI I 11 2 3) 12 2 (-1)) 40 2 0)) 17 1 ((mstI 2 (uI (uI (uI I 11 2 3) 12 2 (-1)) 40 2 0)) 17 1 + 1)) 18 1 0) 11 2 = 3 from ep113) (by decide)]
              exact if_neg c127
            rw [hms]
            exact ⟨rfl, hA133⟩
  · skip
    have hf : fup I 2 = 2 := if_neg u0
    refine go_s (pc' := 1) rfl rfl rfl rfl ?_
    refine go_s (pc' := 2) rfl rfl rfl rfl ?_
    refine go_callV (pc' := 3) rfl rfl rfl (Nat.le_of_ble_eq_true rfl) rfl (sm_o hS rfl) rfl rfl rfl (rt_fh_2 hr hS (by omega)) (fun r h134 q135 => ?_)
    obtain ⟨rfl, rfl⟩ := q135
    rw [show fup (jn I K) 2 = 2 from hf]
    show am_Go _ _ _ _ 3 _ [.int 2] _ _
    refine go_s (pc' := 4) (lo' := [some (.ref 62), some (.int 2), some (.int 2), none]) rfl rfl rfl rfl ?_
    refine go_s (pc' := 5) rfl rfl rfl rfl ?_
    refine go_s (pc' := 6) (st' := [.int 0, .ref 62]) rfl rfl rfl rfl ?_
    refine go_callV (pc' := 7) rfl rfl rfl (Nat.le_of_ble_eq_true rfl) rfl (sm_o hS rfl) rfl rfl rfl (rt_us_0 hr hS (by omega)) (fun r h136 q137 => ?_)
    obtain ⟨rfl, rfl⟩ := q137
    rw [show us (jn I K) 0 = us I 0 from rfl]
    cases u138 : us I 0
    · skip
      show am_Go _ _ _ _ 7 _ [.int 0] _ _
      refine go_ifP (t' := 10) (pc' := 8) rfl rfl rfl (fun _ => ?_) (fun (c : ¬ ((0 : Int32) = 0)) => absurd (by decide) c)
      refine go_s (pc' := 11) rfl rfl rfl rfl ?_
      refine go_s (pc' := 12) (st' := [.int 1, .ref 62]) rfl rfl rfl rfl ?_
      refine go_callV (pc' := 13) rfl rfl rfl (Nat.le_of_ble_eq_true rfl) rfl (sm_o hS rfl) rfl rfl rfl (rt_us_1 hr hS (by omega)) (fun r h139 q140 => ?_)
      obtain ⟨rfl, rfl⟩ := q140
      rw [show us (jn I K) 1 = us I 1 from rfl]
      cases u141 : us I 1
      · skip
        show am_Go _ _ _ _ 13 _ [.int 0] _ _
        refine go_ifP (t' := 16) (pc' := 14) rfl rfl rfl (fun _ => ?_) (fun (c : ¬ ((0 : Int32) = 0)) => absurd (by decide) c)
        refine go_s (pc' := 17) (st' := [.int (-1)]) rfl rfl rfl rfl ?_
        refine go_s (pc' := 18) (lo' := [some (.ref 62), some (.int 2), some (.int 2), some (.int (-1))]) rfl rfl rfl rfl ?_
        refine go_s (pc' := 19) rfl rfl rfl rfl ?_
        refine go_sget (pc' := 20) (v := .ref 78) hS rfl rfl rfl (by decide) rfl rfl ?_
        refine go_s (pc' := 21) rfl rfl rfl rfl ?_
        refine go_sald (pc' := 22) (q := 2) (v := .int (I 11 2)) hS rfl (tr_s hr (a := 78) rfl (by decide)) rfl rfl (by decide) rfl rfl ?_
        refine go_s (pc' := 23) (st' := [.int (-1), .int (I 11 2)]) rfl rfl rfl rfl ?_
        refine go_icmpP (t' := 32) (pc' := 24) rfl rfl rfl (fun (c142 : ¬ (I 11 2) = (-1)) => ?_) (fun (c142' : ¬ ¬ (I 11 2) = (-1)) => ?_)
        · skip
          refine go_ret rfl rfl ?_
          have hms : rrs 2 (I, Q, Z) = (I, Q, Z) := if_pos (Or.inl c142)
          rw [hms]
          exact ⟨rfl, RA_R (by omega) hA⟩
        · skip
          have c142 : (I 11 2) = (-1) := Decidable.not_not.mp c142'
          refine go_s (pc' := 25) rfl rfl rfl rfl ?_
          refine go_s (pc' := 26) (st' := [.int (-1), .int 2]) rfl rfl rfl rfl ?_
          refine go_icmpP (t' := 32) (pc' := 27) rfl rfl rfl (fun (c : (2 : Int32) = (-1)) => absurd c (by decide)) (fun _ => ?_)
          refine go_s (pc' := 28) rfl rfl rfl rfl ?_
          refine go_ifP (t' := 33) (pc' := 29) rfl rfl rfl (fun _ => ?_) (fun (c : ¬ (¬ (2 : Int32) = 0)) => absurd (by decide) c)
          refine go_s (pc' := 34) rfl rfl rfl rfl ?_
          refine go_sget (pc' := 35) (v := .ref 78) hS rfl rfl rfl (by decide) rfl rfl ?_
          refine go_s (pc' := 36) rfl rfl rfl rfl ?_
          refine go_s (pc' := 37) rfl rfl rfl rfl ?_
          refine go_siast (pc' := 38) (q := 2) hS rfl (tr_s hr (a := 78) rfl (by decide)) tbr_inj (Nat.le_of_ble_eq_true rfl) rfl (by decide) (by decide) (hW _ (by decide) (by decide)) rfl (fun h143 hS144 hE145 => ?_)
          refine go_s (pc' := 39) rfl rfl rfl rfl ?_
          refine go_sget (pc' := 40) (v := .ref 79) hS144 rfl rfl rfl (by decide) rfl rfl ?_
          refine go_s (pc' := 41) rfl rfl rfl rfl ?_
          refine go_s (pc' := 42) (st' := [.int (-1), .int 2, .ref 79]) rfl rfl rfl rfl ?_
          refine go_siast (pc' := 43) (q := 2) hS144 rfl (tr_s hr (a := 79) rfl (by decide)) tbr_inj (Nat.le_of_ble_eq_true rfl) rfl (by decide) (by decide) (hW _ (by decide) (by decide)) rfl (fun h146 hS147 hE148 => ?_)
          have hE149 := sm_e_trans hE145 hE148
          change sm (tbr am (13 * ln) 77 5088) _ (uI (uI (jn I K) 11 2 2) 12 2 (-1)) Y at hS147
          rw [jn_lo (c := 11) (by decide), jn_lo (c := 12) (by decide)] at hS147
          have hU150 : RU w B R [] true h146 am ln K ((uI (uI I 11 2 2) 12 2 (-1)), Q, Z) := RU_I (hE149) (I' := (uI (uI I 11 2 2) 12 2 (-1))) (fun _ => rfl) (fun _ => rfl) (Nat.le_refl _) hU
          have hS151 : sm (tbr am (13 * ln) 77 5088) _ (jn (uI (uI (uI I 11 2 2) 12 2 (-1)) 40 2 0) K) Y := sm_jg hr hS147 (fun c j _ n1 n2 n3 => uI_c n3)
          have hU152 : RU w B R [] true h146 am ln K ((uI (uI (uI I 11 2 2) 12 2 (-1)) 40 2 0), Q, Z) := RU_I (sm_e_refl (tbr am (13 * ln) 77 5088) _) (fun _ => rfl) (fun _ => rfl) (Nat.le_refl _) hU150
          refine go_s (pc' := 44) rfl rfl rfl rfl ?_
          refine go_s (pc' := 45) rfl rfl rfl rfl ?_
          have hU153 : RU w B R [] true h146 am ln K ((uI (uI (uI I 11 2 2) 12 2 (-1)) 40 2 0), Q, Z) := RU_I (sm_e_refl (tbr am (13 * ln) 77 5088) _) (I' := (uI (uI (uI I 11 2 2) 12 2 (-1)) 40 2 0)) (fun _ => rfl) (fun _ => rfl) (Nat.le_refl _) hU152
          refine go_callV (pc' := 46) rfl rfl rfl (Nat.le_of_ble_eq_true rfl) rfl (sm_o hS151 rfl) rfl rfl rfl (rt_stops_2 hr hS151 hW (by omega)) (fun r h154 q155 => ?_)
          obtain ⟨rfl, hS156, hE157⟩ := q155
          change sm (tbr am (13 * ln) 77 5088) _ (mstI 2 (jn (uI (uI (uI I 11 2 2) 12 2 (-1)) 40 2 0) K)) Y at hS156
          rw [mst_jn] at hS156
          have hU158 : RU w B R [] true h154 am ln K ((mstI 2 (uI (uI (uI I 11 2 2) 12 2 (-1)) 40 2 0)), Q, Z) := RU_I hE157 mst_24 mst_25 mst_stn hU153
          have ep159 : (mstI 2 (uI (uI (uI I 11 2 2) 12 2 (-1)) 40 2 0)) 11 2 = 2 := (congrFun mst_11 2).trans (show (uI (uI (uI I 11 2 2) 12 2 (-1)) 40 2 0) 11 2 = 2 from rfl)
          refine go_s (pc' := 47) rfl rfl rfl rfl ?_
          refine go_s (pc' := 48) (st' := [.int 2, .ref 62]) rfl rfl rfl rfl ?_
          refine go_s (pc' := 49) rfl rfl rfl rfl ?_
          refine go_s (pc' := 50) (st' := [.int 4, .ref 62]) rfl rfl rfl rfl ?_
          refine go_s (pc' := 51) rfl rfl rfl rfl ?_
          refine go_s (pc' := 52) (st' := [.int 2, .int 2, .int 4, .ref 62]) rfl rfl rfl rfl ?_
          refine go_s (pc' := 53) (st' := [.int 0, .int 4, .ref 62]) rfl rfl rfl rfl ?_
          refine go_s (pc' := 54) (st' := [.int 4, .ref 62]) rfl rfl rfl rfl ?_
          have hU160 : RU w B R [] true h154 am ln K ((mstI 2 (uI (uI (uI I 11 2 2) 12 2 (-1)) 40 2 0)), Q, Z) := RU_I (sm_e_refl (tbr am (13 * ln) 77 5088) _) (I' := (mstI 2 (uI (uI (uI I 11 2 2) 12 2 (-1)) 40 2 0))) (fun _ => rfl) (fun _ => rfl) (Nat.le_refl _) hU158
          refine go_callV (pc' := 55) rfl rfl rfl (Nat.le_of_ble_eq_true rfl) rfl (sm_o hS156 rfl) rfl rfl rfl (rs_cl hr hS156 hW (hW 77 (by decide) (by decide)) (r9 := 4) (by decide) (by decide) (by omega)) (fun r h161 q162 => ?_)
          obtain ⟨rfl, hS163, hE164⟩ := q162
          rw [clI_jn] at hS163
          obtain ⟨K9, eK9⟩ : ∃ z, z = clI K 4 424 := ⟨_, rfl⟩
          rw [← eK9] at hS163
          have f9 : rfr K K9 4 := by
            rw [eK9]
            exact clI_r (Nat.le_refl _)
          have z9 : ∀ j, j < 424 → K9 51 (424 * 4 + j) = 0 := fun j hj => by
            rw [eK9]
            exact cl_z hj
          have hR9 : RS K9 4 (fun _ => 0, [], []) := by
            rw [eK9]
            exact RS_cl
          refine go_s (pc' := 56) rfl rfl rfl rfl ?_
          refine go_ifP (t' := 61) (pc' := 57) rfl rfl rfl (fun _ => ?_) (fun (c : ¬ (¬ (2 : Int32) = 0)) => absurd (by decide) c)
          refine go_s (pc' := 62) rfl rfl rfl rfl ?_
          refine go_s (pc' := 63) rfl rfl rfl rfl ?_
          refine go_callV (pc' := 64) rfl rfl rfl (Nat.le_of_ble_eq_true rfl) rfl (sm_o hS163 rfl) rfl rfl rfl (rx_rT_2_2 hr hS163 hln hW ep159 (by omega)) (fun r h165 q166 => ?_)
          obtain ⟨rfl, hS167, hE168⟩ := q166
          have hE169 := sm_e_trans hE164 hE168
          have hU170 : RU w B R [] true h165 am ln (uI (uI K9 51 1707 ((mstI 2 (uI (uI (uI I 11 2 2) 12 2 (-1)) 40 2 0)) 17 1 + 1)) 51 1701 (-1)) ((uI (uI (mstI 2 (uI (uI (uI I 11 2 2) 12 2 (-1)) 40 2 0)) 17 1 ((mstI 2 (uI (uI (uI I 11 2 2) 12 2 (-1)) 40 2 0)) 17 1 + 1)) 18 1 0), Q, uZ Z 4 (rwT ((mstI 2 (uI (uI (uI I 11 2 2) 12 2 (-1)) 40 2 0)) 17 1 + 1))) := RU_row (K' := (uI (uI K9 51 1707 ((mstI 2 (uI (uI (uI I 11 2 2) 12 2 (-1)) 40 2 0)) 17 1 + 1)) 51 1701 (-1))) (s := (rwT ((mstI 2 (uI (uI (uI I 11 2 2) 12 2 (-1)) 40 2 0)) 17 1 + 1))) (by decide) (fun c j hc hn => by
            rw [← f9 c j hn]
            simp only [uI]
            rw [if_neg (by omega), if_neg (by omega)]) (⟨fun h => absurd h (by decide), fun _ j hj => by
            match j, hj with
            | 0, _ => (repeat (first | rw [uI_e (by decide)] | rw [uI_j (by decide)])) <;> first | rfl | exact z9 0 (by decide)
            | 1, _ => (repeat (first | rw [uI_e (by decide)] | rw [uI_j (by decide)])) <;> first | rfl | exact z9 1 (by decide)
            | 2, _ => (repeat (first | rw [uI_e (by decide)] | rw [uI_j (by decide)])) <;> first | rfl | exact z9 2 (by decide)
            | 3, _ => (repeat (first | rw [uI_e (by decide)] | rw [uI_j (by decide)])) <;> first | rfl | exact z9 3 (by decide)
            | 4, _ => (repeat (first | rw [uI_e (by decide)] | rw [uI_j (by decide)])) <;> first | rfl | exact z9 4 (by decide)
            | 5, _ => (repeat (first | rw [uI_e (by decide)] | rw [uI_j (by decide)])) <;> first | rfl | exact z9 5 (by decide)
            | 6, _ => (repeat (first | rw [uI_e (by decide)] | rw [uI_j (by decide)])) <;> first | rfl | exact z9 6 (by decide)
            | 7, _ => (repeat (first | rw [uI_e (by decide)] | rw [uI_j (by decide)])) <;> first | rfl | exact z9 7 (by decide)
            | 8, _ => (repeat (first | rw [uI_e (by decide)] | rw [uI_j (by decide)])) <;> first | rfl | exact z9 8 (by decide)
            | 9, _ => (repeat (first | rw [uI_e (by decide)] | rw [uI_j (by decide)])) <;> first | rfl | exact z9 9 (by decide)
            | 10, _ => (repeat (first | rw [uI_e (by decide)] | rw [uI_j (by decide)])) <;> first | rfl | exact z9 10 (by decide)
            | 11, _ => (repeat (first | rw [uI_e (by decide)] | rw [uI_j (by decide)])) <;> first | rfl | exact z9 11 (by decide)⟩) (RU_I hE169 (I' := (uI (uI (mstI 2 (uI (uI (uI I 11 2 2) 12 2 (-1)) 40 2 0)) 17 1 ((mstI 2 (uI (uI (uI I 11 2 2) 12 2 (-1)) 40 2 0)) 17 1 + 1)) 18 1 0)) (fun _ => rfl) (fun _ => rfl) (Nat.le_refl _) hU160)
          have hN : rrsN 2 (I, Q, Z) = ((uI (uI (mstI 2 (uI (uI (uI I 11 2 2) 12 2 (-1)) 40 2 0)) 17 1 ((mstI 2 (uI (uI (uI I 11 2 2) 12 2 (-1)) 40 2 0)) 17 1 + 1)) 18 1 0), Q, (uZ Z 4 (rwT ((mstI 2 (uI (uI (uI I 11 2 2) 12 2 (-1)) 40 2 0)) 17 1 + 1)))) := by
            unfold rrsN rrs1
            rw [if_neg (by decide), if_neg (by decide), show fup ((I, Q, Z) : mM).1 2 = 2 from hf]
            unfold rrsT
            rw [show rwi (((uI (uI (uI I 11 2 2) 12 2 (-1)) 40 2 0), Q, Z) : mM).1 2 = 4 from rwi_l (v := 2) rfl (by decide)]
            rw [uI_x (c := 18) (c' := 16) (by decide), uI_x (c := 17) (c' := 16) (by decide), show mstI 2 (uI (uI (uI I 11 2 2) 12 2 (-1)) 40 2 0) = uI (uI (uI (uI I 11 2 2) 12 2 (-1)) 40 2 0) 16 2 0 from if_neg (by decide)]
            rfl
          have hMN := MID_rN (k := 2) (by omega) hM (by decide) c142 (show ¬ fup I 2 = -1 by rw [hf]; decide) (fun z => absurd z (by decide))
          have hnc : ¬ (¬ ((I, Q, Z) : mM).1 11 2 = -1 ∨ fup ((I, Q, Z) : mM).1 (if 2 = 0 then 0 else 2) = -1 ∨ (2 = 0 ∧ chs ((I, Q, Z) : mM).1 = -1)) := fun z => z.elim (fun y => y c142) (fun z => z.elim (fun y => absurd (hf.symm.trans y) (by decide)) (fun y => absurd y.1 (by decide)))
          refine go_s (pc' := 65) rfl rfl rfl rfl ?_
          refine go_sget (pc' := 66) (v := .ref 63) hS167 rfl rfl rfl (by decide) rfl rfl ?_
          refine go_s (pc' := 67) rfl rfl rfl rfl ?_
          refine go_callS (pc' := 68) rfl rfl rfl (Nat.le_of_ble_eq_true rfl) rfl rfl rfl (rt_oh_2 (by omega)) (fun r h171 q172 => ?_)
          obtain ⟨rfl, rfl⟩ := q172
          refine go_sald (pc' := 69) (q := 3) (v := .int ((uI (uI (mstI 2 (uI (uI (uI I 11 2 2) 12 2 (-1)) 40 2 0)) 17 1 ((mstI 2 (uI (uI (uI I 11 2 2) 12 2 (-1)) 40 2 0)) 17 1 + 1)) 18 1 0) 0 3)) hS167 rfl (tr_s hr (a := 63) rfl (by decide)) rfl rfl (by decide) rfl rfl ?_
          refine go_ifP (t' := 73) (pc' := 70) rfl rfl rfl (fun (c173 : ((uI (uI (mstI 2 (uI (uI (uI I 11 2 2) 12 2 (-1)) 40 2 0)) 17 1 ((mstI 2 (uI (uI (uI I 11 2 2) 12 2 (-1)) 40 2 0)) 17 1 + 1)) 18 1 0) 0 3) = 0) => ?_) (fun (c173 : ¬ ((uI (uI (mstI 2 (uI (uI (uI I 11 2 2) 12 2 (-1)) 40 2 0)) 17 1 ((mstI 2 (uI (uI (uI I 11 2 2) 12 2 (-1)) 40 2 0)) 17 1 + 1)) 18 1 0) 0 3) = 0) => ?_)
          · skip
            refine go_ret rfl rfl ?_
            have hA174 : RA w B R [] true h171 ((uI (uI (mstI 2 (uI (uI (uI I 11 2 2) 12 2 (-1)) 40 2 0)) 17 1 ((mstI 2 (uI (uI (uI I 11 2 2) 12 2 (-1)) 40 2 0)) 17 1 + 1)) 18 1 0), Q, (uZ Z 4 (rwT ((mstI 2 (uI (uI (uI I 11 2 2) 12 2 (-1)) 40 2 0)) 17 1 + 1)))) := RA_u.mpr ⟨_, _, _, _, hS167, hU170⟩
            have hms : rrs 2 (I, Q, Z) = ((uI (uI (mstI 2 (uI (uI (uI I 11 2 2) 12 2 (-1)) 40 2 0)) 17 1 ((mstI 2 (uI (uI (uI I 11 2 2) 12 2 (-1)) 40 2 0)) 17 1 + 1)) 18 1 0), Q, (uZ Z 4 (rwT ((mstI 2 (uI (uI (uI I 11 2 2) 12 2 (-1)) 40 2 0)) 17 1 + 1)))) := by
              unfold rrs
              rw [if_neg hnc, hN, show ohn (((uI (uI (mstI 2 (uI (uI (uI I 11 2 2) 12 2 (-1)) 40 2 0)) 17 1 ((mstI 2 (uI (uI (uI I 11 2 2) 12 2 (-1)) 40 2 0)) 17 1 + 1)) 18 1 0), Q, (uZ Z 4 (rwT ((mstI 2 (uI (uI (uI I 11 2 2) 12 2 (-1)) 40 2 0)) 17 1 + 1)))) : mM).1 2 = 3 from ohn_l (v := 2) (show (uI (uI (mstI 2 (uI (uI (uI I 11 2 2) 12 2 (-1)) 40 2 0)) 17 1 ((mstI 2 (uI (uI (uI I 11 2 2) 12 2 (-1)) 40 2 0)) 17 1 + 1)) 18 1 0) 11 2 = 2 from ep159) (by decide)]
              exact if_pos c173
            rw [hms]
            exact ⟨rfl, RA_R (by omega) hA174⟩
          · skip
            refine go_s (pc' := 71) rfl rfl rfl rfl ?_
            refine go_s (pc' := 72) rfl rfl rfl rfl ?_
            have h5 : sq Q + hc [] true ≤ 5 := by
              have z := hMN.2
              rw [hN] at z
              have z2 : sq Q ≤ 5 := z
              have z3 : hc [] true = 0 := rfl
              omega
            have hU175 : RU w B R [] true h171 am ln (uI (uI K9 51 1707 ((mstI 2 (uI (uI (uI I 11 2 2) 12 2 (-1)) 40 2 0)) 17 1 + 1)) 51 1701 (-1)) ((uI (uI (mstI 2 (uI (uI (uI I 11 2 2) 12 2 (-1)) 40 2 0)) 17 1 ((mstI 2 (uI (uI (uI I 11 2 2) 12 2 (-1)) 40 2 0)) 17 1 + 1)) 18 1 0), Q, (uZ Z 4 (rwT ((mstI 2 (uI (uI (uI I 11 2 2) 12 2 (-1)) 40 2 0)) 17 1 + 1)))) := RU_I (sm_e_refl (tbr am (13 * ln) 77 5088) _) (I' := (uI (uI (mstI 2 (uI (uI (uI I 11 2 2) 12 2 (-1)) 40 2 0)) 17 1 ((mstI 2 (uI (uI (uI I 11 2 2) 12 2 (-1)) 40 2 0)) 17 1 + 1)) 18 1 0)) (fun _ => rfl) (fun _ => rfl) (Nat.le_refl _) hU170
            have hA176 : RA w B R [] true h171 ((uI (uI (mstI 2 (uI (uI (uI I 11 2 2) 12 2 (-1)) 40 2 0)) 17 1 ((mstI 2 (uI (uI (uI I 11 2 2) 12 2 (-1)) 40 2 0)) 17 1 + 1)) 18 1 0), Q, (uZ Z 4 (rwT ((mstI 2 (uI (uI (uI I 11 2 2) 12 2 (-1)) 40 2 0)) 17 1 + 1)))) := RA_u.mpr ⟨_, _, _, _, hS167, hU175⟩
            refine go_callV (pc' := 73) rfl rfl rfl (Nat.le_of_ble_eq_true rfl) rfl (sm_o hS167 rfl) rfl rfl rfl (ra_sc_2 hA176 (by omega) (Or.inr (Or.inl (show (uI (uI (mstI 2 (uI (uI (uI I 11 2 2) 12 2 (-1)) 40 2 0)) 17 1 ((mstI 2 (uI (uI (uI I 11 2 2) 12 2 (-1)) 40 2 0)) 17 1 + 1)) 18 1 0) 11 2 = 2 from ep159))) (fun z => absurd ((show (uI (uI (mstI 2 (uI (uI (uI I 11 2 2) 12 2 (-1)) 40 2 0)) 17 1 ((mstI 2 (uI (uI (uI I 11 2 2) 12 2 (-1)) 40 2 0)) 17 1 + 1)) 18 1 0) 11 2 = 2 from ep159).symm.trans z) (by decide)) h5 (by omega)) (fun r h177 q178 => ?_)
            obtain ⟨rfl, hA179⟩ := q178
            refine go_ret rfl rfl ?_
            have hms : rrs 2 (I, Q, Z) = rsc 2 ((uI (uI (mstI 2 (uI (uI (uI I 11 2 2) 12 2 (-1)) 40 2 0)) 17 1 ((mstI 2 (uI (uI (uI I 11 2 2) 12 2 (-1)) 40 2 0)) 17 1 + 1)) 18 1 0), Q, (uZ Z 4 (rwT ((mstI 2 (uI (uI (uI I 11 2 2) 12 2 (-1)) 40 2 0)) 17 1 + 1)))) := by
              unfold rrs
              rw [if_neg hnc, hN, show ohn (((uI (uI (mstI 2 (uI (uI (uI I 11 2 2) 12 2 (-1)) 40 2 0)) 17 1 ((mstI 2 (uI (uI (uI I 11 2 2) 12 2 (-1)) 40 2 0)) 17 1 + 1)) 18 1 0), Q, (uZ Z 4 (rwT ((mstI 2 (uI (uI (uI I 11 2 2) 12 2 (-1)) 40 2 0)) 17 1 + 1)))) : mM).1 2 = 3 from ohn_l (v := 2) (show (uI (uI (mstI 2 (uI (uI (uI I 11 2 2) 12 2 (-1)) 40 2 0)) 17 1 ((mstI 2 (uI (uI (uI I 11 2 2) 12 2 (-1)) 40 2 0)) 17 1 + 1)) 18 1 0) 11 2 = 2 from ep159) (by decide)]
              exact if_neg c173
            rw [hms]
            exact ⟨rfl, hA179⟩
      · skip
        show am_Go _ _ _ _ 13 _ [.int 1] _ _
        refine go_ifP (t' := 16) (pc' := 14) rfl rfl rfl (fun (c : (1 : Int32) = 0) => absurd c (by decide)) (fun _ => ?_)
        refine go_s (pc' := 15) (st' := [.int 1]) rfl rfl rfl rfl ?_
        refine go_s (pc' := 17) rfl rfl rfl rfl ?_
        refine go_s (pc' := 18) (lo' := [some (.ref 62), some (.int 2), some (.int 2), some (.int 1)]) rfl rfl rfl rfl ?_
        refine go_s (pc' := 19) rfl rfl rfl rfl ?_
        refine go_sget (pc' := 20) (v := .ref 78) hS rfl rfl rfl (by decide) rfl rfl ?_
        refine go_s (pc' := 21) rfl rfl rfl rfl ?_
        refine go_sald (pc' := 22) (q := 2) (v := .int (I 11 2)) hS rfl (tr_s hr (a := 78) rfl (by decide)) rfl rfl (by decide) rfl rfl ?_
        refine go_s (pc' := 23) (st' := [.int (-1), .int (I 11 2)]) rfl rfl rfl rfl ?_
        refine go_icmpP (t' := 32) (pc' := 24) rfl rfl rfl (fun (c180 : ¬ (I 11 2) = (-1)) => ?_) (fun (c180' : ¬ ¬ (I 11 2) = (-1)) => ?_)
        · skip
          refine go_ret rfl rfl ?_
          have hms : rrs 2 (I, Q, Z) = (I, Q, Z) := if_pos (Or.inl c180)
          rw [hms]
          exact ⟨rfl, RA_R (by omega) hA⟩
        · skip
          have c180 : (I 11 2) = (-1) := Decidable.not_not.mp c180'
          refine go_s (pc' := 25) rfl rfl rfl rfl ?_
          refine go_s (pc' := 26) (st' := [.int (-1), .int 2]) rfl rfl rfl rfl ?_
          refine go_icmpP (t' := 32) (pc' := 27) rfl rfl rfl (fun (c : (2 : Int32) = (-1)) => absurd c (by decide)) (fun _ => ?_)
          refine go_s (pc' := 28) rfl rfl rfl rfl ?_
          refine go_ifP (t' := 33) (pc' := 29) rfl rfl rfl (fun _ => ?_) (fun (c : ¬ (¬ (2 : Int32) = 0)) => absurd (by decide) c)
          refine go_s (pc' := 34) rfl rfl rfl rfl ?_
          refine go_sget (pc' := 35) (v := .ref 78) hS rfl rfl rfl (by decide) rfl rfl ?_
          refine go_s (pc' := 36) rfl rfl rfl rfl ?_
          refine go_s (pc' := 37) rfl rfl rfl rfl ?_
          refine go_siast (pc' := 38) (q := 2) hS rfl (tr_s hr (a := 78) rfl (by decide)) tbr_inj (Nat.le_of_ble_eq_true rfl) rfl (by decide) (by decide) (hW _ (by decide) (by decide)) rfl (fun h181 hS182 hE183 => ?_)
          refine go_s (pc' := 39) rfl rfl rfl rfl ?_
          refine go_sget (pc' := 40) (v := .ref 79) hS182 rfl rfl rfl (by decide) rfl rfl ?_
          refine go_s (pc' := 41) rfl rfl rfl rfl ?_
          refine go_s (pc' := 42) (st' := [.int (-1), .int 2, .ref 79]) rfl rfl rfl rfl ?_
          refine go_siast (pc' := 43) (q := 2) hS182 rfl (tr_s hr (a := 79) rfl (by decide)) tbr_inj (Nat.le_of_ble_eq_true rfl) rfl (by decide) (by decide) (hW _ (by decide) (by decide)) rfl (fun h184 hS185 hE186 => ?_)
          have hE187 := sm_e_trans hE183 hE186
          change sm (tbr am (13 * ln) 77 5088) _ (uI (uI (jn I K) 11 2 2) 12 2 (-1)) Y at hS185
          rw [jn_lo (c := 11) (by decide), jn_lo (c := 12) (by decide)] at hS185
          have hU188 : RU w B R [] true h184 am ln K ((uI (uI I 11 2 2) 12 2 (-1)), Q, Z) := RU_I (hE187) (I' := (uI (uI I 11 2 2) 12 2 (-1))) (fun _ => rfl) (fun _ => rfl) (Nat.le_refl _) hU
          have hS189 : sm (tbr am (13 * ln) 77 5088) _ (jn (uI (uI (uI I 11 2 2) 12 2 (-1)) 40 2 0) K) Y := sm_jg hr hS185 (fun c j _ n1 n2 n3 => uI_c n3)
          have hU190 : RU w B R [] true h184 am ln K ((uI (uI (uI I 11 2 2) 12 2 (-1)) 40 2 0), Q, Z) := RU_I (sm_e_refl (tbr am (13 * ln) 77 5088) _) (fun _ => rfl) (fun _ => rfl) (Nat.le_refl _) hU188
          refine go_s (pc' := 44) rfl rfl rfl rfl ?_
          refine go_s (pc' := 45) rfl rfl rfl rfl ?_
          have hU191 : RU w B R [] true h184 am ln K ((uI (uI (uI I 11 2 2) 12 2 (-1)) 40 2 0), Q, Z) := RU_I (sm_e_refl (tbr am (13 * ln) 77 5088) _) (I' := (uI (uI (uI I 11 2 2) 12 2 (-1)) 40 2 0)) (fun _ => rfl) (fun _ => rfl) (Nat.le_refl _) hU190
          refine go_callV (pc' := 46) rfl rfl rfl (Nat.le_of_ble_eq_true rfl) rfl (sm_o hS189 rfl) rfl rfl rfl (rt_stops_2 hr hS189 hW (by omega)) (fun r h192 q193 => ?_)
          obtain ⟨rfl, hS194, hE195⟩ := q193
          change sm (tbr am (13 * ln) 77 5088) _ (mstI 2 (jn (uI (uI (uI I 11 2 2) 12 2 (-1)) 40 2 0) K)) Y at hS194
          rw [mst_jn] at hS194
          have hU196 : RU w B R [] true h192 am ln K ((mstI 2 (uI (uI (uI I 11 2 2) 12 2 (-1)) 40 2 0)), Q, Z) := RU_I hE195 mst_24 mst_25 mst_stn hU191
          have ep197 : (mstI 2 (uI (uI (uI I 11 2 2) 12 2 (-1)) 40 2 0)) 11 2 = 2 := (congrFun mst_11 2).trans (show (uI (uI (uI I 11 2 2) 12 2 (-1)) 40 2 0) 11 2 = 2 from rfl)
          refine go_s (pc' := 47) rfl rfl rfl rfl ?_
          refine go_s (pc' := 48) (st' := [.int 2, .ref 62]) rfl rfl rfl rfl ?_
          refine go_s (pc' := 49) rfl rfl rfl rfl ?_
          refine go_s (pc' := 50) (st' := [.int 4, .ref 62]) rfl rfl rfl rfl ?_
          refine go_s (pc' := 51) rfl rfl rfl rfl ?_
          refine go_s (pc' := 52) (st' := [.int 2, .int 2, .int 4, .ref 62]) rfl rfl rfl rfl ?_
          refine go_s (pc' := 53) (st' := [.int 0, .int 4, .ref 62]) rfl rfl rfl rfl ?_
          refine go_s (pc' := 54) (st' := [.int 4, .ref 62]) rfl rfl rfl rfl ?_
          have hU198 : RU w B R [] true h192 am ln K ((mstI 2 (uI (uI (uI I 11 2 2) 12 2 (-1)) 40 2 0)), Q, Z) := RU_I (sm_e_refl (tbr am (13 * ln) 77 5088) _) (I' := (mstI 2 (uI (uI (uI I 11 2 2) 12 2 (-1)) 40 2 0))) (fun _ => rfl) (fun _ => rfl) (Nat.le_refl _) hU196
          refine go_callV (pc' := 55) rfl rfl rfl (Nat.le_of_ble_eq_true rfl) rfl (sm_o hS194 rfl) rfl rfl rfl (rs_cl hr hS194 hW (hW 77 (by decide) (by decide)) (r9 := 4) (by decide) (by decide) (by omega)) (fun r h199 q200 => ?_)
          obtain ⟨rfl, hS201, hE202⟩ := q200
          rw [clI_jn] at hS201
          obtain ⟨K9, eK9⟩ : ∃ z, z = clI K 4 424 := ⟨_, rfl⟩
          rw [← eK9] at hS201
          have f9 : rfr K K9 4 := by
            rw [eK9]
            exact clI_r (Nat.le_refl _)
          have z9 : ∀ j, j < 424 → K9 51 (424 * 4 + j) = 0 := fun j hj => by
            rw [eK9]
            exact cl_z hj
          have hR9 : RS K9 4 (fun _ => 0, [], []) := by
            rw [eK9]
            exact RS_cl
          refine go_s (pc' := 56) rfl rfl rfl rfl ?_
          refine go_ifP (t' := 61) (pc' := 57) rfl rfl rfl (fun _ => ?_) (fun (c : ¬ (¬ (2 : Int32) = 0)) => absurd (by decide) c)
          refine go_s (pc' := 62) rfl rfl rfl rfl ?_
          refine go_s (pc' := 63) rfl rfl rfl rfl ?_
          refine go_callV (pc' := 64) rfl rfl rfl (Nat.le_of_ble_eq_true rfl) rfl (sm_o hS201 rfl) rfl rfl rfl (rx_rT_2_2 hr hS201 hln hW ep197 (by omega)) (fun r h203 q204 => ?_)
          obtain ⟨rfl, hS205, hE206⟩ := q204
          have hE207 := sm_e_trans hE202 hE206
          have hU208 : RU w B R [] true h203 am ln (uI (uI K9 51 1707 ((mstI 2 (uI (uI (uI I 11 2 2) 12 2 (-1)) 40 2 0)) 17 1 + 1)) 51 1701 (-1)) ((uI (uI (mstI 2 (uI (uI (uI I 11 2 2) 12 2 (-1)) 40 2 0)) 17 1 ((mstI 2 (uI (uI (uI I 11 2 2) 12 2 (-1)) 40 2 0)) 17 1 + 1)) 18 1 0), Q, uZ Z 4 (rwT ((mstI 2 (uI (uI (uI I 11 2 2) 12 2 (-1)) 40 2 0)) 17 1 + 1))) := RU_row (K' := (uI (uI K9 51 1707 ((mstI 2 (uI (uI (uI I 11 2 2) 12 2 (-1)) 40 2 0)) 17 1 + 1)) 51 1701 (-1))) (s := (rwT ((mstI 2 (uI (uI (uI I 11 2 2) 12 2 (-1)) 40 2 0)) 17 1 + 1))) (by decide) (fun c j hc hn => by
            rw [← f9 c j hn]
            simp only [uI]
            rw [if_neg (by omega), if_neg (by omega)]) (⟨fun h => absurd h (by decide), fun _ j hj => by
            match j, hj with
            | 0, _ => (repeat (first | rw [uI_e (by decide)] | rw [uI_j (by decide)])) <;> first | rfl | exact z9 0 (by decide)
            | 1, _ => (repeat (first | rw [uI_e (by decide)] | rw [uI_j (by decide)])) <;> first | rfl | exact z9 1 (by decide)
            | 2, _ => (repeat (first | rw [uI_e (by decide)] | rw [uI_j (by decide)])) <;> first | rfl | exact z9 2 (by decide)
            | 3, _ => (repeat (first | rw [uI_e (by decide)] | rw [uI_j (by decide)])) <;> first | rfl | exact z9 3 (by decide)
            | 4, _ => (repeat (first | rw [uI_e (by decide)] | rw [uI_j (by decide)])) <;> first | rfl | exact z9 4 (by decide)
            | 5, _ => (repeat (first | rw [uI_e (by decide)] | rw [uI_j (by decide)])) <;> first | rfl | exact z9 5 (by decide)
            | 6, _ => (repeat (first | rw [uI_e (by decide)] | rw [uI_j (by decide)])) <;> first | rfl | exact z9 6 (by decide)
            | 7, _ => (repeat (first | rw [uI_e (by decide)] | rw [uI_j (by decide)])) <;> first | rfl | exact z9 7 (by decide)
            | 8, _ => (repeat (first | rw [uI_e (by decide)] | rw [uI_j (by decide)])) <;> first | rfl | exact z9 8 (by decide)
            | 9, _ => (repeat (first | rw [uI_e (by decide)] | rw [uI_j (by decide)])) <;> first | rfl | exact z9 9 (by decide)
            | 10, _ => (repeat (first | rw [uI_e (by decide)] | rw [uI_j (by decide)])) <;> first | rfl | exact z9 10 (by decide)
            | 11, _ => (repeat (first | rw [uI_e (by decide)] | rw [uI_j (by decide)])) <;> first | rfl | exact z9 11 (by decide)⟩) (RU_I hE207 (I' := (uI (uI (mstI 2 (uI (uI (uI I 11 2 2) 12 2 (-1)) 40 2 0)) 17 1 ((mstI 2 (uI (uI (uI I 11 2 2) 12 2 (-1)) 40 2 0)) 17 1 + 1)) 18 1 0)) (fun _ => rfl) (fun _ => rfl) (Nat.le_refl _) hU198)
          have hN : rrsN 2 (I, Q, Z) = ((uI (uI (mstI 2 (uI (uI (uI I 11 2 2) 12 2 (-1)) 40 2 0)) 17 1 ((mstI 2 (uI (uI (uI I 11 2 2) 12 2 (-1)) 40 2 0)) 17 1 + 1)) 18 1 0), Q, (uZ Z 4 (rwT ((mstI 2 (uI (uI (uI I 11 2 2) 12 2 (-1)) 40 2 0)) 17 1 + 1)))) := by
            unfold rrsN rrs1
            rw [if_neg (by decide), if_neg (by decide), show fup ((I, Q, Z) : mM).1 2 = 2 from hf]
            unfold rrsT
            rw [show rwi (((uI (uI (uI I 11 2 2) 12 2 (-1)) 40 2 0), Q, Z) : mM).1 2 = 4 from rwi_l (v := 2) rfl (by decide)]
            rw [uI_x (c := 18) (c' := 16) (by decide), uI_x (c := 17) (c' := 16) (by decide), show mstI 2 (uI (uI (uI I 11 2 2) 12 2 (-1)) 40 2 0) = uI (uI (uI (uI I 11 2 2) 12 2 (-1)) 40 2 0) 16 2 0 from if_neg (by decide)]
            rfl
          have hMN := MID_rN (k := 2) (by omega) hM (by decide) c180 (show ¬ fup I 2 = -1 by rw [hf]; decide) (fun z => absurd z (by decide))
          have hnc : ¬ (¬ ((I, Q, Z) : mM).1 11 2 = -1 ∨ fup ((I, Q, Z) : mM).1 (if 2 = 0 then 0 else 2) = -1 ∨ (2 = 0 ∧ chs ((I, Q, Z) : mM).1 = -1)) := fun z => z.elim (fun y => y c180) (fun z => z.elim (fun y => absurd (hf.symm.trans y) (by decide)) (fun y => absurd y.1 (by decide)))
          refine go_s (pc' := 65) rfl rfl rfl rfl ?_
          refine go_sget (pc' := 66) (v := .ref 63) hS205 rfl rfl rfl (by decide) rfl rfl ?_
          refine go_s (pc' := 67) rfl rfl rfl rfl ?_
          refine go_callS (pc' := 68) rfl rfl rfl (Nat.le_of_ble_eq_true rfl) rfl rfl rfl (rt_oh_2 (by omega)) (fun r h209 q210 => ?_)
          obtain ⟨rfl, rfl⟩ := q210
          refine go_sald (pc' := 69) (q := 3) (v := .int ((uI (uI (mstI 2 (uI (uI (uI I 11 2 2) 12 2 (-1)) 40 2 0)) 17 1 ((mstI 2 (uI (uI (uI I 11 2 2) 12 2 (-1)) 40 2 0)) 17 1 + 1)) 18 1 0) 0 3)) hS205 rfl (tr_s hr (a := 63) rfl (by decide)) rfl rfl (by decide) rfl rfl ?_
          refine go_ifP (t' := 73) (pc' := 70) rfl rfl rfl (fun (c211 : ((uI (uI (mstI 2 (uI (uI (uI I 11 2 2) 12 2 (-1)) 40 2 0)) 17 1 ((mstI 2 (uI (uI (uI I 11 2 2) 12 2 (-1)) 40 2 0)) 17 1 + 1)) 18 1 0) 0 3) = 0) => ?_) (fun (c211 : ¬ ((uI (uI (mstI 2 (uI (uI (uI I 11 2 2) 12 2 (-1)) 40 2 0)) 17 1 ((mstI 2 (uI (uI (uI I 11 2 2) 12 2 (-1)) 40 2 0)) 17 1 + 1)) 18 1 0) 0 3) = 0) => ?_)
          · skip
            refine go_ret rfl rfl ?_
            have hA212 : RA w B R [] true h209 ((uI (uI (mstI 2 (uI (uI (uI I 11 2 2) 12 2 (-1)) 40 2 0)) 17 1 ((mstI 2 (uI (uI (uI I 11 2 2) 12 2 (-1)) 40 2 0)) 17 1 + 1)) 18 1 0), Q, (uZ Z 4 (rwT ((mstI 2 (uI (uI (uI I 11 2 2) 12 2 (-1)) 40 2 0)) 17 1 + 1)))) := RA_u.mpr ⟨_, _, _, _, hS205, hU208⟩
            have hms : rrs 2 (I, Q, Z) = ((uI (uI (mstI 2 (uI (uI (uI I 11 2 2) 12 2 (-1)) 40 2 0)) 17 1 ((mstI 2 (uI (uI (uI I 11 2 2) 12 2 (-1)) 40 2 0)) 17 1 + 1)) 18 1 0), Q, (uZ Z 4 (rwT ((mstI 2 (uI (uI (uI I 11 2 2) 12 2 (-1)) 40 2 0)) 17 1 + 1)))) := by
              unfold rrs
              rw [if_neg hnc, hN, show ohn (((uI (uI (mstI 2 (uI (uI (uI I 11 2 2) 12 2 (-1)) 40 2 0)) 17 1 ((mstI 2 (uI (uI (uI I 11 2 2) 12 2 (-1)) 40 2 0)) 17 1 + 1)) 18 1 0), Q, (uZ Z 4 (rwT ((mstI 2 (uI (uI (uI I 11 2 2) 12 2 (-1)) 40 2 0)) 17 1 + 1)))) : mM).1 2 = 3 from ohn_l (v := 2) (show (uI (uI (mstI 2 (uI (uI (uI I 11 2 2) 12 2 (-1)) 40 2 0)) 17 1 ((mstI 2 (uI (uI (uI I 11 2 2) 12 2 (-1)) 40 2 0)) 17 1 + 1)) 18 1 0) 11 2 = 2 from ep197) (by decide)]
              exact if_pos c211
            rw [hms]
            exact ⟨rfl, RA_R (by omega) hA212⟩
          · skip
            refine go_s (pc' := 71) rfl rfl rfl rfl ?_
            refine go_s (pc' := 72) rfl rfl rfl rfl ?_
            have h5 : sq Q + hc [] true ≤ 5 := by
              have z := hMN.2
              rw [hN] at z
              have z2 : sq Q ≤ 5 := z
              have z3 : hc [] true = 0 := rfl
              omega
            have hU213 : RU w B R [] true h209 am ln (uI (uI K9 51 1707 ((mstI 2 (uI (uI (uI I 11 2 2) 12 2 (-1)) 40 2 0)) 17 1 + 1)) 51 1701 (-1)) ((uI (uI (mstI 2 (uI (uI (uI I 11 2 2) 12 2 (-1)) 40 2 0)) 17 1 ((mstI 2 (uI (uI (uI I 11 2 2) 12 2 (-1)) 40 2 0)) 17 1 + 1)) 18 1 0), Q, (uZ Z 4 (rwT ((mstI 2 (uI (uI (uI I 11 2 2) 12 2 (-1)) 40 2 0)) 17 1 + 1)))) := RU_I (sm_e_refl (tbr am (13 * ln) 77 5088) _) (I' := (uI (uI (mstI 2 (uI (uI (uI I 11 2 2) 12 2 (-1)) 40 2 0)) 17 1 ((mstI 2 (uI (uI (uI I 11 2 2) 12 2 (-1)) 40 2 0)) 17 1 + 1)) 18 1 0)) (fun _ => rfl) (fun _ => rfl) (Nat.le_refl _) hU208
            have hA214 : RA w B R [] true h209 ((uI (uI (mstI 2 (uI (uI (uI I 11 2 2) 12 2 (-1)) 40 2 0)) 17 1 ((mstI 2 (uI (uI (uI I 11 2 2) 12 2 (-1)) 40 2 0)) 17 1 + 1)) 18 1 0), Q, (uZ Z 4 (rwT ((mstI 2 (uI (uI (uI I 11 2 2) 12 2 (-1)) 40 2 0)) 17 1 + 1)))) := RA_u.mpr ⟨_, _, _, _, hS205, hU213⟩
            refine go_callV (pc' := 73) rfl rfl rfl (Nat.le_of_ble_eq_true rfl) rfl (sm_o hS205 rfl) rfl rfl rfl (ra_sc_2 hA214 (by omega) (Or.inr (Or.inl (show (uI (uI (mstI 2 (uI (uI (uI I 11 2 2) 12 2 (-1)) 40 2 0)) 17 1 ((mstI 2 (uI (uI (uI I 11 2 2) 12 2 (-1)) 40 2 0)) 17 1 + 1)) 18 1 0) 11 2 = 2 from ep197))) (fun z => absurd ((show (uI (uI (mstI 2 (uI (uI (uI I 11 2 2) 12 2 (-1)) 40 2 0)) 17 1 ((mstI 2 (uI (uI (uI I 11 2 2) 12 2 (-1)) 40 2 0)) 17 1 + 1)) 18 1 0) 11 2 = 2 from ep197).symm.trans z) (by decide)) h5 (by omega)) (fun r h215 q216 => ?_)
            obtain ⟨rfl, hA217⟩ := q216
            refine go_ret rfl rfl ?_
            have hms : rrs 2 (I, Q, Z) = rsc 2 ((uI (uI (mstI 2 (uI (uI (uI I 11 2 2) 12 2 (-1)) 40 2 0)) 17 1 ((mstI 2 (uI (uI (uI I 11 2 2) 12 2 (-1)) 40 2 0)) 17 1 + 1)) 18 1 0), Q, (uZ Z 4 (rwT ((mstI 2 (uI (uI (uI I 11 2 2) 12 2 (-1)) 40 2 0)) 17 1 + 1)))) := by
              unfold rrs
              rw [if_neg hnc, hN, show ohn (((uI (uI (mstI 2 (uI (uI (uI I 11 2 2) 12 2 (-1)) 40 2 0)) 17 1 ((mstI 2 (uI (uI (uI I 11 2 2) 12 2 (-1)) 40 2 0)) 17 1 + 1)) 18 1 0), Q, (uZ Z 4 (rwT ((mstI 2 (uI (uI (uI I 11 2 2) 12 2 (-1)) 40 2 0)) 17 1 + 1)))) : mM).1 2 = 3 from ohn_l (v := 2) (show (uI (uI (mstI 2 (uI (uI (uI I 11 2 2) 12 2 (-1)) 40 2 0)) 17 1 ((mstI 2 (uI (uI (uI I 11 2 2) 12 2 (-1)) 40 2 0)) 17 1 + 1)) 18 1 0) 11 2 = 2 from ep197) (by decide)]
              exact if_neg c211
            rw [hms]
            exact ⟨rfl, hA217⟩
    · skip
      show am_Go _ _ _ _ 7 _ [.int 1] _ _
      refine go_ifP (t' := 10) (pc' := 8) rfl rfl rfl (fun (c : (1 : Int32) = 0) => absurd c (by decide)) (fun _ => ?_)
      refine go_s (pc' := 9) (st' := [.int 0]) rfl rfl rfl rfl ?_
      refine go_s (pc' := 17) rfl rfl rfl rfl ?_
      refine go_s (pc' := 18) (lo' := [some (.ref 62), some (.int 2), some (.int 2), some (.int 0)]) rfl rfl rfl rfl ?_
      refine go_s (pc' := 19) rfl rfl rfl rfl ?_
      refine go_sget (pc' := 20) (v := .ref 78) hS rfl rfl rfl (by decide) rfl rfl ?_
      refine go_s (pc' := 21) rfl rfl rfl rfl ?_
      refine go_sald (pc' := 22) (q := 2) (v := .int (I 11 2)) hS rfl (tr_s hr (a := 78) rfl (by decide)) rfl rfl (by decide) rfl rfl ?_
      refine go_s (pc' := 23) (st' := [.int (-1), .int (I 11 2)]) rfl rfl rfl rfl ?_
      refine go_icmpP (t' := 32) (pc' := 24) rfl rfl rfl (fun (c218 : ¬ (I 11 2) = (-1)) => ?_) (fun (c218' : ¬ ¬ (I 11 2) = (-1)) => ?_)
      · skip
        refine go_ret rfl rfl ?_
        have hms : rrs 2 (I, Q, Z) = (I, Q, Z) := if_pos (Or.inl c218)
        rw [hms]
        exact ⟨rfl, RA_R (by omega) hA⟩
      · skip
        have c218 : (I 11 2) = (-1) := Decidable.not_not.mp c218'
        refine go_s (pc' := 25) rfl rfl rfl rfl ?_
        refine go_s (pc' := 26) (st' := [.int (-1), .int 2]) rfl rfl rfl rfl ?_
        refine go_icmpP (t' := 32) (pc' := 27) rfl rfl rfl (fun (c : (2 : Int32) = (-1)) => absurd c (by decide)) (fun _ => ?_)
        refine go_s (pc' := 28) rfl rfl rfl rfl ?_
        refine go_ifP (t' := 33) (pc' := 29) rfl rfl rfl (fun _ => ?_) (fun (c : ¬ (¬ (2 : Int32) = 0)) => absurd (by decide) c)
        refine go_s (pc' := 34) rfl rfl rfl rfl ?_
        refine go_sget (pc' := 35) (v := .ref 78) hS rfl rfl rfl (by decide) rfl rfl ?_
        refine go_s (pc' := 36) rfl rfl rfl rfl ?_
        refine go_s (pc' := 37) rfl rfl rfl rfl ?_
        refine go_siast (pc' := 38) (q := 2) hS rfl (tr_s hr (a := 78) rfl (by decide)) tbr_inj (Nat.le_of_ble_eq_true rfl) rfl (by decide) (by decide) (hW _ (by decide) (by decide)) rfl (fun h219 hS220 hE221 => ?_)
        refine go_s (pc' := 39) rfl rfl rfl rfl ?_
        refine go_sget (pc' := 40) (v := .ref 79) hS220 rfl rfl rfl (by decide) rfl rfl ?_
        refine go_s (pc' := 41) rfl rfl rfl rfl ?_
        refine go_s (pc' := 42) (st' := [.int (-1), .int 2, .ref 79]) rfl rfl rfl rfl ?_
        refine go_siast (pc' := 43) (q := 2) hS220 rfl (tr_s hr (a := 79) rfl (by decide)) tbr_inj (Nat.le_of_ble_eq_true rfl) rfl (by decide) (by decide) (hW _ (by decide) (by decide)) rfl (fun h222 hS223 hE224 => ?_)
        have hE225 := sm_e_trans hE221 hE224
        change sm (tbr am (13 * ln) 77 5088) _ (uI (uI (jn I K) 11 2 2) 12 2 (-1)) Y at hS223
        rw [jn_lo (c := 11) (by decide), jn_lo (c := 12) (by decide)] at hS223
        have hU226 : RU w B R [] true h222 am ln K ((uI (uI I 11 2 2) 12 2 (-1)), Q, Z) := RU_I (hE225) (I' := (uI (uI I 11 2 2) 12 2 (-1))) (fun _ => rfl) (fun _ => rfl) (Nat.le_refl _) hU
        have hS227 : sm (tbr am (13 * ln) 77 5088) _ (jn (uI (uI (uI I 11 2 2) 12 2 (-1)) 40 2 0) K) Y := sm_jg hr hS223 (fun c j _ n1 n2 n3 => uI_c n3)
        have hU228 : RU w B R [] true h222 am ln K ((uI (uI (uI I 11 2 2) 12 2 (-1)) 40 2 0), Q, Z) := RU_I (sm_e_refl (tbr am (13 * ln) 77 5088) _) (fun _ => rfl) (fun _ => rfl) (Nat.le_refl _) hU226
        refine go_s (pc' := 44) rfl rfl rfl rfl ?_
        refine go_s (pc' := 45) rfl rfl rfl rfl ?_
        have hU229 : RU w B R [] true h222 am ln K ((uI (uI (uI I 11 2 2) 12 2 (-1)) 40 2 0), Q, Z) := RU_I (sm_e_refl (tbr am (13 * ln) 77 5088) _) (I' := (uI (uI (uI I 11 2 2) 12 2 (-1)) 40 2 0)) (fun _ => rfl) (fun _ => rfl) (Nat.le_refl _) hU228
        refine go_callV (pc' := 46) rfl rfl rfl (Nat.le_of_ble_eq_true rfl) rfl (sm_o hS227 rfl) rfl rfl rfl (rt_stops_2 hr hS227 hW (by omega)) (fun r h230 q231 => ?_)
        obtain ⟨rfl, hS232, hE233⟩ := q231
        change sm (tbr am (13 * ln) 77 5088) _ (mstI 2 (jn (uI (uI (uI I 11 2 2) 12 2 (-1)) 40 2 0) K)) Y at hS232
        rw [mst_jn] at hS232
        have hU234 : RU w B R [] true h230 am ln K ((mstI 2 (uI (uI (uI I 11 2 2) 12 2 (-1)) 40 2 0)), Q, Z) := RU_I hE233 mst_24 mst_25 mst_stn hU229
        have ep235 : (mstI 2 (uI (uI (uI I 11 2 2) 12 2 (-1)) 40 2 0)) 11 2 = 2 := (congrFun mst_11 2).trans (show (uI (uI (uI I 11 2 2) 12 2 (-1)) 40 2 0) 11 2 = 2 from rfl)
        refine go_s (pc' := 47) rfl rfl rfl rfl ?_
        refine go_s (pc' := 48) (st' := [.int 2, .ref 62]) rfl rfl rfl rfl ?_
        refine go_s (pc' := 49) rfl rfl rfl rfl ?_
        refine go_s (pc' := 50) (st' := [.int 4, .ref 62]) rfl rfl rfl rfl ?_
        refine go_s (pc' := 51) rfl rfl rfl rfl ?_
        refine go_s (pc' := 52) (st' := [.int 2, .int 2, .int 4, .ref 62]) rfl rfl rfl rfl ?_
        refine go_s (pc' := 53) (st' := [.int 0, .int 4, .ref 62]) rfl rfl rfl rfl ?_
        refine go_s (pc' := 54) (st' := [.int 4, .ref 62]) rfl rfl rfl rfl ?_
        have hU236 : RU w B R [] true h230 am ln K ((mstI 2 (uI (uI (uI I 11 2 2) 12 2 (-1)) 40 2 0)), Q, Z) := RU_I (sm_e_refl (tbr am (13 * ln) 77 5088) _) (I' := (mstI 2 (uI (uI (uI I 11 2 2) 12 2 (-1)) 40 2 0))) (fun _ => rfl) (fun _ => rfl) (Nat.le_refl _) hU234
        refine go_callV (pc' := 55) rfl rfl rfl (Nat.le_of_ble_eq_true rfl) rfl (sm_o hS232 rfl) rfl rfl rfl (rs_cl hr hS232 hW (hW 77 (by decide) (by decide)) (r9 := 4) (by decide) (by decide) (by omega)) (fun r h237 q238 => ?_)
        obtain ⟨rfl, hS239, hE240⟩ := q238
        rw [clI_jn] at hS239
        obtain ⟨K9, eK9⟩ : ∃ z, z = clI K 4 424 := ⟨_, rfl⟩
        rw [← eK9] at hS239
        have f9 : rfr K K9 4 := by
          rw [eK9]
          exact clI_r (Nat.le_refl _)
        have z9 : ∀ j, j < 424 → K9 51 (424 * 4 + j) = 0 := fun j hj => by
          rw [eK9]
          exact cl_z hj
        have hR9 : RS K9 4 (fun _ => 0, [], []) := by
          rw [eK9]
          exact RS_cl
        refine go_s (pc' := 56) rfl rfl rfl rfl ?_
        refine go_ifP (t' := 61) (pc' := 57) rfl rfl rfl (fun _ => ?_) (fun (c : ¬ (¬ (2 : Int32) = 0)) => absurd (by decide) c)
        refine go_s (pc' := 62) rfl rfl rfl rfl ?_
        refine go_s (pc' := 63) rfl rfl rfl rfl ?_
        refine go_callV (pc' := 64) rfl rfl rfl (Nat.le_of_ble_eq_true rfl) rfl (sm_o hS239 rfl) rfl rfl rfl (rx_rT_2_2 hr hS239 hln hW ep235 (by omega)) (fun r h241 q242 => ?_)
        obtain ⟨rfl, hS243, hE244⟩ := q242
        have hE245 := sm_e_trans hE240 hE244
        have hU246 : RU w B R [] true h241 am ln (uI (uI K9 51 1707 ((mstI 2 (uI (uI (uI I 11 2 2) 12 2 (-1)) 40 2 0)) 17 1 + 1)) 51 1701 (-1)) ((uI (uI (mstI 2 (uI (uI (uI I 11 2 2) 12 2 (-1)) 40 2 0)) 17 1 ((mstI 2 (uI (uI (uI I 11 2 2) 12 2 (-1)) 40 2 0)) 17 1 + 1)) 18 1 0), Q, uZ Z 4 (rwT ((mstI 2 (uI (uI (uI I 11 2 2) 12 2 (-1)) 40 2 0)) 17 1 + 1))) := RU_row (K' := (uI (uI K9 51 1707 ((mstI 2 (uI (uI (uI I 11 2 2) 12 2 (-1)) 40 2 0)) 17 1 + 1)) 51 1701 (-1))) (s := (rwT ((mstI 2 (uI (uI (uI I 11 2 2) 12 2 (-1)) 40 2 0)) 17 1 + 1))) (by decide) (fun c j hc hn => by
          rw [← f9 c j hn]
          simp only [uI]
          rw [if_neg (by omega), if_neg (by omega)]) (⟨fun h => absurd h (by decide), fun _ j hj => by
          match j, hj with
          | 0, _ => (repeat (first | rw [uI_e (by decide)] | rw [uI_j (by decide)])) <;> first | rfl | exact z9 0 (by decide)
          | 1, _ => (repeat (first | rw [uI_e (by decide)] | rw [uI_j (by decide)])) <;> first | rfl | exact z9 1 (by decide)
          | 2, _ => (repeat (first | rw [uI_e (by decide)] | rw [uI_j (by decide)])) <;> first | rfl | exact z9 2 (by decide)
          | 3, _ => (repeat (first | rw [uI_e (by decide)] | rw [uI_j (by decide)])) <;> first | rfl | exact z9 3 (by decide)
          | 4, _ => (repeat (first | rw [uI_e (by decide)] | rw [uI_j (by decide)])) <;> first | rfl | exact z9 4 (by decide)
          | 5, _ => (repeat (first | rw [uI_e (by decide)] | rw [uI_j (by decide)])) <;> first | rfl | exact z9 5 (by decide)
          | 6, _ => (repeat (first | rw [uI_e (by decide)] | rw [uI_j (by decide)])) <;> first | rfl | exact z9 6 (by decide)
          | 7, _ => (repeat (first | rw [uI_e (by decide)] | rw [uI_j (by decide)])) <;> first | rfl | exact z9 7 (by decide)
          | 8, _ => (repeat (first | rw [uI_e (by decide)] | rw [uI_j (by decide)])) <;> first | rfl | exact z9 8 (by decide)
          | 9, _ => (repeat (first | rw [uI_e (by decide)] | rw [uI_j (by decide)])) <;> first | rfl | exact z9 9 (by decide)
          | 10, _ => (repeat (first | rw [uI_e (by decide)] | rw [uI_j (by decide)])) <;> first | rfl | exact z9 10 (by decide)
          | 11, _ => (repeat (first | rw [uI_e (by decide)] | rw [uI_j (by decide)])) <;> first | rfl | exact z9 11 (by decide)⟩) (RU_I hE245 (I' := (uI (uI (mstI 2 (uI (uI (uI I 11 2 2) 12 2 (-1)) 40 2 0)) 17 1 ((mstI 2 (uI (uI (uI I 11 2 2) 12 2 (-1)) 40 2 0)) 17 1 + 1)) 18 1 0)) (fun _ => rfl) (fun _ => rfl) (Nat.le_refl _) hU236)
        have hN : rrsN 2 (I, Q, Z) = ((uI (uI (mstI 2 (uI (uI (uI I 11 2 2) 12 2 (-1)) 40 2 0)) 17 1 ((mstI 2 (uI (uI (uI I 11 2 2) 12 2 (-1)) 40 2 0)) 17 1 + 1)) 18 1 0), Q, (uZ Z 4 (rwT ((mstI 2 (uI (uI (uI I 11 2 2) 12 2 (-1)) 40 2 0)) 17 1 + 1)))) := by
          unfold rrsN rrs1
          rw [if_neg (by decide), if_neg (by decide), show fup ((I, Q, Z) : mM).1 2 = 2 from hf]
          unfold rrsT
          rw [show rwi (((uI (uI (uI I 11 2 2) 12 2 (-1)) 40 2 0), Q, Z) : mM).1 2 = 4 from rwi_l (v := 2) rfl (by decide)]
          rw [uI_x (c := 18) (c' := 16) (by decide), uI_x (c := 17) (c' := 16) (by decide), show mstI 2 (uI (uI (uI I 11 2 2) 12 2 (-1)) 40 2 0) = uI (uI (uI (uI I 11 2 2) 12 2 (-1)) 40 2 0) 16 2 0 from if_neg (by decide)]
          rfl
        have hMN := MID_rN (k := 2) (by omega) hM (by decide) c218 (show ¬ fup I 2 = -1 by rw [hf]; decide) (fun z => absurd z (by decide))
        have hnc : ¬ (¬ ((I, Q, Z) : mM).1 11 2 = -1 ∨ fup ((I, Q, Z) : mM).1 (if 2 = 0 then 0 else 2) = -1 ∨ (2 = 0 ∧ chs ((I, Q, Z) : mM).1 = -1)) := fun z => z.elim (fun y => y c218) (fun z => z.elim (fun y => absurd (hf.symm.trans y) (by decide)) (fun y => absurd y.1 (by decide)))
        refine go_s (pc' := 65) rfl rfl rfl rfl ?_
        refine go_sget (pc' := 66) (v := .ref 63) hS243 rfl rfl rfl (by decide) rfl rfl ?_
        refine go_s (pc' := 67) rfl rfl rfl rfl ?_
        refine go_callS (pc' := 68) rfl rfl rfl (Nat.le_of_ble_eq_true rfl) rfl rfl rfl (rt_oh_2 (by omega)) (fun r h247 q248 => ?_)
        obtain ⟨rfl, rfl⟩ := q248
        refine go_sald (pc' := 69) (q := 3) (v := .int ((uI (uI (mstI 2 (uI (uI (uI I 11 2 2) 12 2 (-1)) 40 2 0)) 17 1 ((mstI 2 (uI (uI (uI I 11 2 2) 12 2 (-1)) 40 2 0)) 17 1 + 1)) 18 1 0) 0 3)) hS243 rfl (tr_s hr (a := 63) rfl (by decide)) rfl rfl (by decide) rfl rfl ?_
        refine go_ifP (t' := 73) (pc' := 70) rfl rfl rfl (fun (c249 : ((uI (uI (mstI 2 (uI (uI (uI I 11 2 2) 12 2 (-1)) 40 2 0)) 17 1 ((mstI 2 (uI (uI (uI I 11 2 2) 12 2 (-1)) 40 2 0)) 17 1 + 1)) 18 1 0) 0 3) = 0) => ?_) (fun (c249 : ¬ ((uI (uI (mstI 2 (uI (uI (uI I 11 2 2) 12 2 (-1)) 40 2 0)) 17 1 ((mstI 2 (uI (uI (uI I 11 2 2) 12 2 (-1)) 40 2 0)) 17 1 + 1)) 18 1 0) 0 3) = 0) => ?_)
        · skip
          refine go_ret rfl rfl ?_
          have hA250 : RA w B R [] true h247 ((uI (uI (mstI 2 (uI (uI (uI I 11 2 2) 12 2 (-1)) 40 2 0)) 17 1 ((mstI 2 (uI (uI (uI I 11 2 2) 12 2 (-1)) 40 2 0)) 17 1 + 1)) 18 1 0), Q, (uZ Z 4 (rwT ((mstI 2 (uI (uI (uI I 11 2 2) 12 2 (-1)) 40 2 0)) 17 1 + 1)))) := RA_u.mpr ⟨_, _, _, _, hS243, hU246⟩
          have hms : rrs 2 (I, Q, Z) = ((uI (uI (mstI 2 (uI (uI (uI I 11 2 2) 12 2 (-1)) 40 2 0)) 17 1 ((mstI 2 (uI (uI (uI I 11 2 2) 12 2 (-1)) 40 2 0)) 17 1 + 1)) 18 1 0), Q, (uZ Z 4 (rwT ((mstI 2 (uI (uI (uI I 11 2 2) 12 2 (-1)) 40 2 0)) 17 1 + 1)))) := by
            unfold rrs
            rw [if_neg hnc, hN, show ohn (((uI (uI (mstI 2 (uI (uI (uI I 11 2 2) 12 2 (-1)) 40 2 0)) 17 1 ((mstI 2 (uI (uI (uI I 11 2 2) 12 2 (-1)) 40 2 0)) 17 1 + 1)) 18 1 0), Q, (uZ Z 4 (rwT ((mstI 2 (uI (uI (uI I 11 2 2) 12 2 (-1)) 40 2 0)) 17 1 + 1)))) : mM).1 2 = 3 from ohn_l (v := 2) (show (uI (uI (mstI 2 (uI (uI (uI I 11 2 2) 12 2 (-1)) 40 2 0)) 17 1 ((mstI 2 (uI (uI (uI I 11 2 2) 12 2 (-1)) 40 2 0)) 17 1 + 1)) 18 1 0) 11 2 = 2 from ep235) (by decide)]
            exact if_pos c249
          rw [hms]
          exact ⟨rfl, RA_R (by omega) hA250⟩
        · skip
          refine go_s (pc' := 71) rfl rfl rfl rfl ?_
          refine go_s (pc' := 72) rfl rfl rfl rfl ?_
          have h5 : sq Q + hc [] true ≤ 5 := by
            have z := hMN.2
            rw [hN] at z
            have z2 : sq Q ≤ 5 := z
            have z3 : hc [] true = 0 := rfl
            omega
          have hU251 : RU w B R [] true h247 am ln (uI (uI K9 51 1707 ((mstI 2 (uI (uI (uI I 11 2 2) 12 2 (-1)) 40 2 0)) 17 1 + 1)) 51 1701 (-1)) ((uI (uI (mstI 2 (uI (uI (uI I 11 2 2) 12 2 (-1)) 40 2 0)) 17 1 ((mstI 2 (uI (uI (uI I 11 2 2) 12 2 (-1)) 40 2 0)) 17 1 + 1)) 18 1 0), Q, (uZ Z 4 (rwT ((mstI 2 (uI (uI (uI I 11 2 2) 12 2 (-1)) 40 2 0)) 17 1 + 1)))) := RU_I (sm_e_refl (tbr am (13 * ln) 77 5088) _) (I' := (uI (uI (mstI 2 (uI (uI (uI I 11 2 2) 12 2 (-1)) 40 2 0)) 17 1 ((mstI 2 (uI (uI (uI I 11 2 2) 12 2 (-1)) 40 2 0)) 17 1 + 1)) 18 1 0)) (fun _ => rfl) (fun _ => rfl) (Nat.le_refl _) hU246
          have hA252 : RA w B R [] true h247 ((uI (uI (mstI 2 (uI (uI (uI I 11 2 2) 12 2 (-1)) 40 2 0)) 17 1 ((mstI 2 (uI (uI (uI I 11 2 2) 12 2 (-1)) 40 2 0)) 17 1 + 1)) 18 1 0), Q, (uZ Z 4 (rwT ((mstI 2 (uI (uI (uI I 11 2 2) 12 2 (-1)) 40 2 0)) 17 1 + 1)))) := RA_u.mpr ⟨_, _, _, _, hS243, hU251⟩
          refine go_callV (pc' := 73) rfl rfl rfl (Nat.le_of_ble_eq_true rfl) rfl (sm_o hS243 rfl) rfl rfl rfl (ra_sc_2 hA252 (by omega) (Or.inr (Or.inl (show (uI (uI (mstI 2 (uI (uI (uI I 11 2 2) 12 2 (-1)) 40 2 0)) 17 1 ((mstI 2 (uI (uI (uI I 11 2 2) 12 2 (-1)) 40 2 0)) 17 1 + 1)) 18 1 0) 11 2 = 2 from ep235))) (fun z => absurd ((show (uI (uI (mstI 2 (uI (uI (uI I 11 2 2) 12 2 (-1)) 40 2 0)) 17 1 ((mstI 2 (uI (uI (uI I 11 2 2) 12 2 (-1)) 40 2 0)) 17 1 + 1)) 18 1 0) 11 2 = 2 from ep235).symm.trans z) (by decide)) h5 (by omega)) (fun r h253 q254 => ?_)
          obtain ⟨rfl, hA255⟩ := q254
          refine go_ret rfl rfl ?_
          have hms : rrs 2 (I, Q, Z) = rsc 2 ((uI (uI (mstI 2 (uI (uI (uI I 11 2 2) 12 2 (-1)) 40 2 0)) 17 1 ((mstI 2 (uI (uI (uI I 11 2 2) 12 2 (-1)) 40 2 0)) 17 1 + 1)) 18 1 0), Q, (uZ Z 4 (rwT ((mstI 2 (uI (uI (uI I 11 2 2) 12 2 (-1)) 40 2 0)) 17 1 + 1)))) := by
            unfold rrs
            rw [if_neg hnc, hN, show ohn (((uI (uI (mstI 2 (uI (uI (uI I 11 2 2) 12 2 (-1)) 40 2 0)) 17 1 ((mstI 2 (uI (uI (uI I 11 2 2) 12 2 (-1)) 40 2 0)) 17 1 + 1)) 18 1 0), Q, (uZ Z 4 (rwT ((mstI 2 (uI (uI (uI I 11 2 2) 12 2 (-1)) 40 2 0)) 17 1 + 1)))) : mM).1 2 = 3 from ohn_l (v := 2) (show (uI (uI (mstI 2 (uI (uI (uI I 11 2 2) 12 2 (-1)) 40 2 0)) 17 1 ((mstI 2 (uI (uI (uI I 11 2 2) 12 2 (-1)) 40 2 0)) 17 1 + 1)) 18 1 0) 11 2 = 2 from ep235) (by decide)]
            exact if_neg c249
          rw [hms]
          exact ⟨rfl, hA255⟩
