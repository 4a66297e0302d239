theorem ra_sh_1 {w : Nat → Bool} {d B R : Nat} {H : List (Nat × mg)} {hb : Bool} {h : am_Hp} {I : sm_I} {Q : mQ} {Z : mZ} (hA : RA w B R H hb h (I, Q, Z)) (hR : R + 0 < 40000) (hpk : prk I 1) (hnk : ¬ I 11 1 = -1) (hd : 2 ≤ d) : am_Ev (am_prog w) d 133 [.ref 62, .int 1] h (fun r h' => r = none ∧ RA w B R H hb h' (rshw 0 (I, Q, Z))) := by
  obtain ⟨K, Y, am, ln, hS, hU⟩ := RA_u.mp hA
  change sm (tbr am (13 * ln) 77 5088) h (jn I K) Y at hS
  obtain ⟨hW, hWm, -, -, hr, -⟩ := id hU.1
  have hln := RU_ln hU (by omega)
  obtain ⟨d, rfl⟩ : ∃ e, d = e + 1 := ⟨d - 1, by omega⟩
  refine ev_go rfl (Nat.le_of_ble_eq_true rfl) rfl ?_
  rcases hpk with e1 | e1 | e1
  · skip
    exact absurd e1 hnk
  · skip
    refine go_s (pc' := 1) rfl rfl rfl rfl ?_
    refine go_sget (pc' := 2) (v := .ref 85) hS rfl rfl rfl (by decide) rfl rfl ?_
    refine go_s (pc' := 3) rfl rfl rfl rfl ?_
    refine go_s (pc' := 4) (st' := [.int 1, .int 1, .ref 85]) rfl rfl rfl rfl ?_
    refine go_s (pc' := 5) (st' := [.int 0, .ref 85]) rfl rfl rfl rfl ?_
    refine go_s (pc' := 6) (st' := [.int 1, .int 0, .ref 85]) rfl rfl rfl rfl ?_
    refine go_szast (pc' := 7) (q := 0) hS rfl (tr_s hr (a := 85) rfl (by decide)) tbr_inj (Nat.le_of_ble_eq_true rfl) rfl (by decide) (by decide) rfl (hW _ (by decide) (by decide)) rfl (fun h2 hS3 hE4 => ?_)
    refine go_s (pc' := 8) (st' := [.int 0]) rfl rfl rfl rfl ?_
    refine go_s (pc' := 9) (lo' := [some (.ref 62), some (.int 1), some (.int 0)]) rfl rfl rfl rfl ?_
    refine go_s (pc' := 10) rfl rfl rfl rfl ?_
    refine go_s (pc' := 11) (st' := [.int 4, .int 0]) rfl rfl rfl rfl ?_
    refine go_icmpP (t' := 34) (pc' := 12) rfl rfl rfl (fun (c : 4 ≤ (0 : Int32)) => absurd c (by decide)) (fun _ => ?_)
    refine go_s (pc' := 13) rfl rfl rfl rfl ?_
    refine go_sget (pc' := 14) (v := .ref 86) hS3 rfl rfl rfl (by decide) rfl rfl ?_
    refine go_s (pc' := 15) (st' := [.int 4, .ref 86]) rfl rfl rfl rfl ?_
    refine go_s (pc' := 16) rfl rfl rfl rfl ?_
    refine go_s (pc' := 17) (st' := [.int 1, .int 1, .int 4, .ref 86]) rfl rfl rfl rfl ?_
    refine go_s (pc' := 18) (st' := [.int 0, .int 4, .ref 86]) rfl rfl rfl rfl ?_
    refine go_s (pc' := 19) (st' := [.int 0, .ref 86]) rfl rfl rfl rfl ?_
    refine go_s (pc' := 20) rfl rfl rfl rfl ?_
    refine go_s (pc' := 21) (st' := [.int 0, .ref 86]) rfl rfl rfl rfl ?_
    refine go_s (pc' := 22) rfl rfl rfl rfl ?_
    refine go_sget (pc' := 23) (v := .ref 77) hS3 rfl rfl rfl (by decide) rfl rfl ?_
    refine go_s (pc' := 24) rfl rfl rfl rfl ?_
    refine go_s (pc' := 25) rfl rfl rfl rfl ?_
    refine go_callV (pc' := 26) rfl rfl rfl (Nat.le_of_ble_eq_true rfl) rfl (sm_o hS3 rfl) rfl rfl rfl (rt_at_1 hr hS3 (Or.inr (Or.inl e1)) (fun z => absurd (e1.symm.trans z) (by decide)) (by omega)) (fun r h5 q6 => ?_)
    obtain ⟨rfl, rfl⟩ := q6
    rw [show rwi (uI (jn I K) 18 0 1) 1 = 2 by unfold rwi pn; rw [show (uI (jn I K) 18 0 1) 11 1 = 2 from e1]; rfl]
    show am_Go _ _ _ _ 26 _ [.int 848, .ref 77, .int 0, .ref 86] _ _
    refine go_s (pc' := 27) (st' := [.int 7, .int 848, .ref 77, .int 0, .ref 86]) rfl rfl rfl rfl ?_
    refine go_s (pc' := 28) (st' := [.int 855, .ref 77, .int 0, .ref 86]) rfl rfl rfl rfl ?_
    refine go_s (pc' := 29) rfl rfl rfl rfl ?_
    refine go_s (pc' := 30) (st' := [.int 855, .ref 77, .int 0, .ref 86]) rfl rfl rfl rfl ?_
    refine go_sald (pc' := 31) (q := 855) (v := .int ((Z 2).1 7)) hS3 rfl (tr_as hr (by omega)) rfl rfl (by decide) (congrArg Value.int (RR_t hU.2.1 (i := 2) (by decide) (by decide) 7 (by decide))) rfl ?_
    refine go_siast (pc' := 32) (q := 0) hS3 rfl (tr_s hr (a := 86) rfl (by decide)) tbr_inj (Nat.le_of_ble_eq_true rfl) rfl (by decide) (by decide) (hW _ (by decide) (by decide)) rfl (fun h7 hS8 hE9 => ?_)
    have hE10 := sm_e_trans hE4 hE9
    refine go_s (pc' := 33) (lo' := [some (.ref 62), some (.int 1), some (.int 1)]) rfl rfl rfl rfl ?_
    refine go_s (pc' := 9) rfl rfl rfl rfl ?_
    refine go_s (pc' := 10) rfl rfl rfl rfl ?_
    refine go_s (pc' := 11) (st' := [.int 4, .int 1]) rfl rfl rfl rfl ?_
    refine go_icmpP (t' := 34) (pc' := 12) rfl rfl rfl (fun (c : 4 ≤ (1 : Int32)) => absurd c (by decide)) (fun _ => ?_)
    refine go_s (pc' := 13) rfl rfl rfl rfl ?_
    refine go_sget (pc' := 14) (v := .ref 86) hS8 rfl rfl rfl (by decide) rfl rfl ?_
    refine go_s (pc' := 15) (st' := [.int 4, .ref 86]) rfl rfl rfl rfl ?_
    refine go_s (pc' := 16) rfl rfl rfl rfl ?_
    refine go_s (pc' := 17) (st' := [.int 1, .int 1, .int 4, .ref 86]) rfl rfl rfl rfl ?_
    refine go_s (pc' := 18) (st' := [.int 0, .int 4, .ref 86]) rfl rfl rfl rfl ?_
    refine go_s (pc' := 19) (st' := [.int 0, .ref 86]) rfl rfl rfl rfl ?_
    refine go_s (pc' := 20) rfl rfl rfl rfl ?_
    refine go_s (pc' := 21) (st' := [.int 1, .ref 86]) rfl rfl rfl rfl ?_
    refine go_s (pc' := 22) rfl rfl rfl rfl ?_
    refine go_sget (pc' := 23) (v := .ref 77) hS8 rfl rfl rfl (by decide) rfl rfl ?_
    refine go_s (pc' := 24) rfl rfl rfl rfl ?_
    refine go_s (pc' := 25) rfl rfl rfl rfl ?_
    refine go_callV (pc' := 26) rfl rfl rfl (Nat.le_of_ble_eq_true rfl) rfl (sm_o hS8 rfl) rfl rfl rfl (rt_at_1 hr hS8 (Or.inr (Or.inl e1)) (fun z => absurd (e1.symm.trans z) (by decide)) (by omega)) (fun r h11 q12 => ?_)
    obtain ⟨rfl, rfl⟩ := q12
    rw [show rwi (uI (uI (jn I K) 18 0 1) 19 0 ((Z 2).1 7)) 1 = 2 by unfold rwi pn; rw [show (uI (uI (jn I K) 18 0 1) 19 0 ((Z 2).1 7)) 11 1 = 2 from e1]; rfl]
    show am_Go _ _ _ _ 26 _ [.int 848, .ref 77, .int 1, .ref 86] _ _
    refine go_s (pc' := 27) (st' := [.int 7, .int 848, .ref 77, .int 1, .ref 86]) rfl rfl rfl rfl ?_
    refine go_s (pc' := 28) (st' := [.int 855, .ref 77, .int 1, .ref 86]) rfl rfl rfl rfl ?_
    refine go_s (pc' := 29) rfl rfl rfl rfl ?_
    refine go_s (pc' := 30) (st' := [.int 856, .ref 77, .int 1, .ref 86]) rfl rfl rfl rfl ?_
    refine go_sald (pc' := 31) (q := 856) (v := .int ((Z 2).1 8)) hS8 rfl (tr_as hr (by omega)) rfl rfl (by decide) (congrArg Value.int (RR_t hU.2.1 (i := 2) (by decide) (by decide) 8 (by decide))) rfl ?_
    refine go_siast (pc' := 32) (q := 1) hS8 rfl (tr_s hr (a := 86) rfl (by decide)) tbr_inj (Nat.le_of_ble_eq_true rfl) rfl (by decide) (by decide) (hW _ (by decide) (by decide)) rfl (fun h13 hS14 hE15 => ?_)
    have hE16 := sm_e_trans hE10 hE15
    refine go_s (pc' := 33) (lo' := [some (.ref 62), some (.int 1), some (.int 2)]) rfl rfl rfl rfl ?_
    refine go_s (pc' := 9) rfl rfl rfl rfl ?_
    refine go_s (pc' := 10) rfl rfl rfl rfl ?_
    refine go_s (pc' := 11) (st' := [.int 4, .int 2]) rfl rfl rfl rfl ?_
    refine go_icmpP (t' := 34) (pc' := 12) rfl rfl rfl (fun (c : 4 ≤ (2 : Int32)) => absurd c (by decide)) (fun _ => ?_)
    refine go_s (pc' := 13) rfl rfl rfl rfl ?_
    refine go_sget (pc' := 14) (v := .ref 86) hS14 rfl rfl rfl (by decide) rfl rfl ?_
    refine go_s (pc' := 15) (st' := [.int 4, .ref 86]) rfl rfl rfl rfl ?_
    refine go_s (pc' := 16) rfl rfl rfl rfl ?_
    refine go_s (pc' := 17) (st' := [.int 1, .int 1, .int 4, .ref 86]) rfl rfl rfl rfl ?_
    refine go_s (pc' := 18) (st' := [.int 0, .int 4, .ref 86]) rfl rfl rfl rfl ?_
    refine go_s (pc' := 19) (st' := [.int 0, .ref 86]) rfl rfl rfl rfl ?_
    refine go_s (pc' := 20) rfl rfl rfl rfl ?_
    refine go_s (pc' := 21) (st' := [.int 2, .ref 86]) rfl rfl rfl rfl ?_
    refine go_s (pc' := 22) rfl rfl rfl rfl ?_
    refine go_sget (pc' := 23) (v := .ref 77) hS14 rfl rfl rfl (by decide) rfl rfl ?_
    refine go_s (pc' := 24) rfl rfl rfl rfl ?_
    refine go_s (pc' := 25) rfl rfl rfl rfl ?_
    refine go_callV (pc' := 26) rfl rfl rfl (Nat.le_of_ble_eq_true rfl) rfl (sm_o hS14 rfl) rfl rfl rfl (rt_at_1 hr hS14 (Or.inr (Or.inl e1)) (fun z => absurd (e1.symm.trans z) (by decide)) (by omega)) (fun r h17 q18 => ?_)
    obtain ⟨rfl, rfl⟩ := q18
    rw [show rwi (uI (uI (uI (jn I K) 18 0 1) 19 0 ((Z 2).1 7)) 19 1 ((Z 2).1 8)) 1 = 2 by unfold rwi pn; rw [show (uI (uI (uI (jn I K) 18 0 1) 19 0 ((Z 2).1 7)) 19 1 ((Z 2).1 8)) 11 1 = 2 from e1]; rfl]
    show am_Go _ _ _ _ 26 _ [.int 848, .ref 77, .int 2, .ref 86] _ _
    refine go_s (pc' := 27) (st' := [.int 7, .int 848, .ref 77, .int 2, .ref 86]) rfl rfl rfl rfl ?_
    refine go_s (pc' := 28) (st' := [.int 855, .ref 77, .int 2, .ref 86]) rfl rfl rfl rfl ?_
    refine go_s (pc' := 29) rfl rfl rfl rfl ?_
    refine go_s (pc' := 30) (st' := [.int 857, .ref 77, .int 2, .ref 86]) rfl rfl rfl rfl ?_
    refine go_sald (pc' := 31) (q := 857) (v := .int ((Z 2).1 9)) hS14 rfl (tr_as hr (by omega)) rfl rfl (by decide) (congrArg Value.int (RR_t hU.2.1 (i := 2) (by decide) (by decide) 9 (by decide))) rfl ?_
    refine go_siast (pc' := 32) (q := 2) hS14 rfl (tr_s hr (a := 86) rfl (by decide)) tbr_inj (Nat.le_of_ble_eq_true rfl) rfl (by decide) (by decide) (hW _ (by decide) (by decide)) rfl (fun h19 hS20 hE21 => ?_)
    have hE22 := sm_e_trans hE16 hE21
    refine go_s (pc' := 33) (lo' := [some (.ref 62), some (.int 1), some (.int 3)]) rfl rfl rfl rfl ?_
    refine go_s (pc' := 9) rfl rfl rfl rfl ?_
    refine go_s (pc' := 10) rfl rfl rfl rfl ?_
    refine go_s (pc' := 11) (st' := [.int 4, .int 3]) rfl rfl rfl rfl ?_
    refine go_icmpP (t' := 34) (pc' := 12) rfl rfl rfl (fun (c : 4 ≤ (3 : Int32)) => absurd c (by decide)) (fun _ => ?_)
    refine go_s (pc' := 13) rfl rfl rfl rfl ?_
    refine go_sget (pc' := 14) (v := .ref 86) hS20 rfl rfl rfl (by decide) rfl rfl ?_
    refine go_s (pc' := 15) (st' := [.int 4, .ref 86]) rfl rfl rfl rfl ?_
    refine go_s (pc' := 16) rfl rfl rfl rfl ?_
    refine go_s (pc' := 17) (st' := [.int 1, .int 1, .int 4, .ref 86]) rfl rfl rfl rfl ?_
    refine go_s (pc' := 18) (st' := [.int 0, .int 4, .ref 86]) rfl rfl rfl rfl ?_
    refine go_s (pc' := 19) (st' := [.int 0, .ref 86]) rfl rfl rfl rfl ?_
    refine go_s (pc' := 20) rfl rfl rfl rfl ?_
    refine go_s (pc' := 21) (st' := [.int 3, .ref 86]) rfl rfl rfl rfl ?_
    refine go_s (pc' := 22) rfl rfl rfl rfl ?_
    refine go_sget (pc' := 23) (v := .ref 77) hS20 rfl rfl rfl (by decide) rfl rfl ?_
    refine go_s (pc' := 24) rfl rfl rfl rfl ?_
    refine go_s (pc' := 25) rfl rfl rfl rfl ?_
    refine go_callV (pc' := 26) rfl rfl rfl (Nat.le_of_ble_eq_true rfl) rfl (sm_o hS20 rfl) rfl rfl rfl (rt_at_1 hr hS20 (Or.inr (Or.inl e1)) (fun z => absurd (e1.symm.trans z) (by decide)) (by omega)) (fun r h23 q24 => ?_)
    obtain ⟨rfl, rfl⟩ := q24
    rw [show rwi (uI (uI (uI (uI (jn I K) 18 0 1) 19 0 ((Z 2).1 7)) 19 1 ((Z 2).1 8)) 19 2 ((Z 2).1 9)) 1 = 2 by unfold rwi pn; rw [show (uI (uI (uI (uI (jn I K) 18 0 1) 19 0 ((Z 2).1 7)) 19 1 ((Z 2).1 8)) 19 2 ((Z 2).1 9)) 11 1 = 2 from e1]; rfl]
    show am_Go _ _ _ _ 26 _ [.int 848, .ref 77, .int 3, .ref 86] _ _
    refine go_s (pc' := 27) (st' := [.int 7, .int 848, .ref 77, .int 3, .ref 86]) rfl rfl rfl rfl ?_
    refine go_s (pc' := 28) (st' := [.int 855, .ref 77, .int 3, .ref 86]) rfl rfl rfl rfl ?_
    refine go_s (pc' := 29) rfl rfl rfl rfl ?_
    refine go_s (pc' := 30) (st' := [.int 858, .ref 77, .int 3, .ref 86]) rfl rfl rfl rfl ?_
    refine go_sald (pc' := 31) (q := 858) (v := .int ((Z 2).1 10)) hS20 rfl (tr_as hr (by omega)) rfl rfl (by decide) (congrArg Value.int (RR_t hU.2.1 (i := 2) (by decide) (by decide) 10 (by decide))) rfl ?_
    refine go_siast (pc' := 32) (q := 3) hS20 rfl (tr_s hr (a := 86) rfl (by decide)) tbr_inj (Nat.le_of_ble_eq_true rfl) rfl (by decide) (by decide) (hW _ (by decide) (by decide)) rfl (fun h25 hS26 hE27 => ?_)
    have hE28 := sm_e_trans hE22 hE27
    refine go_s (pc' := 33) (lo' := [some (.ref 62), some (.int 1), some (.int 4)]) rfl rfl rfl rfl ?_
    refine go_s (pc' := 9) rfl rfl rfl rfl ?_
    refine go_s (pc' := 10) rfl rfl rfl rfl ?_
    refine go_s (pc' := 11) (st' := [.int 4, .int 4]) rfl rfl rfl rfl ?_
    refine go_icmpP (t' := 34) (pc' := 12) rfl rfl rfl (fun _ => ?_) (fun (c : ¬ (4 ≤ (4 : Int32))) => absurd (by decide) c)
    refine go_ret rfl rfl ?_
    change sm (tbr am (13 * ln) 77 5088) _ (uI (uI (uI (uI (uI (jn I K) 18 0 1) 19 0 ((Z 2).1 7)) 19 1 ((Z 2).1 8)) 19 2 ((Z 2).1 9)) 19 3 ((Z 2).1 10)) Y at hS26
    rw [jn_lo (c := 18) (by decide), jn_lo (c := 19) (by decide), jn_lo (c := 19) (by decide), jn_lo (c := 19) (by decide), jn_lo (c := 19) (by decide)] at hS26
    have hU29 : RU w B R H hb h25 am ln K ((uI (uI (uI (uI (uI I 18 0 1) 19 0 ((Z 2).1 7)) 19 1 ((Z 2).1 8)) 19 2 ((Z 2).1 9)) 19 3 ((Z 2).1 10)), Q, Z) := RU_I (hE28) (I' := (uI (uI (uI (uI (uI I 18 0 1) 19 0 ((Z 2).1 7)) 19 1 ((Z 2).1 8)) 19 2 ((Z 2).1 9)) 19 3 ((Z 2).1 10))) (fun _ => rfl) (fun _ => rfl) (Nat.le_refl _) hU
    have hA30 : RA w B R H hb h25 ((uI (uI (uI (uI (uI I 18 0 1) 19 0 ((Z 2).1 7)) 19 1 ((Z 2).1 8)) 19 2 ((Z 2).1 9)) 19 3 ((Z 2).1 10)), Q, Z) := RA_u.mpr ⟨_, _, _, _, hS26, hU29⟩
    have hms : rshw 0 (I, Q, Z) = ((uI (uI (uI (uI (uI I 18 0 1) 19 0 ((Z 2).1 7)) 19 1 ((Z 2).1 8)) 19 2 ((Z 2).1 9)) 19 3 ((Z 2).1 10)), Q, Z) := by
      unfold rshw
      rw [show row1 (I, Q, Z) (1 + 0) = (Z 2).1 from row1_l (v := 2) e1 (by decide)]
      rfl
    rw [hms]
    exact ⟨rfl, hA30⟩
  · skip
    refine go_s (pc' := 1) rfl rfl rfl rfl ?_
    refine go_sget (pc' := 2) (v := .ref 85) hS rfl rfl rfl (by decide) rfl rfl ?_
    refine go_s (pc' := 3) rfl rfl rfl rfl ?_
    refine go_s (pc' := 4) (st' := [.int 1, .int 1, .ref 85]) rfl rfl rfl rfl ?_
    refine go_s (pc' := 5) (st' := [.int 0, .ref 85]) rfl rfl rfl rfl ?_
    refine go_s (pc' := 6) (st' := [.int 1, .int 0, .ref 85]) rfl rfl rfl rfl ?_
    refine go_szast (pc' := 7) (q := 0) hS rfl (tr_s hr (a := 85) rfl (by decide)) tbr_inj (Nat.le_of_ble_eq_true rfl) rfl (by decide) (by decide) rfl (hW _ (by decide) (by decide)) rfl (fun h31 hS32 hE33 => ?_)
    refine go_s (pc' := 8) (st' := [.int 0]) rfl rfl rfl rfl ?_
    refine go_s (pc' := 9) (lo' := [some (.ref 62), some (.int 1), some (.int 0)]) rfl rfl rfl rfl ?_
    refine go_s (pc' := 10) rfl rfl rfl rfl ?_
    refine go_s (pc' := 11) (st' := [.int 4, .int 0]) rfl rfl rfl rfl ?_
    refine go_icmpP (t' := 34) (pc' := 12) rfl rfl rfl (fun (c : 4 ≤ (0 : Int32)) => absurd c (by decide)) (fun _ => ?_)
    refine go_s (pc' := 13) rfl rfl rfl rfl ?_
    refine go_sget (pc' := 14) (v := .ref 86) hS32 rfl rfl rfl (by decide) rfl rfl ?_
    refine go_s (pc' := 15) (st' := [.int 4, .ref 86]) rfl rfl rfl rfl ?_
    refine go_s (pc' := 16) rfl rfl rfl rfl ?_
    refine go_s (pc' := 17) (st' := [.int 1, .int 1, .int 4, .ref 86]) rfl rfl rfl rfl ?_
    refine go_s (pc' := 18) (st' := [.int 0, .int 4, .ref 86]) rfl rfl rfl rfl ?_
    refine go_s (pc' := 19) (st' := [.int 0, .ref 86]) rfl rfl rfl rfl ?_
    refine go_s (pc' := 20) rfl rfl rfl rfl ?_
    refine go_s (pc' := 21) (st' := [.int 0, .ref 86]) rfl rfl rfl rfl ?_
    refine go_s (pc' := 22) rfl rfl rfl rfl ?_
    refine go_sget (pc' := 23) (v := .ref 77) hS32 rfl rfl rfl (by decide) rfl rfl ?_
    refine go_s (pc' := 24) rfl rfl rfl rfl ?_
    refine go_s (pc' := 25) rfl rfl rfl rfl ?_
    refine go_callV (pc' := 26) rfl rfl rfl (Nat.le_of_ble_eq_true rfl) rfl (sm_o hS32 rfl) rfl rfl rfl (rt_at_1 hr hS32 (Or.inr (Or.inr e1)) (fun z => absurd (e1.symm.trans z) (by decide)) (by omega)) (fun r h34 q35 => ?_)
    obtain ⟨rfl, rfl⟩ := q35
    rw [show rwi (uI (jn I K) 18 0 1) 1 = 3 by unfold rwi pn; rw [show (uI (jn I K) 18 0 1) 11 1 = 3 from e1]; rfl]
    show am_Go _ _ _ _ 26 _ [.int 1272, .ref 77, .int 0, .ref 86] _ _
    refine go_s (pc' := 27) (st' := [.int 7, .int 1272, .ref 77, .int 0, .ref 86]) rfl rfl rfl rfl ?_
    refine go_s (pc' := 28) (st' := [.int 1279, .ref 77, .int 0, .ref 86]) rfl rfl rfl rfl ?_
    refine go_s (pc' := 29) rfl rfl rfl rfl ?_
    refine go_s (pc' := 30) (st' := [.int 1279, .ref 77, .int 0, .ref 86]) rfl rfl rfl rfl ?_
    refine go_sald (pc' := 31) (q := 1279) (v := .int ((Z 3).1 7)) hS32 rfl (tr_as hr (by omega)) rfl rfl (by decide) (congrArg Value.int (RR_t hU.2.1 (i := 3) (by decide) (by decide) 7 (by decide))) rfl ?_
    refine go_siast (pc' := 32) (q := 0) hS32 rfl (tr_s hr (a := 86) rfl (by decide)) tbr_inj (Nat.le_of_ble_eq_true rfl) rfl (by decide) (by decide) (hW _ (by decide) (by decide)) rfl (fun h36 hS37 hE38 => ?_)
    have hE39 := sm_e_trans hE33 hE38
    refine go_s (pc' := 33) (lo' := [some (.ref 62), some (.int 1), some (.int 1)]) rfl rfl rfl rfl ?_
    refine go_s (pc' := 9) rfl rfl rfl rfl ?_
    refine go_s (pc' := 10) rfl rfl rfl rfl ?_
    refine go_s (pc' := 11) (st' := [.int 4, .int 1]) rfl rfl rfl rfl ?_
    refine go_icmpP (t' := 34) (pc' := 12) rfl rfl rfl (fun (c : 4 ≤ (1 : Int32)) => absurd c (by decide)) (fun _ => ?_)
    refine go_s (pc' := 13) rfl rfl rfl rfl ?_
    refine go_sget (pc' := 14) (v := .ref 86) hS37 rfl rfl rfl (by decide) rfl rfl ?_
    refine go_s (pc' := 15) (st' := [.int 4, .ref 86]) rfl rfl rfl rfl ?_
    refine go_s (pc' := 16) rfl rfl rfl rfl ?_
    refine go_s (pc' := 17) (st' := [.int 1, .int 1, .int 4, .ref 86]) rfl rfl rfl rfl ?_
    refine go_s (pc' := 18) (st' := [.int 0, .int 4, .ref 86]) rfl rfl rfl rfl ?_
    refine go_s (pc' := 19) (st' := [.int 0, .ref 86]) rfl rfl rfl rfl ?_
    refine go_s (pc' := 20) rfl rfl rfl rfl ?_
    refine go_s (pc' := 21) (st' := [.int 1, .ref 86]) rfl rfl rfl rfl ?_
    refine go_s (pc' := 22) rfl rfl rfl rfl ?_
    refine go_sget (pc' := 23) (v := .ref 77) hS37 rfl rfl rfl (by decide) rfl rfl ?_
    refine go_s (pc' := 24) rfl rfl rfl rfl ?_
    refine go_s (pc' := 25) rfl rfl rfl rfl ?_
    refine go_callV (pc' := 26) rfl rfl rfl (Nat.le_of_ble_eq_true rfl) rfl (sm_o hS37 rfl) rfl rfl rfl (rt_at_1 hr hS37 (Or.inr (Or.inr e1)) (fun z => absurd (e1.symm.trans z) (by decide)) (by omega)) (fun r h40 q41 => ?_)
    obtain ⟨rfl, rfl⟩ := q41
    rw [show rwi (uI (uI (jn I K) 18 0 1) 19 0 ((Z 3).1 7)) 1 = 3 by unfold rwi pn; rw [show (uI (uI (jn I K) 18 0 1) 19 0 ((Z 3).1 7)) 11 1 = 3 from e1]; rfl]
    show am_Go _ _ _ _ 26 _ [.int 1272, .ref 77, .int 1, .ref 86] _ _
    refine go_s (pc' := 27) (st' := [.int 7, .int 1272, .ref 77, .int 1, .ref 86]) rfl rfl rfl rfl ?_
    refine go_s (pc' := 28) (st' := [.int 1279, .ref 77, .int 1, .ref 86]) rfl rfl rfl rfl ?_
    refine go_s (pc' := 29) rfl rfl rfl rfl ?_
    refine go_s (pc' := 30) (st' := [.int 1280, .ref 77, .int 1, .ref 86]) rfl rfl rfl rfl ?_
    refine go_sald (pc' := 31) (q := 1280) (v := .int ((Z 3).1 8)) hS37 rfl (tr_as hr (by omega)) rfl rfl (by decide) (congrArg Value.int (RR_t hU.2.1 (i := 3) (by decide) (by decide) 8 (by decide))) rfl ?_
    refine go_siast (pc' := 32) (q := 1) hS37 rfl (tr_s hr (a := 86) rfl (by decide)) tbr_inj (Nat.le_of_ble_eq_true rfl) rfl (by decide) (by decide) (hW _ (by decide) (by decide)) rfl (fun h42 hS43 hE44 => ?_)
    have hE45 := sm_e_trans hE39 hE44
    refine go_s (pc' := 33) (lo' := [some (.ref 62), some (.int 1), some (.int 2)]) rfl rfl rfl rfl ?_
    refine go_s (pc' := 9) rfl rfl rfl rfl ?_
    refine go_s (pc' := 10) rfl rfl rfl rfl ?_
    refine go_s (pc' := 11) (st' := [.int 4, .int 2]) rfl rfl rfl rfl ?_
    refine go_icmpP (t' := 34) (pc' := 12) rfl rfl rfl (fun (c : 4 ≤ (2 : Int32)) => absurd c (by decide)) (fun _ => ?_)
    refine go_s (pc' := 13) rfl rfl rfl rfl ?_
    refine go_sget (pc' := 14) (v := .ref 86) hS43 rfl rfl rfl (by decide) rfl rfl ?_
    refine go_s (pc' := 15) (st' := [.int 4, .ref 86]) rfl rfl rfl rfl ?_
    refine go_s (pc' := 16) rfl rfl rfl rfl ?_
    refine go_s (pc' := 17) (st' := [.int 1, .int 1, .int 4, .ref 86]) rfl rfl rfl rfl ?_
    refine go_s (pc' := 18) (st' := [.int 0, .int 4, .ref 86]) rfl rfl rfl rfl ?_
    refine go_s (pc' := 19) (st' := [.int 0, .ref 86]) rfl rfl rfl rfl ?_
    refine go_s (pc' := 20) rfl rfl rfl rfl ?_
    refine go_s (pc' := 21) (st' := [.int 2, .ref 86]) rfl rfl rfl rfl ?_
    refine go_s (pc' := 22) rfl rfl rfl rfl ?_
    refine go_sget (pc' := 23) (v := .ref 77) hS43 rfl rfl rfl (by decide) rfl rfl ?_
    refine go_s (pc' := 24) rfl rfl rfl rfl ?_
    refine go_s (pc' := 25) rfl rfl rfl rfl ?_
    refine go_callV (pc' := 26) rfl rfl rfl (Nat.le_of_ble_eq_true rfl) rfl (sm_o hS43 rfl) rfl rfl rfl (rt_at_1 hr hS43 (Or.inr (Or.inr e1)) (fun z => absurd (e1.symm.trans z) (by decide)) (by omega)) (fun r h46 q47 => ?_)
    obtain ⟨rfl, rfl⟩ := q47
    rw [show rwi (uI (uI (uI (jn I K) 18 0 1) 19 0 ((Z 3).1 7)) 19 1 ((Z 3).1 8)) 1 = 3 by unfold rwi pn; rw [show (uI (uI (uI (jn I K) 18 0 1) 19 0 ((Z 3).1 7)) 19 1 ((Z 3).1 8)) 11 1 = 3 from e1]; rfl]
    show am_Go _ _ _ _ 26 _ [.int 1272, .ref 77, .int 2, .ref 86] _ _
    refine go_s (pc' := 27) (st' := [.int 7, .int 1272, .ref 77, .int 2, .ref 86]) rfl rfl rfl rfl ?_
    refine go_s (pc' := 28) (st' := [.int 1279, .ref 77, .int 2, .ref 86]) rfl rfl rfl rfl ?_
    refine go_s (pc' := 29) rfl rfl rfl rfl ?_
    refine go_s (pc' := 30) (st' := [.int 1281, .ref 77, .int 2, .ref 86]) rfl rfl rfl rfl ?_
    refine go_sald (pc' := 31) (q := 1281) (v := .int ((Z 3).1 9)) hS43 rfl (tr_as hr (by omega)) rfl rfl (by decide) (congrArg Value.int (RR_t hU.2.1 (i := 3) (by decide) (by decide) 9 (by decide))) rfl ?_
    refine go_siast (pc' := 32) (q := 2) hS43 rfl (tr_s hr (a := 86) rfl (by decide)) tbr_inj (Nat.le_of_ble_eq_true rfl) rfl (by decide) (by decide) (hW _ (by decide) (by decide)) rfl (fun h48 hS49 hE50 => ?_)
    have hE51 := sm_e_trans hE45 hE50
    refine go_s (pc' := 33) (lo' := [some (.ref 62), some (.int 1), some (.int 3)]) rfl rfl rfl rfl ?_
    refine go_s (pc' := 9) rfl rfl rfl rfl ?_
    refine go_s (pc' := 10) rfl rfl rfl rfl ?_
    refine go_s (pc' := 11) (st' := [.int 4, .int 3]) rfl rfl rfl rfl ?_
    refine go_icmpP (t' := 34) (pc' := 12) rfl rfl rfl (fun (c : 4 ≤ (3 : Int32)) => absurd c (by decide)) (fun _ => ?_)
    refine go_s (pc' := 13) rfl rfl rfl rfl ?_
    refine go_sget (pc' := 14) (v := .ref 86) hS49 rfl rfl rfl (by decide) rfl rfl ?_
    refine go_s (pc' := 15) (st' := [.int 4, .ref 86]) rfl rfl rfl rfl ?_
    refine go_s (pc' := 16) rfl rfl rfl rfl ?_
    refine go_s (pc' := 17) (st' := [.int 1, .int 1, .int 4, .ref 86]) rfl rfl rfl rfl ?_
    refine go_s (pc' := 18) (st' := [.int 0, .int 4, .ref 86]) rfl rfl rfl rfl ?_
    refine go_s (pc' := 19) (st' := [.int 0, .ref 86]) rfl rfl rfl rfl ?_
    refine go_s (pc' := 20) rfl rfl rfl rfl ?_
    refine go_s (pc' := 21) (st' := [.int 3, .ref 86]) rfl rfl rfl rfl ?_
    refine go_s (pc' := 22) rfl rfl rfl rfl ?_
    refine go_sget (pc' := 23) (v := .ref 77) hS49 rfl rfl rfl (by decide) rfl rfl ?_
    refine go_s (pc' := 24) rfl rfl rfl rfl ?_
    refine go_s (pc' := 25) rfl rfl rfl rfl ?_
    refine go_callV (pc' := 26) rfl rfl rfl (Nat.le_of_ble_eq_true rfl) rfl (sm_o hS49 rfl) rfl rfl rfl (rt_at_1 hr hS49 (Or.inr (Or.inr e1)) (fun z => absurd (e1.symm.trans z) (by decide)) (by omega)) (fun r h52 q53 => ?_)
    obtain ⟨rfl, rfl⟩ := q53
    rw [show rwi (uI (uI (uI (uI (jn I K) 18 0 1) 19 0 ((Z 3).1 7)) 19 1 ((Z 3).1 8)) 19 2 ((Z 3).1 9)) 1 = 3 by unfold rwi pn; rw [show (uI (uI (uI (uI (jn I K) 18 0 1) 19 0 ((Z 3).1 7)) 19 1 ((Z 3).1 8)) 19 2 ((Z 3).1 9)) 11 1 = 3 from e1]; rfl]
    show am_Go _ _ _ _ 26 _ [.int 1272, .ref 77, .int 3, .ref 86] _ _
    refine go_s (pc' := 27) (st' := [.int 7, .int 1272, .ref 77, .int 3, .ref 86]) rfl rfl rfl rfl ?_
    refine go_s (pc' := 28) (st' := [.int 1279, .ref 77, .int 3, .ref 86]) rfl rfl rfl rfl ?_
    refine go_s (pc' := 29) rfl rfl rfl rfl ?_
    refine go_s (pc' := 30) (st' := [.int 1282, .ref 77, .int 3, .ref 86]) rfl rfl rfl rfl ?_
    refine go_sald (pc' := 31) (q := 1282) (v := .int ((Z 3).1 10)) hS49 rfl (tr_as hr (by omega)) rfl rfl (by decide) (congrArg Value.int (RR_t hU.2.1 (i := 3) (by decide) (by decide) 10 (by decide))) rfl ?_
    refine go_siast (pc' := 32) (q := 3) hS49 rfl (tr_s hr (a := 86) rfl (by decide)) tbr_inj (Nat.le_of_ble_eq_true rfl) rfl (by decide) (by decide) (hW _ (by decide) (by decide)) rfl (fun h54 hS55 hE56 => ?_)
    have hE57 := sm_e_trans hE51 hE56
    refine go_s (pc' := 33) (lo' := [some (.ref 62), some (.int 1), some (.int 4)]) rfl rfl rfl rfl ?_
    refine go_s (pc' := 9) rfl rfl rfl rfl ?_
    refine go_s (pc' := 10) rfl rfl rfl rfl ?_
    refine go_s (pc' := 11) (st' := [.int 4, .int 4]) rfl rfl rfl rfl ?_
    refine go_icmpP (t' := 34) (pc' := 12) rfl rfl rfl (fun _ => ?_) (fun (c : ¬ (4 ≤ (4 : Int32))) => absurd (by decide) c)
    refine go_ret rfl rfl ?_
    change sm (tbr am (13 * ln) 77 5088) _ (uI (uI (uI (uI (uI (jn I K) 18 0 1) 19 0 ((Z 3).1 7)) 19 1 ((Z 3).1 8)) 19 2 ((Z 3).1 9)) 19 3 ((Z 3).1 10)) Y at hS55
    rw [jn_lo (c := 18) (by decide), jn_lo (c := 19) (by decide), jn_lo (c := 19) (by decide), jn_lo (c := 19) (by decide), jn_lo (c := 19) (by decide)] at hS55
    have hU58 : RU w B R H hb h54 am ln K ((uI (uI (uI (uI (uI I 18 0 1) 19 0 ((Z 3).1 7)) 19 1 ((Z 3).1 8)) 19 2 ((Z 3).1 9)) 19 3 ((Z 3).1 10)), Q, Z) := RU_I (hE57) (I' := (uI (uI (uI (uI (uI I 18 0 1) 19 0 ((Z 3).1 7)) 19 1 ((Z 3).1 8)) 19 2 ((Z 3).1 9)) 19 3 ((Z 3).1 10))) (fun _ => rfl) (fun _ => rfl) (Nat.le_refl _) hU
    have hA59 : RA w B R H hb h54 ((uI (uI (uI (uI (uI I 18 0 1) 19 0 ((Z 3).1 7)) 19 1 ((Z 3).1 8)) 19 2 ((Z 3).1 9)) 19 3 ((Z 3).1 10)), Q, Z) := RA_u.mpr ⟨_, _, _, _, hS55, hU58⟩
    have hms : rshw 0 (I, Q, Z) = ((uI (uI (uI (uI (uI I 18 0 1) 19 0 ((Z 3).1 7)) 19 1 ((Z 3).1 8)) 19 2 ((Z 3).1 9)) 19 3 ((Z 3).1 10)), Q, Z) := by
      unfold rshw
      rw [show row1 (I, Q, Z) (1 + 0) = (Z 3).1 from row1_l (v := 3) e1 (by decide)]
      rfl
    rw [hms]
    exact ⟨rfl, hA59⟩
theorem ra_sh_2 {w : Nat → Bool} {d B R : Nat} {H : List (Nat × mg)} {hb : Bool} {h : am_Hp} {I : sm_I} {Q : mQ} {Z : mZ} (hA : RA w B R H hb h (I, Q, Z)) (hR : R + 0 < 40000) (hpk : prk I 2) (hnk : ¬ I 11 2 = -1) (hd : 2 ≤ d) : am_Ev (am_prog w) d 133 [.ref 62, .int 2] h (fun r h' => r = none ∧ RA w B R H hb h' (rshw 1 (I, Q, Z))) := by
  obtain ⟨K, Y, am, ln, hS, hU⟩ := RA_u.mp hA
  change sm (tbr am (13 * ln) 77 5088) h (jn I K) Y at hS
  obtain ⟨hW, hWm, -, -, hr, -⟩ := id hU.1
  have hln := RU_ln hU (by omega)
  obtain ⟨d, rfl⟩ : ∃ e, d = e + 1 := ⟨d - 1, by omega⟩
  refine ev_go rfl (Nat.le_of_ble_eq_true rfl) rfl ?_
  rcases hpk with e1 | e1 | e1
  · skip
    exact absurd e1 hnk
  · skip
    refine go_s (pc' := 1) rfl rfl rfl rfl ?_
    refine go_sget (pc' := 2) (v := .ref 85) hS rfl rfl rfl (by decide) rfl rfl ?_
    refine go_s (pc' := 3) rfl rfl rfl rfl ?_
    refine go_s (pc' := 4) (st' := [.int 1, .int 2, .ref 85]) rfl rfl rfl rfl ?_
    refine go_s (pc' := 5) (st' := [.int 1, .ref 85]) rfl rfl rfl rfl ?_
    refine go_s (pc' := 6) (st' := [.int 1, .int 1, .ref 85]) rfl rfl rfl rfl ?_
    refine go_szast (pc' := 7) (q := 1) hS rfl (tr_s hr (a := 85) rfl (by decide)) tbr_inj (Nat.le_of_ble_eq_true rfl) rfl (by decide) (by decide) rfl (hW _ (by decide) (by decide)) rfl (fun h2 hS3 hE4 => ?_)
    refine go_s (pc' := 8) (st' := [.int 0]) rfl rfl rfl rfl ?_
    refine go_s (pc' := 9) (lo' := [some (.ref 62), some (.int 2), some (.int 0)]) rfl rfl rfl rfl ?_
    refine go_s (pc' := 10) rfl rfl rfl rfl ?_
    refine go_s (pc' := 11) (st' := [.int 4, .int 0]) rfl rfl rfl rfl ?_
    refine go_icmpP (t' := 34) (pc' := 12) rfl rfl rfl (fun (c : 4 ≤ (0 : Int32)) => absurd c (by decide)) (fun _ => ?_)
    refine go_s (pc' := 13) rfl rfl rfl rfl ?_
    refine go_sget (pc' := 14) (v := .ref 86) hS3 rfl rfl rfl (by decide) rfl rfl ?_
    refine go_s (pc' := 15) (st' := [.int 4, .ref 86]) rfl rfl rfl rfl ?_
    refine go_s (pc' := 16) rfl rfl rfl rfl ?_
    refine go_s (pc' := 17) (st' := [.int 1, .int 2, .int 4, .ref 86]) rfl rfl rfl rfl ?_
    refine go_s (pc' := 18) (st' := [.int 1, .int 4, .ref 86]) rfl rfl rfl rfl ?_
    refine go_s (pc' := 19) (st' := [.int 4, .ref 86]) rfl rfl rfl rfl ?_
    refine go_s (pc' := 20) rfl rfl rfl rfl ?_
    refine go_s (pc' := 21) (st' := [.int 4, .ref 86]) rfl rfl rfl rfl ?_
    refine go_s (pc' := 22) rfl rfl rfl rfl ?_
    refine go_sget (pc' := 23) (v := .ref 77) hS3 rfl rfl rfl (by decide) rfl rfl ?_
    refine go_s (pc' := 24) rfl rfl rfl rfl ?_
    refine go_s (pc' := 25) rfl rfl rfl rfl ?_
    refine go_callV (pc' := 26) rfl rfl rfl (Nat.le_of_ble_eq_true rfl) rfl (sm_o hS3 rfl) rfl rfl rfl (rt_at_2 hr hS3 (Or.inr (Or.inl e1)) (fun z => absurd (e1.symm.trans z) (by decide)) (by omega)) (fun r h5 q6 => ?_)
    obtain ⟨rfl, rfl⟩ := q6
    rw [show rwi (uI (jn I K) 18 1 1) 2 = 4 by unfold rwi pn; rw [show (uI (jn I K) 18 1 1) 11 2 = 2 from e1]; rfl]
    show am_Go _ _ _ _ 26 _ [.int 1696, .ref 77, .int 4, .ref 86] _ _
    refine go_s (pc' := 27) (st' := [.int 7, .int 1696, .ref 77, .int 4, .ref 86]) rfl rfl rfl rfl ?_
    refine go_s (pc' := 28) (st' := [.int 1703, .ref 77, .int 4, .ref 86]) rfl rfl rfl rfl ?_
    refine go_s (pc' := 29) rfl rfl rfl rfl ?_
    refine go_s (pc' := 30) (st' := [.int 1703, .ref 77, .int 4, .ref 86]) rfl rfl rfl rfl ?_
    refine go_sald (pc' := 31) (q := 1703) (v := .int ((Z 4).1 7)) hS3 rfl (tr_as hr (by omega)) rfl rfl (by decide) (congrArg Value.int (RR_t hU.2.1 (i := 4) (by decide) (by decide) 7 (by decide))) rfl ?_
    refine go_siast (pc' := 32) (q := 4) hS3 rfl (tr_s hr (a := 86) rfl (by decide)) tbr_inj (Nat.le_of_ble_eq_true rfl) rfl (by decide) (by decide) (hW _ (by decide) (by decide)) rfl (fun h7 hS8 hE9 => ?_)
    have hE10 := sm_e_trans hE4 hE9
    refine go_s (pc' := 33) (lo' := [some (.ref 62), some (.int 2), some (.int 1)]) rfl rfl rfl rfl ?_
    refine go_s (pc' := 9) rfl rfl rfl rfl ?_
    refine go_s (pc' := 10) rfl rfl rfl rfl ?_
    refine go_s (pc' := 11) (st' := [.int 4, .int 1]) rfl rfl rfl rfl ?_
    refine go_icmpP (t' := 34) (pc' := 12) rfl rfl rfl (fun (c : 4 ≤ (1 : Int32)) => absurd c (by decide)) (fun _ => ?_)
    refine go_s (pc' := 13) rfl rfl rfl rfl ?_
    refine go_sget (pc' := 14) (v := .ref 86) hS8 rfl rfl rfl (by decide) rfl rfl ?_
    refine go_s (pc' := 15) (st' := [.int 4, .ref 86]) rfl rfl rfl rfl ?_
    refine go_s (pc' := 16) rfl rfl rfl rfl ?_
    refine go_s (pc' := 17) (st' := [.int 1, .int 2, .int 4, .ref 86]) rfl rfl rfl rfl ?_
    refine go_s (pc' := 18) (st' := [.int 1, .int 4, .ref 86]) rfl rfl rfl rfl ?_
    refine go_s (pc' := 19) (st' := [.int 4, .ref 86]) rfl rfl rfl rfl ?_
    refine go_s (pc' := 20) rfl rfl rfl rfl ?_
    refine go_s (pc' := 21) (st' := [.int 5, .ref 86]) rfl rfl rfl rfl ?_
    refine go_s (pc' := 22) rfl rfl rfl rfl ?_
    refine go_sget (pc' := 23) (v := .ref 77) hS8 rfl rfl rfl (by decide) rfl rfl ?_
    refine go_s (pc' := 24) rfl rfl rfl rfl ?_
    refine go_s (pc' := 25) rfl rfl rfl rfl ?_
    refine go_callV (pc' := 26) rfl rfl rfl (Nat.le_of_ble_eq_true rfl) rfl (sm_o hS8 rfl) rfl rfl rfl (rt_at_2 hr hS8 (Or.inr (Or.inl e1)) (fun z => absurd (e1.symm.trans z) (by decide)) (by omega)) (fun r h11 q12 => ?_)
    obtain ⟨rfl, rfl⟩ := q12
    rw [show rwi (uI (uI (jn I K) 18 1 1) 19 4 ((Z 4).1 7)) 2 = 4 by unfold rwi pn; rw [show (uI (uI (jn I K) 18 1 1) 19 4 ((Z 4).1 7)) 11 2 = 2 from e1]; rfl]
    show am_Go _ _ _ _ 26 _ [.int 1696, .ref 77, .int 5, .ref 86] _ _
    refine go_s (pc' := 27) (st' := [.int 7, .int 1696, .ref 77, .int 5, .ref 86]) rfl rfl rfl rfl ?_
    refine go_s (pc' := 28) (st' := [.int 1703, .ref 77, .int 5, .ref 86]) rfl rfl rfl rfl ?_
    refine go_s (pc' := 29) rfl rfl rfl rfl ?_
    refine go_s (pc' := 30) (st' := [.int 1704, .ref 77, .int 5, .ref 86]) rfl rfl rfl rfl ?_
    refine go_sald (pc' := 31) (q := 1704) (v := .int ((Z 4).1 8)) hS8 rfl (tr_as hr (by omega)) rfl rfl (by decide) (congrArg Value.int (RR_t hU.2.1 (i := 4) (by decide) (by decide) 8 (by decide))) rfl ?_
    refine go_siast (pc' := 32) (q := 5) hS8 rfl (tr_s hr (a := 86) rfl (by decide)) tbr_inj (Nat.le_of_ble_eq_true rfl) rfl (by decide) (by decide) (hW _ (by decide) (by decide)) rfl (fun h13 hS14 hE15 => ?_)
    have hE16 := sm_e_trans hE10 hE15
    refine go_s (pc' := 33) (lo' := [some (.ref 62), some (.int 2), some (.int 2)]) rfl rfl rfl rfl ?_
    refine go_s (pc' := 9) rfl rfl rfl rfl ?_
    refine go_s (pc' := 10) rfl rfl rfl rfl ?_
    refine go_s (pc' := 11) (st' := [.int 4, .int 2]) rfl rfl rfl rfl ?_
    refine go_icmpP (t' := 34) (pc' := 12) rfl rfl rfl (fun (c : 4 ≤ (2 : Int32)) => absurd c (by decide)) (fun _ => ?_)
    refine go_s (pc' := 13) rfl rfl rfl rfl ?_
    refine go_sget (pc' := 14) (v := .ref 86) hS14 rfl rfl rfl (by decide) rfl rfl ?_
    refine go_s (pc' := 15) (st' := [.int 4, .ref 86]) rfl rfl rfl rfl ?_
    refine go_s (pc' := 16) rfl rfl rfl rfl ?_
    refine go_s (pc' := 17) (st' := [.int 1, .int 2, .int 4, .ref 86]) rfl rfl rfl rfl ?_
    refine go_s (pc' := 18) (st' := [.int 1, .int 4, .ref 86]) rfl rfl rfl rfl ?_
    refine go_s (pc' := 19) (st' := [.int 4, .ref 86]) rfl rfl rfl rfl ?_
    refine go_s (pc' := 20) rfl rfl rfl rfl ?_
    refine go_s (pc' := 21) (st' := [.int 6, .ref 86]) rfl rfl rfl rfl ?_
    refine go_s (pc' := 22) rfl rfl rfl rfl ?_
    refine go_sget (pc' := 23) (v := .ref 77) hS14 rfl rfl rfl (by decide) rfl rfl ?_
    refine go_s (pc' := 24) rfl rfl rfl rfl ?_
    refine go_s (pc' := 25) rfl rfl rfl rfl ?_
    refine go_callV (pc' := 26) rfl rfl rfl (Nat.le_of_ble_eq_true rfl) rfl (sm_o hS14 rfl) rfl rfl rfl (rt_at_2 hr hS14 (Or.inr (Or.inl e1)) (fun z => absurd (e1.symm.trans z) (by decide)) (by omega)) (fun r h17 q18 => ?_)
    obtain ⟨rfl, rfl⟩ := q18
    rw [show rwi (uI (uI (uI (jn I K) 18 1 1) 19 4 ((Z 4).1 7)) 19 5 ((Z 4).1 8)) 2 = 4 by unfold rwi pn; rw [show (uI (uI (uI (jn I K) 18 1 1) 19 4 ((Z 4).1 7)) 19 5 ((Z 4).1 8)) 11 2 = 2 from e1]; rfl]
    show am_Go _ _ _ _ 26 _ [.int 1696, .ref 77, .int 6, .ref 86] _ _
    refine go_s (pc' := 27) (st' := [.int 7, .int 1696, .ref 77, .int 6, .ref 86]) rfl rfl rfl rfl ?_
    refine go_s (pc' := 28) (st' := [.int 1703, .ref 77, .int 6, .ref 86]) rfl rfl rfl rfl ?_
    refine go_s (pc' := 29) rfl rfl rfl rfl ?_
    refine go_s (pc' := 30) (st' := [.int 1705, .ref 77, .int 6, .ref 86]) rfl rfl rfl rfl ?_
    refine go_sald (pc' := 31) (q := 1705) (v := .int ((Z 4).1 9)) hS14 rfl (tr_as hr (by omega)) rfl rfl (by decide) (congrArg Value.int (RR_t hU.2.1 (i := 4) (by decide) (by decide) 9 (by decide))) rfl ?_
    refine go_siast (pc' := 32) (q := 6) hS14 rfl (tr_s hr (a := 86) rfl (by decide)) tbr_inj (Nat.le_of_ble_eq_true rfl) rfl (by decide) (by decide) (hW _ (by decide) (by decide)) rfl (fun h19 hS20 hE21 => ?_)
    have hE22 := sm_e_trans hE16 hE21
    refine go_s (pc' := 33) (lo' := [some (.ref 62), some (.int 2), some (.int 3)]) rfl rfl rfl rfl ?_
    refine go_s (pc' := 9) rfl rfl rfl rfl ?_
    refine go_s (pc' := 10) rfl rfl rfl rfl ?_
    refine go_s (pc' := 11) (st' := [.int 4, .int 3]) rfl rfl rfl rfl ?_
    refine go_icmpP (t' := 34) (pc' := 12) rfl rfl rfl (fun (c : 4 ≤ (3 : Int32)) => absurd c (by decide)) (fun _ => ?_)
    refine go_s (pc' := 13) rfl rfl rfl rfl ?_
    refine go_sget (pc' := 14) (v := .ref 86) hS20 rfl rfl rfl (by decide) rfl rfl ?_
    refine go_s (pc' := 15) (st' := [.int 4, .ref 86]) rfl rfl rfl rfl ?_
    refine go_s (pc' := 16) rfl rfl rfl rfl ?_
    refine go_s (pc' := 17) (st' := [.int 1, .int 2, .int 4, .ref 86]) rfl rfl rfl rfl ?_
    refine go_s (pc' := 18) (st' := [.int 1, .int 4, .ref 86]) rfl rfl rfl rfl ?_
    refine go_s (pc' := 19) (st' := [.int 4, .ref 86]) rfl rfl rfl rfl ?_
    refine go_s (pc' := 20) rfl rfl rfl rfl ?_
    refine go_s (pc' := 21) (st' := [.int 7, .ref 86]) rfl rfl rfl rfl ?_
    refine go_s (pc' := 22) rfl rfl rfl rfl ?_
    refine go_sget (pc' := 23) (v := .ref 77) hS20 rfl rfl rfl (by decide) rfl rfl ?_
    refine go_s (pc' := 24) rfl rfl rfl rfl ?_
    refine go_s (pc' := 25) rfl rfl rfl rfl ?_
    refine go_callV (pc' := 26) rfl rfl rfl (Nat.le_of_ble_eq_true rfl) rfl (sm_o hS20 rfl) rfl rfl rfl (rt_at_2 hr hS20 (Or.inr (Or.inl e1)) (fun z => absurd (e1.symm.trans z) (by decide)) (by omega)) (fun r h23 q24 => ?_)
    obtain ⟨rfl, rfl⟩ := q24
    rw [show rwi (uI (uI (uI (uI (jn I K) 18 1 1) 19 4 ((Z 4).1 7)) 19 5 ((Z 4).1 8)) 19 6 ((Z 4).1 9)) 2 = 4 by unfold rwi pn; rw [show (uI (uI (uI (uI (jn I K) 18 1 1) 19 4 ((Z 4).1 7)) 19 5 ((Z 4).1 8)) 19 6 ((Z 4).1 9)) 11 2 = 2 from e1]; rfl]
    show am_Go _ _ _ _ 26 _ [.int 1696, .ref 77, .int 7, .ref 86] _ _
    refine go_s (pc' := 27) (st' := [.int 7, .int 1696, .ref 77, .int 7, .ref 86]) rfl rfl rfl rfl ?_
    refine go_s (pc' := 28) (st' := [.int 1703, .ref 77, .int 7, .ref 86]) rfl rfl rfl rfl ?_
    refine go_s (pc' := 29) rfl rfl rfl rfl ?_
    refine go_s (pc' := 30) (st' := [.int 1706, .ref 77, .int 7, .ref 86]) rfl rfl rfl rfl ?_
    refine go_sald (pc' := 31) (q := 1706) (v := .int ((Z 4).1 10)) hS20 rfl (tr_as hr (by omega)) rfl rfl (by decide) (congrArg Value.int (RR_t hU.2.1 (i := 4) (by decide) (by decide) 10 (by decide))) rfl ?_
    refine go_siast (pc' := 32) (q := 7) hS20 rfl (tr_s hr (a := 86) rfl (by decide)) tbr_inj (Nat.le_of_ble_eq_true rfl) rfl (by decide) (by decide) (hW _ (by decide) (by decide)) rfl (fun h25 hS26 hE27 => ?_)
    have hE28 := sm_e_trans hE22 hE27
    refine go_s (pc' := 33) (lo' := [some (.ref 62), some (.int 2), some (.int 4)]) rfl rfl rfl rfl ?_
    refine go_s (pc' := 9) rfl rfl rfl rfl ?_
    refine go_s (pc' := 10) rfl rfl rfl rfl ?_
    refine go_s (pc' := 11) (st' := [.int 4, .int 4]) rfl rfl rfl rfl ?_
    refine go_icmpP (t' := 34) (pc' := 12) rfl rfl rfl (fun _ => ?_) (fun (c : ¬ (4 ≤ (4 : Int32))) => absurd (by decide) c)
    refine go_ret rfl rfl ?_
    change sm (tbr am (13 * ln) 77 5088) _ (uI (uI (uI (uI (uI (jn I K) 18 1 1) 19 4 ((Z 4).1 7)) 19 5 ((Z 4).1 8)) 19 6 ((Z 4).1 9)) 19 7 ((Z 4).1 10)) Y at hS26
    rw [jn_lo (c := 18) (by decide), jn_lo (c := 19) (by decide), jn_lo (c := 19) (by decide), jn_lo (c := 19) (by decide), jn_lo (c := 19) (by decide)] at hS26
    have hU29 : RU w B R H hb h25 am ln K ((uI (uI (uI (uI (uI I 18 1 1) 19 4 ((Z 4).1 7)) 19 5 ((Z 4).1 8)) 19 6 ((Z 4).1 9)) 19 7 ((Z 4).1 10)), Q, Z) := RU_I (hE28) (I' := (uI (uI (uI (uI (uI I 18 1 1) 19 4 ((Z 4).1 7)) 19 5 ((Z 4).1 8)) 19 6 ((Z 4).1 9)) 19 7 ((Z 4).1 10))) (fun _ => rfl) (fun _ => rfl) (Nat.le_refl _) hU
    have hA30 : RA w B R H hb h25 ((uI (uI (uI (uI (uI I 18 1 1) 19 4 ((Z 4).1 7)) 19 5 ((Z 4).1 8)) 19 6 ((Z 4).1 9)) 19 7 ((Z 4).1 10)), Q, Z) := RA_u.mpr ⟨_, _, _, _, hS26, hU29⟩
    have hms : rshw 1 (I, Q, Z) = ((uI (uI (uI (uI (uI I 18 1 1) 19 4 ((Z 4).1 7)) 19 5 ((Z 4).1 8)) 19 6 ((Z 4).1 9)) 19 7 ((Z 4).1 10)), Q, Z) := by
      unfold rshw
      rw [show row1 (I, Q, Z) (1 + 1) = (Z 4).1 from row1_l (v := 2) e1 (by decide)]
      rfl
    rw [hms]
    exact ⟨rfl, hA30⟩
  · skip
    refine go_s (pc' := 1) rfl rfl rfl rfl ?_
    refine go_sget (pc' := 2) (v := .ref 85) hS rfl rfl rfl (by decide) rfl rfl ?_
    refine go_s (pc' := 3) rfl rfl rfl rfl ?_
    refine go_s (pc' := 4) (st' := [.int 1, .int 2, .ref 85]) rfl rfl rfl rfl ?_
    refine go_s (pc' := 5) (st' := [.int 1, .ref 85]) rfl rfl rfl rfl ?_
    refine go_s (pc' := 6) (st' := [.int 1, .int 1, .ref 85]) rfl rfl rfl rfl ?_
    refine go_szast (pc' := 7) (q := 1) hS rfl (tr_s hr (a := 85) rfl (by decide)) tbr_inj (Nat.le_of_ble_eq_true rfl) rfl (by decide) (by decide) rfl (hW _ (by decide) (by decide)) rfl (fun h31 hS32 hE33 => ?_)
    refine go_s (pc' := 8) (st' := [.int 0]) rfl rfl rfl rfl ?_
    refine go_s (pc' := 9) (lo' := [some (.ref 62), some (.int 2), some (.int 0)]) rfl rfl rfl rfl ?_
    refine go_s (pc' := 10) rfl rfl rfl rfl ?_
    refine go_s (pc' := 11) (st' := [.int 4, .int 0]) rfl rfl rfl rfl ?_
    refine go_icmpP (t' := 34) (pc' := 12) rfl rfl rfl (fun (c : 4 ≤ (0 : Int32)) => absurd c (by decide)) (fun _ => ?_)
    refine go_s (pc' := 13) rfl rfl rfl rfl ?_
    refine go_sget (pc' := 14) (v := .ref 86) hS32 rfl rfl rfl (by decide) rfl rfl ?_
    refine go_s (pc' := 15) (st' := [.int 4, .ref 86]) rfl rfl rfl rfl ?_
    refine go_s (pc' := 16) rfl rfl rfl rfl ?_
    refine go_s (pc' := 17) (st' := [.int 1, .int 2, .int 4, .ref 86]) rfl rfl rfl rfl ?_
    refine go_s (pc' := 18) (st' := [.int 1, .int 4, .ref 86]) rfl rfl rfl rfl ?_
    refine go_s (pc' := 19) (st' := [.int 4, .ref 86]) rfl rfl rfl rfl ?_
    refine go_s (pc' := 20) rfl rfl rfl rfl ?_
    refine go_s (pc' := 21) (st' := [.int 4, .ref 86]) rfl rfl rfl rfl ?_
    refine go_s (pc' := 22) rfl rfl rfl rfl ?_
    refine go_sget (pc' := 23) (v := .ref 77) hS32 rfl rfl rfl (by decide) rfl rfl ?_
    refine go_s (pc' := 24) rfl rfl rfl rfl ?_
    refine go_s (pc' := 25) rfl rfl rfl rfl ?_
    refine go_callV (pc' := 26) rfl rfl rfl (Nat.le_of_ble_eq_true rfl) rfl (sm_o hS32 rfl) rfl rfl rfl (rt_at_2 hr hS32 (Or.inr (Or.inr e1)) (fun z => absurd (e1.symm.trans z) (by decide)) (by omega)) (fun r h34 q35 => ?_)
    obtain ⟨rfl, rfl⟩ := q35
    rw [show rwi (uI (jn I K) 18 1 1) 2 = 5 by unfold rwi pn; rw [show (uI (jn I K) 18 1 1) 11 2 = 3 from e1]; rfl]
    show am_Go _ _ _ _ 26 _ [.int 2120, .ref 77, .int 4, .ref 86] _ _
    refine go_s (pc' := 27) (st' := [.int 7, .int 2120, .ref 77, .int 4, .ref 86]) rfl rfl rfl rfl ?_
    refine go_s (pc' := 28) (st' := [.int 2127, .ref 77, .int 4, .ref 86]) rfl rfl rfl rfl ?_
    refine go_s (pc' := 29) rfl rfl rfl rfl ?_
    refine go_s (pc' := 30) (st' := [.int 2127, .ref 77, .int 4, .ref 86]) rfl rfl rfl rfl ?_
    refine go_sald (pc' := 31) (q := 2127) (v := .int ((Z 5).1 7)) hS32 rfl (tr_as hr (by omega)) rfl rfl (by decide) (congrArg Value.int (RR_t hU.2.1 (i := 5) (by decide) (by decide) 7 (by decide))) rfl ?_
    refine go_siast (pc' := 32) (q := 4) hS32 rfl (tr_s hr (a := 86) rfl (by decide)) tbr_inj (Nat.le_of_ble_eq_true rfl) rfl (by decide) (by decide) (hW _ (by decide) (by decide)) rfl (fun h36 hS37 hE38 => ?_)
    have hE39 := sm_e_trans hE33 hE38
    refine go_s (pc' := 33) (lo' := [some (.ref 62), some (.int 2), some (.int 1)]) rfl rfl rfl rfl ?_
    refine go_s (pc' := 9) rfl rfl rfl rfl ?_
    refine go_s (pc' := 10) rfl rfl rfl rfl ?_
    refine go_s (pc' := 11) (st' := [.int 4, .int 1]) rfl rfl rfl rfl ?_
    refine go_icmpP (t' := 34) (pc' := 12) rfl rfl rfl (fun (c : 4 ≤ (1 : Int32)) => absurd c (by decide)) (fun _ => ?_)
    refine go_s (pc' := 13) rfl rfl rfl rfl ?_
    refine go_sget (pc' := 14) (v := .ref 86) hS37 rfl rfl rfl (by decide) rfl rfl ?_
    refine go_s (pc' := 15) (st' := [.int 4, .ref 86]) rfl rfl rfl rfl ?_
    refine go_s (pc' := 16) rfl rfl rfl rfl ?_
    refine go_s (pc' := 17) (st' := [.int 1, .int 2, .int 4, .ref 86]) rfl rfl rfl rfl ?_
    refine go_s (pc' := 18) (st' := [.int 1, .int 4, .ref 86]) rfl rfl rfl rfl ?_
    refine go_s (pc' := 19) (st' := [.int 4, .ref 86]) rfl rfl rfl rfl ?_
    refine go_s (pc' := 20) rfl rfl rfl rfl ?_
    refine go_s (pc' := 21) (st' := [.int 5, .ref 86]) rfl rfl rfl rfl ?_
    refine go_s (pc' := 22) rfl rfl rfl rfl ?_
    refine go_sget (pc' := 23) (v := .ref 77) hS37 rfl rfl rfl (by decide) rfl rfl ?_
    refine go_s (pc' := 24) rfl rfl rfl rfl ?_
    refine go_s (pc' := 25) rfl rfl rfl rfl ?_
    refine go_callV (pc' := 26) rfl rfl rfl (Nat.le_of_ble_eq_true rfl) rfl (sm_o hS37 rfl) rfl rfl rfl (rt_at_2 hr hS37 (Or.inr (Or.inr e1)) (fun z => absurd (e1.symm.trans z) (by decide)) (by omega)) (fun r h40 q41 => ?_)
    obtain ⟨rfl, rfl⟩ := q41
    rw [show rwi (uI (uI (jn I K) 18 1 1) 19 4 ((Z 5).1 7)) 2 = 5 by unfold rwi pn; rw [show (uI (uI (jn I K) 18 1 1) 19 4 ((Z 5).1 7)) 11 2 = 3 from e1]; rfl]
    show am_Go _ _ _ _ 26 _ [.int 2120, .ref 77, .int 5, .ref 86] _ _
    refine go_s (pc' := 27) (st' := [.int 7, .int 2120, .ref 77, .int 5, .ref 86]) rfl rfl rfl rfl ?_
    refine go_s (pc' := 28) (st' := [.int 2127, .ref 77, .int 5, .ref 86]) rfl rfl rfl rfl ?_
    refine go_s (pc' := 29) rfl rfl rfl rfl ?_
    refine go_s (pc' := 30) (st' := [.int 2128, .ref 77, .int 5, .ref 86]) rfl rfl rfl rfl ?_
    refine go_sald (pc' := 31) (q := 2128) (v := .int ((Z 5).1 8)) hS37 rfl (tr_as hr (by omega)) rfl rfl (by decide) (congrArg Value.int (RR_t hU.2.1 (i := 5) (by decide) (by decide) 8 (by decide))) rfl ?_
    refine go_siast (pc' := 32) (q := 5) hS37 rfl (tr_s hr (a := 86) rfl (by decide)) tbr_inj (Nat.le_of_ble_eq_true rfl) rfl (by decide) (by decide) (hW _ (by decide) (by decide)) rfl (fun h42 hS43 hE44 => ?_)
    have hE45 := sm_e_trans hE39 hE44
    refine go_s (pc' := 33) (lo' := [some (.ref 62), some (.int 2), some (.int 2)]) rfl rfl rfl rfl ?_
    refine go_s (pc' := 9) rfl rfl rfl rfl ?_
    refine go_s (pc' := 10) rfl rfl rfl rfl ?_
    refine go_s (pc' := 11) (st' := [.int 4, .int 2]) rfl rfl rfl rfl ?_
    refine go_icmpP (t' := 34) (pc' := 12) rfl rfl rfl (fun (c : 4 ≤ (2 : Int32)) => absurd c (by decide)) (fun _ => ?_)
    refine go_s (pc' := 13) rfl rfl rfl rfl ?_
    refine go_sget (pc' := 14) (v := .ref 86) hS43 rfl rfl rfl (by decide) rfl rfl ?_
    refine go_s (pc' := 15) (st' := [.int 4, .ref 86]) rfl rfl rfl rfl ?_
    refine go_s (pc' := 16) rfl rfl rfl rfl ?_
    refine go_s (pc' := 17) (st' := [.int 1, .int 2, .int 4, .ref 86]) rfl rfl rfl rfl ?_
    refine go_s (pc' := 18) (st' := [.int 1, .int 4, .ref 86]) rfl rfl rfl rfl ?_
    refine go_s (pc' := 19) (st' := [.int 4, .ref 86]) rfl rfl rfl rfl ?_
    refine go_s (pc' := 20) rfl rfl rfl rfl ?_
    refine go_s (pc' := 21) (st' := [.int 6, .ref 86]) rfl rfl rfl rfl ?_
    refine go_s (pc' := 22) rfl rfl rfl rfl ?_
    refine go_sget (pc' := 23) (v := .ref 77) hS43 rfl rfl rfl (by decide) rfl rfl ?_
    refine go_s (pc' := 24) rfl rfl rfl rfl ?_
    refine go_s (pc' := 25) rfl rfl rfl rfl ?_
    refine go_callV (pc' := 26) rfl rfl rfl (Nat.le_of_ble_eq_true rfl) rfl (sm_o hS43 rfl) rfl rfl rfl (rt_at_2 hr hS43 (Or.inr (Or.inr e1)) (fun z => absurd (e1.symm.trans z) (by decide)) (by omega)) (fun r h46 q47 => ?_)
    obtain ⟨rfl, rfl⟩ := q47
    rw [show rwi (uI (uI (uI (jn I K) 18 1 1) 19 4 ((Z 5).1 7)) 19 5 ((Z 5).1 8)) 2 = 5 by unfold rwi pn; rw [show (uI (uI (uI (jn I K) 18 1 1) 19 4 ((Z 5).1 7)) 19 5 ((Z 5).1 8)) 11 2 = 3 from e1]; rfl]
    show am_Go _ _ _ _ 26 _ [.int 2120, .ref 77, .int 6, .ref 86] _ _
    refine go_s (pc' := 27) (st' := [.int 7, .int 2120, .ref 77, .int 6, .ref 86]) rfl rfl rfl rfl ?_
    refine go_s (pc' := 28) (st' := [.int 2127, .ref 77, .int 6, .ref 86]) rfl rfl rfl rfl ?_
    refine go_s (pc' := 29) rfl rfl rfl rfl ?_
    refine go_s (pc' := 30) (st' := [.int 2129, .ref 77, .int 6, .ref 86]) rfl rfl rfl rfl ?_
    refine go_sald (pc' := 31) (q := 2129) (v := .int ((Z 5).1 9)) hS43 rfl (tr_as hr (by omega)) rfl rfl (by decide) (congrArg Value.int (RR_t hU.2.1 (i := 5) (by decide) (by decide) 9 (by decide))) rfl ?_
    refine go_siast (pc' := 32) (q := 6) hS43 rfl (tr_s hr (a := 86) rfl (by decide)) tbr_inj (Nat.le_of_ble_eq_true rfl) rfl (by decide) (by decide) (hW _ (by decide) (by decide)) rfl (fun h48 hS49 hE50 => ?_)
    have hE51 := sm_e_trans hE45 hE50
    refine go_s (pc' := 33) (lo' := [some (.ref 62), some (.int 2), some (.int 3)]) rfl rfl rfl rfl ?_
    refine go_s (pc' := 9) rfl rfl rfl rfl ?_
    refine go_s (pc' := 10) rfl rfl rfl rfl ?_
    refine go_s (pc' := 11) (st' := [.int 4, .int 3]) rfl rfl rfl rfl ?_
    refine go_icmpP (t' := 34) (pc' := 12) rfl rfl rfl (fun (c : 4 ≤ (3 : Int32)) => absurd c (by decide)) (fun _ => ?_)
    refine go_s (pc' := 13) rfl rfl rfl rfl ?_
    refine go_sget (pc' := 14) (v := .ref 86) hS49 rfl rfl rfl (by decide) rfl rfl ?_
    refine go_s (pc' := 15) (st' := [.int 4, .ref 86]) rfl rfl rfl rfl ?_
    refine go_s (pc' := 16) rfl rfl rfl rfl ?_
    refine go_s (pc' := 17) (st' := [.int 1, .int 2, .int 4, .ref 86]) rfl rfl rfl rfl ?_
    refine go_s (pc' := 18) (st' := [.int 1, .int 4, .ref 86]) rfl rfl rfl rfl ?_
    refine go_s (pc' := 19) (st' := [.int 4, .ref 86]) rfl rfl rfl rfl ?_
    refine go_s (pc' := 20) rfl rfl rfl rfl ?_
    refine go_s (pc' := 21) (st' := [.int 7, .ref 86]) rfl rfl rfl rfl ?_
    refine go_s (pc' := 22) rfl rfl rfl rfl ?_
    refine go_sget (pc' := 23) (v := .ref 77) hS49 rfl rfl rfl (by decide) rfl rfl ?_
    refine go_s (pc' := 24) rfl rfl rfl rfl ?_
    refine go_s (pc' := 25) rfl rfl rfl rfl ?_
    refine go_callV (pc' := 26) rfl rfl rfl (Nat.le_of_ble_eq_true rfl) rfl (sm_o hS49 rfl) rfl rfl rfl (rt_at_2 hr hS49 (Or.inr (Or.inr e1)) (fun z => absurd (e1.symm.trans z) (by decide)) (by omega)) (fun r h52 q53 => ?_)
    obtain ⟨rfl, rfl⟩ := q53
    rw [show rwi (uI (uI (uI (uI (jn I K) 18 1 1) 19 4 ((Z 5).1 7)) 19 5 ((Z 5).1 8)) 19 6 ((Z 5).1 9)) 2 = 5 by unfold rwi pn; rw [show (uI (uI (uI (uI (jn I K) 18 1 1) 19 4 ((Z 5).1 7)) 19 5 ((Z 5).1 8)) 19 6 ((Z 5).1 9)) 11 2 = 3 from e1]; rfl]
    show am_Go _ _ _ _ 26 _ [.int 2120, .ref 77, .int 7, .ref 86] _ _
    refine go_s (pc' := 27) (st' := [.int 7, .int 2120, .ref 77, .int 7, .ref 86]) rfl rfl rfl rfl ?_
    refine go_s (pc' := 28) (st' := [.int 2127, .ref 77, .int 7, .ref 86]) rfl rfl rfl rfl ?_
    refine go_s (pc' := 29) rfl rfl rfl rfl ?_
    refine go_s (pc' := 30) (st' := [.int 2130, .ref 77, .int 7, .ref 86]) rfl rfl rfl rfl ?_
    refine go_sald (pc' := 31) (q := 2130) (v := .int ((Z 5).1 10)) hS49 rfl (tr_as hr (by omega)) rfl rfl (by decide) (congrArg Value.int (RR_t hU.2.1 (i := 5) (by decide) (by decide) 10 (by decide))) rfl ?_
    refine go_siast (pc' := 32) (q := 7) hS49 rfl (tr_s hr (a := 86) rfl (by decide)) tbr_inj (Nat.le_of_ble_eq_true rfl) rfl (by decide) (by decide) (hW _ (by decide) (by decide)) rfl (fun h54 hS55 hE56 => ?_)
    have hE57 := sm_e_trans hE51 hE56
    refine go_s (pc' := 33) (lo' := [some (.ref 62), some (.int 2), some (.int 4)]) rfl rfl rfl rfl ?_
    refine go_s (pc' := 9) rfl rfl rfl rfl ?_
    refine go_s (pc' := 10) rfl rfl rfl rfl ?_
    refine go_s (pc' := 11) (st' := [.int 4, .int 4]) rfl rfl rfl rfl ?_
    refine go_icmpP (t' := 34) (pc' := 12) rfl rfl rfl (fun _ => ?_) (fun (c : ¬ (4 ≤ (4 : Int32))) => absurd (by decide) c)
    refine go_ret rfl rfl ?_
    change sm (tbr am (13 * ln) 77 5088) _ (uI (uI (uI (uI (uI (jn I K) 18 1 1) 19 4 ((Z 5).1 7)) 19 5 ((Z 5).1 8)) 19 6 ((Z 5).1 9)) 19 7 ((Z 5).1 10)) Y at hS55
    rw [jn_lo (c := 18) (by decide), jn_lo (c := 19) (by decide), jn_lo (c := 19) (by decide), jn_lo (c := 19) (by decide), jn_lo (c := 19) (by decide)] at hS55
    have hU58 : RU w B R H hb h54 am ln K ((uI (uI (uI (uI (uI I 18 1 1) 19 4 ((Z 5).1 7)) 19 5 ((Z 5).1 8)) 19 6 ((Z 5).1 9)) 19 7 ((Z 5).1 10)), Q, Z) := RU_I (hE57) (I' := (uI (uI (uI (uI (uI I 18 1 1) 19 4 ((Z 5).1 7)) 19 5 ((Z 5).1 8)) 19 6 ((Z 5).1 9)) 19 7 ((Z 5).1 10))) (fun _ => rfl) (fun _ => rfl) (Nat.le_refl _) hU
    have hA59 : RA w B R H hb h54 ((uI (uI (uI (uI (uI I 18 1 1) 19 4 ((Z 5).1 7)) 19 5 ((Z 5).1 8)) 19 6 ((Z 5).1 9)) 19 7 ((Z 5).1 10)), Q, Z) := RA_u.mpr ⟨_, _, _, _, hS55, hU58⟩
    have hms : rshw 1 (I, Q, Z) = ((uI (uI (uI (uI (uI I 18 1 1) 19 4 ((Z 5).1 7)) 19 5 ((Z 5).1 8)) 19 6 ((Z 5).1 9)) 19 7 ((Z 5).1 10)), Q, Z) := by
      unfold rshw
      rw [show row1 (I, Q, Z) (1 + 1) = (Z 5).1 from row1_l (v := 3) e1 (by decide)]
      rfl
    rw [hms]
    exact ⟨rfl, hA59⟩
theorem ra_rp_0 {w : Nat → Bool} {d B R : Nat} {H : List (Nat × mg)} {hb : Bool} {h : am_Hp} {I : sm_I} {Q : mQ} {Z : mZ} (hA : RA w B R H hb h (I, Q, Z)) (hR : R + 1 < 40000) (hp0 : prk I 0) (hn0 : ¬ I 11 0 = -1) (hpk : prk I 1) (hd : 3 ≤ d) : am_Ev (am_prog w) d 143 [.ref 62, .int 0] h (fun r h' => r = none ∧ RA w B (R + 1) H hb h' (rrp 0 (I, Q, Z))) := by
  obtain ⟨K, Y, am, ln, hS, hU⟩ := RA_u.mp hA
  change sm (tbr am (13 * ln) 77 5088) h (jn I K) Y at hS
  obtain ⟨hW, hWm, -, -, hr, -⟩ := id hU.1
  have hln := RU_ln hU (by omega)
  obtain ⟨d, rfl⟩ : ∃ e, d = e + 1 := ⟨d - 1, by omega⟩
  refine ev_go rfl (Nat.le_of_ble_eq_true rfl) rfl ?_
  rcases hp0 with e1 | e1 | e1
  · skip
    exact absurd e1 hn0
  · skip
    rcases hpk with e2 | e2 | e2
    · skip
      refine go_s (pc' := 1) rfl rfl rfl rfl ?_
      refine go_sget (pc' := 2) (v := .ref 78) hS rfl rfl rfl (by decide) rfl rfl ?_
      refine go_s (pc' := 3) (st' := [.int 1, .ref 78]) rfl rfl rfl rfl ?_
      refine go_s (pc' := 4) rfl rfl rfl rfl ?_
      refine go_s (pc' := 5) (st' := [.int 1, .ref 78]) rfl rfl rfl rfl ?_
      refine go_sald (pc' := 6) (q := 1) (v := .int (-1)) hS rfl (tr_s hr (a := 78) rfl (by decide)) rfl rfl (by decide) (congrArg Value.int e2) rfl ?_
      refine go_s (pc' := 7) (lo' := [some (.ref 62), some (.int 0), some (.int (-1)), none, none]) rfl rfl rfl rfl ?_
      refine go_s (pc' := 8) rfl rfl rfl rfl ?_
      refine go_s (pc' := 9) (st' := [.int (-1), .int (-1)]) rfl rfl rfl rfl ?_
      refine go_icmpP (t' := 11) (pc' := 10) rfl rfl rfl (fun (c : ¬ ((-1) : Int32) = (-1)) => absurd c (by decide)) (fun _ => ?_)
      refine go_ret rfl rfl ?_
      rw [show rrp 0 (I, Q, Z) = (I, Q, Z) from if_pos e2]
      exact ⟨rfl, RA_R (by omega) hA⟩
    · skip
      refine go_s (pc' := 1) rfl rfl rfl rfl ?_
      refine go_sget (pc' := 2) (v := .ref 78) hS rfl rfl rfl (by decide) rfl rfl ?_
      refine go_s (pc' := 3) (st' := [.int 1, .ref 78]) rfl rfl rfl rfl ?_
      refine go_s (pc' := 4) rfl rfl rfl rfl ?_
      refine go_s (pc' := 5) (st' := [.int 1, .ref 78]) rfl rfl rfl rfl ?_
      refine go_sald (pc' := 6) (q := 1) (v := .int 2) hS rfl (tr_s hr (a := 78) rfl (by decide)) rfl rfl (by decide) (congrArg Value.int e2) rfl ?_
      refine go_s (pc' := 7) (lo' := [some (.ref 62), some (.int 0), some (.int 2), none, none]) rfl rfl rfl rfl ?_
      refine go_s (pc' := 8) rfl rfl rfl rfl ?_
      refine go_s (pc' := 9) (st' := [.int (-1), .int 2]) rfl rfl rfl rfl ?_
      refine go_icmpP (t' := 11) (pc' := 10) rfl rfl rfl (fun _ => ?_) (fun (c : ¬ (¬ (2 : Int32) = (-1))) => absurd (by decide) c)
      refine go_s (pc' := 12) rfl rfl rfl rfl ?_
      refine go_s (pc' := 13) rfl rfl rfl rfl ?_
      refine go_sget (pc' := 14) (v := .ref 78) hS rfl rfl rfl (by decide) rfl rfl ?_
      refine go_s (pc' := 15) (st' := [.int 0, .ref 78, .ref 62]) rfl rfl rfl rfl ?_
      refine go_sald (pc' := 16) (q := 0) (v := .int 0) hS rfl (tr_s hr (a := 78) rfl (by decide)) rfl rfl (by decide) (congrArg Value.int e1) rfl ?_
      refine go_s (pc' := 17) rfl rfl rfl rfl ?_
      refine go_s (pc' := 18) (st' := [.int 2, .int 2, .int 0, .ref 62]) rfl rfl rfl rfl ?_
      refine go_s (pc' := 19) rfl rfl rfl rfl ?_
      have hU3 : RU w B R H hb h am ln K (I, Q, Z) := RU_I (sm_e_refl (tbr am (13 * ln) 77 5088) _) (I' := I) (fun _ => rfl) (fun _ => rfl) (Nat.le_refl _) hU
      by_cases u4 : I 0 2 = 0
      · skip
        refine go_callV (pc' := 20) rfl rfl rfl (Nat.le_of_ble_eq_true rfl) rfl (sm_o hS rfl) rfl rfl rfl (rn_snd_0 hS hU3 (by omega) (f := 0) (t := 2) (by decide) (by decide) u4 (by omega)) (fun r h5 q6 => ?_)
        obtain ⟨rfl, rfl⟩ := q6
        refine go_s (pc' := 21) (lo' := [some (.ref 62), some (.int 0), some (.int 2), some (.int (-1)), none]) rfl rfl rfl rfl ?_
        refine go_s (pc' := 22) rfl rfl rfl rfl ?_
        refine go_s (pc' := 23) (st' := [.int (-1), .int (-1)]) rfl rfl rfl rfl ?_
        refine go_icmpP (t' := 25) (pc' := 24) rfl rfl rfl (fun (c : ¬ ((-1) : Int32) = (-1)) => absurd c (by decide)) (fun _ => ?_)
        refine go_ret rfl rfl ?_
        have hms : rrp 0 (I, Q, Z) = rsn 0 2 (mgA 0 (Z 0).1) (I, Q, Z) := by
          unfold rrp
          rw [if_neg (show ¬ (I, Q, Z).1 11 (1 + 0) = -1 from (fun z => absurd (e2.symm.trans z) (by decide))), show pn (I, Q, Z).1 (1 + 0) = 2 from pn_l (v := 2) e2 (by decide), show pn (I, Q, Z).1 0 = 0 from pn_l (v := 0) e1 (by decide), show row1 (I, Q, Z) 0 = (Z 0).1 from row1_l (v := 0) e1 (by decide)]
        rw [hms, show rsn 0 2 (mgA 0 (Z 0).1) (I, Q, Z) = (I, Q, Z) from if_pos u4]
        exact ⟨rfl, RA_R (by omega) hA⟩
      · skip
        refine go_callV (pc' := 20) rfl rfl rfl (Nat.le_of_ble_eq_true rfl) rfl (sm_o hS rfl) rfl rfl rfl (rn_snd_1 hS hU3 (by omega) (f := 0) (t := 2) (by decide) (by decide) u4 (by omega)) (fun r h7 q8 => ?_)
        obtain ⟨x9, am9, ln9, K9, rfl, hS9, hO9⟩ := q8
        obtain ⟨hx9, hln9, hr9, hWm9⟩ := RO_x hO9 (by omega)
        have ep10 : (appI I Q (4 * 0 + 2)) 11 0 = 0 := (congrFun (appI_o (by decide) (by decide) (by decide)) 0).trans e1
        have ep11 : (appI I Q (4 * 0 + 2)) 11 1 = 2 := (congrFun (appI_o (by decide) (by decide) (by decide)) 1).trans e2
        refine go_s (pc' := 21) (lo' := [some (.ref 62), some (.int 0), some (.int 2), some (.int (nI (13 * x9))), none]) rfl rfl rfl rfl ?_
        refine go_s (pc' := 22) rfl rfl rfl rfl ?_
        refine go_s (pc' := 23) (st' := [.int (-1), .int (nI (13 * x9))]) rfl rfl rfl rfl ?_
        refine go_icmpP (t' := 25) (pc' := 24) rfl rfl rfl (fun _ => ?_) (fun (c : ¬ (¬ (nI (13 * x9)) = (-1))) => absurd (nI_nm1 (by omega)) c)
        refine go_s (pc' := 26) rfl rfl rfl rfl ?_
        refine go_s (pc' := 27) (st' := [.int 0, .ref 62]) rfl rfl rfl rfl ?_
        refine go_callV (pc' := 28) rfl rfl rfl (Nat.le_of_ble_eq_true rfl) rfl (sm_o hS9 rfl) rfl rfl rfl (rt_at_0 hr9 hS9 (Or.inr (Or.inl ep10)) (fun z => absurd (ep10.symm.trans z) (by decide)) (by omega)) (fun r h12 q13 => ?_)
        obtain ⟨rfl, rfl⟩ := q13
        rw [show rwi (jn (appI I Q (4 * 0 + 2)) K9) 0 = 0 by unfold rwi pn; rw [show (jn (appI I Q (4 * 0 + 2)) K9) 11 0 = 0 from ep10]; rfl]
        show am_Go _ _ _ _ 28 _ [.int 0] _ _
        refine go_s (pc' := 29) (lo' := [some (.ref 62), some (.int 0), some (.int 2), some (.int (nI (13 * x9))), some (.int 0)]) rfl rfl rfl rfl ?_
        refine go_s (pc' := 30) rfl rfl rfl rfl ?_
        refine go_sget (pc' := 31) (v := .ref am9) hS9 rfl rfl rfl (by decide) rfl rfl ?_
        refine go_s (pc' := 32) rfl rfl rfl rfl ?_
        refine go_s (pc' := 33) (st' := [.int 6, .int (nI (13 * x9)), .ref am9]) rfl rfl rfl rfl ?_
        refine go_nadd (pc' := 34) (a := (13 * x9)) (b := 6) rfl rfl rfl rfl rfl ?_
        refine go_s (pc' := 35) rfl rfl rfl rfl ?_
        refine go_sget (pc' := 36) (v := .ref 77) hS9 rfl rfl rfl (by decide) rfl rfl ?_
        refine go_s (pc' := 37) rfl rfl rfl rfl ?_
        refine go_s (pc' := 38) (st' := [.int 6, .int 0, .ref 77, .int (nI ((13 * x9) + 6)), .ref am9]) rfl rfl rfl rfl ?_
        refine go_s (pc' := 39) (st' := [.int 6, .ref 77, .int (nI ((13 * x9) + 6)), .ref am9]) rfl rfl rfl rfl ?_
        refine go_s (pc' := 40) rfl rfl rfl rfl ?_
        refine go_s (pc' := 41) (st' := [.int 6, .ref 77, .int (nI ((13 * x9) + 6)), .ref am9]) rfl rfl rfl rfl ?_
        refine go_sald (pc' := 42) (q := 6) (v := .int ((Z 0).1 6)) hS9 rfl (tr_as hr9 (by omega)) rfl rfl (by decide) (congrArg Value.int ((RR_row hO9.2.1 (i := 0) (by decide)).1.1 6 (by decide) (by decide) (by decide))) rfl ?_
        refine go_siast (pc' := 43) (q := ((13 * x9) + 6)) hS9 rfl (tr_ms hr9 (by omega)) tbr_inj (Nat.le_of_ble_eq_true rfl) rfl (by omega) (rk_0 hr9).1 hWm9 rfl (fun h14 hS15 hE16 => ?_)
        refine go_s (pc' := 44) rfl rfl rfl rfl ?_
        refine go_sget (pc' := 45) (v := .ref am9) hS15 rfl rfl rfl (by decide) rfl rfl ?_
        refine go_s (pc' := 46) rfl rfl rfl rfl ?_
        refine go_s (pc' := 47) (st' := [.int 7, .int (nI (13 * x9)), .ref am9]) rfl rfl rfl rfl ?_
        refine go_nadd (pc' := 48) (a := (13 * x9)) (b := 7) rfl rfl rfl rfl rfl ?_
        refine go_s (pc' := 49) rfl rfl rfl rfl ?_
        refine go_sget (pc' := 50) (v := .ref 77) hS15 rfl rfl rfl (by decide) rfl rfl ?_
        refine go_s (pc' := 51) rfl rfl rfl rfl ?_
        refine go_s (pc' := 52) (st' := [.int 8, .int 0, .ref 77, .int (nI ((13 * x9) + 7)), .ref am9]) rfl rfl rfl rfl ?_
        refine go_s (pc' := 53) (st' := [.int 8, .ref 77, .int (nI ((13 * x9) + 7)), .ref am9]) rfl rfl rfl rfl ?_
        refine go_s (pc' := 54) rfl rfl rfl rfl ?_
        refine go_s (pc' := 55) (st' := [.int 8, .ref 77, .int (nI ((13 * x9) + 7)), .ref am9]) rfl rfl rfl rfl ?_
        refine go_sald (pc' := 56) (q := 8) (v := .int ((Z 0).1 8)) hS15 rfl (tr_as hr9 (by omega)) rfl rfl (by decide) (congrArg Value.int ((RR_row hO9.2.1 (i := 0) (by decide)).1.1 8 (by decide) (by decide) (by decide))) rfl ?_
        refine go_siast (pc' := 57) (q := ((13 * x9) + 7)) hS15 rfl (tr_ms hr9 (by omega)) tbr_inj (Nat.le_of_ble_eq_true rfl) rfl (by omega) (rk_0 hr9).1 hWm9 rfl (fun h17 hS18 hE19 => ?_)
        have hE20 := sm_e_trans hE16 hE19
        refine go_s (pc' := 58) rfl rfl rfl rfl ?_
        refine go_sget (pc' := 59) (v := .ref am9) hS18 rfl rfl rfl (by decide) rfl rfl ?_
        refine go_s (pc' := 60) rfl rfl rfl rfl ?_
        refine go_s (pc' := 61) (st' := [.int 8, .int (nI (13 * x9)), .ref am9]) rfl rfl rfl rfl ?_
        refine go_nadd (pc' := 62) (a := (13 * x9)) (b := 8) rfl rfl rfl rfl rfl ?_
        refine go_s (pc' := 63) rfl rfl rfl rfl ?_
        refine go_sget (pc' := 64) (v := .ref 77) hS18 rfl rfl rfl (by decide) rfl rfl ?_
        refine go_s (pc' := 65) rfl rfl rfl rfl ?_
        refine go_s (pc' := 66) (st' := [.int 10, .int 0, .ref 77, .int (nI ((13 * x9) + 8)), .ref am9]) rfl rfl rfl rfl ?_
        refine go_s (pc' := 67) (st' := [.int 10, .ref 77, .int (nI ((13 * x9) + 8)), .ref am9]) rfl rfl rfl rfl ?_
        refine go_s (pc' := 68) rfl rfl rfl rfl ?_
        refine go_s (pc' := 69) (st' := [.int 10, .ref 77, .int (nI ((13 * x9) + 8)), .ref am9]) rfl rfl rfl rfl ?_
        refine go_sald (pc' := 70) (q := 10) (v := .int ((Z 0).1 10)) hS18 rfl (tr_as hr9 (by omega)) rfl rfl (by decide) (congrArg Value.int ((RR_row hO9.2.1 (i := 0) (by decide)).1.1 10 (by decide) (by decide) (by decide))) rfl ?_
        refine go_siast (pc' := 71) (q := ((13 * x9) + 8)) hS18 rfl (tr_ms hr9 (by omega)) tbr_inj (Nat.le_of_ble_eq_true rfl) rfl (by omega) (rk_0 hr9).1 hWm9 rfl (fun h21 hS22 hE23 => ?_)
        have hE24 := sm_e_trans hE20 hE23
        refine go_s (pc' := 72) rfl rfl rfl rfl ?_
        refine go_sget (pc' := 73) (v := .ref am9) hS22 rfl rfl rfl (by decide) rfl rfl ?_
        refine go_s (pc' := 74) rfl rfl rfl rfl ?_
        refine go_s (pc' := 75) (st' := [.int 9, .int (nI (13 * x9)), .ref am9]) rfl rfl rfl rfl ?_
        refine go_nadd (pc' := 76) (a := (13 * x9)) (b := 9) rfl rfl rfl rfl rfl ?_
        refine go_s (pc' := 77) rfl rfl rfl rfl ?_
        refine go_sget (pc' := 78) (v := .ref 77) hS22 rfl rfl rfl (by decide) rfl rfl ?_
        refine go_s (pc' := 79) rfl rfl rfl rfl ?_
        refine go_s (pc' := 80) (st' := [.int 12, .int 0, .ref 77, .int (nI ((13 * x9) + 9)), .ref am9]) rfl rfl rfl rfl ?_
        refine go_s (pc' := 81) (st' := [.int 12, .ref 77, .int (nI ((13 * x9) + 9)), .ref am9]) rfl rfl rfl rfl ?_
        refine go_s (pc' := 82) rfl rfl rfl rfl ?_
        refine go_s (pc' := 83) (st' := [.int 12, .ref 77, .int (nI ((13 * x9) + 9)), .ref am9]) rfl rfl rfl rfl ?_
        refine go_sald (pc' := 84) (q := 12) (v := .int ((Z 0).1 12)) hS22 rfl (tr_as hr9 (by omega)) rfl rfl (by decide) (congrArg Value.int ((RR_row hO9.2.1 (i := 0) (by decide)).1.1 12 (by decide) (by decide) (by decide))) rfl ?_
        refine go_siast (pc' := 85) (q := ((13 * x9) + 9)) hS22 rfl (tr_ms hr9 (by omega)) tbr_inj (Nat.le_of_ble_eq_true rfl) rfl (by omega) (rk_0 hr9).1 hWm9 rfl (fun h25 hS26 hE27 => ?_)
        have hE28 := sm_e_trans hE24 hE27
        refine go_s (pc' := 86) rfl rfl rfl rfl ?_
        refine go_sget (pc' := 87) (v := .ref am9) hS26 rfl rfl rfl (by decide) rfl rfl ?_
        refine go_s (pc' := 88) rfl rfl rfl rfl ?_
        refine go_s (pc' := 89) (st' := [.int 10, .int (nI (13 * x9)), .ref am9]) rfl rfl rfl rfl ?_
        refine go_nadd (pc' := 90) (a := (13 * x9)) (b := 10) rfl rfl rfl rfl rfl ?_
        refine go_s (pc' := 91) rfl rfl rfl rfl ?_
        refine go_sget (pc' := 92) (v := .ref 77) hS26 rfl rfl rfl (by decide) rfl rfl ?_
        refine go_s (pc' := 93) rfl rfl rfl rfl ?_
        refine go_s (pc' := 94) (st' := [.int 0, .int 0, .ref 77, .int (nI ((13 * x9) + 10)), .ref am9]) rfl rfl rfl rfl ?_
        refine go_s (pc' := 95) (st' := [.int 0, .ref 77, .int (nI ((13 * x9) + 10)), .ref am9]) rfl rfl rfl rfl ?_
        refine go_sald (pc' := 96) (q := 0) (v := .int ((Z 0).1 0)) hS26 rfl (tr_as hr9 (by omega)) rfl rfl (by decide) (congrArg Value.int ((RR_row hO9.2.1 (i := 0) (by decide)).1.1 0 (by decide) (by decide) (by decide))) rfl ?_
        refine go_siast (pc' := 97) (q := ((13 * x9) + 10)) hS26 rfl (tr_ms hr9 (by omega)) tbr_inj (Nat.le_of_ble_eq_true rfl) rfl (by omega) (rk_0 hr9).1 hWm9 rfl (fun h29 hS30 hE31 => ?_)
        have hE32 := sm_e_trans hE28 hE31
        refine go_ret rfl rfl ?_
        have hms : rrp 0 (I, Q, Z) = rsn 0 2 (mgA 0 (Z 0).1) (I, Q, Z) := by
          unfold rrp
          rw [if_neg (show ¬ (I, Q, Z).1 11 (1 + 0) = -1 from (fun z => absurd (e2.symm.trans z) (by decide))), show pn (I, Q, Z).1 (1 + 0) = 2 from pn_l (v := 2) e2 (by decide), show pn (I, Q, Z).1 0 = 0 from pn_l (v := 0) e1 (by decide), show row1 (I, Q, Z) 0 = (Z 0).1 from row1_l (v := 0) e1 (by decide)]
        change sm (tbr am9 (13 * ln9) 77 5088) _ (uI (uI (uI (uI (uI (jn (appI I Q (4 * 0 + 2)) K9) 50 ((13 * x9) + 6) ((Z 0).1 6)) 50 ((13 * x9) + 7) ((Z 0).1 8)) 50 ((13 * x9) + 8) ((Z 0).1 10)) 50 ((13 * x9) + 9) ((Z 0).1 12)) 50 ((13 * x9) + 10) ((Z 0).1 0)) Y at hS30
        rw [jn_hi (c := 50) (by decide), jn_hi (c := 50) (by decide), jn_hi (c := 50) (by decide), jn_hi (c := 50) (by decide), jn_hi (c := 50) (by decide)] at hS30
        have hU33 := RO_cl (K' := (uI (uI (uI (uI (uI K9 50 ((13 * x9) + 6) ((Z 0).1 6)) 50 ((13 * x9) + 7) ((Z 0).1 8)) 50 ((13 * x9) + 8) ((Z 0).1 10)) 50 ((13 * x9) + 9) ((Z 0).1 12)) 50 ((13 * x9) + 10) ((Z 0).1 0))) (m := (mgn (mgA 0 (Z 0).1) (I 9 (4 * 0 + 2) + 1))) (by omega) hO9 (hE32) rfl rfl rfl rfl (fun c j _ hc => by
          simp only [uI]
          rw [if_neg (by omega), if_neg (by omega), if_neg (by omega), if_neg (by omega), if_neg (by omega)]) (fun i hi => by
          have hi2 : i < 5 := hi
          match i, hi2 with
            | 0, _ => (repeat (first | rw [uI_e (by omega)] | rw [uI_j (by omega)])) <;> rfl
            | 1, _ => (repeat (first | rw [uI_e (by omega)] | rw [uI_j (by omega)])) <;> rfl
            | 2, _ => (repeat (first | rw [uI_e (by omega)] | rw [uI_j (by omega)])) <;> rfl
            | 3, _ => (repeat (first | rw [uI_e (by omega)] | rw [uI_j (by omega)])) <;> rfl
            | 4, _ => (repeat (first | rw [uI_e (by omega)] | rw [uI_j (by omega)])) <;> rfl)
        have hA34 : RA w B (R + 1) H hb h29 ((appI I Q (4 * 0 + 2)), (uQ Q (4 * 0 + 2) (Q (4 * 0 + 2) ++ [(mgn (mgA 0 (Z 0).1) (I 9 (4 * 0 + 2) + 1))])), Z) := RA_u.mpr ⟨_, _, _, _, hS30, hU33⟩
        rw [hms, show rsn 0 2 (mgA 0 (Z 0).1) (I, Q, Z) = mapp (4 * 0 + 2) (mgA 0 (Z 0).1) (I, Q, Z) from if_neg u4]
        exact ⟨rfl, hA34⟩
    · skip
      refine go_s (pc' := 1) rfl rfl rfl rfl ?_
      refine go_sget (pc' := 2) (v := .ref 78) hS rfl rfl rfl (by decide) rfl rfl ?_
      refine go_s (pc' := 3) (st' := [.int 1, .ref 78]) rfl rfl rfl rfl ?_
      refine go_s (pc' := 4) rfl rfl rfl rfl ?_
      refine go_s (pc' := 5) (st' := [.int 1, .ref 78]) rfl rfl rfl rfl ?_
      refine go_sald (pc' := 6) (q := 1) (v := .int 3) hS rfl (tr_s hr (a := 78) rfl (by decide)) rfl rfl (by decide) (congrArg Value.int e2) rfl ?_
      refine go_s (pc' := 7) (lo' := [some (.ref 62), some (.int 0), some (.int 3), none, none]) rfl rfl rfl rfl ?_
      refine go_s (pc' := 8) rfl rfl rfl rfl ?_
      refine go_s (pc' := 9) (st' := [.int (-1), .int 3]) rfl rfl rfl rfl ?_
      refine go_icmpP (t' := 11) (pc' := 10) rfl rfl rfl (fun _ => ?_) (fun (c : ¬ (¬ (3 : Int32) = (-1))) => absurd (by decide) c)
      refine go_s (pc' := 12) rfl rfl rfl rfl ?_
      refine go_s (pc' := 13) rfl rfl rfl rfl ?_
      refine go_sget (pc' := 14) (v := .ref 78) hS rfl rfl rfl (by decide) rfl rfl ?_
      refine go_s (pc' := 15) (st' := [.int 0, .ref 78, .ref 62]) rfl rfl rfl rfl ?_
      refine go_sald (pc' := 16) (q := 0) (v := .int 0) hS rfl (tr_s hr (a := 78) rfl (by decide)) rfl rfl (by decide) (congrArg Value.int e1) rfl ?_
      refine go_s (pc' := 17) rfl rfl rfl rfl ?_
      refine go_s (pc' := 18) (st' := [.int 2, .int 3, .int 0, .ref 62]) rfl rfl rfl rfl ?_
      refine go_s (pc' := 19) rfl rfl rfl rfl ?_
      have hU35 : RU w B R H hb h am ln K (I, Q, Z) := RU_I (sm_e_refl (tbr am (13 * ln) 77 5088) _) (I' := I) (fun _ => rfl) (fun _ => rfl) (Nat.le_refl _) hU
      by_cases u36 : I 0 3 = 0
      · skip
        refine go_callV (pc' := 20) rfl rfl rfl (Nat.le_of_ble_eq_true rfl) rfl (sm_o hS rfl) rfl rfl rfl (rn_snd_0 hS hU35 (by omega) (f := 0) (t := 3) (by decide) (by decide) u36 (by omega)) (fun r h37 q38 => ?_)
        obtain ⟨rfl, rfl⟩ := q38
        refine go_s (pc' := 21) (lo' := [some (.ref 62), some (.int 0), some (.int 3), some (.int (-1)), none]) rfl rfl rfl rfl ?_
        refine go_s (pc' := 22) rfl rfl rfl rfl ?_
        refine go_s (pc' := 23) (st' := [.int (-1), .int (-1)]) rfl rfl rfl rfl ?_
        refine go_icmpP (t' := 25) (pc' := 24) rfl rfl rfl (fun (c : ¬ ((-1) : Int32) = (-1)) => absurd c (by decide)) (fun _ => ?_)
        refine go_ret rfl rfl ?_
        have hms : rrp 0 (I, Q, Z) = rsn 0 3 (mgA 0 (Z 0).1) (I, Q, Z) := by
          unfold rrp
          rw [if_neg (show ¬ (I, Q, Z).1 11 (1 + 0) = -1 from (fun z => absurd (e2.symm.trans z) (by decide))), show pn (I, Q, Z).1 (1 + 0) = 3 from pn_l (v := 3) e2 (by decide), show pn (I, Q, Z).1 0 = 0 from pn_l (v := 0) e1 (by decide), show row1 (I, Q, Z) 0 = (Z 0).1 from row1_l (v := 0) e1 (by decide)]
        rw [hms, show rsn 0 3 (mgA 0 (Z 0).1) (I, Q, Z) = (I, Q, Z) from if_pos u36]
        exact ⟨rfl, RA_R (by omega) hA⟩
      · skip
        refine go_callV (pc' := 20) rfl rfl rfl (Nat.le_of_ble_eq_true rfl) rfl (sm_o hS rfl) rfl rfl rfl (rn_snd_1 hS hU35 (by omega) (f := 0) (t := 3) (by decide) (by decide) u36 (by omega)) (fun r h39 q40 => ?_)
        obtain ⟨x41, am41, ln41, K41, rfl, hS41, hO41⟩ := q40
        obtain ⟨hx41, hln41, hr41, hWm41⟩ := RO_x hO41 (by omega)
        have ep42 : (appI I Q (4 * 0 + 3)) 11 0 = 0 := (congrFun (appI_o (by decide) (by decide) (by decide)) 0).trans e1
        have ep43 : (appI I Q (4 * 0 + 3)) 11 1 = 3 := (congrFun (appI_o (by decide) (by decide) (by decide)) 1).trans e2
        refine go_s (pc' := 21) (lo' := [some (.ref 62), some (.int 0), some (.int 3), some (.int (nI (13 * x41))), none]) rfl rfl rfl rfl ?_
        refine go_s (pc' := 22) rfl rfl rfl rfl ?_
        refine go_s (pc' := 23) (st' := [.int (-1), .int (nI (13 * x41))]) rfl rfl rfl rfl ?_
        refine go_icmpP (t' := 25) (pc' := 24) rfl rfl rfl (fun _ => ?_) (fun (c : ¬ (¬ (nI (13 * x41)) = (-1))) => absurd (nI_nm1 (by omega)) c)
        refine go_s (pc' := 26) rfl rfl rfl rfl ?_
        refine go_s (pc' := 27) (st' := [.int 0, .ref 62]) rfl rfl rfl rfl ?_
        refine go_callV (pc' := 28) rfl rfl rfl (Nat.le_of_ble_eq_true rfl) rfl (sm_o hS41 rfl) rfl rfl rfl (rt_at_0 hr41 hS41 (Or.inr (Or.inl ep42)) (fun z => absurd (ep42.symm.trans z) (by decide)) (by omega)) (fun r h44 q45 => ?_)
        obtain ⟨rfl, rfl⟩ := q45
        rw [show rwi (jn (appI I Q (4 * 0 + 3)) K41) 0 = 0 by unfold rwi pn; rw [show (jn (appI I Q (4 * 0 + 3)) K41) 11 0 = 0 from ep42]; rfl]
        show am_Go _ _ _ _ 28 _ [.int 0] _ _
        refine go_s (pc' := 29) (lo' := [some (.ref 62), some (.int 0), some (.int 3), some (.int (nI (13 * x41))), some (.int 0)]) rfl rfl rfl rfl ?_
        refine go_s (pc' := 30) rfl rfl rfl rfl ?_
        refine go_sget (pc' := 31) (v := .ref am41) hS41 rfl rfl rfl (by decide) rfl rfl ?_
        refine go_s (pc' := 32) rfl rfl rfl rfl ?_
        refine go_s (pc' := 33) (st' := [.int 6, .int (nI (13 * x41)), .ref am41]) rfl rfl rfl rfl ?_
        refine go_nadd (pc' := 34) (a := (13 * x41)) (b := 6) rfl rfl rfl rfl rfl ?_
        refine go_s (pc' := 35) rfl rfl rfl rfl ?_
        refine go_sget (pc' := 36) (v := .ref 77) hS41 rfl rfl rfl (by decide) rfl rfl ?_
        refine go_s (pc' := 37) rfl rfl rfl rfl ?_
        refine go_s (pc' := 38) (st' := [.int 6, .int 0, .ref 77, .int (nI ((13 * x41) + 6)), .ref am41]) rfl rfl rfl rfl ?_
        refine go_s (pc' := 39) (st' := [.int 6, .ref 77, .int (nI ((13 * x41) + 6)), .ref am41]) rfl rfl rfl rfl ?_
        refine go_s (pc' := 40) rfl rfl rfl rfl ?_
        refine go_s (pc' := 41) (st' := [.int 6, .ref 77, .int (nI ((13 * x41) + 6)), .ref am41]) rfl rfl rfl rfl ?_
        refine go_sald (pc' := 42) (q := 6) (v := .int ((Z 0).1 6)) hS41 rfl (tr_as hr41 (by omega)) rfl rfl (by decide) (congrArg Value.int ((RR_row hO41.2.1 (i := 0) (by decide)).1.1 6 (by decide) (by decide) (by decide))) rfl ?_
        refine go_siast (pc' := 43) (q := ((13 * x41) + 6)) hS41 rfl (tr_ms hr41 (by omega)) tbr_inj (Nat.le_of_ble_eq_true rfl) rfl (by omega) (rk_0 hr41).1 hWm41 rfl (fun h46 hS47 hE48 => ?_)
        refine go_s (pc' := 44) rfl rfl rfl rfl ?_
        refine go_sget (pc' := 45) (v := .ref am41) hS47 rfl rfl rfl (by decide) rfl rfl ?_
        refine go_s (pc' := 46) rfl rfl rfl rfl ?_
        refine go_s (pc' := 47) (st' := [.int 7, .int (nI (13 * x41)), .ref am41]) rfl rfl rfl rfl ?_
        refine go_nadd (pc' := 48) (a := (13 * x41)) (b := 7) rfl rfl rfl rfl rfl ?_
        refine go_s (pc' := 49) rfl rfl rfl rfl ?_
        refine go_sget (pc' := 50) (v := .ref 77) hS47 rfl rfl rfl (by decide) rfl rfl ?_
        refine go_s (pc' := 51) rfl rfl rfl rfl ?_
        refine go_s (pc' := 52) (st' := [.int 8, .int 0, .ref 77, .int (nI ((13 * x41) + 7)), .ref am41]) rfl rfl rfl rfl ?_
        refine go_s (pc' := 53) (st' := [.int 8, .ref 77, .int (nI ((13 * x41) + 7)), .ref am41]) rfl rfl rfl rfl ?_
        refine go_s (pc' := 54) rfl rfl rfl rfl ?_
        refine go_s (pc' := 55) (st' := [.int 8, .ref 77, .int (nI ((13 * x41) + 7)), .ref am41]) rfl rfl rfl rfl ?_
        refine go_sald (pc' := 56) (q := 8) (v := .int ((Z 0).1 8)) hS47 rfl (tr_as hr41 (by omega)) rfl rfl (by decide) (congrArg Value.int ((RR_row hO41.2.1 (i := 0) (by decide)).1.1 8 (by decide) (by decide) (by decide))) rfl ?_
        refine go_siast (pc' := 57) (q := ((13 * x41) + 7)) hS47 rfl (tr_ms hr41 (by omega)) tbr_inj (Nat.le_of_ble_eq_true rfl) rfl (by omega) (rk_0 hr41).1 hWm41 rfl (fun h49 hS50 hE51 => ?_)
        have hE52 := sm_e_trans hE48 hE51
        refine go_s (pc' := 58) rfl rfl rfl rfl ?_
        refine go_sget (pc' := 59) (v := .ref am41) hS50 rfl rfl rfl (by decide) rfl rfl ?_
        refine go_s (pc' := 60) rfl rfl rfl rfl ?_
        refine go_s (pc' := 61) (st' := [.int 8, .int (nI (13 * x41)), .ref am41]) rfl rfl rfl rfl ?_
        refine go_nadd (pc' := 62) (a := (13 * x41)) (b := 8) rfl rfl rfl rfl rfl ?_
        refine go_s (pc' := 63) rfl rfl rfl rfl ?_
        refine go_sget (pc' := 64) (v := .ref 77) hS50 rfl rfl rfl (by decide) rfl rfl ?_
        refine go_s (pc' := 65) rfl rfl rfl rfl ?_
        refine go_s (pc' := 66) (st' := [.int 10, .int 0, .ref 77, .int (nI ((13 * x41) + 8)), .ref am41]) rfl rfl rfl rfl ?_
        refine go_s (pc' := 67) (st' := [.int 10, .ref 77, .int (nI ((13 * x41) + 8)), .ref am41]) rfl rfl rfl rfl ?_
        refine go_s (pc' := 68) rfl rfl rfl rfl ?_
        refine go_s (pc' := 69) (st' := [.int 10, .ref 77, .int (nI ((13 * x41) + 8)), .ref am41]) rfl rfl rfl rfl ?_
        refine go_sald (pc' := 70) (q := 10) (v := .int ((Z 0).1 10)) hS50 rfl (tr_as hr41 (by omega)) rfl rfl (by decide) (congrArg Value.int ((RR_row hO41.2.1 (i := 0) (by decide)).1.1 10 (by decide) (by decide) (by decide))) rfl ?_
        refine go_siast (pc' := 71) (q := ((13 * x41) + 8)) hS50 rfl (tr_ms hr41 (by omega)) tbr_inj (Nat.le_of_ble_eq_true rfl) rfl (by omega) (rk_0 hr41).1 hWm41 rfl (fun h53 hS54 hE55 => ?_)
        have hE56 := sm_e_trans hE52 hE55
        refine go_s (pc' := 72) rfl rfl rfl rfl ?_
        refine go_sget (pc' := 73) (v := .ref am41) hS54 rfl rfl rfl (by decide) rfl rfl ?_
        refine go_s (pc' := 74) rfl rfl rfl rfl ?_
        refine go_s (pc' := 75) (st' := [.int 9, .int (nI (13 * x41)), .ref am41]) rfl rfl rfl rfl ?_
        refine go_nadd (pc' := 76) (a := (13 * x41)) (b := 9) rfl rfl rfl rfl rfl ?_
        refine go_s (pc' := 77) rfl rfl rfl rfl ?_
        refine go_sget (pc' := 78) (v := .ref 77) hS54 rfl rfl rfl (by decide) rfl rfl ?_
        refine go_s (pc' := 79) rfl rfl rfl rfl ?_
        refine go_s (pc' := 80) (st' := [.int 12, .int 0, .ref 77, .int (nI ((13 * x41) + 9)), .ref am41]) rfl rfl rfl rfl ?_
        refine go_s (pc' := 81) (st' := [.int 12, .ref 77, .int (nI ((13 * x41) + 9)), .ref am41]) rfl rfl rfl rfl ?_
        refine go_s (pc' := 82) rfl rfl rfl rfl ?_
        refine go_s (pc' := 83) (st' := [.int 12, .ref 77, .int (nI ((13 * x41) + 9)), .ref am41]) rfl rfl rfl rfl ?_
        refine go_sald (pc' := 84) (q := 12) (v := .int ((Z 0).1 12)) hS54 rfl (tr_as hr41 (by omega)) rfl rfl (by decide) (congrArg Value.int ((RR_row hO41.2.1 (i := 0) (by decide)).1.1 12 (by decide) (by decide) (by decide))) rfl ?_
        refine go_siast (pc' := 85) (q := ((13 * x41) + 9)) hS54 rfl (tr_ms hr41 (by omega)) tbr_inj (Nat.le_of_ble_eq_true rfl) rfl (by omega) (rk_0 hr41).1 hWm41 rfl (fun h57 hS58 hE59 => ?_)
        have hE60 := sm_e_trans hE56 hE59
        refine go_s (pc' := 86) rfl rfl rfl rfl ?_
        refine go_sget (pc' := 87) (v := .ref am41) hS58 rfl rfl rfl (by decide) rfl rfl ?_
        refine go_s (pc' := 88) rfl rfl rfl rfl ?_
        refine go_s (pc' := 89) (st' := [.int 10, .int (nI (13 * x41)), .ref am41]) rfl rfl rfl rfl ?_
        refine go_nadd (pc' := 90) (a := (13 * x41)) (b := 10) rfl rfl rfl rfl rfl ?_
        refine go_s (pc' := 91) rfl rfl rfl rfl ?_
        refine go_sget (pc' := 92) (v := .ref 77) hS58 rfl rfl rfl (by decide) rfl rfl ?_
        refine go_s (pc' := 93) rfl rfl rfl rfl ?_
        refine go_s (pc' := 94) (st' := [.int 0, .int 0, .ref 77, .int (nI ((13 * x41) + 10)), .ref am41]) rfl rfl rfl rfl ?_
        refine go_s (pc' := 95) (st' := [.int 0, .ref 77, .int (nI ((13 * x41) + 10)), .ref am41]) rfl rfl rfl rfl ?_
        refine go_sald (pc' := 96) (q := 0) (v := .int ((Z 0).1 0)) hS58 rfl (tr_as hr41 (by omega)) rfl rfl (by decide) (congrArg Value.int ((RR_row hO41.2.1 (i := 0) (by decide)).1.1 0 (by decide) (by decide) (by decide))) rfl ?_
        refine go_siast (pc' := 97) (q := ((13 * x41) + 10)) hS58 rfl (tr_ms hr41 (by omega)) tbr_inj (Nat.le_of_ble_eq_true rfl) rfl (by omega) (rk_0 hr41).1 hWm41 rfl (fun h61 hS62 hE63 => ?_)
        have hE64 := sm_e_trans hE60 hE63
        refine go_ret rfl rfl ?_
        have hms : rrp 0 (I, Q, Z) = rsn 0 3 (mgA 0 (Z 0).1) (I, Q, Z) := by
          unfold rrp
          rw [if_neg (show ¬ (I, Q, Z).1 11 (1 + 0) = -1 from (fun z => absurd (e2.symm.trans z) (by decide))), show pn (I, Q, Z).1 (1 + 0) = 3 from pn_l (v := 3) e2 (by decide), show pn (I, Q, Z).1 0 = 0 from pn_l (v := 0) e1 (by decide), show row1 (I, Q, Z) 0 = (Z 0).1 from row1_l (v := 0) e1 (by decide)]
        change sm (tbr am41 (13 * ln41) 77 5088) _ (uI (uI (uI (uI (uI (jn (appI I Q (4 * 0 + 3)) K41) 50 ((13 * x41) + 6) ((Z 0).1 6)) 50 ((13 * x41) + 7) ((Z 0).1 8)) 50 ((13 * x41) + 8) ((Z 0).1 10)) 50 ((13 * x41) + 9) ((Z 0).1 12)) 50 ((13 * x41) + 10) ((Z 0).1 0)) Y at hS62
        rw [jn_hi (c := 50) (by decide), jn_hi (c := 50) (by decide), jn_hi (c := 50) (by decide), jn_hi (c := 50) (by decide), jn_hi (c := 50) (by decide)] at hS62
        have hU65 := RO_cl (K' := (uI (uI (uI (uI (uI K41 50 ((13 * x41) + 6) ((Z 0).1 6)) 50 ((13 * x41) + 7) ((Z 0).1 8)) 50 ((13 * x41) + 8) ((Z 0).1 10)) 50 ((13 * x41) + 9) ((Z 0).1 12)) 50 ((13 * x41) + 10) ((Z 0).1 0))) (m := (mgn (mgA 0 (Z 0).1) (I 9 (4 * 0 + 3) + 1))) (by omega) hO41 (hE64) rfl rfl rfl rfl (fun c j _ hc => by
          simp only [uI]
          rw [if_neg (by omega), if_neg (by omega), if_neg (by omega), if_neg (by omega), if_neg (by omega)]) (fun i hi => by
          have hi2 : i < 5 := hi
          match i, hi2 with
            | 0, _ => (repeat (first | rw [uI_e (by omega)] | rw [uI_j (by omega)])) <;> rfl
            | 1, _ => (repeat (first | rw [uI_e (by omega)] | rw [uI_j (by omega)])) <;> rfl
            | 2, _ => (repeat (first | rw [uI_e (by omega)] | rw [uI_j (by omega)])) <;> rfl
            | 3, _ => (repeat (first | rw [uI_e (by omega)] | rw [uI_j (by omega)])) <;> rfl
            | 4, _ => (repeat (first | rw [uI_e (by omega)] | rw [uI_j (by omega)])) <;> rfl)
        have hA66 : RA w B (R + 1) H hb h61 ((appI I Q (4 * 0 + 3)), (uQ Q (4 * 0 + 3) (Q (4 * 0 + 3) ++ [(mgn (mgA 0 (Z 0).1) (I 9 (4 * 0 + 3) + 1))])), Z) := RA_u.mpr ⟨_, _, _, _, hS62, hU65⟩
        rw [hms, show rsn 0 3 (mgA 0 (Z 0).1) (I, Q, Z) = mapp (4 * 0 + 3) (mgA 0 (Z 0).1) (I, Q, Z) from if_neg u36]
        exact ⟨rfl, hA66⟩
  · skip
    rcases hpk with e67 | e67 | e67
    · skip
      refine go_s (pc' := 1) rfl rfl rfl rfl ?_
      refine go_sget (pc' := 2) (v := .ref 78) hS rfl rfl rfl (by decide) rfl rfl ?_
      refine go_s (pc' := 3) (st' := [.int 1, .ref 78]) rfl rfl rfl rfl ?_
      refine go_s (pc' := 4) rfl rfl rfl rfl ?_
      refine go_s (pc' := 5) (st' := [.int 1, .ref 78]) rfl rfl rfl rfl ?_
      refine go_sald (pc' := 6) (q := 1) (v := .int (-1)) hS rfl (tr_s hr (a := 78) rfl (by decide)) rfl rfl (by decide) (congrArg Value.int e67) rfl ?_
      refine go_s (pc' := 7) (lo' := [some (.ref 62), some (.int 0), some (.int (-1)), none, none]) rfl rfl rfl rfl ?_
      refine go_s (pc' := 8) rfl rfl rfl rfl ?_
      refine go_s (pc' := 9) (st' := [.int (-1), .int (-1)]) rfl rfl rfl rfl ?_
      refine go_icmpP (t' := 11) (pc' := 10) rfl rfl rfl (fun (c : ¬ ((-1) : Int32) = (-1)) => absurd c (by decide)) (fun _ => ?_)
      refine go_ret rfl rfl ?_
      rw [show rrp 0 (I, Q, Z) = (I, Q, Z) from if_pos e67]
      exact ⟨rfl, RA_R (by omega) hA⟩
    · skip
      refine go_s (pc' := 1) rfl rfl rfl rfl ?_
      refine go_sget (pc' := 2) (v := .ref 78) hS rfl rfl rfl (by decide) rfl rfl ?_
      refine go_s (pc' := 3) (st' := [.int 1, .ref 78]) rfl rfl rfl rfl ?_
      refine go_s (pc' := 4) rfl rfl rfl rfl ?_
      refine go_s (pc' := 5) (st' := [.int 1, .ref 78]) rfl rfl rfl rfl ?_
      refine go_sald (pc' := 6) (q := 1) (v := .int 2) hS rfl (tr_s hr (a := 78) rfl (by decide)) rfl rfl (by decide) (congrArg Value.int e67) rfl ?_
      refine go_s (pc' := 7) (lo' := [some (.ref 62), some (.int 0), some (.int 2), none, none]) rfl rfl rfl rfl ?_
      refine go_s (pc' := 8) rfl rfl rfl rfl ?_
      refine go_s (pc' := 9) (st' := [.int (-1), .int 2]) rfl rfl rfl rfl ?_
      refine go_icmpP (t' := 11) (pc' := 10) rfl rfl rfl (fun _ => ?_) (fun (c : ¬ (¬ (2 : Int32) = (-1))) => absurd (by decide) c)
      refine go_s (pc' := 12) rfl rfl rfl rfl ?_
      refine go_s (pc' := 13) rfl rfl rfl rfl ?_
      refine go_sget (pc' := 14) (v := .ref 78) hS rfl rfl rfl (by decide) rfl rfl ?_
      refine go_s (pc' := 15) (st' := [.int 0, .ref 78, .ref 62]) rfl rfl rfl rfl ?_
      refine go_sald (pc' := 16) (q := 0) (v := .int 1) hS rfl (tr_s hr (a := 78) rfl (by decide)) rfl rfl (by decide) (congrArg Value.int e1) rfl ?_
      refine go_s (pc' := 17) rfl rfl rfl rfl ?_
      refine go_s (pc' := 18) (st' := [.int 2, .int 2, .int 1, .ref 62]) rfl rfl rfl rfl ?_
      refine go_s (pc' := 19) rfl rfl rfl rfl ?_
      have hU68 : RU w B R H hb h am ln K (I, Q, Z) := RU_I (sm_e_refl (tbr am (13 * ln) 77 5088) _) (I' := I) (fun _ => rfl) (fun _ => rfl) (Nat.le_refl _) hU
      by_cases u69 : I 0 2 = 0
      · skip
        refine go_callV (pc' := 20) rfl rfl rfl (Nat.le_of_ble_eq_true rfl) rfl (sm_o hS rfl) rfl rfl rfl (rn_snd_0 hS hU68 (by omega) (f := 1) (t := 2) (by decide) (by decide) u69 (by omega)) (fun r h70 q71 => ?_)
        obtain ⟨rfl, rfl⟩ := q71
        refine go_s (pc' := 21) (lo' := [some (.ref 62), some (.int 0), some (.int 2), some (.int (-1)), none]) rfl rfl rfl rfl ?_
        refine go_s (pc' := 22) rfl rfl rfl rfl ?_
        refine go_s (pc' := 23) (st' := [.int (-1), .int (-1)]) rfl rfl rfl rfl ?_
        refine go_icmpP (t' := 25) (pc' := 24) rfl rfl rfl (fun (c : ¬ ((-1) : Int32) = (-1)) => absurd c (by decide)) (fun _ => ?_)
        refine go_ret rfl rfl ?_
        have hms : rrp 0 (I, Q, Z) = rsn 1 2 (mgA 0 (Z 1).1) (I, Q, Z) := by
          unfold rrp
          rw [if_neg (show ¬ (I, Q, Z).1 11 (1 + 0) = -1 from (fun z => absurd (e67.symm.trans z) (by decide))), show pn (I, Q, Z).1 (1 + 0) = 2 from pn_l (v := 2) e67 (by decide), show pn (I, Q, Z).1 0 = 1 from pn_l (v := 1) e1 (by decide), show row1 (I, Q, Z) 0 = (Z 1).1 from row1_l (v := 1) e1 (by decide)]
        rw [hms, show rsn 1 2 (mgA 0 (Z 1).1) (I, Q, Z) = (I, Q, Z) from if_pos u69]
        exact ⟨rfl, RA_R (by omega) hA⟩
      · skip
        refine go_callV (pc' := 20) rfl rfl rfl (Nat.le_of_ble_eq_true rfl) rfl (sm_o hS rfl) rfl rfl rfl (rn_snd_1 hS hU68 (by omega) (f := 1) (t := 2) (by decide) (by decide) u69 (by omega)) (fun r h72 q73 => ?_)
        obtain ⟨x74, am74, ln74, K74, rfl, hS74, hO74⟩ := q73
        obtain ⟨hx74, hln74, hr74, hWm74⟩ := RO_x hO74 (by omega)
        have ep75 : (appI I Q (4 * 1 + 2)) 11 0 = 1 := (congrFun (appI_o (by decide) (by decide) (by decide)) 0).trans e1
        have ep76 : (appI I Q (4 * 1 + 2)) 11 1 = 2 := (congrFun (appI_o (by decide) (by decide) (by decide)) 1).trans e67
        refine go_s (pc' := 21) (lo' := [some (.ref 62), some (.int 0), some (.int 2), some (.int (nI (13 * x74))), none]) rfl rfl rfl rfl ?_
        refine go_s (pc' := 22) rfl rfl rfl rfl ?_
        refine go_s (pc' := 23) (st' := [.int (-1), .int (nI (13 * x74))]) rfl rfl rfl rfl ?_
        refine go_icmpP (t' := 25) (pc' := 24) rfl rfl rfl (fun _ => ?_) (fun (c : ¬ (¬ (nI (13 * x74)) = (-1))) => absurd (nI_nm1 (by omega)) c)
        refine go_s (pc' := 26) rfl rfl rfl rfl ?_
        refine go_s (pc' := 27) (st' := [.int 0, .ref 62]) rfl rfl rfl rfl ?_
        refine go_callV (pc' := 28) rfl rfl rfl (Nat.le_of_ble_eq_true rfl) rfl (sm_o hS74 rfl) rfl rfl rfl (rt_at_0 hr74 hS74 (Or.inr (Or.inr ep75)) (fun z => absurd (ep75.symm.trans z) (by decide)) (by omega)) (fun r h77 q78 => ?_)
        obtain ⟨rfl, rfl⟩ := q78
        rw [show rwi (jn (appI I Q (4 * 1 + 2)) K74) 0 = 1 by unfold rwi pn; rw [show (jn (appI I Q (4 * 1 + 2)) K74) 11 0 = 1 from ep75]; rfl]
        show am_Go _ _ _ _ 28 _ [.int 424] _ _
        refine go_s (pc' := 29) (lo' := [some (.ref 62), some (.int 0), some (.int 2), some (.int (nI (13 * x74))), some (.int 424)]) rfl rfl rfl rfl ?_
        refine go_s (pc' := 30) rfl rfl rfl rfl ?_
        refine go_sget (pc' := 31) (v := .ref am74) hS74 rfl rfl rfl (by decide) rfl rfl ?_
        refine go_s (pc' := 32) rfl rfl rfl rfl ?_
        refine go_s (pc' := 33) (st' := [.int 6, .int (nI (13 * x74)), .ref am74]) rfl rfl rfl rfl ?_
        refine go_nadd (pc' := 34) (a := (13 * x74)) (b := 6) rfl rfl rfl rfl rfl ?_
        refine go_s (pc' := 35) rfl rfl rfl rfl ?_
        refine go_sget (pc' := 36) (v := .ref 77) hS74 rfl rfl rfl (by decide) rfl rfl ?_
        refine go_s (pc' := 37) rfl rfl rfl rfl ?_
        refine go_s (pc' := 38) (st' := [.int 6, .int 424, .ref 77, .int (nI ((13 * x74) + 6)), .ref am74]) rfl rfl rfl rfl ?_
        refine go_s (pc' := 39) (st' := [.int 430, .ref 77, .int (nI ((13 * x74) + 6)), .ref am74]) rfl rfl rfl rfl ?_
        refine go_s (pc' := 40) rfl rfl rfl rfl ?_
        refine go_s (pc' := 41) (st' := [.int 430, .ref 77, .int (nI ((13 * x74) + 6)), .ref am74]) rfl rfl rfl rfl ?_
        refine go_sald (pc' := 42) (q := 430) (v := .int ((Z 1).1 6)) hS74 rfl (tr_as hr74 (by omega)) rfl rfl (by decide) (congrArg Value.int ((RR_row hO74.2.1 (i := 1) (by decide)).1.1 6 (by decide) (by decide) (by decide))) rfl ?_
        refine go_siast (pc' := 43) (q := ((13 * x74) + 6)) hS74 rfl (tr_ms hr74 (by omega)) tbr_inj (Nat.le_of_ble_eq_true rfl) rfl (by omega) (rk_0 hr74).1 hWm74 rfl (fun h79 hS80 hE81 => ?_)
        refine go_s (pc' := 44) rfl rfl rfl rfl ?_
        refine go_sget (pc' := 45) (v := .ref am74) hS80 rfl rfl rfl (by decide) rfl rfl ?_
        refine go_s (pc' := 46) rfl rfl rfl rfl ?_
        refine go_s (pc' := 47) (st' := [.int 7, .int (nI (13 * x74)), .ref am74]) rfl rfl rfl rfl ?_
        refine go_nadd (pc' := 48) (a := (13 * x74)) (b := 7) rfl rfl rfl rfl rfl ?_
        refine go_s (pc' := 49) rfl rfl rfl rfl ?_
        refine go_sget (pc' := 50) (v := .ref 77) hS80 rfl rfl rfl (by decide) rfl rfl ?_
        refine go_s (pc' := 51) rfl rfl rfl rfl ?_
        refine go_s (pc' := 52) (st' := [.int 8, .int 424, .ref 77, .int (nI ((13 * x74) + 7)), .ref am74]) rfl rfl rfl rfl ?_
        refine go_s (pc' := 53) (st' := [.int 432, .ref 77, .int (nI ((13 * x74) + 7)), .ref am74]) rfl rfl rfl rfl ?_
        refine go_s (pc' := 54) rfl rfl rfl rfl ?_
        refine go_s (pc' := 55) (st' := [.int 432, .ref 77, .int (nI ((13 * x74) + 7)), .ref am74]) rfl rfl rfl rfl ?_
        refine go_sald (pc' := 56) (q := 432) (v := .int ((Z 1).1 8)) hS80 rfl (tr_as hr74 (by omega)) rfl rfl (by decide) (congrArg Value.int ((RR_row hO74.2.1 (i := 1) (by decide)).1.1 8 (by decide) (by decide) (by decide))) rfl ?_
        refine go_siast (pc' := 57) (q := ((13 * x74) + 7)) hS80 rfl (tr_ms hr74 (by omega)) tbr_inj (Nat.le_of_ble_eq_true rfl) rfl (by omega) (rk_0 hr74).1 hWm74 rfl (fun h82 hS83 hE84 => ?_)
        have hE85 := sm_e_trans hE81 hE84
        refine go_s (pc' := 58) rfl rfl rfl rfl ?_
        refine go_sget (pc' := 59) (v := .ref am74) hS83 rfl rfl rfl (by decide) rfl rfl ?_
        refine go_s (pc' := 60) rfl rfl rfl rfl ?_
        refine go_s (pc' := 61) (st' := [.int 8, .int (nI (13 * x74)), .ref am74]) rfl rfl rfl rfl ?_
        refine go_nadd (pc' := 62) (a := (13 * x74)) (b := 8) rfl rfl rfl rfl rfl ?_
        refine go_s (pc' := 63) rfl rfl rfl rfl ?_
        refine go_sget (pc' := 64) (v := .ref 77) hS83 rfl rfl rfl (by decide) rfl rfl ?_
        refine go_s (pc' := 65) rfl rfl rfl rfl ?_
        refine go_s (pc' := 66) (st' := [.int 10, .int 424, .ref 77, .int (nI ((13 * x74) + 8)), .ref am74]) rfl rfl rfl rfl ?_
        refine go_s (pc' := 67) (st' := [.int 434, .ref 77, .int (nI ((13 * x74) + 8)), .ref am74]) rfl rfl rfl rfl ?_
        refine go_s (pc' := 68) rfl rfl rfl rfl ?_
        refine go_s (pc' := 69) (st' := [.int 434, .ref 77, .int (nI ((13 * x74) + 8)), .ref am74]) rfl rfl rfl rfl ?_
        refine go_sald (pc' := 70) (q := 434) (v := .int ((Z 1).1 10)) hS83 rfl (tr_as hr74 (by omega)) rfl rfl (by decide) (congrArg Value.int ((RR_row hO74.2.1 (i := 1) (by decide)).1.1 10 (by decide) (by decide) (by decide))) rfl ?_
        refine go_siast (pc' := 71) (q := ((13 * x74) + 8)) hS83 rfl (tr_ms hr74 (by omega)) tbr_inj (Nat.le_of_ble_eq_true rfl) rfl (by omega) (rk_0 hr74).1 hWm74 rfl (fun h86 hS87 hE88 => ?_)
        have hE89 := sm_e_trans hE85 hE88
        refine go_s (pc' := 72) rfl rfl rfl rfl ?_
        refine go_sget (pc' := 73) (v := .ref am74) hS87 rfl rfl rfl (by decide) rfl rfl ?_
        refine go_s (pc' := 74) rfl rfl rfl rfl ?_
        refine go_s (pc' := 75) (st' := [.int 9, .int (nI (13 * x74)), .ref am74]) rfl rfl rfl rfl ?_
        refine go_nadd (pc' := 76) (a := (13 * x74)) (b := 9) rfl rfl rfl rfl rfl ?_
        refine go_s (pc' := 77) rfl rfl rfl rfl ?_
        refine go_sget (pc' := 78) (v := .ref 77) hS87 rfl rfl rfl (by decide) rfl rfl ?_
        refine go_s (pc' := 79) rfl rfl rfl rfl ?_
        refine go_s (pc' := 80) (st' := [.int 12, .int 424, .ref 77, .int (nI ((13 * x74) + 9)), .ref am74]) rfl rfl rfl rfl ?_
        refine go_s (pc' := 81) (st' := [.int 436, .ref 77, .int (nI ((13 * x74) + 9)), .ref am74]) rfl rfl rfl rfl ?_
        refine go_s (pc' := 82) rfl rfl rfl rfl ?_
        refine go_s (pc' := 83) (st' := [.int 436, .ref 77, .int (nI ((13 * x74) + 9)), .ref am74]) rfl rfl rfl rfl ?_
        refine go_sald (pc' := 84) (q := 436) (v := .int ((Z 1).1 12)) hS87 rfl (tr_as hr74 (by omega)) rfl rfl (by decide) (congrArg Value.int ((RR_row hO74.2.1 (i := 1) (by decide)).1.1 12 (by decide) (by decide) (by decide))) rfl ?_
        refine go_siast (pc' := 85) (q := ((13 * x74) + 9)) hS87 rfl (tr_ms hr74 (by omega)) tbr_inj (Nat.le_of_ble_eq_true rfl) rfl (by omega) (rk_0 hr74).1 hWm74 rfl (fun h90 hS91 hE92 => ?_)
        have hE93 := sm_e_trans hE89 hE92
        refine go_s (pc' := 86) rfl rfl rfl rfl ?_
        refine go_sget (pc' := 87) (v := .ref am74) hS91 rfl rfl rfl (by decide) rfl rfl ?_
        refine go_s (pc' := 88) rfl rfl rfl rfl ?_
        refine go_s (pc' := 89) (st' := [.int 10, .int (nI (13 * x74)), .ref am74]) rfl rfl rfl rfl ?_
        refine go_nadd (pc' := 90) (a := (13 * x74)) (b := 10) rfl rfl rfl rfl rfl ?_
        refine go_s (pc' := 91) rfl rfl rfl rfl ?_
        refine go_sget (pc' := 92) (v := .ref 77) hS91 rfl rfl rfl (by decide) rfl rfl ?_
        refine go_s (pc' := 93) rfl rfl rfl rfl ?_
        refine go_s (pc' := 94) (st' := [.int 0, .int 424, .ref 77, .int (nI ((13 * x74) + 10)), .ref am74]) rfl rfl rfl rfl ?_
        refine go_s (pc' := 95) (st' := [.int 424, .ref 77, .int (nI ((13 * x74) + 10)), .ref am74]) rfl rfl rfl rfl ?_
        refine go_sald (pc' := 96) (q := 424) (v := .int ((Z 1).1 0)) hS91 rfl (tr_as hr74 (by omega)) rfl rfl (by decide) (congrArg Value.int ((RR_row hO74.2.1 (i := 1) (by decide)).1.1 0 (by decide) (by decide) (by decide))) rfl ?_
        refine go_siast (pc' := 97) (q := ((13 * x74) + 10)) hS91 rfl (tr_ms hr74 (by omega)) tbr_inj (Nat.le_of_ble_eq_true rfl) rfl (by omega) (rk_0 hr74).1 hWm74 rfl (fun h94 hS95 hE96 => ?_)
        have hE97 := sm_e_trans hE93 hE96
        refine go_ret rfl rfl ?_
        have hms : rrp 0 (I, Q, Z) = rsn 1 2 (mgA 0 (Z 1).1) (I, Q, Z) := by
          unfold rrp
          rw [if_neg (show ¬ (I, Q, Z).1 11 (1 + 0) = -1 from (fun z => absurd (e67.symm.trans z) (by decide))), show pn (I, Q, Z).1 (1 + 0) = 2 from pn_l (v := 2) e67 (by decide), show pn (I, Q, Z).1 0 = 1 from pn_l (v := 1) e1 (by decide), show row1 (I, Q, Z) 0 = (Z 1).1 from row1_l (v := 1) e1 (by decide)]
        change sm (tbr am74 (13 * ln74) 77 5088) _ (uI (uI (uI (uI (uI (jn (appI I Q (4 * 1 + 2)) K74) 50 ((13 * x74) + 6) ((Z 1).1 6)) 50 ((13 * x74) + 7) ((Z 1).1 8)) 50 ((13 * x74) + 8) ((Z 1).1 10)) 50 ((13 * x74) + 9) ((Z 1).1 12)) 50 ((13 * x74) + 10) ((Z 1).1 0)) Y at hS95
        rw [jn_hi (c := 50) (by decide), jn_hi (c := 50) (by decide), jn_hi (c := 50) (by decide), jn_hi (c := 50) (by decide), jn_hi (c := 50) (by decide)] at hS95
        have hU98 := RO_cl (K' := (uI (uI (uI (uI (uI K74 50 ((13 * x74) + 6) ((Z 1).1 6)) 50 ((13 * x74) + 7) ((Z 1).1 8)) 50 ((13 * x74) + 8) ((Z 1).1 10)) 50 ((13 * x74) + 9) ((Z 1).1 12)) 50 ((13 * x74) + 10) ((Z 1).1 0))) (m := (mgn (mgA 0 (Z 1).1) (I 9 (4 * 1 + 2) + 1))) (by omega) hO74 (hE97) rfl rfl rfl rfl (fun c j _ hc => by
          simp only [uI]
          rw [if_neg (by omega), if_neg (by omega), if_neg (by omega), if_neg (by omega), if_neg (by omega)]) (fun i hi => by
          have hi2 : i < 5 := hi
          match i, hi2 with
            | 0, _ => (repeat (first | rw [uI_e (by omega)] | rw [uI_j (by omega)])) <;> rfl
            | 1, _ => (repeat (first | rw [uI_e (by omega)] | rw [uI_j (by omega)])) <;> rfl
            | 2, _ => (repeat (first | rw [uI_e (by omega)] | rw [uI_j (by omega)])) <;> rfl
            | 3, _ => (repeat (first | rw [uI_e (by omega)] | rw [uI_j (by omega)])) <;> rfl
            | 4, _ => (repeat (first | rw [uI_e (by omega)] | rw [uI_j (by omega)])) <;> rfl)
        have hA99 : RA w B (R + 1) H hb h94 ((appI I Q (4 * 1 + 2)), (uQ Q (4 * 1 + 2) (Q (4 * 1 + 2) ++ [(mgn (mgA 0 (Z 1).1) (I 9 (4 * 1 + 2) + 1))])), Z) := RA_u.mpr ⟨_, _, _, _, hS95, hU98⟩
        rw [hms, show rsn 1 2 (mgA 0 (Z 1).1) (I, Q, Z) = mapp (4 * 1 + 2) (mgA 0 (Z 1).1) (I, Q, Z) from if_neg u69]
        exact ⟨rfl, hA99⟩
    · skip
      refine go_s (pc' := 1) rfl rfl rfl rfl ?_
      refine go_sget (pc' := 2) (v := .ref 78) hS rfl rfl rfl (by decide) rfl rfl ?_
      refine go_s (pc' := 3) (st' := [.int 1, .ref 78]) rfl rfl rfl rfl ?_
      refine go_s (pc' := 4) rfl rfl rfl rfl ?_
      refine go_s (pc' := 5) (st' := [.int 1, .ref 78]) rfl rfl rfl rfl ?_
      refine go_sald (pc' := 6) (q := 1) (v := .int 3) hS rfl (tr_s hr (a := 78) rfl (by decide)) rfl rfl (by decide) (congrArg Value.int e67) rfl ?_
      refine go_s (pc' := 7) (lo' := [some (.ref 62), some (.int 0), some (.int 3), none, none]) rfl rfl rfl rfl ?_
      refine go_s (pc' := 8) rfl rfl rfl rfl ?_
      refine go_s (pc' := 9) (st' := [.int (-1), .int 3]) rfl rfl rfl rfl ?_
      refine go_icmpP (t' := 11) (pc' := 10) rfl rfl rfl (fun _ => ?_) (fun (c : ¬ (¬ (3 : Int32) = (-1))) => absurd (by decide) c)
      refine go_s (pc' := 12) rfl rfl rfl rfl ?_
      refine go_s (pc' := 13) rfl rfl rfl rfl ?_
      refine go_sget (pc' := 14) (v := .ref 78) hS rfl rfl rfl (by decide) rfl rfl ?_
      refine go_s (pc' := 15) (st' := [.int 0, .ref 78, .ref 62]) rfl rfl rfl rfl ?_
      refine go_sald (pc' := 16) (q := 0) (v := .int 1) hS rfl (tr_s hr (a := 78) rfl (by decide)) rfl rfl (by decide) (congrArg Value.int e1) rfl ?_
      refine go_s (pc' := 17) rfl rfl rfl rfl ?_
      refine go_s (pc' := 18) (st' := [.int 2, .int 3, .int 1, .ref 62]) rfl rfl rfl rfl ?_
      refine go_s (pc' := 19) rfl rfl rfl rfl ?_
      have hU100 : RU w B R H hb h am ln K (I, Q, Z) := RU_I (sm_e_refl (tbr am (13 * ln) 77 5088) _) (I' := I) (fun _ => rfl) (fun _ => rfl) (Nat.le_refl _) hU
      by_cases u101 : I 0 3 = 0
      · skip
        refine go_callV (pc' := 20) rfl rfl rfl (Nat.le_of_ble_eq_true rfl) rfl (sm_o hS rfl) rfl rfl rfl (rn_snd_0 hS hU100 (by omega) (f := 1) (t := 3) (by decide) (by decide) u101 (by omega)) (fun r h102 q103 => ?_)
        obtain ⟨rfl, rfl⟩ := q103
        refine go_s (pc' := 21) (lo' := [some (.ref 62), some (.int 0), some (.int 3), some (.int (-1)), none]) rfl rfl rfl rfl ?_
        refine go_s (pc' := 22) rfl rfl rfl rfl ?_
        refine go_s (pc' := 23) (st' := [.int (-1), .int (-1)]) rfl rfl rfl rfl ?_
        refine go_icmpP (t' := 25) (pc' := 24) rfl rfl rfl (fun (c : ¬ ((-1) : Int32) = (-1)) => absurd c (by decide)) (fun _ => ?_)
        refine go_ret rfl rfl ?_
        have hms : rrp 0 (I, Q, Z) = rsn 1 3 (mgA 0 (Z 1).1) (I, Q, Z) := by
          unfold rrp
          rw [if_neg (show ¬ (I, Q, Z).1 11 (1 + 0) = -1 from (fun z => absurd (e67.symm.trans z) (by decide))), show pn (I, Q, Z).1 (1 + 0) = 3 from pn_l (v := 3) e67 (by decide), show pn (I, Q, Z).1 0 = 1 from pn_l (v := 1) e1 (by decide), show row1 (I, Q, Z) 0 = (Z 1).1 from row1_l (v := 1) e1 (by decide)]
        rw [hms, show rsn 1 3 (mgA 0 (Z 1).1) (I, Q, Z) = (I, Q, Z) from if_pos u101]
        exact ⟨rfl, RA_R (by omega) hA⟩
      · skip
        refine go_callV (pc' := 20) rfl rfl rfl (Nat.le_of_ble_eq_true rfl) rfl (sm_o hS rfl) rfl rfl rfl (rn_snd_1 hS hU100 (by omega) (f := 1) (t := 3) (by decide) (by decide) u101 (by omega)) (fun r h104 q105 => ?_)
        obtain ⟨x106, am106, ln106, K106, rfl, hS106, hO106⟩ := q105
        obtain ⟨hx106, hln106, hr106, hWm106⟩ := RO_x hO106 (by omega)
        have ep107 : (appI I Q (4 * 1 + 3)) 11 0 = 1 := (congrFun (appI_o (by decide) (by decide) (by decide)) 0).trans e1
        have ep108 : (appI I Q (4 * 1 + 3)) 11 1 = 3 := (congrFun (appI_o (by decide) (by decide) (by decide)) 1).trans e67
        refine go_s (pc' := 21) (lo' := [some (.ref 62), some (.int 0), some (.int 3), some (.int (nI (13 * x106))), none]) rfl rfl rfl rfl ?_
        refine go_s (pc' := 22) rfl rfl rfl rfl ?_
        refine go_s (pc' := 23) (st' := [.int (-1), .int (nI (13 * x106))]) rfl rfl rfl rfl ?_
        refine go_icmpP (t' := 25) (pc' := 24) rfl rfl rfl (fun _ => ?_) (fun (c : ¬ (¬ (nI (13 * x106)) = (-1))) => absurd (nI_nm1 (by omega)) c)
        refine go_s (pc' := 26) rfl rfl rfl rfl ?_
        refine go_s (pc' := 27) (st' := [.int 0, .ref 62]) rfl rfl rfl rfl ?_
        refine go_callV (pc' := 28) rfl rfl rfl (Nat.le_of_ble_eq_true rfl) rfl (sm_o hS106 rfl) rfl rfl rfl (rt_at_0 hr106 hS106 (Or.inr (Or.inr ep107)) (fun z => absurd (ep107.symm.trans z) (by decide)) (by omega)) (fun r h109 q110 => ?_)
        obtain ⟨rfl, rfl⟩ := q110
        rw [show rwi (jn (appI I Q (4 * 1 + 3)) K106) 0 = 1 by unfold rwi pn; rw [show (jn (appI I Q (4 * 1 + 3)) K106) 11 0 = 1 from ep107]; rfl]
        show am_Go _ _ _ _ 28 _ [.int 424] _ _
        refine go_s (pc' := 29) (lo' := [some (.ref 62), some (.int 0), some (.int 3), some (.int (nI (13 * x106))), some (.int 424)]) rfl rfl rfl rfl ?_
        refine go_s (pc' := 30) rfl rfl rfl rfl ?_
        refine go_sget (pc' := 31) (v := .ref am106) hS106 rfl rfl rfl (by decide) rfl rfl ?_
        refine go_s (pc' := 32) rfl rfl rfl rfl ?_
        refine go_s (pc' := 33) (st' := [.int 6, .int (nI (13 * x106)), .ref am106]) rfl rfl rfl rfl ?_
        refine go_nadd (pc' := 34) (a := (13 * x106)) (b := 6) rfl rfl rfl rfl rfl ?_
        refine go_s (pc' := 35) rfl rfl rfl rfl ?_
        refine go_sget (pc' := 36) (v := .ref 77) hS106 rfl rfl rfl (by decide) rfl rfl ?_
        refine go_s (pc' := 37) rfl rfl rfl rfl ?_
        refine go_s (pc' := 38) (st' := [.int 6, .int 424, .ref 77, .int (nI ((13 * x106) + 6)), .ref am106]) rfl rfl rfl rfl ?_
        refine go_s (pc' := 39) (st' := [.int 430, .ref 77, .int (nI ((13 * x106) + 6)), .ref am106]) rfl rfl rfl rfl ?_
        refine go_s (pc' := 40) rfl rfl rfl rfl ?_
        refine go_s (pc' := 41) (st' := [.int 430, .ref 77, .int (nI ((13 * x106) + 6)), .ref am106]) rfl rfl rfl rfl ?_
        refine go_sald (pc' := 42) (q := 430) (v := .int ((Z 1).1 6)) hS106 rfl (tr_as hr106 (by omega)) rfl rfl (by decide) (congrArg Value.int ((RR_row hO106.2.1 (i := 1) (by decide)).1.1 6 (by decide) (by decide) (by decide))) rfl ?_
        refine go_siast (pc' := 43) (q := ((13 * x106) + 6)) hS106 rfl (tr_ms hr106 (by omega)) tbr_inj (Nat.le_of_ble_eq_true rfl) rfl (by omega) (rk_0 hr106).1 hWm106 rfl (fun h111 hS112 hE113 => ?_)
        refine go_s (pc' := 44) rfl rfl rfl rfl ?_
        refine go_sget (pc' := 45) (v := .ref am106) hS112 rfl rfl rfl (by decide) rfl rfl ?_
        refine go_s (pc' := 46) rfl rfl rfl rfl ?_
        refine go_s (pc' := 47) (st' := [.int 7, .int (nI (13 * x106)), .ref am106]) rfl rfl rfl rfl ?_
        refine go_nadd (pc' := 48) (a := (13 * x106)) (b := 7) rfl rfl rfl rfl rfl ?_
        refine go_s (pc' := 49) rfl rfl rfl rfl ?_
        refine go_sget (pc' := 50) (v := .ref 77) hS112 rfl rfl rfl (by decide) rfl rfl ?_
        refine go_s (pc' := 51) rfl rfl rfl rfl ?_
        refine go_s (pc' := 52) (st' := [.int 8, .int 424, .ref 77, .int (nI ((13 * x106) + 7)), .ref am106]) rfl rfl rfl rfl ?_
        refine go_s (pc' := 53) (st' := [.int 432, .ref 77, .int (nI ((13 * x106) + 7)), .ref am106]) rfl rfl rfl rfl ?_
        refine go_s (pc' := 54) rfl rfl rfl rfl ?_
        refine go_s (pc' := 55) (st' := [.int 432, .ref 77, .int (nI ((13 * x106) + 7)), .ref am106]) rfl rfl rfl rfl ?_
        refine go_sald (pc' := 56) (q := 432) (v := .int ((Z 1).1 8)) hS112 rfl (tr_as hr106 (by omega)) rfl rfl (by decide) (congrArg Value.int ((RR_row hO106.2.1 (i := 1) (by decide)).1.1 8 (by decide) (by decide) (by decide))) rfl ?_
        refine go_siast (pc' := 57) (q := ((13 * x106) + 7)) hS112 rfl (tr_ms hr106 (by omega)) tbr_inj (Nat.le_of_ble_eq_true rfl) rfl (by omega) (rk_0 hr106).1 hWm106 rfl (fun h114 hS115 hE116 => ?_)
        have hE117 := sm_e_trans hE113 hE116
        refine go_s (pc' := 58) rfl rfl rfl rfl ?_
        refine go_sget (pc' := 59) (v := .ref am106) hS115 rfl rfl rfl (by decide) rfl rfl ?_
        refine go_s (pc' := 60) rfl rfl rfl rfl ?_
        refine go_s (pc' := 61) (st' := [.int 8, .int (nI (13 * x106)), .ref am106]) rfl rfl rfl rfl ?_
        refine go_nadd (pc' := 62) (a := (13 * x106)) (b := 8) rfl rfl rfl rfl rfl ?_
        refine go_s (pc' := 63) rfl rfl rfl rfl ?_
        refine go_sget (pc' := 64) (v := .ref 77) hS115 rfl rfl rfl (by decide) rfl rfl ?_
        refine go_s (pc' := 65) rfl rfl rfl rfl ?_
        refine go_s (pc' := 66) (st' := [.int 10, .int 424, .ref 77, .int (nI ((13 * x106) + 8)), .ref am106]) rfl rfl rfl rfl ?_
        refine go_s (pc' := 67) (st' := [.int 434, .ref 77, .int (nI ((13 * x106) + 8)), .ref am106]) rfl rfl rfl rfl ?_
        refine go_s (pc' := 68) rfl rfl rfl rfl ?_
        refine go_s (pc' := 69) (st' := [.int 434, .ref 77, .int (nI ((13 * x106) + 8)), .ref am106]) rfl rfl rfl rfl ?_
        refine go_sald (pc' := 70) (q := 434) (v := .int ((Z 1).1 10)) hS115 rfl (tr_as hr106 (by omega)) rfl rfl (by decide) (congrArg Value.int ((RR_row hO106.2.1 (i := 1) (by decide)).1.1 10 (by decide) (by decide) (by decide))) rfl ?_
        refine go_siast (pc' := 71) (q := ((13 * x106) + 8)) hS115 rfl (tr_ms hr106 (by omega)) tbr_inj (Nat.le_of_ble_eq_true rfl) rfl (by omega) (rk_0 hr106).1 hWm106 rfl (fun h118 hS119 hE120 => ?_)
        have hE121 := sm_e_trans hE117 hE120
        refine go_s (pc' := 72) rfl rfl rfl rfl ?_
        refine go_sget (pc' := 73) (v := .ref am106) hS119 rfl rfl rfl (by decide) rfl rfl ?_
        refine go_s (pc' := 74) rfl rfl rfl rfl ?_
        refine go_s (pc' := 75) (st' := [.int 9, .int (nI (13 * x106)), .ref am106]) rfl rfl rfl rfl ?_
        refine go_nadd (pc' := 76) (a := (13 * x106)) (b := 9) rfl rfl rfl rfl rfl ?_
        refine go_s (pc' := 77) rfl rfl rfl rfl ?_
        refine go_sget (pc' := 78) (v := .ref 77) hS119 rfl rfl rfl (by decide) rfl rfl ?_
        refine go_s (pc' := 79) rfl rfl rfl rfl ?_
        refine go_s (pc' := 80) (st' := [.int 12, .int 424, .ref 77, .int (nI ((13 * x106) + 9)), .ref am106]) rfl rfl rfl rfl ?_
        refine go_s (pc' := 81) (st' := [.int 436, .ref 77, .int (nI ((13 * x106) + 9)), .ref am106]) rfl rfl rfl rfl ?_
        refine go_s (pc' := 82) rfl rfl rfl rfl ?_
        refine go_s (pc' := 83) (st' := [.int 436, .ref 77, .int (nI ((13 * x106) + 9)), .ref am106]) rfl rfl rfl rfl ?_
        refine go_sald (pc' := 84) (q := 436) (v := .int ((Z 1).1 12)) hS119 rfl (tr_as hr106 (by omega)) rfl rfl (by decide) (congrArg Value.int ((RR_row hO106.2.1 (i := 1) (by decide)).1.1 12 (by decide) (by decide) (by decide))) rfl ?_
        refine go_siast (pc' := 85) (q := ((13 * x106) + 9)) hS119 rfl (tr_ms hr106 (by omega)) tbr_inj (Nat.le_of_ble_eq_true rfl) rfl (by omega) (rk_0 hr106).1 hWm106 rfl (fun h122 hS123 hE124 => ?_)
        have hE125 := sm_e_trans hE121 hE124
        refine go_s (pc' := 86) rfl rfl rfl rfl ?_
        refine go_sget (pc' := 87) (v := .ref am106) hS123 rfl rfl rfl (by decide) rfl rfl ?_
        refine go_s (pc' := 88) rfl rfl rfl rfl ?_
        refine go_s (pc' := 89) (st' := [.int 10, .int (nI (13 * x106)), .ref am106]) rfl rfl rfl rfl ?_
        refine go_nadd (pc' := 90) (a := (13 * x106)) (b := 10) rfl rfl rfl rfl rfl ?_
        refine go_s (pc' := 91) rfl rfl rfl rfl ?_
        refine go_sget (pc' := 92) (v := .ref 77) hS123 rfl rfl rfl (by decide) rfl rfl ?_
        refine go_s (pc' := 93) rfl rfl rfl rfl ?_
        refine go_s (pc' := 94) (st' := [.int 0, .int 424, .ref 77, .int (nI ((13 * x106) + 10)), .ref am106]) rfl rfl rfl rfl ?_
        refine go_s (pc' := 95) (st' := [.int 424, .ref 77, .int (nI ((13 * x106) + 10)), .ref am106]) rfl rfl rfl rfl ?_
        refine go_sald (pc' := 96) (q := 424) (v := .int ((Z 1).1 0)) hS123 rfl (tr_as hr106 (by omega)) rfl rfl (by decide) (congrArg Value.int ((RR_row hO106.2.1 (i := 1) (by decide)).1.1 0 (by decide) (by decide) (by decide))) rfl ?_
        refine go_siast (pc' := 97) (q := ((13 * x106) + 10)) hS123 rfl (tr_ms hr106 (by omega)) tbr_inj (Nat.le_of_ble_eq_true rfl) rfl (by omega) (rk_0 hr106).1 hWm106 rfl (fun h126 hS127 hE128 => ?_)
        have hE129 := sm_e_trans hE125 hE128
        refine go_ret rfl rfl ?_
        have hms : rrp 0 (I, Q, Z) = rsn 1 3 (mgA 0 (Z 1).1) (I, Q, Z) := by
          unfold rrp
          rw [if_neg (show ¬ (I, Q, Z).1 11 (1 + 0) = -1 from (fun z => absurd (e67.symm.trans z) (by decide))), show pn (I, Q, Z).1 (1 + 0) = 3 from pn_l (v := 3) e67 (by decide), show pn (I, Q, Z).1 0 = 1 from pn_l (v := 1) e1 (by decide), show row1 (I, Q, Z) 0 = (Z 1).1 from row1_l (v := 1) e1 (by decide)]
        change sm (tbr am106 (13 * ln106) 77 5088) _ (uI (uI (uI (uI (uI (jn (appI I Q (4 * 1 + 3)) K106) 50 ((13 * x106) + 6) ((Z 1).1 6)) 50 ((13 * x106) + 7) ((Z 1).1 8)) 50 ((13 * x106) + 8) ((Z 1).1 10)) 50 ((13 * x106) + 9) ((Z 1).1 12)) 50 ((13 * x106) + 10) ((Z 1).1 0)) Y at hS127
        rw [jn_hi (c := 50) (by decide), jn_hi (c := 50) (by decide), jn_hi (c := 50) (by decide), jn_hi (c := 50) (by decide), jn_hi (c := 50) (by decide)] at hS127
        have hU130 := RO_cl (K' := (uI (uI (uI (uI (uI K106 50 ((13 * x106) + 6) ((Z 1).1 6)) 50 ((13 * x106) + 7) ((Z 1).1 8)) 50 ((13 * x106) + 8) ((Z 1).1 10)) 50 ((13 * x106) + 9) ((Z 1).1 12)) 50 ((13 * x106) + 10) ((Z 1).1 0))) (m := (mgn (mgA 0 (Z 1).1) (I 9 (4 * 1 + 3) + 1))) (by omega) hO106 (hE129) rfl rfl rfl rfl (fun c j _ hc => by
          simp only [uI]
          rw [if_neg (by omega), if_neg (by omega), if_neg (by omega), if_neg (by omega), if_neg (by omega)]) (fun i hi => by
          have hi2 : i < 5 := hi
          match i, hi2 with
            | 0, _ => (repeat (first | rw [uI_e (by omega)] | rw [uI_j (by omega)])) <;> rfl
            | 1, _ => (repeat (first | rw [uI_e (by omega)] | rw [uI_j (by omega)])) <;> rfl
            | 2, _ => (repeat (first | rw [uI_e (by omega)] | rw [uI_j (by omega)])) <;> rfl
            | 3, _ => (repeat (first | rw [uI_e (by omega)] | rw [uI_j (by omega)])) <;> rfl
            | 4, _ => (repeat (first | rw [uI_e (by omega)] | rw [uI_j (by omega)])) <;> rfl)
        have hA131 : RA w B (R + 1) H hb h126 ((appI I Q (4 * 1 + 3)), (uQ Q (4 * 1 + 3) (Q (4 * 1 + 3) ++ [(mgn (mgA 0 (Z 1).1) (I 9 (4 * 1 + 3) + 1))])), Z) := RA_u.mpr ⟨_, _, _, _, hS127, hU130⟩
        rw [hms, show rsn 1 3 (mgA 0 (Z 1).1) (I, Q, Z) = mapp (4 * 1 + 3) (mgA 0 (Z 1).1) (I, Q, Z) from if_neg u101]
        exact ⟨rfl, hA131⟩
theorem ra_rp_1 {w : Nat → Bool} {d B R : Nat} {H : List (Nat × mg)} {hb : Bool} {h : am_Hp} {I : sm_I} {Q : mQ} {Z : mZ} (hA : RA w B R H hb h (I, Q, Z)) (hR : R + 1 < 40000) (hp0 : prk I 0) (hn0 : ¬ I 11 0 = -1) (hpk : prk I 2) (hd : 3 ≤ d) : am_Ev (am_prog w) d 143 [.ref 62, .int 1] h (fun r h' => r = none ∧ RA w B (R + 1) H hb h' (rrp 1 (I, Q, Z))) := by
  obtain ⟨K, Y, am, ln, hS, hU⟩ := RA_u.mp hA
  change sm (tbr am (13 * ln) 77 5088) h (jn I K) Y at hS
  obtain ⟨hW, hWm, -, -, hr, -⟩ := id hU.1
  have hln := RU_ln hU (by omega)
  obtain ⟨d, rfl⟩ : ∃ e, d = e + 1 := ⟨d - 1, by omega⟩
  refine ev_go rfl (Nat.le_of_ble_eq_true rfl) rfl ?_
  rcases hp0 with e1 | e1 | e1
  · skip
    exact absurd e1 hn0
  · skip
    rcases hpk with e2 | e2 | e2
    · skip
      refine go_s (pc' := 1) rfl rfl rfl rfl ?_
      refine go_sget (pc' := 2) (v := .ref 78) hS rfl rfl rfl (by decide) rfl rfl ?_
      refine go_s (pc' := 3) (st' := [.int 1, .ref 78]) rfl rfl rfl rfl ?_
      refine go_s (pc' := 4) rfl rfl rfl rfl ?_
      refine go_s (pc' := 5) (st' := [.int 2, .ref 78]) rfl rfl rfl rfl ?_
      refine go_sald (pc' := 6) (q := 2) (v := .int (-1)) hS rfl (tr_s hr (a := 78) rfl (by decide)) rfl rfl (by decide) (congrArg Value.int e2) rfl ?_
      refine go_s (pc' := 7) (lo' := [some (.ref 62), some (.int 1), some (.int (-1)), none, none]) rfl rfl rfl rfl ?_
      refine go_s (pc' := 8) rfl rfl rfl rfl ?_
      refine go_s (pc' := 9) (st' := [.int (-1), .int (-1)]) rfl rfl rfl rfl ?_
      refine go_icmpP (t' := 11) (pc' := 10) rfl rfl rfl (fun (c : ¬ ((-1) : Int32) = (-1)) => absurd c (by decide)) (fun _ => ?_)
      refine go_ret rfl rfl ?_
      rw [show rrp 1 (I, Q, Z) = (I, Q, Z) from if_pos e2]
      exact ⟨rfl, RA_R (by omega) hA⟩
    · skip
      refine go_s (pc' := 1) rfl rfl rfl rfl ?_
      refine go_sget (pc' := 2) (v := .ref 78) hS rfl rfl rfl (by decide) rfl rfl ?_
      refine go_s (pc' := 3) (st' := [.int 1, .ref 78]) rfl rfl rfl rfl ?_
      refine go_s (pc' := 4) rfl rfl rfl rfl ?_
      refine go_s (pc' := 5) (st' := [.int 2, .ref 78]) rfl rfl rfl rfl ?_
      refine go_sald (pc' := 6) (q := 2) (v := .int 2) hS rfl (tr_s hr (a := 78) rfl (by decide)) rfl rfl (by decide) (congrArg Value.int e2) rfl ?_
      refine go_s (pc' := 7) (lo' := [some (.ref 62), some (.int 1), some (.int 2), none, none]) rfl rfl rfl rfl ?_
      refine go_s (pc' := 8) rfl rfl rfl rfl ?_
      refine go_s (pc' := 9) (st' := [.int (-1), .int 2]) rfl rfl rfl rfl ?_
      refine go_icmpP (t' := 11) (pc' := 10) rfl rfl rfl (fun _ => ?_) (fun (c : ¬ (¬ (2 : Int32) = (-1))) => absurd (by decide) c)
      refine go_s (pc' := 12) rfl rfl rfl rfl ?_
      refine go_s (pc' := 13) rfl rfl rfl rfl ?_
      refine go_sget (pc' := 14) (v := .ref 78) hS rfl rfl rfl (by decide) rfl rfl ?_
      refine go_s (pc' := 15) (st' := [.int 0, .ref 78, .ref 62]) rfl rfl rfl rfl ?_
      refine go_sald (pc' := 16) (q := 0) (v := .int 0) hS rfl (tr_s hr (a := 78) rfl (by decide)) rfl rfl (by decide) (congrArg Value.int e1) rfl ?_
      refine go_s (pc' := 17) rfl rfl rfl rfl ?_
      refine go_s (pc' := 18) (st' := [.int 2, .int 2, .int 0, .ref 62]) rfl rfl rfl rfl ?_
      refine go_s (pc' := 19) rfl rfl rfl rfl ?_
      have hU3 : RU w B R H hb h am ln K (I, Q, Z) := RU_I (sm_e_refl (tbr am (13 * ln) 77 5088) _) (I' := I) (fun _ => rfl) (fun _ => rfl) (Nat.le_refl _) hU
      by_cases u4 : I 0 2 = 0
      · skip
        refine go_callV (pc' := 20) rfl rfl rfl (Nat.le_of_ble_eq_true rfl) rfl (sm_o hS rfl) rfl rfl rfl (rn_snd_0 hS hU3 (by omega) (f := 0) (t := 2) (by decide) (by decide) u4 (by omega)) (fun r h5 q6 => ?_)
        obtain ⟨rfl, rfl⟩ := q6
        refine go_s (pc' := 21) (lo' := [some (.ref 62), some (.int 1), some (.int 2), some (.int (-1)), none]) rfl rfl rfl rfl ?_
        refine go_s (pc' := 22) rfl rfl rfl rfl ?_
        refine go_s (pc' := 23) (st' := [.int (-1), .int (-1)]) rfl rfl rfl rfl ?_
        refine go_icmpP (t' := 25) (pc' := 24) rfl rfl rfl (fun (c : ¬ ((-1) : Int32) = (-1)) => absurd c (by decide)) (fun _ => ?_)
        refine go_ret rfl rfl ?_
        have hms : rrp 1 (I, Q, Z) = rsn 0 2 (mgA 1 (Z 0).1) (I, Q, Z) := by
          unfold rrp
          rw [if_neg (show ¬ (I, Q, Z).1 11 (1 + 1) = -1 from (fun z => absurd (e2.symm.trans z) (by decide))), show pn (I, Q, Z).1 (1 + 1) = 2 from pn_l (v := 2) e2 (by decide), show pn (I, Q, Z).1 0 = 0 from pn_l (v := 0) e1 (by decide), show row1 (I, Q, Z) 0 = (Z 0).1 from row1_l (v := 0) e1 (by decide)]
        rw [hms, show rsn 0 2 (mgA 1 (Z 0).1) (I, Q, Z) = (I, Q, Z) from if_pos u4]
        exact ⟨rfl, RA_R (by omega) hA⟩
      · skip
        refine go_callV (pc' := 20) rfl rfl rfl (Nat.le_of_ble_eq_true rfl) rfl (sm_o hS rfl) rfl rfl rfl (rn_snd_1 hS hU3 (by omega) (f := 0) (t := 2) (by decide) (by decide) u4 (by omega)) (fun r h7 q8 => ?_)
        obtain ⟨x9, am9, ln9, K9, rfl, hS9, hO9⟩ := q8
        obtain ⟨hx9, hln9, hr9, hWm9⟩ := RO_x hO9 (by omega)
        have ep10 : (appI I Q (4 * 0 + 2)) 11 0 = 0 := (congrFun (appI_o (by decide) (by decide) (by decide)) 0).trans e1
        have ep11 : (appI I Q (4 * 0 + 2)) 11 2 = 2 := (congrFun (appI_o (by decide) (by decide) (by decide)) 2).trans e2
        refine go_s (pc' := 21) (lo' := [some (.ref 62), some (.int 1), some (.int 2), some (.int (nI (13 * x9))), none]) rfl rfl rfl rfl ?_
        refine go_s (pc' := 22) rfl rfl rfl rfl ?_
        refine go_s (pc' := 23) (st' := [.int (-1), .int (nI (13 * x9))]) rfl rfl rfl rfl ?_
        refine go_icmpP (t' := 25) (pc' := 24) rfl rfl rfl (fun _ => ?_) (fun (c : ¬ (¬ (nI (13 * x9)) = (-1))) => absurd (nI_nm1 (by omega)) c)
        refine go_s (pc' := 26) rfl rfl rfl rfl ?_
        refine go_s (pc' := 27) (st' := [.int 0, .ref 62]) rfl rfl rfl rfl ?_
        refine go_callV (pc' := 28) rfl rfl rfl (Nat.le_of_ble_eq_true rfl) rfl (sm_o hS9 rfl) rfl rfl rfl (rt_at_0 hr9 hS9 (Or.inr (Or.inl ep10)) (fun z => absurd (ep10.symm.trans z) (by decide)) (by omega)) (fun r h12 q13 => ?_)
        obtain ⟨rfl, rfl⟩ := q13
        rw [show rwi (jn (appI I Q (4 * 0 + 2)) K9) 0 = 0 by unfold rwi pn; rw [show (jn (appI I Q (4 * 0 + 2)) K9) 11 0 = 0 from ep10]; rfl]
        show am_Go _ _ _ _ 28 _ [.int 0] _ _
        refine go_s (pc' := 29) (lo' := [some (.ref 62), some (.int 1), some (.int 2), some (.int (nI (13 * x9))), some (.int 0)]) rfl rfl rfl rfl ?_
        refine go_s (pc' := 30) rfl rfl rfl rfl ?_
        refine go_sget (pc' := 31) (v := .ref am9) hS9 rfl rfl rfl (by decide) rfl rfl ?_
        refine go_s (pc' := 32) rfl rfl rfl rfl ?_
        refine go_s (pc' := 33) (st' := [.int 6, .int (nI (13 * x9)), .ref am9]) rfl rfl rfl rfl ?_
        refine go_nadd (pc' := 34) (a := (13 * x9)) (b := 6) rfl rfl rfl rfl rfl ?_
        refine go_s (pc' := 35) rfl rfl rfl rfl ?_
        refine go_sget (pc' := 36) (v := .ref 77) hS9 rfl rfl rfl (by decide) rfl rfl ?_
        refine go_s (pc' := 37) rfl rfl rfl rfl ?_
        refine go_s (pc' := 38) (st' := [.int 6, .int 0, .ref 77, .int (nI ((13 * x9) + 6)), .ref am9]) rfl rfl rfl rfl ?_
        refine go_s (pc' := 39) (st' := [.int 6, .ref 77, .int (nI ((13 * x9) + 6)), .ref am9]) rfl rfl rfl rfl ?_
        refine go_s (pc' := 40) rfl rfl rfl rfl ?_
        refine go_s (pc' := 41) (st' := [.int 7, .ref 77, .int (nI ((13 * x9) + 6)), .ref am9]) rfl rfl rfl rfl ?_
        refine go_sald (pc' := 42) (q := 7) (v := .int ((Z 0).1 7)) hS9 rfl (tr_as hr9 (by omega)) rfl rfl (by decide) (congrArg Value.int ((RR_row hO9.2.1 (i := 0) (by decide)).1.1 7 (by decide) (by decide) (by decide))) rfl ?_
        refine go_siast (pc' := 43) (q := ((13 * x9) + 6)) hS9 rfl (tr_ms hr9 (by omega)) tbr_inj (Nat.le_of_ble_eq_true rfl) rfl (by omega) (rk_0 hr9).1 hWm9 rfl (fun h14 hS15 hE16 => ?_)
        refine go_s (pc' := 44) rfl rfl rfl rfl ?_
        refine go_sget (pc' := 45) (v := .ref am9) hS15 rfl rfl rfl (by decide) rfl rfl ?_
        refine go_s (pc' := 46) rfl rfl rfl rfl ?_
        refine go_s (pc' := 47) (st' := [.int 7, .int (nI (13 * x9)), .ref am9]) rfl rfl rfl rfl ?_
        refine go_nadd (pc' := 48) (a := (13 * x9)) (b := 7) rfl rfl rfl rfl rfl ?_
        refine go_s (pc' := 49) rfl rfl rfl rfl ?_
        refine go_sget (pc' := 50) (v := .ref 77) hS15 rfl rfl rfl (by decide) rfl rfl ?_
        refine go_s (pc' := 51) rfl rfl rfl rfl ?_
        refine go_s (pc' := 52) (st' := [.int 8, .int 0, .ref 77, .int (nI ((13 * x9) + 7)), .ref am9]) rfl rfl rfl rfl ?_
        refine go_s (pc' := 53) (st' := [.int 8, .ref 77, .int (nI ((13 * x9) + 7)), .ref am9]) rfl rfl rfl rfl ?_
        refine go_s (pc' := 54) rfl rfl rfl rfl ?_
        refine go_s (pc' := 55) (st' := [.int 9, .ref 77, .int (nI ((13 * x9) + 7)), .ref am9]) rfl rfl rfl rfl ?_
        refine go_sald (pc' := 56) (q := 9) (v := .int ((Z 0).1 9)) hS15 rfl (tr_as hr9 (by omega)) rfl rfl (by decide) (congrArg Value.int ((RR_row hO9.2.1 (i := 0) (by decide)).1.1 9 (by decide) (by decide) (by decide))) rfl ?_
        refine go_siast (pc' := 57) (q := ((13 * x9) + 7)) hS15 rfl (tr_ms hr9 (by omega)) tbr_inj (Nat.le_of_ble_eq_true rfl) rfl (by omega) (rk_0 hr9).1 hWm9 rfl (fun h17 hS18 hE19 => ?_)
        have hE20 := sm_e_trans hE16 hE19
        refine go_s (pc' := 58) rfl rfl rfl rfl ?_
        refine go_sget (pc' := 59) (v := .ref am9) hS18 rfl rfl rfl (by decide) rfl rfl ?_
        refine go_s (pc' := 60) rfl rfl rfl rfl ?_
        refine go_s (pc' := 61) (st' := [.int 8, .int (nI (13 * x9)), .ref am9]) rfl rfl rfl rfl ?_
        refine go_nadd (pc' := 62) (a := (13 * x9)) (b := 8) rfl rfl rfl rfl rfl ?_
        refine go_s (pc' := 63) rfl rfl rfl rfl ?_
        refine go_sget (pc' := 64) (v := .ref 77) hS18 rfl rfl rfl (by decide) rfl rfl ?_
        refine go_s (pc' := 65) rfl rfl rfl rfl ?_
        refine go_s (pc' := 66) (st' := [.int 10, .int 0, .ref 77, .int (nI ((13 * x9) + 8)), .ref am9]) rfl rfl rfl rfl ?_
        refine go_s (pc' := 67) (st' := [.int 10, .ref 77, .int (nI ((13 * x9) + 8)), .ref am9]) rfl rfl rfl rfl ?_
        refine go_s (pc' := 68) rfl rfl rfl rfl ?_
        refine go_s (pc' := 69) (st' := [.int 11, .ref 77, .int (nI ((13 * x9) + 8)), .ref am9]) rfl rfl rfl rfl ?_
        refine go_sald (pc' := 70) (q := 11) (v := .int ((Z 0).1 11)) hS18 rfl (tr_as hr9 (by omega)) rfl rfl (by decide) (congrArg Value.int ((RR_row hO9.2.1 (i := 0) (by decide)).1.1 11 (by decide) (by decide) (by decide))) rfl ?_
        refine go_siast (pc' := 71) (q := ((13 * x9) + 8)) hS18 rfl (tr_ms hr9 (by omega)) tbr_inj (Nat.le_of_ble_eq_true rfl) rfl (by omega) (rk_0 hr9).1 hWm9 rfl (fun h21 hS22 hE23 => ?_)
        have hE24 := sm_e_trans hE20 hE23
        refine go_s (pc' := 72) rfl rfl rfl rfl ?_
        refine go_sget (pc' := 73) (v := .ref am9) hS22 rfl rfl rfl (by decide) rfl rfl ?_
        refine go_s (pc' := 74) rfl rfl rfl rfl ?_
        refine go_s (pc' := 75) (st' := [.int 9, .int (nI (13 * x9)), .ref am9]) rfl rfl rfl rfl ?_
        refine go_nadd (pc' := 76) (a := (13 * x9)) (b := 9) rfl rfl rfl rfl rfl ?_
        refine go_s (pc' := 77) rfl rfl rfl rfl ?_
        refine go_sget (pc' := 78) (v := .ref 77) hS22 rfl rfl rfl (by decide) rfl rfl ?_
        refine go_s (pc' := 79) rfl rfl rfl rfl ?_
        refine go_s (pc' := 80) (st' := [.int 12, .int 0, .ref 77, .int (nI ((13 * x9) + 9)), .ref am9]) rfl rfl rfl rfl ?_
        refine go_s (pc' := 81) (st' := [.int 12, .ref 77, .int (nI ((13 * x9) + 9)), .ref am9]) rfl rfl rfl rfl ?_
        refine go_s (pc' := 82) rfl rfl rfl rfl ?_
        refine go_s (pc' := 83) (st' := [.int 13, .ref 77, .int (nI ((13 * x9) + 9)), .ref am9]) rfl rfl rfl rfl ?_
        refine go_sald (pc' := 84) (q := 13) (v := .int ((Z 0).1 13)) hS22 rfl (tr_as hr9 (by omega)) rfl rfl (by decide) (congrArg Value.int ((RR_row hO9.2.1 (i := 0) (by decide)).1.1 13 (by decide) (by decide) (by decide))) rfl ?_
        refine go_siast (pc' := 85) (q := ((13 * x9) + 9)) hS22 rfl (tr_ms hr9 (by omega)) tbr_inj (Nat.le_of_ble_eq_true rfl) rfl (by omega) (rk_0 hr9).1 hWm9 rfl (fun h25 hS26 hE27 => ?_)
        have hE28 := sm_e_trans hE24 hE27
        refine go_s (pc' := 86) rfl rfl rfl rfl ?_
        refine go_sget (pc' := 87) (v := .ref am9) hS26 rfl rfl rfl (by decide) rfl rfl ?_
        refine go_s (pc' := 88) rfl rfl rfl rfl ?_
        refine go_s (pc' := 89) (st' := [.int 10, .int (nI (13 * x9)), .ref am9]) rfl rfl rfl rfl ?_
        refine go_nadd (pc' := 90) (a := (13 * x9)) (b := 10) rfl rfl rfl rfl rfl ?_
        refine go_s (pc' := 91) rfl rfl rfl rfl ?_
        refine go_sget (pc' := 92) (v := .ref 77) hS26 rfl rfl rfl (by decide) rfl rfl ?_
        refine go_s (pc' := 93) rfl rfl rfl rfl ?_
        refine go_s (pc' := 94) (st' := [.int 0, .int 0, .ref 77, .int (nI ((13 * x9) + 10)), .ref am9]) rfl rfl rfl rfl ?_
        refine go_s (pc' := 95) (st' := [.int 0, .ref 77, .int (nI ((13 * x9) + 10)), .ref am9]) rfl rfl rfl rfl ?_
        refine go_sald (pc' := 96) (q := 0) (v := .int ((Z 0).1 0)) hS26 rfl (tr_as hr9 (by omega)) rfl rfl (by decide) (congrArg Value.int ((RR_row hO9.2.1 (i := 0) (by decide)).1.1 0 (by decide) (by decide) (by decide))) rfl ?_
        refine go_siast (pc' := 97) (q := ((13 * x9) + 10)) hS26 rfl (tr_ms hr9 (by omega)) tbr_inj (Nat.le_of_ble_eq_true rfl) rfl (by omega) (rk_0 hr9).1 hWm9 rfl (fun h29 hS30 hE31 => ?_)
        have hE32 := sm_e_trans hE28 hE31
        refine go_ret rfl rfl ?_
        have hms : rrp 1 (I, Q, Z) = rsn 0 2 (mgA 1 (Z 0).1) (I, Q, Z) := by
          unfold rrp
          rw [if_neg (show ¬ (I, Q, Z).1 11 (1 + 1) = -1 from (fun z => absurd (e2.symm.trans z) (by decide))), show pn (I, Q, Z).1 (1 + 1) = 2 from pn_l (v := 2) e2 (by decide), show pn (I, Q, Z).1 0 = 0 from pn_l (v := 0) e1 (by decide), show row1 (I, Q, Z) 0 = (Z 0).1 from row1_l (v := 0) e1 (by decide)]
        change sm (tbr am9 (13 * ln9) 77 5088) _ (uI (uI (uI (uI (uI (jn (appI I Q (4 * 0 + 2)) K9) 50 ((13 * x9) + 6) ((Z 0).1 7)) 50 ((13 * x9) + 7) ((Z 0).1 9)) 50 ((13 * x9) + 8) ((Z 0).1 11)) 50 ((13 * x9) + 9) ((Z 0).1 13)) 50 ((13 * x9) + 10) ((Z 0).1 0)) Y at hS30
        rw [jn_hi (c := 50) (by decide), jn_hi (c := 50) (by decide), jn_hi (c := 50) (by decide), jn_hi (c := 50) (by decide), jn_hi (c := 50) (by decide)] at hS30
        have hU33 := RO_cl (K' := (uI (uI (uI (uI (uI K9 50 ((13 * x9) + 6) ((Z 0).1 7)) 50 ((13 * x9) + 7) ((Z 0).1 9)) 50 ((13 * x9) + 8) ((Z 0).1 11)) 50 ((13 * x9) + 9) ((Z 0).1 13)) 50 ((13 * x9) + 10) ((Z 0).1 0))) (m := (mgn (mgA 1 (Z 0).1) (I 9 (4 * 0 + 2) + 1))) (by omega) hO9 (hE32) rfl rfl rfl rfl (fun c j _ hc => by
          simp only [uI]
          rw [if_neg (by omega), if_neg (by omega), if_neg (by omega), if_neg (by omega), if_neg (by omega)]) (fun i hi => by
          have hi2 : i < 5 := hi
          match i, hi2 with
            | 0, _ => (repeat (first | rw [uI_e (by omega)] | rw [uI_j (by omega)])) <;> rfl
            | 1, _ => (repeat (first | rw [uI_e (by omega)] | rw [uI_j (by omega)])) <;> rfl
            | 2, _ => (repeat (first | rw [uI_e (by omega)] | rw [uI_j (by omega)])) <;> rfl
            | 3, _ => (repeat (first | rw [uI_e (by omega)] | rw [uI_j (by omega)])) <;> rfl
            | 4, _ => (repeat (first | rw [uI_e (by omega)] | rw [uI_j (by omega)])) <;> rfl)
        have hA34 : RA w B (R + 1) H hb h29 ((appI I Q (4 * 0 + 2)), (uQ Q (4 * 0 + 2) (Q (4 * 0 + 2) ++ [(mgn (mgA 1 (Z 0).1) (I 9 (4 * 0 + 2) + 1))])), Z) := RA_u.mpr ⟨_, _, _, _, hS30, hU33⟩
        rw [hms, show rsn 0 2 (mgA 1 (Z 0).1) (I, Q, Z) = mapp (4 * 0 + 2) (mgA 1 (Z 0).1) (I, Q, Z) from if_neg u4]
        exact ⟨rfl, hA34⟩
    · skip
      refine go_s (pc' := 1) rfl rfl rfl rfl ?_
      refine go_sget (pc' := 2) (v := .ref 78) hS rfl rfl rfl (by decide) rfl rfl ?_
      refine go_s (pc' := 3) (st' := [.int 1, .ref 78]) rfl rfl rfl rfl ?_
      refine go_s (pc' := 4) rfl rfl rfl rfl ?_
      refine go_s (pc' := 5) (st' := [.int 2, .ref 78]) rfl rfl rfl rfl ?_
      refine go_sald (pc' := 6) (q := 2) (v := .int 3) hS rfl (tr_s hr (a := 78) rfl (by decide)) rfl rfl (by decide) (congrArg Value.int e2) rfl ?_
      refine go_s (pc' := 7) (lo' := [some (.ref 62), some (.int 1), some (.int 3), none, none]) rfl rfl rfl rfl ?_
      refine go_s (pc' := 8) rfl rfl rfl rfl ?_
      refine go_s (pc' := 9) (st' := [.int (-1), .int 3]) rfl rfl rfl rfl ?_
      refine go_icmpP (t' := 11) (pc' := 10) rfl rfl rfl (fun _ => ?_) (fun (c : ¬ (¬ (3 : Int32) = (-1))) => absurd (by decide) c)
      refine go_s (pc' := 12) rfl rfl rfl rfl ?_
      refine go_s (pc' := 13) rfl rfl rfl rfl ?_
      refine go_sget (pc' := 14) (v := .ref 78) hS rfl rfl rfl (by decide) rfl rfl ?_
      refine go_s (pc' := 15) (st' := [.int 0, .ref 78, .ref 62]) rfl rfl rfl rfl ?_
      refine go_sald (pc' := 16) (q := 0) (v := .int 0) hS rfl (tr_s hr (a := 78) rfl (by decide)) rfl rfl (by decide) (congrArg Value.int e1) rfl ?_
      refine go_s (pc' := 17) rfl rfl rfl rfl ?_
      refine go_s (pc' := 18) (st' := [.int 2, .int 3, .int 0, .ref 62]) rfl rfl rfl rfl ?_
      refine go_s (pc' := 19) rfl rfl rfl rfl ?_
      have hU35 : RU w B R H hb h am ln K (I, Q, Z) := RU_I (sm_e_refl (tbr am (13 * ln) 77 5088) _) (I' := I) (fun _ => rfl) (fun _ => rfl) (Nat.le_refl _) hU
      by_cases u36 : I 0 3 = 0
      · skip
        refine go_callV (pc' := 20) rfl rfl rfl (Nat.le_of_ble_eq_true rfl) rfl (sm_o hS rfl) rfl rfl rfl (rn_snd_0 hS hU35 (by omega) (f := 0) (t := 3) (by decide) (by decide) u36 (by omega)) (fun r h37 q38 => ?_)
        obtain ⟨rfl, rfl⟩ := q38
        refine go_s (pc' := 21) (lo' := [some (.ref 62), some (.int 1), some (.int 3), some (.int (-1)), none]) rfl rfl rfl rfl ?_
        refine go_s (pc' := 22) rfl rfl rfl rfl ?_
        refine go_s (pc' := 23) (st' := [.int (-1), .int (-1)]) rfl rfl rfl rfl ?_
        refine go_icmpP (t' := 25) (pc' := 24) rfl rfl rfl (fun (c : ¬ ((-1) : Int32) = (-1)) => absurd c (by decide)) (fun _ => ?_)
        refine go_ret rfl rfl ?_
        have hms : rrp 1 (I, Q, Z) = rsn 0 3 (mgA 1 (Z 0).1) (I, Q, Z) := by
          unfold rrp
          rw [if_neg (show ¬ (I, Q, Z).1 11 (1 + 1) = -1 from (fun z => absurd (e2.symm.trans z) (by decide))), show pn (I, Q, Z).1 (1 + 1) = 3 from pn_l (v := 3) e2 (by decide), show pn (I, Q, Z).1 0 = 0 from pn_l (v := 0) e1 (by decide), show row1 (I, Q, Z) 0 = (Z 0).1 from row1_l (v := 0) e1 (by decide)]
        rw [hms, show rsn 0 3 (mgA 1 (Z 0).1) (I, Q, Z) = (I, Q, Z) from if_pos u36]
        exact ⟨rfl, RA_R (by omega) hA⟩
      · skip
        refine go_callV (pc' := 20) rfl rfl rfl (Nat.le_of_ble_eq_true rfl) rfl (sm_o hS rfl) rfl rfl rfl (rn_snd_1 hS hU35 (by omega) (f := 0) (t := 3) (by decide) (by decide) u36 (by omega)) (fun r h39 q40 => ?_)
        obtain ⟨x41, am41, ln41, K41, rfl, hS41, hO41⟩ := q40
        obtain ⟨hx41, hln41, hr41, hWm41⟩ := RO_x hO41 (by omega)
        have ep42 : (appI I Q (4 * 0 + 3)) 11 0 = 0 := (congrFun (appI_o (by decide) (by decide) (by decide)) 0).trans e1
        have ep43 : (appI I Q (4 * 0 + 3)) 11 2 = 3 := (congrFun (appI_o (by decide) (by decide) (by decide)) 2).trans e2
        refine go_s (pc' := 21) (lo' := [some (.ref 62), some (.int 1), some (.int 3), some (.int (nI (13 * x41))), none]) rfl rfl rfl rfl ?_
        refine go_s (pc' := 22) rfl rfl rfl rfl ?_
        refine go_s (pc' := 23) (st' := [.int (-1), .int (nI (13 * x41))]) rfl rfl rfl rfl ?_
        refine go_icmpP (t' := 25) (pc' := 24) rfl rfl rfl (fun _ => ?_) (fun (c : ¬ (¬ (nI (13 * x41)) = (-1))) => absurd (nI_nm1 (by omega)) c)
        refine go_s (pc' := 26) rfl rfl rfl rfl ?_
        refine go_s (pc' := 27) (st' := [.int 0, .ref 62]) rfl rfl rfl rfl ?_
        refine go_callV (pc' := 28) rfl rfl rfl (Nat.le_of_ble_eq_true rfl) rfl (sm_o hS41 rfl) rfl rfl rfl (rt_at_0 hr41 hS41 (Or.inr (Or.inl ep42)) (fun z => absurd (ep42.symm.trans z) (by decide)) (by omega)) (fun r h44 q45 => ?_)
        obtain ⟨rfl, rfl⟩ := q45
        rw [show rwi (jn (appI I Q (4 * 0 + 3)) K41) 0 = 0 by unfold rwi pn; rw [show (jn (appI I Q (4 * 0 + 3)) K41) 11 0 = 0 from ep42]; rfl]
        show am_Go _ _ _ _ 28 _ [.int 0] _ _
        refine go_s (pc' := 29) (lo' := [some (.ref 62), some (.int 1), some (.int 3), some (.int (nI (13 * x41))), some (.int 0)]) rfl rfl rfl rfl ?_
        refine go_s (pc' := 30) rfl rfl rfl rfl ?_
        refine go_sget (pc' := 31) (v := .ref am41) hS41 rfl rfl rfl (by decide) rfl rfl ?_
        refine go_s (pc' := 32) rfl rfl rfl rfl ?_
        refine go_s (pc' := 33) (st' := [.int 6, .int (nI (13 * x41)), .ref am41]) rfl rfl rfl rfl ?_
        refine go_nadd (pc' := 34) (a := (13 * x41)) (b := 6) rfl rfl rfl rfl rfl ?_
        refine go_s (pc' := 35) rfl rfl rfl rfl ?_
        refine go_sget (pc' := 36) (v := .ref 77) hS41 rfl rfl rfl (by decide) rfl rfl ?_
        refine go_s (pc' := 37) rfl rfl rfl rfl ?_
        refine go_s (pc' := 38) (st' := [.int 6, .int 0, .ref 77, .int (nI ((13 * x41) + 6)), .ref am41]) rfl rfl rfl rfl ?_
        refine go_s (pc' := 39) (st' := [.int 6, .ref 77, .int (nI ((13 * x41) + 6)), .ref am41]) rfl rfl rfl rfl ?_
        refine go_s (pc' := 40) rfl rfl rfl rfl ?_
        refine go_s (pc' := 41) (st' := [.int 7, .ref 77, .int (nI ((13 * x41) + 6)), .ref am41]) rfl rfl rfl rfl ?_
        refine go_sald (pc' := 42) (q := 7) (v := .int ((Z 0).1 7)) hS41 rfl (tr_as hr41 (by omega)) rfl rfl (by decide) (congrArg Value.int ((RR_row hO41.2.1 (i := 0) (by decide)).1.1 7 (by decide) (by decide) (by decide))) rfl ?_
        refine go_siast (pc' := 43) (q := ((13 * x41) + 6)) hS41 rfl (tr_ms hr41 (by omega)) tbr_inj (Nat.le_of_ble_eq_true rfl) rfl (by omega) (rk_0 hr41).1 hWm41 rfl (fun h46 hS47 hE48 => ?_)
        refine go_s (pc' := 44) rfl rfl rfl rfl ?_
        refine go_sget (pc' := 45) (v := .ref am41) hS47 rfl rfl rfl (by decide) rfl rfl ?_
        refine go_s (pc' := 46) rfl rfl rfl rfl ?_
        refine go_s (pc' := 47) (st' := [.int 7, .int (nI (13 * x41)), .ref am41]) rfl rfl rfl rfl ?_
        refine go_nadd (pc' := 48) (a := (13 * x41)) (b := 7) rfl rfl rfl rfl rfl ?_
        refine go_s (pc' := 49) rfl rfl rfl rfl ?_
        refine go_sget (pc' := 50) (v := .ref 77) hS47 rfl rfl rfl (by decide) rfl rfl ?_
        refine go_s (pc' := 51) rfl rfl rfl rfl ?_
        refine go_s (pc' := 52) (st' := [.int 8, .int 0, .ref 77, .int (nI ((13 * x41) + 7)), .ref am41]) rfl rfl rfl rfl ?_
        refine go_s (pc' := 53) (st' := [.int 8, .ref 77, .int (nI ((13 * x41) + 7)), .ref am41]) rfl rfl rfl rfl ?_
        refine go_s (pc' := 54) rfl rfl rfl rfl ?_
        refine go_s (pc' := 55) (st' := [.int 9, .ref 77, .int (nI ((13 * x41) + 7)), .ref am41]) rfl rfl rfl rfl ?_
        refine go_sald (pc' := 56) (q := 9) (v := .int ((Z 0).1 9)) hS47 rfl (tr_as hr41 (by omega)) rfl rfl (by decide) (congrArg Value.int ((RR_row hO41.2.1 (i := 0) (by decide)).1.1 9 (by decide) (by decide) (by decide))) rfl ?_
        refine go_siast (pc' := 57) (q := ((13 * x41) + 7)) hS47 rfl (tr_ms hr41 (by omega)) tbr_inj (Nat.le_of_ble_eq_true rfl) rfl (by omega) (rk_0 hr41).1 hWm41 rfl (fun h49 hS50 hE51 => ?_)
        have hE52 := sm_e_trans hE48 hE51
        refine go_s (pc' := 58) rfl rfl rfl rfl ?_
        refine go_sget (pc' := 59) (v := .ref am41) hS50 rfl rfl rfl (by decide) rfl rfl ?_
        refine go_s (pc' := 60) rfl rfl rfl rfl ?_
        refine go_s (pc' := 61) (st' := [.int 8, .int (nI (13 * x41)), .ref am41]) rfl rfl rfl rfl ?_
        refine go_nadd (pc' := 62) (a := (13 * x41)) (b := 8) rfl rfl rfl rfl rfl ?_
        refine go_s (pc' := 63) rfl rfl rfl rfl ?_
        refine go_sget (pc' := 64) (v := .ref 77) hS50 rfl rfl rfl (by decide) rfl rfl ?_
        refine go_s (pc' := 65) rfl rfl rfl rfl ?_
        refine go_s (pc' := 66) (st' := [.int 10, .int 0, .ref 77, .int (nI ((13 * x41) + 8)), .ref am41]) rfl rfl rfl rfl ?_
        refine go_s (pc' := 67) (st' := [.int 10, .ref 77, .int (nI ((13 * x41) + 8)), .ref am41]) rfl rfl rfl rfl ?_
        refine go_s (pc' := 68) rfl rfl rfl rfl ?_
        refine go_s (pc' := 69) (st' := [.int 11, .ref 77, .int (nI ((13 * x41) + 8)), .ref am41]) rfl rfl rfl rfl ?_
        refine go_sald (pc' := 70) (q := 11) (v := .int ((Z 0).1 11)) hS50 rfl (tr_as hr41 (by omega)) rfl rfl (by decide) (congrArg Value.int ((RR_row hO41.2.1 (i := 0) (by decide)).1.1 11 (by decide) (by decide) (by decide))) rfl ?_
        refine go_siast (pc' := 71) (q := ((13 * x41) + 8)) hS50 rfl (tr_ms hr41 (by omega)) tbr_inj (Nat.le_of_ble_eq_true rfl) rfl (by omega) (rk_0 hr41).1 hWm41 rfl (fun h53 hS54 hE55 => ?_)
        have hE56 := sm_e_trans hE52 hE55
        refine go_s (pc' := 72) rfl rfl rfl rfl ?_
        refine go_sget (pc' := 73) (v := .ref am41) hS54 rfl rfl rfl (by decide) rfl rfl ?_
        refine go_s (pc' := 74) rfl rfl rfl rfl ?_
        refine go_s (pc' := 75) (st' := [.int 9, .int (nI (13 * x41)), .ref am41]) rfl rfl rfl rfl ?_
        refine go_nadd (pc' := 76) (a := (13 * x41)) (b := 9) rfl rfl rfl rfl rfl ?_
        refine go_s (pc' := 77) rfl rfl rfl rfl ?_
        refine go_sget (pc' := 78) (v := .ref 77) hS54 rfl rfl rfl (by decide) rfl rfl ?_
        refine go_s (pc' := 79) rfl rfl rfl rfl ?_
        refine go_s (pc' := 80) (st' := [.int 12, .int 0, .ref 77, .int (nI ((13 * x41) + 9)), .ref am41]) rfl rfl rfl rfl ?_
        refine go_s (pc' := 81) (st' := [.int 12, .ref 77, .int (nI ((13 * x41) + 9)), .ref am41]) rfl rfl rfl rfl ?_
        refine go_s (pc' := 82) rfl rfl rfl rfl ?_
        refine go_s (pc' := 83) (st' := [.int 13, .ref 77, .int (nI ((13 * x41) + 9)), .ref am41]) rfl rfl rfl rfl ?_
        refine go_sald (pc' := 84) (q := 13) (v := .int ((Z 0).1 13)) hS54 rfl (tr_as hr41 (by omega)) rfl rfl (by decide) (congrArg Value.int ((RR_row hO41.2.1 (i := 0) (by decide)).1.1 13 (by decide) (by decide) (by decide))) rfl ?_
        refine go_siast (pc' := 85) (q := ((13 * x41) + 9)) hS54 rfl (tr_ms hr41 (by omega)) tbr_inj (Nat.le_of_ble_eq_true rfl) rfl (by omega) (rk_0 hr41).1 hWm41 rfl (fun h57 hS58 hE59 => ?_)
        have hE60 := sm_e_trans hE56 hE59
        refine go_s (pc' := 86) rfl rfl rfl rfl ?_
        refine go_sget (pc' := 87) (v := .ref am41) hS58 rfl rfl rfl (by decide) rfl rfl ?_
        refine go_s (pc' := 88) rfl rfl rfl rfl ?_
        refine go_s (pc' := 89) (st' := [.int 10, .int (nI (13 * x41)), .ref am41]) rfl rfl rfl rfl ?_
        refine go_nadd (pc' := 90) (a := (13 * x41)) (b := 10) rfl rfl rfl rfl rfl ?_
        refine go_s (pc' := 91) rfl rfl rfl rfl ?_
        refine go_sget (pc' := 92) (v := .ref 77) hS58 rfl rfl rfl (by decide) rfl rfl ?_
        refine go_s (pc' := 93) rfl rfl rfl rfl ?_
        refine go_s (pc' := 94) (st' := [.int 0, .int 0, .ref 77, .int (nI ((13 * x41) + 10)), .ref am41]) rfl rfl rfl rfl ?_
        refine go_s (pc' := 95) (st' := [.int 0, .ref 77, .int (nI ((13 * x41) + 10)), .ref am41]) rfl rfl rfl rfl ?_
        refine go_sald (pc' := 96) (q := 0) (v := .int ((Z 0).1 0)) hS58 rfl (tr_as hr41 (by omega)) rfl rfl (by decide) (congrArg Value.int ((RR_row hO41.2.1 (i := 0) (by decide)).1.1 0 (by decide) (by decide) (by decide))) rfl ?_
        refine go_siast (pc' := 97) (q := ((13 * x41) + 10)) hS58 rfl (tr_ms hr41 (by omega)) tbr_inj (Nat.le_of_ble_eq_true rfl) rfl (by omega) (rk_0 hr41).1 hWm41 rfl (fun h61 hS62 hE63 => ?_)
        have hE64 := sm_e_trans hE60 hE63
        refine go_ret rfl rfl ?_
        have hms : rrp 1 (I, Q, Z) = rsn 0 3 (mgA 1 (Z 0).1) (I, Q, Z) := by
          unfold rrp
          rw [if_neg (show ¬ (I, Q, Z).1 11 (1 + 1) = -1 from (fun z => absurd (e2.symm.trans z) (by decide))), show pn (I, Q, Z).1 (1 + 1) = 3 from pn_l (v := 3) e2 (by decide), show pn (I, Q, Z).1 0 = 0 from pn_l (v := 0) e1 (by decide), show row1 (I, Q, Z) 0 = (Z 0).1 from row1_l (v := 0) e1 (by decide)]
        change sm (tbr am41 (13 * ln41) 77 5088) _ (uI (uI (uI (uI (uI (jn (appI I Q (4 * 0 + 3)) K41) 50 ((13 * x41) + 6) ((Z 0).1 7)) 50 ((13 * x41) + 7) ((Z 0).1 9)) 50 ((13 * x41) + 8) ((Z 0).1 11)) 50 ((13 * x41) + 9) ((Z 0).1 13)) 50 ((13 * x41) + 10) ((Z 0).1 0)) Y at hS62
        rw [jn_hi (c := 50) (by decide), jn_hi (c := 50) (by decide), jn_hi (c := 50) (by decide), jn_hi (c := 50) (by decide), jn_hi (c := 50) (by decide)] at hS62
        have hU65 := RO_cl (K' := (uI (uI (uI (uI (uI K41 50 ((13 * x41) + 6) ((Z 0).1 7)) 50 ((13 * x41) + 7) ((Z 0).1 9)) 50 ((13 * x41) + 8) ((Z 0).1 11)) 50 ((13 * x41) + 9) ((Z 0).1 13)) 50 ((13 * x41) + 10) ((Z 0).1 0))) (m := (mgn (mgA 1 (Z 0).1) (I 9 (4 * 0 + 3) + 1))) (by omega) hO41 (hE64) rfl rfl rfl rfl (fun c j _ hc => by
          simp only [uI]
          rw [if_neg (by omega), if_neg (by omega), if_neg (by omega), if_neg (by omega), if_neg (by omega)]) (fun i hi => by
          have hi2 : i < 5 := hi
          match i, hi2 with
            | 0, _ => (repeat (first | rw [uI_e (by omega)] | rw [uI_j (by omega)])) <;> rfl
            | 1, _ => (repeat (first | rw [uI_e (by omega)] | rw [uI_j (by omega)])) <;> rfl
            | 2, _ => (repeat (first | rw [uI_e (by omega)] | rw [uI_j (by omega)])) <;> rfl
            | 3, _ => (repeat (first | rw [uI_e (by omega)] | rw [uI_j (by omega)])) <;> rfl
            | 4, _ => (repeat (first | rw [uI_e (by omega)] | rw [uI_j (by omega)])) <;> rfl)
        have hA66 : RA w B (R + 1) H hb h61 ((appI I Q (4 * 0 + 3)), (uQ Q (4 * 0 + 3) (Q (4 * 0 + 3) ++ [(mgn (mgA 1 (Z 0).1) (I 9 (4 * 0 + 3) + 1))])), Z) := RA_u.mpr ⟨_, _, _, _, hS62, hU65⟩
        rw [hms, show rsn 0 3 (mgA 1 (Z 0).1) (I, Q, Z) = mapp (4 * 0 + 3) (mgA 1 (Z 0).1) (I, Q, Z) from if_neg u36]
        exact ⟨rfl, hA66⟩
  · skip
    rcases hpk with e67 | e67 | e67
    · skip
      refine go_s (pc' := 1) rfl rfl rfl rfl ?_
      refine go_sget (pc' := 2) (v := .ref 78) hS rfl rfl rfl (by decide) rfl rfl ?_
      refine go_s (pc' := 3) (st' := [.int 1, .ref 78]) rfl rfl rfl rfl ?_
      refine go_s (pc' := 4) rfl rfl rfl rfl ?_
      refine go_s (pc' := 5) (st' := [.int 2, .ref 78]) rfl rfl rfl rfl ?_
      refine go_sald (pc' := 6) (q := 2) (v := .int (-1)) hS rfl (tr_s hr (a := 78) rfl (by decide)) rfl rfl (by decide) (congrArg Value.int e67) rfl ?_
      refine go_s (pc' := 7) (lo' := [some (.ref 62), some (.int 1), some (.int (-1)), none, none]) rfl rfl rfl rfl ?_
      refine go_s (pc' := 8) rfl rfl rfl rfl ?_
      refine go_s (pc' := 9) (st' := [.int (-1), .int (-1)]) rfl rfl rfl rfl ?_
      refine go_icmpP (t' := 11) (pc' := 10) rfl rfl rfl (fun (c : ¬ ((-1) : Int32) = (-1)) => absurd c (by decide)) (fun _ => ?_)
      refine go_ret rfl rfl ?_
      rw [show rrp 1 (I, Q, Z) = (I, Q, Z) from if_pos e67]
      exact ⟨rfl, RA_R (by omega) hA⟩
    · skip
      refine go_s (pc' := 1) rfl rfl rfl rfl ?_
      refine go_sget (pc' := 2) (v := .ref 78) hS rfl rfl rfl (by decide) rfl rfl ?_
      refine go_s (pc' := 3) (st' := [.int 1, .ref 78]) rfl rfl rfl rfl ?_
      refine go_s (pc' := 4) rfl rfl rfl rfl ?_
      refine go_s (pc' := 5) (st' := [.int 2, .ref 78]) rfl rfl rfl rfl ?_
      refine go_sald (pc' := 6) (q := 2) (v := .int 2) hS rfl (tr_s hr (a := 78) rfl (by decide)) rfl rfl (by decide) (congrArg Value.int e67) rfl ?_
      refine go_s (pc' := 7) (lo' := [some (.ref 62), some (.int 1), some (.int 2), none, none]) rfl rfl rfl rfl ?_
      refine go_s (pc' := 8) rfl rfl rfl rfl ?_
      refine go_s (pc' := 9) (st' := [.int (-1), .int 2]) rfl rfl rfl rfl ?_
      refine go_icmpP (t' := 11) (pc' := 10) rfl rfl rfl (fun _ => ?_) (fun (c : ¬ (¬ (2 : Int32) = (-1))) => absurd (by decide) c)
      refine go_s (pc' := 12) rfl rfl rfl rfl ?_
      refine go_s (pc' := 13) rfl rfl rfl rfl ?_
      refine go_sget (pc' := 14) (v := .ref 78) hS rfl rfl rfl (by decide) rfl rfl ?_
      refine go_s (pc' := 15) (st' := [.int 0, .ref 78, .ref 62]) rfl rfl rfl rfl ?_
      refine go_sald (pc' := 16) (q := 0) (v := .int 1) hS rfl (tr_s hr (a := 78) rfl (by decide)) rfl rfl (by decide) (congrArg Value.int e1) rfl ?_
      refine go_s (pc' := 17) rfl rfl rfl rfl ?_
      refine go_s (pc' := 18) (st' := [.int 2, .int 2, .int 1, .ref 62]) rfl rfl rfl rfl ?_
      refine go_s (pc' := 19) rfl rfl rfl rfl ?_
      have hU68 : RU w B R H hb h am ln K (I, Q, Z) := RU_I (sm_e_refl (tbr am (13 * ln) 77 5088) _) (I' := I) (fun _ => rfl) (fun _ => rfl) (Nat.le_refl _) hU
      by_cases u69 : I 0 2 = 0
      · skip
        refine go_callV (pc' := 20) rfl rfl rfl (Nat.le_of_ble_eq_true rfl) rfl (sm_o hS rfl) rfl rfl rfl (rn_snd_0 hS hU68 (by omega) (f := 1) (t := 2) (by decide) (by decide) u69 (by omega)) (fun r h70 q71 => ?_)
        obtain ⟨rfl, rfl⟩ := q71
        refine go_s (pc' := 21) (lo' := [some (.ref 62), some (.int 1), some (.int 2), some (.int (-1)), none]) rfl rfl rfl rfl ?_
        refine go_s (pc' := 22) rfl rfl rfl rfl ?_
        refine go_s (pc' := 23) (st' := [.int (-1), .int (-1)]) rfl rfl rfl rfl ?_
        refine go_icmpP (t' := 25) (pc' := 24) rfl rfl rfl (fun (c : ¬ ((-1) : Int32) = (-1)) => absurd c (by decide)) (fun _ => ?_)
        refine go_ret rfl rfl ?_
        have hms : rrp 1 (I, Q, Z) = rsn 1 2 (mgA 1 (Z 1).1) (I, Q, Z) := by
          unfold rrp
          rw [if_neg (show ¬ (I, Q, Z).1 11 (1 + 1) = -1 from (fun z => absurd (e67.symm.trans z) (by decide))), show pn (I, Q, Z).1 (1 + 1) = 2 from pn_l (v := 2) e67 (by decide), show pn (I, Q, Z).1 0 = 1 from pn_l (v := 1) e1 (by decide), show row1 (I, Q, Z) 0 = (Z 1).1 from row1_l (v := 1) e1 (by decide)]
        rw [hms, show rsn 1 2 (mgA 1 (Z 1).1) (I, Q, Z) = (I, Q, Z) from if_pos u69]
        exact ⟨rfl, RA_R (by omega) hA⟩
      · skip
        refine go_callV (pc' := 20) rfl rfl rfl (Nat.le_of_ble_eq_true rfl) rfl (sm_o hS rfl) rfl rfl rfl (rn_snd_1 hS hU68 (by omega) (f := 1) (t := 2) (by decide) (by decide) u69 (by omega)) (fun r h72 q73 => ?_)
        obtain ⟨x74, am74, ln74, K74, rfl, hS74, hO74⟩ := q73
        obtain ⟨hx74, hln74, hr74, hWm74⟩ := RO_x hO74 (by omega)
        have ep75 : (appI I Q (4 * 1 + 2)) 11 0 = 1 := (congrFun (appI_o (by decide) (by decide) (by decide)) 0).trans e1
        have ep76 : (appI I Q (4 * 1 + 2)) 11 2 = 2 := (congrFun (appI_o (by decide) (by decide) (by decide)) 2).trans e67
        refine go_s (pc' := 21) (lo' := [some (.ref 62), some (.int 1), some (.int 2), some (.int (nI (13 * x74))), none]) rfl rfl rfl rfl ?_
        refine go_s (pc' := 22) rfl rfl rfl rfl ?_
        refine go_s (pc' := 23) (st' := [.int (-1), .int (nI (13 * x74))]) rfl rfl rfl rfl ?_
        refine go_icmpP (t' := 25) (pc' := 24) rfl rfl rfl (fun _ => ?_) (fun (c : ¬ (¬ (nI (13 * x74)) = (-1))) => absurd (nI_nm1 (by omega)) c)
        refine go_s (pc' := 26) rfl rfl rfl rfl ?_
        refine go_s (pc' := 27) (st' := [.int 0, .ref 62]) rfl rfl rfl rfl ?_
        refine go_callV (pc' := 28) rfl rfl rfl (Nat.le_of_ble_eq_true rfl) rfl (sm_o hS74 rfl) rfl rfl rfl (rt_at_0 hr74 hS74 (Or.inr (Or.inr ep75)) (fun z => absurd (ep75.symm.trans z) (by decide)) (by omega)) (fun r h77 q78 => ?_)
        obtain ⟨rfl, rfl⟩ := q78
        rw [show rwi (jn (appI I Q (4 * 1 + 2)) K74) 0 = 1 by unfold rwi pn; rw [show (jn (appI I Q (4 * 1 + 2)) K74) 11 0 = 1 from ep75]; rfl]
        show am_Go _ _ _ _ 28 _ [.int 424] _ _
        refine go_s (pc' := 29) (lo' := [some (.ref 62), some (.int 1), some (.int 2), some (.int (nI (13 * x74))), some (.int 424)]) rfl rfl rfl rfl ?_
        refine go_s (pc' := 30) rfl rfl rfl rfl ?_
        refine go_sget (pc' := 31) (v := .ref am74) hS74 rfl rfl rfl (by decide) rfl rfl ?_
        refine go_s (pc' := 32) rfl rfl rfl rfl ?_
        refine go_s (pc' := 33) (st' := [.int 6, .int (nI (13 * x74)), .ref am74]) rfl rfl rfl rfl ?_
        refine go_nadd (pc' := 34) (a := (13 * x74)) (b := 6) rfl rfl rfl rfl rfl ?_
        refine go_s (pc' := 35) rfl rfl rfl rfl ?_
        refine go_sget (pc' := 36) (v := .ref 77) hS74 rfl rfl rfl (by decide) rfl rfl ?_
        refine go_s (pc' := 37) rfl rfl rfl rfl ?_
        refine go_s (pc' := 38) (st' := [.int 6, .int 424, .ref 77, .int (nI ((13 * x74) + 6)), .ref am74]) rfl rfl rfl rfl ?_
        refine go_s (pc' := 39) (st' := [.int 430, .ref 77, .int (nI ((13 * x74) + 6)), .ref am74]) rfl rfl rfl rfl ?_
        refine go_s (pc' := 40) rfl rfl rfl rfl ?_
        refine go_s (pc' := 41) (st' := [.int 431, .ref 77, .int (nI ((13 * x74) + 6)), .ref am74]) rfl rfl rfl rfl ?_
        refine go_sald (pc' := 42) (q := 431) (v := .int ((Z 1).1 7)) hS74 rfl (tr_as hr74 (by omega)) rfl rfl (by decide) (congrArg Value.int ((RR_row hO74.2.1 (i := 1) (by decide)).1.1 7 (by decide) (by decide) (by decide))) rfl ?_
        refine go_siast (pc' := 43) (q := ((13 * x74) + 6)) hS74 rfl (tr_ms hr74 (by omega)) tbr_inj (Nat.le_of_ble_eq_true rfl) rfl (by omega) (rk_0 hr74).1 hWm74 rfl (fun h79 hS80 hE81 => ?_)
        refine go_s (pc' := 44) rfl rfl rfl rfl ?_
        refine go_sget (pc' := 45) (v := .ref am74) hS80 rfl rfl rfl (by decide) rfl rfl ?_
        refine go_s (pc' := 46) rfl rfl rfl rfl ?_
        refine go_s (pc' := 47) (st' := [.int 7, .int (nI (13 * x74)), .ref am74]) rfl rfl rfl rfl ?_
        refine go_nadd (pc' := 48) (a := (13 * x74)) (b := 7) rfl rfl rfl rfl rfl ?_
        refine go_s (pc' := 49) rfl rfl rfl rfl ?_
        refine go_sget (pc' := 50) (v := .ref 77) hS80 rfl rfl rfl (by decide) rfl rfl ?_
        refine go_s (pc' := 51) rfl rfl rfl rfl ?_
        refine go_s (pc' := 52) (st' := [.int 8, .int 424, .ref 77, .int (nI ((13 * x74) + 7)), .ref am74]) rfl rfl rfl rfl ?_
        refine go_s (pc' := 53) (st' := [.int 432, .ref 77, .int (nI ((13 * x74) + 7)), .ref am74]) rfl rfl rfl rfl ?_
        refine go_s (pc' := 54) rfl rfl rfl rfl ?_
        refine go_s (pc' := 55) (st' := [.int 433, .ref 77, .int (nI ((13 * x74) + 7)), .ref am74]) rfl rfl rfl rfl ?_
        refine go_sald (pc' := 56) (q := 433) (v := .int ((Z 1).1 9)) hS80 rfl (tr_as hr74 (by omega)) rfl rfl (by decide) (congrArg Value.int ((RR_row hO74.2.1 (i := 1) (by decide)).1.1 9 (by decide) (by decide) (by decide))) rfl ?_
        refine go_siast (pc' := 57) (q := ((13 * x74) + 7)) hS80 rfl (tr_ms hr74 (by omega)) tbr_inj (Nat.le_of_ble_eq_true rfl) rfl (by omega) (rk_0 hr74).1 hWm74 rfl (fun h82 hS83 hE84 => ?_)
        have hE85 := sm_e_trans hE81 hE84
        refine go_s (pc' := 58) rfl rfl rfl rfl ?_
        refine go_sget (pc' := 59) (v := .ref am74) hS83 rfl rfl rfl (by decide) rfl rfl ?_
        refine go_s (pc' := 60) rfl rfl rfl rfl ?_
        refine go_s (pc' := 61) (st' := [.int 8, .int (nI (13 * x74)), .ref am74]) rfl rfl rfl rfl ?_
        refine go_nadd (pc' := 62) (a := (13 * x74)) (b := 8) rfl rfl rfl rfl rfl ?_
        refine go_s (pc' := 63) rfl rfl rfl rfl ?_
        refine go_sget (pc' := 64) (v := .ref 77) hS83 rfl rfl rfl (by decide) rfl rfl ?_
        refine go_s (pc' := 65) rfl rfl rfl rfl ?_
        refine go_s (pc' := 66) (st' := [.int 10, .int 424, .ref 77, .int (nI ((13 * x74) + 8)), .ref am74]) rfl rfl rfl rfl ?_
        refine go_s (pc' := 67) (st' := [.int 434, .ref 77, .int (nI ((13 * x74) + 8)), .ref am74]) rfl rfl rfl rfl ?_
        refine go_s (pc' := 68) rfl rfl rfl rfl ?_
        refine go_s (pc' := 69) (st' := [.int 435, .ref 77, .int (nI ((13 * x74) + 8)), .ref am74]) rfl rfl rfl rfl ?_
        refine go_sald (pc' := 70) (q := 435) (v := .int ((Z 1).1 11)) hS83 rfl (tr_as hr74 (by omega)) rfl rfl (by decide) (congrArg Value.int ((RR_row hO74.2.1 (i := 1) (by decide)).1.1 11 (by decide) (by decide) (by decide))) rfl ?_
        refine go_siast (pc' := 71) (q := ((13 * x74) + 8)) hS83 rfl (tr_ms hr74 (by omega)) tbr_inj (Nat.le_of_ble_eq_true rfl) rfl (by omega) (rk_0 hr74).1 hWm74 rfl (fun h86 hS87 hE88 => ?_)
        have hE89 := sm_e_trans hE85 hE88
        refine go_s (pc' := 72) rfl rfl rfl rfl ?_
        refine go_sget (pc' := 73) (v := .ref am74) hS87 rfl rfl rfl (by decide) rfl rfl ?_
        refine go_s (pc' := 74) rfl rfl rfl rfl ?_
        refine go_s (pc' := 75) (st' := [.int 9, .int (nI (13 * x74)), .ref am74]) rfl rfl rfl rfl ?_
        refine go_nadd (pc' := 76) (a := (13 * x74)) (b := 9) rfl rfl rfl rfl rfl ?_
        refine go_s (pc' := 77) rfl rfl rfl rfl ?_
        refine go_sget (pc' := 78) (v := .ref 77) hS87 rfl rfl rfl (by decide) rfl rfl ?_
        refine go_s (pc' := 79) rfl rfl rfl rfl ?_
        refine go_s (pc' := 80) (st' := [.int 12, .int 424, .ref 77, .int (nI ((13 * x74) + 9)), .ref am74]) rfl rfl rfl rfl ?_
        refine go_s (pc' := 81) (st' := [.int 436, .ref 77, .int (nI ((13 * x74) + 9)), .ref am74]) rfl rfl rfl rfl ?_
        refine go_s (pc' := 82) rfl rfl rfl rfl ?_
        refine go_s (pc' := 83) (st' := [.int 437, .ref 77, .int (nI ((13 * x74) + 9)), .ref am74]) rfl rfl rfl rfl ?_
        refine go_sald (pc' := 84) (q := 437) (v := .int ((Z 1).1 13)) hS87 rfl (tr_as hr74 (by omega)) rfl rfl (by decide) (congrArg Value.int ((RR_row hO74.2.1 (i := 1) (by decide)).1.1 13 (by decide) (by decide) (by decide))) rfl ?_
        refine go_siast (pc' := 85) (q := ((13 * x74) + 9)) hS87 rfl (tr_ms hr74 (by omega)) tbr_inj (Nat.le_of_ble_eq_true rfl) rfl (by omega) (rk_0 hr74).1 hWm74 rfl (fun h90 hS91 hE92 => ?_)
        have hE93 := sm_e_trans hE89 hE92
        refine go_s (pc' := 86) rfl rfl rfl rfl ?_
        refine go_sget (pc' := 87) (v := .ref am74) hS91 rfl rfl rfl (by decide) rfl rfl ?_
        refine go_s (pc' := 88) rfl rfl rfl rfl ?_
        refine go_s (pc' := 89) (st' := [.int 10, .int (nI (13 * x74)), .ref am74]) rfl rfl rfl rfl ?_
        refine go_nadd (pc' := 90) (a := (13 * x74)) (b := 10) rfl rfl rfl rfl rfl ?_
        refine go_s (pc' := 91) rfl rfl rfl rfl ?_
        refine go_sget (pc' := 92) (v := .ref 77) hS91 rfl rfl rfl (by decide) rfl rfl ?_
        refine go_s (pc' := 93) rfl rfl rfl rfl ?_
        refine go_s (pc' := 94) (st' := [.int 0, .int 424, .ref 77, .int (nI ((13 * x74) + 10)), .ref am74]) rfl rfl rfl rfl ?_
        refine go_s (pc' := 95) (st' := [.int 424, .ref 77, .int (nI ((13 * x74) + 10)), .ref am74]) rfl rfl rfl rfl ?_
        refine go_sald (pc' := 96) (q := 424) (v := .int ((Z 1).1 0)) hS91 rfl (tr_as hr74 (by omega)) rfl rfl (by decide) (congrArg Value.int ((RR_row hO74.2.1 (i := 1) (by decide)).1.1 0 (by decide) (by decide) (by decide))) rfl ?_
        refine go_siast (pc' := 97) (q := ((13 * x74) + 10)) hS91 rfl (tr_ms hr74 (by omega)) tbr_inj (Nat.le_of_ble_eq_true rfl) rfl (by omega) (rk_0 hr74).1 hWm74 rfl (fun h94 hS95 hE96 => ?_)
        have hE97 := sm_e_trans hE93 hE96
        refine go_ret rfl rfl ?_
        have hms : rrp 1 (I, Q, Z) = rsn 1 2 (mgA 1 (Z 1).1) (I, Q, Z) := by
          unfold rrp
          rw [if_neg (show ¬ (I, Q, Z).1 11 (1 + 1) = -1 from (fun z => absurd (e67.symm.trans z) (by decide))), show pn (I, Q, Z).1 (1 + 1) = 2 from pn_l (v := 2) e67 (by decide), show pn (I, Q, Z).1 0 = 1 from pn_l (v := 1) e1 (by decide), show row1 (I, Q, Z) 0 = (Z 1).1 from row1_l (v := 1) e1 (by decide)]
        change sm (tbr am74 (13 * ln74) 77 5088) _ (uI (uI (uI (uI (uI (jn (appI I Q (4 * 1 + 2)) K74) 50 ((13 * x74) + 6) ((Z 1).1 7)) 50 ((13 * x74) + 7) ((Z 1).1 9)) 50 ((13 * x74) + 8) ((Z 1).1 11)) 50 ((13 * x74) + 9) ((Z 1).1 13)) 50 ((13 * x74) + 10) ((Z 1).1 0)) Y at hS95
        rw [jn_hi (c := 50) (by decide), jn_hi (c := 50) (by decide), jn_hi (c := 50) (by decide), jn_hi (c := 50) (by decide), jn_hi (c := 50) (by decide)] at hS95
        have hU98 := RO_cl (K' := (uI (uI (uI (uI (uI K74 50 ((13 * x74) + 6) ((Z 1).1 7)) 50 ((13 * x74) + 7) ((Z 1).1 9)) 50 ((13 * x74) + 8) ((Z 1).1 11)) 50 ((13 * x74) + 9) ((Z 1).1 13)) 50 ((13 * x74) + 10) ((Z 1).1 0))) (m := (mgn (mgA 1 (Z 1).1) (I 9 (4 * 1 + 2) + 1))) (by omega) hO74 (hE97) rfl rfl rfl rfl (fun c j _ hc => by
          simp only [uI]
          rw [if_neg (by omega), if_neg (by omega), if_neg (by omega), if_neg (by omega), if_neg (by omega)]) (fun i hi => by
          have hi2 : i < 5 := hi
          match i, hi2 with
            | 0, _ => (repeat (first | rw [uI_e (by omega)] | rw [uI_j (by omega)])) <;> rfl
            | 1, _ => (repeat (first | rw [uI_e (by omega)] | rw [uI_j (by omega)])) <;> rfl
            | 2, _ => (repeat (first | rw [uI_e (by omega)] | rw [uI_j (by omega)])) <;> rfl
            | 3, _ => (repeat (first | rw [uI_e (by omega)] | rw [uI_j (by omega)])) <;> rfl
            | 4, _ => (repeat (first | rw [uI_e (by omega)] | rw [uI_j (by omega)])) <;> rfl)
        have hA99 : RA w B (R + 1) H hb h94 ((appI I Q (4 * 1 + 2)), (uQ Q (4 * 1 + 2) (Q (4 * 1 + 2) ++ [(mgn (mgA 1 (Z 1).1) (I 9 (4 * 1 + 2) + 1))])), Z) := RA_u.mpr ⟨_, _, _, _, hS95, hU98⟩
        rw [hms, show rsn 1 2 (mgA 1 (Z 1).1) (I, Q, Z) = mapp (4 * 1 + 2) (mgA 1 (Z 1).1) (I, Q, Z) from if_neg u69]
        exact ⟨rfl, hA99⟩
    · skip
      refine go_s (pc' := 1) rfl rfl rfl rfl ?_
      refine go_sget (pc' := 2) (v := .ref 78) hS rfl rfl rfl (by decide) rfl rfl ?_
      refine go_s (pc' := 3) (st' := [.int 1, .ref 78]) rfl rfl rfl rfl ?_
      refine go_s (pc' := 4) rfl rfl rfl rfl ?_
      refine go_s (pc' := 5) (st' := [.int 2, .ref 78]) rfl rfl rfl rfl ?_
      refine go_sald (pc' := 6) (q := 2) (v := .int 3) hS rfl (tr_s hr (a := 78) rfl (by decide)) rfl rfl (by decide) (congrArg Value.int e67) rfl ?_
      refine go_s (pc' := 7) (lo' := [some (.ref 62), some (.int 1), some (.int 3), none, none]) rfl rfl rfl rfl ?_
      refine go_s (pc' := 8) rfl rfl rfl rfl ?_
      refine go_s (pc' := 9) (st' := [.int (-1), .int 3]) rfl rfl rfl rfl ?_
      refine go_icmpP (t' := 11) (pc' := 10) rfl rfl rfl (fun _ => ?_) (fun (c : ¬ (¬ (3 : Int32) = (-1))) => absurd (by decide) c)
      refine go_s (pc' := 12) rfl rfl rfl rfl ?_
      refine go_s (pc' := 13) rfl rfl rfl rfl ?_
      refine go_sget (pc' := 14) (v := .ref 78) hS rfl rfl rfl (by decide) rfl rfl ?_
      refine go_s (pc' := 15) (st' := [.int 0, .ref 78, .ref 62]) rfl rfl rfl rfl ?_
      refine go_sald (pc' := 16) (q := 0) (v := .int 1) hS rfl (tr_s hr (a := 78) rfl (by decide)) rfl rfl (by decide) (congrArg Value.int e1) rfl ?_
      refine go_s (pc' := 17) rfl rfl rfl rfl ?_
      refine go_s (pc' := 18) (st' := [.int 2, .int 3, .int 1, .ref 62]) rfl rfl rfl rfl ?_
      refine go_s (pc' := 19) rfl rfl rfl rfl ?_
      have hU100 : RU w B R H hb h am ln K (I, Q, Z) := RU_I (sm_e_refl (tbr am (13 * ln) 77 5088) _) (I' := I) (fun _ => rfl) (fun _ => rfl) (Nat.le_refl _) hU
      by_cases u101 : I 0 3 = 0
      · skip
        refine go_callV (pc' := 20) rfl rfl rfl (Nat.le_of_ble_eq_true rfl) rfl (sm_o hS rfl) rfl rfl rfl (rn_snd_0 hS hU100 (by omega) (f := 1) (t := 3) (by decide) (by decide) u101 (by omega)) (fun r h102 q103 => ?_)
        obtain ⟨rfl, rfl⟩ := q103
        refine go_s (pc' := 21) (lo' := [some (.ref 62), some (.int 1), some (.int 3), some (.int (-1)), none]) rfl rfl rfl rfl ?_
        refine go_s (pc' := 22) rfl rfl rfl rfl ?_
        refine go_s (pc' := 23) (st' := [.int (-1), .int (-1)]) rfl rfl rfl rfl ?_
        refine go_icmpP (t' := 25) (pc' := 24) rfl rfl rfl (fun (c : ¬ ((-1) : Int32) = (-1)) => absurd c (by decide)) (fun _ => ?_)
        refine go_ret rfl rfl ?_
        have hms : rrp 1 (I, Q, Z) = rsn 1 3 (mgA 1 (Z 1).1) (I, Q, Z) := by
          unfold rrp
          rw [if_neg (show ¬ (I, Q, Z).1 11 (1 + 1) = -1 from (fun z => absurd (e67.symm.trans z) (by decide))), show pn (I, Q, Z).1 (1 + 1) = 3 from pn_l (v := 3) e67 (by decide), show pn (I, Q, Z).1 0 = 1 from pn_l (v := 1) e1 (by decide), show row1 (I, Q, Z) 0 = (Z 1).1 from row1_l (v := 1) e1 (by decide)]
        rw [hms, show rsn 1 3 (mgA 1 (Z 1).1) (I, Q, Z) = (I, Q, Z) from if_pos u101]
        exact ⟨rfl, RA_R (by omega) hA⟩
      · skip
        refine go_callV (pc' := 20) rfl rfl rfl (Nat.le_of_ble_eq_true rfl) rfl (sm_o hS rfl) rfl rfl rfl (rn_snd_1 hS hU100 (by omega) (f := 1) (t := 3) (by decide) (by decide) u101 (by omega)) (fun r h104 q105 => ?_)
        obtain ⟨x106, am106, ln106, K106, rfl, hS106, hO106⟩ := q105
        obtain ⟨hx106, hln106, hr106, hWm106⟩ := RO_x hO106 (by omega)
        have ep107 : (appI I Q (4 * 1 + 3)) 11 0 = 1 := (congrFun (appI_o (by decide) (by decide) (by decide)) 0).trans e1
        have ep108 : (appI I Q (4 * 1 + 3)) 11 2 = 3 := (congrFun (appI_o (by decide) (by decide) (by decide)) 2).trans e67
        refine go_s (pc' := 21) (lo' := [some (.ref 62), some (.int 1), some (.int 3), some (.int (nI (13 * x106))), none]) rfl rfl rfl rfl ?_
        refine go_s (pc' := 22) rfl rfl rfl rfl ?_
        refine go_s (pc' := 23) (st' := [.int (-1), .int (nI (13 * x106))]) rfl rfl rfl rfl ?_
        refine go_icmpP (t' := 25) (pc' := 24) rfl rfl rfl (fun _ => ?_) (fun (c : ¬ (¬ (nI (13 * x106)) = (-1))) => absurd (nI_nm1 (by omega)) c)
        refine go_s (pc' := 26) rfl rfl rfl rfl ?_
        refine go_s (pc' := 27) (st' := [.int 0, .ref 62]) rfl rfl rfl rfl ?_
        refine go_callV (pc' := 28) rfl rfl rfl (Nat.le_of_ble_eq_true rfl) rfl (sm_o hS106 rfl) rfl rfl rfl (rt_at_0 hr106 hS106 (Or.inr (Or.inr ep107)) (fun z => absurd (ep107.symm.trans z) (by decide)) (by omega)) (fun r h109 q110 => ?_)
        obtain ⟨rfl, rfl⟩ := q110
        rw [show rwi (jn (appI I Q (4 * 1 + 3)) K106) 0 = 1 by unfold rwi pn; rw [show (jn (appI I Q (4 * 1 + 3)) K106) 11 0 = 1 from ep107]; rfl]
        show am_Go _ _ _ _ 28 _ [.int 424] _ _
        refine go_s (pc' := 29) (lo' := [some (.ref 62), some (.int 1), some (.int 3), some (.int (nI (13 * x106))), some (.int 424)]) rfl rfl rfl rfl ?_
        refine go_s (pc' := 30) rfl rfl rfl rfl ?_
        refine go_sget (pc' := 31) (v := .ref am106) hS106 rfl rfl rfl (by decide) rfl rfl ?_
        refine go_s (pc' := 32) rfl rfl rfl rfl ?_
        refine go_s (pc' := 33) (st' := [.int 6, .int (nI (13 * x106)), .ref am106]) rfl rfl rfl rfl ?_
        refine go_nadd (pc' := 34) (a := (13 * x106)) (b := 6) rfl rfl rfl rfl rfl ?_
        refine go_s (pc' := 35) rfl rfl rfl rfl ?_
        refine go_sget (pc' := 36) (v := .ref 77) hS106 rfl rfl rfl (by decide) rfl rfl ?_
        refine go_s (pc' := 37) rfl rfl rfl rfl ?_
        refine go_s (pc' := 38) (st' := [.int 6, .int 424, .ref 77, .int (nI ((13 * x106) + 6)), .ref am106]) rfl rfl rfl rfl ?_
        refine go_s (pc' := 39) (st' := [.int 430, .ref 77, .int (nI ((13 * x106) + 6)), .ref am106]) rfl rfl rfl rfl ?_
        refine go_s (pc' := 40) rfl rfl rfl rfl ?_
        refine go_s (pc' := 41) (st' := [.int 431, .ref 77, .int (nI ((13 * x106) + 6)), .ref am106]) rfl rfl rfl rfl ?_
        refine go_sald (pc' := 42) (q := 431) (v := .int ((Z 1).1 7)) hS106 rfl (tr_as hr106 (by omega)) rfl rfl (by decide) (congrArg Value.int ((RR_row hO106.2.1 (i := 1) (by decide)).1.1 7 (by decide) (by decide) (by decide))) rfl ?_
        refine go_siast (pc' := 43) (q := ((13 * x106) + 6)) hS106 rfl (tr_ms hr106 (by omega)) tbr_inj (Nat.le_of_ble_eq_true rfl) rfl (by omega) (rk_0 hr106).1 hWm106 rfl (fun h111 hS112 hE113 => ?_)
        refine go_s (pc' := 44) rfl rfl rfl rfl ?_
        refine go_sget (pc' := 45) (v := .ref am106) hS112 rfl rfl rfl (by decide) rfl rfl ?_
        refine go_s (pc' := 46) rfl rfl rfl rfl ?_
        refine go_s (pc' := 47) (st' := [.int 7, .int (nI (13 * x106)), .ref am106]) rfl rfl rfl rfl ?_
        refine go_nadd (pc' := 48) (a := (13 * x106)) (b := 7) rfl rfl rfl rfl rfl ?_
        refine go_s (pc' := 49) rfl rfl rfl rfl ?_
        refine go_sget (pc' := 50) (v := .ref 77) hS112 rfl rfl rfl (by decide) rfl rfl ?_
        refine go_s (pc' := 51) rfl rfl rfl rfl ?_
        refine go_s (pc' := 52) (st' := [.int 8, .int 424, .ref 77, .int (nI ((13 * x106) + 7)), .ref am106]) rfl rfl rfl rfl ?_
        refine go_s (pc' := 53) (st' := [.int 432, .ref 77, .int (nI ((13 * x106) + 7)), .ref am106]) rfl rfl rfl rfl ?_
        refine go_s (pc' := 54) rfl rfl rfl rfl ?_
        refine go_s (pc' := 55) (st' := [.int 433, .ref 77, .int (nI ((13 * x106) + 7)), .ref am106]) rfl rfl rfl rfl ?_
        refine go_sald (pc' := 56) (q := 433) (v := .int ((Z 1).1 9)) hS112 rfl (tr_as hr106 (by omega)) rfl rfl (by decide) (congrArg Value.int ((RR_row hO106.2.1 (i := 1) (by decide)).1.1 9 (by decide) (by decide) (by decide))) rfl ?_
        refine go_siast (pc' := 57) (q := ((13 * x106) + 7)) hS112 rfl (tr_ms hr106 (by omega)) tbr_inj (Nat.le_of_ble_eq_true rfl) rfl (by omega) (rk_0 hr106).1 hWm106 rfl (fun h114 hS115 hE116 => ?_)
        have hE117 := sm_e_trans hE113 hE116
        refine go_s (pc' := 58) rfl rfl rfl rfl ?_
        refine go_sget (pc' := 59) (v := .ref am106) hS115 rfl rfl rfl (by decide) rfl rfl ?_
        refine go_s (pc' := 60) rfl rfl rfl rfl ?_
        refine go_s (pc' := 61) (st' := [.int 8, .int (nI (13 * x106)), .ref am106]) rfl rfl rfl rfl ?_
        refine go_nadd (pc' := 62) (a := (13 * x106)) (b := 8) rfl rfl rfl rfl rfl ?_
        refine go_s (pc' := 63) rfl rfl rfl rfl ?_
        refine go_sget (pc' := 64) (v := .ref 77) hS115 rfl rfl rfl (by decide) rfl rfl ?_
        refine go_s (pc' := 65) rfl rfl rfl rfl ?_
        refine go_s (pc' := 66) (st' := [.int 10, .int 424, .ref 77, .int (nI ((13 * x106) + 8)), .ref am106]) rfl rfl rfl rfl ?_
        refine go_s (pc' := 67) (st' := [.int 434, .ref 77, .int (nI ((13 * x106) + 8)), .ref am106]) rfl rfl rfl rfl ?_
        refine go_s (pc' := 68) rfl rfl rfl rfl ?_
        refine go_s (pc' := 69) (st' := [.int 435, .ref 77, .int (nI ((13 * x106) + 8)), .ref am106]) rfl rfl rfl rfl ?_
        refine go_sald (pc' := 70) (q := 435) (v := .int ((Z 1).1 11)) hS115 rfl (tr_as hr106 (by omega)) rfl rfl (by decide) (congrArg Value.int ((RR_row hO106.2.1 (i := 1) (by decide)).1.1 11 (by decide) (by decide) (by decide))) rfl ?_
        refine go_siast (pc' := 71) (q := ((13 * x106) + 8)) hS115 rfl (tr_ms hr106 (by omega)) tbr_inj (Nat.le_of_ble_eq_true rfl) rfl (by omega) (rk_0 hr106).1 hWm106 rfl (fun h118 hS119 hE120 => ?_)
        have hE121 := sm_e_trans hE117 hE120
        refine go_s (pc' := 72) rfl rfl rfl rfl ?_
        refine go_sget (pc' := 73) (v := .ref am106) hS119 rfl rfl rfl (by decide) rfl rfl ?_
        refine go_s (pc' := 74) rfl rfl rfl rfl ?_
        refine go_s (pc' := 75) (st' := [.int 9, .int (nI (13 * x106)), .ref am106]) rfl rfl rfl rfl ?_
        refine go_nadd (pc' := 76) (a := (13 * x106)) (b := 9) rfl rfl rfl rfl rfl ?_
        refine go_s (pc' := 77) rfl rfl rfl rfl ?_
        refine go_sget (pc' := 78) (v := .ref 77) hS119 rfl rfl rfl (by decide) rfl rfl ?_
        refine go_s (pc' := 79) rfl rfl rfl rfl ?_
        refine go_s (pc' := 80) (st' := [.int 12, .int 424, .ref 77, .int (nI ((13 * x106) + 9)), .ref am106]) rfl rfl rfl rfl ?_
        refine go_s (pc' := 81) (st' := [.int 436, .ref 77, .int (nI ((13 * x106) + 9)), .ref am106]) rfl rfl rfl rfl ?_
        refine go_s (pc' := 82) rfl rfl rfl rfl ?_
        refine go_s (pc' := 83) (st' := [.int 437, .ref 77, .int (nI ((13 * x106) + 9)), .ref am106]) rfl rfl rfl rfl ?_
        refine go_sald (pc' := 84) (q := 437) (v := .int ((Z 1).1 13)) hS119 rfl (tr_as hr106 (by omega)) rfl rfl (by decide) (congrArg Value.int ((RR_row hO106.2.1 (i := 1) (by decide)).1.1 13 (by decide) (by decide) (by decide))) rfl ?_
        refine go_siast (pc' := 85) (q := ((13 * x106) + 9)) hS119 rfl (tr_ms hr106 (by omega)) tbr_inj (Nat.le_of_ble_eq_true rfl) rfl (by omega) (rk_0 hr106).1 hWm106 rfl (fun h122 hS123 hE124 => ?_)
        have hE125 := sm_e_trans hE121 hE124
        refine go_s (pc' := 86) rfl rfl rfl rfl ?_
        refine go_sget (pc' := 87) (v := .ref am106) hS123 rfl rfl rfl (by decide) rfl rfl ?_
        refine go_s (pc' := 88) rfl rfl rfl rfl ?_
        refine go_s (pc' := 89) (st' := [.int 10, .int (nI (13 * x106)), .ref am106]) rfl rfl rfl rfl ?_
        refine go_nadd (pc' := 90) (a := (13 * x106)) (b := 10) rfl rfl rfl rfl rfl ?_
        refine go_s (pc' := 91) rfl rfl rfl rfl ?_
        refine go_sget (pc' := 92) (v := .ref 77) hS123 rfl rfl rfl (by decide) rfl rfl ?_
        refine go_s (pc' := 93) rfl rfl rfl rfl ?_
        refine go_s (pc' := 94) (st' := [.int 0, .int 424, .ref 77, .int (nI ((13 * x106) + 10)), .ref am106]) rfl rfl rfl rfl ?_
        refine go_s (pc' := 95) (st' := [.int 424, .ref 77, .int (nI ((13 * x106) + 10)), .ref am106]) rfl rfl rfl rfl ?_
        refine go_sald (pc' := 96) (q := 424) (v := .int ((Z 1).1 0)) hS123 rfl (tr_as hr106 (by omega)) rfl rfl (by decide) (congrArg Value.int ((RR_row hO106.2.1 (i := 1) (by decide)).1.1 0 (by decide) (by decide) (by decide))) rfl ?_
        refine go_siast (pc' := 97) (q := ((13 * x106) + 10)) hS123 rfl (tr_ms hr106 (by omega)) tbr_inj (Nat.le_of_ble_eq_true rfl) rfl (by omega) (rk_0 hr106).1 hWm106 rfl (fun h126 hS127 hE128 => ?_)
        have hE129 := sm_e_trans hE125 hE128
        refine go_ret rfl rfl ?_
        have hms : rrp 1 (I, Q, Z) = rsn 1 3 (mgA 1 (Z 1).1) (I, Q, Z) := by
          unfold rrp
          rw [if_neg (show ¬ (I, Q, Z).1 11 (1 + 1) = -1 from (fun z => absurd (e67.symm.trans z) (by decide))), show pn (I, Q, Z).1 (1 + 1) = 3 from pn_l (v := 3) e67 (by decide), show pn (I, Q, Z).1 0 = 1 from pn_l (v := 1) e1 (by decide), show row1 (I, Q, Z) 0 = (Z 1).1 from row1_l (v := 1) e1 (by decide)]
        change sm (tbr am106 (13 * ln106) 77 5088) _ (uI (uI (uI (uI (uI (jn (appI I Q (4 * 1 + 3)) K106) 50 ((13 * x106) + 6) ((Z 1).1 7)) 50 ((13 * x106) + 7) ((Z 1).1 9)) 50 ((13 * x106) + 8) ((Z 1).1 11)) 50 ((13 * x106) + 9) ((Z 1).1 13)) 50 ((13 * x106) + 10) ((Z 1).1 0)) Y at hS127
        rw [jn_hi (c := 50) (by decide), jn_hi (c := 50) (by decide), jn_hi (c := 50) (by decide), jn_hi (c := 50) (by decide), jn_hi (c := 50) (by decide)] at hS127
        have hU130 := RO_cl (K' := (uI (uI (uI (uI (uI K106 50 ((13 * x106) + 6) ((Z 1).1 7)) 50 ((13 * x106) + 7) ((Z 1).1 9)) 50 ((13 * x106) + 8) ((Z 1).1 11)) 50 ((13 * x106) + 9) ((Z 1).1 13)) 50 ((13 * x106) + 10) ((Z 1).1 0))) (m := (mgn (mgA 1 (Z 1).1) (I 9 (4 * 1 + 3) + 1))) (by omega) hO106 (hE129) rfl rfl rfl rfl (fun c j _ hc => by
          simp only [uI]
          rw [if_neg (by omega), if_neg (by omega), if_neg (by omega), if_neg (by omega), if_neg (by omega)]) (fun i hi => by
          have hi2 : i < 5 := hi
          match i, hi2 with
            | 0, _ => (repeat (first | rw [uI_e (by omega)] | rw [uI_j (by omega)])) <;> rfl
            | 1, _ => (repeat (first | rw [uI_e (by omega)] | rw [uI_j (by omega)])) <;> rfl
            | 2, _ => (repeat (first | rw [uI_e (by omega)] | rw [uI_j (by omega)])) <;> rfl
            | 3, _ => (repeat (first | rw [uI_e (by omega)] | rw [uI_j (by omega)])) <;> rfl
            | 4, _ => (repeat (first | rw [uI_e (by omega)] | rw [uI_j (by omega)])) <;> rfl)
        have hA131 : RA w B (R + 1) H hb h126 ((appI I Q (4 * 1 + 3)), (uQ Q (4 * 1 + 3) (Q (4 * 1 + 3) ++ [(mgn (mgA 1 (Z 1).1) (I 9 (4 * 1 + 3) + 1))])), Z) := RA_u.mpr ⟨_, _, _, _, hS127, hU130⟩
        rw [hms, show rsn 1 3 (mgA 1 (Z 1).1) (I, Q, Z) = mapp (4 * 1 + 3) (mgA 1 (Z 1).1) (I, Q, Z) from if_neg u101]
        exact ⟨rfl, hA131⟩
theorem cpI_jn {I K : sm_I} {f g n : Nat} : cpI (jn I K) f g n = jn I (cpI K f g n) := by
  funext c j
  simp only [cpI, jn]
  by_cases e1 : c < 50
  · rw [if_neg (by omega), if_pos e1, if_pos e1]
  · rw [if_neg e1, if_neg e1]
    by_cases e2 : c = 51 ∧ 424 * g ≤ j ∧ j < 424 * g + n
    · rw [if_pos e2, if_pos e2, if_neg (by decide)]
    · rw [if_neg e2, if_neg e2]
theorem RZ_cp {K : sm_I} {b : Bool} {f g : Nat} {s : ms} (k : RZ K b f s) : RZ (cpI K f g 424) b g s := by
  obtain ⟨k1, k2⟩ := k
  refine ⟨fun hb => ⟨RS_cp (k1 hb).1 (k1 hb).2.1 (k1 hb).2.2.1, (k1 hb).2⟩, fun hb j hj => ?_⟩
  simp only [cpI]
  rw [if_pos ⟨trivial, by omega, by omega⟩, show 424 * g + j - 424 * g = j by omega]
  exact k2 hb j hj
theorem ra_ss_0 {w : Nat → Bool} {d B R : Nat} {H : List (Nat × mg)} {hb : Bool} {h : am_Hp} {I : sm_I} {Q : mQ} {Z : mZ} (hA : RA w B R H hb h (I, Q, Z)) (hR : R + 1 < 40000) {kd : Int32} {t : Nat} (ht : t < 4) (hkd : kd = 3 ∨ kd = 4) (hpk : prk I 0) (hnk : ¬ I 11 0 = -1) (h5 : sq Q + hc H hb ≤ 5) (hd : 3 ≤ d) : am_Ev (am_prog w) d 134 [.ref 62, .int 0, .int kd, .int (nI t)] h (fun r h' => r = none ∧ RA w B (R + 1) H hb h' (rss 0 kd t (I, Q, Z))) := by
  obtain ⟨K, Y, am, ln, hS, hU⟩ := RA_u.mp hA
  change sm (tbr am (13 * ln) 77 5088) h (jn I K) Y at hS
  obtain ⟨hW, hWm, -, -, hr, -⟩ := id hU.1
  have hln := RU_ln hU (by omega)
  obtain ⟨d, rfl⟩ : ∃ e, d = e + 1 := ⟨d - 1, by omega⟩
  refine ev_go rfl (Nat.le_of_ble_eq_true rfl) rfl ?_
  rcases hpk with e1 | e1 | e1
  · skip
    exact absurd e1 hnk
  · skip
    refine go_s (pc' := 1) rfl rfl rfl rfl ?_
    refine go_sget (pc' := 2) (v := .ref 82) hS rfl rfl rfl (by decide) rfl rfl ?_
    refine go_s (pc' := 3) rfl rfl rfl rfl ?_
    refine go_s (pc' := 4) rfl rfl rfl rfl ?_
    refine go_sald (pc' := 5) (q := 0) (v := .int (I 15 0)) hS rfl (tr_s hr (a := 82) rfl (by decide)) rfl rfl (by decide) rfl rfl ?_
    refine go_s (pc' := 6) (st' := [.int 1, .int (I 15 0), .int 0, .ref 82]) rfl rfl rfl rfl ?_
    refine go_s (pc' := 7) rfl rfl rfl rfl ?_
    refine go_siast (pc' := 8) (q := 0) hS rfl (tr_s hr (a := 82) rfl (by decide)) tbr_inj (Nat.le_of_ble_eq_true rfl) rfl (by decide) (by decide) (hW _ (by decide) (by decide)) rfl (fun h2 hS3 hE4 => ?_)
    refine go_s (pc' := 9) rfl rfl rfl rfl ?_
    refine go_s (pc' := 10) rfl rfl rfl rfl ?_
    refine go_sget (pc' := 11) (v := .ref 78) hS3 rfl rfl rfl (by decide) rfl rfl ?_
    refine go_s (pc' := 12) rfl rfl rfl rfl ?_
    refine go_sald (pc' := 13) (q := 0) (v := .int 0) hS3 rfl (tr_s hr (a := 78) rfl (by decide)) rfl rfl (by decide) (congrArg Value.int e1) rfl ?_
    refine go_s (pc' := 14) rfl rfl rfl rfl ?_
    refine go_s (pc' := 15) rfl rfl rfl rfl ?_
    refine go_s (pc' := 16) rfl rfl rfl rfl ?_
    change sm (tbr am (13 * ln) 77 5088) _ (uI (jn I K) 15 0 ((I 15 0) + 1)) Y at hS3
    rw [jn_lo (c := 15) (by decide)] at hS3
    have hU5 : RU w B R H hb h2 am ln K ((uI I 15 0 ((I 15 0) + 1)), Q, Z) := RU_I (hE4) (I' := (uI I 15 0 ((I 15 0) + 1))) (fun _ => rfl) (fun _ => rfl) (Nat.le_refl _) hU
    by_cases u6 : (uI I 15 0 ((I 15 0) + 1)) 0 t = 0
    · skip
      refine go_callV (pc' := 17) rfl rfl rfl (Nat.le_of_ble_eq_true rfl) rfl (sm_o hS3 rfl) rfl rfl rfl (rn_snd_0 hS3 hU5 (by omega) (f := 0) (t := t) (by decide) ht u6 (by omega)) (fun r h7 q8 => ?_)
      obtain ⟨rfl, rfl⟩ := q8
      refine go_s (pc' := 18) (lo' := [some (.ref 62), some (.int 0), some (.int kd), some (.int (nI t)), some (.int (-1)), none]) rfl rfl rfl rfl ?_
      refine go_s (pc' := 19) rfl rfl rfl rfl ?_
      refine go_s (pc' := 20) (st' := [.int (-1), .int (-1)]) rfl rfl rfl rfl ?_
      refine go_icmpP (t' := 22) (pc' := 21) rfl rfl rfl (fun (c : ¬ ((-1) : Int32) = (-1)) => absurd c (by decide)) (fun _ => ?_)
      refine go_ret rfl rfl ?_
      have hms : rss 0 kd t (I, Q, Z) = rsn 0 t (mgS kd 0 (I 15 0 + 1) (Z 0)) ((uI I 15 0 (I 15 0 + 1)), Q, Z) := by
        unfold rss
        rw [show pn (I, Q, Z).1 0 = 0 from pn_l (v := 0) e1 (by decide), show rwi (I, Q, Z).1 0 = 0 from rwi_l (v := 0) e1 (by decide)]
      have hA9 : RA w B R H hb h7 ((uI I 15 0 ((I 15 0) + 1)), Q, Z) := RA_u.mpr ⟨_, _, _, _, hS3, hU5⟩
      rw [hms, show rsn 0 t (mgS kd 0 (I 15 0 + 1) (Z 0)) ((uI I 15 0 (I 15 0 + 1)), Q, Z) = ((uI I 15 0 (I 15 0 + 1)), Q, Z) from if_pos u6]
      exact ⟨rfl, RA_R (by omega) hA9⟩
    · skip
      refine go_callV (pc' := 17) rfl rfl rfl (Nat.le_of_ble_eq_true rfl) rfl (sm_o hS3 rfl) rfl rfl rfl (rn_snd_1 hS3 hU5 (by omega) (f := 0) (t := t) (by decide) ht u6 (by omega)) (fun r h10 q11 => ?_)
      obtain ⟨x12, am12, ln12, K12, rfl, hS12, hO12⟩ := q11
      obtain ⟨hx12, hln12, hr12, hWm12⟩ := RO_x hO12 (by omega)
      have ep13 : (appI (uI I 15 0 ((I 15 0) + 1)) Q (4 * 0 + t)) 11 0 = 0 := (congrFun (appI_o (by decide) (by decide) (by decide)) 0).trans e1
      refine go_s (pc' := 18) (lo' := [some (.ref 62), some (.int 0), some (.int kd), some (.int (nI t)), some (.int (nI (13 * x12))), none]) rfl rfl rfl rfl ?_
      refine go_s (pc' := 19) rfl rfl rfl rfl ?_
      refine go_s (pc' := 20) (st' := [.int (-1), .int (nI (13 * x12))]) rfl rfl rfl rfl ?_
      refine go_icmpP (t' := 22) (pc' := 21) rfl rfl rfl (fun _ => ?_) (fun (c : ¬ (¬ (nI (13 * x12)) = (-1))) => absurd (nI_nm1 (by omega)) c)
      refine go_s (pc' := 23) rfl rfl rfl rfl ?_
      obtain ⟨uH, uR, ⟨L, F, G, o, ro, rm, sr, T, uL1, uP, uxr, urm, uln⟩, u1, u2, u3, u4⟩ := hO12
      have h5b : sq (uQ Q (4 * 0 + t) (Q (4 * 0 + t) ++ [mo0])) ≤ sq Q := by
        have z := sq_u (Q := Q) (l := (4 * 0 + t)) (q := Q (4 * 0 + t) ++ [mo0]) (by omega)
        rw [List.countP_append] at z
        have z2 : List.countP isS [mo0] = 0 := rfl
        omega
      refine go_callV (pc' := 24) rfl rfl rfl (Nat.le_of_ble_eq_true rfl) rfl (sm_o hS12 rfl) rfl rfl rfl (rn_ns hr12 hln12 hW hS12 uP (by omega) (by omega)) (fun r h15 q16 => ?_)
      obtain ⟨y, K8, G8, sr8, rfl, hS8, hE8, uP8, y1, y2, y3, y4, y5, y6⟩ := q16
      have y7 : y < 12 := by omega
      refine go_s (pc' := 25) (lo' := [some (.ref 62), some (.int 0), some (.int kd), some (.int (nI t)), some (.int (nI (13 * x12))), some (.int (nI y))]) rfl rfl rfl rfl ?_
      refine go_s (pc' := 26) rfl rfl rfl rfl ?_
      refine go_s (pc' := 27) (st' := [.int 2, .ref 62]) rfl rfl rfl rfl ?_
      refine go_s (pc' := 28) rfl rfl rfl rfl ?_
      refine go_s (pc' := 29) (st' := [.int 0, .ref 62]) rfl rfl rfl rfl ?_
      refine go_s (pc' := 30) rfl rfl rfl rfl ?_
      refine go_sget (pc' := 31) (v := .ref 78) hS8 rfl rfl rfl (by decide) rfl rfl ?_
      refine go_s (pc' := 32) rfl rfl rfl rfl ?_
      refine go_sald (pc' := 33) (q := 0) (v := .int 0) hS8 rfl (tr_s hr12 (a := 78) rfl (by decide)) rfl rfl (by decide) (congrArg Value.int ep13) rfl ?_
      refine go_s (pc' := 34) (st' := [.int 2, .int 0, .int 0, .ref 62]) rfl rfl rfl rfl ?_
      refine go_s (pc' := 35) (st' := [.int 0, .int 0, .ref 62]) rfl rfl rfl rfl ?_
      refine go_s (pc' := 36) (st' := [.int 0, .ref 62]) rfl rfl rfl rfl ?_
      refine go_s (pc' := 37) rfl rfl rfl rfl ?_
      refine go_callV (pc' := 38) rfl rfl rfl (Nat.le_of_ble_eq_true rfl) rfl (sm_o hS8 rfl) rfl rfl rfl (rs_cp hr12 hS8 hW (hW 77 (by decide) (by decide)) (f := 0) (g := y) (by decide) (by omega) (by omega) (by decide) (by omega)) (fun r h17 q18 => ?_)
      obtain ⟨rfl, hS19, hE20⟩ := q18
      have hE21 := sm_e_trans hE8 hE20
      rw [cpI_jn] at hS19
      obtain ⟨K7, e7⟩ : ∃ z, z = cpI K8 0 y 424 := ⟨_, rfl⟩
      rw [← e7] at hS19
      refine go_s (pc' := 39) rfl rfl rfl rfl ?_
      refine go_sget (pc' := 40) (v := .ref am12) hS19 rfl rfl rfl (by decide) rfl rfl ?_
      refine go_s (pc' := 41) rfl rfl rfl rfl ?_
      refine go_s (pc' := 42) (st' := [.int 6, .int (nI (13 * x12)), .ref am12]) rfl rfl rfl rfl ?_
      refine go_nadd (pc' := 43) (a := (13 * x12)) (b := 6) rfl rfl rfl rfl rfl ?_
      refine go_s (pc' := 44) rfl rfl rfl rfl ?_
      refine go_sget (pc' := 45) (v := .ref 82) hS19 rfl rfl rfl (by decide) rfl rfl ?_
      refine go_s (pc' := 46) rfl rfl rfl rfl ?_
      refine go_sald (pc' := 47) (q := 0) (v := .int ((appI (uI I 15 0 ((I 15 0) + 1)) Q (4 * 0 + t)) 15 0)) hS19 rfl (tr_s hr12 (a := 82) rfl (by decide)) rfl rfl (by decide) rfl rfl ?_
      refine go_siast (pc' := 48) (q := ((13 * x12) + 6)) hS19 rfl (tr_ms hr12 (by omega)) tbr_inj (Nat.le_of_ble_eq_true rfl) rfl (by omega) (rk_0 hr12).1 hWm12 rfl (fun h22 hS23 hE24 => ?_)
      have hE25 := sm_e_trans hE21 hE24
      refine go_s (pc' := 49) rfl rfl rfl rfl ?_
      refine go_sget (pc' := 50) (v := .ref am12) hS23 rfl rfl rfl (by decide) rfl rfl ?_
      refine go_s (pc' := 51) rfl rfl rfl rfl ?_
      refine go_s (pc' := 52) (st' := [.int 12, .int (nI (13 * x12)), .ref am12]) rfl rfl rfl rfl ?_
      refine go_nadd (pc' := 53) (a := (13 * x12)) (b := 12) rfl rfl rfl rfl rfl ?_
      refine go_s (pc' := 54) rfl rfl rfl rfl ?_
      refine go_siast (pc' := 55) (q := ((13 * x12) + 12)) hS23 rfl (tr_ms hr12 (by omega)) tbr_inj (Nat.le_of_ble_eq_true rfl) rfl (by omega) (rk_0 hr12).1 hWm12 rfl (fun h26 hS27 hE28 => ?_)
      have hE29 := sm_e_trans hE25 hE28
      refine go_ret rfl rfl ?_
      have hms : rss 0 kd t (I, Q, Z) = rsn 0 t (mgS kd 0 (I 15 0 + 1) (Z 0)) ((uI I 15 0 (I 15 0 + 1)), Q, Z) := by
        unfold rss
        rw [show pn (I, Q, Z).1 0 = 0 from pn_l (v := 0) e1 (by decide), show rwi (I, Q, Z).1 0 = 0 from rwi_l (v := 0) e1 (by decide)]
      change sm (tbr am12 (13 * ln12) 77 5088) _ (uI (uI (jn (appI (uI I 15 0 ((I 15 0) + 1)) Q (4 * 0 + t)) K7) 50 ((13 * x12) + 6) ((appI (uI I 15 0 ((I 15 0) + 1)) Q (4 * 0 + t)) 15 0)) 50 ((13 * x12) + 12) (nI y)) Y at hS27
      rw [jn_hi (c := 50) (by decide), jn_hi (c := 50) (by decide)] at hS27
      obtain ⟨K6, e6⟩ : ∃ z, z = (uI (uI K7 50 ((13 * x12) + 6) ((appI (uI I 15 0 ((I 15 0) + 1)) Q (4 * 0 + t)) 15 0)) 50 ((13 * x12) + 12) (nI y)) := ⟨_, rfl⟩
      rw [← e6] at hS27
      have f6 : ∀ c j, 50 ≤ c → ¬ (c = 50 ∧ (j = 13 * x12 + 6 ∨ j = 13 * x12 + 12)) → K6 c j = K7 c j := fun c j _ hc => by
        rw [e6]
        simp only [uI]
        rw [if_neg (by omega), if_neg (by omega)]
      have f7 : ∀ c j, ¬ (c = 51 ∧ 424 * y ≤ j ∧ j < 424 * y + 424) → K7 c j = K8 c j := fun c j hc => by
        rw [e7]
        exact cpI_r (Nat.le_refl _) c j hc
      have g6 : K6 50 (13 * x12 + 6) = I 15 0 + 1 := by
        rw [e6]
        (repeat (first | rw [uI_e (by omega)] | rw [uI_j (by omega)])) <;> first | rfl | exact congrFun (appI_o (by decide) (by decide) (by decide)) _
      have g12 : K6 50 (13 * x12 + 12) = nI y := by
        rw [e6]
        rw [uI_e (by omega)]
      have hRR8 : RR K8 Z := RR_c (fun j _ => y6 51 j (by decide)) uR
      have hz7 : RZ K7 (decide (0 < 2)) y (Z 0) := by
        rw [e7]
        exact RZ_cp (hRR8 0 (by decide))
      have hz6 : RZ K6 (decide (0 < 2)) y (Z 0) := RZ_c (fun j hj => f6 51 _ (by omega) (by omega)) hz7
      have hkS : isS (mgn (mgS kd 0 (I 15 0 + 1) (Z 0)) ((uI I 15 0 (I 15 0 + 1)) 9 (4 * 0 + t) + 1)) = true := by
        rcases hkd with rfl | rfl <;> rfl
      have hmw : mwn kd = 1 := by
        rcases hkd with rfl | rfl <;> rfl
      have e50 : ∀ j, j ≠ 13 * x12 + 6 → j ≠ 13 * x12 + 12 → K6 50 j = K12 50 j := fun j j1 j2 => by rw [f6 50 j (by omega) (by omega), f7 50 j (by omega), y6 50 j (by decide)]
      have hMS : MS K6 (owx ro y (x12 + 1)) x12 (mgn (mgS kd 0 (I 15 0 + 1) (Z 0)) ((uI I 15 0 (I 15 0 + 1)) 9 (4 * 0 + t) + 1)) := by
        refine ⟨?_, ?_, ?_, fun i hi => ?_, (fun z => by rw [hkS] at z; cases z), fun _ => ⟨y, y2, y7, g12, owx_s, ?_⟩⟩
        · rw [e50 _ (by omega) (by omega)]; exact u1
        · rw [e50 _ (by omega) (by omega)]; exact u2
        · rw [e50 _ (by omega) (by omega)]; exact u3
        · have hi2 : i < 1 := by
            have z : i < mwn kd := hi
            omega
          match i, hi2 with
          | 0, _ => exact g6
        · exact hz6
      have hP6 := RP_closeS (m := (mgn (mgS kd 0 (I 15 0 + 1) (Z 0)) ((uI I 15 0 (I 15 0 + 1)) 9 (4 * 0 + t) + 1))) (K' := K6) (by omega) uP8 uL1 mo0_s hkS y1 y2 y3 y5 (fun c j c1 c2 c3 => by rw [f6 c j c1 (by omega), f7 c j c3]) hMS
      have hA30 : RA w B (R + 1) H hb h26 (appI (uI I 15 0 (I 15 0 + 1)) Q (4 * 0 + t), uQ Q (4 * 0 + t) (Q (4 * 0 + t) ++ [(mgn (mgS kd 0 (I 15 0 + 1) (Z 0)) ((uI I 15 0 (I 15 0 + 1)) 9 (4 * 0 + t) + 1))]), Z) := RA_u.mpr ⟨_, _, _, _, hS27, HB_e hE29 uH, RR_c (fun j hj => by rw [f6 51 j (by omega) (by omega), f7 51 j (by omega)]) hRR8, L, F, G8, o, _, rm, sr8, hP6, urm, uln⟩
      rw [hms, show rsn 0 t (mgS kd 0 (I 15 0 + 1) (Z 0)) ((uI I 15 0 (I 15 0 + 1)), Q, Z) = mapp (4 * 0 + t) (mgS kd 0 (I 15 0 + 1) (Z 0)) ((uI I 15 0 (I 15 0 + 1)), Q, Z) from if_neg u6]
      exact ⟨rfl, hA30⟩
  · skip
    refine go_s (pc' := 1) rfl rfl rfl rfl ?_
    refine go_sget (pc' := 2) (v := .ref 82) hS rfl rfl rfl (by decide) rfl rfl ?_
    refine go_s (pc' := 3) rfl rfl rfl rfl ?_
    refine go_s (pc' := 4) rfl rfl rfl rfl ?_
    refine go_sald (pc' := 5) (q := 0) (v := .int (I 15 0)) hS rfl (tr_s hr (a := 82) rfl (by decide)) rfl rfl (by decide) rfl rfl ?_
    refine go_s (pc' := 6) (st' := [.int 1, .int (I 15 0), .int 0, .ref 82]) rfl rfl rfl rfl ?_
    refine go_s (pc' := 7) rfl rfl rfl rfl ?_
    refine go_siast (pc' := 8) (q := 0) hS rfl (tr_s hr (a := 82) rfl (by decide)) tbr_inj (Nat.le_of_ble_eq_true rfl) rfl (by decide) (by decide) (hW _ (by decide) (by decide)) rfl (fun h31 hS32 hE33 => ?_)
    refine go_s (pc' := 9) rfl rfl rfl rfl ?_
    refine go_s (pc' := 10) rfl rfl rfl rfl ?_
    refine go_sget (pc' := 11) (v := .ref 78) hS32 rfl rfl rfl (by decide) rfl rfl ?_
    refine go_s (pc' := 12) rfl rfl rfl rfl ?_
    refine go_sald (pc' := 13) (q := 0) (v := .int 1) hS32 rfl (tr_s hr (a := 78) rfl (by decide)) rfl rfl (by decide) (congrArg Value.int e1) rfl ?_
    refine go_s (pc' := 14) rfl rfl rfl rfl ?_
    refine go_s (pc' := 15) rfl rfl rfl rfl ?_
    refine go_s (pc' := 16) rfl rfl rfl rfl ?_
    change sm (tbr am (13 * ln) 77 5088) _ (uI (jn I K) 15 0 ((I 15 0) + 1)) Y at hS32
    rw [jn_lo (c := 15) (by decide)] at hS32
    have hU34 : RU w B R H hb h31 am ln K ((uI I 15 0 ((I 15 0) + 1)), Q, Z) := RU_I (hE33) (I' := (uI I 15 0 ((I 15 0) + 1))) (fun _ => rfl) (fun _ => rfl) (Nat.le_refl _) hU
    by_cases u35 : (uI I 15 0 ((I 15 0) + 1)) 0 t = 0
    · skip
      refine go_callV (pc' := 17) rfl rfl rfl (Nat.le_of_ble_eq_true rfl) rfl (sm_o hS32 rfl) rfl rfl rfl (rn_snd_0 hS32 hU34 (by omega) (f := 1) (t := t) (by decide) ht u35 (by omega)) (fun r h36 q37 => ?_)
      obtain ⟨rfl, rfl⟩ := q37
      refine go_s (pc' := 18) (lo' := [some (.ref 62), some (.int 0), some (.int kd), some (.int (nI t)), some (.int (-1)), none]) rfl rfl rfl rfl ?_
      refine go_s (pc' := 19) rfl rfl rfl rfl ?_
      refine go_s (pc' := 20) (st' := [.int (-1), .int (-1)]) rfl rfl rfl rfl ?_
      refine go_icmpP (t' := 22) (pc' := 21) rfl rfl rfl (fun (c : ¬ ((-1) : Int32) = (-1)) => absurd c (by decide)) (fun _ => ?_)
      refine go_ret rfl rfl ?_
      have hms : rss 0 kd t (I, Q, Z) = rsn 1 t (mgS kd 0 (I 15 0 + 1) (Z 1)) ((uI I 15 0 (I 15 0 + 1)), Q, Z) := by
        unfold rss
        rw [show pn (I, Q, Z).1 0 = 1 from pn_l (v := 1) e1 (by decide), show rwi (I, Q, Z).1 0 = 1 from rwi_l (v := 1) e1 (by decide)]
      have hA38 : RA w B R H hb h36 ((uI I 15 0 ((I 15 0) + 1)), Q, Z) := RA_u.mpr ⟨_, _, _, _, hS32, hU34⟩
      rw [hms, show rsn 1 t (mgS kd 0 (I 15 0 + 1) (Z 1)) ((uI I 15 0 (I 15 0 + 1)), Q, Z) = ((uI I 15 0 (I 15 0 + 1)), Q, Z) from if_pos u35]
      exact ⟨rfl, RA_R (by omega) hA38⟩
    · skip
      refine go_callV (pc' := 17) rfl rfl rfl (Nat.le_of_ble_eq_true rfl) rfl (sm_o hS32 rfl) rfl rfl rfl (rn_snd_1 hS32 hU34 (by omega) (f := 1) (t := t) (by decide) ht u35 (by omega)) (fun r h39 q40 => ?_)
      obtain ⟨x41, am41, ln41, K41, rfl, hS41, hO41⟩ := q40
      obtain ⟨hx41, hln41, hr41, hWm41⟩ := RO_x hO41 (by omega)
      have ep42 : (appI (uI I 15 0 ((I 15 0) + 1)) Q (4 * 1 + t)) 11 0 = 1 := (congrFun (appI_o (by decide) (by decide) (by decide)) 0).trans e1
      refine go_s (pc' := 18) (lo' := [some (.ref 62), some (.int 0), some (.int kd), some (.int (nI t)), some (.int (nI (13 * x41))), none]) rfl rfl rfl rfl ?_
      refine go_s (pc' := 19) rfl rfl rfl rfl ?_
      refine go_s (pc' := 20) (st' := [.int (-1), .int (nI (13 * x41))]) rfl rfl rfl rfl ?_
      refine go_icmpP (t' := 22) (pc' := 21) rfl rfl rfl (fun _ => ?_) (fun (c : ¬ (¬ (nI (13 * x41)) = (-1))) => absurd (nI_nm1 (by omega)) c)
      refine go_s (pc' := 23) rfl rfl rfl rfl ?_
      obtain ⟨uH, uR, ⟨L, F, G, o, ro, rm, sr, T, uL1, uP, uxr, urm, uln⟩, u1, u2, u3, u4⟩ := hO41
      have h5b : sq (uQ Q (4 * 1 + t) (Q (4 * 1 + t) ++ [mo0])) ≤ sq Q := by
        have z := sq_u (Q := Q) (l := (4 * 1 + t)) (q := Q (4 * 1 + t) ++ [mo0]) (by omega)
        rw [List.countP_append] at z
        have z2 : List.countP isS [mo0] = 0 := rfl
        omega
      refine go_callV (pc' := 24) rfl rfl rfl (Nat.le_of_ble_eq_true rfl) rfl (sm_o hS41 rfl) rfl rfl rfl (rn_ns hr41 hln41 hW hS41 uP (by omega) (by omega)) (fun r h44 q45 => ?_)
      obtain ⟨y, K8, G8, sr8, rfl, hS8, hE8, uP8, y1, y2, y3, y4, y5, y6⟩ := q45
      have y7 : y < 12 := by omega
      refine go_s (pc' := 25) (lo' := [some (.ref 62), some (.int 0), some (.int kd), some (.int (nI t)), some (.int (nI (13 * x41))), some (.int (nI y))]) rfl rfl rfl rfl ?_
      refine go_s (pc' := 26) rfl rfl rfl rfl ?_
      refine go_s (pc' := 27) (st' := [.int 2, .ref 62]) rfl rfl rfl rfl ?_
      refine go_s (pc' := 28) rfl rfl rfl rfl ?_
      refine go_s (pc' := 29) (st' := [.int 0, .ref 62]) rfl rfl rfl rfl ?_
      refine go_s (pc' := 30) rfl rfl rfl rfl ?_
      refine go_sget (pc' := 31) (v := .ref 78) hS8 rfl rfl rfl (by decide) rfl rfl ?_
      refine go_s (pc' := 32) rfl rfl rfl rfl ?_
      refine go_sald (pc' := 33) (q := 0) (v := .int 1) hS8 rfl (tr_s hr41 (a := 78) rfl (by decide)) rfl rfl (by decide) (congrArg Value.int ep42) rfl ?_
      refine go_s (pc' := 34) (st' := [.int 2, .int 1, .int 0, .ref 62]) rfl rfl rfl rfl ?_
      refine go_s (pc' := 35) (st' := [.int 1, .int 0, .ref 62]) rfl rfl rfl rfl ?_
      refine go_s (pc' := 36) (st' := [.int 1, .ref 62]) rfl rfl rfl rfl ?_
      refine go_s (pc' := 37) rfl rfl rfl rfl ?_
      refine go_callV (pc' := 38) rfl rfl rfl (Nat.le_of_ble_eq_true rfl) rfl (sm_o hS8 rfl) rfl rfl rfl (rs_cp hr41 hS8 hW (hW 77 (by decide) (by decide)) (f := 1) (g := y) (by decide) (by omega) (by omega) (by decide) (by omega)) (fun r h46 q47 => ?_)
      obtain ⟨rfl, hS48, hE49⟩ := q47
      have hE50 := sm_e_trans hE8 hE49
      rw [cpI_jn] at hS48
      obtain ⟨K7, e7⟩ : ∃ z, z = cpI K8 1 y 424 := ⟨_, rfl⟩
      rw [← e7] at hS48
      refine go_s (pc' := 39) rfl rfl rfl rfl ?_
      refine go_sget (pc' := 40) (v := .ref am41) hS48 rfl rfl rfl (by decide) rfl rfl ?_
      refine go_s (pc' := 41) rfl rfl rfl rfl ?_
      refine go_s (pc' := 42) (st' := [.int 6, .int (nI (13 * x41)), .ref am41]) rfl rfl rfl rfl ?_
      refine go_nadd (pc' := 43) (a := (13 * x41)) (b := 6) rfl rfl rfl rfl rfl ?_
      refine go_s (pc' := 44) rfl rfl rfl rfl ?_
      refine go_sget (pc' := 45) (v := .ref 82) hS48 rfl rfl rfl (by decide) rfl rfl ?_
      refine go_s (pc' := 46) rfl rfl rfl rfl ?_
      refine go_sald (pc' := 47) (q := 0) (v := .int ((appI (uI I 15 0 ((I 15 0) + 1)) Q (4 * 1 + t)) 15 0)) hS48 rfl (tr_s hr41 (a := 82) rfl (by decide)) rfl rfl (by decide) rfl rfl ?_
      refine go_siast (pc' := 48) (q := ((13 * x41) + 6)) hS48 rfl (tr_ms hr41 (by omega)) tbr_inj (Nat.le_of_ble_eq_true rfl) rfl (by omega) (rk_0 hr41).1 hWm41 rfl (fun h51 hS52 hE53 => ?_)
      have hE54 := sm_e_trans hE50 hE53
      refine go_s (pc' := 49) rfl rfl rfl rfl ?_
      refine go_sget (pc' := 50) (v := .ref am41) hS52 rfl rfl rfl (by decide) rfl rfl ?_
      refine go_s (pc' := 51) rfl rfl rfl rfl ?_
      refine go_s (pc' := 52) (st' := [.int 12, .int (nI (13 * x41)), .ref am41]) rfl rfl rfl rfl ?_
      refine go_nadd (pc' := 53) (a := (13 * x41)) (b := 12) rfl rfl rfl rfl rfl ?_
      refine go_s (pc' := 54) rfl rfl rfl rfl ?_
      refine go_siast (pc' := 55) (q := ((13 * x41) + 12)) hS52 rfl (tr_ms hr41 (by omega)) tbr_inj (Nat.le_of_ble_eq_true rfl) rfl (by omega) (rk_0 hr41).1 hWm41 rfl (fun h55 hS56 hE57 => ?_)
      have hE58 := sm_e_trans hE54 hE57
      refine go_ret rfl rfl ?_
      have hms : rss 0 kd t (I, Q, Z) = rsn 1 t (mgS kd 0 (I 15 0 + 1) (Z 1)) ((uI I 15 0 (I 15 0 + 1)), Q, Z) := by
        unfold rss
        rw [show pn (I, Q, Z).1 0 = 1 from pn_l (v := 1) e1 (by decide), show rwi (I, Q, Z).1 0 = 1 from rwi_l (v := 1) e1 (by decide)]
      change sm (tbr am41 (13 * ln41) 77 5088) _ (uI (uI (jn (appI (uI I 15 0 ((I 15 0) + 1)) Q (4 * 1 + t)) K7) 50 ((13 * x41) + 6) ((appI (uI I 15 0 ((I 15 0) + 1)) Q (4 * 1 + t)) 15 0)) 50 ((13 * x41) + 12) (nI y)) Y at hS56
      rw [jn_hi (c := 50) (by decide), jn_hi (c := 50) (by decide)] at hS56
      obtain ⟨K6, e6⟩ : ∃ z, z = (uI (uI K7 50 ((13 * x41) + 6) ((appI (uI I 15 0 ((I 15 0) + 1)) Q (4 * 1 + t)) 15 0)) 50 ((13 * x41) + 12) (nI y)) := ⟨_, rfl⟩
      rw [← e6] at hS56
      have f6 : ∀ c j, 50 ≤ c → ¬ (c = 50 ∧ (j = 13 * x41 + 6 ∨ j = 13 * x41 + 12)) → K6 c j = K7 c j := fun c j _ hc => by
        rw [e6]
        simp only [uI]
        rw [if_neg (by omega), if_neg (by omega)]
      have f7 : ∀ c j, ¬ (c = 51 ∧ 424 * y ≤ j ∧ j < 424 * y + 424) → K7 c j = K8 c j := fun c j hc => by
        rw [e7]
        exact cpI_r (Nat.le_refl _) c j hc
      have g6 : K6 50 (13 * x41 + 6) = I 15 0 + 1 := by
        rw [e6]
        (repeat (first | rw [uI_e (by omega)] | rw [uI_j (by omega)])) <;> first | rfl | exact congrFun (appI_o (by decide) (by decide) (by decide)) _
      have g12 : K6 50 (13 * x41 + 12) = nI y := by
        rw [e6]
        rw [uI_e (by omega)]
      have hRR8 : RR K8 Z := RR_c (fun j _ => y6 51 j (by decide)) uR
      have hz7 : RZ K7 (decide (1 < 2)) y (Z 1) := by
        rw [e7]
        exact RZ_cp (hRR8 1 (by decide))
      have hz6 : RZ K6 (decide (1 < 2)) y (Z 1) := RZ_c (fun j hj => f6 51 _ (by omega) (by omega)) hz7
      have hkS : isS (mgn (mgS kd 0 (I 15 0 + 1) (Z 1)) ((uI I 15 0 (I 15 0 + 1)) 9 (4 * 1 + t) + 1)) = true := by
        rcases hkd with rfl | rfl <;> rfl
      have hmw : mwn kd = 1 := by
        rcases hkd with rfl | rfl <;> rfl
      have e50 : ∀ j, j ≠ 13 * x41 + 6 → j ≠ 13 * x41 + 12 → K6 50 j = K41 50 j := fun j j1 j2 => by rw [f6 50 j (by omega) (by omega), f7 50 j (by omega), y6 50 j (by decide)]
      have hMS : MS K6 (owx ro y (x41 + 1)) x41 (mgn (mgS kd 0 (I 15 0 + 1) (Z 1)) ((uI I 15 0 (I 15 0 + 1)) 9 (4 * 1 + t) + 1)) := by
        refine ⟨?_, ?_, ?_, fun i hi => ?_, (fun z => by rw [hkS] at z; cases z), fun _ => ⟨y, y2, y7, g12, owx_s, ?_⟩⟩
        · rw [e50 _ (by omega) (by omega)]; exact u1
        · rw [e50 _ (by omega) (by omega)]; exact u2
        · rw [e50 _ (by omega) (by omega)]; exact u3
        · have hi2 : i < 1 := by
            have z : i < mwn kd := hi
            omega
          match i, hi2 with
          | 0, _ => exact g6
        · exact hz6
      have hP6 := RP_closeS (m := (mgn (mgS kd 0 (I 15 0 + 1) (Z 1)) ((uI I 15 0 (I 15 0 + 1)) 9 (4 * 1 + t) + 1))) (K' := K6) (by omega) uP8 uL1 mo0_s hkS y1 y2 y3 y5 (fun c j c1 c2 c3 => by rw [f6 c j c1 (by omega), f7 c j c3]) hMS
      have hA59 : RA w B (R + 1) H hb h55 (appI (uI I 15 0 (I 15 0 + 1)) Q (4 * 1 + t), uQ Q (4 * 1 + t) (Q (4 * 1 + t) ++ [(mgn (mgS kd 0 (I 15 0 + 1) (Z 1)) ((uI I 15 0 (I 15 0 + 1)) 9 (4 * 1 + t) + 1))]), Z) := RA_u.mpr ⟨_, _, _, _, hS56, HB_e hE58 uH, RR_c (fun j hj => by rw [f6 51 j (by omega) (by omega), f7 51 j (by omega)]) hRR8, L, F, G8, o, _, rm, sr8, hP6, urm, uln⟩
      rw [hms, show rsn 1 t (mgS kd 0 (I 15 0 + 1) (Z 1)) ((uI I 15 0 (I 15 0 + 1)), Q, Z) = mapp (4 * 1 + t) (mgS kd 0 (I 15 0 + 1) (Z 1)) ((uI I 15 0 (I 15 0 + 1)), Q, Z) from if_neg u35]
      exact ⟨rfl, hA59⟩
theorem ra_ss_1 {w : Nat → Bool} {d B R : Nat} {H : List (Nat × mg)} {hb : Bool} {h : am_Hp} {I : sm_I} {Q : mQ} {Z : mZ} (hA : RA w B R H hb h (I, Q, Z)) (hR : R + 1 < 40000) {kd : Int32} {t : Nat} (ht : t < 4) (hkd : kd = 3 ∨ kd = 4) (hpk : prk I 1) (hnk : ¬ I 11 1 = -1) (h5 : sq Q + hc H hb ≤ 5) (hd : 3 ≤ d) : am_Ev (am_prog w) d 134 [.ref 62, .int 1, .int kd, .int (nI t)] h (fun r h' => r = none ∧ RA w B (R + 1) H hb h' (rss 1 kd t (I, Q, Z))) := by
  obtain ⟨K, Y, am, ln, hS, hU⟩ := RA_u.mp hA
  change sm (tbr am (13 * ln) 77 5088) h (jn I K) Y at hS
  obtain ⟨hW, hWm, -, -, hr, -⟩ := id hU.1
  have hln := RU_ln hU (by omega)
  obtain ⟨d, rfl⟩ : ∃ e, d = e + 1 := ⟨d - 1, by omega⟩
  refine ev_go rfl (Nat.le_of_ble_eq_true rfl) rfl ?_
  rcases hpk with e1 | e1 | e1
  · skip
    exact absurd e1 hnk
  · skip
    refine go_s (pc' := 1) rfl rfl rfl rfl ?_
    refine go_sget (pc' := 2) (v := .ref 82) hS rfl rfl rfl (by decide) rfl rfl ?_
    refine go_s (pc' := 3) rfl rfl rfl rfl ?_
    refine go_s (pc' := 4) rfl rfl rfl rfl ?_
    refine go_sald (pc' := 5) (q := 1) (v := .int (I 15 1)) hS rfl (tr_s hr (a := 82) rfl (by decide)) rfl rfl (by decide) rfl rfl ?_
    refine go_s (pc' := 6) (st' := [.int 1, .int (I 15 1), .int 1, .ref 82]) rfl rfl rfl rfl ?_
    refine go_s (pc' := 7) rfl rfl rfl rfl ?_
    refine go_siast (pc' := 8) (q := 1) hS rfl (tr_s hr (a := 82) rfl (by decide)) tbr_inj (Nat.le_of_ble_eq_true rfl) rfl (by decide) (by decide) (hW _ (by decide) (by decide)) rfl (fun h2 hS3 hE4 => ?_)
    refine go_s (pc' := 9) rfl rfl rfl rfl ?_
    refine go_s (pc' := 10) rfl rfl rfl rfl ?_
    refine go_sget (pc' := 11) (v := .ref 78) hS3 rfl rfl rfl (by decide) rfl rfl ?_
    refine go_s (pc' := 12) rfl rfl rfl rfl ?_
    refine go_sald (pc' := 13) (q := 1) (v := .int 2) hS3 rfl (tr_s hr (a := 78) rfl (by decide)) rfl rfl (by decide) (congrArg Value.int e1) rfl ?_
    refine go_s (pc' := 14) rfl rfl rfl rfl ?_
    refine go_s (pc' := 15) rfl rfl rfl rfl ?_
    refine go_s (pc' := 16) rfl rfl rfl rfl ?_
    change sm (tbr am (13 * ln) 77 5088) _ (uI (jn I K) 15 1 ((I 15 1) + 1)) Y at hS3
    rw [jn_lo (c := 15) (by decide)] at hS3
    have hU5 : RU w B R H hb h2 am ln K ((uI I 15 1 ((I 15 1) + 1)), Q, Z) := RU_I (hE4) (I' := (uI I 15 1 ((I 15 1) + 1))) (fun _ => rfl) (fun _ => rfl) (Nat.le_refl _) hU
    by_cases u6 : (uI I 15 1 ((I 15 1) + 1)) 0 t = 0
    · skip
      refine go_callV (pc' := 17) rfl rfl rfl (Nat.le_of_ble_eq_true rfl) rfl (sm_o hS3 rfl) rfl rfl rfl (rn_snd_0 hS3 hU5 (by omega) (f := 2) (t := t) (by decide) ht u6 (by omega)) (fun r h7 q8 => ?_)
      obtain ⟨rfl, rfl⟩ := q8
      refine go_s (pc' := 18) (lo' := [some (.ref 62), some (.int 1), some (.int kd), some (.int (nI t)), some (.int (-1)), none]) rfl rfl rfl rfl ?_
      refine go_s (pc' := 19) rfl rfl rfl rfl ?_
      refine go_s (pc' := 20) (st' := [.int (-1), .int (-1)]) rfl rfl rfl rfl ?_
      refine go_icmpP (t' := 22) (pc' := 21) rfl rfl rfl (fun (c : ¬ ((-1) : Int32) = (-1)) => absurd c (by decide)) (fun _ => ?_)
      refine go_ret rfl rfl ?_
      have hms : rss 1 kd t (I, Q, Z) = rsn 2 t (mgS kd 1 (I 15 1 + 1) (Z 2)) ((uI I 15 1 (I 15 1 + 1)), Q, Z) := by
        unfold rss
        rw [show pn (I, Q, Z).1 1 = 2 from pn_l (v := 2) e1 (by decide), show rwi (I, Q, Z).1 1 = 2 from rwi_l (v := 2) e1 (by decide)]
      have hA9 : RA w B R H hb h7 ((uI I 15 1 ((I 15 1) + 1)), Q, Z) := RA_u.mpr ⟨_, _, _, _, hS3, hU5⟩
      rw [hms, show rsn 2 t (mgS kd 1 (I 15 1 + 1) (Z 2)) ((uI I 15 1 (I 15 1 + 1)), Q, Z) = ((uI I 15 1 (I 15 1 + 1)), Q, Z) from if_pos u6]
      exact ⟨rfl, RA_R (by omega) hA9⟩
    · skip
      refine go_callV (pc' := 17) rfl rfl rfl (Nat.le_of_ble_eq_true rfl) rfl (sm_o hS3 rfl) rfl rfl rfl (rn_snd_1 hS3 hU5 (by omega) (f := 2) (t := t) (by decide) ht u6 (by omega)) (fun r h10 q11 => ?_)
      obtain ⟨x12, am12, ln12, K12, rfl, hS12, hO12⟩ := q11
      obtain ⟨hx12, hln12, hr12, hWm12⟩ := RO_x hO12 (by omega)
      have ep13 : (appI (uI I 15 1 ((I 15 1) + 1)) Q (4 * 2 + t)) 11 1 = 2 := (congrFun (appI_o (by decide) (by decide) (by decide)) 1).trans e1
      refine go_s (pc' := 18) (lo' := [some (.ref 62), some (.int 1), some (.int kd), some (.int (nI t)), some (.int (nI (13 * x12))), none]) rfl rfl rfl rfl ?_
      refine go_s (pc' := 19) rfl rfl rfl rfl ?_
      refine go_s (pc' := 20) (st' := [.int (-1), .int (nI (13 * x12))]) rfl rfl rfl rfl ?_
      refine go_icmpP (t' := 22) (pc' := 21) rfl rfl rfl (fun _ => ?_) (fun (c : ¬ (¬ (nI (13 * x12)) = (-1))) => absurd (nI_nm1 (by omega)) c)
      refine go_s (pc' := 23) rfl rfl rfl rfl ?_
      obtain ⟨uH, uR, ⟨L, F, G, o, ro, rm, sr, T, uL1, uP, uxr, urm, uln⟩, u1, u2, u3, u4⟩ := hO12
      have h5b : sq (uQ Q (4 * 2 + t) (Q (4 * 2 + t) ++ [mo0])) ≤ sq Q := by
        have z := sq_u (Q := Q) (l := (4 * 2 + t)) (q := Q (4 * 2 + t) ++ [mo0]) (by omega)
        rw [List.countP_append] at z
        have z2 : List.countP isS [mo0] = 0 := rfl
        omega
      refine go_callV (pc' := 24) rfl rfl rfl (Nat.le_of_ble_eq_true rfl) rfl (sm_o hS12 rfl) rfl rfl rfl (rn_ns hr12 hln12 hW hS12 uP (by omega) (by omega)) (fun r h15 q16 => ?_)
      obtain ⟨y, K8, G8, sr8, rfl, hS8, hE8, uP8, y1, y2, y3, y4, y5, y6⟩ := q16
      have y7 : y < 12 := by omega
      refine go_s (pc' := 25) (lo' := [some (.ref 62), some (.int 1), some (.int kd), some (.int (nI t)), some (.int (nI (13 * x12))), some (.int (nI y))]) rfl rfl rfl rfl ?_
      refine go_s (pc' := 26) rfl rfl rfl rfl ?_
      refine go_s (pc' := 27) (st' := [.int 2, .ref 62]) rfl rfl rfl rfl ?_
      refine go_s (pc' := 28) rfl rfl rfl rfl ?_
      refine go_s (pc' := 29) (st' := [.int 2, .ref 62]) rfl rfl rfl rfl ?_
      refine go_s (pc' := 30) rfl rfl rfl rfl ?_
      refine go_sget (pc' := 31) (v := .ref 78) hS8 rfl rfl rfl (by decide) rfl rfl ?_
      refine go_s (pc' := 32) rfl rfl rfl rfl ?_
      refine go_sald (pc' := 33) (q := 1) (v := .int 2) hS8 rfl (tr_s hr12 (a := 78) rfl (by decide)) rfl rfl (by decide) (congrArg Value.int ep13) rfl ?_
      refine go_s (pc' := 34) (st' := [.int 2, .int 2, .int 2, .ref 62]) rfl rfl rfl rfl ?_
      refine go_s (pc' := 35) (st' := [.int 0, .int 2, .ref 62]) rfl rfl rfl rfl ?_
      refine go_s (pc' := 36) (st' := [.int 2, .ref 62]) rfl rfl rfl rfl ?_
      refine go_s (pc' := 37) rfl rfl rfl rfl ?_
      refine go_callV (pc' := 38) rfl rfl rfl (Nat.le_of_ble_eq_true rfl) rfl (sm_o hS8 rfl) rfl rfl rfl (rs_cp hr12 hS8 hW (hW 77 (by decide) (by decide)) (f := 2) (g := y) (by decide) (by omega) (by omega) (by decide) (by omega)) (fun r h17 q18 => ?_)
      obtain ⟨rfl, hS19, hE20⟩ := q18
      have hE21 := sm_e_trans hE8 hE20
      rw [cpI_jn] at hS19
      obtain ⟨K7, e7⟩ : ∃ z, z = cpI K8 2 y 424 := ⟨_, rfl⟩
      rw [← e7] at hS19
      refine go_s (pc' := 39) rfl rfl rfl rfl ?_
      refine go_sget (pc' := 40) (v := .ref am12) hS19 rfl rfl rfl (by decide) rfl rfl ?_
      refine go_s (pc' := 41) rfl rfl rfl rfl ?_
      refine go_s (pc' := 42) (st' := [.int 6, .int (nI (13 * x12)), .ref am12]) rfl rfl rfl rfl ?_
      refine go_nadd (pc' := 43) (a := (13 * x12)) (b := 6) rfl rfl rfl rfl rfl ?_
      refine go_s (pc' := 44) rfl rfl rfl rfl ?_
      refine go_sget (pc' := 45) (v := .ref 82) hS19 rfl rfl rfl (by decide) rfl rfl ?_
      refine go_s (pc' := 46) rfl rfl rfl rfl ?_
      refine go_sald (pc' := 47) (q := 1) (v := .int ((appI (uI I 15 1 ((I 15 1) + 1)) Q (4 * 2 + t)) 15 1)) hS19 rfl (tr_s hr12 (a := 82) rfl (by decide)) rfl rfl (by decide) rfl rfl ?_
      refine go_siast (pc' := 48) (q := ((13 * x12) + 6)) hS19 rfl (tr_ms hr12 (by omega)) tbr_inj (Nat.le_of_ble_eq_true rfl) rfl (by omega) (rk_0 hr12).1 hWm12 rfl (fun h22 hS23 hE24 => ?_)
      have hE25 := sm_e_trans hE21 hE24
      refine go_s (pc' := 49) rfl rfl rfl rfl ?_
      refine go_sget (pc' := 50) (v := .ref am12) hS23 rfl rfl rfl (by decide) rfl rfl ?_
      refine go_s (pc' := 51) rfl rfl rfl rfl ?_
      refine go_s (pc' := 52) (st' := [.int 12, .int (nI (13 * x12)), .ref am12]) rfl rfl rfl rfl ?_
      refine go_nadd (pc' := 53) (a := (13 * x12)) (b := 12) rfl rfl rfl rfl rfl ?_
      refine go_s (pc' := 54) rfl rfl rfl rfl ?_
      refine go_siast (pc' := 55) (q := ((13 * x12) + 12)) hS23 rfl (tr_ms hr12 (by omega)) tbr_inj (Nat.le_of_ble_eq_true rfl) rfl (by omega) (rk_0 hr12).1 hWm12 rfl (fun h26 hS27 hE28 => ?_)
      have hE29 := sm_e_trans hE25 hE28
      refine go_ret rfl rfl ?_
      have hms : rss 1 kd t (I, Q, Z) = rsn 2 t (mgS kd 1 (I 15 1 + 1) (Z 2)) ((uI I 15 1 (I 15 1 + 1)), Q, Z) := by
        unfold rss
        rw [show pn (I, Q, Z).1 1 = 2 from pn_l (v := 2) e1 (by decide), show rwi (I, Q, Z).1 1 = 2 from rwi_l (v := 2) e1 (by decide)]
      change sm (tbr am12 (13 * ln12) 77 5088) _ (uI (uI (jn (appI (uI I 15 1 ((I 15 1) + 1)) Q (4 * 2 + t)) K7) 50 ((13 * x12) + 6) ((appI (uI I 15 1 ((I 15 1) + 1)) Q (4 * 2 + t)) 15 1)) 50 ((13 * x12) + 12) (nI y)) Y at hS27
      rw [jn_hi (c := 50) (by decide), jn_hi (c := 50) (by decide)] at hS27
      obtain ⟨K6, e6⟩ : ∃ z, z = (uI (uI K7 50 ((13 * x12) + 6) ((appI (uI I 15 1 ((I 15 1) + 1)) Q (4 * 2 + t)) 15 1)) 50 ((13 * x12) + 12) (nI y)) := ⟨_, rfl⟩
      rw [← e6] at hS27
      have f6 : ∀ c j, 50 ≤ c → ¬ (c = 50 ∧ (j = 13 * x12 + 6 ∨ j = 13 * x12 + 12)) → K6 c j = K7 c j := fun c j _ hc => by
        rw [e6]
        simp only [uI]
        rw [if_neg (by omega), if_neg (by omega)]
      have f7 : ∀ c j, ¬ (c = 51 ∧ 424 * y ≤ j ∧ j < 424 * y + 424) → K7 c j = K8 c j := fun c j hc => by
        rw [e7]
        exact cpI_r (Nat.le_refl _) c j hc
      have g6 : K6 50 (13 * x12 + 6) = I 15 1 + 1 := by
        rw [e6]
        (repeat (first | rw [uI_e (by omega)] | rw [uI_j (by omega)])) <;> first | rfl | exact congrFun (appI_o (by decide) (by decide) (by decide)) _
      have g12 : K6 50 (13 * x12 + 12) = nI y := by
        rw [e6]
        rw [uI_e (by omega)]
      have hRR8 : RR K8 Z := RR_c (fun j _ => y6 51 j (by decide)) uR
      have hz7 : RZ K7 (decide (2 < 2)) y (Z 2) := by
        rw [e7]
        exact RZ_cp (hRR8 2 (by decide))
      have hz6 : RZ K6 (decide (2 < 2)) y (Z 2) := RZ_c (fun j hj => f6 51 _ (by omega) (by omega)) hz7
      have hkS : isS (mgn (mgS kd 1 (I 15 1 + 1) (Z 2)) ((uI I 15 1 (I 15 1 + 1)) 9 (4 * 2 + t) + 1)) = true := by
        rcases hkd with rfl | rfl <;> rfl
      have hmw : mwn kd = 1 := by
        rcases hkd with rfl | rfl <;> rfl
      have e50 : ∀ j, j ≠ 13 * x12 + 6 → j ≠ 13 * x12 + 12 → K6 50 j = K12 50 j := fun j j1 j2 => by rw [f6 50 j (by omega) (by omega), f7 50 j (by omega), y6 50 j (by decide)]
      have hMS : MS K6 (owx ro y (x12 + 1)) x12 (mgn (mgS kd 1 (I 15 1 + 1) (Z 2)) ((uI I 15 1 (I 15 1 + 1)) 9 (4 * 2 + t) + 1)) := by
        refine ⟨?_, ?_, ?_, fun i hi => ?_, (fun z => by rw [hkS] at z; cases z), fun _ => ⟨y, y2, y7, g12, owx_s, ?_⟩⟩
        · rw [e50 _ (by omega) (by omega)]; exact u1
        · rw [e50 _ (by omega) (by omega)]; exact u2
        · rw [e50 _ (by omega) (by omega)]; exact u3
        · have hi2 : i < 1 := by
            have z : i < mwn kd := hi
            omega
          match i, hi2 with
          | 0, _ => exact g6
        · exact hz6
      have hP6 := RP_closeS (m := (mgn (mgS kd 1 (I 15 1 + 1) (Z 2)) ((uI I 15 1 (I 15 1 + 1)) 9 (4 * 2 + t) + 1))) (K' := K6) (by omega) uP8 uL1 mo0_s hkS y1 y2 y3 y5 (fun c j c1 c2 c3 => by rw [f6 c j c1 (by omega), f7 c j c3]) hMS
      have hA30 : RA w B (R + 1) H hb h26 (appI (uI I 15 1 (I 15 1 + 1)) Q (4 * 2 + t), uQ Q (4 * 2 + t) (Q (4 * 2 + t) ++ [(mgn (mgS kd 1 (I 15 1 + 1) (Z 2)) ((uI I 15 1 (I 15 1 + 1)) 9 (4 * 2 + t) + 1))]), Z) := RA_u.mpr ⟨_, _, _, _, hS27, HB_e hE29 uH, RR_c (fun j hj => by rw [f6 51 j (by omega) (by omega), f7 51 j (by omega)]) hRR8, L, F, G8, o, _, rm, sr8, hP6, urm, uln⟩
      rw [hms, show rsn 2 t (mgS kd 1 (I 15 1 + 1) (Z 2)) ((uI I 15 1 (I 15 1 + 1)), Q, Z) = mapp (4 * 2 + t) (mgS kd 1 (I 15 1 + 1) (Z 2)) ((uI I 15 1 (I 15 1 + 1)), Q, Z) from if_neg u6]
      exact ⟨rfl, hA30⟩
  · skip
    refine go_s (pc' := 1) rfl rfl rfl rfl ?_
    refine go_sget (pc' := 2) (v := .ref 82) hS rfl rfl rfl (by decide) rfl rfl ?_
    refine go_s (pc' := 3) rfl rfl rfl rfl ?_
    refine go_s (pc' := 4) rfl rfl rfl rfl ?_
    refine go_sald (pc' := 5) (q := 1) (v := .int (I 15 1)) hS rfl (tr_s hr (a := 82) rfl (by decide)) rfl rfl (by decide) rfl rfl ?_
    refine go_s (pc' := 6) (st' := [.int 1, .int (I 15 1), .int 1, .ref 82]) rfl rfl rfl rfl ?_
    refine go_s (pc' := 7) rfl rfl rfl rfl ?_
    refine go_siast (pc' := 8) (q := 1) hS rfl (tr_s hr (a := 82) rfl (by decide)) tbr_inj (Nat.le_of_ble_eq_true rfl) rfl (by decide) (by decide) (hW _ (by decide) (by decide)) rfl (fun h31 hS32 hE33 => ?_)
    refine go_s (pc' := 9) rfl rfl rfl rfl ?_
    refine go_s (pc' := 10) rfl rfl rfl rfl ?_
    refine go_sget (pc' := 11) (v := .ref 78) hS32 rfl rfl rfl (by decide) rfl rfl ?_
    refine go_s (pc' := 12) rfl rfl rfl rfl ?_
    refine go_sald (pc' := 13) (q := 1) (v := .int 3) hS32 rfl (tr_s hr (a := 78) rfl (by decide)) rfl rfl (by decide) (congrArg Value.int e1) rfl ?_
    refine go_s (pc' := 14) rfl rfl rfl rfl ?_
    refine go_s (pc' := 15) rfl rfl rfl rfl ?_
    refine go_s (pc' := 16) rfl rfl rfl rfl ?_
    change sm (tbr am (13 * ln) 77 5088) _ (uI (jn I K) 15 1 ((I 15 1) + 1)) Y at hS32
    rw [jn_lo (c := 15) (by decide)] at hS32
    have hU34 : RU w B R H hb h31 am ln K ((uI I 15 1 ((I 15 1) + 1)), Q, Z) := RU_I (hE33) (I' := (uI I 15 1 ((I 15 1) + 1))) (fun _ => rfl) (fun _ => rfl) (Nat.le_refl _) hU
    by_cases u35 : (uI I 15 1 ((I 15 1) + 1)) 0 t = 0
    · skip
      refine go_callV (pc' := 17) rfl rfl rfl (Nat.le_of_ble_eq_true rfl) rfl (sm_o hS32 rfl) rfl rfl rfl (rn_snd_0 hS32 hU34 (by omega) (f := 3) (t := t) (by decide) ht u35 (by omega)) (fun r h36 q37 => ?_)
      obtain ⟨rfl, rfl⟩ := q37
      refine go_s (pc' := 18) (lo' := [some (.ref 62), some (.int 1), some (.int kd), some (.int (nI t)), some (.int (-1)), none]) rfl rfl rfl rfl ?_
      refine go_s (pc' := 19) rfl rfl rfl rfl ?_
      refine go_s (pc' := 20) (st' := [.int (-1), .int (-1)]) rfl rfl rfl rfl ?_
      refine go_icmpP (t' := 22) (pc' := 21) rfl rfl rfl (fun (c : ¬ ((-1) : Int32) = (-1)) => absurd c (by decide)) (fun _ => ?_)
      refine go_ret rfl rfl ?_
      have hms : rss 1 kd t (I, Q, Z) = rsn 3 t (mgS kd 1 (I 15 1 + 1) (Z 3)) ((uI I 15 1 (I 15 1 + 1)), Q, Z) := by
        unfold rss
        rw [show pn (I, Q, Z).1 1 = 3 from pn_l (v := 3) e1 (by decide), show rwi (I, Q, Z).1 1 = 3 from rwi_l (v := 3) e1 (by decide)]
      have hA38 : RA w B R H hb h36 ((uI I 15 1 ((I 15 1) + 1)), Q, Z) := RA_u.mpr ⟨_, _, _, _, hS32, hU34⟩
      rw [hms, show rsn 3 t (mgS kd 1 (I 15 1 + 1) (Z 3)) ((uI I 15 1 (I 15 1 + 1)), Q, Z) = ((uI I 15 1 (I 15 1 + 1)), Q, Z) from if_pos u35]
      exact ⟨rfl, RA_R (by omega) hA38⟩
    · skip
      refine go_callV (pc' := 17) rfl rfl rfl (Nat.le_of_ble_eq_true rfl) rfl (sm_o hS32 rfl) rfl rfl rfl (rn_snd_1 hS32 hU34 (by omega) (f := 3) (t := t) (by decide) ht u35 (by omega)) (fun r h39 q40 => ?_)
      obtain ⟨x41, am41, ln41, K41, rfl, hS41, hO41⟩ := q40
      obtain ⟨hx41, hln41, hr41, hWm41⟩ := RO_x hO41 (by omega)
      have ep42 : (appI (uI I 15 1 ((I 15 1) + 1)) Q (4 * 3 + t)) 11 1 = 3 := (congrFun (appI_o (by decide) (by decide) (by decide)) 1).trans e1
      refine go_s (pc' := 18) (lo' := [some (.ref 62), some (.int 1), some (.int kd), some (.int (nI t)), some (.int (nI (13 * x41))), none]) rfl rfl rfl rfl ?_
      refine go_s (pc' := 19) rfl rfl rfl rfl ?_
      refine go_s (pc' := 20) (st' := [.int (-1), .int (nI (13 * x41))]) rfl rfl rfl rfl ?_
      refine go_icmpP (t' := 22) (pc' := 21) rfl rfl rfl (fun _ => ?_) (fun (c : ¬ (¬ (nI (13 * x41)) = (-1))) => absurd (nI_nm1 (by omega)) c)
      refine go_s (pc' := 23) rfl rfl rfl rfl ?_
      obtain ⟨uH, uR, ⟨L, F, G, o, ro, rm, sr, T, uL1, uP, uxr, urm, uln⟩, u1, u2, u3, u4⟩ := hO41
      have h5b : sq (uQ Q (4 * 3 + t) (Q (4 * 3 + t) ++ [mo0])) ≤ sq Q := by
        have z := sq_u (Q := Q) (l := (4 * 3 + t)) (q := Q (4 * 3 + t) ++ [mo0]) (by omega)
        rw [List.countP_append] at z
        have z2 : List.countP isS [mo0] = 0 := rfl
        omega
      refine go_callV (pc' := 24) rfl rfl rfl (Nat.le_of_ble_eq_true rfl) rfl (sm_o hS41 rfl) rfl rfl rfl (rn_ns hr41 hln41 hW hS41 uP (by omega) (by omega)) (fun r h44 q45 => ?_)
      obtain ⟨y, K8, G8, sr8, rfl, hS8, hE8, uP8, y1, y2, y3, y4, y5, y6⟩ := q45
      have y7 : y < 12 := by omega
      refine go_s (pc' := 25) (lo' := [some (.ref 62), some (.int 1), some (.int kd), some (.int (nI t)), some (.int (nI (13 * x41))), some (.int (nI y))]) rfl rfl rfl rfl ?_
      refine go_s (pc' := 26) rfl rfl rfl rfl ?_
      refine go_s (pc' := 27) (st' := [.int 2, .ref 62]) rfl rfl rfl rfl ?_
      refine go_s (pc' := 28) rfl rfl rfl rfl ?_
      refine go_s (pc' := 29) (st' := [.int 2, .ref 62]) rfl rfl rfl rfl ?_
      refine go_s (pc' := 30) rfl rfl rfl rfl ?_
      refine go_sget (pc' := 31) (v := .ref 78) hS8 rfl rfl rfl (by decide) rfl rfl ?_
      refine go_s (pc' := 32) rfl rfl rfl rfl ?_
      refine go_sald (pc' := 33) (q := 1) (v := .int 3) hS8 rfl (tr_s hr41 (a := 78) rfl (by decide)) rfl rfl (by decide) (congrArg Value.int ep42) rfl ?_
      refine go_s (pc' := 34) (st' := [.int 2, .int 3, .int 2, .ref 62]) rfl rfl rfl rfl ?_
      refine go_s (pc' := 35) (st' := [.int 1, .int 2, .ref 62]) rfl rfl rfl rfl ?_
      refine go_s (pc' := 36) (st' := [.int 3, .ref 62]) rfl rfl rfl rfl ?_
      refine go_s (pc' := 37) rfl rfl rfl rfl ?_
      refine go_callV (pc' := 38) rfl rfl rfl (Nat.le_of_ble_eq_true rfl) rfl (sm_o hS8 rfl) rfl rfl rfl (rs_cp hr41 hS8 hW (hW 77 (by decide) (by decide)) (f := 3) (g := y) (by decide) (by omega) (by omega) (by decide) (by omega)) (fun r h46 q47 => ?_)
      obtain ⟨rfl, hS48, hE49⟩ := q47
      have hE50 := sm_e_trans hE8 hE49
      rw [cpI_jn] at hS48
      obtain ⟨K7, e7⟩ : ∃ z, z = cpI K8 3 y 424 := ⟨_, rfl⟩
      rw [← e7] at hS48
      refine go_s (pc' := 39) rfl rfl rfl rfl ?_
      refine go_sget (pc' := 40) (v := .ref am41) hS48 rfl rfl rfl (by decide) rfl rfl ?_
      refine go_s (pc' := 41) rfl rfl rfl rfl ?_
      refine go_s (pc' := 42) (st' := [.int 6, .int (nI (13 * x41)), .ref am41]) rfl rfl rfl rfl ?_
      refine go_nadd (pc' := 43) (a := (13 * x41)) (b := 6) rfl rfl rfl rfl rfl ?_
      refine go_s (pc' := 44) rfl rfl rfl rfl ?_
      refine go_sget (pc' := 45) (v := .ref 82) hS48 rfl rfl rfl (by decide) rfl rfl ?_
      refine go_s (pc' := 46) rfl rfl rfl rfl ?_
      refine go_sald (pc' := 47) (q := 1) (v := .int ((appI (uI I 15 1 ((I 15 1) + 1)) Q (4 * 3 + t)) 15 1)) hS48 rfl (tr_s hr41 (a := 82) rfl (by decide)) rfl rfl (by decide) rfl rfl ?_
      refine go_siast (pc' := 48) (q := ((13 * x41) + 6)) hS48 rfl (tr_ms hr41 (by omega)) tbr_inj (Nat.le_of_ble_eq_true rfl) rfl (by omega) (rk_0 hr41).1 hWm41 rfl (fun h51 hS52 hE53 => ?_)
      have hE54 := sm_e_trans hE50 hE53
      refine go_s (pc' := 49) rfl rfl rfl rfl ?_
      refine go_sget (pc' := 50) (v := .ref am41) hS52 rfl rfl rfl (by decide) rfl rfl ?_
      refine go_s (pc' := 51) rfl rfl rfl rfl ?_
      refine go_s (pc' := 52) (st' := [.int 12, .int (nI (13 * x41)), .ref am41]) rfl rfl rfl rfl ?_
      refine go_nadd (pc' := 53) (a := (13 * x41)) (b := 12) rfl rfl rfl rfl rfl ?_
      refine go_s (pc' := 54) rfl rfl rfl rfl ?_
      refine go_siast (pc' := 55) (q := ((13 * x41) + 12)) hS52 rfl (tr_ms hr41 (by omega)) tbr_inj (Nat.le_of_ble_eq_true rfl) rfl (by omega) (rk_0 hr41).1 hWm41 rfl (fun h55 hS56 hE57 => ?_)
      have hE58 := sm_e_trans hE54 hE57
      refine go_ret rfl rfl ?_
      have hms : rss 1 kd t (I, Q, Z) = rsn 3 t (mgS kd 1 (I 15 1 + 1) (Z 3)) ((uI I 15 1 (I 15 1 + 1)), Q, Z) := by
        unfold rss
        rw [show pn (I, Q, Z).1 1 = 3 from pn_l (v := 3) e1 (by decide), show rwi (I, Q, Z).1 1 = 3 from rwi_l (v := 3) e1 (by decide)]
      change sm (tbr am41 (13 * ln41) 77 5088) _ (uI (uI (jn (appI (uI I 15 1 ((I 15 1) + 1)) Q (4 * 3 + t)) K7) 50 ((13 * x41) + 6) ((appI (uI I 15 1 ((I 15 1) + 1)) Q (4 * 3 + t)) 15 1)) 50 ((13 * x41) + 12) (nI y)) Y at hS56
      rw [jn_hi (c := 50) (by decide), jn_hi (c := 50) (by decide)] at hS56
      obtain ⟨K6, e6⟩ : ∃ z, z = (uI (uI K7 50 ((13 * x41) + 6) ((appI (uI I 15 1 ((I 15 1) + 1)) Q (4 * 3 + t)) 15 1)) 50 ((13 * x41) + 12) (nI y)) := ⟨_, rfl⟩
      rw [← e6] at hS56
      have f6 : ∀ c j, 50 ≤ c → ¬ (c = 50 ∧ (j = 13 * x41 + 6 ∨ j = 13 * x41 + 12)) → K6 c j = K7 c j := fun c j _ hc => by
        rw [e6]
        simp only [uI]
        rw [if_neg (by omega), if_neg (by omega)]
      have f7 : ∀ c j, ¬ (c = 51 ∧ 424 * y ≤ j ∧ j < 424 * y + 424) → K7 c j = K8 c j := fun c j hc => by
        rw [e7]
        exact cpI_r (Nat.le_refl _) c j hc
      have g6 : K6 50 (13 * x41 + 6) = I 15 1 + 1 := by
        rw [e6]
        (repeat (first | rw [uI_e (by omega)] | rw [uI_j (by omega)])) <;> first | rfl | exact congrFun (appI_o (by decide) (by decide) (by decide)) _
      have g12 : K6 50 (13 * x41 + 12) = nI y := by
        rw [e6]
        rw [uI_e (by omega)]
      have hRR8 : RR K8 Z := RR_c (fun j _ => y6 51 j (by decide)) uR
      have hz7 : RZ K7 (decide (3 < 2)) y (Z 3) := by
        rw [e7]
        exact RZ_cp (hRR8 3 (by decide))
      have hz6 : RZ K6 (decide (3 < 2)) y (Z 3) := RZ_c (fun j hj => f6 51 _ (by omega) (by omega)) hz7
      have hkS : isS (mgn (mgS kd 1 (I 15 1 + 1) (Z 3)) ((uI I 15 1 (I 15 1 + 1)) 9 (4 * 3 + t) + 1)) = true := by
        rcases hkd with rfl | rfl <;> rfl
      have hmw : mwn kd = 1 := by
        rcases hkd with rfl | rfl <;> rfl
      have e50 : ∀ j, j ≠ 13 * x41 + 6 → j ≠ 13 * x41 + 12 → K6 50 j = K41 50 j := fun j j1 j2 => by rw [f6 50 j (by omega) (by omega), f7 50 j (by omega), y6 50 j (by decide)]
      have hMS : MS K6 (owx ro y (x41 + 1)) x41 (mgn (mgS kd 1 (I 15 1 + 1) (Z 3)) ((uI I 15 1 (I 15 1 + 1)) 9 (4 * 3 + t) + 1)) := by
        refine ⟨?_, ?_, ?_, fun i hi => ?_, (fun z => by rw [hkS] at z; cases z), fun _ => ⟨y, y2, y7, g12, owx_s, ?_⟩⟩
        · rw [e50 _ (by omega) (by omega)]; exact u1
        · rw [e50 _ (by omega) (by omega)]; exact u2
        · rw [e50 _ (by omega) (by omega)]; exact u3
        · have hi2 : i < 1 := by
            have z : i < mwn kd := hi
            omega
          match i, hi2 with
          | 0, _ => exact g6
        · exact hz6
      have hP6 := RP_closeS (m := (mgn (mgS kd 1 (I 15 1 + 1) (Z 3)) ((uI I 15 1 (I 15 1 + 1)) 9 (4 * 3 + t) + 1))) (K' := K6) (by omega) uP8 uL1 mo0_s hkS y1 y2 y3 y5 (fun c j c1 c2 c3 => by rw [f6 c j c1 (by omega), f7 c j c3]) hMS
      have hA59 : RA w B (R + 1) H hb h55 (appI (uI I 15 1 (I 15 1 + 1)) Q (4 * 3 + t), uQ Q (4 * 3 + t) (Q (4 * 3 + t) ++ [(mgn (mgS kd 1 (I 15 1 + 1) (Z 3)) ((uI I 15 1 (I 15 1 + 1)) 9 (4 * 3 + t) + 1))]), Z) := RA_u.mpr ⟨_, _, _, _, hS56, HB_e hE58 uH, RR_c (fun j hj => by rw [f6 51 j (by omega) (by omega), f7 51 j (by omega)]) hRR8, L, F, G8, o, _, rm, sr8, hP6, urm, uln⟩
      rw [hms, show rsn 3 t (mgS kd 1 (I 15 1 + 1) (Z 3)) ((uI I 15 1 (I 15 1 + 1)), Q, Z) = mapp (4 * 3 + t) (mgS kd 1 (I 15 1 + 1) (Z 3)) ((uI I 15 1 (I 15 1 + 1)), Q, Z) from if_neg u35]
      exact ⟨rfl, hA59⟩
theorem ra_ss_2 {w : Nat → Bool} {d B R : Nat} {H : List (Nat × mg)} {hb : Bool} {h : am_Hp} {I : sm_I} {Q : mQ} {Z : mZ} (hA : RA w B R H hb h (I, Q, Z)) (hR : R + 1 < 40000) {kd : Int32} {t : Nat} (ht : t < 4) (hkd : kd = 3 ∨ kd = 4) (hpk : prk I 2) (hnk : ¬ I 11 2 = -1) (h5 : sq Q + hc H hb ≤ 5) (hd : 3 ≤ d) : am_Ev (am_prog w) d 134 [.ref 62, .int 2, .int kd, .int (nI t)] h (fun r h' => r = none ∧ RA w B (R + 1) H hb h' (rss 2 kd t (I, Q, Z))) := by
  obtain ⟨K, Y, am, ln, hS, hU⟩ := RA_u.mp hA
  change sm (tbr am (13 * ln) 77 5088) h (jn I K) Y at hS
  obtain ⟨hW, hWm, -, -, hr, -⟩ := id hU.1
  have hln := RU_ln hU (by omega)
  obtain ⟨d, rfl⟩ : ∃ e, d = e + 1 := ⟨d - 1, by omega⟩
  refine ev_go rfl (Nat.le_of_ble_eq_true rfl) rfl ?_
  rcases hpk with e1 | e1 | e1
  · skip
    exact absurd e1 hnk
  · skip
    refine go_s (pc' := 1) rfl rfl rfl rfl ?_
    refine go_sget (pc' := 2) (v := .ref 82) hS rfl rfl rfl (by decide) rfl rfl ?_
    refine go_s (pc' := 3) rfl rfl rfl rfl ?_
    refine go_s (pc' := 4) rfl rfl rfl rfl ?_
    refine go_sald (pc' := 5) (q := 2) (v := .int (I 15 2)) hS rfl (tr_s hr (a := 82) rfl (by decide)) rfl rfl (by decide) rfl rfl ?_
    refine go_s (pc' := 6) (st' := [.int 1, .int (I 15 2), .int 2, .ref 82]) rfl rfl rfl rfl ?_
    refine go_s (pc' := 7) rfl rfl rfl rfl ?_
    refine go_siast (pc' := 8) (q := 2) hS rfl (tr_s hr (a := 82) rfl (by decide)) tbr_inj (Nat.le_of_ble_eq_true rfl) rfl (by decide) (by decide) (hW _ (by decide) (by decide)) rfl (fun h2 hS3 hE4 => ?_)
    refine go_s (pc' := 9) rfl rfl rfl rfl ?_
    refine go_s (pc' := 10) rfl rfl rfl rfl ?_
    refine go_sget (pc' := 11) (v := .ref 78) hS3 rfl rfl rfl (by decide) rfl rfl ?_
    refine go_s (pc' := 12) rfl rfl rfl rfl ?_
    refine go_sald (pc' := 13) (q := 2) (v := .int 2) hS3 rfl (tr_s hr (a := 78) rfl (by decide)) rfl rfl (by decide) (congrArg Value.int e1) rfl ?_
    refine go_s (pc' := 14) rfl rfl rfl rfl ?_
    refine go_s (pc' := 15) rfl rfl rfl rfl ?_
    refine go_s (pc' := 16) rfl rfl rfl rfl ?_
    change sm (tbr am (13 * ln) 77 5088) _ (uI (jn I K) 15 2 ((I 15 2) + 1)) Y at hS3
    rw [jn_lo (c := 15) (by decide)] at hS3
    have hU5 : RU w B R H hb h2 am ln K ((uI I 15 2 ((I 15 2) + 1)), Q, Z) := RU_I (hE4) (I' := (uI I 15 2 ((I 15 2) + 1))) (fun _ => rfl) (fun _ => rfl) (Nat.le_refl _) hU
    by_cases u6 : (uI I 15 2 ((I 15 2) + 1)) 0 t = 0
    · skip
      refine go_callV (pc' := 17) rfl rfl rfl (Nat.le_of_ble_eq_true rfl) rfl (sm_o hS3 rfl) rfl rfl rfl (rn_snd_0 hS3 hU5 (by omega) (f := 2) (t := t) (by decide) ht u6 (by omega)) (fun r h7 q8 => ?_)
      obtain ⟨rfl, rfl⟩ := q8
      refine go_s (pc' := 18) (lo' := [some (.ref 62), some (.int 2), some (.int kd), some (.int (nI t)), some (.int (-1)), none]) rfl rfl rfl rfl ?_
      refine go_s (pc' := 19) rfl rfl rfl rfl ?_
      refine go_s (pc' := 20) (st' := [.int (-1), .int (-1)]) rfl rfl rfl rfl ?_
      refine go_icmpP (t' := 22) (pc' := 21) rfl rfl rfl (fun (c : ¬ ((-1) : Int32) = (-1)) => absurd c (by decide)) (fun _ => ?_)
      refine go_ret rfl rfl ?_
      have hms : rss 2 kd t (I, Q, Z) = rsn 2 t (mgS kd 2 (I 15 2 + 1) (Z 4)) ((uI I 15 2 (I 15 2 + 1)), Q, Z) := by
        unfold rss
        rw [show pn (I, Q, Z).1 2 = 2 from pn_l (v := 2) e1 (by decide), show rwi (I, Q, Z).1 2 = 4 from rwi_l (v := 2) e1 (by decide)]
      have hA9 : RA w B R H hb h7 ((uI I 15 2 ((I 15 2) + 1)), Q, Z) := RA_u.mpr ⟨_, _, _, _, hS3, hU5⟩
      rw [hms, show rsn 2 t (mgS kd 2 (I 15 2 + 1) (Z 4)) ((uI I 15 2 (I 15 2 + 1)), Q, Z) = ((uI I 15 2 (I 15 2 + 1)), Q, Z) from if_pos u6]
      exact ⟨rfl, RA_R (by omega) hA9⟩
    · skip
      refine go_callV (pc' := 17) rfl rfl rfl (Nat.le_of_ble_eq_true rfl) rfl (sm_o hS3 rfl) rfl rfl rfl (rn_snd_1 hS3 hU5 (by omega) (f := 2) (t := t) (by decide) ht u6 (by omega)) (fun r h10 q11 => ?_)
      obtain ⟨x12, am12, ln12, K12, rfl, hS12, hO12⟩ := q11
      obtain ⟨hx12, hln12, hr12, hWm12⟩ := RO_x hO12 (by omega)
      have ep13 : (appI (uI I 15 2 ((I 15 2) + 1)) Q (4 * 2 + t)) 11 2 = 2 := (congrFun (appI_o (by decide) (by decide) (by decide)) 2).trans e1
      refine go_s (pc' := 18) (lo' := [some (.ref 62), some (.int 2), some (.int kd), some (.int (nI t)), some (.int (nI (13 * x12))), none]) rfl rfl rfl rfl ?_
      refine go_s (pc' := 19) rfl rfl rfl rfl ?_
      refine go_s (pc' := 20) (st' := [.int (-1), .int (nI (13 * x12))]) rfl rfl rfl rfl ?_
      refine go_icmpP (t' := 22) (pc' := 21) rfl rfl rfl (fun _ => ?_) (fun (c : ¬ (¬ (nI (13 * x12)) = (-1))) => absurd (nI_nm1 (by omega)) c)
      refine go_s (pc' := 23) rfl rfl rfl rfl ?_
      obtain ⟨uH, uR, ⟨L, F, G, o, ro, rm, sr, T, uL1, uP, uxr, urm, uln⟩, u1, u2, u3, u4⟩ := hO12
      have h5b : sq (uQ Q (4 * 2 + t) (Q (4 * 2 + t) ++ [mo0])) ≤ sq Q := by
        have z := sq_u (Q := Q) (l := (4 * 2 + t)) (q := Q (4 * 2 + t) ++ [mo0]) (by omega)
        rw [List.countP_append] at z
        have z2 : List.countP isS [mo0] = 0 := rfl
        omega
      refine go_callV (pc' := 24) rfl rfl rfl (Nat.le_of_ble_eq_true rfl) rfl (sm_o hS12 rfl) rfl rfl rfl (rn_ns hr12 hln12 hW hS12 uP (by omega) (by omega)) (fun r h15 q16 => ?_)
      obtain ⟨y, K8, G8, sr8, rfl, hS8, hE8, uP8, y1, y2, y3, y4, y5, y6⟩ := q16
      have y7 : y < 12 := by omega
      refine go_s (pc' := 25) (lo' := [some (.ref 62), some (.int 2), some (.int kd), some (.int (nI t)), some (.int (nI (13 * x12))), some (.int (nI y))]) rfl rfl rfl rfl ?_
      refine go_s (pc' := 26) rfl rfl rfl rfl ?_
      refine go_s (pc' := 27) (st' := [.int 2, .ref 62]) rfl rfl rfl rfl ?_
      refine go_s (pc' := 28) rfl rfl rfl rfl ?_
      refine go_s (pc' := 29) (st' := [.int 4, .ref 62]) rfl rfl rfl rfl ?_
      refine go_s (pc' := 30) rfl rfl rfl rfl ?_
      refine go_sget (pc' := 31) (v := .ref 78) hS8 rfl rfl rfl (by decide) rfl rfl ?_
      refine go_s (pc' := 32) rfl rfl rfl rfl ?_
      refine go_sald (pc' := 33) (q := 2) (v := .int 2) hS8 rfl (tr_s hr12 (a := 78) rfl (by decide)) rfl rfl (by decide) (congrArg Value.int ep13) rfl ?_
      refine go_s (pc' := 34) (st' := [.int 2, .int 2, .int 4, .ref 62]) rfl rfl rfl rfl ?_
      refine go_s (pc' := 35) (st' := [.int 0, .int 4, .ref 62]) rfl rfl rfl rfl ?_
      refine go_s (pc' := 36) (st' := [.int 4, .ref 62]) rfl rfl rfl rfl ?_
      refine go_s (pc' := 37) rfl rfl rfl rfl ?_
      refine go_callV (pc' := 38) rfl rfl rfl (Nat.le_of_ble_eq_true rfl) rfl (sm_o hS8 rfl) rfl rfl rfl (rs_cp hr12 hS8 hW (hW 77 (by decide) (by decide)) (f := 4) (g := y) (by decide) (by omega) (by omega) (by decide) (by omega)) (fun r h17 q18 => ?_)
      obtain ⟨rfl, hS19, hE20⟩ := q18
      have hE21 := sm_e_trans hE8 hE20
      rw [cpI_jn] at hS19
      obtain ⟨K7, e7⟩ : ∃ z, z = cpI K8 4 y 424 := ⟨_, rfl⟩
      rw [← e7] at hS19
      refine go_s (pc' := 39) rfl rfl rfl rfl ?_
      refine go_sget (pc' := 40) (v := .ref am12) hS19 rfl rfl rfl (by decide) rfl rfl ?_
      refine go_s (pc' := 41) rfl rfl rfl rfl ?_
      refine go_s (pc' := 42) (st' := [.int 6, .int (nI (13 * x12)), .ref am12]) rfl rfl rfl rfl ?_
      refine go_nadd (pc' := 43) (a := (13 * x12)) (b := 6) rfl rfl rfl rfl rfl ?_
      refine go_s (pc' := 44) rfl rfl rfl rfl ?_
      refine go_sget (pc' := 45) (v := .ref 82) hS19 rfl rfl rfl (by decide) rfl rfl ?_
      refine go_s (pc' := 46) rfl rfl rfl rfl ?_
      refine go_sald (pc' := 47) (q := 2) (v := .int ((appI (uI I 15 2 ((I 15 2) + 1)) Q (4 * 2 + t)) 15 2)) hS19 rfl (tr_s hr12 (a := 82) rfl (by decide)) rfl rfl (by decide) rfl rfl ?_
      refine go_siast (pc' := 48) (q := ((13 * x12) + 6)) hS19 rfl (tr_ms hr12 (by omega)) tbr_inj (Nat.le_of_ble_eq_true rfl) rfl (by omega) (rk_0 hr12).1 hWm12 rfl (fun h22 hS23 hE24 => ?_)
      have hE25 := sm_e_trans hE21 hE24
      refine go_s (pc' := 49) rfl rfl rfl rfl ?_
      refine go_sget (pc' := 50) (v := .ref am12) hS23 rfl rfl rfl (by decide) rfl rfl ?_
      refine go_s (pc' := 51) rfl rfl rfl rfl ?_
      refine go_s (pc' := 52) (st' := [.int 12, .int (nI (13 * x12)), .ref am12]) rfl rfl rfl rfl ?_
      refine go_nadd (pc' := 53) (a := (13 * x12)) (b := 12) rfl rfl rfl rfl rfl ?_
      refine go_s (pc' := 54) rfl rfl rfl rfl ?_
      refine go_siast (pc' := 55) (q := ((13 * x12) + 12)) hS23 rfl (tr_ms hr12 (by omega)) tbr_inj (Nat.le_of_ble_eq_true rfl) rfl (by omega) (rk_0 hr12).1 hWm12 rfl (fun h26 hS27 hE28 => ?_)
      have hE29 := sm_e_trans hE25 hE28
      refine go_ret rfl rfl ?_
      have hms : rss 2 kd t (I, Q, Z) = rsn 2 t (mgS kd 2 (I 15 2 + 1) (Z 4)) ((uI I 15 2 (I 15 2 + 1)), Q, Z) := by
        unfold rss
        rw [show pn (I, Q, Z).1 2 = 2 from pn_l (v := 2) e1 (by decide), show rwi (I, Q, Z).1 2 = 4 from rwi_l (v := 2) e1 (by decide)]
      change sm (tbr am12 (13 * ln12) 77 5088) _ (uI (uI (jn (appI (uI I 15 2 ((I 15 2) + 1)) Q (4 * 2 + t)) K7) 50 ((13 * x12) + 6) ((appI (uI I 15 2 ((I 15 2) + 1)) Q (4 * 2 + t)) 15 2)) 50 ((13 * x12) + 12) (nI y)) Y at hS27
      rw [jn_hi (c := 50) (by decide), jn_hi (c := 50) (by decide)] at hS27
      obtain ⟨K6, e6⟩ : ∃ z, z = (uI (uI K7 50 ((13 * x12) + 6) ((appI (uI I 15 2 ((I 15 2) + 1)) Q (4 * 2 + t)) 15 2)) 50 ((13 * x12) + 12) (nI y)) := ⟨_, rfl⟩
      rw [← e6] at hS27
      have f6 : ∀ c j, 50 ≤ c → ¬ (c = 50 ∧ (j = 13 * x12 + 6 ∨ j = 13 * x12 + 12)) → K6 c j = K7 c j := fun c j _ hc => by
        rw [e6]
        simp only [uI]
        rw [if_neg (by omega), if_neg (by omega)]
      have f7 : ∀ c j, ¬ (c = 51 ∧ 424 * y ≤ j ∧ j < 424 * y + 424) → K7 c j = K8 c j := fun c j hc => by
        rw [e7]
        exact cpI_r (Nat.le_refl _) c j hc
      have g6 : K6 50 (13 * x12 + 6) = I 15 2 + 1 := by
        rw [e6]
        (repeat (first | rw [uI_e (by omega)] | rw [uI_j (by omega)])) <;> first | rfl | exact congrFun (appI_o (by decide) (by decide) (by decide)) _
      have g12 : K6 50 (13 * x12 + 12) = nI y := by
        rw [e6]
        rw [uI_e (by omega)]
      have hRR8 : RR K8 Z := RR_c (fun j _ => y6 51 j (by decide)) uR
      have hz7 : RZ K7 (decide (4 < 2)) y (Z 4) := by
        rw [e7]
        exact RZ_cp (hRR8 4 (by decide))
      have hz6 : RZ K6 (decide (4 < 2)) y (Z 4) := RZ_c (fun j hj => f6 51 _ (by omega) (by omega)) hz7
      have hkS : isS (mgn (mgS kd 2 (I 15 2 + 1) (Z 4)) ((uI I 15 2 (I 15 2 + 1)) 9 (4 * 2 + t) + 1)) = true := by
        rcases hkd with rfl | rfl <;> rfl
      have hmw : mwn kd = 1 := by
        rcases hkd with rfl | rfl <;> rfl
      have e50 : ∀ j, j ≠ 13 * x12 + 6 → j ≠ 13 * x12 + 12 → K6 50 j = K12 50 j := fun j j1 j2 => by rw [f6 50 j (by omega) (by omega), f7 50 j (by omega), y6 50 j (by decide)]
      have hMS : MS K6 (owx ro y (x12 + 1)) x12 (mgn (mgS kd 2 (I 15 2 + 1) (Z 4)) ((uI I 15 2 (I 15 2 + 1)) 9 (4 * 2 + t) + 1)) := by
        refine ⟨?_, ?_, ?_, fun i hi => ?_, (fun z => by rw [hkS] at z; cases z), fun _ => ⟨y, y2, y7, g12, owx_s, ?_⟩⟩
        · rw [e50 _ (by omega) (by omega)]; exact u1
        · rw [e50 _ (by omega) (by omega)]; exact u2
        · rw [e50 _ (by omega) (by omega)]; exact u3
        · have hi2 : i < 1 := by
            have z : i < mwn kd := hi
            omega
          match i, hi2 with
          | 0, _ => exact g6
        · exact hz6
      have hP6 := RP_closeS (m := (mgn (mgS kd 2 (I 15 2 + 1) (Z 4)) ((uI I 15 2 (I 15 2 + 1)) 9 (4 * 2 + t) + 1))) (K' := K6) (by omega) uP8 uL1 mo0_s hkS y1 y2 y3 y5 (fun c j c1 c2 c3 => by rw [f6 c j c1 (by omega), f7 c j c3]) hMS
      have hA30 : RA w B (R + 1) H hb h26 (appI (uI I 15 2 (I 15 2 + 1)) Q (4 * 2 + t), uQ Q (4 * 2 + t) (Q (4 * 2 + t) ++ [(mgn (mgS kd 2 (I 15 2 + 1) (Z 4)) ((uI I 15 2 (I 15 2 + 1)) 9 (4 * 2 + t) + 1))]), Z) := RA_u.mpr ⟨_, _, _, _, hS27, HB_e hE29 uH, RR_c (fun j hj => by rw [f6 51 j (by omega) (by omega), f7 51 j (by omega)]) hRR8, L, F, G8, o, _, rm, sr8, hP6, urm, uln⟩
      rw [hms, show rsn 2 t (mgS kd 2 (I 15 2 + 1) (Z 4)) ((uI I 15 2 (I 15 2 + 1)), Q, Z) = mapp (4 * 2 + t) (mgS kd 2 (I 15 2 + 1) (Z 4)) ((uI I 15 2 (I 15 2 + 1)), Q, Z) from if_neg u6]
      exact ⟨rfl, hA30⟩
  · skip
    refine go_s (pc' := 1) rfl rfl rfl rfl ?_
    refine go_sget (pc' := 2) (v := .ref 82) hS rfl rfl rfl (by decide) rfl rfl ?_
    refine go_s (pc' := 3) rfl rfl rfl rfl ?_
    refine go_s (pc' := 4) rfl rfl rfl rfl ?_
    refine go_sald (pc' := 5) (q := 2) (v := .int (I 15 2)) hS rfl (tr_s hr (a := 82) rfl (by decide)) rfl rfl (by decide) rfl rfl ?_
    refine go_s (pc' := 6) (st' := [.int 1, .int (I 15 2), .int 2, .ref 82]) rfl rfl rfl rfl ?_
    refine go_s (pc' := 7) rfl rfl rfl rfl ?_
    refine go_siast (pc' := 8) (q := 2) hS rfl (tr_s hr (a := 82) rfl (by decide)) tbr_inj (Nat.le_of_ble_eq_true rfl) rfl (by decide) (by decide) (hW _ (by decide) (by decide)) rfl (fun h31 hS32 hE33 => ?_)
    refine go_s (pc' := 9) rfl rfl rfl rfl ?_
    refine go_s (pc' := 10) rfl rfl rfl rfl ?_
    refine go_sget (pc' := 11) (v := .ref 78) hS32 rfl rfl rfl (by decide) rfl rfl ?_
    refine go_s (pc' := 12) rfl rfl rfl rfl ?_
    refine go_sald (pc' := 13) (q := 2) (v := .int 3) hS32 rfl (tr_s hr (a := 78) rfl (by decide)) rfl rfl (by decide) (congrArg Value.int e1) rfl ?_
    refine go_s (pc' := 14) rfl rfl rfl rfl ?_
    refine go_s (pc' := 15) rfl rfl rfl rfl ?_
    refine go_s (pc' := 16) rfl rfl rfl rfl ?_
    change sm (tbr am (13 * ln) 77 5088) _ (uI (jn I K) 15 2 ((I 15 2) + 1)) Y at hS32
    rw [jn_lo (c := 15) (by decide)] at hS32
    have hU34 : RU w B R H hb h31 am ln K ((uI I 15 2 ((I 15 2) + 1)), Q, Z) := RU_I (hE33) (I' := (uI I 15 2 ((I 15 2) + 1))) (fun _ => rfl) (fun _ => rfl) (Nat.le_refl _) hU
    by_cases u35 : (uI I 15 2 ((I 15 2) + 1)) 0 t = 0
    · skip
      refine go_callV (pc' := 17) rfl rfl rfl (Nat.le_of_ble_eq_true rfl) rfl (sm_o hS32 rfl) rfl rfl rfl (rn_snd_0 hS32 hU34 (by omega) (f := 3) (t := t) (by decide) ht u35 (by omega)) (fun r h36 q37 => ?_)
      obtain ⟨rfl, rfl⟩ := q37
      refine go_s (pc' := 18) (lo' := [some (.ref 62), some (.int 2), some (.int kd), some (.int (nI t)), some (.int (-1)), none]) rfl rfl rfl rfl ?_
      refine go_s (pc' := 19) rfl rfl rfl rfl ?_
      refine go_s (pc' := 20) (st' := [.int (-1), .int (-1)]) rfl rfl rfl rfl ?_
      refine go_icmpP (t' := 22) (pc' := 21) rfl rfl rfl (fun (c : ¬ ((-1) : Int32) = (-1)) => absurd c (by decide)) (fun _ => ?_)
      refine go_ret rfl rfl ?_
      have hms : rss 2 kd t (I, Q, Z) = rsn 3 t (mgS kd 2 (I 15 2 + 1) (Z 5)) ((uI I 15 2 (I 15 2 + 1)), Q, Z) := by
        unfold rss
        rw [show pn (I, Q, Z).1 2 = 3 from pn_l (v := 3) e1 (by decide), show rwi (I, Q, Z).1 2 = 5 from rwi_l (v := 3) e1 (by decide)]
      have hA38 : RA w B R H hb h36 ((uI I 15 2 ((I 15 2) + 1)), Q, Z) := RA_u.mpr ⟨_, _, _, _, hS32, hU34⟩
      rw [hms, show rsn 3 t (mgS kd 2 (I 15 2 + 1) (Z 5)) ((uI I 15 2 (I 15 2 + 1)), Q, Z) = ((uI I 15 2 (I 15 2 + 1)), Q, Z) from if_pos u35]
      exact ⟨rfl, RA_R (by omega) hA38⟩
    · skip
      refine go_callV (pc' := 17) rfl rfl rfl (Nat.le_of_ble_eq_true rfl) rfl (sm_o hS32 rfl) rfl rfl rfl (rn_snd_1 hS32 hU34 (by omega) (f := 3) (t := t) (by decide) ht u35 (by omega)) (fun r h39 q40 => ?_)
      obtain ⟨x41, am41, ln41, K41, rfl, hS41, hO41⟩ := q40
      obtain ⟨hx41, hln41, hr41, hWm41⟩ := RO_x hO41 (by omega)
      have ep42 : (appI (uI I 15 2 ((I 15 2) + 1)) Q (4 * 3 + t)) 11 2 = 3 := (congrFun (appI_o (by decide) (by decide) (by decide)) 2).trans e1
      refine go_s (pc' := 18) (lo' := [some (.ref 62), some (.int 2), some (.int kd), some (.int (nI t)), some (.int (nI (13 * x41))), none]) rfl rfl rfl rfl ?_
      refine go_s (pc' := 19) rfl rfl rfl rfl ?_
      refine go_s (pc' := 20) (st' := [.int (-1), .int (nI (13 * x41))]) rfl rfl rfl rfl ?_
      refine go_icmpP (t' := 22) (pc' := 21) rfl rfl rfl (fun _ => ?_) (fun (c : ¬ (¬ (nI (13 * x41)) = (-1))) => absurd (nI_nm1 (by omega)) c)
      refine go_s (pc' := 23) rfl rfl rfl rfl ?_
      obtain ⟨uH, uR, ⟨L, F, G, o, ro, rm, sr, T, uL1, uP, uxr, urm, uln⟩, u1, u2, u3, u4⟩ := hO41
      have h5b : sq (uQ Q (4 * 3 + t) (Q (4 * 3 + t) ++ [mo0])) ≤ sq Q := by
        have z := sq_u (Q := Q) (l := (4 * 3 + t)) (q := Q (4 * 3 + t) ++ [mo0]) (by omega)
        rw [List.countP_append] at z
        have z2 : List.countP isS [mo0] = 0 := rfl
        omega
      refine go_callV (pc' := 24) rfl rfl rfl (Nat.le_of_ble_eq_true rfl) rfl (sm_o hS41 rfl) rfl rfl rfl (rn_ns hr41 hln41 hW hS41 uP (by omega) (by omega)) (fun r h44 q45 => ?_)
      obtain ⟨y, K8, G8, sr8, rfl, hS8, hE8, uP8, y1, y2, y3, y4, y5, y6⟩ := q45
      have y7 : y < 12 := by omega
      refine go_s (pc' := 25) (lo' := [some (.ref 62), some (.int 2), some (.int kd), some (.int (nI t)), some (.int (nI (13 * x41))), some (.int (nI y))]) rfl rfl rfl rfl ?_
      refine go_s (pc' := 26) rfl rfl rfl rfl ?_
      refine go_s (pc' := 27) (st' := [.int 2, .ref 62]) rfl rfl rfl rfl ?_
      refine go_s (pc' := 28) rfl rfl rfl rfl ?_
      refine go_s (pc' := 29) (st' := [.int 4, .ref 62]) rfl rfl rfl rfl ?_
      refine go_s (pc' := 30) rfl rfl rfl rfl ?_
      refine go_sget (pc' := 31) (v := .ref 78) hS8 rfl rfl rfl (by decide) rfl rfl ?_
      refine go_s (pc' := 32) rfl rfl rfl rfl ?_
      refine go_sald (pc' := 33) (q := 2) (v := .int 3) hS8 rfl (tr_s hr41 (a := 78) rfl (by decide)) rfl rfl (by decide) (congrArg Value.int ep42) rfl ?_
      refine go_s (pc' := 34) (st' := [.int 2, .int 3, .int 4, .ref 62]) rfl rfl rfl rfl ?_
      refine go_s (pc' := 35) (st' := [.int 1, .int 4, .ref 62]) rfl rfl rfl rfl ?_
      refine go_s (pc' := 36) (st' := [.int 5, .ref 62]) rfl rfl rfl rfl ?_
      refine go_s (pc' := 37) rfl rfl rfl rfl ?_
      refine go_callV (pc' := 38) rfl rfl rfl (Nat.le_of_ble_eq_true rfl) rfl (sm_o hS8 rfl) rfl rfl rfl (rs_cp hr41 hS8 hW (hW 77 (by decide) (by decide)) (f := 5) (g := y) (by decide) (by omega) (by omega) (by decide) (by omega)) (fun r h46 q47 => ?_)
      obtain ⟨rfl, hS48, hE49⟩ := q47
      have hE50 := sm_e_trans hE8 hE49
      rw [cpI_jn] at hS48
      obtain ⟨K7, e7⟩ : ∃ z, z = cpI K8 5 y 424 := ⟨_, rfl⟩
      rw [← e7] at hS48
      refine go_s (pc' := 39) rfl rfl rfl rfl ?_
      refine go_sget (pc' := 40) (v := .ref am41) hS48 rfl rfl rfl (by decide) rfl rfl ?_
      refine go_s (pc' := 41) rfl rfl rfl rfl ?_
      refine go_s (pc' := 42) (st' := [.int 6, .int (nI (13 * x41)), .ref am41]) rfl rfl rfl rfl ?_
      refine go_nadd (pc' := 43) (a := (13 * x41)) (b := 6) rfl rfl rfl rfl rfl ?_
      refine go_s (pc' := 44) rfl rfl rfl rfl ?_
      refine go_sget (pc' := 45) (v := .ref 82) hS48 rfl rfl rfl (by decide) rfl rfl ?_
      refine go_s (pc' := 46) rfl rfl rfl rfl ?_
      refine go_sald (pc' := 47) (q := 2) (v := .int ((appI (uI I 15 2 ((I 15 2) + 1)) Q (4 * 3 + t)) 15 2)) hS48 rfl (tr_s hr41 (a := 82) rfl (by decide)) rfl rfl (by decide) rfl rfl ?_
      refine go_siast (pc' := 48) (q := ((13 * x41) + 6)) hS48 rfl (tr_ms hr41 (by omega)) tbr_inj (Nat.le_of_ble_eq_true rfl) rfl (by omega) (rk_0 hr41).1 hWm41 rfl (fun h51 hS52 hE53 => ?_)
      have hE54 := sm_e_trans hE50 hE53
      refine go_s (pc' := 49) rfl rfl rfl rfl ?_
      refine go_sget (pc' := 50) (v := .ref am41) hS52 rfl rfl rfl (by decide) rfl rfl ?_
      refine go_s (pc' := 51) rfl rfl rfl rfl ?_
      refine go_s (pc' := 52) (st' := [.int 12, .int (nI (13 * x41)), .ref am41]) rfl rfl rfl rfl ?_
      refine go_nadd (pc' := 53) (a := (13 * x41)) (b := 12) rfl rfl rfl rfl rfl ?_
      refine go_s (pc' := 54) rfl rfl rfl rfl ?_
      refine go_siast (pc' := 55) (q := ((13 * x41) + 12)) hS52 rfl (tr_ms hr41 (by omega)) tbr_inj (Nat.le_of_ble_eq_true rfl) rfl (by omega) (rk_0 hr41).1 hWm41 rfl (fun h55 hS56 hE57 => ?_)
      have hE58 := sm_e_trans hE54 hE57
      refine go_ret rfl rfl ?_
      have hms : rss 2 kd t (I, Q, Z) = rsn 3 t (mgS kd 2 (I 15 2 + 1) (Z 5)) ((uI I 15 2 (I 15 2 + 1)), Q, Z) := by
        unfold rss
        rw [show pn (I, Q, Z).1 2 = 3 from pn_l (v := 3) e1 (by decide), show rwi (I, Q, Z).1 2 = 5 from rwi_l (v := 3) e1 (by decide)]
      change sm (tbr am41 (13 * ln41) 77 5088) _ (uI (uI (jn (appI (uI I 15 2 ((I 15 2) + 1)) Q (4 * 3 + t)) K7) 50 ((13 * x41) + 6) ((appI (uI I 15 2 ((I 15 2) + 1)) Q (4 * 3 + t)) 15 2)) 50 ((13 * x41) + 12) (nI y)) Y at hS56
      rw [jn_hi (c := 50) (by decide), jn_hi (c := 50) (by decide)] at hS56
      obtain ⟨K6, e6⟩ : ∃ z, z = (uI (uI K7 50 ((13 * x41) + 6) ((appI (uI I 15 2 ((I 15 2) + 1)) Q (4 * 3 + t)) 15 2)) 50 ((13 * x41) + 12) (nI y)) := ⟨_, rfl⟩
      rw [← e6] at hS56
      have f6 : ∀ c j, 50 ≤ c → ¬ (c = 50 ∧ (j = 13 * x41 + 6 ∨ j = 13 * x41 + 12)) → K6 c j = K7 c j := fun c j _ hc => by
        rw [e6]
        simp only [uI]
        rw [if_neg (by omega), if_neg (by omega)]
      have f7 : ∀ c j, ¬ (c = 51 ∧ 424 * y ≤ j ∧ j < 424 * y + 424) → K7 c j = K8 c j := fun c j hc => by
        rw [e7]
        exact cpI_r (Nat.le_refl _) c j hc
      have g6 : K6 50 (13 * x41 + 6) = I 15 2 + 1 := by
        rw [e6]
        (repeat (first | rw [uI_e (by omega)] | rw [uI_j (by omega)])) <;> first | rfl | exact congrFun (appI_o (by decide) (by decide) (by decide)) _
      have g12 : K6 50 (13 * x41 + 12) = nI y := by
        rw [e6]
        rw [uI_e (by omega)]
      have hRR8 : RR K8 Z := RR_c (fun j _ => y6 51 j (by decide)) uR
      have hz7 : RZ K7 (decide (5 < 2)) y (Z 5) := by
        rw [e7]
        exact RZ_cp (hRR8 5 (by decide))
      have hz6 : RZ K6 (decide (5 < 2)) y (Z 5) := RZ_c (fun j hj => f6 51 _ (by omega) (by omega)) hz7
      have hkS : isS (mgn (mgS kd 2 (I 15 2 + 1) (Z 5)) ((uI I 15 2 (I 15 2 + 1)) 9 (4 * 3 + t) + 1)) = true := by
        rcases hkd with rfl | rfl <;> rfl
      have hmw : mwn kd = 1 := by
        rcases hkd with rfl | rfl <;> rfl
      have e50 : ∀ j, j ≠ 13 * x41 + 6 → j ≠ 13 * x41 + 12 → K6 50 j = K41 50 j := fun j j1 j2 => by rw [f6 50 j (by omega) (by omega), f7 50 j (by omega), y6 50 j (by decide)]
      have hMS : MS K6 (owx ro y (x41 + 1)) x41 (mgn (mgS kd 2 (I 15 2 + 1) (Z 5)) ((uI I 15 2 (I 15 2 + 1)) 9 (4 * 3 + t) + 1)) := by
        refine ⟨?_, ?_, ?_, fun i hi => ?_, (fun z => by rw [hkS] at z; cases z), fun _ => ⟨y, y2, y7, g12, owx_s, ?_⟩⟩
        · rw [e50 _ (by omega) (by omega)]; exact u1
        · rw [e50 _ (by omega) (by omega)]; exact u2
        · rw [e50 _ (by omega) (by omega)]; exact u3
        · have hi2 : i < 1 := by
            have z : i < mwn kd := hi
            omega
          match i, hi2 with
          | 0, _ => exact g6
        · exact hz6
      have hP6 := RP_closeS (m := (mgn (mgS kd 2 (I 15 2 + 1) (Z 5)) ((uI I 15 2 (I 15 2 + 1)) 9 (4 * 3 + t) + 1))) (K' := K6) (by omega) uP8 uL1 mo0_s hkS y1 y2 y3 y5 (fun c j c1 c2 c3 => by rw [f6 c j c1 (by omega), f7 c j c3]) hMS
      have hA59 : RA w B (R + 1) H hb h55 (appI (uI I 15 2 (I 15 2 + 1)) Q (4 * 3 + t), uQ Q (4 * 3 + t) (Q (4 * 3 + t) ++ [(mgn (mgS kd 2 (I 15 2 + 1) (Z 5)) ((uI I 15 2 (I 15 2 + 1)) 9 (4 * 3 + t) + 1))]), Z) := RA_u.mpr ⟨_, _, _, _, hS56, HB_e hE58 uH, RR_c (fun j hj => by rw [f6 51 j (by omega) (by omega), f7 51 j (by omega)]) hRR8, L, F, G8, o, _, rm, sr8, hP6, urm, uln⟩
      rw [hms, show rsn 3 t (mgS kd 2 (I 15 2 + 1) (Z 5)) ((uI I 15 2 (I 15 2 + 1)), Q, Z) = mapp (4 * 3 + t) (mgS kd 2 (I 15 2 + 1) (Z 5)) ((uI I 15 2 (I 15 2 + 1)), Q, Z) from if_neg u35]
      exact ⟨rfl, hA59⟩
