theorem pn_l {I : sm_I} {k : Nat} {v : Nat} (e : I 11 k = nI v) (hv : v < 4) : pn I k = v := by
  unfold pn
  rw [e]
  exact nI_clamp (by omega)
theorem rwi_l {I : sm_I} {k : Nat} {v : Nat} (e : I 11 k = nI v) (hv : v < 4) : rwi I k = 2 * k + v % 2 := by
  unfold rwi
  rw [pn_l e hv]
theorem row1_l {I : sm_I} {Q : mQ} {Z : mZ} {k v : Nat} (e : I 11 k = nI v) (hv : v < 4) : row1 (I, Q, Z) k = (Z (2 * k + v % 2)).1 := by
  unfold row1
  rw [show rwi (I, Q, Z).1 k = 2 * k + v % 2 from rwi_l e hv]
theorem ra_sr_1 {w : Nat → Bool} {d B R : Nat} {H : List (Nat × mg)} {hb : Bool} {h : am_Hp} {I : sm_I} {Q : mQ} {Z : mZ} (hA : RA w B R H hb h (I, Q, Z)) (hR : R + 1 < 40000) (hp0 : prk I 0) (hpk : prk I 1) (hnk : ¬ I 11 1 = -1) (hd : 3 ≤ d) : am_Ev (am_prog w) d 129 [.ref 62, .int 1] h (fun r h' => r = none ∧ RA w B (R + 1) H hb h' (rsr 0 (I, Q, Z))) := by
  obtain ⟨K, Y, am, ln, hS, hU⟩ := RA_u.mp hA
  change sm (tbr am (13 * ln) 77 5088) h (jn I K) Y at hS
  obtain ⟨hW, hWm, -, -, hr, -⟩ := id hU.1
  have hln := RU_ln hU (by omega)
  obtain ⟨d, rfl⟩ : ∃ e, d = e + 1 := ⟨d - 1, by omega⟩
  refine ev_go rfl (Nat.le_of_ble_eq_true rfl) rfl ?_
  rcases hp0 with e1 | e1 | e1
  · skip
    rcases hpk with e2 | e2 | e2
    · skip
      exact absurd e2 hnk
    · skip
      refine go_s (pc' := 1) rfl rfl rfl rfl ?_
      refine go_sget (pc' := 2) (v := .ref 78) hS rfl rfl rfl (by decide) rfl rfl ?_
      refine go_s (pc' := 3) (st' := [.int 0, .ref 78]) rfl rfl rfl rfl ?_
      refine go_sald (pc' := 4) (q := 0) (v := .int (-1)) hS rfl (tr_s hr (a := 78) rfl (by decide)) rfl rfl (by decide) (congrArg Value.int e1) rfl ?_
      refine go_s (pc' := 5) (st' := [.int (-1), .int (-1)]) rfl rfl rfl rfl ?_
      refine go_icmpP (t' := 7) (pc' := 6) rfl rfl rfl (fun (c : ¬ ((-1) : Int32) = (-1)) => absurd c (by decide)) (fun _ => ?_)
      refine go_ret rfl rfl ?_
      rw [show rsr 0 (I, Q, Z) = (I, Q, Z) from if_pos e1]
      exact ⟨rfl, RA_R (by omega) hA⟩
    · skip
      refine go_s (pc' := 1) rfl rfl rfl rfl ?_
      refine go_sget (pc' := 2) (v := .ref 78) hS rfl rfl rfl (by decide) rfl rfl ?_
      refine go_s (pc' := 3) (st' := [.int 0, .ref 78]) rfl rfl rfl rfl ?_
      refine go_sald (pc' := 4) (q := 0) (v := .int (-1)) hS rfl (tr_s hr (a := 78) rfl (by decide)) rfl rfl (by decide) (congrArg Value.int e1) rfl ?_
      refine go_s (pc' := 5) (st' := [.int (-1), .int (-1)]) rfl rfl rfl rfl ?_
      refine go_icmpP (t' := 7) (pc' := 6) rfl rfl rfl (fun (c : ¬ ((-1) : Int32) = (-1)) => absurd c (by decide)) (fun _ => ?_)
      refine go_ret rfl rfl ?_
      rw [show rsr 0 (I, Q, Z) = (I, Q, Z) from if_pos e1]
      exact ⟨rfl, RA_R (by omega) hA⟩
  · skip
    rcases hpk with e3 | e3 | e3
    · skip
      exact absurd e3 hnk
    · skip
      refine go_s (pc' := 1) rfl rfl rfl rfl ?_
      refine go_sget (pc' := 2) (v := .ref 78) hS rfl rfl rfl (by decide) rfl rfl ?_
      refine go_s (pc' := 3) (st' := [.int 0, .ref 78]) rfl rfl rfl rfl ?_
      refine go_sald (pc' := 4) (q := 0) (v := .int 0) hS rfl (tr_s hr (a := 78) rfl (by decide)) rfl rfl (by decide) (congrArg Value.int e1) rfl ?_
      refine go_s (pc' := 5) (st' := [.int (-1), .int 0]) rfl rfl rfl rfl ?_
      refine go_icmpP (t' := 7) (pc' := 6) rfl rfl rfl (fun _ => ?_) (fun (c : ¬ (¬ (0 : Int32) = (-1))) => absurd (by decide) c)
      refine go_s (pc' := 8) rfl rfl rfl rfl ?_
      refine go_s (pc' := 9) rfl rfl rfl rfl ?_
      refine go_sget (pc' := 10) (v := .ref 78) hS rfl rfl rfl (by decide) rfl rfl ?_
      refine go_s (pc' := 11) rfl rfl rfl rfl ?_
      refine go_sald (pc' := 12) (q := 1) (v := .int 2) hS rfl (tr_s hr (a := 78) rfl (by decide)) rfl rfl (by decide) (congrArg Value.int e3) rfl ?_
      refine go_s (pc' := 13) rfl rfl rfl rfl ?_
      refine go_sget (pc' := 14) (v := .ref 78) hS rfl rfl rfl (by decide) rfl rfl ?_
      refine go_s (pc' := 15) (st' := [.int 0, .ref 78, .int 2, .ref 62]) rfl rfl rfl rfl ?_
      refine go_sald (pc' := 16) (q := 0) (v := .int 0) hS rfl (tr_s hr (a := 78) rfl (by decide)) rfl rfl (by decide) (congrArg Value.int e1) rfl ?_
      refine go_s (pc' := 17) (st' := [.int 1, .int 0, .int 2, .ref 62]) rfl rfl rfl rfl ?_
      refine go_s (pc' := 18) rfl rfl rfl rfl ?_
      refine go_s (pc' := 19) (st' := [.int 1, .int 1, .int 1, .int 0, .int 2, .ref 62]) rfl rfl rfl rfl ?_
      refine go_s (pc' := 20) (st' := [.int 0, .int 1, .int 0, .int 2, .ref 62]) rfl rfl rfl rfl ?_
      have hU4 : RU w B R H hb h am ln K (I, Q, Z) := RU_I (sm_e_refl (tbr am (13 * ln) 77 5088) _) (I' := I) (fun _ => rfl) (fun _ => rfl) (Nat.le_refl _) hU
      by_cases u5 : I 0 0 = 0
      · skip
        refine go_callV (pc' := 21) rfl rfl rfl (Nat.le_of_ble_eq_true rfl) rfl (sm_o hS rfl) rfl rfl rfl (rn_snd_0 hS hU4 (by omega) (f := 2) (t := 0) (by decide) (by decide) u5 (by omega)) (fun r h6 q7 => ?_)
        obtain ⟨rfl, rfl⟩ := q7
        refine go_s (pc' := 22) (lo' := [some (.ref 62), some (.int 1), some (.int (-1)), none]) rfl rfl rfl rfl ?_
        refine go_s (pc' := 23) rfl rfl rfl rfl ?_
        refine go_s (pc' := 24) (st' := [.int (-1), .int (-1)]) rfl rfl rfl rfl ?_
        refine go_icmpP (t' := 26) (pc' := 25) rfl rfl rfl (fun (c : ¬ ((-1) : Int32) = (-1)) => absurd c (by decide)) (fun _ => ?_)
        refine go_ret rfl rfl ?_
        have hms : rsr 0 (I, Q, Z) = rsn 2 0 (mgR 0 (Z 2).1) (I, Q, Z) := by
          unfold rsr
          rw [if_neg (show ¬ (I, Q, Z).1 11 0 = -1 from (fun z => absurd (e1.symm.trans z) (by decide))), show pn (I, Q, Z).1 (1 + 0) = 2 from pn_l (v := 2) e3 (by decide), show pn (I, Q, Z).1 0 = 0 from pn_l (v := 0) e1 (by decide), show row1 (I, Q, Z) (1 + 0) = (Z 2).1 from row1_l (v := 2) e3 (by decide)]
        rw [hms, show rsn 2 0 (mgR 0 (Z 2).1) (I, Q, Z) = (I, Q, Z) from if_pos u5]
        exact ⟨rfl, RA_R (by omega) hA⟩
      · skip
        refine go_callV (pc' := 21) rfl rfl rfl (Nat.le_of_ble_eq_true rfl) rfl (sm_o hS rfl) rfl rfl rfl (rn_snd_1 hS hU4 (by omega) (f := 2) (t := 0) (by decide) (by decide) u5 (by omega)) (fun r h8 q9 => ?_)
        obtain ⟨x10, am10, ln10, K10, rfl, hS10, hO10⟩ := q9
        obtain ⟨hx10, hln10, hr10, hWm10⟩ := RO_x hO10 (by omega)
        have ep11 : (appI I Q (4 * 2 + 0)) 11 0 = 0 := (congrFun (appI_o (by decide) (by decide) (by decide)) 0).trans e1
        have ep12 : (appI I Q (4 * 2 + 0)) 11 1 = 2 := (congrFun (appI_o (by decide) (by decide) (by decide)) 1).trans e3
        refine go_s (pc' := 22) (lo' := [some (.ref 62), some (.int 1), some (.int (nI (13 * x10))), none]) rfl rfl rfl rfl ?_
        refine go_s (pc' := 23) rfl rfl rfl rfl ?_
        refine go_s (pc' := 24) (st' := [.int (-1), .int (nI (13 * x10))]) rfl rfl rfl rfl ?_
        refine go_icmpP (t' := 26) (pc' := 25) rfl rfl rfl (fun _ => ?_) (fun (c : ¬ (¬ (nI (13 * x10)) = (-1))) => absurd (nI_nm1 (by omega)) c)
        refine go_s (pc' := 27) rfl rfl rfl rfl ?_
        refine go_s (pc' := 28) rfl rfl rfl rfl ?_
        refine go_callV (pc' := 29) rfl rfl rfl (Nat.le_of_ble_eq_true rfl) rfl (sm_o hS10 rfl) rfl rfl rfl (rt_at_1 hr10 hS10 (Or.inr (Or.inl ep12)) (fun z => absurd (ep12.symm.trans z) (by decide)) (by omega)) (fun r h13 q14 => ?_)
        obtain ⟨rfl, rfl⟩ := q14
        rw [show rwi (jn (appI I Q (4 * 2 + 0)) K10) 1 = 2 by unfold rwi pn; rw [show (jn (appI I Q (4 * 2 + 0)) K10) 11 1 = 2 from ep12]; rfl]
        show am_Go _ _ _ _ 29 _ [.int 848] _ _
        refine go_s (pc' := 30) (lo' := [some (.ref 62), some (.int 1), some (.int (nI (13 * x10))), some (.int 848)]) rfl rfl rfl rfl ?_
        refine go_s (pc' := 31) rfl rfl rfl rfl ?_
        refine go_sget (pc' := 32) (v := .ref am10) hS10 rfl rfl rfl (by decide) rfl rfl ?_
        refine go_s (pc' := 33) rfl rfl rfl rfl ?_
        refine go_s (pc' := 34) (st' := [.int 6, .int (nI (13 * x10)), .ref am10]) rfl rfl rfl rfl ?_
        refine go_nadd (pc' := 35) (a := (13 * x10)) (b := 6) rfl rfl rfl rfl rfl ?_
        refine go_s (pc' := 36) rfl rfl rfl rfl ?_
        refine go_sget (pc' := 37) (v := .ref 77) hS10 rfl rfl rfl (by decide) rfl rfl ?_
        refine go_s (pc' := 38) rfl rfl rfl rfl ?_
        refine go_s (pc' := 39) (st' := [.int 11, .int 848, .ref 77, .int (nI ((13 * x10) + 6)), .ref am10]) rfl rfl rfl rfl ?_
        refine go_s (pc' := 40) (st' := [.int 859, .ref 77, .int (nI ((13 * x10) + 6)), .ref am10]) rfl rfl rfl rfl ?_
        refine go_sald (pc' := 41) (q := 859) (v := .int ((Z 2).1 11)) hS10 rfl (tr_as hr10 (by omega)) rfl rfl (by decide) (congrArg Value.int (RR_t hO10.2.1 (i := 2) (by decide) (by decide) 11 (by decide))) rfl ?_
        refine go_siast (pc' := 42) (q := ((13 * x10) + 6)) hS10 rfl (tr_ms hr10 (by omega)) tbr_inj (Nat.le_of_ble_eq_true rfl) rfl (by omega) (rk_0 hr10).1 hWm10 rfl (fun h15 hS16 hE17 => ?_)
        refine go_s (pc' := 43) rfl rfl rfl rfl ?_
        refine go_sget (pc' := 44) (v := .ref am10) hS16 rfl rfl rfl (by decide) rfl rfl ?_
        refine go_s (pc' := 45) rfl rfl rfl rfl ?_
        refine go_s (pc' := 46) (st' := [.int 7, .int (nI (13 * x10)), .ref am10]) rfl rfl rfl rfl ?_
        refine go_nadd (pc' := 47) (a := (13 * x10)) (b := 7) rfl rfl rfl rfl rfl ?_
        refine go_s (pc' := 48) rfl rfl rfl rfl ?_
        refine go_sget (pc' := 49) (v := .ref 77) hS16 rfl rfl rfl (by decide) rfl rfl ?_
        refine go_s (pc' := 50) rfl rfl rfl rfl ?_
        refine go_s (pc' := 51) (st' := [.int 0, .int 848, .ref 77, .int (nI ((13 * x10) + 7)), .ref am10]) rfl rfl rfl rfl ?_
        refine go_s (pc' := 52) (st' := [.int 848, .ref 77, .int (nI ((13 * x10) + 7)), .ref am10]) rfl rfl rfl rfl ?_
        refine go_sald (pc' := 53) (q := 848) (v := .int ((Z 2).1 0)) hS16 rfl (tr_as hr10 (by omega)) rfl rfl (by decide) (congrArg Value.int (RR_t hO10.2.1 (i := 2) (by decide) (by decide) 0 (by decide))) rfl ?_
        refine go_siast (pc' := 54) (q := ((13 * x10) + 7)) hS16 rfl (tr_ms hr10 (by omega)) tbr_inj (Nat.le_of_ble_eq_true rfl) rfl (by omega) (rk_0 hr10).1 hWm10 rfl (fun h18 hS19 hE20 => ?_)
        have hE21 := sm_e_trans hE17 hE20
        refine go_s (pc' := 55) rfl rfl rfl rfl ?_
        refine go_sget (pc' := 56) (v := .ref am10) hS19 rfl rfl rfl (by decide) rfl rfl ?_
        refine go_s (pc' := 57) rfl rfl rfl rfl ?_
        refine go_s (pc' := 58) (st' := [.int 8, .int (nI (13 * x10)), .ref am10]) rfl rfl rfl rfl ?_
        refine go_nadd (pc' := 59) (a := (13 * x10)) (b := 8) rfl rfl rfl rfl rfl ?_
        refine go_s (pc' := 60) rfl rfl rfl rfl ?_
        refine go_sget (pc' := 61) (v := .ref 77) hS19 rfl rfl rfl (by decide) rfl rfl ?_
        refine go_s (pc' := 62) rfl rfl rfl rfl ?_
        refine go_s (pc' := 63) (st' := [.int 5, .int 848, .ref 77, .int (nI ((13 * x10) + 8)), .ref am10]) rfl rfl rfl rfl ?_
        refine go_s (pc' := 64) (st' := [.int 853, .ref 77, .int (nI ((13 * x10) + 8)), .ref am10]) rfl rfl rfl rfl ?_
        refine go_sald (pc' := 65) (q := 853) (v := .int ((Z 2).1 5)) hS19 rfl (tr_as hr10 (by omega)) rfl rfl (by decide) (congrArg Value.int (RR_t hO10.2.1 (i := 2) (by decide) (by decide) 5 (by decide))) rfl ?_
        refine go_siast (pc' := 66) (q := ((13 * x10) + 8)) hS19 rfl (tr_ms hr10 (by omega)) tbr_inj (Nat.le_of_ble_eq_true rfl) rfl (by omega) (rk_0 hr10).1 hWm10 rfl (fun h22 hS23 hE24 => ?_)
        have hE25 := sm_e_trans hE21 hE24
        refine go_s (pc' := 67) rfl rfl rfl rfl ?_
        refine go_sget (pc' := 68) (v := .ref am10) hS23 rfl rfl rfl (by decide) rfl rfl ?_
        refine go_s (pc' := 69) rfl rfl rfl rfl ?_
        refine go_s (pc' := 70) (st' := [.int 9, .int (nI (13 * x10)), .ref am10]) rfl rfl rfl rfl ?_
        refine go_nadd (pc' := 71) (a := (13 * x10)) (b := 9) rfl rfl rfl rfl rfl ?_
        refine go_s (pc' := 72) rfl rfl rfl rfl ?_
        refine go_sget (pc' := 73) (v := .ref 77) hS23 rfl rfl rfl (by decide) rfl rfl ?_
        refine go_s (pc' := 74) rfl rfl rfl rfl ?_
        refine go_s (pc' := 75) (st' := [.int 2, .int 848, .ref 77, .int (nI ((13 * x10) + 9)), .ref am10]) rfl rfl rfl rfl ?_
        refine go_s (pc' := 76) (st' := [.int 850, .ref 77, .int (nI ((13 * x10) + 9)), .ref am10]) rfl rfl rfl rfl ?_
        refine go_sald (pc' := 77) (q := 850) (v := .int ((Z 2).1 2)) hS23 rfl (tr_as hr10 (by omega)) rfl rfl (by decide) (congrArg Value.int (RR_t hO10.2.1 (i := 2) (by decide) (by decide) 2 (by decide))) rfl ?_
        refine go_siast (pc' := 78) (q := ((13 * x10) + 9)) hS23 rfl (tr_ms hr10 (by omega)) tbr_inj (Nat.le_of_ble_eq_true rfl) rfl (by omega) (rk_0 hr10).1 hWm10 rfl (fun h26 hS27 hE28 => ?_)
        have hE29 := sm_e_trans hE25 hE28
        refine go_s (pc' := 79) rfl rfl rfl rfl ?_
        refine go_sget (pc' := 80) (v := .ref am10) hS27 rfl rfl rfl (by decide) rfl rfl ?_
        refine go_s (pc' := 81) rfl rfl rfl rfl ?_
        refine go_s (pc' := 82) (st' := [.int 10, .int (nI (13 * x10)), .ref am10]) rfl rfl rfl rfl ?_
        refine go_nadd (pc' := 83) (a := (13 * x10)) (b := 10) rfl rfl rfl rfl rfl ?_
        refine go_s (pc' := 84) rfl rfl rfl rfl ?_
        refine go_sget (pc' := 85) (v := .ref 77) hS27 rfl rfl rfl (by decide) rfl rfl ?_
        refine go_s (pc' := 86) rfl rfl rfl rfl ?_
        refine go_s (pc' := 87) (st' := [.int 3, .int 848, .ref 77, .int (nI ((13 * x10) + 10)), .ref am10]) rfl rfl rfl rfl ?_
        refine go_s (pc' := 88) (st' := [.int 851, .ref 77, .int (nI ((13 * x10) + 10)), .ref am10]) rfl rfl rfl rfl ?_
        refine go_sald (pc' := 89) (q := 851) (v := .int ((Z 2).1 3)) hS27 rfl (tr_as hr10 (by omega)) rfl rfl (by decide) (congrArg Value.int (RR_t hO10.2.1 (i := 2) (by decide) (by decide) 3 (by decide))) rfl ?_
        refine go_siast (pc' := 90) (q := ((13 * x10) + 10)) hS27 rfl (tr_ms hr10 (by omega)) tbr_inj (Nat.le_of_ble_eq_true rfl) rfl (by omega) (rk_0 hr10).1 hWm10 rfl (fun h30 hS31 hE32 => ?_)
        have hE33 := sm_e_trans hE29 hE32
        refine go_s (pc' := 91) rfl rfl rfl rfl ?_
        refine go_sget (pc' := 92) (v := .ref am10) hS31 rfl rfl rfl (by decide) rfl rfl ?_
        refine go_s (pc' := 93) rfl rfl rfl rfl ?_
        refine go_s (pc' := 94) (st' := [.int 11, .int (nI (13 * x10)), .ref am10]) rfl rfl rfl rfl ?_
        refine go_nadd (pc' := 95) (a := (13 * x10)) (b := 11) rfl rfl rfl rfl rfl ?_
        refine go_s (pc' := 96) rfl rfl rfl rfl ?_
        refine go_sget (pc' := 97) (v := .ref 77) hS31 rfl rfl rfl (by decide) rfl rfl ?_
        refine go_s (pc' := 98) rfl rfl rfl rfl ?_
        refine go_s (pc' := 99) (st' := [.int 4, .int 848, .ref 77, .int (nI ((13 * x10) + 11)), .ref am10]) rfl rfl rfl rfl ?_
        refine go_s (pc' := 100) (st' := [.int 852, .ref 77, .int (nI ((13 * x10) + 11)), .ref am10]) rfl rfl rfl rfl ?_
        refine go_sald (pc' := 101) (q := 852) (v := .int ((Z 2).1 4)) hS31 rfl (tr_as hr10 (by omega)) rfl rfl (by decide) (congrArg Value.int (RR_t hO10.2.1 (i := 2) (by decide) (by decide) 4 (by decide))) rfl ?_
        refine go_siast (pc' := 102) (q := ((13 * x10) + 11)) hS31 rfl (tr_ms hr10 (by omega)) tbr_inj (Nat.le_of_ble_eq_true rfl) rfl (by omega) (rk_0 hr10).1 hWm10 rfl (fun h34 hS35 hE36 => ?_)
        have hE37 := sm_e_trans hE33 hE36
        refine go_ret rfl rfl ?_
        have hms : rsr 0 (I, Q, Z) = rsn 2 0 (mgR 0 (Z 2).1) (I, Q, Z) := by
          unfold rsr
          rw [if_neg (show ¬ (I, Q, Z).1 11 0 = -1 from (fun z => absurd (e1.symm.trans z) (by decide))), show pn (I, Q, Z).1 (1 + 0) = 2 from pn_l (v := 2) e3 (by decide), show pn (I, Q, Z).1 0 = 0 from pn_l (v := 0) e1 (by decide), show row1 (I, Q, Z) (1 + 0) = (Z 2).1 from row1_l (v := 2) e3 (by decide)]
        change sm (tbr am10 (13 * ln10) 77 5088) _ (uI (uI (uI (uI (uI (uI (jn (appI I Q (4 * 2 + 0)) K10) 50 ((13 * x10) + 6) ((Z 2).1 11)) 50 ((13 * x10) + 7) ((Z 2).1 0)) 50 ((13 * x10) + 8) ((Z 2).1 5)) 50 ((13 * x10) + 9) ((Z 2).1 2)) 50 ((13 * x10) + 10) ((Z 2).1 3)) 50 ((13 * x10) + 11) ((Z 2).1 4)) Y at hS35
        rw [jn_hi (c := 50) (by decide), jn_hi (c := 50) (by decide), jn_hi (c := 50) (by decide), jn_hi (c := 50) (by decide), jn_hi (c := 50) (by decide), jn_hi (c := 50) (by decide)] at hS35
        have hU38 := RO_cl (K' := (uI (uI (uI (uI (uI (uI K10 50 ((13 * x10) + 6) ((Z 2).1 11)) 50 ((13 * x10) + 7) ((Z 2).1 0)) 50 ((13 * x10) + 8) ((Z 2).1 5)) 50 ((13 * x10) + 9) ((Z 2).1 2)) 50 ((13 * x10) + 10) ((Z 2).1 3)) 50 ((13 * x10) + 11) ((Z 2).1 4))) (m := (mgn (mgR 0 (Z 2).1) (I 9 (4 * 2 + 0) + 1))) (by omega) hO10 (hE37) rfl rfl rfl rfl (fun c j _ hc => by
          simp only [uI]
          rw [if_neg (by omega), if_neg (by omega), if_neg (by omega), if_neg (by omega), if_neg (by omega), if_neg (by omega)]) (fun i hi => by
          have hi2 : i < 6 := hi
          match i, hi2 with
            | 0, _ => (repeat (first | rw [uI_e (by omega)] | rw [uI_j (by omega)])) <;> rfl
            | 1, _ => (repeat (first | rw [uI_e (by omega)] | rw [uI_j (by omega)])) <;> rfl
            | 2, _ => (repeat (first | rw [uI_e (by omega)] | rw [uI_j (by omega)])) <;> rfl
            | 3, _ => (repeat (first | rw [uI_e (by omega)] | rw [uI_j (by omega)])) <;> rfl
            | 4, _ => (repeat (first | rw [uI_e (by omega)] | rw [uI_j (by omega)])) <;> rfl
            | 5, _ => (repeat (first | rw [uI_e (by omega)] | rw [uI_j (by omega)])) <;> rfl)
        have hA39 : RA w B (R + 1) H hb h34 ((appI I Q (4 * 2 + 0)), (uQ Q (4 * 2 + 0) (Q (4 * 2 + 0) ++ [(mgn (mgR 0 (Z 2).1) (I 9 (4 * 2 + 0) + 1))])), Z) := RA_u.mpr ⟨_, _, _, _, hS35, hU38⟩
        rw [hms, show rsn 2 0 (mgR 0 (Z 2).1) (I, Q, Z) = mapp (4 * 2 + 0) (mgR 0 (Z 2).1) (I, Q, Z) from if_neg u5]
        exact ⟨rfl, hA39⟩
    · skip
      refine go_s (pc' := 1) rfl rfl rfl rfl ?_
      refine go_sget (pc' := 2) (v := .ref 78) hS rfl rfl rfl (by decide) rfl rfl ?_
      refine go_s (pc' := 3) (st' := [.int 0, .ref 78]) rfl rfl rfl rfl ?_
      refine go_sald (pc' := 4) (q := 0) (v := .int 0) hS rfl (tr_s hr (a := 78) rfl (by decide)) rfl rfl (by decide) (congrArg Value.int e1) rfl ?_
      refine go_s (pc' := 5) (st' := [.int (-1), .int 0]) rfl rfl rfl rfl ?_
      refine go_icmpP (t' := 7) (pc' := 6) rfl rfl rfl (fun _ => ?_) (fun (c : ¬ (¬ (0 : Int32) = (-1))) => absurd (by decide) c)
      refine go_s (pc' := 8) rfl rfl rfl rfl ?_
      refine go_s (pc' := 9) rfl rfl rfl rfl ?_
      refine go_sget (pc' := 10) (v := .ref 78) hS rfl rfl rfl (by decide) rfl rfl ?_
      refine go_s (pc' := 11) rfl rfl rfl rfl ?_
      refine go_sald (pc' := 12) (q := 1) (v := .int 3) hS rfl (tr_s hr (a := 78) rfl (by decide)) rfl rfl (by decide) (congrArg Value.int e3) rfl ?_
      refine go_s (pc' := 13) rfl rfl rfl rfl ?_
      refine go_sget (pc' := 14) (v := .ref 78) hS rfl rfl rfl (by decide) rfl rfl ?_
      refine go_s (pc' := 15) (st' := [.int 0, .ref 78, .int 3, .ref 62]) rfl rfl rfl rfl ?_
      refine go_sald (pc' := 16) (q := 0) (v := .int 0) hS rfl (tr_s hr (a := 78) rfl (by decide)) rfl rfl (by decide) (congrArg Value.int e1) rfl ?_
      refine go_s (pc' := 17) (st' := [.int 1, .int 0, .int 3, .ref 62]) rfl rfl rfl rfl ?_
      refine go_s (pc' := 18) rfl rfl rfl rfl ?_
      refine go_s (pc' := 19) (st' := [.int 1, .int 1, .int 1, .int 0, .int 3, .ref 62]) rfl rfl rfl rfl ?_
      refine go_s (pc' := 20) (st' := [.int 0, .int 1, .int 0, .int 3, .ref 62]) rfl rfl rfl rfl ?_
      have hU40 : RU w B R H hb h am ln K (I, Q, Z) := RU_I (sm_e_refl (tbr am (13 * ln) 77 5088) _) (I' := I) (fun _ => rfl) (fun _ => rfl) (Nat.le_refl _) hU
      by_cases u41 : I 0 0 = 0
      · skip
        refine go_callV (pc' := 21) rfl rfl rfl (Nat.le_of_ble_eq_true rfl) rfl (sm_o hS rfl) rfl rfl rfl (rn_snd_0 hS hU40 (by omega) (f := 3) (t := 0) (by decide) (by decide) u41 (by omega)) (fun r h42 q43 => ?_)
        obtain ⟨rfl, rfl⟩ := q43
        refine go_s (pc' := 22) (lo' := [some (.ref 62), some (.int 1), some (.int (-1)), none]) rfl rfl rfl rfl ?_
        refine go_s (pc' := 23) rfl rfl rfl rfl ?_
        refine go_s (pc' := 24) (st' := [.int (-1), .int (-1)]) rfl rfl rfl rfl ?_
        refine go_icmpP (t' := 26) (pc' := 25) rfl rfl rfl (fun (c : ¬ ((-1) : Int32) = (-1)) => absurd c (by decide)) (fun _ => ?_)
        refine go_ret rfl rfl ?_
        have hms : rsr 0 (I, Q, Z) = rsn 3 0 (mgR 0 (Z 3).1) (I, Q, Z) := by
          unfold rsr
          rw [if_neg (show ¬ (I, Q, Z).1 11 0 = -1 from (fun z => absurd (e1.symm.trans z) (by decide))), show pn (I, Q, Z).1 (1 + 0) = 3 from pn_l (v := 3) e3 (by decide), show pn (I, Q, Z).1 0 = 0 from pn_l (v := 0) e1 (by decide), show row1 (I, Q, Z) (1 + 0) = (Z 3).1 from row1_l (v := 3) e3 (by decide)]
        rw [hms, show rsn 3 0 (mgR 0 (Z 3).1) (I, Q, Z) = (I, Q, Z) from if_pos u41]
        exact ⟨rfl, RA_R (by omega) hA⟩
      · skip
        refine go_callV (pc' := 21) rfl rfl rfl (Nat.le_of_ble_eq_true rfl) rfl (sm_o hS rfl) rfl rfl rfl (rn_snd_1 hS hU40 (by omega) (f := 3) (t := 0) (by decide) (by decide) u41 (by omega)) (fun r h44 q45 => ?_)
        obtain ⟨x46, am46, ln46, K46, rfl, hS46, hO46⟩ := q45
        obtain ⟨hx46, hln46, hr46, hWm46⟩ := RO_x hO46 (by omega)
        have ep47 : (appI I Q (4 * 3 + 0)) 11 0 = 0 := (congrFun (appI_o (by decide) (by decide) (by decide)) 0).trans e1
        have ep48 : (appI I Q (4 * 3 + 0)) 11 1 = 3 := (congrFun (appI_o (by decide) (by decide) (by decide)) 1).trans e3
        refine go_s (pc' := 22) (lo' := [some (.ref 62), some (.int 1), some (.int (nI (13 * x46))), none]) rfl rfl rfl rfl ?_
        refine go_s (pc' := 23) rfl rfl rfl rfl ?_
        refine go_s (pc' := 24) (st' := [.int (-1), .int (nI (13 * x46))]) rfl rfl rfl rfl ?_
        refine go_icmpP (t' := 26) (pc' := 25) rfl rfl rfl (fun _ => ?_) (fun (c : ¬ (¬ (nI (13 * x46)) = (-1))) => absurd (nI_nm1 (by omega)) c)
        refine go_s (pc' := 27) rfl rfl rfl rfl ?_
        refine go_s (pc' := 28) rfl rfl rfl rfl ?_
        refine go_callV (pc' := 29) rfl rfl rfl (Nat.le_of_ble_eq_true rfl) rfl (sm_o hS46 rfl) rfl rfl rfl (rt_at_1 hr46 hS46 (Or.inr (Or.inr ep48)) (fun z => absurd (ep48.symm.trans z) (by decide)) (by omega)) (fun r h49 q50 => ?_)
        obtain ⟨rfl, rfl⟩ := q50
        rw [show rwi (jn (appI I Q (4 * 3 + 0)) K46) 1 = 3 by unfold rwi pn; rw [show (jn (appI I Q (4 * 3 + 0)) K46) 11 1 = 3 from ep48]; rfl]
        show am_Go _ _ _ _ 29 _ [.int 1272] _ _
        refine go_s (pc' := 30) (lo' := [some (.ref 62), some (.int 1), some (.int (nI (13 * x46))), some (.int 1272)]) rfl rfl rfl rfl ?_
        refine go_s (pc' := 31) rfl rfl rfl rfl ?_
        refine go_sget (pc' := 32) (v := .ref am46) hS46 rfl rfl rfl (by decide) rfl rfl ?_
        refine go_s (pc' := 33) rfl rfl rfl rfl ?_
        refine go_s (pc' := 34) (st' := [.int 6, .int (nI (13 * x46)), .ref am46]) rfl rfl rfl rfl ?_
        refine go_nadd (pc' := 35) (a := (13 * x46)) (b := 6) rfl rfl rfl rfl rfl ?_
        refine go_s (pc' := 36) rfl rfl rfl rfl ?_
        refine go_sget (pc' := 37) (v := .ref 77) hS46 rfl rfl rfl (by decide) rfl rfl ?_
        refine go_s (pc' := 38) rfl rfl rfl rfl ?_
        refine go_s (pc' := 39) (st' := [.int 11, .int 1272, .ref 77, .int (nI ((13 * x46) + 6)), .ref am46]) rfl rfl rfl rfl ?_
        refine go_s (pc' := 40) (st' := [.int 1283, .ref 77, .int (nI ((13 * x46) + 6)), .ref am46]) rfl rfl rfl rfl ?_
        refine go_sald (pc' := 41) (q := 1283) (v := .int ((Z 3).1 11)) hS46 rfl (tr_as hr46 (by omega)) rfl rfl (by decide) (congrArg Value.int (RR_t hO46.2.1 (i := 3) (by decide) (by decide) 11 (by decide))) rfl ?_
        refine go_siast (pc' := 42) (q := ((13 * x46) + 6)) hS46 rfl (tr_ms hr46 (by omega)) tbr_inj (Nat.le_of_ble_eq_true rfl) rfl (by omega) (rk_0 hr46).1 hWm46 rfl (fun h51 hS52 hE53 => ?_)
        refine go_s (pc' := 43) rfl rfl rfl rfl ?_
        refine go_sget (pc' := 44) (v := .ref am46) hS52 rfl rfl rfl (by decide) rfl rfl ?_
        refine go_s (pc' := 45) rfl rfl rfl rfl ?_
        refine go_s (pc' := 46) (st' := [.int 7, .int (nI (13 * x46)), .ref am46]) rfl rfl rfl rfl ?_
        refine go_nadd (pc' := 47) (a := (13 * x46)) (b := 7) rfl rfl rfl rfl rfl ?_
        refine go_s (pc' := 48) rfl rfl rfl rfl ?_
        refine go_sget (pc' := 49) (v := .ref 77) hS52 rfl rfl rfl (by decide) rfl rfl ?_
        refine go_s (pc' := 50) rfl rfl rfl rfl ?_
        refine go_s (pc' := 51) (st' := [.int 0, .int 1272, .ref 77, .int (nI ((13 * x46) + 7)), .ref am46]) rfl rfl rfl rfl ?_
        refine go_s (pc' := 52) (st' := [.int 1272, .ref 77, .int (nI ((13 * x46) + 7)), .ref am46]) rfl rfl rfl rfl ?_
        refine go_sald (pc' := 53) (q := 1272) (v := .int ((Z 3).1 0)) hS52 rfl (tr_as hr46 (by omega)) rfl rfl (by decide) (congrArg Value.int (RR_t hO46.2.1 (i := 3) (by decide) (by decide) 0 (by decide))) rfl ?_
        refine go_siast (pc' := 54) (q := ((13 * x46) + 7)) hS52 rfl (tr_ms hr46 (by omega)) tbr_inj (Nat.le_of_ble_eq_true rfl) rfl (by omega) (rk_0 hr46).1 hWm46 rfl (fun h54 hS55 hE56 => ?_)
        have hE57 := sm_e_trans hE53 hE56
        refine go_s (pc' := 55) rfl rfl rfl rfl ?_
        refine go_sget (pc' := 56) (v := .ref am46) hS55 rfl rfl rfl (by decide) rfl rfl ?_
        refine go_s (pc' := 57) rfl rfl rfl rfl ?_
        refine go_s (pc' := 58) (st' := [.int 8, .int (nI (13 * x46)), .ref am46]) rfl rfl rfl rfl ?_
        refine go_nadd (pc' := 59) (a := (13 * x46)) (b := 8) rfl rfl rfl rfl rfl ?_
        refine go_s (pc' := 60) rfl rfl rfl rfl ?_
        refine go_sget (pc' := 61) (v := .ref 77) hS55 rfl rfl rfl (by decide) rfl rfl ?_
        refine go_s (pc' := 62) rfl rfl rfl rfl ?_
        refine go_s (pc' := 63) (st' := [.int 5, .int 1272, .ref 77, .int (nI ((13 * x46) + 8)), .ref am46]) rfl rfl rfl rfl ?_
        refine go_s (pc' := 64) (st' := [.int 1277, .ref 77, .int (nI ((13 * x46) + 8)), .ref am46]) rfl rfl rfl rfl ?_
        refine go_sald (pc' := 65) (q := 1277) (v := .int ((Z 3).1 5)) hS55 rfl (tr_as hr46 (by omega)) rfl rfl (by decide) (congrArg Value.int (RR_t hO46.2.1 (i := 3) (by decide) (by decide) 5 (by decide))) rfl ?_
        refine go_siast (pc' := 66) (q := ((13 * x46) + 8)) hS55 rfl (tr_ms hr46 (by omega)) tbr_inj (Nat.le_of_ble_eq_true rfl) rfl (by omega) (rk_0 hr46).1 hWm46 rfl (fun h58 hS59 hE60 => ?_)
        have hE61 := sm_e_trans hE57 hE60
        refine go_s (pc' := 67) rfl rfl rfl rfl ?_
        refine go_sget (pc' := 68) (v := .ref am46) hS59 rfl rfl rfl (by decide) rfl rfl ?_
        refine go_s (pc' := 69) rfl rfl rfl rfl ?_
        refine go_s (pc' := 70) (st' := [.int 9, .int (nI (13 * x46)), .ref am46]) rfl rfl rfl rfl ?_
        refine go_nadd (pc' := 71) (a := (13 * x46)) (b := 9) rfl rfl rfl rfl rfl ?_
        refine go_s (pc' := 72) rfl rfl rfl rfl ?_
        refine go_sget (pc' := 73) (v := .ref 77) hS59 rfl rfl rfl (by decide) rfl rfl ?_
        refine go_s (pc' := 74) rfl rfl rfl rfl ?_
        refine go_s (pc' := 75) (st' := [.int 2, .int 1272, .ref 77, .int (nI ((13 * x46) + 9)), .ref am46]) rfl rfl rfl rfl ?_
        refine go_s (pc' := 76) (st' := [.int 1274, .ref 77, .int (nI ((13 * x46) + 9)), .ref am46]) rfl rfl rfl rfl ?_
        refine go_sald (pc' := 77) (q := 1274) (v := .int ((Z 3).1 2)) hS59 rfl (tr_as hr46 (by omega)) rfl rfl (by decide) (congrArg Value.int (RR_t hO46.2.1 (i := 3) (by decide) (by decide) 2 (by decide))) rfl ?_
        refine go_siast (pc' := 78) (q := ((13 * x46) + 9)) hS59 rfl (tr_ms hr46 (by omega)) tbr_inj (Nat.le_of_ble_eq_true rfl) rfl (by omega) (rk_0 hr46).1 hWm46 rfl (fun h62 hS63 hE64 => ?_)
        have hE65 := sm_e_trans hE61 hE64
        refine go_s (pc' := 79) rfl rfl rfl rfl ?_
        refine go_sget (pc' := 80) (v := .ref am46) hS63 rfl rfl rfl (by decide) rfl rfl ?_
        refine go_s (pc' := 81) rfl rfl rfl rfl ?_
        refine go_s (pc' := 82) (st' := [.int 10, .int (nI (13 * x46)), .ref am46]) rfl rfl rfl rfl ?_
        refine go_nadd (pc' := 83) (a := (13 * x46)) (b := 10) rfl rfl rfl rfl rfl ?_
        refine go_s (pc' := 84) rfl rfl rfl rfl ?_
        refine go_sget (pc' := 85) (v := .ref 77) hS63 rfl rfl rfl (by decide) rfl rfl ?_
        refine go_s (pc' := 86) rfl rfl rfl rfl ?_
        refine go_s (pc' := 87) (st' := [.int 3, .int 1272, .ref 77, .int (nI ((13 * x46) + 10)), .ref am46]) rfl rfl rfl rfl ?_
        refine go_s (pc' := 88) (st' := [.int 1275, .ref 77, .int (nI ((13 * x46) + 10)), .ref am46]) rfl rfl rfl rfl ?_
        refine go_sald (pc' := 89) (q := 1275) (v := .int ((Z 3).1 3)) hS63 rfl (tr_as hr46 (by omega)) rfl rfl (by decide) (congrArg Value.int (RR_t hO46.2.1 (i := 3) (by decide) (by decide) 3 (by decide))) rfl ?_
        refine go_siast (pc' := 90) (q := ((13 * x46) + 10)) hS63 rfl (tr_ms hr46 (by omega)) tbr_inj (Nat.le_of_ble_eq_true rfl) rfl (by omega) (rk_0 hr46).1 hWm46 rfl (fun h66 hS67 hE68 => ?_)
        have hE69 := sm_e_trans hE65 hE68
        refine go_s (pc' := 91) rfl rfl rfl rfl ?_
        refine go_sget (pc' := 92) (v := .ref am46) hS67 rfl rfl rfl (by decide) rfl rfl ?_
        refine go_s (pc' := 93) rfl rfl rfl rfl ?_
        refine go_s (pc' := 94) (st' := [.int 11, .int (nI (13 * x46)), .ref am46]) rfl rfl rfl rfl ?_
        refine go_nadd (pc' := 95) (a := (13 * x46)) (b := 11) rfl rfl rfl rfl rfl ?_
        refine go_s (pc' := 96) rfl rfl rfl rfl ?_
        refine go_sget (pc' := 97) (v := .ref 77) hS67 rfl rfl rfl (by decide) rfl rfl ?_
        refine go_s (pc' := 98) rfl rfl rfl rfl ?_
        refine go_s (pc' := 99) (st' := [.int 4, .int 1272, .ref 77, .int (nI ((13 * x46) + 11)), .ref am46]) rfl rfl rfl rfl ?_
        refine go_s (pc' := 100) (st' := [.int 1276, .ref 77, .int (nI ((13 * x46) + 11)), .ref am46]) rfl rfl rfl rfl ?_
        refine go_sald (pc' := 101) (q := 1276) (v := .int ((Z 3).1 4)) hS67 rfl (tr_as hr46 (by omega)) rfl rfl (by decide) (congrArg Value.int (RR_t hO46.2.1 (i := 3) (by decide) (by decide) 4 (by decide))) rfl ?_
        refine go_siast (pc' := 102) (q := ((13 * x46) + 11)) hS67 rfl (tr_ms hr46 (by omega)) tbr_inj (Nat.le_of_ble_eq_true rfl) rfl (by omega) (rk_0 hr46).1 hWm46 rfl (fun h70 hS71 hE72 => ?_)
        have hE73 := sm_e_trans hE69 hE72
        refine go_ret rfl rfl ?_
        have hms : rsr 0 (I, Q, Z) = rsn 3 0 (mgR 0 (Z 3).1) (I, Q, Z) := by
          unfold rsr
          rw [if_neg (show ¬ (I, Q, Z).1 11 0 = -1 from (fun z => absurd (e1.symm.trans z) (by decide))), show pn (I, Q, Z).1 (1 + 0) = 3 from pn_l (v := 3) e3 (by decide), show pn (I, Q, Z).1 0 = 0 from pn_l (v := 0) e1 (by decide), show row1 (I, Q, Z) (1 + 0) = (Z 3).1 from row1_l (v := 3) e3 (by decide)]
        change sm (tbr am46 (13 * ln46) 77 5088) _ (uI (uI (uI (uI (uI (uI (jn (appI I Q (4 * 3 + 0)) K46) 50 ((13 * x46) + 6) ((Z 3).1 11)) 50 ((13 * x46) + 7) ((Z 3).1 0)) 50 ((13 * x46) + 8) ((Z 3).1 5)) 50 ((13 * x46) + 9) ((Z 3).1 2)) 50 ((13 * x46) + 10) ((Z 3).1 3)) 50 ((13 * x46) + 11) ((Z 3).1 4)) Y at hS71
        rw [jn_hi (c := 50) (by decide), jn_hi (c := 50) (by decide), jn_hi (c := 50) (by decide), jn_hi (c := 50) (by decide), jn_hi (c := 50) (by decide), jn_hi (c := 50) (by decide)] at hS71
        have hU74 := RO_cl (K' := (uI (uI (uI (uI (uI (uI K46 50 ((13 * x46) + 6) ((Z 3).1 11)) 50 ((13 * x46) + 7) ((Z 3).1 0)) 50 ((13 * x46) + 8) ((Z 3).1 5)) 50 ((13 * x46) + 9) ((Z 3).1 2)) 50 ((13 * x46) + 10) ((Z 3).1 3)) 50 ((13 * x46) + 11) ((Z 3).1 4))) (m := (mgn (mgR 0 (Z 3).1) (I 9 (4 * 3 + 0) + 1))) (by omega) hO46 (hE73) rfl rfl rfl rfl (fun c j _ hc => by
          simp only [uI]
          rw [if_neg (by omega), if_neg (by omega), if_neg (by omega), if_neg (by omega), if_neg (by omega), if_neg (by omega)]) (fun i hi => by
          have hi2 : i < 6 := hi
          match i, hi2 with
            | 0, _ => (repeat (first | rw [uI_e (by omega)] | rw [uI_j (by omega)])) <;> rfl
            | 1, _ => (repeat (first | rw [uI_e (by omega)] | rw [uI_j (by omega)])) <;> rfl
            | 2, _ => (repeat (first | rw [uI_e (by omega)] | rw [uI_j (by omega)])) <;> rfl
            | 3, _ => (repeat (first | rw [uI_e (by omega)] | rw [uI_j (by omega)])) <;> rfl
            | 4, _ => (repeat (first | rw [uI_e (by omega)] | rw [uI_j (by omega)])) <;> rfl
            | 5, _ => (repeat (first | rw [uI_e (by omega)] | rw [uI_j (by omega)])) <;> rfl)
        have hA75 : RA w B (R + 1) H hb h70 ((appI I Q (4 * 3 + 0)), (uQ Q (4 * 3 + 0) (Q (4 * 3 + 0) ++ [(mgn (mgR 0 (Z 3).1) (I 9 (4 * 3 + 0) + 1))])), Z) := RA_u.mpr ⟨_, _, _, _, hS71, hU74⟩
        rw [hms, show rsn 3 0 (mgR 0 (Z 3).1) (I, Q, Z) = mapp (4 * 3 + 0) (mgR 0 (Z 3).1) (I, Q, Z) from if_neg u41]
        exact ⟨rfl, hA75⟩
  · skip
    rcases hpk with e76 | e76 | e76
    · skip
      exact absurd e76 hnk
    · skip
      refine go_s (pc' := 1) rfl rfl rfl rfl ?_
      refine go_sget (pc' := 2) (v := .ref 78) hS rfl rfl rfl (by decide) rfl rfl ?_
      refine go_s (pc' := 3) (st' := [.int 0, .ref 78]) rfl rfl rfl rfl ?_
      refine go_sald (pc' := 4) (q := 0) (v := .int 1) hS rfl (tr_s hr (a := 78) rfl (by decide)) rfl rfl (by decide) (congrArg Value.int e1) rfl ?_
      refine go_s (pc' := 5) (st' := [.int (-1), .int 1]) rfl rfl rfl rfl ?_
      refine go_icmpP (t' := 7) (pc' := 6) rfl rfl rfl (fun _ => ?_) (fun (c : ¬ (¬ (1 : Int32) = (-1))) => absurd (by decide) c)
      refine go_s (pc' := 8) rfl rfl rfl rfl ?_
      refine go_s (pc' := 9) rfl rfl rfl rfl ?_
      refine go_sget (pc' := 10) (v := .ref 78) hS rfl rfl rfl (by decide) rfl rfl ?_
      refine go_s (pc' := 11) rfl rfl rfl rfl ?_
      refine go_sald (pc' := 12) (q := 1) (v := .int 2) hS rfl (tr_s hr (a := 78) rfl (by decide)) rfl rfl (by decide) (congrArg Value.int e76) rfl ?_
      refine go_s (pc' := 13) rfl rfl rfl rfl ?_
      refine go_sget (pc' := 14) (v := .ref 78) hS rfl rfl rfl (by decide) rfl rfl ?_
      refine go_s (pc' := 15) (st' := [.int 0, .ref 78, .int 2, .ref 62]) rfl rfl rfl rfl ?_
      refine go_sald (pc' := 16) (q := 0) (v := .int 1) hS rfl (tr_s hr (a := 78) rfl (by decide)) rfl rfl (by decide) (congrArg Value.int e1) rfl ?_
      refine go_s (pc' := 17) (st' := [.int 1, .int 1, .int 2, .ref 62]) rfl rfl rfl rfl ?_
      refine go_s (pc' := 18) rfl rfl rfl rfl ?_
      refine go_s (pc' := 19) (st' := [.int 1, .int 1, .int 1, .int 1, .int 2, .ref 62]) rfl rfl rfl rfl ?_
      refine go_s (pc' := 20) (st' := [.int 0, .int 1, .int 1, .int 2, .ref 62]) rfl rfl rfl rfl ?_
      have hU77 : RU w B R H hb h am ln K (I, Q, Z) := RU_I (sm_e_refl (tbr am (13 * ln) 77 5088) _) (I' := I) (fun _ => rfl) (fun _ => rfl) (Nat.le_refl _) hU
      by_cases u78 : I 0 1 = 0
      · skip
        refine go_callV (pc' := 21) rfl rfl rfl (Nat.le_of_ble_eq_true rfl) rfl (sm_o hS rfl) rfl rfl rfl (rn_snd_0 hS hU77 (by omega) (f := 2) (t := 1) (by decide) (by decide) u78 (by omega)) (fun r h79 q80 => ?_)
        obtain ⟨rfl, rfl⟩ := q80
        refine go_s (pc' := 22) (lo' := [some (.ref 62), some (.int 1), some (.int (-1)), none]) rfl rfl rfl rfl ?_
        refine go_s (pc' := 23) rfl rfl rfl rfl ?_
        refine go_s (pc' := 24) (st' := [.int (-1), .int (-1)]) rfl rfl rfl rfl ?_
        refine go_icmpP (t' := 26) (pc' := 25) rfl rfl rfl (fun (c : ¬ ((-1) : Int32) = (-1)) => absurd c (by decide)) (fun _ => ?_)
        refine go_ret rfl rfl ?_
        have hms : rsr 0 (I, Q, Z) = rsn 2 1 (mgR 0 (Z 2).1) (I, Q, Z) := by
          unfold rsr
          rw [if_neg (show ¬ (I, Q, Z).1 11 0 = -1 from (fun z => absurd (e1.symm.trans z) (by decide))), show pn (I, Q, Z).1 (1 + 0) = 2 from pn_l (v := 2) e76 (by decide), show pn (I, Q, Z).1 0 = 1 from pn_l (v := 1) e1 (by decide), show row1 (I, Q, Z) (1 + 0) = (Z 2).1 from row1_l (v := 2) e76 (by decide)]
        rw [hms, show rsn 2 1 (mgR 0 (Z 2).1) (I, Q, Z) = (I, Q, Z) from if_pos u78]
        exact ⟨rfl, RA_R (by omega) hA⟩
      · skip
        refine go_callV (pc' := 21) rfl rfl rfl (Nat.le_of_ble_eq_true rfl) rfl (sm_o hS rfl) rfl rfl rfl (rn_snd_1 hS hU77 (by omega) (f := 2) (t := 1) (by decide) (by decide) u78 (by omega)) (fun r h81 q82 => ?_)
        obtain ⟨x83, am83, ln83, K83, rfl, hS83, hO83⟩ := q82
        obtain ⟨hx83, hln83, hr83, hWm83⟩ := RO_x hO83 (by omega)
        have ep84 : (appI I Q (4 * 2 + 1)) 11 0 = 1 := (congrFun (appI_o (by decide) (by decide) (by decide)) 0).trans e1
        have ep85 : (appI I Q (4 * 2 + 1)) 11 1 = 2 := (congrFun (appI_o (by decide) (by decide) (by decide)) 1).trans e76
        refine go_s (pc' := 22) (lo' := [some (.ref 62), some (.int 1), some (.int (nI (13 * x83))), none]) rfl rfl rfl rfl ?_
        refine go_s (pc' := 23) rfl rfl rfl rfl ?_
        refine go_s (pc' := 24) (st' := [.int (-1), .int (nI (13 * x83))]) rfl rfl rfl rfl ?_
        refine go_icmpP (t' := 26) (pc' := 25) rfl rfl rfl (fun _ => ?_) (fun (c : ¬ (¬ (nI (13 * x83)) = (-1))) => absurd (nI_nm1 (by omega)) c)
        refine go_s (pc' := 27) rfl rfl rfl rfl ?_
        refine go_s (pc' := 28) rfl rfl rfl rfl ?_
        refine go_callV (pc' := 29) rfl rfl rfl (Nat.le_of_ble_eq_true rfl) rfl (sm_o hS83 rfl) rfl rfl rfl (rt_at_1 hr83 hS83 (Or.inr (Or.inl ep85)) (fun z => absurd (ep85.symm.trans z) (by decide)) (by omega)) (fun r h86 q87 => ?_)
        obtain ⟨rfl, rfl⟩ := q87
        rw [show rwi (jn (appI I Q (4 * 2 + 1)) K83) 1 = 2 by unfold rwi pn; rw [show (jn (appI I Q (4 * 2 + 1)) K83) 11 1 = 2 from ep85]; rfl]
        show am_Go _ _ _ _ 29 _ [.int 848] _ _
        refine go_s (pc' := 30) (lo' := [some (.ref 62), some (.int 1), some (.int (nI (13 * x83))), some (.int 848)]) rfl rfl rfl rfl ?_
        refine go_s (pc' := 31) rfl rfl rfl rfl ?_
        refine go_sget (pc' := 32) (v := .ref am83) hS83 rfl rfl rfl (by decide) rfl rfl ?_
        refine go_s (pc' := 33) rfl rfl rfl rfl ?_
        refine go_s (pc' := 34) (st' := [.int 6, .int (nI (13 * x83)), .ref am83]) rfl rfl rfl rfl ?_
        refine go_nadd (pc' := 35) (a := (13 * x83)) (b := 6) rfl rfl rfl rfl rfl ?_
        refine go_s (pc' := 36) rfl rfl rfl rfl ?_
        refine go_sget (pc' := 37) (v := .ref 77) hS83 rfl rfl rfl (by decide) rfl rfl ?_
        refine go_s (pc' := 38) rfl rfl rfl rfl ?_
        refine go_s (pc' := 39) (st' := [.int 11, .int 848, .ref 77, .int (nI ((13 * x83) + 6)), .ref am83]) rfl rfl rfl rfl ?_
        refine go_s (pc' := 40) (st' := [.int 859, .ref 77, .int (nI ((13 * x83) + 6)), .ref am83]) rfl rfl rfl rfl ?_
        refine go_sald (pc' := 41) (q := 859) (v := .int ((Z 2).1 11)) hS83 rfl (tr_as hr83 (by omega)) rfl rfl (by decide) (congrArg Value.int (RR_t hO83.2.1 (i := 2) (by decide) (by decide) 11 (by decide))) rfl ?_
        refine go_siast (pc' := 42) (q := ((13 * x83) + 6)) hS83 rfl (tr_ms hr83 (by omega)) tbr_inj (Nat.le_of_ble_eq_true rfl) rfl (by omega) (rk_0 hr83).1 hWm83 rfl (fun h88 hS89 hE90 => ?_)
        refine go_s (pc' := 43) rfl rfl rfl rfl ?_
        refine go_sget (pc' := 44) (v := .ref am83) hS89 rfl rfl rfl (by decide) rfl rfl ?_
        refine go_s (pc' := 45) rfl rfl rfl rfl ?_
        refine go_s (pc' := 46) (st' := [.int 7, .int (nI (13 * x83)), .ref am83]) rfl rfl rfl rfl ?_
        refine go_nadd (pc' := 47) (a := (13 * x83)) (b := 7) rfl rfl rfl rfl rfl ?_
        refine go_s (pc' := 48) rfl rfl rfl rfl ?_
        refine go_sget (pc' := 49) (v := .ref 77) hS89 rfl rfl rfl (by decide) rfl rfl ?_
        refine go_s (pc' := 50) rfl rfl rfl rfl ?_
        refine go_s (pc' := 51) (st' := [.int 0, .int 848, .ref 77, .int (nI ((13 * x83) + 7)), .ref am83]) rfl rfl rfl rfl ?_
        refine go_s (pc' := 52) (st' := [.int 848, .ref 77, .int (nI ((13 * x83) + 7)), .ref am83]) rfl rfl rfl rfl ?_
        refine go_sald (pc' := 53) (q := 848) (v := .int ((Z 2).1 0)) hS89 rfl (tr_as hr83 (by omega)) rfl rfl (by decide) (congrArg Value.int (RR_t hO83.2.1 (i := 2) (by decide) (by decide) 0 (by decide))) rfl ?_
        refine go_siast (pc' := 54) (q := ((13 * x83) + 7)) hS89 rfl (tr_ms hr83 (by omega)) tbr_inj (Nat.le_of_ble_eq_true rfl) rfl (by omega) (rk_0 hr83).1 hWm83 rfl (fun h91 hS92 hE93 => ?_)
        have hE94 := sm_e_trans hE90 hE93
        refine go_s (pc' := 55) rfl rfl rfl rfl ?_
        refine go_sget (pc' := 56) (v := .ref am83) hS92 rfl rfl rfl (by decide) rfl rfl ?_
        refine go_s (pc' := 57) rfl rfl rfl rfl ?_
        refine go_s (pc' := 58) (st' := [.int 8, .int (nI (13 * x83)), .ref am83]) rfl rfl rfl rfl ?_
        refine go_nadd (pc' := 59) (a := (13 * x83)) (b := 8) rfl rfl rfl rfl rfl ?_
        refine go_s (pc' := 60) rfl rfl rfl rfl ?_
        refine go_sget (pc' := 61) (v := .ref 77) hS92 rfl rfl rfl (by decide) rfl rfl ?_
        refine go_s (pc' := 62) rfl rfl rfl rfl ?_
        refine go_s (pc' := 63) (st' := [.int 5, .int 848, .ref 77, .int (nI ((13 * x83) + 8)), .ref am83]) rfl rfl rfl rfl ?_
        refine go_s (pc' := 64) (st' := [.int 853, .ref 77, .int (nI ((13 * x83) + 8)), .ref am83]) rfl rfl rfl rfl ?_
        refine go_sald (pc' := 65) (q := 853) (v := .int ((Z 2).1 5)) hS92 rfl (tr_as hr83 (by omega)) rfl rfl (by decide) (congrArg Value.int (RR_t hO83.2.1 (i := 2) (by decide) (by decide) 5 (by decide))) rfl ?_
        refine go_siast (pc' := 66) (q := ((13 * x83) + 8)) hS92 rfl (tr_ms hr83 (by omega)) tbr_inj (Nat.le_of_ble_eq_true rfl) rfl (by omega) (rk_0 hr83).1 hWm83 rfl (fun h95 hS96 hE97 => ?_)
        have hE98 := sm_e_trans hE94 hE97
        refine go_s (pc' := 67) rfl rfl rfl rfl ?_
        refine go_sget (pc' := 68) (v := .ref am83) hS96 rfl rfl rfl (by decide) rfl rfl ?_
        refine go_s (pc' := 69) rfl rfl rfl rfl ?_
        refine go_s (pc' := 70) (st' := [.int 9, .int (nI (13 * x83)), .ref am83]) rfl rfl rfl rfl ?_
        refine go_nadd (pc' := 71) (a := (13 * x83)) (b := 9) rfl rfl rfl rfl rfl ?_
        refine go_s (pc' := 72) rfl rfl rfl rfl ?_
        refine go_sget (pc' := 73) (v := .ref 77) hS96 rfl rfl rfl (by decide) rfl rfl ?_
        refine go_s (pc' := 74) rfl rfl rfl rfl ?_
        refine go_s (pc' := 75) (st' := [.int 2, .int 848, .ref 77, .int (nI ((13 * x83) + 9)), .ref am83]) rfl rfl rfl rfl ?_
        refine go_s (pc' := 76) (st' := [.int 850, .ref 77, .int (nI ((13 * x83) + 9)), .ref am83]) rfl rfl rfl rfl ?_
        refine go_sald (pc' := 77) (q := 850) (v := .int ((Z 2).1 2)) hS96 rfl (tr_as hr83 (by omega)) rfl rfl (by decide) (congrArg Value.int (RR_t hO83.2.1 (i := 2) (by decide) (by decide) 2 (by decide))) rfl ?_
        refine go_siast (pc' := 78) (q := ((13 * x83) + 9)) hS96 rfl (tr_ms hr83 (by omega)) tbr_inj (Nat.le_of_ble_eq_true rfl) rfl (by omega) (rk_0 hr83).1 hWm83 rfl (fun h99 hS100 hE101 => ?_)
        have hE102 := sm_e_trans hE98 hE101
        refine go_s (pc' := 79) rfl rfl rfl rfl ?_
        refine go_sget (pc' := 80) (v := .ref am83) hS100 rfl rfl rfl (by decide) rfl rfl ?_
        refine go_s (pc' := 81) rfl rfl rfl rfl ?_
        refine go_s (pc' := 82) (st' := [.int 10, .int (nI (13 * x83)), .ref am83]) rfl rfl rfl rfl ?_
        refine go_nadd (pc' := 83) (a := (13 * x83)) (b := 10) rfl rfl rfl rfl rfl ?_
        refine go_s (pc' := 84) rfl rfl rfl rfl ?_
        refine go_sget (pc' := 85) (v := .ref 77) hS100 rfl rfl rfl (by decide) rfl rfl ?_
        refine go_s (pc' := 86) rfl rfl rfl rfl ?_
        refine go_s (pc' := 87) (st' := [.int 3, .int 848, .ref 77, .int (nI ((13 * x83) + 10)), .ref am83]) rfl rfl rfl rfl ?_
        refine go_s (pc' := 88) (st' := [.int 851, .ref 77, .int (nI ((13 * x83) + 10)), .ref am83]) rfl rfl rfl rfl ?_
        refine go_sald (pc' := 89) (q := 851) (v := .int ((Z 2).1 3)) hS100 rfl (tr_as hr83 (by omega)) rfl rfl (by decide) (congrArg Value.int (RR_t hO83.2.1 (i := 2) (by decide) (by decide) 3 (by decide))) rfl ?_
        refine go_siast (pc' := 90) (q := ((13 * x83) + 10)) hS100 rfl (tr_ms hr83 (by omega)) tbr_inj (Nat.le_of_ble_eq_true rfl) rfl (by omega) (rk_0 hr83).1 hWm83 rfl (fun h103 hS104 hE105 => ?_)
        have hE106 := sm_e_trans hE102 hE105
        refine go_s (pc' := 91) rfl rfl rfl rfl ?_
        refine go_sget (pc' := 92) (v := .ref am83) hS104 rfl rfl rfl (by decide) rfl rfl ?_
        refine go_s (pc' := 93) rfl rfl rfl rfl ?_
        refine go_s (pc' := 94) (st' := [.int 11, .int (nI (13 * x83)), .ref am83]) rfl rfl rfl rfl ?_
        refine go_nadd (pc' := 95) (a := (13 * x83)) (b := 11) rfl rfl rfl rfl rfl ?_
        refine go_s (pc' := 96) rfl rfl rfl rfl ?_
        refine go_sget (pc' := 97) (v := .ref 77) hS104 rfl rfl rfl (by decide) rfl rfl ?_
        refine go_s (pc' := 98) rfl rfl rfl rfl ?_
        refine go_s (pc' := 99) (st' := [.int 4, .int 848, .ref 77, .int (nI ((13 * x83) + 11)), .ref am83]) rfl rfl rfl rfl ?_
        refine go_s (pc' := 100) (st' := [.int 852, .ref 77, .int (nI ((13 * x83) + 11)), .ref am83]) rfl rfl rfl rfl ?_
        refine go_sald (pc' := 101) (q := 852) (v := .int ((Z 2).1 4)) hS104 rfl (tr_as hr83 (by omega)) rfl rfl (by decide) (congrArg Value.int (RR_t hO83.2.1 (i := 2) (by decide) (by decide) 4 (by decide))) rfl ?_
        refine go_siast (pc' := 102) (q := ((13 * x83) + 11)) hS104 rfl (tr_ms hr83 (by omega)) tbr_inj (Nat.le_of_ble_eq_true rfl) rfl (by omega) (rk_0 hr83).1 hWm83 rfl (fun h107 hS108 hE109 => ?_)
        have hE110 := sm_e_trans hE106 hE109
        refine go_ret rfl rfl ?_
        have hms : rsr 0 (I, Q, Z) = rsn 2 1 (mgR 0 (Z 2).1) (I, Q, Z) := by
          unfold rsr
          rw [if_neg (show ¬ (I, Q, Z).1 11 0 = -1 from (fun z => absurd (e1.symm.trans z) (by decide))), show pn (I, Q, Z).1 (1 + 0) = 2 from pn_l (v := 2) e76 (by decide), show pn (I, Q, Z).1 0 = 1 from pn_l (v := 1) e1 (by decide), show row1 (I, Q, Z) (1 + 0) = (Z 2).1 from row1_l (v := 2) e76 (by decide)]
        change sm (tbr am83 (13 * ln83) 77 5088) _ (uI (uI (uI (uI (uI (uI (jn (appI I Q (4 * 2 + 1)) K83) 50 ((13 * x83) + 6) ((Z 2).1 11)) 50 ((13 * x83) + 7) ((Z 2).1 0)) 50 ((13 * x83) + 8) ((Z 2).1 5)) 50 ((13 * x83) + 9) ((Z 2).1 2)) 50 ((13 * x83) + 10) ((Z 2).1 3)) 50 ((13 * x83) + 11) ((Z 2).1 4)) Y at hS108
        rw [jn_hi (c := 50) (by decide), jn_hi (c := 50) (by decide), jn_hi (c := 50) (by decide), jn_hi (c := 50) (by decide), jn_hi (c := 50) (by decide), jn_hi (c := 50) (by decide)] at hS108
        have hU111 := RO_cl (K' := (uI (uI (uI (uI (uI (uI K83 50 ((13 * x83) + 6) ((Z 2).1 11)) 50 ((13 * x83) + 7) ((Z 2).1 0)) 50 ((13 * x83) + 8) ((Z 2).1 5)) 50 ((13 * x83) + 9) ((Z 2).1 2)) 50 ((13 * x83) + 10) ((Z 2).1 3)) 50 ((13 * x83) + 11) ((Z 2).1 4))) (m := (mgn (mgR 0 (Z 2).1) (I 9 (4 * 2 + 1) + 1))) (by omega) hO83 (hE110) rfl rfl rfl rfl (fun c j _ hc => by
          simp only [uI]
          rw [if_neg (by omega), if_neg (by omega), if_neg (by omega), if_neg (by omega), if_neg (by omega), if_neg (by omega)]) (fun i hi => by
          have hi2 : i < 6 := hi
          match i, hi2 with
            | 0, _ => (repeat (first | rw [uI_e (by omega)] | rw [uI_j (by omega)])) <;> rfl
            | 1, _ => (repeat (first | rw [uI_e (by omega)] | rw [uI_j (by omega)])) <;> rfl
            | 2, _ => (repeat (first | rw [uI_e (by omega)] | rw [uI_j (by omega)])) <;> rfl
            | 3, _ => (repeat (first | rw [uI_e (by omega)] | rw [uI_j (by omega)])) <;> rfl
            | 4, _ => (repeat (first | rw [uI_e (by omega)] | rw [uI_j (by omega)])) <;> rfl
            | 5, _ => (repeat (first | rw [uI_e (by omega)] | rw [uI_j (by omega)])) <;> rfl)
        have hA112 : RA w B (R + 1) H hb h107 ((appI I Q (4 * 2 + 1)), (uQ Q (4 * 2 + 1) (Q (4 * 2 + 1) ++ [(mgn (mgR 0 (Z 2).1) (I 9 (4 * 2 + 1) + 1))])), Z) := RA_u.mpr ⟨_, _, _, _, hS108, hU111⟩
        rw [hms, show rsn 2 1 (mgR 0 (Z 2).1) (I, Q, Z) = mapp (4 * 2 + 1) (mgR 0 (Z 2).1) (I, Q, Z) from if_neg u78]
        exact ⟨rfl, hA112⟩
    · skip
      refine go_s (pc' := 1) rfl rfl rfl rfl ?_
      refine go_sget (pc' := 2) (v := .ref 78) hS rfl rfl rfl (by decide) rfl rfl ?_
      refine go_s (pc' := 3) (st' := [.int 0, .ref 78]) rfl rfl rfl rfl ?_
      refine go_sald (pc' := 4) (q := 0) (v := .int 1) hS rfl (tr_s hr (a := 78) rfl (by decide)) rfl rfl (by decide) (congrArg Value.int e1) rfl ?_
      refine go_s (pc' := 5) (st' := [.int (-1), .int 1]) rfl rfl rfl rfl ?_
      refine go_icmpP (t' := 7) (pc' := 6) rfl rfl rfl (fun _ => ?_) (fun (c : ¬ (¬ (1 : Int32) = (-1))) => absurd (by decide) c)
      refine go_s (pc' := 8) rfl rfl rfl rfl ?_
      refine go_s (pc' := 9) rfl rfl rfl rfl ?_
      refine go_sget (pc' := 10) (v := .ref 78) hS rfl rfl rfl (by decide) rfl rfl ?_
      refine go_s (pc' := 11) rfl rfl rfl rfl ?_
      refine go_sald (pc' := 12) (q := 1) (v := .int 3) hS rfl (tr_s hr (a := 78) rfl (by decide)) rfl rfl (by decide) (congrArg Value.int e76) rfl ?_
      refine go_s (pc' := 13) rfl rfl rfl rfl ?_
      refine go_sget (pc' := 14) (v := .ref 78) hS rfl rfl rfl (by decide) rfl rfl ?_
      refine go_s (pc' := 15) (st' := [.int 0, .ref 78, .int 3, .ref 62]) rfl rfl rfl rfl ?_
      refine go_sald (pc' := 16) (q := 0) (v := .int 1) hS rfl (tr_s hr (a := 78) rfl (by decide)) rfl rfl (by decide) (congrArg Value.int e1) rfl ?_
      refine go_s (pc' := 17) (st' := [.int 1, .int 1, .int 3, .ref 62]) rfl rfl rfl rfl ?_
      refine go_s (pc' := 18) rfl rfl rfl rfl ?_
      refine go_s (pc' := 19) (st' := [.int 1, .int 1, .int 1, .int 1, .int 3, .ref 62]) rfl rfl rfl rfl ?_
      refine go_s (pc' := 20) (st' := [.int 0, .int 1, .int 1, .int 3, .ref 62]) rfl rfl rfl rfl ?_
      have hU113 : RU w B R H hb h am ln K (I, Q, Z) := RU_I (sm_e_refl (tbr am (13 * ln) 77 5088) _) (I' := I) (fun _ => rfl) (fun _ => rfl) (Nat.le_refl _) hU
      by_cases u114 : I 0 1 = 0
      · skip
        refine go_callV (pc' := 21) rfl rfl rfl (Nat.le_of_ble_eq_true rfl) rfl (sm_o hS rfl) rfl rfl rfl (rn_snd_0 hS hU113 (by omega) (f := 3) (t := 1) (by decide) (by decide) u114 (by omega)) (fun r h115 q116 => ?_)
        obtain ⟨rfl, rfl⟩ := q116
        refine go_s (pc' := 22) (lo' := [some (.ref 62), some (.int 1), some (.int (-1)), none]) rfl rfl rfl rfl ?_
        refine go_s (pc' := 23) rfl rfl rfl rfl ?_
        refine go_s (pc' := 24) (st' := [.int (-1), .int (-1)]) rfl rfl rfl rfl ?_
        refine go_icmpP (t' := 26) (pc' := 25) rfl rfl rfl (fun (c : ¬ ((-1) : Int32) = (-1)) => absurd c (by decide)) (fun _ => ?_)
        refine go_ret rfl rfl ?_
        have hms : rsr 0 (I, Q, Z) = rsn 3 1 (mgR 0 (Z 3).1) (I, Q, Z) := by
          unfold rsr
          rw [if_neg (show ¬ (I, Q, Z).1 11 0 = -1 from (fun z => absurd (e1.symm.trans z) (by decide))), show pn (I, Q, Z).1 (1 + 0) = 3 from pn_l (v := 3) e76 (by decide), show pn (I, Q, Z).1 0 = 1 from pn_l (v := 1) e1 (by decide), show row1 (I, Q, Z) (1 + 0) = (Z 3).1 from row1_l (v := 3) e76 (by decide)]
        rw [hms, show rsn 3 1 (mgR 0 (Z 3).1) (I, Q, Z) = (I, Q, Z) from if_pos u114]
        exact ⟨rfl, RA_R (by omega) hA⟩
      · skip
        refine go_callV (pc' := 21) rfl rfl rfl (Nat.le_of_ble_eq_true rfl) rfl (sm_o hS rfl) rfl rfl rfl (rn_snd_1 hS hU113 (by omega) (f := 3) (t := 1) (by decide) (by decide) u114 (by omega)) (fun r h117 q118 => ?_)
        obtain ⟨x119, am119, ln119, K119, rfl, hS119, hO119⟩ := q118
        obtain ⟨hx119, hln119, hr119, hWm119⟩ := RO_x hO119 (by omega)
        have ep120 : (appI I Q (4 * 3 + 1)) 11 0 = 1 := (congrFun (appI_o (by decide) (by decide) (by decide)) 0).trans e1
        have ep121 : (appI I Q (4 * 3 + 1)) 11 1 = 3 := (congrFun (appI_o (by decide) (by decide) (by decide)) 1).trans e76
        refine go_s (pc' := 22) (lo' := [some (.ref 62), some (.int 1), some (.int (nI (13 * x119))), none]) rfl rfl rfl rfl ?_
        refine go_s (pc' := 23) rfl rfl rfl rfl ?_
        refine go_s (pc' := 24) (st' := [.int (-1), .int (nI (13 * x119))]) rfl rfl rfl rfl ?_
        refine go_icmpP (t' := 26) (pc' := 25) rfl rfl rfl (fun _ => ?_) (fun (c : ¬ (¬ (nI (13 * x119)) = (-1))) => absurd (nI_nm1 (by omega)) c)
        refine go_s (pc' := 27) rfl rfl rfl rfl ?_
        refine go_s (pc' := 28) rfl rfl rfl rfl ?_
        refine go_callV (pc' := 29) rfl rfl rfl (Nat.le_of_ble_eq_true rfl) rfl (sm_o hS119 rfl) rfl rfl rfl (rt_at_1 hr119 hS119 (Or.inr (Or.inr ep121)) (fun z => absurd (ep121.symm.trans z) (by decide)) (by omega)) (fun r h122 q123 => ?_)
        obtain ⟨rfl, rfl⟩ := q123
        rw [show rwi (jn (appI I Q (4 * 3 + 1)) K119) 1 = 3 by unfold rwi pn; rw [show (jn (appI I Q (4 * 3 + 1)) K119) 11 1 = 3 from ep121]; rfl]
        show am_Go _ _ _ _ 29 _ [.int 1272] _ _
        refine go_s (pc' := 30) (lo' := [some (.ref 62), some (.int 1), some (.int (nI (13 * x119))), some (.int 1272)]) rfl rfl rfl rfl ?_
        refine go_s (pc' := 31) rfl rfl rfl rfl ?_
        refine go_sget (pc' := 32) (v := .ref am119) hS119 rfl rfl rfl (by decide) rfl rfl ?_
        refine go_s (pc' := 33) rfl rfl rfl rfl ?_
        refine go_s (pc' := 34) (st' := [.int 6, .int (nI (13 * x119)), .ref am119]) rfl rfl rfl rfl ?_
        refine go_nadd (pc' := 35) (a := (13 * x119)) (b := 6) rfl rfl rfl rfl rfl ?_
        refine go_s (pc' := 36) rfl rfl rfl rfl ?_
        refine go_sget (pc' := 37) (v := .ref 77) hS119 rfl rfl rfl (by decide) rfl rfl ?_
        refine go_s (pc' := 38) rfl rfl rfl rfl ?_
        refine go_s (pc' := 39) (st' := [.int 11, .int 1272, .ref 77, .int (nI ((13 * x119) + 6)), .ref am119]) rfl rfl rfl rfl ?_
        refine go_s (pc' := 40) (st' := [.int 1283, .ref 77, .int (nI ((13 * x119) + 6)), .ref am119]) rfl rfl rfl rfl ?_
        refine go_sald (pc' := 41) (q := 1283) (v := .int ((Z 3).1 11)) hS119 rfl (tr_as hr119 (by omega)) rfl rfl (by decide) (congrArg Value.int (RR_t hO119.2.1 (i := 3) (by decide) (by decide) 11 (by decide))) rfl ?_
        refine go_siast (pc' := 42) (q := ((13 * x119) + 6)) hS119 rfl (tr_ms hr119 (by omega)) tbr_inj (Nat.le_of_ble_eq_true rfl) rfl (by omega) (rk_0 hr119).1 hWm119 rfl (fun h124 hS125 hE126 => ?_)
        refine go_s (pc' := 43) rfl rfl rfl rfl ?_
        refine go_sget (pc' := 44) (v := .ref am119) hS125 rfl rfl rfl (by decide) rfl rfl ?_
        refine go_s (pc' := 45) rfl rfl rfl rfl ?_
        refine go_s (pc' := 46) (st' := [.int 7, .int (nI (13 * x119)), .ref am119]) rfl rfl rfl rfl ?_
        refine go_nadd (pc' := 47) (a := (13 * x119)) (b := 7) rfl rfl rfl rfl rfl ?_
        refine go_s (pc' := 48) rfl rfl rfl rfl ?_
        refine go_sget (pc' := 49) (v := .ref 77) hS125 rfl rfl rfl (by decide) rfl rfl ?_
        refine go_s (pc' := 50) rfl rfl rfl rfl ?_
        refine go_s (pc' := 51) (st' := [.int 0, .int 1272, .ref 77, .int (nI ((13 * x119) + 7)), .ref am119]) rfl rfl rfl rfl ?_
        refine go_s (pc' := 52) (st' := [.int 1272, .ref 77, .int (nI ((13 * x119) + 7)), .ref am119]) rfl rfl rfl rfl ?_
        refine go_sald (pc' := 53) (q := 1272) (v := .int ((Z 3).1 0)) hS125 rfl (tr_as hr119 (by omega)) rfl rfl (by decide) (congrArg Value.int (RR_t hO119.2.1 (i := 3) (by decide) (by decide) 0 (by decide))) rfl ?_
        refine go_siast (pc' := 54) (q := ((13 * x119) + 7)) hS125 rfl (tr_ms hr119 (by omega)) tbr_inj (Nat.le_of_ble_eq_true rfl) rfl (by omega) (rk_0 hr119).1 hWm119 rfl (fun h127 hS128 hE129 => ?_)
        have hE130 := sm_e_trans hE126 hE129
        refine go_s (pc' := 55) rfl rfl rfl rfl ?_
        refine go_sget (pc' := 56) (v := .ref am119) hS128 rfl rfl rfl (by decide) rfl rfl ?_
        refine go_s (pc' := 57) rfl rfl rfl rfl ?_
        refine go_s (pc' := 58) (st' := [.int 8, .int (nI (13 * x119)), .ref am119]) rfl rfl rfl rfl ?_
        refine go_nadd (pc' := 59) (a := (13 * x119)) (b := 8) rfl rfl rfl rfl rfl ?_
        refine go_s (pc' := 60) rfl rfl rfl rfl ?_
        refine go_sget (pc' := 61) (v := .ref 77) hS128 rfl rfl rfl (by decide) rfl rfl ?_
        refine go_s (pc' := 62) rfl rfl rfl rfl ?_
        refine go_s (pc' := 63) (st' := [.int 5, .int 1272, .ref 77, .int (nI ((13 * x119) + 8)), .ref am119]) rfl rfl rfl rfl ?_
        refine go_s (pc' := 64) (st' := [.int 1277, .ref 77, .int (nI ((13 * x119) + 8)), .ref am119]) rfl rfl rfl rfl ?_
        refine go_sald (pc' := 65) (q := 1277) (v := .int ((Z 3).1 5)) hS128 rfl (tr_as hr119 (by omega)) rfl rfl (by decide) (congrArg Value.int (RR_t hO119.2.1 (i := 3) (by decide) (by decide) 5 (by decide))) rfl ?_
        refine go_siast (pc' := 66) (q := ((13 * x119) + 8)) hS128 rfl (tr_ms hr119 (by omega)) tbr_inj (Nat.le_of_ble_eq_true rfl) rfl (by omega) (rk_0 hr119).1 hWm119 rfl (fun h131 hS132 hE133 => ?_)
        have hE134 := sm_e_trans hE130 hE133
        refine go_s (pc' := 67) rfl rfl rfl rfl ?_
        refine go_sget (pc' := 68) (v := .ref am119) hS132 rfl rfl rfl (by decide) rfl rfl ?_
        refine go_s (pc' := 69) rfl rfl rfl rfl ?_
        refine go_s (pc' := 70) (st' := [.int 9, .int (nI (13 * x119)), .ref am119]) rfl rfl rfl rfl ?_
        refine go_nadd (pc' := 71) (a := (13 * x119)) (b := 9) rfl rfl rfl rfl rfl ?_
        refine go_s (pc' := 72) rfl rfl rfl rfl ?_
        refine go_sget (pc' := 73) (v := .ref 77) hS132 rfl rfl rfl (by decide) rfl rfl ?_
        refine go_s (pc' := 74) rfl rfl rfl rfl ?_
        refine go_s (pc' := 75) (st' := [.int 2, .int 1272, .ref 77, .int (nI ((13 * x119) + 9)), .ref am119]) rfl rfl rfl rfl ?_
        refine go_s (pc' := 76) (st' := [.int 1274, .ref 77, .int (nI ((13 * x119) + 9)), .ref am119]) rfl rfl rfl rfl ?_
        refine go_sald (pc' := 77) (q := 1274) (v := .int ((Z 3).1 2)) hS132 rfl (tr_as hr119 (by omega)) rfl rfl (by decide) (congrArg Value.int (RR_t hO119.2.1 (i := 3) (by decide) (by decide) 2 (by decide))) rfl ?_
        refine go_siast (pc' := 78) (q := ((13 * x119) + 9)) hS132 rfl (tr_ms hr119 (by omega)) tbr_inj (Nat.le_of_ble_eq_true rfl) rfl (by omega) (rk_0 hr119).1 hWm119 rfl (fun h135 hS136 hE137 => ?_)
        have hE138 := sm_e_trans hE134 hE137
        refine go_s (pc' := 79) rfl rfl rfl rfl ?_
        refine go_sget (pc' := 80) (v := .ref am119) hS136 rfl rfl rfl (by decide) rfl rfl ?_
        refine go_s (pc' := 81) rfl rfl rfl rfl ?_
        refine go_s (pc' := 82) (st' := [.int 10, .int (nI (13 * x119)), .ref am119]) rfl rfl rfl rfl ?_
        refine go_nadd (pc' := 83) (a := (13 * x119)) (b := 10) rfl rfl rfl rfl rfl ?_
        refine go_s (pc' := 84) rfl rfl rfl rfl ?_
        refine go_sget (pc' := 85) (v := .ref 77) hS136 rfl rfl rfl (by decide) rfl rfl ?_
        refine go_s (pc' := 86) rfl rfl rfl rfl ?_
        refine go_s (pc' := 87) (st' := [.int 3, .int 1272, .ref 77, .int (nI ((13 * x119) + 10)), .ref am119]) rfl rfl rfl rfl ?_
        refine go_s (pc' := 88) (st' := [.int 1275, .ref 77, .int (nI ((13 * x119) + 10)), .ref am119]) rfl rfl rfl rfl ?_
        refine go_sald (pc' := 89) (q := 1275) (v := .int ((Z 3).1 3)) hS136 rfl (tr_as hr119 (by omega)) rfl rfl (by decide) (congrArg Value.int (RR_t hO119.2.1 (i := 3) (by decide) (by decide) 3 (by decide))) rfl ?_
        refine go_siast (pc' := 90) (q := ((13 * x119) + 10)) hS136 rfl (tr_ms hr119 (by omega)) tbr_inj (Nat.le_of_ble_eq_true rfl) rfl (by omega) (rk_0 hr119).1 hWm119 rfl (fun h139 hS140 hE141 => ?_)
        have hE142 := sm_e_trans hE138 hE141
        refine go_s (pc' := 91) rfl rfl rfl rfl ?_
        refine go_sget (pc' := 92) (v := .ref am119) hS140 rfl rfl rfl (by decide) rfl rfl ?_
        refine go_s (pc' := 93) rfl rfl rfl rfl ?_
        refine go_s (pc' := 94) (st' := [.int 11, .int (nI (13 * x119)), .ref am119]) rfl rfl rfl rfl ?_
        refine go_nadd (pc' := 95) (a := (13 * x119)) (b := 11) rfl rfl rfl rfl rfl ?_
        refine go_s (pc' := 96) rfl rfl rfl rfl ?_
        refine go_sget (pc' := 97) (v := .ref 77) hS140 rfl rfl rfl (by decide) rfl rfl ?_
        refine go_s (pc' := 98) rfl rfl rfl rfl ?_
        refine go_s (pc' := 99) (st' := [.int 4, .int 1272, .ref 77, .int (nI ((13 * x119) + 11)), .ref am119]) rfl rfl rfl rfl ?_
        refine go_s (pc' := 100) (st' := [.int 1276, .ref 77, .int (nI ((13 * x119) + 11)), .ref am119]) rfl rfl rfl rfl ?_
        refine go_sald (pc' := 101) (q := 1276) (v := .int ((Z 3).1 4)) hS140 rfl (tr_as hr119 (by omega)) rfl rfl (by decide) (congrArg Value.int (RR_t hO119.2.1 (i := 3) (by decide) (by decide) 4 (by decide))) rfl ?_
        refine go_siast (pc' := 102) (q := ((13 * x119) + 11)) hS140 rfl (tr_ms hr119 (by omega)) tbr_inj (Nat.le_of_ble_eq_true rfl) rfl (by omega) (rk_0 hr119).1 hWm119 rfl (fun h143 hS144 hE145 => ?_)
        have hE146 := sm_e_trans hE142 hE145
        refine go_ret rfl rfl ?_
        have hms : rsr 0 (I, Q, Z) = rsn 3 1 (mgR 0 (Z 3).1) (I, Q, Z) := by
          unfold rsr
          rw [if_neg (show ¬ (I, Q, Z).1 11 0 = -1 from (fun z => absurd (e1.symm.trans z) (by decide))), show pn (I, Q, Z).1 (1 + 0) = 3 from pn_l (v := 3) e76 (by decide), show pn (I, Q, Z).1 0 = 1 from pn_l (v := 1) e1 (by decide), show row1 (I, Q, Z) (1 + 0) = (Z 3).1 from row1_l (v := 3) e76 (by decide)]
        change sm (tbr am119 (13 * ln119) 77 5088) _ (uI (uI (uI (uI (uI (uI (jn (appI I Q (4 * 3 + 1)) K119) 50 ((13 * x119) + 6) ((Z 3).1 11)) 50 ((13 * x119) + 7) ((Z 3).1 0)) 50 ((13 * x119) + 8) ((Z 3).1 5)) 50 ((13 * x119) + 9) ((Z 3).1 2)) 50 ((13 * x119) + 10) ((Z 3).1 3)) 50 ((13 * x119) + 11) ((Z 3).1 4)) Y at hS144
        rw [jn_hi (c := 50) (by decide), jn_hi (c := 50) (by decide), jn_hi (c := 50) (by decide), jn_hi (c := 50) (by decide), jn_hi (c := 50) (by decide), jn_hi (c := 50) (by decide)] at hS144
        have hU147 := RO_cl (K' := (uI (uI (uI (uI (uI (uI K119 50 ((13 * x119) + 6) ((Z 3).1 11)) 50 ((13 * x119) + 7) ((Z 3).1 0)) 50 ((13 * x119) + 8) ((Z 3).1 5)) 50 ((13 * x119) + 9) ((Z 3).1 2)) 50 ((13 * x119) + 10) ((Z 3).1 3)) 50 ((13 * x119) + 11) ((Z 3).1 4))) (m := (mgn (mgR 0 (Z 3).1) (I 9 (4 * 3 + 1) + 1))) (by omega) hO119 (hE146) rfl rfl rfl rfl (fun c j _ hc => by
          simp only [uI]
          rw [if_neg (by omega), if_neg (by omega), if_neg (by omega), if_neg (by omega), if_neg (by omega), if_neg (by omega)]) (fun i hi => by
          have hi2 : i < 6 := hi
          match i, hi2 with
            | 0, _ => (repeat (first | rw [uI_e (by omega)] | rw [uI_j (by omega)])) <;> rfl
            | 1, _ => (repeat (first | rw [uI_e (by omega)] | rw [uI_j (by omega)])) <;> rfl
            | 2, _ => (repeat (first | rw [uI_e (by omega)] | rw [uI_j (by omega)])) <;> rfl
            | 3, _ => (repeat (first | rw [uI_e (by omega)] | rw [uI_j (by omega)])) <;> rfl
            | 4, _ => (repeat (first | rw [uI_e (by omega)] | rw [uI_j (by omega)])) <;> rfl
            | 5, _ => (repeat (first | rw [uI_e (by omega)] | rw [uI_j (by omega)])) <;> rfl)
        have hA148 : RA w B (R + 1) H hb h143 ((appI I Q (4 * 3 + 1)), (uQ Q (4 * 3 + 1) (Q (4 * 3 + 1) ++ [(mgn (mgR 0 (Z 3).1) (I 9 (4 * 3 + 1) + 1))])), Z) := RA_u.mpr ⟨_, _, _, _, hS144, hU147⟩
        rw [hms, show rsn 3 1 (mgR 0 (Z 3).1) (I, Q, Z) = mapp (4 * 3 + 1) (mgR 0 (Z 3).1) (I, Q, Z) from if_neg u114]
        exact ⟨rfl, hA148⟩
theorem ra_sr_2 {w : Nat → Bool} {d B R : Nat} {H : List (Nat × mg)} {hb : Bool} {h : am_Hp} {I : sm_I} {Q : mQ} {Z : mZ} (hA : RA w B R H hb h (I, Q, Z)) (hR : R + 1 < 40000) (hp0 : prk I 0) (hpk : prk I 2) (hnk : ¬ I 11 2 = -1) (hd : 3 ≤ d) : am_Ev (am_prog w) d 129 [.ref 62, .int 2] h (fun r h' => r = none ∧ RA w B (R + 1) H hb h' (rsr 1 (I, Q, Z))) := by
  obtain ⟨K, Y, am, ln, hS, hU⟩ := RA_u.mp hA
  change sm (tbr am (13 * ln) 77 5088) h (jn I K) Y at hS
  obtain ⟨hW, hWm, -, -, hr, -⟩ := id hU.1
  have hln := RU_ln hU (by omega)
  obtain ⟨d, rfl⟩ : ∃ e, d = e + 1 := ⟨d - 1, by omega⟩
  refine ev_go rfl (Nat.le_of_ble_eq_true rfl) rfl ?_
  rcases hp0 with e1 | e1 | e1
  · skip
    rcases hpk with e2 | e2 | e2
    · skip
      exact absurd e2 hnk
    · skip
      refine go_s (pc' := 1) rfl rfl rfl rfl ?_
      refine go_sget (pc' := 2) (v := .ref 78) hS rfl rfl rfl (by decide) rfl rfl ?_
      refine go_s (pc' := 3) (st' := [.int 0, .ref 78]) rfl rfl rfl rfl ?_
      refine go_sald (pc' := 4) (q := 0) (v := .int (-1)) hS rfl (tr_s hr (a := 78) rfl (by decide)) rfl rfl (by decide) (congrArg Value.int e1) rfl ?_
      refine go_s (pc' := 5) (st' := [.int (-1), .int (-1)]) rfl rfl rfl rfl ?_
      refine go_icmpP (t' := 7) (pc' := 6) rfl rfl rfl (fun (c : ¬ ((-1) : Int32) = (-1)) => absurd c (by decide)) (fun _ => ?_)
      refine go_ret rfl rfl ?_
      rw [show rsr 1 (I, Q, Z) = (I, Q, Z) from if_pos e1]
      exact ⟨rfl, RA_R (by omega) hA⟩
    · skip
      refine go_s (pc' := 1) rfl rfl rfl rfl ?_
      refine go_sget (pc' := 2) (v := .ref 78) hS rfl rfl rfl (by decide) rfl rfl ?_
      refine go_s (pc' := 3) (st' := [.int 0, .ref 78]) rfl rfl rfl rfl ?_
      refine go_sald (pc' := 4) (q := 0) (v := .int (-1)) hS rfl (tr_s hr (a := 78) rfl (by decide)) rfl rfl (by decide) (congrArg Value.int e1) rfl ?_
      refine go_s (pc' := 5) (st' := [.int (-1), .int (-1)]) rfl rfl rfl rfl ?_
      refine go_icmpP (t' := 7) (pc' := 6) rfl rfl rfl (fun (c : ¬ ((-1) : Int32) = (-1)) => absurd c (by decide)) (fun _ => ?_)
      refine go_ret rfl rfl ?_
      rw [show rsr 1 (I, Q, Z) = (I, Q, Z) from if_pos e1]
      exact ⟨rfl, RA_R (by omega) hA⟩
  · skip
    rcases hpk with e3 | e3 | e3
    · skip
      exact absurd e3 hnk
    · skip
      refine go_s (pc' := 1) rfl rfl rfl rfl ?_
      refine go_sget (pc' := 2) (v := .ref 78) hS rfl rfl rfl (by decide) rfl rfl ?_
      refine go_s (pc' := 3) (st' := [.int 0, .ref 78]) rfl rfl rfl rfl ?_
      refine go_sald (pc' := 4) (q := 0) (v := .int 0) hS rfl (tr_s hr (a := 78) rfl (by decide)) rfl rfl (by decide) (congrArg Value.int e1) rfl ?_
      refine go_s (pc' := 5) (st' := [.int (-1), .int 0]) rfl rfl rfl rfl ?_
      refine go_icmpP (t' := 7) (pc' := 6) rfl rfl rfl (fun _ => ?_) (fun (c : ¬ (¬ (0 : Int32) = (-1))) => absurd (by decide) c)
      refine go_s (pc' := 8) rfl rfl rfl rfl ?_
      refine go_s (pc' := 9) rfl rfl rfl rfl ?_
      refine go_sget (pc' := 10) (v := .ref 78) hS rfl rfl rfl (by decide) rfl rfl ?_
      refine go_s (pc' := 11) rfl rfl rfl rfl ?_
      refine go_sald (pc' := 12) (q := 2) (v := .int 2) hS rfl (tr_s hr (a := 78) rfl (by decide)) rfl rfl (by decide) (congrArg Value.int e3) rfl ?_
      refine go_s (pc' := 13) rfl rfl rfl rfl ?_
      refine go_sget (pc' := 14) (v := .ref 78) hS rfl rfl rfl (by decide) rfl rfl ?_
      refine go_s (pc' := 15) (st' := [.int 0, .ref 78, .int 2, .ref 62]) rfl rfl rfl rfl ?_
      refine go_sald (pc' := 16) (q := 0) (v := .int 0) hS rfl (tr_s hr (a := 78) rfl (by decide)) rfl rfl (by decide) (congrArg Value.int e1) rfl ?_
      refine go_s (pc' := 17) (st' := [.int 1, .int 0, .int 2, .ref 62]) rfl rfl rfl rfl ?_
      refine go_s (pc' := 18) rfl rfl rfl rfl ?_
      refine go_s (pc' := 19) (st' := [.int 1, .int 2, .int 1, .int 0, .int 2, .ref 62]) rfl rfl rfl rfl ?_
      refine go_s (pc' := 20) (st' := [.int 1, .int 1, .int 0, .int 2, .ref 62]) rfl rfl rfl rfl ?_
      have hU4 : RU w B R H hb h am ln K (I, Q, Z) := RU_I (sm_e_refl (tbr am (13 * ln) 77 5088) _) (I' := I) (fun _ => rfl) (fun _ => rfl) (Nat.le_refl _) hU
      by_cases u5 : I 0 0 = 0
      · skip
        refine go_callV (pc' := 21) rfl rfl rfl (Nat.le_of_ble_eq_true rfl) rfl (sm_o hS rfl) rfl rfl rfl (rn_snd_0 hS hU4 (by omega) (f := 2) (t := 0) (by decide) (by decide) u5 (by omega)) (fun r h6 q7 => ?_)
        obtain ⟨rfl, rfl⟩ := q7
        refine go_s (pc' := 22) (lo' := [some (.ref 62), some (.int 2), some (.int (-1)), none]) rfl rfl rfl rfl ?_
        refine go_s (pc' := 23) rfl rfl rfl rfl ?_
        refine go_s (pc' := 24) (st' := [.int (-1), .int (-1)]) rfl rfl rfl rfl ?_
        refine go_icmpP (t' := 26) (pc' := 25) rfl rfl rfl (fun (c : ¬ ((-1) : Int32) = (-1)) => absurd c (by decide)) (fun _ => ?_)
        refine go_ret rfl rfl ?_
        have hms : rsr 1 (I, Q, Z) = rsn 2 0 (mgR 1 (Z 4).1) (I, Q, Z) := by
          unfold rsr
          rw [if_neg (show ¬ (I, Q, Z).1 11 0 = -1 from (fun z => absurd (e1.symm.trans z) (by decide))), show pn (I, Q, Z).1 (1 + 1) = 2 from pn_l (v := 2) e3 (by decide), show pn (I, Q, Z).1 0 = 0 from pn_l (v := 0) e1 (by decide), show row1 (I, Q, Z) (1 + 1) = (Z 4).1 from row1_l (v := 2) e3 (by decide)]
        rw [hms, show rsn 2 0 (mgR 1 (Z 4).1) (I, Q, Z) = (I, Q, Z) from if_pos u5]
        exact ⟨rfl, RA_R (by omega) hA⟩
      · skip
        refine go_callV (pc' := 21) rfl rfl rfl (Nat.le_of_ble_eq_true rfl) rfl (sm_o hS rfl) rfl rfl rfl (rn_snd_1 hS hU4 (by omega) (f := 2) (t := 0) (by decide) (by decide) u5 (by omega)) (fun r h8 q9 => ?_)
        obtain ⟨x10, am10, ln10, K10, rfl, hS10, hO10⟩ := q9
        obtain ⟨hx10, hln10, hr10, hWm10⟩ := RO_x hO10 (by omega)
        have ep11 : (appI I Q (4 * 2 + 0)) 11 0 = 0 := (congrFun (appI_o (by decide) (by decide) (by decide)) 0).trans e1
        have ep12 : (appI I Q (4 * 2 + 0)) 11 2 = 2 := (congrFun (appI_o (by decide) (by decide) (by decide)) 2).trans e3
        refine go_s (pc' := 22) (lo' := [some (.ref 62), some (.int 2), some (.int (nI (13 * x10))), none]) rfl rfl rfl rfl ?_
        refine go_s (pc' := 23) rfl rfl rfl rfl ?_
        refine go_s (pc' := 24) (st' := [.int (-1), .int (nI (13 * x10))]) rfl rfl rfl rfl ?_
        refine go_icmpP (t' := 26) (pc' := 25) rfl rfl rfl (fun _ => ?_) (fun (c : ¬ (¬ (nI (13 * x10)) = (-1))) => absurd (nI_nm1 (by omega)) c)
        refine go_s (pc' := 27) rfl rfl rfl rfl ?_
        refine go_s (pc' := 28) rfl rfl rfl rfl ?_
        refine go_callV (pc' := 29) rfl rfl rfl (Nat.le_of_ble_eq_true rfl) rfl (sm_o hS10 rfl) rfl rfl rfl (rt_at_2 hr10 hS10 (Or.inr (Or.inl ep12)) (fun z => absurd (ep12.symm.trans z) (by decide)) (by omega)) (fun r h13 q14 => ?_)
        obtain ⟨rfl, rfl⟩ := q14
        rw [show rwi (jn (appI I Q (4 * 2 + 0)) K10) 2 = 4 by unfold rwi pn; rw [show (jn (appI I Q (4 * 2 + 0)) K10) 11 2 = 2 from ep12]; rfl]
        show am_Go _ _ _ _ 29 _ [.int 1696] _ _
        refine go_s (pc' := 30) (lo' := [some (.ref 62), some (.int 2), some (.int (nI (13 * x10))), some (.int 1696)]) rfl rfl rfl rfl ?_
        refine go_s (pc' := 31) rfl rfl rfl rfl ?_
        refine go_sget (pc' := 32) (v := .ref am10) hS10 rfl rfl rfl (by decide) rfl rfl ?_
        refine go_s (pc' := 33) rfl rfl rfl rfl ?_
        refine go_s (pc' := 34) (st' := [.int 6, .int (nI (13 * x10)), .ref am10]) rfl rfl rfl rfl ?_
        refine go_nadd (pc' := 35) (a := (13 * x10)) (b := 6) rfl rfl rfl rfl rfl ?_
        refine go_s (pc' := 36) rfl rfl rfl rfl ?_
        refine go_sget (pc' := 37) (v := .ref 77) hS10 rfl rfl rfl (by decide) rfl rfl ?_
        refine go_s (pc' := 38) rfl rfl rfl rfl ?_
        refine go_s (pc' := 39) (st' := [.int 11, .int 1696, .ref 77, .int (nI ((13 * x10) + 6)), .ref am10]) rfl rfl rfl rfl ?_
        refine go_s (pc' := 40) (st' := [.int 1707, .ref 77, .int (nI ((13 * x10) + 6)), .ref am10]) rfl rfl rfl rfl ?_
        refine go_sald (pc' := 41) (q := 1707) (v := .int ((Z 4).1 11)) hS10 rfl (tr_as hr10 (by omega)) rfl rfl (by decide) (congrArg Value.int (RR_t hO10.2.1 (i := 4) (by decide) (by decide) 11 (by decide))) rfl ?_
        refine go_siast (pc' := 42) (q := ((13 * x10) + 6)) hS10 rfl (tr_ms hr10 (by omega)) tbr_inj (Nat.le_of_ble_eq_true rfl) rfl (by omega) (rk_0 hr10).1 hWm10 rfl (fun h15 hS16 hE17 => ?_)
        refine go_s (pc' := 43) rfl rfl rfl rfl ?_
        refine go_sget (pc' := 44) (v := .ref am10) hS16 rfl rfl rfl (by decide) rfl rfl ?_
        refine go_s (pc' := 45) rfl rfl rfl rfl ?_
        refine go_s (pc' := 46) (st' := [.int 7, .int (nI (13 * x10)), .ref am10]) rfl rfl rfl rfl ?_
        refine go_nadd (pc' := 47) (a := (13 * x10)) (b := 7) rfl rfl rfl rfl rfl ?_
        refine go_s (pc' := 48) rfl rfl rfl rfl ?_
        refine go_sget (pc' := 49) (v := .ref 77) hS16 rfl rfl rfl (by decide) rfl rfl ?_
        refine go_s (pc' := 50) rfl rfl rfl rfl ?_
        refine go_s (pc' := 51) (st' := [.int 0, .int 1696, .ref 77, .int (nI ((13 * x10) + 7)), .ref am10]) rfl rfl rfl rfl ?_
        refine go_s (pc' := 52) (st' := [.int 1696, .ref 77, .int (nI ((13 * x10) + 7)), .ref am10]) rfl rfl rfl rfl ?_
        refine go_sald (pc' := 53) (q := 1696) (v := .int ((Z 4).1 0)) hS16 rfl (tr_as hr10 (by omega)) rfl rfl (by decide) (congrArg Value.int (RR_t hO10.2.1 (i := 4) (by decide) (by decide) 0 (by decide))) rfl ?_
        refine go_siast (pc' := 54) (q := ((13 * x10) + 7)) hS16 rfl (tr_ms hr10 (by omega)) tbr_inj (Nat.le_of_ble_eq_true rfl) rfl (by omega) (rk_0 hr10).1 hWm10 rfl (fun h18 hS19 hE20 => ?_)
        have hE21 := sm_e_trans hE17 hE20
        refine go_s (pc' := 55) rfl rfl rfl rfl ?_
        refine go_sget (pc' := 56) (v := .ref am10) hS19 rfl rfl rfl (by decide) rfl rfl ?_
        refine go_s (pc' := 57) rfl rfl rfl rfl ?_
        refine go_s (pc' := 58) (st' := [.int 8, .int (nI (13 * x10)), .ref am10]) rfl rfl rfl rfl ?_
        refine go_nadd (pc' := 59) (a := (13 * x10)) (b := 8) rfl rfl rfl rfl rfl ?_
        refine go_s (pc' := 60) rfl rfl rfl rfl ?_
        refine go_sget (pc' := 61) (v := .ref 77) hS19 rfl rfl rfl (by decide) rfl rfl ?_
        refine go_s (pc' := 62) rfl rfl rfl rfl ?_
        refine go_s (pc' := 63) (st' := [.int 5, .int 1696, .ref 77, .int (nI ((13 * x10) + 8)), .ref am10]) rfl rfl rfl rfl ?_
        refine go_s (pc' := 64) (st' := [.int 1701, .ref 77, .int (nI ((13 * x10) + 8)), .ref am10]) rfl rfl rfl rfl ?_
        refine go_sald (pc' := 65) (q := 1701) (v := .int ((Z 4).1 5)) hS19 rfl (tr_as hr10 (by omega)) rfl rfl (by decide) (congrArg Value.int (RR_t hO10.2.1 (i := 4) (by decide) (by decide) 5 (by decide))) rfl ?_
        refine go_siast (pc' := 66) (q := ((13 * x10) + 8)) hS19 rfl (tr_ms hr10 (by omega)) tbr_inj (Nat.le_of_ble_eq_true rfl) rfl (by omega) (rk_0 hr10).1 hWm10 rfl (fun h22 hS23 hE24 => ?_)
        have hE25 := sm_e_trans hE21 hE24
        refine go_s (pc' := 67) rfl rfl rfl rfl ?_
        refine go_sget (pc' := 68) (v := .ref am10) hS23 rfl rfl rfl (by decide) rfl rfl ?_
        refine go_s (pc' := 69) rfl rfl rfl rfl ?_
        refine go_s (pc' := 70) (st' := [.int 9, .int (nI (13 * x10)), .ref am10]) rfl rfl rfl rfl ?_
        refine go_nadd (pc' := 71) (a := (13 * x10)) (b := 9) rfl rfl rfl rfl rfl ?_
        refine go_s (pc' := 72) rfl rfl rfl rfl ?_
        refine go_sget (pc' := 73) (v := .ref 77) hS23 rfl rfl rfl (by decide) rfl rfl ?_
        refine go_s (pc' := 74) rfl rfl rfl rfl ?_
        refine go_s (pc' := 75) (st' := [.int 2, .int 1696, .ref 77, .int (nI ((13 * x10) + 9)), .ref am10]) rfl rfl rfl rfl ?_
        refine go_s (pc' := 76) (st' := [.int 1698, .ref 77, .int (nI ((13 * x10) + 9)), .ref am10]) rfl rfl rfl rfl ?_
        refine go_sald (pc' := 77) (q := 1698) (v := .int ((Z 4).1 2)) hS23 rfl (tr_as hr10 (by omega)) rfl rfl (by decide) (congrArg Value.int (RR_t hO10.2.1 (i := 4) (by decide) (by decide) 2 (by decide))) rfl ?_
        refine go_siast (pc' := 78) (q := ((13 * x10) + 9)) hS23 rfl (tr_ms hr10 (by omega)) tbr_inj (Nat.le_of_ble_eq_true rfl) rfl (by omega) (rk_0 hr10).1 hWm10 rfl (fun h26 hS27 hE28 => ?_)
        have hE29 := sm_e_trans hE25 hE28
        refine go_s (pc' := 79) rfl rfl rfl rfl ?_
        refine go_sget (pc' := 80) (v := .ref am10) hS27 rfl rfl rfl (by decide) rfl rfl ?_
        refine go_s (pc' := 81) rfl rfl rfl rfl ?_
        refine go_s (pc' := 82) (st' := [.int 10, .int (nI (13 * x10)), .ref am10]) rfl rfl rfl rfl ?_
        refine go_nadd (pc' := 83) (a := (13 * x10)) (b := 10) rfl rfl rfl rfl rfl ?_
        refine go_s (pc' := 84) rfl rfl rfl rfl ?_
        refine go_sget (pc' := 85) (v := .ref 77) hS27 rfl rfl rfl (by decide) rfl rfl ?_
        refine go_s (pc' := 86) rfl rfl rfl rfl ?_
        refine go_s (pc' := 87) (st' := [.int 3, .int 1696, .ref 77, .int (nI ((13 * x10) + 10)), .ref am10]) rfl rfl rfl rfl ?_
        refine go_s (pc' := 88) (st' := [.int 1699, .ref 77, .int (nI ((13 * x10) + 10)), .ref am10]) rfl rfl rfl rfl ?_
        refine go_sald (pc' := 89) (q := 1699) (v := .int ((Z 4).1 3)) hS27 rfl (tr_as hr10 (by omega)) rfl rfl (by decide) (congrArg Value.int (RR_t hO10.2.1 (i := 4) (by decide) (by decide) 3 (by decide))) rfl ?_
        refine go_siast (pc' := 90) (q := ((13 * x10) + 10)) hS27 rfl (tr_ms hr10 (by omega)) tbr_inj (Nat.le_of_ble_eq_true rfl) rfl (by omega) (rk_0 hr10).1 hWm10 rfl (fun h30 hS31 hE32 => ?_)
        have hE33 := sm_e_trans hE29 hE32
        refine go_s (pc' := 91) rfl rfl rfl rfl ?_
        refine go_sget (pc' := 92) (v := .ref am10) hS31 rfl rfl rfl (by decide) rfl rfl ?_
        refine go_s (pc' := 93) rfl rfl rfl rfl ?_
        refine go_s (pc' := 94) (st' := [.int 11, .int (nI (13 * x10)), .ref am10]) rfl rfl rfl rfl ?_
        refine go_nadd (pc' := 95) (a := (13 * x10)) (b := 11) rfl rfl rfl rfl rfl ?_
        refine go_s (pc' := 96) rfl rfl rfl rfl ?_
        refine go_sget (pc' := 97) (v := .ref 77) hS31 rfl rfl rfl (by decide) rfl rfl ?_
        refine go_s (pc' := 98) rfl rfl rfl rfl ?_
        refine go_s (pc' := 99) (st' := [.int 4, .int 1696, .ref 77, .int (nI ((13 * x10) + 11)), .ref am10]) rfl rfl rfl rfl ?_
        refine go_s (pc' := 100) (st' := [.int 1700, .ref 77, .int (nI ((13 * x10) + 11)), .ref am10]) rfl rfl rfl rfl ?_
        refine go_sald (pc' := 101) (q := 1700) (v := .int ((Z 4).1 4)) hS31 rfl (tr_as hr10 (by omega)) rfl rfl (by decide) (congrArg Value.int (RR_t hO10.2.1 (i := 4) (by decide) (by decide) 4 (by decide))) rfl ?_
        refine go_siast (pc' := 102) (q := ((13 * x10) + 11)) hS31 rfl (tr_ms hr10 (by omega)) tbr_inj (Nat.le_of_ble_eq_true rfl) rfl (by omega) (rk_0 hr10).1 hWm10 rfl (fun h34 hS35 hE36 => ?_)
        have hE37 := sm_e_trans hE33 hE36
        refine go_ret rfl rfl ?_
        have hms : rsr 1 (I, Q, Z) = rsn 2 0 (mgR 1 (Z 4).1) (I, Q, Z) := by
          unfold rsr
          rw [if_neg (show ¬ (I, Q, Z).1 11 0 = -1 from (fun z => absurd (e1.symm.trans z) (by decide))), show pn (I, Q, Z).1 (1 + 1) = 2 from pn_l (v := 2) e3 (by decide), show pn (I, Q, Z).1 0 = 0 from pn_l (v := 0) e1 (by decide), show row1 (I, Q, Z) (1 + 1) = (Z 4).1 from row1_l (v := 2) e3 (by decide)]
        change sm (tbr am10 (13 * ln10) 77 5088) _ (uI (uI (uI (uI (uI (uI (jn (appI I Q (4 * 2 + 0)) K10) 50 ((13 * x10) + 6) ((Z 4).1 11)) 50 ((13 * x10) + 7) ((Z 4).1 0)) 50 ((13 * x10) + 8) ((Z 4).1 5)) 50 ((13 * x10) + 9) ((Z 4).1 2)) 50 ((13 * x10) + 10) ((Z 4).1 3)) 50 ((13 * x10) + 11) ((Z 4).1 4)) Y at hS35
        rw [jn_hi (c := 50) (by decide), jn_hi (c := 50) (by decide), jn_hi (c := 50) (by decide), jn_hi (c := 50) (by decide), jn_hi (c := 50) (by decide), jn_hi (c := 50) (by decide)] at hS35
        have hU38 := RO_cl (K' := (uI (uI (uI (uI (uI (uI K10 50 ((13 * x10) + 6) ((Z 4).1 11)) 50 ((13 * x10) + 7) ((Z 4).1 0)) 50 ((13 * x10) + 8) ((Z 4).1 5)) 50 ((13 * x10) + 9) ((Z 4).1 2)) 50 ((13 * x10) + 10) ((Z 4).1 3)) 50 ((13 * x10) + 11) ((Z 4).1 4))) (m := (mgn (mgR 1 (Z 4).1) (I 9 (4 * 2 + 0) + 1))) (by omega) hO10 (hE37) rfl rfl rfl rfl (fun c j _ hc => by
          simp only [uI]
          rw [if_neg (by omega), if_neg (by omega), if_neg (by omega), if_neg (by omega), if_neg (by omega), if_neg (by omega)]) (fun i hi => by
          have hi2 : i < 6 := hi
          match i, hi2 with
            | 0, _ => (repeat (first | rw [uI_e (by omega)] | rw [uI_j (by omega)])) <;> rfl
            | 1, _ => (repeat (first | rw [uI_e (by omega)] | rw [uI_j (by omega)])) <;> rfl
            | 2, _ => (repeat (first | rw [uI_e (by omega)] | rw [uI_j (by omega)])) <;> rfl
            | 3, _ => (repeat (first | rw [uI_e (by omega)] | rw [uI_j (by omega)])) <;> rfl
            | 4, _ => (repeat (first | rw [uI_e (by omega)] | rw [uI_j (by omega)])) <;> rfl
            | 5, _ => (repeat (first | rw [uI_e (by omega)] | rw [uI_j (by omega)])) <;> rfl)
        have hA39 : RA w B (R + 1) H hb h34 ((appI I Q (4 * 2 + 0)), (uQ Q (4 * 2 + 0) (Q (4 * 2 + 0) ++ [(mgn (mgR 1 (Z 4).1) (I 9 (4 * 2 + 0) + 1))])), Z) := RA_u.mpr ⟨_, _, _, _, hS35, hU38⟩
        rw [hms, show rsn 2 0 (mgR 1 (Z 4).1) (I, Q, Z) = mapp (4 * 2 + 0) (mgR 1 (Z 4).1) (I, Q, Z) from if_neg u5]
        exact ⟨rfl, hA39⟩
    · skip
      refine go_s (pc' := 1) rfl rfl rfl rfl ?_
      refine go_sget (pc' := 2) (v := .ref 78) hS rfl rfl rfl (by decide) rfl rfl ?_
      refine go_s (pc' := 3) (st' := [.int 0, .ref 78]) rfl rfl rfl rfl ?_
      refine go_sald (pc' := 4) (q := 0) (v := .int 0) hS rfl (tr_s hr (a := 78) rfl (by decide)) rfl rfl (by decide) (congrArg Value.int e1) rfl ?_
      refine go_s (pc' := 5) (st' := [.int (-1), .int 0]) rfl rfl rfl rfl ?_
      refine go_icmpP (t' := 7) (pc' := 6) rfl rfl rfl (fun _ => ?_) (fun (c : ¬ (¬ (0 : Int32) = (-1))) => absurd (by decide) c)
      refine go_s (pc' := 8) rfl rfl rfl rfl ?_
      refine go_s (pc' := 9) rfl rfl rfl rfl ?_
      refine go_sget (pc' := 10) (v := .ref 78) hS rfl rfl rfl (by decide) rfl rfl ?_
      refine go_s (pc' := 11) rfl rfl rfl rfl ?_
      refine go_sald (pc' := 12) (q := 2) (v := .int 3) hS rfl (tr_s hr (a := 78) rfl (by decide)) rfl rfl (by decide) (congrArg Value.int e3) rfl ?_
      refine go_s (pc' := 13) rfl rfl rfl rfl ?_
      refine go_sget (pc' := 14) (v := .ref 78) hS rfl rfl rfl (by decide) rfl rfl ?_
      refine go_s (pc' := 15) (st' := [.int 0, .ref 78, .int 3, .ref 62]) rfl rfl rfl rfl ?_
      refine go_sald (pc' := 16) (q := 0) (v := .int 0) hS rfl (tr_s hr (a := 78) rfl (by decide)) rfl rfl (by decide) (congrArg Value.int e1) rfl ?_
      refine go_s (pc' := 17) (st' := [.int 1, .int 0, .int 3, .ref 62]) rfl rfl rfl rfl ?_
      refine go_s (pc' := 18) rfl rfl rfl rfl ?_
      refine go_s (pc' := 19) (st' := [.int 1, .int 2, .int 1, .int 0, .int 3, .ref 62]) rfl rfl rfl rfl ?_
      refine go_s (pc' := 20) (st' := [.int 1, .int 1, .int 0, .int 3, .ref 62]) rfl rfl rfl rfl ?_
      have hU40 : RU w B R H hb h am ln K (I, Q, Z) := RU_I (sm_e_refl (tbr am (13 * ln) 77 5088) _) (I' := I) (fun _ => rfl) (fun _ => rfl) (Nat.le_refl _) hU
      by_cases u41 : I 0 0 = 0
      · skip
        refine go_callV (pc' := 21) rfl rfl rfl (Nat.le_of_ble_eq_true rfl) rfl (sm_o hS rfl) rfl rfl rfl (rn_snd_0 hS hU40 (by omega) (f := 3) (t := 0) (by decide) (by decide) u41 (by omega)) (fun r h42 q43 => ?_)
        obtain ⟨rfl, rfl⟩ := q43
        refine go_s (pc' := 22) (lo' := [some (.ref 62), some (.int 2), some (.int (-1)), none]) rfl rfl rfl rfl ?_
        refine go_s (pc' := 23) rfl rfl rfl rfl ?_
        refine go_s (pc' := 24) (st' := [.int (-1), .int (-1)]) rfl rfl rfl rfl ?_
        refine go_icmpP (t' := 26) (pc' := 25) rfl rfl rfl (fun (c : ¬ ((-1) : Int32) = (-1)) => absurd c (by decide)) (fun _ => ?_)
        refine go_ret rfl rfl ?_
        have hms : rsr 1 (I, Q, Z) = rsn 3 0 (mgR 1 (Z 5).1) (I, Q, Z) := by
          unfold rsr
          rw [if_neg (show ¬ (I, Q, Z).1 11 0 = -1 from (fun z => absurd (e1.symm.trans z) (by decide))), show pn (I, Q, Z).1 (1 + 1) = 3 from pn_l (v := 3) e3 (by decide), show pn (I, Q, Z).1 0 = 0 from pn_l (v := 0) e1 (by decide), show row1 (I, Q, Z) (1 + 1) = (Z 5).1 from row1_l (v := 3) e3 (by decide)]
        rw [hms, show rsn 3 0 (mgR 1 (Z 5).1) (I, Q, Z) = (I, Q, Z) from if_pos u41]
        exact ⟨rfl, RA_R (by omega) hA⟩
      · skip
        refine go_callV (pc' := 21) rfl rfl rfl (Nat.le_of_ble_eq_true rfl) rfl (sm_o hS rfl) rfl rfl rfl (rn_snd_1 hS hU40 (by omega) (f := 3) (t := 0) (by decide) (by decide) u41 (by omega)) (fun r h44 q45 => ?_)
        obtain ⟨x46, am46, ln46, K46, rfl, hS46, hO46⟩ := q45
        obtain ⟨hx46, hln46, hr46, hWm46⟩ := RO_x hO46 (by omega)
        have ep47 : (appI I Q (4 * 3 + 0)) 11 0 = 0 := (congrFun (appI_o (by decide) (by decide) (by decide)) 0).trans e1
        have ep48 : (appI I Q (4 * 3 + 0)) 11 2 = 3 := (congrFun (appI_o (by decide) (by decide) (by decide)) 2).trans e3
        refine go_s (pc' := 22) (lo' := [some (.ref 62), some (.int 2), some (.int (nI (13 * x46))), none]) rfl rfl rfl rfl ?_
        refine go_s (pc' := 23) rfl rfl rfl rfl ?_
        refine go_s (pc' := 24) (st' := [.int (-1), .int (nI (13 * x46))]) rfl rfl rfl rfl ?_
        refine go_icmpP (t' := 26) (pc' := 25) rfl rfl rfl (fun _ => ?_) (fun (c : ¬ (¬ (nI (13 * x46)) = (-1))) => absurd (nI_nm1 (by omega)) c)
        refine go_s (pc' := 27) rfl rfl rfl rfl ?_
        refine go_s (pc' := 28) rfl rfl rfl rfl ?_
        refine go_callV (pc' := 29) rfl rfl rfl (Nat.le_of_ble_eq_true rfl) rfl (sm_o hS46 rfl) rfl rfl rfl (rt_at_2 hr46 hS46 (Or.inr (Or.inr ep48)) (fun z => absurd (ep48.symm.trans z) (by decide)) (by omega)) (fun r h49 q50 => ?_)
        obtain ⟨rfl, rfl⟩ := q50
        rw [show rwi (jn (appI I Q (4 * 3 + 0)) K46) 2 = 5 by unfold rwi pn; rw [show (jn (appI I Q (4 * 3 + 0)) K46) 11 2 = 3 from ep48]; rfl]
        show am_Go _ _ _ _ 29 _ [.int 2120] _ _
        refine go_s (pc' := 30) (lo' := [some (.ref 62), some (.int 2), some (.int (nI (13 * x46))), some (.int 2120)]) rfl rfl rfl rfl ?_
        refine go_s (pc' := 31) rfl rfl rfl rfl ?_
        refine go_sget (pc' := 32) (v := .ref am46) hS46 rfl rfl rfl (by decide) rfl rfl ?_
        refine go_s (pc' := 33) rfl rfl rfl rfl ?_
        refine go_s (pc' := 34) (st' := [.int 6, .int (nI (13 * x46)), .ref am46]) rfl rfl rfl rfl ?_
        refine go_nadd (pc' := 35) (a := (13 * x46)) (b := 6) rfl rfl rfl rfl rfl ?_
        refine go_s (pc' := 36) rfl rfl rfl rfl ?_
        refine go_sget (pc' := 37) (v := .ref 77) hS46 rfl rfl rfl (by decide) rfl rfl ?_
        refine go_s (pc' := 38) rfl rfl rfl rfl ?_
        refine go_s (pc' := 39) (st' := [.int 11, .int 2120, .ref 77, .int (nI ((13 * x46) + 6)), .ref am46]) rfl rfl rfl rfl ?_
        refine go_s (pc' := 40) (st' := [.int 2131, .ref 77, .int (nI ((13 * x46) + 6)), .ref am46]) rfl rfl rfl rfl ?_
        refine go_sald (pc' := 41) (q := 2131) (v := .int ((Z 5).1 11)) hS46 rfl (tr_as hr46 (by omega)) rfl rfl (by decide) (congrArg Value.int (RR_t hO46.2.1 (i := 5) (by decide) (by decide) 11 (by decide))) rfl ?_
        refine go_siast (pc' := 42) (q := ((13 * x46) + 6)) hS46 rfl (tr_ms hr46 (by omega)) tbr_inj (Nat.le_of_ble_eq_true rfl) rfl (by omega) (rk_0 hr46).1 hWm46 rfl (fun h51 hS52 hE53 => ?_)
        refine go_s (pc' := 43) rfl rfl rfl rfl ?_
        refine go_sget (pc' := 44) (v := .ref am46) hS52 rfl rfl rfl (by decide) rfl rfl ?_
        refine go_s (pc' := 45) rfl rfl rfl rfl ?_
        refine go_s (pc' := 46) (st' := [.int 7, .int (nI (13 * x46)), .ref am46]) rfl rfl rfl rfl ?_
        refine go_nadd (pc' := 47) (a := (13 * x46)) (b := 7) rfl rfl rfl rfl rfl ?_
        refine go_s (pc' := 48) rfl rfl rfl rfl ?_
        refine go_sget (pc' := 49) (v := .ref 77) hS52 rfl rfl rfl (by decide) rfl rfl ?_
        refine go_s (pc' := 50) rfl rfl rfl rfl ?_
        refine go_s (pc' := 51) (st' := [.int 0, .int 2120, .ref 77, .int (nI ((13 * x46) + 7)), .ref am46]) rfl rfl rfl rfl ?_
        refine go_s (pc' := 52) (st' := [.int 2120, .ref 77, .int (nI ((13 * x46) + 7)), .ref am46]) rfl rfl rfl rfl ?_
        refine go_sald (pc' := 53) (q := 2120) (v := .int ((Z 5).1 0)) hS52 rfl (tr_as hr46 (by omega)) rfl rfl (by decide) (congrArg Value.int (RR_t hO46.2.1 (i := 5) (by decide) (by decide) 0 (by decide))) rfl ?_
        refine go_siast (pc' := 54) (q := ((13 * x46) + 7)) hS52 rfl (tr_ms hr46 (by omega)) tbr_inj (Nat.le_of_ble_eq_true rfl) rfl (by omega) (rk_0 hr46).1 hWm46 rfl (fun h54 hS55 hE56 => ?_)
        have hE57 := sm_e_trans hE53 hE56
        refine go_s (pc' := 55) rfl rfl rfl rfl ?_
        refine go_sget (pc' := 56) (v := .ref am46) hS55 rfl rfl rfl (by decide) rfl rfl ?_
        refine go_s (pc' := 57) rfl rfl rfl rfl ?_
        refine go_s (pc' := 58) (st' := [.int 8, .int (nI (13 * x46)), .ref am46]) rfl rfl rfl rfl ?_
        refine go_nadd (pc' := 59) (a := (13 * x46)) (b := 8) rfl rfl rfl rfl rfl ?_
        refine go_s (pc' := 60) rfl rfl rfl rfl ?_
        refine go_sget (pc' := 61) (v := .ref 77) hS55 rfl rfl rfl (by decide) rfl rfl ?_
        refine go_s (pc' := 62) rfl rfl rfl rfl ?_
        refine go_s (pc' := 63) (st' := [.int 5, .int 2120, .ref 77, .int (nI ((13 * x46) + 8)), .ref am46]) rfl rfl rfl rfl ?_
        refine go_s (pc' := 64) (st' := [.int 2125, .ref 77, .int (nI ((13 * x46) + 8)), .ref am46]) rfl rfl rfl rfl ?_
        refine go_sald (pc' := 65) (q := 2125) (v := .int ((Z 5).1 5)) hS55 rfl (tr_as hr46 (by omega)) rfl rfl (by decide) (congrArg Value.int (RR_t hO46.2.1 (i := 5) (by decide) (by decide) 5 (by decide))) rfl ?_
        refine go_siast (pc' := 66) (q := ((13 * x46) + 8)) hS55 rfl (tr_ms hr46 (by omega)) tbr_inj (Nat.le_of_ble_eq_true rfl) rfl (by omega) (rk_0 hr46).1 hWm46 rfl (fun h58 hS59 hE60 => ?_)
        have hE61 := sm_e_trans hE57 hE60
        refine go_s (pc' := 67) rfl rfl rfl rfl ?_
        refine go_sget (pc' := 68) (v := .ref am46) hS59 rfl rfl rfl (by decide) rfl rfl ?_
        refine go_s (pc' := 69) rfl rfl rfl rfl ?_
        refine go_s (pc' := 70) (st' := [.int 9, .int (nI (13 * x46)), .ref am46]) rfl rfl rfl rfl ?_
        refine go_nadd (pc' := 71) (a := (13 * x46)) (b := 9) rfl rfl rfl rfl rfl ?_
        refine go_s (pc' := 72) rfl rfl rfl rfl ?_
        refine go_sget (pc' := 73) (v := .ref 77) hS59 rfl rfl rfl (by decide) rfl rfl ?_
        refine go_s (pc' := 74) rfl rfl rfl rfl ?_
        refine go_s (pc' := 75) (st' := [.int 2, .int 2120, .ref 77, .int (nI ((13 * x46) + 9)), .ref am46]) rfl rfl rfl rfl ?_
        refine go_s (pc' := 76) (st' := [.int 2122, .ref 77, .int (nI ((13 * x46) + 9)), .ref am46]) rfl rfl rfl rfl ?_
        refine go_sald (pc' := 77) (q := 2122) (v := .int ((Z 5).1 2)) hS59 rfl (tr_as hr46 (by omega)) rfl rfl (by decide) (congrArg Value.int (RR_t hO46.2.1 (i := 5) (by decide) (by decide) 2 (by decide))) rfl ?_
        refine go_siast (pc' := 78) (q := ((13 * x46) + 9)) hS59 rfl (tr_ms hr46 (by omega)) tbr_inj (Nat.le_of_ble_eq_true rfl) rfl (by omega) (rk_0 hr46).1 hWm46 rfl (fun h62 hS63 hE64 => ?_)
        have hE65 := sm_e_trans hE61 hE64
        refine go_s (pc' := 79) rfl rfl rfl rfl ?_
        refine go_sget (pc' := 80) (v := .ref am46) hS63 rfl rfl rfl (by decide) rfl rfl ?_
        refine go_s (pc' := 81) rfl rfl rfl rfl ?_
        refine go_s (pc' := 82) (st' := [.int 10, .int (nI (13 * x46)), .ref am46]) rfl rfl rfl rfl ?_
        refine go_nadd (pc' := 83) (a := (13 * x46)) (b := 10) rfl rfl rfl rfl rfl ?_
        refine go_s (pc' := 84) rfl rfl rfl rfl ?_
        refine go_sget (pc' := 85) (v := .ref 77) hS63 rfl rfl rfl (by decide) rfl rfl ?_
        refine go_s (pc' := 86) rfl rfl rfl rfl ?_
        refine go_s (pc' := 87) (st' := [.int 3, .int 2120, .ref 77, .int (nI ((13 * x46) + 10)), .ref am46]) rfl rfl rfl rfl ?_
        refine go_s (pc' := 88) (st' := [.int 2123, .ref 77, .int (nI ((13 * x46) + 10)), .ref am46]) rfl rfl rfl rfl ?_
        refine go_sald (pc' := 89) (q := 2123) (v := .int ((Z 5).1 3)) hS63 rfl (tr_as hr46 (by omega)) rfl rfl (by decide) (congrArg Value.int (RR_t hO46.2.1 (i := 5) (by decide) (by decide) 3 (by decide))) rfl ?_
        refine go_siast (pc' := 90) (q := ((13 * x46) + 10)) hS63 rfl (tr_ms hr46 (by omega)) tbr_inj (Nat.le_of_ble_eq_true rfl) rfl (by omega) (rk_0 hr46).1 hWm46 rfl (fun h66 hS67 hE68 => ?_)
        have hE69 := sm_e_trans hE65 hE68
        refine go_s (pc' := 91) rfl rfl rfl rfl ?_
        refine go_sget (pc' := 92) (v := .ref am46) hS67 rfl rfl rfl (by decide) rfl rfl ?_
        refine go_s (pc' := 93) rfl rfl rfl rfl ?_
        refine go_s (pc' := 94) (st' := [.int 11, .int (nI (13 * x46)), .ref am46]) rfl rfl rfl rfl ?_
        refine go_nadd (pc' := 95) (a := (13 * x46)) (b := 11) rfl rfl rfl rfl rfl ?_
        refine go_s (pc' := 96) rfl rfl rfl rfl ?_
        refine go_sget (pc' := 97) (v := .ref 77) hS67 rfl rfl rfl (by decide) rfl rfl ?_
        refine go_s (pc' := 98) rfl rfl rfl rfl ?_
        refine go_s (pc' := 99) (st' := [.int 4, .int 2120, .ref 77, .int (nI ((13 * x46) + 11)), .ref am46]) rfl rfl rfl rfl ?_
        refine go_s (pc' := 100) (st' := [.int 2124, .ref 77, .int (nI ((13 * x46) + 11)), .ref am46]) rfl rfl rfl rfl ?_
        refine go_sald (pc' := 101) (q := 2124) (v := .int ((Z 5).1 4)) hS67 rfl (tr_as hr46 (by omega)) rfl rfl (by decide) (congrArg Value.int (RR_t hO46.2.1 (i := 5) (by decide) (by decide) 4 (by decide))) rfl ?_
        refine go_siast (pc' := 102) (q := ((13 * x46) + 11)) hS67 rfl (tr_ms hr46 (by omega)) tbr_inj (Nat.le_of_ble_eq_true rfl) rfl (by omega) (rk_0 hr46).1 hWm46 rfl (fun h70 hS71 hE72 => ?_)
        have hE73 := sm_e_trans hE69 hE72
        refine go_ret rfl rfl ?_
        have hms : rsr 1 (I, Q, Z) = rsn 3 0 (mgR 1 (Z 5).1) (I, Q, Z) := by
          unfold rsr
          rw [if_neg (show ¬ (I, Q, Z).1 11 0 = -1 from (fun z => absurd (e1.symm.trans z) (by decide))), show pn (I, Q, Z).1 (1 + 1) = 3 from pn_l (v := 3) e3 (by decide), show pn (I, Q, Z).1 0 = 0 from pn_l (v := 0) e1 (by decide), show row1 (I, Q, Z) (1 + 1) = (Z 5).1 from row1_l (v := 3) e3 (by decide)]
        change sm (tbr am46 (13 * ln46) 77 5088) _ (uI (uI (uI (uI (uI (uI (jn (appI I Q (4 * 3 + 0)) K46) 50 ((13 * x46) + 6) ((Z 5).1 11)) 50 ((13 * x46) + 7) ((Z 5).1 0)) 50 ((13 * x46) + 8) ((Z 5).1 5)) 50 ((13 * x46) + 9) ((Z 5).1 2)) 50 ((13 * x46) + 10) ((Z 5).1 3)) 50 ((13 * x46) + 11) ((Z 5).1 4)) Y at hS71
        rw [jn_hi (c := 50) (by decide), jn_hi (c := 50) (by decide), jn_hi (c := 50) (by decide), jn_hi (c := 50) (by decide), jn_hi (c := 50) (by decide), jn_hi (c := 50) (by decide)] at hS71
        have hU74 := RO_cl (K' := (uI (uI (uI (uI (uI (uI K46 50 ((13 * x46) + 6) ((Z 5).1 11)) 50 ((13 * x46) + 7) ((Z 5).1 0)) 50 ((13 * x46) + 8) ((Z 5).1 5)) 50 ((13 * x46) + 9) ((Z 5).1 2)) 50 ((13 * x46) + 10) ((Z 5).1 3)) 50 ((13 * x46) + 11) ((Z 5).1 4))) (m := (mgn (mgR 1 (Z 5).1) (I 9 (4 * 3 + 0) + 1))) (by omega) hO46 (hE73) rfl rfl rfl rfl (fun c j _ hc => by
          simp only [uI]
          rw [if_neg (by omega), if_neg (by omega), if_neg (by omega), if_neg (by omega), if_neg (by omega), if_neg (by omega)]) (fun i hi => by
          have hi2 : i < 6 := hi
          match i, hi2 with
            | 0, _ => (repeat (first | rw [uI_e (by omega)] | rw [uI_j (by omega)])) <;> rfl
            | 1, _ => (repeat (first | rw [uI_e (by omega)] | rw [uI_j (by omega)])) <;> rfl
            | 2, _ => (repeat (first | rw [uI_e (by omega)] | rw [uI_j (by omega)])) <;> rfl
            | 3, _ => (repeat (first | rw [uI_e (by omega)] | rw [uI_j (by omega)])) <;> rfl
            | 4, _ => (repeat (first | rw [uI_e (by omega)] | rw [uI_j (by omega)])) <;> rfl
            | 5, _ => (repeat (first | rw [uI_e (by omega)] | rw [uI_j (by omega)])) <;> rfl)
        have hA75 : RA w B (R + 1) H hb h70 ((appI I Q (4 * 3 + 0)), (uQ Q (4 * 3 + 0) (Q (4 * 3 + 0) ++ [(mgn (mgR 1 (Z 5).1) (I 9 (4 * 3 + 0) + 1))])), Z) := RA_u.mpr ⟨_, _, _, _, hS71, hU74⟩
        rw [hms, show rsn 3 0 (mgR 1 (Z 5).1) (I, Q, Z) = mapp (4 * 3 + 0) (mgR 1 (Z 5).1) (I, Q, Z) from if_neg u41]
        exact ⟨rfl, hA75⟩
  · skip
    rcases hpk with e76 | e76 | e76
    · skip
      exact absurd e76 hnk
    · skip
      refine go_s (pc' := 1) rfl rfl rfl rfl ?_
      refine go_sget (pc' := 2) (v := .ref 78) hS rfl rfl rfl (by decide) rfl rfl ?_
      refine go_s (pc' := 3) (st' := [.int 0, .ref 78]) rfl rfl rfl rfl ?_
      refine go_sald (pc' := 4) (q := 0) (v := .int 1) hS rfl (tr_s hr (a := 78) rfl (by decide)) rfl rfl (by decide) (congrArg Value.int e1) rfl ?_
      refine go_s (pc' := 5) (st' := [.int (-1), .int 1]) rfl rfl rfl rfl ?_
      refine go_icmpP (t' := 7) (pc' := 6) rfl rfl rfl (fun _ => ?_) (fun (c : ¬ (¬ (1 : Int32) = (-1))) => absurd (by decide) c)
      refine go_s (pc' := 8) rfl rfl rfl rfl ?_
      refine go_s (pc' := 9) rfl rfl rfl rfl ?_
      refine go_sget (pc' := 10) (v := .ref 78) hS rfl rfl rfl (by decide) rfl rfl ?_
      refine go_s (pc' := 11) rfl rfl rfl rfl ?_
      refine go_sald (pc' := 12) (q := 2) (v := .int 2) hS rfl (tr_s hr (a := 78) rfl (by decide)) rfl rfl (by decide) (congrArg Value.int e76) rfl ?_
      refine go_s (pc' := 13) rfl rfl rfl rfl ?_
      refine go_sget (pc' := 14) (v := .ref 78) hS rfl rfl rfl (by decide) rfl rfl ?_
      refine go_s (pc' := 15) (st' := [.int 0, .ref 78, .int 2, .ref 62]) rfl rfl rfl rfl ?_
      refine go_sald (pc' := 16) (q := 0) (v := .int 1) hS rfl (tr_s hr (a := 78) rfl (by decide)) rfl rfl (by decide) (congrArg Value.int e1) rfl ?_
      refine go_s (pc' := 17) (st' := [.int 1, .int 1, .int 2, .ref 62]) rfl rfl rfl rfl ?_
      refine go_s (pc' := 18) rfl rfl rfl rfl ?_
      refine go_s (pc' := 19) (st' := [.int 1, .int 2, .int 1, .int 1, .int 2, .ref 62]) rfl rfl rfl rfl ?_
      refine go_s (pc' := 20) (st' := [.int 1, .int 1, .int 1, .int 2, .ref 62]) rfl rfl rfl rfl ?_
      have hU77 : RU w B R H hb h am ln K (I, Q, Z) := RU_I (sm_e_refl (tbr am (13 * ln) 77 5088) _) (I' := I) (fun _ => rfl) (fun _ => rfl) (Nat.le_refl _) hU
      by_cases u78 : I 0 1 = 0
      · skip
        refine go_callV (pc' := 21) rfl rfl rfl (Nat.le_of_ble_eq_true rfl) rfl (sm_o hS rfl) rfl rfl rfl (rn_snd_0 hS hU77 (by omega) (f := 2) (t := 1) (by decide) (by decide) u78 (by omega)) (fun r h79 q80 => ?_)
        obtain ⟨rfl, rfl⟩ := q80
        refine go_s (pc' := 22) (lo' := [some (.ref 62), some (.int 2), some (.int (-1)), none]) rfl rfl rfl rfl ?_
        refine go_s (pc' := 23) rfl rfl rfl rfl ?_
        refine go_s (pc' := 24) (st' := [.int (-1), .int (-1)]) rfl rfl rfl rfl ?_
        refine go_icmpP (t' := 26) (pc' := 25) rfl rfl rfl (fun (c : ¬ ((-1) : Int32) = (-1)) => absurd c (by decide)) (fun _ => ?_)
        refine go_ret rfl rfl ?_
        have hms : rsr 1 (I, Q, Z) = rsn 2 1 (mgR 1 (Z 4).1) (I, Q, Z) := by
          unfold rsr
          rw [if_neg (show ¬ (I, Q, Z).1 11 0 = -1 from (fun z => absurd (e1.symm.trans z) (by decide))), show pn (I, Q, Z).1 (1 + 1) = 2 from pn_l (v := 2) e76 (by decide), show pn (I, Q, Z).1 0 = 1 from pn_l (v := 1) e1 (by decide), show row1 (I, Q, Z) (1 + 1) = (Z 4).1 from row1_l (v := 2) e76 (by decide)]
        rw [hms, show rsn 2 1 (mgR 1 (Z 4).1) (I, Q, Z) = (I, Q, Z) from if_pos u78]
        exact ⟨rfl, RA_R (by omega) hA⟩
      · skip
        refine go_callV (pc' := 21) rfl rfl rfl (Nat.le_of_ble_eq_true rfl) rfl (sm_o hS rfl) rfl rfl rfl (rn_snd_1 hS hU77 (by omega) (f := 2) (t := 1) (by decide) (by decide) u78 (by omega)) (fun r h81 q82 => ?_)
        obtain ⟨x83, am83, ln83, K83, rfl, hS83, hO83⟩ := q82
        obtain ⟨hx83, hln83, hr83, hWm83⟩ := RO_x hO83 (by omega)
        have ep84 : (appI I Q (4 * 2 + 1)) 11 0 = 1 := (congrFun (appI_o (by decide) (by decide) (by decide)) 0).trans e1
        have ep85 : (appI I Q (4 * 2 + 1)) 11 2 = 2 := (congrFun (appI_o (by decide) (by decide) (by decide)) 2).trans e76
        refine go_s (pc' := 22) (lo' := [some (.ref 62), some (.int 2), some (.int (nI (13 * x83))), none]) rfl rfl rfl rfl ?_
        refine go_s (pc' := 23) rfl rfl rfl rfl ?_
        refine go_s (pc' := 24) (st' := [.int (-1), .int (nI (13 * x83))]) rfl rfl rfl rfl ?_
        refine go_icmpP (t' := 26) (pc' := 25) rfl rfl rfl (fun _ => ?_) (fun (c : ¬ (¬ (nI (13 * x83)) = (-1))) => absurd (nI_nm1 (by omega)) c)
        refine go_s (pc' := 27) rfl rfl rfl rfl ?_
        refine go_s (pc' := 28) rfl rfl rfl rfl ?_
        refine go_callV (pc' := 29) rfl rfl rfl (Nat.le_of_ble_eq_true rfl) rfl (sm_o hS83 rfl) rfl rfl rfl (rt_at_2 hr83 hS83 (Or.inr (Or.inl ep85)) (fun z => absurd (ep85.symm.trans z) (by decide)) (by omega)) (fun r h86 q87 => ?_)
        obtain ⟨rfl, rfl⟩ := q87
        rw [show rwi (jn (appI I Q (4 * 2 + 1)) K83) 2 = 4 by unfold rwi pn; rw [show (jn (appI I Q (4 * 2 + 1)) K83) 11 2 = 2 from ep85]; rfl]
        show am_Go _ _ _ _ 29 _ [.int 1696] _ _
        refine go_s (pc' := 30) (lo' := [some (.ref 62), some (.int 2), some (.int (nI (13 * x83))), some (.int 1696)]) rfl rfl rfl rfl ?_
        refine go_s (pc' := 31) rfl rfl rfl rfl ?_
        refine go_sget (pc' := 32) (v := .ref am83) hS83 rfl rfl rfl (by decide) rfl rfl ?_
        refine go_s (pc' := 33) rfl rfl rfl rfl ?_
        refine go_s (pc' := 34) (st' := [.int 6, .int (nI (13 * x83)), .ref am83]) rfl rfl rfl rfl ?_
        refine go_nadd (pc' := 35) (a := (13 * x83)) (b := 6) rfl rfl rfl rfl rfl ?_
        refine go_s (pc' := 36) rfl rfl rfl rfl ?_
        refine go_sget (pc' := 37) (v := .ref 77) hS83 rfl rfl rfl (by decide) rfl rfl ?_
        refine go_s (pc' := 38) rfl rfl rfl rfl ?_
        refine go_s (pc' := 39) (st' := [.int 11, .int 1696, .ref 77, .int (nI ((13 * x83) + 6)), .ref am83]) rfl rfl rfl rfl ?_
        refine go_s (pc' := 40) (st' := [.int 1707, .ref 77, .int (nI ((13 * x83) + 6)), .ref am83]) rfl rfl rfl rfl ?_
        refine go_sald (pc' := 41) (q := 1707) (v := .int ((Z 4).1 11)) hS83 rfl (tr_as hr83 (by omega)) rfl rfl (by decide) (congrArg Value.int (RR_t hO83.2.1 (i := 4) (by decide) (by decide) 11 (by decide))) rfl ?_
        refine go_siast (pc' := 42) (q := ((13 * x83) + 6)) hS83 rfl (tr_ms hr83 (by omega)) tbr_inj (Nat.le_of_ble_eq_true rfl) rfl (by omega) (rk_0 hr83).1 hWm83 rfl (fun h88 hS89 hE90 => ?_)
        refine go_s (pc' := 43) rfl rfl rfl rfl ?_
        refine go_sget (pc' := 44) (v := .ref am83) hS89 rfl rfl rfl (by decide) rfl rfl ?_
        refine go_s (pc' := 45) rfl rfl rfl rfl ?_
        refine go_s (pc' := 46) (st' := [.int 7, .int (nI (13 * x83)), .ref am83]) rfl rfl rfl rfl ?_
        refine go_nadd (pc' := 47) (a := (13 * x83)) (b := 7) rfl rfl rfl rfl rfl ?_
        refine go_s (pc' := 48) rfl rfl rfl rfl ?_
        refine go_sget (pc' := 49) (v := .ref 77) hS89 rfl rfl rfl (by decide) rfl rfl ?_
        refine go_s (pc' := 50) rfl rfl rfl rfl ?_
        refine go_s (pc' := 51) (st' := [.int 0, .int 1696, .ref 77, .int (nI ((13 * x83) + 7)), .ref am83]) rfl rfl rfl rfl ?_
        refine go_s (pc' := 52) (st' := [.int 1696, .ref 77, .int (nI ((13 * x83) + 7)), .ref am83]) rfl rfl rfl rfl ?_
        refine go_sald (pc' := 53) (q := 1696) (v := .int ((Z 4).1 0)) hS89 rfl (tr_as hr83 (by omega)) rfl rfl (by decide) (congrArg Value.int (RR_t hO83.2.1 (i := 4) (by decide) (by decide) 0 (by decide))) rfl ?_
        refine go_siast (pc' := 54) (q := ((13 * x83) + 7)) hS89 rfl (tr_ms hr83 (by omega)) tbr_inj (Nat.le_of_ble_eq_true rfl) rfl (by omega) (rk_0 hr83).1 hWm83 rfl (fun h91 hS92 hE93 => ?_)
        have hE94 := sm_e_trans hE90 hE93
        refine go_s (pc' := 55) rfl rfl rfl rfl ?_
        refine go_sget (pc' := 56) (v := .ref am83) hS92 rfl rfl rfl (by decide) rfl rfl ?_
        refine go_s (pc' := 57) rfl rfl rfl rfl ?_
        refine go_s (pc' := 58) (st' := [.int 8, .int (nI (13 * x83)), .ref am83]) rfl rfl rfl rfl ?_
        refine go_nadd (pc' := 59) (a := (13 * x83)) (b := 8) rfl rfl rfl rfl rfl ?_
        refine go_s (pc' := 60) rfl rfl rfl rfl ?_
        refine go_sget (pc' := 61) (v := .ref 77) hS92 rfl rfl rfl (by decide) rfl rfl ?_
        refine go_s (pc' := 62) rfl rfl rfl rfl ?_
        refine go_s (pc' := 63) (st' := [.int 5, .int 1696, .ref 77, .int (nI ((13 * x83) + 8)), .ref am83]) rfl rfl rfl rfl ?_
        refine go_s (pc' := 64) (st' := [.int 1701, .ref 77, .int (nI ((13 * x83) + 8)), .ref am83]) rfl rfl rfl rfl ?_
        refine go_sald (pc' := 65) (q := 1701) (v := .int ((Z 4).1 5)) hS92 rfl (tr_as hr83 (by omega)) rfl rfl (by decide) (congrArg Value.int (RR_t hO83.2.1 (i := 4) (by decide) (by decide) 5 (by decide))) rfl ?_
        refine go_siast (pc' := 66) (q := ((13 * x83) + 8)) hS92 rfl (tr_ms hr83 (by omega)) tbr_inj (Nat.le_of_ble_eq_true rfl) rfl (by omega) (rk_0 hr83).1 hWm83 rfl (fun h95 hS96 hE97 => ?_)
        have hE98 := sm_e_trans hE94 hE97
        refine go_s (pc' := 67) rfl rfl rfl rfl ?_
        refine go_sget (pc' := 68) (v := .ref am83) hS96 rfl rfl rfl (by decide) rfl rfl ?_
        refine go_s (pc' := 69) rfl rfl rfl rfl ?_
        refine go_s (pc' := 70) (st' := [.int 9, .int (nI (13 * x83)), .ref am83]) rfl rfl rfl rfl ?_
        refine go_nadd (pc' := 71) (a := (13 * x83)) (b := 9) rfl rfl rfl rfl rfl ?_
        refine go_s (pc' := 72) rfl rfl rfl rfl ?_
        refine go_sget (pc' := 73) (v := .ref 77) hS96 rfl rfl rfl (by decide) rfl rfl ?_
        refine go_s (pc' := 74) rfl rfl rfl rfl ?_
        refine go_s (pc' := 75) (st' := [.int 2, .int 1696, .ref 77, .int (nI ((13 * x83) + 9)), .ref am83]) rfl rfl rfl rfl ?_
        refine go_s (pc' := 76) (st' := [.int 1698, .ref 77, .int (nI ((13 * x83) + 9)), .ref am83]) rfl rfl rfl rfl ?_
        refine go_sald (pc' := 77) (q := 1698) (v := .int ((Z 4).1 2)) hS96 rfl (tr_as hr83 (by omega)) rfl rfl (by decide) (congrArg Value.int (RR_t hO83.2.1 (i := 4) (by decide) (by decide) 2 (by decide))) rfl ?_
        refine go_siast (pc' := 78) (q := ((13 * x83) + 9)) hS96 rfl (tr_ms hr83 (by omega)) tbr_inj (Nat.le_of_ble_eq_true rfl) rfl (by omega) (rk_0 hr83).1 hWm83 rfl (fun h99 hS100 hE101 => ?_)
        have hE102 := sm_e_trans hE98 hE101
        refine go_s (pc' := 79) rfl rfl rfl rfl ?_
        refine go_sget (pc' := 80) (v := .ref am83) hS100 rfl rfl rfl (by decide) rfl rfl ?_
        refine go_s (pc' := 81) rfl rfl rfl rfl ?_
        refine go_s (pc' := 82) (st' := [.int 10, .int (nI (13 * x83)), .ref am83]) rfl rfl rfl rfl ?_
        refine go_nadd (pc' := 83) (a := (13 * x83)) (b := 10) rfl rfl rfl rfl rfl ?_
        refine go_s (pc' := 84) rfl rfl rfl rfl ?_
        refine go_sget (pc' := 85) (v := .ref 77) hS100 rfl rfl rfl (by decide) rfl rfl ?_
        refine go_s (pc' := 86) rfl rfl rfl rfl ?_
        refine go_s (pc' := 87) (st' := [.int 3, .int 1696, .ref 77, .int (nI ((13 * x83) + 10)), .ref am83]) rfl rfl rfl rfl ?_
        refine go_s (pc' := 88) (st' := [.int 1699, .ref 77, .int (nI ((13 * x83) + 10)), .ref am83]) rfl rfl rfl rfl ?_
        refine go_sald (pc' := 89) (q := 1699) (v := .int ((Z 4).1 3)) hS100 rfl (tr_as hr83 (by omega)) rfl rfl (by decide) (congrArg Value.int (RR_t hO83.2.1 (i := 4) (by decide) (by decide) 3 (by decide))) rfl ?_
        refine go_siast (pc' := 90) (q := ((13 * x83) + 10)) hS100 rfl (tr_ms hr83 (by omega)) tbr_inj (Nat.le_of_ble_eq_true rfl) rfl (by omega) (rk_0 hr83).1 hWm83 rfl (fun h103 hS104 hE105 => ?_)
        have hE106 := sm_e_trans hE102 hE105
        refine go_s (pc' := 91) rfl rfl rfl rfl ?_
        refine go_sget (pc' := 92) (v := .ref am83) hS104 rfl rfl rfl (by decide) rfl rfl ?_
        refine go_s (pc' := 93) rfl rfl rfl rfl ?_
        refine go_s (pc' := 94) (st' := [.int 11, .int (nI (13 * x83)), .ref am83]) rfl rfl rfl rfl ?_
        refine go_nadd (pc' := 95) (a := (13 * x83)) (b := 11) rfl rfl rfl rfl rfl ?_
        refine go_s (pc' := 96) rfl rfl rfl rfl ?_
        refine go_sget (pc' := 97) (v := .ref 77) hS104 rfl rfl rfl (by decide) rfl rfl ?_
        refine go_s (pc' := 98) rfl rfl rfl rfl ?_
        refine go_s (pc' := 99) (st' := [.int 4, .int 1696, .ref 77, .int (nI ((13 * x83) + 11)), .ref am83]) rfl rfl rfl rfl ?_
        refine go_s (pc' := 100) (st' := [.int 1700, .ref 77, .int (nI ((13 * x83) + 11)), .ref am83]) rfl rfl rfl rfl ?_
        refine go_sald (pc' := 101) (q := 1700) (v := .int ((Z 4).1 4)) hS104 rfl (tr_as hr83 (by omega)) rfl rfl (by decide) (congrArg Value.int (RR_t hO83.2.1 (i := 4) (by decide) (by decide) 4 (by decide))) rfl ?_
        refine go_siast (pc' := 102) (q := ((13 * x83) + 11)) hS104 rfl (tr_ms hr83 (by omega)) tbr_inj (Nat.le_of_ble_eq_true rfl) rfl (by omega) (rk_0 hr83).1 hWm83 rfl (fun h107 hS108 hE109 => ?_)
        have hE110 := sm_e_trans hE106 hE109
        refine go_ret rfl rfl ?_
        have hms : rsr 1 (I, Q, Z) = rsn 2 1 (mgR 1 (Z 4).1) (I, Q, Z) := by
          unfold rsr
          rw [if_neg (show ¬ (I, Q, Z).1 11 0 = -1 from (fun z => absurd (e1.symm.trans z) (by decide))), show pn (I, Q, Z).1 (1 + 1) = 2 from pn_l (v := 2) e76 (by decide), show pn (I, Q, Z).1 0 = 1 from pn_l (v := 1) e1 (by decide), show row1 (I, Q, Z) (1 + 1) = (Z 4).1 from row1_l (v := 2) e76 (by decide)]
        change sm (tbr am83 (13 * ln83) 77 5088) _ (uI (uI (uI (uI (uI (uI (jn (appI I Q (4 * 2 + 1)) K83) 50 ((13 * x83) + 6) ((Z 4).1 11)) 50 ((13 * x83) + 7) ((Z 4).1 0)) 50 ((13 * x83) + 8) ((Z 4).1 5)) 50 ((13 * x83) + 9) ((Z 4).1 2)) 50 ((13 * x83) + 10) ((Z 4).1 3)) 50 ((13 * x83) + 11) ((Z 4).1 4)) Y at hS108
        rw [jn_hi (c := 50) (by decide), jn_hi (c := 50) (by decide), jn_hi (c := 50) (by decide), jn_hi (c := 50) (by decide), jn_hi (c := 50) (by decide), jn_hi (c := 50) (by decide)] at hS108
        have hU111 := RO_cl (K' := (uI (uI (uI (uI (uI (uI K83 50 ((13 * x83) + 6) ((Z 4).1 11)) 50 ((13 * x83) + 7) ((Z 4).1 0)) 50 ((13 * x83) + 8) ((Z 4).1 5)) 50 ((13 * x83) + 9) ((Z 4).1 2)) 50 ((13 * x83) + 10) ((Z 4).1 3)) 50 ((13 * x83) + 11) ((Z 4).1 4))) (m := (mgn (mgR 1 (Z 4).1) (I 9 (4 * 2 + 1) + 1))) (by omega) hO83 (hE110) rfl rfl rfl rfl (fun c j _ hc => by
          simp only [uI]
          rw [if_neg (by omega), if_neg (by omega), if_neg (by omega), if_neg (by omega), if_neg (by omega), if_neg (by omega)]) (fun i hi => by
          have hi2 : i < 6 := hi
          match i, hi2 with
            | 0, _ => (repeat (first | rw [uI_e (by omega)] | rw [uI_j (by omega)])) <;> rfl
            | 1, _ => (repeat (first | rw [uI_e (by omega)] | rw [uI_j (by omega)])) <;> rfl
            | 2, _ => (repeat (first | rw [uI_e (by omega)] | rw [uI_j (by omega)])) <;> rfl
            | 3, _ => (repeat (first | rw [uI_e (by omega)] | rw [uI_j (by omega)])) <;> rfl
            | 4, _ => (repeat (first | rw [uI_e (by omega)] | rw [uI_j (by omega)])) <;> rfl
            | 5, _ => (repeat (first | rw [uI_e (by omega)] | rw [uI_j (by omega)])) <;> rfl)
        have hA112 : RA w B (R + 1) H hb h107 ((appI I Q (4 * 2 + 1)), (uQ Q (4 * 2 + 1) (Q (4 * 2 + 1) ++ [(mgn (mgR 1 (Z 4).1) (I 9 (4 * 2 + 1) + 1))])), Z) := RA_u.mpr ⟨_, _, _, _, hS108, hU111⟩
        rw [hms, show rsn 2 1 (mgR 1 (Z 4).1) (I, Q, Z) = mapp (4 * 2 + 1) (mgR 1 (Z 4).1) (I, Q, Z) from if_neg u78]
        exact ⟨rfl, hA112⟩
    · skip
      refine go_s (pc' := 1) rfl rfl rfl rfl ?_
      refine go_sget (pc' := 2) (v := .ref 78) hS rfl rfl rfl (by decide) rfl rfl ?_
      refine go_s (pc' := 3) (st' := [.int 0, .ref 78]) rfl rfl rfl rfl ?_
      refine go_sald (pc' := 4) (q := 0) (v := .int 1) hS rfl (tr_s hr (a := 78) rfl (by decide)) rfl rfl (by decide) (congrArg Value.int e1) rfl ?_
      refine go_s (pc' := 5) (st' := [.int (-1), .int 1]) rfl rfl rfl rfl ?_
      refine go_icmpP (t' := 7) (pc' := 6) rfl rfl rfl (fun _ => ?_) (fun (c : ¬ (¬ (1 : Int32) = (-1))) => absurd (by decide) c)
      refine go_s (pc' := 8) rfl rfl rfl rfl ?_
      refine go_s (pc' := 9) rfl rfl rfl rfl ?_
      refine go_sget (pc' := 10) (v := .ref 78) hS rfl rfl rfl (by decide) rfl rfl ?_
      refine go_s (pc' := 11) rfl rfl rfl rfl ?_
      refine go_sald (pc' := 12) (q := 2) (v := .int 3) hS rfl (tr_s hr (a := 78) rfl (by decide)) rfl rfl (by decide) (congrArg Value.int e76) rfl ?_
      refine go_s (pc' := 13) rfl rfl rfl rfl ?_
      refine go_sget (pc' := 14) (v := .ref 78) hS rfl rfl rfl (by decide) rfl rfl ?_
      refine go_s (pc' := 15) (st' := [.int 0, .ref 78, .int 3, .ref 62]) rfl rfl rfl rfl ?_
      refine go_sald (pc' := 16) (q := 0) (v := .int 1) hS rfl (tr_s hr (a := 78) rfl (by decide)) rfl rfl (by decide) (congrArg Value.int e1) rfl ?_
      refine go_s (pc' := 17) (st' := [.int 1, .int 1, .int 3, .ref 62]) rfl rfl rfl rfl ?_
      refine go_s (pc' := 18) rfl rfl rfl rfl ?_
      refine go_s (pc' := 19) (st' := [.int 1, .int 2, .int 1, .int 1, .int 3, .ref 62]) rfl rfl rfl rfl ?_
      refine go_s (pc' := 20) (st' := [.int 1, .int 1, .int 1, .int 3, .ref 62]) rfl rfl rfl rfl ?_
      have hU113 : RU w B R H hb h am ln K (I, Q, Z) := RU_I (sm_e_refl (tbr am (13 * ln) 77 5088) _) (I' := I) (fun _ => rfl) (fun _ => rfl) (Nat.le_refl _) hU
      by_cases u114 : I 0 1 = 0
      · skip
        refine go_callV (pc' := 21) rfl rfl rfl (Nat.le_of_ble_eq_true rfl) rfl (sm_o hS rfl) rfl rfl rfl (rn_snd_0 hS hU113 (by omega) (f := 3) (t := 1) (by decide) (by decide) u114 (by omega)) (fun r h115 q116 => ?_)
        obtain ⟨rfl, rfl⟩ := q116
        refine go_s (pc' := 22) (lo' := [some (.ref 62), some (.int 2), some (.int (-1)), none]) rfl rfl rfl rfl ?_
        refine go_s (pc' := 23) rfl rfl rfl rfl ?_
        refine go_s (pc' := 24) (st' := [.int (-1), .int (-1)]) rfl rfl rfl rfl ?_
        refine go_icmpP (t' := 26) (pc' := 25) rfl rfl rfl (fun (c : ¬ ((-1) : Int32) = (-1)) => absurd c (by decide)) (fun _ => ?_)
        refine go_ret rfl rfl ?_
        have hms : rsr 1 (I, Q, Z) = rsn 3 1 (mgR 1 (Z 5).1) (I, Q, Z) := by
          unfold rsr
          rw [if_neg (show ¬ (I, Q, Z).1 11 0 = -1 from (fun z => absurd (e1.symm.trans z) (by decide))), show pn (I, Q, Z).1 (1 + 1) = 3 from pn_l (v := 3) e76 (by decide), show pn (I, Q, Z).1 0 = 1 from pn_l (v := 1) e1 (by decide), show row1 (I, Q, Z) (1 + 1) = (Z 5).1 from row1_l (v := 3) e76 (by decide)]
        rw [hms, show rsn 3 1 (mgR 1 (Z 5).1) (I, Q, Z) = (I, Q, Z) from if_pos u114]
        exact ⟨rfl, RA_R (by omega) hA⟩
      · skip
        refine go_callV (pc' := 21) rfl rfl rfl (Nat.le_of_ble_eq_true rfl) rfl (sm_o hS rfl) rfl rfl rfl (rn_snd_1 hS hU113 (by omega) (f := 3) (t := 1) (by decide) (by decide) u114 (by omega)) (fun r h117 q118 => ?_)
        obtain ⟨x119, am119, ln119, K119, rfl, hS119, hO119⟩ := q118
        obtain ⟨hx119, hln119, hr119, hWm119⟩ := RO_x hO119 (by omega)
        have ep120 : (appI I Q (4 * 3 + 1)) 11 0 = 1 := (congrFun (appI_o (by decide) (by decide) (by decide)) 0).trans e1
        have ep121 : (appI I Q (4 * 3 + 1)) 11 2 = 3 := (congrFun (appI_o (by decide) (by decide) (by decide)) 2).trans e76
        refine go_s (pc' := 22) (lo' := [some (.ref 62), some (.int 2), some (.int (nI (13 * x119))), none]) rfl rfl rfl rfl ?_
        refine go_s (pc' := 23) rfl rfl rfl rfl ?_
        refine go_s (pc' := 24) (st' := [.int (-1), .int (nI (13 * x119))]) rfl rfl rfl rfl ?_
        refine go_icmpP (t' := 26) (pc' := 25) rfl rfl rfl (fun _ => ?_) (fun (c : ¬ (¬ (nI (13 * x119)) = (-1))) => absurd (nI_nm1 (by omega)) c)
        refine go_s (pc' := 27) rfl rfl rfl rfl ?_
        refine go_s (pc' := 28) rfl rfl rfl rfl ?_
        refine go_callV (pc' := 29) rfl rfl rfl (Nat.le_of_ble_eq_true rfl) rfl (sm_o hS119 rfl) rfl rfl rfl (rt_at_2 hr119 hS119 (Or.inr (Or.inr ep121)) (fun z => absurd (ep121.symm.trans z) (by decide)) (by omega)) (fun r h122 q123 => ?_)
        obtain ⟨rfl, rfl⟩ := q123
        rw [show rwi (jn (appI I Q (4 * 3 + 1)) K119) 2 = 5 by unfold rwi pn; rw [show (jn (appI I Q (4 * 3 + 1)) K119) 11 2 = 3 from ep121]; rfl]
        show am_Go _ _ _ _ 29 _ [.int 2120] _ _
        refine go_s (pc' := 30) (lo' := [some (.ref 62), some (.int 2), some (.int (nI (13 * x119))), some (.int 2120)]) rfl rfl rfl rfl ?_
        refine go_s (pc' := 31) rfl rfl rfl rfl ?_
        refine go_sget (pc' := 32) (v := .ref am119) hS119 rfl rfl rfl (by decide) rfl rfl ?_
        refine go_s (pc' := 33) rfl rfl rfl rfl ?_
        refine go_s (pc' := 34) (st' := [.int 6, .int (nI (13 * x119)), .ref am119]) rfl rfl rfl rfl ?_
        refine go_nadd (pc' := 35) (a := (13 * x119)) (b := 6) rfl rfl rfl rfl rfl ?_
        refine go_s (pc' := 36) rfl rfl rfl rfl ?_
        refine go_sget (pc' := 37) (v := .ref 77) hS119 rfl rfl rfl (by decide) rfl rfl ?_
        refine go_s (pc' := 38) rfl rfl rfl rfl ?_
        refine go_s (pc' := 39) (st' := [.int 11, .int 2120, .ref 77, .int (nI ((13 * x119) + 6)), .ref am119]) rfl rfl rfl rfl ?_
        refine go_s (pc' := 40) (st' := [.int 2131, .ref 77, .int (nI ((13 * x119) + 6)), .ref am119]) rfl rfl rfl rfl ?_
        refine go_sald (pc' := 41) (q := 2131) (v := .int ((Z 5).1 11)) hS119 rfl (tr_as hr119 (by omega)) rfl rfl (by decide) (congrArg Value.int (RR_t hO119.2.1 (i := 5) (by decide) (by decide) 11 (by decide))) rfl ?_
        refine go_siast (pc' := 42) (q := ((13 * x119) + 6)) hS119 rfl (tr_ms hr119 (by omega)) tbr_inj (Nat.le_of_ble_eq_true rfl) rfl (by omega) (rk_0 hr119).1 hWm119 rfl (fun h124 hS125 hE126 => ?_)
        refine go_s (pc' := 43) rfl rfl rfl rfl ?_
        refine go_sget (pc' := 44) (v := .ref am119) hS125 rfl rfl rfl (by decide) rfl rfl ?_
        refine go_s (pc' := 45) rfl rfl rfl rfl ?_
        refine go_s (pc' := 46) (st' := [.int 7, .int (nI (13 * x119)), .ref am119]) rfl rfl rfl rfl ?_
        refine go_nadd (pc' := 47) (a := (13 * x119)) (b := 7) rfl rfl rfl rfl rfl ?_
        refine go_s (pc' := 48) rfl rfl rfl rfl ?_
        refine go_sget (pc' := 49) (v := .ref 77) hS125 rfl rfl rfl (by decide) rfl rfl ?_
        refine go_s (pc' := 50) rfl rfl rfl rfl ?_
        refine go_s (pc' := 51) (st' := [.int 0, .int 2120, .ref 77, .int (nI ((13 * x119) + 7)), .ref am119]) rfl rfl rfl rfl ?_
        refine go_s (pc' := 52) (st' := [.int 2120, .ref 77, .int (nI ((13 * x119) + 7)), .ref am119]) rfl rfl rfl rfl ?_
        refine go_sald (pc' := 53) (q := 2120) (v := .int ((Z 5).1 0)) hS125 rfl (tr_as hr119 (by omega)) rfl rfl (by decide) (congrArg Value.int (RR_t hO119.2.1 (i := 5) (by decide) (by decide) 0 (by decide))) rfl ?_
        refine go_siast (pc' := 54) (q := ((13 * x119) + 7)) hS125 rfl (tr_ms hr119 (by omega)) tbr_inj (Nat.le_of_ble_eq_true rfl) rfl (by omega) (rk_0 hr119).1 hWm119 rfl (fun h127 hS128 hE129 => ?_)
        have hE130 := sm_e_trans hE126 hE129
        refine go_s (pc' := 55) rfl rfl rfl rfl ?_
        refine go_sget (pc' := 56) (v := .ref am119) hS128 rfl rfl rfl (by decide) rfl rfl ?_
        refine go_s (pc' := 57) rfl rfl rfl rfl ?_
        refine go_s (pc' := 58) (st' := [.int 8, .int (nI (13 * x119)), .ref am119]) rfl rfl rfl rfl ?_
        refine go_nadd (pc' := 59) (a := (13 * x119)) (b := 8) rfl rfl rfl rfl rfl ?_
        refine go_s (pc' := 60) rfl rfl rfl rfl ?_
        refine go_sget (pc' := 61) (v := .ref 77) hS128 rfl rfl rfl (by decide) rfl rfl ?_
        refine go_s (pc' := 62) rfl rfl rfl rfl ?_
        refine go_s (pc' := 63) (st' := [.int 5, .int 2120, .ref 77, .int (nI ((13 * x119) + 8)), .ref am119]) rfl rfl rfl rfl ?_
        refine go_s (pc' := 64) (st' := [.int 2125, .ref 77, .int (nI ((13 * x119) + 8)), .ref am119]) rfl rfl rfl rfl ?_
        refine go_sald (pc' := 65) (q := 2125) (v := .int ((Z 5).1 5)) hS128 rfl (tr_as hr119 (by omega)) rfl rfl (by decide) (congrArg Value.int (RR_t hO119.2.1 (i := 5) (by decide) (by decide) 5 (by decide))) rfl ?_
        refine go_siast (pc' := 66) (q := ((13 * x119) + 8)) hS128 rfl (tr_ms hr119 (by omega)) tbr_inj (Nat.le_of_ble_eq_true rfl) rfl (by omega) (rk_0 hr119).1 hWm119 rfl (fun h131 hS132 hE133 => ?_)
        have hE134 := sm_e_trans hE130 hE133
        refine go_s (pc' := 67) rfl rfl rfl rfl ?_
        refine go_sget (pc' := 68) (v := .ref am119) hS132 rfl rfl rfl (by decide) rfl rfl ?_
        refine go_s (pc' := 69) rfl rfl rfl rfl ?_
        refine go_s (pc' := 70) (st' := [.int 9, .int (nI (13 * x119)), .ref am119]) rfl rfl rfl rfl ?_
        refine go_nadd (pc' := 71) (a := (13 * x119)) (b := 9) rfl rfl rfl rfl rfl ?_
        refine go_s (pc' := 72) rfl rfl rfl rfl ?_
        refine go_sget (pc' := 73) (v := .ref 77) hS132 rfl rfl rfl (by decide) rfl rfl ?_
        refine go_s (pc' := 74) rfl rfl rfl rfl ?_
        refine go_s (pc' := 75) (st' := [.int 2, .int 2120, .ref 77, .int (nI ((13 * x119) + 9)), .ref am119]) rfl rfl rfl rfl ?_
        refine go_s (pc' := 76) (st' := [.int 2122, .ref 77, .int (nI ((13 * x119) + 9)), .ref am119]) rfl rfl rfl rfl ?_
        refine go_sald (pc' := 77) (q := 2122) (v := .int ((Z 5).1 2)) hS132 rfl (tr_as hr119 (by omega)) rfl rfl (by decide) (congrArg Value.int (RR_t hO119.2.1 (i := 5) (by decide) (by decide) 2 (by decide))) rfl ?_
        refine go_siast (pc' := 78) (q := ((13 * x119) + 9)) hS132 rfl (tr_ms hr119 (by omega)) tbr_inj (Nat.le_of_ble_eq_true rfl) rfl (by omega) (rk_0 hr119).1 hWm119 rfl (fun h135 hS136 hE137 => ?_)
        have hE138 := sm_e_trans hE134 hE137
        refine go_s (pc' := 79) rfl rfl rfl rfl ?_
        refine go_sget (pc' := 80) (v := .ref am119) hS136 rfl rfl rfl (by decide) rfl rfl ?_
        refine go_s (pc' := 81) rfl rfl rfl rfl ?_
        refine go_s (pc' := 82) (st' := [.int 10, .int (nI (13 * x119)), .ref am119]) rfl rfl rfl rfl ?_
        refine go_nadd (pc' := 83) (a := (13 * x119)) (b := 10) rfl rfl rfl rfl rfl ?_
        refine go_s (pc' := 84) rfl rfl rfl rfl ?_
        refine go_sget (pc' := 85) (v := .ref 77) hS136 rfl rfl rfl (by decide) rfl rfl ?_
        refine go_s (pc' := 86) rfl rfl rfl rfl ?_
        refine go_s (pc' := 87) (st' := [.int 3, .int 2120, .ref 77, .int (nI ((13 * x119) + 10)), .ref am119]) rfl rfl rfl rfl ?_
        refine go_s (pc' := 88) (st' := [.int 2123, .ref 77, .int (nI ((13 * x119) + 10)), .ref am119]) rfl rfl rfl rfl ?_
        refine go_sald (pc' := 89) (q := 2123) (v := .int ((Z 5).1 3)) hS136 rfl (tr_as hr119 (by omega)) rfl rfl (by decide) (congrArg Value.int (RR_t hO119.2.1 (i := 5) (by decide) (by decide) 3 (by decide))) rfl ?_
        refine go_siast (pc' := 90) (q := ((13 * x119) + 10)) hS136 rfl (tr_ms hr119 (by omega)) tbr_inj (Nat.le_of_ble_eq_true rfl) rfl (by omega) (rk_0 hr119).1 hWm119 rfl (fun h139 hS140 hE141 => ?_)
        have hE142 := sm_e_trans hE138 hE141
        refine go_s (pc' := 91) rfl rfl rfl rfl ?_
        refine go_sget (pc' := 92) (v := .ref am119) hS140 rfl rfl rfl (by decide) rfl rfl ?_
        refine go_s (pc' := 93) rfl rfl rfl rfl ?_
        refine go_s (pc' := 94) (st' := [.int 11, .int (nI (13 * x119)), .ref am119]) rfl rfl rfl rfl ?_
        refine go_nadd (pc' := 95) (a := (13 * x119)) (b := 11) rfl rfl rfl rfl rfl ?_
        refine go_s (pc' := 96) rfl rfl rfl rfl ?_
        refine go_sget (pc' := 97) (v := .ref 77) hS140 rfl rfl rfl (by decide) rfl rfl ?_
        refine go_s (pc' := 98) rfl rfl rfl rfl ?_
        refine go_s (pc' := 99) (st' := [.int 4, .int 2120, .ref 77, .int (nI ((13 * x119) + 11)), .ref am119]) rfl rfl rfl rfl ?_
        refine go_s (pc' := 100) (st' := [.int 2124, .ref 77, .int (nI ((13 * x119) + 11)), .ref am119]) rfl rfl rfl rfl ?_
        refine go_sald (pc' := 101) (q := 2124) (v := .int ((Z 5).1 4)) hS140 rfl (tr_as hr119 (by omega)) rfl rfl (by decide) (congrArg Value.int (RR_t hO119.2.1 (i := 5) (by decide) (by decide) 4 (by decide))) rfl ?_
        refine go_siast (pc' := 102) (q := ((13 * x119) + 11)) hS140 rfl (tr_ms hr119 (by omega)) tbr_inj (Nat.le_of_ble_eq_true rfl) rfl (by omega) (rk_0 hr119).1 hWm119 rfl (fun h143 hS144 hE145 => ?_)
        have hE146 := sm_e_trans hE142 hE145
        refine go_ret rfl rfl ?_
        have hms : rsr 1 (I, Q, Z) = rsn 3 1 (mgR 1 (Z 5).1) (I, Q, Z) := by
          unfold rsr
          rw [if_neg (show ¬ (I, Q, Z).1 11 0 = -1 from (fun z => absurd (e1.symm.trans z) (by decide))), show pn (I, Q, Z).1 (1 + 1) = 3 from pn_l (v := 3) e76 (by decide), show pn (I, Q, Z).1 0 = 1 from pn_l (v := 1) e1 (by decide), show row1 (I, Q, Z) (1 + 1) = (Z 5).1 from row1_l (v := 3) e76 (by decide)]
        change sm (tbr am119 (13 * ln119) 77 5088) _ (uI (uI (uI (uI (uI (uI (jn (appI I Q (4 * 3 + 1)) K119) 50 ((13 * x119) + 6) ((Z 5).1 11)) 50 ((13 * x119) + 7) ((Z 5).1 0)) 50 ((13 * x119) + 8) ((Z 5).1 5)) 50 ((13 * x119) + 9) ((Z 5).1 2)) 50 ((13 * x119) + 10) ((Z 5).1 3)) 50 ((13 * x119) + 11) ((Z 5).1 4)) Y at hS144
        rw [jn_hi (c := 50) (by decide), jn_hi (c := 50) (by decide), jn_hi (c := 50) (by decide), jn_hi (c := 50) (by decide), jn_hi (c := 50) (by decide), jn_hi (c := 50) (by decide)] at hS144
        have hU147 := RO_cl (K' := (uI (uI (uI (uI (uI (uI K119 50 ((13 * x119) + 6) ((Z 5).1 11)) 50 ((13 * x119) + 7) ((Z 5).1 0)) 50 ((13 * x119) + 8) ((Z 5).1 5)) 50 ((13 * x119) + 9) ((Z 5).1 2)) 50 ((13 * x119) + 10) ((Z 5).1 3)) 50 ((13 * x119) + 11) ((Z 5).1 4))) (m := (mgn (mgR 1 (Z 5).1) (I 9 (4 * 3 + 1) + 1))) (by omega) hO119 (hE146) rfl rfl rfl rfl (fun c j _ hc => by
          simp only [uI]
          rw [if_neg (by omega), if_neg (by omega), if_neg (by omega), if_neg (by omega), if_neg (by omega), if_neg (by omega)]) (fun i hi => by
          have hi2 : i < 6 := hi
          match i, hi2 with
            | 0, _ => (repeat (first | rw [uI_e (by omega)] | rw [uI_j (by omega)])) <;> rfl
            | 1, _ => (repeat (first | rw [uI_e (by omega)] | rw [uI_j (by omega)])) <;> rfl
            | 2, _ => (repeat (first | rw [uI_e (by omega)] | rw [uI_j (by omega)])) <;> rfl
            | 3, _ => (repeat (first | rw [uI_e (by omega)] | rw [uI_j (by omega)])) <;> rfl
            | 4, _ => (repeat (first | rw [uI_e (by omega)] | rw [uI_j (by omega)])) <;> rfl
            | 5, _ => (repeat (first | rw [uI_e (by omega)] | rw [uI_j (by omega)])) <;> rfl)
        have hA148 : RA w B (R + 1) H hb h143 ((appI I Q (4 * 3 + 1)), (uQ Q (4 * 3 + 1) (Q (4 * 3 + 1) ++ [(mgn (mgR 1 (Z 5).1) (I 9 (4 * 3 + 1) + 1))])), Z) := RA_u.mpr ⟨_, _, _, _, hS144, hU147⟩
        rw [hms, show rsn 3 1 (mgR 1 (Z 5).1) (I, Q, Z) = mapp (4 * 3 + 1) (mgR 1 (Z 5).1) (I, Q, Z) from if_neg u114]
        exact ⟨rfl, hA148⟩
