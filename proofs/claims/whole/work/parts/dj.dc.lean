theorem stA_0_0 {w : Nat → Bool} {d B R : Nat} {h : am_Hp} {I : sm_I} {Q : mQ} {Z : mZ} {P : Option Value → am_Hp → Prop} (hA : RA w B R [] true h (I, Q, Z)) (hR : R + 8 < 40000) {X : Nat} (hM : MID X (I, Q, Z)) (hX : X + 60 < 2 ^ 28) (h0 : I 0 0 = 0) (hd : 10 ≤ d) (C : ∀ h', RA w B (R + 4) [] true h' (rdA 0 0 (I, Q, Z)) → am_Go (am_prog w) d am_c163 none 7 [some (.ref 62), some (.int 0), some (.int 1)] [] h' P) : am_Go (am_prog w) d am_c163 none 7 [some (.ref 62), some (.int 0), some (.int 0)] [] h P := by
  obtain ⟨K, Y, am, ln, hS, hU⟩ := RA_u.mp hA
  change sm (tbr am (13 * ln) 77 5088) h (jn I K) Y at hS
  obtain ⟨hW, hWm, -, -, hr, -⟩ := id hU.1
  have hln := RU_ln hU (by omega)
  have hp0 : prk I 0 := (hM.2.2.1 0 (by decide)).1
  have hp1 : prk I 1 := (hM.2.2.1 1 (by decide)).1
  have hp2 : prk I 2 := (hM.2.2.1 2 (by decide)).1
  rcases hp0 with e1 | e1 | e1
  · skip
    refine go_s (pc' := 8) rfl rfl rfl rfl ?_
    refine go_s (pc' := 9) (st' := [.int 3, .int 0]) rfl rfl rfl rfl ?_
    refine go_icmpP (t' := 55) (pc' := 10) rfl rfl rfl (fun (c : 3 ≤ (0 : Int32)) => absurd c (by decide)) (fun _ => ?_)
    refine go_s (pc' := 11) rfl rfl rfl rfl ?_
    refine go_sget (pc' := 12) (v := .ref 78) hS rfl rfl rfl (by decide) rfl rfl ?_
    refine go_s (pc' := 13) rfl rfl rfl rfl ?_
    refine go_sald (pc' := 14) (q := 0) (v := .int (-1)) hS rfl (tr_s hr (a := 78) rfl (by decide)) rfl rfl (by decide) (congrArg Value.int e1) rfl ?_
    refine go_s (pc' := 15) rfl rfl rfl rfl ?_
    refine go_icmpP (t' := 17) (pc' := 16) rfl rfl rfl (fun (c : ((-1) : Int32) = 0) => absurd c (by decide)) (fun _ => ?_)
    refine go_s (pc' := 53) rfl rfl rfl rfl ?_
    refine go_s (pc' := 54) (lo' := [some (.ref 62), some (.int 0), some (.int 1)]) rfl rfl rfl rfl ?_
    refine go_s (pc' := 7) rfl rfl rfl rfl ?_
    have hms : rdA 0 0 (I, Q, Z) = (I, Q, Z) := if_neg (fun z => absurd (e1.symm.trans z) (by decide))
    rw [hms] at C
    exact C _ (RA_R (by omega) hA)
  · skip
    by_cases hbk : I 12 0 = -1
    · skip
      refine go_s (pc' := 8) rfl rfl rfl rfl ?_
      refine go_s (pc' := 9) (st' := [.int 3, .int 0]) rfl rfl rfl rfl ?_
      refine go_icmpP (t' := 55) (pc' := 10) rfl rfl rfl (fun (c : 3 ≤ (0 : Int32)) => absurd c (by decide)) (fun _ => ?_)
      refine go_s (pc' := 11) rfl rfl rfl rfl ?_
      refine go_sget (pc' := 12) (v := .ref 78) hS rfl rfl rfl (by decide) rfl rfl ?_
      refine go_s (pc' := 13) rfl rfl rfl rfl ?_
      refine go_sald (pc' := 14) (q := 0) (v := .int 0) hS rfl (tr_s hr (a := 78) rfl (by decide)) rfl rfl (by decide) (congrArg Value.int e1) rfl ?_
      refine go_s (pc' := 15) rfl rfl rfl rfl ?_
      refine go_icmpP (t' := 17) (pc' := 16) rfl rfl rfl (fun _ => ?_) (fun (c : ¬ ((0 : Int32) = 0)) => absurd (by decide) c)
      refine go_s (pc' := 18) rfl rfl rfl rfl ?_
      refine go_sget (pc' := 19) (v := .ref 79) hS rfl rfl rfl (by decide) rfl rfl ?_
      refine go_s (pc' := 20) rfl rfl rfl rfl ?_
      refine go_sald (pc' := 21) (q := 0) (v := .int (-1)) hS rfl (tr_s hr (a := 79) rfl (by decide)) rfl rfl (by decide) (congrArg Value.int hbk) rfl ?_
      refine go_s (pc' := 22) (st' := [.int (-1), .int (-1)]) rfl rfl rfl rfl ?_
      refine go_icmpP (t' := 35) (pc' := 23) rfl rfl rfl (fun _ => ?_) (fun (c : ¬ (((-1) : Int32) = (-1))) => absurd (by decide) c)
      refine go_s (pc' := 36) rfl rfl rfl rfl ?_
      refine go_sget (pc' := 37) (v := .ref 78) hS rfl rfl rfl (by decide) rfl rfl ?_
      refine go_s (pc' := 38) rfl rfl rfl rfl ?_
      refine go_s (pc' := 39) (st' := [.int (-1), .int 0, .ref 78]) rfl rfl rfl rfl ?_
      refine go_siast (pc' := 40) (q := 0) hS rfl (tr_s hr (a := 78) rfl (by decide)) tbr_inj (Nat.le_of_ble_eq_true rfl) rfl (by decide) (by decide) (hW _ (by decide) (by decide)) rfl (fun h2 hS3 hE4 => ?_)
      refine go_s (pc' := 41) rfl rfl rfl rfl ?_
      refine go_sget (pc' := 42) (v := .ref 79) hS3 rfl rfl rfl (by decide) rfl rfl ?_
      refine go_s (pc' := 43) rfl rfl rfl rfl ?_
      refine go_s (pc' := 44) (st' := [.int (-1), .int 0, .ref 79]) rfl rfl rfl rfl ?_
      refine go_siast (pc' := 45) (q := 0) hS3 rfl (tr_s hr (a := 79) rfl (by decide)) tbr_inj (Nat.le_of_ble_eq_true rfl) rfl (by decide) (by decide) (hW _ (by decide) (by decide)) rfl (fun h5 hS6 hE7 => ?_)
      have hE8 := sm_e_trans hE4 hE7
      refine go_s (pc' := 46) rfl rfl rfl rfl ?_
      refine go_sget (pc' := 47) (v := .ref 80) hS6 rfl rfl rfl (by decide) rfl rfl ?_
      refine go_s (pc' := 48) rfl rfl rfl rfl ?_
      refine go_s (pc' := 49) (st' := [.int 0, .int 0, .ref 80]) rfl rfl rfl rfl ?_
      refine go_szast (pc' := 50) (q := 0) hS6 rfl (tr_s hr (a := 80) rfl (by decide)) tbr_inj (Nat.le_of_ble_eq_true rfl) rfl (by decide) (by decide) rfl (hW _ (by decide) (by decide)) rfl (fun h9 hS10 hE11 => ?_)
      have hE12 := sm_e_trans hE8 hE11
      change sm (tbr am (13 * ln) 77 5088) _ (uI (uI (uI (jn I K) 11 0 (-1)) 12 0 (-1)) 13 0 0) Y at hS10
      rw [jn_lo (c := 11) (by decide), jn_lo (c := 12) (by decide), jn_lo (c := 13) (by decide)] at hS10
      have hU13 : RU w B R [] true h9 am ln K ((uI (uI (uI I 11 0 (-1)) 12 0 (-1)) 13 0 0), Q, Z) := RU_I (hE12) (I' := (uI (uI (uI I 11 0 (-1)) 12 0 (-1)) 13 0 0)) (fun _ => rfl) (fun _ => rfl) (Nat.le_refl _) hU
      have hS14 : sm (tbr am (13 * ln) 77 5088) _ (jn (uI (uI (uI (uI I 11 0 (-1)) 12 0 (-1)) 13 0 0) 40 0 0) K) Y := sm_jg hr hS10 (fun c j _ n1 n2 n3 => uI_c n3)
      have hU15 : RU w B R [] true h9 am ln K ((uI (uI (uI (uI I 11 0 (-1)) 12 0 (-1)) 13 0 0) 40 0 0), Q, Z) := RU_I (sm_e_refl (tbr am (13 * ln) 77 5088) _) (fun _ => rfl) (fun _ => rfl) (Nat.le_refl _) hU13
      refine go_s (pc' := 51) rfl rfl rfl rfl ?_
      refine go_s (pc' := 52) rfl rfl rfl rfl ?_
      have hU16 : RU w B R [] true h9 am ln K ((uI (uI (uI (uI I 11 0 (-1)) 12 0 (-1)) 13 0 0) 40 0 0), Q, Z) := RU_I (sm_e_refl (tbr am (13 * ln) 77 5088) _) (I' := (uI (uI (uI (uI I 11 0 (-1)) 12 0 (-1)) 13 0 0) 40 0 0)) (fun _ => rfl) (fun _ => rfl) (Nat.le_refl _) hU15
      refine go_callV (pc' := 53) rfl rfl rfl (Nat.le_of_ble_eq_true rfl) rfl (sm_o hS14 rfl) rfl rfl rfl (rt_stops_0 hr hS14 hW (by omega)) (fun r h17 q18 => ?_)
      obtain ⟨rfl, hS19, hE20⟩ := q18
      change sm (tbr am (13 * ln) 77 5088) _ (mstI 0 (jn (uI (uI (uI (uI I 11 0 (-1)) 12 0 (-1)) 13 0 0) 40 0 0) K)) Y at hS19
      rw [mst_jn] at hS19
      have hU21 : RU w B R [] true h17 am ln K ((mstI 0 (uI (uI (uI (uI I 11 0 (-1)) 12 0 (-1)) 13 0 0) 40 0 0)), Q, Z) := RU_I hE20 mst_24 mst_25 mst_stn hU16
      have hp22 : prk (mstI 0 (uI (uI (uI (uI I 11 0 (-1)) 12 0 (-1)) 13 0 0) 40 0 0)) 1 := (prk_p (congrFun (mst_11 (k := 0) (I := (uI (uI (uI (uI I 11 0 (-1)) 12 0 (-1)) 13 0 0) 40 0 0))) 1)).mpr hp1
      have hp23 : prk (mstI 0 (uI (uI (uI (uI I 11 0 (-1)) 12 0 (-1)) 13 0 0) 40 0 0)) 2 := (prk_p (congrFun (mst_11 (k := 0) (I := (uI (uI (uI (uI I 11 0 (-1)) 12 0 (-1)) 13 0 0) 40 0 0))) 2)).mpr hp2
      refine go_s (pc' := 54) (lo' := [some (.ref 62), some (.int 0), some (.int 1)]) rfl rfl rfl rfl ?_
      refine go_s (pc' := 7) rfl rfl rfl rfl ?_
      have hU24 : RU w B R [] true h17 am ln K ((mstI 0 (uI (uI (uI (uI I 11 0 (-1)) 12 0 (-1)) 13 0 0) 40 0 0)), Q, Z) := RU_I (sm_e_refl (tbr am (13 * ln) 77 5088) _) (I' := (mstI 0 (uI (uI (uI (uI I 11 0 (-1)) 12 0 (-1)) 13 0 0) 40 0 0))) (fun _ => rfl) (fun _ => rfl) (Nat.le_refl _) hU21
      have hA25 : RA w B R [] true h17 ((mstI 0 (uI (uI (uI (uI I 11 0 (-1)) 12 0 (-1)) 13 0 0) 40 0 0)), Q, Z) := RA_u.mpr ⟨_, _, _, _, hS19, hU24⟩
      have hms : rdA 0 0 (I, Q, Z) = ((mstI 0 (uI (uI (uI (uI I 11 0 (-1)) 12 0 (-1)) 13 0 0) 40 0 0)), Q, Z) := by
        unfold rdA
        rw [if_pos (show ((I, Q, Z) : mM).1 11 0 = nI 0 from e1), if_neg (fun z => z.1 hbk)]
      rw [hms] at C
      exact C _ (RA_R (by omega) hA25)
    · skip
      have e12 : I 12 0 = 1 := ((hM.2.2.1 0 (by decide)).2.2.2.2.1 hbk).2.2.2.trans (by
        show ohI I 0 = 1
        unfold ohI
        rw [e1]
        rfl)
      refine go_s (pc' := 8) rfl rfl rfl rfl ?_
      refine go_s (pc' := 9) (st' := [.int 3, .int 0]) rfl rfl rfl rfl ?_
      refine go_icmpP (t' := 55) (pc' := 10) rfl rfl rfl (fun (c : 3 ≤ (0 : Int32)) => absurd c (by decide)) (fun _ => ?_)
      refine go_s (pc' := 11) rfl rfl rfl rfl ?_
      refine go_sget (pc' := 12) (v := .ref 78) hS rfl rfl rfl (by decide) rfl rfl ?_
      refine go_s (pc' := 13) rfl rfl rfl rfl ?_
      refine go_sald (pc' := 14) (q := 0) (v := .int 0) hS rfl (tr_s hr (a := 78) rfl (by decide)) rfl rfl (by decide) (congrArg Value.int e1) rfl ?_
      refine go_s (pc' := 15) rfl rfl rfl rfl ?_
      refine go_icmpP (t' := 17) (pc' := 16) rfl rfl rfl (fun _ => ?_) (fun (c : ¬ ((0 : Int32) = 0)) => absurd (by decide) c)
      refine go_s (pc' := 18) rfl rfl rfl rfl ?_
      refine go_sget (pc' := 19) (v := .ref 79) hS rfl rfl rfl (by decide) rfl rfl ?_
      refine go_s (pc' := 20) rfl rfl rfl rfl ?_
      refine go_sald (pc' := 21) (q := 0) (v := .int 1) hS rfl (tr_s hr (a := 79) rfl (by decide)) rfl rfl (by decide) (congrArg Value.int e12) rfl ?_
      refine go_s (pc' := 22) (st' := [.int (-1), .int 1]) rfl rfl rfl rfl ?_
      refine go_icmpP (t' := 35) (pc' := 23) rfl rfl rfl (fun (c : (1 : Int32) = (-1)) => absurd c (by decide)) (fun _ => ?_)
      refine go_s (pc' := 24) rfl rfl rfl rfl ?_
      refine go_sget (pc' := 25) (v := .ref 63) hS rfl rfl rfl (by decide) rfl rfl ?_
      refine go_s (pc' := 26) rfl rfl rfl rfl ?_
      refine go_sget (pc' := 27) (v := .ref 79) hS rfl rfl rfl (by decide) rfl rfl ?_
      refine go_s (pc' := 28) rfl rfl rfl rfl ?_
      refine go_sald (pc' := 29) (q := 0) (v := .int 1) hS rfl (tr_s hr (a := 79) rfl (by decide)) rfl rfl (by decide) (congrArg Value.int e12) rfl ?_
      refine go_sald (pc' := 30) (q := 1) (v := .int (I 0 1)) hS rfl (tr_s hr (a := 63) rfl (by decide)) rfl rfl (by decide) rfl rfl ?_
      refine go_ifP (t' := 35) (pc' := 31) rfl rfl rfl (fun (c26 : (I 0 1) = 0) => ?_) (fun (c26 : ¬ (I 0 1) = 0) => ?_)
      · skip
        refine go_s (pc' := 36) rfl rfl rfl rfl ?_
        refine go_sget (pc' := 37) (v := .ref 78) hS rfl rfl rfl (by decide) rfl rfl ?_
        refine go_s (pc' := 38) rfl rfl rfl rfl ?_
        refine go_s (pc' := 39) (st' := [.int (-1), .int 0, .ref 78]) rfl rfl rfl rfl ?_
        refine go_siast (pc' := 40) (q := 0) hS rfl (tr_s hr (a := 78) rfl (by decide)) tbr_inj (Nat.le_of_ble_eq_true rfl) rfl (by decide) (by decide) (hW _ (by decide) (by decide)) rfl (fun h27 hS28 hE29 => ?_)
        refine go_s (pc' := 41) rfl rfl rfl rfl ?_
        refine go_sget (pc' := 42) (v := .ref 79) hS28 rfl rfl rfl (by decide) rfl rfl ?_
        refine go_s (pc' := 43) rfl rfl rfl rfl ?_
        refine go_s (pc' := 44) (st' := [.int (-1), .int 0, .ref 79]) rfl rfl rfl rfl ?_
        refine go_siast (pc' := 45) (q := 0) hS28 rfl (tr_s hr (a := 79) rfl (by decide)) tbr_inj (Nat.le_of_ble_eq_true rfl) rfl (by decide) (by decide) (hW _ (by decide) (by decide)) rfl (fun h30 hS31 hE32 => ?_)
        have hE33 := sm_e_trans hE29 hE32
        refine go_s (pc' := 46) rfl rfl rfl rfl ?_
        refine go_sget (pc' := 47) (v := .ref 80) hS31 rfl rfl rfl (by decide) rfl rfl ?_
        refine go_s (pc' := 48) rfl rfl rfl rfl ?_
        refine go_s (pc' := 49) (st' := [.int 0, .int 0, .ref 80]) rfl rfl rfl rfl ?_
        refine go_szast (pc' := 50) (q := 0) hS31 rfl (tr_s hr (a := 80) rfl (by decide)) tbr_inj (Nat.le_of_ble_eq_true rfl) rfl (by decide) (by decide) rfl (hW _ (by decide) (by decide)) rfl (fun h34 hS35 hE36 => ?_)
        have hE37 := sm_e_trans hE33 hE36
        change sm (tbr am (13 * ln) 77 5088) _ (uI (uI (uI (jn I K) 11 0 (-1)) 12 0 (-1)) 13 0 0) Y at hS35
        rw [jn_lo (c := 11) (by decide), jn_lo (c := 12) (by decide), jn_lo (c := 13) (by decide)] at hS35
        have hU38 : RU w B R [] true h34 am ln K ((uI (uI (uI I 11 0 (-1)) 12 0 (-1)) 13 0 0), Q, Z) := RU_I (hE37) (I' := (uI (uI (uI I 11 0 (-1)) 12 0 (-1)) 13 0 0)) (fun _ => rfl) (fun _ => rfl) (Nat.le_refl _) hU
        have hS39 : sm (tbr am (13 * ln) 77 5088) _ (jn (uI (uI (uI (uI I 11 0 (-1)) 12 0 (-1)) 13 0 0) 40 0 0) K) Y := sm_jg hr hS35 (fun c j _ n1 n2 n3 => uI_c n3)
        have hU40 : RU w B R [] true h34 am ln K ((uI (uI (uI (uI I 11 0 (-1)) 12 0 (-1)) 13 0 0) 40 0 0), Q, Z) := RU_I (sm_e_refl (tbr am (13 * ln) 77 5088) _) (fun _ => rfl) (fun _ => rfl) (Nat.le_refl _) hU38
        refine go_s (pc' := 51) rfl rfl rfl rfl ?_
        refine go_s (pc' := 52) rfl rfl rfl rfl ?_
        have hU41 : RU w B R [] true h34 am ln K ((uI (uI (uI (uI I 11 0 (-1)) 12 0 (-1)) 13 0 0) 40 0 0), Q, Z) := RU_I (sm_e_refl (tbr am (13 * ln) 77 5088) _) (I' := (uI (uI (uI (uI I 11 0 (-1)) 12 0 (-1)) 13 0 0) 40 0 0)) (fun _ => rfl) (fun _ => rfl) (Nat.le_refl _) hU40
        refine go_callV (pc' := 53) rfl rfl rfl (Nat.le_of_ble_eq_true rfl) rfl (sm_o hS39 rfl) rfl rfl rfl (rt_stops_0 hr hS39 hW (by omega)) (fun r h42 q43 => ?_)
        obtain ⟨rfl, hS44, hE45⟩ := q43
        change sm (tbr am (13 * ln) 77 5088) _ (mstI 0 (jn (uI (uI (uI (uI I 11 0 (-1)) 12 0 (-1)) 13 0 0) 40 0 0) K)) Y at hS44
        rw [mst_jn] at hS44
        have hU46 : RU w B R [] true h42 am ln K ((mstI 0 (uI (uI (uI (uI I 11 0 (-1)) 12 0 (-1)) 13 0 0) 40 0 0)), Q, Z) := RU_I hE45 mst_24 mst_25 mst_stn hU41
        have hp47 : prk (mstI 0 (uI (uI (uI (uI I 11 0 (-1)) 12 0 (-1)) 13 0 0) 40 0 0)) 1 := (prk_p (congrFun (mst_11 (k := 0) (I := (uI (uI (uI (uI I 11 0 (-1)) 12 0 (-1)) 13 0 0) 40 0 0))) 1)).mpr hp1
        have hp48 : prk (mstI 0 (uI (uI (uI (uI I 11 0 (-1)) 12 0 (-1)) 13 0 0) 40 0 0)) 2 := (prk_p (congrFun (mst_11 (k := 0) (I := (uI (uI (uI (uI I 11 0 (-1)) 12 0 (-1)) 13 0 0) 40 0 0))) 2)).mpr hp2
        refine go_s (pc' := 54) (lo' := [some (.ref 62), some (.int 0), some (.int 1)]) rfl rfl rfl rfl ?_
        refine go_s (pc' := 7) rfl rfl rfl rfl ?_
        have hU49 : RU w B R [] true h42 am ln K ((mstI 0 (uI (uI (uI (uI I 11 0 (-1)) 12 0 (-1)) 13 0 0) 40 0 0)), Q, Z) := RU_I (sm_e_refl (tbr am (13 * ln) 77 5088) _) (I' := (mstI 0 (uI (uI (uI (uI I 11 0 (-1)) 12 0 (-1)) 13 0 0) 40 0 0))) (fun _ => rfl) (fun _ => rfl) (Nat.le_refl _) hU46
        have hA50 : RA w B R [] true h42 ((mstI 0 (uI (uI (uI (uI I 11 0 (-1)) 12 0 (-1)) 13 0 0) 40 0 0)), Q, Z) := RA_u.mpr ⟨_, _, _, _, hS44, hU49⟩
        have hms : rdA 0 0 (I, Q, Z) = ((mstI 0 (uI (uI (uI (uI I 11 0 (-1)) 12 0 (-1)) 13 0 0) 40 0 0)), Q, Z) := by
          unfold rdA
          rw [if_pos (show ((I, Q, Z) : mM).1 11 0 = nI 0 from e1), if_neg (fun z => z.2 (by show I 0 (I 12 0).toNatClampNeg = 0; rw [e12]; exact c26))]
        rw [hms] at C
        exact C _ (RA_R (by omega) hA50)
      · skip
        refine go_s (pc' := 32) rfl rfl rfl rfl ?_
        refine go_s (pc' := 33) rfl rfl rfl rfl ?_
        have hu9 : ¬ I 0 (ohn I 0) = 0 := by
          rw [show ohn I 0 = 1 from ohn_l (v := 0) e1 (by decide)]
          exact c26
        have hU51 : RU w B R [] true h am ln K (I, Q, Z) := RU_I (sm_e_refl (tbr am (13 * ln) 77 5088) _) (I' := I) (fun _ => rfl) (fun _ => rfl) (Nat.le_refl _) hU
        have hA52 : RA w B R [] true h (I, Q, Z) := RA_u.mpr ⟨_, _, _, _, hS, hU51⟩
        refine go_callV (pc' := 34) rfl rfl rfl (Nat.le_of_ble_eq_true rfl) rfl (sm_o hS rfl) rfl rfl rfl (ra_to_0_0 hA52 (by omega) hM hX h0 e1 e12 hu9 (by omega)) (fun r h53 q54 => ?_)
        obtain ⟨rfl, hA55⟩ := q54
        refine go_s (pc' := 53) rfl rfl rfl rfl ?_
        refine go_s (pc' := 54) (lo' := [some (.ref 62), some (.int 0), some (.int 1)]) rfl rfl rfl rfl ?_
        refine go_s (pc' := 7) rfl rfl rfl rfl ?_
        have hms : rdA 0 0 (I, Q, Z) = rto 0 (I, Q, Z) := by
          unfold rdA
          rw [if_pos (show ((I, Q, Z) : mM).1 11 0 = nI 0 from e1), if_pos (show ¬ ((I, Q, Z) : mM).1 12 0 = -1 ∧ ¬ ((I, Q, Z) : mM).1 0 (((I, Q, Z) : mM).1 12 0).toNatClampNeg = 0 from ⟨hbk, by show ¬ I 0 (I 12 0).toNatClampNeg = 0; rw [e12]; exact c26⟩)]
        rw [hms] at C
        exact C _ hA55
  · skip
    refine go_s (pc' := 8) rfl rfl rfl rfl ?_
    refine go_s (pc' := 9) (st' := [.int 3, .int 0]) rfl rfl rfl rfl ?_
    refine go_icmpP (t' := 55) (pc' := 10) rfl rfl rfl (fun (c : 3 ≤ (0 : Int32)) => absurd c (by decide)) (fun _ => ?_)
    refine go_s (pc' := 11) rfl rfl rfl rfl ?_
    refine go_sget (pc' := 12) (v := .ref 78) hS rfl rfl rfl (by decide) rfl rfl ?_
    refine go_s (pc' := 13) rfl rfl rfl rfl ?_
    refine go_sald (pc' := 14) (q := 0) (v := .int 1) hS rfl (tr_s hr (a := 78) rfl (by decide)) rfl rfl (by decide) (congrArg Value.int e1) rfl ?_
    refine go_s (pc' := 15) rfl rfl rfl rfl ?_
    refine go_icmpP (t' := 17) (pc' := 16) rfl rfl rfl (fun (c : (1 : Int32) = 0) => absurd c (by decide)) (fun _ => ?_)
    refine go_s (pc' := 53) rfl rfl rfl rfl ?_
    refine go_s (pc' := 54) (lo' := [some (.ref 62), some (.int 0), some (.int 1)]) rfl rfl rfl rfl ?_
    refine go_s (pc' := 7) rfl rfl rfl rfl ?_
    have hms : rdA 0 0 (I, Q, Z) = (I, Q, Z) := if_neg (fun z => absurd (e1.symm.trans z) (by decide))
    rw [hms] at C
    exact C _ (RA_R (by omega) hA)
theorem stA_1_0 {w : Nat → Bool} {d B R : Nat} {h : am_Hp} {I : sm_I} {Q : mQ} {Z : mZ} {P : Option Value → am_Hp → Prop} (hA : RA w B R [] true h (I, Q, Z)) (hR : R + 8 < 40000) {X : Nat} (hM : MID X (I, Q, Z)) (hX : X + 60 < 2 ^ 28) (h0 : I 0 0 = 0) (hd : 10 ≤ d) (C : ∀ h', RA w B (R + 0) [] true h' (rdA 1 0 (I, Q, Z)) → am_Go (am_prog w) d am_c163 none 7 [some (.ref 62), some (.int 0), some (.int 2)] [] h' P) : am_Go (am_prog w) d am_c163 none 7 [some (.ref 62), some (.int 0), some (.int 1)] [] h P := by
  obtain ⟨K, Y, am, ln, hS, hU⟩ := RA_u.mp hA
  change sm (tbr am (13 * ln) 77 5088) h (jn I K) Y at hS
  obtain ⟨hW, hWm, -, -, hr, -⟩ := id hU.1
  have hln := RU_ln hU (by omega)
  have hp0 : prk I 0 := (hM.2.2.1 0 (by decide)).1
  have hp1 : prk I 1 := (hM.2.2.1 1 (by decide)).1
  have hp2 : prk I 2 := (hM.2.2.1 2 (by decide)).1
  rcases hp1 with e1 | e1 | e1
  · skip
    refine go_s (pc' := 8) rfl rfl rfl rfl ?_
    refine go_s (pc' := 9) (st' := [.int 3, .int 1]) rfl rfl rfl rfl ?_
    refine go_icmpP (t' := 55) (pc' := 10) rfl rfl rfl (fun (c : 3 ≤ (1 : Int32)) => absurd c (by decide)) (fun _ => ?_)
    refine go_s (pc' := 11) rfl rfl rfl rfl ?_
    refine go_sget (pc' := 12) (v := .ref 78) hS rfl rfl rfl (by decide) rfl rfl ?_
    refine go_s (pc' := 13) rfl rfl rfl rfl ?_
    refine go_sald (pc' := 14) (q := 1) (v := .int (-1)) hS rfl (tr_s hr (a := 78) rfl (by decide)) rfl rfl (by decide) (congrArg Value.int e1) rfl ?_
    refine go_s (pc' := 15) rfl rfl rfl rfl ?_
    refine go_icmpP (t' := 17) (pc' := 16) rfl rfl rfl (fun (c : ((-1) : Int32) = 0) => absurd c (by decide)) (fun _ => ?_)
    refine go_s (pc' := 53) rfl rfl rfl rfl ?_
    refine go_s (pc' := 54) (lo' := [some (.ref 62), some (.int 0), some (.int 2)]) rfl rfl rfl rfl ?_
    refine go_s (pc' := 7) rfl rfl rfl rfl ?_
    have hms : rdA 1 0 (I, Q, Z) = (I, Q, Z) := if_neg (fun z => absurd (e1.symm.trans z) (by decide))
    rw [hms] at C
    exact C _ (RA_R (by omega) hA)
  · skip
    refine go_s (pc' := 8) rfl rfl rfl rfl ?_
    refine go_s (pc' := 9) (st' := [.int 3, .int 1]) rfl rfl rfl rfl ?_
    refine go_icmpP (t' := 55) (pc' := 10) rfl rfl rfl (fun (c : 3 ≤ (1 : Int32)) => absurd c (by decide)) (fun _ => ?_)
    refine go_s (pc' := 11) rfl rfl rfl rfl ?_
    refine go_sget (pc' := 12) (v := .ref 78) hS rfl rfl rfl (by decide) rfl rfl ?_
    refine go_s (pc' := 13) rfl rfl rfl rfl ?_
    refine go_sald (pc' := 14) (q := 1) (v := .int 2) hS rfl (tr_s hr (a := 78) rfl (by decide)) rfl rfl (by decide) (congrArg Value.int e1) rfl ?_
    refine go_s (pc' := 15) rfl rfl rfl rfl ?_
    refine go_icmpP (t' := 17) (pc' := 16) rfl rfl rfl (fun (c : (2 : Int32) = 0) => absurd c (by decide)) (fun _ => ?_)
    refine go_s (pc' := 53) rfl rfl rfl rfl ?_
    refine go_s (pc' := 54) (lo' := [some (.ref 62), some (.int 0), some (.int 2)]) rfl rfl rfl rfl ?_
    refine go_s (pc' := 7) rfl rfl rfl rfl ?_
    have hms : rdA 1 0 (I, Q, Z) = (I, Q, Z) := if_neg (fun z => absurd (e1.symm.trans z) (by decide))
    rw [hms] at C
    exact C _ (RA_R (by omega) hA)
  · skip
    refine go_s (pc' := 8) rfl rfl rfl rfl ?_
    refine go_s (pc' := 9) (st' := [.int 3, .int 1]) rfl rfl rfl rfl ?_
    refine go_icmpP (t' := 55) (pc' := 10) rfl rfl rfl (fun (c : 3 ≤ (1 : Int32)) => absurd c (by decide)) (fun _ => ?_)
    refine go_s (pc' := 11) rfl rfl rfl rfl ?_
    refine go_sget (pc' := 12) (v := .ref 78) hS rfl rfl rfl (by decide) rfl rfl ?_
    refine go_s (pc' := 13) rfl rfl rfl rfl ?_
    refine go_sald (pc' := 14) (q := 1) (v := .int 3) hS rfl (tr_s hr (a := 78) rfl (by decide)) rfl rfl (by decide) (congrArg Value.int e1) rfl ?_
    refine go_s (pc' := 15) rfl rfl rfl rfl ?_
    refine go_icmpP (t' := 17) (pc' := 16) rfl rfl rfl (fun (c : (3 : Int32) = 0) => absurd c (by decide)) (fun _ => ?_)
    refine go_s (pc' := 53) rfl rfl rfl rfl ?_
    refine go_s (pc' := 54) (lo' := [some (.ref 62), some (.int 0), some (.int 2)]) rfl rfl rfl rfl ?_
    refine go_s (pc' := 7) rfl rfl rfl rfl ?_
    have hms : rdA 1 0 (I, Q, Z) = (I, Q, Z) := if_neg (fun z => absurd (e1.symm.trans z) (by decide))
    rw [hms] at C
    exact C _ (RA_R (by omega) hA)
theorem stA_2_0 {w : Nat → Bool} {d B R : Nat} {h : am_Hp} {I : sm_I} {Q : mQ} {Z : mZ} {P : Option Value → am_Hp → Prop} (hA : RA w B R [] true h (I, Q, Z)) (hR : R + 8 < 40000) {X : Nat} (hM : MID X (I, Q, Z)) (hX : X + 60 < 2 ^ 28) (h0 : I 0 0 = 0) (hd : 10 ≤ d) (C : ∀ h', RA w B (R + 0) [] true h' (rdA 2 0 (I, Q, Z)) → am_Go (am_prog w) d am_c163 none 7 [some (.ref 62), some (.int 0), some (.int 3)] [] h' P) : am_Go (am_prog w) d am_c163 none 7 [some (.ref 62), some (.int 0), some (.int 2)] [] h P := by
  obtain ⟨K, Y, am, ln, hS, hU⟩ := RA_u.mp hA
  change sm (tbr am (13 * ln) 77 5088) h (jn I K) Y at hS
  obtain ⟨hW, hWm, -, -, hr, -⟩ := id hU.1
  have hln := RU_ln hU (by omega)
  have hp0 : prk I 0 := (hM.2.2.1 0 (by decide)).1
  have hp1 : prk I 1 := (hM.2.2.1 1 (by decide)).1
  have hp2 : prk I 2 := (hM.2.2.1 2 (by decide)).1
  rcases hp2 with e1 | e1 | e1
  · skip
    refine go_s (pc' := 8) rfl rfl rfl rfl ?_
    refine go_s (pc' := 9) (st' := [.int 3, .int 2]) rfl rfl rfl rfl ?_
    refine go_icmpP (t' := 55) (pc' := 10) rfl rfl rfl (fun (c : 3 ≤ (2 : Int32)) => absurd c (by decide)) (fun _ => ?_)
    refine go_s (pc' := 11) rfl rfl rfl rfl ?_
    refine go_sget (pc' := 12) (v := .ref 78) hS rfl rfl rfl (by decide) rfl rfl ?_
    refine go_s (pc' := 13) rfl rfl rfl rfl ?_
    refine go_sald (pc' := 14) (q := 2) (v := .int (-1)) hS rfl (tr_s hr (a := 78) rfl (by decide)) rfl rfl (by decide) (congrArg Value.int e1) rfl ?_
    refine go_s (pc' := 15) rfl rfl rfl rfl ?_
    refine go_icmpP (t' := 17) (pc' := 16) rfl rfl rfl (fun (c : ((-1) : Int32) = 0) => absurd c (by decide)) (fun _ => ?_)
    refine go_s (pc' := 53) rfl rfl rfl rfl ?_
    refine go_s (pc' := 54) (lo' := [some (.ref 62), some (.int 0), some (.int 3)]) rfl rfl rfl rfl ?_
    refine go_s (pc' := 7) rfl rfl rfl rfl ?_
    have hms : rdA 2 0 (I, Q, Z) = (I, Q, Z) := if_neg (fun z => absurd (e1.symm.trans z) (by decide))
    rw [hms] at C
    exact C _ (RA_R (by omega) hA)
  · skip
    refine go_s (pc' := 8) rfl rfl rfl rfl ?_
    refine go_s (pc' := 9) (st' := [.int 3, .int 2]) rfl rfl rfl rfl ?_
    refine go_icmpP (t' := 55) (pc' := 10) rfl rfl rfl (fun (c : 3 ≤ (2 : Int32)) => absurd c (by decide)) (fun _ => ?_)
    refine go_s (pc' := 11) rfl rfl rfl rfl ?_
    refine go_sget (pc' := 12) (v := .ref 78) hS rfl rfl rfl (by decide) rfl rfl ?_
    refine go_s (pc' := 13) rfl rfl rfl rfl ?_
    refine go_sald (pc' := 14) (q := 2) (v := .int 2) hS rfl (tr_s hr (a := 78) rfl (by decide)) rfl rfl (by decide) (congrArg Value.int e1) rfl ?_
    refine go_s (pc' := 15) rfl rfl rfl rfl ?_
    refine go_icmpP (t' := 17) (pc' := 16) rfl rfl rfl (fun (c : (2 : Int32) = 0) => absurd c (by decide)) (fun _ => ?_)
    refine go_s (pc' := 53) rfl rfl rfl rfl ?_
    refine go_s (pc' := 54) (lo' := [some (.ref 62), some (.int 0), some (.int 3)]) rfl rfl rfl rfl ?_
    refine go_s (pc' := 7) rfl rfl rfl rfl ?_
    have hms : rdA 2 0 (I, Q, Z) = (I, Q, Z) := if_neg (fun z => absurd (e1.symm.trans z) (by decide))
    rw [hms] at C
    exact C _ (RA_R (by omega) hA)
  · skip
    refine go_s (pc' := 8) rfl rfl rfl rfl ?_
    refine go_s (pc' := 9) (st' := [.int 3, .int 2]) rfl rfl rfl rfl ?_
    refine go_icmpP (t' := 55) (pc' := 10) rfl rfl rfl (fun (c : 3 ≤ (2 : Int32)) => absurd c (by decide)) (fun _ => ?_)
    refine go_s (pc' := 11) rfl rfl rfl rfl ?_
    refine go_sget (pc' := 12) (v := .ref 78) hS rfl rfl rfl (by decide) rfl rfl ?_
    refine go_s (pc' := 13) rfl rfl rfl rfl ?_
    refine go_sald (pc' := 14) (q := 2) (v := .int 3) hS rfl (tr_s hr (a := 78) rfl (by decide)) rfl rfl (by decide) (congrArg Value.int e1) rfl ?_
    refine go_s (pc' := 15) rfl rfl rfl rfl ?_
    refine go_icmpP (t' := 17) (pc' := 16) rfl rfl rfl (fun (c : (3 : Int32) = 0) => absurd c (by decide)) (fun _ => ?_)
    refine go_s (pc' := 53) rfl rfl rfl rfl ?_
    refine go_s (pc' := 54) (lo' := [some (.ref 62), some (.int 0), some (.int 3)]) rfl rfl rfl rfl ?_
    refine go_s (pc' := 7) rfl rfl rfl rfl ?_
    have hms : rdA 2 0 (I, Q, Z) = (I, Q, Z) := if_neg (fun z => absurd (e1.symm.trans z) (by decide))
    rw [hms] at C
    exact C _ (RA_R (by omega) hA)
theorem stA_0_1 {w : Nat → Bool} {d B R : Nat} {h : am_Hp} {I : sm_I} {Q : mQ} {Z : mZ} {P : Option Value → am_Hp → Prop} (hA : RA w B R [] true h (I, Q, Z)) (hR : R + 8 < 40000) {X : Nat} (hM : MID X (I, Q, Z)) (hX : X + 60 < 2 ^ 28) (h0 : I 0 1 = 0) (hd : 10 ≤ d) (C : ∀ h', RA w B (R + 4) [] true h' (rdA 0 1 (I, Q, Z)) → am_Go (am_prog w) d am_c163 none 7 [some (.ref 62), some (.int 1), some (.int 1)] [] h' P) : am_Go (am_prog w) d am_c163 none 7 [some (.ref 62), some (.int 1), some (.int 0)] [] h P := by
  obtain ⟨K, Y, am, ln, hS, hU⟩ := RA_u.mp hA
  change sm (tbr am (13 * ln) 77 5088) h (jn I K) Y at hS
  obtain ⟨hW, hWm, -, -, hr, -⟩ := id hU.1
  have hln := RU_ln hU (by omega)
  have hp0 : prk I 0 := (hM.2.2.1 0 (by decide)).1
  have hp1 : prk I 1 := (hM.2.2.1 1 (by decide)).1
  have hp2 : prk I 2 := (hM.2.2.1 2 (by decide)).1
  rcases hp0 with e1 | e1 | e1
  · skip
    refine go_s (pc' := 8) rfl rfl rfl rfl ?_
    refine go_s (pc' := 9) (st' := [.int 3, .int 0]) rfl rfl rfl rfl ?_
    refine go_icmpP (t' := 55) (pc' := 10) rfl rfl rfl (fun (c : 3 ≤ (0 : Int32)) => absurd c (by decide)) (fun _ => ?_)
    refine go_s (pc' := 11) rfl rfl rfl rfl ?_
    refine go_sget (pc' := 12) (v := .ref 78) hS rfl rfl rfl (by decide) rfl rfl ?_
    refine go_s (pc' := 13) rfl rfl rfl rfl ?_
    refine go_sald (pc' := 14) (q := 0) (v := .int (-1)) hS rfl (tr_s hr (a := 78) rfl (by decide)) rfl rfl (by decide) (congrArg Value.int e1) rfl ?_
    refine go_s (pc' := 15) rfl rfl rfl rfl ?_
    refine go_icmpP (t' := 17) (pc' := 16) rfl rfl rfl (fun (c : ((-1) : Int32) = 1) => absurd c (by decide)) (fun _ => ?_)
    refine go_s (pc' := 53) rfl rfl rfl rfl ?_
    refine go_s (pc' := 54) (lo' := [some (.ref 62), some (.int 1), some (.int 1)]) rfl rfl rfl rfl ?_
    refine go_s (pc' := 7) rfl rfl rfl rfl ?_
    have hms : rdA 0 1 (I, Q, Z) = (I, Q, Z) := if_neg (fun z => absurd (e1.symm.trans z) (by decide))
    rw [hms] at C
    exact C _ (RA_R (by omega) hA)
  · skip
    refine go_s (pc' := 8) rfl rfl rfl rfl ?_
    refine go_s (pc' := 9) (st' := [.int 3, .int 0]) rfl rfl rfl rfl ?_
    refine go_icmpP (t' := 55) (pc' := 10) rfl rfl rfl (fun (c : 3 ≤ (0 : Int32)) => absurd c (by decide)) (fun _ => ?_)
    refine go_s (pc' := 11) rfl rfl rfl rfl ?_
    refine go_sget (pc' := 12) (v := .ref 78) hS rfl rfl rfl (by decide) rfl rfl ?_
    refine go_s (pc' := 13) rfl rfl rfl rfl ?_
    refine go_sald (pc' := 14) (q := 0) (v := .int 0) hS rfl (tr_s hr (a := 78) rfl (by decide)) rfl rfl (by decide) (congrArg Value.int e1) rfl ?_
    refine go_s (pc' := 15) rfl rfl rfl rfl ?_
    refine go_icmpP (t' := 17) (pc' := 16) rfl rfl rfl (fun (c : (0 : Int32) = 1) => absurd c (by decide)) (fun _ => ?_)
    refine go_s (pc' := 53) rfl rfl rfl rfl ?_
    refine go_s (pc' := 54) (lo' := [some (.ref 62), some (.int 1), some (.int 1)]) rfl rfl rfl rfl ?_
    refine go_s (pc' := 7) rfl rfl rfl rfl ?_
    have hms : rdA 0 1 (I, Q, Z) = (I, Q, Z) := if_neg (fun z => absurd (e1.symm.trans z) (by decide))
    rw [hms] at C
    exact C _ (RA_R (by omega) hA)
  · skip
    by_cases hbk : I 12 0 = -1
    · skip
      refine go_s (pc' := 8) rfl rfl rfl rfl ?_
      refine go_s (pc' := 9) (st' := [.int 3, .int 0]) rfl rfl rfl rfl ?_
      refine go_icmpP (t' := 55) (pc' := 10) rfl rfl rfl (fun (c : 3 ≤ (0 : Int32)) => absurd c (by decide)) (fun _ => ?_)
      refine go_s (pc' := 11) rfl rfl rfl rfl ?_
      refine go_sget (pc' := 12) (v := .ref 78) hS rfl rfl rfl (by decide) rfl rfl ?_
      refine go_s (pc' := 13) rfl rfl rfl rfl ?_
      refine go_sald (pc' := 14) (q := 0) (v := .int 1) hS rfl (tr_s hr (a := 78) rfl (by decide)) rfl rfl (by decide) (congrArg Value.int e1) rfl ?_
      refine go_s (pc' := 15) rfl rfl rfl rfl ?_
      refine go_icmpP (t' := 17) (pc' := 16) rfl rfl rfl (fun _ => ?_) (fun (c : ¬ ((1 : Int32) = 1)) => absurd (by decide) c)
      refine go_s (pc' := 18) rfl rfl rfl rfl ?_
      refine go_sget (pc' := 19) (v := .ref 79) hS rfl rfl rfl (by decide) rfl rfl ?_
      refine go_s (pc' := 20) rfl rfl rfl rfl ?_
      refine go_sald (pc' := 21) (q := 0) (v := .int (-1)) hS rfl (tr_s hr (a := 79) rfl (by decide)) rfl rfl (by decide) (congrArg Value.int hbk) rfl ?_
      refine go_s (pc' := 22) (st' := [.int (-1), .int (-1)]) rfl rfl rfl rfl ?_
      refine go_icmpP (t' := 35) (pc' := 23) rfl rfl rfl (fun _ => ?_) (fun (c : ¬ (((-1) : Int32) = (-1))) => absurd (by decide) c)
      refine go_s (pc' := 36) rfl rfl rfl rfl ?_
      refine go_sget (pc' := 37) (v := .ref 78) hS rfl rfl rfl (by decide) rfl rfl ?_
      refine go_s (pc' := 38) rfl rfl rfl rfl ?_
      refine go_s (pc' := 39) (st' := [.int (-1), .int 0, .ref 78]) rfl rfl rfl rfl ?_
      refine go_siast (pc' := 40) (q := 0) hS rfl (tr_s hr (a := 78) rfl (by decide)) tbr_inj (Nat.le_of_ble_eq_true rfl) rfl (by decide) (by decide) (hW _ (by decide) (by decide)) rfl (fun h2 hS3 hE4 => ?_)
      refine go_s (pc' := 41) rfl rfl rfl rfl ?_
      refine go_sget (pc' := 42) (v := .ref 79) hS3 rfl rfl rfl (by decide) rfl rfl ?_
      refine go_s (pc' := 43) rfl rfl rfl rfl ?_
      refine go_s (pc' := 44) (st' := [.int (-1), .int 0, .ref 79]) rfl rfl rfl rfl ?_
      refine go_siast (pc' := 45) (q := 0) hS3 rfl (tr_s hr (a := 79) rfl (by decide)) tbr_inj (Nat.le_of_ble_eq_true rfl) rfl (by decide) (by decide) (hW _ (by decide) (by decide)) rfl (fun h5 hS6 hE7 => ?_)
      have hE8 := sm_e_trans hE4 hE7
      refine go_s (pc' := 46) rfl rfl rfl rfl ?_
      refine go_sget (pc' := 47) (v := .ref 80) hS6 rfl rfl rfl (by decide) rfl rfl ?_
      refine go_s (pc' := 48) rfl rfl rfl rfl ?_
      refine go_s (pc' := 49) (st' := [.int 0, .int 0, .ref 80]) rfl rfl rfl rfl ?_
      refine go_szast (pc' := 50) (q := 0) hS6 rfl (tr_s hr (a := 80) rfl (by decide)) tbr_inj (Nat.le_of_ble_eq_true rfl) rfl (by decide) (by decide) rfl (hW _ (by decide) (by decide)) rfl (fun h9 hS10 hE11 => ?_)
      have hE12 := sm_e_trans hE8 hE11
      change sm (tbr am (13 * ln) 77 5088) _ (uI (uI (uI (jn I K) 11 0 (-1)) 12 0 (-1)) 13 0 0) Y at hS10
      rw [jn_lo (c := 11) (by decide), jn_lo (c := 12) (by decide), jn_lo (c := 13) (by decide)] at hS10
      have hU13 : RU w B R [] true h9 am ln K ((uI (uI (uI I 11 0 (-1)) 12 0 (-1)) 13 0 0), Q, Z) := RU_I (hE12) (I' := (uI (uI (uI I 11 0 (-1)) 12 0 (-1)) 13 0 0)) (fun _ => rfl) (fun _ => rfl) (Nat.le_refl _) hU
      have hS14 : sm (tbr am (13 * ln) 77 5088) _ (jn (uI (uI (uI (uI I 11 0 (-1)) 12 0 (-1)) 13 0 0) 40 0 0) K) Y := sm_jg hr hS10 (fun c j _ n1 n2 n3 => uI_c n3)
      have hU15 : RU w B R [] true h9 am ln K ((uI (uI (uI (uI I 11 0 (-1)) 12 0 (-1)) 13 0 0) 40 0 0), Q, Z) := RU_I (sm_e_refl (tbr am (13 * ln) 77 5088) _) (fun _ => rfl) (fun _ => rfl) (Nat.le_refl _) hU13
      refine go_s (pc' := 51) rfl rfl rfl rfl ?_
      refine go_s (pc' := 52) rfl rfl rfl rfl ?_
      have hU16 : RU w B R [] true h9 am ln K ((uI (uI (uI (uI I 11 0 (-1)) 12 0 (-1)) 13 0 0) 40 0 0), Q, Z) := RU_I (sm_e_refl (tbr am (13 * ln) 77 5088) _) (I' := (uI (uI (uI (uI I 11 0 (-1)) 12 0 (-1)) 13 0 0) 40 0 0)) (fun _ => rfl) (fun _ => rfl) (Nat.le_refl _) hU15
      refine go_callV (pc' := 53) rfl rfl rfl (Nat.le_of_ble_eq_true rfl) rfl (sm_o hS14 rfl) rfl rfl rfl (rt_stops_0 hr hS14 hW (by omega)) (fun r h17 q18 => ?_)
      obtain ⟨rfl, hS19, hE20⟩ := q18
      change sm (tbr am (13 * ln) 77 5088) _ (mstI 0 (jn (uI (uI (uI (uI I 11 0 (-1)) 12 0 (-1)) 13 0 0) 40 0 0) K)) Y at hS19
      rw [mst_jn] at hS19
      have hU21 : RU w B R [] true h17 am ln K ((mstI 0 (uI (uI (uI (uI I 11 0 (-1)) 12 0 (-1)) 13 0 0) 40 0 0)), Q, Z) := RU_I hE20 mst_24 mst_25 mst_stn hU16
      have hp22 : prk (mstI 0 (uI (uI (uI (uI I 11 0 (-1)) 12 0 (-1)) 13 0 0) 40 0 0)) 1 := (prk_p (congrFun (mst_11 (k := 0) (I := (uI (uI (uI (uI I 11 0 (-1)) 12 0 (-1)) 13 0 0) 40 0 0))) 1)).mpr hp1
      have hp23 : prk (mstI 0 (uI (uI (uI (uI I 11 0 (-1)) 12 0 (-1)) 13 0 0) 40 0 0)) 2 := (prk_p (congrFun (mst_11 (k := 0) (I := (uI (uI (uI (uI I 11 0 (-1)) 12 0 (-1)) 13 0 0) 40 0 0))) 2)).mpr hp2
      refine go_s (pc' := 54) (lo' := [some (.ref 62), some (.int 1), some (.int 1)]) rfl rfl rfl rfl ?_
      refine go_s (pc' := 7) rfl rfl rfl rfl ?_
      have hU24 : RU w B R [] true h17 am ln K ((mstI 0 (uI (uI (uI (uI I 11 0 (-1)) 12 0 (-1)) 13 0 0) 40 0 0)), Q, Z) := RU_I (sm_e_refl (tbr am (13 * ln) 77 5088) _) (I' := (mstI 0 (uI (uI (uI (uI I 11 0 (-1)) 12 0 (-1)) 13 0 0) 40 0 0))) (fun _ => rfl) (fun _ => rfl) (Nat.le_refl _) hU21
      have hA25 : RA w B R [] true h17 ((mstI 0 (uI (uI (uI (uI I 11 0 (-1)) 12 0 (-1)) 13 0 0) 40 0 0)), Q, Z) := RA_u.mpr ⟨_, _, _, _, hS19, hU24⟩
      have hms : rdA 0 1 (I, Q, Z) = ((mstI 0 (uI (uI (uI (uI I 11 0 (-1)) 12 0 (-1)) 13 0 0) 40 0 0)), Q, Z) := by
        unfold rdA
        rw [if_pos (show ((I, Q, Z) : mM).1 11 0 = nI 1 from e1), if_neg (fun z => z.1 hbk)]
      rw [hms] at C
      exact C _ (RA_R (by omega) hA25)
    · skip
      have e12 : I 12 0 = 0 := ((hM.2.2.1 0 (by decide)).2.2.2.2.1 hbk).2.2.2.trans (by
        show ohI I 0 = 0
        unfold ohI
        rw [e1]
        rfl)
      refine go_s (pc' := 8) rfl rfl rfl rfl ?_
      refine go_s (pc' := 9) (st' := [.int 3, .int 0]) rfl rfl rfl rfl ?_
      refine go_icmpP (t' := 55) (pc' := 10) rfl rfl rfl (fun (c : 3 ≤ (0 : Int32)) => absurd c (by decide)) (fun _ => ?_)
      refine go_s (pc' := 11) rfl rfl rfl rfl ?_
      refine go_sget (pc' := 12) (v := .ref 78) hS rfl rfl rfl (by decide) rfl rfl ?_
      refine go_s (pc' := 13) rfl rfl rfl rfl ?_
      refine go_sald (pc' := 14) (q := 0) (v := .int 1) hS rfl (tr_s hr (a := 78) rfl (by decide)) rfl rfl (by decide) (congrArg Value.int e1) rfl ?_
      refine go_s (pc' := 15) rfl rfl rfl rfl ?_
      refine go_icmpP (t' := 17) (pc' := 16) rfl rfl rfl (fun _ => ?_) (fun (c : ¬ ((1 : Int32) = 1)) => absurd (by decide) c)
      refine go_s (pc' := 18) rfl rfl rfl rfl ?_
      refine go_sget (pc' := 19) (v := .ref 79) hS rfl rfl rfl (by decide) rfl rfl ?_
      refine go_s (pc' := 20) rfl rfl rfl rfl ?_
      refine go_sald (pc' := 21) (q := 0) (v := .int 0) hS rfl (tr_s hr (a := 79) rfl (by decide)) rfl rfl (by decide) (congrArg Value.int e12) rfl ?_
      refine go_s (pc' := 22) (st' := [.int (-1), .int 0]) rfl rfl rfl rfl ?_
      refine go_icmpP (t' := 35) (pc' := 23) rfl rfl rfl (fun (c : (0 : Int32) = (-1)) => absurd c (by decide)) (fun _ => ?_)
      refine go_s (pc' := 24) rfl rfl rfl rfl ?_
      refine go_sget (pc' := 25) (v := .ref 63) hS rfl rfl rfl (by decide) rfl rfl ?_
      refine go_s (pc' := 26) rfl rfl rfl rfl ?_
      refine go_sget (pc' := 27) (v := .ref 79) hS rfl rfl rfl (by decide) rfl rfl ?_
      refine go_s (pc' := 28) rfl rfl rfl rfl ?_
      refine go_sald (pc' := 29) (q := 0) (v := .int 0) hS rfl (tr_s hr (a := 79) rfl (by decide)) rfl rfl (by decide) (congrArg Value.int e12) rfl ?_
      refine go_sald (pc' := 30) (q := 0) (v := .int (I 0 0)) hS rfl (tr_s hr (a := 63) rfl (by decide)) rfl rfl (by decide) rfl rfl ?_
      refine go_ifP (t' := 35) (pc' := 31) rfl rfl rfl (fun (c26 : (I 0 0) = 0) => ?_) (fun (c26 : ¬ (I 0 0) = 0) => ?_)
      · skip
        refine go_s (pc' := 36) rfl rfl rfl rfl ?_
        refine go_sget (pc' := 37) (v := .ref 78) hS rfl rfl rfl (by decide) rfl rfl ?_
        refine go_s (pc' := 38) rfl rfl rfl rfl ?_
        refine go_s (pc' := 39) (st' := [.int (-1), .int 0, .ref 78]) rfl rfl rfl rfl ?_
        refine go_siast (pc' := 40) (q := 0) hS rfl (tr_s hr (a := 78) rfl (by decide)) tbr_inj (Nat.le_of_ble_eq_true rfl) rfl (by decide) (by decide) (hW _ (by decide) (by decide)) rfl (fun h27 hS28 hE29 => ?_)
        refine go_s (pc' := 41) rfl rfl rfl rfl ?_
        refine go_sget (pc' := 42) (v := .ref 79) hS28 rfl rfl rfl (by decide) rfl rfl ?_
        refine go_s (pc' := 43) rfl rfl rfl rfl ?_
        refine go_s (pc' := 44) (st' := [.int (-1), .int 0, .ref 79]) rfl rfl rfl rfl ?_
        refine go_siast (pc' := 45) (q := 0) hS28 rfl (tr_s hr (a := 79) rfl (by decide)) tbr_inj (Nat.le_of_ble_eq_true rfl) rfl (by decide) (by decide) (hW _ (by decide) (by decide)) rfl (fun h30 hS31 hE32 => ?_)
        have hE33 := sm_e_trans hE29 hE32
        refine go_s (pc' := 46) rfl rfl rfl rfl ?_
        refine go_sget (pc' := 47) (v := .ref 80) hS31 rfl rfl rfl (by decide) rfl rfl ?_
        refine go_s (pc' := 48) rfl rfl rfl rfl ?_
        refine go_s (pc' := 49) (st' := [.int 0, .int 0, .ref 80]) rfl rfl rfl rfl ?_
        refine go_szast (pc' := 50) (q := 0) hS31 rfl (tr_s hr (a := 80) rfl (by decide)) tbr_inj (Nat.le_of_ble_eq_true rfl) rfl (by decide) (by decide) rfl (hW _ (by decide) (by decide)) rfl (fun h34 hS35 hE36 => ?_)
        have hE37 := sm_e_trans hE33 hE36
        change sm (tbr am (13 * ln) 77 5088) _ (uI (uI (uI (jn I K) 11 0 (-1)) 12 0 (-1)) 13 0 0) Y at hS35
        rw [jn_lo (c := 11) (by decide), jn_lo (c := 12) (by decide), jn_lo (c := 13) (by decide)] at hS35
        have hU38 : RU w B R [] true h34 am ln K ((uI (uI (uI I 11 0 (-1)) 12 0 (-1)) 13 0 0), Q, Z) := RU_I (hE37) (I' := (uI (uI (uI I 11 0 (-1)) 12 0 (-1)) 13 0 0)) (fun _ => rfl) (fun _ => rfl) (Nat.le_refl _) hU
        have hS39 : sm (tbr am (13 * ln) 77 5088) _ (jn (uI (uI (uI (uI I 11 0 (-1)) 12 0 (-1)) 13 0 0) 40 0 0) K) Y := sm_jg hr hS35 (fun c j _ n1 n2 n3 => uI_c n3)
        have hU40 : RU w B R [] true h34 am ln K ((uI (uI (uI (uI I 11 0 (-1)) 12 0 (-1)) 13 0 0) 40 0 0), Q, Z) := RU_I (sm_e_refl (tbr am (13 * ln) 77 5088) _) (fun _ => rfl) (fun _ => rfl) (Nat.le_refl _) hU38
        refine go_s (pc' := 51) rfl rfl rfl rfl ?_
        refine go_s (pc' := 52) rfl rfl rfl rfl ?_
        have hU41 : RU w B R [] true h34 am ln K ((uI (uI (uI (uI I 11 0 (-1)) 12 0 (-1)) 13 0 0) 40 0 0), Q, Z) := RU_I (sm_e_refl (tbr am (13 * ln) 77 5088) _) (I' := (uI (uI (uI (uI I 11 0 (-1)) 12 0 (-1)) 13 0 0) 40 0 0)) (fun _ => rfl) (fun _ => rfl) (Nat.le_refl _) hU40
        refine go_callV (pc' := 53) rfl rfl rfl (Nat.le_of_ble_eq_true rfl) rfl (sm_o hS39 rfl) rfl rfl rfl (rt_stops_0 hr hS39 hW (by omega)) (fun r h42 q43 => ?_)
        obtain ⟨rfl, hS44, hE45⟩ := q43
        change sm (tbr am (13 * ln) 77 5088) _ (mstI 0 (jn (uI (uI (uI (uI I 11 0 (-1)) 12 0 (-1)) 13 0 0) 40 0 0) K)) Y at hS44
        rw [mst_jn] at hS44
        have hU46 : RU w B R [] true h42 am ln K ((mstI 0 (uI (uI (uI (uI I 11 0 (-1)) 12 0 (-1)) 13 0 0) 40 0 0)), Q, Z) := RU_I hE45 mst_24 mst_25 mst_stn hU41
        have hp47 : prk (mstI 0 (uI (uI (uI (uI I 11 0 (-1)) 12 0 (-1)) 13 0 0) 40 0 0)) 1 := (prk_p (congrFun (mst_11 (k := 0) (I := (uI (uI (uI (uI I 11 0 (-1)) 12 0 (-1)) 13 0 0) 40 0 0))) 1)).mpr hp1
        have hp48 : prk (mstI 0 (uI (uI (uI (uI I 11 0 (-1)) 12 0 (-1)) 13 0 0) 40 0 0)) 2 := (prk_p (congrFun (mst_11 (k := 0) (I := (uI (uI (uI (uI I 11 0 (-1)) 12 0 (-1)) 13 0 0) 40 0 0))) 2)).mpr hp2
        refine go_s (pc' := 54) (lo' := [some (.ref 62), some (.int 1), some (.int 1)]) rfl rfl rfl rfl ?_
        refine go_s (pc' := 7) rfl rfl rfl rfl ?_
        have hU49 : RU w B R [] true h42 am ln K ((mstI 0 (uI (uI (uI (uI I 11 0 (-1)) 12 0 (-1)) 13 0 0) 40 0 0)), Q, Z) := RU_I (sm_e_refl (tbr am (13 * ln) 77 5088) _) (I' := (mstI 0 (uI (uI (uI (uI I 11 0 (-1)) 12 0 (-1)) 13 0 0) 40 0 0))) (fun _ => rfl) (fun _ => rfl) (Nat.le_refl _) hU46
        have hA50 : RA w B R [] true h42 ((mstI 0 (uI (uI (uI (uI I 11 0 (-1)) 12 0 (-1)) 13 0 0) 40 0 0)), Q, Z) := RA_u.mpr ⟨_, _, _, _, hS44, hU49⟩
        have hms : rdA 0 1 (I, Q, Z) = ((mstI 0 (uI (uI (uI (uI I 11 0 (-1)) 12 0 (-1)) 13 0 0) 40 0 0)), Q, Z) := by
          unfold rdA
          rw [if_pos (show ((I, Q, Z) : mM).1 11 0 = nI 1 from e1), if_neg (fun z => z.2 (by show I 0 (I 12 0).toNatClampNeg = 0; rw [e12]; exact c26))]
        rw [hms] at C
        exact C _ (RA_R (by omega) hA50)
      · skip
        refine go_s (pc' := 32) rfl rfl rfl rfl ?_
        refine go_s (pc' := 33) rfl rfl rfl rfl ?_
        have hu9 : ¬ I 0 (ohn I 0) = 0 := by
          rw [show ohn I 0 = 0 from ohn_l (v := 1) e1 (by decide)]
          exact c26
        have hU51 : RU w B R [] true h am ln K (I, Q, Z) := RU_I (sm_e_refl (tbr am (13 * ln) 77 5088) _) (I' := I) (fun _ => rfl) (fun _ => rfl) (Nat.le_refl _) hU
        have hA52 : RA w B R [] true h (I, Q, Z) := RA_u.mpr ⟨_, _, _, _, hS, hU51⟩
        refine go_callV (pc' := 34) rfl rfl rfl (Nat.le_of_ble_eq_true rfl) rfl (sm_o hS rfl) rfl rfl rfl (ra_to_0_1 hA52 (by omega) hM hX h0 e1 e12 hu9 (by omega)) (fun r h53 q54 => ?_)
        obtain ⟨rfl, hA55⟩ := q54
        refine go_s (pc' := 53) rfl rfl rfl rfl ?_
        refine go_s (pc' := 54) (lo' := [some (.ref 62), some (.int 1), some (.int 1)]) rfl rfl rfl rfl ?_
        refine go_s (pc' := 7) rfl rfl rfl rfl ?_
        have hms : rdA 0 1 (I, Q, Z) = rto 0 (I, Q, Z) := by
          unfold rdA
          rw [if_pos (show ((I, Q, Z) : mM).1 11 0 = nI 1 from e1), if_pos (show ¬ ((I, Q, Z) : mM).1 12 0 = -1 ∧ ¬ ((I, Q, Z) : mM).1 0 (((I, Q, Z) : mM).1 12 0).toNatClampNeg = 0 from ⟨hbk, by show ¬ I 0 (I 12 0).toNatClampNeg = 0; rw [e12]; exact c26⟩)]
        rw [hms] at C
        exact C _ hA55
theorem stA_1_1 {w : Nat → Bool} {d B R : Nat} {h : am_Hp} {I : sm_I} {Q : mQ} {Z : mZ} {P : Option Value → am_Hp → Prop} (hA : RA w B R [] true h (I, Q, Z)) (hR : R + 8 < 40000) {X : Nat} (hM : MID X (I, Q, Z)) (hX : X + 60 < 2 ^ 28) (h0 : I 0 1 = 0) (hd : 10 ≤ d) (C : ∀ h', RA w B (R + 0) [] true h' (rdA 1 1 (I, Q, Z)) → am_Go (am_prog w) d am_c163 none 7 [some (.ref 62), some (.int 1), some (.int 2)] [] h' P) : am_Go (am_prog w) d am_c163 none 7 [some (.ref 62), some (.int 1), some (.int 1)] [] h P := by
  obtain ⟨K, Y, am, ln, hS, hU⟩ := RA_u.mp hA
  change sm (tbr am (13 * ln) 77 5088) h (jn I K) Y at hS
  obtain ⟨hW, hWm, -, -, hr, -⟩ := id hU.1
  have hln := RU_ln hU (by omega)
  have hp0 : prk I 0 := (hM.2.2.1 0 (by decide)).1
  have hp1 : prk I 1 := (hM.2.2.1 1 (by decide)).1
  have hp2 : prk I 2 := (hM.2.2.1 2 (by decide)).1
  rcases hp1 with e1 | e1 | e1
  · skip
    refine go_s (pc' := 8) rfl rfl rfl rfl ?_
    refine go_s (pc' := 9) (st' := [.int 3, .int 1]) rfl rfl rfl rfl ?_
    refine go_icmpP (t' := 55) (pc' := 10) rfl rfl rfl (fun (c : 3 ≤ (1 : Int32)) => absurd c (by decide)) (fun _ => ?_)
    refine go_s (pc' := 11) rfl rfl rfl rfl ?_
    refine go_sget (pc' := 12) (v := .ref 78) hS rfl rfl rfl (by decide) rfl rfl ?_
    refine go_s (pc' := 13) rfl rfl rfl rfl ?_
    refine go_sald (pc' := 14) (q := 1) (v := .int (-1)) hS rfl (tr_s hr (a := 78) rfl (by decide)) rfl rfl (by decide) (congrArg Value.int e1) rfl ?_
    refine go_s (pc' := 15) rfl rfl rfl rfl ?_
    refine go_icmpP (t' := 17) (pc' := 16) rfl rfl rfl (fun (c : ((-1) : Int32) = 1) => absurd c (by decide)) (fun _ => ?_)
    refine go_s (pc' := 53) rfl rfl rfl rfl ?_
    refine go_s (pc' := 54) (lo' := [some (.ref 62), some (.int 1), some (.int 2)]) rfl rfl rfl rfl ?_
    refine go_s (pc' := 7) rfl rfl rfl rfl ?_
    have hms : rdA 1 1 (I, Q, Z) = (I, Q, Z) := if_neg (fun z => absurd (e1.symm.trans z) (by decide))
    rw [hms] at C
    exact C _ (RA_R (by omega) hA)
  · skip
    refine go_s (pc' := 8) rfl rfl rfl rfl ?_
    refine go_s (pc' := 9) (st' := [.int 3, .int 1]) rfl rfl rfl rfl ?_
    refine go_icmpP (t' := 55) (pc' := 10) rfl rfl rfl (fun (c : 3 ≤ (1 : Int32)) => absurd c (by decide)) (fun _ => ?_)
    refine go_s (pc' := 11) rfl rfl rfl rfl ?_
    refine go_sget (pc' := 12) (v := .ref 78) hS rfl rfl rfl (by decide) rfl rfl ?_
    refine go_s (pc' := 13) rfl rfl rfl rfl ?_
    refine go_sald (pc' := 14) (q := 1) (v := .int 2) hS rfl (tr_s hr (a := 78) rfl (by decide)) rfl rfl (by decide) (congrArg Value.int e1) rfl ?_
    refine go_s (pc' := 15) rfl rfl rfl rfl ?_
    refine go_icmpP (t' := 17) (pc' := 16) rfl rfl rfl (fun (c : (2 : Int32) = 1) => absurd c (by decide)) (fun _ => ?_)
    refine go_s (pc' := 53) rfl rfl rfl rfl ?_
    refine go_s (pc' := 54) (lo' := [some (.ref 62), some (.int 1), some (.int 2)]) rfl rfl rfl rfl ?_
    refine go_s (pc' := 7) rfl rfl rfl rfl ?_
    have hms : rdA 1 1 (I, Q, Z) = (I, Q, Z) := if_neg (fun z => absurd (e1.symm.trans z) (by decide))
    rw [hms] at C
    exact C _ (RA_R (by omega) hA)
  · skip
    refine go_s (pc' := 8) rfl rfl rfl rfl ?_
    refine go_s (pc' := 9) (st' := [.int 3, .int 1]) rfl rfl rfl rfl ?_
    refine go_icmpP (t' := 55) (pc' := 10) rfl rfl rfl (fun (c : 3 ≤ (1 : Int32)) => absurd c (by decide)) (fun _ => ?_)
    refine go_s (pc' := 11) rfl rfl rfl rfl ?_
    refine go_sget (pc' := 12) (v := .ref 78) hS rfl rfl rfl (by decide) rfl rfl ?_
    refine go_s (pc' := 13) rfl rfl rfl rfl ?_
    refine go_sald (pc' := 14) (q := 1) (v := .int 3) hS rfl (tr_s hr (a := 78) rfl (by decide)) rfl rfl (by decide) (congrArg Value.int e1) rfl ?_
    refine go_s (pc' := 15) rfl rfl rfl rfl ?_
    refine go_icmpP (t' := 17) (pc' := 16) rfl rfl rfl (fun (c : (3 : Int32) = 1) => absurd c (by decide)) (fun _ => ?_)
    refine go_s (pc' := 53) rfl rfl rfl rfl ?_
    refine go_s (pc' := 54) (lo' := [some (.ref 62), some (.int 1), some (.int 2)]) rfl rfl rfl rfl ?_
    refine go_s (pc' := 7) rfl rfl rfl rfl ?_
    have hms : rdA 1 1 (I, Q, Z) = (I, Q, Z) := if_neg (fun z => absurd (e1.symm.trans z) (by decide))
    rw [hms] at C
    exact C _ (RA_R (by omega) hA)
theorem stA_2_1 {w : Nat → Bool} {d B R : Nat} {h : am_Hp} {I : sm_I} {Q : mQ} {Z : mZ} {P : Option Value → am_Hp → Prop} (hA : RA w B R [] true h (I, Q, Z)) (hR : R + 8 < 40000) {X : Nat} (hM : MID X (I, Q, Z)) (hX : X + 60 < 2 ^ 28) (h0 : I 0 1 = 0) (hd : 10 ≤ d) (C : ∀ h', RA w B (R + 0) [] true h' (rdA 2 1 (I, Q, Z)) → am_Go (am_prog w) d am_c163 none 7 [some (.ref 62), some (.int 1), some (.int 3)] [] h' P) : am_Go (am_prog w) d am_c163 none 7 [some (.ref 62), some (.int 1), some (.int 2)] [] h P := by
  obtain ⟨K, Y, am, ln, hS, hU⟩ := RA_u.mp hA
  change sm (tbr am (13 * ln) 77 5088) h (jn I K) Y at hS
  obtain ⟨hW, hWm, -, -, hr, -⟩ := id hU.1
  have hln := RU_ln hU (by omega)
  have hp0 : prk I 0 := (hM.2.2.1 0 (by decide)).1
  have hp1 : prk I 1 := (hM.2.2.1 1 (by decide)).1
  have hp2 : prk I 2 := (hM.2.2.1 2 (by decide)).1
  rcases hp2 with e1 | e1 | e1
  · skip
    refine go_s (pc' := 8) rfl rfl rfl rfl ?_
    refine go_s (pc' := 9) (st' := [.int 3, .int 2]) rfl rfl rfl rfl ?_
    refine go_icmpP (t' := 55) (pc' := 10) rfl rfl rfl (fun (c : 3 ≤ (2 : Int32)) => absurd c (by decide)) (fun _ => ?_)
    refine go_s (pc' := 11) rfl rfl rfl rfl ?_
    refine go_sget (pc' := 12) (v := .ref 78) hS rfl rfl rfl (by decide) rfl rfl ?_
    refine go_s (pc' := 13) rfl rfl rfl rfl ?_
    refine go_sald (pc' := 14) (q := 2) (v := .int (-1)) hS rfl (tr_s hr (a := 78) rfl (by decide)) rfl rfl (by decide) (congrArg Value.int e1) rfl ?_
    refine go_s (pc' := 15) rfl rfl rfl rfl ?_
    refine go_icmpP (t' := 17) (pc' := 16) rfl rfl rfl (fun (c : ((-1) : Int32) = 1) => absurd c (by decide)) (fun _ => ?_)
    refine go_s (pc' := 53) rfl rfl rfl rfl ?_
    refine go_s (pc' := 54) (lo' := [some (.ref 62), some (.int 1), some (.int 3)]) rfl rfl rfl rfl ?_
    refine go_s (pc' := 7) rfl rfl rfl rfl ?_
    have hms : rdA 2 1 (I, Q, Z) = (I, Q, Z) := if_neg (fun z => absurd (e1.symm.trans z) (by decide))
    rw [hms] at C
    exact C _ (RA_R (by omega) hA)
  · skip
    refine go_s (pc' := 8) rfl rfl rfl rfl ?_
    refine go_s (pc' := 9) (st' := [.int 3, .int 2]) rfl rfl rfl rfl ?_
    refine go_icmpP (t' := 55) (pc' := 10) rfl rfl rfl (fun (c : 3 ≤ (2 : Int32)) => absurd c (by decide)) (fun _ => ?_)
    refine go_s (pc' := 11) rfl rfl rfl rfl ?_
    refine go_sget (pc' := 12) (v := .ref 78) hS rfl rfl rfl (by decide) rfl rfl ?_
    refine go_s (pc' := 13) rfl rfl rfl rfl ?_
    refine go_sald (pc' := 14) (q := 2) (v := .int 2) hS rfl (tr_s hr (a := 78) rfl (by decide)) rfl rfl (by decide) (congrArg Value.int e1) rfl ?_
    refine go_s (pc' := 15) rfl rfl rfl rfl ?_
    refine go_icmpP (t' := 17) (pc' := 16) rfl rfl rfl (fun (c : (2 : Int32) = 1) => absurd c (by decide)) (fun _ => ?_)
    refine go_s (pc' := 53) rfl rfl rfl rfl ?_
    refine go_s (pc' := 54) (lo' := [some (.ref 62), some (.int 1), some (.int 3)]) rfl rfl rfl rfl ?_
    refine go_s (pc' := 7) rfl rfl rfl rfl ?_
    have hms : rdA 2 1 (I, Q, Z) = (I, Q, Z) := if_neg (fun z => absurd (e1.symm.trans z) (by decide))
    rw [hms] at C
    exact C _ (RA_R (by omega) hA)
  · skip
    refine go_s (pc' := 8) rfl rfl rfl rfl ?_
    refine go_s (pc' := 9) (st' := [.int 3, .int 2]) rfl rfl rfl rfl ?_
    refine go_icmpP (t' := 55) (pc' := 10) rfl rfl rfl (fun (c : 3 ≤ (2 : Int32)) => absurd c (by decide)) (fun _ => ?_)
    refine go_s (pc' := 11) rfl rfl rfl rfl ?_
    refine go_sget (pc' := 12) (v := .ref 78) hS rfl rfl rfl (by decide) rfl rfl ?_
    refine go_s (pc' := 13) rfl rfl rfl rfl ?_
    refine go_sald (pc' := 14) (q := 2) (v := .int 3) hS rfl (tr_s hr (a := 78) rfl (by decide)) rfl rfl (by decide) (congrArg Value.int e1) rfl ?_
    refine go_s (pc' := 15) rfl rfl rfl rfl ?_
    refine go_icmpP (t' := 17) (pc' := 16) rfl rfl rfl (fun (c : (3 : Int32) = 1) => absurd c (by decide)) (fun _ => ?_)
    refine go_s (pc' := 53) rfl rfl rfl rfl ?_
    refine go_s (pc' := 54) (lo' := [some (.ref 62), some (.int 1), some (.int 3)]) rfl rfl rfl rfl ?_
    refine go_s (pc' := 7) rfl rfl rfl rfl ?_
    have hms : rdA 2 1 (I, Q, Z) = (I, Q, Z) := if_neg (fun z => absurd (e1.symm.trans z) (by decide))
    rw [hms] at C
    exact C _ (RA_R (by omega) hA)
theorem stA_0_2 {w : Nat → Bool} {d B R : Nat} {h : am_Hp} {I : sm_I} {Q : mQ} {Z : mZ} {P : Option Value → am_Hp → Prop} (hA : RA w B R [] true h (I, Q, Z)) (hR : R + 8 < 40000) {X : Nat} (hM : MID X (I, Q, Z)) (hX : X + 60 < 2 ^ 28) (h0 : I 0 2 = 0) (hd : 10 ≤ d) (C : ∀ h', RA w B (R + 0) [] true h' (rdA 0 2 (I, Q, Z)) → am_Go (am_prog w) d am_c163 none 7 [some (.ref 62), some (.int 2), some (.int 1)] [] h' P) : am_Go (am_prog w) d am_c163 none 7 [some (.ref 62), some (.int 2), some (.int 0)] [] h P := by
  obtain ⟨K, Y, am, ln, hS, hU⟩ := RA_u.mp hA
  change sm (tbr am (13 * ln) 77 5088) h (jn I K) Y at hS
  obtain ⟨hW, hWm, -, -, hr, -⟩ := id hU.1
  have hln := RU_ln hU (by omega)
  have hp0 : prk I 0 := (hM.2.2.1 0 (by decide)).1
  have hp1 : prk I 1 := (hM.2.2.1 1 (by decide)).1
  have hp2 : prk I 2 := (hM.2.2.1 2 (by decide)).1
  rcases hp0 with e1 | e1 | e1
  · skip
    refine go_s (pc' := 8) rfl rfl rfl rfl ?_
    refine go_s (pc' := 9) (st' := [.int 3, .int 0]) rfl rfl rfl rfl ?_
    refine go_icmpP (t' := 55) (pc' := 10) rfl rfl rfl (fun (c : 3 ≤ (0 : Int32)) => absurd c (by decide)) (fun _ => ?_)
    refine go_s (pc' := 11) rfl rfl rfl rfl ?_
    refine go_sget (pc' := 12) (v := .ref 78) hS rfl rfl rfl (by decide) rfl rfl ?_
    refine go_s (pc' := 13) rfl rfl rfl rfl ?_
    refine go_sald (pc' := 14) (q := 0) (v := .int (-1)) hS rfl (tr_s hr (a := 78) rfl (by decide)) rfl rfl (by decide) (congrArg Value.int e1) rfl ?_
    refine go_s (pc' := 15) rfl rfl rfl rfl ?_
    refine go_icmpP (t' := 17) (pc' := 16) rfl rfl rfl (fun (c : ((-1) : Int32) = 2) => absurd c (by decide)) (fun _ => ?_)
    refine go_s (pc' := 53) rfl rfl rfl rfl ?_
    refine go_s (pc' := 54) (lo' := [some (.ref 62), some (.int 2), some (.int 1)]) rfl rfl rfl rfl ?_
    refine go_s (pc' := 7) rfl rfl rfl rfl ?_
    have hms : rdA 0 2 (I, Q, Z) = (I, Q, Z) := if_neg (fun z => absurd (e1.symm.trans z) (by decide))
    rw [hms] at C
    exact C _ (RA_R (by omega) hA)
  · skip
    refine go_s (pc' := 8) rfl rfl rfl rfl ?_
    refine go_s (pc' := 9) (st' := [.int 3, .int 0]) rfl rfl rfl rfl ?_
    refine go_icmpP (t' := 55) (pc' := 10) rfl rfl rfl (fun (c : 3 ≤ (0 : Int32)) => absurd c (by decide)) (fun _ => ?_)
    refine go_s (pc' := 11) rfl rfl rfl rfl ?_
    refine go_sget (pc' := 12) (v := .ref 78) hS rfl rfl rfl (by decide) rfl rfl ?_
    refine go_s (pc' := 13) rfl rfl rfl rfl ?_
    refine go_sald (pc' := 14) (q := 0) (v := .int 0) hS rfl (tr_s hr (a := 78) rfl (by decide)) rfl rfl (by decide) (congrArg Value.int e1) rfl ?_
    refine go_s (pc' := 15) rfl rfl rfl rfl ?_
    refine go_icmpP (t' := 17) (pc' := 16) rfl rfl rfl (fun (c : (0 : Int32) = 2) => absurd c (by decide)) (fun _ => ?_)
    refine go_s (pc' := 53) rfl rfl rfl rfl ?_
    refine go_s (pc' := 54) (lo' := [some (.ref 62), some (.int 2), some (.int 1)]) rfl rfl rfl rfl ?_
    refine go_s (pc' := 7) rfl rfl rfl rfl ?_
    have hms : rdA 0 2 (I, Q, Z) = (I, Q, Z) := if_neg (fun z => absurd (e1.symm.trans z) (by decide))
    rw [hms] at C
    exact C _ (RA_R (by omega) hA)
  · skip
    refine go_s (pc' := 8) rfl rfl rfl rfl ?_
    refine go_s (pc' := 9) (st' := [.int 3, .int 0]) rfl rfl rfl rfl ?_
    refine go_icmpP (t' := 55) (pc' := 10) rfl rfl rfl (fun (c : 3 ≤ (0 : Int32)) => absurd c (by decide)) (fun _ => ?_)
    refine go_s (pc' := 11) rfl rfl rfl rfl ?_
    refine go_sget (pc' := 12) (v := .ref 78) hS rfl rfl rfl (by decide) rfl rfl ?_
    refine go_s (pc' := 13) rfl rfl rfl rfl ?_
    refine go_sald (pc' := 14) (q := 0) (v := .int 1) hS rfl (tr_s hr (a := 78) rfl (by decide)) rfl rfl (by decide) (congrArg Value.int e1) rfl ?_
    refine go_s (pc' := 15) rfl rfl rfl rfl ?_
    refine go_icmpP (t' := 17) (pc' := 16) rfl rfl rfl (fun (c : (1 : Int32) = 2) => absurd c (by decide)) (fun _ => ?_)
    refine go_s (pc' := 53) rfl rfl rfl rfl ?_
    refine go_s (pc' := 54) (lo' := [some (.ref 62), some (.int 2), some (.int 1)]) rfl rfl rfl rfl ?_
    refine go_s (pc' := 7) rfl rfl rfl rfl ?_
    have hms : rdA 0 2 (I, Q, Z) = (I, Q, Z) := if_neg (fun z => absurd (e1.symm.trans z) (by decide))
    rw [hms] at C
    exact C _ (RA_R (by omega) hA)
theorem stA_1_2 {w : Nat → Bool} {d B R : Nat} {h : am_Hp} {I : sm_I} {Q : mQ} {Z : mZ} {P : Option Value → am_Hp → Prop} (hA : RA w B R [] true h (I, Q, Z)) (hR : R + 8 < 40000) {X : Nat} (hM : MID X (I, Q, Z)) (hX : X + 60 < 2 ^ 28) (h0 : I 0 2 = 0) (hd : 10 ≤ d) (C : ∀ h', RA w B (R + 1) [] true h' (rdA 1 2 (I, Q, Z)) → am_Go (am_prog w) d am_c163 none 7 [some (.ref 62), some (.int 2), some (.int 2)] [] h' P) : am_Go (am_prog w) d am_c163 none 7 [some (.ref 62), some (.int 2), some (.int 1)] [] h P := by
  obtain ⟨K, Y, am, ln, hS, hU⟩ := RA_u.mp hA
  change sm (tbr am (13 * ln) 77 5088) h (jn I K) Y at hS
  obtain ⟨hW, hWm, -, -, hr, -⟩ := id hU.1
  have hln := RU_ln hU (by omega)
  have hp0 : prk I 0 := (hM.2.2.1 0 (by decide)).1
  have hp1 : prk I 1 := (hM.2.2.1 1 (by decide)).1
  have hp2 : prk I 2 := (hM.2.2.1 2 (by decide)).1
  rcases hp1 with e1 | e1 | e1
  · skip
    refine go_s (pc' := 8) rfl rfl rfl rfl ?_
    refine go_s (pc' := 9) (st' := [.int 3, .int 1]) rfl rfl rfl rfl ?_
    refine go_icmpP (t' := 55) (pc' := 10) rfl rfl rfl (fun (c : 3 ≤ (1 : Int32)) => absurd c (by decide)) (fun _ => ?_)
    refine go_s (pc' := 11) rfl rfl rfl rfl ?_
    refine go_sget (pc' := 12) (v := .ref 78) hS rfl rfl rfl (by decide) rfl rfl ?_
    refine go_s (pc' := 13) rfl rfl rfl rfl ?_
    refine go_sald (pc' := 14) (q := 1) (v := .int (-1)) hS rfl (tr_s hr (a := 78) rfl (by decide)) rfl rfl (by decide) (congrArg Value.int e1) rfl ?_
    refine go_s (pc' := 15) rfl rfl rfl rfl ?_
    refine go_icmpP (t' := 17) (pc' := 16) rfl rfl rfl (fun (c : ((-1) : Int32) = 2) => absurd c (by decide)) (fun _ => ?_)
    refine go_s (pc' := 53) rfl rfl rfl rfl ?_
    refine go_s (pc' := 54) (lo' := [some (.ref 62), some (.int 2), some (.int 2)]) rfl rfl rfl rfl ?_
    refine go_s (pc' := 7) rfl rfl rfl rfl ?_
    have hms : rdA 1 2 (I, Q, Z) = (I, Q, Z) := if_neg (fun z => absurd (e1.symm.trans z) (by decide))
    rw [hms] at C
    exact C _ (RA_R (by omega) hA)
  · skip
    by_cases hbk : I 12 1 = -1
    · skip
      refine go_s (pc' := 8) rfl rfl rfl rfl ?_
      refine go_s (pc' := 9) (st' := [.int 3, .int 1]) rfl rfl rfl rfl ?_
      refine go_icmpP (t' := 55) (pc' := 10) rfl rfl rfl (fun (c : 3 ≤ (1 : Int32)) => absurd c (by decide)) (fun _ => ?_)
      refine go_s (pc' := 11) rfl rfl rfl rfl ?_
      refine go_sget (pc' := 12) (v := .ref 78) hS rfl rfl rfl (by decide) rfl rfl ?_
      refine go_s (pc' := 13) rfl rfl rfl rfl ?_
      refine go_sald (pc' := 14) (q := 1) (v := .int 2) hS rfl (tr_s hr (a := 78) rfl (by decide)) rfl rfl (by decide) (congrArg Value.int e1) rfl ?_
      refine go_s (pc' := 15) rfl rfl rfl rfl ?_
      refine go_icmpP (t' := 17) (pc' := 16) rfl rfl rfl (fun _ => ?_) (fun (c : ¬ ((2 : Int32) = 2)) => absurd (by decide) c)
      refine go_s (pc' := 18) rfl rfl rfl rfl ?_
      refine go_sget (pc' := 19) (v := .ref 79) hS rfl rfl rfl (by decide) rfl rfl ?_
      refine go_s (pc' := 20) rfl rfl rfl rfl ?_
      refine go_sald (pc' := 21) (q := 1) (v := .int (-1)) hS rfl (tr_s hr (a := 79) rfl (by decide)) rfl rfl (by decide) (congrArg Value.int hbk) rfl ?_
      refine go_s (pc' := 22) (st' := [.int (-1), .int (-1)]) rfl rfl rfl rfl ?_
      refine go_icmpP (t' := 35) (pc' := 23) rfl rfl rfl (fun _ => ?_) (fun (c : ¬ (((-1) : Int32) = (-1))) => absurd (by decide) c)
      refine go_s (pc' := 36) rfl rfl rfl rfl ?_
      refine go_sget (pc' := 37) (v := .ref 78) hS rfl rfl rfl (by decide) rfl rfl ?_
      refine go_s (pc' := 38) rfl rfl rfl rfl ?_
      refine go_s (pc' := 39) (st' := [.int (-1), .int 1, .ref 78]) rfl rfl rfl rfl ?_
      refine go_siast (pc' := 40) (q := 1) hS rfl (tr_s hr (a := 78) rfl (by decide)) tbr_inj (Nat.le_of_ble_eq_true rfl) rfl (by decide) (by decide) (hW _ (by decide) (by decide)) rfl (fun h2 hS3 hE4 => ?_)
      refine go_s (pc' := 41) rfl rfl rfl rfl ?_
      refine go_sget (pc' := 42) (v := .ref 79) hS3 rfl rfl rfl (by decide) rfl rfl ?_
      refine go_s (pc' := 43) rfl rfl rfl rfl ?_
      refine go_s (pc' := 44) (st' := [.int (-1), .int 1, .ref 79]) rfl rfl rfl rfl ?_
      refine go_siast (pc' := 45) (q := 1) hS3 rfl (tr_s hr (a := 79) rfl (by decide)) tbr_inj (Nat.le_of_ble_eq_true rfl) rfl (by decide) (by decide) (hW _ (by decide) (by decide)) rfl (fun h5 hS6 hE7 => ?_)
      have hE8 := sm_e_trans hE4 hE7
      refine go_s (pc' := 46) rfl rfl rfl rfl ?_
      refine go_sget (pc' := 47) (v := .ref 80) hS6 rfl rfl rfl (by decide) rfl rfl ?_
      refine go_s (pc' := 48) rfl rfl rfl rfl ?_
      refine go_s (pc' := 49) (st' := [.int 0, .int 1, .ref 80]) rfl rfl rfl rfl ?_
      refine go_szast (pc' := 50) (q := 1) hS6 rfl (tr_s hr (a := 80) rfl (by decide)) tbr_inj (Nat.le_of_ble_eq_true rfl) rfl (by decide) (by decide) rfl (hW _ (by decide) (by decide)) rfl (fun h9 hS10 hE11 => ?_)
      have hE12 := sm_e_trans hE8 hE11
      change sm (tbr am (13 * ln) 77 5088) _ (uI (uI (uI (jn I K) 11 1 (-1)) 12 1 (-1)) 13 1 0) Y at hS10
      rw [jn_lo (c := 11) (by decide), jn_lo (c := 12) (by decide), jn_lo (c := 13) (by decide)] at hS10
      have hU13 : RU w B R [] true h9 am ln K ((uI (uI (uI I 11 1 (-1)) 12 1 (-1)) 13 1 0), Q, Z) := RU_I (hE12) (I' := (uI (uI (uI I 11 1 (-1)) 12 1 (-1)) 13 1 0)) (fun _ => rfl) (fun _ => rfl) (Nat.le_refl _) hU
      have hS14 : sm (tbr am (13 * ln) 77 5088) _ (jn (uI (uI (uI (uI I 11 1 (-1)) 12 1 (-1)) 13 1 0) 40 1 0) K) Y := sm_jg hr hS10 (fun c j _ n1 n2 n3 => uI_c n3)
      have hU15 : RU w B R [] true h9 am ln K ((uI (uI (uI (uI I 11 1 (-1)) 12 1 (-1)) 13 1 0) 40 1 0), Q, Z) := RU_I (sm_e_refl (tbr am (13 * ln) 77 5088) _) (fun _ => rfl) (fun _ => rfl) (Nat.le_refl _) hU13
      refine go_s (pc' := 51) rfl rfl rfl rfl ?_
      refine go_s (pc' := 52) rfl rfl rfl rfl ?_
      have hU16 : RU w B R [] true h9 am ln K ((uI (uI (uI (uI I 11 1 (-1)) 12 1 (-1)) 13 1 0) 40 1 0), Q, Z) := RU_I (sm_e_refl (tbr am (13 * ln) 77 5088) _) (I' := (uI (uI (uI (uI I 11 1 (-1)) 12 1 (-1)) 13 1 0) 40 1 0)) (fun _ => rfl) (fun _ => rfl) (Nat.le_refl _) hU15
      refine go_callV (pc' := 53) rfl rfl rfl (Nat.le_of_ble_eq_true rfl) rfl (sm_o hS14 rfl) rfl rfl rfl (rt_stops_1 hr hS14 hW (by omega)) (fun r h17 q18 => ?_)
      obtain ⟨rfl, hS19, hE20⟩ := q18
      change sm (tbr am (13 * ln) 77 5088) _ (mstI 1 (jn (uI (uI (uI (uI I 11 1 (-1)) 12 1 (-1)) 13 1 0) 40 1 0) K)) Y at hS19
      rw [mst_jn] at hS19
      have hU21 : RU w B R [] true h17 am ln K ((mstI 1 (uI (uI (uI (uI I 11 1 (-1)) 12 1 (-1)) 13 1 0) 40 1 0)), Q, Z) := RU_I hE20 mst_24 mst_25 mst_stn hU16
      have hp22 : prk (mstI 1 (uI (uI (uI (uI I 11 1 (-1)) 12 1 (-1)) 13 1 0) 40 1 0)) 0 := (prk_p (congrFun (mst_11 (k := 1) (I := (uI (uI (uI (uI I 11 1 (-1)) 12 1 (-1)) 13 1 0) 40 1 0))) 0)).mpr hp0
      have hp23 : prk (mstI 1 (uI (uI (uI (uI I 11 1 (-1)) 12 1 (-1)) 13 1 0) 40 1 0)) 2 := (prk_p (congrFun (mst_11 (k := 1) (I := (uI (uI (uI (uI I 11 1 (-1)) 12 1 (-1)) 13 1 0) 40 1 0))) 2)).mpr hp2
      refine go_s (pc' := 54) (lo' := [some (.ref 62), some (.int 2), some (.int 2)]) rfl rfl rfl rfl ?_
      refine go_s (pc' := 7) rfl rfl rfl rfl ?_
      have hU24 : RU w B R [] true h17 am ln K ((mstI 1 (uI (uI (uI (uI I 11 1 (-1)) 12 1 (-1)) 13 1 0) 40 1 0)), Q, Z) := RU_I (sm_e_refl (tbr am (13 * ln) 77 5088) _) (I' := (mstI 1 (uI (uI (uI (uI I 11 1 (-1)) 12 1 (-1)) 13 1 0) 40 1 0))) (fun _ => rfl) (fun _ => rfl) (Nat.le_refl _) hU21
      have hA25 : RA w B R [] true h17 ((mstI 1 (uI (uI (uI (uI I 11 1 (-1)) 12 1 (-1)) 13 1 0) 40 1 0)), Q, Z) := RA_u.mpr ⟨_, _, _, _, hS19, hU24⟩
      have hms : rdA 1 2 (I, Q, Z) = ((mstI 1 (uI (uI (uI (uI I 11 1 (-1)) 12 1 (-1)) 13 1 0) 40 1 0)), Q, Z) := by
        unfold rdA
        rw [if_pos (show ((I, Q, Z) : mM).1 11 1 = nI 2 from e1), if_neg (fun z => z.1 hbk)]
      rw [hms] at C
      exact C _ (RA_R (by omega) hA25)
    · skip
      have e12 : I 12 1 = 3 := ((hM.2.2.1 1 (by decide)).2.2.2.2.1 hbk).2.2.2.trans (by
        show ohI I 1 = 3
        unfold ohI
        rw [e1]
        rfl)
      refine go_s (pc' := 8) rfl rfl rfl rfl ?_
      refine go_s (pc' := 9) (st' := [.int 3, .int 1]) rfl rfl rfl rfl ?_
      refine go_icmpP (t' := 55) (pc' := 10) rfl rfl rfl (fun (c : 3 ≤ (1 : Int32)) => absurd c (by decide)) (fun _ => ?_)
      refine go_s (pc' := 11) rfl rfl rfl rfl ?_
      refine go_sget (pc' := 12) (v := .ref 78) hS rfl rfl rfl (by decide) rfl rfl ?_
      refine go_s (pc' := 13) rfl rfl rfl rfl ?_
      refine go_sald (pc' := 14) (q := 1) (v := .int 2) hS rfl (tr_s hr (a := 78) rfl (by decide)) rfl rfl (by decide) (congrArg Value.int e1) rfl ?_
      refine go_s (pc' := 15) rfl rfl rfl rfl ?_
      refine go_icmpP (t' := 17) (pc' := 16) rfl rfl rfl (fun _ => ?_) (fun (c : ¬ ((2 : Int32) = 2)) => absurd (by decide) c)
      refine go_s (pc' := 18) rfl rfl rfl rfl ?_
      refine go_sget (pc' := 19) (v := .ref 79) hS rfl rfl rfl (by decide) rfl rfl ?_
      refine go_s (pc' := 20) rfl rfl rfl rfl ?_
      refine go_sald (pc' := 21) (q := 1) (v := .int 3) hS rfl (tr_s hr (a := 79) rfl (by decide)) rfl rfl (by decide) (congrArg Value.int e12) rfl ?_
      refine go_s (pc' := 22) (st' := [.int (-1), .int 3]) rfl rfl rfl rfl ?_
      refine go_icmpP (t' := 35) (pc' := 23) rfl rfl rfl (fun (c : (3 : Int32) = (-1)) => absurd c (by decide)) (fun _ => ?_)
      refine go_s (pc' := 24) rfl rfl rfl rfl ?_
      refine go_sget (pc' := 25) (v := .ref 63) hS rfl rfl rfl (by decide) rfl rfl ?_
      refine go_s (pc' := 26) rfl rfl rfl rfl ?_
      refine go_sget (pc' := 27) (v := .ref 79) hS rfl rfl rfl (by decide) rfl rfl ?_
      refine go_s (pc' := 28) rfl rfl rfl rfl ?_
      refine go_sald (pc' := 29) (q := 1) (v := .int 3) hS rfl (tr_s hr (a := 79) rfl (by decide)) rfl rfl (by decide) (congrArg Value.int e12) rfl ?_
      refine go_sald (pc' := 30) (q := 3) (v := .int (I 0 3)) hS rfl (tr_s hr (a := 63) rfl (by decide)) rfl rfl (by decide) rfl rfl ?_
      refine go_ifP (t' := 35) (pc' := 31) rfl rfl rfl (fun (c26 : (I 0 3) = 0) => ?_) (fun (c26 : ¬ (I 0 3) = 0) => ?_)
      · skip
        refine go_s (pc' := 36) rfl rfl rfl rfl ?_
        refine go_sget (pc' := 37) (v := .ref 78) hS rfl rfl rfl (by decide) rfl rfl ?_
        refine go_s (pc' := 38) rfl rfl rfl rfl ?_
        refine go_s (pc' := 39) (st' := [.int (-1), .int 1, .ref 78]) rfl rfl rfl rfl ?_
        refine go_siast (pc' := 40) (q := 1) hS rfl (tr_s hr (a := 78) rfl (by decide)) tbr_inj (Nat.le_of_ble_eq_true rfl) rfl (by decide) (by decide) (hW _ (by decide) (by decide)) rfl (fun h27 hS28 hE29 => ?_)
        refine go_s (pc' := 41) rfl rfl rfl rfl ?_
        refine go_sget (pc' := 42) (v := .ref 79) hS28 rfl rfl rfl (by decide) rfl rfl ?_
        refine go_s (pc' := 43) rfl rfl rfl rfl ?_
        refine go_s (pc' := 44) (st' := [.int (-1), .int 1, .ref 79]) rfl rfl rfl rfl ?_
        refine go_siast (pc' := 45) (q := 1) hS28 rfl (tr_s hr (a := 79) rfl (by decide)) tbr_inj (Nat.le_of_ble_eq_true rfl) rfl (by decide) (by decide) (hW _ (by decide) (by decide)) rfl (fun h30 hS31 hE32 => ?_)
        have hE33 := sm_e_trans hE29 hE32
        refine go_s (pc' := 46) rfl rfl rfl rfl ?_
        refine go_sget (pc' := 47) (v := .ref 80) hS31 rfl rfl rfl (by decide) rfl rfl ?_
        refine go_s (pc' := 48) rfl rfl rfl rfl ?_
        refine go_s (pc' := 49) (st' := [.int 0, .int 1, .ref 80]) rfl rfl rfl rfl ?_
        refine go_szast (pc' := 50) (q := 1) hS31 rfl (tr_s hr (a := 80) rfl (by decide)) tbr_inj (Nat.le_of_ble_eq_true rfl) rfl (by decide) (by decide) rfl (hW _ (by decide) (by decide)) rfl (fun h34 hS35 hE36 => ?_)
        have hE37 := sm_e_trans hE33 hE36
        change sm (tbr am (13 * ln) 77 5088) _ (uI (uI (uI (jn I K) 11 1 (-1)) 12 1 (-1)) 13 1 0) Y at hS35
        rw [jn_lo (c := 11) (by decide), jn_lo (c := 12) (by decide), jn_lo (c := 13) (by decide)] at hS35
        have hU38 : RU w B R [] true h34 am ln K ((uI (uI (uI I 11 1 (-1)) 12 1 (-1)) 13 1 0), Q, Z) := RU_I (hE37) (I' := (uI (uI (uI I 11 1 (-1)) 12 1 (-1)) 13 1 0)) (fun _ => rfl) (fun _ => rfl) (Nat.le_refl _) hU
        have hS39 : sm (tbr am (13 * ln) 77 5088) _ (jn (uI (uI (uI (uI I 11 1 (-1)) 12 1 (-1)) 13 1 0) 40 1 0) K) Y := sm_jg hr hS35 (fun c j _ n1 n2 n3 => uI_c n3)
        have hU40 : RU w B R [] true h34 am ln K ((uI (uI (uI (uI I 11 1 (-1)) 12 1 (-1)) 13 1 0) 40 1 0), Q, Z) := RU_I (sm_e_refl (tbr am (13 * ln) 77 5088) _) (fun _ => rfl) (fun _ => rfl) (Nat.le_refl _) hU38
        refine go_s (pc' := 51) rfl rfl rfl rfl ?_
        refine go_s (pc' := 52) rfl rfl rfl rfl ?_
        have hU41 : RU w B R [] true h34 am ln K ((uI (uI (uI (uI I 11 1 (-1)) 12 1 (-1)) 13 1 0) 40 1 0), Q, Z) := RU_I (sm_e_refl (tbr am (13 * ln) 77 5088) _) (I' := (uI (uI (uI (uI I 11 1 (-1)) 12 1 (-1)) 13 1 0) 40 1 0)) (fun _ => rfl) (fun _ => rfl) (Nat.le_refl _) hU40
        refine go_callV (pc' := 53) rfl rfl rfl (Nat.le_of_ble_eq_true rfl) rfl (sm_o hS39 rfl) rfl rfl rfl (rt_stops_1 hr hS39 hW (by omega)) (fun r h42 q43 => ?_)
        obtain ⟨rfl, hS44, hE45⟩ := q43
        change sm (tbr am (13 * ln) 77 5088) _ (mstI 1 (jn (uI (uI (uI (uI I 11 1 (-1)) 12 1 (-1)) 13 1 0) 40 1 0) K)) Y at hS44
        rw [mst_jn] at hS44
        have hU46 : RU w B R [] true h42 am ln K ((mstI 1 (uI (uI (uI (uI I 11 1 (-1)) 12 1 (-1)) 13 1 0) 40 1 0)), Q, Z) := RU_I hE45 mst_24 mst_25 mst_stn hU41
        have hp47 : prk (mstI 1 (uI (uI (uI (uI I 11 1 (-1)) 12 1 (-1)) 13 1 0) 40 1 0)) 0 := (prk_p (congrFun (mst_11 (k := 1) (I := (uI (uI (uI (uI I 11 1 (-1)) 12 1 (-1)) 13 1 0) 40 1 0))) 0)).mpr hp0
        have hp48 : prk (mstI 1 (uI (uI (uI (uI I 11 1 (-1)) 12 1 (-1)) 13 1 0) 40 1 0)) 2 := (prk_p (congrFun (mst_11 (k := 1) (I := (uI (uI (uI (uI I 11 1 (-1)) 12 1 (-1)) 13 1 0) 40 1 0))) 2)).mpr hp2
        refine go_s (pc' := 54) (lo' := [some (.ref 62), some (.int 2), some (.int 2)]) rfl rfl rfl rfl ?_
        refine go_s (pc' := 7) rfl rfl rfl rfl ?_
        have hU49 : RU w B R [] true h42 am ln K ((mstI 1 (uI (uI (uI (uI I 11 1 (-1)) 12 1 (-1)) 13 1 0) 40 1 0)), Q, Z) := RU_I (sm_e_refl (tbr am (13 * ln) 77 5088) _) (I' := (mstI 1 (uI (uI (uI (uI I 11 1 (-1)) 12 1 (-1)) 13 1 0) 40 1 0))) (fun _ => rfl) (fun _ => rfl) (Nat.le_refl _) hU46
        have hA50 : RA w B R [] true h42 ((mstI 1 (uI (uI (uI (uI I 11 1 (-1)) 12 1 (-1)) 13 1 0) 40 1 0)), Q, Z) := RA_u.mpr ⟨_, _, _, _, hS44, hU49⟩
        have hms : rdA 1 2 (I, Q, Z) = ((mstI 1 (uI (uI (uI (uI I 11 1 (-1)) 12 1 (-1)) 13 1 0) 40 1 0)), Q, Z) := by
          unfold rdA
          rw [if_pos (show ((I, Q, Z) : mM).1 11 1 = nI 2 from e1), if_neg (fun z => z.2 (by show I 0 (I 12 1).toNatClampNeg = 0; rw [e12]; exact c26))]
        rw [hms] at C
        exact C _ (RA_R (by omega) hA50)
      · skip
        refine go_s (pc' := 32) rfl rfl rfl rfl ?_
        refine go_s (pc' := 33) rfl rfl rfl rfl ?_
        have hu9 : ¬ I 0 (ohn I 1) = 0 := by
          rw [show ohn I 1 = 3 from ohn_l (v := 2) e1 (by decide)]
          exact c26
        have hU51 : RU w B R [] true h am ln K (I, Q, Z) := RU_I (sm_e_refl (tbr am (13 * ln) 77 5088) _) (I' := I) (fun _ => rfl) (fun _ => rfl) (Nat.le_refl _) hU
        have hA52 : RA w B R [] true h (I, Q, Z) := RA_u.mpr ⟨_, _, _, _, hS, hU51⟩
        refine go_callV (pc' := 34) rfl rfl rfl (Nat.le_of_ble_eq_true rfl) rfl (sm_o hS rfl) rfl rfl rfl (ra_to_1_2 hA52 (by omega) hM hX h0 e1 e12 hu9 (by omega)) (fun r h53 q54 => ?_)
        obtain ⟨rfl, hA55⟩ := q54
        refine go_s (pc' := 53) rfl rfl rfl rfl ?_
        refine go_s (pc' := 54) (lo' := [some (.ref 62), some (.int 2), some (.int 2)]) rfl rfl rfl rfl ?_
        refine go_s (pc' := 7) rfl rfl rfl rfl ?_
        have hms : rdA 1 2 (I, Q, Z) = rto 1 (I, Q, Z) := by
          unfold rdA
          rw [if_pos (show ((I, Q, Z) : mM).1 11 1 = nI 2 from e1), if_pos (show ¬ ((I, Q, Z) : mM).1 12 1 = -1 ∧ ¬ ((I, Q, Z) : mM).1 0 (((I, Q, Z) : mM).1 12 1).toNatClampNeg = 0 from ⟨hbk, by show ¬ I 0 (I 12 1).toNatClampNeg = 0; rw [e12]; exact c26⟩)]
        rw [hms] at C
        exact C _ hA55
  · skip
    refine go_s (pc' := 8) rfl rfl rfl rfl ?_
    refine go_s (pc' := 9) (st' := [.int 3, .int 1]) rfl rfl rfl rfl ?_
    refine go_icmpP (t' := 55) (pc' := 10) rfl rfl rfl (fun (c : 3 ≤ (1 : Int32)) => absurd c (by decide)) (fun _ => ?_)
    refine go_s (pc' := 11) rfl rfl rfl rfl ?_
    refine go_sget (pc' := 12) (v := .ref 78) hS rfl rfl rfl (by decide) rfl rfl ?_
    refine go_s (pc' := 13) rfl rfl rfl rfl ?_
    refine go_sald (pc' := 14) (q := 1) (v := .int 3) hS rfl (tr_s hr (a := 78) rfl (by decide)) rfl rfl (by decide) (congrArg Value.int e1) rfl ?_
    refine go_s (pc' := 15) rfl rfl rfl rfl ?_
    refine go_icmpP (t' := 17) (pc' := 16) rfl rfl rfl (fun (c : (3 : Int32) = 2) => absurd c (by decide)) (fun _ => ?_)
    refine go_s (pc' := 53) rfl rfl rfl rfl ?_
    refine go_s (pc' := 54) (lo' := [some (.ref 62), some (.int 2), some (.int 2)]) rfl rfl rfl rfl ?_
    refine go_s (pc' := 7) rfl rfl rfl rfl ?_
    have hms : rdA 1 2 (I, Q, Z) = (I, Q, Z) := if_neg (fun z => absurd (e1.symm.trans z) (by decide))
    rw [hms] at C
    exact C _ (RA_R (by omega) hA)
theorem stA_2_2 {w : Nat → Bool} {d B R : Nat} {h : am_Hp} {I : sm_I} {Q : mQ} {Z : mZ} {P : Option Value → am_Hp → Prop} (hA : RA w B R [] true h (I, Q, Z)) (hR : R + 8 < 40000) {X : Nat} (hM : MID X (I, Q, Z)) (hX : X + 60 < 2 ^ 28) (h0 : I 0 2 = 0) (hd : 10 ≤ d) (C : ∀ h', RA w B (R + 1) [] true h' (rdA 2 2 (I, Q, Z)) → am_Go (am_prog w) d am_c163 none 7 [some (.ref 62), some (.int 2), some (.int 3)] [] h' P) : am_Go (am_prog w) d am_c163 none 7 [some (.ref 62), some (.int 2), some (.int 2)] [] h P := by
  obtain ⟨K, Y, am, ln, hS, hU⟩ := RA_u.mp hA
  change sm (tbr am (13 * ln) 77 5088) h (jn I K) Y at hS
  obtain ⟨hW, hWm, -, -, hr, -⟩ := id hU.1
  have hln := RU_ln hU (by omega)
  have hp0 : prk I 0 := (hM.2.2.1 0 (by decide)).1
  have hp1 : prk I 1 := (hM.2.2.1 1 (by decide)).1
  have hp2 : prk I 2 := (hM.2.2.1 2 (by decide)).1
  rcases hp2 with e1 | e1 | e1
  · skip
    refine go_s (pc' := 8) rfl rfl rfl rfl ?_
    refine go_s (pc' := 9) (st' := [.int 3, .int 2]) rfl rfl rfl rfl ?_
    refine go_icmpP (t' := 55) (pc' := 10) rfl rfl rfl (fun (c : 3 ≤ (2 : Int32)) => absurd c (by decide)) (fun _ => ?_)
    refine go_s (pc' := 11) rfl rfl rfl rfl ?_
    refine go_sget (pc' := 12) (v := .ref 78) hS rfl rfl rfl (by decide) rfl rfl ?_
    refine go_s (pc' := 13) rfl rfl rfl rfl ?_
    refine go_sald (pc' := 14) (q := 2) (v := .int (-1)) hS rfl (tr_s hr (a := 78) rfl (by decide)) rfl rfl (by decide) (congrArg Value.int e1) rfl ?_
    refine go_s (pc' := 15) rfl rfl rfl rfl ?_
    refine go_icmpP (t' := 17) (pc' := 16) rfl rfl rfl (fun (c : ((-1) : Int32) = 2) => absurd c (by decide)) (fun _ => ?_)
    refine go_s (pc' := 53) rfl rfl rfl rfl ?_
    refine go_s (pc' := 54) (lo' := [some (.ref 62), some (.int 2), some (.int 3)]) rfl rfl rfl rfl ?_
    refine go_s (pc' := 7) rfl rfl rfl rfl ?_
    have hms : rdA 2 2 (I, Q, Z) = (I, Q, Z) := if_neg (fun z => absurd (e1.symm.trans z) (by decide))
    rw [hms] at C
    exact C _ (RA_R (by omega) hA)
  · skip
    by_cases hbk : I 12 2 = -1
    · skip
      refine go_s (pc' := 8) rfl rfl rfl rfl ?_
      refine go_s (pc' := 9) (st' := [.int 3, .int 2]) rfl rfl rfl rfl ?_
      refine go_icmpP (t' := 55) (pc' := 10) rfl rfl rfl (fun (c : 3 ≤ (2 : Int32)) => absurd c (by decide)) (fun _ => ?_)
      refine go_s (pc' := 11) rfl rfl rfl rfl ?_
      refine go_sget (pc' := 12) (v := .ref 78) hS rfl rfl rfl (by decide) rfl rfl ?_
      refine go_s (pc' := 13) rfl rfl rfl rfl ?_
      refine go_sald (pc' := 14) (q := 2) (v := .int 2) hS rfl (tr_s hr (a := 78) rfl (by decide)) rfl rfl (by decide) (congrArg Value.int e1) rfl ?_
      refine go_s (pc' := 15) rfl rfl rfl rfl ?_
      refine go_icmpP (t' := 17) (pc' := 16) rfl rfl rfl (fun _ => ?_) (fun (c : ¬ ((2 : Int32) = 2)) => absurd (by decide) c)
      refine go_s (pc' := 18) rfl rfl rfl rfl ?_
      refine go_sget (pc' := 19) (v := .ref 79) hS rfl rfl rfl (by decide) rfl rfl ?_
      refine go_s (pc' := 20) rfl rfl rfl rfl ?_
      refine go_sald (pc' := 21) (q := 2) (v := .int (-1)) hS rfl (tr_s hr (a := 79) rfl (by decide)) rfl rfl (by decide) (congrArg Value.int hbk) rfl ?_
      refine go_s (pc' := 22) (st' := [.int (-1), .int (-1)]) rfl rfl rfl rfl ?_
      refine go_icmpP (t' := 35) (pc' := 23) rfl rfl rfl (fun _ => ?_) (fun (c : ¬ (((-1) : Int32) = (-1))) => absurd (by decide) c)
      refine go_s (pc' := 36) rfl rfl rfl rfl ?_
      refine go_sget (pc' := 37) (v := .ref 78) hS rfl rfl rfl (by decide) rfl rfl ?_
      refine go_s (pc' := 38) rfl rfl rfl rfl ?_
      refine go_s (pc' := 39) (st' := [.int (-1), .int 2, .ref 78]) rfl rfl rfl rfl ?_
      refine go_siast (pc' := 40) (q := 2) hS rfl (tr_s hr (a := 78) rfl (by decide)) tbr_inj (Nat.le_of_ble_eq_true rfl) rfl (by decide) (by decide) (hW _ (by decide) (by decide)) rfl (fun h2 hS3 hE4 => ?_)
      refine go_s (pc' := 41) rfl rfl rfl rfl ?_
      refine go_sget (pc' := 42) (v := .ref 79) hS3 rfl rfl rfl (by decide) rfl rfl ?_
      refine go_s (pc' := 43) rfl rfl rfl rfl ?_
      refine go_s (pc' := 44) (st' := [.int (-1), .int 2, .ref 79]) rfl rfl rfl rfl ?_
      refine go_siast (pc' := 45) (q := 2) hS3 rfl (tr_s hr (a := 79) rfl (by decide)) tbr_inj (Nat.le_of_ble_eq_true rfl) rfl (by decide) (by decide) (hW _ (by decide) (by decide)) rfl (fun h5 hS6 hE7 => ?_)
      have hE8 := sm_e_trans hE4 hE7
      refine go_s (pc' := 46) rfl rfl rfl rfl ?_
      refine go_sget (pc' := 47) (v := .ref 80) hS6 rfl rfl rfl (by decide) rfl rfl ?_
      refine go_s (pc' := 48) rfl rfl rfl rfl ?_
      refine go_s (pc' := 49) (st' := [.int 0, .int 2, .ref 80]) rfl rfl rfl rfl ?_
      refine go_szast (pc' := 50) (q := 2) hS6 rfl (tr_s hr (a := 80) rfl (by decide)) tbr_inj (Nat.le_of_ble_eq_true rfl) rfl (by decide) (by decide) rfl (hW _ (by decide) (by decide)) rfl (fun h9 hS10 hE11 => ?_)
      have hE12 := sm_e_trans hE8 hE11
      change sm (tbr am (13 * ln) 77 5088) _ (uI (uI (uI (jn I K) 11 2 (-1)) 12 2 (-1)) 13 2 0) Y at hS10
      rw [jn_lo (c := 11) (by decide), jn_lo (c := 12) (by decide), jn_lo (c := 13) (by decide)] at hS10
      have hU13 : RU w B R [] true h9 am ln K ((uI (uI (uI I 11 2 (-1)) 12 2 (-1)) 13 2 0), Q, Z) := RU_I (hE12) (I' := (uI (uI (uI I 11 2 (-1)) 12 2 (-1)) 13 2 0)) (fun _ => rfl) (fun _ => rfl) (Nat.le_refl _) hU
      have hS14 : sm (tbr am (13 * ln) 77 5088) _ (jn (uI (uI (uI (uI I 11 2 (-1)) 12 2 (-1)) 13 2 0) 40 2 0) K) Y := sm_jg hr hS10 (fun c j _ n1 n2 n3 => uI_c n3)
      have hU15 : RU w B R [] true h9 am ln K ((uI (uI (uI (uI I 11 2 (-1)) 12 2 (-1)) 13 2 0) 40 2 0), Q, Z) := RU_I (sm_e_refl (tbr am (13 * ln) 77 5088) _) (fun _ => rfl) (fun _ => rfl) (Nat.le_refl _) hU13
      refine go_s (pc' := 51) rfl rfl rfl rfl ?_
      refine go_s (pc' := 52) rfl rfl rfl rfl ?_
      have hU16 : RU w B R [] true h9 am ln K ((uI (uI (uI (uI I 11 2 (-1)) 12 2 (-1)) 13 2 0) 40 2 0), Q, Z) := RU_I (sm_e_refl (tbr am (13 * ln) 77 5088) _) (I' := (uI (uI (uI (uI I 11 2 (-1)) 12 2 (-1)) 13 2 0) 40 2 0)) (fun _ => rfl) (fun _ => rfl) (Nat.le_refl _) hU15
      refine go_callV (pc' := 53) rfl rfl rfl (Nat.le_of_ble_eq_true rfl) rfl (sm_o hS14 rfl) rfl rfl rfl (rt_stops_2 hr hS14 hW (by omega)) (fun r h17 q18 => ?_)
      obtain ⟨rfl, hS19, hE20⟩ := q18
      change sm (tbr am (13 * ln) 77 5088) _ (mstI 2 (jn (uI (uI (uI (uI I 11 2 (-1)) 12 2 (-1)) 13 2 0) 40 2 0) K)) Y at hS19
      rw [mst_jn] at hS19
      have hU21 : RU w B R [] true h17 am ln K ((mstI 2 (uI (uI (uI (uI I 11 2 (-1)) 12 2 (-1)) 13 2 0) 40 2 0)), Q, Z) := RU_I hE20 mst_24 mst_25 mst_stn hU16
      have hp22 : prk (mstI 2 (uI (uI (uI (uI I 11 2 (-1)) 12 2 (-1)) 13 2 0) 40 2 0)) 0 := (prk_p (congrFun (mst_11 (k := 2) (I := (uI (uI (uI (uI I 11 2 (-1)) 12 2 (-1)) 13 2 0) 40 2 0))) 0)).mpr hp0
      have hp23 : prk (mstI 2 (uI (uI (uI (uI I 11 2 (-1)) 12 2 (-1)) 13 2 0) 40 2 0)) 1 := (prk_p (congrFun (mst_11 (k := 2) (I := (uI (uI (uI (uI I 11 2 (-1)) 12 2 (-1)) 13 2 0) 40 2 0))) 1)).mpr hp1
      refine go_s (pc' := 54) (lo' := [some (.ref 62), some (.int 2), some (.int 3)]) rfl rfl rfl rfl ?_
      refine go_s (pc' := 7) rfl rfl rfl rfl ?_
      have hU24 : RU w B R [] true h17 am ln K ((mstI 2 (uI (uI (uI (uI I 11 2 (-1)) 12 2 (-1)) 13 2 0) 40 2 0)), Q, Z) := RU_I (sm_e_refl (tbr am (13 * ln) 77 5088) _) (I' := (mstI 2 (uI (uI (uI (uI I 11 2 (-1)) 12 2 (-1)) 13 2 0) 40 2 0))) (fun _ => rfl) (fun _ => rfl) (Nat.le_refl _) hU21
      have hA25 : RA w B R [] true h17 ((mstI 2 (uI (uI (uI (uI I 11 2 (-1)) 12 2 (-1)) 13 2 0) 40 2 0)), Q, Z) := RA_u.mpr ⟨_, _, _, _, hS19, hU24⟩
      have hms : rdA 2 2 (I, Q, Z) = ((mstI 2 (uI (uI (uI (uI I 11 2 (-1)) 12 2 (-1)) 13 2 0) 40 2 0)), Q, Z) := by
        unfold rdA
        rw [if_pos (show ((I, Q, Z) : mM).1 11 2 = nI 2 from e1), if_neg (fun z => z.1 hbk)]
      rw [hms] at C
      exact C _ (RA_R (by omega) hA25)
    · skip
      have e12 : I 12 2 = 3 := ((hM.2.2.1 2 (by decide)).2.2.2.2.1 hbk).2.2.2.trans (by
        show ohI I 2 = 3
        unfold ohI
        rw [e1]
        rfl)
      refine go_s (pc' := 8) rfl rfl rfl rfl ?_
      refine go_s (pc' := 9) (st' := [.int 3, .int 2]) rfl rfl rfl rfl ?_
      refine go_icmpP (t' := 55) (pc' := 10) rfl rfl rfl (fun (c : 3 ≤ (2 : Int32)) => absurd c (by decide)) (fun _ => ?_)
      refine go_s (pc' := 11) rfl rfl rfl rfl ?_
      refine go_sget (pc' := 12) (v := .ref 78) hS rfl rfl rfl (by decide) rfl rfl ?_
      refine go_s (pc' := 13) rfl rfl rfl rfl ?_
      refine go_sald (pc' := 14) (q := 2) (v := .int 2) hS rfl (tr_s hr (a := 78) rfl (by decide)) rfl rfl (by decide) (congrArg Value.int e1) rfl ?_
      refine go_s (pc' := 15) rfl rfl rfl rfl ?_
      refine go_icmpP (t' := 17) (pc' := 16) rfl rfl rfl (fun _ => ?_) (fun (c : ¬ ((2 : Int32) = 2)) => absurd (by decide) c)
      refine go_s (pc' := 18) rfl rfl rfl rfl ?_
      refine go_sget (pc' := 19) (v := .ref 79) hS rfl rfl rfl (by decide) rfl rfl ?_
      refine go_s (pc' := 20) rfl rfl rfl rfl ?_
      refine go_sald (pc' := 21) (q := 2) (v := .int 3) hS rfl (tr_s hr (a := 79) rfl (by decide)) rfl rfl (by decide) (congrArg Value.int e12) rfl ?_
      refine go_s (pc' := 22) (st' := [.int (-1), .int 3]) rfl rfl rfl rfl ?_
      refine go_icmpP (t' := 35) (pc' := 23) rfl rfl rfl (fun (c : (3 : Int32) = (-1)) => absurd c (by decide)) (fun _ => ?_)
      refine go_s (pc' := 24) rfl rfl rfl rfl ?_
      refine go_sget (pc' := 25) (v := .ref 63) hS rfl rfl rfl (by decide) rfl rfl ?_
      refine go_s (pc' := 26) rfl rfl rfl rfl ?_
      refine go_sget (pc' := 27) (v := .ref 79) hS rfl rfl rfl (by decide) rfl rfl ?_
      refine go_s (pc' := 28) rfl rfl rfl rfl ?_
      refine go_sald (pc' := 29) (q := 2) (v := .int 3) hS rfl (tr_s hr (a := 79) rfl (by decide)) rfl rfl (by decide) (congrArg Value.int e12) rfl ?_
      refine go_sald (pc' := 30) (q := 3) (v := .int (I 0 3)) hS rfl (tr_s hr (a := 63) rfl (by decide)) rfl rfl (by decide) rfl rfl ?_
      refine go_ifP (t' := 35) (pc' := 31) rfl rfl rfl (fun (c26 : (I 0 3) = 0) => ?_) (fun (c26 : ¬ (I 0 3) = 0) => ?_)
      · skip
        refine go_s (pc' := 36) rfl rfl rfl rfl ?_
        refine go_sget (pc' := 37) (v := .ref 78) hS rfl rfl rfl (by decide) rfl rfl ?_
        refine go_s (pc' := 38) rfl rfl rfl rfl ?_
        refine go_s (pc' := 39) (st' := [.int (-1), .int 2, .ref 78]) rfl rfl rfl rfl ?_
        refine go_siast (pc' := 40) (q := 2) hS rfl (tr_s hr (a := 78) rfl (by decide)) tbr_inj (Nat.le_of_ble_eq_true rfl) rfl (by decide) (by decide) (hW _ (by decide) (by decide)) rfl (fun h27 hS28 hE29 => ?_)
        refine go_s (pc' := 41) rfl rfl rfl rfl ?_
        refine go_sget (pc' := 42) (v := .ref 79) hS28 rfl rfl rfl (by decide) rfl rfl ?_
        refine go_s (pc' := 43) rfl rfl rfl rfl ?_
        refine go_s (pc' := 44) (st' := [.int (-1), .int 2, .ref 79]) rfl rfl rfl rfl ?_
        refine go_siast (pc' := 45) (q := 2) hS28 rfl (tr_s hr (a := 79) rfl (by decide)) tbr_inj (Nat.le_of_ble_eq_true rfl) rfl (by decide) (by decide) (hW _ (by decide) (by decide)) rfl (fun h30 hS31 hE32 => ?_)
        have hE33 := sm_e_trans hE29 hE32
        refine go_s (pc' := 46) rfl rfl rfl rfl ?_
        refine go_sget (pc' := 47) (v := .ref 80) hS31 rfl rfl rfl (by decide) rfl rfl ?_
        refine go_s (pc' := 48) rfl rfl rfl rfl ?_
        refine go_s (pc' := 49) (st' := [.int 0, .int 2, .ref 80]) rfl rfl rfl rfl ?_
        refine go_szast (pc' := 50) (q := 2) hS31 rfl (tr_s hr (a := 80) rfl (by decide)) tbr_inj (Nat.le_of_ble_eq_true rfl) rfl (by decide) (by decide) rfl (hW _ (by decide) (by decide)) rfl (fun h34 hS35 hE36 => ?_)
        have hE37 := sm_e_trans hE33 hE36
        change sm (tbr am (13 * ln) 77 5088) _ (uI (uI (uI (jn I K) 11 2 (-1)) 12 2 (-1)) 13 2 0) Y at hS35
        rw [jn_lo (c := 11) (by decide), jn_lo (c := 12) (by decide), jn_lo (c := 13) (by decide)] at hS35
        have hU38 : RU w B R [] true h34 am ln K ((uI (uI (uI I 11 2 (-1)) 12 2 (-1)) 13 2 0), Q, Z) := RU_I (hE37) (I' := (uI (uI (uI I 11 2 (-1)) 12 2 (-1)) 13 2 0)) (fun _ => rfl) (fun _ => rfl) (Nat.le_refl _) hU
        have hS39 : sm (tbr am (13 * ln) 77 5088) _ (jn (uI (uI (uI (uI I 11 2 (-1)) 12 2 (-1)) 13 2 0) 40 2 0) K) Y := sm_jg hr hS35 (fun c j _ n1 n2 n3 => uI_c n3)
        have hU40 : RU w B R [] true h34 am ln K ((uI (uI (uI (uI I 11 2 (-1)) 12 2 (-1)) 13 2 0) 40 2 0), Q, Z) := RU_I (sm_e_refl (tbr am (13 * ln) 77 5088) _) (fun _ => rfl) (fun _ => rfl) (Nat.le_refl _) hU38
        refine go_s (pc' := 51) rfl rfl rfl rfl ?_
        refine go_s (pc' := 52) rfl rfl rfl rfl ?_
        have hU41 : RU w B R [] true h34 am ln K ((uI (uI (uI (uI I 11 2 (-1)) 12 2 (-1)) 13 2 0) 40 2 0), Q, Z) := RU_I (sm_e_refl (tbr am (13 * ln) 77 5088) _) (I' := (uI (uI (uI (uI I 11 2 (-1)) 12 2 (-1)) 13 2 0) 40 2 0)) (fun _ => rfl) (fun _ => rfl) (Nat.le_refl _) hU40
        refine go_callV (pc' := 53) rfl rfl rfl (Nat.le_of_ble_eq_true rfl) rfl (sm_o hS39 rfl) rfl rfl rfl (rt_stops_2 hr hS39 hW (by omega)) (fun r h42 q43 => ?_)
        obtain ⟨rfl, hS44, hE45⟩ := q43
        change sm (tbr am (13 * ln) 77 5088) _ (mstI 2 (jn (uI (uI (uI (uI I 11 2 (-1)) 12 2 (-1)) 13 2 0) 40 2 0) K)) Y at hS44
        rw [mst_jn] at hS44
        have hU46 : RU w B R [] true h42 am ln K ((mstI 2 (uI (uI (uI (uI I 11 2 (-1)) 12 2 (-1)) 13 2 0) 40 2 0)), Q, Z) := RU_I hE45 mst_24 mst_25 mst_stn hU41
        have hp47 : prk (mstI 2 (uI (uI (uI (uI I 11 2 (-1)) 12 2 (-1)) 13 2 0) 40 2 0)) 0 := (prk_p (congrFun (mst_11 (k := 2) (I := (uI (uI (uI (uI I 11 2 (-1)) 12 2 (-1)) 13 2 0) 40 2 0))) 0)).mpr hp0
        have hp48 : prk (mstI 2 (uI (uI (uI (uI I 11 2 (-1)) 12 2 (-1)) 13 2 0) 40 2 0)) 1 := (prk_p (congrFun (mst_11 (k := 2) (I := (uI (uI (uI (uI I 11 2 (-1)) 12 2 (-1)) 13 2 0) 40 2 0))) 1)).mpr hp1
        refine go_s (pc' := 54) (lo' := [some (.ref 62), some (.int 2), some (.int 3)]) rfl rfl rfl rfl ?_
        refine go_s (pc' := 7) rfl rfl rfl rfl ?_
        have hU49 : RU w B R [] true h42 am ln K ((mstI 2 (uI (uI (uI (uI I 11 2 (-1)) 12 2 (-1)) 13 2 0) 40 2 0)), Q, Z) := RU_I (sm_e_refl (tbr am (13 * ln) 77 5088) _) (I' := (mstI 2 (uI (uI (uI (uI I 11 2 (-1)) 12 2 (-1)) 13 2 0) 40 2 0))) (fun _ => rfl) (fun _ => rfl) (Nat.le_refl _) hU46
        have hA50 : RA w B R [] true h42 ((mstI 2 (uI (uI (uI (uI I 11 2 (-1)) 12 2 (-1)) 13 2 0) 40 2 0)), Q, Z) := RA_u.mpr ⟨_, _, _, _, hS44, hU49⟩
        have hms : rdA 2 2 (I, Q, Z) = ((mstI 2 (uI (uI (uI (uI I 11 2 (-1)) 12 2 (-1)) 13 2 0) 40 2 0)), Q, Z) := by
          unfold rdA
          rw [if_pos (show ((I, Q, Z) : mM).1 11 2 = nI 2 from e1), if_neg (fun z => z.2 (by show I 0 (I 12 2).toNatClampNeg = 0; rw [e12]; exact c26))]
        rw [hms] at C
        exact C _ (RA_R (by omega) hA50)
      · skip
        refine go_s (pc' := 32) rfl rfl rfl rfl ?_
        refine go_s (pc' := 33) rfl rfl rfl rfl ?_
        have hu9 : ¬ I 0 (ohn I 2) = 0 := by
          rw [show ohn I 2 = 3 from ohn_l (v := 2) e1 (by decide)]
          exact c26
        have hU51 : RU w B R [] true h am ln K (I, Q, Z) := RU_I (sm_e_refl (tbr am (13 * ln) 77 5088) _) (I' := I) (fun _ => rfl) (fun _ => rfl) (Nat.le_refl _) hU
        have hA52 : RA w B R [] true h (I, Q, Z) := RA_u.mpr ⟨_, _, _, _, hS, hU51⟩
        refine go_callV (pc' := 34) rfl rfl rfl (Nat.le_of_ble_eq_true rfl) rfl (sm_o hS rfl) rfl rfl rfl (ra_to_2_2 hA52 (by omega) hM hX h0 e1 e12 hu9 (by omega)) (fun r h53 q54 => ?_)
        obtain ⟨rfl, hA55⟩ := q54
        refine go_s (pc' := 53) rfl rfl rfl rfl ?_
        refine go_s (pc' := 54) (lo' := [some (.ref 62), some (.int 2), some (.int 3)]) rfl rfl rfl rfl ?_
        refine go_s (pc' := 7) rfl rfl rfl rfl ?_
        have hms : rdA 2 2 (I, Q, Z) = rto 2 (I, Q, Z) := by
          unfold rdA
          rw [if_pos (show ((I, Q, Z) : mM).1 11 2 = nI 2 from e1), if_pos (show ¬ ((I, Q, Z) : mM).1 12 2 = -1 ∧ ¬ ((I, Q, Z) : mM).1 0 (((I, Q, Z) : mM).1 12 2).toNatClampNeg = 0 from ⟨hbk, by show ¬ I 0 (I 12 2).toNatClampNeg = 0; rw [e12]; exact c26⟩)]
        rw [hms] at C
        exact C _ hA55
  · skip
    refine go_s (pc' := 8) rfl rfl rfl rfl ?_
    refine go_s (pc' := 9) (st' := [.int 3, .int 2]) rfl rfl rfl rfl ?_
    refine go_icmpP (t' := 55) (pc' := 10) rfl rfl rfl (fun (c : 3 ≤ (2 : Int32)) => absurd c (by decide)) (fun _ => ?_)
    refine go_s (pc' := 11) rfl rfl rfl rfl ?_
    refine go_sget (pc' := 12) (v := .ref 78) hS rfl rfl rfl (by decide) rfl rfl ?_
    refine go_s (pc' := 13) rfl rfl rfl rfl ?_
    refine go_sald (pc' := 14) (q := 2) (v := .int 3) hS rfl (tr_s hr (a := 78) rfl (by decide)) rfl rfl (by decide) (congrArg Value.int e1) rfl ?_
    refine go_s (pc' := 15) rfl rfl rfl rfl ?_
    refine go_icmpP (t' := 17) (pc' := 16) rfl rfl rfl (fun (c : (3 : Int32) = 2) => absurd c (by decide)) (fun _ => ?_)
    refine go_s (pc' := 53) rfl rfl rfl rfl ?_
    refine go_s (pc' := 54) (lo' := [some (.ref 62), some (.int 2), some (.int 3)]) rfl rfl rfl rfl ?_
    refine go_s (pc' := 7) rfl rfl rfl rfl ?_
    have hms : rdA 2 2 (I, Q, Z) = (I, Q, Z) := if_neg (fun z => absurd (e1.symm.trans z) (by decide))
    rw [hms] at C
    exact C _ (RA_R (by omega) hA)
theorem stA_0_3 {w : Nat → Bool} {d B R : Nat} {h : am_Hp} {I : sm_I} {Q : mQ} {Z : mZ} {P : Option Value → am_Hp → Prop} (hA : RA w B R [] true h (I, Q, Z)) (hR : R + 8 < 40000) {X : Nat} (hM : MID X (I, Q, Z)) (hX : X + 60 < 2 ^ 28) (h0 : I 0 3 = 0) (hd : 10 ≤ d) (C : ∀ h', RA w B (R + 0) [] true h' (rdA 0 3 (I, Q, Z)) → am_Go (am_prog w) d am_c163 none 7 [some (.ref 62), some (.int 3), some (.int 1)] [] h' P) : am_Go (am_prog w) d am_c163 none 7 [some (.ref 62), some (.int 3), some (.int 0)] [] h P := by
  obtain ⟨K, Y, am, ln, hS, hU⟩ := RA_u.mp hA
  change sm (tbr am (13 * ln) 77 5088) h (jn I K) Y at hS
  obtain ⟨hW, hWm, -, -, hr, -⟩ := id hU.1
  have hln := RU_ln hU (by omega)
  have hp0 : prk I 0 := (hM.2.2.1 0 (by decide)).1
  have hp1 : prk I 1 := (hM.2.2.1 1 (by decide)).1
  have hp2 : prk I 2 := (hM.2.2.1 2 (by decide)).1
  rcases hp0 with e1 | e1 | e1
  · skip
    refine go_s (pc' := 8) rfl rfl rfl rfl ?_
    refine go_s (pc' := 9) (st' := [.int 3, .int 0]) rfl rfl rfl rfl ?_
    refine go_icmpP (t' := 55) (pc' := 10) rfl rfl rfl (fun (c : 3 ≤ (0 : Int32)) => absurd c (by decide)) (fun _ => ?_)
    refine go_s (pc' := 11) rfl rfl rfl rfl ?_
    refine go_sget (pc' := 12) (v := .ref 78) hS rfl rfl rfl (by decide) rfl rfl ?_
    refine go_s (pc' := 13) rfl rfl rfl rfl ?_
    refine go_sald (pc' := 14) (q := 0) (v := .int (-1)) hS rfl (tr_s hr (a := 78) rfl (by decide)) rfl rfl (by decide) (congrArg Value.int e1) rfl ?_
    refine go_s (pc' := 15) rfl rfl rfl rfl ?_
    refine go_icmpP (t' := 17) (pc' := 16) rfl rfl rfl (fun (c : ((-1) : Int32) = 3) => absurd c (by decide)) (fun _ => ?_)
    refine go_s (pc' := 53) rfl rfl rfl rfl ?_
    refine go_s (pc' := 54) (lo' := [some (.ref 62), some (.int 3), some (.int 1)]) rfl rfl rfl rfl ?_
    refine go_s (pc' := 7) rfl rfl rfl rfl ?_
    have hms : rdA 0 3 (I, Q, Z) = (I, Q, Z) := if_neg (fun z => absurd (e1.symm.trans z) (by decide))
    rw [hms] at C
    exact C _ (RA_R (by omega) hA)
  · skip
    refine go_s (pc' := 8) rfl rfl rfl rfl ?_
    refine go_s (pc' := 9) (st' := [.int 3, .int 0]) rfl rfl rfl rfl ?_
    refine go_icmpP (t' := 55) (pc' := 10) rfl rfl rfl (fun (c : 3 ≤ (0 : Int32)) => absurd c (by decide)) (fun _ => ?_)
    refine go_s (pc' := 11) rfl rfl rfl rfl ?_
    refine go_sget (pc' := 12) (v := .ref 78) hS rfl rfl rfl (by decide) rfl rfl ?_
    refine go_s (pc' := 13) rfl rfl rfl rfl ?_
    refine go_sald (pc' := 14) (q := 0) (v := .int 0) hS rfl (tr_s hr (a := 78) rfl (by decide)) rfl rfl (by decide) (congrArg Value.int e1) rfl ?_
    refine go_s (pc' := 15) rfl rfl rfl rfl ?_
    refine go_icmpP (t' := 17) (pc' := 16) rfl rfl rfl (fun (c : (0 : Int32) = 3) => absurd c (by decide)) (fun _ => ?_)
    refine go_s (pc' := 53) rfl rfl rfl rfl ?_
    refine go_s (pc' := 54) (lo' := [some (.ref 62), some (.int 3), some (.int 1)]) rfl rfl rfl rfl ?_
    refine go_s (pc' := 7) rfl rfl rfl rfl ?_
    have hms : rdA 0 3 (I, Q, Z) = (I, Q, Z) := if_neg (fun z => absurd (e1.symm.trans z) (by decide))
    rw [hms] at C
    exact C _ (RA_R (by omega) hA)
  · skip
    refine go_s (pc' := 8) rfl rfl rfl rfl ?_
    refine go_s (pc' := 9) (st' := [.int 3, .int 0]) rfl rfl rfl rfl ?_
    refine go_icmpP (t' := 55) (pc' := 10) rfl rfl rfl (fun (c : 3 ≤ (0 : Int32)) => absurd c (by decide)) (fun _ => ?_)
    refine go_s (pc' := 11) rfl rfl rfl rfl ?_
    refine go_sget (pc' := 12) (v := .ref 78) hS rfl rfl rfl (by decide) rfl rfl ?_
    refine go_s (pc' := 13) rfl rfl rfl rfl ?_
    refine go_sald (pc' := 14) (q := 0) (v := .int 1) hS rfl (tr_s hr (a := 78) rfl (by decide)) rfl rfl (by decide) (congrArg Value.int e1) rfl ?_
    refine go_s (pc' := 15) rfl rfl rfl rfl ?_
    refine go_icmpP (t' := 17) (pc' := 16) rfl rfl rfl (fun (c : (1 : Int32) = 3) => absurd c (by decide)) (fun _ => ?_)
    refine go_s (pc' := 53) rfl rfl rfl rfl ?_
    refine go_s (pc' := 54) (lo' := [some (.ref 62), some (.int 3), some (.int 1)]) rfl rfl rfl rfl ?_
    refine go_s (pc' := 7) rfl rfl rfl rfl ?_
    have hms : rdA 0 3 (I, Q, Z) = (I, Q, Z) := if_neg (fun z => absurd (e1.symm.trans z) (by decide))
    rw [hms] at C
    exact C _ (RA_R (by omega) hA)
theorem stA_1_3 {w : Nat → Bool} {d B R : Nat} {h : am_Hp} {I : sm_I} {Q : mQ} {Z : mZ} {P : Option Value → am_Hp → Prop} (hA : RA w B R [] true h (I, Q, Z)) (hR : R + 8 < 40000) {X : Nat} (hM : MID X (I, Q, Z)) (hX : X + 60 < 2 ^ 28) (h0 : I 0 3 = 0) (hd : 10 ≤ d) (C : ∀ h', RA w B (R + 1) [] true h' (rdA 1 3 (I, Q, Z)) → am_Go (am_prog w) d am_c163 none 7 [some (.ref 62), some (.int 3), some (.int 2)] [] h' P) : am_Go (am_prog w) d am_c163 none 7 [some (.ref 62), some (.int 3), some (.int 1)] [] h P := by
  obtain ⟨K, Y, am, ln, hS, hU⟩ := RA_u.mp hA
  change sm (tbr am (13 * ln) 77 5088) h (jn I K) Y at hS
  obtain ⟨hW, hWm, -, -, hr, -⟩ := id hU.1
  have hln := RU_ln hU (by omega)
  have hp0 : prk I 0 := (hM.2.2.1 0 (by decide)).1
  have hp1 : prk I 1 := (hM.2.2.1 1 (by decide)).1
  have hp2 : prk I 2 := (hM.2.2.1 2 (by decide)).1
  rcases hp1 with e1 | e1 | e1
  · skip
    refine go_s (pc' := 8) rfl rfl rfl rfl ?_
    refine go_s (pc' := 9) (st' := [.int 3, .int 1]) rfl rfl rfl rfl ?_
    refine go_icmpP (t' := 55) (pc' := 10) rfl rfl rfl (fun (c : 3 ≤ (1 : Int32)) => absurd c (by decide)) (fun _ => ?_)
    refine go_s (pc' := 11) rfl rfl rfl rfl ?_
    refine go_sget (pc' := 12) (v := .ref 78) hS rfl rfl rfl (by decide) rfl rfl ?_
    refine go_s (pc' := 13) rfl rfl rfl rfl ?_
    refine go_sald (pc' := 14) (q := 1) (v := .int (-1)) hS rfl (tr_s hr (a := 78) rfl (by decide)) rfl rfl (by decide) (congrArg Value.int e1) rfl ?_
    refine go_s (pc' := 15) rfl rfl rfl rfl ?_
    refine go_icmpP (t' := 17) (pc' := 16) rfl rfl rfl (fun (c : ((-1) : Int32) = 3) => absurd c (by decide)) (fun _ => ?_)
    refine go_s (pc' := 53) rfl rfl rfl rfl ?_
    refine go_s (pc' := 54) (lo' := [some (.ref 62), some (.int 3), some (.int 2)]) rfl rfl rfl rfl ?_
    refine go_s (pc' := 7) rfl rfl rfl rfl ?_
    have hms : rdA 1 3 (I, Q, Z) = (I, Q, Z) := if_neg (fun z => absurd (e1.symm.trans z) (by decide))
    rw [hms] at C
    exact C _ (RA_R (by omega) hA)
  · skip
    refine go_s (pc' := 8) rfl rfl rfl rfl ?_
    refine go_s (pc' := 9) (st' := [.int 3, .int 1]) rfl rfl rfl rfl ?_
    refine go_icmpP (t' := 55) (pc' := 10) rfl rfl rfl (fun (c : 3 ≤ (1 : Int32)) => absurd c (by decide)) (fun _ => ?_)
    refine go_s (pc' := 11) rfl rfl rfl rfl ?_
    refine go_sget (pc' := 12) (v := .ref 78) hS rfl rfl rfl (by decide) rfl rfl ?_
    refine go_s (pc' := 13) rfl rfl rfl rfl ?_
    refine go_sald (pc' := 14) (q := 1) (v := .int 2) hS rfl (tr_s hr (a := 78) rfl (by decide)) rfl rfl (by decide) (congrArg Value.int e1) rfl ?_
    refine go_s (pc' := 15) rfl rfl rfl rfl ?_
    refine go_icmpP (t' := 17) (pc' := 16) rfl rfl rfl (fun (c : (2 : Int32) = 3) => absurd c (by decide)) (fun _ => ?_)
    refine go_s (pc' := 53) rfl rfl rfl rfl ?_
    refine go_s (pc' := 54) (lo' := [some (.ref 62), some (.int 3), some (.int 2)]) rfl rfl rfl rfl ?_
    refine go_s (pc' := 7) rfl rfl rfl rfl ?_
    have hms : rdA 1 3 (I, Q, Z) = (I, Q, Z) := if_neg (fun z => absurd (e1.symm.trans z) (by decide))
    rw [hms] at C
    exact C _ (RA_R (by omega) hA)
  · skip
    by_cases hbk : I 12 1 = -1
    · skip
      refine go_s (pc' := 8) rfl rfl rfl rfl ?_
      refine go_s (pc' := 9) (st' := [.int 3, .int 1]) rfl rfl rfl rfl ?_
      refine go_icmpP (t' := 55) (pc' := 10) rfl rfl rfl (fun (c : 3 ≤ (1 : Int32)) => absurd c (by decide)) (fun _ => ?_)
      refine go_s (pc' := 11) rfl rfl rfl rfl ?_
      refine go_sget (pc' := 12) (v := .ref 78) hS rfl rfl rfl (by decide) rfl rfl ?_
      refine go_s (pc' := 13) rfl rfl rfl rfl ?_
      refine go_sald (pc' := 14) (q := 1) (v := .int 3) hS rfl (tr_s hr (a := 78) rfl (by decide)) rfl rfl (by decide) (congrArg Value.int e1) rfl ?_
      refine go_s (pc' := 15) rfl rfl rfl rfl ?_
      refine go_icmpP (t' := 17) (pc' := 16) rfl rfl rfl (fun _ => ?_) (fun (c : ¬ ((3 : Int32) = 3)) => absurd (by decide) c)
      refine go_s (pc' := 18) rfl rfl rfl rfl ?_
      refine go_sget (pc' := 19) (v := .ref 79) hS rfl rfl rfl (by decide) rfl rfl ?_
      refine go_s (pc' := 20) rfl rfl rfl rfl ?_
      refine go_sald (pc' := 21) (q := 1) (v := .int (-1)) hS rfl (tr_s hr (a := 79) rfl (by decide)) rfl rfl (by decide) (congrArg Value.int hbk) rfl ?_
      refine go_s (pc' := 22) (st' := [.int (-1), .int (-1)]) rfl rfl rfl rfl ?_
      refine go_icmpP (t' := 35) (pc' := 23) rfl rfl rfl (fun _ => ?_) (fun (c : ¬ (((-1) : Int32) = (-1))) => absurd (by decide) c)
      refine go_s (pc' := 36) rfl rfl rfl rfl ?_
      refine go_sget (pc' := 37) (v := .ref 78) hS rfl rfl rfl (by decide) rfl rfl ?_
      refine go_s (pc' := 38) rfl rfl rfl rfl ?_
      refine go_s (pc' := 39) (st' := [.int (-1), .int 1, .ref 78]) rfl rfl rfl rfl ?_
      refine go_siast (pc' := 40) (q := 1) hS rfl (tr_s hr (a := 78) rfl (by decide)) tbr_inj (Nat.le_of_ble_eq_true rfl) rfl (by decide) (by decide) (hW _ (by decide) (by decide)) rfl (fun h2 hS3 hE4 => ?_)
      refine go_s (pc' := 41) rfl rfl rfl rfl ?_
      refine go_sget (pc' := 42) (v := .ref 79) hS3 rfl rfl rfl (by decide) rfl rfl ?_
      refine go_s (pc' := 43) rfl rfl rfl rfl ?_
      refine go_s (pc' := 44) (st' := [.int (-1), .int 1, .ref 79]) rfl rfl rfl rfl ?_
      refine go_siast (pc' := 45) (q := 1) hS3 rfl (tr_s hr (a := 79) rfl (by decide)) tbr_inj (Nat.le_of_ble_eq_true rfl) rfl (by decide) (by decide) (hW _ (by decide) (by decide)) rfl (fun h5 hS6 hE7 => ?_)
      have hE8 := sm_e_trans hE4 hE7
      refine go_s (pc' := 46) rfl rfl rfl rfl ?_
      refine go_sget (pc' := 47) (v := .ref 80) hS6 rfl rfl rfl (by decide) rfl rfl ?_
      refine go_s (pc' := 48) rfl rfl rfl rfl ?_
      refine go_s (pc' := 49) (st' := [.int 0, .int 1, .ref 80]) rfl rfl rfl rfl ?_
      refine go_szast (pc' := 50) (q := 1) hS6 rfl (tr_s hr (a := 80) rfl (by decide)) tbr_inj (Nat.le_of_ble_eq_true rfl) rfl (by decide) (by decide) rfl (hW _ (by decide) (by decide)) rfl (fun h9 hS10 hE11 => ?_)
      have hE12 := sm_e_trans hE8 hE11
      change sm (tbr am (13 * ln) 77 5088) _ (uI (uI (uI (jn I K) 11 1 (-1)) 12 1 (-1)) 13 1 0) Y at hS10
      rw [jn_lo (c := 11) (by decide), jn_lo (c := 12) (by decide), jn_lo (c := 13) (by decide)] at hS10
      have hU13 : RU w B R [] true h9 am ln K ((uI (uI (uI I 11 1 (-1)) 12 1 (-1)) 13 1 0), Q, Z) := RU_I (hE12) (I' := (uI (uI (uI I 11 1 (-1)) 12 1 (-1)) 13 1 0)) (fun _ => rfl) (fun _ => rfl) (Nat.le_refl _) hU
      have hS14 : sm (tbr am (13 * ln) 77 5088) _ (jn (uI (uI (uI (uI I 11 1 (-1)) 12 1 (-1)) 13 1 0) 40 1 0) K) Y := sm_jg hr hS10 (fun c j _ n1 n2 n3 => uI_c n3)
      have hU15 : RU w B R [] true h9 am ln K ((uI (uI (uI (uI I 11 1 (-1)) 12 1 (-1)) 13 1 0) 40 1 0), Q, Z) := RU_I (sm_e_refl (tbr am (13 * ln) 77 5088) _) (fun _ => rfl) (fun _ => rfl) (Nat.le_refl _) hU13
      refine go_s (pc' := 51) rfl rfl rfl rfl ?_
      refine go_s (pc' := 52) rfl rfl rfl rfl ?_
      have hU16 : RU w B R [] true h9 am ln K ((uI (uI (uI (uI I 11 1 (-1)) 12 1 (-1)) 13 1 0) 40 1 0), Q, Z) := RU_I (sm_e_refl (tbr am (13 * ln) 77 5088) _) (I' := (uI (uI (uI (uI I 11 1 (-1)) 12 1 (-1)) 13 1 0) 40 1 0)) (fun _ => rfl) (fun _ => rfl) (Nat.le_refl _) hU15
      refine go_callV (pc' := 53) rfl rfl rfl (Nat.le_of_ble_eq_true rfl) rfl (sm_o hS14 rfl) rfl rfl rfl (rt_stops_1 hr hS14 hW (by omega)) (fun r h17 q18 => ?_)
      obtain ⟨rfl, hS19, hE20⟩ := q18
      change sm (tbr am (13 * ln) 77 5088) _ (mstI 1 (jn (uI (uI (uI (uI I 11 1 (-1)) 12 1 (-1)) 13 1 0) 40 1 0) K)) Y at hS19
      rw [mst_jn] at hS19
      have hU21 : RU w B R [] true h17 am ln K ((mstI 1 (uI (uI (uI (uI I 11 1 (-1)) 12 1 (-1)) 13 1 0) 40 1 0)), Q, Z) := RU_I hE20 mst_24 mst_25 mst_stn hU16
      have hp22 : prk (mstI 1 (uI (uI (uI (uI I 11 1 (-1)) 12 1 (-1)) 13 1 0) 40 1 0)) 0 := (prk_p (congrFun (mst_11 (k := 1) (I := (uI (uI (uI (uI I 11 1 (-1)) 12 1 (-1)) 13 1 0) 40 1 0))) 0)).mpr hp0
      have hp23 : prk (mstI 1 (uI (uI (uI (uI I 11 1 (-1)) 12 1 (-1)) 13 1 0) 40 1 0)) 2 := (prk_p (congrFun (mst_11 (k := 1) (I := (uI (uI (uI (uI I 11 1 (-1)) 12 1 (-1)) 13 1 0) 40 1 0))) 2)).mpr hp2
      refine go_s (pc' := 54) (lo' := [some (.ref 62), some (.int 3), some (.int 2)]) rfl rfl rfl rfl ?_
      refine go_s (pc' := 7) rfl rfl rfl rfl ?_
      have hU24 : RU w B R [] true h17 am ln K ((mstI 1 (uI (uI (uI (uI I 11 1 (-1)) 12 1 (-1)) 13 1 0) 40 1 0)), Q, Z) := RU_I (sm_e_refl (tbr am (13 * ln) 77 5088) _) (I' := (mstI 1 (uI (uI (uI (uI I 11 1 (-1)) 12 1 (-1)) 13 1 0) 40 1 0))) (fun _ => rfl) (fun _ => rfl) (Nat.le_refl _) hU21
      have hA25 : RA w B R [] true h17 ((mstI 1 (uI (uI (uI (uI I 11 1 (-1)) 12 1 (-1)) 13 1 0) 40 1 0)), Q, Z) := RA_u.mpr ⟨_, _, _, _, hS19, hU24⟩
      have hms : rdA 1 3 (I, Q, Z) = ((mstI 1 (uI (uI (uI (uI I 11 1 (-1)) 12 1 (-1)) 13 1 0) 40 1 0)), Q, Z) := by
        unfold rdA
        rw [if_pos (show ((I, Q, Z) : mM).1 11 1 = nI 3 from e1), if_neg (fun z => z.1 hbk)]
      rw [hms] at C
      exact C _ (RA_R (by omega) hA25)
    · skip
      have e12 : I 12 1 = 2 := ((hM.2.2.1 1 (by decide)).2.2.2.2.1 hbk).2.2.2.trans (by
        show ohI I 1 = 2
        unfold ohI
        rw [e1]
        rfl)
      refine go_s (pc' := 8) rfl rfl rfl rfl ?_
      refine go_s (pc' := 9) (st' := [.int 3, .int 1]) rfl rfl rfl rfl ?_
      refine go_icmpP (t' := 55) (pc' := 10) rfl rfl rfl (fun (c : 3 ≤ (1 : Int32)) => absurd c (by decide)) (fun _ => ?_)
      refine go_s (pc' := 11) rfl rfl rfl rfl ?_
      refine go_sget (pc' := 12) (v := .ref 78) hS rfl rfl rfl (by decide) rfl rfl ?_
      refine go_s (pc' := 13) rfl rfl rfl rfl ?_
      refine go_sald (pc' := 14) (q := 1) (v := .int 3) hS rfl (tr_s hr (a := 78) rfl (by decide)) rfl rfl (by decide) (congrArg Value.int e1) rfl ?_
      refine go_s (pc' := 15) rfl rfl rfl rfl ?_
      refine go_icmpP (t' := 17) (pc' := 16) rfl rfl rfl (fun _ => ?_) (fun (c : ¬ ((3 : Int32) = 3)) => absurd (by decide) c)
      refine go_s (pc' := 18) rfl rfl rfl rfl ?_
      refine go_sget (pc' := 19) (v := .ref 79) hS rfl rfl rfl (by decide) rfl rfl ?_
      refine go_s (pc' := 20) rfl rfl rfl rfl ?_
      refine go_sald (pc' := 21) (q := 1) (v := .int 2) hS rfl (tr_s hr (a := 79) rfl (by decide)) rfl rfl (by decide) (congrArg Value.int e12) rfl ?_
      refine go_s (pc' := 22) (st' := [.int (-1), .int 2]) rfl rfl rfl rfl ?_
      refine go_icmpP (t' := 35) (pc' := 23) rfl rfl rfl (fun (c : (2 : Int32) = (-1)) => absurd c (by decide)) (fun _ => ?_)
      refine go_s (pc' := 24) rfl rfl rfl rfl ?_
      refine go_sget (pc' := 25) (v := .ref 63) hS rfl rfl rfl (by decide) rfl rfl ?_
      refine go_s (pc' := 26) rfl rfl rfl rfl ?_
      refine go_sget (pc' := 27) (v := .ref 79) hS rfl rfl rfl (by decide) rfl rfl ?_
      refine go_s (pc' := 28) rfl rfl rfl rfl ?_
      refine go_sald (pc' := 29) (q := 1) (v := .int 2) hS rfl (tr_s hr (a := 79) rfl (by decide)) rfl rfl (by decide) (congrArg Value.int e12) rfl ?_
      refine go_sald (pc' := 30) (q := 2) (v := .int (I 0 2)) hS rfl (tr_s hr (a := 63) rfl (by decide)) rfl rfl (by decide) rfl rfl ?_
      refine go_ifP (t' := 35) (pc' := 31) rfl rfl rfl (fun (c26 : (I 0 2) = 0) => ?_) (fun (c26 : ¬ (I 0 2) = 0) => ?_)
      · skip
        refine go_s (pc' := 36) rfl rfl rfl rfl ?_
        refine go_sget (pc' := 37) (v := .ref 78) hS rfl rfl rfl (by decide) rfl rfl ?_
        refine go_s (pc' := 38) rfl rfl rfl rfl ?_
        refine go_s (pc' := 39) (st' := [.int (-1), .int 1, .ref 78]) rfl rfl rfl rfl ?_
        refine go_siast (pc' := 40) (q := 1) hS rfl (tr_s hr (a := 78) rfl (by decide)) tbr_inj (Nat.le_of_ble_eq_true rfl) rfl (by decide) (by decide) (hW _ (by decide) (by decide)) rfl (fun h27 hS28 hE29 => ?_)
        refine go_s (pc' := 41) rfl rfl rfl rfl ?_
        refine go_sget (pc' := 42) (v := .ref 79) hS28 rfl rfl rfl (by decide) rfl rfl ?_
        refine go_s (pc' := 43) rfl rfl rfl rfl ?_
        refine go_s (pc' := 44) (st' := [.int (-1), .int 1, .ref 79]) rfl rfl rfl rfl ?_
        refine go_siast (pc' := 45) (q := 1) hS28 rfl (tr_s hr (a := 79) rfl (by decide)) tbr_inj (Nat.le_of_ble_eq_true rfl) rfl (by decide) (by decide) (hW _ (by decide) (by decide)) rfl (fun h30 hS31 hE32 => ?_)
        have hE33 := sm_e_trans hE29 hE32
        refine go_s (pc' := 46) rfl rfl rfl rfl ?_
        refine go_sget (pc' := 47) (v := .ref 80) hS31 rfl rfl rfl (by decide) rfl rfl ?_
        refine go_s (pc' := 48) rfl rfl rfl rfl ?_
        refine go_s (pc' := 49) (st' := [.int 0, .int 1, .ref 80]) rfl rfl rfl rfl ?_
        refine go_szast (pc' := 50) (q := 1) hS31 rfl (tr_s hr (a := 80) rfl (by decide)) tbr_inj (Nat.le_of_ble_eq_true rfl) rfl (by decide) (by decide) rfl (hW _ (by decide) (by decide)) rfl (fun h34 hS35 hE36 => ?_)
        have hE37 := sm_e_trans hE33 hE36
        change sm (tbr am (13 * ln) 77 5088) _ (uI (uI (uI (jn I K) 11 1 (-1)) 12 1 (-1)) 13 1 0) Y at hS35
        rw [jn_lo (c := 11) (by decide), jn_lo (c := 12) (by decide), jn_lo (c := 13) (by decide)] at hS35
        have hU38 : RU w B R [] true h34 am ln K ((uI (uI (uI I 11 1 (-1)) 12 1 (-1)) 13 1 0), Q, Z) := RU_I (hE37) (I' := (uI (uI (uI I 11 1 (-1)) 12 1 (-1)) 13 1 0)) (fun _ => rfl) (fun _ => rfl) (Nat.le_refl _) hU
        have hS39 : sm (tbr am (13 * ln) 77 5088) _ (jn (uI (uI (uI (uI I 11 1 (-1)) 12 1 (-1)) 13 1 0) 40 1 0) K) Y := sm_jg hr hS35 (fun c j _ n1 n2 n3 => uI_c n3)
        have hU40 : RU w B R [] true h34 am ln K ((uI (uI (uI (uI I 11 1 (-1)) 12 1 (-1)) 13 1 0) 40 1 0), Q, Z) := RU_I (sm_e_refl (tbr am (13 * ln) 77 5088) _) (fun _ => rfl) (fun _ => rfl) (Nat.le_refl _) hU38
        refine go_s (pc' := 51) rfl rfl rfl rfl ?_
        refine go_s (pc' := 52) rfl rfl rfl rfl ?_
        have hU41 : RU w B R [] true h34 am ln K ((uI (uI (uI (uI I 11 1 (-1)) 12 1 (-1)) 13 1 0) 40 1 0), Q, Z) := RU_I (sm_e_refl (tbr am (13 * ln) 77 5088) _) (I' := (uI (uI (uI (uI I 11 1 (-1)) 12 1 (-1)) 13 1 0) 40 1 0)) (fun _ => rfl) (fun _ => rfl) (Nat.le_refl _) hU40
        refine go_callV (pc' := 53) rfl rfl rfl (Nat.le_of_ble_eq_true rfl) rfl (sm_o hS39 rfl) rfl rfl rfl (rt_stops_1 hr hS39 hW (by omega)) (fun r h42 q43 => ?_)
        obtain ⟨rfl, hS44, hE45⟩ := q43
        change sm (tbr am (13 * ln) 77 5088) _ (mstI 1 (jn (uI (uI (uI (uI I 11 1 (-1)) 12 1 (-1)) 13 1 0) 40 1 0) K)) Y at hS44
        rw [mst_jn] at hS44
        have hU46 : RU w B R [] true h42 am ln K ((mstI 1 (uI (uI (uI (uI I 11 1 (-1)) 12 1 (-1)) 13 1 0) 40 1 0)), Q, Z) := RU_I hE45 mst_24 mst_25 mst_stn hU41
        have hp47 : prk (mstI 1 (uI (uI (uI (uI I 11 1 (-1)) 12 1 (-1)) 13 1 0) 40 1 0)) 0 := (prk_p (congrFun (mst_11 (k := 1) (I := (uI (uI (uI (uI I 11 1 (-1)) 12 1 (-1)) 13 1 0) 40 1 0))) 0)).mpr hp0
        have hp48 : prk (mstI 1 (uI (uI (uI (uI I 11 1 (-1)) 12 1 (-1)) 13 1 0) 40 1 0)) 2 := (prk_p (congrFun (mst_11 (k := 1) (I := (uI (uI (uI (uI I 11 1 (-1)) 12 1 (-1)) 13 1 0) 40 1 0))) 2)).mpr hp2
        refine go_s (pc' := 54) (lo' := [some (.ref 62), some (.int 3), some (.int 2)]) rfl rfl rfl rfl ?_
        refine go_s (pc' := 7) rfl rfl rfl rfl ?_
        have hU49 : RU w B R [] true h42 am ln K ((mstI 1 (uI (uI (uI (uI I 11 1 (-1)) 12 1 (-1)) 13 1 0) 40 1 0)), Q, Z) := RU_I (sm_e_refl (tbr am (13 * ln) 77 5088) _) (I' := (mstI 1 (uI (uI (uI (uI I 11 1 (-1)) 12 1 (-1)) 13 1 0) 40 1 0))) (fun _ => rfl) (fun _ => rfl) (Nat.le_refl _) hU46
        have hA50 : RA w B R [] true h42 ((mstI 1 (uI (uI (uI (uI I 11 1 (-1)) 12 1 (-1)) 13 1 0) 40 1 0)), Q, Z) := RA_u.mpr ⟨_, _, _, _, hS44, hU49⟩
        have hms : rdA 1 3 (I, Q, Z) = ((mstI 1 (uI (uI (uI (uI I 11 1 (-1)) 12 1 (-1)) 13 1 0) 40 1 0)), Q, Z) := by
          unfold rdA
          rw [if_pos (show ((I, Q, Z) : mM).1 11 1 = nI 3 from e1), if_neg (fun z => z.2 (by show I 0 (I 12 1).toNatClampNeg = 0; rw [e12]; exact c26))]
        rw [hms] at C
        exact C _ (RA_R (by omega) hA50)
      · skip
        refine go_s (pc' := 32) rfl rfl rfl rfl ?_
        refine go_s (pc' := 33) rfl rfl rfl rfl ?_
        have hu9 : ¬ I 0 (ohn I 1) = 0 := by
          rw [show ohn I 1 = 2 from ohn_l (v := 3) e1 (by decide)]
          exact c26
        have hU51 : RU w B R [] true h am ln K (I, Q, Z) := RU_I (sm_e_refl (tbr am (13 * ln) 77 5088) _) (I' := I) (fun _ => rfl) (fun _ => rfl) (Nat.le_refl _) hU
        have hA52 : RA w B R [] true h (I, Q, Z) := RA_u.mpr ⟨_, _, _, _, hS, hU51⟩
        refine go_callV (pc' := 34) rfl rfl rfl (Nat.le_of_ble_eq_true rfl) rfl (sm_o hS rfl) rfl rfl rfl (ra_to_1_3 hA52 (by omega) hM hX h0 e1 e12 hu9 (by omega)) (fun r h53 q54 => ?_)
        obtain ⟨rfl, hA55⟩ := q54
        refine go_s (pc' := 53) rfl rfl rfl rfl ?_
        refine go_s (pc' := 54) (lo' := [some (.ref 62), some (.int 3), some (.int 2)]) rfl rfl rfl rfl ?_
        refine go_s (pc' := 7) rfl rfl rfl rfl ?_
        have hms : rdA 1 3 (I, Q, Z) = rto 1 (I, Q, Z) := by
          unfold rdA
          rw [if_pos (show ((I, Q, Z) : mM).1 11 1 = nI 3 from e1), if_pos (show ¬ ((I, Q, Z) : mM).1 12 1 = -1 ∧ ¬ ((I, Q, Z) : mM).1 0 (((I, Q, Z) : mM).1 12 1).toNatClampNeg = 0 from ⟨hbk, by show ¬ I 0 (I 12 1).toNatClampNeg = 0; rw [e12]; exact c26⟩)]
        rw [hms] at C
        exact C _ hA55
theorem stA_2_3 {w : Nat → Bool} {d B R : Nat} {h : am_Hp} {I : sm_I} {Q : mQ} {Z : mZ} {P : Option Value → am_Hp → Prop} (hA : RA w B R [] true h (I, Q, Z)) (hR : R + 8 < 40000) {X : Nat} (hM : MID X (I, Q, Z)) (hX : X + 60 < 2 ^ 28) (h0 : I 0 3 = 0) (hd : 10 ≤ d) (C : ∀ h', RA w B (R + 1) [] true h' (rdA 2 3 (I, Q, Z)) → am_Go (am_prog w) d am_c163 none 7 [some (.ref 62), some (.int 3), some (.int 3)] [] h' P) : am_Go (am_prog w) d am_c163 none 7 [some (.ref 62), some (.int 3), some (.int 2)] [] h P := by
  obtain ⟨K, Y, am, ln, hS, hU⟩ := RA_u.mp hA
  change sm (tbr am (13 * ln) 77 5088) h (jn I K) Y at hS
  obtain ⟨hW, hWm, -, -, hr, -⟩ := id hU.1
  have hln := RU_ln hU (by omega)
  have hp0 : prk I 0 := (hM.2.2.1 0 (by decide)).1
  have hp1 : prk I 1 := (hM.2.2.1 1 (by decide)).1
  have hp2 : prk I 2 := (hM.2.2.1 2 (by decide)).1
  rcases hp2 with e1 | e1 | e1
  · skip
    refine go_s (pc' := 8) rfl rfl rfl rfl ?_
    refine go_s (pc' := 9) (st' := [.int 3, .int 2]) rfl rfl rfl rfl ?_
    refine go_icmpP (t' := 55) (pc' := 10) rfl rfl rfl (fun (c : 3 ≤ (2 : Int32)) => absurd c (by decide)) (fun _ => ?_)
    refine go_s (pc' := 11) rfl rfl rfl rfl ?_
    refine go_sget (pc' := 12) (v := .ref 78) hS rfl rfl rfl (by decide) rfl rfl ?_
    refine go_s (pc' := 13) rfl rfl rfl rfl ?_
    refine go_sald (pc' := 14) (q := 2) (v := .int (-1)) hS rfl (tr_s hr (a := 78) rfl (by decide)) rfl rfl (by decide) (congrArg Value.int e1) rfl ?_
    refine go_s (pc' := 15) rfl rfl rfl rfl ?_
    refine go_icmpP (t' := 17) (pc' := 16) rfl rfl rfl (fun (c : ((-1) : Int32) = 3) => absurd c (by decide)) (fun _ => ?_)
    refine go_s (pc' := 53) rfl rfl rfl rfl ?_
    refine go_s (pc' := 54) (lo' := [some (.ref 62), some (.int 3), some (.int 3)]) rfl rfl rfl rfl ?_
    refine go_s (pc' := 7) rfl rfl rfl rfl ?_
    have hms : rdA 2 3 (I, Q, Z) = (I, Q, Z) := if_neg (fun z => absurd (e1.symm.trans z) (by decide))
    rw [hms] at C
    exact C _ (RA_R (by omega) hA)
  · skip
    refine go_s (pc' := 8) rfl rfl rfl rfl ?_
    refine go_s (pc' := 9) (st' := [.int 3, .int 2]) rfl rfl rfl rfl ?_
    refine go_icmpP (t' := 55) (pc' := 10) rfl rfl rfl (fun (c : 3 ≤ (2 : Int32)) => absurd c (by decide)) (fun _ => ?_)
    refine go_s (pc' := 11) rfl rfl rfl rfl ?_
    refine go_sget (pc' := 12) (v := .ref 78) hS rfl rfl rfl (by decide) rfl rfl ?_
    refine go_s (pc' := 13) rfl rfl rfl rfl ?_
    refine go_sald (pc' := 14) (q := 2) (v := .int 2) hS rfl (tr_s hr (a := 78) rfl (by decide)) rfl rfl (by decide) (congrArg Value.int e1) rfl ?_
    refine go_s (pc' := 15) rfl rfl rfl rfl ?_
    refine go_icmpP (t' := 17) (pc' := 16) rfl rfl rfl (fun (c : (2 : Int32) = 3) => absurd c (by decide)) (fun _ => ?_)
    refine go_s (pc' := 53) rfl rfl rfl rfl ?_
    refine go_s (pc' := 54) (lo' := [some (.ref 62), some (.int 3), some (.int 3)]) rfl rfl rfl rfl ?_
    refine go_s (pc' := 7) rfl rfl rfl rfl ?_
    have hms : rdA 2 3 (I, Q, Z) = (I, Q, Z) := if_neg (fun z => absurd (e1.symm.trans z) (by decide))
    rw [hms] at C
    exact C _ (RA_R (by omega) hA)
  · skip
    by_cases hbk : I 12 2 = -1
    · skip
      refine go_s (pc' := 8) rfl rfl rfl rfl ?_
      refine go_s (pc' := 9) (st' := [.int 3, .int 2]) rfl rfl rfl rfl ?_
      refine go_icmpP (t' := 55) (pc' := 10) rfl rfl rfl (fun (c : 3 ≤ (2 : Int32)) => absurd c (by decide)) (fun _ => ?_)
      refine go_s (pc' := 11) rfl rfl rfl rfl ?_
      refine go_sget (pc' := 12) (v := .ref 78) hS rfl rfl rfl (by decide) rfl rfl ?_
      refine go_s (pc' := 13) rfl rfl rfl rfl ?_
      refine go_sald (pc' := 14) (q := 2) (v := .int 3) hS rfl (tr_s hr (a := 78) rfl (by decide)) rfl rfl (by decide) (congrArg Value.int e1) rfl ?_
      refine go_s (pc' := 15) rfl rfl rfl rfl ?_
      refine go_icmpP (t' := 17) (pc' := 16) rfl rfl rfl (fun _ => ?_) (fun (c : ¬ ((3 : Int32) = 3)) => absurd (by decide) c)
      refine go_s (pc' := 18) rfl rfl rfl rfl ?_
      refine go_sget (pc' := 19) (v := .ref 79) hS rfl rfl rfl (by decide) rfl rfl ?_
      refine go_s (pc' := 20) rfl rfl rfl rfl ?_
      refine go_sald (pc' := 21) (q := 2) (v := .int (-1)) hS rfl (tr_s hr (a := 79) rfl (by decide)) rfl rfl (by decide) (congrArg Value.int hbk) rfl ?_
      refine go_s (pc' := 22) (st' := [.int (-1), .int (-1)]) rfl rfl rfl rfl ?_
      refine go_icmpP (t' := 35) (pc' := 23) rfl rfl rfl (fun _ => ?_) (fun (c : ¬ (((-1) : Int32) = (-1))) => absurd (by decide) c)
      refine go_s (pc' := 36) rfl rfl rfl rfl ?_
      refine go_sget (pc' := 37) (v := .ref 78) hS rfl rfl rfl (by decide) rfl rfl ?_
      refine go_s (pc' := 38) rfl rfl rfl rfl ?_
      refine go_s (pc' := 39) (st' := [.int (-1), .int 2, .ref 78]) rfl rfl rfl rfl ?_
      refine go_siast (pc' := 40) (q := 2) hS rfl (tr_s hr (a := 78) rfl (by decide)) tbr_inj (Nat.le_of_ble_eq_true rfl) rfl (by decide) (by decide) (hW _ (by decide) (by decide)) rfl (fun h2 hS3 hE4 => ?_)
      refine go_s (pc' := 41) rfl rfl rfl rfl ?_
      refine go_sget (pc' := 42) (v := .ref 79) hS3 rfl rfl rfl (by decide) rfl rfl ?_
      refine go_s (pc' := 43) rfl rfl rfl rfl ?_
      refine go_s (pc' := 44) (st' := [.int (-1), .int 2, .ref 79]) rfl rfl rfl rfl ?_
      refine go_siast (pc' := 45) (q := 2) hS3 rfl (tr_s hr (a := 79) rfl (by decide)) tbr_inj (Nat.le_of_ble_eq_true rfl) rfl (by decide) (by decide) (hW _ (by decide) (by decide)) rfl (fun h5 hS6 hE7 => ?_)
      have hE8 := sm_e_trans hE4 hE7
      refine go_s (pc' := 46) rfl rfl rfl rfl ?_
      refine go_sget (pc' := 47) (v := .ref 80) hS6 rfl rfl rfl (by decide) rfl rfl ?_
      refine go_s (pc' := 48) rfl rfl rfl rfl ?_
      refine go_s (pc' := 49) (st' := [.int 0, .int 2, .ref 80]) rfl rfl rfl rfl ?_
      refine go_szast (pc' := 50) (q := 2) hS6 rfl (tr_s hr (a := 80) rfl (by decide)) tbr_inj (Nat.le_of_ble_eq_true rfl) rfl (by decide) (by decide) rfl (hW _ (by decide) (by decide)) rfl (fun h9 hS10 hE11 => ?_)
      have hE12 := sm_e_trans hE8 hE11
      change sm (tbr am (13 * ln) 77 5088) _ (uI (uI (uI (jn I K) 11 2 (-1)) 12 2 (-1)) 13 2 0) Y at hS10
      rw [jn_lo (c := 11) (by decide), jn_lo (c := 12) (by decide), jn_lo (c := 13) (by decide)] at hS10
      have hU13 : RU w B R [] true h9 am ln K ((uI (uI (uI I 11 2 (-1)) 12 2 (-1)) 13 2 0), Q, Z) := RU_I (hE12) (I' := (uI (uI (uI I 11 2 (-1)) 12 2 (-1)) 13 2 0)) (fun _ => rfl) (fun _ => rfl) (Nat.le_refl _) hU
      have hS14 : sm (tbr am (13 * ln) 77 5088) _ (jn (uI (uI (uI (uI I 11 2 (-1)) 12 2 (-1)) 13 2 0) 40 2 0) K) Y := sm_jg hr hS10 (fun c j _ n1 n2 n3 => uI_c n3)
      have hU15 : RU w B R [] true h9 am ln K ((uI (uI (uI (uI I 11 2 (-1)) 12 2 (-1)) 13 2 0) 40 2 0), Q, Z) := RU_I (sm_e_refl (tbr am (13 * ln) 77 5088) _) (fun _ => rfl) (fun _ => rfl) (Nat.le_refl _) hU13
      refine go_s (pc' := 51) rfl rfl rfl rfl ?_
      refine go_s (pc' := 52) rfl rfl rfl rfl ?_
      have hU16 : RU w B R [] true h9 am ln K ((uI (uI (uI (uI I 11 2 (-1)) 12 2 (-1)) 13 2 0) 40 2 0), Q, Z) := RU_I (sm_e_refl (tbr am (13 * ln) 77 5088) _) (I' := (uI (uI (uI (uI I 11 2 (-1)) 12 2 (-1)) 13 2 0) 40 2 0)) (fun _ => rfl) (fun _ => rfl) (Nat.le_refl _) hU15
      refine go_callV (pc' := 53) rfl rfl rfl (Nat.le_of_ble_eq_true rfl) rfl (sm_o hS14 rfl) rfl rfl rfl (rt_stops_2 hr hS14 hW (by omega)) (fun r h17 q18 => ?_)
      obtain ⟨rfl, hS19, hE20⟩ := q18
      change sm (tbr am (13 * ln) 77 5088) _ (mstI 2 (jn (uI (uI (uI (uI I 11 2 (-1)) 12 2 (-1)) 13 2 0) 40 2 0) K)) Y at hS19
      rw [mst_jn] at hS19
      have hU21 : RU w B R [] true h17 am ln K ((mstI 2 (uI (uI (uI (uI I 11 2 (-1)) 12 2 (-1)) 13 2 0) 40 2 0)), Q, Z) := RU_I hE20 mst_24 mst_25 mst_stn hU16
      have hp22 : prk (mstI 2 (uI (uI (uI (uI I 11 2 (-1)) 12 2 (-1)) 13 2 0) 40 2 0)) 0 := (prk_p (congrFun (mst_11 (k := 2) (I := (uI (uI (uI (uI I 11 2 (-1)) 12 2 (-1)) 13 2 0) 40 2 0))) 0)).mpr hp0
      have hp23 : prk (mstI 2 (uI (uI (uI (uI I 11 2 (-1)) 12 2 (-1)) 13 2 0) 40 2 0)) 1 := (prk_p (congrFun (mst_11 (k := 2) (I := (uI (uI (uI (uI I 11 2 (-1)) 12 2 (-1)) 13 2 0) 40 2 0))) 1)).mpr hp1
      refine go_s (pc' := 54) (lo' := [some (.ref 62), some (.int 3), some (.int 3)]) rfl rfl rfl rfl ?_
      refine go_s (pc' := 7) rfl rfl rfl rfl ?_
      have hU24 : RU w B R [] true h17 am ln K ((mstI 2 (uI (uI (uI (uI I 11 2 (-1)) 12 2 (-1)) 13 2 0) 40 2 0)), Q, Z) := RU_I (sm_e_refl (tbr am (13 * ln) 77 5088) _) (I' := (mstI 2 (uI (uI (uI (uI I 11 2 (-1)) 12 2 (-1)) 13 2 0) 40 2 0))) (fun _ => rfl) (fun _ => rfl) (Nat.le_refl _) hU21
      have hA25 : RA w B R [] true h17 ((mstI 2 (uI (uI (uI (uI I 11 2 (-1)) 12 2 (-1)) 13 2 0) 40 2 0)), Q, Z) := RA_u.mpr ⟨_, _, _, _, hS19, hU24⟩
      have hms : rdA 2 3 (I, Q, Z) = ((mstI 2 (uI (uI (uI (uI I 11 2 (-1)) 12 2 (-1)) 13 2 0) 40 2 0)), Q, Z) := by
        unfold rdA
        rw [if_pos (show ((I, Q, Z) : mM).1 11 2 = nI 3 from e1), if_neg (fun z => z.1 hbk)]
      rw [hms] at C
      exact C _ (RA_R (by omega) hA25)
    · skip
      have e12 : I 12 2 = 2 := ((hM.2.2.1 2 (by decide)).2.2.2.2.1 hbk).2.2.2.trans (by
        show ohI I 2 = 2
        unfold ohI
        rw [e1]
        rfl)
      refine go_s (pc' := 8) rfl rfl rfl rfl ?_
      refine go_s (pc' := 9) (st' := [.int 3, .int 2]) rfl rfl rfl rfl ?_
      refine go_icmpP (t' := 55) (pc' := 10) rfl rfl rfl (fun (c : 3 ≤ (2 : Int32)) => absurd c (by decide)) (fun _ => ?_)
      refine go_s (pc' := 11) rfl rfl rfl rfl ?_
      refine go_sget (pc' := 12) (v := .ref 78) hS rfl rfl rfl (by decide) rfl rfl ?_
      refine go_s (pc' := 13) rfl rfl rfl rfl ?_
      refine go_sald (pc' := 14) (q := 2) (v := .int 3) hS rfl (tr_s hr (a := 78) rfl (by decide)) rfl rfl (by decide) (congrArg Value.int e1) rfl ?_
      refine go_s (pc' := 15) rfl rfl rfl rfl ?_
      refine go_icmpP (t' := 17) (pc' := 16) rfl rfl rfl (fun _ => ?_) (fun (c : ¬ ((3 : Int32) = 3)) => absurd (by decide) c)
      refine go_s (pc' := 18) rfl rfl rfl rfl ?_
      refine go_sget (pc' := 19) (v := .ref 79) hS rfl rfl rfl (by decide) rfl rfl ?_
      refine go_s (pc' := 20) rfl rfl rfl rfl ?_
      refine go_sald (pc' := 21) (q := 2) (v := .int 2) hS rfl (tr_s hr (a := 79) rfl (by decide)) rfl rfl (by decide) (congrArg Value.int e12) rfl ?_
      refine go_s (pc' := 22) (st' := [.int (-1), .int 2]) rfl rfl rfl rfl ?_
      refine go_icmpP (t' := 35) (pc' := 23) rfl rfl rfl (fun (c : (2 : Int32) = (-1)) => absurd c (by decide)) (fun _ => ?_)
      refine go_s (pc' := 24) rfl rfl rfl rfl ?_
      refine go_sget (pc' := 25) (v := .ref 63) hS rfl rfl rfl (by decide) rfl rfl ?_
      refine go_s (pc' := 26) rfl rfl rfl rfl ?_
      refine go_sget (pc' := 27) (v := .ref 79) hS rfl rfl rfl (by decide) rfl rfl ?_
      refine go_s (pc' := 28) rfl rfl rfl rfl ?_
      refine go_sald (pc' := 29) (q := 2) (v := .int 2) hS rfl (tr_s hr (a := 79) rfl (by decide)) rfl rfl (by decide) (congrArg Value.int e12) rfl ?_
      refine go_sald (pc' := 30) (q := 2) (v := .int (I 0 2)) hS rfl (tr_s hr (a := 63) rfl (by decide)) rfl rfl (by decide) rfl rfl ?_
      refine go_ifP (t' := 35) (pc' := 31) rfl rfl rfl (fun (c26 : (I 0 2) = 0) => ?_) (fun (c26 : ¬ (I 0 2) = 0) => ?_)
      · skip
        refine go_s (pc' := 36) rfl rfl rfl rfl ?_
        refine go_sget (pc' := 37) (v := .ref 78) hS rfl rfl rfl (by decide) rfl rfl ?_
        refine go_s (pc' := 38) rfl rfl rfl rfl ?_
        refine go_s (pc' := 39) (st' := [.int (-1), .int 2, .ref 78]) rfl rfl rfl rfl ?_
        refine go_siast (pc' := 40) (q := 2) hS rfl (tr_s hr (a := 78) rfl (by decide)) tbr_inj (Nat.le_of_ble_eq_true rfl) rfl (by decide) (by decide) (hW _ (by decide) (by decide)) rfl (fun h27 hS28 hE29 => ?_)
        refine go_s (pc' := 41) rfl rfl rfl rfl ?_
        refine go_sget (pc' := 42) (v := .ref 79) hS28 rfl rfl rfl (by decide) rfl rfl ?_
        refine go_s (pc' := 43) rfl rfl rfl rfl ?_
        refine go_s (pc' := 44) (st' := [.int (-1), .int 2, .ref 79]) rfl rfl rfl rfl ?_
        refine go_siast (pc' := 45) (q := 2) hS28 rfl (tr_s hr (a := 79) rfl (by decide)) tbr_inj (Nat.le_of_ble_eq_true rfl) rfl (by decide) (by decide) (hW _ (by decide) (by decide)) rfl (fun h30 hS31 hE32 => ?_)
        have hE33 := sm_e_trans hE29 hE32
        refine go_s (pc' := 46) rfl rfl rfl rfl ?_
        refine go_sget (pc' := 47) (v := .ref 80) hS31 rfl rfl rfl (by decide) rfl rfl ?_
        refine go_s (pc' := 48) rfl rfl rfl rfl ?_
        refine go_s (pc' := 49) (st' := [.int 0, .int 2, .ref 80]) rfl rfl rfl rfl ?_
        refine go_szast (pc' := 50) (q := 2) hS31 rfl (tr_s hr (a := 80) rfl (by decide)) tbr_inj (Nat.le_of_ble_eq_true rfl) rfl (by decide) (by decide) rfl (hW _ (by decide) (by decide)) rfl (fun h34 hS35 hE36 => ?_)
        have hE37 := sm_e_trans hE33 hE36
        change sm (tbr am (13 * ln) 77 5088) _ (uI (uI (uI (jn I K) 11 2 (-1)) 12 2 (-1)) 13 2 0) Y at hS35
        rw [jn_lo (c := 11) (by decide), jn_lo (c := 12) (by decide), jn_lo (c := 13) (by decide)] at hS35
        have hU38 : RU w B R [] true h34 am ln K ((uI (uI (uI I 11 2 (-1)) 12 2 (-1)) 13 2 0), Q, Z) := RU_I (hE37) (I' := (uI (uI (uI I 11 2 (-1)) 12 2 (-1)) 13 2 0)) (fun _ => rfl) (fun _ => rfl) (Nat.le_refl _) hU
        have hS39 : sm (tbr am (13 * ln) 77 5088) _ (jn (uI (uI (uI (uI I 11 2 (-1)) 12 2 (-1)) 13 2 0) 40 2 0) K) Y := sm_jg hr hS35 (fun c j _ n1 n2 n3 => uI_c n3)
        have hU40 : RU w B R [] true h34 am ln K ((uI (uI (uI (uI I 11 2 (-1)) 12 2 (-1)) 13 2 0) 40 2 0), Q, Z) := RU_I (sm_e_refl (tbr am (13 * ln) 77 5088) _) (fun _ => rfl) (fun _ => rfl) (Nat.le_refl _) hU38
        refine go_s (pc' := 51) rfl rfl rfl rfl ?_
        refine go_s (pc' := 52) rfl rfl rfl rfl ?_
        have hU41 : RU w B R [] true h34 am ln K ((uI (uI (uI (uI I 11 2 (-1)) 12 2 (-1)) 13 2 0) 40 2 0), Q, Z) := RU_I (sm_e_refl (tbr am (13 * ln) 77 5088) _) (I' := (uI (uI (uI (uI I 11 2 (-1)) 12 2 (-1)) 13 2 0) 40 2 0)) (fun _ => rfl) (fun _ => rfl) (Nat.le_refl _) hU40
        refine go_callV (pc' := 53) rfl rfl rfl (Nat.le_of_ble_eq_true rfl) rfl (sm_o hS39 rfl) rfl rfl rfl (rt_stops_2 hr hS39 hW (by omega)) (fun r h42 q43 => ?_)
        obtain ⟨rfl, hS44, hE45⟩ := q43
        change sm (tbr am (13 * ln) 77 5088) _ (mstI 2 (jn (uI (uI (uI (uI I 11 2 (-1)) 12 2 (-1)) 13 2 0) 40 2 0) K)) Y at hS44
        rw [mst_jn] at hS44
        have hU46 : RU w B R [] true h42 am ln K ((mstI 2 (uI (uI (uI (uI I 11 2 (-1)) 12 2 (-1)) 13 2 0) 40 2 0)), Q, Z) := RU_I hE45 mst_24 mst_25 mst_stn hU41
        have hp47 : prk (mstI 2 (uI (uI (uI (uI I 11 2 (-1)) 12 2 (-1)) 13 2 0) 40 2 0)) 0 := (prk_p (congrFun (mst_11 (k := 2) (I := (uI (uI (uI (uI I 11 2 (-1)) 12 2 (-1)) 13 2 0) 40 2 0))) 0)).mpr hp0
        have hp48 : prk (mstI 2 (uI (uI (uI (uI I 11 2 (-1)) 12 2 (-1)) 13 2 0) 40 2 0)) 1 := (prk_p (congrFun (mst_11 (k := 2) (I := (uI (uI (uI (uI I 11 2 (-1)) 12 2 (-1)) 13 2 0) 40 2 0))) 1)).mpr hp1
        refine go_s (pc' := 54) (lo' := [some (.ref 62), some (.int 3), some (.int 3)]) rfl rfl rfl rfl ?_
        refine go_s (pc' := 7) rfl rfl rfl rfl ?_
        have hU49 : RU w B R [] true h42 am ln K ((mstI 2 (uI (uI (uI (uI I 11 2 (-1)) 12 2 (-1)) 13 2 0) 40 2 0)), Q, Z) := RU_I (sm_e_refl (tbr am (13 * ln) 77 5088) _) (I' := (mstI 2 (uI (uI (uI (uI I 11 2 (-1)) 12 2 (-1)) 13 2 0) 40 2 0))) (fun _ => rfl) (fun _ => rfl) (Nat.le_refl _) hU46
        have hA50 : RA w B R [] true h42 ((mstI 2 (uI (uI (uI (uI I 11 2 (-1)) 12 2 (-1)) 13 2 0) 40 2 0)), Q, Z) := RA_u.mpr ⟨_, _, _, _, hS44, hU49⟩
        have hms : rdA 2 3 (I, Q, Z) = ((mstI 2 (uI (uI (uI (uI I 11 2 (-1)) 12 2 (-1)) 13 2 0) 40 2 0)), Q, Z) := by
          unfold rdA
          rw [if_pos (show ((I, Q, Z) : mM).1 11 2 = nI 3 from e1), if_neg (fun z => z.2 (by show I 0 (I 12 2).toNatClampNeg = 0; rw [e12]; exact c26))]
        rw [hms] at C
        exact C _ (RA_R (by omega) hA50)
      · skip
        refine go_s (pc' := 32) rfl rfl rfl rfl ?_
        refine go_s (pc' := 33) rfl rfl rfl rfl ?_
        have hu9 : ¬ I 0 (ohn I 2) = 0 := by
          rw [show ohn I 2 = 2 from ohn_l (v := 3) e1 (by decide)]
          exact c26
        have hU51 : RU w B R [] true h am ln K (I, Q, Z) := RU_I (sm_e_refl (tbr am (13 * ln) 77 5088) _) (I' := I) (fun _ => rfl) (fun _ => rfl) (Nat.le_refl _) hU
        have hA52 : RA w B R [] true h (I, Q, Z) := RA_u.mpr ⟨_, _, _, _, hS, hU51⟩
        refine go_callV (pc' := 34) rfl rfl rfl (Nat.le_of_ble_eq_true rfl) rfl (sm_o hS rfl) rfl rfl rfl (ra_to_2_3 hA52 (by omega) hM hX h0 e1 e12 hu9 (by omega)) (fun r h53 q54 => ?_)
        obtain ⟨rfl, hA55⟩ := q54
        refine go_s (pc' := 53) rfl rfl rfl rfl ?_
        refine go_s (pc' := 54) (lo' := [some (.ref 62), some (.int 3), some (.int 3)]) rfl rfl rfl rfl ?_
        refine go_s (pc' := 7) rfl rfl rfl rfl ?_
        have hms : rdA 2 3 (I, Q, Z) = rto 2 (I, Q, Z) := by
          unfold rdA
          rw [if_pos (show ((I, Q, Z) : mM).1 11 2 = nI 3 from e1), if_pos (show ¬ ((I, Q, Z) : mM).1 12 2 = -1 ∧ ¬ ((I, Q, Z) : mM).1 0 (((I, Q, Z) : mM).1 12 2).toNatClampNeg = 0 from ⟨hbk, by show ¬ I 0 (I 12 2).toNatClampNeg = 0; rw [e12]; exact c26⟩)]
        rw [hms] at C
        exact C _ hA55
theorem stB_0_0 {w : Nat → Bool} {d B R : Nat} {h : am_Hp} {I : sm_I} {Q : mQ} {Z : mZ} {P : Option Value → am_Hp → Prop} (hA : RA w B R [] true h (I, Q, Z)) (hR : R + 1 < 40000) {X : Nat} (hM : MID X (I, Q, Z)) (hX : X + 60 < 2 ^ 28) (hd : 5 ≤ d) (C : ∀ h', RA w B (R + 0) [] true h' (rdB 0 0 (I, Q, Z)) → am_Go (am_prog w) d am_c163 none 57 [some (.ref 62), some (.int 0), some (.int 1)] [] h' P) : am_Go (am_prog w) d am_c163 none 57 [some (.ref 62), some (.int 0), some (.int 0)] [] h P := by
  obtain ⟨K, Y, am, ln, hS, hU⟩ := RA_u.mp hA
  change sm (tbr am (13 * ln) 77 5088) h (jn I K) Y at hS
  obtain ⟨hW, hWm, -, -, hr, -⟩ := id hU.1
  have hln := RU_ln hU (by omega)
  have hp0 : prk I 0 := (hM.2.2.1 0 (by decide)).1
  have hp1 : prk I 1 := (hM.2.2.1 1 (by decide)).1
  have hp2 : prk I 2 := (hM.2.2.1 2 (by decide)).1
  rcases hp0 with e1 | e1 | e1
  · skip
    refine go_s (pc' := 58) rfl rfl rfl rfl ?_
    refine go_s (pc' := 59) (st' := [.int 3, .int 0]) rfl rfl rfl rfl ?_
    refine go_icmpP (t' := 113) (pc' := 60) rfl rfl rfl (fun (c : 3 ≤ (0 : Int32)) => absurd c (by decide)) (fun _ => ?_)
    refine go_s (pc' := 61) rfl rfl rfl rfl ?_
    refine go_sget (pc' := 62) (v := .ref 78) hS rfl rfl rfl (by decide) rfl rfl ?_
    refine go_s (pc' := 63) rfl rfl rfl rfl ?_
    refine go_sald (pc' := 64) (q := 0) (v := .int (-1)) hS rfl (tr_s hr (a := 78) rfl (by decide)) rfl rfl (by decide) (congrArg Value.int e1) rfl ?_
    refine go_s (pc' := 65) (st' := [.int (-1), .int (-1)]) rfl rfl rfl rfl ?_
    refine go_icmpP (t' := 111) (pc' := 66) rfl rfl rfl (fun _ => ?_) (fun (c : ¬ (((-1) : Int32) = (-1))) => absurd (by decide) c)
    refine go_s (pc' := 112) (lo' := [some (.ref 62), some (.int 0), some (.int 1)]) rfl rfl rfl rfl ?_
    refine go_s (pc' := 57) rfl rfl rfl rfl ?_
    have hms : rdB 0 0 (I, Q, Z) = (I, Q, Z) := if_pos (Or.inl e1)
    rw [hms] at C
    exact C _ (RA_R (by omega) hA)
  · skip
    refine go_s (pc' := 58) rfl rfl rfl rfl ?_
    refine go_s (pc' := 59) (st' := [.int 3, .int 0]) rfl rfl rfl rfl ?_
    refine go_icmpP (t' := 113) (pc' := 60) rfl rfl rfl (fun (c : 3 ≤ (0 : Int32)) => absurd c (by decide)) (fun _ => ?_)
    refine go_s (pc' := 61) rfl rfl rfl rfl ?_
    refine go_sget (pc' := 62) (v := .ref 78) hS rfl rfl rfl (by decide) rfl rfl ?_
    refine go_s (pc' := 63) rfl rfl rfl rfl ?_
    refine go_sald (pc' := 64) (q := 0) (v := .int 0) hS rfl (tr_s hr (a := 78) rfl (by decide)) rfl rfl (by decide) (congrArg Value.int e1) rfl ?_
    refine go_s (pc' := 65) (st' := [.int (-1), .int 0]) rfl rfl rfl rfl ?_
    refine go_icmpP (t' := 111) (pc' := 66) rfl rfl rfl (fun (c : (0 : Int32) = (-1)) => absurd c (by decide)) (fun _ => ?_)
    refine go_s (pc' := 67) rfl rfl rfl rfl ?_
    refine go_sget (pc' := 68) (v := .ref 78) hS rfl rfl rfl (by decide) rfl rfl ?_
    refine go_s (pc' := 69) rfl rfl rfl rfl ?_
    refine go_sald (pc' := 70) (q := 0) (v := .int 0) hS rfl (tr_s hr (a := 78) rfl (by decide)) rfl rfl (by decide) (congrArg Value.int e1) rfl ?_
    refine go_s (pc' := 71) rfl rfl rfl rfl ?_
    refine go_icmpP (t' := 111) (pc' := 72) rfl rfl rfl (fun _ => ?_) (fun (c : ¬ ((0 : Int32) = 0)) => absurd (by decide) c)
    refine go_s (pc' := 112) (lo' := [some (.ref 62), some (.int 0), some (.int 1)]) rfl rfl rfl rfl ?_
    refine go_s (pc' := 57) rfl rfl rfl rfl ?_
    have hms : rdB 0 0 (I, Q, Z) = (I, Q, Z) := if_pos (Or.inr (Or.inl e1))
    rw [hms] at C
    exact C _ (RA_R (by omega) hA)
  · skip
    refine go_s (pc' := 58) rfl rfl rfl rfl ?_
    refine go_s (pc' := 59) (st' := [.int 3, .int 0]) rfl rfl rfl rfl ?_
    refine go_icmpP (t' := 113) (pc' := 60) rfl rfl rfl (fun (c : 3 ≤ (0 : Int32)) => absurd c (by decide)) (fun _ => ?_)
    refine go_s (pc' := 61) rfl rfl rfl rfl ?_
    refine go_sget (pc' := 62) (v := .ref 78) hS rfl rfl rfl (by decide) rfl rfl ?_
    refine go_s (pc' := 63) rfl rfl rfl rfl ?_
    refine go_sald (pc' := 64) (q := 0) (v := .int 1) hS rfl (tr_s hr (a := 78) rfl (by decide)) rfl rfl (by decide) (congrArg Value.int e1) rfl ?_
    refine go_s (pc' := 65) (st' := [.int (-1), .int 1]) rfl rfl rfl rfl ?_
    refine go_icmpP (t' := 111) (pc' := 66) rfl rfl rfl (fun (c : (1 : Int32) = (-1)) => absurd c (by decide)) (fun _ => ?_)
    refine go_s (pc' := 67) rfl rfl rfl rfl ?_
    refine go_sget (pc' := 68) (v := .ref 78) hS rfl rfl rfl (by decide) rfl rfl ?_
    refine go_s (pc' := 69) rfl rfl rfl rfl ?_
    refine go_sald (pc' := 70) (q := 0) (v := .int 1) hS rfl (tr_s hr (a := 78) rfl (by decide)) rfl rfl (by decide) (congrArg Value.int e1) rfl ?_
    refine go_s (pc' := 71) rfl rfl rfl rfl ?_
    refine go_icmpP (t' := 111) (pc' := 72) rfl rfl rfl (fun (c : (1 : Int32) = 0) => absurd c (by decide)) (fun _ => ?_)
    refine go_s (pc' := 73) rfl rfl rfl rfl ?_
    refine go_s (pc' := 74) rfl rfl rfl rfl ?_
    refine go_callS (pc' := 75) rfl rfl rfl (Nat.le_of_ble_eq_true rfl) rfl rfl rfl (rt_ih_0_0 (by omega)) (fun r h2 q3 => ?_)
    obtain ⟨rfl, rfl⟩ := q3
    refine go_ifP (t' := 111) (pc' := 76) rfl rfl rfl (fun (c : (1 : Int32) = 0) => absurd c (by decide)) (fun _ => ?_)
    refine go_s (pc' := 77) rfl rfl rfl rfl ?_
    refine go_sget (pc' := 78) (v := .ref 79) hS rfl rfl rfl (by decide) rfl rfl ?_
    refine go_s (pc' := 79) rfl rfl rfl rfl ?_
    refine go_sald (pc' := 80) (q := 0) (v := .int (I 12 0)) hS rfl (tr_s hr (a := 79) rfl (by decide)) rfl rfl (by decide) rfl rfl ?_
    refine go_s (pc' := 81) (st' := [.int (-1), .int (I 12 0)]) rfl rfl rfl rfl ?_
    refine go_icmpP (t' := 88) (pc' := 82) rfl rfl rfl (fun (c4 : ¬ (I 12 0) = (-1)) => ?_) (fun (c4' : ¬ ¬ (I 12 0) = (-1)) => ?_)
    · skip
      refine go_s (pc' := 89) rfl rfl rfl rfl ?_
      refine go_sget (pc' := 90) (v := .ref 79) hS rfl rfl rfl (by decide) rfl rfl ?_
      refine go_s (pc' := 91) rfl rfl rfl rfl ?_
      refine go_s (pc' := 92) (st' := [.int (-1), .int 0, .ref 79]) rfl rfl rfl rfl ?_
      refine go_siast (pc' := 93) (q := 0) hS rfl (tr_s hr (a := 79) rfl (by decide)) tbr_inj (Nat.le_of_ble_eq_true rfl) rfl (by decide) (by decide) (hW _ (by decide) (by decide)) rfl (fun h5 hS6 hE7 => ?_)
      refine go_s (pc' := 94) rfl rfl rfl rfl ?_
      refine go_sget (pc' := 95) (v := .ref 80) hS6 rfl rfl rfl (by decide) rfl rfl ?_
      refine go_s (pc' := 96) rfl rfl rfl rfl ?_
      refine go_s (pc' := 97) (st' := [.int 0, .int 0, .ref 80]) rfl rfl rfl rfl ?_
      refine go_szast (pc' := 98) (q := 0) hS6 rfl (tr_s hr (a := 80) rfl (by decide)) tbr_inj (Nat.le_of_ble_eq_true rfl) rfl (by decide) (by decide) rfl (hW _ (by decide) (by decide)) rfl (fun h8 hS9 hE10 => ?_)
      have hE11 := sm_e_trans hE7 hE10
      refine go_s (pc' := 99) rfl rfl rfl rfl ?_
      refine go_s (pc' := 100) rfl rfl rfl rfl ?_
      refine go_callV (pc' := 101) rfl rfl rfl (Nat.le_of_ble_eq_true rfl) rfl (sm_o hS9 rfl) rfl rfl rfl (rt_lives_0 hr hS9 (Or.inr (Or.inr e1)) (by omega)) (fun r h12 q13 => ?_)
      obtain ⟨rfl, rfl⟩ := q13
      rw [show lv (uI (uI (jn I K) 12 0 (-1)) 13 0 0) 0 = lv (uI (uI I 12 0 (-1)) 13 0 0) 0 from rfl]
      cases u14 : lv (uI (uI I 12 0 (-1)) 13 0 0) 0
      · skip
        show am_Go _ _ _ _ 101 _ [.int 0] _ _
        refine go_ifP (t' := 111) (pc' := 102) rfl rfl rfl (fun _ => ?_) (fun (c : ¬ ((0 : Int32) = 0)) => absurd (by decide) c)
        refine go_s (pc' := 112) (lo' := [some (.ref 62), some (.int 0), some (.int 1)]) rfl rfl rfl rfl ?_
        refine go_s (pc' := 57) rfl rfl rfl rfl ?_
        change sm (tbr am (13 * ln) 77 5088) _ (uI (uI (jn I K) 12 0 (-1)) 13 0 0) Y at hS9
        rw [jn_lo (c := 12) (by decide), jn_lo (c := 13) (by decide)] at hS9
        have hU15 : RU w B R [] true h12 am ln K ((uI (uI I 12 0 (-1)) 13 0 0), Q, Z) := RU_I (hE11) (I' := (uI (uI I 12 0 (-1)) 13 0 0)) (fun _ => rfl) (fun _ => rfl) (Nat.le_refl _) hU
        have hA16 : RA w B R [] true h12 ((uI (uI I 12 0 (-1)) 13 0 0), Q, Z) := RA_u.mpr ⟨_, _, _, _, hS9, hU15⟩
        have hms : rdB 0 0 (I, Q, Z) = ((uI (uI I 12 0 (-1)) 13 0 0), Q, Z) := by
          unfold rdB
          rw [if_neg (fun z => z.elim (fun y => absurd (e1.symm.trans y) (by decide)) (fun z => z.elim (fun y => absurd (e1.symm.trans y) (by decide)) (fun z => z.elim (fun y => absurd y (by decide)) (fun y => c4 y.1))))]
          exact if_neg (fun y => by rw [show lv (((uI (uI I 12 0 (-1)) 13 0 0), Q, Z) : mM).1 0 = false from u14] at y; exact absurd y.1 (by decide))
        rw [hms] at C
        exact C _ (RA_R (by omega) hA16)
      · skip
        show am_Go _ _ _ _ 101 _ [.int 1] _ _
        refine go_ifP (t' := 111) (pc' := 102) rfl rfl rfl (fun (c : (1 : Int32) = 0) => absurd c (by decide)) (fun _ => ?_)
        refine go_s (pc' := 103) rfl rfl rfl rfl ?_
        refine go_sget (pc' := 104) (v := .ref 83) hS9 rfl rfl rfl (by decide) rfl rfl ?_
        refine go_s (pc' := 105) rfl rfl rfl rfl ?_
        refine go_sald (pc' := 106) (q := 0) (v := .int (I 16 0)) hS9 rfl (tr_s hr (a := 83) rfl (by decide)) rfl rfl (by decide) rfl rfl ?_
        refine go_s (pc' := 107) (st' := [.int 1, .int (I 16 0)]) rfl rfl rfl rfl ?_
        refine go_icmpP (t' := 111) (pc' := 108) rfl rfl rfl (fun (c17 : ¬ (I 16 0) = 1) => ?_) (fun (c17' : ¬ ¬ (I 16 0) = 1) => ?_)
        · skip
          refine go_s (pc' := 112) (lo' := [some (.ref 62), some (.int 0), some (.int 1)]) rfl rfl rfl rfl ?_
          refine go_s (pc' := 57) rfl rfl rfl rfl ?_
          change sm (tbr am (13 * ln) 77 5088) _ (uI (uI (jn I K) 12 0 (-1)) 13 0 0) Y at hS9
          rw [jn_lo (c := 12) (by decide), jn_lo (c := 13) (by decide)] at hS9
          have hU18 : RU w B R [] true h12 am ln K ((uI (uI I 12 0 (-1)) 13 0 0), Q, Z) := RU_I (hE11) (I' := (uI (uI I 12 0 (-1)) 13 0 0)) (fun _ => rfl) (fun _ => rfl) (Nat.le_refl _) hU
          have hA19 : RA w B R [] true h12 ((uI (uI I 12 0 (-1)) 13 0 0), Q, Z) := RA_u.mpr ⟨_, _, _, _, hS9, hU18⟩
          have hms : rdB 0 0 (I, Q, Z) = ((uI (uI I 12 0 (-1)) 13 0 0), Q, Z) := by
            unfold rdB
            rw [if_neg (fun z => z.elim (fun y => absurd (e1.symm.trans y) (by decide)) (fun z => z.elim (fun y => absurd (e1.symm.trans y) (by decide)) (fun z => z.elim (fun y => absurd y (by decide)) (fun y => c4 y.1))))]
            exact if_neg (fun y => c17 y.2)
          rw [hms] at C
          exact C _ (RA_R (by omega) hA19)
        · skip
          have c17 : (I 16 0) = 1 := Decidable.not_not.mp c17'
          refine go_s (pc' := 109) rfl rfl rfl rfl ?_
          refine go_s (pc' := 110) rfl rfl rfl rfl ?_
          change sm (tbr am (13 * ln) 77 5088) _ (uI (uI (jn I K) 12 0 (-1)) 13 0 0) Y at hS9
          rw [jn_lo (c := 12) (by decide), jn_lo (c := 13) (by decide)] at hS9
          have hU20 : RU w B R [] true h12 am ln K ((uI (uI I 12 0 (-1)) 13 0 0), Q, Z) := RU_I (hE11) (I' := (uI (uI I 12 0 (-1)) 13 0 0)) (fun _ => rfl) (fun _ => rfl) (Nat.le_refl _) hU
          have hA21 : RA w B R [] true h12 ((uI (uI I 12 0 (-1)) 13 0 0), Q, Z) := RA_u.mpr ⟨_, _, _, _, hS9, hU20⟩
          refine go_callV (pc' := 111) rfl rfl rfl (Nat.le_of_ble_eq_true rfl) rfl (sm_o hS9 rfl) rfl rfl rfl (ra_go_0 hA21 (by omega) (by omega)) (fun r h22 q23 => ?_)
          obtain ⟨rfl, hA24⟩ := q23
          refine go_s (pc' := 112) (lo' := [some (.ref 62), some (.int 0), some (.int 1)]) rfl rfl rfl rfl ?_
          refine go_s (pc' := 57) rfl rfl rfl rfl ?_
          have hms : rdB 0 0 (I, Q, Z) = rgo 0 ((uI (uI I 12 0 (-1)) 13 0 0), Q, Z) := by
            unfold rdB
            rw [if_neg (fun z => z.elim (fun y => absurd (e1.symm.trans y) (by decide)) (fun z => z.elim (fun y => absurd (e1.symm.trans y) (by decide)) (fun z => z.elim (fun y => absurd y (by decide)) (fun y => c4 y.1))))]
            exact if_pos ⟨u14, c17⟩
          rw [hms] at C
          exact C _ (RA_R (by omega) hA24)
    · skip
      have c4 : (I 12 0) = (-1) := Decidable.not_not.mp c4'
      refine go_s (pc' := 83) rfl rfl rfl rfl ?_
      refine go_sget (pc' := 84) (v := .ref 80) hS rfl rfl rfl (by decide) rfl rfl ?_
      refine go_s (pc' := 85) rfl rfl rfl rfl ?_
      refine go_sald (pc' := 86) (q := 0) (v := .int (I 13 0)) hS rfl (tr_s hr (a := 80) rfl (by decide)) rfl rfl (by decide) rfl rfl ?_
      refine go_ifP (t' := 88) (pc' := 87) rfl rfl rfl (fun (c25 : ¬ (I 13 0) = 0) => ?_) (fun (c25' : ¬ ¬ (I 13 0) = 0) => ?_)
      · skip
        refine go_s (pc' := 89) rfl rfl rfl rfl ?_
        refine go_sget (pc' := 90) (v := .ref 79) hS rfl rfl rfl (by decide) rfl rfl ?_
        refine go_s (pc' := 91) rfl rfl rfl rfl ?_
        refine go_s (pc' := 92) (st' := [.int (-1), .int 0, .ref 79]) rfl rfl rfl rfl ?_
        refine go_siast (pc' := 93) (q := 0) hS rfl (tr_s hr (a := 79) rfl (by decide)) tbr_inj (Nat.le_of_ble_eq_true rfl) rfl (by decide) (by decide) (hW _ (by decide) (by decide)) rfl (fun h26 hS27 hE28 => ?_)
        refine go_s (pc' := 94) rfl rfl rfl rfl ?_
        refine go_sget (pc' := 95) (v := .ref 80) hS27 rfl rfl rfl (by decide) rfl rfl ?_
        refine go_s (pc' := 96) rfl rfl rfl rfl ?_
        refine go_s (pc' := 97) (st' := [.int 0, .int 0, .ref 80]) rfl rfl rfl rfl ?_
        refine go_szast (pc' := 98) (q := 0) hS27 rfl (tr_s hr (a := 80) rfl (by decide)) tbr_inj (Nat.le_of_ble_eq_true rfl) rfl (by decide) (by decide) rfl (hW _ (by decide) (by decide)) rfl (fun h29 hS30 hE31 => ?_)
        have hE32 := sm_e_trans hE28 hE31
        refine go_s (pc' := 99) rfl rfl rfl rfl ?_
        refine go_s (pc' := 100) rfl rfl rfl rfl ?_
        refine go_callV (pc' := 101) rfl rfl rfl (Nat.le_of_ble_eq_true rfl) rfl (sm_o hS30 rfl) rfl rfl rfl (rt_lives_0 hr hS30 (Or.inr (Or.inr e1)) (by omega)) (fun r h33 q34 => ?_)
        obtain ⟨rfl, rfl⟩ := q34
        rw [show lv (uI (uI (jn I K) 12 0 (-1)) 13 0 0) 0 = lv (uI (uI I 12 0 (-1)) 13 0 0) 0 from rfl]
        cases u35 : lv (uI (uI I 12 0 (-1)) 13 0 0) 0
        · skip
          show am_Go _ _ _ _ 101 _ [.int 0] _ _
          refine go_ifP (t' := 111) (pc' := 102) rfl rfl rfl (fun _ => ?_) (fun (c : ¬ ((0 : Int32) = 0)) => absurd (by decide) c)
          refine go_s (pc' := 112) (lo' := [some (.ref 62), some (.int 0), some (.int 1)]) rfl rfl rfl rfl ?_
          refine go_s (pc' := 57) rfl rfl rfl rfl ?_
          change sm (tbr am (13 * ln) 77 5088) _ (uI (uI (jn I K) 12 0 (-1)) 13 0 0) Y at hS30
          rw [jn_lo (c := 12) (by decide), jn_lo (c := 13) (by decide)] at hS30
          have hU36 : RU w B R [] true h33 am ln K ((uI (uI I 12 0 (-1)) 13 0 0), Q, Z) := RU_I (hE32) (I' := (uI (uI I 12 0 (-1)) 13 0 0)) (fun _ => rfl) (fun _ => rfl) (Nat.le_refl _) hU
          have hA37 : RA w B R [] true h33 ((uI (uI I 12 0 (-1)) 13 0 0), Q, Z) := RA_u.mpr ⟨_, _, _, _, hS30, hU36⟩
          have hms : rdB 0 0 (I, Q, Z) = ((uI (uI I 12 0 (-1)) 13 0 0), Q, Z) := by
            unfold rdB
            rw [if_neg (fun z => z.elim (fun y => absurd (e1.symm.trans y) (by decide)) (fun z => z.elim (fun y => absurd (e1.symm.trans y) (by decide)) (fun z => z.elim (fun y => absurd y (by decide)) (fun y => c25 y.2))))]
            exact if_neg (fun y => by rw [show lv (((uI (uI I 12 0 (-1)) 13 0 0), Q, Z) : mM).1 0 = false from u35] at y; exact absurd y.1 (by decide))
          rw [hms] at C
          exact C _ (RA_R (by omega) hA37)
        · skip
          show am_Go _ _ _ _ 101 _ [.int 1] _ _
          refine go_ifP (t' := 111) (pc' := 102) rfl rfl rfl (fun (c : (1 : Int32) = 0) => absurd c (by decide)) (fun _ => ?_)
          refine go_s (pc' := 103) rfl rfl rfl rfl ?_
          refine go_sget (pc' := 104) (v := .ref 83) hS30 rfl rfl rfl (by decide) rfl rfl ?_
          refine go_s (pc' := 105) rfl rfl rfl rfl ?_
          refine go_sald (pc' := 106) (q := 0) (v := .int (I 16 0)) hS30 rfl (tr_s hr (a := 83) rfl (by decide)) rfl rfl (by decide) rfl rfl ?_
          refine go_s (pc' := 107) (st' := [.int 1, .int (I 16 0)]) rfl rfl rfl rfl ?_
          refine go_icmpP (t' := 111) (pc' := 108) rfl rfl rfl (fun (c38 : ¬ (I 16 0) = 1) => ?_) (fun (c38' : ¬ ¬ (I 16 0) = 1) => ?_)
          · skip
            refine go_s (pc' := 112) (lo' := [some (.ref 62), some (.int 0), some (.int 1)]) rfl rfl rfl rfl ?_
            refine go_s (pc' := 57) rfl rfl rfl rfl ?_
            change sm (tbr am (13 * ln) 77 5088) _ (uI (uI (jn I K) 12 0 (-1)) 13 0 0) Y at hS30
            rw [jn_lo (c := 12) (by decide), jn_lo (c := 13) (by decide)] at hS30
            have hU39 : RU w B R [] true h33 am ln K ((uI (uI I 12 0 (-1)) 13 0 0), Q, Z) := RU_I (hE32) (I' := (uI (uI I 12 0 (-1)) 13 0 0)) (fun _ => rfl) (fun _ => rfl) (Nat.le_refl _) hU
            have hA40 : RA w B R [] true h33 ((uI (uI I 12 0 (-1)) 13 0 0), Q, Z) := RA_u.mpr ⟨_, _, _, _, hS30, hU39⟩
            have hms : rdB 0 0 (I, Q, Z) = ((uI (uI I 12 0 (-1)) 13 0 0), Q, Z) := by
              unfold rdB
              rw [if_neg (fun z => z.elim (fun y => absurd (e1.symm.trans y) (by decide)) (fun z => z.elim (fun y => absurd (e1.symm.trans y) (by decide)) (fun z => z.elim (fun y => absurd y (by decide)) (fun y => c25 y.2))))]
              exact if_neg (fun y => c38 y.2)
            rw [hms] at C
            exact C _ (RA_R (by omega) hA40)
          · skip
            have c38 : (I 16 0) = 1 := Decidable.not_not.mp c38'
            refine go_s (pc' := 109) rfl rfl rfl rfl ?_
            refine go_s (pc' := 110) rfl rfl rfl rfl ?_
            change sm (tbr am (13 * ln) 77 5088) _ (uI (uI (jn I K) 12 0 (-1)) 13 0 0) Y at hS30
            rw [jn_lo (c := 12) (by decide), jn_lo (c := 13) (by decide)] at hS30
            have hU41 : RU w B R [] true h33 am ln K ((uI (uI I 12 0 (-1)) 13 0 0), Q, Z) := RU_I (hE32) (I' := (uI (uI I 12 0 (-1)) 13 0 0)) (fun _ => rfl) (fun _ => rfl) (Nat.le_refl _) hU
            have hA42 : RA w B R [] true h33 ((uI (uI I 12 0 (-1)) 13 0 0), Q, Z) := RA_u.mpr ⟨_, _, _, _, hS30, hU41⟩
            refine go_callV (pc' := 111) rfl rfl rfl (Nat.le_of_ble_eq_true rfl) rfl (sm_o hS30 rfl) rfl rfl rfl (ra_go_0 hA42 (by omega) (by omega)) (fun r h43 q44 => ?_)
            obtain ⟨rfl, hA45⟩ := q44
            refine go_s (pc' := 112) (lo' := [some (.ref 62), some (.int 0), some (.int 1)]) rfl rfl rfl rfl ?_
            refine go_s (pc' := 57) rfl rfl rfl rfl ?_
            have hms : rdB 0 0 (I, Q, Z) = rgo 0 ((uI (uI I 12 0 (-1)) 13 0 0), Q, Z) := by
              unfold rdB
              rw [if_neg (fun z => z.elim (fun y => absurd (e1.symm.trans y) (by decide)) (fun z => z.elim (fun y => absurd (e1.symm.trans y) (by decide)) (fun z => z.elim (fun y => absurd y (by decide)) (fun y => c25 y.2))))]
              exact if_pos ⟨u35, c38⟩
            rw [hms] at C
            exact C _ (RA_R (by omega) hA45)
      · skip
        have c25 : (I 13 0) = 0 := Decidable.not_not.mp c25'
        refine go_s (pc' := 111) rfl rfl rfl rfl ?_
        refine go_s (pc' := 112) (lo' := [some (.ref 62), some (.int 0), some (.int 1)]) rfl rfl rfl rfl ?_
        refine go_s (pc' := 57) rfl rfl rfl rfl ?_
        have hms : rdB 0 0 (I, Q, Z) = (I, Q, Z) := if_pos (Or.inr (Or.inr (Or.inr ⟨c4, c25⟩)))
        rw [hms] at C
        exact C _ (RA_R (by omega) hA)
theorem stB_1_0 {w : Nat → Bool} {d B R : Nat} {h : am_Hp} {I : sm_I} {Q : mQ} {Z : mZ} {P : Option Value → am_Hp → Prop} (hA : RA w B R [] true h (I, Q, Z)) (hR : R + 1 < 40000) {X : Nat} (hM : MID X (I, Q, Z)) (hX : X + 60 < 2 ^ 28) (hd : 5 ≤ d) (C : ∀ h', RA w B (R + 0) [] true h' (rdB 1 0 (I, Q, Z)) → am_Go (am_prog w) d am_c163 none 57 [some (.ref 62), some (.int 0), some (.int 2)] [] h' P) : am_Go (am_prog w) d am_c163 none 57 [some (.ref 62), some (.int 0), some (.int 1)] [] h P := by
  obtain ⟨K, Y, am, ln, hS, hU⟩ := RA_u.mp hA
  change sm (tbr am (13 * ln) 77 5088) h (jn I K) Y at hS
  obtain ⟨hW, hWm, -, -, hr, -⟩ := id hU.1
  have hln := RU_ln hU (by omega)
  have hp0 : prk I 0 := (hM.2.2.1 0 (by decide)).1
  have hp1 : prk I 1 := (hM.2.2.1 1 (by decide)).1
  have hp2 : prk I 2 := (hM.2.2.1 2 (by decide)).1
  rcases hp1 with e1 | e1 | e1
  · skip
    refine go_s (pc' := 58) rfl rfl rfl rfl ?_
    refine go_s (pc' := 59) (st' := [.int 3, .int 1]) rfl rfl rfl rfl ?_
    refine go_icmpP (t' := 113) (pc' := 60) rfl rfl rfl (fun (c : 3 ≤ (1 : Int32)) => absurd c (by decide)) (fun _ => ?_)
    refine go_s (pc' := 61) rfl rfl rfl rfl ?_
    refine go_sget (pc' := 62) (v := .ref 78) hS rfl rfl rfl (by decide) rfl rfl ?_
    refine go_s (pc' := 63) rfl rfl rfl rfl ?_
    refine go_sald (pc' := 64) (q := 1) (v := .int (-1)) hS rfl (tr_s hr (a := 78) rfl (by decide)) rfl rfl (by decide) (congrArg Value.int e1) rfl ?_
    refine go_s (pc' := 65) (st' := [.int (-1), .int (-1)]) rfl rfl rfl rfl ?_
    refine go_icmpP (t' := 111) (pc' := 66) rfl rfl rfl (fun _ => ?_) (fun (c : ¬ (((-1) : Int32) = (-1))) => absurd (by decide) c)
    refine go_s (pc' := 112) (lo' := [some (.ref 62), some (.int 0), some (.int 2)]) rfl rfl rfl rfl ?_
    refine go_s (pc' := 57) rfl rfl rfl rfl ?_
    have hms : rdB 1 0 (I, Q, Z) = (I, Q, Z) := if_pos (Or.inl e1)
    rw [hms] at C
    exact C _ (RA_R (by omega) hA)
  · skip
    refine go_s (pc' := 58) rfl rfl rfl rfl ?_
    refine go_s (pc' := 59) (st' := [.int 3, .int 1]) rfl rfl rfl rfl ?_
    refine go_icmpP (t' := 113) (pc' := 60) rfl rfl rfl (fun (c : 3 ≤ (1 : Int32)) => absurd c (by decide)) (fun _ => ?_)
    refine go_s (pc' := 61) rfl rfl rfl rfl ?_
    refine go_sget (pc' := 62) (v := .ref 78) hS rfl rfl rfl (by decide) rfl rfl ?_
    refine go_s (pc' := 63) rfl rfl rfl rfl ?_
    refine go_sald (pc' := 64) (q := 1) (v := .int 2) hS rfl (tr_s hr (a := 78) rfl (by decide)) rfl rfl (by decide) (congrArg Value.int e1) rfl ?_
    refine go_s (pc' := 65) (st' := [.int (-1), .int 2]) rfl rfl rfl rfl ?_
    refine go_icmpP (t' := 111) (pc' := 66) rfl rfl rfl (fun (c : (2 : Int32) = (-1)) => absurd c (by decide)) (fun _ => ?_)
    refine go_s (pc' := 67) rfl rfl rfl rfl ?_
    refine go_sget (pc' := 68) (v := .ref 78) hS rfl rfl rfl (by decide) rfl rfl ?_
    refine go_s (pc' := 69) rfl rfl rfl rfl ?_
    refine go_sald (pc' := 70) (q := 1) (v := .int 2) hS rfl (tr_s hr (a := 78) rfl (by decide)) rfl rfl (by decide) (congrArg Value.int e1) rfl ?_
    refine go_s (pc' := 71) rfl rfl rfl rfl ?_
    refine go_icmpP (t' := 111) (pc' := 72) rfl rfl rfl (fun (c : (2 : Int32) = 0) => absurd c (by decide)) (fun _ => ?_)
    refine go_s (pc' := 73) rfl rfl rfl rfl ?_
    refine go_s (pc' := 74) rfl rfl rfl rfl ?_
    refine go_callS (pc' := 75) rfl rfl rfl (Nat.le_of_ble_eq_true rfl) rfl rfl rfl (rt_ih_1_0 (by omega)) (fun r h2 q3 => ?_)
    obtain ⟨rfl, rfl⟩ := q3
    refine go_ifP (t' := 111) (pc' := 76) rfl rfl rfl (fun _ => ?_) (fun (c : ¬ ((0 : Int32) = 0)) => absurd (by decide) c)
    refine go_s (pc' := 112) (lo' := [some (.ref 62), some (.int 0), some (.int 2)]) rfl rfl rfl rfl ?_
    refine go_s (pc' := 57) rfl rfl rfl rfl ?_
    have hms : rdB 1 0 (I, Q, Z) = (I, Q, Z) := if_pos (Or.inr (Or.inr (Or.inl (by decide))))
    rw [hms] at C
    exact C _ (RA_R (by omega) hA)
  · skip
    refine go_s (pc' := 58) rfl rfl rfl rfl ?_
    refine go_s (pc' := 59) (st' := [.int 3, .int 1]) rfl rfl rfl rfl ?_
    refine go_icmpP (t' := 113) (pc' := 60) rfl rfl rfl (fun (c : 3 ≤ (1 : Int32)) => absurd c (by decide)) (fun _ => ?_)
    refine go_s (pc' := 61) rfl rfl rfl rfl ?_
    refine go_sget (pc' := 62) (v := .ref 78) hS rfl rfl rfl (by decide) rfl rfl ?_
    refine go_s (pc' := 63) rfl rfl rfl rfl ?_
    refine go_sald (pc' := 64) (q := 1) (v := .int 3) hS rfl (tr_s hr (a := 78) rfl (by decide)) rfl rfl (by decide) (congrArg Value.int e1) rfl ?_
    refine go_s (pc' := 65) (st' := [.int (-1), .int 3]) rfl rfl rfl rfl ?_
    refine go_icmpP (t' := 111) (pc' := 66) rfl rfl rfl (fun (c : (3 : Int32) = (-1)) => absurd c (by decide)) (fun _ => ?_)
    refine go_s (pc' := 67) rfl rfl rfl rfl ?_
    refine go_sget (pc' := 68) (v := .ref 78) hS rfl rfl rfl (by decide) rfl rfl ?_
    refine go_s (pc' := 69) rfl rfl rfl rfl ?_
    refine go_sald (pc' := 70) (q := 1) (v := .int 3) hS rfl (tr_s hr (a := 78) rfl (by decide)) rfl rfl (by decide) (congrArg Value.int e1) rfl ?_
    refine go_s (pc' := 71) rfl rfl rfl rfl ?_
    refine go_icmpP (t' := 111) (pc' := 72) rfl rfl rfl (fun (c : (3 : Int32) = 0) => absurd c (by decide)) (fun _ => ?_)
    refine go_s (pc' := 73) rfl rfl rfl rfl ?_
    refine go_s (pc' := 74) rfl rfl rfl rfl ?_
    refine go_callS (pc' := 75) rfl rfl rfl (Nat.le_of_ble_eq_true rfl) rfl rfl rfl (rt_ih_1_0 (by omega)) (fun r h4 q5 => ?_)
    obtain ⟨rfl, rfl⟩ := q5
    refine go_ifP (t' := 111) (pc' := 76) rfl rfl rfl (fun _ => ?_) (fun (c : ¬ ((0 : Int32) = 0)) => absurd (by decide) c)
    refine go_s (pc' := 112) (lo' := [some (.ref 62), some (.int 0), some (.int 2)]) rfl rfl rfl rfl ?_
    refine go_s (pc' := 57) rfl rfl rfl rfl ?_
    have hms : rdB 1 0 (I, Q, Z) = (I, Q, Z) := if_pos (Or.inr (Or.inr (Or.inl (by decide))))
    rw [hms] at C
    exact C _ (RA_R (by omega) hA)
theorem stB_2_0 {w : Nat → Bool} {d B R : Nat} {h : am_Hp} {I : sm_I} {Q : mQ} {Z : mZ} {P : Option Value → am_Hp → Prop} (hA : RA w B R [] true h (I, Q, Z)) (hR : R + 1 < 40000) {X : Nat} (hM : MID X (I, Q, Z)) (hX : X + 60 < 2 ^ 28) (hd : 5 ≤ d) (C : ∀ h', RA w B (R + 0) [] true h' (rdB 2 0 (I, Q, Z)) → am_Go (am_prog w) d am_c163 none 57 [some (.ref 62), some (.int 0), some (.int 3)] [] h' P) : am_Go (am_prog w) d am_c163 none 57 [some (.ref 62), some (.int 0), some (.int 2)] [] h P := by
  obtain ⟨K, Y, am, ln, hS, hU⟩ := RA_u.mp hA
  change sm (tbr am (13 * ln) 77 5088) h (jn I K) Y at hS
  obtain ⟨hW, hWm, -, -, hr, -⟩ := id hU.1
  have hln := RU_ln hU (by omega)
  have hp0 : prk I 0 := (hM.2.2.1 0 (by decide)).1
  have hp1 : prk I 1 := (hM.2.2.1 1 (by decide)).1
  have hp2 : prk I 2 := (hM.2.2.1 2 (by decide)).1
  rcases hp2 with e1 | e1 | e1
  · skip
    refine go_s (pc' := 58) rfl rfl rfl rfl ?_
    refine go_s (pc' := 59) (st' := [.int 3, .int 2]) rfl rfl rfl rfl ?_
    refine go_icmpP (t' := 113) (pc' := 60) rfl rfl rfl (fun (c : 3 ≤ (2 : Int32)) => absurd c (by decide)) (fun _ => ?_)
    refine go_s (pc' := 61) rfl rfl rfl rfl ?_
    refine go_sget (pc' := 62) (v := .ref 78) hS rfl rfl rfl (by decide) rfl rfl ?_
    refine go_s (pc' := 63) rfl rfl rfl rfl ?_
    refine go_sald (pc' := 64) (q := 2) (v := .int (-1)) hS rfl (tr_s hr (a := 78) rfl (by decide)) rfl rfl (by decide) (congrArg Value.int e1) rfl ?_
    refine go_s (pc' := 65) (st' := [.int (-1), .int (-1)]) rfl rfl rfl rfl ?_
    refine go_icmpP (t' := 111) (pc' := 66) rfl rfl rfl (fun _ => ?_) (fun (c : ¬ (((-1) : Int32) = (-1))) => absurd (by decide) c)
    refine go_s (pc' := 112) (lo' := [some (.ref 62), some (.int 0), some (.int 3)]) rfl rfl rfl rfl ?_
    refine go_s (pc' := 57) rfl rfl rfl rfl ?_
    have hms : rdB 2 0 (I, Q, Z) = (I, Q, Z) := if_pos (Or.inl e1)
    rw [hms] at C
    exact C _ (RA_R (by omega) hA)
  · skip
    refine go_s (pc' := 58) rfl rfl rfl rfl ?_
    refine go_s (pc' := 59) (st' := [.int 3, .int 2]) rfl rfl rfl rfl ?_
    refine go_icmpP (t' := 113) (pc' := 60) rfl rfl rfl (fun (c : 3 ≤ (2 : Int32)) => absurd c (by decide)) (fun _ => ?_)
    refine go_s (pc' := 61) rfl rfl rfl rfl ?_
    refine go_sget (pc' := 62) (v := .ref 78) hS rfl rfl rfl (by decide) rfl rfl ?_
    refine go_s (pc' := 63) rfl rfl rfl rfl ?_
    refine go_sald (pc' := 64) (q := 2) (v := .int 2) hS rfl (tr_s hr (a := 78) rfl (by decide)) rfl rfl (by decide) (congrArg Value.int e1) rfl ?_
    refine go_s (pc' := 65) (st' := [.int (-1), .int 2]) rfl rfl rfl rfl ?_
    refine go_icmpP (t' := 111) (pc' := 66) rfl rfl rfl (fun (c : (2 : Int32) = (-1)) => absurd c (by decide)) (fun _ => ?_)
    refine go_s (pc' := 67) rfl rfl rfl rfl ?_
    refine go_sget (pc' := 68) (v := .ref 78) hS rfl rfl rfl (by decide) rfl rfl ?_
    refine go_s (pc' := 69) rfl rfl rfl rfl ?_
    refine go_sald (pc' := 70) (q := 2) (v := .int 2) hS rfl (tr_s hr (a := 78) rfl (by decide)) rfl rfl (by decide) (congrArg Value.int e1) rfl ?_
    refine go_s (pc' := 71) rfl rfl rfl rfl ?_
    refine go_icmpP (t' := 111) (pc' := 72) rfl rfl rfl (fun (c : (2 : Int32) = 0) => absurd c (by decide)) (fun _ => ?_)
    refine go_s (pc' := 73) rfl rfl rfl rfl ?_
    refine go_s (pc' := 74) rfl rfl rfl rfl ?_
    refine go_callS (pc' := 75) rfl rfl rfl (Nat.le_of_ble_eq_true rfl) rfl rfl rfl (rt_ih_2_0 (by omega)) (fun r h2 q3 => ?_)
    obtain ⟨rfl, rfl⟩ := q3
    refine go_ifP (t' := 111) (pc' := 76) rfl rfl rfl (fun _ => ?_) (fun (c : ¬ ((0 : Int32) = 0)) => absurd (by decide) c)
    refine go_s (pc' := 112) (lo' := [some (.ref 62), some (.int 0), some (.int 3)]) rfl rfl rfl rfl ?_
    refine go_s (pc' := 57) rfl rfl rfl rfl ?_
    have hms : rdB 2 0 (I, Q, Z) = (I, Q, Z) := if_pos (Or.inr (Or.inr (Or.inl (by decide))))
    rw [hms] at C
    exact C _ (RA_R (by omega) hA)
  · skip
    refine go_s (pc' := 58) rfl rfl rfl rfl ?_
    refine go_s (pc' := 59) (st' := [.int 3, .int 2]) rfl rfl rfl rfl ?_
    refine go_icmpP (t' := 113) (pc' := 60) rfl rfl rfl (fun (c : 3 ≤ (2 : Int32)) => absurd c (by decide)) (fun _ => ?_)
    refine go_s (pc' := 61) rfl rfl rfl rfl ?_
    refine go_sget (pc' := 62) (v := .ref 78) hS rfl rfl rfl (by decide) rfl rfl ?_
    refine go_s (pc' := 63) rfl rfl rfl rfl ?_
    refine go_sald (pc' := 64) (q := 2) (v := .int 3) hS rfl (tr_s hr (a := 78) rfl (by decide)) rfl rfl (by decide) (congrArg Value.int e1) rfl ?_
    refine go_s (pc' := 65) (st' := [.int (-1), .int 3]) rfl rfl rfl rfl ?_
    refine go_icmpP (t' := 111) (pc' := 66) rfl rfl rfl (fun (c : (3 : Int32) = (-1)) => absurd c (by decide)) (fun _ => ?_)
    refine go_s (pc' := 67) rfl rfl rfl rfl ?_
    refine go_sget (pc' := 68) (v := .ref 78) hS rfl rfl rfl (by decide) rfl rfl ?_
    refine go_s (pc' := 69) rfl rfl rfl rfl ?_
    refine go_sald (pc' := 70) (q := 2) (v := .int 3) hS rfl (tr_s hr (a := 78) rfl (by decide)) rfl rfl (by decide) (congrArg Value.int e1) rfl ?_
    refine go_s (pc' := 71) rfl rfl rfl rfl ?_
    refine go_icmpP (t' := 111) (pc' := 72) rfl rfl rfl (fun (c : (3 : Int32) = 0) => absurd c (by decide)) (fun _ => ?_)
    refine go_s (pc' := 73) rfl rfl rfl rfl ?_
    refine go_s (pc' := 74) rfl rfl rfl rfl ?_
    refine go_callS (pc' := 75) rfl rfl rfl (Nat.le_of_ble_eq_true rfl) rfl rfl rfl (rt_ih_2_0 (by omega)) (fun r h4 q5 => ?_)
    obtain ⟨rfl, rfl⟩ := q5
    refine go_ifP (t' := 111) (pc' := 76) rfl rfl rfl (fun _ => ?_) (fun (c : ¬ ((0 : Int32) = 0)) => absurd (by decide) c)
    refine go_s (pc' := 112) (lo' := [some (.ref 62), some (.int 0), some (.int 3)]) rfl rfl rfl rfl ?_
    refine go_s (pc' := 57) rfl rfl rfl rfl ?_
    have hms : rdB 2 0 (I, Q, Z) = (I, Q, Z) := if_pos (Or.inr (Or.inr (Or.inl (by decide))))
    rw [hms] at C
    exact C _ (RA_R (by omega) hA)
theorem stB_0_1 {w : Nat → Bool} {d B R : Nat} {h : am_Hp} {I : sm_I} {Q : mQ} {Z : mZ} {P : Option Value → am_Hp → Prop} (hA : RA w B R [] true h (I, Q, Z)) (hR : R + 1 < 40000) {X : Nat} (hM : MID X (I, Q, Z)) (hX : X + 60 < 2 ^ 28) (hd : 5 ≤ d) (C : ∀ h', RA w B (R + 0) [] true h' (rdB 0 1 (I, Q, Z)) → am_Go (am_prog w) d am_c163 none 57 [some (.ref 62), some (.int 1), some (.int 1)] [] h' P) : am_Go (am_prog w) d am_c163 none 57 [some (.ref 62), some (.int 1), some (.int 0)] [] h P := by
  obtain ⟨K, Y, am, ln, hS, hU⟩ := RA_u.mp hA
  change sm (tbr am (13 * ln) 77 5088) h (jn I K) Y at hS
  obtain ⟨hW, hWm, -, -, hr, -⟩ := id hU.1
  have hln := RU_ln hU (by omega)
  have hp0 : prk I 0 := (hM.2.2.1 0 (by decide)).1
  have hp1 : prk I 1 := (hM.2.2.1 1 (by decide)).1
  have hp2 : prk I 2 := (hM.2.2.1 2 (by decide)).1
  rcases hp0 with e1 | e1 | e1
  · skip
    refine go_s (pc' := 58) rfl rfl rfl rfl ?_
    refine go_s (pc' := 59) (st' := [.int 3, .int 0]) rfl rfl rfl rfl ?_
    refine go_icmpP (t' := 113) (pc' := 60) rfl rfl rfl (fun (c : 3 ≤ (0 : Int32)) => absurd c (by decide)) (fun _ => ?_)
    refine go_s (pc' := 61) rfl rfl rfl rfl ?_
    refine go_sget (pc' := 62) (v := .ref 78) hS rfl rfl rfl (by decide) rfl rfl ?_
    refine go_s (pc' := 63) rfl rfl rfl rfl ?_
    refine go_sald (pc' := 64) (q := 0) (v := .int (-1)) hS rfl (tr_s hr (a := 78) rfl (by decide)) rfl rfl (by decide) (congrArg Value.int e1) rfl ?_
    refine go_s (pc' := 65) (st' := [.int (-1), .int (-1)]) rfl rfl rfl rfl ?_
    refine go_icmpP (t' := 111) (pc' := 66) rfl rfl rfl (fun _ => ?_) (fun (c : ¬ (((-1) : Int32) = (-1))) => absurd (by decide) c)
    refine go_s (pc' := 112) (lo' := [some (.ref 62), some (.int 1), some (.int 1)]) rfl rfl rfl rfl ?_
    refine go_s (pc' := 57) rfl rfl rfl rfl ?_
    have hms : rdB 0 1 (I, Q, Z) = (I, Q, Z) := if_pos (Or.inl e1)
    rw [hms] at C
    exact C _ (RA_R (by omega) hA)
  · skip
    refine go_s (pc' := 58) rfl rfl rfl rfl ?_
    refine go_s (pc' := 59) (st' := [.int 3, .int 0]) rfl rfl rfl rfl ?_
    refine go_icmpP (t' := 113) (pc' := 60) rfl rfl rfl (fun (c : 3 ≤ (0 : Int32)) => absurd c (by decide)) (fun _ => ?_)
    refine go_s (pc' := 61) rfl rfl rfl rfl ?_
    refine go_sget (pc' := 62) (v := .ref 78) hS rfl rfl rfl (by decide) rfl rfl ?_
    refine go_s (pc' := 63) rfl rfl rfl rfl ?_
    refine go_sald (pc' := 64) (q := 0) (v := .int 0) hS rfl (tr_s hr (a := 78) rfl (by decide)) rfl rfl (by decide) (congrArg Value.int e1) rfl ?_
    refine go_s (pc' := 65) (st' := [.int (-1), .int 0]) rfl rfl rfl rfl ?_
    refine go_icmpP (t' := 111) (pc' := 66) rfl rfl rfl (fun (c : (0 : Int32) = (-1)) => absurd c (by decide)) (fun _ => ?_)
    refine go_s (pc' := 67) rfl rfl rfl rfl ?_
    refine go_sget (pc' := 68) (v := .ref 78) hS rfl rfl rfl (by decide) rfl rfl ?_
    refine go_s (pc' := 69) rfl rfl rfl rfl ?_
    refine go_sald (pc' := 70) (q := 0) (v := .int 0) hS rfl (tr_s hr (a := 78) rfl (by decide)) rfl rfl (by decide) (congrArg Value.int e1) rfl ?_
    refine go_s (pc' := 71) rfl rfl rfl rfl ?_
    refine go_icmpP (t' := 111) (pc' := 72) rfl rfl rfl (fun (c : (0 : Int32) = 1) => absurd c (by decide)) (fun _ => ?_)
    refine go_s (pc' := 73) rfl rfl rfl rfl ?_
    refine go_s (pc' := 74) rfl rfl rfl rfl ?_
    refine go_callS (pc' := 75) rfl rfl rfl (Nat.le_of_ble_eq_true rfl) rfl rfl rfl (rt_ih_0_1 (by omega)) (fun r h2 q3 => ?_)
    obtain ⟨rfl, rfl⟩ := q3
    refine go_ifP (t' := 111) (pc' := 76) rfl rfl rfl (fun (c : (1 : Int32) = 0) => absurd c (by decide)) (fun _ => ?_)
    refine go_s (pc' := 77) rfl rfl rfl rfl ?_
    refine go_sget (pc' := 78) (v := .ref 79) hS rfl rfl rfl (by decide) rfl rfl ?_
    refine go_s (pc' := 79) rfl rfl rfl rfl ?_
    refine go_sald (pc' := 80) (q := 0) (v := .int (I 12 0)) hS rfl (tr_s hr (a := 79) rfl (by decide)) rfl rfl (by decide) rfl rfl ?_
    refine go_s (pc' := 81) (st' := [.int (-1), .int (I 12 0)]) rfl rfl rfl rfl ?_
    refine go_icmpP (t' := 88) (pc' := 82) rfl rfl rfl (fun (c4 : ¬ (I 12 0) = (-1)) => ?_) (fun (c4' : ¬ ¬ (I 12 0) = (-1)) => ?_)
    · skip
      refine go_s (pc' := 89) rfl rfl rfl rfl ?_
      refine go_sget (pc' := 90) (v := .ref 79) hS rfl rfl rfl (by decide) rfl rfl ?_
      refine go_s (pc' := 91) rfl rfl rfl rfl ?_
      refine go_s (pc' := 92) (st' := [.int (-1), .int 0, .ref 79]) rfl rfl rfl rfl ?_
      refine go_siast (pc' := 93) (q := 0) hS rfl (tr_s hr (a := 79) rfl (by decide)) tbr_inj (Nat.le_of_ble_eq_true rfl) rfl (by decide) (by decide) (hW _ (by decide) (by decide)) rfl (fun h5 hS6 hE7 => ?_)
      refine go_s (pc' := 94) rfl rfl rfl rfl ?_
      refine go_sget (pc' := 95) (v := .ref 80) hS6 rfl rfl rfl (by decide) rfl rfl ?_
      refine go_s (pc' := 96) rfl rfl rfl rfl ?_
      refine go_s (pc' := 97) (st' := [.int 0, .int 0, .ref 80]) rfl rfl rfl rfl ?_
      refine go_szast (pc' := 98) (q := 0) hS6 rfl (tr_s hr (a := 80) rfl (by decide)) tbr_inj (Nat.le_of_ble_eq_true rfl) rfl (by decide) (by decide) rfl (hW _ (by decide) (by decide)) rfl (fun h8 hS9 hE10 => ?_)
      have hE11 := sm_e_trans hE7 hE10
      refine go_s (pc' := 99) rfl rfl rfl rfl ?_
      refine go_s (pc' := 100) rfl rfl rfl rfl ?_
      refine go_callV (pc' := 101) rfl rfl rfl (Nat.le_of_ble_eq_true rfl) rfl (sm_o hS9 rfl) rfl rfl rfl (rt_lives_0 hr hS9 (Or.inr (Or.inl e1)) (by omega)) (fun r h12 q13 => ?_)
      obtain ⟨rfl, rfl⟩ := q13
      rw [show lv (uI (uI (jn I K) 12 0 (-1)) 13 0 0) 0 = lv (uI (uI I 12 0 (-1)) 13 0 0) 0 from rfl]
      cases u14 : lv (uI (uI I 12 0 (-1)) 13 0 0) 0
      · skip
        show am_Go _ _ _ _ 101 _ [.int 0] _ _
        refine go_ifP (t' := 111) (pc' := 102) rfl rfl rfl (fun _ => ?_) (fun (c : ¬ ((0 : Int32) = 0)) => absurd (by decide) c)
        refine go_s (pc' := 112) (lo' := [some (.ref 62), some (.int 1), some (.int 1)]) rfl rfl rfl rfl ?_
        refine go_s (pc' := 57) rfl rfl rfl rfl ?_
        change sm (tbr am (13 * ln) 77 5088) _ (uI (uI (jn I K) 12 0 (-1)) 13 0 0) Y at hS9
        rw [jn_lo (c := 12) (by decide), jn_lo (c := 13) (by decide)] at hS9
        have hU15 : RU w B R [] true h12 am ln K ((uI (uI I 12 0 (-1)) 13 0 0), Q, Z) := RU_I (hE11) (I' := (uI (uI I 12 0 (-1)) 13 0 0)) (fun _ => rfl) (fun _ => rfl) (Nat.le_refl _) hU
        have hA16 : RA w B R [] true h12 ((uI (uI I 12 0 (-1)) 13 0 0), Q, Z) := RA_u.mpr ⟨_, _, _, _, hS9, hU15⟩
        have hms : rdB 0 1 (I, Q, Z) = ((uI (uI I 12 0 (-1)) 13 0 0), Q, Z) := by
          unfold rdB
          rw [if_neg (fun z => z.elim (fun y => absurd (e1.symm.trans y) (by decide)) (fun z => z.elim (fun y => absurd (e1.symm.trans y) (by decide)) (fun z => z.elim (fun y => absurd y (by decide)) (fun y => c4 y.1))))]
          exact if_neg (fun y => by rw [show lv (((uI (uI I 12 0 (-1)) 13 0 0), Q, Z) : mM).1 0 = false from u14] at y; exact absurd y.1 (by decide))
        rw [hms] at C
        exact C _ (RA_R (by omega) hA16)
      · skip
        show am_Go _ _ _ _ 101 _ [.int 1] _ _
        refine go_ifP (t' := 111) (pc' := 102) rfl rfl rfl (fun (c : (1 : Int32) = 0) => absurd c (by decide)) (fun _ => ?_)
        refine go_s (pc' := 103) rfl rfl rfl rfl ?_
        refine go_sget (pc' := 104) (v := .ref 83) hS9 rfl rfl rfl (by decide) rfl rfl ?_
        refine go_s (pc' := 105) rfl rfl rfl rfl ?_
        refine go_sald (pc' := 106) (q := 0) (v := .int (I 16 0)) hS9 rfl (tr_s hr (a := 83) rfl (by decide)) rfl rfl (by decide) rfl rfl ?_
        refine go_s (pc' := 107) (st' := [.int 1, .int (I 16 0)]) rfl rfl rfl rfl ?_
        refine go_icmpP (t' := 111) (pc' := 108) rfl rfl rfl (fun (c17 : ¬ (I 16 0) = 1) => ?_) (fun (c17' : ¬ ¬ (I 16 0) = 1) => ?_)
        · skip
          refine go_s (pc' := 112) (lo' := [some (.ref 62), some (.int 1), some (.int 1)]) rfl rfl rfl rfl ?_
          refine go_s (pc' := 57) rfl rfl rfl rfl ?_
          change sm (tbr am (13 * ln) 77 5088) _ (uI (uI (jn I K) 12 0 (-1)) 13 0 0) Y at hS9
          rw [jn_lo (c := 12) (by decide), jn_lo (c := 13) (by decide)] at hS9
          have hU18 : RU w B R [] true h12 am ln K ((uI (uI I 12 0 (-1)) 13 0 0), Q, Z) := RU_I (hE11) (I' := (uI (uI I 12 0 (-1)) 13 0 0)) (fun _ => rfl) (fun _ => rfl) (Nat.le_refl _) hU
          have hA19 : RA w B R [] true h12 ((uI (uI I 12 0 (-1)) 13 0 0), Q, Z) := RA_u.mpr ⟨_, _, _, _, hS9, hU18⟩
          have hms : rdB 0 1 (I, Q, Z) = ((uI (uI I 12 0 (-1)) 13 0 0), Q, Z) := by
            unfold rdB
            rw [if_neg (fun z => z.elim (fun y => absurd (e1.symm.trans y) (by decide)) (fun z => z.elim (fun y => absurd (e1.symm.trans y) (by decide)) (fun z => z.elim (fun y => absurd y (by decide)) (fun y => c4 y.1))))]
            exact if_neg (fun y => c17 y.2)
          rw [hms] at C
          exact C _ (RA_R (by omega) hA19)
        · skip
          have c17 : (I 16 0) = 1 := Decidable.not_not.mp c17'
          refine go_s (pc' := 109) rfl rfl rfl rfl ?_
          refine go_s (pc' := 110) rfl rfl rfl rfl ?_
          change sm (tbr am (13 * ln) 77 5088) _ (uI (uI (jn I K) 12 0 (-1)) 13 0 0) Y at hS9
          rw [jn_lo (c := 12) (by decide), jn_lo (c := 13) (by decide)] at hS9
          have hU20 : RU w B R [] true h12 am ln K ((uI (uI I 12 0 (-1)) 13 0 0), Q, Z) := RU_I (hE11) (I' := (uI (uI I 12 0 (-1)) 13 0 0)) (fun _ => rfl) (fun _ => rfl) (Nat.le_refl _) hU
          have hA21 : RA w B R [] true h12 ((uI (uI I 12 0 (-1)) 13 0 0), Q, Z) := RA_u.mpr ⟨_, _, _, _, hS9, hU20⟩
          refine go_callV (pc' := 111) rfl rfl rfl (Nat.le_of_ble_eq_true rfl) rfl (sm_o hS9 rfl) rfl rfl rfl (ra_go_0 hA21 (by omega) (by omega)) (fun r h22 q23 => ?_)
          obtain ⟨rfl, hA24⟩ := q23
          refine go_s (pc' := 112) (lo' := [some (.ref 62), some (.int 1), some (.int 1)]) rfl rfl rfl rfl ?_
          refine go_s (pc' := 57) rfl rfl rfl rfl ?_
          have hms : rdB 0 1 (I, Q, Z) = rgo 0 ((uI (uI I 12 0 (-1)) 13 0 0), Q, Z) := by
            unfold rdB
            rw [if_neg (fun z => z.elim (fun y => absurd (e1.symm.trans y) (by decide)) (fun z => z.elim (fun y => absurd (e1.symm.trans y) (by decide)) (fun z => z.elim (fun y => absurd y (by decide)) (fun y => c4 y.1))))]
            exact if_pos ⟨u14, c17⟩
          rw [hms] at C
          exact C _ (RA_R (by omega) hA24)
    · skip
      have c4 : (I 12 0) = (-1) := Decidable.not_not.mp c4'
      refine go_s (pc' := 83) rfl rfl rfl rfl ?_
      refine go_sget (pc' := 84) (v := .ref 80) hS rfl rfl rfl (by decide) rfl rfl ?_
      refine go_s (pc' := 85) rfl rfl rfl rfl ?_
      refine go_sald (pc' := 86) (q := 0) (v := .int (I 13 0)) hS rfl (tr_s hr (a := 80) rfl (by decide)) rfl rfl (by decide) rfl rfl ?_
      refine go_ifP (t' := 88) (pc' := 87) rfl rfl rfl (fun (c25 : ¬ (I 13 0) = 0) => ?_) (fun (c25' : ¬ ¬ (I 13 0) = 0) => ?_)
      · skip
        refine go_s (pc' := 89) rfl rfl rfl rfl ?_
        refine go_sget (pc' := 90) (v := .ref 79) hS rfl rfl rfl (by decide) rfl rfl ?_
        refine go_s (pc' := 91) rfl rfl rfl rfl ?_
        refine go_s (pc' := 92) (st' := [.int (-1), .int 0, .ref 79]) rfl rfl rfl rfl ?_
        refine go_siast (pc' := 93) (q := 0) hS rfl (tr_s hr (a := 79) rfl (by decide)) tbr_inj (Nat.le_of_ble_eq_true rfl) rfl (by decide) (by decide) (hW _ (by decide) (by decide)) rfl (fun h26 hS27 hE28 => ?_)
        refine go_s (pc' := 94) rfl rfl rfl rfl ?_
        refine go_sget (pc' := 95) (v := .ref 80) hS27 rfl rfl rfl (by decide) rfl rfl ?_
        refine go_s (pc' := 96) rfl rfl rfl rfl ?_
        refine go_s (pc' := 97) (st' := [.int 0, .int 0, .ref 80]) rfl rfl rfl rfl ?_
        refine go_szast (pc' := 98) (q := 0) hS27 rfl (tr_s hr (a := 80) rfl (by decide)) tbr_inj (Nat.le_of_ble_eq_true rfl) rfl (by decide) (by decide) rfl (hW _ (by decide) (by decide)) rfl (fun h29 hS30 hE31 => ?_)
        have hE32 := sm_e_trans hE28 hE31
        refine go_s (pc' := 99) rfl rfl rfl rfl ?_
        refine go_s (pc' := 100) rfl rfl rfl rfl ?_
        refine go_callV (pc' := 101) rfl rfl rfl (Nat.le_of_ble_eq_true rfl) rfl (sm_o hS30 rfl) rfl rfl rfl (rt_lives_0 hr hS30 (Or.inr (Or.inl e1)) (by omega)) (fun r h33 q34 => ?_)
        obtain ⟨rfl, rfl⟩ := q34
        rw [show lv (uI (uI (jn I K) 12 0 (-1)) 13 0 0) 0 = lv (uI (uI I 12 0 (-1)) 13 0 0) 0 from rfl]
        cases u35 : lv (uI (uI I 12 0 (-1)) 13 0 0) 0
        · skip
          show am_Go _ _ _ _ 101 _ [.int 0] _ _
          refine go_ifP (t' := 111) (pc' := 102) rfl rfl rfl (fun _ => ?_) (fun (c : ¬ ((0 : Int32) = 0)) => absurd (by decide) c)
          refine go_s (pc' := 112) (lo' := [some (.ref 62), some (.int 1), some (.int 1)]) rfl rfl rfl rfl ?_
          refine go_s (pc' := 57) rfl rfl rfl rfl ?_
          change sm (tbr am (13 * ln) 77 5088) _ (uI (uI (jn I K) 12 0 (-1)) 13 0 0) Y at hS30
          rw [jn_lo (c := 12) (by decide), jn_lo (c := 13) (by decide)] at hS30
          have hU36 : RU w B R [] true h33 am ln K ((uI (uI I 12 0 (-1)) 13 0 0), Q, Z) := RU_I (hE32) (I' := (uI (uI I 12 0 (-1)) 13 0 0)) (fun _ => rfl) (fun _ => rfl) (Nat.le_refl _) hU
          have hA37 : RA w B R [] true h33 ((uI (uI I 12 0 (-1)) 13 0 0), Q, Z) := RA_u.mpr ⟨_, _, _, _, hS30, hU36⟩
          have hms : rdB 0 1 (I, Q, Z) = ((uI (uI I 12 0 (-1)) 13 0 0), Q, Z) := by
            unfold rdB
            rw [if_neg (fun z => z.elim (fun y => absurd (e1.symm.trans y) (by decide)) (fun z => z.elim (fun y => absurd (e1.symm.trans y) (by decide)) (fun z => z.elim (fun y => absurd y (by decide)) (fun y => c25 y.2))))]
            exact if_neg (fun y => by rw [show lv (((uI (uI I 12 0 (-1)) 13 0 0), Q, Z) : mM).1 0 = false from u35] at y; exact absurd y.1 (by decide))
          rw [hms] at C
          exact C _ (RA_R (by omega) hA37)
        · skip
          show am_Go _ _ _ _ 101 _ [.int 1] _ _
          refine go_ifP (t' := 111) (pc' := 102) rfl rfl rfl (fun (c : (1 : Int32) = 0) => absurd c (by decide)) (fun _ => ?_)
          refine go_s (pc' := 103) rfl rfl rfl rfl ?_
          refine go_sget (pc' := 104) (v := .ref 83) hS30 rfl rfl rfl (by decide) rfl rfl ?_
          refine go_s (pc' := 105) rfl rfl rfl rfl ?_
          refine go_sald (pc' := 106) (q := 0) (v := .int (I 16 0)) hS30 rfl (tr_s hr (a := 83) rfl (by decide)) rfl rfl (by decide) rfl rfl ?_
          refine go_s (pc' := 107) (st' := [.int 1, .int (I 16 0)]) rfl rfl rfl rfl ?_
          refine go_icmpP (t' := 111) (pc' := 108) rfl rfl rfl (fun (c38 : ¬ (I 16 0) = 1) => ?_) (fun (c38' : ¬ ¬ (I 16 0) = 1) => ?_)
          · skip
            refine go_s (pc' := 112) (lo' := [some (.ref 62), some (.int 1), some (.int 1)]) rfl rfl rfl rfl ?_
            refine go_s (pc' := 57) rfl rfl rfl rfl ?_
            change sm (tbr am (13 * ln) 77 5088) _ (uI (uI (jn I K) 12 0 (-1)) 13 0 0) Y at hS30
            rw [jn_lo (c := 12) (by decide), jn_lo (c := 13) (by decide)] at hS30
            have hU39 : RU w B R [] true h33 am ln K ((uI (uI I 12 0 (-1)) 13 0 0), Q, Z) := RU_I (hE32) (I' := (uI (uI I 12 0 (-1)) 13 0 0)) (fun _ => rfl) (fun _ => rfl) (Nat.le_refl _) hU
            have hA40 : RA w B R [] true h33 ((uI (uI I 12 0 (-1)) 13 0 0), Q, Z) := RA_u.mpr ⟨_, _, _, _, hS30, hU39⟩
            have hms : rdB 0 1 (I, Q, Z) = ((uI (uI I 12 0 (-1)) 13 0 0), Q, Z) := by
              unfold rdB
              rw [if_neg (fun z => z.elim (fun y => absurd (e1.symm.trans y) (by decide)) (fun z => z.elim (fun y => absurd (e1.symm.trans y) (by decide)) (fun z => z.elim (fun y => absurd y (by decide)) (fun y => c25 y.2))))]
              exact if_neg (fun y => c38 y.2)
            rw [hms] at C
            exact C _ (RA_R (by omega) hA40)
          · skip
            have c38 : (I 16 0) = 1 := Decidable.not_not.mp c38'
            refine go_s (pc' := 109) rfl rfl rfl rfl ?_
            refine go_s (pc' := 110) rfl rfl rfl rfl ?_
            change sm (tbr am (13 * ln) 77 5088) _ (uI (uI (jn I K) 12 0 (-1)) 13 0 0) Y at hS30
            rw [jn_lo (c := 12) (by decide), jn_lo (c := 13) (by decide)] at hS30
            have hU41 : RU w B R [] true h33 am ln K ((uI (uI I 12 0 (-1)) 13 0 0), Q, Z) := RU_I (hE32) (I' := (uI (uI I 12 0 (-1)) 13 0 0)) (fun _ => rfl) (fun _ => rfl) (Nat.le_refl _) hU
            have hA42 : RA w B R [] true h33 ((uI (uI I 12 0 (-1)) 13 0 0), Q, Z) := RA_u.mpr ⟨_, _, _, _, hS30, hU41⟩
            refine go_callV (pc' := 111) rfl rfl rfl (Nat.le_of_ble_eq_true rfl) rfl (sm_o hS30 rfl) rfl rfl rfl (ra_go_0 hA42 (by omega) (by omega)) (fun r h43 q44 => ?_)
            obtain ⟨rfl, hA45⟩ := q44
            refine go_s (pc' := 112) (lo' := [some (.ref 62), some (.int 1), some (.int 1)]) rfl rfl rfl rfl ?_
            refine go_s (pc' := 57) rfl rfl rfl rfl ?_
            have hms : rdB 0 1 (I, Q, Z) = rgo 0 ((uI (uI I 12 0 (-1)) 13 0 0), Q, Z) := by
              unfold rdB
              rw [if_neg (fun z => z.elim (fun y => absurd (e1.symm.trans y) (by decide)) (fun z => z.elim (fun y => absurd (e1.symm.trans y) (by decide)) (fun z => z.elim (fun y => absurd y (by decide)) (fun y => c25 y.2))))]
              exact if_pos ⟨u35, c38⟩
            rw [hms] at C
            exact C _ (RA_R (by omega) hA45)
      · skip
        have c25 : (I 13 0) = 0 := Decidable.not_not.mp c25'
        refine go_s (pc' := 111) rfl rfl rfl rfl ?_
        refine go_s (pc' := 112) (lo' := [some (.ref 62), some (.int 1), some (.int 1)]) rfl rfl rfl rfl ?_
        refine go_s (pc' := 57) rfl rfl rfl rfl ?_
        have hms : rdB 0 1 (I, Q, Z) = (I, Q, Z) := if_pos (Or.inr (Or.inr (Or.inr ⟨c4, c25⟩)))
        rw [hms] at C
        exact C _ (RA_R (by omega) hA)
  · skip
    refine go_s (pc' := 58) rfl rfl rfl rfl ?_
    refine go_s (pc' := 59) (st' := [.int 3, .int 0]) rfl rfl rfl rfl ?_
    refine go_icmpP (t' := 113) (pc' := 60) rfl rfl rfl (fun (c : 3 ≤ (0 : Int32)) => absurd c (by decide)) (fun _ => ?_)
    refine go_s (pc' := 61) rfl rfl rfl rfl ?_
    refine go_sget (pc' := 62) (v := .ref 78) hS rfl rfl rfl (by decide) rfl rfl ?_
    refine go_s (pc' := 63) rfl rfl rfl rfl ?_
    refine go_sald (pc' := 64) (q := 0) (v := .int 1) hS rfl (tr_s hr (a := 78) rfl (by decide)) rfl rfl (by decide) (congrArg Value.int e1) rfl ?_
    refine go_s (pc' := 65) (st' := [.int (-1), .int 1]) rfl rfl rfl rfl ?_
    refine go_icmpP (t' := 111) (pc' := 66) rfl rfl rfl (fun (c : (1 : Int32) = (-1)) => absurd c (by decide)) (fun _ => ?_)
    refine go_s (pc' := 67) rfl rfl rfl rfl ?_
    refine go_sget (pc' := 68) (v := .ref 78) hS rfl rfl rfl (by decide) rfl rfl ?_
    refine go_s (pc' := 69) rfl rfl rfl rfl ?_
    refine go_sald (pc' := 70) (q := 0) (v := .int 1) hS rfl (tr_s hr (a := 78) rfl (by decide)) rfl rfl (by decide) (congrArg Value.int e1) rfl ?_
    refine go_s (pc' := 71) rfl rfl rfl rfl ?_
    refine go_icmpP (t' := 111) (pc' := 72) rfl rfl rfl (fun _ => ?_) (fun (c : ¬ ((1 : Int32) = 1)) => absurd (by decide) c)
    refine go_s (pc' := 112) (lo' := [some (.ref 62), some (.int 1), some (.int 1)]) rfl rfl rfl rfl ?_
    refine go_s (pc' := 57) rfl rfl rfl rfl ?_
    have hms : rdB 0 1 (I, Q, Z) = (I, Q, Z) := if_pos (Or.inr (Or.inl e1))
    rw [hms] at C
    exact C _ (RA_R (by omega) hA)
theorem stB_1_1 {w : Nat → Bool} {d B R : Nat} {h : am_Hp} {I : sm_I} {Q : mQ} {Z : mZ} {P : Option Value → am_Hp → Prop} (hA : RA w B R [] true h (I, Q, Z)) (hR : R + 1 < 40000) {X : Nat} (hM : MID X (I, Q, Z)) (hX : X + 60 < 2 ^ 28) (hd : 5 ≤ d) (C : ∀ h', RA w B (R + 0) [] true h' (rdB 1 1 (I, Q, Z)) → am_Go (am_prog w) d am_c163 none 57 [some (.ref 62), some (.int 1), some (.int 2)] [] h' P) : am_Go (am_prog w) d am_c163 none 57 [some (.ref 62), some (.int 1), some (.int 1)] [] h P := by
  obtain ⟨K, Y, am, ln, hS, hU⟩ := RA_u.mp hA
  change sm (tbr am (13 * ln) 77 5088) h (jn I K) Y at hS
  obtain ⟨hW, hWm, -, -, hr, -⟩ := id hU.1
  have hln := RU_ln hU (by omega)
  have hp0 : prk I 0 := (hM.2.2.1 0 (by decide)).1
  have hp1 : prk I 1 := (hM.2.2.1 1 (by decide)).1
  have hp2 : prk I 2 := (hM.2.2.1 2 (by decide)).1
  rcases hp1 with e1 | e1 | e1
  · skip
    refine go_s (pc' := 58) rfl rfl rfl rfl ?_
    refine go_s (pc' := 59) (st' := [.int 3, .int 1]) rfl rfl rfl rfl ?_
    refine go_icmpP (t' := 113) (pc' := 60) rfl rfl rfl (fun (c : 3 ≤ (1 : Int32)) => absurd c (by decide)) (fun _ => ?_)
    refine go_s (pc' := 61) rfl rfl rfl rfl ?_
    refine go_sget (pc' := 62) (v := .ref 78) hS rfl rfl rfl (by decide) rfl rfl ?_
    refine go_s (pc' := 63) rfl rfl rfl rfl ?_
    refine go_sald (pc' := 64) (q := 1) (v := .int (-1)) hS rfl (tr_s hr (a := 78) rfl (by decide)) rfl rfl (by decide) (congrArg Value.int e1) rfl ?_
    refine go_s (pc' := 65) (st' := [.int (-1), .int (-1)]) rfl rfl rfl rfl ?_
    refine go_icmpP (t' := 111) (pc' := 66) rfl rfl rfl (fun _ => ?_) (fun (c : ¬ (((-1) : Int32) = (-1))) => absurd (by decide) c)
    refine go_s (pc' := 112) (lo' := [some (.ref 62), some (.int 1), some (.int 2)]) rfl rfl rfl rfl ?_
    refine go_s (pc' := 57) rfl rfl rfl rfl ?_
    have hms : rdB 1 1 (I, Q, Z) = (I, Q, Z) := if_pos (Or.inl e1)
    rw [hms] at C
    exact C _ (RA_R (by omega) hA)
  · skip
    refine go_s (pc' := 58) rfl rfl rfl rfl ?_
    refine go_s (pc' := 59) (st' := [.int 3, .int 1]) rfl rfl rfl rfl ?_
    refine go_icmpP (t' := 113) (pc' := 60) rfl rfl rfl (fun (c : 3 ≤ (1 : Int32)) => absurd c (by decide)) (fun _ => ?_)
    refine go_s (pc' := 61) rfl rfl rfl rfl ?_
    refine go_sget (pc' := 62) (v := .ref 78) hS rfl rfl rfl (by decide) rfl rfl ?_
    refine go_s (pc' := 63) rfl rfl rfl rfl ?_
    refine go_sald (pc' := 64) (q := 1) (v := .int 2) hS rfl (tr_s hr (a := 78) rfl (by decide)) rfl rfl (by decide) (congrArg Value.int e1) rfl ?_
    refine go_s (pc' := 65) (st' := [.int (-1), .int 2]) rfl rfl rfl rfl ?_
    refine go_icmpP (t' := 111) (pc' := 66) rfl rfl rfl (fun (c : (2 : Int32) = (-1)) => absurd c (by decide)) (fun _ => ?_)
    refine go_s (pc' := 67) rfl rfl rfl rfl ?_
    refine go_sget (pc' := 68) (v := .ref 78) hS rfl rfl rfl (by decide) rfl rfl ?_
    refine go_s (pc' := 69) rfl rfl rfl rfl ?_
    refine go_sald (pc' := 70) (q := 1) (v := .int 2) hS rfl (tr_s hr (a := 78) rfl (by decide)) rfl rfl (by decide) (congrArg Value.int e1) rfl ?_
    refine go_s (pc' := 71) rfl rfl rfl rfl ?_
    refine go_icmpP (t' := 111) (pc' := 72) rfl rfl rfl (fun (c : (2 : Int32) = 1) => absurd c (by decide)) (fun _ => ?_)
    refine go_s (pc' := 73) rfl rfl rfl rfl ?_
    refine go_s (pc' := 74) rfl rfl rfl rfl ?_
    refine go_callS (pc' := 75) rfl rfl rfl (Nat.le_of_ble_eq_true rfl) rfl rfl rfl (rt_ih_1_1 (by omega)) (fun r h2 q3 => ?_)
    obtain ⟨rfl, rfl⟩ := q3
    refine go_ifP (t' := 111) (pc' := 76) rfl rfl rfl (fun _ => ?_) (fun (c : ¬ ((0 : Int32) = 0)) => absurd (by decide) c)
    refine go_s (pc' := 112) (lo' := [some (.ref 62), some (.int 1), some (.int 2)]) rfl rfl rfl rfl ?_
    refine go_s (pc' := 57) rfl rfl rfl rfl ?_
    have hms : rdB 1 1 (I, Q, Z) = (I, Q, Z) := if_pos (Or.inr (Or.inr (Or.inl (by decide))))
    rw [hms] at C
    exact C _ (RA_R (by omega) hA)
  · skip
    refine go_s (pc' := 58) rfl rfl rfl rfl ?_
    refine go_s (pc' := 59) (st' := [.int 3, .int 1]) rfl rfl rfl rfl ?_
    refine go_icmpP (t' := 113) (pc' := 60) rfl rfl rfl (fun (c : 3 ≤ (1 : Int32)) => absurd c (by decide)) (fun _ => ?_)
    refine go_s (pc' := 61) rfl rfl rfl rfl ?_
    refine go_sget (pc' := 62) (v := .ref 78) hS rfl rfl rfl (by decide) rfl rfl ?_
    refine go_s (pc' := 63) rfl rfl rfl rfl ?_
    refine go_sald (pc' := 64) (q := 1) (v := .int 3) hS rfl (tr_s hr (a := 78) rfl (by decide)) rfl rfl (by decide) (congrArg Value.int e1) rfl ?_
    refine go_s (pc' := 65) (st' := [.int (-1), .int 3]) rfl rfl rfl rfl ?_
    refine go_icmpP (t' := 111) (pc' := 66) rfl rfl rfl (fun (c : (3 : Int32) = (-1)) => absurd c (by decide)) (fun _ => ?_)
    refine go_s (pc' := 67) rfl rfl rfl rfl ?_
    refine go_sget (pc' := 68) (v := .ref 78) hS rfl rfl rfl (by decide) rfl rfl ?_
    refine go_s (pc' := 69) rfl rfl rfl rfl ?_
    refine go_sald (pc' := 70) (q := 1) (v := .int 3) hS rfl (tr_s hr (a := 78) rfl (by decide)) rfl rfl (by decide) (congrArg Value.int e1) rfl ?_
    refine go_s (pc' := 71) rfl rfl rfl rfl ?_
    refine go_icmpP (t' := 111) (pc' := 72) rfl rfl rfl (fun (c : (3 : Int32) = 1) => absurd c (by decide)) (fun _ => ?_)
    refine go_s (pc' := 73) rfl rfl rfl rfl ?_
    refine go_s (pc' := 74) rfl rfl rfl rfl ?_
    refine go_callS (pc' := 75) rfl rfl rfl (Nat.le_of_ble_eq_true rfl) rfl rfl rfl (rt_ih_1_1 (by omega)) (fun r h4 q5 => ?_)
    obtain ⟨rfl, rfl⟩ := q5
    refine go_ifP (t' := 111) (pc' := 76) rfl rfl rfl (fun _ => ?_) (fun (c : ¬ ((0 : Int32) = 0)) => absurd (by decide) c)
    refine go_s (pc' := 112) (lo' := [some (.ref 62), some (.int 1), some (.int 2)]) rfl rfl rfl rfl ?_
    refine go_s (pc' := 57) rfl rfl rfl rfl ?_
    have hms : rdB 1 1 (I, Q, Z) = (I, Q, Z) := if_pos (Or.inr (Or.inr (Or.inl (by decide))))
    rw [hms] at C
    exact C _ (RA_R (by omega) hA)
theorem stB_2_1 {w : Nat → Bool} {d B R : Nat} {h : am_Hp} {I : sm_I} {Q : mQ} {Z : mZ} {P : Option Value → am_Hp → Prop} (hA : RA w B R [] true h (I, Q, Z)) (hR : R + 1 < 40000) {X : Nat} (hM : MID X (I, Q, Z)) (hX : X + 60 < 2 ^ 28) (hd : 5 ≤ d) (C : ∀ h', RA w B (R + 0) [] true h' (rdB 2 1 (I, Q, Z)) → am_Go (am_prog w) d am_c163 none 57 [some (.ref 62), some (.int 1), some (.int 3)] [] h' P) : am_Go (am_prog w) d am_c163 none 57 [some (.ref 62), some (.int 1), some (.int 2)] [] h P := by
  obtain ⟨K, Y, am, ln, hS, hU⟩ := RA_u.mp hA
  change sm (tbr am (13 * ln) 77 5088) h (jn I K) Y at hS
  obtain ⟨hW, hWm, -, -, hr, -⟩ := id hU.1
  have hln := RU_ln hU (by omega)
  have hp0 : prk I 0 := (hM.2.2.1 0 (by decide)).1
  have hp1 : prk I 1 := (hM.2.2.1 1 (by decide)).1
  have hp2 : prk I 2 := (hM.2.2.1 2 (by decide)).1
  rcases hp2 with e1 | e1 | e1
  · skip
    refine go_s (pc' := 58) rfl rfl rfl rfl ?_
    refine go_s (pc' := 59) (st' := [.int 3, .int 2]) rfl rfl rfl rfl ?_
    refine go_icmpP (t' := 113) (pc' := 60) rfl rfl rfl (fun (c : 3 ≤ (2 : Int32)) => absurd c (by decide)) (fun _ => ?_)
    refine go_s (pc' := 61) rfl rfl rfl rfl ?_
    refine go_sget (pc' := 62) (v := .ref 78) hS rfl rfl rfl (by decide) rfl rfl ?_
    refine go_s (pc' := 63) rfl rfl rfl rfl ?_
    refine go_sald (pc' := 64) (q := 2) (v := .int (-1)) hS rfl (tr_s hr (a := 78) rfl (by decide)) rfl rfl (by decide) (congrArg Value.int e1) rfl ?_
    refine go_s (pc' := 65) (st' := [.int (-1), .int (-1)]) rfl rfl rfl rfl ?_
    refine go_icmpP (t' := 111) (pc' := 66) rfl rfl rfl (fun _ => ?_) (fun (c : ¬ (((-1) : Int32) = (-1))) => absurd (by decide) c)
    refine go_s (pc' := 112) (lo' := [some (.ref 62), some (.int 1), some (.int 3)]) rfl rfl rfl rfl ?_
    refine go_s (pc' := 57) rfl rfl rfl rfl ?_
    have hms : rdB 2 1 (I, Q, Z) = (I, Q, Z) := if_pos (Or.inl e1)
    rw [hms] at C
    exact C _ (RA_R (by omega) hA)
  · skip
    refine go_s (pc' := 58) rfl rfl rfl rfl ?_
    refine go_s (pc' := 59) (st' := [.int 3, .int 2]) rfl rfl rfl rfl ?_
    refine go_icmpP (t' := 113) (pc' := 60) rfl rfl rfl (fun (c : 3 ≤ (2 : Int32)) => absurd c (by decide)) (fun _ => ?_)
    refine go_s (pc' := 61) rfl rfl rfl rfl ?_
    refine go_sget (pc' := 62) (v := .ref 78) hS rfl rfl rfl (by decide) rfl rfl ?_
    refine go_s (pc' := 63) rfl rfl rfl rfl ?_
    refine go_sald (pc' := 64) (q := 2) (v := .int 2) hS rfl (tr_s hr (a := 78) rfl (by decide)) rfl rfl (by decide) (congrArg Value.int e1) rfl ?_
    refine go_s (pc' := 65) (st' := [.int (-1), .int 2]) rfl rfl rfl rfl ?_
    refine go_icmpP (t' := 111) (pc' := 66) rfl rfl rfl (fun (c : (2 : Int32) = (-1)) => absurd c (by decide)) (fun _ => ?_)
    refine go_s (pc' := 67) rfl rfl rfl rfl ?_
    refine go_sget (pc' := 68) (v := .ref 78) hS rfl rfl rfl (by decide) rfl rfl ?_
    refine go_s (pc' := 69) rfl rfl rfl rfl ?_
    refine go_sald (pc' := 70) (q := 2) (v := .int 2) hS rfl (tr_s hr (a := 78) rfl (by decide)) rfl rfl (by decide) (congrArg Value.int e1) rfl ?_
    refine go_s (pc' := 71) rfl rfl rfl rfl ?_
    refine go_icmpP (t' := 111) (pc' := 72) rfl rfl rfl (fun (c : (2 : Int32) = 1) => absurd c (by decide)) (fun _ => ?_)
    refine go_s (pc' := 73) rfl rfl rfl rfl ?_
    refine go_s (pc' := 74) rfl rfl rfl rfl ?_
    refine go_callS (pc' := 75) rfl rfl rfl (Nat.le_of_ble_eq_true rfl) rfl rfl rfl (rt_ih_2_1 (by omega)) (fun r h2 q3 => ?_)
    obtain ⟨rfl, rfl⟩ := q3
    refine go_ifP (t' := 111) (pc' := 76) rfl rfl rfl (fun _ => ?_) (fun (c : ¬ ((0 : Int32) = 0)) => absurd (by decide) c)
    refine go_s (pc' := 112) (lo' := [some (.ref 62), some (.int 1), some (.int 3)]) rfl rfl rfl rfl ?_
    refine go_s (pc' := 57) rfl rfl rfl rfl ?_
    have hms : rdB 2 1 (I, Q, Z) = (I, Q, Z) := if_pos (Or.inr (Or.inr (Or.inl (by decide))))
    rw [hms] at C
    exact C _ (RA_R (by omega) hA)
  · skip
    refine go_s (pc' := 58) rfl rfl rfl rfl ?_
    refine go_s (pc' := 59) (st' := [.int 3, .int 2]) rfl rfl rfl rfl ?_
    refine go_icmpP (t' := 113) (pc' := 60) rfl rfl rfl (fun (c : 3 ≤ (2 : Int32)) => absurd c (by decide)) (fun _ => ?_)
    refine go_s (pc' := 61) rfl rfl rfl rfl ?_
    refine go_sget (pc' := 62) (v := .ref 78) hS rfl rfl rfl (by decide) rfl rfl ?_
    refine go_s (pc' := 63) rfl rfl rfl rfl ?_
    refine go_sald (pc' := 64) (q := 2) (v := .int 3) hS rfl (tr_s hr (a := 78) rfl (by decide)) rfl rfl (by decide) (congrArg Value.int e1) rfl ?_
    refine go_s (pc' := 65) (st' := [.int (-1), .int 3]) rfl rfl rfl rfl ?_
    refine go_icmpP (t' := 111) (pc' := 66) rfl rfl rfl (fun (c : (3 : Int32) = (-1)) => absurd c (by decide)) (fun _ => ?_)
    refine go_s (pc' := 67) rfl rfl rfl rfl ?_
    refine go_sget (pc' := 68) (v := .ref 78) hS rfl rfl rfl (by decide) rfl rfl ?_
    refine go_s (pc' := 69) rfl rfl rfl rfl ?_
    refine go_sald (pc' := 70) (q := 2) (v := .int 3) hS rfl (tr_s hr (a := 78) rfl (by decide)) rfl rfl (by decide) (congrArg Value.int e1) rfl ?_
    refine go_s (pc' := 71) rfl rfl rfl rfl ?_
    refine go_icmpP (t' := 111) (pc' := 72) rfl rfl rfl (fun (c : (3 : Int32) = 1) => absurd c (by decide)) (fun _ => ?_)
    refine go_s (pc' := 73) rfl rfl rfl rfl ?_
    refine go_s (pc' := 74) rfl rfl rfl rfl ?_
    refine go_callS (pc' := 75) rfl rfl rfl (Nat.le_of_ble_eq_true rfl) rfl rfl rfl (rt_ih_2_1 (by omega)) (fun r h4 q5 => ?_)
    obtain ⟨rfl, rfl⟩ := q5
    refine go_ifP (t' := 111) (pc' := 76) rfl rfl rfl (fun _ => ?_) (fun (c : ¬ ((0 : Int32) = 0)) => absurd (by decide) c)
    refine go_s (pc' := 112) (lo' := [some (.ref 62), some (.int 1), some (.int 3)]) rfl rfl rfl rfl ?_
    refine go_s (pc' := 57) rfl rfl rfl rfl ?_
    have hms : rdB 2 1 (I, Q, Z) = (I, Q, Z) := if_pos (Or.inr (Or.inr (Or.inl (by decide))))
    rw [hms] at C
    exact C _ (RA_R (by omega) hA)
theorem stB_0_2 {w : Nat → Bool} {d B R : Nat} {h : am_Hp} {I : sm_I} {Q : mQ} {Z : mZ} {P : Option Value → am_Hp → Prop} (hA : RA w B R [] true h (I, Q, Z)) (hR : R + 1 < 40000) {X : Nat} (hM : MID X (I, Q, Z)) (hX : X + 60 < 2 ^ 28) (hd : 5 ≤ d) (C : ∀ h', RA w B (R + 0) [] true h' (rdB 0 2 (I, Q, Z)) → am_Go (am_prog w) d am_c163 none 57 [some (.ref 62), some (.int 2), some (.int 1)] [] h' P) : am_Go (am_prog w) d am_c163 none 57 [some (.ref 62), some (.int 2), some (.int 0)] [] h P := by
  obtain ⟨K, Y, am, ln, hS, hU⟩ := RA_u.mp hA
  change sm (tbr am (13 * ln) 77 5088) h (jn I K) Y at hS
  obtain ⟨hW, hWm, -, -, hr, -⟩ := id hU.1
  have hln := RU_ln hU (by omega)
  have hp0 : prk I 0 := (hM.2.2.1 0 (by decide)).1
  have hp1 : prk I 1 := (hM.2.2.1 1 (by decide)).1
  have hp2 : prk I 2 := (hM.2.2.1 2 (by decide)).1
  rcases hp0 with e1 | e1 | e1
  · skip
    refine go_s (pc' := 58) rfl rfl rfl rfl ?_
    refine go_s (pc' := 59) (st' := [.int 3, .int 0]) rfl rfl rfl rfl ?_
    refine go_icmpP (t' := 113) (pc' := 60) rfl rfl rfl (fun (c : 3 ≤ (0 : Int32)) => absurd c (by decide)) (fun _ => ?_)
    refine go_s (pc' := 61) rfl rfl rfl rfl ?_
    refine go_sget (pc' := 62) (v := .ref 78) hS rfl rfl rfl (by decide) rfl rfl ?_
    refine go_s (pc' := 63) rfl rfl rfl rfl ?_
    refine go_sald (pc' := 64) (q := 0) (v := .int (-1)) hS rfl (tr_s hr (a := 78) rfl (by decide)) rfl rfl (by decide) (congrArg Value.int e1) rfl ?_
    refine go_s (pc' := 65) (st' := [.int (-1), .int (-1)]) rfl rfl rfl rfl ?_
    refine go_icmpP (t' := 111) (pc' := 66) rfl rfl rfl (fun _ => ?_) (fun (c : ¬ (((-1) : Int32) = (-1))) => absurd (by decide) c)
    refine go_s (pc' := 112) (lo' := [some (.ref 62), some (.int 2), some (.int 1)]) rfl rfl rfl rfl ?_
    refine go_s (pc' := 57) rfl rfl rfl rfl ?_
    have hms : rdB 0 2 (I, Q, Z) = (I, Q, Z) := if_pos (Or.inl e1)
    rw [hms] at C
    exact C _ (RA_R (by omega) hA)
  · skip
    refine go_s (pc' := 58) rfl rfl rfl rfl ?_
    refine go_s (pc' := 59) (st' := [.int 3, .int 0]) rfl rfl rfl rfl ?_
    refine go_icmpP (t' := 113) (pc' := 60) rfl rfl rfl (fun (c : 3 ≤ (0 : Int32)) => absurd c (by decide)) (fun _ => ?_)
    refine go_s (pc' := 61) rfl rfl rfl rfl ?_
    refine go_sget (pc' := 62) (v := .ref 78) hS rfl rfl rfl (by decide) rfl rfl ?_
    refine go_s (pc' := 63) rfl rfl rfl rfl ?_
    refine go_sald (pc' := 64) (q := 0) (v := .int 0) hS rfl (tr_s hr (a := 78) rfl (by decide)) rfl rfl (by decide) (congrArg Value.int e1) rfl ?_
    refine go_s (pc' := 65) (st' := [.int (-1), .int 0]) rfl rfl rfl rfl ?_
    refine go_icmpP (t' := 111) (pc' := 66) rfl rfl rfl (fun (c : (0 : Int32) = (-1)) => absurd c (by decide)) (fun _ => ?_)
    refine go_s (pc' := 67) rfl rfl rfl rfl ?_
    refine go_sget (pc' := 68) (v := .ref 78) hS rfl rfl rfl (by decide) rfl rfl ?_
    refine go_s (pc' := 69) rfl rfl rfl rfl ?_
    refine go_sald (pc' := 70) (q := 0) (v := .int 0) hS rfl (tr_s hr (a := 78) rfl (by decide)) rfl rfl (by decide) (congrArg Value.int e1) rfl ?_
    refine go_s (pc' := 71) rfl rfl rfl rfl ?_
    refine go_icmpP (t' := 111) (pc' := 72) rfl rfl rfl (fun (c : (0 : Int32) = 2) => absurd c (by decide)) (fun _ => ?_)
    refine go_s (pc' := 73) rfl rfl rfl rfl ?_
    refine go_s (pc' := 74) rfl rfl rfl rfl ?_
    refine go_callS (pc' := 75) rfl rfl rfl (Nat.le_of_ble_eq_true rfl) rfl rfl rfl (rt_ih_0_2 (by omega)) (fun r h2 q3 => ?_)
    obtain ⟨rfl, rfl⟩ := q3
    refine go_ifP (t' := 111) (pc' := 76) rfl rfl rfl (fun _ => ?_) (fun (c : ¬ ((0 : Int32) = 0)) => absurd (by decide) c)
    refine go_s (pc' := 112) (lo' := [some (.ref 62), some (.int 2), some (.int 1)]) rfl rfl rfl rfl ?_
    refine go_s (pc' := 57) rfl rfl rfl rfl ?_
    have hms : rdB 0 2 (I, Q, Z) = (I, Q, Z) := if_pos (Or.inr (Or.inr (Or.inl (by decide))))
    rw [hms] at C
    exact C _ (RA_R (by omega) hA)
  · skip
    refine go_s (pc' := 58) rfl rfl rfl rfl ?_
    refine go_s (pc' := 59) (st' := [.int 3, .int 0]) rfl rfl rfl rfl ?_
    refine go_icmpP (t' := 113) (pc' := 60) rfl rfl rfl (fun (c : 3 ≤ (0 : Int32)) => absurd c (by decide)) (fun _ => ?_)
    refine go_s (pc' := 61) rfl rfl rfl rfl ?_
    refine go_sget (pc' := 62) (v := .ref 78) hS rfl rfl rfl (by decide) rfl rfl ?_
    refine go_s (pc' := 63) rfl rfl rfl rfl ?_
    refine go_sald (pc' := 64) (q := 0) (v := .int 1) hS rfl (tr_s hr (a := 78) rfl (by decide)) rfl rfl (by decide) (congrArg Value.int e1) rfl ?_
    refine go_s (pc' := 65) (st' := [.int (-1), .int 1]) rfl rfl rfl rfl ?_
    refine go_icmpP (t' := 111) (pc' := 66) rfl rfl rfl (fun (c : (1 : Int32) = (-1)) => absurd c (by decide)) (fun _ => ?_)
    refine go_s (pc' := 67) rfl rfl rfl rfl ?_
    refine go_sget (pc' := 68) (v := .ref 78) hS rfl rfl rfl (by decide) rfl rfl ?_
    refine go_s (pc' := 69) rfl rfl rfl rfl ?_
    refine go_sald (pc' := 70) (q := 0) (v := .int 1) hS rfl (tr_s hr (a := 78) rfl (by decide)) rfl rfl (by decide) (congrArg Value.int e1) rfl ?_
    refine go_s (pc' := 71) rfl rfl rfl rfl ?_
    refine go_icmpP (t' := 111) (pc' := 72) rfl rfl rfl (fun (c : (1 : Int32) = 2) => absurd c (by decide)) (fun _ => ?_)
    refine go_s (pc' := 73) rfl rfl rfl rfl ?_
    refine go_s (pc' := 74) rfl rfl rfl rfl ?_
    refine go_callS (pc' := 75) rfl rfl rfl (Nat.le_of_ble_eq_true rfl) rfl rfl rfl (rt_ih_0_2 (by omega)) (fun r h4 q5 => ?_)
    obtain ⟨rfl, rfl⟩ := q5
    refine go_ifP (t' := 111) (pc' := 76) rfl rfl rfl (fun _ => ?_) (fun (c : ¬ ((0 : Int32) = 0)) => absurd (by decide) c)
    refine go_s (pc' := 112) (lo' := [some (.ref 62), some (.int 2), some (.int 1)]) rfl rfl rfl rfl ?_
    refine go_s (pc' := 57) rfl rfl rfl rfl ?_
    have hms : rdB 0 2 (I, Q, Z) = (I, Q, Z) := if_pos (Or.inr (Or.inr (Or.inl (by decide))))
    rw [hms] at C
    exact C _ (RA_R (by omega) hA)
theorem stB_1_2 {w : Nat → Bool} {d B R : Nat} {h : am_Hp} {I : sm_I} {Q : mQ} {Z : mZ} {P : Option Value → am_Hp → Prop} (hA : RA w B R [] true h (I, Q, Z)) (hR : R + 1 < 40000) {X : Nat} (hM : MID X (I, Q, Z)) (hX : X + 60 < 2 ^ 28) (hd : 5 ≤ d) (C : ∀ h', RA w B (R + 1) [] true h' (rdB 1 2 (I, Q, Z)) → am_Go (am_prog w) d am_c163 none 57 [some (.ref 62), some (.int 2), some (.int 2)] [] h' P) : am_Go (am_prog w) d am_c163 none 57 [some (.ref 62), some (.int 2), some (.int 1)] [] h P := by
  obtain ⟨K, Y, am, ln, hS, hU⟩ := RA_u.mp hA
  change sm (tbr am (13 * ln) 77 5088) h (jn I K) Y at hS
  obtain ⟨hW, hWm, -, -, hr, -⟩ := id hU.1
  have hln := RU_ln hU (by omega)
  have hp0 : prk I 0 := (hM.2.2.1 0 (by decide)).1
  have hp1 : prk I 1 := (hM.2.2.1 1 (by decide)).1
  have hp2 : prk I 2 := (hM.2.2.1 2 (by decide)).1
  rcases hp1 with e1 | e1 | e1
  · skip
    refine go_s (pc' := 58) rfl rfl rfl rfl ?_
    refine go_s (pc' := 59) (st' := [.int 3, .int 1]) rfl rfl rfl rfl ?_
    refine go_icmpP (t' := 113) (pc' := 60) rfl rfl rfl (fun (c : 3 ≤ (1 : Int32)) => absurd c (by decide)) (fun _ => ?_)
    refine go_s (pc' := 61) rfl rfl rfl rfl ?_
    refine go_sget (pc' := 62) (v := .ref 78) hS rfl rfl rfl (by decide) rfl rfl ?_
    refine go_s (pc' := 63) rfl rfl rfl rfl ?_
    refine go_sald (pc' := 64) (q := 1) (v := .int (-1)) hS rfl (tr_s hr (a := 78) rfl (by decide)) rfl rfl (by decide) (congrArg Value.int e1) rfl ?_
    refine go_s (pc' := 65) (st' := [.int (-1), .int (-1)]) rfl rfl rfl rfl ?_
    refine go_icmpP (t' := 111) (pc' := 66) rfl rfl rfl (fun _ => ?_) (fun (c : ¬ (((-1) : Int32) = (-1))) => absurd (by decide) c)
    refine go_s (pc' := 112) (lo' := [some (.ref 62), some (.int 2), some (.int 2)]) rfl rfl rfl rfl ?_
    refine go_s (pc' := 57) rfl rfl rfl rfl ?_
    have hms : rdB 1 2 (I, Q, Z) = (I, Q, Z) := if_pos (Or.inl e1)
    rw [hms] at C
    exact C _ (RA_R (by omega) hA)
  · skip
    refine go_s (pc' := 58) rfl rfl rfl rfl ?_
    refine go_s (pc' := 59) (st' := [.int 3, .int 1]) rfl rfl rfl rfl ?_
    refine go_icmpP (t' := 113) (pc' := 60) rfl rfl rfl (fun (c : 3 ≤ (1 : Int32)) => absurd c (by decide)) (fun _ => ?_)
    refine go_s (pc' := 61) rfl rfl rfl rfl ?_
    refine go_sget (pc' := 62) (v := .ref 78) hS rfl rfl rfl (by decide) rfl rfl ?_
    refine go_s (pc' := 63) rfl rfl rfl rfl ?_
    refine go_sald (pc' := 64) (q := 1) (v := .int 2) hS rfl (tr_s hr (a := 78) rfl (by decide)) rfl rfl (by decide) (congrArg Value.int e1) rfl ?_
    refine go_s (pc' := 65) (st' := [.int (-1), .int 2]) rfl rfl rfl rfl ?_
    refine go_icmpP (t' := 111) (pc' := 66) rfl rfl rfl (fun (c : (2 : Int32) = (-1)) => absurd c (by decide)) (fun _ => ?_)
    refine go_s (pc' := 67) rfl rfl rfl rfl ?_
    refine go_sget (pc' := 68) (v := .ref 78) hS rfl rfl rfl (by decide) rfl rfl ?_
    refine go_s (pc' := 69) rfl rfl rfl rfl ?_
    refine go_sald (pc' := 70) (q := 1) (v := .int 2) hS rfl (tr_s hr (a := 78) rfl (by decide)) rfl rfl (by decide) (congrArg Value.int e1) rfl ?_
    refine go_s (pc' := 71) rfl rfl rfl rfl ?_
    refine go_icmpP (t' := 111) (pc' := 72) rfl rfl rfl (fun _ => ?_) (fun (c : ¬ ((2 : Int32) = 2)) => absurd (by decide) c)
    refine go_s (pc' := 112) (lo' := [some (.ref 62), some (.int 2), some (.int 2)]) rfl rfl rfl rfl ?_
    refine go_s (pc' := 57) rfl rfl rfl rfl ?_
    have hms : rdB 1 2 (I, Q, Z) = (I, Q, Z) := if_pos (Or.inr (Or.inl e1))
    rw [hms] at C
    exact C _ (RA_R (by omega) hA)
  · skip
    refine go_s (pc' := 58) rfl rfl rfl rfl ?_
    refine go_s (pc' := 59) (st' := [.int 3, .int 1]) rfl rfl rfl rfl ?_
    refine go_icmpP (t' := 113) (pc' := 60) rfl rfl rfl (fun (c : 3 ≤ (1 : Int32)) => absurd c (by decide)) (fun _ => ?_)
    refine go_s (pc' := 61) rfl rfl rfl rfl ?_
    refine go_sget (pc' := 62) (v := .ref 78) hS rfl rfl rfl (by decide) rfl rfl ?_
    refine go_s (pc' := 63) rfl rfl rfl rfl ?_
    refine go_sald (pc' := 64) (q := 1) (v := .int 3) hS rfl (tr_s hr (a := 78) rfl (by decide)) rfl rfl (by decide) (congrArg Value.int e1) rfl ?_
    refine go_s (pc' := 65) (st' := [.int (-1), .int 3]) rfl rfl rfl rfl ?_
    refine go_icmpP (t' := 111) (pc' := 66) rfl rfl rfl (fun (c : (3 : Int32) = (-1)) => absurd c (by decide)) (fun _ => ?_)
    refine go_s (pc' := 67) rfl rfl rfl rfl ?_
    refine go_sget (pc' := 68) (v := .ref 78) hS rfl rfl rfl (by decide) rfl rfl ?_
    refine go_s (pc' := 69) rfl rfl rfl rfl ?_
    refine go_sald (pc' := 70) (q := 1) (v := .int 3) hS rfl (tr_s hr (a := 78) rfl (by decide)) rfl rfl (by decide) (congrArg Value.int e1) rfl ?_
    refine go_s (pc' := 71) rfl rfl rfl rfl ?_
    refine go_icmpP (t' := 111) (pc' := 72) rfl rfl rfl (fun (c : (3 : Int32) = 2) => absurd c (by decide)) (fun _ => ?_)
    refine go_s (pc' := 73) rfl rfl rfl rfl ?_
    refine go_s (pc' := 74) rfl rfl rfl rfl ?_
    refine go_callS (pc' := 75) rfl rfl rfl (Nat.le_of_ble_eq_true rfl) rfl rfl rfl (rt_ih_1_2 (by omega)) (fun r h2 q3 => ?_)
    obtain ⟨rfl, rfl⟩ := q3
    refine go_ifP (t' := 111) (pc' := 76) rfl rfl rfl (fun (c : (1 : Int32) = 0) => absurd c (by decide)) (fun _ => ?_)
    refine go_s (pc' := 77) rfl rfl rfl rfl ?_
    refine go_sget (pc' := 78) (v := .ref 79) hS rfl rfl rfl (by decide) rfl rfl ?_
    refine go_s (pc' := 79) rfl rfl rfl rfl ?_
    refine go_sald (pc' := 80) (q := 1) (v := .int (I 12 1)) hS rfl (tr_s hr (a := 79) rfl (by decide)) rfl rfl (by decide) rfl rfl ?_
    refine go_s (pc' := 81) (st' := [.int (-1), .int (I 12 1)]) rfl rfl rfl rfl ?_
    refine go_icmpP (t' := 88) (pc' := 82) rfl rfl rfl (fun (c4 : ¬ (I 12 1) = (-1)) => ?_) (fun (c4' : ¬ ¬ (I 12 1) = (-1)) => ?_)
    · skip
      refine go_s (pc' := 89) rfl rfl rfl rfl ?_
      refine go_sget (pc' := 90) (v := .ref 79) hS rfl rfl rfl (by decide) rfl rfl ?_
      refine go_s (pc' := 91) rfl rfl rfl rfl ?_
      refine go_s (pc' := 92) (st' := [.int (-1), .int 1, .ref 79]) rfl rfl rfl rfl ?_
      refine go_siast (pc' := 93) (q := 1) hS rfl (tr_s hr (a := 79) rfl (by decide)) tbr_inj (Nat.le_of_ble_eq_true rfl) rfl (by decide) (by decide) (hW _ (by decide) (by decide)) rfl (fun h5 hS6 hE7 => ?_)
      refine go_s (pc' := 94) rfl rfl rfl rfl ?_
      refine go_sget (pc' := 95) (v := .ref 80) hS6 rfl rfl rfl (by decide) rfl rfl ?_
      refine go_s (pc' := 96) rfl rfl rfl rfl ?_
      refine go_s (pc' := 97) (st' := [.int 0, .int 1, .ref 80]) rfl rfl rfl rfl ?_
      refine go_szast (pc' := 98) (q := 1) hS6 rfl (tr_s hr (a := 80) rfl (by decide)) tbr_inj (Nat.le_of_ble_eq_true rfl) rfl (by decide) (by decide) rfl (hW _ (by decide) (by decide)) rfl (fun h8 hS9 hE10 => ?_)
      have hE11 := sm_e_trans hE7 hE10
      refine go_s (pc' := 99) rfl rfl rfl rfl ?_
      refine go_s (pc' := 100) rfl rfl rfl rfl ?_
      refine go_callV (pc' := 101) rfl rfl rfl (Nat.le_of_ble_eq_true rfl) rfl (sm_o hS9 rfl) rfl rfl rfl (rt_lives_1 hr hS9 (Or.inr (Or.inr e1)) (by omega)) (fun r h12 q13 => ?_)
      obtain ⟨rfl, rfl⟩ := q13
      rw [show lv (uI (uI (jn I K) 12 1 (-1)) 13 1 0) 1 = lv (uI (uI I 12 1 (-1)) 13 1 0) 1 from rfl]
      cases u14 : lv (uI (uI I 12 1 (-1)) 13 1 0) 1
      · skip
        show am_Go _ _ _ _ 101 _ [.int 0] _ _
        refine go_ifP (t' := 111) (pc' := 102) rfl rfl rfl (fun _ => ?_) (fun (c : ¬ ((0 : Int32) = 0)) => absurd (by decide) c)
        refine go_s (pc' := 112) (lo' := [some (.ref 62), some (.int 2), some (.int 2)]) rfl rfl rfl rfl ?_
        refine go_s (pc' := 57) rfl rfl rfl rfl ?_
        change sm (tbr am (13 * ln) 77 5088) _ (uI (uI (jn I K) 12 1 (-1)) 13 1 0) Y at hS9
        rw [jn_lo (c := 12) (by decide), jn_lo (c := 13) (by decide)] at hS9
        have hU15 : RU w B R [] true h12 am ln K ((uI (uI I 12 1 (-1)) 13 1 0), Q, Z) := RU_I (hE11) (I' := (uI (uI I 12 1 (-1)) 13 1 0)) (fun _ => rfl) (fun _ => rfl) (Nat.le_refl _) hU
        have hA16 : RA w B R [] true h12 ((uI (uI I 12 1 (-1)) 13 1 0), Q, Z) := RA_u.mpr ⟨_, _, _, _, hS9, hU15⟩
        have hms : rdB 1 2 (I, Q, Z) = ((uI (uI I 12 1 (-1)) 13 1 0), Q, Z) := by
          unfold rdB
          rw [if_neg (fun z => z.elim (fun y => absurd (e1.symm.trans y) (by decide)) (fun z => z.elim (fun y => absurd (e1.symm.trans y) (by decide)) (fun z => z.elim (fun y => absurd y (by decide)) (fun y => c4 y.1))))]
          exact if_neg (fun y => by rw [show lv (((uI (uI I 12 1 (-1)) 13 1 0), Q, Z) : mM).1 1 = false from u14] at y; exact absurd y.1 (by decide))
        rw [hms] at C
        exact C _ (RA_R (by omega) hA16)
      · skip
        show am_Go _ _ _ _ 101 _ [.int 1] _ _
        refine go_ifP (t' := 111) (pc' := 102) rfl rfl rfl (fun (c : (1 : Int32) = 0) => absurd c (by decide)) (fun _ => ?_)
        refine go_s (pc' := 103) rfl rfl rfl rfl ?_
        refine go_sget (pc' := 104) (v := .ref 83) hS9 rfl rfl rfl (by decide) rfl rfl ?_
        refine go_s (pc' := 105) rfl rfl rfl rfl ?_
        refine go_sald (pc' := 106) (q := 1) (v := .int (I 16 1)) hS9 rfl (tr_s hr (a := 83) rfl (by decide)) rfl rfl (by decide) rfl rfl ?_
        refine go_s (pc' := 107) (st' := [.int 1, .int (I 16 1)]) rfl rfl rfl rfl ?_
        refine go_icmpP (t' := 111) (pc' := 108) rfl rfl rfl (fun (c17 : ¬ (I 16 1) = 1) => ?_) (fun (c17' : ¬ ¬ (I 16 1) = 1) => ?_)
        · skip
          refine go_s (pc' := 112) (lo' := [some (.ref 62), some (.int 2), some (.int 2)]) rfl rfl rfl rfl ?_
          refine go_s (pc' := 57) rfl rfl rfl rfl ?_
          change sm (tbr am (13 * ln) 77 5088) _ (uI (uI (jn I K) 12 1 (-1)) 13 1 0) Y at hS9
          rw [jn_lo (c := 12) (by decide), jn_lo (c := 13) (by decide)] at hS9
          have hU18 : RU w B R [] true h12 am ln K ((uI (uI I 12 1 (-1)) 13 1 0), Q, Z) := RU_I (hE11) (I' := (uI (uI I 12 1 (-1)) 13 1 0)) (fun _ => rfl) (fun _ => rfl) (Nat.le_refl _) hU
          have hA19 : RA w B R [] true h12 ((uI (uI I 12 1 (-1)) 13 1 0), Q, Z) := RA_u.mpr ⟨_, _, _, _, hS9, hU18⟩
          have hms : rdB 1 2 (I, Q, Z) = ((uI (uI I 12 1 (-1)) 13 1 0), Q, Z) := by
            unfold rdB
            rw [if_neg (fun z => z.elim (fun y => absurd (e1.symm.trans y) (by decide)) (fun z => z.elim (fun y => absurd (e1.symm.trans y) (by decide)) (fun z => z.elim (fun y => absurd y (by decide)) (fun y => c4 y.1))))]
            exact if_neg (fun y => c17 y.2)
          rw [hms] at C
          exact C _ (RA_R (by omega) hA19)
        · skip
          have c17 : (I 16 1) = 1 := Decidable.not_not.mp c17'
          refine go_s (pc' := 109) rfl rfl rfl rfl ?_
          refine go_s (pc' := 110) rfl rfl rfl rfl ?_
          change sm (tbr am (13 * ln) 77 5088) _ (uI (uI (jn I K) 12 1 (-1)) 13 1 0) Y at hS9
          rw [jn_lo (c := 12) (by decide), jn_lo (c := 13) (by decide)] at hS9
          have hU20 : RU w B R [] true h12 am ln K ((uI (uI I 12 1 (-1)) 13 1 0), Q, Z) := RU_I (hE11) (I' := (uI (uI I 12 1 (-1)) 13 1 0)) (fun _ => rfl) (fun _ => rfl) (Nat.le_refl _) hU
          have hA21 : RA w B R [] true h12 ((uI (uI I 12 1 (-1)) 13 1 0), Q, Z) := RA_u.mpr ⟨_, _, _, _, hS9, hU20⟩
          refine go_callV (pc' := 111) rfl rfl rfl (Nat.le_of_ble_eq_true rfl) rfl (sm_o hS9 rfl) rfl rfl rfl (ra_go_1 hA21 (by omega) hp0 (Or.inr (Or.inr e1)) (fun z => absurd (e1.symm.trans z) (by decide)) (by omega)) (fun r h22 q23 => ?_)
          obtain ⟨rfl, hA24⟩ := q23
          refine go_s (pc' := 112) (lo' := [some (.ref 62), some (.int 2), some (.int 2)]) rfl rfl rfl rfl ?_
          refine go_s (pc' := 57) rfl rfl rfl rfl ?_
          have hms : rdB 1 2 (I, Q, Z) = rgo 1 ((uI (uI I 12 1 (-1)) 13 1 0), Q, Z) := by
            unfold rdB
            rw [if_neg (fun z => z.elim (fun y => absurd (e1.symm.trans y) (by decide)) (fun z => z.elim (fun y => absurd (e1.symm.trans y) (by decide)) (fun z => z.elim (fun y => absurd y (by decide)) (fun y => c4 y.1))))]
            exact if_pos ⟨u14, c17⟩
          rw [hms] at C
          exact C _ (RA_R (by omega) hA24)
    · skip
      have c4 : (I 12 1) = (-1) := Decidable.not_not.mp c4'
      refine go_s (pc' := 83) rfl rfl rfl rfl ?_
      refine go_sget (pc' := 84) (v := .ref 80) hS rfl rfl rfl (by decide) rfl rfl ?_
      refine go_s (pc' := 85) rfl rfl rfl rfl ?_
      refine go_sald (pc' := 86) (q := 1) (v := .int (I 13 1)) hS rfl (tr_s hr (a := 80) rfl (by decide)) rfl rfl (by decide) rfl rfl ?_
      refine go_ifP (t' := 88) (pc' := 87) rfl rfl rfl (fun (c25 : ¬ (I 13 1) = 0) => ?_) (fun (c25' : ¬ ¬ (I 13 1) = 0) => ?_)
      · skip
        refine go_s (pc' := 89) rfl rfl rfl rfl ?_
        refine go_sget (pc' := 90) (v := .ref 79) hS rfl rfl rfl (by decide) rfl rfl ?_
        refine go_s (pc' := 91) rfl rfl rfl rfl ?_
        refine go_s (pc' := 92) (st' := [.int (-1), .int 1, .ref 79]) rfl rfl rfl rfl ?_
        refine go_siast (pc' := 93) (q := 1) hS rfl (tr_s hr (a := 79) rfl (by decide)) tbr_inj (Nat.le_of_ble_eq_true rfl) rfl (by decide) (by decide) (hW _ (by decide) (by decide)) rfl (fun h26 hS27 hE28 => ?_)
        refine go_s (pc' := 94) rfl rfl rfl rfl ?_
        refine go_sget (pc' := 95) (v := .ref 80) hS27 rfl rfl rfl (by decide) rfl rfl ?_
        refine go_s (pc' := 96) rfl rfl rfl rfl ?_
        refine go_s (pc' := 97) (st' := [.int 0, .int 1, .ref 80]) rfl rfl rfl rfl ?_
        refine go_szast (pc' := 98) (q := 1) hS27 rfl (tr_s hr (a := 80) rfl (by decide)) tbr_inj (Nat.le_of_ble_eq_true rfl) rfl (by decide) (by decide) rfl (hW _ (by decide) (by decide)) rfl (fun h29 hS30 hE31 => ?_)
        have hE32 := sm_e_trans hE28 hE31
        refine go_s (pc' := 99) rfl rfl rfl rfl ?_
        refine go_s (pc' := 100) rfl rfl rfl rfl ?_
        refine go_callV (pc' := 101) rfl rfl rfl (Nat.le_of_ble_eq_true rfl) rfl (sm_o hS30 rfl) rfl rfl rfl (rt_lives_1 hr hS30 (Or.inr (Or.inr e1)) (by omega)) (fun r h33 q34 => ?_)
        obtain ⟨rfl, rfl⟩ := q34
        rw [show lv (uI (uI (jn I K) 12 1 (-1)) 13 1 0) 1 = lv (uI (uI I 12 1 (-1)) 13 1 0) 1 from rfl]
        cases u35 : lv (uI (uI I 12 1 (-1)) 13 1 0) 1
        · skip
          show am_Go _ _ _ _ 101 _ [.int 0] _ _
          refine go_ifP (t' := 111) (pc' := 102) rfl rfl rfl (fun _ => ?_) (fun (c : ¬ ((0 : Int32) = 0)) => absurd (by decide) c)
          refine go_s (pc' := 112) (lo' := [some (.ref 62), some (.int 2), some (.int 2)]) rfl rfl rfl rfl ?_
          refine go_s (pc' := 57) rfl rfl rfl rfl ?_
          change sm (tbr am (13 * ln) 77 5088) _ (uI (uI (jn I K) 12 1 (-1)) 13 1 0) Y at hS30
          rw [jn_lo (c := 12) (by decide), jn_lo (c := 13) (by decide)] at hS30
          have hU36 : RU w B R [] true h33 am ln K ((uI (uI I 12 1 (-1)) 13 1 0), Q, Z) := RU_I (hE32) (I' := (uI (uI I 12 1 (-1)) 13 1 0)) (fun _ => rfl) (fun _ => rfl) (Nat.le_refl _) hU
          have hA37 : RA w B R [] true h33 ((uI (uI I 12 1 (-1)) 13 1 0), Q, Z) := RA_u.mpr ⟨_, _, _, _, hS30, hU36⟩
          have hms : rdB 1 2 (I, Q, Z) = ((uI (uI I 12 1 (-1)) 13 1 0), Q, Z) := by
            unfold rdB
            rw [if_neg (fun z => z.elim (fun y => absurd (e1.symm.trans y) (by decide)) (fun z => z.elim (fun y => absurd (e1.symm.trans y) (by decide)) (fun z => z.elim (fun y => absurd y (by decide)) (fun y => c25 y.2))))]
            exact if_neg (fun y => by rw [show lv (((uI (uI I 12 1 (-1)) 13 1 0), Q, Z) : mM).1 1 = false from u35] at y; exact absurd y.1 (by decide))
          rw [hms] at C
          exact C _ (RA_R (by omega) hA37)
        · skip
          show am_Go _ _ _ _ 101 _ [.int 1] _ _
          refine go_ifP (t' := 111) (pc' := 102) rfl rfl rfl (fun (c : (1 : Int32) = 0) => absurd c (by decide)) (fun _ => ?_)
          refine go_s (pc' := 103) rfl rfl rfl rfl ?_
          refine go_sget (pc' := 104) (v := .ref 83) hS30 rfl rfl rfl (by decide) rfl rfl ?_
          refine go_s (pc' := 105) rfl rfl rfl rfl ?_
          refine go_sald (pc' := 106) (q := 1) (v := .int (I 16 1)) hS30 rfl (tr_s hr (a := 83) rfl (by decide)) rfl rfl (by decide) rfl rfl ?_
          refine go_s (pc' := 107) (st' := [.int 1, .int (I 16 1)]) rfl rfl rfl rfl ?_
          refine go_icmpP (t' := 111) (pc' := 108) rfl rfl rfl (fun (c38 : ¬ (I 16 1) = 1) => ?_) (fun (c38' : ¬ ¬ (I 16 1) = 1) => ?_)
          · skip
            refine go_s (pc' := 112) (lo' := [some (.ref 62), some (.int 2), some (.int 2)]) rfl rfl rfl rfl ?_
            refine go_s (pc' := 57) rfl rfl rfl rfl ?_
            change sm (tbr am (13 * ln) 77 5088) _ (uI (uI (jn I K) 12 1 (-1)) 13 1 0) Y at hS30
            rw [jn_lo (c := 12) (by decide), jn_lo (c := 13) (by decide)] at hS30
            have hU39 : RU w B R [] true h33 am ln K ((uI (uI I 12 1 (-1)) 13 1 0), Q, Z) := RU_I (hE32) (I' := (uI (uI I 12 1 (-1)) 13 1 0)) (fun _ => rfl) (fun _ => rfl) (Nat.le_refl _) hU
            have hA40 : RA w B R [] true h33 ((uI (uI I 12 1 (-1)) 13 1 0), Q, Z) := RA_u.mpr ⟨_, _, _, _, hS30, hU39⟩
            have hms : rdB 1 2 (I, Q, Z) = ((uI (uI I 12 1 (-1)) 13 1 0), Q, Z) := by
              unfold rdB
              rw [if_neg (fun z => z.elim (fun y => absurd (e1.symm.trans y) (by decide)) (fun z => z.elim (fun y => absurd (e1.symm.trans y) (by decide)) (fun z => z.elim (fun y => absurd y (by decide)) (fun y => c25 y.2))))]
              exact if_neg (fun y => c38 y.2)
            rw [hms] at C
            exact C _ (RA_R (by omega) hA40)
          · skip
            have c38 : (I 16 1) = 1 := Decidable.not_not.mp c38'
            refine go_s (pc' := 109) rfl rfl rfl rfl ?_
            refine go_s (pc' := 110) rfl rfl rfl rfl ?_
            change sm (tbr am (13 * ln) 77 5088) _ (uI (uI (jn I K) 12 1 (-1)) 13 1 0) Y at hS30
            rw [jn_lo (c := 12) (by decide), jn_lo (c := 13) (by decide)] at hS30
            have hU41 : RU w B R [] true h33 am ln K ((uI (uI I 12 1 (-1)) 13 1 0), Q, Z) := RU_I (hE32) (I' := (uI (uI I 12 1 (-1)) 13 1 0)) (fun _ => rfl) (fun _ => rfl) (Nat.le_refl _) hU
            have hA42 : RA w B R [] true h33 ((uI (uI I 12 1 (-1)) 13 1 0), Q, Z) := RA_u.mpr ⟨_, _, _, _, hS30, hU41⟩
            refine go_callV (pc' := 111) rfl rfl rfl (Nat.le_of_ble_eq_true rfl) rfl (sm_o hS30 rfl) rfl rfl rfl (ra_go_1 hA42 (by omega) hp0 (Or.inr (Or.inr e1)) (fun z => absurd (e1.symm.trans z) (by decide)) (by omega)) (fun r h43 q44 => ?_)
            obtain ⟨rfl, hA45⟩ := q44
            refine go_s (pc' := 112) (lo' := [some (.ref 62), some (.int 2), some (.int 2)]) rfl rfl rfl rfl ?_
            refine go_s (pc' := 57) rfl rfl rfl rfl ?_
            have hms : rdB 1 2 (I, Q, Z) = rgo 1 ((uI (uI I 12 1 (-1)) 13 1 0), Q, Z) := by
              unfold rdB
              rw [if_neg (fun z => z.elim (fun y => absurd (e1.symm.trans y) (by decide)) (fun z => z.elim (fun y => absurd (e1.symm.trans y) (by decide)) (fun z => z.elim (fun y => absurd y (by decide)) (fun y => c25 y.2))))]
              exact if_pos ⟨u35, c38⟩
            rw [hms] at C
            exact C _ (RA_R (by omega) hA45)
      · skip
        have c25 : (I 13 1) = 0 := Decidable.not_not.mp c25'
        refine go_s (pc' := 111) rfl rfl rfl rfl ?_
        refine go_s (pc' := 112) (lo' := [some (.ref 62), some (.int 2), some (.int 2)]) rfl rfl rfl rfl ?_
        refine go_s (pc' := 57) rfl rfl rfl rfl ?_
        have hms : rdB 1 2 (I, Q, Z) = (I, Q, Z) := if_pos (Or.inr (Or.inr (Or.inr ⟨c4, c25⟩)))
        rw [hms] at C
        exact C _ (RA_R (by omega) hA)
theorem stB_2_2 {w : Nat → Bool} {d B R : Nat} {h : am_Hp} {I : sm_I} {Q : mQ} {Z : mZ} {P : Option Value → am_Hp → Prop} (hA : RA w B R [] true h (I, Q, Z)) (hR : R + 1 < 40000) {X : Nat} (hM : MID X (I, Q, Z)) (hX : X + 60 < 2 ^ 28) (hd : 5 ≤ d) (C : ∀ h', RA w B (R + 1) [] true h' (rdB 2 2 (I, Q, Z)) → am_Go (am_prog w) d am_c163 none 57 [some (.ref 62), some (.int 2), some (.int 3)] [] h' P) : am_Go (am_prog w) d am_c163 none 57 [some (.ref 62), some (.int 2), some (.int 2)] [] h P := by
  obtain ⟨K, Y, am, ln, hS, hU⟩ := RA_u.mp hA
  change sm (tbr am (13 * ln) 77 5088) h (jn I K) Y at hS
  obtain ⟨hW, hWm, -, -, hr, -⟩ := id hU.1
  have hln := RU_ln hU (by omega)
  have hp0 : prk I 0 := (hM.2.2.1 0 (by decide)).1
  have hp1 : prk I 1 := (hM.2.2.1 1 (by decide)).1
  have hp2 : prk I 2 := (hM.2.2.1 2 (by decide)).1
  rcases hp2 with e1 | e1 | e1
  · skip
    refine go_s (pc' := 58) rfl rfl rfl rfl ?_
    refine go_s (pc' := 59) (st' := [.int 3, .int 2]) rfl rfl rfl rfl ?_
    refine go_icmpP (t' := 113) (pc' := 60) rfl rfl rfl (fun (c : 3 ≤ (2 : Int32)) => absurd c (by decide)) (fun _ => ?_)
    refine go_s (pc' := 61) rfl rfl rfl rfl ?_
    refine go_sget (pc' := 62) (v := .ref 78) hS rfl rfl rfl (by decide) rfl rfl ?_
    refine go_s (pc' := 63) rfl rfl rfl rfl ?_
    refine go_sald (pc' := 64) (q := 2) (v := .int (-1)) hS rfl (tr_s hr (a := 78) rfl (by decide)) rfl rfl (by decide) (congrArg Value.int e1) rfl ?_
    refine go_s (pc' := 65) (st' := [.int (-1), .int (-1)]) rfl rfl rfl rfl ?_
    refine go_icmpP (t' := 111) (pc' := 66) rfl rfl rfl (fun _ => ?_) (fun (c : ¬ (((-1) : Int32) = (-1))) => absurd (by decide) c)
    refine go_s (pc' := 112) (lo' := [some (.ref 62), some (.int 2), some (.int 3)]) rfl rfl rfl rfl ?_
    refine go_s (pc' := 57) rfl rfl rfl rfl ?_
    have hms : rdB 2 2 (I, Q, Z) = (I, Q, Z) := if_pos (Or.inl e1)
    rw [hms] at C
    exact C _ (RA_R (by omega) hA)
  · skip
    refine go_s (pc' := 58) rfl rfl rfl rfl ?_
    refine go_s (pc' := 59) (st' := [.int 3, .int 2]) rfl rfl rfl rfl ?_
    refine go_icmpP (t' := 113) (pc' := 60) rfl rfl rfl (fun (c : 3 ≤ (2 : Int32)) => absurd c (by decide)) (fun _ => ?_)
    refine go_s (pc' := 61) rfl rfl rfl rfl ?_
    refine go_sget (pc' := 62) (v := .ref 78) hS rfl rfl rfl (by decide) rfl rfl ?_
    refine go_s (pc' := 63) rfl rfl rfl rfl ?_
    refine go_sald (pc' := 64) (q := 2) (v := .int 2) hS rfl (tr_s hr (a := 78) rfl (by decide)) rfl rfl (by decide) (congrArg Value.int e1) rfl ?_
    refine go_s (pc' := 65) (st' := [.int (-1), .int 2]) rfl rfl rfl rfl ?_
    refine go_icmpP (t' := 111) (pc' := 66) rfl rfl rfl (fun (c : (2 : Int32) = (-1)) => absurd c (by decide)) (fun _ => ?_)
    refine go_s (pc' := 67) rfl rfl rfl rfl ?_
    refine go_sget (pc' := 68) (v := .ref 78) hS rfl rfl rfl (by decide) rfl rfl ?_
    refine go_s (pc' := 69) rfl rfl rfl rfl ?_
    refine go_sald (pc' := 70) (q := 2) (v := .int 2) hS rfl (tr_s hr (a := 78) rfl (by decide)) rfl rfl (by decide) (congrArg Value.int e1) rfl ?_
    refine go_s (pc' := 71) rfl rfl rfl rfl ?_
    refine go_icmpP (t' := 111) (pc' := 72) rfl rfl rfl (fun _ => ?_) (fun (c : ¬ ((2 : Int32) = 2)) => absurd (by decide) c)
    refine go_s (pc' := 112) (lo' := [some (.ref 62), some (.int 2), some (.int 3)]) rfl rfl rfl rfl ?_
    refine go_s (pc' := 57) rfl rfl rfl rfl ?_
    have hms : rdB 2 2 (I, Q, Z) = (I, Q, Z) := if_pos (Or.inr (Or.inl e1))
    rw [hms] at C
    exact C _ (RA_R (by omega) hA)
  · skip
    refine go_s (pc' := 58) rfl rfl rfl rfl ?_
    refine go_s (pc' := 59) (st' := [.int 3, .int 2]) rfl rfl rfl rfl ?_
    refine go_icmpP (t' := 113) (pc' := 60) rfl rfl rfl (fun (c : 3 ≤ (2 : Int32)) => absurd c (by decide)) (fun _ => ?_)
    refine go_s (pc' := 61) rfl rfl rfl rfl ?_
    refine go_sget (pc' := 62) (v := .ref 78) hS rfl rfl rfl (by decide) rfl rfl ?_
    refine go_s (pc' := 63) rfl rfl rfl rfl ?_
    refine go_sald (pc' := 64) (q := 2) (v := .int 3) hS rfl (tr_s hr (a := 78) rfl (by decide)) rfl rfl (by decide) (congrArg Value.int e1) rfl ?_
    refine go_s (pc' := 65) (st' := [.int (-1), .int 3]) rfl rfl rfl rfl ?_
    refine go_icmpP (t' := 111) (pc' := 66) rfl rfl rfl (fun (c : (3 : Int32) = (-1)) => absurd c (by decide)) (fun _ => ?_)
    refine go_s (pc' := 67) rfl rfl rfl rfl ?_
    refine go_sget (pc' := 68) (v := .ref 78) hS rfl rfl rfl (by decide) rfl rfl ?_
    refine go_s (pc' := 69) rfl rfl rfl rfl ?_
    refine go_sald (pc' := 70) (q := 2) (v := .int 3) hS rfl (tr_s hr (a := 78) rfl (by decide)) rfl rfl (by decide) (congrArg Value.int e1) rfl ?_
    refine go_s (pc' := 71) rfl rfl rfl rfl ?_
    refine go_icmpP (t' := 111) (pc' := 72) rfl rfl rfl (fun (c : (3 : Int32) = 2) => absurd c (by decide)) (fun _ => ?_)
    refine go_s (pc' := 73) rfl rfl rfl rfl ?_
    refine go_s (pc' := 74) rfl rfl rfl rfl ?_
    refine go_callS (pc' := 75) rfl rfl rfl (Nat.le_of_ble_eq_true rfl) rfl rfl rfl (rt_ih_2_2 (by omega)) (fun r h2 q3 => ?_)
    obtain ⟨rfl, rfl⟩ := q3
    refine go_ifP (t' := 111) (pc' := 76) rfl rfl rfl (fun (c : (1 : Int32) = 0) => absurd c (by decide)) (fun _ => ?_)
    refine go_s (pc' := 77) rfl rfl rfl rfl ?_
    refine go_sget (pc' := 78) (v := .ref 79) hS rfl rfl rfl (by decide) rfl rfl ?_
    refine go_s (pc' := 79) rfl rfl rfl rfl ?_
    refine go_sald (pc' := 80) (q := 2) (v := .int (I 12 2)) hS rfl (tr_s hr (a := 79) rfl (by decide)) rfl rfl (by decide) rfl rfl ?_
    refine go_s (pc' := 81) (st' := [.int (-1), .int (I 12 2)]) rfl rfl rfl rfl ?_
    refine go_icmpP (t' := 88) (pc' := 82) rfl rfl rfl (fun (c4 : ¬ (I 12 2) = (-1)) => ?_) (fun (c4' : ¬ ¬ (I 12 2) = (-1)) => ?_)
    · skip
      refine go_s (pc' := 89) rfl rfl rfl rfl ?_
      refine go_sget (pc' := 90) (v := .ref 79) hS rfl rfl rfl (by decide) rfl rfl ?_
      refine go_s (pc' := 91) rfl rfl rfl rfl ?_
      refine go_s (pc' := 92) (st' := [.int (-1), .int 2, .ref 79]) rfl rfl rfl rfl ?_
      refine go_siast (pc' := 93) (q := 2) hS rfl (tr_s hr (a := 79) rfl (by decide)) tbr_inj (Nat.le_of_ble_eq_true rfl) rfl (by decide) (by decide) (hW _ (by decide) (by decide)) rfl (fun h5 hS6 hE7 => ?_)
      refine go_s (pc' := 94) rfl rfl rfl rfl ?_
      refine go_sget (pc' := 95) (v := .ref 80) hS6 rfl rfl rfl (by decide) rfl rfl ?_
      refine go_s (pc' := 96) rfl rfl rfl rfl ?_
      refine go_s (pc' := 97) (st' := [.int 0, .int 2, .ref 80]) rfl rfl rfl rfl ?_
      refine go_szast (pc' := 98) (q := 2) hS6 rfl (tr_s hr (a := 80) rfl (by decide)) tbr_inj (Nat.le_of_ble_eq_true rfl) rfl (by decide) (by decide) rfl (hW _ (by decide) (by decide)) rfl (fun h8 hS9 hE10 => ?_)
      have hE11 := sm_e_trans hE7 hE10
      refine go_s (pc' := 99) rfl rfl rfl rfl ?_
      refine go_s (pc' := 100) rfl rfl rfl rfl ?_
      refine go_callV (pc' := 101) rfl rfl rfl (Nat.le_of_ble_eq_true rfl) rfl (sm_o hS9 rfl) rfl rfl rfl (rt_lives_2 hr hS9 (Or.inr (Or.inr e1)) (by omega)) (fun r h12 q13 => ?_)
      obtain ⟨rfl, rfl⟩ := q13
      rw [show lv (uI (uI (jn I K) 12 2 (-1)) 13 2 0) 2 = lv (uI (uI I 12 2 (-1)) 13 2 0) 2 from rfl]
      cases u14 : lv (uI (uI I 12 2 (-1)) 13 2 0) 2
      · skip
        show am_Go _ _ _ _ 101 _ [.int 0] _ _
        refine go_ifP (t' := 111) (pc' := 102) rfl rfl rfl (fun _ => ?_) (fun (c : ¬ ((0 : Int32) = 0)) => absurd (by decide) c)
        refine go_s (pc' := 112) (lo' := [some (.ref 62), some (.int 2), some (.int 3)]) rfl rfl rfl rfl ?_
        refine go_s (pc' := 57) rfl rfl rfl rfl ?_
        change sm (tbr am (13 * ln) 77 5088) _ (uI (uI (jn I K) 12 2 (-1)) 13 2 0) Y at hS9
        rw [jn_lo (c := 12) (by decide), jn_lo (c := 13) (by decide)] at hS9
        have hU15 : RU w B R [] true h12 am ln K ((uI (uI I 12 2 (-1)) 13 2 0), Q, Z) := RU_I (hE11) (I' := (uI (uI I 12 2 (-1)) 13 2 0)) (fun _ => rfl) (fun _ => rfl) (Nat.le_refl _) hU
        have hA16 : RA w B R [] true h12 ((uI (uI I 12 2 (-1)) 13 2 0), Q, Z) := RA_u.mpr ⟨_, _, _, _, hS9, hU15⟩
        have hms : rdB 2 2 (I, Q, Z) = ((uI (uI I 12 2 (-1)) 13 2 0), Q, Z) := by
          unfold rdB
          rw [if_neg (fun z => z.elim (fun y => absurd (e1.symm.trans y) (by decide)) (fun z => z.elim (fun y => absurd (e1.symm.trans y) (by decide)) (fun z => z.elim (fun y => absurd y (by decide)) (fun y => c4 y.1))))]
          exact if_neg (fun y => by rw [show lv (((uI (uI I 12 2 (-1)) 13 2 0), Q, Z) : mM).1 2 = false from u14] at y; exact absurd y.1 (by decide))
        rw [hms] at C
        exact C _ (RA_R (by omega) hA16)
      · skip
        show am_Go _ _ _ _ 101 _ [.int 1] _ _
        refine go_ifP (t' := 111) (pc' := 102) rfl rfl rfl (fun (c : (1 : Int32) = 0) => absurd c (by decide)) (fun _ => ?_)
        refine go_s (pc' := 103) rfl rfl rfl rfl ?_
        refine go_sget (pc' := 104) (v := .ref 83) hS9 rfl rfl rfl (by decide) rfl rfl ?_
        refine go_s (pc' := 105) rfl rfl rfl rfl ?_
        refine go_sald (pc' := 106) (q := 2) (v := .int (I 16 2)) hS9 rfl (tr_s hr (a := 83) rfl (by decide)) rfl rfl (by decide) rfl rfl ?_
        refine go_s (pc' := 107) (st' := [.int 1, .int (I 16 2)]) rfl rfl rfl rfl ?_
        refine go_icmpP (t' := 111) (pc' := 108) rfl rfl rfl (fun (c17 : ¬ (I 16 2) = 1) => ?_) (fun (c17' : ¬ ¬ (I 16 2) = 1) => ?_)
        · skip
          refine go_s (pc' := 112) (lo' := [some (.ref 62), some (.int 2), some (.int 3)]) rfl rfl rfl rfl ?_
          refine go_s (pc' := 57) rfl rfl rfl rfl ?_
          change sm (tbr am (13 * ln) 77 5088) _ (uI (uI (jn I K) 12 2 (-1)) 13 2 0) Y at hS9
          rw [jn_lo (c := 12) (by decide), jn_lo (c := 13) (by decide)] at hS9
          have hU18 : RU w B R [] true h12 am ln K ((uI (uI I 12 2 (-1)) 13 2 0), Q, Z) := RU_I (hE11) (I' := (uI (uI I 12 2 (-1)) 13 2 0)) (fun _ => rfl) (fun _ => rfl) (Nat.le_refl _) hU
          have hA19 : RA w B R [] true h12 ((uI (uI I 12 2 (-1)) 13 2 0), Q, Z) := RA_u.mpr ⟨_, _, _, _, hS9, hU18⟩
          have hms : rdB 2 2 (I, Q, Z) = ((uI (uI I 12 2 (-1)) 13 2 0), Q, Z) := by
            unfold rdB
            rw [if_neg (fun z => z.elim (fun y => absurd (e1.symm.trans y) (by decide)) (fun z => z.elim (fun y => absurd (e1.symm.trans y) (by decide)) (fun z => z.elim (fun y => absurd y (by decide)) (fun y => c4 y.1))))]
            exact if_neg (fun y => c17 y.2)
          rw [hms] at C
          exact C _ (RA_R (by omega) hA19)
        · skip
          have c17 : (I 16 2) = 1 := Decidable.not_not.mp c17'
          refine go_s (pc' := 109) rfl rfl rfl rfl ?_
          refine go_s (pc' := 110) rfl rfl rfl rfl ?_
          change sm (tbr am (13 * ln) 77 5088) _ (uI (uI (jn I K) 12 2 (-1)) 13 2 0) Y at hS9
          rw [jn_lo (c := 12) (by decide), jn_lo (c := 13) (by decide)] at hS9
          have hU20 : RU w B R [] true h12 am ln K ((uI (uI I 12 2 (-1)) 13 2 0), Q, Z) := RU_I (hE11) (I' := (uI (uI I 12 2 (-1)) 13 2 0)) (fun _ => rfl) (fun _ => rfl) (Nat.le_refl _) hU
          have hA21 : RA w B R [] true h12 ((uI (uI I 12 2 (-1)) 13 2 0), Q, Z) := RA_u.mpr ⟨_, _, _, _, hS9, hU20⟩
          refine go_callV (pc' := 111) rfl rfl rfl (Nat.le_of_ble_eq_true rfl) rfl (sm_o hS9 rfl) rfl rfl rfl (ra_go_2 hA21 (by omega) hp0 (Or.inr (Or.inr e1)) (fun z => absurd (e1.symm.trans z) (by decide)) (by omega)) (fun r h22 q23 => ?_)
          obtain ⟨rfl, hA24⟩ := q23
          refine go_s (pc' := 112) (lo' := [some (.ref 62), some (.int 2), some (.int 3)]) rfl rfl rfl rfl ?_
          refine go_s (pc' := 57) rfl rfl rfl rfl ?_
          have hms : rdB 2 2 (I, Q, Z) = rgo 2 ((uI (uI I 12 2 (-1)) 13 2 0), Q, Z) := by
            unfold rdB
            rw [if_neg (fun z => z.elim (fun y => absurd (e1.symm.trans y) (by decide)) (fun z => z.elim (fun y => absurd (e1.symm.trans y) (by decide)) (fun z => z.elim (fun y => absurd y (by decide)) (fun y => c4 y.1))))]
            exact if_pos ⟨u14, c17⟩
          rw [hms] at C
          exact C _ (RA_R (by omega) hA24)
    · skip
      have c4 : (I 12 2) = (-1) := Decidable.not_not.mp c4'
      refine go_s (pc' := 83) rfl rfl rfl rfl ?_
      refine go_sget (pc' := 84) (v := .ref 80) hS rfl rfl rfl (by decide) rfl rfl ?_
      refine go_s (pc' := 85) rfl rfl rfl rfl ?_
      refine go_sald (pc' := 86) (q := 2) (v := .int (I 13 2)) hS rfl (tr_s hr (a := 80) rfl (by decide)) rfl rfl (by decide) rfl rfl ?_
      refine go_ifP (t' := 88) (pc' := 87) rfl rfl rfl (fun (c25 : ¬ (I 13 2) = 0) => ?_) (fun (c25' : ¬ ¬ (I 13 2) = 0) => ?_)
      · skip
        refine go_s (pc' := 89) rfl rfl rfl rfl ?_
        refine go_sget (pc' := 90) (v := .ref 79) hS rfl rfl rfl (by decide) rfl rfl ?_
        refine go_s (pc' := 91) rfl rfl rfl rfl ?_
        refine go_s (pc' := 92) (st' := [.int (-1), .int 2, .ref 79]) rfl rfl rfl rfl ?_
        refine go_siast (pc' := 93) (q := 2) hS rfl (tr_s hr (a := 79) rfl (by decide)) tbr_inj (Nat.le_of_ble_eq_true rfl) rfl (by decide) (by decide) (hW _ (by decide) (by decide)) rfl (fun h26 hS27 hE28 => ?_)
        refine go_s (pc' := 94) rfl rfl rfl rfl ?_
        refine go_sget (pc' := 95) (v := .ref 80) hS27 rfl rfl rfl (by decide) rfl rfl ?_
        refine go_s (pc' := 96) rfl rfl rfl rfl ?_
        refine go_s (pc' := 97) (st' := [.int 0, .int 2, .ref 80]) rfl rfl rfl rfl ?_
        refine go_szast (pc' := 98) (q := 2) hS27 rfl (tr_s hr (a := 80) rfl (by decide)) tbr_inj (Nat.le_of_ble_eq_true rfl) rfl (by decide) (by decide) rfl (hW _ (by decide) (by decide)) rfl (fun h29 hS30 hE31 => ?_)
        have hE32 := sm_e_trans hE28 hE31
        refine go_s (pc' := 99) rfl rfl rfl rfl ?_
        refine go_s (pc' := 100) rfl rfl rfl rfl ?_
        refine go_callV (pc' := 101) rfl rfl rfl (Nat.le_of_ble_eq_true rfl) rfl (sm_o hS30 rfl) rfl rfl rfl (rt_lives_2 hr hS30 (Or.inr (Or.inr e1)) (by omega)) (fun r h33 q34 => ?_)
        obtain ⟨rfl, rfl⟩ := q34
        rw [show lv (uI (uI (jn I K) 12 2 (-1)) 13 2 0) 2 = lv (uI (uI I 12 2 (-1)) 13 2 0) 2 from rfl]
        cases u35 : lv (uI (uI I 12 2 (-1)) 13 2 0) 2
        · skip
          show am_Go _ _ _ _ 101 _ [.int 0] _ _
          refine go_ifP (t' := 111) (pc' := 102) rfl rfl rfl (fun _ => ?_) (fun (c : ¬ ((0 : Int32) = 0)) => absurd (by decide) c)
          refine go_s (pc' := 112) (lo' := [some (.ref 62), some (.int 2), some (.int 3)]) rfl rfl rfl rfl ?_
          refine go_s (pc' := 57) rfl rfl rfl rfl ?_
          change sm (tbr am (13 * ln) 77 5088) _ (uI (uI (jn I K) 12 2 (-1)) 13 2 0) Y at hS30
          rw [jn_lo (c := 12) (by decide), jn_lo (c := 13) (by decide)] at hS30
          have hU36 : RU w B R [] true h33 am ln K ((uI (uI I 12 2 (-1)) 13 2 0), Q, Z) := RU_I (hE32) (I' := (uI (uI I 12 2 (-1)) 13 2 0)) (fun _ => rfl) (fun _ => rfl) (Nat.le_refl _) hU
          have hA37 : RA w B R [] true h33 ((uI (uI I 12 2 (-1)) 13 2 0), Q, Z) := RA_u.mpr ⟨_, _, _, _, hS30, hU36⟩
          have hms : rdB 2 2 (I, Q, Z) = ((uI (uI I 12 2 (-1)) 13 2 0), Q, Z) := by
            unfold rdB
            rw [if_neg (fun z => z.elim (fun y => absurd (e1.symm.trans y) (by decide)) (fun z => z.elim (fun y => absurd (e1.symm.trans y) (by decide)) (fun z => z.elim (fun y => absurd y (by decide)) (fun y => c25 y.2))))]
            exact if_neg (fun y => by rw [show lv (((uI (uI I 12 2 (-1)) 13 2 0), Q, Z) : mM).1 2 = false from u35] at y; exact absurd y.1 (by decide))
          rw [hms] at C
          exact C _ (RA_R (by omega) hA37)
        · skip
          show am_Go _ _ _ _ 101 _ [.int 1] _ _
          refine go_ifP (t' := 111) (pc' := 102) rfl rfl rfl (fun (c : (1 : Int32) = 0) => absurd c (by decide)) (fun _ => ?_)
          refine go_s (pc' := 103) rfl rfl rfl rfl ?_
          refine go_sget (pc' := 104) (v := .ref 83) hS30 rfl rfl rfl (by decide) rfl rfl ?_
          refine go_s (pc' := 105) rfl rfl rfl rfl ?_
          refine go_sald (pc' := 106) (q := 2) (v := .int (I 16 2)) hS30 rfl (tr_s hr (a := 83) rfl (by decide)) rfl rfl (by decide) rfl rfl ?_
          refine go_s (pc' := 107) (st' := [.int 1, .int (I 16 2)]) rfl rfl rfl rfl ?_
          refine go_icmpP (t' := 111) (pc' := 108) rfl rfl rfl (fun (c38 : ¬ (I 16 2) = 1) => ?_) (fun (c38' : ¬ ¬ (I 16 2) = 1) => ?_)
          · skip
            refine go_s (pc' := 112) (lo' := [some (.ref 62), some (.int 2), some (.int 3)]) rfl rfl rfl rfl ?_
            refine go_s (pc' := 57) rfl rfl rfl rfl ?_
            change sm (tbr am (13 * ln) 77 5088) _ (uI (uI (jn I K) 12 2 (-1)) 13 2 0) Y at hS30
            rw [jn_lo (c := 12) (by decide), jn_lo (c := 13) (by decide)] at hS30
            have hU39 : RU w B R [] true h33 am ln K ((uI (uI I 12 2 (-1)) 13 2 0), Q, Z) := RU_I (hE32) (I' := (uI (uI I 12 2 (-1)) 13 2 0)) (fun _ => rfl) (fun _ => rfl) (Nat.le_refl _) hU
            have hA40 : RA w B R [] true h33 ((uI (uI I 12 2 (-1)) 13 2 0), Q, Z) := RA_u.mpr ⟨_, _, _, _, hS30, hU39⟩
            have hms : rdB 2 2 (I, Q, Z) = ((uI (uI I 12 2 (-1)) 13 2 0), Q, Z) := by
              unfold rdB
              rw [if_neg (fun z => z.elim (fun y => absurd (e1.symm.trans y) (by decide)) (fun z => z.elim (fun y => absurd (e1.symm.trans y) (by decide)) (fun z => z.elim (fun y => absurd y (by decide)) (fun y => c25 y.2))))]
              exact if_neg (fun y => c38 y.2)
            rw [hms] at C
            exact C _ (RA_R (by omega) hA40)
          · skip
            have c38 : (I 16 2) = 1 := Decidable.not_not.mp c38'
            refine go_s (pc' := 109) rfl rfl rfl rfl ?_
            refine go_s (pc' := 110) rfl rfl rfl rfl ?_
            change sm (tbr am (13 * ln) 77 5088) _ (uI (uI (jn I K) 12 2 (-1)) 13 2 0) Y at hS30
            rw [jn_lo (c := 12) (by decide), jn_lo (c := 13) (by decide)] at hS30
            have hU41 : RU w B R [] true h33 am ln K ((uI (uI I 12 2 (-1)) 13 2 0), Q, Z) := RU_I (hE32) (I' := (uI (uI I 12 2 (-1)) 13 2 0)) (fun _ => rfl) (fun _ => rfl) (Nat.le_refl _) hU
            have hA42 : RA w B R [] true h33 ((uI (uI I 12 2 (-1)) 13 2 0), Q, Z) := RA_u.mpr ⟨_, _, _, _, hS30, hU41⟩
            refine go_callV (pc' := 111) rfl rfl rfl (Nat.le_of_ble_eq_true rfl) rfl (sm_o hS30 rfl) rfl rfl rfl (ra_go_2 hA42 (by omega) hp0 (Or.inr (Or.inr e1)) (fun z => absurd (e1.symm.trans z) (by decide)) (by omega)) (fun r h43 q44 => ?_)
            obtain ⟨rfl, hA45⟩ := q44
            refine go_s (pc' := 112) (lo' := [some (.ref 62), some (.int 2), some (.int 3)]) rfl rfl rfl rfl ?_
            refine go_s (pc' := 57) rfl rfl rfl rfl ?_
            have hms : rdB 2 2 (I, Q, Z) = rgo 2 ((uI (uI I 12 2 (-1)) 13 2 0), Q, Z) := by
              unfold rdB
              rw [if_neg (fun z => z.elim (fun y => absurd (e1.symm.trans y) (by decide)) (fun z => z.elim (fun y => absurd (e1.symm.trans y) (by decide)) (fun z => z.elim (fun y => absurd y (by decide)) (fun y => c25 y.2))))]
              exact if_pos ⟨u35, c38⟩
            rw [hms] at C
            exact C _ (RA_R (by omega) hA45)
      · skip
        have c25 : (I 13 2) = 0 := Decidable.not_not.mp c25'
        refine go_s (pc' := 111) rfl rfl rfl rfl ?_
        refine go_s (pc' := 112) (lo' := [some (.ref 62), some (.int 2), some (.int 3)]) rfl rfl rfl rfl ?_
        refine go_s (pc' := 57) rfl rfl rfl rfl ?_
        have hms : rdB 2 2 (I, Q, Z) = (I, Q, Z) := if_pos (Or.inr (Or.inr (Or.inr ⟨c4, c25⟩)))
        rw [hms] at C
        exact C _ (RA_R (by omega) hA)
theorem stB_0_3 {w : Nat → Bool} {d B R : Nat} {h : am_Hp} {I : sm_I} {Q : mQ} {Z : mZ} {P : Option Value → am_Hp → Prop} (hA : RA w B R [] true h (I, Q, Z)) (hR : R + 1 < 40000) {X : Nat} (hM : MID X (I, Q, Z)) (hX : X + 60 < 2 ^ 28) (hd : 5 ≤ d) (C : ∀ h', RA w B (R + 0) [] true h' (rdB 0 3 (I, Q, Z)) → am_Go (am_prog w) d am_c163 none 57 [some (.ref 62), some (.int 3), some (.int 1)] [] h' P) : am_Go (am_prog w) d am_c163 none 57 [some (.ref 62), some (.int 3), some (.int 0)] [] h P := by
  obtain ⟨K, Y, am, ln, hS, hU⟩ := RA_u.mp hA
  change sm (tbr am (13 * ln) 77 5088) h (jn I K) Y at hS
  obtain ⟨hW, hWm, -, -, hr, -⟩ := id hU.1
  have hln := RU_ln hU (by omega)
  have hp0 : prk I 0 := (hM.2.2.1 0 (by decide)).1
  have hp1 : prk I 1 := (hM.2.2.1 1 (by decide)).1
  have hp2 : prk I 2 := (hM.2.2.1 2 (by decide)).1
  rcases hp0 with e1 | e1 | e1
  · skip
    refine go_s (pc' := 58) rfl rfl rfl rfl ?_
    refine go_s (pc' := 59) (st' := [.int 3, .int 0]) rfl rfl rfl rfl ?_
    refine go_icmpP (t' := 113) (pc' := 60) rfl rfl rfl (fun (c : 3 ≤ (0 : Int32)) => absurd c (by decide)) (fun _ => ?_)
    refine go_s (pc' := 61) rfl rfl rfl rfl ?_
    refine go_sget (pc' := 62) (v := .ref 78) hS rfl rfl rfl (by decide) rfl rfl ?_
    refine go_s (pc' := 63) rfl rfl rfl rfl ?_
    refine go_sald (pc' := 64) (q := 0) (v := .int (-1)) hS rfl (tr_s hr (a := 78) rfl (by decide)) rfl rfl (by decide) (congrArg Value.int e1) rfl ?_
    refine go_s (pc' := 65) (st' := [.int (-1), .int (-1)]) rfl rfl rfl rfl ?_
    refine go_icmpP (t' := 111) (pc' := 66) rfl rfl rfl (fun _ => ?_) (fun (c : ¬ (((-1) : Int32) = (-1))) => absurd (by decide) c)
    refine go_s (pc' := 112) (lo' := [some (.ref 62), some (.int 3), some (.int 1)]) rfl rfl rfl rfl ?_
    refine go_s (pc' := 57) rfl rfl rfl rfl ?_
    have hms : rdB 0 3 (I, Q, Z) = (I, Q, Z) := if_pos (Or.inl e1)
    rw [hms] at C
    exact C _ (RA_R (by omega) hA)
  · skip
    refine go_s (pc' := 58) rfl rfl rfl rfl ?_
    refine go_s (pc' := 59) (st' := [.int 3, .int 0]) rfl rfl rfl rfl ?_
    refine go_icmpP (t' := 113) (pc' := 60) rfl rfl rfl (fun (c : 3 ≤ (0 : Int32)) => absurd c (by decide)) (fun _ => ?_)
    refine go_s (pc' := 61) rfl rfl rfl rfl ?_
    refine go_sget (pc' := 62) (v := .ref 78) hS rfl rfl rfl (by decide) rfl rfl ?_
    refine go_s (pc' := 63) rfl rfl rfl rfl ?_
    refine go_sald (pc' := 64) (q := 0) (v := .int 0) hS rfl (tr_s hr (a := 78) rfl (by decide)) rfl rfl (by decide) (congrArg Value.int e1) rfl ?_
    refine go_s (pc' := 65) (st' := [.int (-1), .int 0]) rfl rfl rfl rfl ?_
    refine go_icmpP (t' := 111) (pc' := 66) rfl rfl rfl (fun (c : (0 : Int32) = (-1)) => absurd c (by decide)) (fun _ => ?_)
    refine go_s (pc' := 67) rfl rfl rfl rfl ?_
    refine go_sget (pc' := 68) (v := .ref 78) hS rfl rfl rfl (by decide) rfl rfl ?_
    refine go_s (pc' := 69) rfl rfl rfl rfl ?_
    refine go_sald (pc' := 70) (q := 0) (v := .int 0) hS rfl (tr_s hr (a := 78) rfl (by decide)) rfl rfl (by decide) (congrArg Value.int e1) rfl ?_
    refine go_s (pc' := 71) rfl rfl rfl rfl ?_
    refine go_icmpP (t' := 111) (pc' := 72) rfl rfl rfl (fun (c : (0 : Int32) = 3) => absurd c (by decide)) (fun _ => ?_)
    refine go_s (pc' := 73) rfl rfl rfl rfl ?_
    refine go_s (pc' := 74) rfl rfl rfl rfl ?_
    refine go_callS (pc' := 75) rfl rfl rfl (Nat.le_of_ble_eq_true rfl) rfl rfl rfl (rt_ih_0_3 (by omega)) (fun r h2 q3 => ?_)
    obtain ⟨rfl, rfl⟩ := q3
    refine go_ifP (t' := 111) (pc' := 76) rfl rfl rfl (fun _ => ?_) (fun (c : ¬ ((0 : Int32) = 0)) => absurd (by decide) c)
    refine go_s (pc' := 112) (lo' := [some (.ref 62), some (.int 3), some (.int 1)]) rfl rfl rfl rfl ?_
    refine go_s (pc' := 57) rfl rfl rfl rfl ?_
    have hms : rdB 0 3 (I, Q, Z) = (I, Q, Z) := if_pos (Or.inr (Or.inr (Or.inl (by decide))))
    rw [hms] at C
    exact C _ (RA_R (by omega) hA)
  · skip
    refine go_s (pc' := 58) rfl rfl rfl rfl ?_
    refine go_s (pc' := 59) (st' := [.int 3, .int 0]) rfl rfl rfl rfl ?_
    refine go_icmpP (t' := 113) (pc' := 60) rfl rfl rfl (fun (c : 3 ≤ (0 : Int32)) => absurd c (by decide)) (fun _ => ?_)
    refine go_s (pc' := 61) rfl rfl rfl rfl ?_
    refine go_sget (pc' := 62) (v := .ref 78) hS rfl rfl rfl (by decide) rfl rfl ?_
    refine go_s (pc' := 63) rfl rfl rfl rfl ?_
    refine go_sald (pc' := 64) (q := 0) (v := .int 1) hS rfl (tr_s hr (a := 78) rfl (by decide)) rfl rfl (by decide) (congrArg Value.int e1) rfl ?_
    refine go_s (pc' := 65) (st' := [.int (-1), .int 1]) rfl rfl rfl rfl ?_
    refine go_icmpP (t' := 111) (pc' := 66) rfl rfl rfl (fun (c : (1 : Int32) = (-1)) => absurd c (by decide)) (fun _ => ?_)
    refine go_s (pc' := 67) rfl rfl rfl rfl ?_
    refine go_sget (pc' := 68) (v := .ref 78) hS rfl rfl rfl (by decide) rfl rfl ?_
    refine go_s (pc' := 69) rfl rfl rfl rfl ?_
    refine go_sald (pc' := 70) (q := 0) (v := .int 1) hS rfl (tr_s hr (a := 78) rfl (by decide)) rfl rfl (by decide) (congrArg Value.int e1) rfl ?_
    refine go_s (pc' := 71) rfl rfl rfl rfl ?_
    refine go_icmpP (t' := 111) (pc' := 72) rfl rfl rfl (fun (c : (1 : Int32) = 3) => absurd c (by decide)) (fun _ => ?_)
    refine go_s (pc' := 73) rfl rfl rfl rfl ?_
    refine go_s (pc' := 74) rfl rfl rfl rfl ?_
    refine go_callS (pc' := 75) rfl rfl rfl (Nat.le_of_ble_eq_true rfl) rfl rfl rfl (rt_ih_0_3 (by omega)) (fun r h4 q5 => ?_)
    obtain ⟨rfl, rfl⟩ := q5
    refine go_ifP (t' := 111) (pc' := 76) rfl rfl rfl (fun _ => ?_) (fun (c : ¬ ((0 : Int32) = 0)) => absurd (by decide) c)
    refine go_s (pc' := 112) (lo' := [some (.ref 62), some (.int 3), some (.int 1)]) rfl rfl rfl rfl ?_
    refine go_s (pc' := 57) rfl rfl rfl rfl ?_
    have hms : rdB 0 3 (I, Q, Z) = (I, Q, Z) := if_pos (Or.inr (Or.inr (Or.inl (by decide))))
    rw [hms] at C
    exact C _ (RA_R (by omega) hA)
theorem stB_1_3 {w : Nat → Bool} {d B R : Nat} {h : am_Hp} {I : sm_I} {Q : mQ} {Z : mZ} {P : Option Value → am_Hp → Prop} (hA : RA w B R [] true h (I, Q, Z)) (hR : R + 1 < 40000) {X : Nat} (hM : MID X (I, Q, Z)) (hX : X + 60 < 2 ^ 28) (hd : 5 ≤ d) (C : ∀ h', RA w B (R + 1) [] true h' (rdB 1 3 (I, Q, Z)) → am_Go (am_prog w) d am_c163 none 57 [some (.ref 62), some (.int 3), some (.int 2)] [] h' P) : am_Go (am_prog w) d am_c163 none 57 [some (.ref 62), some (.int 3), some (.int 1)] [] h P := by
  obtain ⟨K, Y, am, ln, hS, hU⟩ := RA_u.mp hA
  change sm (tbr am (13 * ln) 77 5088) h (jn I K) Y at hS
  obtain ⟨hW, hWm, -, -, hr, -⟩ := id hU.1
  have hln := RU_ln hU (by omega)
  have hp0 : prk I 0 := (hM.2.2.1 0 (by decide)).1
  have hp1 : prk I 1 := (hM.2.2.1 1 (by decide)).1
  have hp2 : prk I 2 := (hM.2.2.1 2 (by decide)).1
  rcases hp1 with e1 | e1 | e1
  · skip
    refine go_s (pc' := 58) rfl rfl rfl rfl ?_
    refine go_s (pc' := 59) (st' := [.int 3, .int 1]) rfl rfl rfl rfl ?_
    refine go_icmpP (t' := 113) (pc' := 60) rfl rfl rfl (fun (c : 3 ≤ (1 : Int32)) => absurd c (by decide)) (fun _ => ?_)
    refine go_s (pc' := 61) rfl rfl rfl rfl ?_
    refine go_sget (pc' := 62) (v := .ref 78) hS rfl rfl rfl (by decide) rfl rfl ?_
    refine go_s (pc' := 63) rfl rfl rfl rfl ?_
    refine go_sald (pc' := 64) (q := 1) (v := .int (-1)) hS rfl (tr_s hr (a := 78) rfl (by decide)) rfl rfl (by decide) (congrArg Value.int e1) rfl ?_
    refine go_s (pc' := 65) (st' := [.int (-1), .int (-1)]) rfl rfl rfl rfl ?_
    refine go_icmpP (t' := 111) (pc' := 66) rfl rfl rfl (fun _ => ?_) (fun (c : ¬ (((-1) : Int32) = (-1))) => absurd (by decide) c)
    refine go_s (pc' := 112) (lo' := [some (.ref 62), some (.int 3), some (.int 2)]) rfl rfl rfl rfl ?_
    refine go_s (pc' := 57) rfl rfl rfl rfl ?_
    have hms : rdB 1 3 (I, Q, Z) = (I, Q, Z) := if_pos (Or.inl e1)
    rw [hms] at C
    exact C _ (RA_R (by omega) hA)
  · skip
    refine go_s (pc' := 58) rfl rfl rfl rfl ?_
    refine go_s (pc' := 59) (st' := [.int 3, .int 1]) rfl rfl rfl rfl ?_
    refine go_icmpP (t' := 113) (pc' := 60) rfl rfl rfl (fun (c : 3 ≤ (1 : Int32)) => absurd c (by decide)) (fun _ => ?_)
    refine go_s (pc' := 61) rfl rfl rfl rfl ?_
    refine go_sget (pc' := 62) (v := .ref 78) hS rfl rfl rfl (by decide) rfl rfl ?_
    refine go_s (pc' := 63) rfl rfl rfl rfl ?_
    refine go_sald (pc' := 64) (q := 1) (v := .int 2) hS rfl (tr_s hr (a := 78) rfl (by decide)) rfl rfl (by decide) (congrArg Value.int e1) rfl ?_
    refine go_s (pc' := 65) (st' := [.int (-1), .int 2]) rfl rfl rfl rfl ?_
    refine go_icmpP (t' := 111) (pc' := 66) rfl rfl rfl (fun (c : (2 : Int32) = (-1)) => absurd c (by decide)) (fun _ => ?_)
    refine go_s (pc' := 67) rfl rfl rfl rfl ?_
    refine go_sget (pc' := 68) (v := .ref 78) hS rfl rfl rfl (by decide) rfl rfl ?_
    refine go_s (pc' := 69) rfl rfl rfl rfl ?_
    refine go_sald (pc' := 70) (q := 1) (v := .int 2) hS rfl (tr_s hr (a := 78) rfl (by decide)) rfl rfl (by decide) (congrArg Value.int e1) rfl ?_
    refine go_s (pc' := 71) rfl rfl rfl rfl ?_
    refine go_icmpP (t' := 111) (pc' := 72) rfl rfl rfl (fun (c : (2 : Int32) = 3) => absurd c (by decide)) (fun _ => ?_)
    refine go_s (pc' := 73) rfl rfl rfl rfl ?_
    refine go_s (pc' := 74) rfl rfl rfl rfl ?_
    refine go_callS (pc' := 75) rfl rfl rfl (Nat.le_of_ble_eq_true rfl) rfl rfl rfl (rt_ih_1_3 (by omega)) (fun r h2 q3 => ?_)
    obtain ⟨rfl, rfl⟩ := q3
    refine go_ifP (t' := 111) (pc' := 76) rfl rfl rfl (fun (c : (1 : Int32) = 0) => absurd c (by decide)) (fun _ => ?_)
    refine go_s (pc' := 77) rfl rfl rfl rfl ?_
    refine go_sget (pc' := 78) (v := .ref 79) hS rfl rfl rfl (by decide) rfl rfl ?_
    refine go_s (pc' := 79) rfl rfl rfl rfl ?_
    refine go_sald (pc' := 80) (q := 1) (v := .int (I 12 1)) hS rfl (tr_s hr (a := 79) rfl (by decide)) rfl rfl (by decide) rfl rfl ?_
    refine go_s (pc' := 81) (st' := [.int (-1), .int (I 12 1)]) rfl rfl rfl rfl ?_
    refine go_icmpP (t' := 88) (pc' := 82) rfl rfl rfl (fun (c4 : ¬ (I 12 1) = (-1)) => ?_) (fun (c4' : ¬ ¬ (I 12 1) = (-1)) => ?_)
    · skip
      refine go_s (pc' := 89) rfl rfl rfl rfl ?_
      refine go_sget (pc' := 90) (v := .ref 79) hS rfl rfl rfl (by decide) rfl rfl ?_
      refine go_s (pc' := 91) rfl rfl rfl rfl ?_
      refine go_s (pc' := 92) (st' := [.int (-1), .int 1, .ref 79]) rfl rfl rfl rfl ?_
      refine go_siast (pc' := 93) (q := 1) hS rfl (tr_s hr (a := 79) rfl (by decide)) tbr_inj (Nat.le_of_ble_eq_true rfl) rfl (by decide) (by decide) (hW _ (by decide) (by decide)) rfl (fun h5 hS6 hE7 => ?_)
      refine go_s (pc' := 94) rfl rfl rfl rfl ?_
      refine go_sget (pc' := 95) (v := .ref 80) hS6 rfl rfl rfl (by decide) rfl rfl ?_
      refine go_s (pc' := 96) rfl rfl rfl rfl ?_
      refine go_s (pc' := 97) (st' := [.int 0, .int 1, .ref 80]) rfl rfl rfl rfl ?_
      refine go_szast (pc' := 98) (q := 1) hS6 rfl (tr_s hr (a := 80) rfl (by decide)) tbr_inj (Nat.le_of_ble_eq_true rfl) rfl (by decide) (by decide) rfl (hW _ (by decide) (by decide)) rfl (fun h8 hS9 hE10 => ?_)
      have hE11 := sm_e_trans hE7 hE10
      refine go_s (pc' := 99) rfl rfl rfl rfl ?_
      refine go_s (pc' := 100) rfl rfl rfl rfl ?_
      refine go_callV (pc' := 101) rfl rfl rfl (Nat.le_of_ble_eq_true rfl) rfl (sm_o hS9 rfl) rfl rfl rfl (rt_lives_1 hr hS9 (Or.inr (Or.inl e1)) (by omega)) (fun r h12 q13 => ?_)
      obtain ⟨rfl, rfl⟩ := q13
      rw [show lv (uI (uI (jn I K) 12 1 (-1)) 13 1 0) 1 = lv (uI (uI I 12 1 (-1)) 13 1 0) 1 from rfl]
      cases u14 : lv (uI (uI I 12 1 (-1)) 13 1 0) 1
      · skip
        show am_Go _ _ _ _ 101 _ [.int 0] _ _
        refine go_ifP (t' := 111) (pc' := 102) rfl rfl rfl (fun _ => ?_) (fun (c : ¬ ((0 : Int32) = 0)) => absurd (by decide) c)
        refine go_s (pc' := 112) (lo' := [some (.ref 62), some (.int 3), some (.int 2)]) rfl rfl rfl rfl ?_
        refine go_s (pc' := 57) rfl rfl rfl rfl ?_
        change sm (tbr am (13 * ln) 77 5088) _ (uI (uI (jn I K) 12 1 (-1)) 13 1 0) Y at hS9
        rw [jn_lo (c := 12) (by decide), jn_lo (c := 13) (by decide)] at hS9
        have hU15 : RU w B R [] true h12 am ln K ((uI (uI I 12 1 (-1)) 13 1 0), Q, Z) := RU_I (hE11) (I' := (uI (uI I 12 1 (-1)) 13 1 0)) (fun _ => rfl) (fun _ => rfl) (Nat.le_refl _) hU
        have hA16 : RA w B R [] true h12 ((uI (uI I 12 1 (-1)) 13 1 0), Q, Z) := RA_u.mpr ⟨_, _, _, _, hS9, hU15⟩
        have hms : rdB 1 3 (I, Q, Z) = ((uI (uI I 12 1 (-1)) 13 1 0), Q, Z) := by
          unfold rdB
          rw [if_neg (fun z => z.elim (fun y => absurd (e1.symm.trans y) (by decide)) (fun z => z.elim (fun y => absurd (e1.symm.trans y) (by decide)) (fun z => z.elim (fun y => absurd y (by decide)) (fun y => c4 y.1))))]
          exact if_neg (fun y => by rw [show lv (((uI (uI I 12 1 (-1)) 13 1 0), Q, Z) : mM).1 1 = false from u14] at y; exact absurd y.1 (by decide))
        rw [hms] at C
        exact C _ (RA_R (by omega) hA16)
      · skip
        show am_Go _ _ _ _ 101 _ [.int 1] _ _
        refine go_ifP (t' := 111) (pc' := 102) rfl rfl rfl (fun (c : (1 : Int32) = 0) => absurd c (by decide)) (fun _ => ?_)
        refine go_s (pc' := 103) rfl rfl rfl rfl ?_
        refine go_sget (pc' := 104) (v := .ref 83) hS9 rfl rfl rfl (by decide) rfl rfl ?_
        refine go_s (pc' := 105) rfl rfl rfl rfl ?_
        refine go_sald (pc' := 106) (q := 1) (v := .int (I 16 1)) hS9 rfl (tr_s hr (a := 83) rfl (by decide)) rfl rfl (by decide) rfl rfl ?_
        refine go_s (pc' := 107) (st' := [.int 1, .int (I 16 1)]) rfl rfl rfl rfl ?_
        refine go_icmpP (t' := 111) (pc' := 108) rfl rfl rfl (fun (c17 : ¬ (I 16 1) = 1) => ?_) (fun (c17' : ¬ ¬ (I 16 1) = 1) => ?_)
        · skip
          refine go_s (pc' := 112) (lo' := [some (.ref 62), some (.int 3), some (.int 2)]) rfl rfl rfl rfl ?_
          refine go_s (pc' := 57) rfl rfl rfl rfl ?_
          change sm (tbr am (13 * ln) 77 5088) _ (uI (uI (jn I K) 12 1 (-1)) 13 1 0) Y at hS9
          rw [jn_lo (c := 12) (by decide), jn_lo (c := 13) (by decide)] at hS9
          have hU18 : RU w B R [] true h12 am ln K ((uI (uI I 12 1 (-1)) 13 1 0), Q, Z) := RU_I (hE11) (I' := (uI (uI I 12 1 (-1)) 13 1 0)) (fun _ => rfl) (fun _ => rfl) (Nat.le_refl _) hU
          have hA19 : RA w B R [] true h12 ((uI (uI I 12 1 (-1)) 13 1 0), Q, Z) := RA_u.mpr ⟨_, _, _, _, hS9, hU18⟩
          have hms : rdB 1 3 (I, Q, Z) = ((uI (uI I 12 1 (-1)) 13 1 0), Q, Z) := by
            unfold rdB
            rw [if_neg (fun z => z.elim (fun y => absurd (e1.symm.trans y) (by decide)) (fun z => z.elim (fun y => absurd (e1.symm.trans y) (by decide)) (fun z => z.elim (fun y => absurd y (by decide)) (fun y => c4 y.1))))]
            exact if_neg (fun y => c17 y.2)
          rw [hms] at C
          exact C _ (RA_R (by omega) hA19)
        · skip
          have c17 : (I 16 1) = 1 := Decidable.not_not.mp c17'
          refine go_s (pc' := 109) rfl rfl rfl rfl ?_
          refine go_s (pc' := 110) rfl rfl rfl rfl ?_
          change sm (tbr am (13 * ln) 77 5088) _ (uI (uI (jn I K) 12 1 (-1)) 13 1 0) Y at hS9
          rw [jn_lo (c := 12) (by decide), jn_lo (c := 13) (by decide)] at hS9
          have hU20 : RU w B R [] true h12 am ln K ((uI (uI I 12 1 (-1)) 13 1 0), Q, Z) := RU_I (hE11) (I' := (uI (uI I 12 1 (-1)) 13 1 0)) (fun _ => rfl) (fun _ => rfl) (Nat.le_refl _) hU
          have hA21 : RA w B R [] true h12 ((uI (uI I 12 1 (-1)) 13 1 0), Q, Z) := RA_u.mpr ⟨_, _, _, _, hS9, hU20⟩
          refine go_callV (pc' := 111) rfl rfl rfl (Nat.le_of_ble_eq_true rfl) rfl (sm_o hS9 rfl) rfl rfl rfl (ra_go_1 hA21 (by omega) hp0 (Or.inr (Or.inl e1)) (fun z => absurd (e1.symm.trans z) (by decide)) (by omega)) (fun r h22 q23 => ?_)
          obtain ⟨rfl, hA24⟩ := q23
          refine go_s (pc' := 112) (lo' := [some (.ref 62), some (.int 3), some (.int 2)]) rfl rfl rfl rfl ?_
          refine go_s (pc' := 57) rfl rfl rfl rfl ?_
          have hms : rdB 1 3 (I, Q, Z) = rgo 1 ((uI (uI I 12 1 (-1)) 13 1 0), Q, Z) := by
            unfold rdB
            rw [if_neg (fun z => z.elim (fun y => absurd (e1.symm.trans y) (by decide)) (fun z => z.elim (fun y => absurd (e1.symm.trans y) (by decide)) (fun z => z.elim (fun y => absurd y (by decide)) (fun y => c4 y.1))))]
            exact if_pos ⟨u14, c17⟩
          rw [hms] at C
          exact C _ (RA_R (by omega) hA24)
    · skip
      have c4 : (I 12 1) = (-1) := Decidable.not_not.mp c4'
      refine go_s (pc' := 83) rfl rfl rfl rfl ?_
      refine go_sget (pc' := 84) (v := .ref 80) hS rfl rfl rfl (by decide) rfl rfl ?_
      refine go_s (pc' := 85) rfl rfl rfl rfl ?_
      refine go_sald (pc' := 86) (q := 1) (v := .int (I 13 1)) hS rfl (tr_s hr (a := 80) rfl (by decide)) rfl rfl (by decide) rfl rfl ?_
      refine go_ifP (t' := 88) (pc' := 87) rfl rfl rfl (fun (c25 : ¬ (I 13 1) = 0) => ?_) (fun (c25' : ¬ ¬ (I 13 1) = 0) => ?_)
      · skip
        refine go_s (pc' := 89) rfl rfl rfl rfl ?_
        refine go_sget (pc' := 90) (v := .ref 79) hS rfl rfl rfl (by decide) rfl rfl ?_
        refine go_s (pc' := 91) rfl rfl rfl rfl ?_
        refine go_s (pc' := 92) (st' := [.int (-1), .int 1, .ref 79]) rfl rfl rfl rfl ?_
        refine go_siast (pc' := 93) (q := 1) hS rfl (tr_s hr (a := 79) rfl (by decide)) tbr_inj (Nat.le_of_ble_eq_true rfl) rfl (by decide) (by decide) (hW _ (by decide) (by decide)) rfl (fun h26 hS27 hE28 => ?_)
        refine go_s (pc' := 94) rfl rfl rfl rfl ?_
        refine go_sget (pc' := 95) (v := .ref 80) hS27 rfl rfl rfl (by decide) rfl rfl ?_
        refine go_s (pc' := 96) rfl rfl rfl rfl ?_
        refine go_s (pc' := 97) (st' := [.int 0, .int 1, .ref 80]) rfl rfl rfl rfl ?_
        refine go_szast (pc' := 98) (q := 1) hS27 rfl (tr_s hr (a := 80) rfl (by decide)) tbr_inj (Nat.le_of_ble_eq_true rfl) rfl (by decide) (by decide) rfl (hW _ (by decide) (by decide)) rfl (fun h29 hS30 hE31 => ?_)
        have hE32 := sm_e_trans hE28 hE31
        refine go_s (pc' := 99) rfl rfl rfl rfl ?_
        refine go_s (pc' := 100) rfl rfl rfl rfl ?_
        refine go_callV (pc' := 101) rfl rfl rfl (Nat.le_of_ble_eq_true rfl) rfl (sm_o hS30 rfl) rfl rfl rfl (rt_lives_1 hr hS30 (Or.inr (Or.inl e1)) (by omega)) (fun r h33 q34 => ?_)
        obtain ⟨rfl, rfl⟩ := q34
        rw [show lv (uI (uI (jn I K) 12 1 (-1)) 13 1 0) 1 = lv (uI (uI I 12 1 (-1)) 13 1 0) 1 from rfl]
        cases u35 : lv (uI (uI I 12 1 (-1)) 13 1 0) 1
        · skip
          show am_Go _ _ _ _ 101 _ [.int 0] _ _
          refine go_ifP (t' := 111) (pc' := 102) rfl rfl rfl (fun _ => ?_) (fun (c : ¬ ((0 : Int32) = 0)) => absurd (by decide) c)
          refine go_s (pc' := 112) (lo' := [some (.ref 62), some (.int 3), some (.int 2)]) rfl rfl rfl rfl ?_
          refine go_s (pc' := 57) rfl rfl rfl rfl ?_
          change sm (tbr am (13 * ln) 77 5088) _ (uI (uI (jn I K) 12 1 (-1)) 13 1 0) Y at hS30
          rw [jn_lo (c := 12) (by decide), jn_lo (c := 13) (by decide)] at hS30
          have hU36 : RU w B R [] true h33 am ln K ((uI (uI I 12 1 (-1)) 13 1 0), Q, Z) := RU_I (hE32) (I' := (uI (uI I 12 1 (-1)) 13 1 0)) (fun _ => rfl) (fun _ => rfl) (Nat.le_refl _) hU
          have hA37 : RA w B R [] true h33 ((uI (uI I 12 1 (-1)) 13 1 0), Q, Z) := RA_u.mpr ⟨_, _, _, _, hS30, hU36⟩
          have hms : rdB 1 3 (I, Q, Z) = ((uI (uI I 12 1 (-1)) 13 1 0), Q, Z) := by
            unfold rdB
            rw [if_neg (fun z => z.elim (fun y => absurd (e1.symm.trans y) (by decide)) (fun z => z.elim (fun y => absurd (e1.symm.trans y) (by decide)) (fun z => z.elim (fun y => absurd y (by decide)) (fun y => c25 y.2))))]
            exact if_neg (fun y => by rw [show lv (((uI (uI I 12 1 (-1)) 13 1 0), Q, Z) : mM).1 1 = false from u35] at y; exact absurd y.1 (by decide))
          rw [hms] at C
          exact C _ (RA_R (by omega) hA37)
        · skip
          show am_Go _ _ _ _ 101 _ [.int 1] _ _
          refine go_ifP (t' := 111) (pc' := 102) rfl rfl rfl (fun (c : (1 : Int32) = 0) => absurd c (by decide)) (fun _ => ?_)
          refine go_s (pc' := 103) rfl rfl rfl rfl ?_
          refine go_sget (pc' := 104) (v := .ref 83) hS30 rfl rfl rfl (by decide) rfl rfl ?_
          refine go_s (pc' := 105) rfl rfl rfl rfl ?_
          refine go_sald (pc' := 106) (q := 1) (v := .int (I 16 1)) hS30 rfl (tr_s hr (a := 83) rfl (by decide)) rfl rfl (by decide) rfl rfl ?_
          refine go_s (pc' := 107) (st' := [.int 1, .int (I 16 1)]) rfl rfl rfl rfl ?_
          refine go_icmpP (t' := 111) (pc' := 108) rfl rfl rfl (fun (c38 : ¬ (I 16 1) = 1) => ?_) (fun (c38' : ¬ ¬ (I 16 1) = 1) => ?_)
          · skip
            refine go_s (pc' := 112) (lo' := [some (.ref 62), some (.int 3), some (.int 2)]) rfl rfl rfl rfl ?_
            refine go_s (pc' := 57) rfl rfl rfl rfl ?_
            change sm (tbr am (13 * ln) 77 5088) _ (uI (uI (jn I K) 12 1 (-1)) 13 1 0) Y at hS30
            rw [jn_lo (c := 12) (by decide), jn_lo (c := 13) (by decide)] at hS30
            have hU39 : RU w B R [] true h33 am ln K ((uI (uI I 12 1 (-1)) 13 1 0), Q, Z) := RU_I (hE32) (I' := (uI (uI I 12 1 (-1)) 13 1 0)) (fun _ => rfl) (fun _ => rfl) (Nat.le_refl _) hU
            have hA40 : RA w B R [] true h33 ((uI (uI I 12 1 (-1)) 13 1 0), Q, Z) := RA_u.mpr ⟨_, _, _, _, hS30, hU39⟩
            have hms : rdB 1 3 (I, Q, Z) = ((uI (uI I 12 1 (-1)) 13 1 0), Q, Z) := by
              unfold rdB
              rw [if_neg (fun z => z.elim (fun y => absurd (e1.symm.trans y) (by decide)) (fun z => z.elim (fun y => absurd (e1.symm.trans y) (by decide)) (fun z => z.elim (fun y => absurd y (by decide)) (fun y => c25 y.2))))]
              exact if_neg (fun y => c38 y.2)
            rw [hms] at C
            exact C _ (RA_R (by omega) hA40)
          · skip
            have c38 : (I 16 1) = 1 := Decidable.not_not.mp c38'
            refine go_s (pc' := 109) rfl rfl rfl rfl ?_
            refine go_s (pc' := 110) rfl rfl rfl rfl ?_
            change sm (tbr am (13 * ln) 77 5088) _ (uI (uI (jn I K) 12 1 (-1)) 13 1 0) Y at hS30
            rw [jn_lo (c := 12) (by decide), jn_lo (c := 13) (by decide)] at hS30
            have hU41 : RU w B R [] true h33 am ln K ((uI (uI I 12 1 (-1)) 13 1 0), Q, Z) := RU_I (hE32) (I' := (uI (uI I 12 1 (-1)) 13 1 0)) (fun _ => rfl) (fun _ => rfl) (Nat.le_refl _) hU
            have hA42 : RA w B R [] true h33 ((uI (uI I 12 1 (-1)) 13 1 0), Q, Z) := RA_u.mpr ⟨_, _, _, _, hS30, hU41⟩
            refine go_callV (pc' := 111) rfl rfl rfl (Nat.le_of_ble_eq_true rfl) rfl (sm_o hS30 rfl) rfl rfl rfl (ra_go_1 hA42 (by omega) hp0 (Or.inr (Or.inl e1)) (fun z => absurd (e1.symm.trans z) (by decide)) (by omega)) (fun r h43 q44 => ?_)
            obtain ⟨rfl, hA45⟩ := q44
            refine go_s (pc' := 112) (lo' := [some (.ref 62), some (.int 3), some (.int 2)]) rfl rfl rfl rfl ?_
            refine go_s (pc' := 57) rfl rfl rfl rfl ?_
            have hms : rdB 1 3 (I, Q, Z) = rgo 1 ((uI (uI I 12 1 (-1)) 13 1 0), Q, Z) := by
              unfold rdB
              rw [if_neg (fun z => z.elim (fun y => absurd (e1.symm.trans y) (by decide)) (fun z => z.elim (fun y => absurd (e1.symm.trans y) (by decide)) (fun z => z.elim (fun y => absurd y (by decide)) (fun y => c25 y.2))))]
              exact if_pos ⟨u35, c38⟩
            rw [hms] at C
            exact C _ (RA_R (by omega) hA45)
      · skip
        have c25 : (I 13 1) = 0 := Decidable.not_not.mp c25'
        refine go_s (pc' := 111) rfl rfl rfl rfl ?_
        refine go_s (pc' := 112) (lo' := [some (.ref 62), some (.int 3), some (.int 2)]) rfl rfl rfl rfl ?_
        refine go_s (pc' := 57) rfl rfl rfl rfl ?_
        have hms : rdB 1 3 (I, Q, Z) = (I, Q, Z) := if_pos (Or.inr (Or.inr (Or.inr ⟨c4, c25⟩)))
        rw [hms] at C
        exact C _ (RA_R (by omega) hA)
  · skip
    refine go_s (pc' := 58) rfl rfl rfl rfl ?_
    refine go_s (pc' := 59) (st' := [.int 3, .int 1]) rfl rfl rfl rfl ?_
    refine go_icmpP (t' := 113) (pc' := 60) rfl rfl rfl (fun (c : 3 ≤ (1 : Int32)) => absurd c (by decide)) (fun _ => ?_)
    refine go_s (pc' := 61) rfl rfl rfl rfl ?_
    refine go_sget (pc' := 62) (v := .ref 78) hS rfl rfl rfl (by decide) rfl rfl ?_
    refine go_s (pc' := 63) rfl rfl rfl rfl ?_
    refine go_sald (pc' := 64) (q := 1) (v := .int 3) hS rfl (tr_s hr (a := 78) rfl (by decide)) rfl rfl (by decide) (congrArg Value.int e1) rfl ?_
    refine go_s (pc' := 65) (st' := [.int (-1), .int 3]) rfl rfl rfl rfl ?_
    refine go_icmpP (t' := 111) (pc' := 66) rfl rfl rfl (fun (c : (3 : Int32) = (-1)) => absurd c (by decide)) (fun _ => ?_)
    refine go_s (pc' := 67) rfl rfl rfl rfl ?_
    refine go_sget (pc' := 68) (v := .ref 78) hS rfl rfl rfl (by decide) rfl rfl ?_
    refine go_s (pc' := 69) rfl rfl rfl rfl ?_
    refine go_sald (pc' := 70) (q := 1) (v := .int 3) hS rfl (tr_s hr (a := 78) rfl (by decide)) rfl rfl (by decide) (congrArg Value.int e1) rfl ?_
    refine go_s (pc' := 71) rfl rfl rfl rfl ?_
    refine go_icmpP (t' := 111) (pc' := 72) rfl rfl rfl (fun _ => ?_) (fun (c : ¬ ((3 : Int32) = 3)) => absurd (by decide) c)
    refine go_s (pc' := 112) (lo' := [some (.ref 62), some (.int 3), some (.int 2)]) rfl rfl rfl rfl ?_
    refine go_s (pc' := 57) rfl rfl rfl rfl ?_
    have hms : rdB 1 3 (I, Q, Z) = (I, Q, Z) := if_pos (Or.inr (Or.inl e1))
    rw [hms] at C
    exact C _ (RA_R (by omega) hA)
theorem stB_2_3 {w : Nat → Bool} {d B R : Nat} {h : am_Hp} {I : sm_I} {Q : mQ} {Z : mZ} {P : Option Value → am_Hp → Prop} (hA : RA w B R [] true h (I, Q, Z)) (hR : R + 1 < 40000) {X : Nat} (hM : MID X (I, Q, Z)) (hX : X + 60 < 2 ^ 28) (hd : 5 ≤ d) (C : ∀ h', RA w B (R + 1) [] true h' (rdB 2 3 (I, Q, Z)) → am_Go (am_prog w) d am_c163 none 57 [some (.ref 62), some (.int 3), some (.int 3)] [] h' P) : am_Go (am_prog w) d am_c163 none 57 [some (.ref 62), some (.int 3), some (.int 2)] [] h P := by
  obtain ⟨K, Y, am, ln, hS, hU⟩ := RA_u.mp hA
  change sm (tbr am (13 * ln) 77 5088) h (jn I K) Y at hS
  obtain ⟨hW, hWm, -, -, hr, -⟩ := id hU.1
  have hln := RU_ln hU (by omega)
  have hp0 : prk I 0 := (hM.2.2.1 0 (by decide)).1
  have hp1 : prk I 1 := (hM.2.2.1 1 (by decide)).1
  have hp2 : prk I 2 := (hM.2.2.1 2 (by decide)).1
  rcases hp2 with e1 | e1 | e1
  · skip
    refine go_s (pc' := 58) rfl rfl rfl rfl ?_
    refine go_s (pc' := 59) (st' := [.int 3, .int 2]) rfl rfl rfl rfl ?_
    refine go_icmpP (t' := 113) (pc' := 60) rfl rfl rfl (fun (c : 3 ≤ (2 : Int32)) => absurd c (by decide)) (fun _ => ?_)
    refine go_s (pc' := 61) rfl rfl rfl rfl ?_
    refine go_sget (pc' := 62) (v := .ref 78) hS rfl rfl rfl (by decide) rfl rfl ?_
    refine go_s (pc' := 63) rfl rfl rfl rfl ?_
    refine go_sald (pc' := 64) (q := 2) (v := .int (-1)) hS rfl (tr_s hr (a := 78) rfl (by decide)) rfl rfl (by decide) (congrArg Value.int e1) rfl ?_
    refine go_s (pc' := 65) (st' := [.int (-1), .int (-1)]) rfl rfl rfl rfl ?_
    refine go_icmpP (t' := 111) (pc' := 66) rfl rfl rfl (fun _ => ?_) (fun (c : ¬ (((-1) : Int32) = (-1))) => absurd (by decide) c)
    refine go_s (pc' := 112) (lo' := [some (.ref 62), some (.int 3), some (.int 3)]) rfl rfl rfl rfl ?_
    refine go_s (pc' := 57) rfl rfl rfl rfl ?_
    have hms : rdB 2 3 (I, Q, Z) = (I, Q, Z) := if_pos (Or.inl e1)
    rw [hms] at C
    exact C _ (RA_R (by omega) hA)
  · skip
    refine go_s (pc' := 58) rfl rfl rfl rfl ?_
    refine go_s (pc' := 59) (st' := [.int 3, .int 2]) rfl rfl rfl rfl ?_
    refine go_icmpP (t' := 113) (pc' := 60) rfl rfl rfl (fun (c : 3 ≤ (2 : Int32)) => absurd c (by decide)) (fun _ => ?_)
    refine go_s (pc' := 61) rfl rfl rfl rfl ?_
    refine go_sget (pc' := 62) (v := .ref 78) hS rfl rfl rfl (by decide) rfl rfl ?_
    refine go_s (pc' := 63) rfl rfl rfl rfl ?_
    refine go_sald (pc' := 64) (q := 2) (v := .int 2) hS rfl (tr_s hr (a := 78) rfl (by decide)) rfl rfl (by decide) (congrArg Value.int e1) rfl ?_
    refine go_s (pc' := 65) (st' := [.int (-1), .int 2]) rfl rfl rfl rfl ?_
    refine go_icmpP (t' := 111) (pc' := 66) rfl rfl rfl (fun (c : (2 : Int32) = (-1)) => absurd c (by decide)) (fun _ => ?_)
    refine go_s (pc' := 67) rfl rfl rfl rfl ?_
    refine go_sget (pc' := 68) (v := .ref 78) hS rfl rfl rfl (by decide) rfl rfl ?_
    refine go_s (pc' := 69) rfl rfl rfl rfl ?_
    refine go_sald (pc' := 70) (q := 2) (v := .int 2) hS rfl (tr_s hr (a := 78) rfl (by decide)) rfl rfl (by decide) (congrArg Value.int e1) rfl ?_
    refine go_s (pc' := 71) rfl rfl rfl rfl ?_
    refine go_icmpP (t' := 111) (pc' := 72) rfl rfl rfl (fun (c : (2 : Int32) = 3) => absurd c (by decide)) (fun _ => ?_)
    refine go_s (pc' := 73) rfl rfl rfl rfl ?_
    refine go_s (pc' := 74) rfl rfl rfl rfl ?_
    refine go_callS (pc' := 75) rfl rfl rfl (Nat.le_of_ble_eq_true rfl) rfl rfl rfl (rt_ih_2_3 (by omega)) (fun r h2 q3 => ?_)
    obtain ⟨rfl, rfl⟩ := q3
    refine go_ifP (t' := 111) (pc' := 76) rfl rfl rfl (fun (c : (1 : Int32) = 0) => absurd c (by decide)) (fun _ => ?_)
    refine go_s (pc' := 77) rfl rfl rfl rfl ?_
    refine go_sget (pc' := 78) (v := .ref 79) hS rfl rfl rfl (by decide) rfl rfl ?_
    refine go_s (pc' := 79) rfl rfl rfl rfl ?_
    refine go_sald (pc' := 80) (q := 2) (v := .int (I 12 2)) hS rfl (tr_s hr (a := 79) rfl (by decide)) rfl rfl (by decide) rfl rfl ?_
    refine go_s (pc' := 81) (st' := [.int (-1), .int (I 12 2)]) rfl rfl rfl rfl ?_
    refine go_icmpP (t' := 88) (pc' := 82) rfl rfl rfl (fun (c4 : ¬ (I 12 2) = (-1)) => ?_) (fun (c4' : ¬ ¬ (I 12 2) = (-1)) => ?_)
    · skip
      refine go_s (pc' := 89) rfl rfl rfl rfl ?_
      refine go_sget (pc' := 90) (v := .ref 79) hS rfl rfl rfl (by decide) rfl rfl ?_
      refine go_s (pc' := 91) rfl rfl rfl rfl ?_
      refine go_s (pc' := 92) (st' := [.int (-1), .int 2, .ref 79]) rfl rfl rfl rfl ?_
      refine go_siast (pc' := 93) (q := 2) hS rfl (tr_s hr (a := 79) rfl (by decide)) tbr_inj (Nat.le_of_ble_eq_true rfl) rfl (by decide) (by decide) (hW _ (by decide) (by decide)) rfl (fun h5 hS6 hE7 => ?_)
      refine go_s (pc' := 94) rfl rfl rfl rfl ?_
      refine go_sget (pc' := 95) (v := .ref 80) hS6 rfl rfl rfl (by decide) rfl rfl ?_
      refine go_s (pc' := 96) rfl rfl rfl rfl ?_
      refine go_s (pc' := 97) (st' := [.int 0, .int 2, .ref 80]) rfl rfl rfl rfl ?_
      refine go_szast (pc' := 98) (q := 2) hS6 rfl (tr_s hr (a := 80) rfl (by decide)) tbr_inj (Nat.le_of_ble_eq_true rfl) rfl (by decide) (by decide) rfl (hW _ (by decide) (by decide)) rfl (fun h8 hS9 hE10 => ?_)
      have hE11 := sm_e_trans hE7 hE10
      refine go_s (pc' := 99) rfl rfl rfl rfl ?_
      refine go_s (pc' := 100) rfl rfl rfl rfl ?_
      refine go_callV (pc' := 101) rfl rfl rfl (Nat.le_of_ble_eq_true rfl) rfl (sm_o hS9 rfl) rfl rfl rfl (rt_lives_2 hr hS9 (Or.inr (Or.inl e1)) (by omega)) (fun r h12 q13 => ?_)
      obtain ⟨rfl, rfl⟩ := q13
      rw [show lv (uI (uI (jn I K) 12 2 (-1)) 13 2 0) 2 = lv (uI (uI I 12 2 (-1)) 13 2 0) 2 from rfl]
      cases u14 : lv (uI (uI I 12 2 (-1)) 13 2 0) 2
      · skip
        show am_Go _ _ _ _ 101 _ [.int 0] _ _
        refine go_ifP (t' := 111) (pc' := 102) rfl rfl rfl (fun _ => ?_) (fun (c : ¬ ((0 : Int32) = 0)) => absurd (by decide) c)
        refine go_s (pc' := 112) (lo' := [some (.ref 62), some (.int 3), some (.int 3)]) rfl rfl rfl rfl ?_
        refine go_s (pc' := 57) rfl rfl rfl rfl ?_
        change sm (tbr am (13 * ln) 77 5088) _ (uI (uI (jn I K) 12 2 (-1)) 13 2 0) Y at hS9
        rw [jn_lo (c := 12) (by decide), jn_lo (c := 13) (by decide)] at hS9
        have hU15 : RU w B R [] true h12 am ln K ((uI (uI I 12 2 (-1)) 13 2 0), Q, Z) := RU_I (hE11) (I' := (uI (uI I 12 2 (-1)) 13 2 0)) (fun _ => rfl) (fun _ => rfl) (Nat.le_refl _) hU
        have hA16 : RA w B R [] true h12 ((uI (uI I 12 2 (-1)) 13 2 0), Q, Z) := RA_u.mpr ⟨_, _, _, _, hS9, hU15⟩
        have hms : rdB 2 3 (I, Q, Z) = ((uI (uI I 12 2 (-1)) 13 2 0), Q, Z) := by
          unfold rdB
          rw [if_neg (fun z => z.elim (fun y => absurd (e1.symm.trans y) (by decide)) (fun z => z.elim (fun y => absurd (e1.symm.trans y) (by decide)) (fun z => z.elim (fun y => absurd y (by decide)) (fun y => c4 y.1))))]
          exact if_neg (fun y => by rw [show lv (((uI (uI I 12 2 (-1)) 13 2 0), Q, Z) : mM).1 2 = false from u14] at y; exact absurd y.1 (by decide))
        rw [hms] at C
        exact C _ (RA_R (by omega) hA16)
      · skip
        show am_Go _ _ _ _ 101 _ [.int 1] _ _
        refine go_ifP (t' := 111) (pc' := 102) rfl rfl rfl (fun (c : (1 : Int32) = 0) => absurd c (by decide)) (fun _ => ?_)
        refine go_s (pc' := 103) rfl rfl rfl rfl ?_
        refine go_sget (pc' := 104) (v := .ref 83) hS9 rfl rfl rfl (by decide) rfl rfl ?_
        refine go_s (pc' := 105) rfl rfl rfl rfl ?_
        refine go_sald (pc' := 106) (q := 2) (v := .int (I 16 2)) hS9 rfl (tr_s hr (a := 83) rfl (by decide)) rfl rfl (by decide) rfl rfl ?_
        refine go_s (pc' := 107) (st' := [.int 1, .int (I 16 2)]) rfl rfl rfl rfl ?_
        refine go_icmpP (t' := 111) (pc' := 108) rfl rfl rfl (fun (c17 : ¬ (I 16 2) = 1) => ?_) (fun (c17' : ¬ ¬ (I 16 2) = 1) => ?_)
        · skip
          refine go_s (pc' := 112) (lo' := [some (.ref 62), some (.int 3), some (.int 3)]) rfl rfl rfl rfl ?_
          refine go_s (pc' := 57) rfl rfl rfl rfl ?_
          change sm (tbr am (13 * ln) 77 5088) _ (uI (uI (jn I K) 12 2 (-1)) 13 2 0) Y at hS9
          rw [jn_lo (c := 12) (by decide), jn_lo (c := 13) (by decide)] at hS9
          have hU18 : RU w B R [] true h12 am ln K ((uI (uI I 12 2 (-1)) 13 2 0), Q, Z) := RU_I (hE11) (I' := (uI (uI I 12 2 (-1)) 13 2 0)) (fun _ => rfl) (fun _ => rfl) (Nat.le_refl _) hU
          have hA19 : RA w B R [] true h12 ((uI (uI I 12 2 (-1)) 13 2 0), Q, Z) := RA_u.mpr ⟨_, _, _, _, hS9, hU18⟩
          have hms : rdB 2 3 (I, Q, Z) = ((uI (uI I 12 2 (-1)) 13 2 0), Q, Z) := by
            unfold rdB
            rw [if_neg (fun z => z.elim (fun y => absurd (e1.symm.trans y) (by decide)) (fun z => z.elim (fun y => absurd (e1.symm.trans y) (by decide)) (fun z => z.elim (fun y => absurd y (by decide)) (fun y => c4 y.1))))]
            exact if_neg (fun y => c17 y.2)
          rw [hms] at C
          exact C _ (RA_R (by omega) hA19)
        · skip
          have c17 : (I 16 2) = 1 := Decidable.not_not.mp c17'
          refine go_s (pc' := 109) rfl rfl rfl rfl ?_
          refine go_s (pc' := 110) rfl rfl rfl rfl ?_
          change sm (tbr am (13 * ln) 77 5088) _ (uI (uI (jn I K) 12 2 (-1)) 13 2 0) Y at hS9
          rw [jn_lo (c := 12) (by decide), jn_lo (c := 13) (by decide)] at hS9
          have hU20 : RU w B R [] true h12 am ln K ((uI (uI I 12 2 (-1)) 13 2 0), Q, Z) := RU_I (hE11) (I' := (uI (uI I 12 2 (-1)) 13 2 0)) (fun _ => rfl) (fun _ => rfl) (Nat.le_refl _) hU
          have hA21 : RA w B R [] true h12 ((uI (uI I 12 2 (-1)) 13 2 0), Q, Z) := RA_u.mpr ⟨_, _, _, _, hS9, hU20⟩
          refine go_callV (pc' := 111) rfl rfl rfl (Nat.le_of_ble_eq_true rfl) rfl (sm_o hS9 rfl) rfl rfl rfl (ra_go_2 hA21 (by omega) hp0 (Or.inr (Or.inl e1)) (fun z => absurd (e1.symm.trans z) (by decide)) (by omega)) (fun r h22 q23 => ?_)
          obtain ⟨rfl, hA24⟩ := q23
          refine go_s (pc' := 112) (lo' := [some (.ref 62), some (.int 3), some (.int 3)]) rfl rfl rfl rfl ?_
          refine go_s (pc' := 57) rfl rfl rfl rfl ?_
          have hms : rdB 2 3 (I, Q, Z) = rgo 2 ((uI (uI I 12 2 (-1)) 13 2 0), Q, Z) := by
            unfold rdB
            rw [if_neg (fun z => z.elim (fun y => absurd (e1.symm.trans y) (by decide)) (fun z => z.elim (fun y => absurd (e1.symm.trans y) (by decide)) (fun z => z.elim (fun y => absurd y (by decide)) (fun y => c4 y.1))))]
            exact if_pos ⟨u14, c17⟩
          rw [hms] at C
          exact C _ (RA_R (by omega) hA24)
    · skip
      have c4 : (I 12 2) = (-1) := Decidable.not_not.mp c4'
      refine go_s (pc' := 83) rfl rfl rfl rfl ?_
      refine go_sget (pc' := 84) (v := .ref 80) hS rfl rfl rfl (by decide) rfl rfl ?_
      refine go_s (pc' := 85) rfl rfl rfl rfl ?_
      refine go_sald (pc' := 86) (q := 2) (v := .int (I 13 2)) hS rfl (tr_s hr (a := 80) rfl (by decide)) rfl rfl (by decide) rfl rfl ?_
      refine go_ifP (t' := 88) (pc' := 87) rfl rfl rfl (fun (c25 : ¬ (I 13 2) = 0) => ?_) (fun (c25' : ¬ ¬ (I 13 2) = 0) => ?_)
      · skip
        refine go_s (pc' := 89) rfl rfl rfl rfl ?_
        refine go_sget (pc' := 90) (v := .ref 79) hS rfl rfl rfl (by decide) rfl rfl ?_
        refine go_s (pc' := 91) rfl rfl rfl rfl ?_
        refine go_s (pc' := 92) (st' := [.int (-1), .int 2, .ref 79]) rfl rfl rfl rfl ?_
        refine go_siast (pc' := 93) (q := 2) hS rfl (tr_s hr (a := 79) rfl (by decide)) tbr_inj (Nat.le_of_ble_eq_true rfl) rfl (by decide) (by decide) (hW _ (by decide) (by decide)) rfl (fun h26 hS27 hE28 => ?_)
        refine go_s (pc' := 94) rfl rfl rfl rfl ?_
        refine go_sget (pc' := 95) (v := .ref 80) hS27 rfl rfl rfl (by decide) rfl rfl ?_
        refine go_s (pc' := 96) rfl rfl rfl rfl ?_
        refine go_s (pc' := 97) (st' := [.int 0, .int 2, .ref 80]) rfl rfl rfl rfl ?_
        refine go_szast (pc' := 98) (q := 2) hS27 rfl (tr_s hr (a := 80) rfl (by decide)) tbr_inj (Nat.le_of_ble_eq_true rfl) rfl (by decide) (by decide) rfl (hW _ (by decide) (by decide)) rfl (fun h29 hS30 hE31 => ?_)
        have hE32 := sm_e_trans hE28 hE31
        refine go_s (pc' := 99) rfl rfl rfl rfl ?_
        refine go_s (pc' := 100) rfl rfl rfl rfl ?_
        refine go_callV (pc' := 101) rfl rfl rfl (Nat.le_of_ble_eq_true rfl) rfl (sm_o hS30 rfl) rfl rfl rfl (rt_lives_2 hr hS30 (Or.inr (Or.inl e1)) (by omega)) (fun r h33 q34 => ?_)
        obtain ⟨rfl, rfl⟩ := q34
        rw [show lv (uI (uI (jn I K) 12 2 (-1)) 13 2 0) 2 = lv (uI (uI I 12 2 (-1)) 13 2 0) 2 from rfl]
        cases u35 : lv (uI (uI I 12 2 (-1)) 13 2 0) 2
        · skip
          show am_Go _ _ _ _ 101 _ [.int 0] _ _
          refine go_ifP (t' := 111) (pc' := 102) rfl rfl rfl (fun _ => ?_) (fun (c : ¬ ((0 : Int32) = 0)) => absurd (by decide) c)
          refine go_s (pc' := 112) (lo' := [some (.ref 62), some (.int 3), some (.int 3)]) rfl rfl rfl rfl ?_
          refine go_s (pc' := 57) rfl rfl rfl rfl ?_
          change sm (tbr am (13 * ln) 77 5088) _ (uI (uI (jn I K) 12 2 (-1)) 13 2 0) Y at hS30
          rw [jn_lo (c := 12) (by decide), jn_lo (c := 13) (by decide)] at hS30
          have hU36 : RU w B R [] true h33 am ln K ((uI (uI I 12 2 (-1)) 13 2 0), Q, Z) := RU_I (hE32) (I' := (uI (uI I 12 2 (-1)) 13 2 0)) (fun _ => rfl) (fun _ => rfl) (Nat.le_refl _) hU
          have hA37 : RA w B R [] true h33 ((uI (uI I 12 2 (-1)) 13 2 0), Q, Z) := RA_u.mpr ⟨_, _, _, _, hS30, hU36⟩
          have hms : rdB 2 3 (I, Q, Z) = ((uI (uI I 12 2 (-1)) 13 2 0), Q, Z) := by
            unfold rdB
            rw [if_neg (fun z => z.elim (fun y => absurd (e1.symm.trans y) (by decide)) (fun z => z.elim (fun y => absurd (e1.symm.trans y) (by decide)) (fun z => z.elim (fun y => absurd y (by decide)) (fun y => c25 y.2))))]
            exact if_neg (fun y => by rw [show lv (((uI (uI I 12 2 (-1)) 13 2 0), Q, Z) : mM).1 2 = false from u35] at y; exact absurd y.1 (by decide))
          rw [hms] at C
          exact C _ (RA_R (by omega) hA37)
        · skip
          show am_Go _ _ _ _ 101 _ [.int 1] _ _
          refine go_ifP (t' := 111) (pc' := 102) rfl rfl rfl (fun (c : (1 : Int32) = 0) => absurd c (by decide)) (fun _ => ?_)
          refine go_s (pc' := 103) rfl rfl rfl rfl ?_
          refine go_sget (pc' := 104) (v := .ref 83) hS30 rfl rfl rfl (by decide) rfl rfl ?_
          refine go_s (pc' := 105) rfl rfl rfl rfl ?_
          refine go_sald (pc' := 106) (q := 2) (v := .int (I 16 2)) hS30 rfl (tr_s hr (a := 83) rfl (by decide)) rfl rfl (by decide) rfl rfl ?_
          refine go_s (pc' := 107) (st' := [.int 1, .int (I 16 2)]) rfl rfl rfl rfl ?_
          refine go_icmpP (t' := 111) (pc' := 108) rfl rfl rfl (fun (c38 : ¬ (I 16 2) = 1) => ?_) (fun (c38' : ¬ ¬ (I 16 2) = 1) => ?_)
          · skip
            refine go_s (pc' := 112) (lo' := [some (.ref 62), some (.int 3), some (.int 3)]) rfl rfl rfl rfl ?_
            refine go_s (pc' := 57) rfl rfl rfl rfl ?_
            change sm (tbr am (13 * ln) 77 5088) _ (uI (uI (jn I K) 12 2 (-1)) 13 2 0) Y at hS30
            rw [jn_lo (c := 12) (by decide), jn_lo (c := 13) (by decide)] at hS30
            have hU39 : RU w B R [] true h33 am ln K ((uI (uI I 12 2 (-1)) 13 2 0), Q, Z) := RU_I (hE32) (I' := (uI (uI I 12 2 (-1)) 13 2 0)) (fun _ => rfl) (fun _ => rfl) (Nat.le_refl _) hU
            have hA40 : RA w B R [] true h33 ((uI (uI I 12 2 (-1)) 13 2 0), Q, Z) := RA_u.mpr ⟨_, _, _, _, hS30, hU39⟩
            have hms : rdB 2 3 (I, Q, Z) = ((uI (uI I 12 2 (-1)) 13 2 0), Q, Z) := by
              unfold rdB
              rw [if_neg (fun z => z.elim (fun y => absurd (e1.symm.trans y) (by decide)) (fun z => z.elim (fun y => absurd (e1.symm.trans y) (by decide)) (fun z => z.elim (fun y => absurd y (by decide)) (fun y => c25 y.2))))]
              exact if_neg (fun y => c38 y.2)
            rw [hms] at C
            exact C _ (RA_R (by omega) hA40)
          · skip
            have c38 : (I 16 2) = 1 := Decidable.not_not.mp c38'
            refine go_s (pc' := 109) rfl rfl rfl rfl ?_
            refine go_s (pc' := 110) rfl rfl rfl rfl ?_
            change sm (tbr am (13 * ln) 77 5088) _ (uI (uI (jn I K) 12 2 (-1)) 13 2 0) Y at hS30
            rw [jn_lo (c := 12) (by decide), jn_lo (c := 13) (by decide)] at hS30
            have hU41 : RU w B R [] true h33 am ln K ((uI (uI I 12 2 (-1)) 13 2 0), Q, Z) := RU_I (hE32) (I' := (uI (uI I 12 2 (-1)) 13 2 0)) (fun _ => rfl) (fun _ => rfl) (Nat.le_refl _) hU
            have hA42 : RA w B R [] true h33 ((uI (uI I 12 2 (-1)) 13 2 0), Q, Z) := RA_u.mpr ⟨_, _, _, _, hS30, hU41⟩
            refine go_callV (pc' := 111) rfl rfl rfl (Nat.le_of_ble_eq_true rfl) rfl (sm_o hS30 rfl) rfl rfl rfl (ra_go_2 hA42 (by omega) hp0 (Or.inr (Or.inl e1)) (fun z => absurd (e1.symm.trans z) (by decide)) (by omega)) (fun r h43 q44 => ?_)
            obtain ⟨rfl, hA45⟩ := q44
            refine go_s (pc' := 112) (lo' := [some (.ref 62), some (.int 3), some (.int 3)]) rfl rfl rfl rfl ?_
            refine go_s (pc' := 57) rfl rfl rfl rfl ?_
            have hms : rdB 2 3 (I, Q, Z) = rgo 2 ((uI (uI I 12 2 (-1)) 13 2 0), Q, Z) := by
              unfold rdB
              rw [if_neg (fun z => z.elim (fun y => absurd (e1.symm.trans y) (by decide)) (fun z => z.elim (fun y => absurd (e1.symm.trans y) (by decide)) (fun z => z.elim (fun y => absurd y (by decide)) (fun y => c25 y.2))))]
              exact if_pos ⟨u35, c38⟩
            rw [hms] at C
            exact C _ (RA_R (by omega) hA45)
      · skip
        have c25 : (I 13 2) = 0 := Decidable.not_not.mp c25'
        refine go_s (pc' := 111) rfl rfl rfl rfl ?_
        refine go_s (pc' := 112) (lo' := [some (.ref 62), some (.int 3), some (.int 3)]) rfl rfl rfl rfl ?_
        refine go_s (pc' := 57) rfl rfl rfl rfl ?_
        have hms : rdB 2 3 (I, Q, Z) = (I, Q, Z) := if_pos (Or.inr (Or.inr (Or.inr ⟨c4, c25⟩)))
        rw [hms] at C
        exact C _ (RA_R (by omega) hA)
  · skip
    refine go_s (pc' := 58) rfl rfl rfl rfl ?_
    refine go_s (pc' := 59) (st' := [.int 3, .int 2]) rfl rfl rfl rfl ?_
    refine go_icmpP (t' := 113) (pc' := 60) rfl rfl rfl (fun (c : 3 ≤ (2 : Int32)) => absurd c (by decide)) (fun _ => ?_)
    refine go_s (pc' := 61) rfl rfl rfl rfl ?_
    refine go_sget (pc' := 62) (v := .ref 78) hS rfl rfl rfl (by decide) rfl rfl ?_
    refine go_s (pc' := 63) rfl rfl rfl rfl ?_
    refine go_sald (pc' := 64) (q := 2) (v := .int 3) hS rfl (tr_s hr (a := 78) rfl (by decide)) rfl rfl (by decide) (congrArg Value.int e1) rfl ?_
    refine go_s (pc' := 65) (st' := [.int (-1), .int 3]) rfl rfl rfl rfl ?_
    refine go_icmpP (t' := 111) (pc' := 66) rfl rfl rfl (fun (c : (3 : Int32) = (-1)) => absurd c (by decide)) (fun _ => ?_)
    refine go_s (pc' := 67) rfl rfl rfl rfl ?_
    refine go_sget (pc' := 68) (v := .ref 78) hS rfl rfl rfl (by decide) rfl rfl ?_
    refine go_s (pc' := 69) rfl rfl rfl rfl ?_
    refine go_sald (pc' := 70) (q := 2) (v := .int 3) hS rfl (tr_s hr (a := 78) rfl (by decide)) rfl rfl (by decide) (congrArg Value.int e1) rfl ?_
    refine go_s (pc' := 71) rfl rfl rfl rfl ?_
    refine go_icmpP (t' := 111) (pc' := 72) rfl rfl rfl (fun _ => ?_) (fun (c : ¬ ((3 : Int32) = 3)) => absurd (by decide) c)
    refine go_s (pc' := 112) (lo' := [some (.ref 62), some (.int 3), some (.int 3)]) rfl rfl rfl rfl ?_
    refine go_s (pc' := 57) rfl rfl rfl rfl ?_
    have hms : rdB 2 3 (I, Q, Z) = (I, Q, Z) := if_pos (Or.inr (Or.inl e1))
    rw [hms] at C
    exact C _ (RA_R (by omega) hA)
theorem ra_dc_0 {w : Nat → Bool} {d B R : Nat} {h : am_Hp} {I : sm_I} {Q : mQ} {Z : mZ} (hA : RA w B R [] true h (I, Q, Z)) (hR : R + 20 < 40000) {X : Nat} (hM : MID X (I, Q, Z)) (hX : X + 240 < 2 ^ 28) (h0 : I 0 0 = 0) (hd : 11 ≤ d) : am_Ev (am_prog w) d 163 [.ref 62, .int 0] h (fun r h' => r = none ∧ RA w B (R + 6) [] true h' (rdc 0 (I, Q, Z))) := by
  obtain ⟨K, Y, am, ln, hS, hU⟩ := RA_u.mp hA
  change sm (tbr am (13 * ln) 77 5088) h (jn I K) Y at hS
  obtain ⟨hW, hWm, -, -, hr, -⟩ := id hU.1
  have hln := RU_ln hU (by omega)
  obtain ⟨d, rfl⟩ : ∃ e, d = e + 1 := ⟨d - 1, by omega⟩
  refine ev_go rfl (Nat.le_of_ble_eq_true rfl) rfl ?_
  refine go_s (pc' := 1) rfl rfl rfl rfl ?_
  refine go_sget (pc' := 2) (v := .ref 64) hS rfl rfl rfl (by decide) rfl rfl ?_
  refine go_s (pc' := 3) rfl rfl rfl rfl ?_
  refine go_s (pc' := 4) (st' := [.int 1, .int 0, .ref 64]) rfl rfl rfl rfl ?_
  refine go_szast (pc' := 5) (q := 0) hS rfl (tr_s hr (a := 64) rfl (by decide)) tbr_inj (Nat.le_of_ble_eq_true rfl) rfl (by decide) (by decide) rfl (hW _ (by decide) (by decide)) rfl (fun h1 hS2 hE3 => ?_)
  refine go_s (pc' := 6) (st' := [.int 0]) rfl rfl rfl rfl ?_
  refine go_s (pc' := 7) (lo' := [some (.ref 62), some (.int 0), some (.int 0)]) rfl rfl rfl rfl ?_
  change sm (tbr am (13 * ln) 77 5088) _ (uI (jn I K) 1 0 1) Y at hS2
  rw [jn_lo (c := 1) (by decide)] at hS2
  have hU4 : RU w B R [] true h1 am ln K ((uI I 1 0 1), Q, Z) := RU_I (hE3) (I' := (uI I 1 0 1)) (fun _ => rfl) (fun _ => rfl) (Nat.le_refl _) hU
  have hA5 : RA w B R [] true h1 ((uI I 1 0 1), Q, Z) := RA_u.mpr ⟨_, _, _, _, hS2, hU4⟩
  have hM0 : MID X ((uI I 1 0 1), Q, Z) := MID_d1 hM (by decide) h0
  have h00 : (uI I 1 0 1) 0 0 = 0 := h0
  refine stA_0_0 hA5 (by omega) hM0 (by omega) h00 (by omega) (fun h6 hA7 => ?_)
  obtain ⟨M8, eM8⟩ : ∃ y : mM, y = (rdA 0 0 ((uI I 1 0 1), Q, Z)) := ⟨_, rfl⟩
  rw [← eM8] at hA7
  obtain ⟨I8, Q8, Z8⟩ := M8
  obtain ⟨K8, Y8, am8, ln8, hS8, hU8⟩ := RA_u.mp hA7
  change sm (tbr am8 (13 * ln8) 77 5088) h6 (jn I8 K8) Y8 at hS8
  obtain ⟨-, hWm8, -, -, hr8, -⟩ := id hU8.1
  have hln8 := RU_ln hU8 (by omega)
  have hM9 : MID (X + 42) (I8, Q8, Z8) := by
    rw [eM8]
    exact MID_A (by omega) hM0 (by decide) (by decide) h00
  have h010 : I8 0 0 = 0 := by
    rw [show I8 = ((I8, Q8, Z8) : mM).1 from rfl, eM8, rdA_I (Or.inl rfl)]
    exact h00
  refine stA_1_0 hA7 (by omega) hM9 (by omega) h010 (by omega) (fun h11 hA12 => ?_)
  obtain ⟨M13, eM13⟩ : ∃ y : mM, y = (rdA 1 0 (I8, Q8, Z8)) := ⟨_, rfl⟩
  rw [← eM13] at hA12
  obtain ⟨I13, Q13, Z13⟩ := M13
  obtain ⟨K13, Y13, am13, ln13, hS13, hU13⟩ := RA_u.mp hA12
  change sm (tbr am13 (13 * ln13) 77 5088) h11 (jn I13 K13) Y13 at hS13
  obtain ⟨-, hWm13, -, -, hr13, -⟩ := id hU13.1
  have hln13 := RU_ln hU13 (by omega)
  have hM14 : MID (X + 84) (I13, Q13, Z13) := by
    rw [eM13]
    exact MID_A (by omega) hM9 (by decide) (by decide) h010
  have h015 : I13 0 0 = 0 := by
    rw [show I13 = ((I13, Q13, Z13) : mM).1 from rfl, eM13, rdA_I (Or.inl rfl)]
    exact h010
  refine stA_2_0 hA12 (by omega) hM14 (by omega) h015 (by omega) (fun h16 hA17 => ?_)
  obtain ⟨M18, eM18⟩ : ∃ y : mM, y = (rdA 2 0 (I13, Q13, Z13)) := ⟨_, rfl⟩
  rw [← eM18] at hA17
  obtain ⟨I18, Q18, Z18⟩ := M18
  obtain ⟨K18, Y18, am18, ln18, hS18, hU18⟩ := RA_u.mp hA17
  change sm (tbr am18 (13 * ln18) 77 5088) h16 (jn I18 K18) Y18 at hS18
  obtain ⟨-, hWm18, -, -, hr18, -⟩ := id hU18.1
  have hln18 := RU_ln hU18 (by omega)
  have hM19 : MID (X + 126) (I18, Q18, Z18) := by
    rw [eM18]
    exact MID_A (by omega) hM14 (by decide) (by decide) h015
  have h020 : I18 0 0 = 0 := by
    rw [show I18 = ((I18, Q18, Z18) : mM).1 from rfl, eM18, rdA_I (Or.inl rfl)]
    exact h015
  refine go_s (pc' := 8) rfl rfl rfl rfl ?_
  refine go_s (pc' := 9) (st' := [.int 3, .int 3]) rfl rfl rfl rfl ?_
  refine go_icmpP (t' := 55) (pc' := 10) rfl rfl rfl (fun _ => ?_) (fun (c : ¬ (3 ≤ (3 : Int32))) => absurd (by decide) c)
  refine go_s (pc' := 56) (st' := [.int 0]) rfl rfl rfl rfl ?_
  refine go_s (pc' := 57) (lo' := [some (.ref 62), some (.int 0), some (.int 0)]) rfl rfl rfl rfl ?_
  refine stB_0_0 hA17 (by omega) hM19 (by omega) (by omega) (fun h21 hA22 => ?_)
  obtain ⟨M23, eM23⟩ : ∃ y : mM, y = (rdB 0 0 (I18, Q18, Z18)) := ⟨_, rfl⟩
  rw [← eM23] at hA22
  obtain ⟨I23, Q23, Z23⟩ := M23
  obtain ⟨K23, Y23, am23, ln23, hS23, hU23⟩ := RA_u.mp hA22
  change sm (tbr am23 (13 * ln23) 77 5088) h21 (jn I23 K23) Y23 at hS23
  obtain ⟨-, hWm23, -, -, hr23, -⟩ := id hU23.1
  have hln23 := RU_ln hU23 (by omega)
  have hM24 : MID (X + 127) (I23, Q23, Z23) := by
    rw [eM23]
    exact MID_B hM19 (by decide) (by decide) h020
  have h025 : I23 0 0 = 0 := by
    rw [show I23 = ((I23, Q23, Z23) : mM).1 from rfl, eM23, rdB_I (Or.inl rfl)]
    exact h020
  refine stB_1_0 hA22 (by omega) hM24 (by omega) (by omega) (fun h26 hA27 => ?_)
  obtain ⟨M28, eM28⟩ : ∃ y : mM, y = (rdB 1 0 (I23, Q23, Z23)) := ⟨_, rfl⟩
  rw [← eM28] at hA27
  obtain ⟨I28, Q28, Z28⟩ := M28
  obtain ⟨K28, Y28, am28, ln28, hS28, hU28⟩ := RA_u.mp hA27
  change sm (tbr am28 (13 * ln28) 77 5088) h26 (jn I28 K28) Y28 at hS28
  obtain ⟨-, hWm28, -, -, hr28, -⟩ := id hU28.1
  have hln28 := RU_ln hU28 (by omega)
  have hM29 : MID (X + 128) (I28, Q28, Z28) := by
    rw [eM28]
    exact MID_B hM24 (by decide) (by decide) h025
  have h030 : I28 0 0 = 0 := by
    rw [show I28 = ((I28, Q28, Z28) : mM).1 from rfl, eM28, rdB_I (Or.inl rfl)]
    exact h025
  refine stB_2_0 hA27 (by omega) hM29 (by omega) (by omega) (fun h31 hA32 => ?_)
  obtain ⟨M33, eM33⟩ : ∃ y : mM, y = (rdB 2 0 (I28, Q28, Z28)) := ⟨_, rfl⟩
  rw [← eM33] at hA32
  obtain ⟨I33, Q33, Z33⟩ := M33
  obtain ⟨K33, Y33, am33, ln33, hS33, hU33⟩ := RA_u.mp hA32
  change sm (tbr am33 (13 * ln33) 77 5088) h31 (jn I33 K33) Y33 at hS33
  obtain ⟨-, hWm33, -, -, hr33, -⟩ := id hU33.1
  have hln33 := RU_ln hU33 (by omega)
  have hM34 : MID (X + 129) (I33, Q33, Z33) := by
    rw [eM33]
    exact MID_B hM29 (by decide) (by decide) h030
  have h035 : I33 0 0 = 0 := by
    rw [show I33 = ((I33, Q33, Z33) : mM).1 from rfl, eM33, rdB_I (Or.inl rfl)]
    exact h030
  refine go_s (pc' := 58) rfl rfl rfl rfl ?_
  refine go_s (pc' := 59) (st' := [.int 3, .int 3]) rfl rfl rfl rfl ?_
  refine go_icmpP (t' := 113) (pc' := 60) rfl rfl rfl (fun _ => ?_) (fun (c : ¬ (3 ≤ (3 : Int32))) => absurd (by decide) c)
  refine go_s (pc' := 114) rfl rfl rfl rfl ?_
  have hU36 : RU w B (R + 4) [] true h31 am33 ln33 K33 (I33, Q33, Z33) := RU_I (sm_e_refl (tbr am33 (13 * ln33) 77 5088) _) (I' := I33) (fun _ => rfl) (fun _ => rfl) (Nat.le_refl _) hU33
  have hA37 : RA w B (R + 4) [] true h31 (I33, Q33, Z33) := RA_u.mpr ⟨_, _, _, _, hS33, hU36⟩
  refine go_callV (pc' := 115) rfl rfl rfl (Nat.le_of_ble_eq_true rfl) rfl (sm_o hS33 rfl) rfl rfl rfl (ra_set hA37 (by omega) hM34 (by omega) rfl (by omega)) (fun r h38 q39 => ?_)
  obtain ⟨rfl, hA40⟩ := q39
  refine go_ret rfl rfl ?_
  have hms : rdc 0 (I, Q, Z) = rset 30 (I33, Q33, Z33) := by
    rw [eM33, eM28, eM23, eM18, eM13, eM8]
    rfl
  rw [hms]
  exact ⟨rfl, RA_R (by omega) hA40⟩
theorem ra_dc_1 {w : Nat → Bool} {d B R : Nat} {h : am_Hp} {I : sm_I} {Q : mQ} {Z : mZ} (hA : RA w B R [] true h (I, Q, Z)) (hR : R + 20 < 40000) {X : Nat} (hM : MID X (I, Q, Z)) (hX : X + 240 < 2 ^ 28) (h0 : I 0 1 = 0) (hd : 11 ≤ d) : am_Ev (am_prog w) d 163 [.ref 62, .int 1] h (fun r h' => r = none ∧ RA w B (R + 6) [] true h' (rdc 1 (I, Q, Z))) := by
  obtain ⟨K, Y, am, ln, hS, hU⟩ := RA_u.mp hA
  change sm (tbr am (13 * ln) 77 5088) h (jn I K) Y at hS
  obtain ⟨hW, hWm, -, -, hr, -⟩ := id hU.1
  have hln := RU_ln hU (by omega)
  obtain ⟨d, rfl⟩ : ∃ e, d = e + 1 := ⟨d - 1, by omega⟩
  refine ev_go rfl (Nat.le_of_ble_eq_true rfl) rfl ?_
  refine go_s (pc' := 1) rfl rfl rfl rfl ?_
  refine go_sget (pc' := 2) (v := .ref 64) hS rfl rfl rfl (by decide) rfl rfl ?_
  refine go_s (pc' := 3) rfl rfl rfl rfl ?_
  refine go_s (pc' := 4) (st' := [.int 1, .int 1, .ref 64]) rfl rfl rfl rfl ?_
  refine go_szast (pc' := 5) (q := 1) hS rfl (tr_s hr (a := 64) rfl (by decide)) tbr_inj (Nat.le_of_ble_eq_true rfl) rfl (by decide) (by decide) rfl (hW _ (by decide) (by decide)) rfl (fun h1 hS2 hE3 => ?_)
  refine go_s (pc' := 6) (st' := [.int 0]) rfl rfl rfl rfl ?_
  refine go_s (pc' := 7) (lo' := [some (.ref 62), some (.int 1), some (.int 0)]) rfl rfl rfl rfl ?_
  change sm (tbr am (13 * ln) 77 5088) _ (uI (jn I K) 1 1 1) Y at hS2
  rw [jn_lo (c := 1) (by decide)] at hS2
  have hU4 : RU w B R [] true h1 am ln K ((uI I 1 1 1), Q, Z) := RU_I (hE3) (I' := (uI I 1 1 1)) (fun _ => rfl) (fun _ => rfl) (Nat.le_refl _) hU
  have hA5 : RA w B R [] true h1 ((uI I 1 1 1), Q, Z) := RA_u.mpr ⟨_, _, _, _, hS2, hU4⟩
  have hM0 : MID X ((uI I 1 1 1), Q, Z) := MID_d1 hM (by decide) h0
  have h00 : (uI I 1 1 1) 0 1 = 0 := h0
  refine stA_0_1 hA5 (by omega) hM0 (by omega) h00 (by omega) (fun h6 hA7 => ?_)
  obtain ⟨M8, eM8⟩ : ∃ y : mM, y = (rdA 0 1 ((uI I 1 1 1), Q, Z)) := ⟨_, rfl⟩
  rw [← eM8] at hA7
  obtain ⟨I8, Q8, Z8⟩ := M8
  obtain ⟨K8, Y8, am8, ln8, hS8, hU8⟩ := RA_u.mp hA7
  change sm (tbr am8 (13 * ln8) 77 5088) h6 (jn I8 K8) Y8 at hS8
  obtain ⟨-, hWm8, -, -, hr8, -⟩ := id hU8.1
  have hln8 := RU_ln hU8 (by omega)
  have hM9 : MID (X + 42) (I8, Q8, Z8) := by
    rw [eM8]
    exact MID_A (by omega) hM0 (by decide) (by decide) h00
  have h010 : I8 0 1 = 0 := by
    rw [show I8 = ((I8, Q8, Z8) : mM).1 from rfl, eM8, rdA_I (Or.inl rfl)]
    exact h00
  refine stA_1_1 hA7 (by omega) hM9 (by omega) h010 (by omega) (fun h11 hA12 => ?_)
  obtain ⟨M13, eM13⟩ : ∃ y : mM, y = (rdA 1 1 (I8, Q8, Z8)) := ⟨_, rfl⟩
  rw [← eM13] at hA12
  obtain ⟨I13, Q13, Z13⟩ := M13
  obtain ⟨K13, Y13, am13, ln13, hS13, hU13⟩ := RA_u.mp hA12
  change sm (tbr am13 (13 * ln13) 77 5088) h11 (jn I13 K13) Y13 at hS13
  obtain ⟨-, hWm13, -, -, hr13, -⟩ := id hU13.1
  have hln13 := RU_ln hU13 (by omega)
  have hM14 : MID (X + 84) (I13, Q13, Z13) := by
    rw [eM13]
    exact MID_A (by omega) hM9 (by decide) (by decide) h010
  have h015 : I13 0 1 = 0 := by
    rw [show I13 = ((I13, Q13, Z13) : mM).1 from rfl, eM13, rdA_I (Or.inl rfl)]
    exact h010
  refine stA_2_1 hA12 (by omega) hM14 (by omega) h015 (by omega) (fun h16 hA17 => ?_)
  obtain ⟨M18, eM18⟩ : ∃ y : mM, y = (rdA 2 1 (I13, Q13, Z13)) := ⟨_, rfl⟩
  rw [← eM18] at hA17
  obtain ⟨I18, Q18, Z18⟩ := M18
  obtain ⟨K18, Y18, am18, ln18, hS18, hU18⟩ := RA_u.mp hA17
  change sm (tbr am18 (13 * ln18) 77 5088) h16 (jn I18 K18) Y18 at hS18
  obtain ⟨-, hWm18, -, -, hr18, -⟩ := id hU18.1
  have hln18 := RU_ln hU18 (by omega)
  have hM19 : MID (X + 126) (I18, Q18, Z18) := by
    rw [eM18]
    exact MID_A (by omega) hM14 (by decide) (by decide) h015
  have h020 : I18 0 1 = 0 := by
    rw [show I18 = ((I18, Q18, Z18) : mM).1 from rfl, eM18, rdA_I (Or.inl rfl)]
    exact h015
  refine go_s (pc' := 8) rfl rfl rfl rfl ?_
  refine go_s (pc' := 9) (st' := [.int 3, .int 3]) rfl rfl rfl rfl ?_
  refine go_icmpP (t' := 55) (pc' := 10) rfl rfl rfl (fun _ => ?_) (fun (c : ¬ (3 ≤ (3 : Int32))) => absurd (by decide) c)
  refine go_s (pc' := 56) (st' := [.int 0]) rfl rfl rfl rfl ?_
  refine go_s (pc' := 57) (lo' := [some (.ref 62), some (.int 1), some (.int 0)]) rfl rfl rfl rfl ?_
  refine stB_0_1 hA17 (by omega) hM19 (by omega) (by omega) (fun h21 hA22 => ?_)
  obtain ⟨M23, eM23⟩ : ∃ y : mM, y = (rdB 0 1 (I18, Q18, Z18)) := ⟨_, rfl⟩
  rw [← eM23] at hA22
  obtain ⟨I23, Q23, Z23⟩ := M23
  obtain ⟨K23, Y23, am23, ln23, hS23, hU23⟩ := RA_u.mp hA22
  change sm (tbr am23 (13 * ln23) 77 5088) h21 (jn I23 K23) Y23 at hS23
  obtain ⟨-, hWm23, -, -, hr23, -⟩ := id hU23.1
  have hln23 := RU_ln hU23 (by omega)
  have hM24 : MID (X + 127) (I23, Q23, Z23) := by
    rw [eM23]
    exact MID_B hM19 (by decide) (by decide) h020
  have h025 : I23 0 1 = 0 := by
    rw [show I23 = ((I23, Q23, Z23) : mM).1 from rfl, eM23, rdB_I (Or.inl rfl)]
    exact h020
  refine stB_1_1 hA22 (by omega) hM24 (by omega) (by omega) (fun h26 hA27 => ?_)
  obtain ⟨M28, eM28⟩ : ∃ y : mM, y = (rdB 1 1 (I23, Q23, Z23)) := ⟨_, rfl⟩
  rw [← eM28] at hA27
  obtain ⟨I28, Q28, Z28⟩ := M28
  obtain ⟨K28, Y28, am28, ln28, hS28, hU28⟩ := RA_u.mp hA27
  change sm (tbr am28 (13 * ln28) 77 5088) h26 (jn I28 K28) Y28 at hS28
  obtain ⟨-, hWm28, -, -, hr28, -⟩ := id hU28.1
  have hln28 := RU_ln hU28 (by omega)
  have hM29 : MID (X + 128) (I28, Q28, Z28) := by
    rw [eM28]
    exact MID_B hM24 (by decide) (by decide) h025
  have h030 : I28 0 1 = 0 := by
    rw [show I28 = ((I28, Q28, Z28) : mM).1 from rfl, eM28, rdB_I (Or.inl rfl)]
    exact h025
  refine stB_2_1 hA27 (by omega) hM29 (by omega) (by omega) (fun h31 hA32 => ?_)
  obtain ⟨M33, eM33⟩ : ∃ y : mM, y = (rdB 2 1 (I28, Q28, Z28)) := ⟨_, rfl⟩
  rw [← eM33] at hA32
  obtain ⟨I33, Q33, Z33⟩ := M33
  obtain ⟨K33, Y33, am33, ln33, hS33, hU33⟩ := RA_u.mp hA32
  change sm (tbr am33 (13 * ln33) 77 5088) h31 (jn I33 K33) Y33 at hS33
  obtain ⟨-, hWm33, -, -, hr33, -⟩ := id hU33.1
  have hln33 := RU_ln hU33 (by omega)
  have hM34 : MID (X + 129) (I33, Q33, Z33) := by
    rw [eM33]
    exact MID_B hM29 (by decide) (by decide) h030
  have h035 : I33 0 1 = 0 := by
    rw [show I33 = ((I33, Q33, Z33) : mM).1 from rfl, eM33, rdB_I (Or.inl rfl)]
    exact h030
  refine go_s (pc' := 58) rfl rfl rfl rfl ?_
  refine go_s (pc' := 59) (st' := [.int 3, .int 3]) rfl rfl rfl rfl ?_
  refine go_icmpP (t' := 113) (pc' := 60) rfl rfl rfl (fun _ => ?_) (fun (c : ¬ (3 ≤ (3 : Int32))) => absurd (by decide) c)
  refine go_s (pc' := 114) rfl rfl rfl rfl ?_
  have hU36 : RU w B (R + 4) [] true h31 am33 ln33 K33 (I33, Q33, Z33) := RU_I (sm_e_refl (tbr am33 (13 * ln33) 77 5088) _) (I' := I33) (fun _ => rfl) (fun _ => rfl) (Nat.le_refl _) hU33
  have hA37 : RA w B (R + 4) [] true h31 (I33, Q33, Z33) := RA_u.mpr ⟨_, _, _, _, hS33, hU36⟩
  refine go_callV (pc' := 115) rfl rfl rfl (Nat.le_of_ble_eq_true rfl) rfl (sm_o hS33 rfl) rfl rfl rfl (ra_set hA37 (by omega) hM34 (by omega) rfl (by omega)) (fun r h38 q39 => ?_)
  obtain ⟨rfl, hA40⟩ := q39
  refine go_ret rfl rfl ?_
  have hms : rdc 1 (I, Q, Z) = rset 30 (I33, Q33, Z33) := by
    rw [eM33, eM28, eM23, eM18, eM13, eM8]
    rfl
  rw [hms]
  exact ⟨rfl, RA_R (by omega) hA40⟩
theorem ra_dc_2 {w : Nat → Bool} {d B R : Nat} {h : am_Hp} {I : sm_I} {Q : mQ} {Z : mZ} (hA : RA w B R [] true h (I, Q, Z)) (hR : R + 20 < 40000) {X : Nat} (hM : MID X (I, Q, Z)) (hX : X + 240 < 2 ^ 28) (h0 : I 0 2 = 0) (hd : 11 ≤ d) : am_Ev (am_prog w) d 163 [.ref 62, .int 2] h (fun r h' => r = none ∧ RA w B (R + 6) [] true h' (rdc 2 (I, Q, Z))) := by
  obtain ⟨K, Y, am, ln, hS, hU⟩ := RA_u.mp hA
  change sm (tbr am (13 * ln) 77 5088) h (jn I K) Y at hS
  obtain ⟨hW, hWm, -, -, hr, -⟩ := id hU.1
  have hln := RU_ln hU (by omega)
  obtain ⟨d, rfl⟩ : ∃ e, d = e + 1 := ⟨d - 1, by omega⟩
  refine ev_go rfl (Nat.le_of_ble_eq_true rfl) rfl ?_
  refine go_s (pc' := 1) rfl rfl rfl rfl ?_
  refine go_sget (pc' := 2) (v := .ref 64) hS rfl rfl rfl (by decide) rfl rfl ?_
  refine go_s (pc' := 3) rfl rfl rfl rfl ?_
  refine go_s (pc' := 4) (st' := [.int 1, .int 2, .ref 64]) rfl rfl rfl rfl ?_
  refine go_szast (pc' := 5) (q := 2) hS rfl (tr_s hr (a := 64) rfl (by decide)) tbr_inj (Nat.le_of_ble_eq_true rfl) rfl (by decide) (by decide) rfl (hW _ (by decide) (by decide)) rfl (fun h1 hS2 hE3 => ?_)
  refine go_s (pc' := 6) (st' := [.int 0]) rfl rfl rfl rfl ?_
  refine go_s (pc' := 7) (lo' := [some (.ref 62), some (.int 2), some (.int 0)]) rfl rfl rfl rfl ?_
  change sm (tbr am (13 * ln) 77 5088) _ (uI (jn I K) 1 2 1) Y at hS2
  rw [jn_lo (c := 1) (by decide)] at hS2
  have hU4 : RU w B R [] true h1 am ln K ((uI I 1 2 1), Q, Z) := RU_I (hE3) (I' := (uI I 1 2 1)) (fun _ => rfl) (fun _ => rfl) (Nat.le_refl _) hU
  have hA5 : RA w B R [] true h1 ((uI I 1 2 1), Q, Z) := RA_u.mpr ⟨_, _, _, _, hS2, hU4⟩
  have hM0 : MID X ((uI I 1 2 1), Q, Z) := MID_d1 hM (by decide) h0
  have h00 : (uI I 1 2 1) 0 2 = 0 := h0
  refine stA_0_2 hA5 (by omega) hM0 (by omega) h00 (by omega) (fun h6 hA7 => ?_)
  obtain ⟨M8, eM8⟩ : ∃ y : mM, y = (rdA 0 2 ((uI I 1 2 1), Q, Z)) := ⟨_, rfl⟩
  rw [← eM8] at hA7
  obtain ⟨I8, Q8, Z8⟩ := M8
  obtain ⟨K8, Y8, am8, ln8, hS8, hU8⟩ := RA_u.mp hA7
  change sm (tbr am8 (13 * ln8) 77 5088) h6 (jn I8 K8) Y8 at hS8
  obtain ⟨-, hWm8, -, -, hr8, -⟩ := id hU8.1
  have hln8 := RU_ln hU8 (by omega)
  have hM9 : MID (X + 42) (I8, Q8, Z8) := by
    rw [eM8]
    exact MID_A (by omega) hM0 (by decide) (by decide) h00
  have h010 : I8 0 2 = 0 := by
    rw [show I8 = ((I8, Q8, Z8) : mM).1 from rfl, eM8, rdA_I (Or.inl rfl)]
    exact h00
  refine stA_1_2 hA7 (by omega) hM9 (by omega) h010 (by omega) (fun h11 hA12 => ?_)
  obtain ⟨M13, eM13⟩ : ∃ y : mM, y = (rdA 1 2 (I8, Q8, Z8)) := ⟨_, rfl⟩
  rw [← eM13] at hA12
  obtain ⟨I13, Q13, Z13⟩ := M13
  obtain ⟨K13, Y13, am13, ln13, hS13, hU13⟩ := RA_u.mp hA12
  change sm (tbr am13 (13 * ln13) 77 5088) h11 (jn I13 K13) Y13 at hS13
  obtain ⟨-, hWm13, -, -, hr13, -⟩ := id hU13.1
  have hln13 := RU_ln hU13 (by omega)
  have hM14 : MID (X + 84) (I13, Q13, Z13) := by
    rw [eM13]
    exact MID_A (by omega) hM9 (by decide) (by decide) h010
  have h015 : I13 0 2 = 0 := by
    rw [show I13 = ((I13, Q13, Z13) : mM).1 from rfl, eM13, rdA_I (Or.inl rfl)]
    exact h010
  refine stA_2_2 hA12 (by omega) hM14 (by omega) h015 (by omega) (fun h16 hA17 => ?_)
  obtain ⟨M18, eM18⟩ : ∃ y : mM, y = (rdA 2 2 (I13, Q13, Z13)) := ⟨_, rfl⟩
  rw [← eM18] at hA17
  obtain ⟨I18, Q18, Z18⟩ := M18
  obtain ⟨K18, Y18, am18, ln18, hS18, hU18⟩ := RA_u.mp hA17
  change sm (tbr am18 (13 * ln18) 77 5088) h16 (jn I18 K18) Y18 at hS18
  obtain ⟨-, hWm18, -, -, hr18, -⟩ := id hU18.1
  have hln18 := RU_ln hU18 (by omega)
  have hM19 : MID (X + 126) (I18, Q18, Z18) := by
    rw [eM18]
    exact MID_A (by omega) hM14 (by decide) (by decide) h015
  have h020 : I18 0 2 = 0 := by
    rw [show I18 = ((I18, Q18, Z18) : mM).1 from rfl, eM18, rdA_I (Or.inl rfl)]
    exact h015
  refine go_s (pc' := 8) rfl rfl rfl rfl ?_
  refine go_s (pc' := 9) (st' := [.int 3, .int 3]) rfl rfl rfl rfl ?_
  refine go_icmpP (t' := 55) (pc' := 10) rfl rfl rfl (fun _ => ?_) (fun (c : ¬ (3 ≤ (3 : Int32))) => absurd (by decide) c)
  refine go_s (pc' := 56) (st' := [.int 0]) rfl rfl rfl rfl ?_
  refine go_s (pc' := 57) (lo' := [some (.ref 62), some (.int 2), some (.int 0)]) rfl rfl rfl rfl ?_
  refine stB_0_2 hA17 (by omega) hM19 (by omega) (by omega) (fun h21 hA22 => ?_)
  obtain ⟨M23, eM23⟩ : ∃ y : mM, y = (rdB 0 2 (I18, Q18, Z18)) := ⟨_, rfl⟩
  rw [← eM23] at hA22
  obtain ⟨I23, Q23, Z23⟩ := M23
  obtain ⟨K23, Y23, am23, ln23, hS23, hU23⟩ := RA_u.mp hA22
  change sm (tbr am23 (13 * ln23) 77 5088) h21 (jn I23 K23) Y23 at hS23
  obtain ⟨-, hWm23, -, -, hr23, -⟩ := id hU23.1
  have hln23 := RU_ln hU23 (by omega)
  have hM24 : MID (X + 127) (I23, Q23, Z23) := by
    rw [eM23]
    exact MID_B hM19 (by decide) (by decide) h020
  have h025 : I23 0 2 = 0 := by
    rw [show I23 = ((I23, Q23, Z23) : mM).1 from rfl, eM23, rdB_I (Or.inl rfl)]
    exact h020
  refine stB_1_2 hA22 (by omega) hM24 (by omega) (by omega) (fun h26 hA27 => ?_)
  obtain ⟨M28, eM28⟩ : ∃ y : mM, y = (rdB 1 2 (I23, Q23, Z23)) := ⟨_, rfl⟩
  rw [← eM28] at hA27
  obtain ⟨I28, Q28, Z28⟩ := M28
  obtain ⟨K28, Y28, am28, ln28, hS28, hU28⟩ := RA_u.mp hA27
  change sm (tbr am28 (13 * ln28) 77 5088) h26 (jn I28 K28) Y28 at hS28
  obtain ⟨-, hWm28, -, -, hr28, -⟩ := id hU28.1
  have hln28 := RU_ln hU28 (by omega)
  have hM29 : MID (X + 128) (I28, Q28, Z28) := by
    rw [eM28]
    exact MID_B hM24 (by decide) (by decide) h025
  have h030 : I28 0 2 = 0 := by
    rw [show I28 = ((I28, Q28, Z28) : mM).1 from rfl, eM28, rdB_I (Or.inl rfl)]
    exact h025
  refine stB_2_2 hA27 (by omega) hM29 (by omega) (by omega) (fun h31 hA32 => ?_)
  obtain ⟨M33, eM33⟩ : ∃ y : mM, y = (rdB 2 2 (I28, Q28, Z28)) := ⟨_, rfl⟩
  rw [← eM33] at hA32
  obtain ⟨I33, Q33, Z33⟩ := M33
  obtain ⟨K33, Y33, am33, ln33, hS33, hU33⟩ := RA_u.mp hA32
  change sm (tbr am33 (13 * ln33) 77 5088) h31 (jn I33 K33) Y33 at hS33
  obtain ⟨-, hWm33, -, -, hr33, -⟩ := id hU33.1
  have hln33 := RU_ln hU33 (by omega)
  have hM34 : MID (X + 129) (I33, Q33, Z33) := by
    rw [eM33]
    exact MID_B hM29 (by decide) (by decide) h030
  have h035 : I33 0 2 = 0 := by
    rw [show I33 = ((I33, Q33, Z33) : mM).1 from rfl, eM33, rdB_I (Or.inl rfl)]
    exact h030
  refine go_s (pc' := 58) rfl rfl rfl rfl ?_
  refine go_s (pc' := 59) (st' := [.int 3, .int 3]) rfl rfl rfl rfl ?_
  refine go_icmpP (t' := 113) (pc' := 60) rfl rfl rfl (fun _ => ?_) (fun (c : ¬ (3 ≤ (3 : Int32))) => absurd (by decide) c)
  refine go_s (pc' := 114) rfl rfl rfl rfl ?_
  have hU36 : RU w B ((((R + 1) + 1) + 1) + 1) [] true h31 am33 ln33 K33 (I33, Q33, Z33) := RU_I (sm_e_refl (tbr am33 (13 * ln33) 77 5088) _) (I' := I33) (fun _ => rfl) (fun _ => rfl) (Nat.le_refl _) hU33
  have hA37 : RA w B ((((R + 1) + 1) + 1) + 1) [] true h31 (I33, Q33, Z33) := RA_u.mpr ⟨_, _, _, _, hS33, hU36⟩
  refine go_callV (pc' := 115) rfl rfl rfl (Nat.le_of_ble_eq_true rfl) rfl (sm_o hS33 rfl) rfl rfl rfl (ra_set hA37 (by omega) hM34 (by omega) rfl (by omega)) (fun r h38 q39 => ?_)
  obtain ⟨rfl, hA40⟩ := q39
  refine go_ret rfl rfl ?_
  have hms : rdc 2 (I, Q, Z) = rset 30 (I33, Q33, Z33) := by
    rw [eM33, eM28, eM23, eM18, eM13, eM8]
    rfl
  rw [hms]
  exact ⟨rfl, RA_R (by omega) hA40⟩
theorem ra_dc_3 {w : Nat → Bool} {d B R : Nat} {h : am_Hp} {I : sm_I} {Q : mQ} {Z : mZ} (hA : RA w B R [] true h (I, Q, Z)) (hR : R + 20 < 40000) {X : Nat} (hM : MID X (I, Q, Z)) (hX : X + 240 < 2 ^ 28) (h0 : I 0 3 = 0) (hd : 11 ≤ d) : am_Ev (am_prog w) d 163 [.ref 62, .int 3] h (fun r h' => r = none ∧ RA w B (R + 6) [] true h' (rdc 3 (I, Q, Z))) := by
  obtain ⟨K, Y, am, ln, hS, hU⟩ := RA_u.mp hA
  change sm (tbr am (13 * ln) 77 5088) h (jn I K) Y at hS
  obtain ⟨hW, hWm, -, -, hr, -⟩ := id hU.1
  have hln := RU_ln hU (by omega)
  obtain ⟨d, rfl⟩ : ∃ e, d = e + 1 := ⟨d - 1, by omega⟩
  refine ev_go rfl (Nat.le_of_ble_eq_true rfl) rfl ?_
  refine go_s (pc' := 1) rfl rfl rfl rfl ?_
  refine go_sget (pc' := 2) (v := .ref 64) hS rfl rfl rfl (by decide) rfl rfl ?_
  refine go_s (pc' := 3) rfl rfl rfl rfl ?_
  refine go_s (pc' := 4) (st' := [.int 1, .int 3, .ref 64]) rfl rfl rfl rfl ?_
  refine go_szast (pc' := 5) (q := 3) hS rfl (tr_s hr (a := 64) rfl (by decide)) tbr_inj (Nat.le_of_ble_eq_true rfl) rfl (by decide) (by decide) rfl (hW _ (by decide) (by decide)) rfl (fun h1 hS2 hE3 => ?_)
  refine go_s (pc' := 6) (st' := [.int 0]) rfl rfl rfl rfl ?_
  refine go_s (pc' := 7) (lo' := [some (.ref 62), some (.int 3), some (.int 0)]) rfl rfl rfl rfl ?_
  change sm (tbr am (13 * ln) 77 5088) _ (uI (jn I K) 1 3 1) Y at hS2
  rw [jn_lo (c := 1) (by decide)] at hS2
  have hU4 : RU w B R [] true h1 am ln K ((uI I 1 3 1), Q, Z) := RU_I (hE3) (I' := (uI I 1 3 1)) (fun _ => rfl) (fun _ => rfl) (Nat.le_refl _) hU
  have hA5 : RA w B R [] true h1 ((uI I 1 3 1), Q, Z) := RA_u.mpr ⟨_, _, _, _, hS2, hU4⟩
  have hM0 : MID X ((uI I 1 3 1), Q, Z) := MID_d1 hM (by decide) h0
  have h00 : (uI I 1 3 1) 0 3 = 0 := h0
  refine stA_0_3 hA5 (by omega) hM0 (by omega) h00 (by omega) (fun h6 hA7 => ?_)
  obtain ⟨M8, eM8⟩ : ∃ y : mM, y = (rdA 0 3 ((uI I 1 3 1), Q, Z)) := ⟨_, rfl⟩
  rw [← eM8] at hA7
  obtain ⟨I8, Q8, Z8⟩ := M8
  obtain ⟨K8, Y8, am8, ln8, hS8, hU8⟩ := RA_u.mp hA7
  change sm (tbr am8 (13 * ln8) 77 5088) h6 (jn I8 K8) Y8 at hS8
  obtain ⟨-, hWm8, -, -, hr8, -⟩ := id hU8.1
  have hln8 := RU_ln hU8 (by omega)
  have hM9 : MID (X + 42) (I8, Q8, Z8) := by
    rw [eM8]
    exact MID_A (by omega) hM0 (by decide) (by decide) h00
  have h010 : I8 0 3 = 0 := by
    rw [show I8 = ((I8, Q8, Z8) : mM).1 from rfl, eM8, rdA_I (Or.inl rfl)]
    exact h00
  refine stA_1_3 hA7 (by omega) hM9 (by omega) h010 (by omega) (fun h11 hA12 => ?_)
  obtain ⟨M13, eM13⟩ : ∃ y : mM, y = (rdA 1 3 (I8, Q8, Z8)) := ⟨_, rfl⟩
  rw [← eM13] at hA12
  obtain ⟨I13, Q13, Z13⟩ := M13
  obtain ⟨K13, Y13, am13, ln13, hS13, hU13⟩ := RA_u.mp hA12
  change sm (tbr am13 (13 * ln13) 77 5088) h11 (jn I13 K13) Y13 at hS13
  obtain ⟨-, hWm13, -, -, hr13, -⟩ := id hU13.1
  have hln13 := RU_ln hU13 (by omega)
  have hM14 : MID (X + 84) (I13, Q13, Z13) := by
    rw [eM13]
    exact MID_A (by omega) hM9 (by decide) (by decide) h010
  have h015 : I13 0 3 = 0 := by
    rw [show I13 = ((I13, Q13, Z13) : mM).1 from rfl, eM13, rdA_I (Or.inl rfl)]
    exact h010
  refine stA_2_3 hA12 (by omega) hM14 (by omega) h015 (by omega) (fun h16 hA17 => ?_)
  obtain ⟨M18, eM18⟩ : ∃ y : mM, y = (rdA 2 3 (I13, Q13, Z13)) := ⟨_, rfl⟩
  rw [← eM18] at hA17
  obtain ⟨I18, Q18, Z18⟩ := M18
  obtain ⟨K18, Y18, am18, ln18, hS18, hU18⟩ := RA_u.mp hA17
  change sm (tbr am18 (13 * ln18) 77 5088) h16 (jn I18 K18) Y18 at hS18
  obtain ⟨-, hWm18, -, -, hr18, -⟩ := id hU18.1
  have hln18 := RU_ln hU18 (by omega)
  have hM19 : MID (X + 126) (I18, Q18, Z18) := by
    rw [eM18]
    exact MID_A (by omega) hM14 (by decide) (by decide) h015
  have h020 : I18 0 3 = 0 := by
    rw [show I18 = ((I18, Q18, Z18) : mM).1 from rfl, eM18, rdA_I (Or.inl rfl)]
    exact h015
  refine go_s (pc' := 8) rfl rfl rfl rfl ?_
  refine go_s (pc' := 9) (st' := [.int 3, .int 3]) rfl rfl rfl rfl ?_
  refine go_icmpP (t' := 55) (pc' := 10) rfl rfl rfl (fun _ => ?_) (fun (c : ¬ (3 ≤ (3 : Int32))) => absurd (by decide) c)
  refine go_s (pc' := 56) (st' := [.int 0]) rfl rfl rfl rfl ?_
  refine go_s (pc' := 57) (lo' := [some (.ref 62), some (.int 3), some (.int 0)]) rfl rfl rfl rfl ?_
  refine stB_0_3 hA17 (by omega) hM19 (by omega) (by omega) (fun h21 hA22 => ?_)
  obtain ⟨M23, eM23⟩ : ∃ y : mM, y = (rdB 0 3 (I18, Q18, Z18)) := ⟨_, rfl⟩
  rw [← eM23] at hA22
  obtain ⟨I23, Q23, Z23⟩ := M23
  obtain ⟨K23, Y23, am23, ln23, hS23, hU23⟩ := RA_u.mp hA22
  change sm (tbr am23 (13 * ln23) 77 5088) h21 (jn I23 K23) Y23 at hS23
  obtain ⟨-, hWm23, -, -, hr23, -⟩ := id hU23.1
  have hln23 := RU_ln hU23 (by omega)
  have hM24 : MID (X + 127) (I23, Q23, Z23) := by
    rw [eM23]
    exact MID_B hM19 (by decide) (by decide) h020
  have h025 : I23 0 3 = 0 := by
    rw [show I23 = ((I23, Q23, Z23) : mM).1 from rfl, eM23, rdB_I (Or.inl rfl)]
    exact h020
  refine stB_1_3 hA22 (by omega) hM24 (by omega) (by omega) (fun h26 hA27 => ?_)
  obtain ⟨M28, eM28⟩ : ∃ y : mM, y = (rdB 1 3 (I23, Q23, Z23)) := ⟨_, rfl⟩
  rw [← eM28] at hA27
  obtain ⟨I28, Q28, Z28⟩ := M28
  obtain ⟨K28, Y28, am28, ln28, hS28, hU28⟩ := RA_u.mp hA27
  change sm (tbr am28 (13 * ln28) 77 5088) h26 (jn I28 K28) Y28 at hS28
  obtain ⟨-, hWm28, -, -, hr28, -⟩ := id hU28.1
  have hln28 := RU_ln hU28 (by omega)
  have hM29 : MID (X + 128) (I28, Q28, Z28) := by
    rw [eM28]
    exact MID_B hM24 (by decide) (by decide) h025
  have h030 : I28 0 3 = 0 := by
    rw [show I28 = ((I28, Q28, Z28) : mM).1 from rfl, eM28, rdB_I (Or.inl rfl)]
    exact h025
  refine stB_2_3 hA27 (by omega) hM29 (by omega) (by omega) (fun h31 hA32 => ?_)
  obtain ⟨M33, eM33⟩ : ∃ y : mM, y = (rdB 2 3 (I28, Q28, Z28)) := ⟨_, rfl⟩
  rw [← eM33] at hA32
  obtain ⟨I33, Q33, Z33⟩ := M33
  obtain ⟨K33, Y33, am33, ln33, hS33, hU33⟩ := RA_u.mp hA32
  change sm (tbr am33 (13 * ln33) 77 5088) h31 (jn I33 K33) Y33 at hS33
  obtain ⟨-, hWm33, -, -, hr33, -⟩ := id hU33.1
  have hln33 := RU_ln hU33 (by omega)
  have hM34 : MID (X + 129) (I33, Q33, Z33) := by
    rw [eM33]
    exact MID_B hM29 (by decide) (by decide) h030
  have h035 : I33 0 3 = 0 := by
    rw [show I33 = ((I33, Q33, Z33) : mM).1 from rfl, eM33, rdB_I (Or.inl rfl)]
    exact h030
  refine go_s (pc' := 58) rfl rfl rfl rfl ?_
  refine go_s (pc' := 59) (st' := [.int 3, .int 3]) rfl rfl rfl rfl ?_
  refine go_icmpP (t' := 113) (pc' := 60) rfl rfl rfl (fun _ => ?_) (fun (c : ¬ (3 ≤ (3 : Int32))) => absurd (by decide) c)
  refine go_s (pc' := 114) rfl rfl rfl rfl ?_
  have hU36 : RU w B ((((R + 1) + 1) + 1) + 1) [] true h31 am33 ln33 K33 (I33, Q33, Z33) := RU_I (sm_e_refl (tbr am33 (13 * ln33) 77 5088) _) (I' := I33) (fun _ => rfl) (fun _ => rfl) (Nat.le_refl _) hU33
  have hA37 : RA w B ((((R + 1) + 1) + 1) + 1) [] true h31 (I33, Q33, Z33) := RA_u.mpr ⟨_, _, _, _, hS33, hU36⟩
  refine go_callV (pc' := 115) rfl rfl rfl (Nat.le_of_ble_eq_true rfl) rfl (sm_o hS33 rfl) rfl rfl rfl (ra_set hA37 (by omega) hM34 (by omega) rfl (by omega)) (fun r h38 q39 => ?_)
  obtain ⟨rfl, hA40⟩ := q39
  refine go_ret rfl rfl ?_
  have hms : rdc 3 (I, Q, Z) = rset 30 (I33, Q33, Z33) := by
    rw [eM33, eM28, eM23, eM18, eM13, eM8]
    rfl
  rw [hms]
  exact ⟨rfl, RA_R (by omega) hA40⟩
