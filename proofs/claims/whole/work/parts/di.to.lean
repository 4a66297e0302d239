theorem ra_to_0_0 {w : Nat → Bool} {d B R : Nat} {h : am_Hp} {I : sm_I} {Q : mQ} {Z : mZ} (hA : RA w B R [] true h (I, Q, Z)) (hR : R + 8 < 40000) {X : Nat} (hM : MID X (I, Q, Z)) (hX : X + 60 < 2 ^ 28) (h0 : I 0 0 = 0) (e11 : I 11 0 = 0) (e12 : I 12 0 = 1) (hu : ¬ I 0 (ohn I 0) = 0) (hd : 10 ≤ d) : am_Ev (am_prog w) d 164 [.ref 62, .int 0] h (fun r h' => r = none ∧ RA w B (R + 4) [] true h' (rto 0 (I, Q, Z))) := by
  obtain ⟨K, Y, am, ln, hS, hU⟩ := RA_u.mp hA
  change sm (tbr am (13 * ln) 77 5088) h (jn I K) Y at hS
  obtain ⟨hW, hWm, -, -, hr, -⟩ := id hU.1
  have hln := RU_ln hU (by omega)
  obtain ⟨d, rfl⟩ : ∃ e, d = e + 1 := ⟨d - 1, by omega⟩
  refine ev_go rfl (Nat.le_of_ble_eq_true rfl) rfl ?_
  have hp0 : prk I 0 := (hM.2.2.1 0 (by decide)).1
  have hp1 : prk I 1 := (hM.2.2.1 1 (by decide)).1
  have hp2 : prk I 2 := (hM.2.2.1 2 (by decide)).1
  refine go_s (pc' := 1) rfl rfl rfl rfl ?_
  refine go_sget (pc' := 2) (v := .ref 78) hS rfl rfl rfl (by decide) rfl rfl ?_
  refine go_s (pc' := 3) rfl rfl rfl rfl ?_
  refine go_s (pc' := 4) rfl rfl rfl rfl ?_
  refine go_sget (pc' := 5) (v := .ref 79) hS rfl rfl rfl (by decide) rfl rfl ?_
  refine go_s (pc' := 6) rfl rfl rfl rfl ?_
  refine go_sald (pc' := 7) (q := 0) (v := .int 1) hS rfl (tr_s hr (a := 79) rfl (by decide)) rfl rfl (by decide) (congrArg Value.int e12) rfl ?_
  refine go_siast (pc' := 8) (q := 0) hS rfl (tr_s hr (a := 78) rfl (by decide)) tbr_inj (Nat.le_of_ble_eq_true rfl) rfl (by decide) (by decide) (hW _ (by decide) (by decide)) rfl (fun h1 hS2 hE3 => ?_)
  refine go_s (pc' := 9) rfl rfl rfl rfl ?_
  refine go_sget (pc' := 10) (v := .ref 79) hS2 rfl rfl rfl (by decide) rfl rfl ?_
  refine go_s (pc' := 11) rfl rfl rfl rfl ?_
  refine go_s (pc' := 12) (st' := [.int (-1), .int 0, .ref 79]) rfl rfl rfl rfl ?_
  refine go_siast (pc' := 13) (q := 0) hS2 rfl (tr_s hr (a := 79) rfl (by decide)) tbr_inj (Nat.le_of_ble_eq_true rfl) rfl (by decide) (by decide) (hW _ (by decide) (by decide)) rfl (fun h4 hS5 hE6 => ?_)
  have hE7 := sm_e_trans hE3 hE6
  refine go_s (pc' := 14) rfl rfl rfl rfl ?_
  refine go_sget (pc' := 15) (v := .ref 80) hS5 rfl rfl rfl (by decide) rfl rfl ?_
  refine go_s (pc' := 16) rfl rfl rfl rfl ?_
  refine go_s (pc' := 17) (st' := [.int 0, .int 0, .ref 80]) rfl rfl rfl rfl ?_
  refine go_szast (pc' := 18) (q := 0) hS5 rfl (tr_s hr (a := 80) rfl (by decide)) tbr_inj (Nat.le_of_ble_eq_true rfl) rfl (by decide) (by decide) rfl (hW _ (by decide) (by decide)) rfl (fun h8 hS9 hE10 => ?_)
  have hE11 := sm_e_trans hE7 hE10
  change sm (tbr am (13 * ln) 77 5088) _ (uI (uI (uI (jn I K) 11 0 1) 12 0 (-1)) 13 0 0) Y at hS9
  rw [jn_lo (c := 11) (by decide), jn_lo (c := 12) (by decide), jn_lo (c := 13) (by decide)] at hS9
  have hU12 : RU w B R [] true h8 am ln K ((uI (uI (uI I 11 0 1) 12 0 (-1)) 13 0 0), Q, Z) := RU_I (hE11) (I' := (uI (uI (uI I 11 0 1) 12 0 (-1)) 13 0 0)) (fun _ => rfl) (fun _ => rfl) (Nat.le_refl _) hU
  have hS13 : sm (tbr am (13 * ln) 77 5088) _ (jn (uI (uI (uI (uI I 11 0 1) 12 0 (-1)) 13 0 0) 40 0 0) K) Y := sm_jg hr hS9 (fun c j _ n1 n2 n3 => uI_c n3)
  have hU14 : RU w B R [] true h8 am ln K ((uI (uI (uI (uI I 11 0 1) 12 0 (-1)) 13 0 0) 40 0 0), Q, Z) := RU_I (sm_e_refl (tbr am (13 * ln) 77 5088) _) (fun _ => rfl) (fun _ => rfl) (Nat.le_refl _) hU12
  refine go_s (pc' := 19) rfl rfl rfl rfl ?_
  refine go_s (pc' := 20) rfl rfl rfl rfl ?_
  have hU15 : RU w B R [] true h8 am ln K ((uI (uI (uI (uI I 11 0 1) 12 0 (-1)) 13 0 0) 40 0 0), Q, Z) := RU_I (sm_e_refl (tbr am (13 * ln) 77 5088) _) (I' := (uI (uI (uI (uI I 11 0 1) 12 0 (-1)) 13 0 0) 40 0 0)) (fun _ => rfl) (fun _ => rfl) (Nat.le_refl _) hU14
  refine go_callV (pc' := 21) rfl rfl rfl (Nat.le_of_ble_eq_true rfl) rfl (sm_o hS13 rfl) rfl rfl rfl (rt_stops_0 hr hS13 hW (by omega)) (fun r h16 q17 => ?_)
  obtain ⟨rfl, hS18, hE19⟩ := q17
  change sm (tbr am (13 * ln) 77 5088) _ (mstI 0 (jn (uI (uI (uI (uI I 11 0 1) 12 0 (-1)) 13 0 0) 40 0 0) K)) Y at hS18
  rw [mst_jn] at hS18
  have hU20 : RU w B R [] true h16 am ln K ((mstI 0 (uI (uI (uI (uI I 11 0 1) 12 0 (-1)) 13 0 0) 40 0 0)), Q, Z) := RU_I hE19 mst_24 mst_25 mst_stn hU15
  have ep21 : (mstI 0 (uI (uI (uI (uI I 11 0 1) 12 0 (-1)) 13 0 0) 40 0 0)) 11 0 = 1 := (congrFun mst_11 0).trans (show (uI (uI (uI (uI I 11 0 1) 12 0 (-1)) 13 0 0) 40 0 0) 11 0 = 1 from rfl)
  have hp22 : prk (mstI 0 (uI (uI (uI (uI I 11 0 1) 12 0 (-1)) 13 0 0) 40 0 0)) 1 := (prk_p (congrFun (mst_11 (k := 0) (I := (uI (uI (uI (uI I 11 0 1) 12 0 (-1)) 13 0 0) 40 0 0))) 1)).mpr hp1
  have hp23 : prk (mstI 0 (uI (uI (uI (uI I 11 0 1) 12 0 (-1)) 13 0 0) 40 0 0)) 2 := (prk_p (congrFun (mst_11 (k := 0) (I := (uI (uI (uI (uI I 11 0 1) 12 0 (-1)) 13 0 0) 40 0 0))) 2)).mpr hp2
  refine go_s (pc' := 22) rfl rfl rfl rfl ?_
  refine go_s (pc' := 23) rfl rfl rfl rfl ?_
  refine go_callV (pc' := 24) rfl rfl rfl (Nat.le_of_ble_eq_true rfl) rfl (sm_o hS18 rfl) rfl rfl rfl (rt_at_0 hr hS18 (Or.inr (Or.inr ep21)) (fun z => absurd (ep21.symm.trans z) (by decide)) (by omega)) (fun r h24 q25 => ?_)
  obtain ⟨rfl, rfl⟩ := q25
  rw [show rwi (jn (mstI 0 (uI (uI (uI (uI I 11 0 1) 12 0 (-1)) 13 0 0) 40 0 0)) K) 0 = 1 by unfold rwi pn; rw [show (jn (mstI 0 (uI (uI (uI (uI I 11 0 1) 12 0 (-1)) 13 0 0) 40 0 0)) K) 11 0 = 1 from ep21]; rfl]
  show am_Go _ _ _ _ 24 _ [.int 424] _ _
  refine go_s (pc' := 25) (lo' := [some (.ref 62), some (.int 0), some (.int 424)]) rfl rfl rfl rfl ?_
  refine go_s (pc' := 26) rfl rfl rfl rfl ?_
  refine go_ifP (t' := 56) (pc' := 27) rfl rfl rfl (fun (c : ¬ (0 : Int32) = 0) => absurd c (by decide)) (fun _ => ?_)
  refine go_s (pc' := 28) rfl rfl rfl rfl ?_
  refine go_sget (pc' := 29) (v := .ref 88) hS18 rfl rfl rfl (by decide) rfl rfl ?_
  refine go_s (pc' := 30) (st' := [.int 0, .ref 88]) rfl rfl rfl rfl ?_
  refine go_s (pc' := 31) (st' := [.int 0, .int 0, .ref 88]) rfl rfl rfl rfl ?_
  refine go_siast (pc' := 32) (q := 0) hS18 rfl (tr_s hr (a := 88) rfl (by decide)) tbr_inj (Nat.le_of_ble_eq_true rfl) rfl (by decide) (by decide) (hW _ (by decide) (by decide)) rfl (fun h26 hS27 hE28 => ?_)
  refine go_s (pc' := 33) rfl rfl rfl rfl ?_
  refine go_sget (pc' := 34) (v := .ref 88) hS27 rfl rfl rfl (by decide) rfl rfl ?_
  refine go_s (pc' := 35) (st' := [.int 1, .ref 88]) rfl rfl rfl rfl ?_
  refine go_s (pc' := 36) (st' := [.int 0, .int 1, .ref 88]) rfl rfl rfl rfl ?_
  refine go_siast (pc' := 37) (q := 1) hS27 rfl (tr_s hr (a := 88) rfl (by decide)) tbr_inj (Nat.le_of_ble_eq_true rfl) rfl (by decide) (by decide) (hW _ (by decide) (by decide)) rfl (fun h29 hS30 hE31 => ?_)
  have hE32 := sm_e_trans hE28 hE31
  refine go_s (pc' := 38) rfl rfl rfl rfl ?_
  refine go_sget (pc' := 39) (v := .ref 83) hS30 rfl rfl rfl (by decide) rfl rfl ?_
  refine go_s (pc' := 40) (st' := [.int 0, .ref 83]) rfl rfl rfl rfl ?_
  refine go_s (pc' := 41) rfl rfl rfl rfl ?_
  refine go_sget (pc' := 42) (v := .ref 77) hS30 rfl rfl rfl (by decide) rfl rfl ?_
  refine go_s (pc' := 43) rfl rfl rfl rfl ?_
  refine go_s (pc' := 44) (st' := [.int 3, .int 424, .ref 77, .int 0, .ref 83]) rfl rfl rfl rfl ?_
  refine go_s (pc' := 45) (st' := [.int 427, .ref 77, .int 0, .ref 83]) rfl rfl rfl rfl ?_
  refine go_sald (pc' := 46) (q := 427) (v := .int ((Z 1).1 3)) hS30 rfl (tr_as hr (by omega)) rfl rfl (by decide) (congrArg Value.int ((RR_row hU20.2.1 (i := 1) (by decide)).1.1 3 (by decide) (by decide) (by decide))) rfl ?_
  refine go_ifP (t' := 49) (pc' := 47) rfl rfl rfl (fun (c33 : ((Z 1).1 3) ≤ 0) => ?_) (fun (c33 : ¬ ((Z 1).1 3) ≤ 0) => ?_)
  · skip
    refine go_s (pc' := 50) (st' := [.int 0, .int 0, .ref 83]) rfl rfl rfl rfl ?_
    refine go_siast (pc' := 51) (q := 0) hS30 rfl (tr_s hr (a := 83) rfl (by decide)) tbr_inj (Nat.le_of_ble_eq_true rfl) rfl (by decide) (by decide) (hW _ (by decide) (by decide)) rfl (fun h34 hS35 hE36 => ?_)
    have hE37 := sm_e_trans hE32 hE36
    change sm (tbr am (13 * ln) 77 5088) _ (uI (uI (uI (jn (mstI 0 (uI (uI (uI (uI I 11 0 1) 12 0 (-1)) 13 0 0) 40 0 0)) K) 22 0 0) 22 1 0) 16 0 0) Y at hS35
    rw [jn_lo (c := 22) (by decide), jn_lo (c := 22) (by decide), jn_lo (c := 16) (by decide)] at hS35
    have hU38 : RU w B R [] true h34 am ln K ((uI (uI (uI (mstI 0 (uI (uI (uI (uI I 11 0 1) 12 0 (-1)) 13 0 0) 40 0 0)) 22 0 0) 22 1 0) 16 0 0), Q, Z) := RU_I (hE37) (I' := (uI (uI (uI (mstI 0 (uI (uI (uI (uI I 11 0 1) 12 0 (-1)) 13 0 0) 40 0 0)) 22 0 0) 22 1 0) 16 0 0)) (fun _ => rfl) (fun _ => rfl) (Nat.le_refl _) hU20
    have hto : rto1 (rto0 0 (I, Q, Z)) = ((uI (uI (uI (mstI 0 (uI (uI (uI (uI I 11 0 1) 12 0 (-1)) 13 0 0) 40 0 0)) 22 0 0) 22 1 0) 16 0 0), Q, Z) := by
      unfold rto1
      rw [show row1 (rto0 0 (I, Q, Z)) 0 = (Z 1).1 from row1_l (I := (rto0 0 (I, Q, Z)).1) (v := 1) (show mstI 0 (uI (uI (uI (uI I 11 0 (I 12 0)) 12 0 (-1)) 13 0 0) 40 0 0) 11 0 = 1 by rw [mst_11, e12]; rfl) (by decide), if_neg (Int32.not_lt.mpr c33)]
      unfold rto0
      rw [show ((I, Q, Z) : mM).1 12 0 = 1 from e12]
    refine go_s (pc' := 52) rfl rfl rfl rfl ?_
    have hU39 : RU w B R [] true h34 am ln K ((uI (uI (uI (mstI 0 (uI (uI (uI (uI I 11 0 1) 12 0 (-1)) 13 0 0) 40 0 0)) 22 0 0) 22 1 0) 16 0 0), Q, Z) := RU_I (sm_e_refl (tbr am (13 * ln) 77 5088) _) (I' := (uI (uI (uI (mstI 0 (uI (uI (uI (uI I 11 0 1) 12 0 (-1)) 13 0 0) 40 0 0)) 22 0 0) 22 1 0) 16 0 0)) (fun _ => rfl) (fun _ => rfl) (Nat.le_refl _) hU38
    have hA40 : RA w B R [] true h34 ((uI (uI (uI (mstI 0 (uI (uI (uI (uI I 11 0 1) 12 0 (-1)) 13 0 0) 40 0 0)) 22 0 0) 22 1 0) 16 0 0), Q, Z) := RA_u.mpr ⟨_, _, _, _, hS35, hU39⟩
    refine go_callV (pc' := 53) rfl rfl rfl (Nat.le_of_ble_eq_true rfl) rfl (sm_o hS35 rfl) rfl rfl rfl (ra_sa hA40 (by omega) (Or.inr (Or.inr ep21)) hp22 hp23 (by omega)) (fun r h41 q42 => ?_)
    obtain ⟨rfl, hA43⟩ := q42
    change RA w B (R + 2) [] true h41 (rsa ((uI (uI (uI (mstI 0 (uI (uI (uI (uI I 11 0 1) 12 0 (-1)) 13 0 0) 40 0 0)) 22 0 0) 22 1 0) 16 0 0), Q, Z)) at hA43
    obtain ⟨M44, eM44⟩ : ∃ y : mM, y = (rsa ((uI (uI (uI (mstI 0 (uI (uI (uI (uI I 11 0 1) 12 0 (-1)) 13 0 0) 40 0 0)) 22 0 0) 22 1 0) 16 0 0), Q, Z)) := ⟨_, rfl⟩
    rw [← eM44] at hA43
    obtain ⟨I44, Q44, Z44⟩ := M44
    obtain ⟨K44, Y44, am44, ln44, hS44, hU44⟩ := RA_u.mp hA43
    change sm (tbr am44 (13 * ln44) 77 5088) h41 (jn I44 K44) Y44 at hS44
    obtain ⟨-, hWm44, -, -, hr44, -⟩ := id hU44.1
    have hln44 := RU_ln hU44 (by omega)
    refine go_s (pc' := 54) rfl rfl rfl rfl ?_
    have hMT : MID (X + 2) (I44, Q44, Z44) := by
      rw [eM44, ← hto]
      exact (MID_T0 hM (p := 0) (by decide) h0 e11 (by show ¬ I 12 0 = -1; rw [e12]; decide) hu).1
    have hU45 : RU w B (R + 2) [] true h41 am44 ln44 K44 (I44, Q44, Z44) := RU_I (sm_e_refl (tbr am44 (13 * ln44) 77 5088) _) (I' := I44) (fun _ => rfl) (fun _ => rfl) (Nat.le_refl _) hU44
    have hA46 : RA w B (R + 2) [] true h41 (I44, Q44, Z44) := RA_u.mpr ⟨_, _, _, _, hS44, hU45⟩
    refine go_callV (pc' := 55) rfl rfl rfl (Nat.le_of_ble_eq_true rfl) rfl (sm_o hS44 rfl) rfl rfl rfl (ra_set hA46 (by omega) hMT (by omega) rfl (by omega)) (fun r h47 q48 => ?_)
    obtain ⟨rfl, hA49⟩ := q48
    refine go_s (pc' := 84) rfl rfl rfl rfl ?_
    refine go_ret rfl rfl ?_
    have hms : rto 0 (I, Q, Z) = rset 30 (I44, Q44, Z44) := by
      unfold rto
      rw [if_pos rfl, hto, ← eM44]
    rw [hms]
    exact ⟨rfl, RA_R (by omega) hA49⟩
  · skip
    refine go_s (pc' := 48) (st' := [.int 2, .int 0, .ref 83]) rfl rfl rfl rfl ?_
    refine go_s (pc' := 50) rfl rfl rfl rfl ?_
    refine go_siast (pc' := 51) (q := 0) hS30 rfl (tr_s hr (a := 83) rfl (by decide)) tbr_inj (Nat.le_of_ble_eq_true rfl) rfl (by decide) (by decide) (hW _ (by decide) (by decide)) rfl (fun h50 hS51 hE52 => ?_)
    have hE53 := sm_e_trans hE32 hE52
    change sm (tbr am (13 * ln) 77 5088) _ (uI (uI (uI (jn (mstI 0 (uI (uI (uI (uI I 11 0 1) 12 0 (-1)) 13 0 0) 40 0 0)) K) 22 0 0) 22 1 0) 16 0 2) Y at hS51
    rw [jn_lo (c := 22) (by decide), jn_lo (c := 22) (by decide), jn_lo (c := 16) (by decide)] at hS51
    have hU54 : RU w B R [] true h50 am ln K ((uI (uI (uI (mstI 0 (uI (uI (uI (uI I 11 0 1) 12 0 (-1)) 13 0 0) 40 0 0)) 22 0 0) 22 1 0) 16 0 2), Q, Z) := RU_I (hE53) (I' := (uI (uI (uI (mstI 0 (uI (uI (uI (uI I 11 0 1) 12 0 (-1)) 13 0 0) 40 0 0)) 22 0 0) 22 1 0) 16 0 2)) (fun _ => rfl) (fun _ => rfl) (Nat.le_refl _) hU20
    have hto : rto1 (rto0 0 (I, Q, Z)) = ((uI (uI (uI (mstI 0 (uI (uI (uI (uI I 11 0 1) 12 0 (-1)) 13 0 0) 40 0 0)) 22 0 0) 22 1 0) 16 0 2), Q, Z) := by
      unfold rto1
      rw [show row1 (rto0 0 (I, Q, Z)) 0 = (Z 1).1 from row1_l (I := (rto0 0 (I, Q, Z)).1) (v := 1) (show mstI 0 (uI (uI (uI (uI I 11 0 (I 12 0)) 12 0 (-1)) 13 0 0) 40 0 0) 11 0 = 1 by rw [mst_11, e12]; rfl) (by decide), if_pos (Int32.not_le.mp c33)]
      unfold rto0
      rw [show ((I, Q, Z) : mM).1 12 0 = 1 from e12]
    refine go_s (pc' := 52) rfl rfl rfl rfl ?_
    have hU55 : RU w B R [] true h50 am ln K ((uI (uI (uI (mstI 0 (uI (uI (uI (uI I 11 0 1) 12 0 (-1)) 13 0 0) 40 0 0)) 22 0 0) 22 1 0) 16 0 2), Q, Z) := RU_I (sm_e_refl (tbr am (13 * ln) 77 5088) _) (I' := (uI (uI (uI (mstI 0 (uI (uI (uI (uI I 11 0 1) 12 0 (-1)) 13 0 0) 40 0 0)) 22 0 0) 22 1 0) 16 0 2)) (fun _ => rfl) (fun _ => rfl) (Nat.le_refl _) hU54
    have hA56 : RA w B R [] true h50 ((uI (uI (uI (mstI 0 (uI (uI (uI (uI I 11 0 1) 12 0 (-1)) 13 0 0) 40 0 0)) 22 0 0) 22 1 0) 16 0 2), Q, Z) := RA_u.mpr ⟨_, _, _, _, hS51, hU55⟩
    refine go_callV (pc' := 53) rfl rfl rfl (Nat.le_of_ble_eq_true rfl) rfl (sm_o hS51 rfl) rfl rfl rfl (ra_sa hA56 (by omega) (Or.inr (Or.inr ep21)) hp22 hp23 (by omega)) (fun r h57 q58 => ?_)
    obtain ⟨rfl, hA59⟩ := q58
    change RA w B (R + 2) [] true h57 (rsa ((uI (uI (uI (mstI 0 (uI (uI (uI (uI I 11 0 1) 12 0 (-1)) 13 0 0) 40 0 0)) 22 0 0) 22 1 0) 16 0 2), Q, Z)) at hA59
    obtain ⟨M60, eM60⟩ : ∃ y : mM, y = (rsa ((uI (uI (uI (mstI 0 (uI (uI (uI (uI I 11 0 1) 12 0 (-1)) 13 0 0) 40 0 0)) 22 0 0) 22 1 0) 16 0 2), Q, Z)) := ⟨_, rfl⟩
    rw [← eM60] at hA59
    obtain ⟨I60, Q60, Z60⟩ := M60
    obtain ⟨K60, Y60, am60, ln60, hS60, hU60⟩ := RA_u.mp hA59
    change sm (tbr am60 (13 * ln60) 77 5088) h57 (jn I60 K60) Y60 at hS60
    obtain ⟨-, hWm60, -, -, hr60, -⟩ := id hU60.1
    have hln60 := RU_ln hU60 (by omega)
    refine go_s (pc' := 54) rfl rfl rfl rfl ?_
    have hMT : MID (X + 2) (I60, Q60, Z60) := by
      rw [eM60, ← hto]
      exact (MID_T0 hM (p := 0) (by decide) h0 e11 (by show ¬ I 12 0 = -1; rw [e12]; decide) hu).1
    have hU61 : RU w B (R + 2) [] true h57 am60 ln60 K60 (I60, Q60, Z60) := RU_I (sm_e_refl (tbr am60 (13 * ln60) 77 5088) _) (I' := I60) (fun _ => rfl) (fun _ => rfl) (Nat.le_refl _) hU60
    have hA62 : RA w B (R + 2) [] true h57 (I60, Q60, Z60) := RA_u.mpr ⟨_, _, _, _, hS60, hU61⟩
    refine go_callV (pc' := 55) rfl rfl rfl (Nat.le_of_ble_eq_true rfl) rfl (sm_o hS60 rfl) rfl rfl rfl (ra_set hA62 (by omega) hMT (by omega) rfl (by omega)) (fun r h63 q64 => ?_)
    obtain ⟨rfl, hA65⟩ := q64
    refine go_s (pc' := 84) rfl rfl rfl rfl ?_
    refine go_ret rfl rfl ?_
    have hms : rto 0 (I, Q, Z) = rset 30 (I60, Q60, Z60) := by
      unfold rto
      rw [if_pos rfl, hto, ← eM60]
    rw [hms]
    exact ⟨rfl, RA_R (by omega) hA65⟩
theorem ra_to_0_1 {w : Nat → Bool} {d B R : Nat} {h : am_Hp} {I : sm_I} {Q : mQ} {Z : mZ} (hA : RA w B R [] true h (I, Q, Z)) (hR : R + 8 < 40000) {X : Nat} (hM : MID X (I, Q, Z)) (hX : X + 60 < 2 ^ 28) (h0 : I 0 1 = 0) (e11 : I 11 0 = 1) (e12 : I 12 0 = 0) (hu : ¬ I 0 (ohn I 0) = 0) (hd : 10 ≤ d) : am_Ev (am_prog w) d 164 [.ref 62, .int 0] h (fun r h' => r = none ∧ RA w B (R + 4) [] true h' (rto 0 (I, Q, Z))) := by
  obtain ⟨K, Y, am, ln, hS, hU⟩ := RA_u.mp hA
  change sm (tbr am (13 * ln) 77 5088) h (jn I K) Y at hS
  obtain ⟨hW, hWm, -, -, hr, -⟩ := id hU.1
  have hln := RU_ln hU (by omega)
  obtain ⟨d, rfl⟩ : ∃ e, d = e + 1 := ⟨d - 1, by omega⟩
  refine ev_go rfl (Nat.le_of_ble_eq_true rfl) rfl ?_
  have hp0 : prk I 0 := (hM.2.2.1 0 (by decide)).1
  have hp1 : prk I 1 := (hM.2.2.1 1 (by decide)).1
  have hp2 : prk I 2 := (hM.2.2.1 2 (by decide)).1
  refine go_s (pc' := 1) rfl rfl rfl rfl ?_
  refine go_sget (pc' := 2) (v := .ref 78) hS rfl rfl rfl (by decide) rfl rfl ?_
  refine go_s (pc' := 3) rfl rfl rfl rfl ?_
  refine go_s (pc' := 4) rfl rfl rfl rfl ?_
  refine go_sget (pc' := 5) (v := .ref 79) hS rfl rfl rfl (by decide) rfl rfl ?_
  refine go_s (pc' := 6) rfl rfl rfl rfl ?_
  refine go_sald (pc' := 7) (q := 0) (v := .int 0) hS rfl (tr_s hr (a := 79) rfl (by decide)) rfl rfl (by decide) (congrArg Value.int e12) rfl ?_
  refine go_siast (pc' := 8) (q := 0) hS rfl (tr_s hr (a := 78) rfl (by decide)) tbr_inj (Nat.le_of_ble_eq_true rfl) rfl (by decide) (by decide) (hW _ (by decide) (by decide)) rfl (fun h1 hS2 hE3 => ?_)
  refine go_s (pc' := 9) rfl rfl rfl rfl ?_
  refine go_sget (pc' := 10) (v := .ref 79) hS2 rfl rfl rfl (by decide) rfl rfl ?_
  refine go_s (pc' := 11) rfl rfl rfl rfl ?_
  refine go_s (pc' := 12) (st' := [.int (-1), .int 0, .ref 79]) rfl rfl rfl rfl ?_
  refine go_siast (pc' := 13) (q := 0) hS2 rfl (tr_s hr (a := 79) rfl (by decide)) tbr_inj (Nat.le_of_ble_eq_true rfl) rfl (by decide) (by decide) (hW _ (by decide) (by decide)) rfl (fun h4 hS5 hE6 => ?_)
  have hE7 := sm_e_trans hE3 hE6
  refine go_s (pc' := 14) rfl rfl rfl rfl ?_
  refine go_sget (pc' := 15) (v := .ref 80) hS5 rfl rfl rfl (by decide) rfl rfl ?_
  refine go_s (pc' := 16) rfl rfl rfl rfl ?_
  refine go_s (pc' := 17) (st' := [.int 0, .int 0, .ref 80]) rfl rfl rfl rfl ?_
  refine go_szast (pc' := 18) (q := 0) hS5 rfl (tr_s hr (a := 80) rfl (by decide)) tbr_inj (Nat.le_of_ble_eq_true rfl) rfl (by decide) (by decide) rfl (hW _ (by decide) (by decide)) rfl (fun h8 hS9 hE10 => ?_)
  have hE11 := sm_e_trans hE7 hE10
  change sm (tbr am (13 * ln) 77 5088) _ (uI (uI (uI (jn I K) 11 0 0) 12 0 (-1)) 13 0 0) Y at hS9
  rw [jn_lo (c := 11) (by decide), jn_lo (c := 12) (by decide), jn_lo (c := 13) (by decide)] at hS9
  have hU12 : RU w B R [] true h8 am ln K ((uI (uI (uI I 11 0 0) 12 0 (-1)) 13 0 0), Q, Z) := RU_I (hE11) (I' := (uI (uI (uI I 11 0 0) 12 0 (-1)) 13 0 0)) (fun _ => rfl) (fun _ => rfl) (Nat.le_refl _) hU
  have hS13 : sm (tbr am (13 * ln) 77 5088) _ (jn (uI (uI (uI (uI I 11 0 0) 12 0 (-1)) 13 0 0) 40 0 0) K) Y := sm_jg hr hS9 (fun c j _ n1 n2 n3 => uI_c n3)
  have hU14 : RU w B R [] true h8 am ln K ((uI (uI (uI (uI I 11 0 0) 12 0 (-1)) 13 0 0) 40 0 0), Q, Z) := RU_I (sm_e_refl (tbr am (13 * ln) 77 5088) _) (fun _ => rfl) (fun _ => rfl) (Nat.le_refl _) hU12
  refine go_s (pc' := 19) rfl rfl rfl rfl ?_
  refine go_s (pc' := 20) rfl rfl rfl rfl ?_
  have hU15 : RU w B R [] true h8 am ln K ((uI (uI (uI (uI I 11 0 0) 12 0 (-1)) 13 0 0) 40 0 0), Q, Z) := RU_I (sm_e_refl (tbr am (13 * ln) 77 5088) _) (I' := (uI (uI (uI (uI I 11 0 0) 12 0 (-1)) 13 0 0) 40 0 0)) (fun _ => rfl) (fun _ => rfl) (Nat.le_refl _) hU14
  refine go_callV (pc' := 21) rfl rfl rfl (Nat.le_of_ble_eq_true rfl) rfl (sm_o hS13 rfl) rfl rfl rfl (rt_stops_0 hr hS13 hW (by omega)) (fun r h16 q17 => ?_)
  obtain ⟨rfl, hS18, hE19⟩ := q17
  change sm (tbr am (13 * ln) 77 5088) _ (mstI 0 (jn (uI (uI (uI (uI I 11 0 0) 12 0 (-1)) 13 0 0) 40 0 0) K)) Y at hS18
  rw [mst_jn] at hS18
  have hU20 : RU w B R [] true h16 am ln K ((mstI 0 (uI (uI (uI (uI I 11 0 0) 12 0 (-1)) 13 0 0) 40 0 0)), Q, Z) := RU_I hE19 mst_24 mst_25 mst_stn hU15
  have ep21 : (mstI 0 (uI (uI (uI (uI I 11 0 0) 12 0 (-1)) 13 0 0) 40 0 0)) 11 0 = 0 := (congrFun mst_11 0).trans (show (uI (uI (uI (uI I 11 0 0) 12 0 (-1)) 13 0 0) 40 0 0) 11 0 = 0 from rfl)
  have hp22 : prk (mstI 0 (uI (uI (uI (uI I 11 0 0) 12 0 (-1)) 13 0 0) 40 0 0)) 1 := (prk_p (congrFun (mst_11 (k := 0) (I := (uI (uI (uI (uI I 11 0 0) 12 0 (-1)) 13 0 0) 40 0 0))) 1)).mpr hp1
  have hp23 : prk (mstI 0 (uI (uI (uI (uI I 11 0 0) 12 0 (-1)) 13 0 0) 40 0 0)) 2 := (prk_p (congrFun (mst_11 (k := 0) (I := (uI (uI (uI (uI I 11 0 0) 12 0 (-1)) 13 0 0) 40 0 0))) 2)).mpr hp2
  refine go_s (pc' := 22) rfl rfl rfl rfl ?_
  refine go_s (pc' := 23) rfl rfl rfl rfl ?_
  refine go_callV (pc' := 24) rfl rfl rfl (Nat.le_of_ble_eq_true rfl) rfl (sm_o hS18 rfl) rfl rfl rfl (rt_at_0 hr hS18 (Or.inr (Or.inl ep21)) (fun z => absurd (ep21.symm.trans z) (by decide)) (by omega)) (fun r h24 q25 => ?_)
  obtain ⟨rfl, rfl⟩ := q25
  rw [show rwi (jn (mstI 0 (uI (uI (uI (uI I 11 0 0) 12 0 (-1)) 13 0 0) 40 0 0)) K) 0 = 0 by unfold rwi pn; rw [show (jn (mstI 0 (uI (uI (uI (uI I 11 0 0) 12 0 (-1)) 13 0 0) 40 0 0)) K) 11 0 = 0 from ep21]; rfl]
  show am_Go _ _ _ _ 24 _ [.int 0] _ _
  refine go_s (pc' := 25) (lo' := [some (.ref 62), some (.int 0), some (.int 0)]) rfl rfl rfl rfl ?_
  refine go_s (pc' := 26) rfl rfl rfl rfl ?_
  refine go_ifP (t' := 56) (pc' := 27) rfl rfl rfl (fun (c : ¬ (0 : Int32) = 0) => absurd c (by decide)) (fun _ => ?_)
  refine go_s (pc' := 28) rfl rfl rfl rfl ?_
  refine go_sget (pc' := 29) (v := .ref 88) hS18 rfl rfl rfl (by decide) rfl rfl ?_
  refine go_s (pc' := 30) (st' := [.int 0, .ref 88]) rfl rfl rfl rfl ?_
  refine go_s (pc' := 31) (st' := [.int 0, .int 0, .ref 88]) rfl rfl rfl rfl ?_
  refine go_siast (pc' := 32) (q := 0) hS18 rfl (tr_s hr (a := 88) rfl (by decide)) tbr_inj (Nat.le_of_ble_eq_true rfl) rfl (by decide) (by decide) (hW _ (by decide) (by decide)) rfl (fun h26 hS27 hE28 => ?_)
  refine go_s (pc' := 33) rfl rfl rfl rfl ?_
  refine go_sget (pc' := 34) (v := .ref 88) hS27 rfl rfl rfl (by decide) rfl rfl ?_
  refine go_s (pc' := 35) (st' := [.int 1, .ref 88]) rfl rfl rfl rfl ?_
  refine go_s (pc' := 36) (st' := [.int 0, .int 1, .ref 88]) rfl rfl rfl rfl ?_
  refine go_siast (pc' := 37) (q := 1) hS27 rfl (tr_s hr (a := 88) rfl (by decide)) tbr_inj (Nat.le_of_ble_eq_true rfl) rfl (by decide) (by decide) (hW _ (by decide) (by decide)) rfl (fun h29 hS30 hE31 => ?_)
  have hE32 := sm_e_trans hE28 hE31
  refine go_s (pc' := 38) rfl rfl rfl rfl ?_
  refine go_sget (pc' := 39) (v := .ref 83) hS30 rfl rfl rfl (by decide) rfl rfl ?_
  refine go_s (pc' := 40) (st' := [.int 0, .ref 83]) rfl rfl rfl rfl ?_
  refine go_s (pc' := 41) rfl rfl rfl rfl ?_
  refine go_sget (pc' := 42) (v := .ref 77) hS30 rfl rfl rfl (by decide) rfl rfl ?_
  refine go_s (pc' := 43) rfl rfl rfl rfl ?_
  refine go_s (pc' := 44) (st' := [.int 3, .int 0, .ref 77, .int 0, .ref 83]) rfl rfl rfl rfl ?_
  refine go_s (pc' := 45) (st' := [.int 3, .ref 77, .int 0, .ref 83]) rfl rfl rfl rfl ?_
  refine go_sald (pc' := 46) (q := 3) (v := .int ((Z 0).1 3)) hS30 rfl (tr_as hr (by omega)) rfl rfl (by decide) (congrArg Value.int ((RR_row hU20.2.1 (i := 0) (by decide)).1.1 3 (by decide) (by decide) (by decide))) rfl ?_
  refine go_ifP (t' := 49) (pc' := 47) rfl rfl rfl (fun (c33 : ((Z 0).1 3) ≤ 0) => ?_) (fun (c33 : ¬ ((Z 0).1 3) ≤ 0) => ?_)
  · skip
    refine go_s (pc' := 50) (st' := [.int 0, .int 0, .ref 83]) rfl rfl rfl rfl ?_
    refine go_siast (pc' := 51) (q := 0) hS30 rfl (tr_s hr (a := 83) rfl (by decide)) tbr_inj (Nat.le_of_ble_eq_true rfl) rfl (by decide) (by decide) (hW _ (by decide) (by decide)) rfl (fun h34 hS35 hE36 => ?_)
    have hE37 := sm_e_trans hE32 hE36
    change sm (tbr am (13 * ln) 77 5088) _ (uI (uI (uI (jn (mstI 0 (uI (uI (uI (uI I 11 0 0) 12 0 (-1)) 13 0 0) 40 0 0)) K) 22 0 0) 22 1 0) 16 0 0) Y at hS35
    rw [jn_lo (c := 22) (by decide), jn_lo (c := 22) (by decide), jn_lo (c := 16) (by decide)] at hS35
    have hU38 : RU w B R [] true h34 am ln K ((uI (uI (uI (mstI 0 (uI (uI (uI (uI I 11 0 0) 12 0 (-1)) 13 0 0) 40 0 0)) 22 0 0) 22 1 0) 16 0 0), Q, Z) := RU_I (hE37) (I' := (uI (uI (uI (mstI 0 (uI (uI (uI (uI I 11 0 0) 12 0 (-1)) 13 0 0) 40 0 0)) 22 0 0) 22 1 0) 16 0 0)) (fun _ => rfl) (fun _ => rfl) (Nat.le_refl _) hU20
    have hto : rto1 (rto0 0 (I, Q, Z)) = ((uI (uI (uI (mstI 0 (uI (uI (uI (uI I 11 0 0) 12 0 (-1)) 13 0 0) 40 0 0)) 22 0 0) 22 1 0) 16 0 0), Q, Z) := by
      unfold rto1
      rw [show row1 (rto0 0 (I, Q, Z)) 0 = (Z 0).1 from row1_l (I := (rto0 0 (I, Q, Z)).1) (v := 0) (show mstI 0 (uI (uI (uI (uI I 11 0 (I 12 0)) 12 0 (-1)) 13 0 0) 40 0 0) 11 0 = 0 by rw [mst_11, e12]; rfl) (by decide), if_neg (Int32.not_lt.mpr c33)]
      unfold rto0
      rw [show ((I, Q, Z) : mM).1 12 0 = 0 from e12]
    refine go_s (pc' := 52) rfl rfl rfl rfl ?_
    have hU39 : RU w B R [] true h34 am ln K ((uI (uI (uI (mstI 0 (uI (uI (uI (uI I 11 0 0) 12 0 (-1)) 13 0 0) 40 0 0)) 22 0 0) 22 1 0) 16 0 0), Q, Z) := RU_I (sm_e_refl (tbr am (13 * ln) 77 5088) _) (I' := (uI (uI (uI (mstI 0 (uI (uI (uI (uI I 11 0 0) 12 0 (-1)) 13 0 0) 40 0 0)) 22 0 0) 22 1 0) 16 0 0)) (fun _ => rfl) (fun _ => rfl) (Nat.le_refl _) hU38
    have hA40 : RA w B R [] true h34 ((uI (uI (uI (mstI 0 (uI (uI (uI (uI I 11 0 0) 12 0 (-1)) 13 0 0) 40 0 0)) 22 0 0) 22 1 0) 16 0 0), Q, Z) := RA_u.mpr ⟨_, _, _, _, hS35, hU39⟩
    refine go_callV (pc' := 53) rfl rfl rfl (Nat.le_of_ble_eq_true rfl) rfl (sm_o hS35 rfl) rfl rfl rfl (ra_sa hA40 (by omega) (Or.inr (Or.inl ep21)) hp22 hp23 (by omega)) (fun r h41 q42 => ?_)
    obtain ⟨rfl, hA43⟩ := q42
    change RA w B (R + 2) [] true h41 (rsa ((uI (uI (uI (mstI 0 (uI (uI (uI (uI I 11 0 0) 12 0 (-1)) 13 0 0) 40 0 0)) 22 0 0) 22 1 0) 16 0 0), Q, Z)) at hA43
    obtain ⟨M44, eM44⟩ : ∃ y : mM, y = (rsa ((uI (uI (uI (mstI 0 (uI (uI (uI (uI I 11 0 0) 12 0 (-1)) 13 0 0) 40 0 0)) 22 0 0) 22 1 0) 16 0 0), Q, Z)) := ⟨_, rfl⟩
    rw [← eM44] at hA43
    obtain ⟨I44, Q44, Z44⟩ := M44
    obtain ⟨K44, Y44, am44, ln44, hS44, hU44⟩ := RA_u.mp hA43
    change sm (tbr am44 (13 * ln44) 77 5088) h41 (jn I44 K44) Y44 at hS44
    obtain ⟨-, hWm44, -, -, hr44, -⟩ := id hU44.1
    have hln44 := RU_ln hU44 (by omega)
    refine go_s (pc' := 54) rfl rfl rfl rfl ?_
    have hMT : MID (X + 2) (I44, Q44, Z44) := by
      rw [eM44, ← hto]
      exact (MID_T0 hM (p := 1) (by decide) h0 e11 (by show ¬ I 12 0 = -1; rw [e12]; decide) hu).1
    have hU45 : RU w B (R + 2) [] true h41 am44 ln44 K44 (I44, Q44, Z44) := RU_I (sm_e_refl (tbr am44 (13 * ln44) 77 5088) _) (I' := I44) (fun _ => rfl) (fun _ => rfl) (Nat.le_refl _) hU44
    have hA46 : RA w B (R + 2) [] true h41 (I44, Q44, Z44) := RA_u.mpr ⟨_, _, _, _, hS44, hU45⟩
    refine go_callV (pc' := 55) rfl rfl rfl (Nat.le_of_ble_eq_true rfl) rfl (sm_o hS44 rfl) rfl rfl rfl (ra_set hA46 (by omega) hMT (by omega) rfl (by omega)) (fun r h47 q48 => ?_)
    obtain ⟨rfl, hA49⟩ := q48
    refine go_s (pc' := 84) rfl rfl rfl rfl ?_
    refine go_ret rfl rfl ?_
    have hms : rto 0 (I, Q, Z) = rset 30 (I44, Q44, Z44) := by
      unfold rto
      rw [if_pos rfl, hto, ← eM44]
    rw [hms]
    exact ⟨rfl, RA_R (by omega) hA49⟩
  · skip
    refine go_s (pc' := 48) (st' := [.int 2, .int 0, .ref 83]) rfl rfl rfl rfl ?_
    refine go_s (pc' := 50) rfl rfl rfl rfl ?_
    refine go_siast (pc' := 51) (q := 0) hS30 rfl (tr_s hr (a := 83) rfl (by decide)) tbr_inj (Nat.le_of_ble_eq_true rfl) rfl (by decide) (by decide) (hW _ (by decide) (by decide)) rfl (fun h50 hS51 hE52 => ?_)
    have hE53 := sm_e_trans hE32 hE52
    change sm (tbr am (13 * ln) 77 5088) _ (uI (uI (uI (jn (mstI 0 (uI (uI (uI (uI I 11 0 0) 12 0 (-1)) 13 0 0) 40 0 0)) K) 22 0 0) 22 1 0) 16 0 2) Y at hS51
    rw [jn_lo (c := 22) (by decide), jn_lo (c := 22) (by decide), jn_lo (c := 16) (by decide)] at hS51
    have hU54 : RU w B R [] true h50 am ln K ((uI (uI (uI (mstI 0 (uI (uI (uI (uI I 11 0 0) 12 0 (-1)) 13 0 0) 40 0 0)) 22 0 0) 22 1 0) 16 0 2), Q, Z) := RU_I (hE53) (I' := (uI (uI (uI (mstI 0 (uI (uI (uI (uI I 11 0 0) 12 0 (-1)) 13 0 0) 40 0 0)) 22 0 0) 22 1 0) 16 0 2)) (fun _ => rfl) (fun _ => rfl) (Nat.le_refl _) hU20
    have hto : rto1 (rto0 0 (I, Q, Z)) = ((uI (uI (uI (mstI 0 (uI (uI (uI (uI I 11 0 0) 12 0 (-1)) 13 0 0) 40 0 0)) 22 0 0) 22 1 0) 16 0 2), Q, Z) := by
      unfold rto1
      rw [show row1 (rto0 0 (I, Q, Z)) 0 = (Z 0).1 from row1_l (I := (rto0 0 (I, Q, Z)).1) (v := 0) (show mstI 0 (uI (uI (uI (uI I 11 0 (I 12 0)) 12 0 (-1)) 13 0 0) 40 0 0) 11 0 = 0 by rw [mst_11, e12]; rfl) (by decide), if_pos (Int32.not_le.mp c33)]
      unfold rto0
      rw [show ((I, Q, Z) : mM).1 12 0 = 0 from e12]
    refine go_s (pc' := 52) rfl rfl rfl rfl ?_
    have hU55 : RU w B R [] true h50 am ln K ((uI (uI (uI (mstI 0 (uI (uI (uI (uI I 11 0 0) 12 0 (-1)) 13 0 0) 40 0 0)) 22 0 0) 22 1 0) 16 0 2), Q, Z) := RU_I (sm_e_refl (tbr am (13 * ln) 77 5088) _) (I' := (uI (uI (uI (mstI 0 (uI (uI (uI (uI I 11 0 0) 12 0 (-1)) 13 0 0) 40 0 0)) 22 0 0) 22 1 0) 16 0 2)) (fun _ => rfl) (fun _ => rfl) (Nat.le_refl _) hU54
    have hA56 : RA w B R [] true h50 ((uI (uI (uI (mstI 0 (uI (uI (uI (uI I 11 0 0) 12 0 (-1)) 13 0 0) 40 0 0)) 22 0 0) 22 1 0) 16 0 2), Q, Z) := RA_u.mpr ⟨_, _, _, _, hS51, hU55⟩
    refine go_callV (pc' := 53) rfl rfl rfl (Nat.le_of_ble_eq_true rfl) rfl (sm_o hS51 rfl) rfl rfl rfl (ra_sa hA56 (by omega) (Or.inr (Or.inl ep21)) hp22 hp23 (by omega)) (fun r h57 q58 => ?_)
    obtain ⟨rfl, hA59⟩ := q58
    change RA w B (R + 2) [] true h57 (rsa ((uI (uI (uI (mstI 0 (uI (uI (uI (uI I 11 0 0) 12 0 (-1)) 13 0 0) 40 0 0)) 22 0 0) 22 1 0) 16 0 2), Q, Z)) at hA59
    obtain ⟨M60, eM60⟩ : ∃ y : mM, y = (rsa ((uI (uI (uI (mstI 0 (uI (uI (uI (uI I 11 0 0) 12 0 (-1)) 13 0 0) 40 0 0)) 22 0 0) 22 1 0) 16 0 2), Q, Z)) := ⟨_, rfl⟩
    rw [← eM60] at hA59
    obtain ⟨I60, Q60, Z60⟩ := M60
    obtain ⟨K60, Y60, am60, ln60, hS60, hU60⟩ := RA_u.mp hA59
    change sm (tbr am60 (13 * ln60) 77 5088) h57 (jn I60 K60) Y60 at hS60
    obtain ⟨-, hWm60, -, -, hr60, -⟩ := id hU60.1
    have hln60 := RU_ln hU60 (by omega)
    refine go_s (pc' := 54) rfl rfl rfl rfl ?_
    have hMT : MID (X + 2) (I60, Q60, Z60) := by
      rw [eM60, ← hto]
      exact (MID_T0 hM (p := 1) (by decide) h0 e11 (by show ¬ I 12 0 = -1; rw [e12]; decide) hu).1
    have hU61 : RU w B (R + 2) [] true h57 am60 ln60 K60 (I60, Q60, Z60) := RU_I (sm_e_refl (tbr am60 (13 * ln60) 77 5088) _) (I' := I60) (fun _ => rfl) (fun _ => rfl) (Nat.le_refl _) hU60
    have hA62 : RA w B (R + 2) [] true h57 (I60, Q60, Z60) := RA_u.mpr ⟨_, _, _, _, hS60, hU61⟩
    refine go_callV (pc' := 55) rfl rfl rfl (Nat.le_of_ble_eq_true rfl) rfl (sm_o hS60 rfl) rfl rfl rfl (ra_set hA62 (by omega) hMT (by omega) rfl (by omega)) (fun r h63 q64 => ?_)
    obtain ⟨rfl, hA65⟩ := q64
    refine go_s (pc' := 84) rfl rfl rfl rfl ?_
    refine go_ret rfl rfl ?_
    have hms : rto 0 (I, Q, Z) = rset 30 (I60, Q60, Z60) := by
      unfold rto
      rw [if_pos rfl, hto, ← eM60]
    rw [hms]
    exact ⟨rfl, RA_R (by omega) hA65⟩
theorem ra_to_1_2 {w : Nat → Bool} {d B R : Nat} {h : am_Hp} {I : sm_I} {Q : mQ} {Z : mZ} (hA : RA w B R [] true h (I, Q, Z)) (hR : R + 8 < 40000) {X : Nat} (hM : MID X (I, Q, Z)) (hX : X + 60 < 2 ^ 28) (h0 : I 0 2 = 0) (e11 : I 11 1 = 2) (e12 : I 12 1 = 3) (hu : ¬ I 0 (ohn I 1) = 0) (hd : 10 ≤ d) : am_Ev (am_prog w) d 164 [.ref 62, .int 1] h (fun r h' => r = none ∧ RA w B (R + 1) [] true h' (rto 1 (I, Q, Z))) := by
  obtain ⟨K, Y, am, ln, hS, hU⟩ := RA_u.mp hA
  change sm (tbr am (13 * ln) 77 5088) h (jn I K) Y at hS
  obtain ⟨hW, hWm, -, -, hr, -⟩ := id hU.1
  have hln := RU_ln hU (by omega)
  obtain ⟨d, rfl⟩ : ∃ e, d = e + 1 := ⟨d - 1, by omega⟩
  refine ev_go rfl (Nat.le_of_ble_eq_true rfl) rfl ?_
  have hp0 : prk I 0 := (hM.2.2.1 0 (by decide)).1
  have hp1 : prk I 1 := (hM.2.2.1 1 (by decide)).1
  have hp2 : prk I 2 := (hM.2.2.1 2 (by decide)).1
  refine go_s (pc' := 1) rfl rfl rfl rfl ?_
  refine go_sget (pc' := 2) (v := .ref 78) hS rfl rfl rfl (by decide) rfl rfl ?_
  refine go_s (pc' := 3) rfl rfl rfl rfl ?_
  refine go_s (pc' := 4) rfl rfl rfl rfl ?_
  refine go_sget (pc' := 5) (v := .ref 79) hS rfl rfl rfl (by decide) rfl rfl ?_
  refine go_s (pc' := 6) rfl rfl rfl rfl ?_
  refine go_sald (pc' := 7) (q := 1) (v := .int 3) hS rfl (tr_s hr (a := 79) rfl (by decide)) rfl rfl (by decide) (congrArg Value.int e12) rfl ?_
  refine go_siast (pc' := 8) (q := 1) hS rfl (tr_s hr (a := 78) rfl (by decide)) tbr_inj (Nat.le_of_ble_eq_true rfl) rfl (by decide) (by decide) (hW _ (by decide) (by decide)) rfl (fun h1 hS2 hE3 => ?_)
  refine go_s (pc' := 9) rfl rfl rfl rfl ?_
  refine go_sget (pc' := 10) (v := .ref 79) hS2 rfl rfl rfl (by decide) rfl rfl ?_
  refine go_s (pc' := 11) rfl rfl rfl rfl ?_
  refine go_s (pc' := 12) (st' := [.int (-1), .int 1, .ref 79]) rfl rfl rfl rfl ?_
  refine go_siast (pc' := 13) (q := 1) hS2 rfl (tr_s hr (a := 79) rfl (by decide)) tbr_inj (Nat.le_of_ble_eq_true rfl) rfl (by decide) (by decide) (hW _ (by decide) (by decide)) rfl (fun h4 hS5 hE6 => ?_)
  have hE7 := sm_e_trans hE3 hE6
  refine go_s (pc' := 14) rfl rfl rfl rfl ?_
  refine go_sget (pc' := 15) (v := .ref 80) hS5 rfl rfl rfl (by decide) rfl rfl ?_
  refine go_s (pc' := 16) rfl rfl rfl rfl ?_
  refine go_s (pc' := 17) (st' := [.int 0, .int 1, .ref 80]) rfl rfl rfl rfl ?_
  refine go_szast (pc' := 18) (q := 1) hS5 rfl (tr_s hr (a := 80) rfl (by decide)) tbr_inj (Nat.le_of_ble_eq_true rfl) rfl (by decide) (by decide) rfl (hW _ (by decide) (by decide)) rfl (fun h8 hS9 hE10 => ?_)
  have hE11 := sm_e_trans hE7 hE10
  change sm (tbr am (13 * ln) 77 5088) _ (uI (uI (uI (jn I K) 11 1 3) 12 1 (-1)) 13 1 0) Y at hS9
  rw [jn_lo (c := 11) (by decide), jn_lo (c := 12) (by decide), jn_lo (c := 13) (by decide)] at hS9
  have hU12 : RU w B R [] true h8 am ln K ((uI (uI (uI I 11 1 3) 12 1 (-1)) 13 1 0), Q, Z) := RU_I (hE11) (I' := (uI (uI (uI I 11 1 3) 12 1 (-1)) 13 1 0)) (fun _ => rfl) (fun _ => rfl) (Nat.le_refl _) hU
  have hS13 : sm (tbr am (13 * ln) 77 5088) _ (jn (uI (uI (uI (uI I 11 1 3) 12 1 (-1)) 13 1 0) 40 1 0) K) Y := sm_jg hr hS9 (fun c j _ n1 n2 n3 => uI_c n3)
  have hU14 : RU w B R [] true h8 am ln K ((uI (uI (uI (uI I 11 1 3) 12 1 (-1)) 13 1 0) 40 1 0), Q, Z) := RU_I (sm_e_refl (tbr am (13 * ln) 77 5088) _) (fun _ => rfl) (fun _ => rfl) (Nat.le_refl _) hU12
  refine go_s (pc' := 19) rfl rfl rfl rfl ?_
  refine go_s (pc' := 20) rfl rfl rfl rfl ?_
  have hU15 : RU w B R [] true h8 am ln K ((uI (uI (uI (uI I 11 1 3) 12 1 (-1)) 13 1 0) 40 1 0), Q, Z) := RU_I (sm_e_refl (tbr am (13 * ln) 77 5088) _) (I' := (uI (uI (uI (uI I 11 1 3) 12 1 (-1)) 13 1 0) 40 1 0)) (fun _ => rfl) (fun _ => rfl) (Nat.le_refl _) hU14
  refine go_callV (pc' := 21) rfl rfl rfl (Nat.le_of_ble_eq_true rfl) rfl (sm_o hS13 rfl) rfl rfl rfl (rt_stops_1 hr hS13 hW (by omega)) (fun r h16 q17 => ?_)
  obtain ⟨rfl, hS18, hE19⟩ := q17
  change sm (tbr am (13 * ln) 77 5088) _ (mstI 1 (jn (uI (uI (uI (uI I 11 1 3) 12 1 (-1)) 13 1 0) 40 1 0) K)) Y at hS18
  rw [mst_jn] at hS18
  have hU20 : RU w B R [] true h16 am ln K ((mstI 1 (uI (uI (uI (uI I 11 1 3) 12 1 (-1)) 13 1 0) 40 1 0)), Q, Z) := RU_I hE19 mst_24 mst_25 mst_stn hU15
  have ep21 : (mstI 1 (uI (uI (uI (uI I 11 1 3) 12 1 (-1)) 13 1 0) 40 1 0)) 11 1 = 3 := (congrFun mst_11 1).trans (show (uI (uI (uI (uI I 11 1 3) 12 1 (-1)) 13 1 0) 40 1 0) 11 1 = 3 from rfl)
  have hp22 : prk (mstI 1 (uI (uI (uI (uI I 11 1 3) 12 1 (-1)) 13 1 0) 40 1 0)) 0 := (prk_p (congrFun (mst_11 (k := 1) (I := (uI (uI (uI (uI I 11 1 3) 12 1 (-1)) 13 1 0) 40 1 0))) 0)).mpr hp0
  have hp23 : prk (mstI 1 (uI (uI (uI (uI I 11 1 3) 12 1 (-1)) 13 1 0) 40 1 0)) 2 := (prk_p (congrFun (mst_11 (k := 1) (I := (uI (uI (uI (uI I 11 1 3) 12 1 (-1)) 13 1 0) 40 1 0))) 2)).mpr hp2
  refine go_s (pc' := 22) rfl rfl rfl rfl ?_
  refine go_s (pc' := 23) rfl rfl rfl rfl ?_
  refine go_callV (pc' := 24) rfl rfl rfl (Nat.le_of_ble_eq_true rfl) rfl (sm_o hS18 rfl) rfl rfl rfl (rt_at_1 hr hS18 (Or.inr (Or.inr ep21)) (fun z => absurd (ep21.symm.trans z) (by decide)) (by omega)) (fun r h24 q25 => ?_)
  obtain ⟨rfl, rfl⟩ := q25
  rw [show rwi (jn (mstI 1 (uI (uI (uI (uI I 11 1 3) 12 1 (-1)) 13 1 0) 40 1 0)) K) 1 = 3 by unfold rwi pn; rw [show (jn (mstI 1 (uI (uI (uI (uI I 11 1 3) 12 1 (-1)) 13 1 0) 40 1 0)) K) 11 1 = 3 from ep21]; rfl]
  show am_Go _ _ _ _ 24 _ [.int 1272] _ _
  refine go_s (pc' := 25) (lo' := [some (.ref 62), some (.int 1), some (.int 1272)]) rfl rfl rfl rfl ?_
  refine go_s (pc' := 26) rfl rfl rfl rfl ?_
  refine go_ifP (t' := 56) (pc' := 27) rfl rfl rfl (fun _ => ?_) (fun (c : ¬ (¬ (1 : Int32) = 0)) => absurd (by decide) c)
  refine go_s (pc' := 57) rfl rfl rfl rfl ?_
  refine go_sget (pc' := 58) (v := .ref 77) hS18 rfl rfl rfl (by decide) rfl rfl ?_
  refine go_s (pc' := 59) rfl rfl rfl rfl ?_
  refine go_s (pc' := 60) (st' := [.int 1, .int 1272, .ref 77]) rfl rfl rfl rfl ?_
  refine go_s (pc' := 61) (st' := [.int 1273, .ref 77]) rfl rfl rfl rfl ?_
  refine go_sald (pc' := 62) (q := 1273) (v := .int ((Z 3).1 1)) hS18 rfl (tr_as hr (by omega)) rfl rfl (by decide) (congrArg Value.int (RR_t hU20.2.1 (i := 3) (by decide) (by decide) 1 (by decide))) rfl ?_
  refine go_s (pc' := 63) (st' := [.int 1, .int ((Z 3).1 1)]) rfl rfl rfl rfl ?_
  refine go_icmpP (t' := 73) (pc' := 64) rfl rfl rfl (fun (c26 : ¬ ((Z 3).1 1) = 1) => ?_) (fun (c26' : ¬ ¬ ((Z 3).1 1) = 1) => ?_)
  · skip
    refine go_s (pc' := 74) rfl rfl rfl rfl ?_
    refine go_sget (pc' := 75) (v := .ref 77) hS18 rfl rfl rfl (by decide) rfl rfl ?_
    refine go_s (pc' := 76) rfl rfl rfl rfl ?_
    refine go_s (pc' := 77) (st' := [.int 6, .int 1272, .ref 77]) rfl rfl rfl rfl ?_
    refine go_s (pc' := 78) (st' := [.int 1278, .ref 77]) rfl rfl rfl rfl ?_
    refine go_sald (pc' := 79) (q := 1278) (v := .int ((Z 3).1 6)) hS18 rfl (tr_as hr (by omega)) rfl rfl (by decide) (congrArg Value.int (RR_t hU20.2.1 (i := 3) (by decide) (by decide) 6 (by decide))) rfl ?_
    refine go_s (pc' := 80) (st' := [.int 1, .int ((Z 3).1 6)]) rfl rfl rfl rfl ?_
    refine go_icmpP (t' := 84) (pc' := 81) rfl rfl rfl (fun (c27 : ¬ ((Z 3).1 6) = 1) => ?_) (fun (c27' : ¬ ¬ ((Z 3).1 6) = 1) => ?_)
    · skip
      refine go_ret rfl rfl ?_
      have hU28 : RU w B R [] true h24 am ln K ((mstI 1 (uI (uI (uI (uI I 11 1 3) 12 1 (-1)) 13 1 0) 40 1 0)), Q, Z) := RU_I (sm_e_refl (tbr am (13 * ln) 77 5088) _) (I' := (mstI 1 (uI (uI (uI (uI I 11 1 3) 12 1 (-1)) 13 1 0) 40 1 0))) (fun _ => rfl) (fun _ => rfl) (Nat.le_refl _) hU20
      have hA29 : RA w B R [] true h24 ((mstI 1 (uI (uI (uI (uI I 11 1 3) 12 1 (-1)) 13 1 0) 40 1 0)), Q, Z) := RA_u.mpr ⟨_, _, _, _, hS18, hU28⟩
      have hms : rto 1 (I, Q, Z) = ((mstI 1 (uI (uI (uI (uI I 11 1 3) 12 1 (-1)) 13 1 0) 40 1 0)), Q, Z) := by
        unfold rto
        rw [if_neg (by decide), show rto0 1 (I, Q, Z) = ((mstI 1 (uI (uI (uI (uI I 11 1 3) 12 1 (-1)) 13 1 0) 40 1 0), Q, Z) : mM) by
          unfold rto0
          rw [show ((I, Q, Z) : mM).1 12 1 = 3 from e12]]
        unfold rto2
        rw [show row1 ((mstI 1 (uI (uI (uI (uI I 11 1 3) 12 1 (-1)) 13 1 0) 40 1 0), Q, Z) : mM) (1 + (1 - 1)) = (Z 3).1 from row1_l (v := 3) (show mstI 1 _ 11 1 = 3 by rw [mst_11]; rfl) (by decide), if_neg c26, if_neg c27]
      rw [hms]
      exact ⟨rfl, RA_R (by omega) hA29⟩
    · skip
      have c27 : ((Z 3).1 6) = 1 := Decidable.not_not.mp c27'
      refine go_s (pc' := 82) rfl rfl rfl rfl ?_
      refine go_s (pc' := 83) rfl rfl rfl rfl ?_
      have hU30 : RU w B R [] true h24 am ln K ((mstI 1 (uI (uI (uI (uI I 11 1 3) 12 1 (-1)) 13 1 0) 40 1 0)), Q, Z) := RU_I (sm_e_refl (tbr am (13 * ln) 77 5088) _) (I' := (mstI 1 (uI (uI (uI (uI I 11 1 3) 12 1 (-1)) 13 1 0) 40 1 0))) (fun _ => rfl) (fun _ => rfl) (Nat.le_refl _) hU20
      have hA31 : RA w B R [] true h24 ((mstI 1 (uI (uI (uI (uI I 11 1 3) 12 1 (-1)) 13 1 0) 40 1 0)), Q, Z) := RA_u.mpr ⟨_, _, _, _, hS18, hU30⟩
      refine go_callV (pc' := 84) rfl rfl rfl (Nat.le_of_ble_eq_true rfl) rfl (sm_o hS18 rfl) rfl rfl rfl (ra_sh_1 hA31 (by omega) (Or.inr (Or.inr ep21)) (fun z => absurd (ep21.symm.trans z) (by decide)) (by omega)) (fun r h32 q33 => ?_)
      obtain ⟨rfl, hA34⟩ := q33
      refine go_ret rfl rfl ?_
      have hms : rto 1 (I, Q, Z) = rshw 0 ((mstI 1 (uI (uI (uI (uI I 11 1 3) 12 1 (-1)) 13 1 0) 40 1 0)), Q, Z) := by
        unfold rto
        rw [if_neg (by decide), show rto0 1 (I, Q, Z) = ((mstI 1 (uI (uI (uI (uI I 11 1 3) 12 1 (-1)) 13 1 0) 40 1 0), Q, Z) : mM) by
          unfold rto0
          rw [show ((I, Q, Z) : mM).1 12 1 = 3 from e12]]
        unfold rto2
        rw [show row1 ((mstI 1 (uI (uI (uI (uI I 11 1 3) 12 1 (-1)) 13 1 0) 40 1 0), Q, Z) : mM) (1 + (1 - 1)) = (Z 3).1 from row1_l (v := 3) (show mstI 1 _ 11 1 = 3 by rw [mst_11]; rfl) (by decide), if_neg c26, if_pos c27]
      rw [hms]
      exact ⟨rfl, RA_R (by omega) hA34⟩
  · skip
    have c26 : ((Z 3).1 1) = 1 := Decidable.not_not.mp c26'
    refine go_s (pc' := 65) rfl rfl rfl rfl ?_
    refine go_sget (pc' := 66) (v := .ref 83) hS18 rfl rfl rfl (by decide) rfl rfl ?_
    refine go_s (pc' := 67) rfl rfl rfl rfl ?_
    refine go_s (pc' := 68) (st' := [.int 2, .int 1, .ref 83]) rfl rfl rfl rfl ?_
    refine go_siast (pc' := 69) (q := 1) hS18 rfl (tr_s hr (a := 83) rfl (by decide)) tbr_inj (Nat.le_of_ble_eq_true rfl) rfl (by decide) (by decide) (hW _ (by decide) (by decide)) rfl (fun h35 hS36 hE37 => ?_)
    refine go_s (pc' := 70) rfl rfl rfl rfl ?_
    refine go_s (pc' := 71) rfl rfl rfl rfl ?_
    change sm (tbr am (13 * ln) 77 5088) _ (uI (jn (mstI 1 (uI (uI (uI (uI I 11 1 3) 12 1 (-1)) 13 1 0) 40 1 0)) K) 16 1 2) Y at hS36
    rw [jn_lo (c := 16) (by decide)] at hS36
    have hU38 : RU w B R [] true h35 am ln K ((uI (mstI 1 (uI (uI (uI (uI I 11 1 3) 12 1 (-1)) 13 1 0) 40 1 0)) 16 1 2), Q, Z) := RU_I (hE37) (I' := (uI (mstI 1 (uI (uI (uI (uI I 11 1 3) 12 1 (-1)) 13 1 0) 40 1 0)) 16 1 2)) (fun _ => rfl) (fun _ => rfl) (Nat.le_refl _) hU20
    have hA39 : RA w B R [] true h35 ((uI (mstI 1 (uI (uI (uI (uI I 11 1 3) 12 1 (-1)) 13 1 0) 40 1 0)) 16 1 2), Q, Z) := RA_u.mpr ⟨_, _, _, _, hS36, hU38⟩
    refine go_callV (pc' := 72) rfl rfl rfl (Nat.le_of_ble_eq_true rfl) rfl (sm_o hS36 rfl) rfl rfl rfl (ra_sr_1 hA39 (by omega) hp22 (Or.inr (Or.inr ep21)) (fun z => absurd (ep21.symm.trans z) (by decide)) (by omega)) (fun r h40 q41 => ?_)
    obtain ⟨rfl, hA42⟩ := q41
    refine go_s (pc' := 84) rfl rfl rfl rfl ?_
    refine go_ret rfl rfl ?_
    have hms : rto 1 (I, Q, Z) = rsr 0 ((uI (mstI 1 (uI (uI (uI (uI I 11 1 3) 12 1 (-1)) 13 1 0) 40 1 0)) 16 1 2), Q, Z) := by
      unfold rto
      rw [if_neg (by decide), show rto0 1 (I, Q, Z) = ((mstI 1 (uI (uI (uI (uI I 11 1 3) 12 1 (-1)) 13 1 0) 40 1 0), Q, Z) : mM) by
        unfold rto0
        rw [show ((I, Q, Z) : mM).1 12 1 = 3 from e12]]
      unfold rto2
      rw [show row1 ((mstI 1 (uI (uI (uI (uI I 11 1 3) 12 1 (-1)) 13 1 0) 40 1 0), Q, Z) : mM) (1 + (1 - 1)) = (Z 3).1 from row1_l (v := 3) (show mstI 1 _ 11 1 = 3 by rw [mst_11]; rfl) (by decide), if_pos c26]
    rw [hms]
    exact ⟨rfl, RA_R (by omega) hA42⟩
theorem ra_to_1_3 {w : Nat → Bool} {d B R : Nat} {h : am_Hp} {I : sm_I} {Q : mQ} {Z : mZ} (hA : RA w B R [] true h (I, Q, Z)) (hR : R + 8 < 40000) {X : Nat} (hM : MID X (I, Q, Z)) (hX : X + 60 < 2 ^ 28) (h0 : I 0 3 = 0) (e11 : I 11 1 = 3) (e12 : I 12 1 = 2) (hu : ¬ I 0 (ohn I 1) = 0) (hd : 10 ≤ d) : am_Ev (am_prog w) d 164 [.ref 62, .int 1] h (fun r h' => r = none ∧ RA w B (R + 1) [] true h' (rto 1 (I, Q, Z))) := by
  obtain ⟨K, Y, am, ln, hS, hU⟩ := RA_u.mp hA
  change sm (tbr am (13 * ln) 77 5088) h (jn I K) Y at hS
  obtain ⟨hW, hWm, -, -, hr, -⟩ := id hU.1
  have hln := RU_ln hU (by omega)
  obtain ⟨d, rfl⟩ : ∃ e, d = e + 1 := ⟨d - 1, by omega⟩
  refine ev_go rfl (Nat.le_of_ble_eq_true rfl) rfl ?_
  have hp0 : prk I 0 := (hM.2.2.1 0 (by decide)).1
  have hp1 : prk I 1 := (hM.2.2.1 1 (by decide)).1
  have hp2 : prk I 2 := (hM.2.2.1 2 (by decide)).1
  refine go_s (pc' := 1) rfl rfl rfl rfl ?_
  refine go_sget (pc' := 2) (v := .ref 78) hS rfl rfl rfl (by decide) rfl rfl ?_
  refine go_s (pc' := 3) rfl rfl rfl rfl ?_
  refine go_s (pc' := 4) rfl rfl rfl rfl ?_
  refine go_sget (pc' := 5) (v := .ref 79) hS rfl rfl rfl (by decide) rfl rfl ?_
  refine go_s (pc' := 6) rfl rfl rfl rfl ?_
  refine go_sald (pc' := 7) (q := 1) (v := .int 2) hS rfl (tr_s hr (a := 79) rfl (by decide)) rfl rfl (by decide) (congrArg Value.int e12) rfl ?_
  refine go_siast (pc' := 8) (q := 1) hS rfl (tr_s hr (a := 78) rfl (by decide)) tbr_inj (Nat.le_of_ble_eq_true rfl) rfl (by decide) (by decide) (hW _ (by decide) (by decide)) rfl (fun h1 hS2 hE3 => ?_)
  refine go_s (pc' := 9) rfl rfl rfl rfl ?_
  refine go_sget (pc' := 10) (v := .ref 79) hS2 rfl rfl rfl (by decide) rfl rfl ?_
  refine go_s (pc' := 11) rfl rfl rfl rfl ?_
  refine go_s (pc' := 12) (st' := [.int (-1), .int 1, .ref 79]) rfl rfl rfl rfl ?_
  refine go_siast (pc' := 13) (q := 1) hS2 rfl (tr_s hr (a := 79) rfl (by decide)) tbr_inj (Nat.le_of_ble_eq_true rfl) rfl (by decide) (by decide) (hW _ (by decide) (by decide)) rfl (fun h4 hS5 hE6 => ?_)
  have hE7 := sm_e_trans hE3 hE6
  refine go_s (pc' := 14) rfl rfl rfl rfl ?_
  refine go_sget (pc' := 15) (v := .ref 80) hS5 rfl rfl rfl (by decide) rfl rfl ?_
  refine go_s (pc' := 16) rfl rfl rfl rfl ?_
  refine go_s (pc' := 17) (st' := [.int 0, .int 1, .ref 80]) rfl rfl rfl rfl ?_
  refine go_szast (pc' := 18) (q := 1) hS5 rfl (tr_s hr (a := 80) rfl (by decide)) tbr_inj (Nat.le_of_ble_eq_true rfl) rfl (by decide) (by decide) rfl (hW _ (by decide) (by decide)) rfl (fun h8 hS9 hE10 => ?_)
  have hE11 := sm_e_trans hE7 hE10
  change sm (tbr am (13 * ln) 77 5088) _ (uI (uI (uI (jn I K) 11 1 2) 12 1 (-1)) 13 1 0) Y at hS9
  rw [jn_lo (c := 11) (by decide), jn_lo (c := 12) (by decide), jn_lo (c := 13) (by decide)] at hS9
  have hU12 : RU w B R [] true h8 am ln K ((uI (uI (uI I 11 1 2) 12 1 (-1)) 13 1 0), Q, Z) := RU_I (hE11) (I' := (uI (uI (uI I 11 1 2) 12 1 (-1)) 13 1 0)) (fun _ => rfl) (fun _ => rfl) (Nat.le_refl _) hU
  have hS13 : sm (tbr am (13 * ln) 77 5088) _ (jn (uI (uI (uI (uI I 11 1 2) 12 1 (-1)) 13 1 0) 40 1 0) K) Y := sm_jg hr hS9 (fun c j _ n1 n2 n3 => uI_c n3)
  have hU14 : RU w B R [] true h8 am ln K ((uI (uI (uI (uI I 11 1 2) 12 1 (-1)) 13 1 0) 40 1 0), Q, Z) := RU_I (sm_e_refl (tbr am (13 * ln) 77 5088) _) (fun _ => rfl) (fun _ => rfl) (Nat.le_refl _) hU12
  refine go_s (pc' := 19) rfl rfl rfl rfl ?_
  refine go_s (pc' := 20) rfl rfl rfl rfl ?_
  have hU15 : RU w B R [] true h8 am ln K ((uI (uI (uI (uI I 11 1 2) 12 1 (-1)) 13 1 0) 40 1 0), Q, Z) := RU_I (sm_e_refl (tbr am (13 * ln) 77 5088) _) (I' := (uI (uI (uI (uI I 11 1 2) 12 1 (-1)) 13 1 0) 40 1 0)) (fun _ => rfl) (fun _ => rfl) (Nat.le_refl _) hU14
  refine go_callV (pc' := 21) rfl rfl rfl (Nat.le_of_ble_eq_true rfl) rfl (sm_o hS13 rfl) rfl rfl rfl (rt_stops_1 hr hS13 hW (by omega)) (fun r h16 q17 => ?_)
  obtain ⟨rfl, hS18, hE19⟩ := q17
  change sm (tbr am (13 * ln) 77 5088) _ (mstI 1 (jn (uI (uI (uI (uI I 11 1 2) 12 1 (-1)) 13 1 0) 40 1 0) K)) Y at hS18
  rw [mst_jn] at hS18
  have hU20 : RU w B R [] true h16 am ln K ((mstI 1 (uI (uI (uI (uI I 11 1 2) 12 1 (-1)) 13 1 0) 40 1 0)), Q, Z) := RU_I hE19 mst_24 mst_25 mst_stn hU15
  have ep21 : (mstI 1 (uI (uI (uI (uI I 11 1 2) 12 1 (-1)) 13 1 0) 40 1 0)) 11 1 = 2 := (congrFun mst_11 1).trans (show (uI (uI (uI (uI I 11 1 2) 12 1 (-1)) 13 1 0) 40 1 0) 11 1 = 2 from rfl)
  have hp22 : prk (mstI 1 (uI (uI (uI (uI I 11 1 2) 12 1 (-1)) 13 1 0) 40 1 0)) 0 := (prk_p (congrFun (mst_11 (k := 1) (I := (uI (uI (uI (uI I 11 1 2) 12 1 (-1)) 13 1 0) 40 1 0))) 0)).mpr hp0
  have hp23 : prk (mstI 1 (uI (uI (uI (uI I 11 1 2) 12 1 (-1)) 13 1 0) 40 1 0)) 2 := (prk_p (congrFun (mst_11 (k := 1) (I := (uI (uI (uI (uI I 11 1 2) 12 1 (-1)) 13 1 0) 40 1 0))) 2)).mpr hp2
  refine go_s (pc' := 22) rfl rfl rfl rfl ?_
  refine go_s (pc' := 23) rfl rfl rfl rfl ?_
  refine go_callV (pc' := 24) rfl rfl rfl (Nat.le_of_ble_eq_true rfl) rfl (sm_o hS18 rfl) rfl rfl rfl (rt_at_1 hr hS18 (Or.inr (Or.inl ep21)) (fun z => absurd (ep21.symm.trans z) (by decide)) (by omega)) (fun r h24 q25 => ?_)
  obtain ⟨rfl, rfl⟩ := q25
  rw [show rwi (jn (mstI 1 (uI (uI (uI (uI I 11 1 2) 12 1 (-1)) 13 1 0) 40 1 0)) K) 1 = 2 by unfold rwi pn; rw [show (jn (mstI 1 (uI (uI (uI (uI I 11 1 2) 12 1 (-1)) 13 1 0) 40 1 0)) K) 11 1 = 2 from ep21]; rfl]
  show am_Go _ _ _ _ 24 _ [.int 848] _ _
  refine go_s (pc' := 25) (lo' := [some (.ref 62), some (.int 1), some (.int 848)]) rfl rfl rfl rfl ?_
  refine go_s (pc' := 26) rfl rfl rfl rfl ?_
  refine go_ifP (t' := 56) (pc' := 27) rfl rfl rfl (fun _ => ?_) (fun (c : ¬ (¬ (1 : Int32) = 0)) => absurd (by decide) c)
  refine go_s (pc' := 57) rfl rfl rfl rfl ?_
  refine go_sget (pc' := 58) (v := .ref 77) hS18 rfl rfl rfl (by decide) rfl rfl ?_
  refine go_s (pc' := 59) rfl rfl rfl rfl ?_
  refine go_s (pc' := 60) (st' := [.int 1, .int 848, .ref 77]) rfl rfl rfl rfl ?_
  refine go_s (pc' := 61) (st' := [.int 849, .ref 77]) rfl rfl rfl rfl ?_
  refine go_sald (pc' := 62) (q := 849) (v := .int ((Z 2).1 1)) hS18 rfl (tr_as hr (by omega)) rfl rfl (by decide) (congrArg Value.int (RR_t hU20.2.1 (i := 2) (by decide) (by decide) 1 (by decide))) rfl ?_
  refine go_s (pc' := 63) (st' := [.int 1, .int ((Z 2).1 1)]) rfl rfl rfl rfl ?_
  refine go_icmpP (t' := 73) (pc' := 64) rfl rfl rfl (fun (c26 : ¬ ((Z 2).1 1) = 1) => ?_) (fun (c26' : ¬ ¬ ((Z 2).1 1) = 1) => ?_)
  · skip
    refine go_s (pc' := 74) rfl rfl rfl rfl ?_
    refine go_sget (pc' := 75) (v := .ref 77) hS18 rfl rfl rfl (by decide) rfl rfl ?_
    refine go_s (pc' := 76) rfl rfl rfl rfl ?_
    refine go_s (pc' := 77) (st' := [.int 6, .int 848, .ref 77]) rfl rfl rfl rfl ?_
    refine go_s (pc' := 78) (st' := [.int 854, .ref 77]) rfl rfl rfl rfl ?_
    refine go_sald (pc' := 79) (q := 854) (v := .int ((Z 2).1 6)) hS18 rfl (tr_as hr (by omega)) rfl rfl (by decide) (congrArg Value.int (RR_t hU20.2.1 (i := 2) (by decide) (by decide) 6 (by decide))) rfl ?_
    refine go_s (pc' := 80) (st' := [.int 1, .int ((Z 2).1 6)]) rfl rfl rfl rfl ?_
    refine go_icmpP (t' := 84) (pc' := 81) rfl rfl rfl (fun (c27 : ¬ ((Z 2).1 6) = 1) => ?_) (fun (c27' : ¬ ¬ ((Z 2).1 6) = 1) => ?_)
    · skip
      refine go_ret rfl rfl ?_
      have hU28 : RU w B R [] true h24 am ln K ((mstI 1 (uI (uI (uI (uI I 11 1 2) 12 1 (-1)) 13 1 0) 40 1 0)), Q, Z) := RU_I (sm_e_refl (tbr am (13 * ln) 77 5088) _) (I' := (mstI 1 (uI (uI (uI (uI I 11 1 2) 12 1 (-1)) 13 1 0) 40 1 0))) (fun _ => rfl) (fun _ => rfl) (Nat.le_refl _) hU20
      have hA29 : RA w B R [] true h24 ((mstI 1 (uI (uI (uI (uI I 11 1 2) 12 1 (-1)) 13 1 0) 40 1 0)), Q, Z) := RA_u.mpr ⟨_, _, _, _, hS18, hU28⟩
      have hms : rto 1 (I, Q, Z) = ((mstI 1 (uI (uI (uI (uI I 11 1 2) 12 1 (-1)) 13 1 0) 40 1 0)), Q, Z) := by
        unfold rto
        rw [if_neg (by decide), show rto0 1 (I, Q, Z) = ((mstI 1 (uI (uI (uI (uI I 11 1 2) 12 1 (-1)) 13 1 0) 40 1 0), Q, Z) : mM) by
          unfold rto0
          rw [show ((I, Q, Z) : mM).1 12 1 = 2 from e12]]
        unfold rto2
        rw [show row1 ((mstI 1 (uI (uI (uI (uI I 11 1 2) 12 1 (-1)) 13 1 0) 40 1 0), Q, Z) : mM) (1 + (1 - 1)) = (Z 2).1 from row1_l (v := 2) (show mstI 1 _ 11 1 = 2 by rw [mst_11]; rfl) (by decide), if_neg c26, if_neg c27]
      rw [hms]
      exact ⟨rfl, RA_R (by omega) hA29⟩
    · skip
      have c27 : ((Z 2).1 6) = 1 := Decidable.not_not.mp c27'
      refine go_s (pc' := 82) rfl rfl rfl rfl ?_
      refine go_s (pc' := 83) rfl rfl rfl rfl ?_
      have hU30 : RU w B R [] true h24 am ln K ((mstI 1 (uI (uI (uI (uI I 11 1 2) 12 1 (-1)) 13 1 0) 40 1 0)), Q, Z) := RU_I (sm_e_refl (tbr am (13 * ln) 77 5088) _) (I' := (mstI 1 (uI (uI (uI (uI I 11 1 2) 12 1 (-1)) 13 1 0) 40 1 0))) (fun _ => rfl) (fun _ => rfl) (Nat.le_refl _) hU20
      have hA31 : RA w B R [] true h24 ((mstI 1 (uI (uI (uI (uI I 11 1 2) 12 1 (-1)) 13 1 0) 40 1 0)), Q, Z) := RA_u.mpr ⟨_, _, _, _, hS18, hU30⟩
      refine go_callV (pc' := 84) rfl rfl rfl (Nat.le_of_ble_eq_true rfl) rfl (sm_o hS18 rfl) rfl rfl rfl (ra_sh_1 hA31 (by omega) (Or.inr (Or.inl ep21)) (fun z => absurd (ep21.symm.trans z) (by decide)) (by omega)) (fun r h32 q33 => ?_)
      obtain ⟨rfl, hA34⟩ := q33
      refine go_ret rfl rfl ?_
      have hms : rto 1 (I, Q, Z) = rshw 0 ((mstI 1 (uI (uI (uI (uI I 11 1 2) 12 1 (-1)) 13 1 0) 40 1 0)), Q, Z) := by
        unfold rto
        rw [if_neg (by decide), show rto0 1 (I, Q, Z) = ((mstI 1 (uI (uI (uI (uI I 11 1 2) 12 1 (-1)) 13 1 0) 40 1 0), Q, Z) : mM) by
          unfold rto0
          rw [show ((I, Q, Z) : mM).1 12 1 = 2 from e12]]
        unfold rto2
        rw [show row1 ((mstI 1 (uI (uI (uI (uI I 11 1 2) 12 1 (-1)) 13 1 0) 40 1 0), Q, Z) : mM) (1 + (1 - 1)) = (Z 2).1 from row1_l (v := 2) (show mstI 1 _ 11 1 = 2 by rw [mst_11]; rfl) (by decide), if_neg c26, if_pos c27]
      rw [hms]
      exact ⟨rfl, RA_R (by omega) hA34⟩
  · skip
    have c26 : ((Z 2).1 1) = 1 := Decidable.not_not.mp c26'
    refine go_s (pc' := 65) rfl rfl rfl rfl ?_
    refine go_sget (pc' := 66) (v := .ref 83) hS18 rfl rfl rfl (by decide) rfl rfl ?_
    refine go_s (pc' := 67) rfl rfl rfl rfl ?_
    refine go_s (pc' := 68) (st' := [.int 2, .int 1, .ref 83]) rfl rfl rfl rfl ?_
    refine go_siast (pc' := 69) (q := 1) hS18 rfl (tr_s hr (a := 83) rfl (by decide)) tbr_inj (Nat.le_of_ble_eq_true rfl) rfl (by decide) (by decide) (hW _ (by decide) (by decide)) rfl (fun h35 hS36 hE37 => ?_)
    refine go_s (pc' := 70) rfl rfl rfl rfl ?_
    refine go_s (pc' := 71) rfl rfl rfl rfl ?_
    change sm (tbr am (13 * ln) 77 5088) _ (uI (jn (mstI 1 (uI (uI (uI (uI I 11 1 2) 12 1 (-1)) 13 1 0) 40 1 0)) K) 16 1 2) Y at hS36
    rw [jn_lo (c := 16) (by decide)] at hS36
    have hU38 : RU w B R [] true h35 am ln K ((uI (mstI 1 (uI (uI (uI (uI I 11 1 2) 12 1 (-1)) 13 1 0) 40 1 0)) 16 1 2), Q, Z) := RU_I (hE37) (I' := (uI (mstI 1 (uI (uI (uI (uI I 11 1 2) 12 1 (-1)) 13 1 0) 40 1 0)) 16 1 2)) (fun _ => rfl) (fun _ => rfl) (Nat.le_refl _) hU20
    have hA39 : RA w B R [] true h35 ((uI (mstI 1 (uI (uI (uI (uI I 11 1 2) 12 1 (-1)) 13 1 0) 40 1 0)) 16 1 2), Q, Z) := RA_u.mpr ⟨_, _, _, _, hS36, hU38⟩
    refine go_callV (pc' := 72) rfl rfl rfl (Nat.le_of_ble_eq_true rfl) rfl (sm_o hS36 rfl) rfl rfl rfl (ra_sr_1 hA39 (by omega) hp22 (Or.inr (Or.inl ep21)) (fun z => absurd (ep21.symm.trans z) (by decide)) (by omega)) (fun r h40 q41 => ?_)
    obtain ⟨rfl, hA42⟩ := q41
    refine go_s (pc' := 84) rfl rfl rfl rfl ?_
    refine go_ret rfl rfl ?_
    have hms : rto 1 (I, Q, Z) = rsr 0 ((uI (mstI 1 (uI (uI (uI (uI I 11 1 2) 12 1 (-1)) 13 1 0) 40 1 0)) 16 1 2), Q, Z) := by
      unfold rto
      rw [if_neg (by decide), show rto0 1 (I, Q, Z) = ((mstI 1 (uI (uI (uI (uI I 11 1 2) 12 1 (-1)) 13 1 0) 40 1 0), Q, Z) : mM) by
        unfold rto0
        rw [show ((I, Q, Z) : mM).1 12 1 = 2 from e12]]
      unfold rto2
      rw [show row1 ((mstI 1 (uI (uI (uI (uI I 11 1 2) 12 1 (-1)) 13 1 0) 40 1 0), Q, Z) : mM) (1 + (1 - 1)) = (Z 2).1 from row1_l (v := 2) (show mstI 1 _ 11 1 = 2 by rw [mst_11]; rfl) (by decide), if_pos c26]
    rw [hms]
    exact ⟨rfl, RA_R (by omega) hA42⟩
theorem ra_to_2_2 {w : Nat → Bool} {d B R : Nat} {h : am_Hp} {I : sm_I} {Q : mQ} {Z : mZ} (hA : RA w B R [] true h (I, Q, Z)) (hR : R + 8 < 40000) {X : Nat} (hM : MID X (I, Q, Z)) (hX : X + 60 < 2 ^ 28) (h0 : I 0 2 = 0) (e11 : I 11 2 = 2) (e12 : I 12 2 = 3) (hu : ¬ I 0 (ohn I 2) = 0) (hd : 10 ≤ d) : am_Ev (am_prog w) d 164 [.ref 62, .int 2] h (fun r h' => r = none ∧ RA w B (R + 1) [] true h' (rto 2 (I, Q, Z))) := by
  obtain ⟨K, Y, am, ln, hS, hU⟩ := RA_u.mp hA
  change sm (tbr am (13 * ln) 77 5088) h (jn I K) Y at hS
  obtain ⟨hW, hWm, -, -, hr, -⟩ := id hU.1
  have hln := RU_ln hU (by omega)
  obtain ⟨d, rfl⟩ : ∃ e, d = e + 1 := ⟨d - 1, by omega⟩
  refine ev_go rfl (Nat.le_of_ble_eq_true rfl) rfl ?_
  have hp0 : prk I 0 := (hM.2.2.1 0 (by decide)).1
  have hp1 : prk I 1 := (hM.2.2.1 1 (by decide)).1
  have hp2 : prk I 2 := (hM.2.2.1 2 (by decide)).1
  refine go_s (pc' := 1) rfl rfl rfl rfl ?_
  refine go_sget (pc' := 2) (v := .ref 78) hS rfl rfl rfl (by decide) rfl rfl ?_
  refine go_s (pc' := 3) rfl rfl rfl rfl ?_
  refine go_s (pc' := 4) rfl rfl rfl rfl ?_
  refine go_sget (pc' := 5) (v := .ref 79) hS rfl rfl rfl (by decide) rfl rfl ?_
  refine go_s (pc' := 6) rfl rfl rfl rfl ?_
  refine go_sald (pc' := 7) (q := 2) (v := .int 3) hS rfl (tr_s hr (a := 79) rfl (by decide)) rfl rfl (by decide) (congrArg Value.int e12) rfl ?_
  refine go_siast (pc' := 8) (q := 2) hS rfl (tr_s hr (a := 78) rfl (by decide)) tbr_inj (Nat.le_of_ble_eq_true rfl) rfl (by decide) (by decide) (hW _ (by decide) (by decide)) rfl (fun h1 hS2 hE3 => ?_)
  refine go_s (pc' := 9) rfl rfl rfl rfl ?_
  refine go_sget (pc' := 10) (v := .ref 79) hS2 rfl rfl rfl (by decide) rfl rfl ?_
  refine go_s (pc' := 11) rfl rfl rfl rfl ?_
  refine go_s (pc' := 12) (st' := [.int (-1), .int 2, .ref 79]) rfl rfl rfl rfl ?_
  refine go_siast (pc' := 13) (q := 2) hS2 rfl (tr_s hr (a := 79) rfl (by decide)) tbr_inj (Nat.le_of_ble_eq_true rfl) rfl (by decide) (by decide) (hW _ (by decide) (by decide)) rfl (fun h4 hS5 hE6 => ?_)
  have hE7 := sm_e_trans hE3 hE6
  refine go_s (pc' := 14) rfl rfl rfl rfl ?_
  refine go_sget (pc' := 15) (v := .ref 80) hS5 rfl rfl rfl (by decide) rfl rfl ?_
  refine go_s (pc' := 16) rfl rfl rfl rfl ?_
  refine go_s (pc' := 17) (st' := [.int 0, .int 2, .ref 80]) rfl rfl rfl rfl ?_
  refine go_szast (pc' := 18) (q := 2) hS5 rfl (tr_s hr (a := 80) rfl (by decide)) tbr_inj (Nat.le_of_ble_eq_true rfl) rfl (by decide) (by decide) rfl (hW _ (by decide) (by decide)) rfl (fun h8 hS9 hE10 => ?_)
  have hE11 := sm_e_trans hE7 hE10
  change sm (tbr am (13 * ln) 77 5088) _ (uI (uI (uI (jn I K) 11 2 3) 12 2 (-1)) 13 2 0) Y at hS9
  rw [jn_lo (c := 11) (by decide), jn_lo (c := 12) (by decide), jn_lo (c := 13) (by decide)] at hS9
  have hU12 : RU w B R [] true h8 am ln K ((uI (uI (uI I 11 2 3) 12 2 (-1)) 13 2 0), Q, Z) := RU_I (hE11) (I' := (uI (uI (uI I 11 2 3) 12 2 (-1)) 13 2 0)) (fun _ => rfl) (fun _ => rfl) (Nat.le_refl _) hU
  have hS13 : sm (tbr am (13 * ln) 77 5088) _ (jn (uI (uI (uI (uI I 11 2 3) 12 2 (-1)) 13 2 0) 40 2 0) K) Y := sm_jg hr hS9 (fun c j _ n1 n2 n3 => uI_c n3)
  have hU14 : RU w B R [] true h8 am ln K ((uI (uI (uI (uI I 11 2 3) 12 2 (-1)) 13 2 0) 40 2 0), Q, Z) := RU_I (sm_e_refl (tbr am (13 * ln) 77 5088) _) (fun _ => rfl) (fun _ => rfl) (Nat.le_refl _) hU12
  refine go_s (pc' := 19) rfl rfl rfl rfl ?_
  refine go_s (pc' := 20) rfl rfl rfl rfl ?_
  have hU15 : RU w B R [] true h8 am ln K ((uI (uI (uI (uI I 11 2 3) 12 2 (-1)) 13 2 0) 40 2 0), Q, Z) := RU_I (sm_e_refl (tbr am (13 * ln) 77 5088) _) (I' := (uI (uI (uI (uI I 11 2 3) 12 2 (-1)) 13 2 0) 40 2 0)) (fun _ => rfl) (fun _ => rfl) (Nat.le_refl _) hU14
  refine go_callV (pc' := 21) rfl rfl rfl (Nat.le_of_ble_eq_true rfl) rfl (sm_o hS13 rfl) rfl rfl rfl (rt_stops_2 hr hS13 hW (by omega)) (fun r h16 q17 => ?_)
  obtain ⟨rfl, hS18, hE19⟩ := q17
  change sm (tbr am (13 * ln) 77 5088) _ (mstI 2 (jn (uI (uI (uI (uI I 11 2 3) 12 2 (-1)) 13 2 0) 40 2 0) K)) Y at hS18
  rw [mst_jn] at hS18
  have hU20 : RU w B R [] true h16 am ln K ((mstI 2 (uI (uI (uI (uI I 11 2 3) 12 2 (-1)) 13 2 0) 40 2 0)), Q, Z) := RU_I hE19 mst_24 mst_25 mst_stn hU15
  have ep21 : (mstI 2 (uI (uI (uI (uI I 11 2 3) 12 2 (-1)) 13 2 0) 40 2 0)) 11 2 = 3 := (congrFun mst_11 2).trans (show (uI (uI (uI (uI I 11 2 3) 12 2 (-1)) 13 2 0) 40 2 0) 11 2 = 3 from rfl)
  have hp22 : prk (mstI 2 (uI (uI (uI (uI I 11 2 3) 12 2 (-1)) 13 2 0) 40 2 0)) 0 := (prk_p (congrFun (mst_11 (k := 2) (I := (uI (uI (uI (uI I 11 2 3) 12 2 (-1)) 13 2 0) 40 2 0))) 0)).mpr hp0
  have hp23 : prk (mstI 2 (uI (uI (uI (uI I 11 2 3) 12 2 (-1)) 13 2 0) 40 2 0)) 1 := (prk_p (congrFun (mst_11 (k := 2) (I := (uI (uI (uI (uI I 11 2 3) 12 2 (-1)) 13 2 0) 40 2 0))) 1)).mpr hp1
  refine go_s (pc' := 22) rfl rfl rfl rfl ?_
  refine go_s (pc' := 23) rfl rfl rfl rfl ?_
  refine go_callV (pc' := 24) rfl rfl rfl (Nat.le_of_ble_eq_true rfl) rfl (sm_o hS18 rfl) rfl rfl rfl (rt_at_2 hr hS18 (Or.inr (Or.inr ep21)) (fun z => absurd (ep21.symm.trans z) (by decide)) (by omega)) (fun r h24 q25 => ?_)
  obtain ⟨rfl, rfl⟩ := q25
  rw [show rwi (jn (mstI 2 (uI (uI (uI (uI I 11 2 3) 12 2 (-1)) 13 2 0) 40 2 0)) K) 2 = 5 by unfold rwi pn; rw [show (jn (mstI 2 (uI (uI (uI (uI I 11 2 3) 12 2 (-1)) 13 2 0) 40 2 0)) K) 11 2 = 3 from ep21]; rfl]
  show am_Go _ _ _ _ 24 _ [.int 2120] _ _
  refine go_s (pc' := 25) (lo' := [some (.ref 62), some (.int 2), some (.int 2120)]) rfl rfl rfl rfl ?_
  refine go_s (pc' := 26) rfl rfl rfl rfl ?_
  refine go_ifP (t' := 56) (pc' := 27) rfl rfl rfl (fun _ => ?_) (fun (c : ¬ (¬ (2 : Int32) = 0)) => absurd (by decide) c)
  refine go_s (pc' := 57) rfl rfl rfl rfl ?_
  refine go_sget (pc' := 58) (v := .ref 77) hS18 rfl rfl rfl (by decide) rfl rfl ?_
  refine go_s (pc' := 59) rfl rfl rfl rfl ?_
  refine go_s (pc' := 60) (st' := [.int 1, .int 2120, .ref 77]) rfl rfl rfl rfl ?_
  refine go_s (pc' := 61) (st' := [.int 2121, .ref 77]) rfl rfl rfl rfl ?_
  refine go_sald (pc' := 62) (q := 2121) (v := .int ((Z 5).1 1)) hS18 rfl (tr_as hr (by omega)) rfl rfl (by decide) (congrArg Value.int (RR_t hU20.2.1 (i := 5) (by decide) (by decide) 1 (by decide))) rfl ?_
  refine go_s (pc' := 63) (st' := [.int 1, .int ((Z 5).1 1)]) rfl rfl rfl rfl ?_
  refine go_icmpP (t' := 73) (pc' := 64) rfl rfl rfl (fun (c26 : ¬ ((Z 5).1 1) = 1) => ?_) (fun (c26' : ¬ ¬ ((Z 5).1 1) = 1) => ?_)
  · skip
    refine go_s (pc' := 74) rfl rfl rfl rfl ?_
    refine go_sget (pc' := 75) (v := .ref 77) hS18 rfl rfl rfl (by decide) rfl rfl ?_
    refine go_s (pc' := 76) rfl rfl rfl rfl ?_
    refine go_s (pc' := 77) (st' := [.int 6, .int 2120, .ref 77]) rfl rfl rfl rfl ?_
    refine go_s (pc' := 78) (st' := [.int 2126, .ref 77]) rfl rfl rfl rfl ?_
    refine go_sald (pc' := 79) (q := 2126) (v := .int ((Z 5).1 6)) hS18 rfl (tr_as hr (by omega)) rfl rfl (by decide) (congrArg Value.int (RR_t hU20.2.1 (i := 5) (by decide) (by decide) 6 (by decide))) rfl ?_
    refine go_s (pc' := 80) (st' := [.int 1, .int ((Z 5).1 6)]) rfl rfl rfl rfl ?_
    refine go_icmpP (t' := 84) (pc' := 81) rfl rfl rfl (fun (c27 : ¬ ((Z 5).1 6) = 1) => ?_) (fun (c27' : ¬ ¬ ((Z 5).1 6) = 1) => ?_)
    · skip
      refine go_ret rfl rfl ?_
      have hU28 : RU w B R [] true h24 am ln K ((mstI 2 (uI (uI (uI (uI I 11 2 3) 12 2 (-1)) 13 2 0) 40 2 0)), Q, Z) := RU_I (sm_e_refl (tbr am (13 * ln) 77 5088) _) (I' := (mstI 2 (uI (uI (uI (uI I 11 2 3) 12 2 (-1)) 13 2 0) 40 2 0))) (fun _ => rfl) (fun _ => rfl) (Nat.le_refl _) hU20
      have hA29 : RA w B R [] true h24 ((mstI 2 (uI (uI (uI (uI I 11 2 3) 12 2 (-1)) 13 2 0) 40 2 0)), Q, Z) := RA_u.mpr ⟨_, _, _, _, hS18, hU28⟩
      have hms : rto 2 (I, Q, Z) = ((mstI 2 (uI (uI (uI (uI I 11 2 3) 12 2 (-1)) 13 2 0) 40 2 0)), Q, Z) := by
        unfold rto
        rw [if_neg (by decide), show rto0 2 (I, Q, Z) = ((mstI 2 (uI (uI (uI (uI I 11 2 3) 12 2 (-1)) 13 2 0) 40 2 0), Q, Z) : mM) by
          unfold rto0
          rw [show ((I, Q, Z) : mM).1 12 2 = 3 from e12]]
        unfold rto2
        rw [show row1 ((mstI 2 (uI (uI (uI (uI I 11 2 3) 12 2 (-1)) 13 2 0) 40 2 0), Q, Z) : mM) (1 + (2 - 1)) = (Z 5).1 from row1_l (v := 3) (show mstI 2 _ 11 2 = 3 by rw [mst_11]; rfl) (by decide), if_neg c26, if_neg c27]
      rw [hms]
      exact ⟨rfl, RA_R (by omega) hA29⟩
    · skip
      have c27 : ((Z 5).1 6) = 1 := Decidable.not_not.mp c27'
      refine go_s (pc' := 82) rfl rfl rfl rfl ?_
      refine go_s (pc' := 83) rfl rfl rfl rfl ?_
      have hU30 : RU w B R [] true h24 am ln K ((mstI 2 (uI (uI (uI (uI I 11 2 3) 12 2 (-1)) 13 2 0) 40 2 0)), Q, Z) := RU_I (sm_e_refl (tbr am (13 * ln) 77 5088) _) (I' := (mstI 2 (uI (uI (uI (uI I 11 2 3) 12 2 (-1)) 13 2 0) 40 2 0))) (fun _ => rfl) (fun _ => rfl) (Nat.le_refl _) hU20
      have hA31 : RA w B R [] true h24 ((mstI 2 (uI (uI (uI (uI I 11 2 3) 12 2 (-1)) 13 2 0) 40 2 0)), Q, Z) := RA_u.mpr ⟨_, _, _, _, hS18, hU30⟩
      refine go_callV (pc' := 84) rfl rfl rfl (Nat.le_of_ble_eq_true rfl) rfl (sm_o hS18 rfl) rfl rfl rfl (ra_sh_2 hA31 (by omega) (Or.inr (Or.inr ep21)) (fun z => absurd (ep21.symm.trans z) (by decide)) (by omega)) (fun r h32 q33 => ?_)
      obtain ⟨rfl, hA34⟩ := q33
      refine go_ret rfl rfl ?_
      have hms : rto 2 (I, Q, Z) = rshw 1 ((mstI 2 (uI (uI (uI (uI I 11 2 3) 12 2 (-1)) 13 2 0) 40 2 0)), Q, Z) := by
        unfold rto
        rw [if_neg (by decide), show rto0 2 (I, Q, Z) = ((mstI 2 (uI (uI (uI (uI I 11 2 3) 12 2 (-1)) 13 2 0) 40 2 0), Q, Z) : mM) by
          unfold rto0
          rw [show ((I, Q, Z) : mM).1 12 2 = 3 from e12]]
        unfold rto2
        rw [show row1 ((mstI 2 (uI (uI (uI (uI I 11 2 3) 12 2 (-1)) 13 2 0) 40 2 0), Q, Z) : mM) (1 + (2 - 1)) = (Z 5).1 from row1_l (v := 3) (show mstI 2 _ 11 2 = 3 by rw [mst_11]; rfl) (by decide), if_neg c26, if_pos c27]
      rw [hms]
      exact ⟨rfl, RA_R (by omega) hA34⟩
  · skip
    have c26 : ((Z 5).1 1) = 1 := Decidable.not_not.mp c26'
    refine go_s (pc' := 65) rfl rfl rfl rfl ?_
    refine go_sget (pc' := 66) (v := .ref 83) hS18 rfl rfl rfl (by decide) rfl rfl ?_
    refine go_s (pc' := 67) rfl rfl rfl rfl ?_
    refine go_s (pc' := 68) (st' := [.int 2, .int 2, .ref 83]) rfl rfl rfl rfl ?_
    refine go_siast (pc' := 69) (q := 2) hS18 rfl (tr_s hr (a := 83) rfl (by decide)) tbr_inj (Nat.le_of_ble_eq_true rfl) rfl (by decide) (by decide) (hW _ (by decide) (by decide)) rfl (fun h35 hS36 hE37 => ?_)
    refine go_s (pc' := 70) rfl rfl rfl rfl ?_
    refine go_s (pc' := 71) rfl rfl rfl rfl ?_
    change sm (tbr am (13 * ln) 77 5088) _ (uI (jn (mstI 2 (uI (uI (uI (uI I 11 2 3) 12 2 (-1)) 13 2 0) 40 2 0)) K) 16 2 2) Y at hS36
    rw [jn_lo (c := 16) (by decide)] at hS36
    have hU38 : RU w B R [] true h35 am ln K ((uI (mstI 2 (uI (uI (uI (uI I 11 2 3) 12 2 (-1)) 13 2 0) 40 2 0)) 16 2 2), Q, Z) := RU_I (hE37) (I' := (uI (mstI 2 (uI (uI (uI (uI I 11 2 3) 12 2 (-1)) 13 2 0) 40 2 0)) 16 2 2)) (fun _ => rfl) (fun _ => rfl) (Nat.le_refl _) hU20
    have hA39 : RA w B R [] true h35 ((uI (mstI 2 (uI (uI (uI (uI I 11 2 3) 12 2 (-1)) 13 2 0) 40 2 0)) 16 2 2), Q, Z) := RA_u.mpr ⟨_, _, _, _, hS36, hU38⟩
    refine go_callV (pc' := 72) rfl rfl rfl (Nat.le_of_ble_eq_true rfl) rfl (sm_o hS36 rfl) rfl rfl rfl (ra_sr_2 hA39 (by omega) hp22 (Or.inr (Or.inr ep21)) (fun z => absurd (ep21.symm.trans z) (by decide)) (by omega)) (fun r h40 q41 => ?_)
    obtain ⟨rfl, hA42⟩ := q41
    refine go_s (pc' := 84) rfl rfl rfl rfl ?_
    refine go_ret rfl rfl ?_
    have hms : rto 2 (I, Q, Z) = rsr 1 ((uI (mstI 2 (uI (uI (uI (uI I 11 2 3) 12 2 (-1)) 13 2 0) 40 2 0)) 16 2 2), Q, Z) := by
      unfold rto
      rw [if_neg (by decide), show rto0 2 (I, Q, Z) = ((mstI 2 (uI (uI (uI (uI I 11 2 3) 12 2 (-1)) 13 2 0) 40 2 0), Q, Z) : mM) by
        unfold rto0
        rw [show ((I, Q, Z) : mM).1 12 2 = 3 from e12]]
      unfold rto2
      rw [show row1 ((mstI 2 (uI (uI (uI (uI I 11 2 3) 12 2 (-1)) 13 2 0) 40 2 0), Q, Z) : mM) (1 + (2 - 1)) = (Z 5).1 from row1_l (v := 3) (show mstI 2 _ 11 2 = 3 by rw [mst_11]; rfl) (by decide), if_pos c26]
    rw [hms]
    exact ⟨rfl, RA_R (by omega) hA42⟩
theorem ra_to_2_3 {w : Nat → Bool} {d B R : Nat} {h : am_Hp} {I : sm_I} {Q : mQ} {Z : mZ} (hA : RA w B R [] true h (I, Q, Z)) (hR : R + 8 < 40000) {X : Nat} (hM : MID X (I, Q, Z)) (hX : X + 60 < 2 ^ 28) (h0 : I 0 3 = 0) (e11 : I 11 2 = 3) (e12 : I 12 2 = 2) (hu : ¬ I 0 (ohn I 2) = 0) (hd : 10 ≤ d) : am_Ev (am_prog w) d 164 [.ref 62, .int 2] h (fun r h' => r = none ∧ RA w B (R + 1) [] true h' (rto 2 (I, Q, Z))) := by
  obtain ⟨K, Y, am, ln, hS, hU⟩ := RA_u.mp hA
  change sm (tbr am (13 * ln) 77 5088) h (jn I K) Y at hS
  obtain ⟨hW, hWm, -, -, hr, -⟩ := id hU.1
  have hln := RU_ln hU (by omega)
  obtain ⟨d, rfl⟩ : ∃ e, d = e + 1 := ⟨d - 1, by omega⟩
  refine ev_go rfl (Nat.le_of_ble_eq_true rfl) rfl ?_
  have hp0 : prk I 0 := (hM.2.2.1 0 (by decide)).1
  have hp1 : prk I 1 := (hM.2.2.1 1 (by decide)).1
  have hp2 : prk I 2 := (hM.2.2.1 2 (by decide)).1
  refine go_s (pc' := 1) rfl rfl rfl rfl ?_
  refine go_sget (pc' := 2) (v := .ref 78) hS rfl rfl rfl (by decide) rfl rfl ?_
  refine go_s (pc' := 3) rfl rfl rfl rfl ?_
  refine go_s (pc' := 4) rfl rfl rfl rfl ?_
  refine go_sget (pc' := 5) (v := .ref 79) hS rfl rfl rfl (by decide) rfl rfl ?_
  refine go_s (pc' := 6) rfl rfl rfl rfl ?_
  refine go_sald (pc' := 7) (q := 2) (v := .int 2) hS rfl (tr_s hr (a := 79) rfl (by decide)) rfl rfl (by decide) (congrArg Value.int e12) rfl ?_
  refine go_siast (pc' := 8) (q := 2) hS rfl (tr_s hr (a := 78) rfl (by decide)) tbr_inj (Nat.le_of_ble_eq_true rfl) rfl (by decide) (by decide) (hW _ (by decide) (by decide)) rfl (fun h1 hS2 hE3 => ?_)
  refine go_s (pc' := 9) rfl rfl rfl rfl ?_
  refine go_sget (pc' := 10) (v := .ref 79) hS2 rfl rfl rfl (by decide) rfl rfl ?_
  refine go_s (pc' := 11) rfl rfl rfl rfl ?_
  refine go_s (pc' := 12) (st' := [.int (-1), .int 2, .ref 79]) rfl rfl rfl rfl ?_
  refine go_siast (pc' := 13) (q := 2) hS2 rfl (tr_s hr (a := 79) rfl (by decide)) tbr_inj (Nat.le_of_ble_eq_true rfl) rfl (by decide) (by decide) (hW _ (by decide) (by decide)) rfl (fun h4 hS5 hE6 => ?_)
  have hE7 := sm_e_trans hE3 hE6
  refine go_s (pc' := 14) rfl rfl rfl rfl ?_
  refine go_sget (pc' := 15) (v := .ref 80) hS5 rfl rfl rfl (by decide) rfl rfl ?_
  refine go_s (pc' := 16) rfl rfl rfl rfl ?_
  refine go_s (pc' := 17) (st' := [.int 0, .int 2, .ref 80]) rfl rfl rfl rfl ?_
  refine go_szast (pc' := 18) (q := 2) hS5 rfl (tr_s hr (a := 80) rfl (by decide)) tbr_inj (Nat.le_of_ble_eq_true rfl) rfl (by decide) (by decide) rfl (hW _ (by decide) (by decide)) rfl (fun h8 hS9 hE10 => ?_)
  have hE11 := sm_e_trans hE7 hE10
  change sm (tbr am (13 * ln) 77 5088) _ (uI (uI (uI (jn I K) 11 2 2) 12 2 (-1)) 13 2 0) Y at hS9
  rw [jn_lo (c := 11) (by decide), jn_lo (c := 12) (by decide), jn_lo (c := 13) (by decide)] at hS9
  have hU12 : RU w B R [] true h8 am ln K ((uI (uI (uI I 11 2 2) 12 2 (-1)) 13 2 0), Q, Z) := RU_I (hE11) (I' := (uI (uI (uI I 11 2 2) 12 2 (-1)) 13 2 0)) (fun _ => rfl) (fun _ => rfl) (Nat.le_refl _) hU
  have hS13 : sm (tbr am (13 * ln) 77 5088) _ (jn (uI (uI (uI (uI I 11 2 2) 12 2 (-1)) 13 2 0) 40 2 0) K) Y := sm_jg hr hS9 (fun c j _ n1 n2 n3 => uI_c n3)
  have hU14 : RU w B R [] true h8 am ln K ((uI (uI (uI (uI I 11 2 2) 12 2 (-1)) 13 2 0) 40 2 0), Q, Z) := RU_I (sm_e_refl (tbr am (13 * ln) 77 5088) _) (fun _ => rfl) (fun _ => rfl) (Nat.le_refl _) hU12
  refine go_s (pc' := 19) rfl rfl rfl rfl ?_
  refine go_s (pc' := 20) rfl rfl rfl rfl ?_
  have hU15 : RU w B R [] true h8 am ln K ((uI (uI (uI (uI I 11 2 2) 12 2 (-1)) 13 2 0) 40 2 0), Q, Z) := RU_I (sm_e_refl (tbr am (13 * ln) 77 5088) _) (I' := (uI (uI (uI (uI I 11 2 2) 12 2 (-1)) 13 2 0) 40 2 0)) (fun _ => rfl) (fun _ => rfl) (Nat.le_refl _) hU14
  refine go_callV (pc' := 21) rfl rfl rfl (Nat.le_of_ble_eq_true rfl) rfl (sm_o hS13 rfl) rfl rfl rfl (rt_stops_2 hr hS13 hW (by omega)) (fun r h16 q17 => ?_)
  obtain ⟨rfl, hS18, hE19⟩ := q17
  change sm (tbr am (13 * ln) 77 5088) _ (mstI 2 (jn (uI (uI (uI (uI I 11 2 2) 12 2 (-1)) 13 2 0) 40 2 0) K)) Y at hS18
  rw [mst_jn] at hS18
  have hU20 : RU w B R [] true h16 am ln K ((mstI 2 (uI (uI (uI (uI I 11 2 2) 12 2 (-1)) 13 2 0) 40 2 0)), Q, Z) := RU_I hE19 mst_24 mst_25 mst_stn hU15
  have ep21 : (mstI 2 (uI (uI (uI (uI I 11 2 2) 12 2 (-1)) 13 2 0) 40 2 0)) 11 2 = 2 := (congrFun mst_11 2).trans (show (uI (uI (uI (uI I 11 2 2) 12 2 (-1)) 13 2 0) 40 2 0) 11 2 = 2 from rfl)
  have hp22 : prk (mstI 2 (uI (uI (uI (uI I 11 2 2) 12 2 (-1)) 13 2 0) 40 2 0)) 0 := (prk_p (congrFun (mst_11 (k := 2) (I := (uI (uI (uI (uI I 11 2 2) 12 2 (-1)) 13 2 0) 40 2 0))) 0)).mpr hp0
  have hp23 : prk (mstI 2 (uI (uI (uI (uI I 11 2 2) 12 2 (-1)) 13 2 0) 40 2 0)) 1 := (prk_p (congrFun (mst_11 (k := 2) (I := (uI (uI (uI (uI I 11 2 2) 12 2 (-1)) 13 2 0) 40 2 0))) 1)).mpr hp1
  refine go_s (pc' := 22) rfl rfl rfl rfl ?_
  refine go_s (pc' := 23) rfl rfl rfl rfl ?_
  refine go_callV (pc' := 24) rfl rfl rfl (Nat.le_of_ble_eq_true rfl) rfl (sm_o hS18 rfl) rfl rfl rfl (rt_at_2 hr hS18 (Or.inr (Or.inl ep21)) (fun z => absurd (ep21.symm.trans z) (by decide)) (by omega)) (fun r h24 q25 => ?_)
  obtain ⟨rfl, rfl⟩ := q25
  rw [show rwi (jn (mstI 2 (uI (uI (uI (uI I 11 2 2) 12 2 (-1)) 13 2 0) 40 2 0)) K) 2 = 4 by unfold rwi pn; rw [show (jn (mstI 2 (uI (uI (uI (uI I 11 2 2) 12 2 (-1)) 13 2 0) 40 2 0)) K) 11 2 = 2 from ep21]; rfl]
  show am_Go _ _ _ _ 24 _ [.int 1696] _ _
  refine go_s (pc' := 25) (lo' := [some (.ref 62), some (.int 2), some (.int 1696)]) rfl rfl rfl rfl ?_
  refine go_s (pc' := 26) rfl rfl rfl rfl ?_
  refine go_ifP (t' := 56) (pc' := 27) rfl rfl rfl (fun _ => ?_) (fun (c : ¬ (¬ (2 : Int32) = 0)) => absurd (by decide) c)
  refine go_s (pc' := 57) rfl rfl rfl rfl ?_
  refine go_sget (pc' := 58) (v := .ref 77) hS18 rfl rfl rfl (by decide) rfl rfl ?_
  refine go_s (pc' := 59) rfl rfl rfl rfl ?_
  refine go_s (pc' := 60) (st' := [.int 1, .int 1696, .ref 77]) rfl rfl rfl rfl ?_
  refine go_s (pc' := 61) (st' := [.int 1697, .ref 77]) rfl rfl rfl rfl ?_
  refine go_sald (pc' := 62) (q := 1697) (v := .int ((Z 4).1 1)) hS18 rfl (tr_as hr (by omega)) rfl rfl (by decide) (congrArg Value.int (RR_t hU20.2.1 (i := 4) (by decide) (by decide) 1 (by decide))) rfl ?_
  refine go_s (pc' := 63) (st' := [.int 1, .int ((Z 4).1 1)]) rfl rfl rfl rfl ?_
  refine go_icmpP (t' := 73) (pc' := 64) rfl rfl rfl (fun (c26 : ¬ ((Z 4).1 1) = 1) => ?_) (fun (c26' : ¬ ¬ ((Z 4).1 1) = 1) => ?_)
  · skip
    refine go_s (pc' := 74) rfl rfl rfl rfl ?_
    refine go_sget (pc' := 75) (v := .ref 77) hS18 rfl rfl rfl (by decide) rfl rfl ?_
    refine go_s (pc' := 76) rfl rfl rfl rfl ?_
    refine go_s (pc' := 77) (st' := [.int 6, .int 1696, .ref 77]) rfl rfl rfl rfl ?_
    refine go_s (pc' := 78) (st' := [.int 1702, .ref 77]) rfl rfl rfl rfl ?_
    refine go_sald (pc' := 79) (q := 1702) (v := .int ((Z 4).1 6)) hS18 rfl (tr_as hr (by omega)) rfl rfl (by decide) (congrArg Value.int (RR_t hU20.2.1 (i := 4) (by decide) (by decide) 6 (by decide))) rfl ?_
    refine go_s (pc' := 80) (st' := [.int 1, .int ((Z 4).1 6)]) rfl rfl rfl rfl ?_
    refine go_icmpP (t' := 84) (pc' := 81) rfl rfl rfl (fun (c27 : ¬ ((Z 4).1 6) = 1) => ?_) (fun (c27' : ¬ ¬ ((Z 4).1 6) = 1) => ?_)
    · skip
      refine go_ret rfl rfl ?_
      have hU28 : RU w B R [] true h24 am ln K ((mstI 2 (uI (uI (uI (uI I 11 2 2) 12 2 (-1)) 13 2 0) 40 2 0)), Q, Z) := RU_I (sm_e_refl (tbr am (13 * ln) 77 5088) _) (I' := (mstI 2 (uI (uI (uI (uI I 11 2 2) 12 2 (-1)) 13 2 0) 40 2 0))) (fun _ => rfl) (fun _ => rfl) (Nat.le_refl _) hU20
      have hA29 : RA w B R [] true h24 ((mstI 2 (uI (uI (uI (uI I 11 2 2) 12 2 (-1)) 13 2 0) 40 2 0)), Q, Z) := RA_u.mpr ⟨_, _, _, _, hS18, hU28⟩
      have hms : rto 2 (I, Q, Z) = ((mstI 2 (uI (uI (uI (uI I 11 2 2) 12 2 (-1)) 13 2 0) 40 2 0)), Q, Z) := by
        unfold rto
        rw [if_neg (by decide), show rto0 2 (I, Q, Z) = ((mstI 2 (uI (uI (uI (uI I 11 2 2) 12 2 (-1)) 13 2 0) 40 2 0), Q, Z) : mM) by
          unfold rto0
          rw [show ((I, Q, Z) : mM).1 12 2 = 2 from e12]]
        unfold rto2
        rw [show row1 ((mstI 2 (uI (uI (uI (uI I 11 2 2) 12 2 (-1)) 13 2 0) 40 2 0), Q, Z) : mM) (1 + (2 - 1)) = (Z 4).1 from row1_l (v := 2) (show mstI 2 _ 11 2 = 2 by rw [mst_11]; rfl) (by decide), if_neg c26, if_neg c27]
      rw [hms]
      exact ⟨rfl, RA_R (by omega) hA29⟩
    · skip
      have c27 : ((Z 4).1 6) = 1 := Decidable.not_not.mp c27'
      refine go_s (pc' := 82) rfl rfl rfl rfl ?_
      refine go_s (pc' := 83) rfl rfl rfl rfl ?_
      have hU30 : RU w B R [] true h24 am ln K ((mstI 2 (uI (uI (uI (uI I 11 2 2) 12 2 (-1)) 13 2 0) 40 2 0)), Q, Z) := RU_I (sm_e_refl (tbr am (13 * ln) 77 5088) _) (I' := (mstI 2 (uI (uI (uI (uI I 11 2 2) 12 2 (-1)) 13 2 0) 40 2 0))) (fun _ => rfl) (fun _ => rfl) (Nat.le_refl _) hU20
      have hA31 : RA w B R [] true h24 ((mstI 2 (uI (uI (uI (uI I 11 2 2) 12 2 (-1)) 13 2 0) 40 2 0)), Q, Z) := RA_u.mpr ⟨_, _, _, _, hS18, hU30⟩
      refine go_callV (pc' := 84) rfl rfl rfl (Nat.le_of_ble_eq_true rfl) rfl (sm_o hS18 rfl) rfl rfl rfl (ra_sh_2 hA31 (by omega) (Or.inr (Or.inl ep21)) (fun z => absurd (ep21.symm.trans z) (by decide)) (by omega)) (fun r h32 q33 => ?_)
      obtain ⟨rfl, hA34⟩ := q33
      refine go_ret rfl rfl ?_
      have hms : rto 2 (I, Q, Z) = rshw 1 ((mstI 2 (uI (uI (uI (uI I 11 2 2) 12 2 (-1)) 13 2 0) 40 2 0)), Q, Z) := by
        unfold rto
        rw [if_neg (by decide), show rto0 2 (I, Q, Z) = ((mstI 2 (uI (uI (uI (uI I 11 2 2) 12 2 (-1)) 13 2 0) 40 2 0), Q, Z) : mM) by
          unfold rto0
          rw [show ((I, Q, Z) : mM).1 12 2 = 2 from e12]]
        unfold rto2
        rw [show row1 ((mstI 2 (uI (uI (uI (uI I 11 2 2) 12 2 (-1)) 13 2 0) 40 2 0), Q, Z) : mM) (1 + (2 - 1)) = (Z 4).1 from row1_l (v := 2) (show mstI 2 _ 11 2 = 2 by rw [mst_11]; rfl) (by decide), if_neg c26, if_pos c27]
      rw [hms]
      exact ⟨rfl, RA_R (by omega) hA34⟩
  · skip
    have c26 : ((Z 4).1 1) = 1 := Decidable.not_not.mp c26'
    refine go_s (pc' := 65) rfl rfl rfl rfl ?_
    refine go_sget (pc' := 66) (v := .ref 83) hS18 rfl rfl rfl (by decide) rfl rfl ?_
    refine go_s (pc' := 67) rfl rfl rfl rfl ?_
    refine go_s (pc' := 68) (st' := [.int 2, .int 2, .ref 83]) rfl rfl rfl rfl ?_
    refine go_siast (pc' := 69) (q := 2) hS18 rfl (tr_s hr (a := 83) rfl (by decide)) tbr_inj (Nat.le_of_ble_eq_true rfl) rfl (by decide) (by decide) (hW _ (by decide) (by decide)) rfl (fun h35 hS36 hE37 => ?_)
    refine go_s (pc' := 70) rfl rfl rfl rfl ?_
    refine go_s (pc' := 71) rfl rfl rfl rfl ?_
    change sm (tbr am (13 * ln) 77 5088) _ (uI (jn (mstI 2 (uI (uI (uI (uI I 11 2 2) 12 2 (-1)) 13 2 0) 40 2 0)) K) 16 2 2) Y at hS36
    rw [jn_lo (c := 16) (by decide)] at hS36
    have hU38 : RU w B R [] true h35 am ln K ((uI (mstI 2 (uI (uI (uI (uI I 11 2 2) 12 2 (-1)) 13 2 0) 40 2 0)) 16 2 2), Q, Z) := RU_I (hE37) (I' := (uI (mstI 2 (uI (uI (uI (uI I 11 2 2) 12 2 (-1)) 13 2 0) 40 2 0)) 16 2 2)) (fun _ => rfl) (fun _ => rfl) (Nat.le_refl _) hU20
    have hA39 : RA w B R [] true h35 ((uI (mstI 2 (uI (uI (uI (uI I 11 2 2) 12 2 (-1)) 13 2 0) 40 2 0)) 16 2 2), Q, Z) := RA_u.mpr ⟨_, _, _, _, hS36, hU38⟩
    refine go_callV (pc' := 72) rfl rfl rfl (Nat.le_of_ble_eq_true rfl) rfl (sm_o hS36 rfl) rfl rfl rfl (ra_sr_2 hA39 (by omega) hp22 (Or.inr (Or.inl ep21)) (fun z => absurd (ep21.symm.trans z) (by decide)) (by omega)) (fun r h40 q41 => ?_)
    obtain ⟨rfl, hA42⟩ := q41
    refine go_s (pc' := 84) rfl rfl rfl rfl ?_
    refine go_ret rfl rfl ?_
    have hms : rto 2 (I, Q, Z) = rsr 1 ((uI (mstI 2 (uI (uI (uI (uI I 11 2 2) 12 2 (-1)) 13 2 0) 40 2 0)) 16 2 2), Q, Z) := by
      unfold rto
      rw [if_neg (by decide), show rto0 2 (I, Q, Z) = ((mstI 2 (uI (uI (uI (uI I 11 2 2) 12 2 (-1)) 13 2 0) 40 2 0), Q, Z) : mM) by
        unfold rto0
        rw [show ((I, Q, Z) : mM).1 12 2 = 2 from e12]]
      unfold rto2
      rw [show row1 ((mstI 2 (uI (uI (uI (uI I 11 2 2) 12 2 (-1)) 13 2 0) 40 2 0), Q, Z) : mM) (1 + (2 - 1)) = (Z 4).1 from row1_l (v := 2) (show mstI 2 _ 11 2 = 2 by rw [mst_11]; rfl) (by decide), if_pos c26]
    rw [hms]
    exact ⟨rfl, RA_R (by omega) hA42⟩
