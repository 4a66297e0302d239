theorem ohn_l {I : sm_I} {k v : Nat} (e : I 11 k = nI v) (h : (k = 0 ∧ v < 2) ∨ (¬ k = 0 ∧ 2 ≤ v ∧ v < 4)) : ohn I k = if v % 2 = 0 then v + 1 else v - 1 := by
  unfold ohn
  rcases h with ⟨rfl, hv⟩ | ⟨hk, h2, h4⟩
  · rw [if_pos rfl, e]
    match v, hv with
    | 0, _ => rfl
    | 1, _ => rfl
  · rw [if_neg hk, e]
    obtain rfl | rfl : v = 2 ∨ v = 3 := by omega
    · rfl
    · rfl
theorem ra_sc_0 {w : Nat → Bool} {d B R : Nat} {H : List (Nat × mg)} {hb : Bool} {h : am_Hp} {I : sm_I} {Q : mQ} {Z : mZ} (hA : RA w B R H hb h (I, Q, Z)) (hR : R + 1 < 40000) (hpk : prk I 0) (hnk : ¬ I 11 0 = -1) (h5 : sq Q + hc H hb ≤ 5) (hd : 4 ≤ d) : am_Ev (am_prog w) d 167 [.ref 62, .int 0] h (fun r h' => r = none ∧ RA w B (R + 1) H hb h' (rsc 0 (I, Q, Z))) := by
  obtain ⟨K, Y, am, ln, hS, hU⟩ := RA_u.mp hA
  change sm (tbr am (13 * ln) 77 5088) h (jn I K) Y at hS
  obtain ⟨hW, hWm, -, -, hr, -⟩ := id hU.1
  have hln := RU_ln hU (by omega)
  obtain ⟨d, rfl⟩ : ∃ e, d = e + 1 := ⟨d - 1, by omega⟩
  refine ev_go rfl (Nat.le_of_ble_eq_true rfl) rfl ?_
  rcases hpk with e1 | e1 | e1
  · skip
    exact absurd e1 hnk
  · skip
    refine go_s (pc' := 1) rfl rfl rfl rfl ?_
    refine go_sget (pc' := 2) (v := .ref 80) hS rfl rfl rfl (by decide) rfl rfl ?_
    refine go_s (pc' := 3) rfl rfl rfl rfl ?_
    refine go_s (pc' := 4) (st' := [.int 1, .int 0, .ref 80]) rfl rfl rfl rfl ?_
    refine go_szast (pc' := 5) (q := 0) hS rfl (tr_s hr (a := 80) rfl (by decide)) tbr_inj (Nat.le_of_ble_eq_true rfl) rfl (by decide) (by decide) rfl (hW _ (by decide) (by decide)) rfl (fun h2 hS3 hE4 => ?_)
    refine go_s (pc' := 6) rfl rfl rfl rfl ?_
    refine go_sget (pc' := 7) (v := .ref 81) hS3 rfl rfl rfl (by decide) rfl rfl ?_
    refine go_s (pc' := 8) rfl rfl rfl rfl ?_
    refine go_s (pc' := 9) (st' := [.int 0, .int 0, .ref 81]) rfl rfl rfl rfl ?_
    refine go_szast (pc' := 10) (q := 0) hS3 rfl (tr_s hr (a := 81) rfl (by decide)) tbr_inj (Nat.le_of_ble_eq_true rfl) rfl (by decide) (by decide) rfl (hW _ (by decide) (by decide)) rfl (fun h5 hS6 hE7 => ?_)
    have hE8 := sm_e_trans hE4 hE7
    refine go_s (pc' := 11) rfl rfl rfl rfl ?_
    refine go_s (pc' := 12) rfl rfl rfl rfl ?_
    refine go_s (pc' := 13) (st' := [.int 4, .int 0, .ref 62]) rfl rfl rfl rfl ?_
    refine go_s (pc' := 14) rfl rfl rfl rfl ?_
    refine go_sget (pc' := 15) (v := .ref 78) hS6 rfl rfl rfl (by decide) rfl rfl ?_
    refine go_s (pc' := 16) rfl rfl rfl rfl ?_
    refine go_sald (pc' := 17) (q := 0) (v := .int 0) hS6 rfl (tr_s hr (a := 78) rfl (by decide)) rfl rfl (by decide) (congrArg Value.int e1) rfl ?_
    refine go_callS (pc' := 18) rfl rfl rfl (Nat.le_of_ble_eq_true rfl) rfl rfl rfl (rt_oh_0 (by omega)) (fun r h9 q10 => ?_)
    obtain ⟨rfl, rfl⟩ := q10
    change sm (tbr am (13 * ln) 77 5088) _ (uI (uI (jn I K) 13 0 1) 14 0 0) Y at hS6
    rw [jn_lo (c := 13) (by decide), jn_lo (c := 14) (by decide)] at hS6
    have hU11 : RU w B R H hb h9 am ln K ((uI (uI I 13 0 1) 14 0 0), Q, Z) := RU_I (hE8) (I' := (uI (uI I 13 0 1) 14 0 0)) (fun _ => rfl) (fun _ => rfl) (Nat.le_refl _) hU
    have hA12 : RA w B R H hb h9 ((uI (uI I 13 0 1) 14 0 0), Q, Z) := RA_u.mpr ⟨_, _, _, _, hS6, hU11⟩
    refine go_callV (pc' := 19) rfl rfl rfl (Nat.le_of_ble_eq_true rfl) rfl (sm_o hS6 rfl) rfl rfl rfl (ra_ss_0 hA12 (by omega) (kd := 4) (t := 1) (by decide) (by decide) (Or.inr (Or.inl e1)) (fun z => absurd (e1.symm.trans z) (by decide)) h5 (by omega)) (fun r h13 q14 => ?_)
    obtain ⟨rfl, hA15⟩ := q14
    refine go_ret rfl rfl ?_
    have hms : rsc 0 (I, Q, Z) = rss 0 4 1 ((uI (uI I 13 0 1) 14 0 0), Q, Z) := by
      unfold rsc
      rw [show ohn (I, Q, Z).1 0 = 1 from ohn_l (v := 0) e1 (by decide)]
    rw [hms]
    exact ⟨rfl, hA15⟩
  · skip
    refine go_s (pc' := 1) rfl rfl rfl rfl ?_
    refine go_sget (pc' := 2) (v := .ref 80) hS rfl rfl rfl (by decide) rfl rfl ?_
    refine go_s (pc' := 3) rfl rfl rfl rfl ?_
    refine go_s (pc' := 4) (st' := [.int 1, .int 0, .ref 80]) rfl rfl rfl rfl ?_
    refine go_szast (pc' := 5) (q := 0) hS rfl (tr_s hr (a := 80) rfl (by decide)) tbr_inj (Nat.le_of_ble_eq_true rfl) rfl (by decide) (by decide) rfl (hW _ (by decide) (by decide)) rfl (fun h16 hS17 hE18 => ?_)
    refine go_s (pc' := 6) rfl rfl rfl rfl ?_
    refine go_sget (pc' := 7) (v := .ref 81) hS17 rfl rfl rfl (by decide) rfl rfl ?_
    refine go_s (pc' := 8) rfl rfl rfl rfl ?_
    refine go_s (pc' := 9) (st' := [.int 0, .int 0, .ref 81]) rfl rfl rfl rfl ?_
    refine go_szast (pc' := 10) (q := 0) hS17 rfl (tr_s hr (a := 81) rfl (by decide)) tbr_inj (Nat.le_of_ble_eq_true rfl) rfl (by decide) (by decide) rfl (hW _ (by decide) (by decide)) rfl (fun h19 hS20 hE21 => ?_)
    have hE22 := sm_e_trans hE18 hE21
    refine go_s (pc' := 11) rfl rfl rfl rfl ?_
    refine go_s (pc' := 12) rfl rfl rfl rfl ?_
    refine go_s (pc' := 13) (st' := [.int 4, .int 0, .ref 62]) rfl rfl rfl rfl ?_
    refine go_s (pc' := 14) rfl rfl rfl rfl ?_
    refine go_sget (pc' := 15) (v := .ref 78) hS20 rfl rfl rfl (by decide) rfl rfl ?_
    refine go_s (pc' := 16) rfl rfl rfl rfl ?_
    refine go_sald (pc' := 17) (q := 0) (v := .int 1) hS20 rfl (tr_s hr (a := 78) rfl (by decide)) rfl rfl (by decide) (congrArg Value.int e1) rfl ?_
    refine go_callS (pc' := 18) rfl rfl rfl (Nat.le_of_ble_eq_true rfl) rfl rfl rfl (rt_oh_1 (by omega)) (fun r h23 q24 => ?_)
    obtain ⟨rfl, rfl⟩ := q24
    change sm (tbr am (13 * ln) 77 5088) _ (uI (uI (jn I K) 13 0 1) 14 0 0) Y at hS20
    rw [jn_lo (c := 13) (by decide), jn_lo (c := 14) (by decide)] at hS20
    have hU25 : RU w B R H hb h23 am ln K ((uI (uI I 13 0 1) 14 0 0), Q, Z) := RU_I (hE22) (I' := (uI (uI I 13 0 1) 14 0 0)) (fun _ => rfl) (fun _ => rfl) (Nat.le_refl _) hU
    have hA26 : RA w B R H hb h23 ((uI (uI I 13 0 1) 14 0 0), Q, Z) := RA_u.mpr ⟨_, _, _, _, hS20, hU25⟩
    refine go_callV (pc' := 19) rfl rfl rfl (Nat.le_of_ble_eq_true rfl) rfl (sm_o hS20 rfl) rfl rfl rfl (ra_ss_0 hA26 (by omega) (kd := 4) (t := 0) (by decide) (by decide) (Or.inr (Or.inr e1)) (fun z => absurd (e1.symm.trans z) (by decide)) h5 (by omega)) (fun r h27 q28 => ?_)
    obtain ⟨rfl, hA29⟩ := q28
    refine go_ret rfl rfl ?_
    have hms : rsc 0 (I, Q, Z) = rss 0 4 0 ((uI (uI I 13 0 1) 14 0 0), Q, Z) := by
      unfold rsc
      rw [show ohn (I, Q, Z).1 0 = 0 from ohn_l (v := 1) e1 (by decide)]
    rw [hms]
    exact ⟨rfl, hA29⟩
theorem ra_sc_1 {w : Nat → Bool} {d B R : Nat} {H : List (Nat × mg)} {hb : Bool} {h : am_Hp} {I : sm_I} {Q : mQ} {Z : mZ} (hA : RA w B R H hb h (I, Q, Z)) (hR : R + 1 < 40000) (hpk : prk I 1) (hnk : ¬ I 11 1 = -1) (h5 : sq Q + hc H hb ≤ 5) (hd : 4 ≤ d) : am_Ev (am_prog w) d 167 [.ref 62, .int 1] h (fun r h' => r = none ∧ RA w B (R + 1) H hb h' (rsc 1 (I, Q, Z))) := by
  obtain ⟨K, Y, am, ln, hS, hU⟩ := RA_u.mp hA
  change sm (tbr am (13 * ln) 77 5088) h (jn I K) Y at hS
  obtain ⟨hW, hWm, -, -, hr, -⟩ := id hU.1
  have hln := RU_ln hU (by omega)
  obtain ⟨d, rfl⟩ : ∃ e, d = e + 1 := ⟨d - 1, by omega⟩
  refine ev_go rfl (Nat.le_of_ble_eq_true rfl) rfl ?_
  rcases hpk with e1 | e1 | e1
  · skip
    exact absurd e1 hnk
  · skip
    refine go_s (pc' := 1) rfl rfl rfl rfl ?_
    refine go_sget (pc' := 2) (v := .ref 80) hS rfl rfl rfl (by decide) rfl rfl ?_
    refine go_s (pc' := 3) rfl rfl rfl rfl ?_
    refine go_s (pc' := 4) (st' := [.int 1, .int 1, .ref 80]) rfl rfl rfl rfl ?_
    refine go_szast (pc' := 5) (q := 1) hS rfl (tr_s hr (a := 80) rfl (by decide)) tbr_inj (Nat.le_of_ble_eq_true rfl) rfl (by decide) (by decide) rfl (hW _ (by decide) (by decide)) rfl (fun h2 hS3 hE4 => ?_)
    refine go_s (pc' := 6) rfl rfl rfl rfl ?_
    refine go_sget (pc' := 7) (v := .ref 81) hS3 rfl rfl rfl (by decide) rfl rfl ?_
    refine go_s (pc' := 8) rfl rfl rfl rfl ?_
    refine go_s (pc' := 9) (st' := [.int 0, .int 1, .ref 81]) rfl rfl rfl rfl ?_
    refine go_szast (pc' := 10) (q := 1) hS3 rfl (tr_s hr (a := 81) rfl (by decide)) tbr_inj (Nat.le_of_ble_eq_true rfl) rfl (by decide) (by decide) rfl (hW _ (by decide) (by decide)) rfl (fun h5 hS6 hE7 => ?_)
    have hE8 := sm_e_trans hE4 hE7
    refine go_s (pc' := 11) rfl rfl rfl rfl ?_
    refine go_s (pc' := 12) rfl rfl rfl rfl ?_
    refine go_s (pc' := 13) (st' := [.int 4, .int 1, .ref 62]) rfl rfl rfl rfl ?_
    refine go_s (pc' := 14) rfl rfl rfl rfl ?_
    refine go_sget (pc' := 15) (v := .ref 78) hS6 rfl rfl rfl (by decide) rfl rfl ?_
    refine go_s (pc' := 16) rfl rfl rfl rfl ?_
    refine go_sald (pc' := 17) (q := 1) (v := .int 2) hS6 rfl (tr_s hr (a := 78) rfl (by decide)) rfl rfl (by decide) (congrArg Value.int e1) rfl ?_
    refine go_callS (pc' := 18) rfl rfl rfl (Nat.le_of_ble_eq_true rfl) rfl rfl rfl (rt_oh_2 (by omega)) (fun r h9 q10 => ?_)
    obtain ⟨rfl, rfl⟩ := q10
    change sm (tbr am (13 * ln) 77 5088) _ (uI (uI (jn I K) 13 1 1) 14 1 0) Y at hS6
    rw [jn_lo (c := 13) (by decide), jn_lo (c := 14) (by decide)] at hS6
    have hU11 : RU w B R H hb h9 am ln K ((uI (uI I 13 1 1) 14 1 0), Q, Z) := RU_I (hE8) (I' := (uI (uI I 13 1 1) 14 1 0)) (fun _ => rfl) (fun _ => rfl) (Nat.le_refl _) hU
    have hA12 : RA w B R H hb h9 ((uI (uI I 13 1 1) 14 1 0), Q, Z) := RA_u.mpr ⟨_, _, _, _, hS6, hU11⟩
    refine go_callV (pc' := 19) rfl rfl rfl (Nat.le_of_ble_eq_true rfl) rfl (sm_o hS6 rfl) rfl rfl rfl (ra_ss_1 hA12 (by omega) (kd := 4) (t := 3) (by decide) (by decide) (Or.inr (Or.inl e1)) (fun z => absurd (e1.symm.trans z) (by decide)) h5 (by omega)) (fun r h13 q14 => ?_)
    obtain ⟨rfl, hA15⟩ := q14
    refine go_ret rfl rfl ?_
    have hms : rsc 1 (I, Q, Z) = rss 1 4 3 ((uI (uI I 13 1 1) 14 1 0), Q, Z) := by
      unfold rsc
      rw [show ohn (I, Q, Z).1 1 = 3 from ohn_l (v := 2) e1 (by decide)]
    rw [hms]
    exact ⟨rfl, hA15⟩
  · skip
    refine go_s (pc' := 1) rfl rfl rfl rfl ?_
    refine go_sget (pc' := 2) (v := .ref 80) hS rfl rfl rfl (by decide) rfl rfl ?_
    refine go_s (pc' := 3) rfl rfl rfl rfl ?_
    refine go_s (pc' := 4) (st' := [.int 1, .int 1, .ref 80]) rfl rfl rfl rfl ?_
    refine go_szast (pc' := 5) (q := 1) hS rfl (tr_s hr (a := 80) rfl (by decide)) tbr_inj (Nat.le_of_ble_eq_true rfl) rfl (by decide) (by decide) rfl (hW _ (by decide) (by decide)) rfl (fun h16 hS17 hE18 => ?_)
    refine go_s (pc' := 6) rfl rfl rfl rfl ?_
    refine go_sget (pc' := 7) (v := .ref 81) hS17 rfl rfl rfl (by decide) rfl rfl ?_
    refine go_s (pc' := 8) rfl rfl rfl rfl ?_
    refine go_s (pc' := 9) (st' := [.int 0, .int 1, .ref 81]) rfl rfl rfl rfl ?_
    refine go_szast (pc' := 10) (q := 1) hS17 rfl (tr_s hr (a := 81) rfl (by decide)) tbr_inj (Nat.le_of_ble_eq_true rfl) rfl (by decide) (by decide) rfl (hW _ (by decide) (by decide)) rfl (fun h19 hS20 hE21 => ?_)
    have hE22 := sm_e_trans hE18 hE21
    refine go_s (pc' := 11) rfl rfl rfl rfl ?_
    refine go_s (pc' := 12) rfl rfl rfl rfl ?_
    refine go_s (pc' := 13) (st' := [.int 4, .int 1, .ref 62]) rfl rfl rfl rfl ?_
    refine go_s (pc' := 14) rfl rfl rfl rfl ?_
    refine go_sget (pc' := 15) (v := .ref 78) hS20 rfl rfl rfl (by decide) rfl rfl ?_
    refine go_s (pc' := 16) rfl rfl rfl rfl ?_
    refine go_sald (pc' := 17) (q := 1) (v := .int 3) hS20 rfl (tr_s hr (a := 78) rfl (by decide)) rfl rfl (by decide) (congrArg Value.int e1) rfl ?_
    refine go_callS (pc' := 18) rfl rfl rfl (Nat.le_of_ble_eq_true rfl) rfl rfl rfl (rt_oh_3 (by omega)) (fun r h23 q24 => ?_)
    obtain ⟨rfl, rfl⟩ := q24
    change sm (tbr am (13 * ln) 77 5088) _ (uI (uI (jn I K) 13 1 1) 14 1 0) Y at hS20
    rw [jn_lo (c := 13) (by decide), jn_lo (c := 14) (by decide)] at hS20
    have hU25 : RU w B R H hb h23 am ln K ((uI (uI I 13 1 1) 14 1 0), Q, Z) := RU_I (hE22) (I' := (uI (uI I 13 1 1) 14 1 0)) (fun _ => rfl) (fun _ => rfl) (Nat.le_refl _) hU
    have hA26 : RA w B R H hb h23 ((uI (uI I 13 1 1) 14 1 0), Q, Z) := RA_u.mpr ⟨_, _, _, _, hS20, hU25⟩
    refine go_callV (pc' := 19) rfl rfl rfl (Nat.le_of_ble_eq_true rfl) rfl (sm_o hS20 rfl) rfl rfl rfl (ra_ss_1 hA26 (by omega) (kd := 4) (t := 2) (by decide) (by decide) (Or.inr (Or.inr e1)) (fun z => absurd (e1.symm.trans z) (by decide)) h5 (by omega)) (fun r h27 q28 => ?_)
    obtain ⟨rfl, hA29⟩ := q28
    refine go_ret rfl rfl ?_
    have hms : rsc 1 (I, Q, Z) = rss 1 4 2 ((uI (uI I 13 1 1) 14 1 0), Q, Z) := by
      unfold rsc
      rw [show ohn (I, Q, Z).1 1 = 2 from ohn_l (v := 3) e1 (by decide)]
    rw [hms]
    exact ⟨rfl, hA29⟩
theorem ra_sc_2 {w : Nat → Bool} {d B R : Nat} {H : List (Nat × mg)} {hb : Bool} {h : am_Hp} {I : sm_I} {Q : mQ} {Z : mZ} (hA : RA w B R H hb h (I, Q, Z)) (hR : R + 1 < 40000) (hpk : prk I 2) (hnk : ¬ I 11 2 = -1) (h5 : sq Q + hc H hb ≤ 5) (hd : 4 ≤ d) : am_Ev (am_prog w) d 167 [.ref 62, .int 2] h (fun r h' => r = none ∧ RA w B (R + 1) H hb h' (rsc 2 (I, Q, Z))) := by
  obtain ⟨K, Y, am, ln, hS, hU⟩ := RA_u.mp hA
  change sm (tbr am (13 * ln) 77 5088) h (jn I K) Y at hS
  obtain ⟨hW, hWm, -, -, hr, -⟩ := id hU.1
  have hln := RU_ln hU (by omega)
  obtain ⟨d, rfl⟩ : ∃ e, d = e + 1 := ⟨d - 1, by omega⟩
  refine ev_go rfl (Nat.le_of_ble_eq_true rfl) rfl ?_
  rcases hpk with e1 | e1 | e1
  · skip
    exact absurd e1 hnk
  · skip
    refine go_s (pc' := 1) rfl rfl rfl rfl ?_
    refine go_sget (pc' := 2) (v := .ref 80) hS rfl rfl rfl (by decide) rfl rfl ?_
    refine go_s (pc' := 3) rfl rfl rfl rfl ?_
    refine go_s (pc' := 4) (st' := [.int 1, .int 2, .ref 80]) rfl rfl rfl rfl ?_
    refine go_szast (pc' := 5) (q := 2) hS rfl (tr_s hr (a := 80) rfl (by decide)) tbr_inj (Nat.le_of_ble_eq_true rfl) rfl (by decide) (by decide) rfl (hW _ (by decide) (by decide)) rfl (fun h2 hS3 hE4 => ?_)
    refine go_s (pc' := 6) rfl rfl rfl rfl ?_
    refine go_sget (pc' := 7) (v := .ref 81) hS3 rfl rfl rfl (by decide) rfl rfl ?_
    refine go_s (pc' := 8) rfl rfl rfl rfl ?_
    refine go_s (pc' := 9) (st' := [.int 0, .int 2, .ref 81]) rfl rfl rfl rfl ?_
    refine go_szast (pc' := 10) (q := 2) hS3 rfl (tr_s hr (a := 81) rfl (by decide)) tbr_inj (Nat.le_of_ble_eq_true rfl) rfl (by decide) (by decide) rfl (hW _ (by decide) (by decide)) rfl (fun h5 hS6 hE7 => ?_)
    have hE8 := sm_e_trans hE4 hE7
    refine go_s (pc' := 11) rfl rfl rfl rfl ?_
    refine go_s (pc' := 12) rfl rfl rfl rfl ?_
    refine go_s (pc' := 13) (st' := [.int 4, .int 2, .ref 62]) rfl rfl rfl rfl ?_
    refine go_s (pc' := 14) rfl rfl rfl rfl ?_
    refine go_sget (pc' := 15) (v := .ref 78) hS6 rfl rfl rfl (by decide) rfl rfl ?_
    refine go_s (pc' := 16) rfl rfl rfl rfl ?_
    refine go_sald (pc' := 17) (q := 2) (v := .int 2) hS6 rfl (tr_s hr (a := 78) rfl (by decide)) rfl rfl (by decide) (congrArg Value.int e1) rfl ?_
    refine go_callS (pc' := 18) rfl rfl rfl (Nat.le_of_ble_eq_true rfl) rfl rfl rfl (rt_oh_2 (by omega)) (fun r h9 q10 => ?_)
    obtain ⟨rfl, rfl⟩ := q10
    change sm (tbr am (13 * ln) 77 5088) _ (uI (uI (jn I K) 13 2 1) 14 2 0) Y at hS6
    rw [jn_lo (c := 13) (by decide), jn_lo (c := 14) (by decide)] at hS6
    have hU11 : RU w B R H hb h9 am ln K ((uI (uI I 13 2 1) 14 2 0), Q, Z) := RU_I (hE8) (I' := (uI (uI I 13 2 1) 14 2 0)) (fun _ => rfl) (fun _ => rfl) (Nat.le_refl _) hU
    have hA12 : RA w B R H hb h9 ((uI (uI I 13 2 1) 14 2 0), Q, Z) := RA_u.mpr ⟨_, _, _, _, hS6, hU11⟩
    refine go_callV (pc' := 19) rfl rfl rfl (Nat.le_of_ble_eq_true rfl) rfl (sm_o hS6 rfl) rfl rfl rfl (ra_ss_2 hA12 (by omega) (kd := 4) (t := 3) (by decide) (by decide) (Or.inr (Or.inl e1)) (fun z => absurd (e1.symm.trans z) (by decide)) h5 (by omega)) (fun r h13 q14 => ?_)
    obtain ⟨rfl, hA15⟩ := q14
    refine go_ret rfl rfl ?_
    have hms : rsc 2 (I, Q, Z) = rss 2 4 3 ((uI (uI I 13 2 1) 14 2 0), Q, Z) := by
      unfold rsc
      rw [show ohn (I, Q, Z).1 2 = 3 from ohn_l (v := 2) e1 (by decide)]
    rw [hms]
    exact ⟨rfl, hA15⟩
  · skip
    refine go_s (pc' := 1) rfl rfl rfl rfl ?_
    refine go_sget (pc' := 2) (v := .ref 80) hS rfl rfl rfl (by decide) rfl rfl ?_
    refine go_s (pc' := 3) rfl rfl rfl rfl ?_
    refine go_s (pc' := 4) (st' := [.int 1, .int 2, .ref 80]) rfl rfl rfl rfl ?_
    refine go_szast (pc' := 5) (q := 2) hS rfl (tr_s hr (a := 80) rfl (by decide)) tbr_inj (Nat.le_of_ble_eq_true rfl) rfl (by decide) (by decide) rfl (hW _ (by decide) (by decide)) rfl (fun h16 hS17 hE18 => ?_)
    refine go_s (pc' := 6) rfl rfl rfl rfl ?_
    refine go_sget (pc' := 7) (v := .ref 81) hS17 rfl rfl rfl (by decide) rfl rfl ?_
    refine go_s (pc' := 8) rfl rfl rfl rfl ?_
    refine go_s (pc' := 9) (st' := [.int 0, .int 2, .ref 81]) rfl rfl rfl rfl ?_
    refine go_szast (pc' := 10) (q := 2) hS17 rfl (tr_s hr (a := 81) rfl (by decide)) tbr_inj (Nat.le_of_ble_eq_true rfl) rfl (by decide) (by decide) rfl (hW _ (by decide) (by decide)) rfl (fun h19 hS20 hE21 => ?_)
    have hE22 := sm_e_trans hE18 hE21
    refine go_s (pc' := 11) rfl rfl rfl rfl ?_
    refine go_s (pc' := 12) rfl rfl rfl rfl ?_
    refine go_s (pc' := 13) (st' := [.int 4, .int 2, .ref 62]) rfl rfl rfl rfl ?_
    refine go_s (pc' := 14) rfl rfl rfl rfl ?_
    refine go_sget (pc' := 15) (v := .ref 78) hS20 rfl rfl rfl (by decide) rfl rfl ?_
    refine go_s (pc' := 16) rfl rfl rfl rfl ?_
    refine go_sald (pc' := 17) (q := 2) (v := .int 3) hS20 rfl (tr_s hr (a := 78) rfl (by decide)) rfl rfl (by decide) (congrArg Value.int e1) rfl ?_
    refine go_callS (pc' := 18) rfl rfl rfl (Nat.le_of_ble_eq_true rfl) rfl rfl rfl (rt_oh_3 (by omega)) (fun r h23 q24 => ?_)
    obtain ⟨rfl, rfl⟩ := q24
    change sm (tbr am (13 * ln) 77 5088) _ (uI (uI (jn I K) 13 2 1) 14 2 0) Y at hS20
    rw [jn_lo (c := 13) (by decide), jn_lo (c := 14) (by decide)] at hS20
    have hU25 : RU w B R H hb h23 am ln K ((uI (uI I 13 2 1) 14 2 0), Q, Z) := RU_I (hE22) (I' := (uI (uI I 13 2 1) 14 2 0)) (fun _ => rfl) (fun _ => rfl) (Nat.le_refl _) hU
    have hA26 : RA w B R H hb h23 ((uI (uI I 13 2 1) 14 2 0), Q, Z) := RA_u.mpr ⟨_, _, _, _, hS20, hU25⟩
    refine go_callV (pc' := 19) rfl rfl rfl (Nat.le_of_ble_eq_true rfl) rfl (sm_o hS20 rfl) rfl rfl rfl (ra_ss_2 hA26 (by omega) (kd := 4) (t := 2) (by decide) (by decide) (Or.inr (Or.inr e1)) (fun z => absurd (e1.symm.trans z) (by decide)) h5 (by omega)) (fun r h27 q28 => ?_)
    obtain ⟨rfl, hA29⟩ := q28
    refine go_ret rfl rfl ?_
    have hms : rsc 2 (I, Q, Z) = rss 2 4 2 ((uI (uI I 13 2 1) 14 2 0), Q, Z) := by
      unfold rsc
      rw [show ohn (I, Q, Z).1 2 = 2 from ohn_l (v := 3) e1 (by decide)]
    rw [hms]
    exact ⟨rfl, hA29⟩
theorem ra_go_0 {w : Nat → Bool} {d B R : Nat} {H : List (Nat × mg)} {hb : Bool} {h : am_Hp} {I : sm_I} {Q : mQ} {Z : mZ} (hA : RA w B R H hb h (I, Q, Z)) (hR : R + 0 < 40000) (hd : 1 ≤ d) : am_Ev (am_prog w) d 128 [.ref 62, .int 0] h (fun r h' => r = none ∧ RA w B R H hb h' (rgo 0 (I, Q, Z))) := by
  obtain ⟨K, Y, am, ln, hS, hU⟩ := RA_u.mp hA
  change sm (tbr am (13 * ln) 77 5088) h (jn I K) Y at hS
  obtain ⟨hW, hWm, -, -, hr, -⟩ := id hU.1
  have hln := RU_ln hU (by omega)
  obtain ⟨d, rfl⟩ : ∃ e, d = e + 1 := ⟨d - 1, by omega⟩
  refine ev_go rfl (Nat.le_of_ble_eq_true rfl) rfl ?_
  refine go_s (pc' := 1) rfl rfl rfl rfl ?_
  refine go_ifP (t' := 8) (pc' := 2) rfl rfl rfl (fun (c : ¬ (0 : Int32) = 0) => absurd c (by decide)) (fun _ => ?_)
  refine go_s (pc' := 3) rfl rfl rfl rfl ?_
  refine go_sget (pc' := 4) (v := .ref 83) hS rfl rfl rfl (by decide) rfl rfl ?_
  refine go_s (pc' := 5) (st' := [.int 0, .ref 83]) rfl rfl rfl rfl ?_
  refine go_s (pc' := 6) (st' := [.int 2, .int 0, .ref 83]) rfl rfl rfl rfl ?_
  refine go_siast (pc' := 7) (q := 0) hS rfl (tr_s hr (a := 83) rfl (by decide)) tbr_inj (Nat.le_of_ble_eq_true rfl) rfl (by decide) (by decide) (hW _ (by decide) (by decide)) rfl (fun h1 hS2 hE3 => ?_)
  refine go_s (pc' := 35) rfl rfl rfl rfl ?_
  refine go_ret rfl rfl ?_
  change sm (tbr am (13 * ln) 77 5088) _ (uI (jn I K) 16 0 2) Y at hS2
  rw [jn_lo (c := 16) (by decide)] at hS2
  have hU4 : RU w B R H hb h1 am ln K ((uI I 16 0 2), Q, Z) := RU_I (hE3) (I' := (uI I 16 0 2)) (fun _ => rfl) (fun _ => rfl) (Nat.le_refl _) hU
  have hA5 : RA w B R H hb h1 ((uI I 16 0 2), Q, Z) := RA_u.mpr ⟨_, _, _, _, hS2, hU4⟩
  exact ⟨rfl, hA5⟩
theorem ra_go_1 {w : Nat → Bool} {d B R : Nat} {H : List (Nat × mg)} {hb : Bool} {h : am_Hp} {I : sm_I} {Q : mQ} {Z : mZ} (hA : RA w B R H hb h (I, Q, Z)) (hR : R + 1 < 40000) (hp0 : prk I 0) (hpk : prk I 1) (hnk : ¬ I 11 1 = -1) (hd : 4 ≤ d) : am_Ev (am_prog w) d 128 [.ref 62, .int 1] h (fun r h' => r = none ∧ RA w B (R + 1) H hb h' (rgo 1 (I, Q, Z))) := by
  obtain ⟨K, Y, am, ln, hS, hU⟩ := RA_u.mp hA
  change sm (tbr am (13 * ln) 77 5088) h (jn I K) Y at hS
  obtain ⟨hW, hWm, -, -, hr, -⟩ := id hU.1
  have hln := RU_ln hU (by omega)
  obtain ⟨d, rfl⟩ : ∃ e, d = e + 1 := ⟨d - 1, by omega⟩
  refine ev_go rfl (Nat.le_of_ble_eq_true rfl) rfl ?_
  rcases hpk with e1 | e1 | e1
  · skip
    exact absurd e1 hnk
  · skip
    refine go_s (pc' := 1) rfl rfl rfl rfl ?_
    refine go_ifP (t' := 8) (pc' := 2) rfl rfl rfl (fun _ => ?_) (fun (c : ¬ (¬ (1 : Int32) = 0)) => absurd (by decide) c)
    refine go_s (pc' := 9) rfl rfl rfl rfl ?_
    refine go_sget (pc' := 10) (v := .ref 77) hS rfl rfl rfl (by decide) rfl rfl ?_
    refine go_s (pc' := 11) rfl rfl rfl rfl ?_
    refine go_s (pc' := 12) rfl rfl rfl rfl ?_
    refine go_callV (pc' := 13) rfl rfl rfl (Nat.le_of_ble_eq_true rfl) rfl (sm_o hS rfl) rfl rfl rfl (rt_at_1 hr hS (Or.inr (Or.inl e1)) (fun z => absurd (e1.symm.trans z) (by decide)) (by omega)) (fun r h2 q3 => ?_)
    obtain ⟨rfl, rfl⟩ := q3
    rw [show rwi (jn I K) 1 = 2 by unfold rwi pn; rw [show (jn I K) 11 1 = 2 from e1]; rfl]
    show am_Go _ _ _ _ 13 _ [.int 848, .ref 77] _ _
    refine go_s (pc' := 14) (st' := [.int 1, .int 848, .ref 77]) rfl rfl rfl rfl ?_
    refine go_s (pc' := 15) (st' := [.int 849, .ref 77]) rfl rfl rfl rfl ?_
    refine go_sald (pc' := 16) (q := 849) (v := .int ((Z 2).1 1)) hS rfl (tr_as hr (by omega)) rfl rfl (by decide) (congrArg Value.int (RR_t hU.2.1 (i := 2) (by decide) (by decide) 1 (by decide))) rfl ?_
    refine go_s (pc' := 17) (st' := [.int 1, .int ((Z 2).1 1)]) rfl rfl rfl rfl ?_
    refine go_icmpP (t' := 27) (pc' := 18) rfl rfl rfl (fun (c4 : ¬ ((Z 2).1 1) = 1) => ?_) (fun (c4' : ¬ ¬ ((Z 2).1 1) = 1) => ?_)
    · skip
      refine go_s (pc' := 28) rfl rfl rfl rfl ?_
      refine go_sget (pc' := 29) (v := .ref 83) hS rfl rfl rfl (by decide) rfl rfl ?_
      refine go_s (pc' := 30) rfl rfl rfl rfl ?_
      refine go_s (pc' := 31) (st' := [.int 0, .int 1, .ref 83]) rfl rfl rfl rfl ?_
      refine go_siast (pc' := 32) (q := 1) hS rfl (tr_s hr (a := 83) rfl (by decide)) tbr_inj (Nat.le_of_ble_eq_true rfl) rfl (by decide) (by decide) (hW _ (by decide) (by decide)) rfl (fun h5 hS6 hE7 => ?_)
      refine go_s (pc' := 33) rfl rfl rfl rfl ?_
      refine go_s (pc' := 34) rfl rfl rfl rfl ?_
      change sm (tbr am (13 * ln) 77 5088) _ (uI (jn I K) 16 1 0) Y at hS6
      rw [jn_lo (c := 16) (by decide)] at hS6
      have hU8 : RU w B R H hb h5 am ln K ((uI I 16 1 0), Q, Z) := RU_I (hE7) (I' := (uI I 16 1 0)) (fun _ => rfl) (fun _ => rfl) (Nat.le_refl _) hU
      have hA9 : RA w B R H hb h5 ((uI I 16 1 0), Q, Z) := RA_u.mpr ⟨_, _, _, _, hS6, hU8⟩
      refine go_callV (pc' := 35) rfl rfl rfl (Nat.le_of_ble_eq_true rfl) rfl (sm_o hS6 rfl) rfl rfl rfl (ra_sh_1 hA9 (by omega) (Or.inr (Or.inl e1)) (fun z => absurd (e1.symm.trans z) (by decide)) (by omega)) (fun r h10 q11 => ?_)
      obtain ⟨rfl, hA12⟩ := q11
      refine go_ret rfl rfl ?_
      have hms : rgo 1 (I, Q, Z) = rshw 0 ((uI I 16 1 0), Q, Z) := by
        unfold rgo
        rw [if_neg (by decide), show row1 (I, Q, Z) 1 = (Z 2).1 from row1_l (v := 2) e1 (by decide), if_neg c4]
      rw [hms]
      exact ⟨rfl, RA_R (by omega) hA12⟩
    · skip
      have c4 : ((Z 2).1 1) = 1 := Decidable.not_not.mp c4'
      refine go_s (pc' := 19) rfl rfl rfl rfl ?_
      refine go_sget (pc' := 20) (v := .ref 83) hS rfl rfl rfl (by decide) rfl rfl ?_
      refine go_s (pc' := 21) rfl rfl rfl rfl ?_
      refine go_s (pc' := 22) (st' := [.int 2, .int 1, .ref 83]) rfl rfl rfl rfl ?_
      refine go_siast (pc' := 23) (q := 1) hS rfl (tr_s hr (a := 83) rfl (by decide)) tbr_inj (Nat.le_of_ble_eq_true rfl) rfl (by decide) (by decide) (hW _ (by decide) (by decide)) rfl (fun h13 hS14 hE15 => ?_)
      refine go_s (pc' := 24) rfl rfl rfl rfl ?_
      refine go_s (pc' := 25) rfl rfl rfl rfl ?_
      change sm (tbr am (13 * ln) 77 5088) _ (uI (jn I K) 16 1 2) Y at hS14
      rw [jn_lo (c := 16) (by decide)] at hS14
      have hU16 : RU w B R H hb h13 am ln K ((uI I 16 1 2), Q, Z) := RU_I (hE15) (I' := (uI I 16 1 2)) (fun _ => rfl) (fun _ => rfl) (Nat.le_refl _) hU
      have hA17 : RA w B R H hb h13 ((uI I 16 1 2), Q, Z) := RA_u.mpr ⟨_, _, _, _, hS14, hU16⟩
      refine go_callV (pc' := 26) rfl rfl rfl (Nat.le_of_ble_eq_true rfl) rfl (sm_o hS14 rfl) rfl rfl rfl (ra_sr_1 hA17 (by omega) hp0 (Or.inr (Or.inl e1)) (fun z => absurd (e1.symm.trans z) (by decide)) (by omega)) (fun r h18 q19 => ?_)
      obtain ⟨rfl, hA20⟩ := q19
      refine go_s (pc' := 35) rfl rfl rfl rfl ?_
      refine go_ret rfl rfl ?_
      have hms : rgo 1 (I, Q, Z) = rsr 0 ((uI I 16 1 2), Q, Z) := by
        unfold rgo
        rw [if_neg (by decide), show row1 (I, Q, Z) 1 = (Z 2).1 from row1_l (v := 2) e1 (by decide), if_pos c4]
      rw [hms]
      exact ⟨rfl, RA_R (by omega) hA20⟩
  · skip
    refine go_s (pc' := 1) rfl rfl rfl rfl ?_
    refine go_ifP (t' := 8) (pc' := 2) rfl rfl rfl (fun _ => ?_) (fun (c : ¬ (¬ (1 : Int32) = 0)) => absurd (by decide) c)
    refine go_s (pc' := 9) rfl rfl rfl rfl ?_
    refine go_sget (pc' := 10) (v := .ref 77) hS rfl rfl rfl (by decide) rfl rfl ?_
    refine go_s (pc' := 11) rfl rfl rfl rfl ?_
    refine go_s (pc' := 12) rfl rfl rfl rfl ?_
    refine go_callV (pc' := 13) rfl rfl rfl (Nat.le_of_ble_eq_true rfl) rfl (sm_o hS rfl) rfl rfl rfl (rt_at_1 hr hS (Or.inr (Or.inr e1)) (fun z => absurd (e1.symm.trans z) (by decide)) (by omega)) (fun r h21 q22 => ?_)
    obtain ⟨rfl, rfl⟩ := q22
    rw [show rwi (jn I K) 1 = 3 by unfold rwi pn; rw [show (jn I K) 11 1 = 3 from e1]; rfl]
    show am_Go _ _ _ _ 13 _ [.int 1272, .ref 77] _ _
    refine go_s (pc' := 14) (st' := [.int 1, .int 1272, .ref 77]) rfl rfl rfl rfl ?_
    refine go_s (pc' := 15) (st' := [.int 1273, .ref 77]) rfl rfl rfl rfl ?_
    refine go_sald (pc' := 16) (q := 1273) (v := .int ((Z 3).1 1)) hS rfl (tr_as hr (by omega)) rfl rfl (by decide) (congrArg Value.int (RR_t hU.2.1 (i := 3) (by decide) (by decide) 1 (by decide))) rfl ?_
    refine go_s (pc' := 17) (st' := [.int 1, .int ((Z 3).1 1)]) rfl rfl rfl rfl ?_
    refine go_icmpP (t' := 27) (pc' := 18) rfl rfl rfl (fun (c23 : ¬ ((Z 3).1 1) = 1) => ?_) (fun (c23' : ¬ ¬ ((Z 3).1 1) = 1) => ?_)
    · skip
      refine go_s (pc' := 28) rfl rfl rfl rfl ?_
      refine go_sget (pc' := 29) (v := .ref 83) hS rfl rfl rfl (by decide) rfl rfl ?_
      refine go_s (pc' := 30) rfl rfl rfl rfl ?_
      refine go_s (pc' := 31) (st' := [.int 0, .int 1, .ref 83]) rfl rfl rfl rfl ?_
      refine go_siast (pc' := 32) (q := 1) hS rfl (tr_s hr (a := 83) rfl (by decide)) tbr_inj (Nat.le_of_ble_eq_true rfl) rfl (by decide) (by decide) (hW _ (by decide) (by decide)) rfl (fun h24 hS25 hE26 => ?_)
      refine go_s (pc' := 33) rfl rfl rfl rfl ?_
      refine go_s (pc' := 34) rfl rfl rfl rfl ?_
      change sm (tbr am (13 * ln) 77 5088) _ (uI (jn I K) 16 1 0) Y at hS25
      rw [jn_lo (c := 16) (by decide)] at hS25
      have hU27 : RU w B R H hb h24 am ln K ((uI I 16 1 0), Q, Z) := RU_I (hE26) (I' := (uI I 16 1 0)) (fun _ => rfl) (fun _ => rfl) (Nat.le_refl _) hU
      have hA28 : RA w B R H hb h24 ((uI I 16 1 0), Q, Z) := RA_u.mpr ⟨_, _, _, _, hS25, hU27⟩
      refine go_callV (pc' := 35) rfl rfl rfl (Nat.le_of_ble_eq_true rfl) rfl (sm_o hS25 rfl) rfl rfl rfl (ra_sh_1 hA28 (by omega) (Or.inr (Or.inr e1)) (fun z => absurd (e1.symm.trans z) (by decide)) (by omega)) (fun r h29 q30 => ?_)
      obtain ⟨rfl, hA31⟩ := q30
      refine go_ret rfl rfl ?_
      have hms : rgo 1 (I, Q, Z) = rshw 0 ((uI I 16 1 0), Q, Z) := by
        unfold rgo
        rw [if_neg (by decide), show row1 (I, Q, Z) 1 = (Z 3).1 from row1_l (v := 3) e1 (by decide), if_neg c23]
      rw [hms]
      exact ⟨rfl, RA_R (by omega) hA31⟩
    · skip
      have c23 : ((Z 3).1 1) = 1 := Decidable.not_not.mp c23'
      refine go_s (pc' := 19) rfl rfl rfl rfl ?_
      refine go_sget (pc' := 20) (v := .ref 83) hS rfl rfl rfl (by decide) rfl rfl ?_
      refine go_s (pc' := 21) rfl rfl rfl rfl ?_
      refine go_s (pc' := 22) (st' := [.int 2, .int 1, .ref 83]) rfl rfl rfl rfl ?_
      refine go_siast (pc' := 23) (q := 1) hS rfl (tr_s hr (a := 83) rfl (by decide)) tbr_inj (Nat.le_of_ble_eq_true rfl) rfl (by decide) (by decide) (hW _ (by decide) (by decide)) rfl (fun h32 hS33 hE34 => ?_)
      refine go_s (pc' := 24) rfl rfl rfl rfl ?_
      refine go_s (pc' := 25) rfl rfl rfl rfl ?_
      change sm (tbr am (13 * ln) 77 5088) _ (uI (jn I K) 16 1 2) Y at hS33
      rw [jn_lo (c := 16) (by decide)] at hS33
      have hU35 : RU w B R H hb h32 am ln K ((uI I 16 1 2), Q, Z) := RU_I (hE34) (I' := (uI I 16 1 2)) (fun _ => rfl) (fun _ => rfl) (Nat.le_refl _) hU
      have hA36 : RA w B R H hb h32 ((uI I 16 1 2), Q, Z) := RA_u.mpr ⟨_, _, _, _, hS33, hU35⟩
      refine go_callV (pc' := 26) rfl rfl rfl (Nat.le_of_ble_eq_true rfl) rfl (sm_o hS33 rfl) rfl rfl rfl (ra_sr_1 hA36 (by omega) hp0 (Or.inr (Or.inr e1)) (fun z => absurd (e1.symm.trans z) (by decide)) (by omega)) (fun r h37 q38 => ?_)
      obtain ⟨rfl, hA39⟩ := q38
      refine go_s (pc' := 35) rfl rfl rfl rfl ?_
      refine go_ret rfl rfl ?_
      have hms : rgo 1 (I, Q, Z) = rsr 0 ((uI I 16 1 2), Q, Z) := by
        unfold rgo
        rw [if_neg (by decide), show row1 (I, Q, Z) 1 = (Z 3).1 from row1_l (v := 3) e1 (by decide), if_pos c23]
      rw [hms]
      exact ⟨rfl, RA_R (by omega) hA39⟩
theorem ra_go_2 {w : Nat → Bool} {d B R : Nat} {H : List (Nat × mg)} {hb : Bool} {h : am_Hp} {I : sm_I} {Q : mQ} {Z : mZ} (hA : RA w B R H hb h (I, Q, Z)) (hR : R + 1 < 40000) (hp0 : prk I 0) (hpk : prk I 2) (hnk : ¬ I 11 2 = -1) (hd : 4 ≤ d) : am_Ev (am_prog w) d 128 [.ref 62, .int 2] h (fun r h' => r = none ∧ RA w B (R + 1) H hb h' (rgo 2 (I, Q, Z))) := by
  obtain ⟨K, Y, am, ln, hS, hU⟩ := RA_u.mp hA
  change sm (tbr am (13 * ln) 77 5088) h (jn I K) Y at hS
  obtain ⟨hW, hWm, -, -, hr, -⟩ := id hU.1
  have hln := RU_ln hU (by omega)
  obtain ⟨d, rfl⟩ : ∃ e, d = e + 1 := ⟨d - 1, by omega⟩
  refine ev_go rfl (Nat.le_of_ble_eq_true rfl) rfl ?_
  rcases hpk with e1 | e1 | e1
  · skip
    exact absurd e1 hnk
  · skip
    refine go_s (pc' := 1) rfl rfl rfl rfl ?_
    refine go_ifP (t' := 8) (pc' := 2) rfl rfl rfl (fun _ => ?_) (fun (c : ¬ (¬ (2 : Int32) = 0)) => absurd (by decide) c)
    refine go_s (pc' := 9) rfl rfl rfl rfl ?_
    refine go_sget (pc' := 10) (v := .ref 77) hS rfl rfl rfl (by decide) rfl rfl ?_
    refine go_s (pc' := 11) rfl rfl rfl rfl ?_
    refine go_s (pc' := 12) rfl rfl rfl rfl ?_
    refine go_callV (pc' := 13) rfl rfl rfl (Nat.le_of_ble_eq_true rfl) rfl (sm_o hS rfl) rfl rfl rfl (rt_at_2 hr hS (Or.inr (Or.inl e1)) (fun z => absurd (e1.symm.trans z) (by decide)) (by omega)) (fun r h2 q3 => ?_)
    obtain ⟨rfl, rfl⟩ := q3
    rw [show rwi (jn I K) 2 = 4 by unfold rwi pn; rw [show (jn I K) 11 2 = 2 from e1]; rfl]
    show am_Go _ _ _ _ 13 _ [.int 1696, .ref 77] _ _
    refine go_s (pc' := 14) (st' := [.int 1, .int 1696, .ref 77]) rfl rfl rfl rfl ?_
    refine go_s (pc' := 15) (st' := [.int 1697, .ref 77]) rfl rfl rfl rfl ?_
    refine go_sald (pc' := 16) (q := 1697) (v := .int ((Z 4).1 1)) hS rfl (tr_as hr (by omega)) rfl rfl (by decide) (congrArg Value.int (RR_t hU.2.1 (i := 4) (by decide) (by decide) 1 (by decide))) rfl ?_
    refine go_s (pc' := 17) (st' := [.int 1, .int ((Z 4).1 1)]) rfl rfl rfl rfl ?_
    refine go_icmpP (t' := 27) (pc' := 18) rfl rfl rfl (fun (c4 : ¬ ((Z 4).1 1) = 1) => ?_) (fun (c4' : ¬ ¬ ((Z 4).1 1) = 1) => ?_)
    · skip
      refine go_s (pc' := 28) rfl rfl rfl rfl ?_
      refine go_sget (pc' := 29) (v := .ref 83) hS rfl rfl rfl (by decide) rfl rfl ?_
      refine go_s (pc' := 30) rfl rfl rfl rfl ?_
      refine go_s (pc' := 31) (st' := [.int 0, .int 2, .ref 83]) rfl rfl rfl rfl ?_
      refine go_siast (pc' := 32) (q := 2) hS rfl (tr_s hr (a := 83) rfl (by decide)) tbr_inj (Nat.le_of_ble_eq_true rfl) rfl (by decide) (by decide) (hW _ (by decide) (by decide)) rfl (fun h5 hS6 hE7 => ?_)
      refine go_s (pc' := 33) rfl rfl rfl rfl ?_
      refine go_s (pc' := 34) rfl rfl rfl rfl ?_
      change sm (tbr am (13 * ln) 77 5088) _ (uI (jn I K) 16 2 0) Y at hS6
      rw [jn_lo (c := 16) (by decide)] at hS6
      have hU8 : RU w B R H hb h5 am ln K ((uI I 16 2 0), Q, Z) := RU_I (hE7) (I' := (uI I 16 2 0)) (fun _ => rfl) (fun _ => rfl) (Nat.le_refl _) hU
      have hA9 : RA w B R H hb h5 ((uI I 16 2 0), Q, Z) := RA_u.mpr ⟨_, _, _, _, hS6, hU8⟩
      refine go_callV (pc' := 35) rfl rfl rfl (Nat.le_of_ble_eq_true rfl) rfl (sm_o hS6 rfl) rfl rfl rfl (ra_sh_2 hA9 (by omega) (Or.inr (Or.inl e1)) (fun z => absurd (e1.symm.trans z) (by decide)) (by omega)) (fun r h10 q11 => ?_)
      obtain ⟨rfl, hA12⟩ := q11
      refine go_ret rfl rfl ?_
      have hms : rgo 2 (I, Q, Z) = rshw 1 ((uI I 16 2 0), Q, Z) := by
        unfold rgo
        rw [if_neg (by decide), show row1 (I, Q, Z) 2 = (Z 4).1 from row1_l (v := 2) e1 (by decide), if_neg c4]
      rw [hms]
      exact ⟨rfl, RA_R (by omega) hA12⟩
    · skip
      have c4 : ((Z 4).1 1) = 1 := Decidable.not_not.mp c4'
      refine go_s (pc' := 19) rfl rfl rfl rfl ?_
      refine go_sget (pc' := 20) (v := .ref 83) hS rfl rfl rfl (by decide) rfl rfl ?_
      refine go_s (pc' := 21) rfl rfl rfl rfl ?_
      refine go_s (pc' := 22) (st' := [.int 2, .int 2, .ref 83]) rfl rfl rfl rfl ?_
      refine go_siast (pc' := 23) (q := 2) hS rfl (tr_s hr (a := 83) rfl (by decide)) tbr_inj (Nat.le_of_ble_eq_true rfl) rfl (by decide) (by decide) (hW _ (by decide) (by decide)) rfl (fun h13 hS14 hE15 => ?_)
      refine go_s (pc' := 24) rfl rfl rfl rfl ?_
      refine go_s (pc' := 25) rfl rfl rfl rfl ?_
      change sm (tbr am (13 * ln) 77 5088) _ (uI (jn I K) 16 2 2) Y at hS14
      rw [jn_lo (c := 16) (by decide)] at hS14
      have hU16 : RU w B R H hb h13 am ln K ((uI I 16 2 2), Q, Z) := RU_I (hE15) (I' := (uI I 16 2 2)) (fun _ => rfl) (fun _ => rfl) (Nat.le_refl _) hU
      have hA17 : RA w B R H hb h13 ((uI I 16 2 2), Q, Z) := RA_u.mpr ⟨_, _, _, _, hS14, hU16⟩
      refine go_callV (pc' := 26) rfl rfl rfl (Nat.le_of_ble_eq_true rfl) rfl (sm_o hS14 rfl) rfl rfl rfl (ra_sr_2 hA17 (by omega) hp0 (Or.inr (Or.inl e1)) (fun z => absurd (e1.symm.trans z) (by decide)) (by omega)) (fun r h18 q19 => ?_)
      obtain ⟨rfl, hA20⟩ := q19
      refine go_s (pc' := 35) rfl rfl rfl rfl ?_
      refine go_ret rfl rfl ?_
      have hms : rgo 2 (I, Q, Z) = rsr 1 ((uI I 16 2 2), Q, Z) := by
        unfold rgo
        rw [if_neg (by decide), show row1 (I, Q, Z) 2 = (Z 4).1 from row1_l (v := 2) e1 (by decide), if_pos c4]
      rw [hms]
      exact ⟨rfl, RA_R (by omega) hA20⟩
  · skip
    refine go_s (pc' := 1) rfl rfl rfl rfl ?_
    refine go_ifP (t' := 8) (pc' := 2) rfl rfl rfl (fun _ => ?_) (fun (c : ¬ (¬ (2 : Int32) = 0)) => absurd (by decide) c)
    refine go_s (pc' := 9) rfl rfl rfl rfl ?_
    refine go_sget (pc' := 10) (v := .ref 77) hS rfl rfl rfl (by decide) rfl rfl ?_
    refine go_s (pc' := 11) rfl rfl rfl rfl ?_
    refine go_s (pc' := 12) rfl rfl rfl rfl ?_
    refine go_callV (pc' := 13) rfl rfl rfl (Nat.le_of_ble_eq_true rfl) rfl (sm_o hS rfl) rfl rfl rfl (rt_at_2 hr hS (Or.inr (Or.inr e1)) (fun z => absurd (e1.symm.trans z) (by decide)) (by omega)) (fun r h21 q22 => ?_)
    obtain ⟨rfl, rfl⟩ := q22
    rw [show rwi (jn I K) 2 = 5 by unfold rwi pn; rw [show (jn I K) 11 2 = 3 from e1]; rfl]
    show am_Go _ _ _ _ 13 _ [.int 2120, .ref 77] _ _
    refine go_s (pc' := 14) (st' := [.int 1, .int 2120, .ref 77]) rfl rfl rfl rfl ?_
    refine go_s (pc' := 15) (st' := [.int 2121, .ref 77]) rfl rfl rfl rfl ?_
    refine go_sald (pc' := 16) (q := 2121) (v := .int ((Z 5).1 1)) hS rfl (tr_as hr (by omega)) rfl rfl (by decide) (congrArg Value.int (RR_t hU.2.1 (i := 5) (by decide) (by decide) 1 (by decide))) rfl ?_
    refine go_s (pc' := 17) (st' := [.int 1, .int ((Z 5).1 1)]) rfl rfl rfl rfl ?_
    refine go_icmpP (t' := 27) (pc' := 18) rfl rfl rfl (fun (c23 : ¬ ((Z 5).1 1) = 1) => ?_) (fun (c23' : ¬ ¬ ((Z 5).1 1) = 1) => ?_)
    · skip
      refine go_s (pc' := 28) rfl rfl rfl rfl ?_
      refine go_sget (pc' := 29) (v := .ref 83) hS rfl rfl rfl (by decide) rfl rfl ?_
      refine go_s (pc' := 30) rfl rfl rfl rfl ?_
      refine go_s (pc' := 31) (st' := [.int 0, .int 2, .ref 83]) rfl rfl rfl rfl ?_
      refine go_siast (pc' := 32) (q := 2) hS rfl (tr_s hr (a := 83) rfl (by decide)) tbr_inj (Nat.le_of_ble_eq_true rfl) rfl (by decide) (by decide) (hW _ (by decide) (by decide)) rfl (fun h24 hS25 hE26 => ?_)
      refine go_s (pc' := 33) rfl rfl rfl rfl ?_
      refine go_s (pc' := 34) rfl rfl rfl rfl ?_
      change sm (tbr am (13 * ln) 77 5088) _ (uI (jn I K) 16 2 0) Y at hS25
      rw [jn_lo (c := 16) (by decide)] at hS25
      have hU27 : RU w B R H hb h24 am ln K ((uI I 16 2 0), Q, Z) := RU_I (hE26) (I' := (uI I 16 2 0)) (fun _ => rfl) (fun _ => rfl) (Nat.le_refl _) hU
      have hA28 : RA w B R H hb h24 ((uI I 16 2 0), Q, Z) := RA_u.mpr ⟨_, _, _, _, hS25, hU27⟩
      refine go_callV (pc' := 35) rfl rfl rfl (Nat.le_of_ble_eq_true rfl) rfl (sm_o hS25 rfl) rfl rfl rfl (ra_sh_2 hA28 (by omega) (Or.inr (Or.inr e1)) (fun z => absurd (e1.symm.trans z) (by decide)) (by omega)) (fun r h29 q30 => ?_)
      obtain ⟨rfl, hA31⟩ := q30
      refine go_ret rfl rfl ?_
      have hms : rgo 2 (I, Q, Z) = rshw 1 ((uI I 16 2 0), Q, Z) := by
        unfold rgo
        rw [if_neg (by decide), show row1 (I, Q, Z) 2 = (Z 5).1 from row1_l (v := 3) e1 (by decide), if_neg c23]
      rw [hms]
      exact ⟨rfl, RA_R (by omega) hA31⟩
    · skip
      have c23 : ((Z 5).1 1) = 1 := Decidable.not_not.mp c23'
      refine go_s (pc' := 19) rfl rfl rfl rfl ?_
      refine go_sget (pc' := 20) (v := .ref 83) hS rfl rfl rfl (by decide) rfl rfl ?_
      refine go_s (pc' := 21) rfl rfl rfl rfl ?_
      refine go_s (pc' := 22) (st' := [.int 2, .int 2, .ref 83]) rfl rfl rfl rfl ?_
      refine go_siast (pc' := 23) (q := 2) hS rfl (tr_s hr (a := 83) rfl (by decide)) tbr_inj (Nat.le_of_ble_eq_true rfl) rfl (by decide) (by decide) (hW _ (by decide) (by decide)) rfl (fun h32 hS33 hE34 => ?_)
      refine go_s (pc' := 24) rfl rfl rfl rfl ?_
      refine go_s (pc' := 25) rfl rfl rfl rfl ?_
      change sm (tbr am (13 * ln) 77 5088) _ (uI (jn I K) 16 2 2) Y at hS33
      rw [jn_lo (c := 16) (by decide)] at hS33
      have hU35 : RU w B R H hb h32 am ln K ((uI I 16 2 2), Q, Z) := RU_I (hE34) (I' := (uI I 16 2 2)) (fun _ => rfl) (fun _ => rfl) (Nat.le_refl _) hU
      have hA36 : RA w B R H hb h32 ((uI I 16 2 2), Q, Z) := RA_u.mpr ⟨_, _, _, _, hS33, hU35⟩
      refine go_callV (pc' := 26) rfl rfl rfl (Nat.le_of_ble_eq_true rfl) rfl (sm_o hS33 rfl) rfl rfl rfl (ra_sr_2 hA36 (by omega) hp0 (Or.inr (Or.inr e1)) (fun z => absurd (e1.symm.trans z) (by decide)) (by omega)) (fun r h37 q38 => ?_)
      obtain ⟨rfl, hA39⟩ := q38
      refine go_s (pc' := 35) rfl rfl rfl rfl ?_
      refine go_ret rfl rfl ?_
      have hms : rgo 2 (I, Q, Z) = rsr 1 ((uI I 16 2 2), Q, Z) := by
        unfold rgo
        rw [if_neg (by decide), show row1 (I, Q, Z) 2 = (Z 5).1 from row1_l (v := 3) e1 (by decide), if_pos c23]
      rw [hms]
      exact ⟨rfl, RA_R (by omega) hA39⟩
theorem ra_tl_0 {w : Nat → Bool} {d B R : Nat} {H : List (Nat × mg)} {hb : Bool} {h : am_Hp} {I : sm_I} {Q : mQ} {Z : mZ} (hA : RA w B R H hb h (I, Q, Z)) (hR : R + 1 < 40000) (hp0 : prk I 0) (hnk : ¬ I 11 0 = -1) (hoh : ¬ I 12 0 = -1 → I 12 0 = ohI I 0) (h5 : ¬ I 12 0 = -1 → sq Q + hc H hb ≤ 5) (hd : 5 ≤ d) : am_Ev (am_prog w) d 127 [.ref 62, .int 0] h (fun r h' => r = none ∧ RA w B (R + 1) H hb h' (rtl 0 (I, Q, Z))) := by
  obtain ⟨K, Y, am, ln, hS, hU⟩ := RA_u.mp hA
  change sm (tbr am (13 * ln) 77 5088) h (jn I K) Y at hS
  obtain ⟨hW, hWm, -, -, hr, -⟩ := id hU.1
  have hln := RU_ln hU (by omega)
  obtain ⟨d, rfl⟩ : ∃ e, d = e + 1 := ⟨d - 1, by omega⟩
  refine ev_go rfl (Nat.le_of_ble_eq_true rfl) rfl ?_
  rcases hp0 with e1 | e1 | e1
  · skip
    exact absurd e1 hnk
  · skip
    by_cases hbk : I 12 0 = -1
    · skip
      refine go_s (pc' := 1) rfl rfl rfl rfl ?_
      refine go_sget (pc' := 2) (v := .ref 80) hS rfl rfl rfl (by decide) rfl rfl ?_
      refine go_s (pc' := 3) rfl rfl rfl rfl ?_
      refine go_sald (pc' := 4) (q := 0) (v := .int (I 13 0)) hS rfl (tr_s hr (a := 80) rfl (by decide)) rfl rfl (by decide) rfl rfl ?_
      refine go_ifP (t' := 10) (pc' := 5) rfl rfl rfl (fun (c2 : (I 13 0) = 0) => ?_) (fun (c2 : ¬ (I 13 0) = 0) => ?_)
      · skip
        refine go_s (pc' := 11) rfl rfl rfl rfl ?_
        refine go_sget (pc' := 12) (v := .ref 79) hS rfl rfl rfl (by decide) rfl rfl ?_
        refine go_s (pc' := 13) rfl rfl rfl rfl ?_
        refine go_sald (pc' := 14) (q := 0) (v := .int (-1)) hS rfl (tr_s hr (a := 79) rfl (by decide)) rfl rfl (by decide) (congrArg Value.int hbk) rfl ?_
        refine go_s (pc' := 15) (st' := [.int (-1), .int (-1)]) rfl rfl rfl rfl ?_
        refine go_icmpP (t' := 20) (pc' := 16) rfl rfl rfl (fun (c : ¬ ((-1) : Int32) = (-1)) => absurd c (by decide)) (fun _ => ?_)
        refine go_s (pc' := 17) rfl rfl rfl rfl ?_
        refine go_s (pc' := 18) rfl rfl rfl rfl ?_
        have hU3 : RU w B R H hb h am ln K (I, Q, Z) := RU_I (sm_e_refl (tbr am (13 * ln) 77 5088) _) (I' := I) (fun _ => rfl) (fun _ => rfl) (Nat.le_refl _) hU
        have hA4 : RA w B R H hb h (I, Q, Z) := RA_u.mpr ⟨_, _, _, _, hS, hU3⟩
        refine go_callV (pc' := 19) rfl rfl rfl (Nat.le_of_ble_eq_true rfl) rfl (sm_o hS rfl) rfl rfl rfl (ra_go_0 hA4 (by omega) (by omega)) (fun r h5 q6 => ?_)
        obtain ⟨rfl, hA7⟩ := q6
        refine go_ret rfl rfl ?_
        have hst : rst 0 (I, Q, Z) = ((I, Q, Z) : mM) := if_pos c2
        have hms : rtl 0 (I, Q, Z) = rgo 0 (I, Q, Z) := by
          unfold rtl
          rw [if_pos (show (I, Q, Z).1 12 0 = -1 from hbk), hst]
        rw [hms]
        exact ⟨rfl, RA_R (by omega) hA7⟩
      · skip
        refine go_s (pc' := 6) rfl rfl rfl rfl ?_
        refine go_sget (pc' := 7) (v := .ref 81) hS rfl rfl rfl (by decide) rfl rfl ?_
        refine go_s (pc' := 8) rfl rfl rfl rfl ?_
        refine go_s (pc' := 9) (st' := [.int 1, .int 0, .ref 81]) rfl rfl rfl rfl ?_
        refine go_szast (pc' := 10) (q := 0) hS rfl (tr_s hr (a := 81) rfl (by decide)) tbr_inj (Nat.le_of_ble_eq_true rfl) rfl (by decide) (by decide) rfl (hW _ (by decide) (by decide)) rfl (fun h8 hS9 hE10 => ?_)
        refine go_s (pc' := 11) rfl rfl rfl rfl ?_
        refine go_sget (pc' := 12) (v := .ref 79) hS9 rfl rfl rfl (by decide) rfl rfl ?_
        refine go_s (pc' := 13) rfl rfl rfl rfl ?_
        refine go_sald (pc' := 14) (q := 0) (v := .int (-1)) hS9 rfl (tr_s hr (a := 79) rfl (by decide)) rfl rfl (by decide) (congrArg Value.int hbk) rfl ?_
        refine go_s (pc' := 15) (st' := [.int (-1), .int (-1)]) rfl rfl rfl rfl ?_
        refine go_icmpP (t' := 20) (pc' := 16) rfl rfl rfl (fun (c : ¬ ((-1) : Int32) = (-1)) => absurd c (by decide)) (fun _ => ?_)
        refine go_s (pc' := 17) rfl rfl rfl rfl ?_
        refine go_s (pc' := 18) rfl rfl rfl rfl ?_
        change sm (tbr am (13 * ln) 77 5088) _ (uI (jn I K) 14 0 1) Y at hS9
        rw [jn_lo (c := 14) (by decide)] at hS9
        have hU11 : RU w B R H hb h8 am ln K ((uI I 14 0 1), Q, Z) := RU_I (hE10) (I' := (uI I 14 0 1)) (fun _ => rfl) (fun _ => rfl) (Nat.le_refl _) hU
        have hA12 : RA w B R H hb h8 ((uI I 14 0 1), Q, Z) := RA_u.mpr ⟨_, _, _, _, hS9, hU11⟩
        refine go_callV (pc' := 19) rfl rfl rfl (Nat.le_of_ble_eq_true rfl) rfl (sm_o hS9 rfl) rfl rfl rfl (ra_go_0 hA12 (by omega) (by omega)) (fun r h13 q14 => ?_)
        obtain ⟨rfl, hA15⟩ := q14
        refine go_ret rfl rfl ?_
        have hst : rst 0 (I, Q, Z) = ((uI I 14 0 1, Q, Z) : mM) := if_neg c2
        have hms : rtl 0 (I, Q, Z) = rgo 0 (uI I 14 0 1, Q, Z) := by
          unfold rtl
          rw [if_pos (show (I, Q, Z).1 12 0 = -1 from hbk), hst]
        rw [hms]
        exact ⟨rfl, RA_R (by omega) hA15⟩
    · skip
      have e12 : I 12 0 = 1 := by
        rw [hoh hbk]
        unfold ohI
        rw [e1]
        rfl
      refine go_s (pc' := 1) rfl rfl rfl rfl ?_
      refine go_sget (pc' := 2) (v := .ref 80) hS rfl rfl rfl (by decide) rfl rfl ?_
      refine go_s (pc' := 3) rfl rfl rfl rfl ?_
      refine go_sald (pc' := 4) (q := 0) (v := .int (I 13 0)) hS rfl (tr_s hr (a := 80) rfl (by decide)) rfl rfl (by decide) rfl rfl ?_
      refine go_ifP (t' := 10) (pc' := 5) rfl rfl rfl (fun (c16 : (I 13 0) = 0) => ?_) (fun (c16 : ¬ (I 13 0) = 0) => ?_)
      · skip
        refine go_s (pc' := 11) rfl rfl rfl rfl ?_
        refine go_sget (pc' := 12) (v := .ref 79) hS rfl rfl rfl (by decide) rfl rfl ?_
        refine go_s (pc' := 13) rfl rfl rfl rfl ?_
        refine go_sald (pc' := 14) (q := 0) (v := .int 1) hS rfl (tr_s hr (a := 79) rfl (by decide)) rfl rfl (by decide) (congrArg Value.int e12) rfl ?_
        refine go_s (pc' := 15) (st' := [.int (-1), .int 1]) rfl rfl rfl rfl ?_
        refine go_icmpP (t' := 20) (pc' := 16) rfl rfl rfl (fun _ => ?_) (fun (c : ¬ (¬ (1 : Int32) = (-1))) => absurd (by decide) c)
        refine go_s (pc' := 21) rfl rfl rfl rfl ?_
        refine go_sget (pc' := 22) (v := .ref 83) hS rfl rfl rfl (by decide) rfl rfl ?_
        refine go_s (pc' := 23) rfl rfl rfl rfl ?_
        refine go_s (pc' := 24) (st' := [.int 1, .int 0, .ref 83]) rfl rfl rfl rfl ?_
        refine go_siast (pc' := 25) (q := 0) hS rfl (tr_s hr (a := 83) rfl (by decide)) tbr_inj (Nat.le_of_ble_eq_true rfl) rfl (by decide) (by decide) (hW _ (by decide) (by decide)) rfl (fun h17 hS18 hE19 => ?_)
        refine go_s (pc' := 26) rfl rfl rfl rfl ?_
        refine go_s (pc' := 27) rfl rfl rfl rfl ?_
        refine go_s (pc' := 28) (st' := [.int 3, .int 0, .ref 62]) rfl rfl rfl rfl ?_
        refine go_s (pc' := 29) rfl rfl rfl rfl ?_
        refine go_sget (pc' := 30) (v := .ref 79) hS18 rfl rfl rfl (by decide) rfl rfl ?_
        refine go_s (pc' := 31) rfl rfl rfl rfl ?_
        refine go_sald (pc' := 32) (q := 0) (v := .int 1) hS18 rfl (tr_s hr (a := 79) rfl (by decide)) rfl rfl (by decide) (congrArg Value.int e12) rfl ?_
        change sm (tbr am (13 * ln) 77 5088) _ (uI (jn I K) 16 0 1) Y at hS18
        rw [jn_lo (c := 16) (by decide)] at hS18
        have hU20 : RU w B R H hb h17 am ln K ((uI I 16 0 1), Q, Z) := RU_I (hE19) (I' := (uI I 16 0 1)) (fun _ => rfl) (fun _ => rfl) (Nat.le_refl _) hU
        have hA21 : RA w B R H hb h17 ((uI I 16 0 1), Q, Z) := RA_u.mpr ⟨_, _, _, _, hS18, hU20⟩
        refine go_callV (pc' := 33) rfl rfl rfl (Nat.le_of_ble_eq_true rfl) rfl (sm_o hS18 rfl) rfl rfl rfl (ra_ss_0 hA21 (by omega) (kd := 3) (t := 1) (by decide) (by decide) (Or.inr (Or.inl e1)) (fun z => absurd (e1.symm.trans z) (by decide)) (h5 hbk) (by omega)) (fun r h22 q23 => ?_)
        obtain ⟨rfl, hA24⟩ := q23
        refine go_ret rfl rfl ?_
        have hst : rst 0 (I, Q, Z) = ((I, Q, Z) : mM) := if_pos c16
        have hms : rtl 0 (I, Q, Z) = rss 0 3 1 ((uI I 16 0 1), Q, Z) := by
          unfold rtl
          rw [if_neg (show ¬ (I, Q, Z).1 12 0 = -1 from hbk), hst, show (I, Q, Z).1 12 0 = 1 from e12]
          rfl
        rw [hms]
        exact ⟨rfl, RA_R (by omega) hA24⟩
      · skip
        refine go_s (pc' := 6) rfl rfl rfl rfl ?_
        refine go_sget (pc' := 7) (v := .ref 81) hS rfl rfl rfl (by decide) rfl rfl ?_
        refine go_s (pc' := 8) rfl rfl rfl rfl ?_
        refine go_s (pc' := 9) (st' := [.int 1, .int 0, .ref 81]) rfl rfl rfl rfl ?_
        refine go_szast (pc' := 10) (q := 0) hS rfl (tr_s hr (a := 81) rfl (by decide)) tbr_inj (Nat.le_of_ble_eq_true rfl) rfl (by decide) (by decide) rfl (hW _ (by decide) (by decide)) rfl (fun h25 hS26 hE27 => ?_)
        refine go_s (pc' := 11) rfl rfl rfl rfl ?_
        refine go_sget (pc' := 12) (v := .ref 79) hS26 rfl rfl rfl (by decide) rfl rfl ?_
        refine go_s (pc' := 13) rfl rfl rfl rfl ?_
        refine go_sald (pc' := 14) (q := 0) (v := .int 1) hS26 rfl (tr_s hr (a := 79) rfl (by decide)) rfl rfl (by decide) (congrArg Value.int e12) rfl ?_
        refine go_s (pc' := 15) (st' := [.int (-1), .int 1]) rfl rfl rfl rfl ?_
        refine go_icmpP (t' := 20) (pc' := 16) rfl rfl rfl (fun _ => ?_) (fun (c : ¬ (¬ (1 : Int32) = (-1))) => absurd (by decide) c)
        refine go_s (pc' := 21) rfl rfl rfl rfl ?_
        refine go_sget (pc' := 22) (v := .ref 83) hS26 rfl rfl rfl (by decide) rfl rfl ?_
        refine go_s (pc' := 23) rfl rfl rfl rfl ?_
        refine go_s (pc' := 24) (st' := [.int 1, .int 0, .ref 83]) rfl rfl rfl rfl ?_
        refine go_siast (pc' := 25) (q := 0) hS26 rfl (tr_s hr (a := 83) rfl (by decide)) tbr_inj (Nat.le_of_ble_eq_true rfl) rfl (by decide) (by decide) (hW _ (by decide) (by decide)) rfl (fun h28 hS29 hE30 => ?_)
        have hE31 := sm_e_trans hE27 hE30
        refine go_s (pc' := 26) rfl rfl rfl rfl ?_
        refine go_s (pc' := 27) rfl rfl rfl rfl ?_
        refine go_s (pc' := 28) (st' := [.int 3, .int 0, .ref 62]) rfl rfl rfl rfl ?_
        refine go_s (pc' := 29) rfl rfl rfl rfl ?_
        refine go_sget (pc' := 30) (v := .ref 79) hS29 rfl rfl rfl (by decide) rfl rfl ?_
        refine go_s (pc' := 31) rfl rfl rfl rfl ?_
        refine go_sald (pc' := 32) (q := 0) (v := .int 1) hS29 rfl (tr_s hr (a := 79) rfl (by decide)) rfl rfl (by decide) (congrArg Value.int e12) rfl ?_
        change sm (tbr am (13 * ln) 77 5088) _ (uI (uI (jn I K) 14 0 1) 16 0 1) Y at hS29
        rw [jn_lo (c := 14) (by decide), jn_lo (c := 16) (by decide)] at hS29
        have hU32 : RU w B R H hb h28 am ln K ((uI (uI I 14 0 1) 16 0 1), Q, Z) := RU_I (hE31) (I' := (uI (uI I 14 0 1) 16 0 1)) (fun _ => rfl) (fun _ => rfl) (Nat.le_refl _) hU
        have hA33 : RA w B R H hb h28 ((uI (uI I 14 0 1) 16 0 1), Q, Z) := RA_u.mpr ⟨_, _, _, _, hS29, hU32⟩
        refine go_callV (pc' := 33) rfl rfl rfl (Nat.le_of_ble_eq_true rfl) rfl (sm_o hS29 rfl) rfl rfl rfl (ra_ss_0 hA33 (by omega) (kd := 3) (t := 1) (by decide) (by decide) (Or.inr (Or.inl e1)) (fun z => absurd (e1.symm.trans z) (by decide)) (h5 hbk) (by omega)) (fun r h34 q35 => ?_)
        obtain ⟨rfl, hA36⟩ := q35
        refine go_ret rfl rfl ?_
        have hst : rst 0 (I, Q, Z) = ((uI I 14 0 1, Q, Z) : mM) := if_neg c16
        have hms : rtl 0 (I, Q, Z) = rss 0 3 1 ((uI (uI I 14 0 1) 16 0 1), Q, Z) := by
          unfold rtl
          rw [if_neg (show ¬ (I, Q, Z).1 12 0 = -1 from hbk), hst, show (I, Q, Z).1 12 0 = 1 from e12]
          rfl
        rw [hms]
        exact ⟨rfl, RA_R (by omega) hA36⟩
  · skip
    by_cases hbk : I 12 0 = -1
    · skip
      refine go_s (pc' := 1) rfl rfl rfl rfl ?_
      refine go_sget (pc' := 2) (v := .ref 80) hS rfl rfl rfl (by decide) rfl rfl ?_
      refine go_s (pc' := 3) rfl rfl rfl rfl ?_
      refine go_sald (pc' := 4) (q := 0) (v := .int (I 13 0)) hS rfl (tr_s hr (a := 80) rfl (by decide)) rfl rfl (by decide) rfl rfl ?_
      refine go_ifP (t' := 10) (pc' := 5) rfl rfl rfl (fun (c37 : (I 13 0) = 0) => ?_) (fun (c37 : ¬ (I 13 0) = 0) => ?_)
      · skip
        refine go_s (pc' := 11) rfl rfl rfl rfl ?_
        refine go_sget (pc' := 12) (v := .ref 79) hS rfl rfl rfl (by decide) rfl rfl ?_
        refine go_s (pc' := 13) rfl rfl rfl rfl ?_
        refine go_sald (pc' := 14) (q := 0) (v := .int (-1)) hS rfl (tr_s hr (a := 79) rfl (by decide)) rfl rfl (by decide) (congrArg Value.int hbk) rfl ?_
        refine go_s (pc' := 15) (st' := [.int (-1), .int (-1)]) rfl rfl rfl rfl ?_
        refine go_icmpP (t' := 20) (pc' := 16) rfl rfl rfl (fun (c : ¬ ((-1) : Int32) = (-1)) => absurd c (by decide)) (fun _ => ?_)
        refine go_s (pc' := 17) rfl rfl rfl rfl ?_
        refine go_s (pc' := 18) rfl rfl rfl rfl ?_
        have hU38 : RU w B R H hb h am ln K (I, Q, Z) := RU_I (sm_e_refl (tbr am (13 * ln) 77 5088) _) (I' := I) (fun _ => rfl) (fun _ => rfl) (Nat.le_refl _) hU
        have hA39 : RA w B R H hb h (I, Q, Z) := RA_u.mpr ⟨_, _, _, _, hS, hU38⟩
        refine go_callV (pc' := 19) rfl rfl rfl (Nat.le_of_ble_eq_true rfl) rfl (sm_o hS rfl) rfl rfl rfl (ra_go_0 hA39 (by omega) (by omega)) (fun r h40 q41 => ?_)
        obtain ⟨rfl, hA42⟩ := q41
        refine go_ret rfl rfl ?_
        have hst : rst 0 (I, Q, Z) = ((I, Q, Z) : mM) := if_pos c37
        have hms : rtl 0 (I, Q, Z) = rgo 0 (I, Q, Z) := by
          unfold rtl
          rw [if_pos (show (I, Q, Z).1 12 0 = -1 from hbk), hst]
        rw [hms]
        exact ⟨rfl, RA_R (by omega) hA42⟩
      · skip
        refine go_s (pc' := 6) rfl rfl rfl rfl ?_
        refine go_sget (pc' := 7) (v := .ref 81) hS rfl rfl rfl (by decide) rfl rfl ?_
        refine go_s (pc' := 8) rfl rfl rfl rfl ?_
        refine go_s (pc' := 9) (st' := [.int 1, .int 0, .ref 81]) rfl rfl rfl rfl ?_
        refine go_szast (pc' := 10) (q := 0) hS rfl (tr_s hr (a := 81) rfl (by decide)) tbr_inj (Nat.le_of_ble_eq_true rfl) rfl (by decide) (by decide) rfl (hW _ (by decide) (by decide)) rfl (fun h43 hS44 hE45 => ?_)
        refine go_s (pc' := 11) rfl rfl rfl rfl ?_
        refine go_sget (pc' := 12) (v := .ref 79) hS44 rfl rfl rfl (by decide) rfl rfl ?_
        refine go_s (pc' := 13) rfl rfl rfl rfl ?_
        refine go_sald (pc' := 14) (q := 0) (v := .int (-1)) hS44 rfl (tr_s hr (a := 79) rfl (by decide)) rfl rfl (by decide) (congrArg Value.int hbk) rfl ?_
        refine go_s (pc' := 15) (st' := [.int (-1), .int (-1)]) rfl rfl rfl rfl ?_
        refine go_icmpP (t' := 20) (pc' := 16) rfl rfl rfl (fun (c : ¬ ((-1) : Int32) = (-1)) => absurd c (by decide)) (fun _ => ?_)
        refine go_s (pc' := 17) rfl rfl rfl rfl ?_
        refine go_s (pc' := 18) rfl rfl rfl rfl ?_
        change sm (tbr am (13 * ln) 77 5088) _ (uI (jn I K) 14 0 1) Y at hS44
        rw [jn_lo (c := 14) (by decide)] at hS44
        have hU46 : RU w B R H hb h43 am ln K ((uI I 14 0 1), Q, Z) := RU_I (hE45) (I' := (uI I 14 0 1)) (fun _ => rfl) (fun _ => rfl) (Nat.le_refl _) hU
        have hA47 : RA w B R H hb h43 ((uI I 14 0 1), Q, Z) := RA_u.mpr ⟨_, _, _, _, hS44, hU46⟩
        refine go_callV (pc' := 19) rfl rfl rfl (Nat.le_of_ble_eq_true rfl) rfl (sm_o hS44 rfl) rfl rfl rfl (ra_go_0 hA47 (by omega) (by omega)) (fun r h48 q49 => ?_)
        obtain ⟨rfl, hA50⟩ := q49
        refine go_ret rfl rfl ?_
        have hst : rst 0 (I, Q, Z) = ((uI I 14 0 1, Q, Z) : mM) := if_neg c37
        have hms : rtl 0 (I, Q, Z) = rgo 0 (uI I 14 0 1, Q, Z) := by
          unfold rtl
          rw [if_pos (show (I, Q, Z).1 12 0 = -1 from hbk), hst]
        rw [hms]
        exact ⟨rfl, RA_R (by omega) hA50⟩
    · skip
      have e12 : I 12 0 = 0 := by
        rw [hoh hbk]
        unfold ohI
        rw [e1]
        rfl
      refine go_s (pc' := 1) rfl rfl rfl rfl ?_
      refine go_sget (pc' := 2) (v := .ref 80) hS rfl rfl rfl (by decide) rfl rfl ?_
      refine go_s (pc' := 3) rfl rfl rfl rfl ?_
      refine go_sald (pc' := 4) (q := 0) (v := .int (I 13 0)) hS rfl (tr_s hr (a := 80) rfl (by decide)) rfl rfl (by decide) rfl rfl ?_
      refine go_ifP (t' := 10) (pc' := 5) rfl rfl rfl (fun (c51 : (I 13 0) = 0) => ?_) (fun (c51 : ¬ (I 13 0) = 0) => ?_)
      · skip
        refine go_s (pc' := 11) rfl rfl rfl rfl ?_
        refine go_sget (pc' := 12) (v := .ref 79) hS rfl rfl rfl (by decide) rfl rfl ?_
        refine go_s (pc' := 13) rfl rfl rfl rfl ?_
        refine go_sald (pc' := 14) (q := 0) (v := .int 0) hS rfl (tr_s hr (a := 79) rfl (by decide)) rfl rfl (by decide) (congrArg Value.int e12) rfl ?_
        refine go_s (pc' := 15) (st' := [.int (-1), .int 0]) rfl rfl rfl rfl ?_
        refine go_icmpP (t' := 20) (pc' := 16) rfl rfl rfl (fun _ => ?_) (fun (c : ¬ (¬ (0 : Int32) = (-1))) => absurd (by decide) c)
        refine go_s (pc' := 21) rfl rfl rfl rfl ?_
        refine go_sget (pc' := 22) (v := .ref 83) hS rfl rfl rfl (by decide) rfl rfl ?_
        refine go_s (pc' := 23) rfl rfl rfl rfl ?_
        refine go_s (pc' := 24) (st' := [.int 1, .int 0, .ref 83]) rfl rfl rfl rfl ?_
        refine go_siast (pc' := 25) (q := 0) hS rfl (tr_s hr (a := 83) rfl (by decide)) tbr_inj (Nat.le_of_ble_eq_true rfl) rfl (by decide) (by decide) (hW _ (by decide) (by decide)) rfl (fun h52 hS53 hE54 => ?_)
        refine go_s (pc' := 26) rfl rfl rfl rfl ?_
        refine go_s (pc' := 27) rfl rfl rfl rfl ?_
        refine go_s (pc' := 28) (st' := [.int 3, .int 0, .ref 62]) rfl rfl rfl rfl ?_
        refine go_s (pc' := 29) rfl rfl rfl rfl ?_
        refine go_sget (pc' := 30) (v := .ref 79) hS53 rfl rfl rfl (by decide) rfl rfl ?_
        refine go_s (pc' := 31) rfl rfl rfl rfl ?_
        refine go_sald (pc' := 32) (q := 0) (v := .int 0) hS53 rfl (tr_s hr (a := 79) rfl (by decide)) rfl rfl (by decide) (congrArg Value.int e12) rfl ?_
        change sm (tbr am (13 * ln) 77 5088) _ (uI (jn I K) 16 0 1) Y at hS53
        rw [jn_lo (c := 16) (by decide)] at hS53
        have hU55 : RU w B R H hb h52 am ln K ((uI I 16 0 1), Q, Z) := RU_I (hE54) (I' := (uI I 16 0 1)) (fun _ => rfl) (fun _ => rfl) (Nat.le_refl _) hU
        have hA56 : RA w B R H hb h52 ((uI I 16 0 1), Q, Z) := RA_u.mpr ⟨_, _, _, _, hS53, hU55⟩
        refine go_callV (pc' := 33) rfl rfl rfl (Nat.le_of_ble_eq_true rfl) rfl (sm_o hS53 rfl) rfl rfl rfl (ra_ss_0 hA56 (by omega) (kd := 3) (t := 0) (by decide) (by decide) (Or.inr (Or.inr e1)) (fun z => absurd (e1.symm.trans z) (by decide)) (h5 hbk) (by omega)) (fun r h57 q58 => ?_)
        obtain ⟨rfl, hA59⟩ := q58
        refine go_ret rfl rfl ?_
        have hst : rst 0 (I, Q, Z) = ((I, Q, Z) : mM) := if_pos c51
        have hms : rtl 0 (I, Q, Z) = rss 0 3 0 ((uI I 16 0 1), Q, Z) := by
          unfold rtl
          rw [if_neg (show ¬ (I, Q, Z).1 12 0 = -1 from hbk), hst, show (I, Q, Z).1 12 0 = 0 from e12]
          rfl
        rw [hms]
        exact ⟨rfl, RA_R (by omega) hA59⟩
      · skip
        refine go_s (pc' := 6) rfl rfl rfl rfl ?_
        refine go_sget (pc' := 7) (v := .ref 81) hS rfl rfl rfl (by decide) rfl rfl ?_
        refine go_s (pc' := 8) rfl rfl rfl rfl ?_
        refine go_s (pc' := 9) (st' := [.int 1, .int 0, .ref 81]) rfl rfl rfl rfl ?_
        refine go_szast (pc' := 10) (q := 0) hS rfl (tr_s hr (a := 81) rfl (by decide)) tbr_inj (Nat.le_of_ble_eq_true rfl) rfl (by decide) (by decide) rfl (hW _ (by decide) (by decide)) rfl (fun h60 hS61 hE62 => ?_)
        refine go_s (pc' := 11) rfl rfl rfl rfl ?_
        refine go_sget (pc' := 12) (v := .ref 79) hS61 rfl rfl rfl (by decide) rfl rfl ?_
        refine go_s (pc' := 13) rfl rfl rfl rfl ?_
        refine go_sald (pc' := 14) (q := 0) (v := .int 0) hS61 rfl (tr_s hr (a := 79) rfl (by decide)) rfl rfl (by decide) (congrArg Value.int e12) rfl ?_
        refine go_s (pc' := 15) (st' := [.int (-1), .int 0]) rfl rfl rfl rfl ?_
        refine go_icmpP (t' := 20) (pc' := 16) rfl rfl rfl (fun _ => ?_) (fun (c : ¬ (¬ (0 : Int32) = (-1))) => absurd (by decide) c)
        refine go_s (pc' := 21) rfl rfl rfl rfl ?_
        refine go_sget (pc' := 22) (v := .ref 83) hS61 rfl rfl rfl (by decide) rfl rfl ?_
        refine go_s (pc' := 23) rfl rfl rfl rfl ?_
        refine go_s (pc' := 24) (st' := [.int 1, .int 0, .ref 83]) rfl rfl rfl rfl ?_
        refine go_siast (pc' := 25) (q := 0) hS61 rfl (tr_s hr (a := 83) rfl (by decide)) tbr_inj (Nat.le_of_ble_eq_true rfl) rfl (by decide) (by decide) (hW _ (by decide) (by decide)) rfl (fun h63 hS64 hE65 => ?_)
        have hE66 := sm_e_trans hE62 hE65
        refine go_s (pc' := 26) rfl rfl rfl rfl ?_
        refine go_s (pc' := 27) rfl rfl rfl rfl ?_
        refine go_s (pc' := 28) (st' := [.int 3, .int 0, .ref 62]) rfl rfl rfl rfl ?_
        refine go_s (pc' := 29) rfl rfl rfl rfl ?_
        refine go_sget (pc' := 30) (v := .ref 79) hS64 rfl rfl rfl (by decide) rfl rfl ?_
        refine go_s (pc' := 31) rfl rfl rfl rfl ?_
        refine go_sald (pc' := 32) (q := 0) (v := .int 0) hS64 rfl (tr_s hr (a := 79) rfl (by decide)) rfl rfl (by decide) (congrArg Value.int e12) rfl ?_
        change sm (tbr am (13 * ln) 77 5088) _ (uI (uI (jn I K) 14 0 1) 16 0 1) Y at hS64
        rw [jn_lo (c := 14) (by decide), jn_lo (c := 16) (by decide)] at hS64
        have hU67 : RU w B R H hb h63 am ln K ((uI (uI I 14 0 1) 16 0 1), Q, Z) := RU_I (hE66) (I' := (uI (uI I 14 0 1) 16 0 1)) (fun _ => rfl) (fun _ => rfl) (Nat.le_refl _) hU
        have hA68 : RA w B R H hb h63 ((uI (uI I 14 0 1) 16 0 1), Q, Z) := RA_u.mpr ⟨_, _, _, _, hS64, hU67⟩
        refine go_callV (pc' := 33) rfl rfl rfl (Nat.le_of_ble_eq_true rfl) rfl (sm_o hS64 rfl) rfl rfl rfl (ra_ss_0 hA68 (by omega) (kd := 3) (t := 0) (by decide) (by decide) (Or.inr (Or.inr e1)) (fun z => absurd (e1.symm.trans z) (by decide)) (h5 hbk) (by omega)) (fun r h69 q70 => ?_)
        obtain ⟨rfl, hA71⟩ := q70
        refine go_ret rfl rfl ?_
        have hst : rst 0 (I, Q, Z) = ((uI I 14 0 1, Q, Z) : mM) := if_neg c51
        have hms : rtl 0 (I, Q, Z) = rss 0 3 0 ((uI (uI I 14 0 1) 16 0 1), Q, Z) := by
          unfold rtl
          rw [if_neg (show ¬ (I, Q, Z).1 12 0 = -1 from hbk), hst, show (I, Q, Z).1 12 0 = 0 from e12]
          rfl
        rw [hms]
        exact ⟨rfl, RA_R (by omega) hA71⟩
theorem ra_tl_1 {w : Nat → Bool} {d B R : Nat} {H : List (Nat × mg)} {hb : Bool} {h : am_Hp} {I : sm_I} {Q : mQ} {Z : mZ} (hA : RA w B R H hb h (I, Q, Z)) (hR : R + 1 < 40000) (hp0 : prk I 0) (hpk : prk I 1) (hnk : ¬ I 11 1 = -1) (hoh : ¬ I 12 1 = -1 → I 12 1 = ohI I 1) (h5 : ¬ I 12 1 = -1 → sq Q + hc H hb ≤ 5) (hd : 5 ≤ d) : am_Ev (am_prog w) d 127 [.ref 62, .int 1] h (fun r h' => r = none ∧ RA w B (R + 1) H hb h' (rtl 1 (I, Q, Z))) := by
  obtain ⟨K, Y, am, ln, hS, hU⟩ := RA_u.mp hA
  change sm (tbr am (13 * ln) 77 5088) h (jn I K) Y at hS
  obtain ⟨hW, hWm, -, -, hr, -⟩ := id hU.1
  have hln := RU_ln hU (by omega)
  obtain ⟨d, rfl⟩ : ∃ e, d = e + 1 := ⟨d - 1, by omega⟩
  refine ev_go rfl (Nat.le_of_ble_eq_true rfl) rfl ?_
  rcases hpk with e1 | e1 | e1
  · skip
    exact absurd e1 hnk
  · skip
    by_cases hbk : I 12 1 = -1
    · skip
      refine go_s (pc' := 1) rfl rfl rfl rfl ?_
      refine go_sget (pc' := 2) (v := .ref 80) hS rfl rfl rfl (by decide) rfl rfl ?_
      refine go_s (pc' := 3) rfl rfl rfl rfl ?_
      refine go_sald (pc' := 4) (q := 1) (v := .int (I 13 1)) hS rfl (tr_s hr (a := 80) rfl (by decide)) rfl rfl (by decide) rfl rfl ?_
      refine go_ifP (t' := 10) (pc' := 5) rfl rfl rfl (fun (c2 : (I 13 1) = 0) => ?_) (fun (c2 : ¬ (I 13 1) = 0) => ?_)
      · skip
        refine go_s (pc' := 11) rfl rfl rfl rfl ?_
        refine go_sget (pc' := 12) (v := .ref 79) hS rfl rfl rfl (by decide) rfl rfl ?_
        refine go_s (pc' := 13) rfl rfl rfl rfl ?_
        refine go_sald (pc' := 14) (q := 1) (v := .int (-1)) hS rfl (tr_s hr (a := 79) rfl (by decide)) rfl rfl (by decide) (congrArg Value.int hbk) rfl ?_
        refine go_s (pc' := 15) (st' := [.int (-1), .int (-1)]) rfl rfl rfl rfl ?_
        refine go_icmpP (t' := 20) (pc' := 16) rfl rfl rfl (fun (c : ¬ ((-1) : Int32) = (-1)) => absurd c (by decide)) (fun _ => ?_)
        refine go_s (pc' := 17) rfl rfl rfl rfl ?_
        refine go_s (pc' := 18) rfl rfl rfl rfl ?_
        have hU3 : RU w B R H hb h am ln K (I, Q, Z) := RU_I (sm_e_refl (tbr am (13 * ln) 77 5088) _) (I' := I) (fun _ => rfl) (fun _ => rfl) (Nat.le_refl _) hU
        have hA4 : RA w B R H hb h (I, Q, Z) := RA_u.mpr ⟨_, _, _, _, hS, hU3⟩
        refine go_callV (pc' := 19) rfl rfl rfl (Nat.le_of_ble_eq_true rfl) rfl (sm_o hS rfl) rfl rfl rfl (ra_go_1 hA4 (by omega) hp0 (Or.inr (Or.inl e1)) (fun z => absurd (e1.symm.trans z) (by decide)) (by omega)) (fun r h5 q6 => ?_)
        obtain ⟨rfl, hA7⟩ := q6
        refine go_ret rfl rfl ?_
        have hst : rst 1 (I, Q, Z) = ((I, Q, Z) : mM) := if_pos c2
        have hms : rtl 1 (I, Q, Z) = rgo 1 (I, Q, Z) := by
          unfold rtl
          rw [if_pos (show (I, Q, Z).1 12 1 = -1 from hbk), hst]
        rw [hms]
        exact ⟨rfl, RA_R (by omega) hA7⟩
      · skip
        refine go_s (pc' := 6) rfl rfl rfl rfl ?_
        refine go_sget (pc' := 7) (v := .ref 81) hS rfl rfl rfl (by decide) rfl rfl ?_
        refine go_s (pc' := 8) rfl rfl rfl rfl ?_
        refine go_s (pc' := 9) (st' := [.int 1, .int 1, .ref 81]) rfl rfl rfl rfl ?_
        refine go_szast (pc' := 10) (q := 1) hS rfl (tr_s hr (a := 81) rfl (by decide)) tbr_inj (Nat.le_of_ble_eq_true rfl) rfl (by decide) (by decide) rfl (hW _ (by decide) (by decide)) rfl (fun h8 hS9 hE10 => ?_)
        refine go_s (pc' := 11) rfl rfl rfl rfl ?_
        refine go_sget (pc' := 12) (v := .ref 79) hS9 rfl rfl rfl (by decide) rfl rfl ?_
        refine go_s (pc' := 13) rfl rfl rfl rfl ?_
        refine go_sald (pc' := 14) (q := 1) (v := .int (-1)) hS9 rfl (tr_s hr (a := 79) rfl (by decide)) rfl rfl (by decide) (congrArg Value.int hbk) rfl ?_
        refine go_s (pc' := 15) (st' := [.int (-1), .int (-1)]) rfl rfl rfl rfl ?_
        refine go_icmpP (t' := 20) (pc' := 16) rfl rfl rfl (fun (c : ¬ ((-1) : Int32) = (-1)) => absurd c (by decide)) (fun _ => ?_)
        refine go_s (pc' := 17) rfl rfl rfl rfl ?_
        refine go_s (pc' := 18) rfl rfl rfl rfl ?_
        change sm (tbr am (13 * ln) 77 5088) _ (uI (jn I K) 14 1 1) Y at hS9
        rw [jn_lo (c := 14) (by decide)] at hS9
        have hU11 : RU w B R H hb h8 am ln K ((uI I 14 1 1), Q, Z) := RU_I (hE10) (I' := (uI I 14 1 1)) (fun _ => rfl) (fun _ => rfl) (Nat.le_refl _) hU
        have hA12 : RA w B R H hb h8 ((uI I 14 1 1), Q, Z) := RA_u.mpr ⟨_, _, _, _, hS9, hU11⟩
        refine go_callV (pc' := 19) rfl rfl rfl (Nat.le_of_ble_eq_true rfl) rfl (sm_o hS9 rfl) rfl rfl rfl (ra_go_1 hA12 (by omega) hp0 (Or.inr (Or.inl e1)) (fun z => absurd (e1.symm.trans z) (by decide)) (by omega)) (fun r h13 q14 => ?_)
        obtain ⟨rfl, hA15⟩ := q14
        refine go_ret rfl rfl ?_
        have hst : rst 1 (I, Q, Z) = ((uI I 14 1 1, Q, Z) : mM) := if_neg c2
        have hms : rtl 1 (I, Q, Z) = rgo 1 (uI I 14 1 1, Q, Z) := by
          unfold rtl
          rw [if_pos (show (I, Q, Z).1 12 1 = -1 from hbk), hst]
        rw [hms]
        exact ⟨rfl, RA_R (by omega) hA15⟩
    · skip
      have e12 : I 12 1 = 3 := by
        rw [hoh hbk]
        unfold ohI
        rw [e1]
        rfl
      refine go_s (pc' := 1) rfl rfl rfl rfl ?_
      refine go_sget (pc' := 2) (v := .ref 80) hS rfl rfl rfl (by decide) rfl rfl ?_
      refine go_s (pc' := 3) rfl rfl rfl rfl ?_
      refine go_sald (pc' := 4) (q := 1) (v := .int (I 13 1)) hS rfl (tr_s hr (a := 80) rfl (by decide)) rfl rfl (by decide) rfl rfl ?_
      refine go_ifP (t' := 10) (pc' := 5) rfl rfl rfl (fun (c16 : (I 13 1) = 0) => ?_) (fun (c16 : ¬ (I 13 1) = 0) => ?_)
      · skip
        refine go_s (pc' := 11) rfl rfl rfl rfl ?_
        refine go_sget (pc' := 12) (v := .ref 79) hS rfl rfl rfl (by decide) rfl rfl ?_
        refine go_s (pc' := 13) rfl rfl rfl rfl ?_
        refine go_sald (pc' := 14) (q := 1) (v := .int 3) hS rfl (tr_s hr (a := 79) rfl (by decide)) rfl rfl (by decide) (congrArg Value.int e12) rfl ?_
        refine go_s (pc' := 15) (st' := [.int (-1), .int 3]) rfl rfl rfl rfl ?_
        refine go_icmpP (t' := 20) (pc' := 16) rfl rfl rfl (fun _ => ?_) (fun (c : ¬ (¬ (3 : Int32) = (-1))) => absurd (by decide) c)
        refine go_s (pc' := 21) rfl rfl rfl rfl ?_
        refine go_sget (pc' := 22) (v := .ref 83) hS rfl rfl rfl (by decide) rfl rfl ?_
        refine go_s (pc' := 23) rfl rfl rfl rfl ?_
        refine go_s (pc' := 24) (st' := [.int 1, .int 1, .ref 83]) rfl rfl rfl rfl ?_
        refine go_siast (pc' := 25) (q := 1) hS rfl (tr_s hr (a := 83) rfl (by decide)) tbr_inj (Nat.le_of_ble_eq_true rfl) rfl (by decide) (by decide) (hW _ (by decide) (by decide)) rfl (fun h17 hS18 hE19 => ?_)
        refine go_s (pc' := 26) rfl rfl rfl rfl ?_
        refine go_s (pc' := 27) rfl rfl rfl rfl ?_
        refine go_s (pc' := 28) (st' := [.int 3, .int 1, .ref 62]) rfl rfl rfl rfl ?_
        refine go_s (pc' := 29) rfl rfl rfl rfl ?_
        refine go_sget (pc' := 30) (v := .ref 79) hS18 rfl rfl rfl (by decide) rfl rfl ?_
        refine go_s (pc' := 31) rfl rfl rfl rfl ?_
        refine go_sald (pc' := 32) (q := 1) (v := .int 3) hS18 rfl (tr_s hr (a := 79) rfl (by decide)) rfl rfl (by decide) (congrArg Value.int e12) rfl ?_
        change sm (tbr am (13 * ln) 77 5088) _ (uI (jn I K) 16 1 1) Y at hS18
        rw [jn_lo (c := 16) (by decide)] at hS18
        have hU20 : RU w B R H hb h17 am ln K ((uI I 16 1 1), Q, Z) := RU_I (hE19) (I' := (uI I 16 1 1)) (fun _ => rfl) (fun _ => rfl) (Nat.le_refl _) hU
        have hA21 : RA w B R H hb h17 ((uI I 16 1 1), Q, Z) := RA_u.mpr ⟨_, _, _, _, hS18, hU20⟩
        refine go_callV (pc' := 33) rfl rfl rfl (Nat.le_of_ble_eq_true rfl) rfl (sm_o hS18 rfl) rfl rfl rfl (ra_ss_1 hA21 (by omega) (kd := 3) (t := 3) (by decide) (by decide) (Or.inr (Or.inl e1)) (fun z => absurd (e1.symm.trans z) (by decide)) (h5 hbk) (by omega)) (fun r h22 q23 => ?_)
        obtain ⟨rfl, hA24⟩ := q23
        refine go_ret rfl rfl ?_
        have hst : rst 1 (I, Q, Z) = ((I, Q, Z) : mM) := if_pos c16
        have hms : rtl 1 (I, Q, Z) = rss 1 3 3 ((uI I 16 1 1), Q, Z) := by
          unfold rtl
          rw [if_neg (show ¬ (I, Q, Z).1 12 1 = -1 from hbk), hst, show (I, Q, Z).1 12 1 = 3 from e12]
          rfl
        rw [hms]
        exact ⟨rfl, RA_R (by omega) hA24⟩
      · skip
        refine go_s (pc' := 6) rfl rfl rfl rfl ?_
        refine go_sget (pc' := 7) (v := .ref 81) hS rfl rfl rfl (by decide) rfl rfl ?_
        refine go_s (pc' := 8) rfl rfl rfl rfl ?_
        refine go_s (pc' := 9) (st' := [.int 1, .int 1, .ref 81]) rfl rfl rfl rfl ?_
        refine go_szast (pc' := 10) (q := 1) hS rfl (tr_s hr (a := 81) rfl (by decide)) tbr_inj (Nat.le_of_ble_eq_true rfl) rfl (by decide) (by decide) rfl (hW _ (by decide) (by decide)) rfl (fun h25 hS26 hE27 => ?_)
        refine go_s (pc' := 11) rfl rfl rfl rfl ?_
        refine go_sget (pc' := 12) (v := .ref 79) hS26 rfl rfl rfl (by decide) rfl rfl ?_
        refine go_s (pc' := 13) rfl rfl rfl rfl ?_
        refine go_sald (pc' := 14) (q := 1) (v := .int 3) hS26 rfl (tr_s hr (a := 79) rfl (by decide)) rfl rfl (by decide) (congrArg Value.int e12) rfl ?_
        refine go_s (pc' := 15) (st' := [.int (-1), .int 3]) rfl rfl rfl rfl ?_
        refine go_icmpP (t' := 20) (pc' := 16) rfl rfl rfl (fun _ => ?_) (fun (c : ¬ (¬ (3 : Int32) = (-1))) => absurd (by decide) c)
        refine go_s (pc' := 21) rfl rfl rfl rfl ?_
        refine go_sget (pc' := 22) (v := .ref 83) hS26 rfl rfl rfl (by decide) rfl rfl ?_
        refine go_s (pc' := 23) rfl rfl rfl rfl ?_
        refine go_s (pc' := 24) (st' := [.int 1, .int 1, .ref 83]) rfl rfl rfl rfl ?_
        refine go_siast (pc' := 25) (q := 1) hS26 rfl (tr_s hr (a := 83) rfl (by decide)) tbr_inj (Nat.le_of_ble_eq_true rfl) rfl (by decide) (by decide) (hW _ (by decide) (by decide)) rfl (fun h28 hS29 hE30 => ?_)
        have hE31 := sm_e_trans hE27 hE30
        refine go_s (pc' := 26) rfl rfl rfl rfl ?_
        refine go_s (pc' := 27) rfl rfl rfl rfl ?_
        refine go_s (pc' := 28) (st' := [.int 3, .int 1, .ref 62]) rfl rfl rfl rfl ?_
        refine go_s (pc' := 29) rfl rfl rfl rfl ?_
        refine go_sget (pc' := 30) (v := .ref 79) hS29 rfl rfl rfl (by decide) rfl rfl ?_
        refine go_s (pc' := 31) rfl rfl rfl rfl ?_
        refine go_sald (pc' := 32) (q := 1) (v := .int 3) hS29 rfl (tr_s hr (a := 79) rfl (by decide)) rfl rfl (by decide) (congrArg Value.int e12) rfl ?_
        change sm (tbr am (13 * ln) 77 5088) _ (uI (uI (jn I K) 14 1 1) 16 1 1) Y at hS29
        rw [jn_lo (c := 14) (by decide), jn_lo (c := 16) (by decide)] at hS29
        have hU32 : RU w B R H hb h28 am ln K ((uI (uI I 14 1 1) 16 1 1), Q, Z) := RU_I (hE31) (I' := (uI (uI I 14 1 1) 16 1 1)) (fun _ => rfl) (fun _ => rfl) (Nat.le_refl _) hU
        have hA33 : RA w B R H hb h28 ((uI (uI I 14 1 1) 16 1 1), Q, Z) := RA_u.mpr ⟨_, _, _, _, hS29, hU32⟩
        refine go_callV (pc' := 33) rfl rfl rfl (Nat.le_of_ble_eq_true rfl) rfl (sm_o hS29 rfl) rfl rfl rfl (ra_ss_1 hA33 (by omega) (kd := 3) (t := 3) (by decide) (by decide) (Or.inr (Or.inl e1)) (fun z => absurd (e1.symm.trans z) (by decide)) (h5 hbk) (by omega)) (fun r h34 q35 => ?_)
        obtain ⟨rfl, hA36⟩ := q35
        refine go_ret rfl rfl ?_
        have hst : rst 1 (I, Q, Z) = ((uI I 14 1 1, Q, Z) : mM) := if_neg c16
        have hms : rtl 1 (I, Q, Z) = rss 1 3 3 ((uI (uI I 14 1 1) 16 1 1), Q, Z) := by
          unfold rtl
          rw [if_neg (show ¬ (I, Q, Z).1 12 1 = -1 from hbk), hst, show (I, Q, Z).1 12 1 = 3 from e12]
          rfl
        rw [hms]
        exact ⟨rfl, RA_R (by omega) hA36⟩
  · skip
    by_cases hbk : I 12 1 = -1
    · skip
      refine go_s (pc' := 1) rfl rfl rfl rfl ?_
      refine go_sget (pc' := 2) (v := .ref 80) hS rfl rfl rfl (by decide) rfl rfl ?_
      refine go_s (pc' := 3) rfl rfl rfl rfl ?_
      refine go_sald (pc' := 4) (q := 1) (v := .int (I 13 1)) hS rfl (tr_s hr (a := 80) rfl (by decide)) rfl rfl (by decide) rfl rfl ?_
      refine go_ifP (t' := 10) (pc' := 5) rfl rfl rfl (fun (c37 : (I 13 1) = 0) => ?_) (fun (c37 : ¬ (I 13 1) = 0) => ?_)
      · skip
        refine go_s (pc' := 11) rfl rfl rfl rfl ?_
        refine go_sget (pc' := 12) (v := .ref 79) hS rfl rfl rfl (by decide) rfl rfl ?_
        refine go_s (pc' := 13) rfl rfl rfl rfl ?_
        refine go_sald (pc' := 14) (q := 1) (v := .int (-1)) hS rfl (tr_s hr (a := 79) rfl (by decide)) rfl rfl (by decide) (congrArg Value.int hbk) rfl ?_
        refine go_s (pc' := 15) (st' := [.int (-1), .int (-1)]) rfl rfl rfl rfl ?_
        refine go_icmpP (t' := 20) (pc' := 16) rfl rfl rfl (fun (c : ¬ ((-1) : Int32) = (-1)) => absurd c (by decide)) (fun _ => ?_)
        refine go_s (pc' := 17) rfl rfl rfl rfl ?_
        refine go_s (pc' := 18) rfl rfl rfl rfl ?_
        have hU38 : RU w B R H hb h am ln K (I, Q, Z) := RU_I (sm_e_refl (tbr am (13 * ln) 77 5088) _) (I' := I) (fun _ => rfl) (fun _ => rfl) (Nat.le_refl _) hU
        have hA39 : RA w B R H hb h (I, Q, Z) := RA_u.mpr ⟨_, _, _, _, hS, hU38⟩
        refine go_callV (pc' := 19) rfl rfl rfl (Nat.le_of_ble_eq_true rfl) rfl (sm_o hS rfl) rfl rfl rfl (ra_go_1 hA39 (by omega) hp0 (Or.inr (Or.inr e1)) (fun z => absurd (e1.symm.trans z) (by decide)) (by omega)) (fun r h40 q41 => ?_)
        obtain ⟨rfl, hA42⟩ := q41
        refine go_ret rfl rfl ?_
        have hst : rst 1 (I, Q, Z) = ((I, Q, Z) : mM) := if_pos c37
        have hms : rtl 1 (I, Q, Z) = rgo 1 (I, Q, Z) := by
          unfold rtl
          rw [if_pos (show (I, Q, Z).1 12 1 = -1 from hbk), hst]
        rw [hms]
        exact ⟨rfl, RA_R (by omega) hA42⟩
      · skip
        refine go_s (pc' := 6) rfl rfl rfl rfl ?_
        refine go_sget (pc' := 7) (v := .ref 81) hS rfl rfl rfl (by decide) rfl rfl ?_
        refine go_s (pc' := 8) rfl rfl rfl rfl ?_
        refine go_s (pc' := 9) (st' := [.int 1, .int 1, .ref 81]) rfl rfl rfl rfl ?_
        refine go_szast (pc' := 10) (q := 1) hS rfl (tr_s hr (a := 81) rfl (by decide)) tbr_inj (Nat.le_of_ble_eq_true rfl) rfl (by decide) (by decide) rfl (hW _ (by decide) (by decide)) rfl (fun h43 hS44 hE45 => ?_)
        refine go_s (pc' := 11) rfl rfl rfl rfl ?_
        refine go_sget (pc' := 12) (v := .ref 79) hS44 rfl rfl rfl (by decide) rfl rfl ?_
        refine go_s (pc' := 13) rfl rfl rfl rfl ?_
        refine go_sald (pc' := 14) (q := 1) (v := .int (-1)) hS44 rfl (tr_s hr (a := 79) rfl (by decide)) rfl rfl (by decide) (congrArg Value.int hbk) rfl ?_
        refine go_s (pc' := 15) (st' := [.int (-1), .int (-1)]) rfl rfl rfl rfl ?_
        refine go_icmpP (t' := 20) (pc' := 16) rfl rfl rfl (fun (c : ¬ ((-1) : Int32) = (-1)) => absurd c (by decide)) (fun _ => ?_)
        refine go_s (pc' := 17) rfl rfl rfl rfl ?_
        refine go_s (pc' := 18) rfl rfl rfl rfl ?_
        change sm (tbr am (13 * ln) 77 5088) _ (uI (jn I K) 14 1 1) Y at hS44
        rw [jn_lo (c := 14) (by decide)] at hS44
        have hU46 : RU w B R H hb h43 am ln K ((uI I 14 1 1), Q, Z) := RU_I (hE45) (I' := (uI I 14 1 1)) (fun _ => rfl) (fun _ => rfl) (Nat.le_refl _) hU
        have hA47 : RA w B R H hb h43 ((uI I 14 1 1), Q, Z) := RA_u.mpr ⟨_, _, _, _, hS44, hU46⟩
        refine go_callV (pc' := 19) rfl rfl rfl (Nat.le_of_ble_eq_true rfl) rfl (sm_o hS44 rfl) rfl rfl rfl (ra_go_1 hA47 (by omega) hp0 (Or.inr (Or.inr e1)) (fun z => absurd (e1.symm.trans z) (by decide)) (by omega)) (fun r h48 q49 => ?_)
        obtain ⟨rfl, hA50⟩ := q49
        refine go_ret rfl rfl ?_
        have hst : rst 1 (I, Q, Z) = ((uI I 14 1 1, Q, Z) : mM) := if_neg c37
        have hms : rtl 1 (I, Q, Z) = rgo 1 (uI I 14 1 1, Q, Z) := by
          unfold rtl
          rw [if_pos (show (I, Q, Z).1 12 1 = -1 from hbk), hst]
        rw [hms]
        exact ⟨rfl, RA_R (by omega) hA50⟩
    · skip
      have e12 : I 12 1 = 2 := by
        rw [hoh hbk]
        unfold ohI
        rw [e1]
        rfl
      refine go_s (pc' := 1) rfl rfl rfl rfl ?_
      refine go_sget (pc' := 2) (v := .ref 80) hS rfl rfl rfl (by decide) rfl rfl ?_
      refine go_s (pc' := 3) rfl rfl rfl rfl ?_
      refine go_sald (pc' := 4) (q := 1) (v := .int (I 13 1)) hS rfl (tr_s hr (a := 80) rfl (by decide)) rfl rfl (by decide) rfl rfl ?_
      refine go_ifP (t' := 10) (pc' := 5) rfl rfl rfl (fun (c51 : (I 13 1) = 0) => ?_) (fun (c51 : ¬ (I 13 1) = 0) => ?_)
      · skip
        refine go_s (pc' := 11) rfl rfl rfl rfl ?_
        refine go_sget (pc' := 12) (v := .ref 79) hS rfl rfl rfl (by decide) rfl rfl ?_
        refine go_s (pc' := 13) rfl rfl rfl rfl ?_
        refine go_sald (pc' := 14) (q := 1) (v := .int 2) hS rfl (tr_s hr (a := 79) rfl (by decide)) rfl rfl (by decide) (congrArg Value.int e12) rfl ?_
        refine go_s (pc' := 15) (st' := [.int (-1), .int 2]) rfl rfl rfl rfl ?_
        refine go_icmpP (t' := 20) (pc' := 16) rfl rfl rfl (fun _ => ?_) (fun (c : ¬ (¬ (2 : Int32) = (-1))) => absurd (by decide) c)
        refine go_s (pc' := 21) rfl rfl rfl rfl ?_
        refine go_sget (pc' := 22) (v := .ref 83) hS rfl rfl rfl (by decide) rfl rfl ?_
        refine go_s (pc' := 23) rfl rfl rfl rfl ?_
        refine go_s (pc' := 24) (st' := [.int 1, .int 1, .ref 83]) rfl rfl rfl rfl ?_
        refine go_siast (pc' := 25) (q := 1) hS rfl (tr_s hr (a := 83) rfl (by decide)) tbr_inj (Nat.le_of_ble_eq_true rfl) rfl (by decide) (by decide) (hW _ (by decide) (by decide)) rfl (fun h52 hS53 hE54 => ?_)
        refine go_s (pc' := 26) rfl rfl rfl rfl ?_
        refine go_s (pc' := 27) rfl rfl rfl rfl ?_
        refine go_s (pc' := 28) (st' := [.int 3, .int 1, .ref 62]) rfl rfl rfl rfl ?_
        refine go_s (pc' := 29) rfl rfl rfl rfl ?_
        refine go_sget (pc' := 30) (v := .ref 79) hS53 rfl rfl rfl (by decide) rfl rfl ?_
        refine go_s (pc' := 31) rfl rfl rfl rfl ?_
        refine go_sald (pc' := 32) (q := 1) (v := .int 2) hS53 rfl (tr_s hr (a := 79) rfl (by decide)) rfl rfl (by decide) (congrArg Value.int e12) rfl ?_
        change sm (tbr am (13 * ln) 77 5088) _ (uI (jn I K) 16 1 1) Y at hS53
        rw [jn_lo (c := 16) (by decide)] at hS53
        have hU55 : RU w B R H hb h52 am ln K ((uI I 16 1 1), Q, Z) := RU_I (hE54) (I' := (uI I 16 1 1)) (fun _ => rfl) (fun _ => rfl) (Nat.le_refl _) hU
        have hA56 : RA w B R H hb h52 ((uI I 16 1 1), Q, Z) := RA_u.mpr ⟨_, _, _, _, hS53, hU55⟩
        refine go_callV (pc' := 33) rfl rfl rfl (Nat.le_of_ble_eq_true rfl) rfl (sm_o hS53 rfl) rfl rfl rfl (ra_ss_1 hA56 (by omega) (kd := 3) (t := 2) (by decide) (by decide) (Or.inr (Or.inr e1)) (fun z => absurd (e1.symm.trans z) (by decide)) (h5 hbk) (by omega)) (fun r h57 q58 => ?_)
        obtain ⟨rfl, hA59⟩ := q58
        refine go_ret rfl rfl ?_
        have hst : rst 1 (I, Q, Z) = ((I, Q, Z) : mM) := if_pos c51
        have hms : rtl 1 (I, Q, Z) = rss 1 3 2 ((uI I 16 1 1), Q, Z) := by
          unfold rtl
          rw [if_neg (show ¬ (I, Q, Z).1 12 1 = -1 from hbk), hst, show (I, Q, Z).1 12 1 = 2 from e12]
          rfl
        rw [hms]
        exact ⟨rfl, RA_R (by omega) hA59⟩
      · skip
        refine go_s (pc' := 6) rfl rfl rfl rfl ?_
        refine go_sget (pc' := 7) (v := .ref 81) hS rfl rfl rfl (by decide) rfl rfl ?_
        refine go_s (pc' := 8) rfl rfl rfl rfl ?_
        refine go_s (pc' := 9) (st' := [.int 1, .int 1, .ref 81]) rfl rfl rfl rfl ?_
        refine go_szast (pc' := 10) (q := 1) hS rfl (tr_s hr (a := 81) rfl (by decide)) tbr_inj (Nat.le_of_ble_eq_true rfl) rfl (by decide) (by decide) rfl (hW _ (by decide) (by decide)) rfl (fun h60 hS61 hE62 => ?_)
        refine go_s (pc' := 11) rfl rfl rfl rfl ?_
        refine go_sget (pc' := 12) (v := .ref 79) hS61 rfl rfl rfl (by decide) rfl rfl ?_
        refine go_s (pc' := 13) rfl rfl rfl rfl ?_
        refine go_sald (pc' := 14) (q := 1) (v := .int 2) hS61 rfl (tr_s hr (a := 79) rfl (by decide)) rfl rfl (by decide) (congrArg Value.int e12) rfl ?_
        refine go_s (pc' := 15) (st' := [.int (-1), .int 2]) rfl rfl rfl rfl ?_
        refine go_icmpP (t' := 20) (pc' := 16) rfl rfl rfl (fun _ => ?_) (fun (c : ¬ (¬ (2 : Int32) = (-1))) => absurd (by decide) c)
        refine go_s (pc' := 21) rfl rfl rfl rfl ?_
        refine go_sget (pc' := 22) (v := .ref 83) hS61 rfl rfl rfl (by decide) rfl rfl ?_
        refine go_s (pc' := 23) rfl rfl rfl rfl ?_
        refine go_s (pc' := 24) (st' := [.int 1, .int 1, .ref 83]) rfl rfl rfl rfl ?_
        refine go_siast (pc' := 25) (q := 1) hS61 rfl (tr_s hr (a := 83) rfl (by decide)) tbr_inj (Nat.le_of_ble_eq_true rfl) rfl (by decide) (by decide) (hW _ (by decide) (by decide)) rfl (fun h63 hS64 hE65 => ?_)
        have hE66 := sm_e_trans hE62 hE65
        refine go_s (pc' := 26) rfl rfl rfl rfl ?_
        refine go_s (pc' := 27) rfl rfl rfl rfl ?_
        refine go_s (pc' := 28) (st' := [.int 3, .int 1, .ref 62]) rfl rfl rfl rfl ?_
        refine go_s (pc' := 29) rfl rfl rfl rfl ?_
        refine go_sget (pc' := 30) (v := .ref 79) hS64 rfl rfl rfl (by decide) rfl rfl ?_
        refine go_s (pc' := 31) rfl rfl rfl rfl ?_
        refine go_sald (pc' := 32) (q := 1) (v := .int 2) hS64 rfl (tr_s hr (a := 79) rfl (by decide)) rfl rfl (by decide) (congrArg Value.int e12) rfl ?_
        change sm (tbr am (13 * ln) 77 5088) _ (uI (uI (jn I K) 14 1 1) 16 1 1) Y at hS64
        rw [jn_lo (c := 14) (by decide), jn_lo (c := 16) (by decide)] at hS64
        have hU67 : RU w B R H hb h63 am ln K ((uI (uI I 14 1 1) 16 1 1), Q, Z) := RU_I (hE66) (I' := (uI (uI I 14 1 1) 16 1 1)) (fun _ => rfl) (fun _ => rfl) (Nat.le_refl _) hU
        have hA68 : RA w B R H hb h63 ((uI (uI I 14 1 1) 16 1 1), Q, Z) := RA_u.mpr ⟨_, _, _, _, hS64, hU67⟩
        refine go_callV (pc' := 33) rfl rfl rfl (Nat.le_of_ble_eq_true rfl) rfl (sm_o hS64 rfl) rfl rfl rfl (ra_ss_1 hA68 (by omega) (kd := 3) (t := 2) (by decide) (by decide) (Or.inr (Or.inr e1)) (fun z => absurd (e1.symm.trans z) (by decide)) (h5 hbk) (by omega)) (fun r h69 q70 => ?_)
        obtain ⟨rfl, hA71⟩ := q70
        refine go_ret rfl rfl ?_
        have hst : rst 1 (I, Q, Z) = ((uI I 14 1 1, Q, Z) : mM) := if_neg c51
        have hms : rtl 1 (I, Q, Z) = rss 1 3 2 ((uI (uI I 14 1 1) 16 1 1), Q, Z) := by
          unfold rtl
          rw [if_neg (show ¬ (I, Q, Z).1 12 1 = -1 from hbk), hst, show (I, Q, Z).1 12 1 = 2 from e12]
          rfl
        rw [hms]
        exact ⟨rfl, RA_R (by omega) hA71⟩
theorem ra_tl_2 {w : Nat → Bool} {d B R : Nat} {H : List (Nat × mg)} {hb : Bool} {h : am_Hp} {I : sm_I} {Q : mQ} {Z : mZ} (hA : RA w B R H hb h (I, Q, Z)) (hR : R + 1 < 40000) (hp0 : prk I 0) (hpk : prk I 2) (hnk : ¬ I 11 2 = -1) (hoh : ¬ I 12 2 = -1 → I 12 2 = ohI I 2) (h5 : ¬ I 12 2 = -1 → sq Q + hc H hb ≤ 5) (hd : 5 ≤ d) : am_Ev (am_prog w) d 127 [.ref 62, .int 2] h (fun r h' => r = none ∧ RA w B (R + 1) H hb h' (rtl 2 (I, Q, Z))) := by
  obtain ⟨K, Y, am, ln, hS, hU⟩ := RA_u.mp hA
  change sm (tbr am (13 * ln) 77 5088) h (jn I K) Y at hS
  obtain ⟨hW, hWm, -, -, hr, -⟩ := id hU.1
  have hln := RU_ln hU (by omega)
  obtain ⟨d, rfl⟩ : ∃ e, d = e + 1 := ⟨d - 1, by omega⟩
  refine ev_go rfl (Nat.le_of_ble_eq_true rfl) rfl ?_
  rcases hpk with e1 | e1 | e1
  · skip
    exact absurd e1 hnk
  · skip
    by_cases hbk : I 12 2 = -1
    · skip
      refine go_s (pc' := 1) rfl rfl rfl rfl ?_
      refine go_sget (pc' := 2) (v := .ref 80) hS rfl rfl rfl (by decide) rfl rfl ?_
      refine go_s (pc' := 3) rfl rfl rfl rfl ?_
      refine go_sald (pc' := 4) (q := 2) (v := .int (I 13 2)) hS rfl (tr_s hr (a := 80) rfl (by decide)) rfl rfl (by decide) rfl rfl ?_
      refine go_ifP (t' := 10) (pc' := 5) rfl rfl rfl (fun (c2 : (I 13 2) = 0) => ?_) (fun (c2 : ¬ (I 13 2) = 0) => ?_)
      · skip
        refine go_s (pc' := 11) rfl rfl rfl rfl ?_
        refine go_sget (pc' := 12) (v := .ref 79) hS rfl rfl rfl (by decide) rfl rfl ?_
        refine go_s (pc' := 13) rfl rfl rfl rfl ?_
        refine go_sald (pc' := 14) (q := 2) (v := .int (-1)) hS rfl (tr_s hr (a := 79) rfl (by decide)) rfl rfl (by decide) (congrArg Value.int hbk) rfl ?_
        refine go_s (pc' := 15) (st' := [.int (-1), .int (-1)]) rfl rfl rfl rfl ?_
        refine go_icmpP (t' := 20) (pc' := 16) rfl rfl rfl (fun (c : ¬ ((-1) : Int32) = (-1)) => absurd c (by decide)) (fun _ => ?_)
        refine go_s (pc' := 17) rfl rfl rfl rfl ?_
        refine go_s (pc' := 18) rfl rfl rfl rfl ?_
        have hU3 : RU w B R H hb h am ln K (I, Q, Z) := RU_I (sm_e_refl (tbr am (13 * ln) 77 5088) _) (I' := I) (fun _ => rfl) (fun _ => rfl) (Nat.le_refl _) hU
        have hA4 : RA w B R H hb h (I, Q, Z) := RA_u.mpr ⟨_, _, _, _, hS, hU3⟩
        refine go_callV (pc' := 19) rfl rfl rfl (Nat.le_of_ble_eq_true rfl) rfl (sm_o hS rfl) rfl rfl rfl (ra_go_2 hA4 (by omega) hp0 (Or.inr (Or.inl e1)) (fun z => absurd (e1.symm.trans z) (by decide)) (by omega)) (fun r h5 q6 => ?_)
        obtain ⟨rfl, hA7⟩ := q6
        refine go_ret rfl rfl ?_
        have hst : rst 2 (I, Q, Z) = ((I, Q, Z) : mM) := if_pos c2
        have hms : rtl 2 (I, Q, Z) = rgo 2 (I, Q, Z) := by
          unfold rtl
          rw [if_pos (show (I, Q, Z).1 12 2 = -1 from hbk), hst]
        rw [hms]
        exact ⟨rfl, RA_R (by omega) hA7⟩
      · skip
        refine go_s (pc' := 6) rfl rfl rfl rfl ?_
        refine go_sget (pc' := 7) (v := .ref 81) hS rfl rfl rfl (by decide) rfl rfl ?_
        refine go_s (pc' := 8) rfl rfl rfl rfl ?_
        refine go_s (pc' := 9) (st' := [.int 1, .int 2, .ref 81]) rfl rfl rfl rfl ?_
        refine go_szast (pc' := 10) (q := 2) hS rfl (tr_s hr (a := 81) rfl (by decide)) tbr_inj (Nat.le_of_ble_eq_true rfl) rfl (by decide) (by decide) rfl (hW _ (by decide) (by decide)) rfl (fun h8 hS9 hE10 => ?_)
        refine go_s (pc' := 11) rfl rfl rfl rfl ?_
        refine go_sget (pc' := 12) (v := .ref 79) hS9 rfl rfl rfl (by decide) rfl rfl ?_
        refine go_s (pc' := 13) rfl rfl rfl rfl ?_
        refine go_sald (pc' := 14) (q := 2) (v := .int (-1)) hS9 rfl (tr_s hr (a := 79) rfl (by decide)) rfl rfl (by decide) (congrArg Value.int hbk) rfl ?_
        refine go_s (pc' := 15) (st' := [.int (-1), .int (-1)]) rfl rfl rfl rfl ?_
        refine go_icmpP (t' := 20) (pc' := 16) rfl rfl rfl (fun (c : ¬ ((-1) : Int32) = (-1)) => absurd c (by decide)) (fun _ => ?_)
        refine go_s (pc' := 17) rfl rfl rfl rfl ?_
        refine go_s (pc' := 18) rfl rfl rfl rfl ?_
        change sm (tbr am (13 * ln) 77 5088) _ (uI (jn I K) 14 2 1) Y at hS9
        rw [jn_lo (c := 14) (by decide)] at hS9
        have hU11 : RU w B R H hb h8 am ln K ((uI I 14 2 1), Q, Z) := RU_I (hE10) (I' := (uI I 14 2 1)) (fun _ => rfl) (fun _ => rfl) (Nat.le_refl _) hU
        have hA12 : RA w B R H hb h8 ((uI I 14 2 1), Q, Z) := RA_u.mpr ⟨_, _, _, _, hS9, hU11⟩
        refine go_callV (pc' := 19) rfl rfl rfl (Nat.le_of_ble_eq_true rfl) rfl (sm_o hS9 rfl) rfl rfl rfl (ra_go_2 hA12 (by omega) hp0 (Or.inr (Or.inl e1)) (fun z => absurd (e1.symm.trans z) (by decide)) (by omega)) (fun r h13 q14 => ?_)
        obtain ⟨rfl, hA15⟩ := q14
        refine go_ret rfl rfl ?_
        have hst : rst 2 (I, Q, Z) = ((uI I 14 2 1, Q, Z) : mM) := if_neg c2
        have hms : rtl 2 (I, Q, Z) = rgo 2 (uI I 14 2 1, Q, Z) := by
          unfold rtl
          rw [if_pos (show (I, Q, Z).1 12 2 = -1 from hbk), hst]
        rw [hms]
        exact ⟨rfl, RA_R (by omega) hA15⟩
    · skip
      have e12 : I 12 2 = 3 := by
        rw [hoh hbk]
        unfold ohI
        rw [e1]
        rfl
      refine go_s (pc' := 1) rfl rfl rfl rfl ?_
      refine go_sget (pc' := 2) (v := .ref 80) hS rfl rfl rfl (by decide) rfl rfl ?_
      refine go_s (pc' := 3) rfl rfl rfl rfl ?_
      refine go_sald (pc' := 4) (q := 2) (v := .int (I 13 2)) hS rfl (tr_s hr (a := 80) rfl (by decide)) rfl rfl (by decide) rfl rfl ?_
      refine go_ifP (t' := 10) (pc' := 5) rfl rfl rfl (fun (c16 : (I 13 2) = 0) => ?_) (fun (c16 : ¬ (I 13 2) = 0) => ?_)
      · skip
        refine go_s (pc' := 11) rfl rfl rfl rfl ?_
        refine go_sget (pc' := 12) (v := .ref 79) hS rfl rfl rfl (by decide) rfl rfl ?_
        refine go_s (pc' := 13) rfl rfl rfl rfl ?_
        refine go_sald (pc' := 14) (q := 2) (v := .int 3) hS rfl (tr_s hr (a := 79) rfl (by decide)) rfl rfl (by decide) (congrArg Value.int e12) rfl ?_
        refine go_s (pc' := 15) (st' := [.int (-1), .int 3]) rfl rfl rfl rfl ?_
        refine go_icmpP (t' := 20) (pc' := 16) rfl rfl rfl (fun _ => ?_) (fun (c : ¬ (¬ (3 : Int32) = (-1))) => absurd (by decide) c)
        refine go_s (pc' := 21) rfl rfl rfl rfl ?_
        refine go_sget (pc' := 22) (v := .ref 83) hS rfl rfl rfl (by decide) rfl rfl ?_
        refine go_s (pc' := 23) rfl rfl rfl rfl ?_
        refine go_s (pc' := 24) (st' := [.int 1, .int 2, .ref 83]) rfl rfl rfl rfl ?_
        refine go_siast (pc' := 25) (q := 2) hS rfl (tr_s hr (a := 83) rfl (by decide)) tbr_inj (Nat.le_of_ble_eq_true rfl) rfl (by decide) (by decide) (hW _ (by decide) (by decide)) rfl (fun h17 hS18 hE19 => ?_)
        refine go_s (pc' := 26) rfl rfl rfl rfl ?_
        refine go_s (pc' := 27) rfl rfl rfl rfl ?_
        refine go_s (pc' := 28) (st' := [.int 3, .int 2, .ref 62]) rfl rfl rfl rfl ?_
        refine go_s (pc' := 29) rfl rfl rfl rfl ?_
        refine go_sget (pc' := 30) (v := .ref 79) hS18 rfl rfl rfl (by decide) rfl rfl ?_
        refine go_s (pc' := 31) rfl rfl rfl rfl ?_
        refine go_sald (pc' := 32) (q := 2) (v := .int 3) hS18 rfl (tr_s hr (a := 79) rfl (by decide)) rfl rfl (by decide) (congrArg Value.int e12) rfl ?_
        change sm (tbr am (13 * ln) 77 5088) _ (uI (jn I K) 16 2 1) Y at hS18
        rw [jn_lo (c := 16) (by decide)] at hS18
        have hU20 : RU w B R H hb h17 am ln K ((uI I 16 2 1), Q, Z) := RU_I (hE19) (I' := (uI I 16 2 1)) (fun _ => rfl) (fun _ => rfl) (Nat.le_refl _) hU
        have hA21 : RA w B R H hb h17 ((uI I 16 2 1), Q, Z) := RA_u.mpr ⟨_, _, _, _, hS18, hU20⟩
        refine go_callV (pc' := 33) rfl rfl rfl (Nat.le_of_ble_eq_true rfl) rfl (sm_o hS18 rfl) rfl rfl rfl (ra_ss_2 hA21 (by omega) (kd := 3) (t := 3) (by decide) (by decide) (Or.inr (Or.inl e1)) (fun z => absurd (e1.symm.trans z) (by decide)) (h5 hbk) (by omega)) (fun r h22 q23 => ?_)
        obtain ⟨rfl, hA24⟩ := q23
        refine go_ret rfl rfl ?_
        have hst : rst 2 (I, Q, Z) = ((I, Q, Z) : mM) := if_pos c16
        have hms : rtl 2 (I, Q, Z) = rss 2 3 3 ((uI I 16 2 1), Q, Z) := by
          unfold rtl
          rw [if_neg (show ¬ (I, Q, Z).1 12 2 = -1 from hbk), hst, show (I, Q, Z).1 12 2 = 3 from e12]
          rfl
        rw [hms]
        exact ⟨rfl, RA_R (by omega) hA24⟩
      · skip
        refine go_s (pc' := 6) rfl rfl rfl rfl ?_
        refine go_sget (pc' := 7) (v := .ref 81) hS rfl rfl rfl (by decide) rfl rfl ?_
        refine go_s (pc' := 8) rfl rfl rfl rfl ?_
        refine go_s (pc' := 9) (st' := [.int 1, .int 2, .ref 81]) rfl rfl rfl rfl ?_
        refine go_szast (pc' := 10) (q := 2) hS rfl (tr_s hr (a := 81) rfl (by decide)) tbr_inj (Nat.le_of_ble_eq_true rfl) rfl (by decide) (by decide) rfl (hW _ (by decide) (by decide)) rfl (fun h25 hS26 hE27 => ?_)
        refine go_s (pc' := 11) rfl rfl rfl rfl ?_
        refine go_sget (pc' := 12) (v := .ref 79) hS26 rfl rfl rfl (by decide) rfl rfl ?_
        refine go_s (pc' := 13) rfl rfl rfl rfl ?_
        refine go_sald (pc' := 14) (q := 2) (v := .int 3) hS26 rfl (tr_s hr (a := 79) rfl (by decide)) rfl rfl (by decide) (congrArg Value.int e12) rfl ?_
        refine go_s (pc' := 15) (st' := [.int (-1), .int 3]) rfl rfl rfl rfl ?_
        refine go_icmpP (t' := 20) (pc' := 16) rfl rfl rfl (fun _ => ?_) (fun (c : ¬ (¬ (3 : Int32) = (-1))) => absurd (by decide) c)
        refine go_s (pc' := 21) rfl rfl rfl rfl ?_
        refine go_sget (pc' := 22) (v := .ref 83) hS26 rfl rfl rfl (by decide) rfl rfl ?_
        refine go_s (pc' := 23) rfl rfl rfl rfl ?_
        refine go_s (pc' := 24) (st' := [.int 1, .int 2, .ref 83]) rfl rfl rfl rfl ?_
        refine go_siast (pc' := 25) (q := 2) hS26 rfl (tr_s hr (a := 83) rfl (by decide)) tbr_inj (Nat.le_of_ble_eq_true rfl) rfl (by decide) (by decide) (hW _ (by decide) (by decide)) rfl (fun h28 hS29 hE30 => ?_)
        have hE31 := sm_e_trans hE27 hE30
        refine go_s (pc' := 26) rfl rfl rfl rfl ?_
        refine go_s (pc' := 27) rfl rfl rfl rfl ?_
        refine go_s (pc' := 28) (st' := [.int 3, .int 2, .ref 62]) rfl rfl rfl rfl ?_
        refine go_s (pc' := 29) rfl rfl rfl rfl ?_
        refine go_sget (pc' := 30) (v := .ref 79) hS29 rfl rfl rfl (by decide) rfl rfl ?_
        refine go_s (pc' := 31) rfl rfl rfl rfl ?_
        refine go_sald (pc' := 32) (q := 2) (v := .int 3) hS29 rfl (tr_s hr (a := 79) rfl (by decide)) rfl rfl (by decide) (congrArg Value.int e12) rfl ?_
        change sm (tbr am (13 * ln) 77 5088) _ (uI (uI (jn I K) 14 2 1) 16 2 1) Y at hS29
        rw [jn_lo (c := 14) (by decide), jn_lo (c := 16) (by decide)] at hS29
        have hU32 : RU w B R H hb h28 am ln K ((uI (uI I 14 2 1) 16 2 1), Q, Z) := RU_I (hE31) (I' := (uI (uI I 14 2 1) 16 2 1)) (fun _ => rfl) (fun _ => rfl) (Nat.le_refl _) hU
        have hA33 : RA w B R H hb h28 ((uI (uI I 14 2 1) 16 2 1), Q, Z) := RA_u.mpr ⟨_, _, _, _, hS29, hU32⟩
        refine go_callV (pc' := 33) rfl rfl rfl (Nat.le_of_ble_eq_true rfl) rfl (sm_o hS29 rfl) rfl rfl rfl (ra_ss_2 hA33 (by omega) (kd := 3) (t := 3) (by decide) (by decide) (Or.inr (Or.inl e1)) (fun z => absurd (e1.symm.trans z) (by decide)) (h5 hbk) (by omega)) (fun r h34 q35 => ?_)
        obtain ⟨rfl, hA36⟩ := q35
        refine go_ret rfl rfl ?_
        have hst : rst 2 (I, Q, Z) = ((uI I 14 2 1, Q, Z) : mM) := if_neg c16
        have hms : rtl 2 (I, Q, Z) = rss 2 3 3 ((uI (uI I 14 2 1) 16 2 1), Q, Z) := by
          unfold rtl
          rw [if_neg (show ¬ (I, Q, Z).1 12 2 = -1 from hbk), hst, show (I, Q, Z).1 12 2 = 3 from e12]
          rfl
        rw [hms]
        exact ⟨rfl, RA_R (by omega) hA36⟩
  · skip
    by_cases hbk : I 12 2 = -1
    · skip
      refine go_s (pc' := 1) rfl rfl rfl rfl ?_
      refine go_sget (pc' := 2) (v := .ref 80) hS rfl rfl rfl (by decide) rfl rfl ?_
      refine go_s (pc' := 3) rfl rfl rfl rfl ?_
      refine go_sald (pc' := 4) (q := 2) (v := .int (I 13 2)) hS rfl (tr_s hr (a := 80) rfl (by decide)) rfl rfl (by decide) rfl rfl ?_
      refine go_ifP (t' := 10) (pc' := 5) rfl rfl rfl (fun (c37 : (I 13 2) = 0) => ?_) (fun (c37 : ¬ (I 13 2) = 0) => ?_)
      · skip
        refine go_s (pc' := 11) rfl rfl rfl rfl ?_
        refine go_sget (pc' := 12) (v := .ref 79) hS rfl rfl rfl (by decide) rfl rfl ?_
        refine go_s (pc' := 13) rfl rfl rfl rfl ?_
        refine go_sald (pc' := 14) (q := 2) (v := .int (-1)) hS rfl (tr_s hr (a := 79) rfl (by decide)) rfl rfl (by decide) (congrArg Value.int hbk) rfl ?_
        refine go_s (pc' := 15) (st' := [.int (-1), .int (-1)]) rfl rfl rfl rfl ?_
        refine go_icmpP (t' := 20) (pc' := 16) rfl rfl rfl (fun (c : ¬ ((-1) : Int32) = (-1)) => absurd c (by decide)) (fun _ => ?_)
        refine go_s (pc' := 17) rfl rfl rfl rfl ?_
        refine go_s (pc' := 18) rfl rfl rfl rfl ?_
        have hU38 : RU w B R H hb h am ln K (I, Q, Z) := RU_I (sm_e_refl (tbr am (13 * ln) 77 5088) _) (I' := I) (fun _ => rfl) (fun _ => rfl) (Nat.le_refl _) hU
        have hA39 : RA w B R H hb h (I, Q, Z) := RA_u.mpr ⟨_, _, _, _, hS, hU38⟩
        refine go_callV (pc' := 19) rfl rfl rfl (Nat.le_of_ble_eq_true rfl) rfl (sm_o hS rfl) rfl rfl rfl (ra_go_2 hA39 (by omega) hp0 (Or.inr (Or.inr e1)) (fun z => absurd (e1.symm.trans z) (by decide)) (by omega)) (fun r h40 q41 => ?_)
        obtain ⟨rfl, hA42⟩ := q41
        refine go_ret rfl rfl ?_
        have hst : rst 2 (I, Q, Z) = ((I, Q, Z) : mM) := if_pos c37
        have hms : rtl 2 (I, Q, Z) = rgo 2 (I, Q, Z) := by
          unfold rtl
          rw [if_pos (show (I, Q, Z).1 12 2 = -1 from hbk), hst]
        rw [hms]
        exact ⟨rfl, RA_R (by omega) hA42⟩
      · skip
        refine go_s (pc' := 6) rfl rfl rfl rfl ?_
        refine go_sget (pc' := 7) (v := .ref 81) hS rfl rfl rfl (by decide) rfl rfl ?_
        refine go_s (pc' := 8) rfl rfl rfl rfl ?_
        refine go_s (pc' := 9) (st' := [.int 1, .int 2, .ref 81]) rfl rfl rfl rfl ?_
        refine go_szast (pc' := 10) (q := 2) hS rfl (tr_s hr (a := 81) rfl (by decide)) tbr_inj (Nat.le_of_ble_eq_true rfl) rfl (by decide) (by decide) rfl (hW _ (by decide) (by decide)) rfl (fun h43 hS44 hE45 => ?_)
        refine go_s (pc' := 11) rfl rfl rfl rfl ?_
        refine go_sget (pc' := 12) (v := .ref 79) hS44 rfl rfl rfl (by decide) rfl rfl ?_
        refine go_s (pc' := 13) rfl rfl rfl rfl ?_
        refine go_sald (pc' := 14) (q := 2) (v := .int (-1)) hS44 rfl (tr_s hr (a := 79) rfl (by decide)) rfl rfl (by decide) (congrArg Value.int hbk) rfl ?_
        refine go_s (pc' := 15) (st' := [.int (-1), .int (-1)]) rfl rfl rfl rfl ?_
        refine go_icmpP (t' := 20) (pc' := 16) rfl rfl rfl (fun (c : ¬ ((-1) : Int32) = (-1)) => absurd c (by decide)) (fun _ => ?_)
        refine go_s (pc' := 17) rfl rfl rfl rfl ?_
        refine go_s (pc' := 18) rfl rfl rfl rfl ?_
        change sm (tbr am (13 * ln) 77 5088) _ (uI (jn I K) 14 2 1) Y at hS44
        rw [jn_lo (c := 14) (by decide)] at hS44
        have hU46 : RU w B R H hb h43 am ln K ((uI I 14 2 1), Q, Z) := RU_I (hE45) (I' := (uI I 14 2 1)) (fun _ => rfl) (fun _ => rfl) (Nat.le_refl _) hU
        have hA47 : RA w B R H hb h43 ((uI I 14 2 1), Q, Z) := RA_u.mpr ⟨_, _, _, _, hS44, hU46⟩
        refine go_callV (pc' := 19) rfl rfl rfl (Nat.le_of_ble_eq_true rfl) rfl (sm_o hS44 rfl) rfl rfl rfl (ra_go_2 hA47 (by omega) hp0 (Or.inr (Or.inr e1)) (fun z => absurd (e1.symm.trans z) (by decide)) (by omega)) (fun r h48 q49 => ?_)
        obtain ⟨rfl, hA50⟩ := q49
        refine go_ret rfl rfl ?_
        have hst : rst 2 (I, Q, Z) = ((uI I 14 2 1, Q, Z) : mM) := if_neg c37
        have hms : rtl 2 (I, Q, Z) = rgo 2 (uI I 14 2 1, Q, Z) := by
          unfold rtl
          rw [if_pos (show (I, Q, Z).1 12 2 = -1 from hbk), hst]
        rw [hms]
        exact ⟨rfl, RA_R (by omega) hA50⟩
    · skip
      have e12 : I 12 2 = 2 := by
        rw [hoh hbk]
        unfold ohI
        rw [e1]
        rfl
      refine go_s (pc' := 1) rfl rfl rfl rfl ?_
      refine go_sget (pc' := 2) (v := .ref 80) hS rfl rfl rfl (by decide) rfl rfl ?_
      refine go_s (pc' := 3) rfl rfl rfl rfl ?_
      refine go_sald (pc' := 4) (q := 2) (v := .int (I 13 2)) hS rfl (tr_s hr (a := 80) rfl (by decide)) rfl rfl (by decide) rfl rfl ?_
      refine go_ifP (t' := 10) (pc' := 5) rfl rfl rfl (fun (c51 : (I 13 2) = 0) => ?_) (fun (c51 : ¬ (I 13 2) = 0) => ?_)
      · skip
        refine go_s (pc' := 11) rfl rfl rfl rfl ?_
        refine go_sget (pc' := 12) (v := .ref 79) hS rfl rfl rfl (by decide) rfl rfl ?_
        refine go_s (pc' := 13) rfl rfl rfl rfl ?_
        refine go_sald (pc' := 14) (q := 2) (v := .int 2) hS rfl (tr_s hr (a := 79) rfl (by decide)) rfl rfl (by decide) (congrArg Value.int e12) rfl ?_
        refine go_s (pc' := 15) (st' := [.int (-1), .int 2]) rfl rfl rfl rfl ?_
        refine go_icmpP (t' := 20) (pc' := 16) rfl rfl rfl (fun _ => ?_) (fun (c : ¬ (¬ (2 : Int32) = (-1))) => absurd (by decide) c)
        refine go_s (pc' := 21) rfl rfl rfl rfl ?_
        refine go_sget (pc' := 22) (v := .ref 83) hS rfl rfl rfl (by decide) rfl rfl ?_
        refine go_s (pc' := 23) rfl rfl rfl rfl ?_
        refine go_s (pc' := 24) (st' := [.int 1, .int 2, .ref 83]) rfl rfl rfl rfl ?_
        refine go_siast (pc' := 25) (q := 2) hS rfl (tr_s hr (a := 83) rfl (by decide)) tbr_inj (Nat.le_of_ble_eq_true rfl) rfl (by decide) (by decide) (hW _ (by decide) (by decide)) rfl (fun h52 hS53 hE54 => ?_)
        refine go_s (pc' := 26) rfl rfl rfl rfl ?_
        refine go_s (pc' := 27) rfl rfl rfl rfl ?_
        refine go_s (pc' := 28) (st' := [.int 3, .int 2, .ref 62]) rfl rfl rfl rfl ?_
        refine go_s (pc' := 29) rfl rfl rfl rfl ?_
        refine go_sget (pc' := 30) (v := .ref 79) hS53 rfl rfl rfl (by decide) rfl rfl ?_
        refine go_s (pc' := 31) rfl rfl rfl rfl ?_
        refine go_sald (pc' := 32) (q := 2) (v := .int 2) hS53 rfl (tr_s hr (a := 79) rfl (by decide)) rfl rfl (by decide) (congrArg Value.int e12) rfl ?_
        change sm (tbr am (13 * ln) 77 5088) _ (uI (jn I K) 16 2 1) Y at hS53
        rw [jn_lo (c := 16) (by decide)] at hS53
        have hU55 : RU w B R H hb h52 am ln K ((uI I 16 2 1), Q, Z) := RU_I (hE54) (I' := (uI I 16 2 1)) (fun _ => rfl) (fun _ => rfl) (Nat.le_refl _) hU
        have hA56 : RA w B R H hb h52 ((uI I 16 2 1), Q, Z) := RA_u.mpr ⟨_, _, _, _, hS53, hU55⟩
        refine go_callV (pc' := 33) rfl rfl rfl (Nat.le_of_ble_eq_true rfl) rfl (sm_o hS53 rfl) rfl rfl rfl (ra_ss_2 hA56 (by omega) (kd := 3) (t := 2) (by decide) (by decide) (Or.inr (Or.inr e1)) (fun z => absurd (e1.symm.trans z) (by decide)) (h5 hbk) (by omega)) (fun r h57 q58 => ?_)
        obtain ⟨rfl, hA59⟩ := q58
        refine go_ret rfl rfl ?_
        have hst : rst 2 (I, Q, Z) = ((I, Q, Z) : mM) := if_pos c51
        have hms : rtl 2 (I, Q, Z) = rss 2 3 2 ((uI I 16 2 1), Q, Z) := by
          unfold rtl
          rw [if_neg (show ¬ (I, Q, Z).1 12 2 = -1 from hbk), hst, show (I, Q, Z).1 12 2 = 2 from e12]
          rfl
        rw [hms]
        exact ⟨rfl, RA_R (by omega) hA59⟩
      · skip
        refine go_s (pc' := 6) rfl rfl rfl rfl ?_
        refine go_sget (pc' := 7) (v := .ref 81) hS rfl rfl rfl (by decide) rfl rfl ?_
        refine go_s (pc' := 8) rfl rfl rfl rfl ?_
        refine go_s (pc' := 9) (st' := [.int 1, .int 2, .ref 81]) rfl rfl rfl rfl ?_
        refine go_szast (pc' := 10) (q := 2) hS rfl (tr_s hr (a := 81) rfl (by decide)) tbr_inj (Nat.le_of_ble_eq_true rfl) rfl (by decide) (by decide) rfl (hW _ (by decide) (by decide)) rfl (fun h60 hS61 hE62 => ?_)
        refine go_s (pc' := 11) rfl rfl rfl rfl ?_
        refine go_sget (pc' := 12) (v := .ref 79) hS61 rfl rfl rfl (by decide) rfl rfl ?_
        refine go_s (pc' := 13) rfl rfl rfl rfl ?_
        refine go_sald (pc' := 14) (q := 2) (v := .int 2) hS61 rfl (tr_s hr (a := 79) rfl (by decide)) rfl rfl (by decide) (congrArg Value.int e12) rfl ?_
        refine go_s (pc' := 15) (st' := [.int (-1), .int 2]) rfl rfl rfl rfl ?_
        refine go_icmpP (t' := 20) (pc' := 16) rfl rfl rfl (fun _ => ?_) (fun (c : ¬ (¬ (2 : Int32) = (-1))) => absurd (by decide) c)
        refine go_s (pc' := 21) rfl rfl rfl rfl ?_
        refine go_sget (pc' := 22) (v := .ref 83) hS61 rfl rfl rfl (by decide) rfl rfl ?_
        refine go_s (pc' := 23) rfl rfl rfl rfl ?_
        refine go_s (pc' := 24) (st' := [.int 1, .int 2, .ref 83]) rfl rfl rfl rfl ?_
        refine go_siast (pc' := 25) (q := 2) hS61 rfl (tr_s hr (a := 83) rfl (by decide)) tbr_inj (Nat.le_of_ble_eq_true rfl) rfl (by decide) (by decide) (hW _ (by decide) (by decide)) rfl (fun h63 hS64 hE65 => ?_)
        have hE66 := sm_e_trans hE62 hE65
        refine go_s (pc' := 26) rfl rfl rfl rfl ?_
        refine go_s (pc' := 27) rfl rfl rfl rfl ?_
        refine go_s (pc' := 28) (st' := [.int 3, .int 2, .ref 62]) rfl rfl rfl rfl ?_
        refine go_s (pc' := 29) rfl rfl rfl rfl ?_
        refine go_sget (pc' := 30) (v := .ref 79) hS64 rfl rfl rfl (by decide) rfl rfl ?_
        refine go_s (pc' := 31) rfl rfl rfl rfl ?_
        refine go_sald (pc' := 32) (q := 2) (v := .int 2) hS64 rfl (tr_s hr (a := 79) rfl (by decide)) rfl rfl (by decide) (congrArg Value.int e12) rfl ?_
        change sm (tbr am (13 * ln) 77 5088) _ (uI (uI (jn I K) 14 2 1) 16 2 1) Y at hS64
        rw [jn_lo (c := 14) (by decide), jn_lo (c := 16) (by decide)] at hS64
        have hU67 : RU w B R H hb h63 am ln K ((uI (uI I 14 2 1) 16 2 1), Q, Z) := RU_I (hE66) (I' := (uI (uI I 14 2 1) 16 2 1)) (fun _ => rfl) (fun _ => rfl) (Nat.le_refl _) hU
        have hA68 : RA w B R H hb h63 ((uI (uI I 14 2 1) 16 2 1), Q, Z) := RA_u.mpr ⟨_, _, _, _, hS64, hU67⟩
        refine go_callV (pc' := 33) rfl rfl rfl (Nat.le_of_ble_eq_true rfl) rfl (sm_o hS64 rfl) rfl rfl rfl (ra_ss_2 hA68 (by omega) (kd := 3) (t := 2) (by decide) (by decide) (Or.inr (Or.inr e1)) (fun z => absurd (e1.symm.trans z) (by decide)) (h5 hbk) (by omega)) (fun r h69 q70 => ?_)
        obtain ⟨rfl, hA71⟩ := q70
        refine go_ret rfl rfl ?_
        have hst : rst 2 (I, Q, Z) = ((uI I 14 2 1, Q, Z) : mM) := if_neg c51
        have hms : rtl 2 (I, Q, Z) = rss 2 3 2 ((uI (uI I 14 2 1) 16 2 1), Q, Z) := by
          unfold rtl
          rw [if_neg (show ¬ (I, Q, Z).1 12 2 = -1 from hbk), hst, show (I, Q, Z).1 12 2 = 2 from e12]
          rfl
        rw [hms]
        exact ⟨rfl, RA_R (by omega) hA71⟩
