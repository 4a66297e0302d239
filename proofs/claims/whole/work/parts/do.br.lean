theorem ra_rd0_0 {w : Nat → Bool} {d B R : Nat} {x : Nat} {m : mg} {hb : Bool} {h : am_Hp} {I : sm_I} {Q : mQ} {Z : mZ} (hA : RA w B R [(x, m)] hb h (I, Q, Z)) (hR : R + 0 < 40000) (hpk : prk I 1) (hnk : ¬ I 11 1 = -1) (h16 : ¬ I 16 1 = 2) (hd : 2 ≤ d) : am_Ev (am_prog w) d 182 [.ref 62, .int 1, .int (nI (13 * x))] h (fun r h' => r = none ∧ h' = h) := by
  obtain ⟨K, Y, am, ln, hS, hU⟩ := RA_u.mp hA
  change sm (tbr am (13 * ln) 77 5088) h (jn I K) Y at hS
  obtain ⟨hW, hWm, -, -, hr, -⟩ := id hU.1
  have hln := RU_ln hU (by omega)
  obtain ⟨d, rfl⟩ : ∃ e, d = e + 1 := ⟨d - 1, by omega⟩
  refine ev_go rfl (Nat.le_of_ble_eq_true rfl) rfl ?_
  rcases hpk with e1 | e1 | e1
  · skip
    exact absurd e1 hnk
  · skip
    refine go_s (pc' := 1) rfl rfl rfl rfl ?_
    refine go_s (pc' := 2) rfl rfl rfl rfl ?_
    refine go_callV (pc' := 3) rfl rfl rfl (Nat.le_of_ble_eq_true rfl) rfl (sm_o hS rfl) rfl rfl rfl (rt_at_1 hr hS (Or.inr (Or.inl e1)) (fun z => absurd (e1.symm.trans z) (by decide)) (by omega)) (fun r h2 q3 => ?_)
    obtain ⟨rfl, rfl⟩ := q3
    rw [show rwi (jn I K) 1 = 2 by unfold rwi pn; rw [show (jn I K) 11 1 = 2 from e1]; rfl]
    show am_Go _ _ _ _ 3 _ [.int 848] _ _
    refine go_s (pc' := 4) (lo' := [some (.ref 62), some (.int 1), some (.int (nI (13 * x))), some (.int 848), none]) rfl rfl rfl rfl ?_
    refine go_s (pc' := 5) rfl rfl rfl rfl ?_
    refine go_sget (pc' := 6) (v := .ref 83) hS rfl rfl rfl (by decide) rfl rfl ?_
    refine go_s (pc' := 7) rfl rfl rfl rfl ?_
    refine go_sald (pc' := 8) (q := 1) (v := .int (I 16 1)) hS rfl (tr_s hr (a := 83) rfl (by decide)) rfl rfl (by decide) rfl rfl ?_
    refine go_s (pc' := 9) (st' := [.int 2, .int (I 16 1)]) rfl rfl rfl rfl ?_
    refine go_icmpP (t' := 36) (pc' := 10) rfl rfl rfl (fun _ => ?_) (fun (c : ¬ (¬ (I 16 1) = 2)) => absurd h16 c)
    refine go_ret rfl rfl ?_
    exact ⟨rfl, rfl⟩
  · skip
    refine go_s (pc' := 1) rfl rfl rfl rfl ?_
    refine go_s (pc' := 2) rfl rfl rfl rfl ?_
    refine go_callV (pc' := 3) rfl rfl rfl (Nat.le_of_ble_eq_true rfl) rfl (sm_o hS rfl) rfl rfl rfl (rt_at_1 hr hS (Or.inr (Or.inr e1)) (fun z => absurd (e1.symm.trans z) (by decide)) (by omega)) (fun r h4 q5 => ?_)
    obtain ⟨rfl, rfl⟩ := q5
    rw [show rwi (jn I K) 1 = 3 by unfold rwi pn; rw [show (jn I K) 11 1 = 3 from e1]; rfl]
    show am_Go _ _ _ _ 3 _ [.int 1272] _ _
    refine go_s (pc' := 4) (lo' := [some (.ref 62), some (.int 1), some (.int (nI (13 * x))), some (.int 1272), none]) rfl rfl rfl rfl ?_
    refine go_s (pc' := 5) rfl rfl rfl rfl ?_
    refine go_sget (pc' := 6) (v := .ref 83) hS rfl rfl rfl (by decide) rfl rfl ?_
    refine go_s (pc' := 7) rfl rfl rfl rfl ?_
    refine go_sald (pc' := 8) (q := 1) (v := .int (I 16 1)) hS rfl (tr_s hr (a := 83) rfl (by decide)) rfl rfl (by decide) rfl rfl ?_
    refine go_s (pc' := 9) (st' := [.int 2, .int (I 16 1)]) rfl rfl rfl rfl ?_
    refine go_icmpP (t' := 36) (pc' := 10) rfl rfl rfl (fun _ => ?_) (fun (c : ¬ (¬ (I 16 1) = 2)) => absurd h16 c)
    refine go_ret rfl rfl ?_
    exact ⟨rfl, rfl⟩
theorem ra_rd0_1 {w : Nat → Bool} {d B R : Nat} {x : Nat} {m : mg} {hb : Bool} {h : am_Hp} {I : sm_I} {Q : mQ} {Z : mZ} (hA : RA w B R [(x, m)] hb h (I, Q, Z)) (hR : R + 0 < 40000) (hpk : prk I 2) (hnk : ¬ I 11 2 = -1) (h16 : ¬ I 16 2 = 2) (hd : 2 ≤ d) : am_Ev (am_prog w) d 182 [.ref 62, .int 2, .int (nI (13 * x))] h (fun r h' => r = none ∧ h' = h) := by
  obtain ⟨K, Y, am, ln, hS, hU⟩ := RA_u.mp hA
  change sm (tbr am (13 * ln) 77 5088) h (jn I K) Y at hS
  obtain ⟨hW, hWm, -, -, hr, -⟩ := id hU.1
  have hln := RU_ln hU (by omega)
  obtain ⟨d, rfl⟩ : ∃ e, d = e + 1 := ⟨d - 1, by omega⟩
  refine ev_go rfl (Nat.le_of_ble_eq_true rfl) rfl ?_
  rcases hpk with e1 | e1 | e1
  · skip
    exact absurd e1 hnk
  · skip
    refine go_s (pc' := 1) rfl rfl rfl rfl ?_
    refine go_s (pc' := 2) rfl rfl rfl rfl ?_
    refine go_callV (pc' := 3) rfl rfl rfl (Nat.le_of_ble_eq_true rfl) rfl (sm_o hS rfl) rfl rfl rfl (rt_at_2 hr hS (Or.inr (Or.inl e1)) (fun z => absurd (e1.symm.trans z) (by decide)) (by omega)) (fun r h2 q3 => ?_)
    obtain ⟨rfl, rfl⟩ := q3
    rw [show rwi (jn I K) 2 = 4 by unfold rwi pn; rw [show (jn I K) 11 2 = 2 from e1]; rfl]
    show am_Go _ _ _ _ 3 _ [.int 1696] _ _
    refine go_s (pc' := 4) (lo' := [some (.ref 62), some (.int 2), some (.int (nI (13 * x))), some (.int 1696), none]) rfl rfl rfl rfl ?_
    refine go_s (pc' := 5) rfl rfl rfl rfl ?_
    refine go_sget (pc' := 6) (v := .ref 83) hS rfl rfl rfl (by decide) rfl rfl ?_
    refine go_s (pc' := 7) rfl rfl rfl rfl ?_
    refine go_sald (pc' := 8) (q := 2) (v := .int (I 16 2)) hS rfl (tr_s hr (a := 83) rfl (by decide)) rfl rfl (by decide) rfl rfl ?_
    refine go_s (pc' := 9) (st' := [.int 2, .int (I 16 2)]) rfl rfl rfl rfl ?_
    refine go_icmpP (t' := 36) (pc' := 10) rfl rfl rfl (fun _ => ?_) (fun (c : ¬ (¬ (I 16 2) = 2)) => absurd h16 c)
    refine go_ret rfl rfl ?_
    exact ⟨rfl, rfl⟩
  · skip
    refine go_s (pc' := 1) rfl rfl rfl rfl ?_
    refine go_s (pc' := 2) rfl rfl rfl rfl ?_
    refine go_callV (pc' := 3) rfl rfl rfl (Nat.le_of_ble_eq_true rfl) rfl (sm_o hS rfl) rfl rfl rfl (rt_at_2 hr hS (Or.inr (Or.inr e1)) (fun z => absurd (e1.symm.trans z) (by decide)) (by omega)) (fun r h4 q5 => ?_)
    obtain ⟨rfl, rfl⟩ := q5
    rw [show rwi (jn I K) 2 = 5 by unfold rwi pn; rw [show (jn I K) 11 2 = 3 from e1]; rfl]
    show am_Go _ _ _ _ 3 _ [.int 2120] _ _
    refine go_s (pc' := 4) (lo' := [some (.ref 62), some (.int 2), some (.int (nI (13 * x))), some (.int 2120), none]) rfl rfl rfl rfl ?_
    refine go_s (pc' := 5) rfl rfl rfl rfl ?_
    refine go_sget (pc' := 6) (v := .ref 83) hS rfl rfl rfl (by decide) rfl rfl ?_
    refine go_s (pc' := 7) rfl rfl rfl rfl ?_
    refine go_sald (pc' := 8) (q := 2) (v := .int (I 16 2)) hS rfl (tr_s hr (a := 83) rfl (by decide)) rfl rfl (by decide) rfl rfl ?_
    refine go_s (pc' := 9) (st' := [.int 2, .int (I 16 2)]) rfl rfl rfl rfl ?_
    refine go_icmpP (t' := 36) (pc' := 10) rfl rfl rfl (fun _ => ?_) (fun (c : ¬ (¬ (I 16 2) = 2)) => absurd h16 c)
    refine go_ret rfl rfl ?_
    exact ⟨rfl, rfl⟩
theorem ra_br_0 {w : Nat → Bool} {d B R : Nat} {x : Nat} {m : mg} {hb : Bool} {h : am_Hp} {I : sm_I} {Q : mQ} {Z : mZ} (hA : RA w B R [(x, m)] hb h (I, Q, Z)) (hR : R + 12 < 40000) {X : Nat} (hX : X + 60 < 2 ^ 28) (hN : INV X (I, Q, Z)) (hMK : MK m) (hup : I 0 0 = 1) {f : Nat} (hf : f < 4) (hwd : ∀ k, k < 3 → m.1 0 = 5 → m.1 5 = nI k → m.1 6 = I 15 k → (∀ i y, ¬ US I Q k i y) ∧ (I 16 k = 1 → MID (X + 1) (rgo k (I, Q, Z)))) (hd : 11 ≤ d) : am_Ev (am_prog w) d 179 [.ref 62, .int (nI (13 * x)), .int (nI f), .int 0] h (fun r h' => r = none ∧ RA w B (R + 4) [(x, m)] hb h' (rbr f 0 m (I, Q, Z))) := by
  obtain ⟨K, Y, am, ln, hS, hU⟩ := RA_u.mp hA
  change sm (tbr am (13 * ln) 77 5088) h (jn I K) Y at hS
  obtain ⟨hW, hWm, -, -, hr, -⟩ := id hU.1
  have hln := RU_ln hU (by omega)
  obtain ⟨d, rfl⟩ : ∃ e, d = e + 1 := ⟨d - 1, by omega⟩
  refine ev_go rfl (Nat.le_of_ble_eq_true rfl) rfl ?_
  have hx := RU_h hU (x := x) (m := m) (by simp)
  have hxl := hx.1
  have hp0 : prk I 0 := (hN.1.2.2.1 0 (by decide)).1
  have hp1 : prk I 1 := (hN.1.2.2.1 1 (by decide)).1
  have hp2 : prk I 2 := (hN.1.2.2.1 2 (by decide)).1
  obtain ⟨mk1, mk2, mk3, mk4⟩ := MK_5 hMK
  rcases mk4 with h0 | h0 | h0 | h0 | h0
  · skip
    have hhc : hc [(x, m)] hb = 0 := by
      have z : isS m = false := by unfold isS; rw [h0]; rfl
      cases hb
      · rfl
      · show List.countP (fun p => isS p.2) [(x, m)] = 0
        simp [z]
    obtain ⟨k9, hk9, e5⟩ := mk1 h0
    obtain rfl | rfl : k9 = 0 ∨ k9 = 1 := by omega
    · skip
      have ec : (m.1 5).toNatClampNeg = 0 := by rw [e5]; rfl
      refine go_s (pc' := 1) rfl rfl rfl rfl ?_
      refine go_sget (pc' := 2) (v := .ref am) hS rfl rfl rfl (by decide) rfl rfl ?_
      refine go_s (pc' := 3) rfl rfl rfl rfl ?_
      refine go_s (pc' := 4) (st' := [.int 5, .int (nI (13 * x)), .ref am]) rfl rfl rfl rfl ?_
      refine go_nadd (pc' := 5) (a := (13 * x)) (b := 5) rfl rfl rfl rfl rfl ?_
      refine go_sald (pc' := 6) (q := ((13 * x) + 5)) (v := .int 0) hS rfl (tr_ms hr (by omega)) rfl rfl (by omega) (congrArg Value.int (hx.2.2.2.1.trans e5)) rfl ?_
      refine go_s (pc' := 7) (lo' := [some (.ref 62), some (.int (nI (13 * x))), some (.int (nI f)), some (.int 0), some (.int 0), none]) rfl rfl rfl rfl ?_
      refine go_s (pc' := 8) rfl rfl rfl rfl ?_
      refine go_sget (pc' := 9) (v := .ref am) hS rfl rfl rfl (by decide) rfl rfl ?_
      refine go_s (pc' := 10) rfl rfl rfl rfl ?_
      refine go_s (pc' := 11) (st' := [.int 0, .int (nI (13 * x)), .ref am]) rfl rfl rfl rfl ?_
      refine go_nadd (pc' := 12) (a := (13 * x)) (b := 0) rfl rfl rfl rfl rfl ?_
      refine go_sald (pc' := 13) (q := ((13 * x) + 0)) (v := .int 1) hS rfl (tr_ms hr (by omega)) rfl rfl (by omega) (congrArg Value.int (hx.2.1.trans h0)) rfl ?_
      refine go_tsw (t' := 14) rfl (Or.inr ⟨by decide, rfl⟩) rfl ?_
      refine go_s (pc' := 15) rfl rfl rfl rfl ?_
      refine go_sget (pc' := 16) (v := .ref 78) hS rfl rfl rfl (by decide) rfl rfl ?_
      refine go_s (pc' := 17) (st' := [.int 0, .ref 78]) rfl rfl rfl rfl ?_
      refine go_sald (pc' := 18) (q := 0) (v := .int (I 11 0)) hS rfl (tr_s hr (a := 78) rfl (by decide)) rfl rfl (by decide) rfl rfl ?_
      refine go_s (pc' := 19) rfl rfl rfl rfl ?_
      refine go_icmpP (t' := 21) (pc' := 20) rfl rfl rfl (fun (c1 : (I 11 0) = 0) => ?_) (fun (c1 : ¬ (I 11 0) = 0) => ?_)
      · skip
        refine go_s (pc' := 22) rfl rfl rfl rfl ?_
        refine go_s (pc' := 23) rfl rfl rfl rfl ?_
        have hn0 : ¬ I 11 0 = -1 := fun z => absurd (c1.symm.trans z) (by decide)
        obtain ⟨n, hn8, en, -⟩ := hN.1.2.2.2.2.1.2.2.2.2.2.1
        have hU2 : RU w B R [(x, m)] hb h am ln K (I, Q, Z) := RU_I (sm_e_refl (tbr am (13 * ln) 77 5088) _) (I' := I) (fun _ => rfl) (fun _ => rfl) (Nat.le_refl _) hU
        have hA3 : RA w B R [(x, m)] hb h (I, Q, Z) := RA_u.mpr ⟨_, _, _, _, hS, hU2⟩
        refine go_callV (pc' := 24) rfl rfl rfl (Nat.le_of_ble_eq_true rfl) rfl (sm_o hS rfl) rfl rfl rfl (ra_cm_0 hA3 (by omega) h0 e5 en hn8 hp0 hn0 (by omega)) (fun r h4 q5 => ?_)
        obtain ⟨rfl, hA6⟩ := q5
        change RA w B (R + 2) [(x, m)] hb h4 (mac (fun i => m.1 (5 + i)) (I, Q, Z)) at hA6
        obtain ⟨M7, eM7⟩ : ∃ y : mM, y = (mac (fun i => m.1 (5 + i)) (I, Q, Z)) := ⟨_, rfl⟩
        rw [← eM7] at hA6
        obtain ⟨I7, Q7, Z7⟩ := M7
        obtain ⟨K7, Y7, am7, ln7, hS7, hU7⟩ := RA_u.mp hA6
        change sm (tbr am7 (13 * ln7) 77 5088) h4 (jn I7 K7) Y7 at hS7
        obtain ⟨-, hWm7, -, -, hr7, -⟩ := id hU7.1
        have hln7 := RU_ln hU7 (by omega)
        refine go_s (pc' := 25) rfl rfl rfl rfl ?_
        have hM9 : MID X (I7, Q7, Z7) := by
          rw [eM7]
          exact MID_ac hN.1 (lv_of (p := 0) c1 (by decide) (by show ¬ I 0 0 = 0; rw [hup]; decide)) ⟨0, by decide, e5⟩
        have hU8 : RU w B (R + 2) [(x, m)] hb h4 am7 ln7 K7 (I7, Q7, Z7) := RU_I (sm_e_refl (tbr am7 (13 * ln7) 77 5088) _) (I' := I7) (fun _ => rfl) (fun _ => rfl) (Nat.le_refl _) hU7
        have hA9 : RA w B (R + 2) [(x, m)] hb h4 (I7, Q7, Z7) := RA_u.mpr ⟨_, _, _, _, hS7, hU8⟩
        refine go_callV (pc' := 26) rfl rfl rfl (Nat.le_of_ble_eq_true rfl) rfl (sm_o hS7 rfl) rfl rfl rfl (ra_set hA9 (by omega) hM9 (by omega) hhc (by omega)) (fun r h10 q11 => ?_)
        obtain ⟨rfl, hA12⟩ := q11
        refine go_s (pc' := 100) rfl rfl rfl rfl ?_
        refine go_ret rfl rfl ?_
        have hms : rbr f 0 m (I, Q, Z) = rset 30 (I7, Q7, Z7) := by
          unfold rbr
          rw [if_pos h0, if_pos (show ((I, Q, Z) : mM).1 11 0 = nI 0 from c1), eM7]
        rw [hms]
        exact ⟨rfl, RA_R (by omega) hA12⟩
      · skip
        refine go_ret rfl rfl ?_
        have hms : rbr f 0 m (I, Q, Z) = (I, Q, Z) := by
          unfold rbr
          rw [if_pos h0, if_neg (show ¬ ((I, Q, Z) : mM).1 11 0 = nI 0 from c1)]
        rw [hms]
        exact ⟨rfl, RA_R (by omega) hA⟩
    · skip
      have ec : (m.1 5).toNatClampNeg = 1 := by rw [e5]; rfl
      refine go_s (pc' := 1) rfl rfl rfl rfl ?_
      refine go_sget (pc' := 2) (v := .ref am) hS rfl rfl rfl (by decide) rfl rfl ?_
      refine go_s (pc' := 3) rfl rfl rfl rfl ?_
      refine go_s (pc' := 4) (st' := [.int 5, .int (nI (13 * x)), .ref am]) rfl rfl rfl rfl ?_
      refine go_nadd (pc' := 5) (a := (13 * x)) (b := 5) rfl rfl rfl rfl rfl ?_
      refine go_sald (pc' := 6) (q := ((13 * x) + 5)) (v := .int 1) hS rfl (tr_ms hr (by omega)) rfl rfl (by omega) (congrArg Value.int (hx.2.2.2.1.trans e5)) rfl ?_
      refine go_s (pc' := 7) (lo' := [some (.ref 62), some (.int (nI (13 * x))), some (.int (nI f)), some (.int 0), some (.int 1), none]) rfl rfl rfl rfl ?_
      refine go_s (pc' := 8) rfl rfl rfl rfl ?_
      refine go_sget (pc' := 9) (v := .ref am) hS rfl rfl rfl (by decide) rfl rfl ?_
      refine go_s (pc' := 10) rfl rfl rfl rfl ?_
      refine go_s (pc' := 11) (st' := [.int 0, .int (nI (13 * x)), .ref am]) rfl rfl rfl rfl ?_
      refine go_nadd (pc' := 12) (a := (13 * x)) (b := 0) rfl rfl rfl rfl rfl ?_
      refine go_sald (pc' := 13) (q := ((13 * x) + 0)) (v := .int 1) hS rfl (tr_ms hr (by omega)) rfl rfl (by omega) (congrArg Value.int (hx.2.1.trans h0)) rfl ?_
      refine go_tsw (t' := 14) rfl (Or.inr ⟨by decide, rfl⟩) rfl ?_
      refine go_s (pc' := 15) rfl rfl rfl rfl ?_
      refine go_sget (pc' := 16) (v := .ref 78) hS rfl rfl rfl (by decide) rfl rfl ?_
      refine go_s (pc' := 17) (st' := [.int 0, .ref 78]) rfl rfl rfl rfl ?_
      refine go_sald (pc' := 18) (q := 0) (v := .int (I 11 0)) hS rfl (tr_s hr (a := 78) rfl (by decide)) rfl rfl (by decide) rfl rfl ?_
      refine go_s (pc' := 19) rfl rfl rfl rfl ?_
      refine go_icmpP (t' := 21) (pc' := 20) rfl rfl rfl (fun (c13 : (I 11 0) = 0) => ?_) (fun (c13 : ¬ (I 11 0) = 0) => ?_)
      · skip
        refine go_s (pc' := 22) rfl rfl rfl rfl ?_
        refine go_s (pc' := 23) rfl rfl rfl rfl ?_
        have hn0 : ¬ I 11 0 = -1 := fun z => absurd (c13.symm.trans z) (by decide)
        obtain ⟨n, hn8, en, -⟩ := hN.1.2.2.2.2.1.2.2.2.2.2.1
        have hU14 : RU w B R [(x, m)] hb h am ln K (I, Q, Z) := RU_I (sm_e_refl (tbr am (13 * ln) 77 5088) _) (I' := I) (fun _ => rfl) (fun _ => rfl) (Nat.le_refl _) hU
        have hA15 : RA w B R [(x, m)] hb h (I, Q, Z) := RA_u.mpr ⟨_, _, _, _, hS, hU14⟩
        refine go_callV (pc' := 24) rfl rfl rfl (Nat.le_of_ble_eq_true rfl) rfl (sm_o hS rfl) rfl rfl rfl (ra_cm_1 hA15 (by omega) h0 e5 en hn8 hp0 hn0 (by omega)) (fun r h16 q17 => ?_)
        obtain ⟨rfl, hA18⟩ := q17
        change RA w B (R + 2) [(x, m)] hb h16 (mac (fun i => m.1 (5 + i)) (I, Q, Z)) at hA18
        obtain ⟨M19, eM19⟩ : ∃ y : mM, y = (mac (fun i => m.1 (5 + i)) (I, Q, Z)) := ⟨_, rfl⟩
        rw [← eM19] at hA18
        obtain ⟨I19, Q19, Z19⟩ := M19
        obtain ⟨K19, Y19, am19, ln19, hS19, hU19⟩ := RA_u.mp hA18
        change sm (tbr am19 (13 * ln19) 77 5088) h16 (jn I19 K19) Y19 at hS19
        obtain ⟨-, hWm19, -, -, hr19, -⟩ := id hU19.1
        have hln19 := RU_ln hU19 (by omega)
        refine go_s (pc' := 25) rfl rfl rfl rfl ?_
        have hM9 : MID X (I19, Q19, Z19) := by
          rw [eM19]
          exact MID_ac hN.1 (lv_of (p := 0) c13 (by decide) (by show ¬ I 0 0 = 0; rw [hup]; decide)) ⟨1, by decide, e5⟩
        have hU20 : RU w B (R + 2) [(x, m)] hb h16 am19 ln19 K19 (I19, Q19, Z19) := RU_I (sm_e_refl (tbr am19 (13 * ln19) 77 5088) _) (I' := I19) (fun _ => rfl) (fun _ => rfl) (Nat.le_refl _) hU19
        have hA21 : RA w B (R + 2) [(x, m)] hb h16 (I19, Q19, Z19) := RA_u.mpr ⟨_, _, _, _, hS19, hU20⟩
        refine go_callV (pc' := 26) rfl rfl rfl (Nat.le_of_ble_eq_true rfl) rfl (sm_o hS19 rfl) rfl rfl rfl (ra_set hA21 (by omega) hM9 (by omega) hhc (by omega)) (fun r h22 q23 => ?_)
        obtain ⟨rfl, hA24⟩ := q23
        refine go_s (pc' := 100) rfl rfl rfl rfl ?_
        refine go_ret rfl rfl ?_
        have hms : rbr f 0 m (I, Q, Z) = rset 30 (I19, Q19, Z19) := by
          unfold rbr
          rw [if_pos h0, if_pos (show ((I, Q, Z) : mM).1 11 0 = nI 0 from c13), eM19]
        rw [hms]
        exact ⟨rfl, RA_R (by omega) hA24⟩
      · skip
        refine go_ret rfl rfl ?_
        have hms : rbr f 0 m (I, Q, Z) = (I, Q, Z) := by
          unfold rbr
          rw [if_pos h0, if_neg (show ¬ ((I, Q, Z) : mM).1 11 0 = nI 0 from c13)]
        rw [hms]
        exact ⟨rfl, RA_R (by omega) hA⟩
  · skip
    have hhc : hc [(x, m)] hb = 0 := by
      have z : isS m = false := by unfold isS; rw [h0]; rfl
      cases hb
      · rfl
      · show List.countP (fun p => isS p.2) [(x, m)] = 0
        simp [z]
    obtain ⟨k9, hk9, e5⟩ := mk2 h0
    obtain rfl | rfl : k9 = 0 ∨ k9 = 1 := by omega
    · skip
      have ec : (m.1 5).toNatClampNeg = 0 := by rw [e5]; rfl
      refine go_s (pc' := 1) rfl rfl rfl rfl ?_
      refine go_sget (pc' := 2) (v := .ref am) hS rfl rfl rfl (by decide) rfl rfl ?_
      refine go_s (pc' := 3) rfl rfl rfl rfl ?_
      refine go_s (pc' := 4) (st' := [.int 5, .int (nI (13 * x)), .ref am]) rfl rfl rfl rfl ?_
      refine go_nadd (pc' := 5) (a := (13 * x)) (b := 5) rfl rfl rfl rfl rfl ?_
      refine go_sald (pc' := 6) (q := ((13 * x) + 5)) (v := .int 0) hS rfl (tr_ms hr (by omega)) rfl rfl (by omega) (congrArg Value.int (hx.2.2.2.1.trans e5)) rfl ?_
      refine go_s (pc' := 7) (lo' := [some (.ref 62), some (.int (nI (13 * x))), some (.int (nI f)), some (.int 0), some (.int 0), none]) rfl rfl rfl rfl ?_
      refine go_s (pc' := 8) rfl rfl rfl rfl ?_
      refine go_sget (pc' := 9) (v := .ref am) hS rfl rfl rfl (by decide) rfl rfl ?_
      refine go_s (pc' := 10) rfl rfl rfl rfl ?_
      refine go_s (pc' := 11) (st' := [.int 0, .int (nI (13 * x)), .ref am]) rfl rfl rfl rfl ?_
      refine go_nadd (pc' := 12) (a := (13 * x)) (b := 0) rfl rfl rfl rfl rfl ?_
      refine go_sald (pc' := 13) (q := ((13 * x) + 0)) (v := .int 2) hS rfl (tr_ms hr (by omega)) rfl rfl (by omega) (congrArg Value.int (hx.2.1.trans h0)) rfl ?_
      refine go_tsw (t' := 27) rfl (Or.inr ⟨by decide, rfl⟩) rfl ?_
      refine go_s (pc' := 28) rfl rfl rfl rfl ?_
      refine go_sget (pc' := 29) (v := .ref 78) hS rfl rfl rfl (by decide) rfl rfl ?_
      refine go_s (pc' := 30) (st' := [.int 1, .ref 78]) rfl rfl rfl rfl ?_
      refine go_s (pc' := 31) rfl rfl rfl rfl ?_
      refine go_s (pc' := 32) (st' := [.int 1, .ref 78]) rfl rfl rfl rfl ?_
      refine go_sald (pc' := 33) (q := 1) (v := .int (I 11 1)) hS rfl (tr_s hr (a := 78) rfl (by decide)) rfl rfl (by decide) rfl rfl ?_
      refine go_s (pc' := 34) rfl rfl rfl rfl ?_
      refine go_icmpP (t' := 100) (pc' := 35) rfl rfl rfl (fun (c25 : ¬ (I 11 1) = 0) => ?_) (fun (c25' : ¬ ¬ (I 11 1) = 0) => ?_)
      · skip
        refine go_ret rfl rfl ?_
        have hms : rbr f 0 m (I, Q, Z) = (I, Q, Z) := by
          unfold rbr
          rw [if_neg (show ¬ m.1 0 = 1 by rw [h0]; decide), if_pos h0, ec, if_neg (show ¬ ((I, Q, Z) : mM).1 11 (1 + 0) = nI 0 from c25)]
        rw [hms]
        exact ⟨rfl, RA_R (by omega) hA⟩
      · skip
        have c25 : (I 11 1) = 0 := Decidable.not_not.mp c25'
        refine go_s (pc' := 36) rfl rfl rfl rfl ?_
        refine go_s (pc' := 37) (st' := [.int 1, .ref 62]) rfl rfl rfl rfl ?_
        refine go_s (pc' := 38) rfl rfl rfl rfl ?_
        refine go_s (pc' := 39) (st' := [.int 1, .ref 62]) rfl rfl rfl rfl ?_
        refine go_s (pc' := 40) rfl rfl rfl rfl ?_
        have hnk : ¬ I 11 1 = -1 := fun z => absurd (c25.symm.trans z) (by decide)
        by_cases h16 : I 16 1 = 2
        · skip
          have hoh : ¬ I 12 1 = -1 → I 12 1 = ohI I 1 := fun z => ((hN.1.2.2.1 1 (by decide)).2.2.2.2.1 z).2.2.2
          have h5 : ¬ I 12 1 = -1 → sq Q + hc [(x, m)] hb ≤ 5 := fun z => by
            have y := sq_5 (X := X) (k := 1) (M := (I, Q, Z)) (by omega) hN.1 (by decide) (US_no (by decide) hN.1 (show ¬ I 16 1 = 1 by rw [h16]; decide) ((hN.1.2.2.1 1 (by decide)).2.2.2.2.1 z).1)
            have y2 : sq Q ≤ 5 := y
            omega
          have hU26 : RU w B R [(x, m)] hb h am ln K (I, Q, Z) := RU_I (sm_e_refl (tbr am (13 * ln) 77 5088) _) (I' := I) (fun _ => rfl) (fun _ => rfl) (Nat.le_refl _) hU
          have hA27 : RA w B R [(x, m)] hb h (I, Q, Z) := RA_u.mpr ⟨_, _, _, _, hS, hU26⟩
          refine go_callV (pc' := 41) rfl rfl rfl (Nat.le_of_ble_eq_true rfl) rfl (sm_o hS rfl) rfl rfl rfl (ra_rd_0 hA27 (by omega) h0 hp0 hp1 hnk hoh h5 (by omega)) (fun r h28 q29 => ?_)
          obtain ⟨rfl, hA30⟩ := q29
          refine go_s (pc' := 100) rfl rfl rfl rfl ?_
          refine go_ret rfl rfl ?_
          have hms : rbr f 0 m (I, Q, Z) = rrd 0 (fun i => m.1 (5 + i)) (I, Q, Z) := by
            unfold rbr
            rw [if_neg (show ¬ m.1 0 = 1 by rw [h0]; decide), if_pos h0, ec, if_pos (show ((I, Q, Z) : mM).1 11 (1 + 0) = nI 0 from c25)]
          rw [hms]
          exact ⟨rfl, RA_R (by omega) hA30⟩
        · skip
          refine go_callV (pc' := 41) rfl rfl rfl (Nat.le_of_ble_eq_true rfl) rfl (sm_o hS rfl) rfl rfl rfl (ra_rd0_0 hA (by omega) hp1 hnk h16 (by omega)) (fun r h31 q32 => ?_)
          obtain ⟨rfl, rfl⟩ := q32
          refine go_s (pc' := 100) rfl rfl rfl rfl ?_
          refine go_ret rfl rfl ?_
          have hr0 : rrd 0 (fun i => m.1 (5 + i)) (I, Q, Z) = (I, Q, Z) := if_pos (Or.inl h16)
          have hms : rbr f 0 m (I, Q, Z) = (I, Q, Z) := by
            unfold rbr
            rw [if_neg (show ¬ m.1 0 = 1 by rw [h0]; decide), if_pos h0, ec, if_pos (show ((I, Q, Z) : mM).1 11 (1 + 0) = nI 0 from c25), hr0]
          rw [hms]
          exact ⟨rfl, RA_R (by omega) hA⟩
    · skip
      have ec : (m.1 5).toNatClampNeg = 1 := by rw [e5]; rfl
      refine go_s (pc' := 1) rfl rfl rfl rfl ?_
      refine go_sget (pc' := 2) (v := .ref am) hS rfl rfl rfl (by decide) rfl rfl ?_
      refine go_s (pc' := 3) rfl rfl rfl rfl ?_
      refine go_s (pc' := 4) (st' := [.int 5, .int (nI (13 * x)), .ref am]) rfl rfl rfl rfl ?_
      refine go_nadd (pc' := 5) (a := (13 * x)) (b := 5) rfl rfl rfl rfl rfl ?_
      refine go_sald (pc' := 6) (q := ((13 * x) + 5)) (v := .int 1) hS rfl (tr_ms hr (by omega)) rfl rfl (by omega) (congrArg Value.int (hx.2.2.2.1.trans e5)) rfl ?_
      refine go_s (pc' := 7) (lo' := [some (.ref 62), some (.int (nI (13 * x))), some (.int (nI f)), some (.int 0), some (.int 1), none]) rfl rfl rfl rfl ?_
      refine go_s (pc' := 8) rfl rfl rfl rfl ?_
      refine go_sget (pc' := 9) (v := .ref am) hS rfl rfl rfl (by decide) rfl rfl ?_
      refine go_s (pc' := 10) rfl rfl rfl rfl ?_
      refine go_s (pc' := 11) (st' := [.int 0, .int (nI (13 * x)), .ref am]) rfl rfl rfl rfl ?_
      refine go_nadd (pc' := 12) (a := (13 * x)) (b := 0) rfl rfl rfl rfl rfl ?_
      refine go_sald (pc' := 13) (q := ((13 * x) + 0)) (v := .int 2) hS rfl (tr_ms hr (by omega)) rfl rfl (by omega) (congrArg Value.int (hx.2.1.trans h0)) rfl ?_
      refine go_tsw (t' := 27) rfl (Or.inr ⟨by decide, rfl⟩) rfl ?_
      refine go_s (pc' := 28) rfl rfl rfl rfl ?_
      refine go_sget (pc' := 29) (v := .ref 78) hS rfl rfl rfl (by decide) rfl rfl ?_
      refine go_s (pc' := 30) (st' := [.int 1, .ref 78]) rfl rfl rfl rfl ?_
      refine go_s (pc' := 31) rfl rfl rfl rfl ?_
      refine go_s (pc' := 32) (st' := [.int 2, .ref 78]) rfl rfl rfl rfl ?_
      refine go_sald (pc' := 33) (q := 2) (v := .int (I 11 2)) hS rfl (tr_s hr (a := 78) rfl (by decide)) rfl rfl (by decide) rfl rfl ?_
      refine go_s (pc' := 34) rfl rfl rfl rfl ?_
      refine go_icmpP (t' := 100) (pc' := 35) rfl rfl rfl (fun (c33 : ¬ (I 11 2) = 0) => ?_) (fun (c33' : ¬ ¬ (I 11 2) = 0) => ?_)
      · skip
        refine go_ret rfl rfl ?_
        have hms : rbr f 0 m (I, Q, Z) = (I, Q, Z) := by
          unfold rbr
          rw [if_neg (show ¬ m.1 0 = 1 by rw [h0]; decide), if_pos h0, ec, if_neg (show ¬ ((I, Q, Z) : mM).1 11 (1 + 1) = nI 0 from c33)]
        rw [hms]
        exact ⟨rfl, RA_R (by omega) hA⟩
      · skip
        have c33 : (I 11 2) = 0 := Decidable.not_not.mp c33'
        refine go_s (pc' := 36) rfl rfl rfl rfl ?_
        refine go_s (pc' := 37) (st' := [.int 1, .ref 62]) rfl rfl rfl rfl ?_
        refine go_s (pc' := 38) rfl rfl rfl rfl ?_
        refine go_s (pc' := 39) (st' := [.int 2, .ref 62]) rfl rfl rfl rfl ?_
        refine go_s (pc' := 40) rfl rfl rfl rfl ?_
        have hnk : ¬ I 11 2 = -1 := fun z => absurd (c33.symm.trans z) (by decide)
        by_cases h16 : I 16 2 = 2
        · skip
          have hoh : ¬ I 12 2 = -1 → I 12 2 = ohI I 2 := fun z => ((hN.1.2.2.1 2 (by decide)).2.2.2.2.1 z).2.2.2
          have h5 : ¬ I 12 2 = -1 → sq Q + hc [(x, m)] hb ≤ 5 := fun z => by
            have y := sq_5 (X := X) (k := 2) (M := (I, Q, Z)) (by omega) hN.1 (by decide) (US_no (by decide) hN.1 (show ¬ I 16 2 = 1 by rw [h16]; decide) ((hN.1.2.2.1 2 (by decide)).2.2.2.2.1 z).1)
            have y2 : sq Q ≤ 5 := y
            omega
          have hU34 : RU w B R [(x, m)] hb h am ln K (I, Q, Z) := RU_I (sm_e_refl (tbr am (13 * ln) 77 5088) _) (I' := I) (fun _ => rfl) (fun _ => rfl) (Nat.le_refl _) hU
          have hA35 : RA w B R [(x, m)] hb h (I, Q, Z) := RA_u.mpr ⟨_, _, _, _, hS, hU34⟩
          refine go_callV (pc' := 41) rfl rfl rfl (Nat.le_of_ble_eq_true rfl) rfl (sm_o hS rfl) rfl rfl rfl (ra_rd_1 hA35 (by omega) h0 hp0 hp2 hnk hoh h5 (by omega)) (fun r h36 q37 => ?_)
          obtain ⟨rfl, hA38⟩ := q37
          refine go_s (pc' := 100) rfl rfl rfl rfl ?_
          refine go_ret rfl rfl ?_
          have hms : rbr f 0 m (I, Q, Z) = rrd 1 (fun i => m.1 (5 + i)) (I, Q, Z) := by
            unfold rbr
            rw [if_neg (show ¬ m.1 0 = 1 by rw [h0]; decide), if_pos h0, ec, if_pos (show ((I, Q, Z) : mM).1 11 (1 + 1) = nI 0 from c33)]
          rw [hms]
          exact ⟨rfl, RA_R (by omega) hA38⟩
        · skip
          refine go_callV (pc' := 41) rfl rfl rfl (Nat.le_of_ble_eq_true rfl) rfl (sm_o hS rfl) rfl rfl rfl (ra_rd0_1 hA (by omega) hp2 hnk h16 (by omega)) (fun r h39 q40 => ?_)
          obtain ⟨rfl, rfl⟩ := q40
          refine go_s (pc' := 100) rfl rfl rfl rfl ?_
          refine go_ret rfl rfl ?_
          have hr0 : rrd 1 (fun i => m.1 (5 + i)) (I, Q, Z) = (I, Q, Z) := if_pos (Or.inl h16)
          have hms : rbr f 0 m (I, Q, Z) = (I, Q, Z) := by
            unfold rbr
            rw [if_neg (show ¬ m.1 0 = 1 by rw [h0]; decide), if_pos h0, ec, if_pos (show ((I, Q, Z) : mM).1 11 (1 + 1) = nI 0 from c33), hr0]
          rw [hms]
          exact ⟨rfl, RA_R (by omega) hA⟩
  · skip
    obtain ⟨y, y1, y2, y3, y4⟩ := hx.2.2.2.2.2 (by unfold isS; rw [h0]; rfl)
    obtain ⟨k9, hk9, e5⟩ := mk3 (Or.inl h0)
    obtain rfl | rfl | rfl : k9 = 0 ∨ k9 = 1 ∨ k9 = 2 := by omega
    · skip
      have ec : (m.1 5).toNatClampNeg = 0 := by rw [e5]; rfl
      refine go_s (pc' := 1) rfl rfl rfl rfl ?_
      refine go_sget (pc' := 2) (v := .ref am) hS rfl rfl rfl (by decide) rfl rfl ?_
      refine go_s (pc' := 3) rfl rfl rfl rfl ?_
      refine go_s (pc' := 4) (st' := [.int 5, .int (nI (13 * x)), .ref am]) rfl rfl rfl rfl ?_
      refine go_nadd (pc' := 5) (a := (13 * x)) (b := 5) rfl rfl rfl rfl rfl ?_
      refine go_sald (pc' := 6) (q := ((13 * x) + 5)) (v := .int 0) hS rfl (tr_ms hr (by omega)) rfl rfl (by omega) (congrArg Value.int (hx.2.2.2.1.trans e5)) rfl ?_
      refine go_s (pc' := 7) (lo' := [some (.ref 62), some (.int (nI (13 * x))), some (.int (nI f)), some (.int 0), some (.int 0), none]) rfl rfl rfl rfl ?_
      refine go_s (pc' := 8) rfl rfl rfl rfl ?_
      refine go_sget (pc' := 9) (v := .ref am) hS rfl rfl rfl (by decide) rfl rfl ?_
      refine go_s (pc' := 10) rfl rfl rfl rfl ?_
      refine go_s (pc' := 11) (st' := [.int 0, .int (nI (13 * x)), .ref am]) rfl rfl rfl rfl ?_
      refine go_nadd (pc' := 12) (a := (13 * x)) (b := 0) rfl rfl rfl rfl rfl ?_
      refine go_sald (pc' := 13) (q := ((13 * x) + 0)) (v := .int 3) hS rfl (tr_ms hr (by omega)) rfl rfl (by omega) (congrArg Value.int (hx.2.1.trans h0)) rfl ?_
      refine go_tsw (t' := 42) rfl (Or.inr ⟨by decide, rfl⟩) rfl ?_
      refine go_s (pc' := 43) rfl rfl rfl rfl ?_
      refine go_s (pc' := 44) rfl rfl rfl rfl ?_
      refine go_sget (pc' := 45) (v := .ref am) hS rfl rfl rfl (by decide) rfl rfl ?_
      refine go_s (pc' := 46) rfl rfl rfl rfl ?_
      refine go_s (pc' := 47) (st' := [.int 12, .int (nI (13 * x)), .ref am, .ref 62]) rfl rfl rfl rfl ?_
      refine go_nadd (pc' := 48) (a := (13 * x)) (b := 12) rfl rfl rfl rfl rfl ?_
      refine go_sald (pc' := 49) (q := ((13 * x) + 12)) (v := .int (nI y)) hS rfl (tr_ms hr (by omega)) rfl rfl (by omega) (congrArg Value.int y3) rfl ?_
      refine go_s (pc' := 50) (st' := [.int 2, .int (nI y), .ref 62]) rfl rfl rfl rfl ?_
      refine go_s (pc' := 51) rfl rfl rfl rfl ?_
      refine go_s (pc' := 52) (st' := [.int 0, .int (nI y), .ref 62]) rfl rfl rfl rfl ?_
      refine go_s (pc' := 53) rfl rfl rfl rfl ?_
      refine go_s (pc' := 54) (st' := [.int 2, .int 0, .int 0, .int (nI y), .ref 62]) rfl rfl rfl rfl ?_
      refine go_s (pc' := 55) (st' := [.int 0, .int 0, .int (nI y), .ref 62]) rfl rfl rfl rfl ?_
      refine go_s (pc' := 56) (st' := [.int 0, .int (nI y), .ref 62]) rfl rfl rfl rfl ?_
      refine go_callV (pc' := 57) rfl rfl rfl (Nat.le_of_ble_eq_true rfl) rfl (sm_o hS rfl) rfl rfl rfl (rs_cp hr hS hW (hW 77 (by decide) (by decide)) (f := y) (g := 0) (by omega) (by decide) (by omega) (by decide) (by omega)) (fun r h41 q42 => ?_)
      obtain ⟨rfl, hS43, hE44⟩ := q42
      rw [cpI_jn] at hS43
      obtain ⟨K7, e7⟩ : ∃ z, z = cpI K y 0 424 := ⟨_, rfl⟩
      rw [← e7] at hS43
      have hz7 : RZ K7 (decide (0 < 2)) 0 m.2 := by
        rw [e7]
        have z := RZ_cp (g := 0) y4
        rw [e5] at z
        exact z
      have hU45 : RU w B R [(x, m)] hb h41 am ln K7 (I, Q, uZ Z 0 m.2) := RU_row (by decide) (fun c j _ hc => by
        rw [e7]
        exact cpI_r (Nat.le_refl _) c j hc) hz7 (RU_I hE44 (fun _ => rfl) (fun _ => rfl) (Nat.le_refl _) hU)
      have hU46 : RU w B R [(x, m)] hb h41 am ln K7 (I, Q, (uZ Z 0 m.2)) := RU_I (sm_e_refl (tbr am (13 * ln) 77 5088) _) (I' := I) (fun _ => rfl) (fun _ => rfl) (Nat.le_refl _) hU45
      have hS47 : sm (tbr am (13 * ln) 77 5088) _ (jn (uI I 40 0 1) K7) Y := sm_jg hr hS43 (fun c j _ n1 n2 n3 => uI_c n3)
      have hU48 : RU w B R [(x, m)] hb h41 am ln K7 ((uI I 40 0 1), Q, (uZ Z 0 m.2)) := RU_I (sm_e_refl (tbr am (13 * ln) 77 5088) _) (fun _ => rfl) (fun _ => rfl) (Nat.le_refl _) hU46
      refine go_s (pc' := 58) rfl rfl rfl rfl ?_
      refine go_s (pc' := 59) rfl rfl rfl rfl ?_
      refine go_s (pc' := 60) rfl rfl rfl rfl ?_
      refine go_s (pc' := 61) (st' := [.int 5, .int (nI f), .int 0, .ref 62]) rfl rfl rfl rfl ?_
      refine go_s (pc' := 62) rfl rfl rfl rfl ?_
      have hU49 : RU w B R [(x, m)] hb h41 am ln K7 ((uI I 40 0 1), Q, (uZ Z 0 m.2)) := RU_I (sm_e_refl (tbr am (13 * ln) 77 5088) _) (I' := (uI I 40 0 1)) (fun _ => rfl) (fun _ => rfl) (Nat.le_refl _) hU48
      by_cases u50 : (uI I 40 0 1) 0 f = 0
      · skip
        refine go_callV (pc' := 63) rfl rfl rfl (Nat.le_of_ble_eq_true rfl) rfl (sm_o hS47 rfl) rfl rfl rfl (rn_snd_0 hS47 hU49 (by omega) (f := 0) (t := f) (by decide) hf u50 (by omega)) (fun r h51 q52 => ?_)
        obtain ⟨rfl, rfl⟩ := q52
        refine go_s (pc' := 64) (lo' := [some (.ref 62), some (.int (nI (13 * x))), some (.int (nI f)), some (.int 0), some (.int 0), some (.int (-1))]) rfl rfl rfl rfl ?_
        refine go_s (pc' := 65) rfl rfl rfl rfl ?_
        refine go_s (pc' := 66) (st' := [.int (-1), .int (-1)]) rfl rfl rfl rfl ?_
        refine go_icmpP (t' := 100) (pc' := 67) rfl rfl rfl (fun _ => ?_) (fun (c : ¬ (((-1) : Int32) = (-1))) => absurd (by decide) c)
        refine go_ret rfl rfl ?_
        have hA53 : RA w B R [(x, m)] hb h51 ((uI I 40 0 1), Q, (uZ Z 0 m.2)) := RA_u.mpr ⟨_, _, _, _, hS47, hU49⟩
        have hms : rbr f 0 m (I, Q, Z) = ((uI I 40 0 1), Q, (uZ Z 0 m.2)) := by
          unfold rbr
          rw [if_neg (show ¬ m.1 0 = 1 by rw [h0]; decide), if_neg (show ¬ m.1 0 = 2 by rw [h0]; decide), if_pos (show m.1 0 = 3 ∨ m.1 0 = 4 from Or.inl h0), ec, show rcy 0 0 m.2 (I, Q, Z) = ((uI I 40 0 1, Q, uZ Z 0 m.2) : mM) from rfl, show rsn 0 f (mgW 0 (m.1 6)) ((uI I 40 0 1, Q, uZ Z 0 m.2) : mM) = ((uI I 40 0 1, Q, uZ Z 0 m.2) : mM) from if_pos u50]
        rw [hms]
        exact ⟨rfl, RA_R (by omega) hA53⟩
      · skip
        refine go_callV (pc' := 63) rfl rfl rfl (Nat.le_of_ble_eq_true rfl) rfl (sm_o hS47 rfl) rfl rfl rfl (rn_snd_1 hS47 hU49 (by omega) (f := 0) (t := f) (by decide) hf u50 (by omega)) (fun r h54 q55 => ?_)
        obtain ⟨x56, am56, ln56, K56, rfl, hS56, hO56⟩ := q55
        obtain ⟨hx56, hln56, hr56, hWm56⟩ := RO_x hO56 (by omega)
        refine go_s (pc' := 64) (lo' := [some (.ref 62), some (.int (nI (13 * x))), some (.int (nI f)), some (.int 0), some (.int 0), some (.int (nI (13 * x56)))]) rfl rfl rfl rfl ?_
        refine go_s (pc' := 65) rfl rfl rfl rfl ?_
        refine go_s (pc' := 66) (st' := [.int (-1), .int (nI (13 * x56))]) rfl rfl rfl rfl ?_
        refine go_icmpP (t' := 100) (pc' := 67) rfl rfl rfl (fun (c : (nI (13 * x56)) = (-1)) => absurd c (nI_nm1 (by omega))) (fun _ => ?_)
        have hxo := RO_h hO56 (y := x) (m := m) (by simp)
        have hxl9 := hxo.1
        refine go_s (pc' := 68) rfl rfl rfl rfl ?_
        refine go_sget (pc' := 69) (v := .ref am56) hS56 rfl rfl rfl (by decide) rfl rfl ?_
        refine go_s (pc' := 70) rfl rfl rfl rfl ?_
        refine go_s (pc' := 71) (st' := [.int 6, .int (nI (13 * x56)), .ref am56]) rfl rfl rfl rfl ?_
        refine go_nadd (pc' := 72) (a := (13 * x56)) (b := 6) rfl rfl rfl rfl rfl ?_
        refine go_s (pc' := 73) rfl rfl rfl rfl ?_
        refine go_sget (pc' := 74) (v := .ref am56) hS56 rfl rfl rfl (by decide) rfl rfl ?_
        refine go_s (pc' := 75) rfl rfl rfl rfl ?_
        refine go_s (pc' := 76) (st' := [.int 6, .int (nI (13 * x)), .ref am56, .int (nI ((13 * x56) + 6)), .ref am56]) rfl rfl rfl rfl ?_
        refine go_nadd (pc' := 77) (a := (13 * x)) (b := 6) rfl rfl rfl rfl rfl ?_
        refine go_sald (pc' := 78) (q := ((13 * x) + 6)) (v := .int (m.1 6)) hS56 rfl (tr_ms hr56 (by omega)) rfl rfl (by omega) (congrArg Value.int (hxo.2 0 (by rw [h0]; decide))) rfl ?_
        refine go_siast (pc' := 79) (q := ((13 * x56) + 6)) hS56 rfl (tr_ms hr56 (by omega)) tbr_inj (Nat.le_of_ble_eq_true rfl) rfl (by omega) (rk_0 hr56).1 hWm56 rfl (fun h57 hS58 hE59 => ?_)
        refine go_s (pc' := 100) rfl rfl rfl rfl ?_
        refine go_ret rfl rfl ?_
        change sm (tbr am56 (13 * ln56) 77 5088) _ (uI (jn (appI (uI I 40 0 1) Q (4 * 0 + f)) K56) 50 ((13 * x56) + 6) (m.1 6)) Y at hS58
        rw [jn_hi (c := 50) (by decide)] at hS58
        have hU60 := RO_cl (K' := (uI K56 50 ((13 * x56) + 6) (m.1 6))) (m := (mgn (mgW 0 (m.1 6)) ((uI I 40 0 1) 9 (4 * 0 + f) + 1))) (by omega) hO56 (hE59) rfl rfl rfl rfl (fun c j _ hc => by
          simp only [uI]
          rw [if_neg (by omega)]) (fun i hi => by
          have hi2 : i < 1 := hi
          match i, hi2 with
            | 0, _ => (repeat (first | rw [uI_e (by omega)] | rw [uI_j (by omega)])) <;> rfl)
        have hA61 : RA w B (R + 1) [(x, m)] hb h57 ((appI (uI I 40 0 1) Q (4 * 0 + f)), (uQ Q (4 * 0 + f) (Q (4 * 0 + f) ++ [(mgn (mgW 0 (m.1 6)) ((uI I 40 0 1) 9 (4 * 0 + f) + 1))])), (uZ Z 0 m.2)) := RA_u.mpr ⟨_, _, _, _, hS58, hU60⟩
        have hms : rbr f 0 m (I, Q, Z) = ((appI (uI I 40 0 1) Q (4 * 0 + f)), (uQ Q (4 * 0 + f) (Q (4 * 0 + f) ++ [(mgn (mgW 0 (m.1 6)) ((uI I 40 0 1) 9 (4 * 0 + f) + 1))])), (uZ Z 0 m.2)) := by
          unfold rbr
          rw [if_neg (show ¬ m.1 0 = 1 by rw [h0]; decide), if_neg (show ¬ m.1 0 = 2 by rw [h0]; decide), if_pos (show m.1 0 = 3 ∨ m.1 0 = 4 from Or.inl h0), ec, show rcy 0 0 m.2 (I, Q, Z) = ((uI I 40 0 1, Q, uZ Z 0 m.2) : mM) from rfl, show rsn 0 f (mgW 0 (m.1 6)) ((uI I 40 0 1, Q, uZ Z 0 m.2) : mM) = mapp (4 * 0 + f) (mgW 0 (m.1 6)) ((uI I 40 0 1, Q, uZ Z 0 m.2) : mM) from if_neg u50]
          rw [show mapp (4 * 0 + f) (mgW 0 (m.1 6)) ((uI I 40 0 1, Q, uZ Z 0 m.2) : mM) = ((appI (uI I 40 0 1) Q (4 * 0 + f)), (uQ Q (4 * 0 + f) (Q (4 * 0 + f) ++ [(mgn (mgW 0 (m.1 6)) ((uI I 40 0 1) 9 (4 * 0 + f) + 1))])), (uZ Z 0 m.2)) from rfl]
        rw [hms]
        exact ⟨rfl, RA_R (by omega) hA61⟩
    · skip
      have ec : (m.1 5).toNatClampNeg = 1 := by rw [e5]; rfl
      refine go_s (pc' := 1) rfl rfl rfl rfl ?_
      refine go_sget (pc' := 2) (v := .ref am) hS rfl rfl rfl (by decide) rfl rfl ?_
      refine go_s (pc' := 3) rfl rfl rfl rfl ?_
      refine go_s (pc' := 4) (st' := [.int 5, .int (nI (13 * x)), .ref am]) rfl rfl rfl rfl ?_
      refine go_nadd (pc' := 5) (a := (13 * x)) (b := 5) rfl rfl rfl rfl rfl ?_
      refine go_sald (pc' := 6) (q := ((13 * x) + 5)) (v := .int 1) hS rfl (tr_ms hr (by omega)) rfl rfl (by omega) (congrArg Value.int (hx.2.2.2.1.trans e5)) rfl ?_
      refine go_s (pc' := 7) (lo' := [some (.ref 62), some (.int (nI (13 * x))), some (.int (nI f)), some (.int 0), some (.int 1), none]) rfl rfl rfl rfl ?_
      refine go_s (pc' := 8) rfl rfl rfl rfl ?_
      refine go_sget (pc' := 9) (v := .ref am) hS rfl rfl rfl (by decide) rfl rfl ?_
      refine go_s (pc' := 10) rfl rfl rfl rfl ?_
      refine go_s (pc' := 11) (st' := [.int 0, .int (nI (13 * x)), .ref am]) rfl rfl rfl rfl ?_
      refine go_nadd (pc' := 12) (a := (13 * x)) (b := 0) rfl rfl rfl rfl rfl ?_
      refine go_sald (pc' := 13) (q := ((13 * x) + 0)) (v := .int 3) hS rfl (tr_ms hr (by omega)) rfl rfl (by omega) (congrArg Value.int (hx.2.1.trans h0)) rfl ?_
      refine go_tsw (t' := 42) rfl (Or.inr ⟨by decide, rfl⟩) rfl ?_
      refine go_s (pc' := 43) rfl rfl rfl rfl ?_
      refine go_s (pc' := 44) rfl rfl rfl rfl ?_
      refine go_sget (pc' := 45) (v := .ref am) hS rfl rfl rfl (by decide) rfl rfl ?_
      refine go_s (pc' := 46) rfl rfl rfl rfl ?_
      refine go_s (pc' := 47) (st' := [.int 12, .int (nI (13 * x)), .ref am, .ref 62]) rfl rfl rfl rfl ?_
      refine go_nadd (pc' := 48) (a := (13 * x)) (b := 12) rfl rfl rfl rfl rfl ?_
      refine go_sald (pc' := 49) (q := ((13 * x) + 12)) (v := .int (nI y)) hS rfl (tr_ms hr (by omega)) rfl rfl (by omega) (congrArg Value.int y3) rfl ?_
      refine go_s (pc' := 50) (st' := [.int 2, .int (nI y), .ref 62]) rfl rfl rfl rfl ?_
      refine go_s (pc' := 51) rfl rfl rfl rfl ?_
      refine go_s (pc' := 52) (st' := [.int 2, .int (nI y), .ref 62]) rfl rfl rfl rfl ?_
      refine go_s (pc' := 53) rfl rfl rfl rfl ?_
      refine go_s (pc' := 54) (st' := [.int 2, .int 0, .int 2, .int (nI y), .ref 62]) rfl rfl rfl rfl ?_
      refine go_s (pc' := 55) (st' := [.int 0, .int 2, .int (nI y), .ref 62]) rfl rfl rfl rfl ?_
      refine go_s (pc' := 56) (st' := [.int 2, .int (nI y), .ref 62]) rfl rfl rfl rfl ?_
      refine go_callV (pc' := 57) rfl rfl rfl (Nat.le_of_ble_eq_true rfl) rfl (sm_o hS rfl) rfl rfl rfl (rs_cp hr hS hW (hW 77 (by decide) (by decide)) (f := y) (g := 2) (by omega) (by decide) (by omega) (by decide) (by omega)) (fun r h62 q63 => ?_)
      obtain ⟨rfl, hS64, hE65⟩ := q63
      rw [cpI_jn] at hS64
      obtain ⟨K7, e7⟩ : ∃ z, z = cpI K y 2 424 := ⟨_, rfl⟩
      rw [← e7] at hS64
      have hz7 : RZ K7 (decide (2 < 2)) 2 m.2 := by
        rw [e7]
        have z := RZ_cp (g := 2) y4
        rw [e5] at z
        exact z
      have hU66 : RU w B R [(x, m)] hb h62 am ln K7 (I, Q, uZ Z 2 m.2) := RU_row (by decide) (fun c j _ hc => by
        rw [e7]
        exact cpI_r (Nat.le_refl _) c j hc) hz7 (RU_I hE65 (fun _ => rfl) (fun _ => rfl) (Nat.le_refl _) hU)
      have hU67 : RU w B R [(x, m)] hb h62 am ln K7 (I, Q, (uZ Z 2 m.2)) := RU_I (sm_e_refl (tbr am (13 * ln) 77 5088) _) (I' := I) (fun _ => rfl) (fun _ => rfl) (Nat.le_refl _) hU66
      have hS68 : sm (tbr am (13 * ln) 77 5088) _ (jn (uI I 40 1 1) K7) Y := sm_jg hr hS64 (fun c j _ n1 n2 n3 => uI_c n3)
      have hU69 : RU w B R [(x, m)] hb h62 am ln K7 ((uI I 40 1 1), Q, (uZ Z 2 m.2)) := RU_I (sm_e_refl (tbr am (13 * ln) 77 5088) _) (fun _ => rfl) (fun _ => rfl) (Nat.le_refl _) hU67
      refine go_s (pc' := 58) rfl rfl rfl rfl ?_
      refine go_s (pc' := 59) rfl rfl rfl rfl ?_
      refine go_s (pc' := 60) rfl rfl rfl rfl ?_
      refine go_s (pc' := 61) (st' := [.int 5, .int (nI f), .int 0, .ref 62]) rfl rfl rfl rfl ?_
      refine go_s (pc' := 62) rfl rfl rfl rfl ?_
      have hU70 : RU w B R [(x, m)] hb h62 am ln K7 ((uI I 40 1 1), Q, (uZ Z 2 m.2)) := RU_I (sm_e_refl (tbr am (13 * ln) 77 5088) _) (I' := (uI I 40 1 1)) (fun _ => rfl) (fun _ => rfl) (Nat.le_refl _) hU69
      by_cases u71 : (uI I 40 1 1) 0 f = 0
      · skip
        refine go_callV (pc' := 63) rfl rfl rfl (Nat.le_of_ble_eq_true rfl) rfl (sm_o hS68 rfl) rfl rfl rfl (rn_snd_0 hS68 hU70 (by omega) (f := 0) (t := f) (by decide) hf u71 (by omega)) (fun r h72 q73 => ?_)
        obtain ⟨rfl, rfl⟩ := q73
        refine go_s (pc' := 64) (lo' := [some (.ref 62), some (.int (nI (13 * x))), some (.int (nI f)), some (.int 0), some (.int 1), some (.int (-1))]) rfl rfl rfl rfl ?_
        refine go_s (pc' := 65) rfl rfl rfl rfl ?_
        refine go_s (pc' := 66) (st' := [.int (-1), .int (-1)]) rfl rfl rfl rfl ?_
        refine go_icmpP (t' := 100) (pc' := 67) rfl rfl rfl (fun _ => ?_) (fun (c : ¬ (((-1) : Int32) = (-1))) => absurd (by decide) c)
        refine go_ret rfl rfl ?_
        have hA74 : RA w B R [(x, m)] hb h72 ((uI I 40 1 1), Q, (uZ Z 2 m.2)) := RA_u.mpr ⟨_, _, _, _, hS68, hU70⟩
        have hms : rbr f 0 m (I, Q, Z) = ((uI I 40 1 1), Q, (uZ Z 2 m.2)) := by
          unfold rbr
          rw [if_neg (show ¬ m.1 0 = 1 by rw [h0]; decide), if_neg (show ¬ m.1 0 = 2 by rw [h0]; decide), if_pos (show m.1 0 = 3 ∨ m.1 0 = 4 from Or.inl h0), ec, show rcy 1 0 m.2 (I, Q, Z) = ((uI I 40 1 1, Q, uZ Z 2 m.2) : mM) from rfl, show rsn 0 f (mgW 1 (m.1 6)) ((uI I 40 1 1, Q, uZ Z 2 m.2) : mM) = ((uI I 40 1 1, Q, uZ Z 2 m.2) : mM) from if_pos u71]
        rw [hms]
        exact ⟨rfl, RA_R (by omega) hA74⟩
      · skip
        refine go_callV (pc' := 63) rfl rfl rfl (Nat.le_of_ble_eq_true rfl) rfl (sm_o hS68 rfl) rfl rfl rfl (rn_snd_1 hS68 hU70 (by omega) (f := 0) (t := f) (by decide) hf u71 (by omega)) (fun r h75 q76 => ?_)
        obtain ⟨x77, am77, ln77, K77, rfl, hS77, hO77⟩ := q76
        obtain ⟨hx77, hln77, hr77, hWm77⟩ := RO_x hO77 (by omega)
        refine go_s (pc' := 64) (lo' := [some (.ref 62), some (.int (nI (13 * x))), some (.int (nI f)), some (.int 0), some (.int 1), some (.int (nI (13 * x77)))]) rfl rfl rfl rfl ?_
        refine go_s (pc' := 65) rfl rfl rfl rfl ?_
        refine go_s (pc' := 66) (st' := [.int (-1), .int (nI (13 * x77))]) rfl rfl rfl rfl ?_
        refine go_icmpP (t' := 100) (pc' := 67) rfl rfl rfl (fun (c : (nI (13 * x77)) = (-1)) => absurd c (nI_nm1 (by omega))) (fun _ => ?_)
        have hxo := RO_h hO77 (y := x) (m := m) (by simp)
        have hxl9 := hxo.1
        refine go_s (pc' := 68) rfl rfl rfl rfl ?_
        refine go_sget (pc' := 69) (v := .ref am77) hS77 rfl rfl rfl (by decide) rfl rfl ?_
        refine go_s (pc' := 70) rfl rfl rfl rfl ?_
        refine go_s (pc' := 71) (st' := [.int 6, .int (nI (13 * x77)), .ref am77]) rfl rfl rfl rfl ?_
        refine go_nadd (pc' := 72) (a := (13 * x77)) (b := 6) rfl rfl rfl rfl rfl ?_
        refine go_s (pc' := 73) rfl rfl rfl rfl ?_
        refine go_sget (pc' := 74) (v := .ref am77) hS77 rfl rfl rfl (by decide) rfl rfl ?_
        refine go_s (pc' := 75) rfl rfl rfl rfl ?_
        refine go_s (pc' := 76) (st' := [.int 6, .int (nI (13 * x)), .ref am77, .int (nI ((13 * x77) + 6)), .ref am77]) rfl rfl rfl rfl ?_
        refine go_nadd (pc' := 77) (a := (13 * x)) (b := 6) rfl rfl rfl rfl rfl ?_
        refine go_sald (pc' := 78) (q := ((13 * x) + 6)) (v := .int (m.1 6)) hS77 rfl (tr_ms hr77 (by omega)) rfl rfl (by omega) (congrArg Value.int (hxo.2 0 (by rw [h0]; decide))) rfl ?_
        refine go_siast (pc' := 79) (q := ((13 * x77) + 6)) hS77 rfl (tr_ms hr77 (by omega)) tbr_inj (Nat.le_of_ble_eq_true rfl) rfl (by omega) (rk_0 hr77).1 hWm77 rfl (fun h78 hS79 hE80 => ?_)
        refine go_s (pc' := 100) rfl rfl rfl rfl ?_
        refine go_ret rfl rfl ?_
        change sm (tbr am77 (13 * ln77) 77 5088) _ (uI (jn (appI (uI I 40 1 1) Q (4 * 0 + f)) K77) 50 ((13 * x77) + 6) (m.1 6)) Y at hS79
        rw [jn_hi (c := 50) (by decide)] at hS79
        have hU81 := RO_cl (K' := (uI K77 50 ((13 * x77) + 6) (m.1 6))) (m := (mgn (mgW 1 (m.1 6)) ((uI I 40 1 1) 9 (4 * 0 + f) + 1))) (by omega) hO77 (hE80) rfl rfl rfl rfl (fun c j _ hc => by
          simp only [uI]
          rw [if_neg (by omega)]) (fun i hi => by
          have hi2 : i < 1 := hi
          match i, hi2 with
            | 0, _ => (repeat (first | rw [uI_e (by omega)] | rw [uI_j (by omega)])) <;> rfl)
        have hA82 : RA w B (R + 1) [(x, m)] hb h78 ((appI (uI I 40 1 1) Q (4 * 0 + f)), (uQ Q (4 * 0 + f) (Q (4 * 0 + f) ++ [(mgn (mgW 1 (m.1 6)) ((uI I 40 1 1) 9 (4 * 0 + f) + 1))])), (uZ Z 2 m.2)) := RA_u.mpr ⟨_, _, _, _, hS79, hU81⟩
        have hms : rbr f 0 m (I, Q, Z) = ((appI (uI I 40 1 1) Q (4 * 0 + f)), (uQ Q (4 * 0 + f) (Q (4 * 0 + f) ++ [(mgn (mgW 1 (m.1 6)) ((uI I 40 1 1) 9 (4 * 0 + f) + 1))])), (uZ Z 2 m.2)) := by
          unfold rbr
          rw [if_neg (show ¬ m.1 0 = 1 by rw [h0]; decide), if_neg (show ¬ m.1 0 = 2 by rw [h0]; decide), if_pos (show m.1 0 = 3 ∨ m.1 0 = 4 from Or.inl h0), ec, show rcy 1 0 m.2 (I, Q, Z) = ((uI I 40 1 1, Q, uZ Z 2 m.2) : mM) from rfl, show rsn 0 f (mgW 1 (m.1 6)) ((uI I 40 1 1, Q, uZ Z 2 m.2) : mM) = mapp (4 * 0 + f) (mgW 1 (m.1 6)) ((uI I 40 1 1, Q, uZ Z 2 m.2) : mM) from if_neg u71]
          rw [show mapp (4 * 0 + f) (mgW 1 (m.1 6)) ((uI I 40 1 1, Q, uZ Z 2 m.2) : mM) = ((appI (uI I 40 1 1) Q (4 * 0 + f)), (uQ Q (4 * 0 + f) (Q (4 * 0 + f) ++ [(mgn (mgW 1 (m.1 6)) ((uI I 40 1 1) 9 (4 * 0 + f) + 1))])), (uZ Z 2 m.2)) from rfl]
        rw [hms]
        exact ⟨rfl, RA_R (by omega) hA82⟩
    · skip
      have ec : (m.1 5).toNatClampNeg = 2 := by rw [e5]; rfl
      refine go_s (pc' := 1) rfl rfl rfl rfl ?_
      refine go_sget (pc' := 2) (v := .ref am) hS rfl rfl rfl (by decide) rfl rfl ?_
      refine go_s (pc' := 3) rfl rfl rfl rfl ?_
      refine go_s (pc' := 4) (st' := [.int 5, .int (nI (13 * x)), .ref am]) rfl rfl rfl rfl ?_
      refine go_nadd (pc' := 5) (a := (13 * x)) (b := 5) rfl rfl rfl rfl rfl ?_
      refine go_sald (pc' := 6) (q := ((13 * x) + 5)) (v := .int 2) hS rfl (tr_ms hr (by omega)) rfl rfl (by omega) (congrArg Value.int (hx.2.2.2.1.trans e5)) rfl ?_
      refine go_s (pc' := 7) (lo' := [some (.ref 62), some (.int (nI (13 * x))), some (.int (nI f)), some (.int 0), some (.int 2), none]) rfl rfl rfl rfl ?_
      refine go_s (pc' := 8) rfl rfl rfl rfl ?_
      refine go_sget (pc' := 9) (v := .ref am) hS rfl rfl rfl (by decide) rfl rfl ?_
      refine go_s (pc' := 10) rfl rfl rfl rfl ?_
      refine go_s (pc' := 11) (st' := [.int 0, .int (nI (13 * x)), .ref am]) rfl rfl rfl rfl ?_
      refine go_nadd (pc' := 12) (a := (13 * x)) (b := 0) rfl rfl rfl rfl rfl ?_
      refine go_sald (pc' := 13) (q := ((13 * x) + 0)) (v := .int 3) hS rfl (tr_ms hr (by omega)) rfl rfl (by omega) (congrArg Value.int (hx.2.1.trans h0)) rfl ?_
      refine go_tsw (t' := 42) rfl (Or.inr ⟨by decide, rfl⟩) rfl ?_
      refine go_s (pc' := 43) rfl rfl rfl rfl ?_
      refine go_s (pc' := 44) rfl rfl rfl rfl ?_
      refine go_sget (pc' := 45) (v := .ref am) hS rfl rfl rfl (by decide) rfl rfl ?_
      refine go_s (pc' := 46) rfl rfl rfl rfl ?_
      refine go_s (pc' := 47) (st' := [.int 12, .int (nI (13 * x)), .ref am, .ref 62]) rfl rfl rfl rfl ?_
      refine go_nadd (pc' := 48) (a := (13 * x)) (b := 12) rfl rfl rfl rfl rfl ?_
      refine go_sald (pc' := 49) (q := ((13 * x) + 12)) (v := .int (nI y)) hS rfl (tr_ms hr (by omega)) rfl rfl (by omega) (congrArg Value.int y3) rfl ?_
      refine go_s (pc' := 50) (st' := [.int 2, .int (nI y), .ref 62]) rfl rfl rfl rfl ?_
      refine go_s (pc' := 51) rfl rfl rfl rfl ?_
      refine go_s (pc' := 52) (st' := [.int 4, .int (nI y), .ref 62]) rfl rfl rfl rfl ?_
      refine go_s (pc' := 53) rfl rfl rfl rfl ?_
      refine go_s (pc' := 54) (st' := [.int 2, .int 0, .int 4, .int (nI y), .ref 62]) rfl rfl rfl rfl ?_
      refine go_s (pc' := 55) (st' := [.int 0, .int 4, .int (nI y), .ref 62]) rfl rfl rfl rfl ?_
      refine go_s (pc' := 56) (st' := [.int 4, .int (nI y), .ref 62]) rfl rfl rfl rfl ?_
      refine go_callV (pc' := 57) rfl rfl rfl (Nat.le_of_ble_eq_true rfl) rfl (sm_o hS rfl) rfl rfl rfl (rs_cp hr hS hW (hW 77 (by decide) (by decide)) (f := y) (g := 4) (by omega) (by decide) (by omega) (by decide) (by omega)) (fun r h83 q84 => ?_)
      obtain ⟨rfl, hS85, hE86⟩ := q84
      rw [cpI_jn] at hS85
      obtain ⟨K7, e7⟩ : ∃ z, z = cpI K y 4 424 := ⟨_, rfl⟩
      rw [← e7] at hS85
      have hz7 : RZ K7 (decide (4 < 2)) 4 m.2 := by
        rw [e7]
        have z := RZ_cp (g := 4) y4
        rw [e5] at z
        exact z
      have hU87 : RU w B R [(x, m)] hb h83 am ln K7 (I, Q, uZ Z 4 m.2) := RU_row (by decide) (fun c j _ hc => by
        rw [e7]
        exact cpI_r (Nat.le_refl _) c j hc) hz7 (RU_I hE86 (fun _ => rfl) (fun _ => rfl) (Nat.le_refl _) hU)
      have hU88 : RU w B R [(x, m)] hb h83 am ln K7 (I, Q, (uZ Z 4 m.2)) := RU_I (sm_e_refl (tbr am (13 * ln) 77 5088) _) (I' := I) (fun _ => rfl) (fun _ => rfl) (Nat.le_refl _) hU87
      have hS89 : sm (tbr am (13 * ln) 77 5088) _ (jn (uI I 40 2 1) K7) Y := sm_jg hr hS85 (fun c j _ n1 n2 n3 => uI_c n3)
      have hU90 : RU w B R [(x, m)] hb h83 am ln K7 ((uI I 40 2 1), Q, (uZ Z 4 m.2)) := RU_I (sm_e_refl (tbr am (13 * ln) 77 5088) _) (fun _ => rfl) (fun _ => rfl) (Nat.le_refl _) hU88
      refine go_s (pc' := 58) rfl rfl rfl rfl ?_
      refine go_s (pc' := 59) rfl rfl rfl rfl ?_
      refine go_s (pc' := 60) rfl rfl rfl rfl ?_
      refine go_s (pc' := 61) (st' := [.int 5, .int (nI f), .int 0, .ref 62]) rfl rfl rfl rfl ?_
      refine go_s (pc' := 62) rfl rfl rfl rfl ?_
      have hU91 : RU w B R [(x, m)] hb h83 am ln K7 ((uI I 40 2 1), Q, (uZ Z 4 m.2)) := RU_I (sm_e_refl (tbr am (13 * ln) 77 5088) _) (I' := (uI I 40 2 1)) (fun _ => rfl) (fun _ => rfl) (Nat.le_refl _) hU90
      by_cases u92 : (uI I 40 2 1) 0 f = 0
      · skip
        refine go_callV (pc' := 63) rfl rfl rfl (Nat.le_of_ble_eq_true rfl) rfl (sm_o hS89 rfl) rfl rfl rfl (rn_snd_0 hS89 hU91 (by omega) (f := 0) (t := f) (by decide) hf u92 (by omega)) (fun r h93 q94 => ?_)
        obtain ⟨rfl, rfl⟩ := q94
        refine go_s (pc' := 64) (lo' := [some (.ref 62), some (.int (nI (13 * x))), some (.int (nI f)), some (.int 0), some (.int 2), some (.int (-1))]) rfl rfl rfl rfl ?_
        refine go_s (pc' := 65) rfl rfl rfl rfl ?_
        refine go_s (pc' := 66) (st' := [.int (-1), .int (-1)]) rfl rfl rfl rfl ?_
        refine go_icmpP (t' := 100) (pc' := 67) rfl rfl rfl (fun _ => ?_) (fun (c : ¬ (((-1) : Int32) = (-1))) => absurd (by decide) c)
        refine go_ret rfl rfl ?_
        have hA95 : RA w B R [(x, m)] hb h93 ((uI I 40 2 1), Q, (uZ Z 4 m.2)) := RA_u.mpr ⟨_, _, _, _, hS89, hU91⟩
        have hms : rbr f 0 m (I, Q, Z) = ((uI I 40 2 1), Q, (uZ Z 4 m.2)) := by
          unfold rbr
          rw [if_neg (show ¬ m.1 0 = 1 by rw [h0]; decide), if_neg (show ¬ m.1 0 = 2 by rw [h0]; decide), if_pos (show m.1 0 = 3 ∨ m.1 0 = 4 from Or.inl h0), ec, show rcy 2 0 m.2 (I, Q, Z) = ((uI I 40 2 1, Q, uZ Z 4 m.2) : mM) from rfl, show rsn 0 f (mgW 2 (m.1 6)) ((uI I 40 2 1, Q, uZ Z 4 m.2) : mM) = ((uI I 40 2 1, Q, uZ Z 4 m.2) : mM) from if_pos u92]
        rw [hms]
        exact ⟨rfl, RA_R (by omega) hA95⟩
      · skip
        refine go_callV (pc' := 63) rfl rfl rfl (Nat.le_of_ble_eq_true rfl) rfl (sm_o hS89 rfl) rfl rfl rfl (rn_snd_1 hS89 hU91 (by omega) (f := 0) (t := f) (by decide) hf u92 (by omega)) (fun r h96 q97 => ?_)
        obtain ⟨x98, am98, ln98, K98, rfl, hS98, hO98⟩ := q97
        obtain ⟨hx98, hln98, hr98, hWm98⟩ := RO_x hO98 (by omega)
        refine go_s (pc' := 64) (lo' := [some (.ref 62), some (.int (nI (13 * x))), some (.int (nI f)), some (.int 0), some (.int 2), some (.int (nI (13 * x98)))]) rfl rfl rfl rfl ?_
        refine go_s (pc' := 65) rfl rfl rfl rfl ?_
        refine go_s (pc' := 66) (st' := [.int (-1), .int (nI (13 * x98))]) rfl rfl rfl rfl ?_
        refine go_icmpP (t' := 100) (pc' := 67) rfl rfl rfl (fun (c : (nI (13 * x98)) = (-1)) => absurd c (nI_nm1 (by omega))) (fun _ => ?_)
        have hxo := RO_h hO98 (y := x) (m := m) (by simp)
        have hxl9 := hxo.1
        refine go_s (pc' := 68) rfl rfl rfl rfl ?_
        refine go_sget (pc' := 69) (v := .ref am98) hS98 rfl rfl rfl (by decide) rfl rfl ?_
        refine go_s (pc' := 70) rfl rfl rfl rfl ?_
        refine go_s (pc' := 71) (st' := [.int 6, .int (nI (13 * x98)), .ref am98]) rfl rfl rfl rfl ?_
        refine go_nadd (pc' := 72) (a := (13 * x98)) (b := 6) rfl rfl rfl rfl rfl ?_
        refine go_s (pc' := 73) rfl rfl rfl rfl ?_
        refine go_sget (pc' := 74) (v := .ref am98) hS98 rfl rfl rfl (by decide) rfl rfl ?_
        refine go_s (pc' := 75) rfl rfl rfl rfl ?_
        refine go_s (pc' := 76) (st' := [.int 6, .int (nI (13 * x)), .ref am98, .int (nI ((13 * x98) + 6)), .ref am98]) rfl rfl rfl rfl ?_
        refine go_nadd (pc' := 77) (a := (13 * x)) (b := 6) rfl rfl rfl rfl rfl ?_
        refine go_sald (pc' := 78) (q := ((13 * x) + 6)) (v := .int (m.1 6)) hS98 rfl (tr_ms hr98 (by omega)) rfl rfl (by omega) (congrArg Value.int (hxo.2 0 (by rw [h0]; decide))) rfl ?_
        refine go_siast (pc' := 79) (q := ((13 * x98) + 6)) hS98 rfl (tr_ms hr98 (by omega)) tbr_inj (Nat.le_of_ble_eq_true rfl) rfl (by omega) (rk_0 hr98).1 hWm98 rfl (fun h99 hS100 hE101 => ?_)
        refine go_s (pc' := 100) rfl rfl rfl rfl ?_
        refine go_ret rfl rfl ?_
        change sm (tbr am98 (13 * ln98) 77 5088) _ (uI (jn (appI (uI I 40 2 1) Q (4 * 0 + f)) K98) 50 ((13 * x98) + 6) (m.1 6)) Y at hS100
        rw [jn_hi (c := 50) (by decide)] at hS100
        have hU102 := RO_cl (K' := (uI K98 50 ((13 * x98) + 6) (m.1 6))) (m := (mgn (mgW 2 (m.1 6)) ((uI I 40 2 1) 9 (4 * 0 + f) + 1))) (by omega) hO98 (hE101) rfl rfl rfl rfl (fun c j _ hc => by
          simp only [uI]
          rw [if_neg (by omega)]) (fun i hi => by
          have hi2 : i < 1 := hi
          match i, hi2 with
            | 0, _ => (repeat (first | rw [uI_e (by omega)] | rw [uI_j (by omega)])) <;> rfl)
        have hA103 : RA w B (R + 1) [(x, m)] hb h99 ((appI (uI I 40 2 1) Q (4 * 0 + f)), (uQ Q (4 * 0 + f) (Q (4 * 0 + f) ++ [(mgn (mgW 2 (m.1 6)) ((uI I 40 2 1) 9 (4 * 0 + f) + 1))])), (uZ Z 4 m.2)) := RA_u.mpr ⟨_, _, _, _, hS100, hU102⟩
        have hms : rbr f 0 m (I, Q, Z) = ((appI (uI I 40 2 1) Q (4 * 0 + f)), (uQ Q (4 * 0 + f) (Q (4 * 0 + f) ++ [(mgn (mgW 2 (m.1 6)) ((uI I 40 2 1) 9 (4 * 0 + f) + 1))])), (uZ Z 4 m.2)) := by
          unfold rbr
          rw [if_neg (show ¬ m.1 0 = 1 by rw [h0]; decide), if_neg (show ¬ m.1 0 = 2 by rw [h0]; decide), if_pos (show m.1 0 = 3 ∨ m.1 0 = 4 from Or.inl h0), ec, show rcy 2 0 m.2 (I, Q, Z) = ((uI I 40 2 1, Q, uZ Z 4 m.2) : mM) from rfl, show rsn 0 f (mgW 2 (m.1 6)) ((uI I 40 2 1, Q, uZ Z 4 m.2) : mM) = mapp (4 * 0 + f) (mgW 2 (m.1 6)) ((uI I 40 2 1, Q, uZ Z 4 m.2) : mM) from if_neg u92]
          rw [show mapp (4 * 0 + f) (mgW 2 (m.1 6)) ((uI I 40 2 1, Q, uZ Z 4 m.2) : mM) = ((appI (uI I 40 2 1) Q (4 * 0 + f)), (uQ Q (4 * 0 + f) (Q (4 * 0 + f) ++ [(mgn (mgW 2 (m.1 6)) ((uI I 40 2 1) 9 (4 * 0 + f) + 1))])), (uZ Z 4 m.2)) from rfl]
        rw [hms]
        exact ⟨rfl, RA_R (by omega) hA103⟩
  · skip
    obtain ⟨y, y1, y2, y3, y4⟩ := hx.2.2.2.2.2 (by unfold isS; rw [h0]; rfl)
    obtain ⟨k9, hk9, e5⟩ := mk3 (Or.inr (Or.inl h0))
    obtain rfl | rfl | rfl : k9 = 0 ∨ k9 = 1 ∨ k9 = 2 := by omega
    · skip
      have ec : (m.1 5).toNatClampNeg = 0 := by rw [e5]; rfl
      refine go_s (pc' := 1) rfl rfl rfl rfl ?_
      refine go_sget (pc' := 2) (v := .ref am) hS rfl rfl rfl (by decide) rfl rfl ?_
      refine go_s (pc' := 3) rfl rfl rfl rfl ?_
      refine go_s (pc' := 4) (st' := [.int 5, .int (nI (13 * x)), .ref am]) rfl rfl rfl rfl ?_
      refine go_nadd (pc' := 5) (a := (13 * x)) (b := 5) rfl rfl rfl rfl rfl ?_
      refine go_sald (pc' := 6) (q := ((13 * x) + 5)) (v := .int 0) hS rfl (tr_ms hr (by omega)) rfl rfl (by omega) (congrArg Value.int (hx.2.2.2.1.trans e5)) rfl ?_
      refine go_s (pc' := 7) (lo' := [some (.ref 62), some (.int (nI (13 * x))), some (.int (nI f)), some (.int 0), some (.int 0), none]) rfl rfl rfl rfl ?_
      refine go_s (pc' := 8) rfl rfl rfl rfl ?_
      refine go_sget (pc' := 9) (v := .ref am) hS rfl rfl rfl (by decide) rfl rfl ?_
      refine go_s (pc' := 10) rfl rfl rfl rfl ?_
      refine go_s (pc' := 11) (st' := [.int 0, .int (nI (13 * x)), .ref am]) rfl rfl rfl rfl ?_
      refine go_nadd (pc' := 12) (a := (13 * x)) (b := 0) rfl rfl rfl rfl rfl ?_
      refine go_sald (pc' := 13) (q := ((13 * x) + 0)) (v := .int 4) hS rfl (tr_ms hr (by omega)) rfl rfl (by omega) (congrArg Value.int (hx.2.1.trans h0)) rfl ?_
      refine go_tsw (t' := 42) rfl (Or.inr ⟨by decide, rfl⟩) rfl ?_
      refine go_s (pc' := 43) rfl rfl rfl rfl ?_
      refine go_s (pc' := 44) rfl rfl rfl rfl ?_
      refine go_sget (pc' := 45) (v := .ref am) hS rfl rfl rfl (by decide) rfl rfl ?_
      refine go_s (pc' := 46) rfl rfl rfl rfl ?_
      refine go_s (pc' := 47) (st' := [.int 12, .int (nI (13 * x)), .ref am, .ref 62]) rfl rfl rfl rfl ?_
      refine go_nadd (pc' := 48) (a := (13 * x)) (b := 12) rfl rfl rfl rfl rfl ?_
      refine go_sald (pc' := 49) (q := ((13 * x) + 12)) (v := .int (nI y)) hS rfl (tr_ms hr (by omega)) rfl rfl (by omega) (congrArg Value.int y3) rfl ?_
      refine go_s (pc' := 50) (st' := [.int 2, .int (nI y), .ref 62]) rfl rfl rfl rfl ?_
      refine go_s (pc' := 51) rfl rfl rfl rfl ?_
      refine go_s (pc' := 52) (st' := [.int 0, .int (nI y), .ref 62]) rfl rfl rfl rfl ?_
      refine go_s (pc' := 53) rfl rfl rfl rfl ?_
      refine go_s (pc' := 54) (st' := [.int 2, .int 0, .int 0, .int (nI y), .ref 62]) rfl rfl rfl rfl ?_
      refine go_s (pc' := 55) (st' := [.int 0, .int 0, .int (nI y), .ref 62]) rfl rfl rfl rfl ?_
      refine go_s (pc' := 56) (st' := [.int 0, .int (nI y), .ref 62]) rfl rfl rfl rfl ?_
      refine go_callV (pc' := 57) rfl rfl rfl (Nat.le_of_ble_eq_true rfl) rfl (sm_o hS rfl) rfl rfl rfl (rs_cp hr hS hW (hW 77 (by decide) (by decide)) (f := y) (g := 0) (by omega) (by decide) (by omega) (by decide) (by omega)) (fun r h104 q105 => ?_)
      obtain ⟨rfl, hS106, hE107⟩ := q105
      rw [cpI_jn] at hS106
      obtain ⟨K7, e7⟩ : ∃ z, z = cpI K y 0 424 := ⟨_, rfl⟩
      rw [← e7] at hS106
      have hz7 : RZ K7 (decide (0 < 2)) 0 m.2 := by
        rw [e7]
        have z := RZ_cp (g := 0) y4
        rw [e5] at z
        exact z
      have hU108 : RU w B R [(x, m)] hb h104 am ln K7 (I, Q, uZ Z 0 m.2) := RU_row (by decide) (fun c j _ hc => by
        rw [e7]
        exact cpI_r (Nat.le_refl _) c j hc) hz7 (RU_I hE107 (fun _ => rfl) (fun _ => rfl) (Nat.le_refl _) hU)
      have hU109 : RU w B R [(x, m)] hb h104 am ln K7 (I, Q, (uZ Z 0 m.2)) := RU_I (sm_e_refl (tbr am (13 * ln) 77 5088) _) (I' := I) (fun _ => rfl) (fun _ => rfl) (Nat.le_refl _) hU108
      have hS110 : sm (tbr am (13 * ln) 77 5088) _ (jn (uI I 40 0 1) K7) Y := sm_jg hr hS106 (fun c j _ n1 n2 n3 => uI_c n3)
      have hU111 : RU w B R [(x, m)] hb h104 am ln K7 ((uI I 40 0 1), Q, (uZ Z 0 m.2)) := RU_I (sm_e_refl (tbr am (13 * ln) 77 5088) _) (fun _ => rfl) (fun _ => rfl) (Nat.le_refl _) hU109
      refine go_s (pc' := 58) rfl rfl rfl rfl ?_
      refine go_s (pc' := 59) rfl rfl rfl rfl ?_
      refine go_s (pc' := 60) rfl rfl rfl rfl ?_
      refine go_s (pc' := 61) (st' := [.int 5, .int (nI f), .int 0, .ref 62]) rfl rfl rfl rfl ?_
      refine go_s (pc' := 62) rfl rfl rfl rfl ?_
      have hU112 : RU w B R [(x, m)] hb h104 am ln K7 ((uI I 40 0 1), Q, (uZ Z 0 m.2)) := RU_I (sm_e_refl (tbr am (13 * ln) 77 5088) _) (I' := (uI I 40 0 1)) (fun _ => rfl) (fun _ => rfl) (Nat.le_refl _) hU111
      by_cases u113 : (uI I 40 0 1) 0 f = 0
      · skip
        refine go_callV (pc' := 63) rfl rfl rfl (Nat.le_of_ble_eq_true rfl) rfl (sm_o hS110 rfl) rfl rfl rfl (rn_snd_0 hS110 hU112 (by omega) (f := 0) (t := f) (by decide) hf u113 (by omega)) (fun r h114 q115 => ?_)
        obtain ⟨rfl, rfl⟩ := q115
        refine go_s (pc' := 64) (lo' := [some (.ref 62), some (.int (nI (13 * x))), some (.int (nI f)), some (.int 0), some (.int 0), some (.int (-1))]) rfl rfl rfl rfl ?_
        refine go_s (pc' := 65) rfl rfl rfl rfl ?_
        refine go_s (pc' := 66) (st' := [.int (-1), .int (-1)]) rfl rfl rfl rfl ?_
        refine go_icmpP (t' := 100) (pc' := 67) rfl rfl rfl (fun _ => ?_) (fun (c : ¬ (((-1) : Int32) = (-1))) => absurd (by decide) c)
        refine go_ret rfl rfl ?_
        have hA116 : RA w B R [(x, m)] hb h114 ((uI I 40 0 1), Q, (uZ Z 0 m.2)) := RA_u.mpr ⟨_, _, _, _, hS110, hU112⟩
        have hms : rbr f 0 m (I, Q, Z) = ((uI I 40 0 1), Q, (uZ Z 0 m.2)) := by
          unfold rbr
          rw [if_neg (show ¬ m.1 0 = 1 by rw [h0]; decide), if_neg (show ¬ m.1 0 = 2 by rw [h0]; decide), if_pos (show m.1 0 = 3 ∨ m.1 0 = 4 from Or.inr h0), ec, show rcy 0 0 m.2 (I, Q, Z) = ((uI I 40 0 1, Q, uZ Z 0 m.2) : mM) from rfl, show rsn 0 f (mgW 0 (m.1 6)) ((uI I 40 0 1, Q, uZ Z 0 m.2) : mM) = ((uI I 40 0 1, Q, uZ Z 0 m.2) : mM) from if_pos u113]
        rw [hms]
        exact ⟨rfl, RA_R (by omega) hA116⟩
      · skip
        refine go_callV (pc' := 63) rfl rfl rfl (Nat.le_of_ble_eq_true rfl) rfl (sm_o hS110 rfl) rfl rfl rfl (rn_snd_1 hS110 hU112 (by omega) (f := 0) (t := f) (by decide) hf u113 (by omega)) (fun r h117 q118 => ?_)
        obtain ⟨x119, am119, ln119, K119, rfl, hS119, hO119⟩ := q118
        obtain ⟨hx119, hln119, hr119, hWm119⟩ := RO_x hO119 (by omega)
        refine go_s (pc' := 64) (lo' := [some (.ref 62), some (.int (nI (13 * x))), some (.int (nI f)), some (.int 0), some (.int 0), some (.int (nI (13 * x119)))]) rfl rfl rfl rfl ?_
        refine go_s (pc' := 65) rfl rfl rfl rfl ?_
        refine go_s (pc' := 66) (st' := [.int (-1), .int (nI (13 * x119))]) rfl rfl rfl rfl ?_
        refine go_icmpP (t' := 100) (pc' := 67) rfl rfl rfl (fun (c : (nI (13 * x119)) = (-1)) => absurd c (nI_nm1 (by omega))) (fun _ => ?_)
        have hxo := RO_h hO119 (y := x) (m := m) (by simp)
        have hxl9 := hxo.1
        refine go_s (pc' := 68) rfl rfl rfl rfl ?_
        refine go_sget (pc' := 69) (v := .ref am119) hS119 rfl rfl rfl (by decide) rfl rfl ?_
        refine go_s (pc' := 70) rfl rfl rfl rfl ?_
        refine go_s (pc' := 71) (st' := [.int 6, .int (nI (13 * x119)), .ref am119]) rfl rfl rfl rfl ?_
        refine go_nadd (pc' := 72) (a := (13 * x119)) (b := 6) rfl rfl rfl rfl rfl ?_
        refine go_s (pc' := 73) rfl rfl rfl rfl ?_
        refine go_sget (pc' := 74) (v := .ref am119) hS119 rfl rfl rfl (by decide) rfl rfl ?_
        refine go_s (pc' := 75) rfl rfl rfl rfl ?_
        refine go_s (pc' := 76) (st' := [.int 6, .int (nI (13 * x)), .ref am119, .int (nI ((13 * x119) + 6)), .ref am119]) rfl rfl rfl rfl ?_
        refine go_nadd (pc' := 77) (a := (13 * x)) (b := 6) rfl rfl rfl rfl rfl ?_
        refine go_sald (pc' := 78) (q := ((13 * x) + 6)) (v := .int (m.1 6)) hS119 rfl (tr_ms hr119 (by omega)) rfl rfl (by omega) (congrArg Value.int (hxo.2 0 (by rw [h0]; decide))) rfl ?_
        refine go_siast (pc' := 79) (q := ((13 * x119) + 6)) hS119 rfl (tr_ms hr119 (by omega)) tbr_inj (Nat.le_of_ble_eq_true rfl) rfl (by omega) (rk_0 hr119).1 hWm119 rfl (fun h120 hS121 hE122 => ?_)
        refine go_s (pc' := 100) rfl rfl rfl rfl ?_
        refine go_ret rfl rfl ?_
        change sm (tbr am119 (13 * ln119) 77 5088) _ (uI (jn (appI (uI I 40 0 1) Q (4 * 0 + f)) K119) 50 ((13 * x119) + 6) (m.1 6)) Y at hS121
        rw [jn_hi (c := 50) (by decide)] at hS121
        have hU123 := RO_cl (K' := (uI K119 50 ((13 * x119) + 6) (m.1 6))) (m := (mgn (mgW 0 (m.1 6)) ((uI I 40 0 1) 9 (4 * 0 + f) + 1))) (by omega) hO119 (hE122) rfl rfl rfl rfl (fun c j _ hc => by
          simp only [uI]
          rw [if_neg (by omega)]) (fun i hi => by
          have hi2 : i < 1 := hi
          match i, hi2 with
            | 0, _ => (repeat (first | rw [uI_e (by omega)] | rw [uI_j (by omega)])) <;> rfl)
        have hA124 : RA w B (R + 1) [(x, m)] hb h120 ((appI (uI I 40 0 1) Q (4 * 0 + f)), (uQ Q (4 * 0 + f) (Q (4 * 0 + f) ++ [(mgn (mgW 0 (m.1 6)) ((uI I 40 0 1) 9 (4 * 0 + f) + 1))])), (uZ Z 0 m.2)) := RA_u.mpr ⟨_, _, _, _, hS121, hU123⟩
        have hms : rbr f 0 m (I, Q, Z) = ((appI (uI I 40 0 1) Q (4 * 0 + f)), (uQ Q (4 * 0 + f) (Q (4 * 0 + f) ++ [(mgn (mgW 0 (m.1 6)) ((uI I 40 0 1) 9 (4 * 0 + f) + 1))])), (uZ Z 0 m.2)) := by
          unfold rbr
          rw [if_neg (show ¬ m.1 0 = 1 by rw [h0]; decide), if_neg (show ¬ m.1 0 = 2 by rw [h0]; decide), if_pos (show m.1 0 = 3 ∨ m.1 0 = 4 from Or.inr h0), ec, show rcy 0 0 m.2 (I, Q, Z) = ((uI I 40 0 1, Q, uZ Z 0 m.2) : mM) from rfl, show rsn 0 f (mgW 0 (m.1 6)) ((uI I 40 0 1, Q, uZ Z 0 m.2) : mM) = mapp (4 * 0 + f) (mgW 0 (m.1 6)) ((uI I 40 0 1, Q, uZ Z 0 m.2) : mM) from if_neg u113]
          rw [show mapp (4 * 0 + f) (mgW 0 (m.1 6)) ((uI I 40 0 1, Q, uZ Z 0 m.2) : mM) = ((appI (uI I 40 0 1) Q (4 * 0 + f)), (uQ Q (4 * 0 + f) (Q (4 * 0 + f) ++ [(mgn (mgW 0 (m.1 6)) ((uI I 40 0 1) 9 (4 * 0 + f) + 1))])), (uZ Z 0 m.2)) from rfl]
        rw [hms]
        exact ⟨rfl, RA_R (by omega) hA124⟩
    · skip
      have ec : (m.1 5).toNatClampNeg = 1 := by rw [e5]; rfl
      refine go_s (pc' := 1) rfl rfl rfl rfl ?_
      refine go_sget (pc' := 2) (v := .ref am) hS rfl rfl rfl (by decide) rfl rfl ?_
      refine go_s (pc' := 3) rfl rfl rfl rfl ?_
      refine go_s (pc' := 4) (st' := [.int 5, .int (nI (13 * x)), .ref am]) rfl rfl rfl rfl ?_
      refine go_nadd (pc' := 5) (a := (13 * x)) (b := 5) rfl rfl rfl rfl rfl ?_
      refine go_sald (pc' := 6) (q := ((13 * x) + 5)) (v := .int 1) hS rfl (tr_ms hr (by omega)) rfl rfl (by omega) (congrArg Value.int (hx.2.2.2.1.trans e5)) rfl ?_
      refine go_s (pc' := 7) (lo' := [some (.ref 62), some (.int (nI (13 * x))), some (.int (nI f)), some (.int 0), some (.int 1), none]) rfl rfl rfl rfl ?_
      refine go_s (pc' := 8) rfl rfl rfl rfl ?_
      refine go_sget (pc' := 9) (v := .ref am) hS rfl rfl rfl (by decide) rfl rfl ?_
      refine go_s (pc' := 10) rfl rfl rfl rfl ?_
      refine go_s (pc' := 11) (st' := [.int 0, .int (nI (13 * x)), .ref am]) rfl rfl rfl rfl ?_
      refine go_nadd (pc' := 12) (a := (13 * x)) (b := 0) rfl rfl rfl rfl rfl ?_
      refine go_sald (pc' := 13) (q := ((13 * x) + 0)) (v := .int 4) hS rfl (tr_ms hr (by omega)) rfl rfl (by omega) (congrArg Value.int (hx.2.1.trans h0)) rfl ?_
      refine go_tsw (t' := 42) rfl (Or.inr ⟨by decide, rfl⟩) rfl ?_
      refine go_s (pc' := 43) rfl rfl rfl rfl ?_
      refine go_s (pc' := 44) rfl rfl rfl rfl ?_
      refine go_sget (pc' := 45) (v := .ref am) hS rfl rfl rfl (by decide) rfl rfl ?_
      refine go_s (pc' := 46) rfl rfl rfl rfl ?_
      refine go_s (pc' := 47) (st' := [.int 12, .int (nI (13 * x)), .ref am, .ref 62]) rfl rfl rfl rfl ?_
      refine go_nadd (pc' := 48) (a := (13 * x)) (b := 12) rfl rfl rfl rfl rfl ?_
      refine go_sald (pc' := 49) (q := ((13 * x) + 12)) (v := .int (nI y)) hS rfl (tr_ms hr (by omega)) rfl rfl (by omega) (congrArg Value.int y3) rfl ?_
      refine go_s (pc' := 50) (st' := [.int 2, .int (nI y), .ref 62]) rfl rfl rfl rfl ?_
      refine go_s (pc' := 51) rfl rfl rfl rfl ?_
      refine go_s (pc' := 52) (st' := [.int 2, .int (nI y), .ref 62]) rfl rfl rfl rfl ?_
      refine go_s (pc' := 53) rfl rfl rfl rfl ?_
      refine go_s (pc' := 54) (st' := [.int 2, .int 0, .int 2, .int (nI y), .ref 62]) rfl rfl rfl rfl ?_
      refine go_s (pc' := 55) (st' := [.int 0, .int 2, .int (nI y), .ref 62]) rfl rfl rfl rfl ?_
      refine go_s (pc' := 56) (st' := [.int 2, .int (nI y), .ref 62]) rfl rfl rfl rfl ?_
      refine go_callV (pc' := 57) rfl rfl rfl (Nat.le_of_ble_eq_true rfl) rfl (sm_o hS rfl) rfl rfl rfl (rs_cp hr hS hW (hW 77 (by decide) (by decide)) (f := y) (g := 2) (by omega) (by decide) (by omega) (by decide) (by omega)) (fun r h125 q126 => ?_)
      obtain ⟨rfl, hS127, hE128⟩ := q126
      rw [cpI_jn] at hS127
      obtain ⟨K7, e7⟩ : ∃ z, z = cpI K y 2 424 := ⟨_, rfl⟩
      rw [← e7] at hS127
      have hz7 : RZ K7 (decide (2 < 2)) 2 m.2 := by
        rw [e7]
        have z := RZ_cp (g := 2) y4
        rw [e5] at z
        exact z
      have hU129 : RU w B R [(x, m)] hb h125 am ln K7 (I, Q, uZ Z 2 m.2) := RU_row (by decide) (fun c j _ hc => by
        rw [e7]
        exact cpI_r (Nat.le_refl _) c j hc) hz7 (RU_I hE128 (fun _ => rfl) (fun _ => rfl) (Nat.le_refl _) hU)
      have hU130 : RU w B R [(x, m)] hb h125 am ln K7 (I, Q, (uZ Z 2 m.2)) := RU_I (sm_e_refl (tbr am (13 * ln) 77 5088) _) (I' := I) (fun _ => rfl) (fun _ => rfl) (Nat.le_refl _) hU129
      have hS131 : sm (tbr am (13 * ln) 77 5088) _ (jn (uI I 40 1 1) K7) Y := sm_jg hr hS127 (fun c j _ n1 n2 n3 => uI_c n3)
      have hU132 : RU w B R [(x, m)] hb h125 am ln K7 ((uI I 40 1 1), Q, (uZ Z 2 m.2)) := RU_I (sm_e_refl (tbr am (13 * ln) 77 5088) _) (fun _ => rfl) (fun _ => rfl) (Nat.le_refl _) hU130
      refine go_s (pc' := 58) rfl rfl rfl rfl ?_
      refine go_s (pc' := 59) rfl rfl rfl rfl ?_
      refine go_s (pc' := 60) rfl rfl rfl rfl ?_
      refine go_s (pc' := 61) (st' := [.int 5, .int (nI f), .int 0, .ref 62]) rfl rfl rfl rfl ?_
      refine go_s (pc' := 62) rfl rfl rfl rfl ?_
      have hU133 : RU w B R [(x, m)] hb h125 am ln K7 ((uI I 40 1 1), Q, (uZ Z 2 m.2)) := RU_I (sm_e_refl (tbr am (13 * ln) 77 5088) _) (I' := (uI I 40 1 1)) (fun _ => rfl) (fun _ => rfl) (Nat.le_refl _) hU132
      by_cases u134 : (uI I 40 1 1) 0 f = 0
      · skip
        refine go_callV (pc' := 63) rfl rfl rfl (Nat.le_of_ble_eq_true rfl) rfl (sm_o hS131 rfl) rfl rfl rfl (rn_snd_0 hS131 hU133 (by omega) (f := 0) (t := f) (by decide) hf u134 (by omega)) (fun r h135 q136 => ?_)
        obtain ⟨rfl, rfl⟩ := q136
        refine go_s (pc' := 64) (lo' := [some (.ref 62), some (.int (nI (13 * x))), some (.int (nI f)), some (.int 0), some (.int 1), some (.int (-1))]) rfl rfl rfl rfl ?_
        refine go_s (pc' := 65) rfl rfl rfl rfl ?_
        refine go_s (pc' := 66) (st' := [.int (-1), .int (-1)]) rfl rfl rfl rfl ?_
        refine go_icmpP (t' := 100) (pc' := 67) rfl rfl rfl (fun _ => ?_) (fun (c : ¬ (((-1) : Int32) = (-1))) => absurd (by decide) c)
        refine go_ret rfl rfl ?_
        have hA137 : RA w B R [(x, m)] hb h135 ((uI I 40 1 1), Q, (uZ Z 2 m.2)) := RA_u.mpr ⟨_, _, _, _, hS131, hU133⟩
        have hms : rbr f 0 m (I, Q, Z) = ((uI I 40 1 1), Q, (uZ Z 2 m.2)) := by
          unfold rbr
          rw [if_neg (show ¬ m.1 0 = 1 by rw [h0]; decide), if_neg (show ¬ m.1 0 = 2 by rw [h0]; decide), if_pos (show m.1 0 = 3 ∨ m.1 0 = 4 from Or.inr h0), ec, show rcy 1 0 m.2 (I, Q, Z) = ((uI I 40 1 1, Q, uZ Z 2 m.2) : mM) from rfl, show rsn 0 f (mgW 1 (m.1 6)) ((uI I 40 1 1, Q, uZ Z 2 m.2) : mM) = ((uI I 40 1 1, Q, uZ Z 2 m.2) : mM) from if_pos u134]
        rw [hms]
        exact ⟨rfl, RA_R (by omega) hA137⟩
      · skip
        refine go_callV (pc' := 63) rfl rfl rfl (Nat.le_of_ble_eq_true rfl) rfl (sm_o hS131 rfl) rfl rfl rfl (rn_snd_1 hS131 hU133 (by omega) (f := 0) (t := f) (by decide) hf u134 (by omega)) (fun r h138 q139 => ?_)
        obtain ⟨x140, am140, ln140, K140, rfl, hS140, hO140⟩ := q139
        obtain ⟨hx140, hln140, hr140, hWm140⟩ := RO_x hO140 (by omega)
        refine go_s (pc' := 64) (lo' := [some (.ref 62), some (.int (nI (13 * x))), some (.int (nI f)), some (.int 0), some (.int 1), some (.int (nI (13 * x140)))]) rfl rfl rfl rfl ?_
        refine go_s (pc' := 65) rfl rfl rfl rfl ?_
        refine go_s (pc' := 66) (st' := [.int (-1), .int (nI (13 * x140))]) rfl rfl rfl rfl ?_
        refine go_icmpP (t' := 100) (pc' := 67) rfl rfl rfl (fun (c : (nI (13 * x140)) = (-1)) => absurd c (nI_nm1 (by omega))) (fun _ => ?_)
        have hxo := RO_h hO140 (y := x) (m := m) (by simp)
        have hxl9 := hxo.1
        refine go_s (pc' := 68) rfl rfl rfl rfl ?_
        refine go_sget (pc' := 69) (v := .ref am140) hS140 rfl rfl rfl (by decide) rfl rfl ?_
        refine go_s (pc' := 70) rfl rfl rfl rfl ?_
        refine go_s (pc' := 71) (st' := [.int 6, .int (nI (13 * x140)), .ref am140]) rfl rfl rfl rfl ?_
        refine go_nadd (pc' := 72) (a := (13 * x140)) (b := 6) rfl rfl rfl rfl rfl ?_
        refine go_s (pc' := 73) rfl rfl rfl rfl ?_
        refine go_sget (pc' := 74) (v := .ref am140) hS140 rfl rfl rfl (by decide) rfl rfl ?_
        refine go_s (pc' := 75) rfl rfl rfl rfl ?_
        refine go_s (pc' := 76) (st' := [.int 6, .int (nI (13 * x)), .ref am140, .int (nI ((13 * x140) + 6)), .ref am140]) rfl rfl rfl rfl ?_
        refine go_nadd (pc' := 77) (a := (13 * x)) (b := 6) rfl rfl rfl rfl rfl ?_
        refine go_sald (pc' := 78) (q := ((13 * x) + 6)) (v := .int (m.1 6)) hS140 rfl (tr_ms hr140 (by omega)) rfl rfl (by omega) (congrArg Value.int (hxo.2 0 (by rw [h0]; decide))) rfl ?_
        refine go_siast (pc' := 79) (q := ((13 * x140) + 6)) hS140 rfl (tr_ms hr140 (by omega)) tbr_inj (Nat.le_of_ble_eq_true rfl) rfl (by omega) (rk_0 hr140).1 hWm140 rfl (fun h141 hS142 hE143 => ?_)
        refine go_s (pc' := 100) rfl rfl rfl rfl ?_
        refine go_ret rfl rfl ?_
        change sm (tbr am140 (13 * ln140) 77 5088) _ (uI (jn (appI (uI I 40 1 1) Q (4 * 0 + f)) K140) 50 ((13 * x140) + 6) (m.1 6)) Y at hS142
        rw [jn_hi (c := 50) (by decide)] at hS142
        have hU144 := RO_cl (K' := (uI K140 50 ((13 * x140) + 6) (m.1 6))) (m := (mgn (mgW 1 (m.1 6)) ((uI I 40 1 1) 9 (4 * 0 + f) + 1))) (by omega) hO140 (hE143) rfl rfl rfl rfl (fun c j _ hc => by
          simp only [uI]
          rw [if_neg (by omega)]) (fun i hi => by
          have hi2 : i < 1 := hi
          match i, hi2 with
            | 0, _ => (repeat (first | rw [uI_e (by omega)] | rw [uI_j (by omega)])) <;> rfl)
        have hA145 : RA w B (R + 1) [(x, m)] hb h141 ((appI (uI I 40 1 1) Q (4 * 0 + f)), (uQ Q (4 * 0 + f) (Q (4 * 0 + f) ++ [(mgn (mgW 1 (m.1 6)) ((uI I 40 1 1) 9 (4 * 0 + f) + 1))])), (uZ Z 2 m.2)) := RA_u.mpr ⟨_, _, _, _, hS142, hU144⟩
        have hms : rbr f 0 m (I, Q, Z) = ((appI (uI I 40 1 1) Q (4 * 0 + f)), (uQ Q (4 * 0 + f) (Q (4 * 0 + f) ++ [(mgn (mgW 1 (m.1 6)) ((uI I 40 1 1) 9 (4 * 0 + f) + 1))])), (uZ Z 2 m.2)) := by
          unfold rbr
          rw [if_neg (show ¬ m.1 0 = 1 by rw [h0]; decide), if_neg (show ¬ m.1 0 = 2 by rw [h0]; decide), if_pos (show m.1 0 = 3 ∨ m.1 0 = 4 from Or.inr h0), ec, show rcy 1 0 m.2 (I, Q, Z) = ((uI I 40 1 1, Q, uZ Z 2 m.2) : mM) from rfl, show rsn 0 f (mgW 1 (m.1 6)) ((uI I 40 1 1, Q, uZ Z 2 m.2) : mM) = mapp (4 * 0 + f) (mgW 1 (m.1 6)) ((uI I 40 1 1, Q, uZ Z 2 m.2) : mM) from if_neg u134]
          rw [show mapp (4 * 0 + f) (mgW 1 (m.1 6)) ((uI I 40 1 1, Q, uZ Z 2 m.2) : mM) = ((appI (uI I 40 1 1) Q (4 * 0 + f)), (uQ Q (4 * 0 + f) (Q (4 * 0 + f) ++ [(mgn (mgW 1 (m.1 6)) ((uI I 40 1 1) 9 (4 * 0 + f) + 1))])), (uZ Z 2 m.2)) from rfl]
        rw [hms]
        exact ⟨rfl, RA_R (by omega) hA145⟩
    · skip
      have ec : (m.1 5).toNatClampNeg = 2 := by rw [e5]; rfl
      refine go_s (pc' := 1) rfl rfl rfl rfl ?_
      refine go_sget (pc' := 2) (v := .ref am) hS rfl rfl rfl (by decide) rfl rfl ?_
      refine go_s (pc' := 3) rfl rfl rfl rfl ?_
      refine go_s (pc' := 4) (st' := [.int 5, .int (nI (13 * x)), .ref am]) rfl rfl rfl rfl ?_
      refine go_nadd (pc' := 5) (a := (13 * x)) (b := 5) rfl rfl rfl rfl rfl ?_
      refine go_sald (pc' := 6) (q := ((13 * x) + 5)) (v := .int 2) hS rfl (tr_ms hr (by omega)) rfl rfl (by omega) (congrArg Value.int (hx.2.2.2.1.trans e5)) rfl ?_
      refine go_s (pc' := 7) (lo' := [some (.ref 62), some (.int (nI (13 * x))), some (.int (nI f)), some (.int 0), some (.int 2), none]) rfl rfl rfl rfl ?_
      refine go_s (pc' := 8) rfl rfl rfl rfl ?_
      refine go_sget (pc' := 9) (v := .ref am) hS rfl rfl rfl (by decide) rfl rfl ?_
      refine go_s (pc' := 10) rfl rfl rfl rfl ?_
      refine go_s (pc' := 11) (st' := [.int 0, .int (nI (13 * x)), .ref am]) rfl rfl rfl rfl ?_
      refine go_nadd (pc' := 12) (a := (13 * x)) (b := 0) rfl rfl rfl rfl rfl ?_
      refine go_sald (pc' := 13) (q := ((13 * x) + 0)) (v := .int 4) hS rfl (tr_ms hr (by omega)) rfl rfl (by omega) (congrArg Value.int (hx.2.1.trans h0)) rfl ?_
      refine go_tsw (t' := 42) rfl (Or.inr ⟨by decide, rfl⟩) rfl ?_
      refine go_s (pc' := 43) rfl rfl rfl rfl ?_
      refine go_s (pc' := 44) rfl rfl rfl rfl ?_
      refine go_sget (pc' := 45) (v := .ref am) hS rfl rfl rfl (by decide) rfl rfl ?_
      refine go_s (pc' := 46) rfl rfl rfl rfl ?_
      refine go_s (pc' := 47) (st' := [.int 12, .int (nI (13 * x)), .ref am, .ref 62]) rfl rfl rfl rfl ?_
      refine go_nadd (pc' := 48) (a := (13 * x)) (b := 12) rfl rfl rfl rfl rfl ?_
      refine go_sald (pc' := 49) (q := ((13 * x) + 12)) (v := .int (nI y)) hS rfl (tr_ms hr (by omega)) rfl rfl (by omega) (congrArg Value.int y3) rfl ?_
      refine go_s (pc' := 50) (st' := [.int 2, .int (nI y), .ref 62]) rfl rfl rfl rfl ?_
      refine go_s (pc' := 51) rfl rfl rfl rfl ?_
      refine go_s (pc' := 52) (st' := [.int 4, .int (nI y), .ref 62]) rfl rfl rfl rfl ?_
      refine go_s (pc' := 53) rfl rfl rfl rfl ?_
      refine go_s (pc' := 54) (st' := [.int 2, .int 0, .int 4, .int (nI y), .ref 62]) rfl rfl rfl rfl ?_
      refine go_s (pc' := 55) (st' := [.int 0, .int 4, .int (nI y), .ref 62]) rfl rfl rfl rfl ?_
      refine go_s (pc' := 56) (st' := [.int 4, .int (nI y), .ref 62]) rfl rfl rfl rfl ?_
      refine go_callV (pc' := 57) rfl rfl rfl (Nat.le_of_ble_eq_true rfl) rfl (sm_o hS rfl) rfl rfl rfl (rs_cp hr hS hW (hW 77 (by decide) (by decide)) (f := y) (g := 4) (by omega) (by decide) (by omega) (by decide) (by omega)) (fun r h146 q147 => ?_)
      obtain ⟨rfl, hS148, hE149⟩ := q147
      rw [cpI_jn] at hS148
      obtain ⟨K7, e7⟩ : ∃ z, z = cpI K y 4 424 := ⟨_, rfl⟩
      rw [← e7] at hS148
      have hz7 : RZ K7 (decide (4 < 2)) 4 m.2 := by
        rw [e7]
        have z := RZ_cp (g := 4) y4
        rw [e5] at z
        exact z
      have hU150 : RU w B R [(x, m)] hb h146 am ln K7 (I, Q, uZ Z 4 m.2) := RU_row (by decide) (fun c j _ hc => by
        rw [e7]
        exact cpI_r (Nat.le_refl _) c j hc) hz7 (RU_I hE149 (fun _ => rfl) (fun _ => rfl) (Nat.le_refl _) hU)
      have hU151 : RU w B R [(x, m)] hb h146 am ln K7 (I, Q, (uZ Z 4 m.2)) := RU_I (sm_e_refl (tbr am (13 * ln) 77 5088) _) (I' := I) (fun _ => rfl) (fun _ => rfl) (Nat.le_refl _) hU150
      have hS152 : sm (tbr am (13 * ln) 77 5088) _ (jn (uI I 40 2 1) K7) Y := sm_jg hr hS148 (fun c j _ n1 n2 n3 => uI_c n3)
      have hU153 : RU w B R [(x, m)] hb h146 am ln K7 ((uI I 40 2 1), Q, (uZ Z 4 m.2)) := RU_I (sm_e_refl (tbr am (13 * ln) 77 5088) _) (fun _ => rfl) (fun _ => rfl) (Nat.le_refl _) hU151
      refine go_s (pc' := 58) rfl rfl rfl rfl ?_
      refine go_s (pc' := 59) rfl rfl rfl rfl ?_
      refine go_s (pc' := 60) rfl rfl rfl rfl ?_
      refine go_s (pc' := 61) (st' := [.int 5, .int (nI f), .int 0, .ref 62]) rfl rfl rfl rfl ?_
      refine go_s (pc' := 62) rfl rfl rfl rfl ?_
      have hU154 : RU w B R [(x, m)] hb h146 am ln K7 ((uI I 40 2 1), Q, (uZ Z 4 m.2)) := RU_I (sm_e_refl (tbr am (13 * ln) 77 5088) _) (I' := (uI I 40 2 1)) (fun _ => rfl) (fun _ => rfl) (Nat.le_refl _) hU153
      by_cases u155 : (uI I 40 2 1) 0 f = 0
      · skip
        refine go_callV (pc' := 63) rfl rfl rfl (Nat.le_of_ble_eq_true rfl) rfl (sm_o hS152 rfl) rfl rfl rfl (rn_snd_0 hS152 hU154 (by omega) (f := 0) (t := f) (by decide) hf u155 (by omega)) (fun r h156 q157 => ?_)
        obtain ⟨rfl, rfl⟩ := q157
        refine go_s (pc' := 64) (lo' := [some (.ref 62), some (.int (nI (13 * x))), some (.int (nI f)), some (.int 0), some (.int 2), some (.int (-1))]) rfl rfl rfl rfl ?_
        refine go_s (pc' := 65) rfl rfl rfl rfl ?_
        refine go_s (pc' := 66) (st' := [.int (-1), .int (-1)]) rfl rfl rfl rfl ?_
        refine go_icmpP (t' := 100) (pc' := 67) rfl rfl rfl (fun _ => ?_) (fun (c : ¬ (((-1) : Int32) = (-1))) => absurd (by decide) c)
        refine go_ret rfl rfl ?_
        have hA158 : RA w B R [(x, m)] hb h156 ((uI I 40 2 1), Q, (uZ Z 4 m.2)) := RA_u.mpr ⟨_, _, _, _, hS152, hU154⟩
        have hms : rbr f 0 m (I, Q, Z) = ((uI I 40 2 1), Q, (uZ Z 4 m.2)) := by
          unfold rbr
          rw [if_neg (show ¬ m.1 0 = 1 by rw [h0]; decide), if_neg (show ¬ m.1 0 = 2 by rw [h0]; decide), if_pos (show m.1 0 = 3 ∨ m.1 0 = 4 from Or.inr h0), ec, show rcy 2 0 m.2 (I, Q, Z) = ((uI I 40 2 1, Q, uZ Z 4 m.2) : mM) from rfl, show rsn 0 f (mgW 2 (m.1 6)) ((uI I 40 2 1, Q, uZ Z 4 m.2) : mM) = ((uI I 40 2 1, Q, uZ Z 4 m.2) : mM) from if_pos u155]
        rw [hms]
        exact ⟨rfl, RA_R (by omega) hA158⟩
      · skip
        refine go_callV (pc' := 63) rfl rfl rfl (Nat.le_of_ble_eq_true rfl) rfl (sm_o hS152 rfl) rfl rfl rfl (rn_snd_1 hS152 hU154 (by omega) (f := 0) (t := f) (by decide) hf u155 (by omega)) (fun r h159 q160 => ?_)
        obtain ⟨x161, am161, ln161, K161, rfl, hS161, hO161⟩ := q160
        obtain ⟨hx161, hln161, hr161, hWm161⟩ := RO_x hO161 (by omega)
        refine go_s (pc' := 64) (lo' := [some (.ref 62), some (.int (nI (13 * x))), some (.int (nI f)), some (.int 0), some (.int 2), some (.int (nI (13 * x161)))]) rfl rfl rfl rfl ?_
        refine go_s (pc' := 65) rfl rfl rfl rfl ?_
        refine go_s (pc' := 66) (st' := [.int (-1), .int (nI (13 * x161))]) rfl rfl rfl rfl ?_
        refine go_icmpP (t' := 100) (pc' := 67) rfl rfl rfl (fun (c : (nI (13 * x161)) = (-1)) => absurd c (nI_nm1 (by omega))) (fun _ => ?_)
        have hxo := RO_h hO161 (y := x) (m := m) (by simp)
        have hxl9 := hxo.1
        refine go_s (pc' := 68) rfl rfl rfl rfl ?_
        refine go_sget (pc' := 69) (v := .ref am161) hS161 rfl rfl rfl (by decide) rfl rfl ?_
        refine go_s (pc' := 70) rfl rfl rfl rfl ?_
        refine go_s (pc' := 71) (st' := [.int 6, .int (nI (13 * x161)), .ref am161]) rfl rfl rfl rfl ?_
        refine go_nadd (pc' := 72) (a := (13 * x161)) (b := 6) rfl rfl rfl rfl rfl ?_
        refine go_s (pc' := 73) rfl rfl rfl rfl ?_
        refine go_sget (pc' := 74) (v := .ref am161) hS161 rfl rfl rfl (by decide) rfl rfl ?_
        refine go_s (pc' := 75) rfl rfl rfl rfl ?_
        refine go_s (pc' := 76) (st' := [.int 6, .int (nI (13 * x)), .ref am161, .int (nI ((13 * x161) + 6)), .ref am161]) rfl rfl rfl rfl ?_
        refine go_nadd (pc' := 77) (a := (13 * x)) (b := 6) rfl rfl rfl rfl rfl ?_
        refine go_sald (pc' := 78) (q := ((13 * x) + 6)) (v := .int (m.1 6)) hS161 rfl (tr_ms hr161 (by omega)) rfl rfl (by omega) (congrArg Value.int (hxo.2 0 (by rw [h0]; decide))) rfl ?_
        refine go_siast (pc' := 79) (q := ((13 * x161) + 6)) hS161 rfl (tr_ms hr161 (by omega)) tbr_inj (Nat.le_of_ble_eq_true rfl) rfl (by omega) (rk_0 hr161).1 hWm161 rfl (fun h162 hS163 hE164 => ?_)
        refine go_s (pc' := 100) rfl rfl rfl rfl ?_
        refine go_ret rfl rfl ?_
        change sm (tbr am161 (13 * ln161) 77 5088) _ (uI (jn (appI (uI I 40 2 1) Q (4 * 0 + f)) K161) 50 ((13 * x161) + 6) (m.1 6)) Y at hS163
        rw [jn_hi (c := 50) (by decide)] at hS163
        have hU165 := RO_cl (K' := (uI K161 50 ((13 * x161) + 6) (m.1 6))) (m := (mgn (mgW 2 (m.1 6)) ((uI I 40 2 1) 9 (4 * 0 + f) + 1))) (by omega) hO161 (hE164) rfl rfl rfl rfl (fun c j _ hc => by
          simp only [uI]
          rw [if_neg (by omega)]) (fun i hi => by
          have hi2 : i < 1 := hi
          match i, hi2 with
            | 0, _ => (repeat (first | rw [uI_e (by omega)] | rw [uI_j (by omega)])) <;> rfl)
        have hA166 : RA w B (R + 1) [(x, m)] hb h162 ((appI (uI I 40 2 1) Q (4 * 0 + f)), (uQ Q (4 * 0 + f) (Q (4 * 0 + f) ++ [(mgn (mgW 2 (m.1 6)) ((uI I 40 2 1) 9 (4 * 0 + f) + 1))])), (uZ Z 4 m.2)) := RA_u.mpr ⟨_, _, _, _, hS163, hU165⟩
        have hms : rbr f 0 m (I, Q, Z) = ((appI (uI I 40 2 1) Q (4 * 0 + f)), (uQ Q (4 * 0 + f) (Q (4 * 0 + f) ++ [(mgn (mgW 2 (m.1 6)) ((uI I 40 2 1) 9 (4 * 0 + f) + 1))])), (uZ Z 4 m.2)) := by
          unfold rbr
          rw [if_neg (show ¬ m.1 0 = 1 by rw [h0]; decide), if_neg (show ¬ m.1 0 = 2 by rw [h0]; decide), if_pos (show m.1 0 = 3 ∨ m.1 0 = 4 from Or.inr h0), ec, show rcy 2 0 m.2 (I, Q, Z) = ((uI I 40 2 1, Q, uZ Z 4 m.2) : mM) from rfl, show rsn 0 f (mgW 2 (m.1 6)) ((uI I 40 2 1, Q, uZ Z 4 m.2) : mM) = mapp (4 * 0 + f) (mgW 2 (m.1 6)) ((uI I 40 2 1, Q, uZ Z 4 m.2) : mM) from if_neg u155]
          rw [show mapp (4 * 0 + f) (mgW 2 (m.1 6)) ((uI I 40 2 1, Q, uZ Z 4 m.2) : mM) = ((appI (uI I 40 2 1) Q (4 * 0 + f)), (uQ Q (4 * 0 + f) (Q (4 * 0 + f) ++ [(mgn (mgW 2 (m.1 6)) ((uI I 40 2 1) 9 (4 * 0 + f) + 1))])), (uZ Z 4 m.2)) from rfl]
        rw [hms]
        exact ⟨rfl, RA_R (by omega) hA166⟩
  · skip
    have hhc : hc [(x, m)] hb = 0 := by
      have z : isS m = false := by unfold isS; rw [h0]; rfl
      cases hb
      · rfl
      · show List.countP (fun p => isS p.2) [(x, m)] = 0
        simp [z]
    obtain ⟨k9, hk9, e5⟩ := mk3 (Or.inr (Or.inr h0))
    obtain rfl | rfl | rfl : k9 = 0 ∨ k9 = 1 ∨ k9 = 2 := by omega
    · skip
      have ec : (m.1 5).toNatClampNeg = 0 := by rw [e5]; rfl
      refine go_s (pc' := 1) rfl rfl rfl rfl ?_
      refine go_sget (pc' := 2) (v := .ref am) hS rfl rfl rfl (by decide) rfl rfl ?_
      refine go_s (pc' := 3) rfl rfl rfl rfl ?_
      refine go_s (pc' := 4) (st' := [.int 5, .int (nI (13 * x)), .ref am]) rfl rfl rfl rfl ?_
      refine go_nadd (pc' := 5) (a := (13 * x)) (b := 5) rfl rfl rfl rfl rfl ?_
      refine go_sald (pc' := 6) (q := ((13 * x) + 5)) (v := .int 0) hS rfl (tr_ms hr (by omega)) rfl rfl (by omega) (congrArg Value.int (hx.2.2.2.1.trans e5)) rfl ?_
      refine go_s (pc' := 7) (lo' := [some (.ref 62), some (.int (nI (13 * x))), some (.int (nI f)), some (.int 0), some (.int 0), none]) rfl rfl rfl rfl ?_
      refine go_s (pc' := 8) rfl rfl rfl rfl ?_
      refine go_sget (pc' := 9) (v := .ref am) hS rfl rfl rfl (by decide) rfl rfl ?_
      refine go_s (pc' := 10) rfl rfl rfl rfl ?_
      refine go_s (pc' := 11) (st' := [.int 0, .int (nI (13 * x)), .ref am]) rfl rfl rfl rfl ?_
      refine go_nadd (pc' := 12) (a := (13 * x)) (b := 0) rfl rfl rfl rfl rfl ?_
      refine go_sald (pc' := 13) (q := ((13 * x) + 0)) (v := .int 5) hS rfl (tr_ms hr (by omega)) rfl rfl (by omega) (congrArg Value.int (hx.2.1.trans h0)) rfl ?_
      refine go_tsw (t' := 80) rfl (Or.inl ⟨by decide, rfl⟩) rfl ?_
      refine go_s (pc' := 81) rfl rfl rfl rfl ?_
      refine go_sget (pc' := 82) (v := .ref 78) hS rfl rfl rfl (by decide) rfl rfl ?_
      refine go_s (pc' := 83) rfl rfl rfl rfl ?_
      refine go_sald (pc' := 84) (q := 0) (v := .int (I 11 0)) hS rfl (tr_s hr (a := 78) rfl (by decide)) rfl rfl (by decide) rfl rfl ?_
      refine go_s (pc' := 85) rfl rfl rfl rfl ?_
      refine go_icmpP (t' := 100) (pc' := 86) rfl rfl rfl (fun (c167 : ¬ (I 11 0) = 0) => ?_) (fun (c167' : ¬ ¬ (I 11 0) = 0) => ?_)
      · skip
        refine go_ret rfl rfl ?_
        have hms : rbr f 0 m (I, Q, Z) = (I, Q, Z) := by
          unfold rbr
          rw [if_neg (show ¬ m.1 0 = 1 by rw [h0]; decide), if_neg (show ¬ m.1 0 = 2 by rw [h0]; decide), if_neg (show ¬ (m.1 0 = 3 ∨ m.1 0 = 4) by rw [h0]; decide), ec, if_neg (fun z => c167 z.1)]
        rw [hms]
        exact ⟨rfl, RA_R (by omega) hA⟩
      · skip
        have c167 : (I 11 0) = 0 := Decidable.not_not.mp c167'
        refine go_s (pc' := 87) rfl rfl rfl rfl ?_
        refine go_sget (pc' := 88) (v := .ref am) hS rfl rfl rfl (by decide) rfl rfl ?_
        refine go_s (pc' := 89) rfl rfl rfl rfl ?_
        refine go_s (pc' := 90) (st' := [.int 6, .int (nI (13 * x)), .ref am]) rfl rfl rfl rfl ?_
        refine go_nadd (pc' := 91) (a := (13 * x)) (b := 6) rfl rfl rfl rfl rfl ?_
        refine go_sald (pc' := 92) (q := ((13 * x) + 6)) (v := .int (m.1 6)) hS rfl (tr_ms hr (by omega)) rfl rfl (by omega) (congrArg Value.int (hx.2.2.2.2.1 0 (by rw [h0]; decide))) rfl ?_
        refine go_s (pc' := 93) rfl rfl rfl rfl ?_
        refine go_sget (pc' := 94) (v := .ref 82) hS rfl rfl rfl (by decide) rfl rfl ?_
        refine go_s (pc' := 95) rfl rfl rfl rfl ?_
        refine go_sald (pc' := 96) (q := 0) (v := .int (I 15 0)) hS rfl (tr_s hr (a := 82) rfl (by decide)) rfl rfl (by decide) rfl rfl ?_
        refine go_icmpP (t' := 100) (pc' := 97) rfl rfl rfl (fun (c168 : ¬ (m.1 6) = (I 15 0)) => ?_) (fun (c168' : ¬ ¬ (m.1 6) = (I 15 0)) => ?_)
        · skip
          refine go_ret rfl rfl ?_
          have hms : rbr f 0 m (I, Q, Z) = (I, Q, Z) := by
            unfold rbr
            rw [if_neg (show ¬ m.1 0 = 1 by rw [h0]; decide), if_neg (show ¬ m.1 0 = 2 by rw [h0]; decide), if_neg (show ¬ (m.1 0 = 3 ∨ m.1 0 = 4) by rw [h0]; decide), ec, if_neg (fun z => c168 z.2)]
          rw [hms]
          exact ⟨rfl, RA_R (by omega) hA⟩
        · skip
          have c168 : (m.1 6) = (I 15 0) := Decidable.not_not.mp c168'
          refine go_s (pc' := 98) rfl rfl rfl rfl ?_
          refine go_s (pc' := 99) rfl rfl rfl rfl ?_
          obtain ⟨hns, hgo⟩ := hwd 0 (by decide) h0 e5 c168
          have h5q : sq Q ≤ 5 := sq_5 (X := X) (k := 0) (M := (I, Q, Z)) (by omega) hN.1 (by decide) hns
          have hnk : ¬ I 11 0 = -1 := fun z => absurd (c167.symm.trans z) (by decide)
          have hU169 : RU w B R [(x, m)] hb h am ln K (I, Q, Z) := RU_I (sm_e_refl (tbr am (13 * ln) 77 5088) _) (I' := I) (fun _ => rfl) (fun _ => rfl) (Nat.le_refl _) hU
          have hA170 : RA w B R [(x, m)] hb h (I, Q, Z) := RA_u.mpr ⟨_, _, _, _, hS, hU169⟩
          refine go_callV (pc' := 100) rfl rfl rfl (Nat.le_of_ble_eq_true rfl) rfl (sm_o hS rfl) rfl rfl rfl (ra_wd_0 hA170 (by omega) (X := X) (by omega) hgo hhc h5q hp0 hnk (by omega)) (fun r h171 q172 => ?_)
          obtain ⟨rfl, hA173⟩ := q172
          refine go_ret rfl rfl ?_
          have hms : rbr f 0 m (I, Q, Z) = rwd 0 (I, Q, Z) := by
            unfold rbr
            rw [if_neg (show ¬ m.1 0 = 1 by rw [h0]; decide), if_neg (show ¬ m.1 0 = 2 by rw [h0]; decide), if_neg (show ¬ (m.1 0 = 3 ∨ m.1 0 = 4) by rw [h0]; decide), ec, if_pos (show ((I, Q, Z) : mM).1 11 0 = nI 0 ∧ m.1 6 = ((I, Q, Z) : mM).1 15 0 from ⟨c167, c168⟩)]
          rw [hms]
          exact ⟨rfl, RA_R (by omega) hA173⟩
    · skip
      have ec : (m.1 5).toNatClampNeg = 1 := by rw [e5]; rfl
      refine go_s (pc' := 1) rfl rfl rfl rfl ?_
      refine go_sget (pc' := 2) (v := .ref am) hS rfl rfl rfl (by decide) rfl rfl ?_
      refine go_s (pc' := 3) rfl rfl rfl rfl ?_
      refine go_s (pc' := 4) (st' := [.int 5, .int (nI (13 * x)), .ref am]) rfl rfl rfl rfl ?_
      refine go_nadd (pc' := 5) (a := (13 * x)) (b := 5) rfl rfl rfl rfl rfl ?_
      refine go_sald (pc' := 6) (q := ((13 * x) + 5)) (v := .int 1) hS rfl (tr_ms hr (by omega)) rfl rfl (by omega) (congrArg Value.int (hx.2.2.2.1.trans e5)) rfl ?_
      refine go_s (pc' := 7) (lo' := [some (.ref 62), some (.int (nI (13 * x))), some (.int (nI f)), some (.int 0), some (.int 1), none]) rfl rfl rfl rfl ?_
      refine go_s (pc' := 8) rfl rfl rfl rfl ?_
      refine go_sget (pc' := 9) (v := .ref am) hS rfl rfl rfl (by decide) rfl rfl ?_
      refine go_s (pc' := 10) rfl rfl rfl rfl ?_
      refine go_s (pc' := 11) (st' := [.int 0, .int (nI (13 * x)), .ref am]) rfl rfl rfl rfl ?_
      refine go_nadd (pc' := 12) (a := (13 * x)) (b := 0) rfl rfl rfl rfl rfl ?_
      refine go_sald (pc' := 13) (q := ((13 * x) + 0)) (v := .int 5) hS rfl (tr_ms hr (by omega)) rfl rfl (by omega) (congrArg Value.int (hx.2.1.trans h0)) rfl ?_
      refine go_tsw (t' := 80) rfl (Or.inl ⟨by decide, rfl⟩) rfl ?_
      refine go_s (pc' := 81) rfl rfl rfl rfl ?_
      refine go_sget (pc' := 82) (v := .ref 78) hS rfl rfl rfl (by decide) rfl rfl ?_
      refine go_s (pc' := 83) rfl rfl rfl rfl ?_
      refine go_sald (pc' := 84) (q := 1) (v := .int (I 11 1)) hS rfl (tr_s hr (a := 78) rfl (by decide)) rfl rfl (by decide) rfl rfl ?_
      refine go_s (pc' := 85) rfl rfl rfl rfl ?_
      refine go_icmpP (t' := 100) (pc' := 86) rfl rfl rfl (fun (c174 : ¬ (I 11 1) = 0) => ?_) (fun (c174' : ¬ ¬ (I 11 1) = 0) => ?_)
      · skip
        refine go_ret rfl rfl ?_
        have hms : rbr f 0 m (I, Q, Z) = (I, Q, Z) := by
          unfold rbr
          rw [if_neg (show ¬ m.1 0 = 1 by rw [h0]; decide), if_neg (show ¬ m.1 0 = 2 by rw [h0]; decide), if_neg (show ¬ (m.1 0 = 3 ∨ m.1 0 = 4) by rw [h0]; decide), ec, if_neg (fun z => c174 z.1)]
        rw [hms]
        exact ⟨rfl, RA_R (by omega) hA⟩
      · skip
        have c174 : (I 11 1) = 0 := Decidable.not_not.mp c174'
        refine go_s (pc' := 87) rfl rfl rfl rfl ?_
        refine go_sget (pc' := 88) (v := .ref am) hS rfl rfl rfl (by decide) rfl rfl ?_
        refine go_s (pc' := 89) rfl rfl rfl rfl ?_
        refine go_s (pc' := 90) (st' := [.int 6, .int (nI (13 * x)), .ref am]) rfl rfl rfl rfl ?_
        refine go_nadd (pc' := 91) (a := (13 * x)) (b := 6) rfl rfl rfl rfl rfl ?_
        refine go_sald (pc' := 92) (q := ((13 * x) + 6)) (v := .int (m.1 6)) hS rfl (tr_ms hr (by omega)) rfl rfl (by omega) (congrArg Value.int (hx.2.2.2.2.1 0 (by rw [h0]; decide))) rfl ?_
        refine go_s (pc' := 93) rfl rfl rfl rfl ?_
        refine go_sget (pc' := 94) (v := .ref 82) hS rfl rfl rfl (by decide) rfl rfl ?_
        refine go_s (pc' := 95) rfl rfl rfl rfl ?_
        refine go_sald (pc' := 96) (q := 1) (v := .int (I 15 1)) hS rfl (tr_s hr (a := 82) rfl (by decide)) rfl rfl (by decide) rfl rfl ?_
        refine go_icmpP (t' := 100) (pc' := 97) rfl rfl rfl (fun (c175 : ¬ (m.1 6) = (I 15 1)) => ?_) (fun (c175' : ¬ ¬ (m.1 6) = (I 15 1)) => ?_)
        · skip
          refine go_ret rfl rfl ?_
          have hms : rbr f 0 m (I, Q, Z) = (I, Q, Z) := by
            unfold rbr
            rw [if_neg (show ¬ m.1 0 = 1 by rw [h0]; decide), if_neg (show ¬ m.1 0 = 2 by rw [h0]; decide), if_neg (show ¬ (m.1 0 = 3 ∨ m.1 0 = 4) by rw [h0]; decide), ec, if_neg (fun z => c175 z.2)]
          rw [hms]
          exact ⟨rfl, RA_R (by omega) hA⟩
        · skip
          have c175 : (m.1 6) = (I 15 1) := Decidable.not_not.mp c175'
          refine go_s (pc' := 98) rfl rfl rfl rfl ?_
          refine go_s (pc' := 99) rfl rfl rfl rfl ?_
          obtain ⟨hns, hgo⟩ := hwd 1 (by decide) h0 e5 c175
          have h5q : sq Q ≤ 5 := sq_5 (X := X) (k := 1) (M := (I, Q, Z)) (by omega) hN.1 (by decide) hns
          have hnk : ¬ I 11 1 = -1 := fun z => absurd (c174.symm.trans z) (by decide)
          have hU176 : RU w B R [(x, m)] hb h am ln K (I, Q, Z) := RU_I (sm_e_refl (tbr am (13 * ln) 77 5088) _) (I' := I) (fun _ => rfl) (fun _ => rfl) (Nat.le_refl _) hU
          have hA177 : RA w B R [(x, m)] hb h (I, Q, Z) := RA_u.mpr ⟨_, _, _, _, hS, hU176⟩
          refine go_callV (pc' := 100) rfl rfl rfl (Nat.le_of_ble_eq_true rfl) rfl (sm_o hS rfl) rfl rfl rfl (ra_wd_1 hA177 (by omega) (X := X) (by omega) hgo hhc h5q hp0 hp1 hnk (by omega)) (fun r h178 q179 => ?_)
          obtain ⟨rfl, hA180⟩ := q179
          refine go_ret rfl rfl ?_
          have hms : rbr f 0 m (I, Q, Z) = rwd 1 (I, Q, Z) := by
            unfold rbr
            rw [if_neg (show ¬ m.1 0 = 1 by rw [h0]; decide), if_neg (show ¬ m.1 0 = 2 by rw [h0]; decide), if_neg (show ¬ (m.1 0 = 3 ∨ m.1 0 = 4) by rw [h0]; decide), ec, if_pos (show ((I, Q, Z) : mM).1 11 1 = nI 0 ∧ m.1 6 = ((I, Q, Z) : mM).1 15 1 from ⟨c174, c175⟩)]
          rw [hms]
          exact ⟨rfl, RA_R (by omega) hA180⟩
    · skip
      have ec : (m.1 5).toNatClampNeg = 2 := by rw [e5]; rfl
      refine go_s (pc' := 1) rfl rfl rfl rfl ?_
      refine go_sget (pc' := 2) (v := .ref am) hS rfl rfl rfl (by decide) rfl rfl ?_
      refine go_s (pc' := 3) rfl rfl rfl rfl ?_
      refine go_s (pc' := 4) (st' := [.int 5, .int (nI (13 * x)), .ref am]) rfl rfl rfl rfl ?_
      refine go_nadd (pc' := 5) (a := (13 * x)) (b := 5) rfl rfl rfl rfl rfl ?_
      refine go_sald (pc' := 6) (q := ((13 * x) + 5)) (v := .int 2) hS rfl (tr_ms hr (by omega)) rfl rfl (by omega) (congrArg Value.int (hx.2.2.2.1.trans e5)) rfl ?_
      refine go_s (pc' := 7) (lo' := [some (.ref 62), some (.int (nI (13 * x))), some (.int (nI f)), some (.int 0), some (.int 2), none]) rfl rfl rfl rfl ?_
      refine go_s (pc' := 8) rfl rfl rfl rfl ?_
      refine go_sget (pc' := 9) (v := .ref am) hS rfl rfl rfl (by decide) rfl rfl ?_
      refine go_s (pc' := 10) rfl rfl rfl rfl ?_
      refine go_s (pc' := 11) (st' := [.int 0, .int (nI (13 * x)), .ref am]) rfl rfl rfl rfl ?_
      refine go_nadd (pc' := 12) (a := (13 * x)) (b := 0) rfl rfl rfl rfl rfl ?_
      refine go_sald (pc' := 13) (q := ((13 * x) + 0)) (v := .int 5) hS rfl (tr_ms hr (by omega)) rfl rfl (by omega) (congrArg Value.int (hx.2.1.trans h0)) rfl ?_
      refine go_tsw (t' := 80) rfl (Or.inl ⟨by decide, rfl⟩) rfl ?_
      refine go_s (pc' := 81) rfl rfl rfl rfl ?_
      refine go_sget (pc' := 82) (v := .ref 78) hS rfl rfl rfl (by decide) rfl rfl ?_
      refine go_s (pc' := 83) rfl rfl rfl rfl ?_
      refine go_sald (pc' := 84) (q := 2) (v := .int (I 11 2)) hS rfl (tr_s hr (a := 78) rfl (by decide)) rfl rfl (by decide) rfl rfl ?_
      refine go_s (pc' := 85) rfl rfl rfl rfl ?_
      refine go_icmpP (t' := 100) (pc' := 86) rfl rfl rfl (fun (c181 : ¬ (I 11 2) = 0) => ?_) (fun (c181' : ¬ ¬ (I 11 2) = 0) => ?_)
      · skip
        refine go_ret rfl rfl ?_
        have hms : rbr f 0 m (I, Q, Z) = (I, Q, Z) := by
          unfold rbr
          rw [if_neg (show ¬ m.1 0 = 1 by rw [h0]; decide), if_neg (show ¬ m.1 0 = 2 by rw [h0]; decide), if_neg (show ¬ (m.1 0 = 3 ∨ m.1 0 = 4) by rw [h0]; decide), ec, if_neg (fun z => c181 z.1)]
        rw [hms]
        exact ⟨rfl, RA_R (by omega) hA⟩
      · skip
        have c181 : (I 11 2) = 0 := Decidable.not_not.mp c181'
        refine go_s (pc' := 87) rfl rfl rfl rfl ?_
        refine go_sget (pc' := 88) (v := .ref am) hS rfl rfl rfl (by decide) rfl rfl ?_
        refine go_s (pc' := 89) rfl rfl rfl rfl ?_
        refine go_s (pc' := 90) (st' := [.int 6, .int (nI (13 * x)), .ref am]) rfl rfl rfl rfl ?_
        refine go_nadd (pc' := 91) (a := (13 * x)) (b := 6) rfl rfl rfl rfl rfl ?_
        refine go_sald (pc' := 92) (q := ((13 * x) + 6)) (v := .int (m.1 6)) hS rfl (tr_ms hr (by omega)) rfl rfl (by omega) (congrArg Value.int (hx.2.2.2.2.1 0 (by rw [h0]; decide))) rfl ?_
        refine go_s (pc' := 93) rfl rfl rfl rfl ?_
        refine go_sget (pc' := 94) (v := .ref 82) hS rfl rfl rfl (by decide) rfl rfl ?_
        refine go_s (pc' := 95) rfl rfl rfl rfl ?_
        refine go_sald (pc' := 96) (q := 2) (v := .int (I 15 2)) hS rfl (tr_s hr (a := 82) rfl (by decide)) rfl rfl (by decide) rfl rfl ?_
        refine go_icmpP (t' := 100) (pc' := 97) rfl rfl rfl (fun (c182 : ¬ (m.1 6) = (I 15 2)) => ?_) (fun (c182' : ¬ ¬ (m.1 6) = (I 15 2)) => ?_)
        · skip
          refine go_ret rfl rfl ?_
          have hms : rbr f 0 m (I, Q, Z) = (I, Q, Z) := by
            unfold rbr
            rw [if_neg (show ¬ m.1 0 = 1 by rw [h0]; decide), if_neg (show ¬ m.1 0 = 2 by rw [h0]; decide), if_neg (show ¬ (m.1 0 = 3 ∨ m.1 0 = 4) by rw [h0]; decide), ec, if_neg (fun z => c182 z.2)]
          rw [hms]
          exact ⟨rfl, RA_R (by omega) hA⟩
        · skip
          have c182 : (m.1 6) = (I 15 2) := Decidable.not_not.mp c182'
          refine go_s (pc' := 98) rfl rfl rfl rfl ?_
          refine go_s (pc' := 99) rfl rfl rfl rfl ?_
          obtain ⟨hns, hgo⟩ := hwd 2 (by decide) h0 e5 c182
          have h5q : sq Q ≤ 5 := sq_5 (X := X) (k := 2) (M := (I, Q, Z)) (by omega) hN.1 (by decide) hns
          have hnk : ¬ I 11 2 = -1 := fun z => absurd (c181.symm.trans z) (by decide)
          have hU183 : RU w B R [(x, m)] hb h am ln K (I, Q, Z) := RU_I (sm_e_refl (tbr am (13 * ln) 77 5088) _) (I' := I) (fun _ => rfl) (fun _ => rfl) (Nat.le_refl _) hU
          have hA184 : RA w B R [(x, m)] hb h (I, Q, Z) := RA_u.mpr ⟨_, _, _, _, hS, hU183⟩
          refine go_callV (pc' := 100) rfl rfl rfl (Nat.le_of_ble_eq_true rfl) rfl (sm_o hS rfl) rfl rfl rfl (ra_wd_2 hA184 (by omega) (X := X) (by omega) hgo hhc h5q hp0 hp2 hnk (by omega)) (fun r h185 q186 => ?_)
          obtain ⟨rfl, hA187⟩ := q186
          refine go_ret rfl rfl ?_
          have hms : rbr f 0 m (I, Q, Z) = rwd 2 (I, Q, Z) := by
            unfold rbr
            rw [if_neg (show ¬ m.1 0 = 1 by rw [h0]; decide), if_neg (show ¬ m.1 0 = 2 by rw [h0]; decide), if_neg (show ¬ (m.1 0 = 3 ∨ m.1 0 = 4) by rw [h0]; decide), ec, if_pos (show ((I, Q, Z) : mM).1 11 2 = nI 0 ∧ m.1 6 = ((I, Q, Z) : mM).1 15 2 from ⟨c181, c182⟩)]
          rw [hms]
          exact ⟨rfl, RA_R (by omega) hA187⟩
theorem ra_br_1 {w : Nat → Bool} {d B R : Nat} {x : Nat} {m : mg} {hb : Bool} {h : am_Hp} {I : sm_I} {Q : mQ} {Z : mZ} (hA : RA w B R [(x, m)] hb h (I, Q, Z)) (hR : R + 12 < 40000) {X : Nat} (hX : X + 60 < 2 ^ 28) (hN : INV X (I, Q, Z)) (hMK : MK m) (hup : I 0 1 = 1) {f : Nat} (hf : f < 4) (hwd : ∀ k, k < 3 → m.1 0 = 5 → m.1 5 = nI k → m.1 6 = I 15 k → (∀ i y, ¬ US I Q k i y) ∧ (I 16 k = 1 → MID (X + 1) (rgo k (I, Q, Z)))) (hd : 11 ≤ d) : am_Ev (am_prog w) d 179 [.ref 62, .int (nI (13 * x)), .int (nI f), .int 1] h (fun r h' => r = none ∧ RA w B (R + 4) [(x, m)] hb h' (rbr f 1 m (I, Q, Z))) := by
  obtain ⟨K, Y, am, ln, hS, hU⟩ := RA_u.mp hA
  change sm (tbr am (13 * ln) 77 5088) h (jn I K) Y at hS
  obtain ⟨hW, hWm, -, -, hr, -⟩ := id hU.1
  have hln := RU_ln hU (by omega)
  obtain ⟨d, rfl⟩ : ∃ e, d = e + 1 := ⟨d - 1, by omega⟩
  refine ev_go rfl (Nat.le_of_ble_eq_true rfl) rfl ?_
  have hx := RU_h hU (x := x) (m := m) (by simp)
  have hxl := hx.1
  have hp0 : prk I 0 := (hN.1.2.2.1 0 (by decide)).1
  have hp1 : prk I 1 := (hN.1.2.2.1 1 (by decide)).1
  have hp2 : prk I 2 := (hN.1.2.2.1 2 (by decide)).1
  obtain ⟨mk1, mk2, mk3, mk4⟩ := MK_5 hMK
  rcases mk4 with h0 | h0 | h0 | h0 | h0
  · skip
    have hhc : hc [(x, m)] hb = 0 := by
      have z : isS m = false := by unfold isS; rw [h0]; rfl
      cases hb
      · rfl
      · show List.countP (fun p => isS p.2) [(x, m)] = 0
        simp [z]
    obtain ⟨k9, hk9, e5⟩ := mk1 h0
    obtain rfl | rfl : k9 = 0 ∨ k9 = 1 := by omega
    · skip
      have ec : (m.1 5).toNatClampNeg = 0 := by rw [e5]; rfl
      refine go_s (pc' := 1) rfl rfl rfl rfl ?_
      refine go_sget (pc' := 2) (v := .ref am) hS rfl rfl rfl (by decide) rfl rfl ?_
      refine go_s (pc' := 3) rfl rfl rfl rfl ?_
      refine go_s (pc' := 4) (st' := [.int 5, .int (nI (13 * x)), .ref am]) rfl rfl rfl rfl ?_
      refine go_nadd (pc' := 5) (a := (13 * x)) (b := 5) rfl rfl rfl rfl rfl ?_
      refine go_sald (pc' := 6) (q := ((13 * x) + 5)) (v := .int 0) hS rfl (tr_ms hr (by omega)) rfl rfl (by omega) (congrArg Value.int (hx.2.2.2.1.trans e5)) rfl ?_
      refine go_s (pc' := 7) (lo' := [some (.ref 62), some (.int (nI (13 * x))), some (.int (nI f)), some (.int 1), some (.int 0), none]) rfl rfl rfl rfl ?_
      refine go_s (pc' := 8) rfl rfl rfl rfl ?_
      refine go_sget (pc' := 9) (v := .ref am) hS rfl rfl rfl (by decide) rfl rfl ?_
      refine go_s (pc' := 10) rfl rfl rfl rfl ?_
      refine go_s (pc' := 11) (st' := [.int 0, .int (nI (13 * x)), .ref am]) rfl rfl rfl rfl ?_
      refine go_nadd (pc' := 12) (a := (13 * x)) (b := 0) rfl rfl rfl rfl rfl ?_
      refine go_sald (pc' := 13) (q := ((13 * x) + 0)) (v := .int 1) hS rfl (tr_ms hr (by omega)) rfl rfl (by omega) (congrArg Value.int (hx.2.1.trans h0)) rfl ?_
      refine go_tsw (t' := 14) rfl (Or.inr ⟨by decide, rfl⟩) rfl ?_
      refine go_s (pc' := 15) rfl rfl rfl rfl ?_
      refine go_sget (pc' := 16) (v := .ref 78) hS rfl rfl rfl (by decide) rfl rfl ?_
      refine go_s (pc' := 17) (st' := [.int 0, .ref 78]) rfl rfl rfl rfl ?_
      refine go_sald (pc' := 18) (q := 0) (v := .int (I 11 0)) hS rfl (tr_s hr (a := 78) rfl (by decide)) rfl rfl (by decide) rfl rfl ?_
      refine go_s (pc' := 19) rfl rfl rfl rfl ?_
      refine go_icmpP (t' := 21) (pc' := 20) rfl rfl rfl (fun (c1 : (I 11 0) = 1) => ?_) (fun (c1 : ¬ (I 11 0) = 1) => ?_)
      · skip
        refine go_s (pc' := 22) rfl rfl rfl rfl ?_
        refine go_s (pc' := 23) rfl rfl rfl rfl ?_
        have hn0 : ¬ I 11 0 = -1 := fun z => absurd (c1.symm.trans z) (by decide)
        obtain ⟨n, hn8, en, -⟩ := hN.1.2.2.2.2.1.2.2.2.2.2.1
        have hU2 : RU w B R [(x, m)] hb h am ln K (I, Q, Z) := RU_I (sm_e_refl (tbr am (13 * ln) 77 5088) _) (I' := I) (fun _ => rfl) (fun _ => rfl) (Nat.le_refl _) hU
        have hA3 : RA w B R [(x, m)] hb h (I, Q, Z) := RA_u.mpr ⟨_, _, _, _, hS, hU2⟩
        refine go_callV (pc' := 24) rfl rfl rfl (Nat.le_of_ble_eq_true rfl) rfl (sm_o hS rfl) rfl rfl rfl (ra_cm_0 hA3 (by omega) h0 e5 en hn8 hp0 hn0 (by omega)) (fun r h4 q5 => ?_)
        obtain ⟨rfl, hA6⟩ := q5
        change RA w B (R + 2) [(x, m)] hb h4 (mac (fun i => m.1 (5 + i)) (I, Q, Z)) at hA6
        obtain ⟨M7, eM7⟩ : ∃ y : mM, y = (mac (fun i => m.1 (5 + i)) (I, Q, Z)) := ⟨_, rfl⟩
        rw [← eM7] at hA6
        obtain ⟨I7, Q7, Z7⟩ := M7
        obtain ⟨K7, Y7, am7, ln7, hS7, hU7⟩ := RA_u.mp hA6
        change sm (tbr am7 (13 * ln7) 77 5088) h4 (jn I7 K7) Y7 at hS7
        obtain ⟨-, hWm7, -, -, hr7, -⟩ := id hU7.1
        have hln7 := RU_ln hU7 (by omega)
        refine go_s (pc' := 25) rfl rfl rfl rfl ?_
        have hM9 : MID X (I7, Q7, Z7) := by
          rw [eM7]
          exact MID_ac hN.1 (lv_of (p := 1) c1 (by decide) (by show ¬ I 0 1 = 0; rw [hup]; decide)) ⟨0, by decide, e5⟩
        have hU8 : RU w B (R + 2) [(x, m)] hb h4 am7 ln7 K7 (I7, Q7, Z7) := RU_I (sm_e_refl (tbr am7 (13 * ln7) 77 5088) _) (I' := I7) (fun _ => rfl) (fun _ => rfl) (Nat.le_refl _) hU7
        have hA9 : RA w B (R + 2) [(x, m)] hb h4 (I7, Q7, Z7) := RA_u.mpr ⟨_, _, _, _, hS7, hU8⟩
        refine go_callV (pc' := 26) rfl rfl rfl (Nat.le_of_ble_eq_true rfl) rfl (sm_o hS7 rfl) rfl rfl rfl (ra_set hA9 (by omega) hM9 (by omega) hhc (by omega)) (fun r h10 q11 => ?_)
        obtain ⟨rfl, hA12⟩ := q11
        refine go_s (pc' := 100) rfl rfl rfl rfl ?_
        refine go_ret rfl rfl ?_
        have hms : rbr f 1 m (I, Q, Z) = rset 30 (I7, Q7, Z7) := by
          unfold rbr
          rw [if_pos h0, if_pos (show ((I, Q, Z) : mM).1 11 0 = nI 1 from c1), eM7]
        rw [hms]
        exact ⟨rfl, RA_R (by omega) hA12⟩
      · skip
        refine go_ret rfl rfl ?_
        have hms : rbr f 1 m (I, Q, Z) = (I, Q, Z) := by
          unfold rbr
          rw [if_pos h0, if_neg (show ¬ ((I, Q, Z) : mM).1 11 0 = nI 1 from c1)]
        rw [hms]
        exact ⟨rfl, RA_R (by omega) hA⟩
    · skip
      have ec : (m.1 5).toNatClampNeg = 1 := by rw [e5]; rfl
      refine go_s (pc' := 1) rfl rfl rfl rfl ?_
      refine go_sget (pc' := 2) (v := .ref am) hS rfl rfl rfl (by decide) rfl rfl ?_
      refine go_s (pc' := 3) rfl rfl rfl rfl ?_
      refine go_s (pc' := 4) (st' := [.int 5, .int (nI (13 * x)), .ref am]) rfl rfl rfl rfl ?_
      refine go_nadd (pc' := 5) (a := (13 * x)) (b := 5) rfl rfl rfl rfl rfl ?_
      refine go_sald (pc' := 6) (q := ((13 * x) + 5)) (v := .int 1) hS rfl (tr_ms hr (by omega)) rfl rfl (by omega) (congrArg Value.int (hx.2.2.2.1.trans e5)) rfl ?_
      refine go_s (pc' := 7) (lo' := [some (.ref 62), some (.int (nI (13 * x))), some (.int (nI f)), some (.int 1), some (.int 1), none]) rfl rfl rfl rfl ?_
      refine go_s (pc' := 8) rfl rfl rfl rfl ?_
      refine go_sget (pc' := 9) (v := .ref am) hS rfl rfl rfl (by decide) rfl rfl ?_
      refine go_s (pc' := 10) rfl rfl rfl rfl ?_
      refine go_s (pc' := 11) (st' := [.int 0, .int (nI (13 * x)), .ref am]) rfl rfl rfl rfl ?_
      refine go_nadd (pc' := 12) (a := (13 * x)) (b := 0) rfl rfl rfl rfl rfl ?_
      refine go_sald (pc' := 13) (q := ((13 * x) + 0)) (v := .int 1) hS rfl (tr_ms hr (by omega)) rfl rfl (by omega) (congrArg Value.int (hx.2.1.trans h0)) rfl ?_
      refine go_tsw (t' := 14) rfl (Or.inr ⟨by decide, rfl⟩) rfl ?_
      refine go_s (pc' := 15) rfl rfl rfl rfl ?_
      refine go_sget (pc' := 16) (v := .ref 78) hS rfl rfl rfl (by decide) rfl rfl ?_
      refine go_s (pc' := 17) (st' := [.int 0, .ref 78]) rfl rfl rfl rfl ?_
      refine go_sald (pc' := 18) (q := 0) (v := .int (I 11 0)) hS rfl (tr_s hr (a := 78) rfl (by decide)) rfl rfl (by decide) rfl rfl ?_
      refine go_s (pc' := 19) rfl rfl rfl rfl ?_
      refine go_icmpP (t' := 21) (pc' := 20) rfl rfl rfl (fun (c13 : (I 11 0) = 1) => ?_) (fun (c13 : ¬ (I 11 0) = 1) => ?_)
      · skip
        refine go_s (pc' := 22) rfl rfl rfl rfl ?_
        refine go_s (pc' := 23) rfl rfl rfl rfl ?_
        have hn0 : ¬ I 11 0 = -1 := fun z => absurd (c13.symm.trans z) (by decide)
        obtain ⟨n, hn8, en, -⟩ := hN.1.2.2.2.2.1.2.2.2.2.2.1
        have hU14 : RU w B R [(x, m)] hb h am ln K (I, Q, Z) := RU_I (sm_e_refl (tbr am (13 * ln) 77 5088) _) (I' := I) (fun _ => rfl) (fun _ => rfl) (Nat.le_refl _) hU
        have hA15 : RA w B R [(x, m)] hb h (I, Q, Z) := RA_u.mpr ⟨_, _, _, _, hS, hU14⟩
        refine go_callV (pc' := 24) rfl rfl rfl (Nat.le_of_ble_eq_true rfl) rfl (sm_o hS rfl) rfl rfl rfl (ra_cm_1 hA15 (by omega) h0 e5 en hn8 hp0 hn0 (by omega)) (fun r h16 q17 => ?_)
        obtain ⟨rfl, hA18⟩ := q17
        change RA w B (R + 2) [(x, m)] hb h16 (mac (fun i => m.1 (5 + i)) (I, Q, Z)) at hA18
        obtain ⟨M19, eM19⟩ : ∃ y : mM, y = (mac (fun i => m.1 (5 + i)) (I, Q, Z)) := ⟨_, rfl⟩
        rw [← eM19] at hA18
        obtain ⟨I19, Q19, Z19⟩ := M19
        obtain ⟨K19, Y19, am19, ln19, hS19, hU19⟩ := RA_u.mp hA18
        change sm (tbr am19 (13 * ln19) 77 5088) h16 (jn I19 K19) Y19 at hS19
        obtain ⟨-, hWm19, -, -, hr19, -⟩ := id hU19.1
        have hln19 := RU_ln hU19 (by omega)
        refine go_s (pc' := 25) rfl rfl rfl rfl ?_
        have hM9 : MID X (I19, Q19, Z19) := by
          rw [eM19]
          exact MID_ac hN.1 (lv_of (p := 1) c13 (by decide) (by show ¬ I 0 1 = 0; rw [hup]; decide)) ⟨1, by decide, e5⟩
        have hU20 : RU w B (R + 2) [(x, m)] hb h16 am19 ln19 K19 (I19, Q19, Z19) := RU_I (sm_e_refl (tbr am19 (13 * ln19) 77 5088) _) (I' := I19) (fun _ => rfl) (fun _ => rfl) (Nat.le_refl _) hU19
        have hA21 : RA w B (R + 2) [(x, m)] hb h16 (I19, Q19, Z19) := RA_u.mpr ⟨_, _, _, _, hS19, hU20⟩
        refine go_callV (pc' := 26) rfl rfl rfl (Nat.le_of_ble_eq_true rfl) rfl (sm_o hS19 rfl) rfl rfl rfl (ra_set hA21 (by omega) hM9 (by omega) hhc (by omega)) (fun r h22 q23 => ?_)
        obtain ⟨rfl, hA24⟩ := q23
        refine go_s (pc' := 100) rfl rfl rfl rfl ?_
        refine go_ret rfl rfl ?_
        have hms : rbr f 1 m (I, Q, Z) = rset 30 (I19, Q19, Z19) := by
          unfold rbr
          rw [if_pos h0, if_pos (show ((I, Q, Z) : mM).1 11 0 = nI 1 from c13), eM19]
        rw [hms]
        exact ⟨rfl, RA_R (by omega) hA24⟩
      · skip
        refine go_ret rfl rfl ?_
        have hms : rbr f 1 m (I, Q, Z) = (I, Q, Z) := by
          unfold rbr
          rw [if_pos h0, if_neg (show ¬ ((I, Q, Z) : mM).1 11 0 = nI 1 from c13)]
        rw [hms]
        exact ⟨rfl, RA_R (by omega) hA⟩
  · skip
    have hhc : hc [(x, m)] hb = 0 := by
      have z : isS m = false := by unfold isS; rw [h0]; rfl
      cases hb
      · rfl
      · show List.countP (fun p => isS p.2) [(x, m)] = 0
        simp [z]
    obtain ⟨k9, hk9, e5⟩ := mk2 h0
    obtain rfl | rfl : k9 = 0 ∨ k9 = 1 := by omega
    · skip
      have ec : (m.1 5).toNatClampNeg = 0 := by rw [e5]; rfl
      refine go_s (pc' := 1) rfl rfl rfl rfl ?_
      refine go_sget (pc' := 2) (v := .ref am) hS rfl rfl rfl (by decide) rfl rfl ?_
      refine go_s (pc' := 3) rfl rfl rfl rfl ?_
      refine go_s (pc' := 4) (st' := [.int 5, .int (nI (13 * x)), .ref am]) rfl rfl rfl rfl ?_
      refine go_nadd (pc' := 5) (a := (13 * x)) (b := 5) rfl rfl rfl rfl rfl ?_
      refine go_sald (pc' := 6) (q := ((13 * x) + 5)) (v := .int 0) hS rfl (tr_ms hr (by omega)) rfl rfl (by omega) (congrArg Value.int (hx.2.2.2.1.trans e5)) rfl ?_
      refine go_s (pc' := 7) (lo' := [some (.ref 62), some (.int (nI (13 * x))), some (.int (nI f)), some (.int 1), some (.int 0), none]) rfl rfl rfl rfl ?_
      refine go_s (pc' := 8) rfl rfl rfl rfl ?_
      refine go_sget (pc' := 9) (v := .ref am) hS rfl rfl rfl (by decide) rfl rfl ?_
      refine go_s (pc' := 10) rfl rfl rfl rfl ?_
      refine go_s (pc' := 11) (st' := [.int 0, .int (nI (13 * x)), .ref am]) rfl rfl rfl rfl ?_
      refine go_nadd (pc' := 12) (a := (13 * x)) (b := 0) rfl rfl rfl rfl rfl ?_
      refine go_sald (pc' := 13) (q := ((13 * x) + 0)) (v := .int 2) hS rfl (tr_ms hr (by omega)) rfl rfl (by omega) (congrArg Value.int (hx.2.1.trans h0)) rfl ?_
      refine go_tsw (t' := 27) rfl (Or.inr ⟨by decide, rfl⟩) rfl ?_
      refine go_s (pc' := 28) rfl rfl rfl rfl ?_
      refine go_sget (pc' := 29) (v := .ref 78) hS rfl rfl rfl (by decide) rfl rfl ?_
      refine go_s (pc' := 30) (st' := [.int 1, .ref 78]) rfl rfl rfl rfl ?_
      refine go_s (pc' := 31) rfl rfl rfl rfl ?_
      refine go_s (pc' := 32) (st' := [.int 1, .ref 78]) rfl rfl rfl rfl ?_
      refine go_sald (pc' := 33) (q := 1) (v := .int (I 11 1)) hS rfl (tr_s hr (a := 78) rfl (by decide)) rfl rfl (by decide) rfl rfl ?_
      refine go_s (pc' := 34) rfl rfl rfl rfl ?_
      refine go_icmpP (t' := 100) (pc' := 35) rfl rfl rfl (fun (c25 : ¬ (I 11 1) = 1) => ?_) (fun (c25' : ¬ ¬ (I 11 1) = 1) => ?_)
      · skip
        refine go_ret rfl rfl ?_
        have hms : rbr f 1 m (I, Q, Z) = (I, Q, Z) := by
          unfold rbr
          rw [if_neg (show ¬ m.1 0 = 1 by rw [h0]; decide), if_pos h0, ec, if_neg (show ¬ ((I, Q, Z) : mM).1 11 (1 + 0) = nI 1 from c25)]
        rw [hms]
        exact ⟨rfl, RA_R (by omega) hA⟩
      · skip
        have c25 : (I 11 1) = 1 := Decidable.not_not.mp c25'
        refine go_s (pc' := 36) rfl rfl rfl rfl ?_
        refine go_s (pc' := 37) (st' := [.int 1, .ref 62]) rfl rfl rfl rfl ?_
        refine go_s (pc' := 38) rfl rfl rfl rfl ?_
        refine go_s (pc' := 39) (st' := [.int 1, .ref 62]) rfl rfl rfl rfl ?_
        refine go_s (pc' := 40) rfl rfl rfl rfl ?_
        have hnk : ¬ I 11 1 = -1 := fun z => absurd (c25.symm.trans z) (by decide)
        by_cases h16 : I 16 1 = 2
        · skip
          have hoh : ¬ I 12 1 = -1 → I 12 1 = ohI I 1 := fun z => ((hN.1.2.2.1 1 (by decide)).2.2.2.2.1 z).2.2.2
          have h5 : ¬ I 12 1 = -1 → sq Q + hc [(x, m)] hb ≤ 5 := fun z => by
            have y := sq_5 (X := X) (k := 1) (M := (I, Q, Z)) (by omega) hN.1 (by decide) (US_no (by decide) hN.1 (show ¬ I 16 1 = 1 by rw [h16]; decide) ((hN.1.2.2.1 1 (by decide)).2.2.2.2.1 z).1)
            have y2 : sq Q ≤ 5 := y
            omega
          have hU26 : RU w B R [(x, m)] hb h am ln K (I, Q, Z) := RU_I (sm_e_refl (tbr am (13 * ln) 77 5088) _) (I' := I) (fun _ => rfl) (fun _ => rfl) (Nat.le_refl _) hU
          have hA27 : RA w B R [(x, m)] hb h (I, Q, Z) := RA_u.mpr ⟨_, _, _, _, hS, hU26⟩
          refine go_callV (pc' := 41) rfl rfl rfl (Nat.le_of_ble_eq_true rfl) rfl (sm_o hS rfl) rfl rfl rfl (ra_rd_0 hA27 (by omega) h0 hp0 hp1 hnk hoh h5 (by omega)) (fun r h28 q29 => ?_)
          obtain ⟨rfl, hA30⟩ := q29
          refine go_s (pc' := 100) rfl rfl rfl rfl ?_
          refine go_ret rfl rfl ?_
          have hms : rbr f 1 m (I, Q, Z) = rrd 0 (fun i => m.1 (5 + i)) (I, Q, Z) := by
            unfold rbr
            rw [if_neg (show ¬ m.1 0 = 1 by rw [h0]; decide), if_pos h0, ec, if_pos (show ((I, Q, Z) : mM).1 11 (1 + 0) = nI 1 from c25)]
          rw [hms]
          exact ⟨rfl, RA_R (by omega) hA30⟩
        · skip
          refine go_callV (pc' := 41) rfl rfl rfl (Nat.le_of_ble_eq_true rfl) rfl (sm_o hS rfl) rfl rfl rfl (ra_rd0_0 hA (by omega) hp1 hnk h16 (by omega)) (fun r h31 q32 => ?_)
          obtain ⟨rfl, rfl⟩ := q32
          refine go_s (pc' := 100) rfl rfl rfl rfl ?_
          refine go_ret rfl rfl ?_
          have hr0 : rrd 0 (fun i => m.1 (5 + i)) (I, Q, Z) = (I, Q, Z) := if_pos (Or.inl h16)
          have hms : rbr f 1 m (I, Q, Z) = (I, Q, Z) := by
            unfold rbr
            rw [if_neg (show ¬ m.1 0 = 1 by rw [h0]; decide), if_pos h0, ec, if_pos (show ((I, Q, Z) : mM).1 11 (1 + 0) = nI 1 from c25), hr0]
          rw [hms]
          exact ⟨rfl, RA_R (by omega) hA⟩
    · skip
      have ec : (m.1 5).toNatClampNeg = 1 := by rw [e5]; rfl
      refine go_s (pc' := 1) rfl rfl rfl rfl ?_
      refine go_sget (pc' := 2) (v := .ref am) hS rfl rfl rfl (by decide) rfl rfl ?_
      refine go_s (pc' := 3) rfl rfl rfl rfl ?_
      refine go_s (pc' := 4) (st' := [.int 5, .int (nI (13 * x)), .ref am]) rfl rfl rfl rfl ?_
      refine go_nadd (pc' := 5) (a := (13 * x)) (b := 5) rfl rfl rfl rfl rfl ?_
      refine go_sald (pc' := 6) (q := ((13 * x) + 5)) (v := .int 1) hS rfl (tr_ms hr (by omega)) rfl rfl (by omega) (congrArg Value.int (hx.2.2.2.1.trans e5)) rfl ?_
      refine go_s (pc' := 7) (lo' := [some (.ref 62), some (.int (nI (13 * x))), some (.int (nI f)), some (.int 1), some (.int 1), none]) rfl rfl rfl rfl ?_
      refine go_s (pc' := 8) rfl rfl rfl rfl ?_
      refine go_sget (pc' := 9) (v := .ref am) hS rfl rfl rfl (by decide) rfl rfl ?_
      refine go_s (pc' := 10) rfl rfl rfl rfl ?_
      refine go_s (pc' := 11) (st' := [.int 0, .int (nI (13 * x)), .ref am]) rfl rfl rfl rfl ?_
      refine go_nadd (pc' := 12) (a := (13 * x)) (b := 0) rfl rfl rfl rfl rfl ?_
      refine go_sald (pc' := 13) (q := ((13 * x) + 0)) (v := .int 2) hS rfl (tr_ms hr (by omega)) rfl rfl (by omega) (congrArg Value.int (hx.2.1.trans h0)) rfl ?_
      refine go_tsw (t' := 27) rfl (Or.inr ⟨by decide, rfl⟩) rfl ?_
      refine go_s (pc' := 28) rfl rfl rfl rfl ?_
      refine go_sget (pc' := 29) (v := .ref 78) hS rfl rfl rfl (by decide) rfl rfl ?_
      refine go_s (pc' := 30) (st' := [.int 1, .ref 78]) rfl rfl rfl rfl ?_
      refine go_s (pc' := 31) rfl rfl rfl rfl ?_
      refine go_s (pc' := 32) (st' := [.int 2, .ref 78]) rfl rfl rfl rfl ?_
      refine go_sald (pc' := 33) (q := 2) (v := .int (I 11 2)) hS rfl (tr_s hr (a := 78) rfl (by decide)) rfl rfl (by decide) rfl rfl ?_
      refine go_s (pc' := 34) rfl rfl rfl rfl ?_
      refine go_icmpP (t' := 100) (pc' := 35) rfl rfl rfl (fun (c33 : ¬ (I 11 2) = 1) => ?_) (fun (c33' : ¬ ¬ (I 11 2) = 1) => ?_)
      · skip
        refine go_ret rfl rfl ?_
        have hms : rbr f 1 m (I, Q, Z) = (I, Q, Z) := by
          unfold rbr
          rw [if_neg (show ¬ m.1 0 = 1 by rw [h0]; decide), if_pos h0, ec, if_neg (show ¬ ((I, Q, Z) : mM).1 11 (1 + 1) = nI 1 from c33)]
        rw [hms]
        exact ⟨rfl, RA_R (by omega) hA⟩
      · skip
        have c33 : (I 11 2) = 1 := Decidable.not_not.mp c33'
        refine go_s (pc' := 36) rfl rfl rfl rfl ?_
        refine go_s (pc' := 37) (st' := [.int 1, .ref 62]) rfl rfl rfl rfl ?_
        refine go_s (pc' := 38) rfl rfl rfl rfl ?_
        refine go_s (pc' := 39) (st' := [.int 2, .ref 62]) rfl rfl rfl rfl ?_
        refine go_s (pc' := 40) rfl rfl rfl rfl ?_
        have hnk : ¬ I 11 2 = -1 := fun z => absurd (c33.symm.trans z) (by decide)
        by_cases h16 : I 16 2 = 2
        · skip
          have hoh : ¬ I 12 2 = -1 → I 12 2 = ohI I 2 := fun z => ((hN.1.2.2.1 2 (by decide)).2.2.2.2.1 z).2.2.2
          have h5 : ¬ I 12 2 = -1 → sq Q + hc [(x, m)] hb ≤ 5 := fun z => by
            have y := sq_5 (X := X) (k := 2) (M := (I, Q, Z)) (by omega) hN.1 (by decide) (US_no (by decide) hN.1 (show ¬ I 16 2 = 1 by rw [h16]; decide) ((hN.1.2.2.1 2 (by decide)).2.2.2.2.1 z).1)
            have y2 : sq Q ≤ 5 := y
            omega
          have hU34 : RU w B R [(x, m)] hb h am ln K (I, Q, Z) := RU_I (sm_e_refl (tbr am (13 * ln) 77 5088) _) (I' := I) (fun _ => rfl) (fun _ => rfl) (Nat.le_refl _) hU
          have hA35 : RA w B R [(x, m)] hb h (I, Q, Z) := RA_u.mpr ⟨_, _, _, _, hS, hU34⟩
          refine go_callV (pc' := 41) rfl rfl rfl (Nat.le_of_ble_eq_true rfl) rfl (sm_o hS rfl) rfl rfl rfl (ra_rd_1 hA35 (by omega) h0 hp0 hp2 hnk hoh h5 (by omega)) (fun r h36 q37 => ?_)
          obtain ⟨rfl, hA38⟩ := q37
          refine go_s (pc' := 100) rfl rfl rfl rfl ?_
          refine go_ret rfl rfl ?_
          have hms : rbr f 1 m (I, Q, Z) = rrd 1 (fun i => m.1 (5 + i)) (I, Q, Z) := by
            unfold rbr
            rw [if_neg (show ¬ m.1 0 = 1 by rw [h0]; decide), if_pos h0, ec, if_pos (show ((I, Q, Z) : mM).1 11 (1 + 1) = nI 1 from c33)]
          rw [hms]
          exact ⟨rfl, RA_R (by omega) hA38⟩
        · skip
          refine go_callV (pc' := 41) rfl rfl rfl (Nat.le_of_ble_eq_true rfl) rfl (sm_o hS rfl) rfl rfl rfl (ra_rd0_1 hA (by omega) hp2 hnk h16 (by omega)) (fun r h39 q40 => ?_)
          obtain ⟨rfl, rfl⟩ := q40
          refine go_s (pc' := 100) rfl rfl rfl rfl ?_
          refine go_ret rfl rfl ?_
          have hr0 : rrd 1 (fun i => m.1 (5 + i)) (I, Q, Z) = (I, Q, Z) := if_pos (Or.inl h16)
          have hms : rbr f 1 m (I, Q, Z) = (I, Q, Z) := by
            unfold rbr
            rw [if_neg (show ¬ m.1 0 = 1 by rw [h0]; decide), if_pos h0, ec, if_pos (show ((I, Q, Z) : mM).1 11 (1 + 1) = nI 1 from c33), hr0]
          rw [hms]
          exact ⟨rfl, RA_R (by omega) hA⟩
  · skip
    obtain ⟨y, y1, y2, y3, y4⟩ := hx.2.2.2.2.2 (by unfold isS; rw [h0]; rfl)
    obtain ⟨k9, hk9, e5⟩ := mk3 (Or.inl h0)
    obtain rfl | rfl | rfl : k9 = 0 ∨ k9 = 1 ∨ k9 = 2 := by omega
    · skip
      have ec : (m.1 5).toNatClampNeg = 0 := by rw [e5]; rfl
      refine go_s (pc' := 1) rfl rfl rfl rfl ?_
      refine go_sget (pc' := 2) (v := .ref am) hS rfl rfl rfl (by decide) rfl rfl ?_
      refine go_s (pc' := 3) rfl rfl rfl rfl ?_
      refine go_s (pc' := 4) (st' := [.int 5, .int (nI (13 * x)), .ref am]) rfl rfl rfl rfl ?_
      refine go_nadd (pc' := 5) (a := (13 * x)) (b := 5) rfl rfl rfl rfl rfl ?_
      refine go_sald (pc' := 6) (q := ((13 * x) + 5)) (v := .int 0) hS rfl (tr_ms hr (by omega)) rfl rfl (by omega) (congrArg Value.int (hx.2.2.2.1.trans e5)) rfl ?_
      refine go_s (pc' := 7) (lo' := [some (.ref 62), some (.int (nI (13 * x))), some (.int (nI f)), some (.int 1), some (.int 0), none]) rfl rfl rfl rfl ?_
      refine go_s (pc' := 8) rfl rfl rfl rfl ?_
      refine go_sget (pc' := 9) (v := .ref am) hS rfl rfl rfl (by decide) rfl rfl ?_
      refine go_s (pc' := 10) rfl rfl rfl rfl ?_
      refine go_s (pc' := 11) (st' := [.int 0, .int (nI (13 * x)), .ref am]) rfl rfl rfl rfl ?_
      refine go_nadd (pc' := 12) (a := (13 * x)) (b := 0) rfl rfl rfl rfl rfl ?_
      refine go_sald (pc' := 13) (q := ((13 * x) + 0)) (v := .int 3) hS rfl (tr_ms hr (by omega)) rfl rfl (by omega) (congrArg Value.int (hx.2.1.trans h0)) rfl ?_
      refine go_tsw (t' := 42) rfl (Or.inr ⟨by decide, rfl⟩) rfl ?_
      refine go_s (pc' := 43) rfl rfl rfl rfl ?_
      refine go_s (pc' := 44) rfl rfl rfl rfl ?_
      refine go_sget (pc' := 45) (v := .ref am) hS rfl rfl rfl (by decide) rfl rfl ?_
      refine go_s (pc' := 46) rfl rfl rfl rfl ?_
      refine go_s (pc' := 47) (st' := [.int 12, .int (nI (13 * x)), .ref am, .ref 62]) rfl rfl rfl rfl ?_
      refine go_nadd (pc' := 48) (a := (13 * x)) (b := 12) rfl rfl rfl rfl rfl ?_
      refine go_sald (pc' := 49) (q := ((13 * x) + 12)) (v := .int (nI y)) hS rfl (tr_ms hr (by omega)) rfl rfl (by omega) (congrArg Value.int y3) rfl ?_
      refine go_s (pc' := 50) (st' := [.int 2, .int (nI y), .ref 62]) rfl rfl rfl rfl ?_
      refine go_s (pc' := 51) rfl rfl rfl rfl ?_
      refine go_s (pc' := 52) (st' := [.int 0, .int (nI y), .ref 62]) rfl rfl rfl rfl ?_
      refine go_s (pc' := 53) rfl rfl rfl rfl ?_
      refine go_s (pc' := 54) (st' := [.int 2, .int 1, .int 0, .int (nI y), .ref 62]) rfl rfl rfl rfl ?_
      refine go_s (pc' := 55) (st' := [.int 1, .int 0, .int (nI y), .ref 62]) rfl rfl rfl rfl ?_
      refine go_s (pc' := 56) (st' := [.int 1, .int (nI y), .ref 62]) rfl rfl rfl rfl ?_
      refine go_callV (pc' := 57) rfl rfl rfl (Nat.le_of_ble_eq_true rfl) rfl (sm_o hS rfl) rfl rfl rfl (rs_cp hr hS hW (hW 77 (by decide) (by decide)) (f := y) (g := 1) (by omega) (by decide) (by omega) (by decide) (by omega)) (fun r h41 q42 => ?_)
      obtain ⟨rfl, hS43, hE44⟩ := q42
      rw [cpI_jn] at hS43
      obtain ⟨K7, e7⟩ : ∃ z, z = cpI K y 1 424 := ⟨_, rfl⟩
      rw [← e7] at hS43
      have hz7 : RZ K7 (decide (1 < 2)) 1 m.2 := by
        rw [e7]
        have z := RZ_cp (g := 1) y4
        rw [e5] at z
        exact z
      have hU45 : RU w B R [(x, m)] hb h41 am ln K7 (I, Q, uZ Z 1 m.2) := RU_row (by decide) (fun c j _ hc => by
        rw [e7]
        exact cpI_r (Nat.le_refl _) c j hc) hz7 (RU_I hE44 (fun _ => rfl) (fun _ => rfl) (Nat.le_refl _) hU)
      have hU46 : RU w B R [(x, m)] hb h41 am ln K7 (I, Q, (uZ Z 1 m.2)) := RU_I (sm_e_refl (tbr am (13 * ln) 77 5088) _) (I' := I) (fun _ => rfl) (fun _ => rfl) (Nat.le_refl _) hU45
      have hS47 : sm (tbr am (13 * ln) 77 5088) _ (jn (uI I 40 0 1) K7) Y := sm_jg hr hS43 (fun c j _ n1 n2 n3 => uI_c n3)
      have hU48 : RU w B R [(x, m)] hb h41 am ln K7 ((uI I 40 0 1), Q, (uZ Z 1 m.2)) := RU_I (sm_e_refl (tbr am (13 * ln) 77 5088) _) (fun _ => rfl) (fun _ => rfl) (Nat.le_refl _) hU46
      refine go_s (pc' := 58) rfl rfl rfl rfl ?_
      refine go_s (pc' := 59) rfl rfl rfl rfl ?_
      refine go_s (pc' := 60) rfl rfl rfl rfl ?_
      refine go_s (pc' := 61) (st' := [.int 5, .int (nI f), .int 1, .ref 62]) rfl rfl rfl rfl ?_
      refine go_s (pc' := 62) rfl rfl rfl rfl ?_
      have hU49 : RU w B R [(x, m)] hb h41 am ln K7 ((uI I 40 0 1), Q, (uZ Z 1 m.2)) := RU_I (sm_e_refl (tbr am (13 * ln) 77 5088) _) (I' := (uI I 40 0 1)) (fun _ => rfl) (fun _ => rfl) (Nat.le_refl _) hU48
      by_cases u50 : (uI I 40 0 1) 0 f = 0
      · skip
        refine go_callV (pc' := 63) rfl rfl rfl (Nat.le_of_ble_eq_true rfl) rfl (sm_o hS47 rfl) rfl rfl rfl (rn_snd_0 hS47 hU49 (by omega) (f := 1) (t := f) (by decide) hf u50 (by omega)) (fun r h51 q52 => ?_)
        obtain ⟨rfl, rfl⟩ := q52
        refine go_s (pc' := 64) (lo' := [some (.ref 62), some (.int (nI (13 * x))), some (.int (nI f)), some (.int 1), some (.int 0), some (.int (-1))]) rfl rfl rfl rfl ?_
        refine go_s (pc' := 65) rfl rfl rfl rfl ?_
        refine go_s (pc' := 66) (st' := [.int (-1), .int (-1)]) rfl rfl rfl rfl ?_
        refine go_icmpP (t' := 100) (pc' := 67) rfl rfl rfl (fun _ => ?_) (fun (c : ¬ (((-1) : Int32) = (-1))) => absurd (by decide) c)
        refine go_ret rfl rfl ?_
        have hA53 : RA w B R [(x, m)] hb h51 ((uI I 40 0 1), Q, (uZ Z 1 m.2)) := RA_u.mpr ⟨_, _, _, _, hS47, hU49⟩
        have hms : rbr f 1 m (I, Q, Z) = ((uI I 40 0 1), Q, (uZ Z 1 m.2)) := by
          unfold rbr
          rw [if_neg (show ¬ m.1 0 = 1 by rw [h0]; decide), if_neg (show ¬ m.1 0 = 2 by rw [h0]; decide), if_pos (show m.1 0 = 3 ∨ m.1 0 = 4 from Or.inl h0), ec, show rcy 0 1 m.2 (I, Q, Z) = ((uI I 40 0 1, Q, uZ Z 1 m.2) : mM) from rfl, show rsn 1 f (mgW 0 (m.1 6)) ((uI I 40 0 1, Q, uZ Z 1 m.2) : mM) = ((uI I 40 0 1, Q, uZ Z 1 m.2) : mM) from if_pos u50]
        rw [hms]
        exact ⟨rfl, RA_R (by omega) hA53⟩
      · skip
        refine go_callV (pc' := 63) rfl rfl rfl (Nat.le_of_ble_eq_true rfl) rfl (sm_o hS47 rfl) rfl rfl rfl (rn_snd_1 hS47 hU49 (by omega) (f := 1) (t := f) (by decide) hf u50 (by omega)) (fun r h54 q55 => ?_)
        obtain ⟨x56, am56, ln56, K56, rfl, hS56, hO56⟩ := q55
        obtain ⟨hx56, hln56, hr56, hWm56⟩ := RO_x hO56 (by omega)
        refine go_s (pc' := 64) (lo' := [some (.ref 62), some (.int (nI (13 * x))), some (.int (nI f)), some (.int 1), some (.int 0), some (.int (nI (13 * x56)))]) rfl rfl rfl rfl ?_
        refine go_s (pc' := 65) rfl rfl rfl rfl ?_
        refine go_s (pc' := 66) (st' := [.int (-1), .int (nI (13 * x56))]) rfl rfl rfl rfl ?_
        refine go_icmpP (t' := 100) (pc' := 67) rfl rfl rfl (fun (c : (nI (13 * x56)) = (-1)) => absurd c (nI_nm1 (by omega))) (fun _ => ?_)
        have hxo := RO_h hO56 (y := x) (m := m) (by simp)
        have hxl9 := hxo.1
        refine go_s (pc' := 68) rfl rfl rfl rfl ?_
        refine go_sget (pc' := 69) (v := .ref am56) hS56 rfl rfl rfl (by decide) rfl rfl ?_
        refine go_s (pc' := 70) rfl rfl rfl rfl ?_
        refine go_s (pc' := 71) (st' := [.int 6, .int (nI (13 * x56)), .ref am56]) rfl rfl rfl rfl ?_
        refine go_nadd (pc' := 72) (a := (13 * x56)) (b := 6) rfl rfl rfl rfl rfl ?_
        refine go_s (pc' := 73) rfl rfl rfl rfl ?_
        refine go_sget (pc' := 74) (v := .ref am56) hS56 rfl rfl rfl (by decide) rfl rfl ?_
        refine go_s (pc' := 75) rfl rfl rfl rfl ?_
        refine go_s (pc' := 76) (st' := [.int 6, .int (nI (13 * x)), .ref am56, .int (nI ((13 * x56) + 6)), .ref am56]) rfl rfl rfl rfl ?_
        refine go_nadd (pc' := 77) (a := (13 * x)) (b := 6) rfl rfl rfl rfl rfl ?_
        refine go_sald (pc' := 78) (q := ((13 * x) + 6)) (v := .int (m.1 6)) hS56 rfl (tr_ms hr56 (by omega)) rfl rfl (by omega) (congrArg Value.int (hxo.2 0 (by rw [h0]; decide))) rfl ?_
        refine go_siast (pc' := 79) (q := ((13 * x56) + 6)) hS56 rfl (tr_ms hr56 (by omega)) tbr_inj (Nat.le_of_ble_eq_true rfl) rfl (by omega) (rk_0 hr56).1 hWm56 rfl (fun h57 hS58 hE59 => ?_)
        refine go_s (pc' := 100) rfl rfl rfl rfl ?_
        refine go_ret rfl rfl ?_
        change sm (tbr am56 (13 * ln56) 77 5088) _ (uI (jn (appI (uI I 40 0 1) Q (4 * 1 + f)) K56) 50 ((13 * x56) + 6) (m.1 6)) Y at hS58
        rw [jn_hi (c := 50) (by decide)] at hS58
        have hU60 := RO_cl (K' := (uI K56 50 ((13 * x56) + 6) (m.1 6))) (m := (mgn (mgW 0 (m.1 6)) ((uI I 40 0 1) 9 (4 * 1 + f) + 1))) (by omega) hO56 (hE59) rfl rfl rfl rfl (fun c j _ hc => by
          simp only [uI]
          rw [if_neg (by omega)]) (fun i hi => by
          have hi2 : i < 1 := hi
          match i, hi2 with
            | 0, _ => (repeat (first | rw [uI_e (by omega)] | rw [uI_j (by omega)])) <;> rfl)
        have hA61 : RA w B (R + 1) [(x, m)] hb h57 ((appI (uI I 40 0 1) Q (4 * 1 + f)), (uQ Q (4 * 1 + f) (Q (4 * 1 + f) ++ [(mgn (mgW 0 (m.1 6)) ((uI I 40 0 1) 9 (4 * 1 + f) + 1))])), (uZ Z 1 m.2)) := RA_u.mpr ⟨_, _, _, _, hS58, hU60⟩
        have hms : rbr f 1 m (I, Q, Z) = ((appI (uI I 40 0 1) Q (4 * 1 + f)), (uQ Q (4 * 1 + f) (Q (4 * 1 + f) ++ [(mgn (mgW 0 (m.1 6)) ((uI I 40 0 1) 9 (4 * 1 + f) + 1))])), (uZ Z 1 m.2)) := by
          unfold rbr
          rw [if_neg (show ¬ m.1 0 = 1 by rw [h0]; decide), if_neg (show ¬ m.1 0 = 2 by rw [h0]; decide), if_pos (show m.1 0 = 3 ∨ m.1 0 = 4 from Or.inl h0), ec, show rcy 0 1 m.2 (I, Q, Z) = ((uI I 40 0 1, Q, uZ Z 1 m.2) : mM) from rfl, show rsn 1 f (mgW 0 (m.1 6)) ((uI I 40 0 1, Q, uZ Z 1 m.2) : mM) = mapp (4 * 1 + f) (mgW 0 (m.1 6)) ((uI I 40 0 1, Q, uZ Z 1 m.2) : mM) from if_neg u50]
          rw [show mapp (4 * 1 + f) (mgW 0 (m.1 6)) ((uI I 40 0 1, Q, uZ Z 1 m.2) : mM) = ((appI (uI I 40 0 1) Q (4 * 1 + f)), (uQ Q (4 * 1 + f) (Q (4 * 1 + f) ++ [(mgn (mgW 0 (m.1 6)) ((uI I 40 0 1) 9 (4 * 1 + f) + 1))])), (uZ Z 1 m.2)) from rfl]
        rw [hms]
        exact ⟨rfl, RA_R (by omega) hA61⟩
    · skip
      have ec : (m.1 5).toNatClampNeg = 1 := by rw [e5]; rfl
      refine go_s (pc' := 1) rfl rfl rfl rfl ?_
      refine go_sget (pc' := 2) (v := .ref am) hS rfl rfl rfl (by decide) rfl rfl ?_
      refine go_s (pc' := 3) rfl rfl rfl rfl ?_
      refine go_s (pc' := 4) (st' := [.int 5, .int (nI (13 * x)), .ref am]) rfl rfl rfl rfl ?_
      refine go_nadd (pc' := 5) (a := (13 * x)) (b := 5) rfl rfl rfl rfl rfl ?_
      refine go_sald (pc' := 6) (q := ((13 * x) + 5)) (v := .int 1) hS rfl (tr_ms hr (by omega)) rfl rfl (by omega) (congrArg Value.int (hx.2.2.2.1.trans e5)) rfl ?_
      refine go_s (pc' := 7) (lo' := [some (.ref 62), some (.int (nI (13 * x))), some (.int (nI f)), some (.int 1), some (.int 1), none]) rfl rfl rfl rfl ?_
      refine go_s (pc' := 8) rfl rfl rfl rfl ?_
      refine go_sget (pc' := 9) (v := .ref am) hS rfl rfl rfl (by decide) rfl rfl ?_
      refine go_s (pc' := 10) rfl rfl rfl rfl ?_
      refine go_s (pc' := 11) (st' := [.int 0, .int (nI (13 * x)), .ref am]) rfl rfl rfl rfl ?_
      refine go_nadd (pc' := 12) (a := (13 * x)) (b := 0) rfl rfl rfl rfl rfl ?_
      refine go_sald (pc' := 13) (q := ((13 * x) + 0)) (v := .int 3) hS rfl (tr_ms hr (by omega)) rfl rfl (by omega) (congrArg Value.int (hx.2.1.trans h0)) rfl ?_
      refine go_tsw (t' := 42) rfl (Or.inr ⟨by decide, rfl⟩) rfl ?_
      refine go_s (pc' := 43) rfl rfl rfl rfl ?_
      refine go_s (pc' := 44) rfl rfl rfl rfl ?_
      refine go_sget (pc' := 45) (v := .ref am) hS rfl rfl rfl (by decide) rfl rfl ?_
      refine go_s (pc' := 46) rfl rfl rfl rfl ?_
      refine go_s (pc' := 47) (st' := [.int 12, .int (nI (13 * x)), .ref am, .ref 62]) rfl rfl rfl rfl ?_
      refine go_nadd (pc' := 48) (a := (13 * x)) (b := 12) rfl rfl rfl rfl rfl ?_
      refine go_sald (pc' := 49) (q := ((13 * x) + 12)) (v := .int (nI y)) hS rfl (tr_ms hr (by omega)) rfl rfl (by omega) (congrArg Value.int y3) rfl ?_
      refine go_s (pc' := 50) (st' := [.int 2, .int (nI y), .ref 62]) rfl rfl rfl rfl ?_
      refine go_s (pc' := 51) rfl rfl rfl rfl ?_
      refine go_s (pc' := 52) (st' := [.int 2, .int (nI y), .ref 62]) rfl rfl rfl rfl ?_
      refine go_s (pc' := 53) rfl rfl rfl rfl ?_
      refine go_s (pc' := 54) (st' := [.int 2, .int 1, .int 2, .int (nI y), .ref 62]) rfl rfl rfl rfl ?_
      refine go_s (pc' := 55) (st' := [.int 1, .int 2, .int (nI y), .ref 62]) rfl rfl rfl rfl ?_
      refine go_s (pc' := 56) (st' := [.int 3, .int (nI y), .ref 62]) rfl rfl rfl rfl ?_
      refine go_callV (pc' := 57) rfl rfl rfl (Nat.le_of_ble_eq_true rfl) rfl (sm_o hS rfl) rfl rfl rfl (rs_cp hr hS hW (hW 77 (by decide) (by decide)) (f := y) (g := 3) (by omega) (by decide) (by omega) (by decide) (by omega)) (fun r h62 q63 => ?_)
      obtain ⟨rfl, hS64, hE65⟩ := q63
      rw [cpI_jn] at hS64
      obtain ⟨K7, e7⟩ : ∃ z, z = cpI K y 3 424 := ⟨_, rfl⟩
      rw [← e7] at hS64
      have hz7 : RZ K7 (decide (3 < 2)) 3 m.2 := by
        rw [e7]
        have z := RZ_cp (g := 3) y4
        rw [e5] at z
        exact z
      have hU66 : RU w B R [(x, m)] hb h62 am ln K7 (I, Q, uZ Z 3 m.2) := RU_row (by decide) (fun c j _ hc => by
        rw [e7]
        exact cpI_r (Nat.le_refl _) c j hc) hz7 (RU_I hE65 (fun _ => rfl) (fun _ => rfl) (Nat.le_refl _) hU)
      have hU67 : RU w B R [(x, m)] hb h62 am ln K7 (I, Q, (uZ Z 3 m.2)) := RU_I (sm_e_refl (tbr am (13 * ln) 77 5088) _) (I' := I) (fun _ => rfl) (fun _ => rfl) (Nat.le_refl _) hU66
      have hS68 : sm (tbr am (13 * ln) 77 5088) _ (jn (uI I 40 1 1) K7) Y := sm_jg hr hS64 (fun c j _ n1 n2 n3 => uI_c n3)
      have hU69 : RU w B R [(x, m)] hb h62 am ln K7 ((uI I 40 1 1), Q, (uZ Z 3 m.2)) := RU_I (sm_e_refl (tbr am (13 * ln) 77 5088) _) (fun _ => rfl) (fun _ => rfl) (Nat.le_refl _) hU67
      refine go_s (pc' := 58) rfl rfl rfl rfl ?_
      refine go_s (pc' := 59) rfl rfl rfl rfl ?_
      refine go_s (pc' := 60) rfl rfl rfl rfl ?_
      refine go_s (pc' := 61) (st' := [.int 5, .int (nI f), .int 1, .ref 62]) rfl rfl rfl rfl ?_
      refine go_s (pc' := 62) rfl rfl rfl rfl ?_
      have hU70 : RU w B R [(x, m)] hb h62 am ln K7 ((uI I 40 1 1), Q, (uZ Z 3 m.2)) := RU_I (sm_e_refl (tbr am (13 * ln) 77 5088) _) (I' := (uI I 40 1 1)) (fun _ => rfl) (fun _ => rfl) (Nat.le_refl _) hU69
      by_cases u71 : (uI I 40 1 1) 0 f = 0
      · skip
        refine go_callV (pc' := 63) rfl rfl rfl (Nat.le_of_ble_eq_true rfl) rfl (sm_o hS68 rfl) rfl rfl rfl (rn_snd_0 hS68 hU70 (by omega) (f := 1) (t := f) (by decide) hf u71 (by omega)) (fun r h72 q73 => ?_)
        obtain ⟨rfl, rfl⟩ := q73
        refine go_s (pc' := 64) (lo' := [some (.ref 62), some (.int (nI (13 * x))), some (.int (nI f)), some (.int 1), some (.int 1), some (.int (-1))]) rfl rfl rfl rfl ?_
        refine go_s (pc' := 65) rfl rfl rfl rfl ?_
        refine go_s (pc' := 66) (st' := [.int (-1), .int (-1)]) rfl rfl rfl rfl ?_
        refine go_icmpP (t' := 100) (pc' := 67) rfl rfl rfl (fun _ => ?_) (fun (c : ¬ (((-1) : Int32) = (-1))) => absurd (by decide) c)
        refine go_ret rfl rfl ?_
        have hA74 : RA w B R [(x, m)] hb h72 ((uI I 40 1 1), Q, (uZ Z 3 m.2)) := RA_u.mpr ⟨_, _, _, _, hS68, hU70⟩
        have hms : rbr f 1 m (I, Q, Z) = ((uI I 40 1 1), Q, (uZ Z 3 m.2)) := by
          unfold rbr
          rw [if_neg (show ¬ m.1 0 = 1 by rw [h0]; decide), if_neg (show ¬ m.1 0 = 2 by rw [h0]; decide), if_pos (show m.1 0 = 3 ∨ m.1 0 = 4 from Or.inl h0), ec, show rcy 1 1 m.2 (I, Q, Z) = ((uI I 40 1 1, Q, uZ Z 3 m.2) : mM) from rfl, show rsn 1 f (mgW 1 (m.1 6)) ((uI I 40 1 1, Q, uZ Z 3 m.2) : mM) = ((uI I 40 1 1, Q, uZ Z 3 m.2) : mM) from if_pos u71]
        rw [hms]
        exact ⟨rfl, RA_R (by omega) hA74⟩
      · skip
        refine go_callV (pc' := 63) rfl rfl rfl (Nat.le_of_ble_eq_true rfl) rfl (sm_o hS68 rfl) rfl rfl rfl (rn_snd_1 hS68 hU70 (by omega) (f := 1) (t := f) (by decide) hf u71 (by omega)) (fun r h75 q76 => ?_)
        obtain ⟨x77, am77, ln77, K77, rfl, hS77, hO77⟩ := q76
        obtain ⟨hx77, hln77, hr77, hWm77⟩ := RO_x hO77 (by omega)
        refine go_s (pc' := 64) (lo' := [some (.ref 62), some (.int (nI (13 * x))), some (.int (nI f)), some (.int 1), some (.int 1), some (.int (nI (13 * x77)))]) rfl rfl rfl rfl ?_
        refine go_s (pc' := 65) rfl rfl rfl rfl ?_
        refine go_s (pc' := 66) (st' := [.int (-1), .int (nI (13 * x77))]) rfl rfl rfl rfl ?_
        refine go_icmpP (t' := 100) (pc' := 67) rfl rfl rfl (fun (c : (nI (13 * x77)) = (-1)) => absurd c (nI_nm1 (by omega))) (fun _ => ?_)
        have hxo := RO_h hO77 (y := x) (m := m) (by simp)
        have hxl9 := hxo.1
        refine go_s (pc' := 68) rfl rfl rfl rfl ?_
        refine go_sget (pc' := 69) (v := .ref am77) hS77 rfl rfl rfl (by decide) rfl rfl ?_
        refine go_s (pc' := 70) rfl rfl rfl rfl ?_
        refine go_s (pc' := 71) (st' := [.int 6, .int (nI (13 * x77)), .ref am77]) rfl rfl rfl rfl ?_
        refine go_nadd (pc' := 72) (a := (13 * x77)) (b := 6) rfl rfl rfl rfl rfl ?_
        refine go_s (pc' := 73) rfl rfl rfl rfl ?_
        refine go_sget (pc' := 74) (v := .ref am77) hS77 rfl rfl rfl (by decide) rfl rfl ?_
        refine go_s (pc' := 75) rfl rfl rfl rfl ?_
        refine go_s (pc' := 76) (st' := [.int 6, .int (nI (13 * x)), .ref am77, .int (nI ((13 * x77) + 6)), .ref am77]) rfl rfl rfl rfl ?_
        refine go_nadd (pc' := 77) (a := (13 * x)) (b := 6) rfl rfl rfl rfl rfl ?_
        refine go_sald (pc' := 78) (q := ((13 * x) + 6)) (v := .int (m.1 6)) hS77 rfl (tr_ms hr77 (by omega)) rfl rfl (by omega) (congrArg Value.int (hxo.2 0 (by rw [h0]; decide))) rfl ?_
        refine go_siast (pc' := 79) (q := ((13 * x77) + 6)) hS77 rfl (tr_ms hr77 (by omega)) tbr_inj (Nat.le_of_ble_eq_true rfl) rfl (by omega) (rk_0 hr77).1 hWm77 rfl (fun h78 hS79 hE80 => ?_)
        refine go_s (pc' := 100) rfl rfl rfl rfl ?_
        refine go_ret rfl rfl ?_
        change sm (tbr am77 (13 * ln77) 77 5088) _ (uI (jn (appI (uI I 40 1 1) Q (4 * 1 + f)) K77) 50 ((13 * x77) + 6) (m.1 6)) Y at hS79
        rw [jn_hi (c := 50) (by decide)] at hS79
        have hU81 := RO_cl (K' := (uI K77 50 ((13 * x77) + 6) (m.1 6))) (m := (mgn (mgW 1 (m.1 6)) ((uI I 40 1 1) 9 (4 * 1 + f) + 1))) (by omega) hO77 (hE80) rfl rfl rfl rfl (fun c j _ hc => by
          simp only [uI]
          rw [if_neg (by omega)]) (fun i hi => by
          have hi2 : i < 1 := hi
          match i, hi2 with
            | 0, _ => (repeat (first | rw [uI_e (by omega)] | rw [uI_j (by omega)])) <;> rfl)
        have hA82 : RA w B (R + 1) [(x, m)] hb h78 ((appI (uI I 40 1 1) Q (4 * 1 + f)), (uQ Q (4 * 1 + f) (Q (4 * 1 + f) ++ [(mgn (mgW 1 (m.1 6)) ((uI I 40 1 1) 9 (4 * 1 + f) + 1))])), (uZ Z 3 m.2)) := RA_u.mpr ⟨_, _, _, _, hS79, hU81⟩
        have hms : rbr f 1 m (I, Q, Z) = ((appI (uI I 40 1 1) Q (4 * 1 + f)), (uQ Q (4 * 1 + f) (Q (4 * 1 + f) ++ [(mgn (mgW 1 (m.1 6)) ((uI I 40 1 1) 9 (4 * 1 + f) + 1))])), (uZ Z 3 m.2)) := by
          unfold rbr
          rw [if_neg (show ¬ m.1 0 = 1 by rw [h0]; decide), if_neg (show ¬ m.1 0 = 2 by rw [h0]; decide), if_pos (show m.1 0 = 3 ∨ m.1 0 = 4 from Or.inl h0), ec, show rcy 1 1 m.2 (I, Q, Z) = ((uI I 40 1 1, Q, uZ Z 3 m.2) : mM) from rfl, show rsn 1 f (mgW 1 (m.1 6)) ((uI I 40 1 1, Q, uZ Z 3 m.2) : mM) = mapp (4 * 1 + f) (mgW 1 (m.1 6)) ((uI I 40 1 1, Q, uZ Z 3 m.2) : mM) from if_neg u71]
          rw [show mapp (4 * 1 + f) (mgW 1 (m.1 6)) ((uI I 40 1 1, Q, uZ Z 3 m.2) : mM) = ((appI (uI I 40 1 1) Q (4 * 1 + f)), (uQ Q (4 * 1 + f) (Q (4 * 1 + f) ++ [(mgn (mgW 1 (m.1 6)) ((uI I 40 1 1) 9 (4 * 1 + f) + 1))])), (uZ Z 3 m.2)) from rfl]
        rw [hms]
        exact ⟨rfl, RA_R (by omega) hA82⟩
    · skip
      have ec : (m.1 5).toNatClampNeg = 2 := by rw [e5]; rfl
      refine go_s (pc' := 1) rfl rfl rfl rfl ?_
      refine go_sget (pc' := 2) (v := .ref am) hS rfl rfl rfl (by decide) rfl rfl ?_
      refine go_s (pc' := 3) rfl rfl rfl rfl ?_
      refine go_s (pc' := 4) (st' := [.int 5, .int (nI (13 * x)), .ref am]) rfl rfl rfl rfl ?_
      refine go_nadd (pc' := 5) (a := (13 * x)) (b := 5) rfl rfl rfl rfl rfl ?_
      refine go_sald (pc' := 6) (q := ((13 * x) + 5)) (v := .int 2) hS rfl (tr_ms hr (by omega)) rfl rfl (by omega) (congrArg Value.int (hx.2.2.2.1.trans e5)) rfl ?_
      refine go_s (pc' := 7) (lo' := [some (.ref 62), some (.int (nI (13 * x))), some (.int (nI f)), some (.int 1), some (.int 2), none]) rfl rfl rfl rfl ?_
      refine go_s (pc' := 8) rfl rfl rfl rfl ?_
      refine go_sget (pc' := 9) (v := .ref am) hS rfl rfl rfl (by decide) rfl rfl ?_
      refine go_s (pc' := 10) rfl rfl rfl rfl ?_
      refine go_s (pc' := 11) (st' := [.int 0, .int (nI (13 * x)), .ref am]) rfl rfl rfl rfl ?_
      refine go_nadd (pc' := 12) (a := (13 * x)) (b := 0) rfl rfl rfl rfl rfl ?_
      refine go_sald (pc' := 13) (q := ((13 * x) + 0)) (v := .int 3) hS rfl (tr_ms hr (by omega)) rfl rfl (by omega) (congrArg Value.int (hx.2.1.trans h0)) rfl ?_
      refine go_tsw (t' := 42) rfl (Or.inr ⟨by decide, rfl⟩) rfl ?_
      refine go_s (pc' := 43) rfl rfl rfl rfl ?_
      refine go_s (pc' := 44) rfl rfl rfl rfl ?_
      refine go_sget (pc' := 45) (v := .ref am) hS rfl rfl rfl (by decide) rfl rfl ?_
      refine go_s (pc' := 46) rfl rfl rfl rfl ?_
      refine go_s (pc' := 47) (st' := [.int 12, .int (nI (13 * x)), .ref am, .ref 62]) rfl rfl rfl rfl ?_
      refine go_nadd (pc' := 48) (a := (13 * x)) (b := 12) rfl rfl rfl rfl rfl ?_
      refine go_sald (pc' := 49) (q := ((13 * x) + 12)) (v := .int (nI y)) hS rfl (tr_ms hr (by omega)) rfl rfl (by omega) (congrArg Value.int y3) rfl ?_
      refine go_s (pc' := 50) (st' := [.int 2, .int (nI y), .ref 62]) rfl rfl rfl rfl ?_
      refine go_s (pc' := 51) rfl rfl rfl rfl ?_
      refine go_s (pc' := 52) (st' := [.int 4, .int (nI y), .ref 62]) rfl rfl rfl rfl ?_
      refine go_s (pc' := 53) rfl rfl rfl rfl ?_
      refine go_s (pc' := 54) (st' := [.int 2, .int 1, .int 4, .int (nI y), .ref 62]) rfl rfl rfl rfl ?_
      refine go_s (pc' := 55) (st' := [.int 1, .int 4, .int (nI y), .ref 62]) rfl rfl rfl rfl ?_
      refine go_s (pc' := 56) (st' := [.int 5, .int (nI y), .ref 62]) rfl rfl rfl rfl ?_
      refine go_callV (pc' := 57) rfl rfl rfl (Nat.le_of_ble_eq_true rfl) rfl (sm_o hS rfl) rfl rfl rfl (rs_cp hr hS hW (hW 77 (by decide) (by decide)) (f := y) (g := 5) (by omega) (by decide) (by omega) (by decide) (by omega)) (fun r h83 q84 => ?_)
      obtain ⟨rfl, hS85, hE86⟩ := q84
      rw [cpI_jn] at hS85
      obtain ⟨K7, e7⟩ : ∃ z, z = cpI K y 5 424 := ⟨_, rfl⟩
      rw [← e7] at hS85
      have hz7 : RZ K7 (decide (5 < 2)) 5 m.2 := by
        rw [e7]
        have z := RZ_cp (g := 5) y4
        rw [e5] at z
        exact z
      have hU87 : RU w B R [(x, m)] hb h83 am ln K7 (I, Q, uZ Z 5 m.2) := RU_row (by decide) (fun c j _ hc => by
        rw [e7]
        exact cpI_r (Nat.le_refl _) c j hc) hz7 (RU_I hE86 (fun _ => rfl) (fun _ => rfl) (Nat.le_refl _) hU)
      have hU88 : RU w B R [(x, m)] hb h83 am ln K7 (I, Q, (uZ Z 5 m.2)) := RU_I (sm_e_refl (tbr am (13 * ln) 77 5088) _) (I' := I) (fun _ => rfl) (fun _ => rfl) (Nat.le_refl _) hU87
      have hS89 : sm (tbr am (13 * ln) 77 5088) _ (jn (uI I 40 2 1) K7) Y := sm_jg hr hS85 (fun c j _ n1 n2 n3 => uI_c n3)
      have hU90 : RU w B R [(x, m)] hb h83 am ln K7 ((uI I 40 2 1), Q, (uZ Z 5 m.2)) := RU_I (sm_e_refl (tbr am (13 * ln) 77 5088) _) (fun _ => rfl) (fun _ => rfl) (Nat.le_refl _) hU88
      refine go_s (pc' := 58) rfl rfl rfl rfl ?_
      refine go_s (pc' := 59) rfl rfl rfl rfl ?_
      refine go_s (pc' := 60) rfl rfl rfl rfl ?_
      refine go_s (pc' := 61) (st' := [.int 5, .int (nI f), .int 1, .ref 62]) rfl rfl rfl rfl ?_
      refine go_s (pc' := 62) rfl rfl rfl rfl ?_
      have hU91 : RU w B R [(x, m)] hb h83 am ln K7 ((uI I 40 2 1), Q, (uZ Z 5 m.2)) := RU_I (sm_e_refl (tbr am (13 * ln) 77 5088) _) (I' := (uI I 40 2 1)) (fun _ => rfl) (fun _ => rfl) (Nat.le_refl _) hU90
      by_cases u92 : (uI I 40 2 1) 0 f = 0
      · skip
        refine go_callV (pc' := 63) rfl rfl rfl (Nat.le_of_ble_eq_true rfl) rfl (sm_o hS89 rfl) rfl rfl rfl (rn_snd_0 hS89 hU91 (by omega) (f := 1) (t := f) (by decide) hf u92 (by omega)) (fun r h93 q94 => ?_)
        obtain ⟨rfl, rfl⟩ := q94
        refine go_s (pc' := 64) (lo' := [some (.ref 62), some (.int (nI (13 * x))), some (.int (nI f)), some (.int 1), some (.int 2), some (.int (-1))]) rfl rfl rfl rfl ?_
        refine go_s (pc' := 65) rfl rfl rfl rfl ?_
        refine go_s (pc' := 66) (st' := [.int (-1), .int (-1)]) rfl rfl rfl rfl ?_
        refine go_icmpP (t' := 100) (pc' := 67) rfl rfl rfl (fun _ => ?_) (fun (c : ¬ (((-1) : Int32) = (-1))) => absurd (by decide) c)
        refine go_ret rfl rfl ?_
        have hA95 : RA w B R [(x, m)] hb h93 ((uI I 40 2 1), Q, (uZ Z 5 m.2)) := RA_u.mpr ⟨_, _, _, _, hS89, hU91⟩
        have hms : rbr f 1 m (I, Q, Z) = ((uI I 40 2 1), Q, (uZ Z 5 m.2)) := by
          unfold rbr
          rw [if_neg (show ¬ m.1 0 = 1 by rw [h0]; decide), if_neg (show ¬ m.1 0 = 2 by rw [h0]; decide), if_pos (show m.1 0 = 3 ∨ m.1 0 = 4 from Or.inl h0), ec, show rcy 2 1 m.2 (I, Q, Z) = ((uI I 40 2 1, Q, uZ Z 5 m.2) : mM) from rfl, show rsn 1 f (mgW 2 (m.1 6)) ((uI I 40 2 1, Q, uZ Z 5 m.2) : mM) = ((uI I 40 2 1, Q, uZ Z 5 m.2) : mM) from if_pos u92]
        rw [hms]
        exact ⟨rfl, RA_R (by omega) hA95⟩
      · skip
        refine go_callV (pc' := 63) rfl rfl rfl (Nat.le_of_ble_eq_true rfl) rfl (sm_o hS89 rfl) rfl rfl rfl (rn_snd_1 hS89 hU91 (by omega) (f := 1) (t := f) (by decide) hf u92 (by omega)) (fun r h96 q97 => ?_)
        obtain ⟨x98, am98, ln98, K98, rfl, hS98, hO98⟩ := q97
        obtain ⟨hx98, hln98, hr98, hWm98⟩ := RO_x hO98 (by omega)
        refine go_s (pc' := 64) (lo' := [some (.ref 62), some (.int (nI (13 * x))), some (.int (nI f)), some (.int 1), some (.int 2), some (.int (nI (13 * x98)))]) rfl rfl rfl rfl ?_
        refine go_s (pc' := 65) rfl rfl rfl rfl ?_
        refine go_s (pc' := 66) (st' := [.int (-1), .int (nI (13 * x98))]) rfl rfl rfl rfl ?_
        refine go_icmpP (t' := 100) (pc' := 67) rfl rfl rfl (fun (c : (nI (13 * x98)) = (-1)) => absurd c (nI_nm1 (by omega))) (fun _ => ?_)
        have hxo := RO_h hO98 (y := x) (m := m) (by simp)
        have hxl9 := hxo.1
        refine go_s (pc' := 68) rfl rfl rfl rfl ?_
        refine go_sget (pc' := 69) (v := .ref am98) hS98 rfl rfl rfl (by decide) rfl rfl ?_
        refine go_s (pc' := 70) rfl rfl rfl rfl ?_
        refine go_s (pc' := 71) (st' := [.int 6, .int (nI (13 * x98)), .ref am98]) rfl rfl rfl rfl ?_
        refine go_nadd (pc' := 72) (a := (13 * x98)) (b := 6) rfl rfl rfl rfl rfl ?_
        refine go_s (pc' := 73) rfl rfl rfl rfl ?_
        refine go_sget (pc' := 74) (v := .ref am98) hS98 rfl rfl rfl (by decide) rfl rfl ?_
        refine go_s (pc' := 75) rfl rfl rfl rfl ?_
        refine go_s (pc' := 76) (st' := [.int 6, .int (nI (13 * x)), .ref am98, .int (nI ((13 * x98) + 6)), .ref am98]) rfl rfl rfl rfl ?_
        refine go_nadd (pc' := 77) (a := (13 * x)) (b := 6) rfl rfl rfl rfl rfl ?_
        refine go_sald (pc' := 78) (q := ((13 * x) + 6)) (v := .int (m.1 6)) hS98 rfl (tr_ms hr98 (by omega)) rfl rfl (by omega) (congrArg Value.int (hxo.2 0 (by rw [h0]; decide))) rfl ?_
        refine go_siast (pc' := 79) (q := ((13 * x98) + 6)) hS98 rfl (tr_ms hr98 (by omega)) tbr_inj (Nat.le_of_ble_eq_true rfl) rfl (by omega) (rk_0 hr98).1 hWm98 rfl (fun h99 hS100 hE101 => ?_)
        refine go_s (pc' := 100) rfl rfl rfl rfl ?_
        refine go_ret rfl rfl ?_
        change sm (tbr am98 (13 * ln98) 77 5088) _ (uI (jn (appI (uI I 40 2 1) Q (4 * 1 + f)) K98) 50 ((13 * x98) + 6) (m.1 6)) Y at hS100
        rw [jn_hi (c := 50) (by decide)] at hS100
        have hU102 := RO_cl (K' := (uI K98 50 ((13 * x98) + 6) (m.1 6))) (m := (mgn (mgW 2 (m.1 6)) ((uI I 40 2 1) 9 (4 * 1 + f) + 1))) (by omega) hO98 (hE101) rfl rfl rfl rfl (fun c j _ hc => by
          simp only [uI]
          rw [if_neg (by omega)]) (fun i hi => by
          have hi2 : i < 1 := hi
          match i, hi2 with
            | 0, _ => (repeat (first | rw [uI_e (by omega)] | rw [uI_j (by omega)])) <;> rfl)
        have hA103 : RA w B (R + 1) [(x, m)] hb h99 ((appI (uI I 40 2 1) Q (4 * 1 + f)), (uQ Q (4 * 1 + f) (Q (4 * 1 + f) ++ [(mgn (mgW 2 (m.1 6)) ((uI I 40 2 1) 9 (4 * 1 + f) + 1))])), (uZ Z 5 m.2)) := RA_u.mpr ⟨_, _, _, _, hS100, hU102⟩
        have hms : rbr f 1 m (I, Q, Z) = ((appI (uI I 40 2 1) Q (4 * 1 + f)), (uQ Q (4 * 1 + f) (Q (4 * 1 + f) ++ [(mgn (mgW 2 (m.1 6)) ((uI I 40 2 1) 9 (4 * 1 + f) + 1))])), (uZ Z 5 m.2)) := by
          unfold rbr
          rw [if_neg (show ¬ m.1 0 = 1 by rw [h0]; decide), if_neg (show ¬ m.1 0 = 2 by rw [h0]; decide), if_pos (show m.1 0 = 3 ∨ m.1 0 = 4 from Or.inl h0), ec, show rcy 2 1 m.2 (I, Q, Z) = ((uI I 40 2 1, Q, uZ Z 5 m.2) : mM) from rfl, show rsn 1 f (mgW 2 (m.1 6)) ((uI I 40 2 1, Q, uZ Z 5 m.2) : mM) = mapp (4 * 1 + f) (mgW 2 (m.1 6)) ((uI I 40 2 1, Q, uZ Z 5 m.2) : mM) from if_neg u92]
          rw [show mapp (4 * 1 + f) (mgW 2 (m.1 6)) ((uI I 40 2 1, Q, uZ Z 5 m.2) : mM) = ((appI (uI I 40 2 1) Q (4 * 1 + f)), (uQ Q (4 * 1 + f) (Q (4 * 1 + f) ++ [(mgn (mgW 2 (m.1 6)) ((uI I 40 2 1) 9 (4 * 1 + f) + 1))])), (uZ Z 5 m.2)) from rfl]
        rw [hms]
        exact ⟨rfl, RA_R (by omega) hA103⟩
  · skip
    obtain ⟨y, y1, y2, y3, y4⟩ := hx.2.2.2.2.2 (by unfold isS; rw [h0]; rfl)
    obtain ⟨k9, hk9, e5⟩ := mk3 (Or.inr (Or.inl h0))
    obtain rfl | rfl | rfl : k9 = 0 ∨ k9 = 1 ∨ k9 = 2 := by omega
    · skip
      have ec : (m.1 5).toNatClampNeg = 0 := by rw [e5]; rfl
      refine go_s (pc' := 1) rfl rfl rfl rfl ?_
      refine go_sget (pc' := 2) (v := .ref am) hS rfl rfl rfl (by decide) rfl rfl ?_
      refine go_s (pc' := 3) rfl rfl rfl rfl ?_
      refine go_s (pc' := 4) (st' := [.int 5, .int (nI (13 * x)), .ref am]) rfl rfl rfl rfl ?_
      refine go_nadd (pc' := 5) (a := (13 * x)) (b := 5) rfl rfl rfl rfl rfl ?_
      refine go_sald (pc' := 6) (q := ((13 * x) + 5)) (v := .int 0) hS rfl (tr_ms hr (by omega)) rfl rfl (by omega) (congrArg Value.int (hx.2.2.2.1.trans e5)) rfl ?_
      refine go_s (pc' := 7) (lo' := [some (.ref 62), some (.int (nI (13 * x))), some (.int (nI f)), some (.int 1), some (.int 0), none]) rfl rfl rfl rfl ?_
      refine go_s (pc' := 8) rfl rfl rfl rfl ?_
      refine go_sget (pc' := 9) (v := .ref am) hS rfl rfl rfl (by decide) rfl rfl ?_
      refine go_s (pc' := 10) rfl rfl rfl rfl ?_
      refine go_s (pc' := 11) (st' := [.int 0, .int (nI (13 * x)), .ref am]) rfl rfl rfl rfl ?_
      refine go_nadd (pc' := 12) (a := (13 * x)) (b := 0) rfl rfl rfl rfl rfl ?_
      refine go_sald (pc' := 13) (q := ((13 * x) + 0)) (v := .int 4) hS rfl (tr_ms hr (by omega)) rfl rfl (by omega) (congrArg Value.int (hx.2.1.trans h0)) rfl ?_
      refine go_tsw (t' := 42) rfl (Or.inr ⟨by decide, rfl⟩) rfl ?_
      refine go_s (pc' := 43) rfl rfl rfl rfl ?_
      refine go_s (pc' := 44) rfl rfl rfl rfl ?_
      refine go_sget (pc' := 45) (v := .ref am) hS rfl rfl rfl (by decide) rfl rfl ?_
      refine go_s (pc' := 46) rfl rfl rfl rfl ?_
      refine go_s (pc' := 47) (st' := [.int 12, .int (nI (13 * x)), .ref am, .ref 62]) rfl rfl rfl rfl ?_
      refine go_nadd (pc' := 48) (a := (13 * x)) (b := 12) rfl rfl rfl rfl rfl ?_
      refine go_sald (pc' := 49) (q := ((13 * x) + 12)) (v := .int (nI y)) hS rfl (tr_ms hr (by omega)) rfl rfl (by omega) (congrArg Value.int y3) rfl ?_
      refine go_s (pc' := 50) (st' := [.int 2, .int (nI y), .ref 62]) rfl rfl rfl rfl ?_
      refine go_s (pc' := 51) rfl rfl rfl rfl ?_
      refine go_s (pc' := 52) (st' := [.int 0, .int (nI y), .ref 62]) rfl rfl rfl rfl ?_
      refine go_s (pc' := 53) rfl rfl rfl rfl ?_
      refine go_s (pc' := 54) (st' := [.int 2, .int 1, .int 0, .int (nI y), .ref 62]) rfl rfl rfl rfl ?_
      refine go_s (pc' := 55) (st' := [.int 1, .int 0, .int (nI y), .ref 62]) rfl rfl rfl rfl ?_
      refine go_s (pc' := 56) (st' := [.int 1, .int (nI y), .ref 62]) rfl rfl rfl rfl ?_
      refine go_callV (pc' := 57) rfl rfl rfl (Nat.le_of_ble_eq_true rfl) rfl (sm_o hS rfl) rfl rfl rfl (rs_cp hr hS hW (hW 77 (by decide) (by decide)) (f := y) (g := 1) (by omega) (by decide) (by omega) (by decide) (by omega)) (fun r h104 q105 => ?_)
      obtain ⟨rfl, hS106, hE107⟩ := q105
      rw [cpI_jn] at hS106
      obtain ⟨K7, e7⟩ : ∃ z, z = cpI K y 1 424 := ⟨_, rfl⟩
      rw [← e7] at hS106
      have hz7 : RZ K7 (decide (1 < 2)) 1 m.2 := by
        rw [e7]
        have z := RZ_cp (g := 1) y4
        rw [e5] at z
        exact z
      have hU108 : RU w B R [(x, m)] hb h104 am ln K7 (I, Q, uZ Z 1 m.2) := RU_row (by decide) (fun c j _ hc => by
        rw [e7]
        exact cpI_r (Nat.le_refl _) c j hc) hz7 (RU_I hE107 (fun _ => rfl) (fun _ => rfl) (Nat.le_refl _) hU)
      have hU109 : RU w B R [(x, m)] hb h104 am ln K7 (I, Q, (uZ Z 1 m.2)) := RU_I (sm_e_refl (tbr am (13 * ln) 77 5088) _) (I' := I) (fun _ => rfl) (fun _ => rfl) (Nat.le_refl _) hU108
      have hS110 : sm (tbr am (13 * ln) 77 5088) _ (jn (uI I 40 0 1) K7) Y := sm_jg hr hS106 (fun c j _ n1 n2 n3 => uI_c n3)
      have hU111 : RU w B R [(x, m)] hb h104 am ln K7 ((uI I 40 0 1), Q, (uZ Z 1 m.2)) := RU_I (sm_e_refl (tbr am (13 * ln) 77 5088) _) (fun _ => rfl) (fun _ => rfl) (Nat.le_refl _) hU109
      refine go_s (pc' := 58) rfl rfl rfl rfl ?_
      refine go_s (pc' := 59) rfl rfl rfl rfl ?_
      refine go_s (pc' := 60) rfl rfl rfl rfl ?_
      refine go_s (pc' := 61) (st' := [.int 5, .int (nI f), .int 1, .ref 62]) rfl rfl rfl rfl ?_
      refine go_s (pc' := 62) rfl rfl rfl rfl ?_
      have hU112 : RU w B R [(x, m)] hb h104 am ln K7 ((uI I 40 0 1), Q, (uZ Z 1 m.2)) := RU_I (sm_e_refl (tbr am (13 * ln) 77 5088) _) (I' := (uI I 40 0 1)) (fun _ => rfl) (fun _ => rfl) (Nat.le_refl _) hU111
      by_cases u113 : (uI I 40 0 1) 0 f = 0
      · skip
        refine go_callV (pc' := 63) rfl rfl rfl (Nat.le_of_ble_eq_true rfl) rfl (sm_o hS110 rfl) rfl rfl rfl (rn_snd_0 hS110 hU112 (by omega) (f := 1) (t := f) (by decide) hf u113 (by omega)) (fun r h114 q115 => ?_)
        obtain ⟨rfl, rfl⟩ := q115
        refine go_s (pc' := 64) (lo' := [some (.ref 62), some (.int (nI (13 * x))), some (.int (nI f)), some (.int 1), some (.int 0), some (.int (-1))]) rfl rfl rfl rfl ?_
        refine go_s (pc' := 65) rfl rfl rfl rfl ?_
        refine go_s (pc' := 66) (st' := [.int (-1), .int (-1)]) rfl rfl rfl rfl ?_
        refine go_icmpP (t' := 100) (pc' := 67) rfl rfl rfl (fun _ => ?_) (fun (c : ¬ (((-1) : Int32) = (-1))) => absurd (by decide) c)
        refine go_ret rfl rfl ?_
        have hA116 : RA w B R [(x, m)] hb h114 ((uI I 40 0 1), Q, (uZ Z 1 m.2)) := RA_u.mpr ⟨_, _, _, _, hS110, hU112⟩
        have hms : rbr f 1 m (I, Q, Z) = ((uI I 40 0 1), Q, (uZ Z 1 m.2)) := by
          unfold rbr
          rw [if_neg (show ¬ m.1 0 = 1 by rw [h0]; decide), if_neg (show ¬ m.1 0 = 2 by rw [h0]; decide), if_pos (show m.1 0 = 3 ∨ m.1 0 = 4 from Or.inr h0), ec, show rcy 0 1 m.2 (I, Q, Z) = ((uI I 40 0 1, Q, uZ Z 1 m.2) : mM) from rfl, show rsn 1 f (mgW 0 (m.1 6)) ((uI I 40 0 1, Q, uZ Z 1 m.2) : mM) = ((uI I 40 0 1, Q, uZ Z 1 m.2) : mM) from if_pos u113]
        rw [hms]
        exact ⟨rfl, RA_R (by omega) hA116⟩
      · skip
        refine go_callV (pc' := 63) rfl rfl rfl (Nat.le_of_ble_eq_true rfl) rfl (sm_o hS110 rfl) rfl rfl rfl (rn_snd_1 hS110 hU112 (by omega) (f := 1) (t := f) (by decide) hf u113 (by omega)) (fun r h117 q118 => ?_)
        obtain ⟨x119, am119, ln119, K119, rfl, hS119, hO119⟩ := q118
        obtain ⟨hx119, hln119, hr119, hWm119⟩ := RO_x hO119 (by omega)
        refine go_s (pc' := 64) (lo' := [some (.ref 62), some (.int (nI (13 * x))), some (.int (nI f)), some (.int 1), some (.int 0), some (.int (nI (13 * x119)))]) rfl rfl rfl rfl ?_
        refine go_s (pc' := 65) rfl rfl rfl rfl ?_
        refine go_s (pc' := 66) (st' := [.int (-1), .int (nI (13 * x119))]) rfl rfl rfl rfl ?_
        refine go_icmpP (t' := 100) (pc' := 67) rfl rfl rfl (fun (c : (nI (13 * x119)) = (-1)) => absurd c (nI_nm1 (by omega))) (fun _ => ?_)
        have hxo := RO_h hO119 (y := x) (m := m) (by simp)
        have hxl9 := hxo.1
        refine go_s (pc' := 68) rfl rfl rfl rfl ?_
        refine go_sget (pc' := 69) (v := .ref am119) hS119 rfl rfl rfl (by decide) rfl rfl ?_
        refine go_s (pc' := 70) rfl rfl rfl rfl ?_
        refine go_s (pc' := 71) (st' := [.int 6, .int (nI (13 * x119)), .ref am119]) rfl rfl rfl rfl ?_
        refine go_nadd (pc' := 72) (a := (13 * x119)) (b := 6) rfl rfl rfl rfl rfl ?_
        refine go_s (pc' := 73) rfl rfl rfl rfl ?_
        refine go_sget (pc' := 74) (v := .ref am119) hS119 rfl rfl rfl (by decide) rfl rfl ?_
        refine go_s (pc' := 75) rfl rfl rfl rfl ?_
        refine go_s (pc' := 76) (st' := [.int 6, .int (nI (13 * x)), .ref am119, .int (nI ((13 * x119) + 6)), .ref am119]) rfl rfl rfl rfl ?_
        refine go_nadd (pc' := 77) (a := (13 * x)) (b := 6) rfl rfl rfl rfl rfl ?_
        refine go_sald (pc' := 78) (q := ((13 * x) + 6)) (v := .int (m.1 6)) hS119 rfl (tr_ms hr119 (by omega)) rfl rfl (by omega) (congrArg Value.int (hxo.2 0 (by rw [h0]; decide))) rfl ?_
        refine go_siast (pc' := 79) (q := ((13 * x119) + 6)) hS119 rfl (tr_ms hr119 (by omega)) tbr_inj (Nat.le_of_ble_eq_true rfl) rfl (by omega) (rk_0 hr119).1 hWm119 rfl (fun h120 hS121 hE122 => ?_)
        refine go_s (pc' := 100) rfl rfl rfl rfl ?_
        refine go_ret rfl rfl ?_
        change sm (tbr am119 (13 * ln119) 77 5088) _ (uI (jn (appI (uI I 40 0 1) Q (4 * 1 + f)) K119) 50 ((13 * x119) + 6) (m.1 6)) Y at hS121
        rw [jn_hi (c := 50) (by decide)] at hS121
        have hU123 := RO_cl (K' := (uI K119 50 ((13 * x119) + 6) (m.1 6))) (m := (mgn (mgW 0 (m.1 6)) ((uI I 40 0 1) 9 (4 * 1 + f) + 1))) (by omega) hO119 (hE122) rfl rfl rfl rfl (fun c j _ hc => by
          simp only [uI]
          rw [if_neg (by omega)]) (fun i hi => by
          have hi2 : i < 1 := hi
          match i, hi2 with
            | 0, _ => (repeat (first | rw [uI_e (by omega)] | rw [uI_j (by omega)])) <;> rfl)
        have hA124 : RA w B (R + 1) [(x, m)] hb h120 ((appI (uI I 40 0 1) Q (4 * 1 + f)), (uQ Q (4 * 1 + f) (Q (4 * 1 + f) ++ [(mgn (mgW 0 (m.1 6)) ((uI I 40 0 1) 9 (4 * 1 + f) + 1))])), (uZ Z 1 m.2)) := RA_u.mpr ⟨_, _, _, _, hS121, hU123⟩
        have hms : rbr f 1 m (I, Q, Z) = ((appI (uI I 40 0 1) Q (4 * 1 + f)), (uQ Q (4 * 1 + f) (Q (4 * 1 + f) ++ [(mgn (mgW 0 (m.1 6)) ((uI I 40 0 1) 9 (4 * 1 + f) + 1))])), (uZ Z 1 m.2)) := by
          unfold rbr
          rw [if_neg (show ¬ m.1 0 = 1 by rw [h0]; decide), if_neg (show ¬ m.1 0 = 2 by rw [h0]; decide), if_pos (show m.1 0 = 3 ∨ m.1 0 = 4 from Or.inr h0), ec, show rcy 0 1 m.2 (I, Q, Z) = ((uI I 40 0 1, Q, uZ Z 1 m.2) : mM) from rfl, show rsn 1 f (mgW 0 (m.1 6)) ((uI I 40 0 1, Q, uZ Z 1 m.2) : mM) = mapp (4 * 1 + f) (mgW 0 (m.1 6)) ((uI I 40 0 1, Q, uZ Z 1 m.2) : mM) from if_neg u113]
          rw [show mapp (4 * 1 + f) (mgW 0 (m.1 6)) ((uI I 40 0 1, Q, uZ Z 1 m.2) : mM) = ((appI (uI I 40 0 1) Q (4 * 1 + f)), (uQ Q (4 * 1 + f) (Q (4 * 1 + f) ++ [(mgn (mgW 0 (m.1 6)) ((uI I 40 0 1) 9 (4 * 1 + f) + 1))])), (uZ Z 1 m.2)) from rfl]
        rw [hms]
        exact ⟨rfl, RA_R (by omega) hA124⟩
    · skip
      have ec : (m.1 5).toNatClampNeg = 1 := by rw [e5]; rfl
      refine go_s (pc' := 1) rfl rfl rfl rfl ?_
      refine go_sget (pc' := 2) (v := .ref am) hS rfl rfl rfl (by decide) rfl rfl ?_
      refine go_s (pc' := 3) rfl rfl rfl rfl ?_
      refine go_s (pc' := 4) (st' := [.int 5, .int (nI (13 * x)), .ref am]) rfl rfl rfl rfl ?_
      refine go_nadd (pc' := 5) (a := (13 * x)) (b := 5) rfl rfl rfl rfl rfl ?_
      refine go_sald (pc' := 6) (q := ((13 * x) + 5)) (v := .int 1) hS rfl (tr_ms hr (by omega)) rfl rfl (by omega) (congrArg Value.int (hx.2.2.2.1.trans e5)) rfl ?_
      refine go_s (pc' := 7) (lo' := [some (.ref 62), some (.int (nI (13 * x))), some (.int (nI f)), some (.int 1), some (.int 1), none]) rfl rfl rfl rfl ?_
      refine go_s (pc' := 8) rfl rfl rfl rfl ?_
      refine go_sget (pc' := 9) (v := .ref am) hS rfl rfl rfl (by decide) rfl rfl ?_
      refine go_s (pc' := 10) rfl rfl rfl rfl ?_
      refine go_s (pc' := 11) (st' := [.int 0, .int (nI (13 * x)), .ref am]) rfl rfl rfl rfl ?_
      refine go_nadd (pc' := 12) (a := (13 * x)) (b := 0) rfl rfl rfl rfl rfl ?_
      refine go_sald (pc' := 13) (q := ((13 * x) + 0)) (v := .int 4) hS rfl (tr_ms hr (by omega)) rfl rfl (by omega) (congrArg Value.int (hx.2.1.trans h0)) rfl ?_
      refine go_tsw (t' := 42) rfl (Or.inr ⟨by decide, rfl⟩) rfl ?_
      refine go_s (pc' := 43) rfl rfl rfl rfl ?_
      refine go_s (pc' := 44) rfl rfl rfl rfl ?_
      refine go_sget (pc' := 45) (v := .ref am) hS rfl rfl rfl (by decide) rfl rfl ?_
      refine go_s (pc' := 46) rfl rfl rfl rfl ?_
      refine go_s (pc' := 47) (st' := [.int 12, .int (nI (13 * x)), .ref am, .ref 62]) rfl rfl rfl rfl ?_
      refine go_nadd (pc' := 48) (a := (13 * x)) (b := 12) rfl rfl rfl rfl rfl ?_
      refine go_sald (pc' := 49) (q := ((13 * x) + 12)) (v := .int (nI y)) hS rfl (tr_ms hr (by omega)) rfl rfl (by omega) (congrArg Value.int y3) rfl ?_
      refine go_s (pc' := 50) (st' := [.int 2, .int (nI y), .ref 62]) rfl rfl rfl rfl ?_
      refine go_s (pc' := 51) rfl rfl rfl rfl ?_
      refine go_s (pc' := 52) (st' := [.int 2, .int (nI y), .ref 62]) rfl rfl rfl rfl ?_
      refine go_s (pc' := 53) rfl rfl rfl rfl ?_
      refine go_s (pc' := 54) (st' := [.int 2, .int 1, .int 2, .int (nI y), .ref 62]) rfl rfl rfl rfl ?_
      refine go_s (pc' := 55) (st' := [.int 1, .int 2, .int (nI y), .ref 62]) rfl rfl rfl rfl ?_
      refine go_s (pc' := 56) (st' := [.int 3, .int (nI y), .ref 62]) rfl rfl rfl rfl ?_
      refine go_callV (pc' := 57) rfl rfl rfl (Nat.le_of_ble_eq_true rfl) rfl (sm_o hS rfl) rfl rfl rfl (rs_cp hr hS hW (hW 77 (by decide) (by decide)) (f := y) (g := 3) (by omega) (by decide) (by omega) (by decide) (by omega)) (fun r h125 q126 => ?_)
      obtain ⟨rfl, hS127, hE128⟩ := q126
      rw [cpI_jn] at hS127
      obtain ⟨K7, e7⟩ : ∃ z, z = cpI K y 3 424 := ⟨_, rfl⟩
      rw [← e7] at hS127
      have hz7 : RZ K7 (decide (3 < 2)) 3 m.2 := by
        rw [e7]
        have z := RZ_cp (g := 3) y4
        rw [e5] at z
        exact z
      have hU129 : RU w B R [(x, m)] hb h125 am ln K7 (I, Q, uZ Z 3 m.2) := RU_row (by decide) (fun c j _ hc => by
        rw [e7]
        exact cpI_r (Nat.le_refl _) c j hc) hz7 (RU_I hE128 (fun _ => rfl) (fun _ => rfl) (Nat.le_refl _) hU)
      have hU130 : RU w B R [(x, m)] hb h125 am ln K7 (I, Q, (uZ Z 3 m.2)) := RU_I (sm_e_refl (tbr am (13 * ln) 77 5088) _) (I' := I) (fun _ => rfl) (fun _ => rfl) (Nat.le_refl _) hU129
      have hS131 : sm (tbr am (13 * ln) 77 5088) _ (jn (uI I 40 1 1) K7) Y := sm_jg hr hS127 (fun c j _ n1 n2 n3 => uI_c n3)
      have hU132 : RU w B R [(x, m)] hb h125 am ln K7 ((uI I 40 1 1), Q, (uZ Z 3 m.2)) := RU_I (sm_e_refl (tbr am (13 * ln) 77 5088) _) (fun _ => rfl) (fun _ => rfl) (Nat.le_refl _) hU130
      refine go_s (pc' := 58) rfl rfl rfl rfl ?_
      refine go_s (pc' := 59) rfl rfl rfl rfl ?_
      refine go_s (pc' := 60) rfl rfl rfl rfl ?_
      refine go_s (pc' := 61) (st' := [.int 5, .int (nI f), .int 1, .ref 62]) rfl rfl rfl rfl ?_
      refine go_s (pc' := 62) rfl rfl rfl rfl ?_
      have hU133 : RU w B R [(x, m)] hb h125 am ln K7 ((uI I 40 1 1), Q, (uZ Z 3 m.2)) := RU_I (sm_e_refl (tbr am (13 * ln) 77 5088) _) (I' := (uI I 40 1 1)) (fun _ => rfl) (fun _ => rfl) (Nat.le_refl _) hU132
      by_cases u134 : (uI I 40 1 1) 0 f = 0
      · skip
        refine go_callV (pc' := 63) rfl rfl rfl (Nat.le_of_ble_eq_true rfl) rfl (sm_o hS131 rfl) rfl rfl rfl (rn_snd_0 hS131 hU133 (by omega) (f := 1) (t := f) (by decide) hf u134 (by omega)) (fun r h135 q136 => ?_)
        obtain ⟨rfl, rfl⟩ := q136
        refine go_s (pc' := 64) (lo' := [some (.ref 62), some (.int (nI (13 * x))), some (.int (nI f)), some (.int 1), some (.int 1), some (.int (-1))]) rfl rfl rfl rfl ?_
        refine go_s (pc' := 65) rfl rfl rfl rfl ?_
        refine go_s (pc' := 66) (st' := [.int (-1), .int (-1)]) rfl rfl rfl rfl ?_
        refine go_icmpP (t' := 100) (pc' := 67) rfl rfl rfl (fun _ => ?_) (fun (c : ¬ (((-1) : Int32) = (-1))) => absurd (by decide) c)
        refine go_ret rfl rfl ?_
        have hA137 : RA w B R [(x, m)] hb h135 ((uI I 40 1 1), Q, (uZ Z 3 m.2)) := RA_u.mpr ⟨_, _, _, _, hS131, hU133⟩
        have hms : rbr f 1 m (I, Q, Z) = ((uI I 40 1 1), Q, (uZ Z 3 m.2)) := by
          unfold rbr
          rw [if_neg (show ¬ m.1 0 = 1 by rw [h0]; decide), if_neg (show ¬ m.1 0 = 2 by rw [h0]; decide), if_pos (show m.1 0 = 3 ∨ m.1 0 = 4 from Or.inr h0), ec, show rcy 1 1 m.2 (I, Q, Z) = ((uI I 40 1 1, Q, uZ Z 3 m.2) : mM) from rfl, show rsn 1 f (mgW 1 (m.1 6)) ((uI I 40 1 1, Q, uZ Z 3 m.2) : mM) = ((uI I 40 1 1, Q, uZ Z 3 m.2) : mM) from if_pos u134]
        rw [hms]
        exact ⟨rfl, RA_R (by omega) hA137⟩
      · skip
        refine go_callV (pc' := 63) rfl rfl rfl (Nat.le_of_ble_eq_true rfl) rfl (sm_o hS131 rfl) rfl rfl rfl (rn_snd_1 hS131 hU133 (by omega) (f := 1) (t := f) (by decide) hf u134 (by omega)) (fun r h138 q139 => ?_)
        obtain ⟨x140, am140, ln140, K140, rfl, hS140, hO140⟩ := q139
        obtain ⟨hx140, hln140, hr140, hWm140⟩ := RO_x hO140 (by omega)
        refine go_s (pc' := 64) (lo' := [some (.ref 62), some (.int (nI (13 * x))), some (.int (nI f)), some (.int 1), some (.int 1), some (.int (nI (13 * x140)))]) rfl rfl rfl rfl ?_
        refine go_s (pc' := 65) rfl rfl rfl rfl ?_
        refine go_s (pc' := 66) (st' := [.int (-1), .int (nI (13 * x140))]) rfl rfl rfl rfl ?_
        refine go_icmpP (t' := 100) (pc' := 67) rfl rfl rfl (fun (c : (nI (13 * x140)) = (-1)) => absurd c (nI_nm1 (by omega))) (fun _ => ?_)
        have hxo := RO_h hO140 (y := x) (m := m) (by simp)
        have hxl9 := hxo.1
        refine go_s (pc' := 68) rfl rfl rfl rfl ?_
        refine go_sget (pc' := 69) (v := .ref am140) hS140 rfl rfl rfl (by decide) rfl rfl ?_
        refine go_s (pc' := 70) rfl rfl rfl rfl ?_
        refine go_s (pc' := 71) (st' := [.int 6, .int (nI (13 * x140)), .ref am140]) rfl rfl rfl rfl ?_
        refine go_nadd (pc' := 72) (a := (13 * x140)) (b := 6) rfl rfl rfl rfl rfl ?_
        refine go_s (pc' := 73) rfl rfl rfl rfl ?_
        refine go_sget (pc' := 74) (v := .ref am140) hS140 rfl rfl rfl (by decide) rfl rfl ?_
        refine go_s (pc' := 75) rfl rfl rfl rfl ?_
        refine go_s (pc' := 76) (st' := [.int 6, .int (nI (13 * x)), .ref am140, .int (nI ((13 * x140) + 6)), .ref am140]) rfl rfl rfl rfl ?_
        refine go_nadd (pc' := 77) (a := (13 * x)) (b := 6) rfl rfl rfl rfl rfl ?_
        refine go_sald (pc' := 78) (q := ((13 * x) + 6)) (v := .int (m.1 6)) hS140 rfl (tr_ms hr140 (by omega)) rfl rfl (by omega) (congrArg Value.int (hxo.2 0 (by rw [h0]; decide))) rfl ?_
        refine go_siast (pc' := 79) (q := ((13 * x140) + 6)) hS140 rfl (tr_ms hr140 (by omega)) tbr_inj (Nat.le_of_ble_eq_true rfl) rfl (by omega) (rk_0 hr140).1 hWm140 rfl (fun h141 hS142 hE143 => ?_)
        refine go_s (pc' := 100) rfl rfl rfl rfl ?_
        refine go_ret rfl rfl ?_
        change sm (tbr am140 (13 * ln140) 77 5088) _ (uI (jn (appI (uI I 40 1 1) Q (4 * 1 + f)) K140) 50 ((13 * x140) + 6) (m.1 6)) Y at hS142
        rw [jn_hi (c := 50) (by decide)] at hS142
        have hU144 := RO_cl (K' := (uI K140 50 ((13 * x140) + 6) (m.1 6))) (m := (mgn (mgW 1 (m.1 6)) ((uI I 40 1 1) 9 (4 * 1 + f) + 1))) (by omega) hO140 (hE143) rfl rfl rfl rfl (fun c j _ hc => by
          simp only [uI]
          rw [if_neg (by omega)]) (fun i hi => by
          have hi2 : i < 1 := hi
          match i, hi2 with
            | 0, _ => (repeat (first | rw [uI_e (by omega)] | rw [uI_j (by omega)])) <;> rfl)
        have hA145 : RA w B (R + 1) [(x, m)] hb h141 ((appI (uI I 40 1 1) Q (4 * 1 + f)), (uQ Q (4 * 1 + f) (Q (4 * 1 + f) ++ [(mgn (mgW 1 (m.1 6)) ((uI I 40 1 1) 9 (4 * 1 + f) + 1))])), (uZ Z 3 m.2)) := RA_u.mpr ⟨_, _, _, _, hS142, hU144⟩
        have hms : rbr f 1 m (I, Q, Z) = ((appI (uI I 40 1 1) Q (4 * 1 + f)), (uQ Q (4 * 1 + f) (Q (4 * 1 + f) ++ [(mgn (mgW 1 (m.1 6)) ((uI I 40 1 1) 9 (4 * 1 + f) + 1))])), (uZ Z 3 m.2)) := by
          unfold rbr
          rw [if_neg (show ¬ m.1 0 = 1 by rw [h0]; decide), if_neg (show ¬ m.1 0 = 2 by rw [h0]; decide), if_pos (show m.1 0 = 3 ∨ m.1 0 = 4 from Or.inr h0), ec, show rcy 1 1 m.2 (I, Q, Z) = ((uI I 40 1 1, Q, uZ Z 3 m.2) : mM) from rfl, show rsn 1 f (mgW 1 (m.1 6)) ((uI I 40 1 1, Q, uZ Z 3 m.2) : mM) = mapp (4 * 1 + f) (mgW 1 (m.1 6)) ((uI I 40 1 1, Q, uZ Z 3 m.2) : mM) from if_neg u134]
          rw [show mapp (4 * 1 + f) (mgW 1 (m.1 6)) ((uI I 40 1 1, Q, uZ Z 3 m.2) : mM) = ((appI (uI I 40 1 1) Q (4 * 1 + f)), (uQ Q (4 * 1 + f) (Q (4 * 1 + f) ++ [(mgn (mgW 1 (m.1 6)) ((uI I 40 1 1) 9 (4 * 1 + f) + 1))])), (uZ Z 3 m.2)) from rfl]
        rw [hms]
        exact ⟨rfl, RA_R (by omega) hA145⟩
    · skip
      have ec : (m.1 5).toNatClampNeg = 2 := by rw [e5]; rfl
      refine go_s (pc' := 1) rfl rfl rfl rfl ?_
      refine go_sget (pc' := 2) (v := .ref am) hS rfl rfl rfl (by decide) rfl rfl ?_
      refine go_s (pc' := 3) rfl rfl rfl rfl ?_
      refine go_s (pc' := 4) (st' := [.int 5, .int (nI (13 * x)), .ref am]) rfl rfl rfl rfl ?_
      refine go_nadd (pc' := 5) (a := (13 * x)) (b := 5) rfl rfl rfl rfl rfl ?_
      refine go_sald (pc' := 6) (q := ((13 * x) + 5)) (v := .int 2) hS rfl (tr_ms hr (by omega)) rfl rfl (by omega) (congrArg Value.int (hx.2.2.2.1.trans e5)) rfl ?_
      refine go_s (pc' := 7) (lo' := [some (.ref 62), some (.int (nI (13 * x))), some (.int (nI f)), some (.int 1), some (.int 2), none]) rfl rfl rfl rfl ?_
      refine go_s (pc' := 8) rfl rfl rfl rfl ?_
      refine go_sget (pc' := 9) (v := .ref am) hS rfl rfl rfl (by decide) rfl rfl ?_
      refine go_s (pc' := 10) rfl rfl rfl rfl ?_
      refine go_s (pc' := 11) (st' := [.int 0, .int (nI (13 * x)), .ref am]) rfl rfl rfl rfl ?_
      refine go_nadd (pc' := 12) (a := (13 * x)) (b := 0) rfl rfl rfl rfl rfl ?_
      refine go_sald (pc' := 13) (q := ((13 * x) + 0)) (v := .int 4) hS rfl (tr_ms hr (by omega)) rfl rfl (by omega) (congrArg Value.int (hx.2.1.trans h0)) rfl ?_
      refine go_tsw (t' := 42) rfl (Or.inr ⟨by decide, rfl⟩) rfl ?_
      refine go_s (pc' := 43) rfl rfl rfl rfl ?_
      refine go_s (pc' := 44) rfl rfl rfl rfl ?_
      refine go_sget (pc' := 45) (v := .ref am) hS rfl rfl rfl (by decide) rfl rfl ?_
      refine go_s (pc' := 46) rfl rfl rfl rfl ?_
      refine go_s (pc' := 47) (st' := [.int 12, .int (nI (13 * x)), .ref am, .ref 62]) rfl rfl rfl rfl ?_
      refine go_nadd (pc' := 48) (a := (13 * x)) (b := 12) rfl rfl rfl rfl rfl ?_
      refine go_sald (pc' := 49) (q := ((13 * x) + 12)) (v := .int (nI y)) hS rfl (tr_ms hr (by omega)) rfl rfl (by omega) (congrArg Value.int y3) rfl ?_
      refine go_s (pc' := 50) (st' := [.int 2, .int (nI y), .ref 62]) rfl rfl rfl rfl ?_
      refine go_s (pc' := 51) rfl rfl rfl rfl ?_
      refine go_s (pc' := 52) (st' := [.int 4, .int (nI y), .ref 62]) rfl rfl rfl rfl ?_
      refine go_s (pc' := 53) rfl rfl rfl rfl ?_
      refine go_s (pc' := 54) (st' := [.int 2, .int 1, .int 4, .int (nI y), .ref 62]) rfl rfl rfl rfl ?_
      refine go_s (pc' := 55) (st' := [.int 1, .int 4, .int (nI y), .ref 62]) rfl rfl rfl rfl ?_
      refine go_s (pc' := 56) (st' := [.int 5, .int (nI y), .ref 62]) rfl rfl rfl rfl ?_
      refine go_callV (pc' := 57) rfl rfl rfl (Nat.le_of_ble_eq_true rfl) rfl (sm_o hS rfl) rfl rfl rfl (rs_cp hr hS hW (hW 77 (by decide) (by decide)) (f := y) (g := 5) (by omega) (by decide) (by omega) (by decide) (by omega)) (fun r h146 q147 => ?_)
      obtain ⟨rfl, hS148, hE149⟩ := q147
      rw [cpI_jn] at hS148
      obtain ⟨K7, e7⟩ : ∃ z, z = cpI K y 5 424 := ⟨_, rfl⟩
      rw [← e7] at hS148
      have hz7 : RZ K7 (decide (5 < 2)) 5 m.2 := by
        rw [e7]
        have z := RZ_cp (g := 5) y4
        rw [e5] at z
        exact z
      have hU150 : RU w B R [(x, m)] hb h146 am ln K7 (I, Q, uZ Z 5 m.2) := RU_row (by decide) (fun c j _ hc => by
        rw [e7]
        exact cpI_r (Nat.le_refl _) c j hc) hz7 (RU_I hE149 (fun _ => rfl) (fun _ => rfl) (Nat.le_refl _) hU)
      have hU151 : RU w B R [(x, m)] hb h146 am ln K7 (I, Q, (uZ Z 5 m.2)) := RU_I (sm_e_refl (tbr am (13 * ln) 77 5088) _) (I' := I) (fun _ => rfl) (fun _ => rfl) (Nat.le_refl _) hU150
      have hS152 : sm (tbr am (13 * ln) 77 5088) _ (jn (uI I 40 2 1) K7) Y := sm_jg hr hS148 (fun c j _ n1 n2 n3 => uI_c n3)
      have hU153 : RU w B R [(x, m)] hb h146 am ln K7 ((uI I 40 2 1), Q, (uZ Z 5 m.2)) := RU_I (sm_e_refl (tbr am (13 * ln) 77 5088) _) (fun _ => rfl) (fun _ => rfl) (Nat.le_refl _) hU151
      refine go_s (pc' := 58) rfl rfl rfl rfl ?_
      refine go_s (pc' := 59) rfl rfl rfl rfl ?_
      refine go_s (pc' := 60) rfl rfl rfl rfl ?_
      refine go_s (pc' := 61) (st' := [.int 5, .int (nI f), .int 1, .ref 62]) rfl rfl rfl rfl ?_
      refine go_s (pc' := 62) rfl rfl rfl rfl ?_
      have hU154 : RU w B R [(x, m)] hb h146 am ln K7 ((uI I 40 2 1), Q, (uZ Z 5 m.2)) := RU_I (sm_e_refl (tbr am (13 * ln) 77 5088) _) (I' := (uI I 40 2 1)) (fun _ => rfl) (fun _ => rfl) (Nat.le_refl _) hU153
      by_cases u155 : (uI I 40 2 1) 0 f = 0
      · skip
        refine go_callV (pc' := 63) rfl rfl rfl (Nat.le_of_ble_eq_true rfl) rfl (sm_o hS152 rfl) rfl rfl rfl (rn_snd_0 hS152 hU154 (by omega) (f := 1) (t := f) (by decide) hf u155 (by omega)) (fun r h156 q157 => ?_)
        obtain ⟨rfl, rfl⟩ := q157
        refine go_s (pc' := 64) (lo' := [some (.ref 62), some (.int (nI (13 * x))), some (.int (nI f)), some (.int 1), some (.int 2), some (.int (-1))]) rfl rfl rfl rfl ?_
        refine go_s (pc' := 65) rfl rfl rfl rfl ?_
        refine go_s (pc' := 66) (st' := [.int (-1), .int (-1)]) rfl rfl rfl rfl ?_
        refine go_icmpP (t' := 100) (pc' := 67) rfl rfl rfl (fun _ => ?_) (fun (c : ¬ (((-1) : Int32) = (-1))) => absurd (by decide) c)
        refine go_ret rfl rfl ?_
        have hA158 : RA w B R [(x, m)] hb h156 ((uI I 40 2 1), Q, (uZ Z 5 m.2)) := RA_u.mpr ⟨_, _, _, _, hS152, hU154⟩
        have hms : rbr f 1 m (I, Q, Z) = ((uI I 40 2 1), Q, (uZ Z 5 m.2)) := by
          unfold rbr
          rw [if_neg (show ¬ m.1 0 = 1 by rw [h0]; decide), if_neg (show ¬ m.1 0 = 2 by rw [h0]; decide), if_pos (show m.1 0 = 3 ∨ m.1 0 = 4 from Or.inr h0), ec, show rcy 2 1 m.2 (I, Q, Z) = ((uI I 40 2 1, Q, uZ Z 5 m.2) : mM) from rfl, show rsn 1 f (mgW 2 (m.1 6)) ((uI I 40 2 1, Q, uZ Z 5 m.2) : mM) = ((uI I 40 2 1, Q, uZ Z 5 m.2) : mM) from if_pos u155]
        rw [hms]
        exact ⟨rfl, RA_R (by omega) hA158⟩
      · skip
        refine go_callV (pc' := 63) rfl rfl rfl (Nat.le_of_ble_eq_true rfl) rfl (sm_o hS152 rfl) rfl rfl rfl (rn_snd_1 hS152 hU154 (by omega) (f := 1) (t := f) (by decide) hf u155 (by omega)) (fun r h159 q160 => ?_)
        obtain ⟨x161, am161, ln161, K161, rfl, hS161, hO161⟩ := q160
        obtain ⟨hx161, hln161, hr161, hWm161⟩ := RO_x hO161 (by omega)
        refine go_s (pc' := 64) (lo' := [some (.ref 62), some (.int (nI (13 * x))), some (.int (nI f)), some (.int 1), some (.int 2), some (.int (nI (13 * x161)))]) rfl rfl rfl rfl ?_
        refine go_s (pc' := 65) rfl rfl rfl rfl ?_
        refine go_s (pc' := 66) (st' := [.int (-1), .int (nI (13 * x161))]) rfl rfl rfl rfl ?_
        refine go_icmpP (t' := 100) (pc' := 67) rfl rfl rfl (fun (c : (nI (13 * x161)) = (-1)) => absurd c (nI_nm1 (by omega))) (fun _ => ?_)
        have hxo := RO_h hO161 (y := x) (m := m) (by simp)
        have hxl9 := hxo.1
        refine go_s (pc' := 68) rfl rfl rfl rfl ?_
        refine go_sget (pc' := 69) (v := .ref am161) hS161 rfl rfl rfl (by decide) rfl rfl ?_
        refine go_s (pc' := 70) rfl rfl rfl rfl ?_
        refine go_s (pc' := 71) (st' := [.int 6, .int (nI (13 * x161)), .ref am161]) rfl rfl rfl rfl ?_
        refine go_nadd (pc' := 72) (a := (13 * x161)) (b := 6) rfl rfl rfl rfl rfl ?_
        refine go_s (pc' := 73) rfl rfl rfl rfl ?_
        refine go_sget (pc' := 74) (v := .ref am161) hS161 rfl rfl rfl (by decide) rfl rfl ?_
        refine go_s (pc' := 75) rfl rfl rfl rfl ?_
        refine go_s (pc' := 76) (st' := [.int 6, .int (nI (13 * x)), .ref am161, .int (nI ((13 * x161) + 6)), .ref am161]) rfl rfl rfl rfl ?_
        refine go_nadd (pc' := 77) (a := (13 * x)) (b := 6) rfl rfl rfl rfl rfl ?_
        refine go_sald (pc' := 78) (q := ((13 * x) + 6)) (v := .int (m.1 6)) hS161 rfl (tr_ms hr161 (by omega)) rfl rfl (by omega) (congrArg Value.int (hxo.2 0 (by rw [h0]; decide))) rfl ?_
        refine go_siast (pc' := 79) (q := ((13 * x161) + 6)) hS161 rfl (tr_ms hr161 (by omega)) tbr_inj (Nat.le_of_ble_eq_true rfl) rfl (by omega) (rk_0 hr161).1 hWm161 rfl (fun h162 hS163 hE164 => ?_)
        refine go_s (pc' := 100) rfl rfl rfl rfl ?_
        refine go_ret rfl rfl ?_
        change sm (tbr am161 (13 * ln161) 77 5088) _ (uI (jn (appI (uI I 40 2 1) Q (4 * 1 + f)) K161) 50 ((13 * x161) + 6) (m.1 6)) Y at hS163
        rw [jn_hi (c := 50) (by decide)] at hS163
        have hU165 := RO_cl (K' := (uI K161 50 ((13 * x161) + 6) (m.1 6))) (m := (mgn (mgW 2 (m.1 6)) ((uI I 40 2 1) 9 (4 * 1 + f) + 1))) (by omega) hO161 (hE164) rfl rfl rfl rfl (fun c j _ hc => by
          simp only [uI]
          rw [if_neg (by omega)]) (fun i hi => by
          have hi2 : i < 1 := hi
          match i, hi2 with
            | 0, _ => (repeat (first | rw [uI_e (by omega)] | rw [uI_j (by omega)])) <;> rfl)
        have hA166 : RA w B (R + 1) [(x, m)] hb h162 ((appI (uI I 40 2 1) Q (4 * 1 + f)), (uQ Q (4 * 1 + f) (Q (4 * 1 + f) ++ [(mgn (mgW 2 (m.1 6)) ((uI I 40 2 1) 9 (4 * 1 + f) + 1))])), (uZ Z 5 m.2)) := RA_u.mpr ⟨_, _, _, _, hS163, hU165⟩
        have hms : rbr f 1 m (I, Q, Z) = ((appI (uI I 40 2 1) Q (4 * 1 + f)), (uQ Q (4 * 1 + f) (Q (4 * 1 + f) ++ [(mgn (mgW 2 (m.1 6)) ((uI I 40 2 1) 9 (4 * 1 + f) + 1))])), (uZ Z 5 m.2)) := by
          unfold rbr
          rw [if_neg (show ¬ m.1 0 = 1 by rw [h0]; decide), if_neg (show ¬ m.1 0 = 2 by rw [h0]; decide), if_pos (show m.1 0 = 3 ∨ m.1 0 = 4 from Or.inr h0), ec, show rcy 2 1 m.2 (I, Q, Z) = ((uI I 40 2 1, Q, uZ Z 5 m.2) : mM) from rfl, show rsn 1 f (mgW 2 (m.1 6)) ((uI I 40 2 1, Q, uZ Z 5 m.2) : mM) = mapp (4 * 1 + f) (mgW 2 (m.1 6)) ((uI I 40 2 1, Q, uZ Z 5 m.2) : mM) from if_neg u155]
          rw [show mapp (4 * 1 + f) (mgW 2 (m.1 6)) ((uI I 40 2 1, Q, uZ Z 5 m.2) : mM) = ((appI (uI I 40 2 1) Q (4 * 1 + f)), (uQ Q (4 * 1 + f) (Q (4 * 1 + f) ++ [(mgn (mgW 2 (m.1 6)) ((uI I 40 2 1) 9 (4 * 1 + f) + 1))])), (uZ Z 5 m.2)) from rfl]
        rw [hms]
        exact ⟨rfl, RA_R (by omega) hA166⟩
  · skip
    have hhc : hc [(x, m)] hb = 0 := by
      have z : isS m = false := by unfold isS; rw [h0]; rfl
      cases hb
      · rfl
      · show List.countP (fun p => isS p.2) [(x, m)] = 0
        simp [z]
    obtain ⟨k9, hk9, e5⟩ := mk3 (Or.inr (Or.inr h0))
    obtain rfl | rfl | rfl : k9 = 0 ∨ k9 = 1 ∨ k9 = 2 := by omega
    · skip
      have ec : (m.1 5).toNatClampNeg = 0 := by rw [e5]; rfl
      refine go_s (pc' := 1) rfl rfl rfl rfl ?_
      refine go_sget (pc' := 2) (v := .ref am) hS rfl rfl rfl (by decide) rfl rfl ?_
      refine go_s (pc' := 3) rfl rfl rfl rfl ?_
      refine go_s (pc' := 4) (st' := [.int 5, .int (nI (13 * x)), .ref am]) rfl rfl rfl rfl ?_
      refine go_nadd (pc' := 5) (a := (13 * x)) (b := 5) rfl rfl rfl rfl rfl ?_
      refine go_sald (pc' := 6) (q := ((13 * x) + 5)) (v := .int 0) hS rfl (tr_ms hr (by omega)) rfl rfl (by omega) (congrArg Value.int (hx.2.2.2.1.trans e5)) rfl ?_
      refine go_s (pc' := 7) (lo' := [some (.ref 62), some (.int (nI (13 * x))), some (.int (nI f)), some (.int 1), some (.int 0), none]) rfl rfl rfl rfl ?_
      refine go_s (pc' := 8) rfl rfl rfl rfl ?_
      refine go_sget (pc' := 9) (v := .ref am) hS rfl rfl rfl (by decide) rfl rfl ?_
      refine go_s (pc' := 10) rfl rfl rfl rfl ?_
      refine go_s (pc' := 11) (st' := [.int 0, .int (nI (13 * x)), .ref am]) rfl rfl rfl rfl ?_
      refine go_nadd (pc' := 12) (a := (13 * x)) (b := 0) rfl rfl rfl rfl rfl ?_
      refine go_sald (pc' := 13) (q := ((13 * x) + 0)) (v := .int 5) hS rfl (tr_ms hr (by omega)) rfl rfl (by omega) (congrArg Value.int (hx.2.1.trans h0)) rfl ?_
      refine go_tsw (t' := 80) rfl (Or.inl ⟨by decide, rfl⟩) rfl ?_
      refine go_s (pc' := 81) rfl rfl rfl rfl ?_
      refine go_sget (pc' := 82) (v := .ref 78) hS rfl rfl rfl (by decide) rfl rfl ?_
      refine go_s (pc' := 83) rfl rfl rfl rfl ?_
      refine go_sald (pc' := 84) (q := 0) (v := .int (I 11 0)) hS rfl (tr_s hr (a := 78) rfl (by decide)) rfl rfl (by decide) rfl rfl ?_
      refine go_s (pc' := 85) rfl rfl rfl rfl ?_
      refine go_icmpP (t' := 100) (pc' := 86) rfl rfl rfl (fun (c167 : ¬ (I 11 0) = 1) => ?_) (fun (c167' : ¬ ¬ (I 11 0) = 1) => ?_)
      · skip
        refine go_ret rfl rfl ?_
        have hms : rbr f 1 m (I, Q, Z) = (I, Q, Z) := by
          unfold rbr
          rw [if_neg (show ¬ m.1 0 = 1 by rw [h0]; decide), if_neg (show ¬ m.1 0 = 2 by rw [h0]; decide), if_neg (show ¬ (m.1 0 = 3 ∨ m.1 0 = 4) by rw [h0]; decide), ec, if_neg (fun z => c167 z.1)]
        rw [hms]
        exact ⟨rfl, RA_R (by omega) hA⟩
      · skip
        have c167 : (I 11 0) = 1 := Decidable.not_not.mp c167'
        refine go_s (pc' := 87) rfl rfl rfl rfl ?_
        refine go_sget (pc' := 88) (v := .ref am) hS rfl rfl rfl (by decide) rfl rfl ?_
        refine go_s (pc' := 89) rfl rfl rfl rfl ?_
        refine go_s (pc' := 90) (st' := [.int 6, .int (nI (13 * x)), .ref am]) rfl rfl rfl rfl ?_
        refine go_nadd (pc' := 91) (a := (13 * x)) (b := 6) rfl rfl rfl rfl rfl ?_
        refine go_sald (pc' := 92) (q := ((13 * x) + 6)) (v := .int (m.1 6)) hS rfl (tr_ms hr (by omega)) rfl rfl (by omega) (congrArg Value.int (hx.2.2.2.2.1 0 (by rw [h0]; decide))) rfl ?_
        refine go_s (pc' := 93) rfl rfl rfl rfl ?_
        refine go_sget (pc' := 94) (v := .ref 82) hS rfl rfl rfl (by decide) rfl rfl ?_
        refine go_s (pc' := 95) rfl rfl rfl rfl ?_
        refine go_sald (pc' := 96) (q := 0) (v := .int (I 15 0)) hS rfl (tr_s hr (a := 82) rfl (by decide)) rfl rfl (by decide) rfl rfl ?_
        refine go_icmpP (t' := 100) (pc' := 97) rfl rfl rfl (fun (c168 : ¬ (m.1 6) = (I 15 0)) => ?_) (fun (c168' : ¬ ¬ (m.1 6) = (I 15 0)) => ?_)
        · skip
          refine go_ret rfl rfl ?_
          have hms : rbr f 1 m (I, Q, Z) = (I, Q, Z) := by
            unfold rbr
            rw [if_neg (show ¬ m.1 0 = 1 by rw [h0]; decide), if_neg (show ¬ m.1 0 = 2 by rw [h0]; decide), if_neg (show ¬ (m.1 0 = 3 ∨ m.1 0 = 4) by rw [h0]; decide), ec, if_neg (fun z => c168 z.2)]
          rw [hms]
          exact ⟨rfl, RA_R (by omega) hA⟩
        · skip
          have c168 : (m.1 6) = (I 15 0) := Decidable.not_not.mp c168'
          refine go_s (pc' := 98) rfl rfl rfl rfl ?_
          refine go_s (pc' := 99) rfl rfl rfl rfl ?_
          obtain ⟨hns, hgo⟩ := hwd 0 (by decide) h0 e5 c168
          have h5q : sq Q ≤ 5 := sq_5 (X := X) (k := 0) (M := (I, Q, Z)) (by omega) hN.1 (by decide) hns
          have hnk : ¬ I 11 0 = -1 := fun z => absurd (c167.symm.trans z) (by decide)
          have hU169 : RU w B R [(x, m)] hb h am ln K (I, Q, Z) := RU_I (sm_e_refl (tbr am (13 * ln) 77 5088) _) (I' := I) (fun _ => rfl) (fun _ => rfl) (Nat.le_refl _) hU
          have hA170 : RA w B R [(x, m)] hb h (I, Q, Z) := RA_u.mpr ⟨_, _, _, _, hS, hU169⟩
          refine go_callV (pc' := 100) rfl rfl rfl (Nat.le_of_ble_eq_true rfl) rfl (sm_o hS rfl) rfl rfl rfl (ra_wd_0 hA170 (by omega) (X := X) (by omega) hgo hhc h5q hp0 hnk (by omega)) (fun r h171 q172 => ?_)
          obtain ⟨rfl, hA173⟩ := q172
          refine go_ret rfl rfl ?_
          have hms : rbr f 1 m (I, Q, Z) = rwd 0 (I, Q, Z) := by
            unfold rbr
            rw [if_neg (show ¬ m.1 0 = 1 by rw [h0]; decide), if_neg (show ¬ m.1 0 = 2 by rw [h0]; decide), if_neg (show ¬ (m.1 0 = 3 ∨ m.1 0 = 4) by rw [h0]; decide), ec, if_pos (show ((I, Q, Z) : mM).1 11 0 = nI 1 ∧ m.1 6 = ((I, Q, Z) : mM).1 15 0 from ⟨c167, c168⟩)]
          rw [hms]
          exact ⟨rfl, RA_R (by omega) hA173⟩
    · skip
      have ec : (m.1 5).toNatClampNeg = 1 := by rw [e5]; rfl
      refine go_s (pc' := 1) rfl rfl rfl rfl ?_
      refine go_sget (pc' := 2) (v := .ref am) hS rfl rfl rfl (by decide) rfl rfl ?_
      refine go_s (pc' := 3) rfl rfl rfl rfl ?_
      refine go_s (pc' := 4) (st' := [.int 5, .int (nI (13 * x)), .ref am]) rfl rfl rfl rfl ?_
      refine go_nadd (pc' := 5) (a := (13 * x)) (b := 5) rfl rfl rfl rfl rfl ?_
      refine go_sald (pc' := 6) (q := ((13 * x) + 5)) (v := .int 1) hS rfl (tr_ms hr (by omega)) rfl rfl (by omega) (congrArg Value.int (hx.2.2.2.1.trans e5)) rfl ?_
      refine go_s (pc' := 7) (lo' := [some (.ref 62), some (.int (nI (13 * x))), some (.int (nI f)), some (.int 1), some (.int 1), none]) rfl rfl rfl rfl ?_
      refine go_s (pc' := 8) rfl rfl rfl rfl ?_
      refine go_sget (pc' := 9) (v := .ref am) hS rfl rfl rfl (by decide) rfl rfl ?_
      refine go_s (pc' := 10) rfl rfl rfl rfl ?_
      refine go_s (pc' := 11) (st' := [.int 0, .int (nI (13 * x)), .ref am]) rfl rfl rfl rfl ?_
      refine go_nadd (pc' := 12) (a := (13 * x)) (b := 0) rfl rfl rfl rfl rfl ?_
      refine go_sald (pc' := 13) (q := ((13 * x) + 0)) (v := .int 5) hS rfl (tr_ms hr (by omega)) rfl rfl (by omega) (congrArg Value.int (hx.2.1.trans h0)) rfl ?_
      refine go_tsw (t' := 80) rfl (Or.inl ⟨by decide, rfl⟩) rfl ?_
      refine go_s (pc' := 81) rfl rfl rfl rfl ?_
      refine go_sget (pc' := 82) (v := .ref 78) hS rfl rfl rfl (by decide) rfl rfl ?_
      refine go_s (pc' := 83) rfl rfl rfl rfl ?_
      refine go_sald (pc' := 84) (q := 1) (v := .int (I 11 1)) hS rfl (tr_s hr (a := 78) rfl (by decide)) rfl rfl (by decide) rfl rfl ?_
      refine go_s (pc' := 85) rfl rfl rfl rfl ?_
      refine go_icmpP (t' := 100) (pc' := 86) rfl rfl rfl (fun (c174 : ¬ (I 11 1) = 1) => ?_) (fun (c174' : ¬ ¬ (I 11 1) = 1) => ?_)
      · skip
        refine go_ret rfl rfl ?_
        have hms : rbr f 1 m (I, Q, Z) = (I, Q, Z) := by
          unfold rbr
          rw [if_neg (show ¬ m.1 0 = 1 by rw [h0]; decide), if_neg (show ¬ m.1 0 = 2 by rw [h0]; decide), if_neg (show ¬ (m.1 0 = 3 ∨ m.1 0 = 4) by rw [h0]; decide), ec, if_neg (fun z => c174 z.1)]
        rw [hms]
        exact ⟨rfl, RA_R (by omega) hA⟩
      · skip
        have c174 : (I 11 1) = 1 := Decidable.not_not.mp c174'
        refine go_s (pc' := 87) rfl rfl rfl rfl ?_
        refine go_sget (pc' := 88) (v := .ref am) hS rfl rfl rfl (by decide) rfl rfl ?_
        refine go_s (pc' := 89) rfl rfl rfl rfl ?_
        refine go_s (pc' := 90) (st' := [.int 6, .int (nI (13 * x)), .ref am]) rfl rfl rfl rfl ?_
        refine go_nadd (pc' := 91) (a := (13 * x)) (b := 6) rfl rfl rfl rfl rfl ?_
        refine go_sald (pc' := 92) (q := ((13 * x) + 6)) (v := .int (m.1 6)) hS rfl (tr_ms hr (by omega)) rfl rfl (by omega) (congrArg Value.int (hx.2.2.2.2.1 0 (by rw [h0]; decide))) rfl ?_
        refine go_s (pc' := 93) rfl rfl rfl rfl ?_
        refine go_sget (pc' := 94) (v := .ref 82) hS rfl rfl rfl (by decide) rfl rfl ?_
        refine go_s (pc' := 95) rfl rfl rfl rfl ?_
        refine go_sald (pc' := 96) (q := 1) (v := .int (I 15 1)) hS rfl (tr_s hr (a := 82) rfl (by decide)) rfl rfl (by decide) rfl rfl ?_
        refine go_icmpP (t' := 100) (pc' := 97) rfl rfl rfl (fun (c175 : ¬ (m.1 6) = (I 15 1)) => ?_) (fun (c175' : ¬ ¬ (m.1 6) = (I 15 1)) => ?_)
        · skip
          refine go_ret rfl rfl ?_
          have hms : rbr f 1 m (I, Q, Z) = (I, Q, Z) := by
            unfold rbr
            rw [if_neg (show ¬ m.1 0 = 1 by rw [h0]; decide), if_neg (show ¬ m.1 0 = 2 by rw [h0]; decide), if_neg (show ¬ (m.1 0 = 3 ∨ m.1 0 = 4) by rw [h0]; decide), ec, if_neg (fun z => c175 z.2)]
          rw [hms]
          exact ⟨rfl, RA_R (by omega) hA⟩
        · skip
          have c175 : (m.1 6) = (I 15 1) := Decidable.not_not.mp c175'
          refine go_s (pc' := 98) rfl rfl rfl rfl ?_
          refine go_s (pc' := 99) rfl rfl rfl rfl ?_
          obtain ⟨hns, hgo⟩ := hwd 1 (by decide) h0 e5 c175
          have h5q : sq Q ≤ 5 := sq_5 (X := X) (k := 1) (M := (I, Q, Z)) (by omega) hN.1 (by decide) hns
          have hnk : ¬ I 11 1 = -1 := fun z => absurd (c174.symm.trans z) (by decide)
          have hU176 : RU w B R [(x, m)] hb h am ln K (I, Q, Z) := RU_I (sm_e_refl (tbr am (13 * ln) 77 5088) _) (I' := I) (fun _ => rfl) (fun _ => rfl) (Nat.le_refl _) hU
          have hA177 : RA w B R [(x, m)] hb h (I, Q, Z) := RA_u.mpr ⟨_, _, _, _, hS, hU176⟩
          refine go_callV (pc' := 100) rfl rfl rfl (Nat.le_of_ble_eq_true rfl) rfl (sm_o hS rfl) rfl rfl rfl (ra_wd_1 hA177 (by omega) (X := X) (by omega) hgo hhc h5q hp0 hp1 hnk (by omega)) (fun r h178 q179 => ?_)
          obtain ⟨rfl, hA180⟩ := q179
          refine go_ret rfl rfl ?_
          have hms : rbr f 1 m (I, Q, Z) = rwd 1 (I, Q, Z) := by
            unfold rbr
            rw [if_neg (show ¬ m.1 0 = 1 by rw [h0]; decide), if_neg (show ¬ m.1 0 = 2 by rw [h0]; decide), if_neg (show ¬ (m.1 0 = 3 ∨ m.1 0 = 4) by rw [h0]; decide), ec, if_pos (show ((I, Q, Z) : mM).1 11 1 = nI 1 ∧ m.1 6 = ((I, Q, Z) : mM).1 15 1 from ⟨c174, c175⟩)]
          rw [hms]
          exact ⟨rfl, RA_R (by omega) hA180⟩
    · skip
      have ec : (m.1 5).toNatClampNeg = 2 := by rw [e5]; rfl
      refine go_s (pc' := 1) rfl rfl rfl rfl ?_
      refine go_sget (pc' := 2) (v := .ref am) hS rfl rfl rfl (by decide) rfl rfl ?_
      refine go_s (pc' := 3) rfl rfl rfl rfl ?_
      refine go_s (pc' := 4) (st' := [.int 5, .int (nI (13 * x)), .ref am]) rfl rfl rfl rfl ?_
      refine go_nadd (pc' := 5) (a := (13 * x)) (b := 5) rfl rfl rfl rfl rfl ?_
      refine go_sald (pc' := 6) (q := ((13 * x) + 5)) (v := .int 2) hS rfl (tr_ms hr (by omega)) rfl rfl (by omega) (congrArg Value.int (hx.2.2.2.1.trans e5)) rfl ?_
      refine go_s (pc' := 7) (lo' := [some (.ref 62), some (.int (nI (13 * x))), some (.int (nI f)), some (.int 1), some (.int 2), none]) rfl rfl rfl rfl ?_
      refine go_s (pc' := 8) rfl rfl rfl rfl ?_
      refine go_sget (pc' := 9) (v := .ref am) hS rfl rfl rfl (by decide) rfl rfl ?_
      refine go_s (pc' := 10) rfl rfl rfl rfl ?_
      refine go_s (pc' := 11) (st' := [.int 0, .int (nI (13 * x)), .ref am]) rfl rfl rfl rfl ?_
      refine go_nadd (pc' := 12) (a := (13 * x)) (b := 0) rfl rfl rfl rfl rfl ?_
      refine go_sald (pc' := 13) (q := ((13 * x) + 0)) (v := .int 5) hS rfl (tr_ms hr (by omega)) rfl rfl (by omega) (congrArg Value.int (hx.2.1.trans h0)) rfl ?_
      refine go_tsw (t' := 80) rfl (Or.inl ⟨by decide, rfl⟩) rfl ?_
      refine go_s (pc' := 81) rfl rfl rfl rfl ?_
      refine go_sget (pc' := 82) (v := .ref 78) hS rfl rfl rfl (by decide) rfl rfl ?_
      refine go_s (pc' := 83) rfl rfl rfl rfl ?_
      refine go_sald (pc' := 84) (q := 2) (v := .int (I 11 2)) hS rfl (tr_s hr (a := 78) rfl (by decide)) rfl rfl (by decide) rfl rfl ?_
      refine go_s (pc' := 85) rfl rfl rfl rfl ?_
      refine go_icmpP (t' := 100) (pc' := 86) rfl rfl rfl (fun (c181 : ¬ (I 11 2) = 1) => ?_) (fun (c181' : ¬ ¬ (I 11 2) = 1) => ?_)
      · skip
        refine go_ret rfl rfl ?_
        have hms : rbr f 1 m (I, Q, Z) = (I, Q, Z) := by
          unfold rbr
          rw [if_neg (show ¬ m.1 0 = 1 by rw [h0]; decide), if_neg (show ¬ m.1 0 = 2 by rw [h0]; decide), if_neg (show ¬ (m.1 0 = 3 ∨ m.1 0 = 4) by rw [h0]; decide), ec, if_neg (fun z => c181 z.1)]
        rw [hms]
        exact ⟨rfl, RA_R (by omega) hA⟩
      · skip
        have c181 : (I 11 2) = 1 := Decidable.not_not.mp c181'
        refine go_s (pc' := 87) rfl rfl rfl rfl ?_
        refine go_sget (pc' := 88) (v := .ref am) hS rfl rfl rfl (by decide) rfl rfl ?_
        refine go_s (pc' := 89) rfl rfl rfl rfl ?_
        refine go_s (pc' := 90) (st' := [.int 6, .int (nI (13 * x)), .ref am]) rfl rfl rfl rfl ?_
        refine go_nadd (pc' := 91) (a := (13 * x)) (b := 6) rfl rfl rfl rfl rfl ?_
        refine go_sald (pc' := 92) (q := ((13 * x) + 6)) (v := .int (m.1 6)) hS rfl (tr_ms hr (by omega)) rfl rfl (by omega) (congrArg Value.int (hx.2.2.2.2.1 0 (by rw [h0]; decide))) rfl ?_
        refine go_s (pc' := 93) rfl rfl rfl rfl ?_
        refine go_sget (pc' := 94) (v := .ref 82) hS rfl rfl rfl (by decide) rfl rfl ?_
        refine go_s (pc' := 95) rfl rfl rfl rfl ?_
        refine go_sald (pc' := 96) (q := 2) (v := .int (I 15 2)) hS rfl (tr_s hr (a := 82) rfl (by decide)) rfl rfl (by decide) rfl rfl ?_
        refine go_icmpP (t' := 100) (pc' := 97) rfl rfl rfl (fun (c182 : ¬ (m.1 6) = (I 15 2)) => ?_) (fun (c182' : ¬ ¬ (m.1 6) = (I 15 2)) => ?_)
        · skip
          refine go_ret rfl rfl ?_
          have hms : rbr f 1 m (I, Q, Z) = (I, Q, Z) := by
            unfold rbr
            rw [if_neg (show ¬ m.1 0 = 1 by rw [h0]; decide), if_neg (show ¬ m.1 0 = 2 by rw [h0]; decide), if_neg (show ¬ (m.1 0 = 3 ∨ m.1 0 = 4) by rw [h0]; decide), ec, if_neg (fun z => c182 z.2)]
          rw [hms]
          exact ⟨rfl, RA_R (by omega) hA⟩
        · skip
          have c182 : (m.1 6) = (I 15 2) := Decidable.not_not.mp c182'
          refine go_s (pc' := 98) rfl rfl rfl rfl ?_
          refine go_s (pc' := 99) rfl rfl rfl rfl ?_
          obtain ⟨hns, hgo⟩ := hwd 2 (by decide) h0 e5 c182
          have h5q : sq Q ≤ 5 := sq_5 (X := X) (k := 2) (M := (I, Q, Z)) (by omega) hN.1 (by decide) hns
          have hnk : ¬ I 11 2 = -1 := fun z => absurd (c181.symm.trans z) (by decide)
          have hU183 : RU w B R [(x, m)] hb h am ln K (I, Q, Z) := RU_I (sm_e_refl (tbr am (13 * ln) 77 5088) _) (I' := I) (fun _ => rfl) (fun _ => rfl) (Nat.le_refl _) hU
          have hA184 : RA w B R [(x, m)] hb h (I, Q, Z) := RA_u.mpr ⟨_, _, _, _, hS, hU183⟩
          refine go_callV (pc' := 100) rfl rfl rfl (Nat.le_of_ble_eq_true rfl) rfl (sm_o hS rfl) rfl rfl rfl (ra_wd_2 hA184 (by omega) (X := X) (by omega) hgo hhc h5q hp0 hp2 hnk (by omega)) (fun r h185 q186 => ?_)
          obtain ⟨rfl, hA187⟩ := q186
          refine go_ret rfl rfl ?_
          have hms : rbr f 1 m (I, Q, Z) = rwd 2 (I, Q, Z) := by
            unfold rbr
            rw [if_neg (show ¬ m.1 0 = 1 by rw [h0]; decide), if_neg (show ¬ m.1 0 = 2 by rw [h0]; decide), if_neg (show ¬ (m.1 0 = 3 ∨ m.1 0 = 4) by rw [h0]; decide), ec, if_pos (show ((I, Q, Z) : mM).1 11 2 = nI 1 ∧ m.1 6 = ((I, Q, Z) : mM).1 15 2 from ⟨c181, c182⟩)]
          rw [hms]
          exact ⟨rfl, RA_R (by omega) hA187⟩
theorem ra_br_2 {w : Nat → Bool} {d B R : Nat} {x : Nat} {m : mg} {hb : Bool} {h : am_Hp} {I : sm_I} {Q : mQ} {Z : mZ} (hA : RA w B R [(x, m)] hb h (I, Q, Z)) (hR : R + 12 < 40000) {X : Nat} (hX : X + 60 < 2 ^ 28) (hN : INV X (I, Q, Z)) (hMK : MK m) (hup : I 0 2 = 1) {f : Nat} (hf : f < 4) (hwd : ∀ k, k < 3 → m.1 0 = 5 → m.1 5 = nI k → m.1 6 = I 15 k → (∀ i y, ¬ US I Q k i y) ∧ (I 16 k = 1 → MID (X + 1) (rgo k (I, Q, Z)))) (hd : 11 ≤ d) : am_Ev (am_prog w) d 179 [.ref 62, .int (nI (13 * x)), .int (nI f), .int 2] h (fun r h' => r = none ∧ RA w B (R + 4) [(x, m)] hb h' (rbr f 2 m (I, Q, Z))) := by
  obtain ⟨K, Y, am, ln, hS, hU⟩ := RA_u.mp hA
  change sm (tbr am (13 * ln) 77 5088) h (jn I K) Y at hS
  obtain ⟨hW, hWm, -, -, hr, -⟩ := id hU.1
  have hln := RU_ln hU (by omega)
  obtain ⟨d, rfl⟩ : ∃ e, d = e + 1 := ⟨d - 1, by omega⟩
  refine ev_go rfl (Nat.le_of_ble_eq_true rfl) rfl ?_
  have hx := RU_h hU (x := x) (m := m) (by simp)
  have hxl := hx.1
  have hp0 : prk I 0 := (hN.1.2.2.1 0 (by decide)).1
  have hp1 : prk I 1 := (hN.1.2.2.1 1 (by decide)).1
  have hp2 : prk I 2 := (hN.1.2.2.1 2 (by decide)).1
  obtain ⟨mk1, mk2, mk3, mk4⟩ := MK_5 hMK
  rcases mk4 with h0 | h0 | h0 | h0 | h0
  · skip
    have hhc : hc [(x, m)] hb = 0 := by
      have z : isS m = false := by unfold isS; rw [h0]; rfl
      cases hb
      · rfl
      · show List.countP (fun p => isS p.2) [(x, m)] = 0
        simp [z]
    obtain ⟨k9, hk9, e5⟩ := mk1 h0
    obtain rfl | rfl : k9 = 0 ∨ k9 = 1 := by omega
    · skip
      have ec : (m.1 5).toNatClampNeg = 0 := by rw [e5]; rfl
      refine go_s (pc' := 1) rfl rfl rfl rfl ?_
      refine go_sget (pc' := 2) (v := .ref am) hS rfl rfl rfl (by decide) rfl rfl ?_
      refine go_s (pc' := 3) rfl rfl rfl rfl ?_
      refine go_s (pc' := 4) (st' := [.int 5, .int (nI (13 * x)), .ref am]) rfl rfl rfl rfl ?_
      refine go_nadd (pc' := 5) (a := (13 * x)) (b := 5) rfl rfl rfl rfl rfl ?_
      refine go_sald (pc' := 6) (q := ((13 * x) + 5)) (v := .int 0) hS rfl (tr_ms hr (by omega)) rfl rfl (by omega) (congrArg Value.int (hx.2.2.2.1.trans e5)) rfl ?_
      refine go_s (pc' := 7) (lo' := [some (.ref 62), some (.int (nI (13 * x))), some (.int (nI f)), some (.int 2), some (.int 0), none]) rfl rfl rfl rfl ?_
      refine go_s (pc' := 8) rfl rfl rfl rfl ?_
      refine go_sget (pc' := 9) (v := .ref am) hS rfl rfl rfl (by decide) rfl rfl ?_
      refine go_s (pc' := 10) rfl rfl rfl rfl ?_
      refine go_s (pc' := 11) (st' := [.int 0, .int (nI (13 * x)), .ref am]) rfl rfl rfl rfl ?_
      refine go_nadd (pc' := 12) (a := (13 * x)) (b := 0) rfl rfl rfl rfl rfl ?_
      refine go_sald (pc' := 13) (q := ((13 * x) + 0)) (v := .int 1) hS rfl (tr_ms hr (by omega)) rfl rfl (by omega) (congrArg Value.int (hx.2.1.trans h0)) rfl ?_
      refine go_tsw (t' := 14) rfl (Or.inr ⟨by decide, rfl⟩) rfl ?_
      refine go_s (pc' := 15) rfl rfl rfl rfl ?_
      refine go_sget (pc' := 16) (v := .ref 78) hS rfl rfl rfl (by decide) rfl rfl ?_
      refine go_s (pc' := 17) (st' := [.int 0, .ref 78]) rfl rfl rfl rfl ?_
      refine go_sald (pc' := 18) (q := 0) (v := .int (I 11 0)) hS rfl (tr_s hr (a := 78) rfl (by decide)) rfl rfl (by decide) rfl rfl ?_
      refine go_s (pc' := 19) rfl rfl rfl rfl ?_
      refine go_icmpP (t' := 21) (pc' := 20) rfl rfl rfl (fun (c1 : (I 11 0) = 2) => ?_) (fun (c1 : ¬ (I 11 0) = 2) => ?_)
      · skip
        refine go_s (pc' := 22) rfl rfl rfl rfl ?_
        refine go_s (pc' := 23) rfl rfl rfl rfl ?_
        have hn0 : ¬ I 11 0 = -1 := fun z => absurd (c1.symm.trans z) (by decide)
        obtain ⟨n, hn8, en, -⟩ := hN.1.2.2.2.2.1.2.2.2.2.2.1
        have hU2 : RU w B R [(x, m)] hb h am ln K (I, Q, Z) := RU_I (sm_e_refl (tbr am (13 * ln) 77 5088) _) (I' := I) (fun _ => rfl) (fun _ => rfl) (Nat.le_refl _) hU
        have hA3 : RA w B R [(x, m)] hb h (I, Q, Z) := RA_u.mpr ⟨_, _, _, _, hS, hU2⟩
        refine go_callV (pc' := 24) rfl rfl rfl (Nat.le_of_ble_eq_true rfl) rfl (sm_o hS rfl) rfl rfl rfl (ra_cm_0 hA3 (by omega) h0 e5 en hn8 hp0 hn0 (by omega)) (fun r h4 q5 => ?_)
        obtain ⟨rfl, hA6⟩ := q5
        change RA w B (R + 2) [(x, m)] hb h4 (mac (fun i => m.1 (5 + i)) (I, Q, Z)) at hA6
        obtain ⟨M7, eM7⟩ : ∃ y : mM, y = (mac (fun i => m.1 (5 + i)) (I, Q, Z)) := ⟨_, rfl⟩
        rw [← eM7] at hA6
        obtain ⟨I7, Q7, Z7⟩ := M7
        obtain ⟨K7, Y7, am7, ln7, hS7, hU7⟩ := RA_u.mp hA6
        change sm (tbr am7 (13 * ln7) 77 5088) h4 (jn I7 K7) Y7 at hS7
        obtain ⟨-, hWm7, -, -, hr7, -⟩ := id hU7.1
        have hln7 := RU_ln hU7 (by omega)
        refine go_s (pc' := 25) rfl rfl rfl rfl ?_
        have hM9 : MID X (I7, Q7, Z7) := by
          rw [eM7]
          exact MID_ac hN.1 (lv_of (p := 2) c1 (by decide) (by show ¬ I 0 2 = 0; rw [hup]; decide)) ⟨0, by decide, e5⟩
        have hU8 : RU w B (R + 2) [(x, m)] hb h4 am7 ln7 K7 (I7, Q7, Z7) := RU_I (sm_e_refl (tbr am7 (13 * ln7) 77 5088) _) (I' := I7) (fun _ => rfl) (fun _ => rfl) (Nat.le_refl _) hU7
        have hA9 : RA w B (R + 2) [(x, m)] hb h4 (I7, Q7, Z7) := RA_u.mpr ⟨_, _, _, _, hS7, hU8⟩
        refine go_callV (pc' := 26) rfl rfl rfl (Nat.le_of_ble_eq_true rfl) rfl (sm_o hS7 rfl) rfl rfl rfl (ra_set hA9 (by omega) hM9 (by omega) hhc (by omega)) (fun r h10 q11 => ?_)
        obtain ⟨rfl, hA12⟩ := q11
        refine go_s (pc' := 100) rfl rfl rfl rfl ?_
        refine go_ret rfl rfl ?_
        have hms : rbr f 2 m (I, Q, Z) = rset 30 (I7, Q7, Z7) := by
          unfold rbr
          rw [if_pos h0, if_pos (show ((I, Q, Z) : mM).1 11 0 = nI 2 from c1), eM7]
        rw [hms]
        exact ⟨rfl, RA_R (by omega) hA12⟩
      · skip
        refine go_ret rfl rfl ?_
        have hms : rbr f 2 m (I, Q, Z) = (I, Q, Z) := by
          unfold rbr
          rw [if_pos h0, if_neg (show ¬ ((I, Q, Z) : mM).1 11 0 = nI 2 from c1)]
        rw [hms]
        exact ⟨rfl, RA_R (by omega) hA⟩
    · skip
      have ec : (m.1 5).toNatClampNeg = 1 := by rw [e5]; rfl
      refine go_s (pc' := 1) rfl rfl rfl rfl ?_
      refine go_sget (pc' := 2) (v := .ref am) hS rfl rfl rfl (by decide) rfl rfl ?_
      refine go_s (pc' := 3) rfl rfl rfl rfl ?_
      refine go_s (pc' := 4) (st' := [.int 5, .int (nI (13 * x)), .ref am]) rfl rfl rfl rfl ?_
      refine go_nadd (pc' := 5) (a := (13 * x)) (b := 5) rfl rfl rfl rfl rfl ?_
      refine go_sald (pc' := 6) (q := ((13 * x) + 5)) (v := .int 1) hS rfl (tr_ms hr (by omega)) rfl rfl (by omega) (congrArg Value.int (hx.2.2.2.1.trans e5)) rfl ?_
      refine go_s (pc' := 7) (lo' := [some (.ref 62), some (.int (nI (13 * x))), some (.int (nI f)), some (.int 2), some (.int 1), none]) rfl rfl rfl rfl ?_
      refine go_s (pc' := 8) rfl rfl rfl rfl ?_
      refine go_sget (pc' := 9) (v := .ref am) hS rfl rfl rfl (by decide) rfl rfl ?_
      refine go_s (pc' := 10) rfl rfl rfl rfl ?_
      refine go_s (pc' := 11) (st' := [.int 0, .int (nI (13 * x)), .ref am]) rfl rfl rfl rfl ?_
      refine go_nadd (pc' := 12) (a := (13 * x)) (b := 0) rfl rfl rfl rfl rfl ?_
      refine go_sald (pc' := 13) (q := ((13 * x) + 0)) (v := .int 1) hS rfl (tr_ms hr (by omega)) rfl rfl (by omega) (congrArg Value.int (hx.2.1.trans h0)) rfl ?_
      refine go_tsw (t' := 14) rfl (Or.inr ⟨by decide, rfl⟩) rfl ?_
      refine go_s (pc' := 15) rfl rfl rfl rfl ?_
      refine go_sget (pc' := 16) (v := .ref 78) hS rfl rfl rfl (by decide) rfl rfl ?_
      refine go_s (pc' := 17) (st' := [.int 0, .ref 78]) rfl rfl rfl rfl ?_
      refine go_sald (pc' := 18) (q := 0) (v := .int (I 11 0)) hS rfl (tr_s hr (a := 78) rfl (by decide)) rfl rfl (by decide) rfl rfl ?_
      refine go_s (pc' := 19) rfl rfl rfl rfl ?_
      refine go_icmpP (t' := 21) (pc' := 20) rfl rfl rfl (fun (c13 : (I 11 0) = 2) => ?_) (fun (c13 : ¬ (I 11 0) = 2) => ?_)
      · skip
        refine go_s (pc' := 22) rfl rfl rfl rfl ?_
        refine go_s (pc' := 23) rfl rfl rfl rfl ?_
        have hn0 : ¬ I 11 0 = -1 := fun z => absurd (c13.symm.trans z) (by decide)
        obtain ⟨n, hn8, en, -⟩ := hN.1.2.2.2.2.1.2.2.2.2.2.1
        have hU14 : RU w B R [(x, m)] hb h am ln K (I, Q, Z) := RU_I (sm_e_refl (tbr am (13 * ln) 77 5088) _) (I' := I) (fun _ => rfl) (fun _ => rfl) (Nat.le_refl _) hU
        have hA15 : RA w B R [(x, m)] hb h (I, Q, Z) := RA_u.mpr ⟨_, _, _, _, hS, hU14⟩
        refine go_callV (pc' := 24) rfl rfl rfl (Nat.le_of_ble_eq_true rfl) rfl (sm_o hS rfl) rfl rfl rfl (ra_cm_1 hA15 (by omega) h0 e5 en hn8 hp0 hn0 (by omega)) (fun r h16 q17 => ?_)
        obtain ⟨rfl, hA18⟩ := q17
        change RA w B (R + 2) [(x, m)] hb h16 (mac (fun i => m.1 (5 + i)) (I, Q, Z)) at hA18
        obtain ⟨M19, eM19⟩ : ∃ y : mM, y = (mac (fun i => m.1 (5 + i)) (I, Q, Z)) := ⟨_, rfl⟩
        rw [← eM19] at hA18
        obtain ⟨I19, Q19, Z19⟩ := M19
        obtain ⟨K19, Y19, am19, ln19, hS19, hU19⟩ := RA_u.mp hA18
        change sm (tbr am19 (13 * ln19) 77 5088) h16 (jn I19 K19) Y19 at hS19
        obtain ⟨-, hWm19, -, -, hr19, -⟩ := id hU19.1
        have hln19 := RU_ln hU19 (by omega)
        refine go_s (pc' := 25) rfl rfl rfl rfl ?_
        have hM9 : MID X (I19, Q19, Z19) := by
          rw [eM19]
          exact MID_ac hN.1 (lv_of (p := 2) c13 (by decide) (by show ¬ I 0 2 = 0; rw [hup]; decide)) ⟨1, by decide, e5⟩
        have hU20 : RU w B (R + 2) [(x, m)] hb h16 am19 ln19 K19 (I19, Q19, Z19) := RU_I (sm_e_refl (tbr am19 (13 * ln19) 77 5088) _) (I' := I19) (fun _ => rfl) (fun _ => rfl) (Nat.le_refl _) hU19
        have hA21 : RA w B (R + 2) [(x, m)] hb h16 (I19, Q19, Z19) := RA_u.mpr ⟨_, _, _, _, hS19, hU20⟩
        refine go_callV (pc' := 26) rfl rfl rfl (Nat.le_of_ble_eq_true rfl) rfl (sm_o hS19 rfl) rfl rfl rfl (ra_set hA21 (by omega) hM9 (by omega) hhc (by omega)) (fun r h22 q23 => ?_)
        obtain ⟨rfl, hA24⟩ := q23
        refine go_s (pc' := 100) rfl rfl rfl rfl ?_
        refine go_ret rfl rfl ?_
        have hms : rbr f 2 m (I, Q, Z) = rset 30 (I19, Q19, Z19) := by
          unfold rbr
          rw [if_pos h0, if_pos (show ((I, Q, Z) : mM).1 11 0 = nI 2 from c13), eM19]
        rw [hms]
        exact ⟨rfl, RA_R (by omega) hA24⟩
      · skip
        refine go_ret rfl rfl ?_
        have hms : rbr f 2 m (I, Q, Z) = (I, Q, Z) := by
          unfold rbr
          rw [if_pos h0, if_neg (show ¬ ((I, Q, Z) : mM).1 11 0 = nI 2 from c13)]
        rw [hms]
        exact ⟨rfl, RA_R (by omega) hA⟩
  · skip
    have hhc : hc [(x, m)] hb = 0 := by
      have z : isS m = false := by unfold isS; rw [h0]; rfl
      cases hb
      · rfl
      · show List.countP (fun p => isS p.2) [(x, m)] = 0
        simp [z]
    obtain ⟨k9, hk9, e5⟩ := mk2 h0
    obtain rfl | rfl : k9 = 0 ∨ k9 = 1 := by omega
    · skip
      have ec : (m.1 5).toNatClampNeg = 0 := by rw [e5]; rfl
      refine go_s (pc' := 1) rfl rfl rfl rfl ?_
      refine go_sget (pc' := 2) (v := .ref am) hS rfl rfl rfl (by decide) rfl rfl ?_
      refine go_s (pc' := 3) rfl rfl rfl rfl ?_
      refine go_s (pc' := 4) (st' := [.int 5, .int (nI (13 * x)), .ref am]) rfl rfl rfl rfl ?_
      refine go_nadd (pc' := 5) (a := (13 * x)) (b := 5) rfl rfl rfl rfl rfl ?_
      refine go_sald (pc' := 6) (q := ((13 * x) + 5)) (v := .int 0) hS rfl (tr_ms hr (by omega)) rfl rfl (by omega) (congrArg Value.int (hx.2.2.2.1.trans e5)) rfl ?_
      refine go_s (pc' := 7) (lo' := [some (.ref 62), some (.int (nI (13 * x))), some (.int (nI f)), some (.int 2), some (.int 0), none]) rfl rfl rfl rfl ?_
      refine go_s (pc' := 8) rfl rfl rfl rfl ?_
      refine go_sget (pc' := 9) (v := .ref am) hS rfl rfl rfl (by decide) rfl rfl ?_
      refine go_s (pc' := 10) rfl rfl rfl rfl ?_
      refine go_s (pc' := 11) (st' := [.int 0, .int (nI (13 * x)), .ref am]) rfl rfl rfl rfl ?_
      refine go_nadd (pc' := 12) (a := (13 * x)) (b := 0) rfl rfl rfl rfl rfl ?_
      refine go_sald (pc' := 13) (q := ((13 * x) + 0)) (v := .int 2) hS rfl (tr_ms hr (by omega)) rfl rfl (by omega) (congrArg Value.int (hx.2.1.trans h0)) rfl ?_
      refine go_tsw (t' := 27) rfl (Or.inr ⟨by decide, rfl⟩) rfl ?_
      refine go_s (pc' := 28) rfl rfl rfl rfl ?_
      refine go_sget (pc' := 29) (v := .ref 78) hS rfl rfl rfl (by decide) rfl rfl ?_
      refine go_s (pc' := 30) (st' := [.int 1, .ref 78]) rfl rfl rfl rfl ?_
      refine go_s (pc' := 31) rfl rfl rfl rfl ?_
      refine go_s (pc' := 32) (st' := [.int 1, .ref 78]) rfl rfl rfl rfl ?_
      refine go_sald (pc' := 33) (q := 1) (v := .int (I 11 1)) hS rfl (tr_s hr (a := 78) rfl (by decide)) rfl rfl (by decide) rfl rfl ?_
      refine go_s (pc' := 34) rfl rfl rfl rfl ?_
      refine go_icmpP (t' := 100) (pc' := 35) rfl rfl rfl (fun (c25 : ¬ (I 11 1) = 2) => ?_) (fun (c25' : ¬ ¬ (I 11 1) = 2) => ?_)
      · skip
        refine go_ret rfl rfl ?_
        have hms : rbr f 2 m (I, Q, Z) = (I, Q, Z) := by
          unfold rbr
          rw [if_neg (show ¬ m.1 0 = 1 by rw [h0]; decide), if_pos h0, ec, if_neg (show ¬ ((I, Q, Z) : mM).1 11 (1 + 0) = nI 2 from c25)]
        rw [hms]
        exact ⟨rfl, RA_R (by omega) hA⟩
      · skip
        have c25 : (I 11 1) = 2 := Decidable.not_not.mp c25'
        refine go_s (pc' := 36) rfl rfl rfl rfl ?_
        refine go_s (pc' := 37) (st' := [.int 1, .ref 62]) rfl rfl rfl rfl ?_
        refine go_s (pc' := 38) rfl rfl rfl rfl ?_
        refine go_s (pc' := 39) (st' := [.int 1, .ref 62]) rfl rfl rfl rfl ?_
        refine go_s (pc' := 40) rfl rfl rfl rfl ?_
        have hnk : ¬ I 11 1 = -1 := fun z => absurd (c25.symm.trans z) (by decide)
        by_cases h16 : I 16 1 = 2
        · skip
          have hoh : ¬ I 12 1 = -1 → I 12 1 = ohI I 1 := fun z => ((hN.1.2.2.1 1 (by decide)).2.2.2.2.1 z).2.2.2
          have h5 : ¬ I 12 1 = -1 → sq Q + hc [(x, m)] hb ≤ 5 := fun z => by
            have y := sq_5 (X := X) (k := 1) (M := (I, Q, Z)) (by omega) hN.1 (by decide) (US_no (by decide) hN.1 (show ¬ I 16 1 = 1 by rw [h16]; decide) ((hN.1.2.2.1 1 (by decide)).2.2.2.2.1 z).1)
            have y2 : sq Q ≤ 5 := y
            omega
          have hU26 : RU w B R [(x, m)] hb h am ln K (I, Q, Z) := RU_I (sm_e_refl (tbr am (13 * ln) 77 5088) _) (I' := I) (fun _ => rfl) (fun _ => rfl) (Nat.le_refl _) hU
          have hA27 : RA w B R [(x, m)] hb h (I, Q, Z) := RA_u.mpr ⟨_, _, _, _, hS, hU26⟩
          refine go_callV (pc' := 41) rfl rfl rfl (Nat.le_of_ble_eq_true rfl) rfl (sm_o hS rfl) rfl rfl rfl (ra_rd_0 hA27 (by omega) h0 hp0 hp1 hnk hoh h5 (by omega)) (fun r h28 q29 => ?_)
          obtain ⟨rfl, hA30⟩ := q29
          refine go_s (pc' := 100) rfl rfl rfl rfl ?_
          refine go_ret rfl rfl ?_
          have hms : rbr f 2 m (I, Q, Z) = rrd 0 (fun i => m.1 (5 + i)) (I, Q, Z) := by
            unfold rbr
            rw [if_neg (show ¬ m.1 0 = 1 by rw [h0]; decide), if_pos h0, ec, if_pos (show ((I, Q, Z) : mM).1 11 (1 + 0) = nI 2 from c25)]
          rw [hms]
          exact ⟨rfl, RA_R (by omega) hA30⟩
        · skip
          refine go_callV (pc' := 41) rfl rfl rfl (Nat.le_of_ble_eq_true rfl) rfl (sm_o hS rfl) rfl rfl rfl (ra_rd0_0 hA (by omega) hp1 hnk h16 (by omega)) (fun r h31 q32 => ?_)
          obtain ⟨rfl, rfl⟩ := q32
          refine go_s (pc' := 100) rfl rfl rfl rfl ?_
          refine go_ret rfl rfl ?_
          have hr0 : rrd 0 (fun i => m.1 (5 + i)) (I, Q, Z) = (I, Q, Z) := if_pos (Or.inl h16)
          have hms : rbr f 2 m (I, Q, Z) = (I, Q, Z) := by
            unfold rbr
            rw [if_neg (show ¬ m.1 0 = 1 by rw [h0]; decide), if_pos h0, ec, if_pos (show ((I, Q, Z) : mM).1 11 (1 + 0) = nI 2 from c25), hr0]
          rw [hms]
          exact ⟨rfl, RA_R (by omega) hA⟩
    · skip
      have ec : (m.1 5).toNatClampNeg = 1 := by rw [e5]; rfl
      refine go_s (pc' := 1) rfl rfl rfl rfl ?_
      refine go_sget (pc' := 2) (v := .ref am) hS rfl rfl rfl (by decide) rfl rfl ?_
      refine go_s (pc' := 3) rfl rfl rfl rfl ?_
      refine go_s (pc' := 4) (st' := [.int 5, .int (nI (13 * x)), .ref am]) rfl rfl rfl rfl ?_
      refine go_nadd (pc' := 5) (a := (13 * x)) (b := 5) rfl rfl rfl rfl rfl ?_
      refine go_sald (pc' := 6) (q := ((13 * x) + 5)) (v := .int 1) hS rfl (tr_ms hr (by omega)) rfl rfl (by omega) (congrArg Value.int (hx.2.2.2.1.trans e5)) rfl ?_
      refine go_s (pc' := 7) (lo' := [some (.ref 62), some (.int (nI (13 * x))), some (.int (nI f)), some (.int 2), some (.int 1), none]) rfl rfl rfl rfl ?_
      refine go_s (pc' := 8) rfl rfl rfl rfl ?_
      refine go_sget (pc' := 9) (v := .ref am) hS rfl rfl rfl (by decide) rfl rfl ?_
      refine go_s (pc' := 10) rfl rfl rfl rfl ?_
      refine go_s (pc' := 11) (st' := [.int 0, .int (nI (13 * x)), .ref am]) rfl rfl rfl rfl ?_
      refine go_nadd (pc' := 12) (a := (13 * x)) (b := 0) rfl rfl rfl rfl rfl ?_
      refine go_sald (pc' := 13) (q := ((13 * x) + 0)) (v := .int 2) hS rfl (tr_ms hr (by omega)) rfl rfl (by omega) (congrArg Value.int (hx.2.1.trans h0)) rfl ?_
      refine go_tsw (t' := 27) rfl (Or.inr ⟨by decide, rfl⟩) rfl ?_
      refine go_s (pc' := 28) rfl rfl rfl rfl ?_
      refine go_sget (pc' := 29) (v := .ref 78) hS rfl rfl rfl (by decide) rfl rfl ?_
      refine go_s (pc' := 30) (st' := [.int 1, .ref 78]) rfl rfl rfl rfl ?_
      refine go_s (pc' := 31) rfl rfl rfl rfl ?_
      refine go_s (pc' := 32) (st' := [.int 2, .ref 78]) rfl rfl rfl rfl ?_
      refine go_sald (pc' := 33) (q := 2) (v := .int (I 11 2)) hS rfl (tr_s hr (a := 78) rfl (by decide)) rfl rfl (by decide) rfl rfl ?_
      refine go_s (pc' := 34) rfl rfl rfl rfl ?_
      refine go_icmpP (t' := 100) (pc' := 35) rfl rfl rfl (fun (c33 : ¬ (I 11 2) = 2) => ?_) (fun (c33' : ¬ ¬ (I 11 2) = 2) => ?_)
      · skip
        refine go_ret rfl rfl ?_
        have hms : rbr f 2 m (I, Q, Z) = (I, Q, Z) := by
          unfold rbr
          rw [if_neg (show ¬ m.1 0 = 1 by rw [h0]; decide), if_pos h0, ec, if_neg (show ¬ ((I, Q, Z) : mM).1 11 (1 + 1) = nI 2 from c33)]
        rw [hms]
        exact ⟨rfl, RA_R (by omega) hA⟩
      · skip
        have c33 : (I 11 2) = 2 := Decidable.not_not.mp c33'
        refine go_s (pc' := 36) rfl rfl rfl rfl ?_
        refine go_s (pc' := 37) (st' := [.int 1, .ref 62]) rfl rfl rfl rfl ?_
        refine go_s (pc' := 38) rfl rfl rfl rfl ?_
        refine go_s (pc' := 39) (st' := [.int 2, .ref 62]) rfl rfl rfl rfl ?_
        refine go_s (pc' := 40) rfl rfl rfl rfl ?_
        have hnk : ¬ I 11 2 = -1 := fun z => absurd (c33.symm.trans z) (by decide)
        by_cases h16 : I 16 2 = 2
        · skip
          have hoh : ¬ I 12 2 = -1 → I 12 2 = ohI I 2 := fun z => ((hN.1.2.2.1 2 (by decide)).2.2.2.2.1 z).2.2.2
          have h5 : ¬ I 12 2 = -1 → sq Q + hc [(x, m)] hb ≤ 5 := fun z => by
            have y := sq_5 (X := X) (k := 2) (M := (I, Q, Z)) (by omega) hN.1 (by decide) (US_no (by decide) hN.1 (show ¬ I 16 2 = 1 by rw [h16]; decide) ((hN.1.2.2.1 2 (by decide)).2.2.2.2.1 z).1)
            have y2 : sq Q ≤ 5 := y
            omega
          have hU34 : RU w B R [(x, m)] hb h am ln K (I, Q, Z) := RU_I (sm_e_refl (tbr am (13 * ln) 77 5088) _) (I' := I) (fun _ => rfl) (fun _ => rfl) (Nat.le_refl _) hU
          have hA35 : RA w B R [(x, m)] hb h (I, Q, Z) := RA_u.mpr ⟨_, _, _, _, hS, hU34⟩
          refine go_callV (pc' := 41) rfl rfl rfl (Nat.le_of_ble_eq_true rfl) rfl (sm_o hS rfl) rfl rfl rfl (ra_rd_1 hA35 (by omega) h0 hp0 hp2 hnk hoh h5 (by omega)) (fun r h36 q37 => ?_)
          obtain ⟨rfl, hA38⟩ := q37
          refine go_s (pc' := 100) rfl rfl rfl rfl ?_
          refine go_ret rfl rfl ?_
          have hms : rbr f 2 m (I, Q, Z) = rrd 1 (fun i => m.1 (5 + i)) (I, Q, Z) := by
            unfold rbr
            rw [if_neg (show ¬ m.1 0 = 1 by rw [h0]; decide), if_pos h0, ec, if_pos (show ((I, Q, Z) : mM).1 11 (1 + 1) = nI 2 from c33)]
          rw [hms]
          exact ⟨rfl, RA_R (by omega) hA38⟩
        · skip
          refine go_callV (pc' := 41) rfl rfl rfl (Nat.le_of_ble_eq_true rfl) rfl (sm_o hS rfl) rfl rfl rfl (ra_rd0_1 hA (by omega) hp2 hnk h16 (by omega)) (fun r h39 q40 => ?_)
          obtain ⟨rfl, rfl⟩ := q40
          refine go_s (pc' := 100) rfl rfl rfl rfl ?_
          refine go_ret rfl rfl ?_
          have hr0 : rrd 1 (fun i => m.1 (5 + i)) (I, Q, Z) = (I, Q, Z) := if_pos (Or.inl h16)
          have hms : rbr f 2 m (I, Q, Z) = (I, Q, Z) := by
            unfold rbr
            rw [if_neg (show ¬ m.1 0 = 1 by rw [h0]; decide), if_pos h0, ec, if_pos (show ((I, Q, Z) : mM).1 11 (1 + 1) = nI 2 from c33), hr0]
          rw [hms]
          exact ⟨rfl, RA_R (by omega) hA⟩
  · skip
    obtain ⟨y, y1, y2, y3, y4⟩ := hx.2.2.2.2.2 (by unfold isS; rw [h0]; rfl)
    obtain ⟨k9, hk9, e5⟩ := mk3 (Or.inl h0)
    obtain rfl | rfl | rfl : k9 = 0 ∨ k9 = 1 ∨ k9 = 2 := by omega
    · skip
      have ec : (m.1 5).toNatClampNeg = 0 := by rw [e5]; rfl
      refine go_s (pc' := 1) rfl rfl rfl rfl ?_
      refine go_sget (pc' := 2) (v := .ref am) hS rfl rfl rfl (by decide) rfl rfl ?_
      refine go_s (pc' := 3) rfl rfl rfl rfl ?_
      refine go_s (pc' := 4) (st' := [.int 5, .int (nI (13 * x)), .ref am]) rfl rfl rfl rfl ?_
      refine go_nadd (pc' := 5) (a := (13 * x)) (b := 5) rfl rfl rfl rfl rfl ?_
      refine go_sald (pc' := 6) (q := ((13 * x) + 5)) (v := .int 0) hS rfl (tr_ms hr (by omega)) rfl rfl (by omega) (congrArg Value.int (hx.2.2.2.1.trans e5)) rfl ?_
      refine go_s (pc' := 7) (lo' := [some (.ref 62), some (.int (nI (13 * x))), some (.int (nI f)), some (.int 2), some (.int 0), none]) rfl rfl rfl rfl ?_
      refine go_s (pc' := 8) rfl rfl rfl rfl ?_
      refine go_sget (pc' := 9) (v := .ref am) hS rfl rfl rfl (by decide) rfl rfl ?_
      refine go_s (pc' := 10) rfl rfl rfl rfl ?_
      refine go_s (pc' := 11) (st' := [.int 0, .int (nI (13 * x)), .ref am]) rfl rfl rfl rfl ?_
      refine go_nadd (pc' := 12) (a := (13 * x)) (b := 0) rfl rfl rfl rfl rfl ?_
      refine go_sald (pc' := 13) (q := ((13 * x) + 0)) (v := .int 3) hS rfl (tr_ms hr (by omega)) rfl rfl (by omega) (congrArg Value.int (hx.2.1.trans h0)) rfl ?_
      refine go_tsw (t' := 42) rfl (Or.inr ⟨by decide, rfl⟩) rfl ?_
      refine go_s (pc' := 43) rfl rfl rfl rfl ?_
      refine go_s (pc' := 44) rfl rfl rfl rfl ?_
      refine go_sget (pc' := 45) (v := .ref am) hS rfl rfl rfl (by decide) rfl rfl ?_
      refine go_s (pc' := 46) rfl rfl rfl rfl ?_
      refine go_s (pc' := 47) (st' := [.int 12, .int (nI (13 * x)), .ref am, .ref 62]) rfl rfl rfl rfl ?_
      refine go_nadd (pc' := 48) (a := (13 * x)) (b := 12) rfl rfl rfl rfl rfl ?_
      refine go_sald (pc' := 49) (q := ((13 * x) + 12)) (v := .int (nI y)) hS rfl (tr_ms hr (by omega)) rfl rfl (by omega) (congrArg Value.int y3) rfl ?_
      refine go_s (pc' := 50) (st' := [.int 2, .int (nI y), .ref 62]) rfl rfl rfl rfl ?_
      refine go_s (pc' := 51) rfl rfl rfl rfl ?_
      refine go_s (pc' := 52) (st' := [.int 0, .int (nI y), .ref 62]) rfl rfl rfl rfl ?_
      refine go_s (pc' := 53) rfl rfl rfl rfl ?_
      refine go_s (pc' := 54) (st' := [.int 2, .int 2, .int 0, .int (nI y), .ref 62]) rfl rfl rfl rfl ?_
      refine go_s (pc' := 55) (st' := [.int 0, .int 0, .int (nI y), .ref 62]) rfl rfl rfl rfl ?_
      refine go_s (pc' := 56) (st' := [.int 0, .int (nI y), .ref 62]) rfl rfl rfl rfl ?_
      refine go_callV (pc' := 57) rfl rfl rfl (Nat.le_of_ble_eq_true rfl) rfl (sm_o hS rfl) rfl rfl rfl (rs_cp hr hS hW (hW 77 (by decide) (by decide)) (f := y) (g := 0) (by omega) (by decide) (by omega) (by decide) (by omega)) (fun r h41 q42 => ?_)
      obtain ⟨rfl, hS43, hE44⟩ := q42
      rw [cpI_jn] at hS43
      obtain ⟨K7, e7⟩ : ∃ z, z = cpI K y 0 424 := ⟨_, rfl⟩
      rw [← e7] at hS43
      have hz7 : RZ K7 (decide (0 < 2)) 0 m.2 := by
        rw [e7]
        have z := RZ_cp (g := 0) y4
        rw [e5] at z
        exact z
      have hU45 : RU w B R [(x, m)] hb h41 am ln K7 (I, Q, uZ Z 0 m.2) := RU_row (by decide) (fun c j _ hc => by
        rw [e7]
        exact cpI_r (Nat.le_refl _) c j hc) hz7 (RU_I hE44 (fun _ => rfl) (fun _ => rfl) (Nat.le_refl _) hU)
      have hU46 : RU w B R [(x, m)] hb h41 am ln K7 (I, Q, (uZ Z 0 m.2)) := RU_I (sm_e_refl (tbr am (13 * ln) 77 5088) _) (I' := I) (fun _ => rfl) (fun _ => rfl) (Nat.le_refl _) hU45
      have hS47 : sm (tbr am (13 * ln) 77 5088) _ (jn (uI I 40 0 1) K7) Y := sm_jg hr hS43 (fun c j _ n1 n2 n3 => uI_c n3)
      have hU48 : RU w B R [(x, m)] hb h41 am ln K7 ((uI I 40 0 1), Q, (uZ Z 0 m.2)) := RU_I (sm_e_refl (tbr am (13 * ln) 77 5088) _) (fun _ => rfl) (fun _ => rfl) (Nat.le_refl _) hU46
      refine go_s (pc' := 58) rfl rfl rfl rfl ?_
      refine go_s (pc' := 59) rfl rfl rfl rfl ?_
      refine go_s (pc' := 60) rfl rfl rfl rfl ?_
      refine go_s (pc' := 61) (st' := [.int 5, .int (nI f), .int 2, .ref 62]) rfl rfl rfl rfl ?_
      refine go_s (pc' := 62) rfl rfl rfl rfl ?_
      have hU49 : RU w B R [(x, m)] hb h41 am ln K7 ((uI I 40 0 1), Q, (uZ Z 0 m.2)) := RU_I (sm_e_refl (tbr am (13 * ln) 77 5088) _) (I' := (uI I 40 0 1)) (fun _ => rfl) (fun _ => rfl) (Nat.le_refl _) hU48
      by_cases u50 : (uI I 40 0 1) 0 f = 0
      · skip
        refine go_callV (pc' := 63) rfl rfl rfl (Nat.le_of_ble_eq_true rfl) rfl (sm_o hS47 rfl) rfl rfl rfl (rn_snd_0 hS47 hU49 (by omega) (f := 2) (t := f) (by decide) hf u50 (by omega)) (fun r h51 q52 => ?_)
        obtain ⟨rfl, rfl⟩ := q52
        refine go_s (pc' := 64) (lo' := [some (.ref 62), some (.int (nI (13 * x))), some (.int (nI f)), some (.int 2), some (.int 0), some (.int (-1))]) rfl rfl rfl rfl ?_
        refine go_s (pc' := 65) rfl rfl rfl rfl ?_
        refine go_s (pc' := 66) (st' := [.int (-1), .int (-1)]) rfl rfl rfl rfl ?_
        refine go_icmpP (t' := 100) (pc' := 67) rfl rfl rfl (fun _ => ?_) (fun (c : ¬ (((-1) : Int32) = (-1))) => absurd (by decide) c)
        refine go_ret rfl rfl ?_
        have hA53 : RA w B R [(x, m)] hb h51 ((uI I 40 0 1), Q, (uZ Z 0 m.2)) := RA_u.mpr ⟨_, _, _, _, hS47, hU49⟩
        have hms : rbr f 2 m (I, Q, Z) = ((uI I 40 0 1), Q, (uZ Z 0 m.2)) := by
          unfold rbr
          rw [if_neg (show ¬ m.1 0 = 1 by rw [h0]; decide), if_neg (show ¬ m.1 0 = 2 by rw [h0]; decide), if_pos (show m.1 0 = 3 ∨ m.1 0 = 4 from Or.inl h0), ec, show rcy 0 2 m.2 (I, Q, Z) = ((uI I 40 0 1, Q, uZ Z 0 m.2) : mM) from rfl, show rsn 2 f (mgW 0 (m.1 6)) ((uI I 40 0 1, Q, uZ Z 0 m.2) : mM) = ((uI I 40 0 1, Q, uZ Z 0 m.2) : mM) from if_pos u50]
        rw [hms]
        exact ⟨rfl, RA_R (by omega) hA53⟩
      · skip
        refine go_callV (pc' := 63) rfl rfl rfl (Nat.le_of_ble_eq_true rfl) rfl (sm_o hS47 rfl) rfl rfl rfl (rn_snd_1 hS47 hU49 (by omega) (f := 2) (t := f) (by decide) hf u50 (by omega)) (fun r h54 q55 => ?_)
        obtain ⟨x56, am56, ln56, K56, rfl, hS56, hO56⟩ := q55
        obtain ⟨hx56, hln56, hr56, hWm56⟩ := RO_x hO56 (by omega)
        refine go_s (pc' := 64) (lo' := [some (.ref 62), some (.int (nI (13 * x))), some (.int (nI f)), some (.int 2), some (.int 0), some (.int (nI (13 * x56)))]) rfl rfl rfl rfl ?_
        refine go_s (pc' := 65) rfl rfl rfl rfl ?_
        refine go_s (pc' := 66) (st' := [.int (-1), .int (nI (13 * x56))]) rfl rfl rfl rfl ?_
        refine go_icmpP (t' := 100) (pc' := 67) rfl rfl rfl (fun (c : (nI (13 * x56)) = (-1)) => absurd c (nI_nm1 (by omega))) (fun _ => ?_)
        have hxo := RO_h hO56 (y := x) (m := m) (by simp)
        have hxl9 := hxo.1
        refine go_s (pc' := 68) rfl rfl rfl rfl ?_
        refine go_sget (pc' := 69) (v := .ref am56) hS56 rfl rfl rfl (by decide) rfl rfl ?_
        refine go_s (pc' := 70) rfl rfl rfl rfl ?_
        refine go_s (pc' := 71) (st' := [.int 6, .int (nI (13 * x56)), .ref am56]) rfl rfl rfl rfl ?_
        refine go_nadd (pc' := 72) (a := (13 * x56)) (b := 6) rfl rfl rfl rfl rfl ?_
        refine go_s (pc' := 73) rfl rfl rfl rfl ?_
        refine go_sget (pc' := 74) (v := .ref am56) hS56 rfl rfl rfl (by decide) rfl rfl ?_
        refine go_s (pc' := 75) rfl rfl rfl rfl ?_
        refine go_s (pc' := 76) (st' := [.int 6, .int (nI (13 * x)), .ref am56, .int (nI ((13 * x56) + 6)), .ref am56]) rfl rfl rfl rfl ?_
        refine go_nadd (pc' := 77) (a := (13 * x)) (b := 6) rfl rfl rfl rfl rfl ?_
        refine go_sald (pc' := 78) (q := ((13 * x) + 6)) (v := .int (m.1 6)) hS56 rfl (tr_ms hr56 (by omega)) rfl rfl (by omega) (congrArg Value.int (hxo.2 0 (by rw [h0]; decide))) rfl ?_
        refine go_siast (pc' := 79) (q := ((13 * x56) + 6)) hS56 rfl (tr_ms hr56 (by omega)) tbr_inj (Nat.le_of_ble_eq_true rfl) rfl (by omega) (rk_0 hr56).1 hWm56 rfl (fun h57 hS58 hE59 => ?_)
        refine go_s (pc' := 100) rfl rfl rfl rfl ?_
        refine go_ret rfl rfl ?_
        change sm (tbr am56 (13 * ln56) 77 5088) _ (uI (jn (appI (uI I 40 0 1) Q (4 * 2 + f)) K56) 50 ((13 * x56) + 6) (m.1 6)) Y at hS58
        rw [jn_hi (c := 50) (by decide)] at hS58
        have hU60 := RO_cl (K' := (uI K56 50 ((13 * x56) + 6) (m.1 6))) (m := (mgn (mgW 0 (m.1 6)) ((uI I 40 0 1) 9 (4 * 2 + f) + 1))) (by omega) hO56 (hE59) rfl rfl rfl rfl (fun c j _ hc => by
          simp only [uI]
          rw [if_neg (by omega)]) (fun i hi => by
          have hi2 : i < 1 := hi
          match i, hi2 with
            | 0, _ => (repeat (first | rw [uI_e (by omega)] | rw [uI_j (by omega)])) <;> rfl)
        have hA61 : RA w B (R + 1) [(x, m)] hb h57 ((appI (uI I 40 0 1) Q (4 * 2 + f)), (uQ Q (4 * 2 + f) (Q (4 * 2 + f) ++ [(mgn (mgW 0 (m.1 6)) ((uI I 40 0 1) 9 (4 * 2 + f) + 1))])), (uZ Z 0 m.2)) := RA_u.mpr ⟨_, _, _, _, hS58, hU60⟩
        have hms : rbr f 2 m (I, Q, Z) = ((appI (uI I 40 0 1) Q (4 * 2 + f)), (uQ Q (4 * 2 + f) (Q (4 * 2 + f) ++ [(mgn (mgW 0 (m.1 6)) ((uI I 40 0 1) 9 (4 * 2 + f) + 1))])), (uZ Z 0 m.2)) := by
          unfold rbr
          rw [if_neg (show ¬ m.1 0 = 1 by rw [h0]; decide), if_neg (show ¬ m.1 0 = 2 by rw [h0]; decide), if_pos (show m.1 0 = 3 ∨ m.1 0 = 4 from Or.inl h0), ec, show rcy 0 2 m.2 (I, Q, Z) = ((uI I 40 0 1, Q, uZ Z 0 m.2) : mM) from rfl, show rsn 2 f (mgW 0 (m.1 6)) ((uI I 40 0 1, Q, uZ Z 0 m.2) : mM) = mapp (4 * 2 + f) (mgW 0 (m.1 6)) ((uI I 40 0 1, Q, uZ Z 0 m.2) : mM) from if_neg u50]
          rw [show mapp (4 * 2 + f) (mgW 0 (m.1 6)) ((uI I 40 0 1, Q, uZ Z 0 m.2) : mM) = ((appI (uI I 40 0 1) Q (4 * 2 + f)), (uQ Q (4 * 2 + f) (Q (4 * 2 + f) ++ [(mgn (mgW 0 (m.1 6)) ((uI I 40 0 1) 9 (4 * 2 + f) + 1))])), (uZ Z 0 m.2)) from rfl]
        rw [hms]
        exact ⟨rfl, RA_R (by omega) hA61⟩
    · skip
      have ec : (m.1 5).toNatClampNeg = 1 := by rw [e5]; rfl
      refine go_s (pc' := 1) rfl rfl rfl rfl ?_
      refine go_sget (pc' := 2) (v := .ref am) hS rfl rfl rfl (by decide) rfl rfl ?_
      refine go_s (pc' := 3) rfl rfl rfl rfl ?_
      refine go_s (pc' := 4) (st' := [.int 5, .int (nI (13 * x)), .ref am]) rfl rfl rfl rfl ?_
      refine go_nadd (pc' := 5) (a := (13 * x)) (b := 5) rfl rfl rfl rfl rfl ?_
      refine go_sald (pc' := 6) (q := ((13 * x) + 5)) (v := .int 1) hS rfl (tr_ms hr (by omega)) rfl rfl (by omega) (congrArg Value.int (hx.2.2.2.1.trans e5)) rfl ?_
      refine go_s (pc' := 7) (lo' := [some (.ref 62), some (.int (nI (13 * x))), some (.int (nI f)), some (.int 2), some (.int 1), none]) rfl rfl rfl rfl ?_
      refine go_s (pc' := 8) rfl rfl rfl rfl ?_
      refine go_sget (pc' := 9) (v := .ref am) hS rfl rfl rfl (by decide) rfl rfl ?_
      refine go_s (pc' := 10) rfl rfl rfl rfl ?_
      refine go_s (pc' := 11) (st' := [.int 0, .int (nI (13 * x)), .ref am]) rfl rfl rfl rfl ?_
      refine go_nadd (pc' := 12) (a := (13 * x)) (b := 0) rfl rfl rfl rfl rfl ?_
      refine go_sald (pc' := 13) (q := ((13 * x) + 0)) (v := .int 3) hS rfl (tr_ms hr (by omega)) rfl rfl (by omega) (congrArg Value.int (hx.2.1.trans h0)) rfl ?_
      refine go_tsw (t' := 42) rfl (Or.inr ⟨by decide, rfl⟩) rfl ?_
      refine go_s (pc' := 43) rfl rfl rfl rfl ?_
      refine go_s (pc' := 44) rfl rfl rfl rfl ?_
      refine go_sget (pc' := 45) (v := .ref am) hS rfl rfl rfl (by decide) rfl rfl ?_
      refine go_s (pc' := 46) rfl rfl rfl rfl ?_
      refine go_s (pc' := 47) (st' := [.int 12, .int (nI (13 * x)), .ref am, .ref 62]) rfl rfl rfl rfl ?_
      refine go_nadd (pc' := 48) (a := (13 * x)) (b := 12) rfl rfl rfl rfl rfl ?_
      refine go_sald (pc' := 49) (q := ((13 * x) + 12)) (v := .int (nI y)) hS rfl (tr_ms hr (by omega)) rfl rfl (by omega) (congrArg Value.int y3) rfl ?_
      refine go_s (pc' := 50) (st' := [.int 2, .int (nI y), .ref 62]) rfl rfl rfl rfl ?_
      refine go_s (pc' := 51) rfl rfl rfl rfl ?_
      refine go_s (pc' := 52) (st' := [.int 2, .int (nI y), .ref 62]) rfl rfl rfl rfl ?_
      refine go_s (pc' := 53) rfl rfl rfl rfl ?_
      refine go_s (pc' := 54) (st' := [.int 2, .int 2, .int 2, .int (nI y), .ref 62]) rfl rfl rfl rfl ?_
      refine go_s (pc' := 55) (st' := [.int 0, .int 2, .int (nI y), .ref 62]) rfl rfl rfl rfl ?_
      refine go_s (pc' := 56) (st' := [.int 2, .int (nI y), .ref 62]) rfl rfl rfl rfl ?_
      refine go_callV (pc' := 57) rfl rfl rfl (Nat.le_of_ble_eq_true rfl) rfl (sm_o hS rfl) rfl rfl rfl (rs_cp hr hS hW (hW 77 (by decide) (by decide)) (f := y) (g := 2) (by omega) (by decide) (by omega) (by decide) (by omega)) (fun r h62 q63 => ?_)
      obtain ⟨rfl, hS64, hE65⟩ := q63
      rw [cpI_jn] at hS64
      obtain ⟨K7, e7⟩ : ∃ z, z = cpI K y 2 424 := ⟨_, rfl⟩
      rw [← e7] at hS64
      have hz7 : RZ K7 (decide (2 < 2)) 2 m.2 := by
        rw [e7]
        have z := RZ_cp (g := 2) y4
        rw [e5] at z
        exact z
      have hU66 : RU w B R [(x, m)] hb h62 am ln K7 (I, Q, uZ Z 2 m.2) := RU_row (by decide) (fun c j _ hc => by
        rw [e7]
        exact cpI_r (Nat.le_refl _) c j hc) hz7 (RU_I hE65 (fun _ => rfl) (fun _ => rfl) (Nat.le_refl _) hU)
      have hU67 : RU w B R [(x, m)] hb h62 am ln K7 (I, Q, (uZ Z 2 m.2)) := RU_I (sm_e_refl (tbr am (13 * ln) 77 5088) _) (I' := I) (fun _ => rfl) (fun _ => rfl) (Nat.le_refl _) hU66
      have hS68 : sm (tbr am (13 * ln) 77 5088) _ (jn (uI I 40 1 1) K7) Y := sm_jg hr hS64 (fun c j _ n1 n2 n3 => uI_c n3)
      have hU69 : RU w B R [(x, m)] hb h62 am ln K7 ((uI I 40 1 1), Q, (uZ Z 2 m.2)) := RU_I (sm_e_refl (tbr am (13 * ln) 77 5088) _) (fun _ => rfl) (fun _ => rfl) (Nat.le_refl _) hU67
      refine go_s (pc' := 58) rfl rfl rfl rfl ?_
      refine go_s (pc' := 59) rfl rfl rfl rfl ?_
      refine go_s (pc' := 60) rfl rfl rfl rfl ?_
      refine go_s (pc' := 61) (st' := [.int 5, .int (nI f), .int 2, .ref 62]) rfl rfl rfl rfl ?_
      refine go_s (pc' := 62) rfl rfl rfl rfl ?_
      have hU70 : RU w B R [(x, m)] hb h62 am ln K7 ((uI I 40 1 1), Q, (uZ Z 2 m.2)) := RU_I (sm_e_refl (tbr am (13 * ln) 77 5088) _) (I' := (uI I 40 1 1)) (fun _ => rfl) (fun _ => rfl) (Nat.le_refl _) hU69
      by_cases u71 : (uI I 40 1 1) 0 f = 0
      · skip
        refine go_callV (pc' := 63) rfl rfl rfl (Nat.le_of_ble_eq_true rfl) rfl (sm_o hS68 rfl) rfl rfl rfl (rn_snd_0 hS68 hU70 (by omega) (f := 2) (t := f) (by decide) hf u71 (by omega)) (fun r h72 q73 => ?_)
        obtain ⟨rfl, rfl⟩ := q73
        refine go_s (pc' := 64) (lo' := [some (.ref 62), some (.int (nI (13 * x))), some (.int (nI f)), some (.int 2), some (.int 1), some (.int (-1))]) rfl rfl rfl rfl ?_
        refine go_s (pc' := 65) rfl rfl rfl rfl ?_
        refine go_s (pc' := 66) (st' := [.int (-1), .int (-1)]) rfl rfl rfl rfl ?_
        refine go_icmpP (t' := 100) (pc' := 67) rfl rfl rfl (fun _ => ?_) (fun (c : ¬ (((-1) : Int32) = (-1))) => absurd (by decide) c)
        refine go_ret rfl rfl ?_
        have hA74 : RA w B R [(x, m)] hb h72 ((uI I 40 1 1), Q, (uZ Z 2 m.2)) := RA_u.mpr ⟨_, _, _, _, hS68, hU70⟩
        have hms : rbr f 2 m (I, Q, Z) = ((uI I 40 1 1), Q, (uZ Z 2 m.2)) := by
          unfold rbr
          rw [if_neg (show ¬ m.1 0 = 1 by rw [h0]; decide), if_neg (show ¬ m.1 0 = 2 by rw [h0]; decide), if_pos (show m.1 0 = 3 ∨ m.1 0 = 4 from Or.inl h0), ec, show rcy 1 2 m.2 (I, Q, Z) = ((uI I 40 1 1, Q, uZ Z 2 m.2) : mM) from rfl, show rsn 2 f (mgW 1 (m.1 6)) ((uI I 40 1 1, Q, uZ Z 2 m.2) : mM) = ((uI I 40 1 1, Q, uZ Z 2 m.2) : mM) from if_pos u71]
        rw [hms]
        exact ⟨rfl, RA_R (by omega) hA74⟩
      · skip
        refine go_callV (pc' := 63) rfl rfl rfl (Nat.le_of_ble_eq_true rfl) rfl (sm_o hS68 rfl) rfl rfl rfl (rn_snd_1 hS68 hU70 (by omega) (f := 2) (t := f) (by decide) hf u71 (by omega)) (fun r h75 q76 => ?_)
        obtain ⟨x77, am77, ln77, K77, rfl, hS77, hO77⟩ := q76
        obtain ⟨hx77, hln77, hr77, hWm77⟩ := RO_x hO77 (by omega)
        refine go_s (pc' := 64) (lo' := [some (.ref 62), some (.int (nI (13 * x))), some (.int (nI f)), some (.int 2), some (.int 1), some (.int (nI (13 * x77)))]) rfl rfl rfl rfl ?_
        refine go_s (pc' := 65) rfl rfl rfl rfl ?_
        refine go_s (pc' := 66) (st' := [.int (-1), .int (nI (13 * x77))]) rfl rfl rfl rfl ?_
        refine go_icmpP (t' := 100) (pc' := 67) rfl rfl rfl (fun (c : (nI (13 * x77)) = (-1)) => absurd c (nI_nm1 (by omega))) (fun _ => ?_)
        have hxo := RO_h hO77 (y := x) (m := m) (by simp)
        have hxl9 := hxo.1
        refine go_s (pc' := 68) rfl rfl rfl rfl ?_
        refine go_sget (pc' := 69) (v := .ref am77) hS77 rfl rfl rfl (by decide) rfl rfl ?_
        refine go_s (pc' := 70) rfl rfl rfl rfl ?_
        refine go_s (pc' := 71) (st' := [.int 6, .int (nI (13 * x77)), .ref am77]) rfl rfl rfl rfl ?_
        refine go_nadd (pc' := 72) (a := (13 * x77)) (b := 6) rfl rfl rfl rfl rfl ?_
        refine go_s (pc' := 73) rfl rfl rfl rfl ?_
        refine go_sget (pc' := 74) (v := .ref am77) hS77 rfl rfl rfl (by decide) rfl rfl ?_
        refine go_s (pc' := 75) rfl rfl rfl rfl ?_
        refine go_s (pc' := 76) (st' := [.int 6, .int (nI (13 * x)), .ref am77, .int (nI ((13 * x77) + 6)), .ref am77]) rfl rfl rfl rfl ?_
        refine go_nadd (pc' := 77) (a := (13 * x)) (b := 6) rfl rfl rfl rfl rfl ?_
        refine go_sald (pc' := 78) (q := ((13 * x) + 6)) (v := .int (m.1 6)) hS77 rfl (tr_ms hr77 (by omega)) rfl rfl (by omega) (congrArg Value.int (hxo.2 0 (by rw [h0]; decide))) rfl ?_
        refine go_siast (pc' := 79) (q := ((13 * x77) + 6)) hS77 rfl (tr_ms hr77 (by omega)) tbr_inj (Nat.le_of_ble_eq_true rfl) rfl (by omega) (rk_0 hr77).1 hWm77 rfl (fun h78 hS79 hE80 => ?_)
        refine go_s (pc' := 100) rfl rfl rfl rfl ?_
        refine go_ret rfl rfl ?_
        change sm (tbr am77 (13 * ln77) 77 5088) _ (uI (jn (appI (uI I 40 1 1) Q (4 * 2 + f)) K77) 50 ((13 * x77) + 6) (m.1 6)) Y at hS79
        rw [jn_hi (c := 50) (by decide)] at hS79
        have hU81 := RO_cl (K' := (uI K77 50 ((13 * x77) + 6) (m.1 6))) (m := (mgn (mgW 1 (m.1 6)) ((uI I 40 1 1) 9 (4 * 2 + f) + 1))) (by omega) hO77 (hE80) rfl rfl rfl rfl (fun c j _ hc => by
          simp only [uI]
          rw [if_neg (by omega)]) (fun i hi => by
          have hi2 : i < 1 := hi
          match i, hi2 with
            | 0, _ => (repeat (first | rw [uI_e (by omega)] | rw [uI_j (by omega)])) <;> rfl)
        have hA82 : RA w B (R + 1) [(x, m)] hb h78 ((appI (uI I 40 1 1) Q (4 * 2 + f)), (uQ Q (4 * 2 + f) (Q (4 * 2 + f) ++ [(mgn (mgW 1 (m.1 6)) ((uI I 40 1 1) 9 (4 * 2 + f) + 1))])), (uZ Z 2 m.2)) := RA_u.mpr ⟨_, _, _, _, hS79, hU81⟩
        have hms : rbr f 2 m (I, Q, Z) = ((appI (uI I 40 1 1) Q (4 * 2 + f)), (uQ Q (4 * 2 + f) (Q (4 * 2 + f) ++ [(mgn (mgW 1 (m.1 6)) ((uI I 40 1 1) 9 (4 * 2 + f) + 1))])), (uZ Z 2 m.2)) := by
          unfold rbr
          rw [if_neg (show ¬ m.1 0 = 1 by rw [h0]; decide), if_neg (show ¬ m.1 0 = 2 by rw [h0]; decide), if_pos (show m.1 0 = 3 ∨ m.1 0 = 4 from Or.inl h0), ec, show rcy 1 2 m.2 (I, Q, Z) = ((uI I 40 1 1, Q, uZ Z 2 m.2) : mM) from rfl, show rsn 2 f (mgW 1 (m.1 6)) ((uI I 40 1 1, Q, uZ Z 2 m.2) : mM) = mapp (4 * 2 + f) (mgW 1 (m.1 6)) ((uI I 40 1 1, Q, uZ Z 2 m.2) : mM) from if_neg u71]
          rw [show mapp (4 * 2 + f) (mgW 1 (m.1 6)) ((uI I 40 1 1, Q, uZ Z 2 m.2) : mM) = ((appI (uI I 40 1 1) Q (4 * 2 + f)), (uQ Q (4 * 2 + f) (Q (4 * 2 + f) ++ [(mgn (mgW 1 (m.1 6)) ((uI I 40 1 1) 9 (4 * 2 + f) + 1))])), (uZ Z 2 m.2)) from rfl]
        rw [hms]
        exact ⟨rfl, RA_R (by omega) hA82⟩
    · skip
      have ec : (m.1 5).toNatClampNeg = 2 := by rw [e5]; rfl
      refine go_s (pc' := 1) rfl rfl rfl rfl ?_
      refine go_sget (pc' := 2) (v := .ref am) hS rfl rfl rfl (by decide) rfl rfl ?_
      refine go_s (pc' := 3) rfl rfl rfl rfl ?_
      refine go_s (pc' := 4) (st' := [.int 5, .int (nI (13 * x)), .ref am]) rfl rfl rfl rfl ?_
      refine go_nadd (pc' := 5) (a := (13 * x)) (b := 5) rfl rfl rfl rfl rfl ?_
      refine go_sald (pc' := 6) (q := ((13 * x) + 5)) (v := .int 2) hS rfl (tr_ms hr (by omega)) rfl rfl (by omega) (congrArg Value.int (hx.2.2.2.1.trans e5)) rfl ?_
      refine go_s (pc' := 7) (lo' := [some (.ref 62), some (.int (nI (13 * x))), some (.int (nI f)), some (.int 2), some (.int 2), none]) rfl rfl rfl rfl ?_
      refine go_s (pc' := 8) rfl rfl rfl rfl ?_
      refine go_sget (pc' := 9) (v := .ref am) hS rfl rfl rfl (by decide) rfl rfl ?_
      refine go_s (pc' := 10) rfl rfl rfl rfl ?_
      refine go_s (pc' := 11) (st' := [.int 0, .int (nI (13 * x)), .ref am]) rfl rfl rfl rfl ?_
      refine go_nadd (pc' := 12) (a := (13 * x)) (b := 0) rfl rfl rfl rfl rfl ?_
      refine go_sald (pc' := 13) (q := ((13 * x) + 0)) (v := .int 3) hS rfl (tr_ms hr (by omega)) rfl rfl (by omega) (congrArg Value.int (hx.2.1.trans h0)) rfl ?_
      refine go_tsw (t' := 42) rfl (Or.inr ⟨by decide, rfl⟩) rfl ?_
      refine go_s (pc' := 43) rfl rfl rfl rfl ?_
      refine go_s (pc' := 44) rfl rfl rfl rfl ?_
      refine go_sget (pc' := 45) (v := .ref am) hS rfl rfl rfl (by decide) rfl rfl ?_
      refine go_s (pc' := 46) rfl rfl rfl rfl ?_
      refine go_s (pc' := 47) (st' := [.int 12, .int (nI (13 * x)), .ref am, .ref 62]) rfl rfl rfl rfl ?_
      refine go_nadd (pc' := 48) (a := (13 * x)) (b := 12) rfl rfl rfl rfl rfl ?_
      refine go_sald (pc' := 49) (q := ((13 * x) + 12)) (v := .int (nI y)) hS rfl (tr_ms hr (by omega)) rfl rfl (by omega) (congrArg Value.int y3) rfl ?_
      refine go_s (pc' := 50) (st' := [.int 2, .int (nI y), .ref 62]) rfl rfl rfl rfl ?_
      refine go_s (pc' := 51) rfl rfl rfl rfl ?_
      refine go_s (pc' := 52) (st' := [.int 4, .int (nI y), .ref 62]) rfl rfl rfl rfl ?_
      refine go_s (pc' := 53) rfl rfl rfl rfl ?_
      refine go_s (pc' := 54) (st' := [.int 2, .int 2, .int 4, .int (nI y), .ref 62]) rfl rfl rfl rfl ?_
      refine go_s (pc' := 55) (st' := [.int 0, .int 4, .int (nI y), .ref 62]) rfl rfl rfl rfl ?_
      refine go_s (pc' := 56) (st' := [.int 4, .int (nI y), .ref 62]) rfl rfl rfl rfl ?_
      refine go_callV (pc' := 57) rfl rfl rfl (Nat.le_of_ble_eq_true rfl) rfl (sm_o hS rfl) rfl rfl rfl (rs_cp hr hS hW (hW 77 (by decide) (by decide)) (f := y) (g := 4) (by omega) (by decide) (by omega) (by decide) (by omega)) (fun r h83 q84 => ?_)
      obtain ⟨rfl, hS85, hE86⟩ := q84
      rw [cpI_jn] at hS85
      obtain ⟨K7, e7⟩ : ∃ z, z = cpI K y 4 424 := ⟨_, rfl⟩
      rw [← e7] at hS85
      have hz7 : RZ K7 (decide (4 < 2)) 4 m.2 := by
        rw [e7]
        have z := RZ_cp (g := 4) y4
        rw [e5] at z
        exact z
      have hU87 : RU w B R [(x, m)] hb h83 am ln K7 (I, Q, uZ Z 4 m.2) := RU_row (by decide) (fun c j _ hc => by
        rw [e7]
        exact cpI_r (Nat.le_refl _) c j hc) hz7 (RU_I hE86 (fun _ => rfl) (fun _ => rfl) (Nat.le_refl _) hU)
      have hU88 : RU w B R [(x, m)] hb h83 am ln K7 (I, Q, (uZ Z 4 m.2)) := RU_I (sm_e_refl (tbr am (13 * ln) 77 5088) _) (I' := I) (fun _ => rfl) (fun _ => rfl) (Nat.le_refl _) hU87
      have hS89 : sm (tbr am (13 * ln) 77 5088) _ (jn (uI I 40 2 1) K7) Y := sm_jg hr hS85 (fun c j _ n1 n2 n3 => uI_c n3)
      have hU90 : RU w B R [(x, m)] hb h83 am ln K7 ((uI I 40 2 1), Q, (uZ Z 4 m.2)) := RU_I (sm_e_refl (tbr am (13 * ln) 77 5088) _) (fun _ => rfl) (fun _ => rfl) (Nat.le_refl _) hU88
      refine go_s (pc' := 58) rfl rfl rfl rfl ?_
      refine go_s (pc' := 59) rfl rfl rfl rfl ?_
      refine go_s (pc' := 60) rfl rfl rfl rfl ?_
      refine go_s (pc' := 61) (st' := [.int 5, .int (nI f), .int 2, .ref 62]) rfl rfl rfl rfl ?_
      refine go_s (pc' := 62) rfl rfl rfl rfl ?_
      have hU91 : RU w B R [(x, m)] hb h83 am ln K7 ((uI I 40 2 1), Q, (uZ Z 4 m.2)) := RU_I (sm_e_refl (tbr am (13 * ln) 77 5088) _) (I' := (uI I 40 2 1)) (fun _ => rfl) (fun _ => rfl) (Nat.le_refl _) hU90
      by_cases u92 : (uI I 40 2 1) 0 f = 0
      · skip
        refine go_callV (pc' := 63) rfl rfl rfl (Nat.le_of_ble_eq_true rfl) rfl (sm_o hS89 rfl) rfl rfl rfl (rn_snd_0 hS89 hU91 (by omega) (f := 2) (t := f) (by decide) hf u92 (by omega)) (fun r h93 q94 => ?_)
        obtain ⟨rfl, rfl⟩ := q94
        refine go_s (pc' := 64) (lo' := [some (.ref 62), some (.int (nI (13 * x))), some (.int (nI f)), some (.int 2), some (.int 2), some (.int (-1))]) rfl rfl rfl rfl ?_
        refine go_s (pc' := 65) rfl rfl rfl rfl ?_
        refine go_s (pc' := 66) (st' := [.int (-1), .int (-1)]) rfl rfl rfl rfl ?_
        refine go_icmpP (t' := 100) (pc' := 67) rfl rfl rfl (fun _ => ?_) (fun (c : ¬ (((-1) : Int32) = (-1))) => absurd (by decide) c)
        refine go_ret rfl rfl ?_
        have hA95 : RA w B R [(x, m)] hb h93 ((uI I 40 2 1), Q, (uZ Z 4 m.2)) := RA_u.mpr ⟨_, _, _, _, hS89, hU91⟩
        have hms : rbr f 2 m (I, Q, Z) = ((uI I 40 2 1), Q, (uZ Z 4 m.2)) := by
          unfold rbr
          rw [if_neg (show ¬ m.1 0 = 1 by rw [h0]; decide), if_neg (show ¬ m.1 0 = 2 by rw [h0]; decide), if_pos (show m.1 0 = 3 ∨ m.1 0 = 4 from Or.inl h0), ec, show rcy 2 2 m.2 (I, Q, Z) = ((uI I 40 2 1, Q, uZ Z 4 m.2) : mM) from rfl, show rsn 2 f (mgW 2 (m.1 6)) ((uI I 40 2 1, Q, uZ Z 4 m.2) : mM) = ((uI I 40 2 1, Q, uZ Z 4 m.2) : mM) from if_pos u92]
        rw [hms]
        exact ⟨rfl, RA_R (by omega) hA95⟩
      · skip
        refine go_callV (pc' := 63) rfl rfl rfl (Nat.le_of_ble_eq_true rfl) rfl (sm_o hS89 rfl) rfl rfl rfl (rn_snd_1 hS89 hU91 (by omega) (f := 2) (t := f) (by decide) hf u92 (by omega)) (fun r h96 q97 => ?_)
        obtain ⟨x98, am98, ln98, K98, rfl, hS98, hO98⟩ := q97
        obtain ⟨hx98, hln98, hr98, hWm98⟩ := RO_x hO98 (by omega)
        refine go_s (pc' := 64) (lo' := [some (.ref 62), some (.int (nI (13 * x))), some (.int (nI f)), some (.int 2), some (.int 2), some (.int (nI (13 * x98)))]) rfl rfl rfl rfl ?_
        refine go_s (pc' := 65) rfl rfl rfl rfl ?_
        refine go_s (pc' := 66) (st' := [.int (-1), .int (nI (13 * x98))]) rfl rfl rfl rfl ?_
        refine go_icmpP (t' := 100) (pc' := 67) rfl rfl rfl (fun (c : (nI (13 * x98)) = (-1)) => absurd c (nI_nm1 (by omega))) (fun _ => ?_)
        have hxo := RO_h hO98 (y := x) (m := m) (by simp)
        have hxl9 := hxo.1
        refine go_s (pc' := 68) rfl rfl rfl rfl ?_
        refine go_sget (pc' := 69) (v := .ref am98) hS98 rfl rfl rfl (by decide) rfl rfl ?_
        refine go_s (pc' := 70) rfl rfl rfl rfl ?_
        refine go_s (pc' := 71) (st' := [.int 6, .int (nI (13 * x98)), .ref am98]) rfl rfl rfl rfl ?_
        refine go_nadd (pc' := 72) (a := (13 * x98)) (b := 6) rfl rfl rfl rfl rfl ?_
        refine go_s (pc' := 73) rfl rfl rfl rfl ?_
        refine go_sget (pc' := 74) (v := .ref am98) hS98 rfl rfl rfl (by decide) rfl rfl ?_
        refine go_s (pc' := 75) rfl rfl rfl rfl ?_
        refine go_s (pc' := 76) (st' := [.int 6, .int (nI (13 * x)), .ref am98, .int (nI ((13 * x98) + 6)), .ref am98]) rfl rfl rfl rfl ?_
        refine go_nadd (pc' := 77) (a := (13 * x)) (b := 6) rfl rfl rfl rfl rfl ?_
        refine go_sald (pc' := 78) (q := ((13 * x) + 6)) (v := .int (m.1 6)) hS98 rfl (tr_ms hr98 (by omega)) rfl rfl (by omega) (congrArg Value.int (hxo.2 0 (by rw [h0]; decide))) rfl ?_
        refine go_siast (pc' := 79) (q := ((13 * x98) + 6)) hS98 rfl (tr_ms hr98 (by omega)) tbr_inj (Nat.le_of_ble_eq_true rfl) rfl (by omega) (rk_0 hr98).1 hWm98 rfl (fun h99 hS100 hE101 => ?_)
        refine go_s (pc' := 100) rfl rfl rfl rfl ?_
        refine go_ret rfl rfl ?_
        change sm (tbr am98 (13 * ln98) 77 5088) _ (uI (jn (appI (uI I 40 2 1) Q (4 * 2 + f)) K98) 50 ((13 * x98) + 6) (m.1 6)) Y at hS100
        rw [jn_hi (c := 50) (by decide)] at hS100
        have hU102 := RO_cl (K' := (uI K98 50 ((13 * x98) + 6) (m.1 6))) (m := (mgn (mgW 2 (m.1 6)) ((uI I 40 2 1) 9 (4 * 2 + f) + 1))) (by omega) hO98 (hE101) rfl rfl rfl rfl (fun c j _ hc => by
          simp only [uI]
          rw [if_neg (by omega)]) (fun i hi => by
          have hi2 : i < 1 := hi
          match i, hi2 with
            | 0, _ => (repeat (first | rw [uI_e (by omega)] | rw [uI_j (by omega)])) <;> rfl)
        have hA103 : RA w B (R + 1) [(x, m)] hb h99 ((appI (uI I 40 2 1) Q (4 * 2 + f)), (uQ Q (4 * 2 + f) (Q (4 * 2 + f) ++ [(mgn (mgW 2 (m.1 6)) ((uI I 40 2 1) 9 (4 * 2 + f) + 1))])), (uZ Z 4 m.2)) := RA_u.mpr ⟨_, _, _, _, hS100, hU102⟩
        have hms : rbr f 2 m (I, Q, Z) = ((appI (uI I 40 2 1) Q (4 * 2 + f)), (uQ Q (4 * 2 + f) (Q (4 * 2 + f) ++ [(mgn (mgW 2 (m.1 6)) ((uI I 40 2 1) 9 (4 * 2 + f) + 1))])), (uZ Z 4 m.2)) := by
          unfold rbr
          rw [if_neg (show ¬ m.1 0 = 1 by rw [h0]; decide), if_neg (show ¬ m.1 0 = 2 by rw [h0]; decide), if_pos (show m.1 0 = 3 ∨ m.1 0 = 4 from Or.inl h0), ec, show rcy 2 2 m.2 (I, Q, Z) = ((uI I 40 2 1, Q, uZ Z 4 m.2) : mM) from rfl, show rsn 2 f (mgW 2 (m.1 6)) ((uI I 40 2 1, Q, uZ Z 4 m.2) : mM) = mapp (4 * 2 + f) (mgW 2 (m.1 6)) ((uI I 40 2 1, Q, uZ Z 4 m.2) : mM) from if_neg u92]
          rw [show mapp (4 * 2 + f) (mgW 2 (m.1 6)) ((uI I 40 2 1, Q, uZ Z 4 m.2) : mM) = ((appI (uI I 40 2 1) Q (4 * 2 + f)), (uQ Q (4 * 2 + f) (Q (4 * 2 + f) ++ [(mgn (mgW 2 (m.1 6)) ((uI I 40 2 1) 9 (4 * 2 + f) + 1))])), (uZ Z 4 m.2)) from rfl]
        rw [hms]
        exact ⟨rfl, RA_R (by omega) hA103⟩
  · skip
    obtain ⟨y, y1, y2, y3, y4⟩ := hx.2.2.2.2.2 (by unfold isS; rw [h0]; rfl)
    obtain ⟨k9, hk9, e5⟩ := mk3 (Or.inr (Or.inl h0))
    obtain rfl | rfl | rfl : k9 = 0 ∨ k9 = 1 ∨ k9 = 2 := by omega
    · skip
      have ec : (m.1 5).toNatClampNeg = 0 := by rw [e5]; rfl
      refine go_s (pc' := 1) rfl rfl rfl rfl ?_
      refine go_sget (pc' := 2) (v := .ref am) hS rfl rfl rfl (by decide) rfl rfl ?_
      refine go_s (pc' := 3) rfl rfl rfl rfl ?_
      refine go_s (pc' := 4) (st' := [.int 5, .int (nI (13 * x)), .ref am]) rfl rfl rfl rfl ?_
      refine go_nadd (pc' := 5) (a := (13 * x)) (b := 5) rfl rfl rfl rfl rfl ?_
      refine go_sald (pc' := 6) (q := ((13 * x) + 5)) (v := .int 0) hS rfl (tr_ms hr (by omega)) rfl rfl (by omega) (congrArg Value.int (hx.2.2.2.1.trans e5)) rfl ?_
      refine go_s (pc' := 7) (lo' := [some (.ref 62), some (.int (nI (13 * x))), some (.int (nI f)), some (.int 2), some (.int 0), none]) rfl rfl rfl rfl ?_
      refine go_s (pc' := 8) rfl rfl rfl rfl ?_
      refine go_sget (pc' := 9) (v := .ref am) hS rfl rfl rfl (by decide) rfl rfl ?_
      refine go_s (pc' := 10) rfl rfl rfl rfl ?_
      refine go_s (pc' := 11) (st' := [.int 0, .int (nI (13 * x)), .ref am]) rfl rfl rfl rfl ?_
      refine go_nadd (pc' := 12) (a := (13 * x)) (b := 0) rfl rfl rfl rfl rfl ?_
      refine go_sald (pc' := 13) (q := ((13 * x) + 0)) (v := .int 4) hS rfl (tr_ms hr (by omega)) rfl rfl (by omega) (congrArg Value.int (hx.2.1.trans h0)) rfl ?_
      refine go_tsw (t' := 42) rfl (Or.inr ⟨by decide, rfl⟩) rfl ?_
      refine go_s (pc' := 43) rfl rfl rfl rfl ?_
      refine go_s (pc' := 44) rfl rfl rfl rfl ?_
      refine go_sget (pc' := 45) (v := .ref am) hS rfl rfl rfl (by decide) rfl rfl ?_
      refine go_s (pc' := 46) rfl rfl rfl rfl ?_
      refine go_s (pc' := 47) (st' := [.int 12, .int (nI (13 * x)), .ref am, .ref 62]) rfl rfl rfl rfl ?_
      refine go_nadd (pc' := 48) (a := (13 * x)) (b := 12) rfl rfl rfl rfl rfl ?_
      refine go_sald (pc' := 49) (q := ((13 * x) + 12)) (v := .int (nI y)) hS rfl (tr_ms hr (by omega)) rfl rfl (by omega) (congrArg Value.int y3) rfl ?_
      refine go_s (pc' := 50) (st' := [.int 2, .int (nI y), .ref 62]) rfl rfl rfl rfl ?_
      refine go_s (pc' := 51) rfl rfl rfl rfl ?_
      refine go_s (pc' := 52) (st' := [.int 0, .int (nI y), .ref 62]) rfl rfl rfl rfl ?_
      refine go_s (pc' := 53) rfl rfl rfl rfl ?_
      refine go_s (pc' := 54) (st' := [.int 2, .int 2, .int 0, .int (nI y), .ref 62]) rfl rfl rfl rfl ?_
      refine go_s (pc' := 55) (st' := [.int 0, .int 0, .int (nI y), .ref 62]) rfl rfl rfl rfl ?_
      refine go_s (pc' := 56) (st' := [.int 0, .int (nI y), .ref 62]) rfl rfl rfl rfl ?_
      refine go_callV (pc' := 57) rfl rfl rfl (Nat.le_of_ble_eq_true rfl) rfl (sm_o hS rfl) rfl rfl rfl (rs_cp hr hS hW (hW 77 (by decide) (by decide)) (f := y) (g := 0) (by omega) (by decide) (by omega) (by decide) (by omega)) (fun r h104 q105 => ?_)
      obtain ⟨rfl, hS106, hE107⟩ := q105
      rw [cpI_jn] at hS106
      obtain ⟨K7, e7⟩ : ∃ z, z = cpI K y 0 424 := ⟨_, rfl⟩
      rw [← e7] at hS106
      have hz7 : RZ K7 (decide (0 < 2)) 0 m.2 := by
        rw [e7]
        have z := RZ_cp (g := 0) y4
        rw [e5] at z
        exact z
      have hU108 : RU w B R [(x, m)] hb h104 am ln K7 (I, Q, uZ Z 0 m.2) := RU_row (by decide) (fun c j _ hc => by
        rw [e7]
        exact cpI_r (Nat.le_refl _) c j hc) hz7 (RU_I hE107 (fun _ => rfl) (fun _ => rfl) (Nat.le_refl _) hU)
      have hU109 : RU w B R [(x, m)] hb h104 am ln K7 (I, Q, (uZ Z 0 m.2)) := RU_I (sm_e_refl (tbr am (13 * ln) 77 5088) _) (I' := I) (fun _ => rfl) (fun _ => rfl) (Nat.le_refl _) hU108
      have hS110 : sm (tbr am (13 * ln) 77 5088) _ (jn (uI I 40 0 1) K7) Y := sm_jg hr hS106 (fun c j _ n1 n2 n3 => uI_c n3)
      have hU111 : RU w B R [(x, m)] hb h104 am ln K7 ((uI I 40 0 1), Q, (uZ Z 0 m.2)) := RU_I (sm_e_refl (tbr am (13 * ln) 77 5088) _) (fun _ => rfl) (fun _ => rfl) (Nat.le_refl _) hU109
      refine go_s (pc' := 58) rfl rfl rfl rfl ?_
      refine go_s (pc' := 59) rfl rfl rfl rfl ?_
      refine go_s (pc' := 60) rfl rfl rfl rfl ?_
      refine go_s (pc' := 61) (st' := [.int 5, .int (nI f), .int 2, .ref 62]) rfl rfl rfl rfl ?_
      refine go_s (pc' := 62) rfl rfl rfl rfl ?_
      have hU112 : RU w B R [(x, m)] hb h104 am ln K7 ((uI I 40 0 1), Q, (uZ Z 0 m.2)) := RU_I (sm_e_refl (tbr am (13 * ln) 77 5088) _) (I' := (uI I 40 0 1)) (fun _ => rfl) (fun _ => rfl) (Nat.le_refl _) hU111
      by_cases u113 : (uI I 40 0 1) 0 f = 0
      · skip
        refine go_callV (pc' := 63) rfl rfl rfl (Nat.le_of_ble_eq_true rfl) rfl (sm_o hS110 rfl) rfl rfl rfl (rn_snd_0 hS110 hU112 (by omega) (f := 2) (t := f) (by decide) hf u113 (by omega)) (fun r h114 q115 => ?_)
        obtain ⟨rfl, rfl⟩ := q115
        refine go_s (pc' := 64) (lo' := [some (.ref 62), some (.int (nI (13 * x))), some (.int (nI f)), some (.int 2), some (.int 0), some (.int (-1))]) rfl rfl rfl rfl ?_
        refine go_s (pc' := 65) rfl rfl rfl rfl ?_
        refine go_s (pc' := 66) (st' := [.int (-1), .int (-1)]) rfl rfl rfl rfl ?_
        refine go_icmpP (t' := 100) (pc' := 67) rfl rfl rfl (fun _ => ?_) (fun (c : ¬ (((-1) : Int32) = (-1))) => absurd (by decide) c)
        refine go_ret rfl rfl ?_
        have hA116 : RA w B R [(x, m)] hb h114 ((uI I 40 0 1), Q, (uZ Z 0 m.2)) := RA_u.mpr ⟨_, _, _, _, hS110, hU112⟩
        have hms : rbr f 2 m (I, Q, Z) = ((uI I 40 0 1), Q, (uZ Z 0 m.2)) := by
          unfold rbr
          rw [if_neg (show ¬ m.1 0 = 1 by rw [h0]; decide), if_neg (show ¬ m.1 0 = 2 by rw [h0]; decide), if_pos (show m.1 0 = 3 ∨ m.1 0 = 4 from Or.inr h0), ec, show rcy 0 2 m.2 (I, Q, Z) = ((uI I 40 0 1, Q, uZ Z 0 m.2) : mM) from rfl, show rsn 2 f (mgW 0 (m.1 6)) ((uI I 40 0 1, Q, uZ Z 0 m.2) : mM) = ((uI I 40 0 1, Q, uZ Z 0 m.2) : mM) from if_pos u113]
        rw [hms]
        exact ⟨rfl, RA_R (by omega) hA116⟩
      · skip
        refine go_callV (pc' := 63) rfl rfl rfl (Nat.le_of_ble_eq_true rfl) rfl (sm_o hS110 rfl) rfl rfl rfl (rn_snd_1 hS110 hU112 (by omega) (f := 2) (t := f) (by decide) hf u113 (by omega)) (fun r h117 q118 => ?_)
        obtain ⟨x119, am119, ln119, K119, rfl, hS119, hO119⟩ := q118
        obtain ⟨hx119, hln119, hr119, hWm119⟩ := RO_x hO119 (by omega)
        refine go_s (pc' := 64) (lo' := [some (.ref 62), some (.int (nI (13 * x))), some (.int (nI f)), some (.int 2), some (.int 0), some (.int (nI (13 * x119)))]) rfl rfl rfl rfl ?_
        refine go_s (pc' := 65) rfl rfl rfl rfl ?_
        refine go_s (pc' := 66) (st' := [.int (-1), .int (nI (13 * x119))]) rfl rfl rfl rfl ?_
        refine go_icmpP (t' := 100) (pc' := 67) rfl rfl rfl (fun (c : (nI (13 * x119)) = (-1)) => absurd c (nI_nm1 (by omega))) (fun _ => ?_)
        have hxo := RO_h hO119 (y := x) (m := m) (by simp)
        have hxl9 := hxo.1
        refine go_s (pc' := 68) rfl rfl rfl rfl ?_
        refine go_sget (pc' := 69) (v := .ref am119) hS119 rfl rfl rfl (by decide) rfl rfl ?_
        refine go_s (pc' := 70) rfl rfl rfl rfl ?_
        refine go_s (pc' := 71) (st' := [.int 6, .int (nI (13 * x119)), .ref am119]) rfl rfl rfl rfl ?_
        refine go_nadd (pc' := 72) (a := (13 * x119)) (b := 6) rfl rfl rfl rfl rfl ?_
        refine go_s (pc' := 73) rfl rfl rfl rfl ?_
        refine go_sget (pc' := 74) (v := .ref am119) hS119 rfl rfl rfl (by decide) rfl rfl ?_
        refine go_s (pc' := 75) rfl rfl rfl rfl ?_
        refine go_s (pc' := 76) (st' := [.int 6, .int (nI (13 * x)), .ref am119, .int (nI ((13 * x119) + 6)), .ref am119]) rfl rfl rfl rfl ?_
        refine go_nadd (pc' := 77) (a := (13 * x)) (b := 6) rfl rfl rfl rfl rfl ?_
        refine go_sald (pc' := 78) (q := ((13 * x) + 6)) (v := .int (m.1 6)) hS119 rfl (tr_ms hr119 (by omega)) rfl rfl (by omega) (congrArg Value.int (hxo.2 0 (by rw [h0]; decide))) rfl ?_
        refine go_siast (pc' := 79) (q := ((13 * x119) + 6)) hS119 rfl (tr_ms hr119 (by omega)) tbr_inj (Nat.le_of_ble_eq_true rfl) rfl (by omega) (rk_0 hr119).1 hWm119 rfl (fun h120 hS121 hE122 => ?_)
        refine go_s (pc' := 100) rfl rfl rfl rfl ?_
        refine go_ret rfl rfl ?_
        change sm (tbr am119 (13 * ln119) 77 5088) _ (uI (jn (appI (uI I 40 0 1) Q (4 * 2 + f)) K119) 50 ((13 * x119) + 6) (m.1 6)) Y at hS121
        rw [jn_hi (c := 50) (by decide)] at hS121
        have hU123 := RO_cl (K' := (uI K119 50 ((13 * x119) + 6) (m.1 6))) (m := (mgn (mgW 0 (m.1 6)) ((uI I 40 0 1) 9 (4 * 2 + f) + 1))) (by omega) hO119 (hE122) rfl rfl rfl rfl (fun c j _ hc => by
          simp only [uI]
          rw [if_neg (by omega)]) (fun i hi => by
          have hi2 : i < 1 := hi
          match i, hi2 with
            | 0, _ => (repeat (first | rw [uI_e (by omega)] | rw [uI_j (by omega)])) <;> rfl)
        have hA124 : RA w B (R + 1) [(x, m)] hb h120 ((appI (uI I 40 0 1) Q (4 * 2 + f)), (uQ Q (4 * 2 + f) (Q (4 * 2 + f) ++ [(mgn (mgW 0 (m.1 6)) ((uI I 40 0 1) 9 (4 * 2 + f) + 1))])), (uZ Z 0 m.2)) := RA_u.mpr ⟨_, _, _, _, hS121, hU123⟩
        have hms : rbr f 2 m (I, Q, Z) = ((appI (uI I 40 0 1) Q (4 * 2 + f)), (uQ Q (4 * 2 + f) (Q (4 * 2 + f) ++ [(mgn (mgW 0 (m.1 6)) ((uI I 40 0 1) 9 (4 * 2 + f) + 1))])), (uZ Z 0 m.2)) := by
          unfold rbr
          rw [if_neg (show ¬ m.1 0 = 1 by rw [h0]; decide), if_neg (show ¬ m.1 0 = 2 by rw [h0]; decide), if_pos (show m.1 0 = 3 ∨ m.1 0 = 4 from Or.inr h0), ec, show rcy 0 2 m.2 (I, Q, Z) = ((uI I 40 0 1, Q, uZ Z 0 m.2) : mM) from rfl, show rsn 2 f (mgW 0 (m.1 6)) ((uI I 40 0 1, Q, uZ Z 0 m.2) : mM) = mapp (4 * 2 + f) (mgW 0 (m.1 6)) ((uI I 40 0 1, Q, uZ Z 0 m.2) : mM) from if_neg u113]
          rw [show mapp (4 * 2 + f) (mgW 0 (m.1 6)) ((uI I 40 0 1, Q, uZ Z 0 m.2) : mM) = ((appI (uI I 40 0 1) Q (4 * 2 + f)), (uQ Q (4 * 2 + f) (Q (4 * 2 + f) ++ [(mgn (mgW 0 (m.1 6)) ((uI I 40 0 1) 9 (4 * 2 + f) + 1))])), (uZ Z 0 m.2)) from rfl]
        rw [hms]
        exact ⟨rfl, RA_R (by omega) hA124⟩
    · skip
      have ec : (m.1 5).toNatClampNeg = 1 := by rw [e5]; rfl
      refine go_s (pc' := 1) rfl rfl rfl rfl ?_
      refine go_sget (pc' := 2) (v := .ref am) hS rfl rfl rfl (by decide) rfl rfl ?_
      refine go_s (pc' := 3) rfl rfl rfl rfl ?_
      refine go_s (pc' := 4) (st' := [.int 5, .int (nI (13 * x)), .ref am]) rfl rfl rfl rfl ?_
      refine go_nadd (pc' := 5) (a := (13 * x)) (b := 5) rfl rfl rfl rfl rfl ?_
      refine go_sald (pc' := 6) (q := ((13 * x) + 5)) (v := .int 1) hS rfl (tr_ms hr (by omega)) rfl rfl (by omega) (congrArg Value.int (hx.2.2.2.1.trans e5)) rfl ?_
      refine go_s (pc' := 7) (lo' := [some (.ref 62), some (.int (nI (13 * x))), some (.int (nI f)), some (.int 2), some (.int 1), none]) rfl rfl rfl rfl ?_
      refine go_s (pc' := 8) rfl rfl rfl rfl ?_
      refine go_sget (pc' := 9) (v := .ref am) hS rfl rfl rfl (by decide) rfl rfl ?_
      refine go_s (pc' := 10) rfl rfl rfl rfl ?_
      refine go_s (pc' := 11) (st' := [.int 0, .int (nI (13 * x)), .ref am]) rfl rfl rfl rfl ?_
      refine go_nadd (pc' := 12) (a := (13 * x)) (b := 0) rfl rfl rfl rfl rfl ?_
      refine go_sald (pc' := 13) (q := ((13 * x) + 0)) (v := .int 4) hS rfl (tr_ms hr (by omega)) rfl rfl (by omega) (congrArg Value.int (hx.2.1.trans h0)) rfl ?_
      refine go_tsw (t' := 42) rfl (Or.inr ⟨by decide, rfl⟩) rfl ?_
      refine go_s (pc' := 43) rfl rfl rfl rfl ?_
      refine go_s (pc' := 44) rfl rfl rfl rfl ?_
      refine go_sget (pc' := 45) (v := .ref am) hS rfl rfl rfl (by decide) rfl rfl ?_
      refine go_s (pc' := 46) rfl rfl rfl rfl ?_
      refine go_s (pc' := 47) (st' := [.int 12, .int (nI (13 * x)), .ref am, .ref 62]) rfl rfl rfl rfl ?_
      refine go_nadd (pc' := 48) (a := (13 * x)) (b := 12) rfl rfl rfl rfl rfl ?_
      refine go_sald (pc' := 49) (q := ((13 * x) + 12)) (v := .int (nI y)) hS rfl (tr_ms hr (by omega)) rfl rfl (by omega) (congrArg Value.int y3) rfl ?_
      refine go_s (pc' := 50) (st' := [.int 2, .int (nI y), .ref 62]) rfl rfl rfl rfl ?_
      refine go_s (pc' := 51) rfl rfl rfl rfl ?_
      refine go_s (pc' := 52) (st' := [.int 2, .int (nI y), .ref 62]) rfl rfl rfl rfl ?_
      refine go_s (pc' := 53) rfl rfl rfl rfl ?_
      refine go_s (pc' := 54) (st' := [.int 2, .int 2, .int 2, .int (nI y), .ref 62]) rfl rfl rfl rfl ?_
      refine go_s (pc' := 55) (st' := [.int 0, .int 2, .int (nI y), .ref 62]) rfl rfl rfl rfl ?_
      refine go_s (pc' := 56) (st' := [.int 2, .int (nI y), .ref 62]) rfl rfl rfl rfl ?_
      refine go_callV (pc' := 57) rfl rfl rfl (Nat.le_of_ble_eq_true rfl) rfl (sm_o hS rfl) rfl rfl rfl (rs_cp hr hS hW (hW 77 (by decide) (by decide)) (f := y) (g := 2) (by omega) (by decide) (by omega) (by decide) (by omega)) (fun r h125 q126 => ?_)
      obtain ⟨rfl, hS127, hE128⟩ := q126
      rw [cpI_jn] at hS127
      obtain ⟨K7, e7⟩ : ∃ z, z = cpI K y 2 424 := ⟨_, rfl⟩
      rw [← e7] at hS127
      have hz7 : RZ K7 (decide (2 < 2)) 2 m.2 := by
        rw [e7]
        have z := RZ_cp (g := 2) y4
        rw [e5] at z
        exact z
      have hU129 : RU w B R [(x, m)] hb h125 am ln K7 (I, Q, uZ Z 2 m.2) := RU_row (by decide) (fun c j _ hc => by
        rw [e7]
        exact cpI_r (Nat.le_refl _) c j hc) hz7 (RU_I hE128 (fun _ => rfl) (fun _ => rfl) (Nat.le_refl _) hU)
      have hU130 : RU w B R [(x, m)] hb h125 am ln K7 (I, Q, (uZ Z 2 m.2)) := RU_I (sm_e_refl (tbr am (13 * ln) 77 5088) _) (I' := I) (fun _ => rfl) (fun _ => rfl) (Nat.le_refl _) hU129
      have hS131 : sm (tbr am (13 * ln) 77 5088) _ (jn (uI I 40 1 1) K7) Y := sm_jg hr hS127 (fun c j _ n1 n2 n3 => uI_c n3)
      have hU132 : RU w B R [(x, m)] hb h125 am ln K7 ((uI I 40 1 1), Q, (uZ Z 2 m.2)) := RU_I (sm_e_refl (tbr am (13 * ln) 77 5088) _) (fun _ => rfl) (fun _ => rfl) (Nat.le_refl _) hU130
      refine go_s (pc' := 58) rfl rfl rfl rfl ?_
      refine go_s (pc' := 59) rfl rfl rfl rfl ?_
      refine go_s (pc' := 60) rfl rfl rfl rfl ?_
      refine go_s (pc' := 61) (st' := [.int 5, .int (nI f), .int 2, .ref 62]) rfl rfl rfl rfl ?_
      refine go_s (pc' := 62) rfl rfl rfl rfl ?_
      have hU133 : RU w B R [(x, m)] hb h125 am ln K7 ((uI I 40 1 1), Q, (uZ Z 2 m.2)) := RU_I (sm_e_refl (tbr am (13 * ln) 77 5088) _) (I' := (uI I 40 1 1)) (fun _ => rfl) (fun _ => rfl) (Nat.le_refl _) hU132
      by_cases u134 : (uI I 40 1 1) 0 f = 0
      · skip
        refine go_callV (pc' := 63) rfl rfl rfl (Nat.le_of_ble_eq_true rfl) rfl (sm_o hS131 rfl) rfl rfl rfl (rn_snd_0 hS131 hU133 (by omega) (f := 2) (t := f) (by decide) hf u134 (by omega)) (fun r h135 q136 => ?_)
        obtain ⟨rfl, rfl⟩ := q136
        refine go_s (pc' := 64) (lo' := [some (.ref 62), some (.int (nI (13 * x))), some (.int (nI f)), some (.int 2), some (.int 1), some (.int (-1))]) rfl rfl rfl rfl ?_
        refine go_s (pc' := 65) rfl rfl rfl rfl ?_
        refine go_s (pc' := 66) (st' := [.int (-1), .int (-1)]) rfl rfl rfl rfl ?_
        refine go_icmpP (t' := 100) (pc' := 67) rfl rfl rfl (fun _ => ?_) (fun (c : ¬ (((-1) : Int32) = (-1))) => absurd (by decide) c)
        refine go_ret rfl rfl ?_
        have hA137 : RA w B R [(x, m)] hb h135 ((uI I 40 1 1), Q, (uZ Z 2 m.2)) := RA_u.mpr ⟨_, _, _, _, hS131, hU133⟩
        have hms : rbr f 2 m (I, Q, Z) = ((uI I 40 1 1), Q, (uZ Z 2 m.2)) := by
          unfold rbr
          rw [if_neg (show ¬ m.1 0 = 1 by rw [h0]; decide), if_neg (show ¬ m.1 0 = 2 by rw [h0]; decide), if_pos (show m.1 0 = 3 ∨ m.1 0 = 4 from Or.inr h0), ec, show rcy 1 2 m.2 (I, Q, Z) = ((uI I 40 1 1, Q, uZ Z 2 m.2) : mM) from rfl, show rsn 2 f (mgW 1 (m.1 6)) ((uI I 40 1 1, Q, uZ Z 2 m.2) : mM) = ((uI I 40 1 1, Q, uZ Z 2 m.2) : mM) from if_pos u134]
        rw [hms]
        exact ⟨rfl, RA_R (by omega) hA137⟩
      · skip
        refine go_callV (pc' := 63) rfl rfl rfl (Nat.le_of_ble_eq_true rfl) rfl (sm_o hS131 rfl) rfl rfl rfl (rn_snd_1 hS131 hU133 (by omega) (f := 2) (t := f) (by decide) hf u134 (by omega)) (fun r h138 q139 => ?_)
        obtain ⟨x140, am140, ln140, K140, rfl, hS140, hO140⟩ := q139
        obtain ⟨hx140, hln140, hr140, hWm140⟩ := RO_x hO140 (by omega)
        refine go_s (pc' := 64) (lo' := [some (.ref 62), some (.int (nI (13 * x))), some (.int (nI f)), some (.int 2), some (.int 1), some (.int (nI (13 * x140)))]) rfl rfl rfl rfl ?_
        refine go_s (pc' := 65) rfl rfl rfl rfl ?_
        refine go_s (pc' := 66) (st' := [.int (-1), .int (nI (13 * x140))]) rfl rfl rfl rfl ?_
        refine go_icmpP (t' := 100) (pc' := 67) rfl rfl rfl (fun (c : (nI (13 * x140)) = (-1)) => absurd c (nI_nm1 (by omega))) (fun _ => ?_)
        have hxo := RO_h hO140 (y := x) (m := m) (by simp)
        have hxl9 := hxo.1
        refine go_s (pc' := 68) rfl rfl rfl rfl ?_
        refine go_sget (pc' := 69) (v := .ref am140) hS140 rfl rfl rfl (by decide) rfl rfl ?_
        refine go_s (pc' := 70) rfl rfl rfl rfl ?_
        refine go_s (pc' := 71) (st' := [.int 6, .int (nI (13 * x140)), .ref am140]) rfl rfl rfl rfl ?_
        refine go_nadd (pc' := 72) (a := (13 * x140)) (b := 6) rfl rfl rfl rfl rfl ?_
        refine go_s (pc' := 73) rfl rfl rfl rfl ?_
        refine go_sget (pc' := 74) (v := .ref am140) hS140 rfl rfl rfl (by decide) rfl rfl ?_
        refine go_s (pc' := 75) rfl rfl rfl rfl ?_
        refine go_s (pc' := 76) (st' := [.int 6, .int (nI (13 * x)), .ref am140, .int (nI ((13 * x140) + 6)), .ref am140]) rfl rfl rfl rfl ?_
        refine go_nadd (pc' := 77) (a := (13 * x)) (b := 6) rfl rfl rfl rfl rfl ?_
        refine go_sald (pc' := 78) (q := ((13 * x) + 6)) (v := .int (m.1 6)) hS140 rfl (tr_ms hr140 (by omega)) rfl rfl (by omega) (congrArg Value.int (hxo.2 0 (by rw [h0]; decide))) rfl ?_
        refine go_siast (pc' := 79) (q := ((13 * x140) + 6)) hS140 rfl (tr_ms hr140 (by omega)) tbr_inj (Nat.le_of_ble_eq_true rfl) rfl (by omega) (rk_0 hr140).1 hWm140 rfl (fun h141 hS142 hE143 => ?_)
        refine go_s (pc' := 100) rfl rfl rfl rfl ?_
        refine go_ret rfl rfl ?_
        change sm (tbr am140 (13 * ln140) 77 5088) _ (uI (jn (appI (uI I 40 1 1) Q (4 * 2 + f)) K140) 50 ((13 * x140) + 6) (m.1 6)) Y at hS142
        rw [jn_hi (c := 50) (by decide)] at hS142
        have hU144 := RO_cl (K' := (uI K140 50 ((13 * x140) + 6) (m.1 6))) (m := (mgn (mgW 1 (m.1 6)) ((uI I 40 1 1) 9 (4 * 2 + f) + 1))) (by omega) hO140 (hE143) rfl rfl rfl rfl (fun c j _ hc => by
          simp only [uI]
          rw [if_neg (by omega)]) (fun i hi => by
          have hi2 : i < 1 := hi
          match i, hi2 with
            | 0, _ => (repeat (first | rw [uI_e (by omega)] | rw [uI_j (by omega)])) <;> rfl)
        have hA145 : RA w B (R + 1) [(x, m)] hb h141 ((appI (uI I 40 1 1) Q (4 * 2 + f)), (uQ Q (4 * 2 + f) (Q (4 * 2 + f) ++ [(mgn (mgW 1 (m.1 6)) ((uI I 40 1 1) 9 (4 * 2 + f) + 1))])), (uZ Z 2 m.2)) := RA_u.mpr ⟨_, _, _, _, hS142, hU144⟩
        have hms : rbr f 2 m (I, Q, Z) = ((appI (uI I 40 1 1) Q (4 * 2 + f)), (uQ Q (4 * 2 + f) (Q (4 * 2 + f) ++ [(mgn (mgW 1 (m.1 6)) ((uI I 40 1 1) 9 (4 * 2 + f) + 1))])), (uZ Z 2 m.2)) := by
          unfold rbr
          rw [if_neg (show ¬ m.1 0 = 1 by rw [h0]; decide), if_neg (show ¬ m.1 0 = 2 by rw [h0]; decide), if_pos (show m.1 0 = 3 ∨ m.1 0 = 4 from Or.inr h0), ec, show rcy 1 2 m.2 (I, Q, Z) = ((uI I 40 1 1, Q, uZ Z 2 m.2) : mM) from rfl, show rsn 2 f (mgW 1 (m.1 6)) ((uI I 40 1 1, Q, uZ Z 2 m.2) : mM) = mapp (4 * 2 + f) (mgW 1 (m.1 6)) ((uI I 40 1 1, Q, uZ Z 2 m.2) : mM) from if_neg u134]
          rw [show mapp (4 * 2 + f) (mgW 1 (m.1 6)) ((uI I 40 1 1, Q, uZ Z 2 m.2) : mM) = ((appI (uI I 40 1 1) Q (4 * 2 + f)), (uQ Q (4 * 2 + f) (Q (4 * 2 + f) ++ [(mgn (mgW 1 (m.1 6)) ((uI I 40 1 1) 9 (4 * 2 + f) + 1))])), (uZ Z 2 m.2)) from rfl]
        rw [hms]
        exact ⟨rfl, RA_R (by omega) hA145⟩
    · skip
      have ec : (m.1 5).toNatClampNeg = 2 := by rw [e5]; rfl
      refine go_s (pc' := 1) rfl rfl rfl rfl ?_
      refine go_sget (pc' := 2) (v := .ref am) hS rfl rfl rfl (by decide) rfl rfl ?_
      refine go_s (pc' := 3) rfl rfl rfl rfl ?_
      refine go_s (pc' := 4) (st' := [.int 5, .int (nI (13 * x)), .ref am]) rfl rfl rfl rfl ?_
      refine go_nadd (pc' := 5) (a := (13 * x)) (b := 5) rfl rfl rfl rfl rfl ?_
      refine go_sald (pc' := 6) (q := ((13 * x) + 5)) (v := .int 2) hS rfl (tr_ms hr (by omega)) rfl rfl (by omega) (congrArg Value.int (hx.2.2.2.1.trans e5)) rfl ?_
      refine go_s (pc' := 7) (lo' := [some (.ref 62), some (.int (nI (13 * x))), some (.int (nI f)), some (.int 2), some (.int 2), none]) rfl rfl rfl rfl ?_
      refine go_s (pc' := 8) rfl rfl rfl rfl ?_
      refine go_sget (pc' := 9) (v := .ref am) hS rfl rfl rfl (by decide) rfl rfl ?_
      refine go_s (pc' := 10) rfl rfl rfl rfl ?_
      refine go_s (pc' := 11) (st' := [.int 0, .int (nI (13 * x)), .ref am]) rfl rfl rfl rfl ?_
      refine go_nadd (pc' := 12) (a := (13 * x)) (b := 0) rfl rfl rfl rfl rfl ?_
      refine go_sald (pc' := 13) (q := ((13 * x) + 0)) (v := .int 4) hS rfl (tr_ms hr (by omega)) rfl rfl (by omega) (congrArg Value.int (hx.2.1.trans h0)) rfl ?_
      refine go_tsw (t' := 42) rfl (Or.inr ⟨by decide, rfl⟩) rfl ?_
      refine go_s (pc' := 43) rfl rfl rfl rfl ?_
      refine go_s (pc' := 44) rfl rfl rfl rfl ?_
      refine go_sget (pc' := 45) (v := .ref am) hS rfl rfl rfl (by decide) rfl rfl ?_
      refine go_s (pc' := 46) rfl rfl rfl rfl ?_
      refine go_s (pc' := 47) (st' := [.int 12, .int (nI (13 * x)), .ref am, .ref 62]) rfl rfl rfl rfl ?_
      refine go_nadd (pc' := 48) (a := (13 * x)) (b := 12) rfl rfl rfl rfl rfl ?_
      refine go_sald (pc' := 49) (q := ((13 * x) + 12)) (v := .int (nI y)) hS rfl (tr_ms hr (by omega)) rfl rfl (by omega) (congrArg Value.int y3) rfl ?_
      refine go_s (pc' := 50) (st' := [.int 2, .int (nI y), .ref 62]) rfl rfl rfl rfl ?_
      refine go_s (pc' := 51) rfl rfl rfl rfl ?_
      refine go_s (pc' := 52) (st' := [.int 4, .int (nI y), .ref 62]) rfl rfl rfl rfl ?_
      refine go_s (pc' := 53) rfl rfl rfl rfl ?_
      refine go_s (pc' := 54) (st' := [.int 2, .int 2, .int 4, .int (nI y), .ref 62]) rfl rfl rfl rfl ?_
      refine go_s (pc' := 55) (st' := [.int 0, .int 4, .int (nI y), .ref 62]) rfl rfl rfl rfl ?_
      refine go_s (pc' := 56) (st' := [.int 4, .int (nI y), .ref 62]) rfl rfl rfl rfl ?_
      refine go_callV (pc' := 57) rfl rfl rfl (Nat.le_of_ble_eq_true rfl) rfl (sm_o hS rfl) rfl rfl rfl (rs_cp hr hS hW (hW 77 (by decide) (by decide)) (f := y) (g := 4) (by omega) (by decide) (by omega) (by decide) (by omega)) (fun r h146 q147 => ?_)
      obtain ⟨rfl, hS148, hE149⟩ := q147
      rw [cpI_jn] at hS148
      obtain ⟨K7, e7⟩ : ∃ z, z = cpI K y 4 424 := ⟨_, rfl⟩
      rw [← e7] at hS148
      have hz7 : RZ K7 (decide (4 < 2)) 4 m.2 := by
        rw [e7]
        have z := RZ_cp (g := 4) y4
        rw [e5] at z
        exact z
      have hU150 : RU w B R [(x, m)] hb h146 am ln K7 (I, Q, uZ Z 4 m.2) := RU_row (by decide) (fun c j _ hc => by
        rw [e7]
        exact cpI_r (Nat.le_refl _) c j hc) hz7 (RU_I hE149 (fun _ => rfl) (fun _ => rfl) (Nat.le_refl _) hU)
      have hU151 : RU w B R [(x, m)] hb h146 am ln K7 (I, Q, (uZ Z 4 m.2)) := RU_I (sm_e_refl (tbr am (13 * ln) 77 5088) _) (I' := I) (fun _ => rfl) (fun _ => rfl) (Nat.le_refl _) hU150
      have hS152 : sm (tbr am (13 * ln) 77 5088) _ (jn (uI I 40 2 1) K7) Y := sm_jg hr hS148 (fun c j _ n1 n2 n3 => uI_c n3)
      have hU153 : RU w B R [(x, m)] hb h146 am ln K7 ((uI I 40 2 1), Q, (uZ Z 4 m.2)) := RU_I (sm_e_refl (tbr am (13 * ln) 77 5088) _) (fun _ => rfl) (fun _ => rfl) (Nat.le_refl _) hU151
      refine go_s (pc' := 58) rfl rfl rfl rfl ?_
      refine go_s (pc' := 59) rfl rfl rfl rfl ?_
      refine go_s (pc' := 60) rfl rfl rfl rfl ?_
      refine go_s (pc' := 61) (st' := [.int 5, .int (nI f), .int 2, .ref 62]) rfl rfl rfl rfl ?_
      refine go_s (pc' := 62) rfl rfl rfl rfl ?_
      have hU154 : RU w B R [(x, m)] hb h146 am ln K7 ((uI I 40 2 1), Q, (uZ Z 4 m.2)) := RU_I (sm_e_refl (tbr am (13 * ln) 77 5088) _) (I' := (uI I 40 2 1)) (fun _ => rfl) (fun _ => rfl) (Nat.le_refl _) hU153
      by_cases u155 : (uI I 40 2 1) 0 f = 0
      · skip
        refine go_callV (pc' := 63) rfl rfl rfl (Nat.le_of_ble_eq_true rfl) rfl (sm_o hS152 rfl) rfl rfl rfl (rn_snd_0 hS152 hU154 (by omega) (f := 2) (t := f) (by decide) hf u155 (by omega)) (fun r h156 q157 => ?_)
        obtain ⟨rfl, rfl⟩ := q157
        refine go_s (pc' := 64) (lo' := [some (.ref 62), some (.int (nI (13 * x))), some (.int (nI f)), some (.int 2), some (.int 2), some (.int (-1))]) rfl rfl rfl rfl ?_
        refine go_s (pc' := 65) rfl rfl rfl rfl ?_
        refine go_s (pc' := 66) (st' := [.int (-1), .int (-1)]) rfl rfl rfl rfl ?_
        refine go_icmpP (t' := 100) (pc' := 67) rfl rfl rfl (fun _ => ?_) (fun (c : ¬ (((-1) : Int32) = (-1))) => absurd (by decide) c)
        refine go_ret rfl rfl ?_
        have hA158 : RA w B R [(x, m)] hb h156 ((uI I 40 2 1), Q, (uZ Z 4 m.2)) := RA_u.mpr ⟨_, _, _, _, hS152, hU154⟩
        have hms : rbr f 2 m (I, Q, Z) = ((uI I 40 2 1), Q, (uZ Z 4 m.2)) := by
          unfold rbr
          rw [if_neg (show ¬ m.1 0 = 1 by rw [h0]; decide), if_neg (show ¬ m.1 0 = 2 by rw [h0]; decide), if_pos (show m.1 0 = 3 ∨ m.1 0 = 4 from Or.inr h0), ec, show rcy 2 2 m.2 (I, Q, Z) = ((uI I 40 2 1, Q, uZ Z 4 m.2) : mM) from rfl, show rsn 2 f (mgW 2 (m.1 6)) ((uI I 40 2 1, Q, uZ Z 4 m.2) : mM) = ((uI I 40 2 1, Q, uZ Z 4 m.2) : mM) from if_pos u155]
        rw [hms]
        exact ⟨rfl, RA_R (by omega) hA158⟩
      · skip
        refine go_callV (pc' := 63) rfl rfl rfl (Nat.le_of_ble_eq_true rfl) rfl (sm_o hS152 rfl) rfl rfl rfl (rn_snd_1 hS152 hU154 (by omega) (f := 2) (t := f) (by decide) hf u155 (by omega)) (fun r h159 q160 => ?_)
        obtain ⟨x161, am161, ln161, K161, rfl, hS161, hO161⟩ := q160
        obtain ⟨hx161, hln161, hr161, hWm161⟩ := RO_x hO161 (by omega)
        refine go_s (pc' := 64) (lo' := [some (.ref 62), some (.int (nI (13 * x))), some (.int (nI f)), some (.int 2), some (.int 2), some (.int (nI (13 * x161)))]) rfl rfl rfl rfl ?_
        refine go_s (pc' := 65) rfl rfl rfl rfl ?_
        refine go_s (pc' := 66) (st' := [.int (-1), .int (nI (13 * x161))]) rfl rfl rfl rfl ?_
        refine go_icmpP (t' := 100) (pc' := 67) rfl rfl rfl (fun (c : (nI (13 * x161)) = (-1)) => absurd c (nI_nm1 (by omega))) (fun _ => ?_)
        have hxo := RO_h hO161 (y := x) (m := m) (by simp)
        have hxl9 := hxo.1
        refine go_s (pc' := 68) rfl rfl rfl rfl ?_
        refine go_sget (pc' := 69) (v := .ref am161) hS161 rfl rfl rfl (by decide) rfl rfl ?_
        refine go_s (pc' := 70) rfl rfl rfl rfl ?_
        refine go_s (pc' := 71) (st' := [.int 6, .int (nI (13 * x161)), .ref am161]) rfl rfl rfl rfl ?_
        refine go_nadd (pc' := 72) (a := (13 * x161)) (b := 6) rfl rfl rfl rfl rfl ?_
        refine go_s (pc' := 73) rfl rfl rfl rfl ?_
        refine go_sget (pc' := 74) (v := .ref am161) hS161 rfl rfl rfl (by decide) rfl rfl ?_
        refine go_s (pc' := 75) rfl rfl rfl rfl ?_
        refine go_s (pc' := 76) (st' := [.int 6, .int (nI (13 * x)), .ref am161, .int (nI ((13 * x161) + 6)), .ref am161]) rfl rfl rfl rfl ?_
        refine go_nadd (pc' := 77) (a := (13 * x)) (b := 6) rfl rfl rfl rfl rfl ?_
        refine go_sald (pc' := 78) (q := ((13 * x) + 6)) (v := .int (m.1 6)) hS161 rfl (tr_ms hr161 (by omega)) rfl rfl (by omega) (congrArg Value.int (hxo.2 0 (by rw [h0]; decide))) rfl ?_
        refine go_siast (pc' := 79) (q := ((13 * x161) + 6)) hS161 rfl (tr_ms hr161 (by omega)) tbr_inj (Nat.le_of_ble_eq_true rfl) rfl (by omega) (rk_0 hr161).1 hWm161 rfl (fun h162 hS163 hE164 => ?_)
        refine go_s (pc' := 100) rfl rfl rfl rfl ?_
        refine go_ret rfl rfl ?_
        change sm (tbr am161 (13 * ln161) 77 5088) _ (uI (jn (appI (uI I 40 2 1) Q (4 * 2 + f)) K161) 50 ((13 * x161) + 6) (m.1 6)) Y at hS163
        rw [jn_hi (c := 50) (by decide)] at hS163
        have hU165 := RO_cl (K' := (uI K161 50 ((13 * x161) + 6) (m.1 6))) (m := (mgn (mgW 2 (m.1 6)) ((uI I 40 2 1) 9 (4 * 2 + f) + 1))) (by omega) hO161 (hE164) rfl rfl rfl rfl (fun c j _ hc => by
          simp only [uI]
          rw [if_neg (by omega)]) (fun i hi => by
          have hi2 : i < 1 := hi
          match i, hi2 with
            | 0, _ => (repeat (first | rw [uI_e (by omega)] | rw [uI_j (by omega)])) <;> rfl)
        have hA166 : RA w B (R + 1) [(x, m)] hb h162 ((appI (uI I 40 2 1) Q (4 * 2 + f)), (uQ Q (4 * 2 + f) (Q (4 * 2 + f) ++ [(mgn (mgW 2 (m.1 6)) ((uI I 40 2 1) 9 (4 * 2 + f) + 1))])), (uZ Z 4 m.2)) := RA_u.mpr ⟨_, _, _, _, hS163, hU165⟩
        have hms : rbr f 2 m (I, Q, Z) = ((appI (uI I 40 2 1) Q (4 * 2 + f)), (uQ Q (4 * 2 + f) (Q (4 * 2 + f) ++ [(mgn (mgW 2 (m.1 6)) ((uI I 40 2 1) 9 (4 * 2 + f) + 1))])), (uZ Z 4 m.2)) := by
          unfold rbr
          rw [if_neg (show ¬ m.1 0 = 1 by rw [h0]; decide), if_neg (show ¬ m.1 0 = 2 by rw [h0]; decide), if_pos (show m.1 0 = 3 ∨ m.1 0 = 4 from Or.inr h0), ec, show rcy 2 2 m.2 (I, Q, Z) = ((uI I 40 2 1, Q, uZ Z 4 m.2) : mM) from rfl, show rsn 2 f (mgW 2 (m.1 6)) ((uI I 40 2 1, Q, uZ Z 4 m.2) : mM) = mapp (4 * 2 + f) (mgW 2 (m.1 6)) ((uI I 40 2 1, Q, uZ Z 4 m.2) : mM) from if_neg u155]
          rw [show mapp (4 * 2 + f) (mgW 2 (m.1 6)) ((uI I 40 2 1, Q, uZ Z 4 m.2) : mM) = ((appI (uI I 40 2 1) Q (4 * 2 + f)), (uQ Q (4 * 2 + f) (Q (4 * 2 + f) ++ [(mgn (mgW 2 (m.1 6)) ((uI I 40 2 1) 9 (4 * 2 + f) + 1))])), (uZ Z 4 m.2)) from rfl]
        rw [hms]
        exact ⟨rfl, RA_R (by omega) hA166⟩
  · skip
    have hhc : hc [(x, m)] hb = 0 := by
      have z : isS m = false := by unfold isS; rw [h0]; rfl
      cases hb
      · rfl
      · show List.countP (fun p => isS p.2) [(x, m)] = 0
        simp [z]
    obtain ⟨k9, hk9, e5⟩ := mk3 (Or.inr (Or.inr h0))
    obtain rfl | rfl | rfl : k9 = 0 ∨ k9 = 1 ∨ k9 = 2 := by omega
    · skip
      have ec : (m.1 5).toNatClampNeg = 0 := by rw [e5]; rfl
      refine go_s (pc' := 1) rfl rfl rfl rfl ?_
      refine go_sget (pc' := 2) (v := .ref am) hS rfl rfl rfl (by decide) rfl rfl ?_
      refine go_s (pc' := 3) rfl rfl rfl rfl ?_
      refine go_s (pc' := 4) (st' := [.int 5, .int (nI (13 * x)), .ref am]) rfl rfl rfl rfl ?_
      refine go_nadd (pc' := 5) (a := (13 * x)) (b := 5) rfl rfl rfl rfl rfl ?_
      refine go_sald (pc' := 6) (q := ((13 * x) + 5)) (v := .int 0) hS rfl (tr_ms hr (by omega)) rfl rfl (by omega) (congrArg Value.int (hx.2.2.2.1.trans e5)) rfl ?_
      refine go_s (pc' := 7) (lo' := [some (.ref 62), some (.int (nI (13 * x))), some (.int (nI f)), some (.int 2), some (.int 0), none]) rfl rfl rfl rfl ?_
      refine go_s (pc' := 8) rfl rfl rfl rfl ?_
      refine go_sget (pc' := 9) (v := .ref am) hS rfl rfl rfl (by decide) rfl rfl ?_
      refine go_s (pc' := 10) rfl rfl rfl rfl ?_
      refine go_s (pc' := 11) (st' := [.int 0, .int (nI (13 * x)), .ref am]) rfl rfl rfl rfl ?_
      refine go_nadd (pc' := 12) (a := (13 * x)) (b := 0) rfl rfl rfl rfl rfl ?_
      refine go_sald (pc' := 13) (q := ((13 * x) + 0)) (v := .int 5) hS rfl (tr_ms hr (by omega)) rfl rfl (by omega) (congrArg Value.int (hx.2.1.trans h0)) rfl ?_
      refine go_tsw (t' := 80) rfl (Or.inl ⟨by decide, rfl⟩) rfl ?_
      refine go_s (pc' := 81) rfl rfl rfl rfl ?_
      refine go_sget (pc' := 82) (v := .ref 78) hS rfl rfl rfl (by decide) rfl rfl ?_
      refine go_s (pc' := 83) rfl rfl rfl rfl ?_
      refine go_sald (pc' := 84) (q := 0) (v := .int (I 11 0)) hS rfl (tr_s hr (a := 78) rfl (by decide)) rfl rfl (by decide) rfl rfl ?_
      refine go_s (pc' := 85) rfl rfl rfl rfl ?_
      refine go_icmpP (t' := 100) (pc' := 86) rfl rfl rfl (fun (c167 : ¬ (I 11 0) = 2) => ?_) (fun (c167' : ¬ ¬ (I 11 0) = 2) => ?_)
      · skip
        refine go_ret rfl rfl ?_
        have hms : rbr f 2 m (I, Q, Z) = (I, Q, Z) := by
          unfold rbr
          rw [if_neg (show ¬ m.1 0 = 1 by rw [h0]; decide), if_neg (show ¬ m.1 0 = 2 by rw [h0]; decide), if_neg (show ¬ (m.1 0 = 3 ∨ m.1 0 = 4) by rw [h0]; decide), ec, if_neg (fun z => c167 z.1)]
        rw [hms]
        exact ⟨rfl, RA_R (by omega) hA⟩
      · skip
        have c167 : (I 11 0) = 2 := Decidable.not_not.mp c167'
        refine go_s (pc' := 87) rfl rfl rfl rfl ?_
        refine go_sget (pc' := 88) (v := .ref am) hS rfl rfl rfl (by decide) rfl rfl ?_
        refine go_s (pc' := 89) rfl rfl rfl rfl ?_
        refine go_s (pc' := 90) (st' := [.int 6, .int (nI (13 * x)), .ref am]) rfl rfl rfl rfl ?_
        refine go_nadd (pc' := 91) (a := (13 * x)) (b := 6) rfl rfl rfl rfl rfl ?_
        refine go_sald (pc' := 92) (q := ((13 * x) + 6)) (v := .int (m.1 6)) hS rfl (tr_ms hr (by omega)) rfl rfl (by omega) (congrArg Value.int (hx.2.2.2.2.1 0 (by rw [h0]; decide))) rfl ?_
        refine go_s (pc' := 93) rfl rfl rfl rfl ?_
        refine go_sget (pc' := 94) (v := .ref 82) hS rfl rfl rfl (by decide) rfl rfl ?_
        refine go_s (pc' := 95) rfl rfl rfl rfl ?_
        refine go_sald (pc' := 96) (q := 0) (v := .int (I 15 0)) hS rfl (tr_s hr (a := 82) rfl (by decide)) rfl rfl (by decide) rfl rfl ?_
        refine go_icmpP (t' := 100) (pc' := 97) rfl rfl rfl (fun (c168 : ¬ (m.1 6) = (I 15 0)) => ?_) (fun (c168' : ¬ ¬ (m.1 6) = (I 15 0)) => ?_)
        · skip
          refine go_ret rfl rfl ?_
          have hms : rbr f 2 m (I, Q, Z) = (I, Q, Z) := by
            unfold rbr
            rw [if_neg (show ¬ m.1 0 = 1 by rw [h0]; decide), if_neg (show ¬ m.1 0 = 2 by rw [h0]; decide), if_neg (show ¬ (m.1 0 = 3 ∨ m.1 0 = 4) by rw [h0]; decide), ec, if_neg (fun z => c168 z.2)]
          rw [hms]
          exact ⟨rfl, RA_R (by omega) hA⟩
        · skip
          have c168 : (m.1 6) = (I 15 0) := Decidable.not_not.mp c168'
          refine go_s (pc' := 98) rfl rfl rfl rfl ?_
          refine go_s (pc' := 99) rfl rfl rfl rfl ?_
          obtain ⟨hns, hgo⟩ := hwd 0 (by decide) h0 e5 c168
          have h5q : sq Q ≤ 5 := sq_5 (X := X) (k := 0) (M := (I, Q, Z)) (by omega) hN.1 (by decide) hns
          have hnk : ¬ I 11 0 = -1 := fun z => absurd (c167.symm.trans z) (by decide)
          have hU169 : RU w B R [(x, m)] hb h am ln K (I, Q, Z) := RU_I (sm_e_refl (tbr am (13 * ln) 77 5088) _) (I' := I) (fun _ => rfl) (fun _ => rfl) (Nat.le_refl _) hU
          have hA170 : RA w B R [(x, m)] hb h (I, Q, Z) := RA_u.mpr ⟨_, _, _, _, hS, hU169⟩
          refine go_callV (pc' := 100) rfl rfl rfl (Nat.le_of_ble_eq_true rfl) rfl (sm_o hS rfl) rfl rfl rfl (ra_wd_0 hA170 (by omega) (X := X) (by omega) hgo hhc h5q hp0 hnk (by omega)) (fun r h171 q172 => ?_)
          obtain ⟨rfl, hA173⟩ := q172
          refine go_ret rfl rfl ?_
          have hms : rbr f 2 m (I, Q, Z) = rwd 0 (I, Q, Z) := by
            unfold rbr
            rw [if_neg (show ¬ m.1 0 = 1 by rw [h0]; decide), if_neg (show ¬ m.1 0 = 2 by rw [h0]; decide), if_neg (show ¬ (m.1 0 = 3 ∨ m.1 0 = 4) by rw [h0]; decide), ec, if_pos (show ((I, Q, Z) : mM).1 11 0 = nI 2 ∧ m.1 6 = ((I, Q, Z) : mM).1 15 0 from ⟨c167, c168⟩)]
          rw [hms]
          exact ⟨rfl, RA_R (by omega) hA173⟩
    · skip
      have ec : (m.1 5).toNatClampNeg = 1 := by rw [e5]; rfl
      refine go_s (pc' := 1) rfl rfl rfl rfl ?_
      refine go_sget (pc' := 2) (v := .ref am) hS rfl rfl rfl (by decide) rfl rfl ?_
      refine go_s (pc' := 3) rfl rfl rfl rfl ?_
      refine go_s (pc' := 4) (st' := [.int 5, .int (nI (13 * x)), .ref am]) rfl rfl rfl rfl ?_
      refine go_nadd (pc' := 5) (a := (13 * x)) (b := 5) rfl rfl rfl rfl rfl ?_
      refine go_sald (pc' := 6) (q := ((13 * x) + 5)) (v := .int 1) hS rfl (tr_ms hr (by omega)) rfl rfl (by omega) (congrArg Value.int (hx.2.2.2.1.trans e5)) rfl ?_
      refine go_s (pc' := 7) (lo' := [some (.ref 62), some (.int (nI (13 * x))), some (.int (nI f)), some (.int 2), some (.int 1), none]) rfl rfl rfl rfl ?_
      refine go_s (pc' := 8) rfl rfl rfl rfl ?_
      refine go_sget (pc' := 9) (v := .ref am) hS rfl rfl rfl (by decide) rfl rfl ?_
      refine go_s (pc' := 10) rfl rfl rfl rfl ?_
      refine go_s (pc' := 11) (st' := [.int 0, .int (nI (13 * x)), .ref am]) rfl rfl rfl rfl ?_
      refine go_nadd (pc' := 12) (a := (13 * x)) (b := 0) rfl rfl rfl rfl rfl ?_
      refine go_sald (pc' := 13) (q := ((13 * x) + 0)) (v := .int 5) hS rfl (tr_ms hr (by omega)) rfl rfl (by omega) (congrArg Value.int (hx.2.1.trans h0)) rfl ?_
      refine go_tsw (t' := 80) rfl (Or.inl ⟨by decide, rfl⟩) rfl ?_
      refine go_s (pc' := 81) rfl rfl rfl rfl ?_
      refine go_sget (pc' := 82) (v := .ref 78) hS rfl rfl rfl (by decide) rfl rfl ?_
      refine go_s (pc' := 83) rfl rfl rfl rfl ?_
      refine go_sald (pc' := 84) (q := 1) (v := .int (I 11 1)) hS rfl (tr_s hr (a := 78) rfl (by decide)) rfl rfl (by decide) rfl rfl ?_
      refine go_s (pc' := 85) rfl rfl rfl rfl ?_
      refine go_icmpP (t' := 100) (pc' := 86) rfl rfl rfl (fun (c174 : ¬ (I 11 1) = 2) => ?_) (fun (c174' : ¬ ¬ (I 11 1) = 2) => ?_)
      · skip
        refine go_ret rfl rfl ?_
        have hms : rbr f 2 m (I, Q, Z) = (I, Q, Z) := by
          unfold rbr
          rw [if_neg (show ¬ m.1 0 = 1 by rw [h0]; decide), if_neg (show ¬ m.1 0 = 2 by rw [h0]; decide), if_neg (show ¬ (m.1 0 = 3 ∨ m.1 0 = 4) by rw [h0]; decide), ec, if_neg (fun z => c174 z.1)]
        rw [hms]
        exact ⟨rfl, RA_R (by omega) hA⟩
      · skip
        have c174 : (I 11 1) = 2 := Decidable.not_not.mp c174'
        refine go_s (pc' := 87) rfl rfl rfl rfl ?_
        refine go_sget (pc' := 88) (v := .ref am) hS rfl rfl rfl (by decide) rfl rfl ?_
        refine go_s (pc' := 89) rfl rfl rfl rfl ?_
        refine go_s (pc' := 90) (st' := [.int 6, .int (nI (13 * x)), .ref am]) rfl rfl rfl rfl ?_
        refine go_nadd (pc' := 91) (a := (13 * x)) (b := 6) rfl rfl rfl rfl rfl ?_
        refine go_sald (pc' := 92) (q := ((13 * x) + 6)) (v := .int (m.1 6)) hS rfl (tr_ms hr (by omega)) rfl rfl (by omega) (congrArg Value.int (hx.2.2.2.2.1 0 (by rw [h0]; decide))) rfl ?_
        refine go_s (pc' := 93) rfl rfl rfl rfl ?_
        refine go_sget (pc' := 94) (v := .ref 82) hS rfl rfl rfl (by decide) rfl rfl ?_
        refine go_s (pc' := 95) rfl rfl rfl rfl ?_
        refine go_sald (pc' := 96) (q := 1) (v := .int (I 15 1)) hS rfl (tr_s hr (a := 82) rfl (by decide)) rfl rfl (by decide) rfl rfl ?_
        refine go_icmpP (t' := 100) (pc' := 97) rfl rfl rfl (fun (c175 : ¬ (m.1 6) = (I 15 1)) => ?_) (fun (c175' : ¬ ¬ (m.1 6) = (I 15 1)) => ?_)
        · skip
          refine go_ret rfl rfl ?_
          have hms : rbr f 2 m (I, Q, Z) = (I, Q, Z) := by
            unfold rbr
            rw [if_neg (show ¬ m.1 0 = 1 by rw [h0]; decide), if_neg (show ¬ m.1 0 = 2 by rw [h0]; decide), if_neg (show ¬ (m.1 0 = 3 ∨ m.1 0 = 4) by rw [h0]; decide), ec, if_neg (fun z => c175 z.2)]
          rw [hms]
          exact ⟨rfl, RA_R (by omega) hA⟩
        · skip
          have c175 : (m.1 6) = (I 15 1) := Decidable.not_not.mp c175'
          refine go_s (pc' := 98) rfl rfl rfl rfl ?_
          refine go_s (pc' := 99) rfl rfl rfl rfl ?_
          obtain ⟨hns, hgo⟩ := hwd 1 (by decide) h0 e5 c175
          have h5q : sq Q ≤ 5 := sq_5 (X := X) (k := 1) (M := (I, Q, Z)) (by omega) hN.1 (by decide) hns
          have hnk : ¬ I 11 1 = -1 := fun z => absurd (c174.symm.trans z) (by decide)
          have hU176 : RU w B R [(x, m)] hb h am ln K (I, Q, Z) := RU_I (sm_e_refl (tbr am (13 * ln) 77 5088) _) (I' := I) (fun _ => rfl) (fun _ => rfl) (Nat.le_refl _) hU
          have hA177 : RA w B R [(x, m)] hb h (I, Q, Z) := RA_u.mpr ⟨_, _, _, _, hS, hU176⟩
          refine go_callV (pc' := 100) rfl rfl rfl (Nat.le_of_ble_eq_true rfl) rfl (sm_o hS rfl) rfl rfl rfl (ra_wd_1 hA177 (by omega) (X := X) (by omega) hgo hhc h5q hp0 hp1 hnk (by omega)) (fun r h178 q179 => ?_)
          obtain ⟨rfl, hA180⟩ := q179
          refine go_ret rfl rfl ?_
          have hms : rbr f 2 m (I, Q, Z) = rwd 1 (I, Q, Z) := by
            unfold rbr
            rw [if_neg (show ¬ m.1 0 = 1 by rw [h0]; decide), if_neg (show ¬ m.1 0 = 2 by rw [h0]; decide), if_neg (show ¬ (m.1 0 = 3 ∨ m.1 0 = 4) by rw [h0]; decide), ec, if_pos (show ((I, Q, Z) : mM).1 11 1 = nI 2 ∧ m.1 6 = ((I, Q, Z) : mM).1 15 1 from ⟨c174, c175⟩)]
          rw [hms]
          exact ⟨rfl, RA_R (by omega) hA180⟩
    · skip
      have ec : (m.1 5).toNatClampNeg = 2 := by rw [e5]; rfl
      refine go_s (pc' := 1) rfl rfl rfl rfl ?_
      refine go_sget (pc' := 2) (v := .ref am) hS rfl rfl rfl (by decide) rfl rfl ?_
      refine go_s (pc' := 3) rfl rfl rfl rfl ?_
      refine go_s (pc' := 4) (st' := [.int 5, .int (nI (13 * x)), .ref am]) rfl rfl rfl rfl ?_
      refine go_nadd (pc' := 5) (a := (13 * x)) (b := 5) rfl rfl rfl rfl rfl ?_
      refine go_sald (pc' := 6) (q := ((13 * x) + 5)) (v := .int 2) hS rfl (tr_ms hr (by omega)) rfl rfl (by omega) (congrArg Value.int (hx.2.2.2.1.trans e5)) rfl ?_
      refine go_s (pc' := 7) (lo' := [some (.ref 62), some (.int (nI (13 * x))), some (.int (nI f)), some (.int 2), some (.int 2), none]) rfl rfl rfl rfl ?_
      refine go_s (pc' := 8) rfl rfl rfl rfl ?_
      refine go_sget (pc' := 9) (v := .ref am) hS rfl rfl rfl (by decide) rfl rfl ?_
      refine go_s (pc' := 10) rfl rfl rfl rfl ?_
      refine go_s (pc' := 11) (st' := [.int 0, .int (nI (13 * x)), .ref am]) rfl rfl rfl rfl ?_
      refine go_nadd (pc' := 12) (a := (13 * x)) (b := 0) rfl rfl rfl rfl rfl ?_
      refine go_sald (pc' := 13) (q := ((13 * x) + 0)) (v := .int 5) hS rfl (tr_ms hr (by omega)) rfl rfl (by omega) (congrArg Value.int (hx.2.1.trans h0)) rfl ?_
      refine go_tsw (t' := 80) rfl (Or.inl ⟨by decide, rfl⟩) rfl ?_
      refine go_s (pc' := 81) rfl rfl rfl rfl ?_
      refine go_sget (pc' := 82) (v := .ref 78) hS rfl rfl rfl (by decide) rfl rfl ?_
      refine go_s (pc' := 83) rfl rfl rfl rfl ?_
      refine go_sald (pc' := 84) (q := 2) (v := .int (I 11 2)) hS rfl (tr_s hr (a := 78) rfl (by decide)) rfl rfl (by decide) rfl rfl ?_
      refine go_s (pc' := 85) rfl rfl rfl rfl ?_
      refine go_icmpP (t' := 100) (pc' := 86) rfl rfl rfl (fun (c181 : ¬ (I 11 2) = 2) => ?_) (fun (c181' : ¬ ¬ (I 11 2) = 2) => ?_)
      · skip
        refine go_ret rfl rfl ?_
        have hms : rbr f 2 m (I, Q, Z) = (I, Q, Z) := by
          unfold rbr
          rw [if_neg (show ¬ m.1 0 = 1 by rw [h0]; decide), if_neg (show ¬ m.1 0 = 2 by rw [h0]; decide), if_neg (show ¬ (m.1 0 = 3 ∨ m.1 0 = 4) by rw [h0]; decide), ec, if_neg (fun z => c181 z.1)]
        rw [hms]
        exact ⟨rfl, RA_R (by omega) hA⟩
      · skip
        have c181 : (I 11 2) = 2 := Decidable.not_not.mp c181'
        refine go_s (pc' := 87) rfl rfl rfl rfl ?_
        refine go_sget (pc' := 88) (v := .ref am) hS rfl rfl rfl (by decide) rfl rfl ?_
        refine go_s (pc' := 89) rfl rfl rfl rfl ?_
        refine go_s (pc' := 90) (st' := [.int 6, .int (nI (13 * x)), .ref am]) rfl rfl rfl rfl ?_
        refine go_nadd (pc' := 91) (a := (13 * x)) (b := 6) rfl rfl rfl rfl rfl ?_
        refine go_sald (pc' := 92) (q := ((13 * x) + 6)) (v := .int (m.1 6)) hS rfl (tr_ms hr (by omega)) rfl rfl (by omega) (congrArg Value.int (hx.2.2.2.2.1 0 (by rw [h0]; decide))) rfl ?_
        refine go_s (pc' := 93) rfl rfl rfl rfl ?_
        refine go_sget (pc' := 94) (v := .ref 82) hS rfl rfl rfl (by decide) rfl rfl ?_
        refine go_s (pc' := 95) rfl rfl rfl rfl ?_
        refine go_sald (pc' := 96) (q := 2) (v := .int (I 15 2)) hS rfl (tr_s hr (a := 82) rfl (by decide)) rfl rfl (by decide) rfl rfl ?_
        refine go_icmpP (t' := 100) (pc' := 97) rfl rfl rfl (fun (c182 : ¬ (m.1 6) = (I 15 2)) => ?_) (fun (c182' : ¬ ¬ (m.1 6) = (I 15 2)) => ?_)
        · skip
          refine go_ret rfl rfl ?_
          have hms : rbr f 2 m (I, Q, Z) = (I, Q, Z) := by
            unfold rbr
            rw [if_neg (show ¬ m.1 0 = 1 by rw [h0]; decide), if_neg (show ¬ m.1 0 = 2 by rw [h0]; decide), if_neg (show ¬ (m.1 0 = 3 ∨ m.1 0 = 4) by rw [h0]; decide), ec, if_neg (fun z => c182 z.2)]
          rw [hms]
          exact ⟨rfl, RA_R (by omega) hA⟩
        · skip
          have c182 : (m.1 6) = (I 15 2) := Decidable.not_not.mp c182'
          refine go_s (pc' := 98) rfl rfl rfl rfl ?_
          refine go_s (pc' := 99) rfl rfl rfl rfl ?_
          obtain ⟨hns, hgo⟩ := hwd 2 (by decide) h0 e5 c182
          have h5q : sq Q ≤ 5 := sq_5 (X := X) (k := 2) (M := (I, Q, Z)) (by omega) hN.1 (by decide) hns
          have hnk : ¬ I 11 2 = -1 := fun z => absurd (c181.symm.trans z) (by decide)
          have hU183 : RU w B R [(x, m)] hb h am ln K (I, Q, Z) := RU_I (sm_e_refl (tbr am (13 * ln) 77 5088) _) (I' := I) (fun _ => rfl) (fun _ => rfl) (Nat.le_refl _) hU
          have hA184 : RA w B R [(x, m)] hb h (I, Q, Z) := RA_u.mpr ⟨_, _, _, _, hS, hU183⟩
          refine go_callV (pc' := 100) rfl rfl rfl (Nat.le_of_ble_eq_true rfl) rfl (sm_o hS rfl) rfl rfl rfl (ra_wd_2 hA184 (by omega) (X := X) (by omega) hgo hhc h5q hp0 hp2 hnk (by omega)) (fun r h185 q186 => ?_)
          obtain ⟨rfl, hA187⟩ := q186
          refine go_ret rfl rfl ?_
          have hms : rbr f 2 m (I, Q, Z) = rwd 2 (I, Q, Z) := by
            unfold rbr
            rw [if_neg (show ¬ m.1 0 = 1 by rw [h0]; decide), if_neg (show ¬ m.1 0 = 2 by rw [h0]; decide), if_neg (show ¬ (m.1 0 = 3 ∨ m.1 0 = 4) by rw [h0]; decide), ec, if_pos (show ((I, Q, Z) : mM).1 11 2 = nI 2 ∧ m.1 6 = ((I, Q, Z) : mM).1 15 2 from ⟨c181, c182⟩)]
          rw [hms]
          exact ⟨rfl, RA_R (by omega) hA187⟩
theorem ra_br_3 {w : Nat → Bool} {d B R : Nat} {x : Nat} {m : mg} {hb : Bool} {h : am_Hp} {I : sm_I} {Q : mQ} {Z : mZ} (hA : RA w B R [(x, m)] hb h (I, Q, Z)) (hR : R + 12 < 40000) {X : Nat} (hX : X + 60 < 2 ^ 28) (hN : INV X (I, Q, Z)) (hMK : MK m) (hup : I 0 3 = 1) {f : Nat} (hf : f < 4) (hwd : ∀ k, k < 3 → m.1 0 = 5 → m.1 5 = nI k → m.1 6 = I 15 k → (∀ i y, ¬ US I Q k i y) ∧ (I 16 k = 1 → MID (X + 1) (rgo k (I, Q, Z)))) (hd : 11 ≤ d) : am_Ev (am_prog w) d 179 [.ref 62, .int (nI (13 * x)), .int (nI f), .int 3] h (fun r h' => r = none ∧ RA w B (R + 4) [(x, m)] hb h' (rbr f 3 m (I, Q, Z))) := by
  obtain ⟨K, Y, am, ln, hS, hU⟩ := RA_u.mp hA
  change sm (tbr am (13 * ln) 77 5088) h (jn I K) Y at hS
  obtain ⟨hW, hWm, -, -, hr, -⟩ := id hU.1
  have hln := RU_ln hU (by omega)
  obtain ⟨d, rfl⟩ : ∃ e, d = e + 1 := ⟨d - 1, by omega⟩
  refine ev_go rfl (Nat.le_of_ble_eq_true rfl) rfl ?_
  have hx := RU_h hU (x := x) (m := m) (by simp)
  have hxl := hx.1
  have hp0 : prk I 0 := (hN.1.2.2.1 0 (by decide)).1
  have hp1 : prk I 1 := (hN.1.2.2.1 1 (by decide)).1
  have hp2 : prk I 2 := (hN.1.2.2.1 2 (by decide)).1
  obtain ⟨mk1, mk2, mk3, mk4⟩ := MK_5 hMK
  rcases mk4 with h0 | h0 | h0 | h0 | h0
  · skip
    have hhc : hc [(x, m)] hb = 0 := by
      have z : isS m = false := by unfold isS; rw [h0]; rfl
      cases hb
      · rfl
      · show List.countP (fun p => isS p.2) [(x, m)] = 0
        simp [z]
    obtain ⟨k9, hk9, e5⟩ := mk1 h0
    obtain rfl | rfl : k9 = 0 ∨ k9 = 1 := by omega
    · skip
      have ec : (m.1 5).toNatClampNeg = 0 := by rw [e5]; rfl
      refine go_s (pc' := 1) rfl rfl rfl rfl ?_
      refine go_sget (pc' := 2) (v := .ref am) hS rfl rfl rfl (by decide) rfl rfl ?_
      refine go_s (pc' := 3) rfl rfl rfl rfl ?_
      refine go_s (pc' := 4) (st' := [.int 5, .int (nI (13 * x)), .ref am]) rfl rfl rfl rfl ?_
      refine go_nadd (pc' := 5) (a := (13 * x)) (b := 5) rfl rfl rfl rfl rfl ?_
      refine go_sald (pc' := 6) (q := ((13 * x) + 5)) (v := .int 0) hS rfl (tr_ms hr (by omega)) rfl rfl (by omega) (congrArg Value.int (hx.2.2.2.1.trans e5)) rfl ?_
      refine go_s (pc' := 7) (lo' := [some (.ref 62), some (.int (nI (13 * x))), some (.int (nI f)), some (.int 3), some (.int 0), none]) rfl rfl rfl rfl ?_
      refine go_s (pc' := 8) rfl rfl rfl rfl ?_
      refine go_sget (pc' := 9) (v := .ref am) hS rfl rfl rfl (by decide) rfl rfl ?_
      refine go_s (pc' := 10) rfl rfl rfl rfl ?_
      refine go_s (pc' := 11) (st' := [.int 0, .int (nI (13 * x)), .ref am]) rfl rfl rfl rfl ?_
      refine go_nadd (pc' := 12) (a := (13 * x)) (b := 0) rfl rfl rfl rfl rfl ?_
      refine go_sald (pc' := 13) (q := ((13 * x) + 0)) (v := .int 1) hS rfl (tr_ms hr (by omega)) rfl rfl (by omega) (congrArg Value.int (hx.2.1.trans h0)) rfl ?_
      refine go_tsw (t' := 14) rfl (Or.inr ⟨by decide, rfl⟩) rfl ?_
      refine go_s (pc' := 15) rfl rfl rfl rfl ?_
      refine go_sget (pc' := 16) (v := .ref 78) hS rfl rfl rfl (by decide) rfl rfl ?_
      refine go_s (pc' := 17) (st' := [.int 0, .ref 78]) rfl rfl rfl rfl ?_
      refine go_sald (pc' := 18) (q := 0) (v := .int (I 11 0)) hS rfl (tr_s hr (a := 78) rfl (by decide)) rfl rfl (by decide) rfl rfl ?_
      refine go_s (pc' := 19) rfl rfl rfl rfl ?_
      refine go_icmpP (t' := 21) (pc' := 20) rfl rfl rfl (fun (c1 : (I 11 0) = 3) => ?_) (fun (c1 : ¬ (I 11 0) = 3) => ?_)
      · skip
        refine go_s (pc' := 22) rfl rfl rfl rfl ?_
        refine go_s (pc' := 23) rfl rfl rfl rfl ?_
        have hn0 : ¬ I 11 0 = -1 := fun z => absurd (c1.symm.trans z) (by decide)
        obtain ⟨n, hn8, en, -⟩ := hN.1.2.2.2.2.1.2.2.2.2.2.1
        have hU2 : RU w B R [(x, m)] hb h am ln K (I, Q, Z) := RU_I (sm_e_refl (tbr am (13 * ln) 77 5088) _) (I' := I) (fun _ => rfl) (fun _ => rfl) (Nat.le_refl _) hU
        have hA3 : RA w B R [(x, m)] hb h (I, Q, Z) := RA_u.mpr ⟨_, _, _, _, hS, hU2⟩
        refine go_callV (pc' := 24) rfl rfl rfl (Nat.le_of_ble_eq_true rfl) rfl (sm_o hS rfl) rfl rfl rfl (ra_cm_0 hA3 (by omega) h0 e5 en hn8 hp0 hn0 (by omega)) (fun r h4 q5 => ?_)
        obtain ⟨rfl, hA6⟩ := q5
        change RA w B (R + 2) [(x, m)] hb h4 (mac (fun i => m.1 (5 + i)) (I, Q, Z)) at hA6
        obtain ⟨M7, eM7⟩ : ∃ y : mM, y = (mac (fun i => m.1 (5 + i)) (I, Q, Z)) := ⟨_, rfl⟩
        rw [← eM7] at hA6
        obtain ⟨I7, Q7, Z7⟩ := M7
        obtain ⟨K7, Y7, am7, ln7, hS7, hU7⟩ := RA_u.mp hA6
        change sm (tbr am7 (13 * ln7) 77 5088) h4 (jn I7 K7) Y7 at hS7
        obtain ⟨-, hWm7, -, -, hr7, -⟩ := id hU7.1
        have hln7 := RU_ln hU7 (by omega)
        refine go_s (pc' := 25) rfl rfl rfl rfl ?_
        have hM9 : MID X (I7, Q7, Z7) := by
          rw [eM7]
          exact MID_ac hN.1 (lv_of (p := 3) c1 (by decide) (by show ¬ I 0 3 = 0; rw [hup]; decide)) ⟨0, by decide, e5⟩
        have hU8 : RU w B (R + 2) [(x, m)] hb h4 am7 ln7 K7 (I7, Q7, Z7) := RU_I (sm_e_refl (tbr am7 (13 * ln7) 77 5088) _) (I' := I7) (fun _ => rfl) (fun _ => rfl) (Nat.le_refl _) hU7
        have hA9 : RA w B (R + 2) [(x, m)] hb h4 (I7, Q7, Z7) := RA_u.mpr ⟨_, _, _, _, hS7, hU8⟩
        refine go_callV (pc' := 26) rfl rfl rfl (Nat.le_of_ble_eq_true rfl) rfl (sm_o hS7 rfl) rfl rfl rfl (ra_set hA9 (by omega) hM9 (by omega) hhc (by omega)) (fun r h10 q11 => ?_)
        obtain ⟨rfl, hA12⟩ := q11
        refine go_s (pc' := 100) rfl rfl rfl rfl ?_
        refine go_ret rfl rfl ?_
        have hms : rbr f 3 m (I, Q, Z) = rset 30 (I7, Q7, Z7) := by
          unfold rbr
          rw [if_pos h0, if_pos (show ((I, Q, Z) : mM).1 11 0 = nI 3 from c1), eM7]
        rw [hms]
        exact ⟨rfl, RA_R (by omega) hA12⟩
      · skip
        refine go_ret rfl rfl ?_
        have hms : rbr f 3 m (I, Q, Z) = (I, Q, Z) := by
          unfold rbr
          rw [if_pos h0, if_neg (show ¬ ((I, Q, Z) : mM).1 11 0 = nI 3 from c1)]
        rw [hms]
        exact ⟨rfl, RA_R (by omega) hA⟩
    · skip
      have ec : (m.1 5).toNatClampNeg = 1 := by rw [e5]; rfl
      refine go_s (pc' := 1) rfl rfl rfl rfl ?_
      refine go_sget (pc' := 2) (v := .ref am) hS rfl rfl rfl (by decide) rfl rfl ?_
      refine go_s (pc' := 3) rfl rfl rfl rfl ?_
      refine go_s (pc' := 4) (st' := [.int 5, .int (nI (13 * x)), .ref am]) rfl rfl rfl rfl ?_
      refine go_nadd (pc' := 5) (a := (13 * x)) (b := 5) rfl rfl rfl rfl rfl ?_
      refine go_sald (pc' := 6) (q := ((13 * x) + 5)) (v := .int 1) hS rfl (tr_ms hr (by omega)) rfl rfl (by omega) (congrArg Value.int (hx.2.2.2.1.trans e5)) rfl ?_
      refine go_s (pc' := 7) (lo' := [some (.ref 62), some (.int (nI (13 * x))), some (.int (nI f)), some (.int 3), some (.int 1), none]) rfl rfl rfl rfl ?_
      refine go_s (pc' := 8) rfl rfl rfl rfl ?_
      refine go_sget (pc' := 9) (v := .ref am) hS rfl rfl rfl (by decide) rfl rfl ?_
      refine go_s (pc' := 10) rfl rfl rfl rfl ?_
      refine go_s (pc' := 11) (st' := [.int 0, .int (nI (13 * x)), .ref am]) rfl rfl rfl rfl ?_
      refine go_nadd (pc' := 12) (a := (13 * x)) (b := 0) rfl rfl rfl rfl rfl ?_
      refine go_sald (pc' := 13) (q := ((13 * x) + 0)) (v := .int 1) hS rfl (tr_ms hr (by omega)) rfl rfl (by omega) (congrArg Value.int (hx.2.1.trans h0)) rfl ?_
      refine go_tsw (t' := 14) rfl (Or.inr ⟨by decide, rfl⟩) rfl ?_
      refine go_s (pc' := 15) rfl rfl rfl rfl ?_
      refine go_sget (pc' := 16) (v := .ref 78) hS rfl rfl rfl (by decide) rfl rfl ?_
      refine go_s (pc' := 17) (st' := [.int 0, .ref 78]) rfl rfl rfl rfl ?_
      refine go_sald (pc' := 18) (q := 0) (v := .int (I 11 0)) hS rfl (tr_s hr (a := 78) rfl (by decide)) rfl rfl (by decide) rfl rfl ?_
      refine go_s (pc' := 19) rfl rfl rfl rfl ?_
      refine go_icmpP (t' := 21) (pc' := 20) rfl rfl rfl (fun (c13 : (I 11 0) = 3) => ?_) (fun (c13 : ¬ (I 11 0) = 3) => ?_)
      · skip
        refine go_s (pc' := 22) rfl rfl rfl rfl ?_
        refine go_s (pc' := 23) rfl rfl rfl rfl ?_
        have hn0 : ¬ I 11 0 = -1 := fun z => absurd (c13.symm.trans z) (by decide)
        obtain ⟨n, hn8, en, -⟩ := hN.1.2.2.2.2.1.2.2.2.2.2.1
        have hU14 : RU w B R [(x, m)] hb h am ln K (I, Q, Z) := RU_I (sm_e_refl (tbr am (13 * ln) 77 5088) _) (I' := I) (fun _ => rfl) (fun _ => rfl) (Nat.le_refl _) hU
        have hA15 : RA w B R [(x, m)] hb h (I, Q, Z) := RA_u.mpr ⟨_, _, _, _, hS, hU14⟩
        refine go_callV (pc' := 24) rfl rfl rfl (Nat.le_of_ble_eq_true rfl) rfl (sm_o hS rfl) rfl rfl rfl (ra_cm_1 hA15 (by omega) h0 e5 en hn8 hp0 hn0 (by omega)) (fun r h16 q17 => ?_)
        obtain ⟨rfl, hA18⟩ := q17
        change RA w B (R + 2) [(x, m)] hb h16 (mac (fun i => m.1 (5 + i)) (I, Q, Z)) at hA18
        obtain ⟨M19, eM19⟩ : ∃ y : mM, y = (mac (fun i => m.1 (5 + i)) (I, Q, Z)) := ⟨_, rfl⟩
        rw [← eM19] at hA18
        obtain ⟨I19, Q19, Z19⟩ := M19
        obtain ⟨K19, Y19, am19, ln19, hS19, hU19⟩ := RA_u.mp hA18
        change sm (tbr am19 (13 * ln19) 77 5088) h16 (jn I19 K19) Y19 at hS19
        obtain ⟨-, hWm19, -, -, hr19, -⟩ := id hU19.1
        have hln19 := RU_ln hU19 (by omega)
        refine go_s (pc' := 25) rfl rfl rfl rfl ?_
        have hM9 : MID X (I19, Q19, Z19) := by
          rw [eM19]
          exact MID_ac hN.1 (lv_of (p := 3) c13 (by decide) (by show ¬ I 0 3 = 0; rw [hup]; decide)) ⟨1, by decide, e5⟩
        have hU20 : RU w B (R + 2) [(x, m)] hb h16 am19 ln19 K19 (I19, Q19, Z19) := RU_I (sm_e_refl (tbr am19 (13 * ln19) 77 5088) _) (I' := I19) (fun _ => rfl) (fun _ => rfl) (Nat.le_refl _) hU19
        have hA21 : RA w B (R + 2) [(x, m)] hb h16 (I19, Q19, Z19) := RA_u.mpr ⟨_, _, _, _, hS19, hU20⟩
        refine go_callV (pc' := 26) rfl rfl rfl (Nat.le_of_ble_eq_true rfl) rfl (sm_o hS19 rfl) rfl rfl rfl (ra_set hA21 (by omega) hM9 (by omega) hhc (by omega)) (fun r h22 q23 => ?_)
        obtain ⟨rfl, hA24⟩ := q23
        refine go_s (pc' := 100) rfl rfl rfl rfl ?_
        refine go_ret rfl rfl ?_
        have hms : rbr f 3 m (I, Q, Z) = rset 30 (I19, Q19, Z19) := by
          unfold rbr
          rw [if_pos h0, if_pos (show ((I, Q, Z) : mM).1 11 0 = nI 3 from c13), eM19]
        rw [hms]
        exact ⟨rfl, RA_R (by omega) hA24⟩
      · skip
        refine go_ret rfl rfl ?_
        have hms : rbr f 3 m (I, Q, Z) = (I, Q, Z) := by
          unfold rbr
          rw [if_pos h0, if_neg (show ¬ ((I, Q, Z) : mM).1 11 0 = nI 3 from c13)]
        rw [hms]
        exact ⟨rfl, RA_R (by omega) hA⟩
  · skip
    have hhc : hc [(x, m)] hb = 0 := by
      have z : isS m = false := by unfold isS; rw [h0]; rfl
      cases hb
      · rfl
      · show List.countP (fun p => isS p.2) [(x, m)] = 0
        simp [z]
    obtain ⟨k9, hk9, e5⟩ := mk2 h0
    obtain rfl | rfl : k9 = 0 ∨ k9 = 1 := by omega
    · skip
      have ec : (m.1 5).toNatClampNeg = 0 := by rw [e5]; rfl
      refine go_s (pc' := 1) rfl rfl rfl rfl ?_
      refine go_sget (pc' := 2) (v := .ref am) hS rfl rfl rfl (by decide) rfl rfl ?_
      refine go_s (pc' := 3) rfl rfl rfl rfl ?_
      refine go_s (pc' := 4) (st' := [.int 5, .int (nI (13 * x)), .ref am]) rfl rfl rfl rfl ?_
      refine go_nadd (pc' := 5) (a := (13 * x)) (b := 5) rfl rfl rfl rfl rfl ?_
      refine go_sald (pc' := 6) (q := ((13 * x) + 5)) (v := .int 0) hS rfl (tr_ms hr (by omega)) rfl rfl (by omega) (congrArg Value.int (hx.2.2.2.1.trans e5)) rfl ?_
      refine go_s (pc' := 7) (lo' := [some (.ref 62), some (.int (nI (13 * x))), some (.int (nI f)), some (.int 3), some (.int 0), none]) rfl rfl rfl rfl ?_
      refine go_s (pc' := 8) rfl rfl rfl rfl ?_
      refine go_sget (pc' := 9) (v := .ref am) hS rfl rfl rfl (by decide) rfl rfl ?_
      refine go_s (pc' := 10) rfl rfl rfl rfl ?_
      refine go_s (pc' := 11) (st' := [.int 0, .int (nI (13 * x)), .ref am]) rfl rfl rfl rfl ?_
      refine go_nadd (pc' := 12) (a := (13 * x)) (b := 0) rfl rfl rfl rfl rfl ?_
      refine go_sald (pc' := 13) (q := ((13 * x) + 0)) (v := .int 2) hS rfl (tr_ms hr (by omega)) rfl rfl (by omega) (congrArg Value.int (hx.2.1.trans h0)) rfl ?_
      refine go_tsw (t' := 27) rfl (Or.inr ⟨by decide, rfl⟩) rfl ?_
      refine go_s (pc' := 28) rfl rfl rfl rfl ?_
      refine go_sget (pc' := 29) (v := .ref 78) hS rfl rfl rfl (by decide) rfl rfl ?_
      refine go_s (pc' := 30) (st' := [.int 1, .ref 78]) rfl rfl rfl rfl ?_
      refine go_s (pc' := 31) rfl rfl rfl rfl ?_
      refine go_s (pc' := 32) (st' := [.int 1, .ref 78]) rfl rfl rfl rfl ?_
      refine go_sald (pc' := 33) (q := 1) (v := .int (I 11 1)) hS rfl (tr_s hr (a := 78) rfl (by decide)) rfl rfl (by decide) rfl rfl ?_
      refine go_s (pc' := 34) rfl rfl rfl rfl ?_
      refine go_icmpP (t' := 100) (pc' := 35) rfl rfl rfl (fun (c25 : ¬ (I 11 1) = 3) => ?_) (fun (c25' : ¬ ¬ (I 11 1) = 3) => ?_)
      · skip
        refine go_ret rfl rfl ?_
        have hms : rbr f 3 m (I, Q, Z) = (I, Q, Z) := by
          unfold rbr
          rw [if_neg (show ¬ m.1 0 = 1 by rw [h0]; decide), if_pos h0, ec, if_neg (show ¬ ((I, Q, Z) : mM).1 11 (1 + 0) = nI 3 from c25)]
        rw [hms]
        exact ⟨rfl, RA_R (by omega) hA⟩
      · skip
        have c25 : (I 11 1) = 3 := Decidable.not_not.mp c25'
        refine go_s (pc' := 36) rfl rfl rfl rfl ?_
        refine go_s (pc' := 37) (st' := [.int 1, .ref 62]) rfl rfl rfl rfl ?_
        refine go_s (pc' := 38) rfl rfl rfl rfl ?_
        refine go_s (pc' := 39) (st' := [.int 1, .ref 62]) rfl rfl rfl rfl ?_
        refine go_s (pc' := 40) rfl rfl rfl rfl ?_
        have hnk : ¬ I 11 1 = -1 := fun z => absurd (c25.symm.trans z) (by decide)
        by_cases h16 : I 16 1 = 2
        · skip
          have hoh : ¬ I 12 1 = -1 → I 12 1 = ohI I 1 := fun z => ((hN.1.2.2.1 1 (by decide)).2.2.2.2.1 z).2.2.2
          have h5 : ¬ I 12 1 = -1 → sq Q + hc [(x, m)] hb ≤ 5 := fun z => by
            have y := sq_5 (X := X) (k := 1) (M := (I, Q, Z)) (by omega) hN.1 (by decide) (US_no (by decide) hN.1 (show ¬ I 16 1 = 1 by rw [h16]; decide) ((hN.1.2.2.1 1 (by decide)).2.2.2.2.1 z).1)
            have y2 : sq Q ≤ 5 := y
            omega
          have hU26 : RU w B R [(x, m)] hb h am ln K (I, Q, Z) := RU_I (sm_e_refl (tbr am (13 * ln) 77 5088) _) (I' := I) (fun _ => rfl) (fun _ => rfl) (Nat.le_refl _) hU
          have hA27 : RA w B R [(x, m)] hb h (I, Q, Z) := RA_u.mpr ⟨_, _, _, _, hS, hU26⟩
          refine go_callV (pc' := 41) rfl rfl rfl (Nat.le_of_ble_eq_true rfl) rfl (sm_o hS rfl) rfl rfl rfl (ra_rd_0 hA27 (by omega) h0 hp0 hp1 hnk hoh h5 (by omega)) (fun r h28 q29 => ?_)
          obtain ⟨rfl, hA30⟩ := q29
          refine go_s (pc' := 100) rfl rfl rfl rfl ?_
          refine go_ret rfl rfl ?_
          have hms : rbr f 3 m (I, Q, Z) = rrd 0 (fun i => m.1 (5 + i)) (I, Q, Z) := by
            unfold rbr
            rw [if_neg (show ¬ m.1 0 = 1 by rw [h0]; decide), if_pos h0, ec, if_pos (show ((I, Q, Z) : mM).1 11 (1 + 0) = nI 3 from c25)]
          rw [hms]
          exact ⟨rfl, RA_R (by omega) hA30⟩
        · skip
          refine go_callV (pc' := 41) rfl rfl rfl (Nat.le_of_ble_eq_true rfl) rfl (sm_o hS rfl) rfl rfl rfl (ra_rd0_0 hA (by omega) hp1 hnk h16 (by omega)) (fun r h31 q32 => ?_)
          obtain ⟨rfl, rfl⟩ := q32
          refine go_s (pc' := 100) rfl rfl rfl rfl ?_
          refine go_ret rfl rfl ?_
          have hr0 : rrd 0 (fun i => m.1 (5 + i)) (I, Q, Z) = (I, Q, Z) := if_pos (Or.inl h16)
          have hms : rbr f 3 m (I, Q, Z) = (I, Q, Z) := by
            unfold rbr
            rw [if_neg (show ¬ m.1 0 = 1 by rw [h0]; decide), if_pos h0, ec, if_pos (show ((I, Q, Z) : mM).1 11 (1 + 0) = nI 3 from c25), hr0]
          rw [hms]
          exact ⟨rfl, RA_R (by omega) hA⟩
    · skip
      have ec : (m.1 5).toNatClampNeg = 1 := by rw [e5]; rfl
      refine go_s (pc' := 1) rfl rfl rfl rfl ?_
      refine go_sget (pc' := 2) (v := .ref am) hS rfl rfl rfl (by decide) rfl rfl ?_
      refine go_s (pc' := 3) rfl rfl rfl rfl ?_
      refine go_s (pc' := 4) (st' := [.int 5, .int (nI (13 * x)), .ref am]) rfl rfl rfl rfl ?_
      refine go_nadd (pc' := 5) (a := (13 * x)) (b := 5) rfl rfl rfl rfl rfl ?_
      refine go_sald (pc' := 6) (q := ((13 * x) + 5)) (v := .int 1) hS rfl (tr_ms hr (by omega)) rfl rfl (by omega) (congrArg Value.int (hx.2.2.2.1.trans e5)) rfl ?_
      refine go_s (pc' := 7) (lo' := [some (.ref 62), some (.int (nI (13 * x))), some (.int (nI f)), some (.int 3), some (.int 1), none]) rfl rfl rfl rfl ?_
      refine go_s (pc' := 8) rfl rfl rfl rfl ?_
      refine go_sget (pc' := 9) (v := .ref am) hS rfl rfl rfl (by decide) rfl rfl ?_
      refine go_s (pc' := 10) rfl rfl rfl rfl ?_
      refine go_s (pc' := 11) (st' := [.int 0, .int (nI (13 * x)), .ref am]) rfl rfl rfl rfl ?_
      refine go_nadd (pc' := 12) (a := (13 * x)) (b := 0) rfl rfl rfl rfl rfl ?_
      refine go_sald (pc' := 13) (q := ((13 * x) + 0)) (v := .int 2) hS rfl (tr_ms hr (by omega)) rfl rfl (by omega) (congrArg Value.int (hx.2.1.trans h0)) rfl ?_
      refine go_tsw (t' := 27) rfl (Or.inr ⟨by decide, rfl⟩) rfl ?_
      refine go_s (pc' := 28) rfl rfl rfl rfl ?_
      refine go_sget (pc' := 29) (v := .ref 78) hS rfl rfl rfl (by decide) rfl rfl ?_
      refine go_s (pc' := 30) (st' := [.int 1, .ref 78]) rfl rfl rfl rfl ?_
      refine go_s (pc' := 31) rfl rfl rfl rfl ?_
      refine go_s (pc' := 32) (st' := [.int 2, .ref 78]) rfl rfl rfl rfl ?_
      refine go_sald (pc' := 33) (q := 2) (v := .int (I 11 2)) hS rfl (tr_s hr (a := 78) rfl (by decide)) rfl rfl (by decide) rfl rfl ?_
      refine go_s (pc' := 34) rfl rfl rfl rfl ?_
      refine go_icmpP (t' := 100) (pc' := 35) rfl rfl rfl (fun (c33 : ¬ (I 11 2) = 3) => ?_) (fun (c33' : ¬ ¬ (I 11 2) = 3) => ?_)
      · skip
        refine go_ret rfl rfl ?_
        have hms : rbr f 3 m (I, Q, Z) = (I, Q, Z) := by
          unfold rbr
          rw [if_neg (show ¬ m.1 0 = 1 by rw [h0]; decide), if_pos h0, ec, if_neg (show ¬ ((I, Q, Z) : mM).1 11 (1 + 1) = nI 3 from c33)]
        rw [hms]
        exact ⟨rfl, RA_R (by omega) hA⟩
      · skip
        have c33 : (I 11 2) = 3 := Decidable.not_not.mp c33'
        refine go_s (pc' := 36) rfl rfl rfl rfl ?_
        refine go_s (pc' := 37) (st' := [.int 1, .ref 62]) rfl rfl rfl rfl ?_
        refine go_s (pc' := 38) rfl rfl rfl rfl ?_
        refine go_s (pc' := 39) (st' := [.int 2, .ref 62]) rfl rfl rfl rfl ?_
        refine go_s (pc' := 40) rfl rfl rfl rfl ?_
        have hnk : ¬ I 11 2 = -1 := fun z => absurd (c33.symm.trans z) (by decide)
        by_cases h16 : I 16 2 = 2
        · skip
          have hoh : ¬ I 12 2 = -1 → I 12 2 = ohI I 2 := fun z => ((hN.1.2.2.1 2 (by decide)).2.2.2.2.1 z).2.2.2
          have h5 : ¬ I 12 2 = -1 → sq Q + hc [(x, m)] hb ≤ 5 := fun z => by
            have y := sq_5 (X := X) (k := 2) (M := (I, Q, Z)) (by omega) hN.1 (by decide) (US_no (by decide) hN.1 (show ¬ I 16 2 = 1 by rw [h16]; decide) ((hN.1.2.2.1 2 (by decide)).2.2.2.2.1 z).1)
            have y2 : sq Q ≤ 5 := y
            omega
          have hU34 : RU w B R [(x, m)] hb h am ln K (I, Q, Z) := RU_I (sm_e_refl (tbr am (13 * ln) 77 5088) _) (I' := I) (fun _ => rfl) (fun _ => rfl) (Nat.le_refl _) hU
          have hA35 : RA w B R [(x, m)] hb h (I, Q, Z) := RA_u.mpr ⟨_, _, _, _, hS, hU34⟩
          refine go_callV (pc' := 41) rfl rfl rfl (Nat.le_of_ble_eq_true rfl) rfl (sm_o hS rfl) rfl rfl rfl (ra_rd_1 hA35 (by omega) h0 hp0 hp2 hnk hoh h5 (by omega)) (fun r h36 q37 => ?_)
          obtain ⟨rfl, hA38⟩ := q37
          refine go_s (pc' := 100) rfl rfl rfl rfl ?_
          refine go_ret rfl rfl ?_
          have hms : rbr f 3 m (I, Q, Z) = rrd 1 (fun i => m.1 (5 + i)) (I, Q, Z) := by
            unfold rbr
            rw [if_neg (show ¬ m.1 0 = 1 by rw [h0]; decide), if_pos h0, ec, if_pos (show ((I, Q, Z) : mM).1 11 (1 + 1) = nI 3 from c33)]
          rw [hms]
          exact ⟨rfl, RA_R (by omega) hA38⟩
        · skip
          refine go_callV (pc' := 41) rfl rfl rfl (Nat.le_of_ble_eq_true rfl) rfl (sm_o hS rfl) rfl rfl rfl (ra_rd0_1 hA (by omega) hp2 hnk h16 (by omega)) (fun r h39 q40 => ?_)
          obtain ⟨rfl, rfl⟩ := q40
          refine go_s (pc' := 100) rfl rfl rfl rfl ?_
          refine go_ret rfl rfl ?_
          have hr0 : rrd 1 (fun i => m.1 (5 + i)) (I, Q, Z) = (I, Q, Z) := if_pos (Or.inl h16)
          have hms : rbr f 3 m (I, Q, Z) = (I, Q, Z) := by
            unfold rbr
            rw [if_neg (show ¬ m.1 0 = 1 by rw [h0]; decide), if_pos h0, ec, if_pos (show ((I, Q, Z) : mM).1 11 (1 + 1) = nI 3 from c33), hr0]
          rw [hms]
          exact ⟨rfl, RA_R (by omega) hA⟩
  · skip
    obtain ⟨y, y1, y2, y3, y4⟩ := hx.2.2.2.2.2 (by unfold isS; rw [h0]; rfl)
    obtain ⟨k9, hk9, e5⟩ := mk3 (Or.inl h0)
    obtain rfl | rfl | rfl : k9 = 0 ∨ k9 = 1 ∨ k9 = 2 := by omega
    · skip
      have ec : (m.1 5).toNatClampNeg = 0 := by rw [e5]; rfl
      refine go_s (pc' := 1) rfl rfl rfl rfl ?_
      refine go_sget (pc' := 2) (v := .ref am) hS rfl rfl rfl (by decide) rfl rfl ?_
      refine go_s (pc' := 3) rfl rfl rfl rfl ?_
      refine go_s (pc' := 4) (st' := [.int 5, .int (nI (13 * x)), .ref am]) rfl rfl rfl rfl ?_
      refine go_nadd (pc' := 5) (a := (13 * x)) (b := 5) rfl rfl rfl rfl rfl ?_
      refine go_sald (pc' := 6) (q := ((13 * x) + 5)) (v := .int 0) hS rfl (tr_ms hr (by omega)) rfl rfl (by omega) (congrArg Value.int (hx.2.2.2.1.trans e5)) rfl ?_
      refine go_s (pc' := 7) (lo' := [some (.ref 62), some (.int (nI (13 * x))), some (.int (nI f)), some (.int 3), some (.int 0), none]) rfl rfl rfl rfl ?_
      refine go_s (pc' := 8) rfl rfl rfl rfl ?_
      refine go_sget (pc' := 9) (v := .ref am) hS rfl rfl rfl (by decide) rfl rfl ?_
      refine go_s (pc' := 10) rfl rfl rfl rfl ?_
      refine go_s (pc' := 11) (st' := [.int 0, .int (nI (13 * x)), .ref am]) rfl rfl rfl rfl ?_
      refine go_nadd (pc' := 12) (a := (13 * x)) (b := 0) rfl rfl rfl rfl rfl ?_
      refine go_sald (pc' := 13) (q := ((13 * x) + 0)) (v := .int 3) hS rfl (tr_ms hr (by omega)) rfl rfl (by omega) (congrArg Value.int (hx.2.1.trans h0)) rfl ?_
      refine go_tsw (t' := 42) rfl (Or.inr ⟨by decide, rfl⟩) rfl ?_
      refine go_s (pc' := 43) rfl rfl rfl rfl ?_
      refine go_s (pc' := 44) rfl rfl rfl rfl ?_
      refine go_sget (pc' := 45) (v := .ref am) hS rfl rfl rfl (by decide) rfl rfl ?_
      refine go_s (pc' := 46) rfl rfl rfl rfl ?_
      refine go_s (pc' := 47) (st' := [.int 12, .int (nI (13 * x)), .ref am, .ref 62]) rfl rfl rfl rfl ?_
      refine go_nadd (pc' := 48) (a := (13 * x)) (b := 12) rfl rfl rfl rfl rfl ?_
      refine go_sald (pc' := 49) (q := ((13 * x) + 12)) (v := .int (nI y)) hS rfl (tr_ms hr (by omega)) rfl rfl (by omega) (congrArg Value.int y3) rfl ?_
      refine go_s (pc' := 50) (st' := [.int 2, .int (nI y), .ref 62]) rfl rfl rfl rfl ?_
      refine go_s (pc' := 51) rfl rfl rfl rfl ?_
      refine go_s (pc' := 52) (st' := [.int 0, .int (nI y), .ref 62]) rfl rfl rfl rfl ?_
      refine go_s (pc' := 53) rfl rfl rfl rfl ?_
      refine go_s (pc' := 54) (st' := [.int 2, .int 3, .int 0, .int (nI y), .ref 62]) rfl rfl rfl rfl ?_
      refine go_s (pc' := 55) (st' := [.int 1, .int 0, .int (nI y), .ref 62]) rfl rfl rfl rfl ?_
      refine go_s (pc' := 56) (st' := [.int 1, .int (nI y), .ref 62]) rfl rfl rfl rfl ?_
      refine go_callV (pc' := 57) rfl rfl rfl (Nat.le_of_ble_eq_true rfl) rfl (sm_o hS rfl) rfl rfl rfl (rs_cp hr hS hW (hW 77 (by decide) (by decide)) (f := y) (g := 1) (by omega) (by decide) (by omega) (by decide) (by omega)) (fun r h41 q42 => ?_)
      obtain ⟨rfl, hS43, hE44⟩ := q42
      rw [cpI_jn] at hS43
      obtain ⟨K7, e7⟩ : ∃ z, z = cpI K y 1 424 := ⟨_, rfl⟩
      rw [← e7] at hS43
      have hz7 : RZ K7 (decide (1 < 2)) 1 m.2 := by
        rw [e7]
        have z := RZ_cp (g := 1) y4
        rw [e5] at z
        exact z
      have hU45 : RU w B R [(x, m)] hb h41 am ln K7 (I, Q, uZ Z 1 m.2) := RU_row (by decide) (fun c j _ hc => by
        rw [e7]
        exact cpI_r (Nat.le_refl _) c j hc) hz7 (RU_I hE44 (fun _ => rfl) (fun _ => rfl) (Nat.le_refl _) hU)
      have hU46 : RU w B R [(x, m)] hb h41 am ln K7 (I, Q, (uZ Z 1 m.2)) := RU_I (sm_e_refl (tbr am (13 * ln) 77 5088) _) (I' := I) (fun _ => rfl) (fun _ => rfl) (Nat.le_refl _) hU45
      have hS47 : sm (tbr am (13 * ln) 77 5088) _ (jn (uI I 40 0 1) K7) Y := sm_jg hr hS43 (fun c j _ n1 n2 n3 => uI_c n3)
      have hU48 : RU w B R [(x, m)] hb h41 am ln K7 ((uI I 40 0 1), Q, (uZ Z 1 m.2)) := RU_I (sm_e_refl (tbr am (13 * ln) 77 5088) _) (fun _ => rfl) (fun _ => rfl) (Nat.le_refl _) hU46
      refine go_s (pc' := 58) rfl rfl rfl rfl ?_
      refine go_s (pc' := 59) rfl rfl rfl rfl ?_
      refine go_s (pc' := 60) rfl rfl rfl rfl ?_
      refine go_s (pc' := 61) (st' := [.int 5, .int (nI f), .int 3, .ref 62]) rfl rfl rfl rfl ?_
      refine go_s (pc' := 62) rfl rfl rfl rfl ?_
      have hU49 : RU w B R [(x, m)] hb h41 am ln K7 ((uI I 40 0 1), Q, (uZ Z 1 m.2)) := RU_I (sm_e_refl (tbr am (13 * ln) 77 5088) _) (I' := (uI I 40 0 1)) (fun _ => rfl) (fun _ => rfl) (Nat.le_refl _) hU48
      by_cases u50 : (uI I 40 0 1) 0 f = 0
      · skip
        refine go_callV (pc' := 63) rfl rfl rfl (Nat.le_of_ble_eq_true rfl) rfl (sm_o hS47 rfl) rfl rfl rfl (rn_snd_0 hS47 hU49 (by omega) (f := 3) (t := f) (by decide) hf u50 (by omega)) (fun r h51 q52 => ?_)
        obtain ⟨rfl, rfl⟩ := q52
        refine go_s (pc' := 64) (lo' := [some (.ref 62), some (.int (nI (13 * x))), some (.int (nI f)), some (.int 3), some (.int 0), some (.int (-1))]) rfl rfl rfl rfl ?_
        refine go_s (pc' := 65) rfl rfl rfl rfl ?_
        refine go_s (pc' := 66) (st' := [.int (-1), .int (-1)]) rfl rfl rfl rfl ?_
        refine go_icmpP (t' := 100) (pc' := 67) rfl rfl rfl (fun _ => ?_) (fun (c : ¬ (((-1) : Int32) = (-1))) => absurd (by decide) c)
        refine go_ret rfl rfl ?_
        have hA53 : RA w B R [(x, m)] hb h51 ((uI I 40 0 1), Q, (uZ Z 1 m.2)) := RA_u.mpr ⟨_, _, _, _, hS47, hU49⟩
        have hms : rbr f 3 m (I, Q, Z) = ((uI I 40 0 1), Q, (uZ Z 1 m.2)) := by
          unfold rbr
          rw [if_neg (show ¬ m.1 0 = 1 by rw [h0]; decide), if_neg (show ¬ m.1 0 = 2 by rw [h0]; decide), if_pos (show m.1 0 = 3 ∨ m.1 0 = 4 from Or.inl h0), ec, show rcy 0 3 m.2 (I, Q, Z) = ((uI I 40 0 1, Q, uZ Z 1 m.2) : mM) from rfl, show rsn 3 f (mgW 0 (m.1 6)) ((uI I 40 0 1, Q, uZ Z 1 m.2) : mM) = ((uI I 40 0 1, Q, uZ Z 1 m.2) : mM) from if_pos u50]
        rw [hms]
        exact ⟨rfl, RA_R (by omega) hA53⟩
      · skip
        refine go_callV (pc' := 63) rfl rfl rfl (Nat.le_of_ble_eq_true rfl) rfl (sm_o hS47 rfl) rfl rfl rfl (rn_snd_1 hS47 hU49 (by omega) (f := 3) (t := f) (by decide) hf u50 (by omega)) (fun r h54 q55 => ?_)
        obtain ⟨x56, am56, ln56, K56, rfl, hS56, hO56⟩ := q55
        obtain ⟨hx56, hln56, hr56, hWm56⟩ := RO_x hO56 (by omega)
        refine go_s (pc' := 64) (lo' := [some (.ref 62), some (.int (nI (13 * x))), some (.int (nI f)), some (.int 3), some (.int 0), some (.int (nI (13 * x56)))]) rfl rfl rfl rfl ?_
        refine go_s (pc' := 65) rfl rfl rfl rfl ?_
        refine go_s (pc' := 66) (st' := [.int (-1), .int (nI (13 * x56))]) rfl rfl rfl rfl ?_
        refine go_icmpP (t' := 100) (pc' := 67) rfl rfl rfl (fun (c : (nI (13 * x56)) = (-1)) => absurd c (nI_nm1 (by omega))) (fun _ => ?_)
        have hxo := RO_h hO56 (y := x) (m := m) (by simp)
        have hxl9 := hxo.1
        refine go_s (pc' := 68) rfl rfl rfl rfl ?_
        refine go_sget (pc' := 69) (v := .ref am56) hS56 rfl rfl rfl (by decide) rfl rfl ?_
        refine go_s (pc' := 70) rfl rfl rfl rfl ?_
        refine go_s (pc' := 71) (st' := [.int 6, .int (nI (13 * x56)), .ref am56]) rfl rfl rfl rfl ?_
        refine go_nadd (pc' := 72) (a := (13 * x56)) (b := 6) rfl rfl rfl rfl rfl ?_
        refine go_s (pc' := 73) rfl rfl rfl rfl ?_
        refine go_sget (pc' := 74) (v := .ref am56) hS56 rfl rfl rfl (by decide) rfl rfl ?_
        refine go_s (pc' := 75) rfl rfl rfl rfl ?_
        refine go_s (pc' := 76) (st' := [.int 6, .int (nI (13 * x)), .ref am56, .int (nI ((13 * x56) + 6)), .ref am56]) rfl rfl rfl rfl ?_
        refine go_nadd (pc' := 77) (a := (13 * x)) (b := 6) rfl rfl rfl rfl rfl ?_
        refine go_sald (pc' := 78) (q := ((13 * x) + 6)) (v := .int (m.1 6)) hS56 rfl (tr_ms hr56 (by omega)) rfl rfl (by omega) (congrArg Value.int (hxo.2 0 (by rw [h0]; decide))) rfl ?_
        refine go_siast (pc' := 79) (q := ((13 * x56) + 6)) hS56 rfl (tr_ms hr56 (by omega)) tbr_inj (Nat.le_of_ble_eq_true rfl) rfl (by omega) (rk_0 hr56).1 hWm56 rfl (fun h57 hS58 hE59 => ?_)
        refine go_s (pc' := 100) rfl rfl rfl rfl ?_
        refine go_ret rfl rfl ?_
        change sm (tbr am56 (13 * ln56) 77 5088) _ (uI (jn (appI (uI I 40 0 1) Q (4 * 3 + f)) K56) 50 ((13 * x56) + 6) (m.1 6)) Y at hS58
        rw [jn_hi (c := 50) (by decide)] at hS58
        have hU60 := RO_cl (K' := (uI K56 50 ((13 * x56) + 6) (m.1 6))) (m := (mgn (mgW 0 (m.1 6)) ((uI I 40 0 1) 9 (4 * 3 + f) + 1))) (by omega) hO56 (hE59) rfl rfl rfl rfl (fun c j _ hc => by
          simp only [uI]
          rw [if_neg (by omega)]) (fun i hi => by
          have hi2 : i < 1 := hi
          match i, hi2 with
            | 0, _ => (repeat (first | rw [uI_e (by omega)] | rw [uI_j (by omega)])) <;> rfl)
        have hA61 : RA w B (R + 1) [(x, m)] hb h57 ((appI (uI I 40 0 1) Q (4 * 3 + f)), (uQ Q (4 * 3 + f) (Q (4 * 3 + f) ++ [(mgn (mgW 0 (m.1 6)) ((uI I 40 0 1) 9 (4 * 3 + f) + 1))])), (uZ Z 1 m.2)) := RA_u.mpr ⟨_, _, _, _, hS58, hU60⟩
        have hms : rbr f 3 m (I, Q, Z) = ((appI (uI I 40 0 1) Q (4 * 3 + f)), (uQ Q (4 * 3 + f) (Q (4 * 3 + f) ++ [(mgn (mgW 0 (m.1 6)) ((uI I 40 0 1) 9 (4 * 3 + f) + 1))])), (uZ Z 1 m.2)) := by
          unfold rbr
          rw [if_neg (show ¬ m.1 0 = 1 by rw [h0]; decide), if_neg (show ¬ m.1 0 = 2 by rw [h0]; decide), if_pos (show m.1 0 = 3 ∨ m.1 0 = 4 from Or.inl h0), ec, show rcy 0 3 m.2 (I, Q, Z) = ((uI I 40 0 1, Q, uZ Z 1 m.2) : mM) from rfl, show rsn 3 f (mgW 0 (m.1 6)) ((uI I 40 0 1, Q, uZ Z 1 m.2) : mM) = mapp (4 * 3 + f) (mgW 0 (m.1 6)) ((uI I 40 0 1, Q, uZ Z 1 m.2) : mM) from if_neg u50]
          rw [show mapp (4 * 3 + f) (mgW 0 (m.1 6)) ((uI I 40 0 1, Q, uZ Z 1 m.2) : mM) = ((appI (uI I 40 0 1) Q (4 * 3 + f)), (uQ Q (4 * 3 + f) (Q (4 * 3 + f) ++ [(mgn (mgW 0 (m.1 6)) ((uI I 40 0 1) 9 (4 * 3 + f) + 1))])), (uZ Z 1 m.2)) from rfl]
        rw [hms]
        exact ⟨rfl, RA_R (by omega) hA61⟩
    · skip
      have ec : (m.1 5).toNatClampNeg = 1 := by rw [e5]; rfl
      refine go_s (pc' := 1) rfl rfl rfl rfl ?_
      refine go_sget (pc' := 2) (v := .ref am) hS rfl rfl rfl (by decide) rfl rfl ?_
      refine go_s (pc' := 3) rfl rfl rfl rfl ?_
      refine go_s (pc' := 4) (st' := [.int 5, .int (nI (13 * x)), .ref am]) rfl rfl rfl rfl ?_
      refine go_nadd (pc' := 5) (a := (13 * x)) (b := 5) rfl rfl rfl rfl rfl ?_
      refine go_sald (pc' := 6) (q := ((13 * x) + 5)) (v := .int 1) hS rfl (tr_ms hr (by omega)) rfl rfl (by omega) (congrArg Value.int (hx.2.2.2.1.trans e5)) rfl ?_
      refine go_s (pc' := 7) (lo' := [some (.ref 62), some (.int (nI (13 * x))), some (.int (nI f)), some (.int 3), some (.int 1), none]) rfl rfl rfl rfl ?_
      refine go_s (pc' := 8) rfl rfl rfl rfl ?_
      refine go_sget (pc' := 9) (v := .ref am) hS rfl rfl rfl (by decide) rfl rfl ?_
      refine go_s (pc' := 10) rfl rfl rfl rfl ?_
      refine go_s (pc' := 11) (st' := [.int 0, .int (nI (13 * x)), .ref am]) rfl rfl rfl rfl ?_
      refine go_nadd (pc' := 12) (a := (13 * x)) (b := 0) rfl rfl rfl rfl rfl ?_
      refine go_sald (pc' := 13) (q := ((13 * x) + 0)) (v := .int 3) hS rfl (tr_ms hr (by omega)) rfl rfl (by omega) (congrArg Value.int (hx.2.1.trans h0)) rfl ?_
      refine go_tsw (t' := 42) rfl (Or.inr ⟨by decide, rfl⟩) rfl ?_
      refine go_s (pc' := 43) rfl rfl rfl rfl ?_
      refine go_s (pc' := 44) rfl rfl rfl rfl ?_
      refine go_sget (pc' := 45) (v := .ref am) hS rfl rfl rfl (by decide) rfl rfl ?_
      refine go_s (pc' := 46) rfl rfl rfl rfl ?_
      refine go_s (pc' := 47) (st' := [.int 12, .int (nI (13 * x)), .ref am, .ref 62]) rfl rfl rfl rfl ?_
      refine go_nadd (pc' := 48) (a := (13 * x)) (b := 12) rfl rfl rfl rfl rfl ?_
      refine go_sald (pc' := 49) (q := ((13 * x) + 12)) (v := .int (nI y)) hS rfl (tr_ms hr (by omega)) rfl rfl (by omega) (congrArg Value.int y3) rfl ?_
      refine go_s (pc' := 50) (st' := [.int 2, .int (nI y), .ref 62]) rfl rfl rfl rfl ?_
      refine go_s (pc' := 51) rfl rfl rfl rfl ?_
      refine go_s (pc' := 52) (st' := [.int 2, .int (nI y), .ref 62]) rfl rfl rfl rfl ?_
      refine go_s (pc' := 53) rfl rfl rfl rfl ?_
      refine go_s (pc' := 54) (st' := [.int 2, .int 3, .int 2, .int (nI y), .ref 62]) rfl rfl rfl rfl ?_
      refine go_s (pc' := 55) (st' := [.int 1, .int 2, .int (nI y), .ref 62]) rfl rfl rfl rfl ?_
      refine go_s (pc' := 56) (st' := [.int 3, .int (nI y), .ref 62]) rfl rfl rfl rfl ?_
      refine go_callV (pc' := 57) rfl rfl rfl (Nat.le_of_ble_eq_true rfl) rfl (sm_o hS rfl) rfl rfl rfl (rs_cp hr hS hW (hW 77 (by decide) (by decide)) (f := y) (g := 3) (by omega) (by decide) (by omega) (by decide) (by omega)) (fun r h62 q63 => ?_)
      obtain ⟨rfl, hS64, hE65⟩ := q63
      rw [cpI_jn] at hS64
      obtain ⟨K7, e7⟩ : ∃ z, z = cpI K y 3 424 := ⟨_, rfl⟩
      rw [← e7] at hS64
      have hz7 : RZ K7 (decide (3 < 2)) 3 m.2 := by
        rw [e7]
        have z := RZ_cp (g := 3) y4
        rw [e5] at z
        exact z
      have hU66 : RU w B R [(x, m)] hb h62 am ln K7 (I, Q, uZ Z 3 m.2) := RU_row (by decide) (fun c j _ hc => by
        rw [e7]
        exact cpI_r (Nat.le_refl _) c j hc) hz7 (RU_I hE65 (fun _ => rfl) (fun _ => rfl) (Nat.le_refl _) hU)
      have hU67 : RU w B R [(x, m)] hb h62 am ln K7 (I, Q, (uZ Z 3 m.2)) := RU_I (sm_e_refl (tbr am (13 * ln) 77 5088) _) (I' := I) (fun _ => rfl) (fun _ => rfl) (Nat.le_refl _) hU66
      have hS68 : sm (tbr am (13 * ln) 77 5088) _ (jn (uI I 40 1 1) K7) Y := sm_jg hr hS64 (fun c j _ n1 n2 n3 => uI_c n3)
      have hU69 : RU w B R [(x, m)] hb h62 am ln K7 ((uI I 40 1 1), Q, (uZ Z 3 m.2)) := RU_I (sm_e_refl (tbr am (13 * ln) 77 5088) _) (fun _ => rfl) (fun _ => rfl) (Nat.le_refl _) hU67
      refine go_s (pc' := 58) rfl rfl rfl rfl ?_
      refine go_s (pc' := 59) rfl rfl rfl rfl ?_
      refine go_s (pc' := 60) rfl rfl rfl rfl ?_
      refine go_s (pc' := 61) (st' := [.int 5, .int (nI f), .int 3, .ref 62]) rfl rfl rfl rfl ?_
      refine go_s (pc' := 62) rfl rfl rfl rfl ?_
      have hU70 : RU w B R [(x, m)] hb h62 am ln K7 ((uI I 40 1 1), Q, (uZ Z 3 m.2)) := RU_I (sm_e_refl (tbr am (13 * ln) 77 5088) _) (I' := (uI I 40 1 1)) (fun _ => rfl) (fun _ => rfl) (Nat.le_refl _) hU69
      by_cases u71 : (uI I 40 1 1) 0 f = 0
      · skip
        refine go_callV (pc' := 63) rfl rfl rfl (Nat.le_of_ble_eq_true rfl) rfl (sm_o hS68 rfl) rfl rfl rfl (rn_snd_0 hS68 hU70 (by omega) (f := 3) (t := f) (by decide) hf u71 (by omega)) (fun r h72 q73 => ?_)
        obtain ⟨rfl, rfl⟩ := q73
        refine go_s (pc' := 64) (lo' := [some (.ref 62), some (.int (nI (13 * x))), some (.int (nI f)), some (.int 3), some (.int 1), some (.int (-1))]) rfl rfl rfl rfl ?_
        refine go_s (pc' := 65) rfl rfl rfl rfl ?_
        refine go_s (pc' := 66) (st' := [.int (-1), .int (-1)]) rfl rfl rfl rfl ?_
        refine go_icmpP (t' := 100) (pc' := 67) rfl rfl rfl (fun _ => ?_) (fun (c : ¬ (((-1) : Int32) = (-1))) => absurd (by decide) c)
        refine go_ret rfl rfl ?_
        have hA74 : RA w B R [(x, m)] hb h72 ((uI I 40 1 1), Q, (uZ Z 3 m.2)) := RA_u.mpr ⟨_, _, _, _, hS68, hU70⟩
        have hms : rbr f 3 m (I, Q, Z) = ((uI I 40 1 1), Q, (uZ Z 3 m.2)) := by
          unfold rbr
          rw [if_neg (show ¬ m.1 0 = 1 by rw [h0]; decide), if_neg (show ¬ m.1 0 = 2 by rw [h0]; decide), if_pos (show m.1 0 = 3 ∨ m.1 0 = 4 from Or.inl h0), ec, show rcy 1 3 m.2 (I, Q, Z) = ((uI I 40 1 1, Q, uZ Z 3 m.2) : mM) from rfl, show rsn 3 f (mgW 1 (m.1 6)) ((uI I 40 1 1, Q, uZ Z 3 m.2) : mM) = ((uI I 40 1 1, Q, uZ Z 3 m.2) : mM) from if_pos u71]
        rw [hms]
        exact ⟨rfl, RA_R (by omega) hA74⟩
      · skip
        refine go_callV (pc' := 63) rfl rfl rfl (Nat.le_of_ble_eq_true rfl) rfl (sm_o hS68 rfl) rfl rfl rfl (rn_snd_1 hS68 hU70 (by omega) (f := 3) (t := f) (by decide) hf u71 (by omega)) (fun r h75 q76 => ?_)
        obtain ⟨x77, am77, ln77, K77, rfl, hS77, hO77⟩ := q76
        obtain ⟨hx77, hln77, hr77, hWm77⟩ := RO_x hO77 (by omega)
        refine go_s (pc' := 64) (lo' := [some (.ref 62), some (.int (nI (13 * x))), some (.int (nI f)), some (.int 3), some (.int 1), some (.int (nI (13 * x77)))]) rfl rfl rfl rfl ?_
        refine go_s (pc' := 65) rfl rfl rfl rfl ?_
        refine go_s (pc' := 66) (st' := [.int (-1), .int (nI (13 * x77))]) rfl rfl rfl rfl ?_
        refine go_icmpP (t' := 100) (pc' := 67) rfl rfl rfl (fun (c : (nI (13 * x77)) = (-1)) => absurd c (nI_nm1 (by omega))) (fun _ => ?_)
        have hxo := RO_h hO77 (y := x) (m := m) (by simp)
        have hxl9 := hxo.1
        refine go_s (pc' := 68) rfl rfl rfl rfl ?_
        refine go_sget (pc' := 69) (v := .ref am77) hS77 rfl rfl rfl (by decide) rfl rfl ?_
        refine go_s (pc' := 70) rfl rfl rfl rfl ?_
        refine go_s (pc' := 71) (st' := [.int 6, .int (nI (13 * x77)), .ref am77]) rfl rfl rfl rfl ?_
        refine go_nadd (pc' := 72) (a := (13 * x77)) (b := 6) rfl rfl rfl rfl rfl ?_
        refine go_s (pc' := 73) rfl rfl rfl rfl ?_
        refine go_sget (pc' := 74) (v := .ref am77) hS77 rfl rfl rfl (by decide) rfl rfl ?_
        refine go_s (pc' := 75) rfl rfl rfl rfl ?_
        refine go_s (pc' := 76) (st' := [.int 6, .int (nI (13 * x)), .ref am77, .int (nI ((13 * x77) + 6)), .ref am77]) rfl rfl rfl rfl ?_
        refine go_nadd (pc' := 77) (a := (13 * x)) (b := 6) rfl rfl rfl rfl rfl ?_
        refine go_sald (pc' := 78) (q := ((13 * x) + 6)) (v := .int (m.1 6)) hS77 rfl (tr_ms hr77 (by omega)) rfl rfl (by omega) (congrArg Value.int (hxo.2 0 (by rw [h0]; decide))) rfl ?_
        refine go_siast (pc' := 79) (q := ((13 * x77) + 6)) hS77 rfl (tr_ms hr77 (by omega)) tbr_inj (Nat.le_of_ble_eq_true rfl) rfl (by omega) (rk_0 hr77).1 hWm77 rfl (fun h78 hS79 hE80 => ?_)
        refine go_s (pc' := 100) rfl rfl rfl rfl ?_
        refine go_ret rfl rfl ?_
        change sm (tbr am77 (13 * ln77) 77 5088) _ (uI (jn (appI (uI I 40 1 1) Q (4 * 3 + f)) K77) 50 ((13 * x77) + 6) (m.1 6)) Y at hS79
        rw [jn_hi (c := 50) (by decide)] at hS79
        have hU81 := RO_cl (K' := (uI K77 50 ((13 * x77) + 6) (m.1 6))) (m := (mgn (mgW 1 (m.1 6)) ((uI I 40 1 1) 9 (4 * 3 + f) + 1))) (by omega) hO77 (hE80) rfl rfl rfl rfl (fun c j _ hc => by
          simp only [uI]
          rw [if_neg (by omega)]) (fun i hi => by
          have hi2 : i < 1 := hi
          match i, hi2 with
            | 0, _ => (repeat (first | rw [uI_e (by omega)] | rw [uI_j (by omega)])) <;> rfl)
        have hA82 : RA w B (R + 1) [(x, m)] hb h78 ((appI (uI I 40 1 1) Q (4 * 3 + f)), (uQ Q (4 * 3 + f) (Q (4 * 3 + f) ++ [(mgn (mgW 1 (m.1 6)) ((uI I 40 1 1) 9 (4 * 3 + f) + 1))])), (uZ Z 3 m.2)) := RA_u.mpr ⟨_, _, _, _, hS79, hU81⟩
        have hms : rbr f 3 m (I, Q, Z) = ((appI (uI I 40 1 1) Q (4 * 3 + f)), (uQ Q (4 * 3 + f) (Q (4 * 3 + f) ++ [(mgn (mgW 1 (m.1 6)) ((uI I 40 1 1) 9 (4 * 3 + f) + 1))])), (uZ Z 3 m.2)) := by
          unfold rbr
          rw [if_neg (show ¬ m.1 0 = 1 by rw [h0]; decide), if_neg (show ¬ m.1 0 = 2 by rw [h0]; decide), if_pos (show m.1 0 = 3 ∨ m.1 0 = 4 from Or.inl h0), ec, show rcy 1 3 m.2 (I, Q, Z) = ((uI I 40 1 1, Q, uZ Z 3 m.2) : mM) from rfl, show rsn 3 f (mgW 1 (m.1 6)) ((uI I 40 1 1, Q, uZ Z 3 m.2) : mM) = mapp (4 * 3 + f) (mgW 1 (m.1 6)) ((uI I 40 1 1, Q, uZ Z 3 m.2) : mM) from if_neg u71]
          rw [show mapp (4 * 3 + f) (mgW 1 (m.1 6)) ((uI I 40 1 1, Q, uZ Z 3 m.2) : mM) = ((appI (uI I 40 1 1) Q (4 * 3 + f)), (uQ Q (4 * 3 + f) (Q (4 * 3 + f) ++ [(mgn (mgW 1 (m.1 6)) ((uI I 40 1 1) 9 (4 * 3 + f) + 1))])), (uZ Z 3 m.2)) from rfl]
        rw [hms]
        exact ⟨rfl, RA_R (by omega) hA82⟩
    · skip
      have ec : (m.1 5).toNatClampNeg = 2 := by rw [e5]; rfl
      refine go_s (pc' := 1) rfl rfl rfl rfl ?_
      refine go_sget (pc' := 2) (v := .ref am) hS rfl rfl rfl (by decide) rfl rfl ?_
      refine go_s (pc' := 3) rfl rfl rfl rfl ?_
      refine go_s (pc' := 4) (st' := [.int 5, .int (nI (13 * x)), .ref am]) rfl rfl rfl rfl ?_
      refine go_nadd (pc' := 5) (a := (13 * x)) (b := 5) rfl rfl rfl rfl rfl ?_
      refine go_sald (pc' := 6) (q := ((13 * x) + 5)) (v := .int 2) hS rfl (tr_ms hr (by omega)) rfl rfl (by omega) (congrArg Value.int (hx.2.2.2.1.trans e5)) rfl ?_
      refine go_s (pc' := 7) (lo' := [some (.ref 62), some (.int (nI (13 * x))), some (.int (nI f)), some (.int 3), some (.int 2), none]) rfl rfl rfl rfl ?_
      refine go_s (pc' := 8) rfl rfl rfl rfl ?_
      refine go_sget (pc' := 9) (v := .ref am) hS rfl rfl rfl (by decide) rfl rfl ?_
      refine go_s (pc' := 10) rfl rfl rfl rfl ?_
      refine go_s (pc' := 11) (st' := [.int 0, .int (nI (13 * x)), .ref am]) rfl rfl rfl rfl ?_
      refine go_nadd (pc' := 12) (a := (13 * x)) (b := 0) rfl rfl rfl rfl rfl ?_
      refine go_sald (pc' := 13) (q := ((13 * x) + 0)) (v := .int 3) hS rfl (tr_ms hr (by omega)) rfl rfl (by omega) (congrArg Value.int (hx.2.1.trans h0)) rfl ?_
      refine go_tsw (t' := 42) rfl (Or.inr ⟨by decide, rfl⟩) rfl ?_
      refine go_s (pc' := 43) rfl rfl rfl rfl ?_
      refine go_s (pc' := 44) rfl rfl rfl rfl ?_
      refine go_sget (pc' := 45) (v := .ref am) hS rfl rfl rfl (by decide) rfl rfl ?_
      refine go_s (pc' := 46) rfl rfl rfl rfl ?_
      refine go_s (pc' := 47) (st' := [.int 12, .int (nI (13 * x)), .ref am, .ref 62]) rfl rfl rfl rfl ?_
      refine go_nadd (pc' := 48) (a := (13 * x)) (b := 12) rfl rfl rfl rfl rfl ?_
      refine go_sald (pc' := 49) (q := ((13 * x) + 12)) (v := .int (nI y)) hS rfl (tr_ms hr (by omega)) rfl rfl (by omega) (congrArg Value.int y3) rfl ?_
      refine go_s (pc' := 50) (st' := [.int 2, .int (nI y), .ref 62]) rfl rfl rfl rfl ?_
      refine go_s (pc' := 51) rfl rfl rfl rfl ?_
      refine go_s (pc' := 52) (st' := [.int 4, .int (nI y), .ref 62]) rfl rfl rfl rfl ?_
      refine go_s (pc' := 53) rfl rfl rfl rfl ?_
      refine go_s (pc' := 54) (st' := [.int 2, .int 3, .int 4, .int (nI y), .ref 62]) rfl rfl rfl rfl ?_
      refine go_s (pc' := 55) (st' := [.int 1, .int 4, .int (nI y), .ref 62]) rfl rfl rfl rfl ?_
      refine go_s (pc' := 56) (st' := [.int 5, .int (nI y), .ref 62]) rfl rfl rfl rfl ?_
      refine go_callV (pc' := 57) rfl rfl rfl (Nat.le_of_ble_eq_true rfl) rfl (sm_o hS rfl) rfl rfl rfl (rs_cp hr hS hW (hW 77 (by decide) (by decide)) (f := y) (g := 5) (by omega) (by decide) (by omega) (by decide) (by omega)) (fun r h83 q84 => ?_)
      obtain ⟨rfl, hS85, hE86⟩ := q84
      rw [cpI_jn] at hS85
      obtain ⟨K7, e7⟩ : ∃ z, z = cpI K y 5 424 := ⟨_, rfl⟩
      rw [← e7] at hS85
      have hz7 : RZ K7 (decide (5 < 2)) 5 m.2 := by
        rw [e7]
        have z := RZ_cp (g := 5) y4
        rw [e5] at z
        exact z
      have hU87 : RU w B R [(x, m)] hb h83 am ln K7 (I, Q, uZ Z 5 m.2) := RU_row (by decide) (fun c j _ hc => by
        rw [e7]
        exact cpI_r (Nat.le_refl _) c j hc) hz7 (RU_I hE86 (fun _ => rfl) (fun _ => rfl) (Nat.le_refl _) hU)
      have hU88 : RU w B R [(x, m)] hb h83 am ln K7 (I, Q, (uZ Z 5 m.2)) := RU_I (sm_e_refl (tbr am (13 * ln) 77 5088) _) (I' := I) (fun _ => rfl) (fun _ => rfl) (Nat.le_refl _) hU87
      have hS89 : sm (tbr am (13 * ln) 77 5088) _ (jn (uI I 40 2 1) K7) Y := sm_jg hr hS85 (fun c j _ n1 n2 n3 => uI_c n3)
      have hU90 : RU w B R [(x, m)] hb h83 am ln K7 ((uI I 40 2 1), Q, (uZ Z 5 m.2)) := RU_I (sm_e_refl (tbr am (13 * ln) 77 5088) _) (fun _ => rfl) (fun _ => rfl) (Nat.le_refl _) hU88
      refine go_s (pc' := 58) rfl rfl rfl rfl ?_
      refine go_s (pc' := 59) rfl rfl rfl rfl ?_
      refine go_s (pc' := 60) rfl rfl rfl rfl ?_
      refine go_s (pc' := 61) (st' := [.int 5, .int (nI f), .int 3, .ref 62]) rfl rfl rfl rfl ?_
      refine go_s (pc' := 62) rfl rfl rfl rfl ?_
      have hU91 : RU w B R [(x, m)] hb h83 am ln K7 ((uI I 40 2 1), Q, (uZ Z 5 m.2)) := RU_I (sm_e_refl (tbr am (13 * ln) 77 5088) _) (I' := (uI I 40 2 1)) (fun _ => rfl) (fun _ => rfl) (Nat.le_refl _) hU90
      by_cases u92 : (uI I 40 2 1) 0 f = 0
      · skip
        refine go_callV (pc' := 63) rfl rfl rfl (Nat.le_of_ble_eq_true rfl) rfl (sm_o hS89 rfl) rfl rfl rfl (rn_snd_0 hS89 hU91 (by omega) (f := 3) (t := f) (by decide) hf u92 (by omega)) (fun r h93 q94 => ?_)
        obtain ⟨rfl, rfl⟩ := q94
        refine go_s (pc' := 64) (lo' := [some (.ref 62), some (.int (nI (13 * x))), some (.int (nI f)), some (.int 3), some (.int 2), some (.int (-1))]) rfl rfl rfl rfl ?_
        refine go_s (pc' := 65) rfl rfl rfl rfl ?_
        refine go_s (pc' := 66) (st' := [.int (-1), .int (-1)]) rfl rfl rfl rfl ?_
        refine go_icmpP (t' := 100) (pc' := 67) rfl rfl rfl (fun _ => ?_) (fun (c : ¬ (((-1) : Int32) = (-1))) => absurd (by decide) c)
        refine go_ret rfl rfl ?_
        have hA95 : RA w B R [(x, m)] hb h93 ((uI I 40 2 1), Q, (uZ Z 5 m.2)) := RA_u.mpr ⟨_, _, _, _, hS89, hU91⟩
        have hms : rbr f 3 m (I, Q, Z) = ((uI I 40 2 1), Q, (uZ Z 5 m.2)) := by
          unfold rbr
          rw [if_neg (show ¬ m.1 0 = 1 by rw [h0]; decide), if_neg (show ¬ m.1 0 = 2 by rw [h0]; decide), if_pos (show m.1 0 = 3 ∨ m.1 0 = 4 from Or.inl h0), ec, show rcy 2 3 m.2 (I, Q, Z) = ((uI I 40 2 1, Q, uZ Z 5 m.2) : mM) from rfl, show rsn 3 f (mgW 2 (m.1 6)) ((uI I 40 2 1, Q, uZ Z 5 m.2) : mM) = ((uI I 40 2 1, Q, uZ Z 5 m.2) : mM) from if_pos u92]
        rw [hms]
        exact ⟨rfl, RA_R (by omega) hA95⟩
      · skip
        refine go_callV (pc' := 63) rfl rfl rfl (Nat.le_of_ble_eq_true rfl) rfl (sm_o hS89 rfl) rfl rfl rfl (rn_snd_1 hS89 hU91 (by omega) (f := 3) (t := f) (by decide) hf u92 (by omega)) (fun r h96 q97 => ?_)
        obtain ⟨x98, am98, ln98, K98, rfl, hS98, hO98⟩ := q97
        obtain ⟨hx98, hln98, hr98, hWm98⟩ := RO_x hO98 (by omega)
        refine go_s (pc' := 64) (lo' := [some (.ref 62), some (.int (nI (13 * x))), some (.int (nI f)), some (.int 3), some (.int 2), some (.int (nI (13 * x98)))]) rfl rfl rfl rfl ?_
        refine go_s (pc' := 65) rfl rfl rfl rfl ?_
        refine go_s (pc' := 66) (st' := [.int (-1), .int (nI (13 * x98))]) rfl rfl rfl rfl ?_
        refine go_icmpP (t' := 100) (pc' := 67) rfl rfl rfl (fun (c : (nI (13 * x98)) = (-1)) => absurd c (nI_nm1 (by omega))) (fun _ => ?_)
        have hxo := RO_h hO98 (y := x) (m := m) (by simp)
        have hxl9 := hxo.1
        refine go_s (pc' := 68) rfl rfl rfl rfl ?_
        refine go_sget (pc' := 69) (v := .ref am98) hS98 rfl rfl rfl (by decide) rfl rfl ?_
        refine go_s (pc' := 70) rfl rfl rfl rfl ?_
        refine go_s (pc' := 71) (st' := [.int 6, .int (nI (13 * x98)), .ref am98]) rfl rfl rfl rfl ?_
        refine go_nadd (pc' := 72) (a := (13 * x98)) (b := 6) rfl rfl rfl rfl rfl ?_
        refine go_s (pc' := 73) rfl rfl rfl rfl ?_
        refine go_sget (pc' := 74) (v := .ref am98) hS98 rfl rfl rfl (by decide) rfl rfl ?_
        refine go_s (pc' := 75) rfl rfl rfl rfl ?_
        refine go_s (pc' := 76) (st' := [.int 6, .int (nI (13 * x)), .ref am98, .int (nI ((13 * x98) + 6)), .ref am98]) rfl rfl rfl rfl ?_
        refine go_nadd (pc' := 77) (a := (13 * x)) (b := 6) rfl rfl rfl rfl rfl ?_
        refine go_sald (pc' := 78) (q := ((13 * x) + 6)) (v := .int (m.1 6)) hS98 rfl (tr_ms hr98 (by omega)) rfl rfl (by omega) (congrArg Value.int (hxo.2 0 (by rw [h0]; decide))) rfl ?_
        refine go_siast (pc' := 79) (q := ((13 * x98) + 6)) hS98 rfl (tr_ms hr98 (by omega)) tbr_inj (Nat.le_of_ble_eq_true rfl) rfl (by omega) (rk_0 hr98).1 hWm98 rfl (fun h99 hS100 hE101 => ?_)
        refine go_s (pc' := 100) rfl rfl rfl rfl ?_
        refine go_ret rfl rfl ?_
        change sm (tbr am98 (13 * ln98) 77 5088) _ (uI (jn (appI (uI I 40 2 1) Q (4 * 3 + f)) K98) 50 ((13 * x98) + 6) (m.1 6)) Y at hS100
        rw [jn_hi (c := 50) (by decide)] at hS100
        have hU102 := RO_cl (K' := (uI K98 50 ((13 * x98) + 6) (m.1 6))) (m := (mgn (mgW 2 (m.1 6)) ((uI I 40 2 1) 9 (4 * 3 + f) + 1))) (by omega) hO98 (hE101) rfl rfl rfl rfl (fun c j _ hc => by
          simp only [uI]
          rw [if_neg (by omega)]) (fun i hi => by
          have hi2 : i < 1 := hi
          match i, hi2 with
            | 0, _ => (repeat (first | rw [uI_e (by omega)] | rw [uI_j (by omega)])) <;> rfl)
        have hA103 : RA w B (R + 1) [(x, m)] hb h99 ((appI (uI I 40 2 1) Q (4 * 3 + f)), (uQ Q (4 * 3 + f) (Q (4 * 3 + f) ++ [(mgn (mgW 2 (m.1 6)) ((uI I 40 2 1) 9 (4 * 3 + f) + 1))])), (uZ Z 5 m.2)) := RA_u.mpr ⟨_, _, _, _, hS100, hU102⟩
        have hms : rbr f 3 m (I, Q, Z) = ((appI (uI I 40 2 1) Q (4 * 3 + f)), (uQ Q (4 * 3 + f) (Q (4 * 3 + f) ++ [(mgn (mgW 2 (m.1 6)) ((uI I 40 2 1) 9 (4 * 3 + f) + 1))])), (uZ Z 5 m.2)) := by
          unfold rbr
          rw [if_neg (show ¬ m.1 0 = 1 by rw [h0]; decide), if_neg (show ¬ m.1 0 = 2 by rw [h0]; decide), if_pos (show m.1 0 = 3 ∨ m.1 0 = 4 from Or.inl h0), ec, show rcy 2 3 m.2 (I, Q, Z) = ((uI I 40 2 1, Q, uZ Z 5 m.2) : mM) from rfl, show rsn 3 f (mgW 2 (m.1 6)) ((uI I 40 2 1, Q, uZ Z 5 m.2) : mM) = mapp (4 * 3 + f) (mgW 2 (m.1 6)) ((uI I 40 2 1, Q, uZ Z 5 m.2) : mM) from if_neg u92]
          rw [show mapp (4 * 3 + f) (mgW 2 (m.1 6)) ((uI I 40 2 1, Q, uZ Z 5 m.2) : mM) = ((appI (uI I 40 2 1) Q (4 * 3 + f)), (uQ Q (4 * 3 + f) (Q (4 * 3 + f) ++ [(mgn (mgW 2 (m.1 6)) ((uI I 40 2 1) 9 (4 * 3 + f) + 1))])), (uZ Z 5 m.2)) from rfl]
        rw [hms]
        exact ⟨rfl, RA_R (by omega) hA103⟩
  · skip
    obtain ⟨y, y1, y2, y3, y4⟩ := hx.2.2.2.2.2 (by unfold isS; rw [h0]; rfl)
    obtain ⟨k9, hk9, e5⟩ := mk3 (Or.inr (Or.inl h0))
    obtain rfl | rfl | rfl : k9 = 0 ∨ k9 = 1 ∨ k9 = 2 := by omega
    · skip
      have ec : (m.1 5).toNatClampNeg = 0 := by rw [e5]; rfl
      refine go_s (pc' := 1) rfl rfl rfl rfl ?_
      refine go_sget (pc' := 2) (v := .ref am) hS rfl rfl rfl (by decide) rfl rfl ?_
      refine go_s (pc' := 3) rfl rfl rfl rfl ?_
      refine go_s (pc' := 4) (st' := [.int 5, .int (nI (13 * x)), .ref am]) rfl rfl rfl rfl ?_
      refine go_nadd (pc' := 5) (a := (13 * x)) (b := 5) rfl rfl rfl rfl rfl ?_
      refine go_sald (pc' := 6) (q := ((13 * x) + 5)) (v := .int 0) hS rfl (tr_ms hr (by omega)) rfl rfl (by omega) (congrArg Value.int (hx.2.2.2.1.trans e5)) rfl ?_
      refine go_s (pc' := 7) (lo' := [some (.ref 62), some (.int (nI (13 * x))), some (.int (nI f)), some (.int 3), some (.int 0), none]) rfl rfl rfl rfl ?_
      refine go_s (pc' := 8) rfl rfl rfl rfl ?_
      refine go_sget (pc' := 9) (v := .ref am) hS rfl rfl rfl (by decide) rfl rfl ?_
      refine go_s (pc' := 10) rfl rfl rfl rfl ?_
      refine go_s (pc' := 11) (st' := [.int 0, .int (nI (13 * x)), .ref am]) rfl rfl rfl rfl ?_
      refine go_nadd (pc' := 12) (a := (13 * x)) (b := 0) rfl rfl rfl rfl rfl ?_
      refine go_sald (pc' := 13) (q := ((13 * x) + 0)) (v := .int 4) hS rfl (tr_ms hr (by omega)) rfl rfl (by omega) (congrArg Value.int (hx.2.1.trans h0)) rfl ?_
      refine go_tsw (t' := 42) rfl (Or.inr ⟨by decide, rfl⟩) rfl ?_
      refine go_s (pc' := 43) rfl rfl rfl rfl ?_
      refine go_s (pc' := 44) rfl rfl rfl rfl ?_
      refine go_sget (pc' := 45) (v := .ref am) hS rfl rfl rfl (by decide) rfl rfl ?_
      refine go_s (pc' := 46) rfl rfl rfl rfl ?_
      refine go_s (pc' := 47) (st' := [.int 12, .int (nI (13 * x)), .ref am, .ref 62]) rfl rfl rfl rfl ?_
      refine go_nadd (pc' := 48) (a := (13 * x)) (b := 12) rfl rfl rfl rfl rfl ?_
      refine go_sald (pc' := 49) (q := ((13 * x) + 12)) (v := .int (nI y)) hS rfl (tr_ms hr (by omega)) rfl rfl (by omega) (congrArg Value.int y3) rfl ?_
      refine go_s (pc' := 50) (st' := [.int 2, .int (nI y), .ref 62]) rfl rfl rfl rfl ?_
      refine go_s (pc' := 51) rfl rfl rfl rfl ?_
      refine go_s (pc' := 52) (st' := [.int 0, .int (nI y), .ref 62]) rfl rfl rfl rfl ?_
      refine go_s (pc' := 53) rfl rfl rfl rfl ?_
      refine go_s (pc' := 54) (st' := [.int 2, .int 3, .int 0, .int (nI y), .ref 62]) rfl rfl rfl rfl ?_
      refine go_s (pc' := 55) (st' := [.int 1, .int 0, .int (nI y), .ref 62]) rfl rfl rfl rfl ?_
      refine go_s (pc' := 56) (st' := [.int 1, .int (nI y), .ref 62]) rfl rfl rfl rfl ?_
      refine go_callV (pc' := 57) rfl rfl rfl (Nat.le_of_ble_eq_true rfl) rfl (sm_o hS rfl) rfl rfl rfl (rs_cp hr hS hW (hW 77 (by decide) (by decide)) (f := y) (g := 1) (by omega) (by decide) (by omega) (by decide) (by omega)) (fun r h104 q105 => ?_)
      obtain ⟨rfl, hS106, hE107⟩ := q105
      rw [cpI_jn] at hS106
      obtain ⟨K7, e7⟩ : ∃ z, z = cpI K y 1 424 := ⟨_, rfl⟩
      rw [← e7] at hS106
      have hz7 : RZ K7 (decide (1 < 2)) 1 m.2 := by
        rw [e7]
        have z := RZ_cp (g := 1) y4
        rw [e5] at z
        exact z
      have hU108 : RU w B R [(x, m)] hb h104 am ln K7 (I, Q, uZ Z 1 m.2) := RU_row (by decide) (fun c j _ hc => by
        rw [e7]
        exact cpI_r (Nat.le_refl _) c j hc) hz7 (RU_I hE107 (fun _ => rfl) (fun _ => rfl) (Nat.le_refl _) hU)
      have hU109 : RU w B R [(x, m)] hb h104 am ln K7 (I, Q, (uZ Z 1 m.2)) := RU_I (sm_e_refl (tbr am (13 * ln) 77 5088) _) (I' := I) (fun _ => rfl) (fun _ => rfl) (Nat.le_refl _) hU108
      have hS110 : sm (tbr am (13 * ln) 77 5088) _ (jn (uI I 40 0 1) K7) Y := sm_jg hr hS106 (fun c j _ n1 n2 n3 => uI_c n3)
      have hU111 : RU w B R [(x, m)] hb h104 am ln K7 ((uI I 40 0 1), Q, (uZ Z 1 m.2)) := RU_I (sm_e_refl (tbr am (13 * ln) 77 5088) _) (fun _ => rfl) (fun _ => rfl) (Nat.le_refl _) hU109
      refine go_s (pc' := 58) rfl rfl rfl rfl ?_
      refine go_s (pc' := 59) rfl rfl rfl rfl ?_
      refine go_s (pc' := 60) rfl rfl rfl rfl ?_
      refine go_s (pc' := 61) (st' := [.int 5, .int (nI f), .int 3, .ref 62]) rfl rfl rfl rfl ?_
      refine go_s (pc' := 62) rfl rfl rfl rfl ?_
      have hU112 : RU w B R [(x, m)] hb h104 am ln K7 ((uI I 40 0 1), Q, (uZ Z 1 m.2)) := RU_I (sm_e_refl (tbr am (13 * ln) 77 5088) _) (I' := (uI I 40 0 1)) (fun _ => rfl) (fun _ => rfl) (Nat.le_refl _) hU111
      by_cases u113 : (uI I 40 0 1) 0 f = 0
      · skip
        refine go_callV (pc' := 63) rfl rfl rfl (Nat.le_of_ble_eq_true rfl) rfl (sm_o hS110 rfl) rfl rfl rfl (rn_snd_0 hS110 hU112 (by omega) (f := 3) (t := f) (by decide) hf u113 (by omega)) (fun r h114 q115 => ?_)
        obtain ⟨rfl, rfl⟩ := q115
        refine go_s (pc' := 64) (lo' := [some (.ref 62), some (.int (nI (13 * x))), some (.int (nI f)), some (.int 3), some (.int 0), some (.int (-1))]) rfl rfl rfl rfl ?_
        refine go_s (pc' := 65) rfl rfl rfl rfl ?_
        refine go_s (pc' := 66) (st' := [.int (-1), .int (-1)]) rfl rfl rfl rfl ?_
        refine go_icmpP (t' := 100) (pc' := 67) rfl rfl rfl (fun _ => ?_) (fun (c : ¬ (((-1) : Int32) = (-1))) => absurd (by decide) c)
        refine go_ret rfl rfl ?_
        have hA116 : RA w B R [(x, m)] hb h114 ((uI I 40 0 1), Q, (uZ Z 1 m.2)) := RA_u.mpr ⟨_, _, _, _, hS110, hU112⟩
        have hms : rbr f 3 m (I, Q, Z) = ((uI I 40 0 1), Q, (uZ Z 1 m.2)) := by
          unfold rbr
          rw [if_neg (show ¬ m.1 0 = 1 by rw [h0]; decide), if_neg (show ¬ m.1 0 = 2 by rw [h0]; decide), if_pos (show m.1 0 = 3 ∨ m.1 0 = 4 from Or.inr h0), ec, show rcy 0 3 m.2 (I, Q, Z) = ((uI I 40 0 1, Q, uZ Z 1 m.2) : mM) from rfl, show rsn 3 f (mgW 0 (m.1 6)) ((uI I 40 0 1, Q, uZ Z 1 m.2) : mM) = ((uI I 40 0 1, Q, uZ Z 1 m.2) : mM) from if_pos u113]
        rw [hms]
        exact ⟨rfl, RA_R (by omega) hA116⟩
      · skip
        refine go_callV (pc' := 63) rfl rfl rfl (Nat.le_of_ble_eq_true rfl) rfl (sm_o hS110 rfl) rfl rfl rfl (rn_snd_1 hS110 hU112 (by omega) (f := 3) (t := f) (by decide) hf u113 (by omega)) (fun r h117 q118 => ?_)
        obtain ⟨x119, am119, ln119, K119, rfl, hS119, hO119⟩ := q118
        obtain ⟨hx119, hln119, hr119, hWm119⟩ := RO_x hO119 (by omega)
        refine go_s (pc' := 64) (lo' := [some (.ref 62), some (.int (nI (13 * x))), some (.int (nI f)), some (.int 3), some (.int 0), some (.int (nI (13 * x119)))]) rfl rfl rfl rfl ?_
        refine go_s (pc' := 65) rfl rfl rfl rfl ?_
        refine go_s (pc' := 66) (st' := [.int (-1), .int (nI (13 * x119))]) rfl rfl rfl rfl ?_
        refine go_icmpP (t' := 100) (pc' := 67) rfl rfl rfl (fun (c : (nI (13 * x119)) = (-1)) => absurd c (nI_nm1 (by omega))) (fun _ => ?_)
        have hxo := RO_h hO119 (y := x) (m := m) (by simp)
        have hxl9 := hxo.1
        refine go_s (pc' := 68) rfl rfl rfl rfl ?_
        refine go_sget (pc' := 69) (v := .ref am119) hS119 rfl rfl rfl (by decide) rfl rfl ?_
        refine go_s (pc' := 70) rfl rfl rfl rfl ?_
        refine go_s (pc' := 71) (st' := [.int 6, .int (nI (13 * x119)), .ref am119]) rfl rfl rfl rfl ?_
        refine go_nadd (pc' := 72) (a := (13 * x119)) (b := 6) rfl rfl rfl rfl rfl ?_
        refine go_s (pc' := 73) rfl rfl rfl rfl ?_
        refine go_sget (pc' := 74) (v := .ref am119) hS119 rfl rfl rfl (by decide) rfl rfl ?_
        refine go_s (pc' := 75) rfl rfl rfl rfl ?_
        refine go_s (pc' := 76) (st' := [.int 6, .int (nI (13 * x)), .ref am119, .int (nI ((13 * x119) + 6)), .ref am119]) rfl rfl rfl rfl ?_
        refine go_nadd (pc' := 77) (a := (13 * x)) (b := 6) rfl rfl rfl rfl rfl ?_
        refine go_sald (pc' := 78) (q := ((13 * x) + 6)) (v := .int (m.1 6)) hS119 rfl (tr_ms hr119 (by omega)) rfl rfl (by omega) (congrArg Value.int (hxo.2 0 (by rw [h0]; decide))) rfl ?_
        refine go_siast (pc' := 79) (q := ((13 * x119) + 6)) hS119 rfl (tr_ms hr119 (by omega)) tbr_inj (Nat.le_of_ble_eq_true rfl) rfl (by omega) (rk_0 hr119).1 hWm119 rfl (fun h120 hS121 hE122 => ?_)
        refine go_s (pc' := 100) rfl rfl rfl rfl ?_
        refine go_ret rfl rfl ?_
        change sm (tbr am119 (13 * ln119) 77 5088) _ (uI (jn (appI (uI I 40 0 1) Q (4 * 3 + f)) K119) 50 ((13 * x119) + 6) (m.1 6)) Y at hS121
        rw [jn_hi (c := 50) (by decide)] at hS121
        have hU123 := RO_cl (K' := (uI K119 50 ((13 * x119) + 6) (m.1 6))) (m := (mgn (mgW 0 (m.1 6)) ((uI I 40 0 1) 9 (4 * 3 + f) + 1))) (by omega) hO119 (hE122) rfl rfl rfl rfl (fun c j _ hc => by
          simp only [uI]
          rw [if_neg (by omega)]) (fun i hi => by
          have hi2 : i < 1 := hi
          match i, hi2 with
            | 0, _ => (repeat (first | rw [uI_e (by omega)] | rw [uI_j (by omega)])) <;> rfl)
        have hA124 : RA w B (R + 1) [(x, m)] hb h120 ((appI (uI I 40 0 1) Q (4 * 3 + f)), (uQ Q (4 * 3 + f) (Q (4 * 3 + f) ++ [(mgn (mgW 0 (m.1 6)) ((uI I 40 0 1) 9 (4 * 3 + f) + 1))])), (uZ Z 1 m.2)) := RA_u.mpr ⟨_, _, _, _, hS121, hU123⟩
        have hms : rbr f 3 m (I, Q, Z) = ((appI (uI I 40 0 1) Q (4 * 3 + f)), (uQ Q (4 * 3 + f) (Q (4 * 3 + f) ++ [(mgn (mgW 0 (m.1 6)) ((uI I 40 0 1) 9 (4 * 3 + f) + 1))])), (uZ Z 1 m.2)) := by
          unfold rbr
          rw [if_neg (show ¬ m.1 0 = 1 by rw [h0]; decide), if_neg (show ¬ m.1 0 = 2 by rw [h0]; decide), if_pos (show m.1 0 = 3 ∨ m.1 0 = 4 from Or.inr h0), ec, show rcy 0 3 m.2 (I, Q, Z) = ((uI I 40 0 1, Q, uZ Z 1 m.2) : mM) from rfl, show rsn 3 f (mgW 0 (m.1 6)) ((uI I 40 0 1, Q, uZ Z 1 m.2) : mM) = mapp (4 * 3 + f) (mgW 0 (m.1 6)) ((uI I 40 0 1, Q, uZ Z 1 m.2) : mM) from if_neg u113]
          rw [show mapp (4 * 3 + f) (mgW 0 (m.1 6)) ((uI I 40 0 1, Q, uZ Z 1 m.2) : mM) = ((appI (uI I 40 0 1) Q (4 * 3 + f)), (uQ Q (4 * 3 + f) (Q (4 * 3 + f) ++ [(mgn (mgW 0 (m.1 6)) ((uI I 40 0 1) 9 (4 * 3 + f) + 1))])), (uZ Z 1 m.2)) from rfl]
        rw [hms]
        exact ⟨rfl, RA_R (by omega) hA124⟩
    · skip
      have ec : (m.1 5).toNatClampNeg = 1 := by rw [e5]; rfl
      refine go_s (pc' := 1) rfl rfl rfl rfl ?_
      refine go_sget (pc' := 2) (v := .ref am) hS rfl rfl rfl (by decide) rfl rfl ?_
      refine go_s (pc' := 3) rfl rfl rfl rfl ?_
      refine go_s (pc' := 4) (st' := [.int 5, .int (nI (13 * x)), .ref am]) rfl rfl rfl rfl ?_
      refine go_nadd (pc' := 5) (a := (13 * x)) (b := 5) rfl rfl rfl rfl rfl ?_
      refine go_sald (pc' := 6) (q := ((13 * x) + 5)) (v := .int 1) hS rfl (tr_ms hr (by omega)) rfl rfl (by omega) (congrArg Value.int (hx.2.2.2.1.trans e5)) rfl ?_
      refine go_s (pc' := 7) (lo' := [some (.ref 62), some (.int (nI (13 * x))), some (.int (nI f)), some (.int 3), some (.int 1), none]) rfl rfl rfl rfl ?_
      refine go_s (pc' := 8) rfl rfl rfl rfl ?_
      refine go_sget (pc' := 9) (v := .ref am) hS rfl rfl rfl (by decide) rfl rfl ?_
      refine go_s (pc' := 10) rfl rfl rfl rfl ?_
      refine go_s (pc' := 11) (st' := [.int 0, .int (nI (13 * x)), .ref am]) rfl rfl rfl rfl ?_
      refine go_nadd (pc' := 12) (a := (13 * x)) (b := 0) rfl rfl rfl rfl rfl ?_
      refine go_sald (pc' := 13) (q := ((13 * x) + 0)) (v := .int 4) hS rfl (tr_ms hr (by omega)) rfl rfl (by omega) (congrArg Value.int (hx.2.1.trans h0)) rfl ?_
      refine go_tsw (t' := 42) rfl (Or.inr ⟨by decide, rfl⟩) rfl ?_
      refine go_s (pc' := 43) rfl rfl rfl rfl ?_
      refine go_s (pc' := 44) rfl rfl rfl rfl ?_
      refine go_sget (pc' := 45) (v := .ref am) hS rfl rfl rfl (by decide) rfl rfl ?_
      refine go_s (pc' := 46) rfl rfl rfl rfl ?_
      refine go_s (pc' := 47) (st' := [.int 12, .int (nI (13 * x)), .ref am, .ref 62]) rfl rfl rfl rfl ?_
      refine go_nadd (pc' := 48) (a := (13 * x)) (b := 12) rfl rfl rfl rfl rfl ?_
      refine go_sald (pc' := 49) (q := ((13 * x) + 12)) (v := .int (nI y)) hS rfl (tr_ms hr (by omega)) rfl rfl (by omega) (congrArg Value.int y3) rfl ?_
      refine go_s (pc' := 50) (st' := [.int 2, .int (nI y), .ref 62]) rfl rfl rfl rfl ?_
      refine go_s (pc' := 51) rfl rfl rfl rfl ?_
      refine go_s (pc' := 52) (st' := [.int 2, .int (nI y), .ref 62]) rfl rfl rfl rfl ?_
      refine go_s (pc' := 53) rfl rfl rfl rfl ?_
      refine go_s (pc' := 54) (st' := [.int 2, .int 3, .int 2, .int (nI y), .ref 62]) rfl rfl rfl rfl ?_
      refine go_s (pc' := 55) (st' := [.int 1, .int 2, .int (nI y), .ref 62]) rfl rfl rfl rfl ?_
      refine go_s (pc' := 56) (st' := [.int 3, .int (nI y), .ref 62]) rfl rfl rfl rfl ?_
      refine go_callV (pc' := 57) rfl rfl rfl (Nat.le_of_ble_eq_true rfl) rfl (sm_o hS rfl) rfl rfl rfl (rs_cp hr hS hW (hW 77 (by decide) (by decide)) (f := y) (g := 3) (by omega) (by decide) (by omega) (by decide) (by omega)) (fun r h125 q126 => ?_)
      obtain ⟨rfl, hS127, hE128⟩ := q126
      rw [cpI_jn] at hS127
      obtain ⟨K7, e7⟩ : ∃ z, z = cpI K y 3 424 := ⟨_, rfl⟩
      rw [← e7] at hS127
      have hz7 : RZ K7 (decide (3 < 2)) 3 m.2 := by
        rw [e7]
        have z := RZ_cp (g := 3) y4
        rw [e5] at z
        exact z
      have hU129 : RU w B R [(x, m)] hb h125 am ln K7 (I, Q, uZ Z 3 m.2) := RU_row (by decide) (fun c j _ hc => by
        rw [e7]
        exact cpI_r (Nat.le_refl _) c j hc) hz7 (RU_I hE128 (fun _ => rfl) (fun _ => rfl) (Nat.le_refl _) hU)
      have hU130 : RU w B R [(x, m)] hb h125 am ln K7 (I, Q, (uZ Z 3 m.2)) := RU_I (sm_e_refl (tbr am (13 * ln) 77 5088) _) (I' := I) (fun _ => rfl) (fun _ => rfl) (Nat.le_refl _) hU129
      have hS131 : sm (tbr am (13 * ln) 77 5088) _ (jn (uI I 40 1 1) K7) Y := sm_jg hr hS127 (fun c j _ n1 n2 n3 => uI_c n3)
      have hU132 : RU w B R [(x, m)] hb h125 am ln K7 ((uI I 40 1 1), Q, (uZ Z 3 m.2)) := RU_I (sm_e_refl (tbr am (13 * ln) 77 5088) _) (fun _ => rfl) (fun _ => rfl) (Nat.le_refl _) hU130
      refine go_s (pc' := 58) rfl rfl rfl rfl ?_
      refine go_s (pc' := 59) rfl rfl rfl rfl ?_
      refine go_s (pc' := 60) rfl rfl rfl rfl ?_
      refine go_s (pc' := 61) (st' := [.int 5, .int (nI f), .int 3, .ref 62]) rfl rfl rfl rfl ?_
      refine go_s (pc' := 62) rfl rfl rfl rfl ?_
      have hU133 : RU w B R [(x, m)] hb h125 am ln K7 ((uI I 40 1 1), Q, (uZ Z 3 m.2)) := RU_I (sm_e_refl (tbr am (13 * ln) 77 5088) _) (I' := (uI I 40 1 1)) (fun _ => rfl) (fun _ => rfl) (Nat.le_refl _) hU132
      by_cases u134 : (uI I 40 1 1) 0 f = 0
      · skip
        refine go_callV (pc' := 63) rfl rfl rfl (Nat.le_of_ble_eq_true rfl) rfl (sm_o hS131 rfl) rfl rfl rfl (rn_snd_0 hS131 hU133 (by omega) (f := 3) (t := f) (by decide) hf u134 (by omega)) (fun r h135 q136 => ?_)
        obtain ⟨rfl, rfl⟩ := q136
        refine go_s (pc' := 64) (lo' := [some (.ref 62), some (.int (nI (13 * x))), some (.int (nI f)), some (.int 3), some (.int 1), some (.int (-1))]) rfl rfl rfl rfl ?_
        refine go_s (pc' := 65) rfl rfl rfl rfl ?_
        refine go_s (pc' := 66) (st' := [.int (-1), .int (-1)]) rfl rfl rfl rfl ?_
        refine go_icmpP (t' := 100) (pc' := 67) rfl rfl rfl (fun _ => ?_) (fun (c : ¬ (((-1) : Int32) = (-1))) => absurd (by decide) c)
        refine go_ret rfl rfl ?_
        have hA137 : RA w B R [(x, m)] hb h135 ((uI I 40 1 1), Q, (uZ Z 3 m.2)) := RA_u.mpr ⟨_, _, _, _, hS131, hU133⟩
        have hms : rbr f 3 m (I, Q, Z) = ((uI I 40 1 1), Q, (uZ Z 3 m.2)) := by
          unfold rbr
          rw [if_neg (show ¬ m.1 0 = 1 by rw [h0]; decide), if_neg (show ¬ m.1 0 = 2 by rw [h0]; decide), if_pos (show m.1 0 = 3 ∨ m.1 0 = 4 from Or.inr h0), ec, show rcy 1 3 m.2 (I, Q, Z) = ((uI I 40 1 1, Q, uZ Z 3 m.2) : mM) from rfl, show rsn 3 f (mgW 1 (m.1 6)) ((uI I 40 1 1, Q, uZ Z 3 m.2) : mM) = ((uI I 40 1 1, Q, uZ Z 3 m.2) : mM) from if_pos u134]
        rw [hms]
        exact ⟨rfl, RA_R (by omega) hA137⟩
      · skip
        refine go_callV (pc' := 63) rfl rfl rfl (Nat.le_of_ble_eq_true rfl) rfl (sm_o hS131 rfl) rfl rfl rfl (rn_snd_1 hS131 hU133 (by omega) (f := 3) (t := f) (by decide) hf u134 (by omega)) (fun r h138 q139 => ?_)
        obtain ⟨x140, am140, ln140, K140, rfl, hS140, hO140⟩ := q139
        obtain ⟨hx140, hln140, hr140, hWm140⟩ := RO_x hO140 (by omega)
        refine go_s (pc' := 64) (lo' := [some (.ref 62), some (.int (nI (13 * x))), some (.int (nI f)), some (.int 3), some (.int 1), some (.int (nI (13 * x140)))]) rfl rfl rfl rfl ?_
        refine go_s (pc' := 65) rfl rfl rfl rfl ?_
        refine go_s (pc' := 66) (st' := [.int (-1), .int (nI (13 * x140))]) rfl rfl rfl rfl ?_
        refine go_icmpP (t' := 100) (pc' := 67) rfl rfl rfl (fun (c : (nI (13 * x140)) = (-1)) => absurd c (nI_nm1 (by omega))) (fun _ => ?_)
        have hxo := RO_h hO140 (y := x) (m := m) (by simp)
        have hxl9 := hxo.1
        refine go_s (pc' := 68) rfl rfl rfl rfl ?_
        refine go_sget (pc' := 69) (v := .ref am140) hS140 rfl rfl rfl (by decide) rfl rfl ?_
        refine go_s (pc' := 70) rfl rfl rfl rfl ?_
        refine go_s (pc' := 71) (st' := [.int 6, .int (nI (13 * x140)), .ref am140]) rfl rfl rfl rfl ?_
        refine go_nadd (pc' := 72) (a := (13 * x140)) (b := 6) rfl rfl rfl rfl rfl ?_
        refine go_s (pc' := 73) rfl rfl rfl rfl ?_
        refine go_sget (pc' := 74) (v := .ref am140) hS140 rfl rfl rfl (by decide) rfl rfl ?_
        refine go_s (pc' := 75) rfl rfl rfl rfl ?_
        refine go_s (pc' := 76) (st' := [.int 6, .int (nI (13 * x)), .ref am140, .int (nI ((13 * x140) + 6)), .ref am140]) rfl rfl rfl rfl ?_
        refine go_nadd (pc' := 77) (a := (13 * x)) (b := 6) rfl rfl rfl rfl rfl ?_
        refine go_sald (pc' := 78) (q := ((13 * x) + 6)) (v := .int (m.1 6)) hS140 rfl (tr_ms hr140 (by omega)) rfl rfl (by omega) (congrArg Value.int (hxo.2 0 (by rw [h0]; decide))) rfl ?_
        refine go_siast (pc' := 79) (q := ((13 * x140) + 6)) hS140 rfl (tr_ms hr140 (by omega)) tbr_inj (Nat.le_of_ble_eq_true rfl) rfl (by omega) (rk_0 hr140).1 hWm140 rfl (fun h141 hS142 hE143 => ?_)
        refine go_s (pc' := 100) rfl rfl rfl rfl ?_
        refine go_ret rfl rfl ?_
        change sm (tbr am140 (13 * ln140) 77 5088) _ (uI (jn (appI (uI I 40 1 1) Q (4 * 3 + f)) K140) 50 ((13 * x140) + 6) (m.1 6)) Y at hS142
        rw [jn_hi (c := 50) (by decide)] at hS142
        have hU144 := RO_cl (K' := (uI K140 50 ((13 * x140) + 6) (m.1 6))) (m := (mgn (mgW 1 (m.1 6)) ((uI I 40 1 1) 9 (4 * 3 + f) + 1))) (by omega) hO140 (hE143) rfl rfl rfl rfl (fun c j _ hc => by
          simp only [uI]
          rw [if_neg (by omega)]) (fun i hi => by
          have hi2 : i < 1 := hi
          match i, hi2 with
            | 0, _ => (repeat (first | rw [uI_e (by omega)] | rw [uI_j (by omega)])) <;> rfl)
        have hA145 : RA w B (R + 1) [(x, m)] hb h141 ((appI (uI I 40 1 1) Q (4 * 3 + f)), (uQ Q (4 * 3 + f) (Q (4 * 3 + f) ++ [(mgn (mgW 1 (m.1 6)) ((uI I 40 1 1) 9 (4 * 3 + f) + 1))])), (uZ Z 3 m.2)) := RA_u.mpr ⟨_, _, _, _, hS142, hU144⟩
        have hms : rbr f 3 m (I, Q, Z) = ((appI (uI I 40 1 1) Q (4 * 3 + f)), (uQ Q (4 * 3 + f) (Q (4 * 3 + f) ++ [(mgn (mgW 1 (m.1 6)) ((uI I 40 1 1) 9 (4 * 3 + f) + 1))])), (uZ Z 3 m.2)) := by
          unfold rbr
          rw [if_neg (show ¬ m.1 0 = 1 by rw [h0]; decide), if_neg (show ¬ m.1 0 = 2 by rw [h0]; decide), if_pos (show m.1 0 = 3 ∨ m.1 0 = 4 from Or.inr h0), ec, show rcy 1 3 m.2 (I, Q, Z) = ((uI I 40 1 1, Q, uZ Z 3 m.2) : mM) from rfl, show rsn 3 f (mgW 1 (m.1 6)) ((uI I 40 1 1, Q, uZ Z 3 m.2) : mM) = mapp (4 * 3 + f) (mgW 1 (m.1 6)) ((uI I 40 1 1, Q, uZ Z 3 m.2) : mM) from if_neg u134]
          rw [show mapp (4 * 3 + f) (mgW 1 (m.1 6)) ((uI I 40 1 1, Q, uZ Z 3 m.2) : mM) = ((appI (uI I 40 1 1) Q (4 * 3 + f)), (uQ Q (4 * 3 + f) (Q (4 * 3 + f) ++ [(mgn (mgW 1 (m.1 6)) ((uI I 40 1 1) 9 (4 * 3 + f) + 1))])), (uZ Z 3 m.2)) from rfl]
        rw [hms]
        exact ⟨rfl, RA_R (by omega) hA145⟩
    · skip
      have ec : (m.1 5).toNatClampNeg = 2 := by rw [e5]; rfl
      refine go_s (pc' := 1) rfl rfl rfl rfl ?_
      refine go_sget (pc' := 2) (v := .ref am) hS rfl rfl rfl (by decide) rfl rfl ?_
      refine go_s (pc' := 3) rfl rfl rfl rfl ?_
      refine go_s (pc' := 4) (st' := [.int 5, .int (nI (13 * x)), .ref am]) rfl rfl rfl rfl ?_
      refine go_nadd (pc' := 5) (a := (13 * x)) (b := 5) rfl rfl rfl rfl rfl ?_
      refine go_sald (pc' := 6) (q := ((13 * x) + 5)) (v := .int 2) hS rfl (tr_ms hr (by omega)) rfl rfl (by omega) (congrArg Value.int (hx.2.2.2.1.trans e5)) rfl ?_
      refine go_s (pc' := 7) (lo' := [some (.ref 62), some (.int (nI (13 * x))), some (.int (nI f)), some (.int 3), some (.int 2), none]) rfl rfl rfl rfl ?_
      refine go_s (pc' := 8) rfl rfl rfl rfl ?_
      refine go_sget (pc' := 9) (v := .ref am) hS rfl rfl rfl (by decide) rfl rfl ?_
      refine go_s (pc' := 10) rfl rfl rfl rfl ?_
      refine go_s (pc' := 11) (st' := [.int 0, .int (nI (13 * x)), .ref am]) rfl rfl rfl rfl ?_
      refine go_nadd (pc' := 12) (a := (13 * x)) (b := 0) rfl rfl rfl rfl rfl ?_
      refine go_sald (pc' := 13) (q := ((13 * x) + 0)) (v := .int 4) hS rfl (tr_ms hr (by omega)) rfl rfl (by omega) (congrArg Value.int (hx.2.1.trans h0)) rfl ?_
      refine go_tsw (t' := 42) rfl (Or.inr ⟨by decide, rfl⟩) rfl ?_
      refine go_s (pc' := 43) rfl rfl rfl rfl ?_
      refine go_s (pc' := 44) rfl rfl rfl rfl ?_
      refine go_sget (pc' := 45) (v := .ref am) hS rfl rfl rfl (by decide) rfl rfl ?_
      refine go_s (pc' := 46) rfl rfl rfl rfl ?_
      refine go_s (pc' := 47) (st' := [.int 12, .int (nI (13 * x)), .ref am, .ref 62]) rfl rfl rfl rfl ?_
      refine go_nadd (pc' := 48) (a := (13 * x)) (b := 12) rfl rfl rfl rfl rfl ?_
      refine go_sald (pc' := 49) (q := ((13 * x) + 12)) (v := .int (nI y)) hS rfl (tr_ms hr (by omega)) rfl rfl (by omega) (congrArg Value.int y3) rfl ?_
      refine go_s (pc' := 50) (st' := [.int 2, .int (nI y), .ref 62]) rfl rfl rfl rfl ?_
      refine go_s (pc' := 51) rfl rfl rfl rfl ?_
      refine go_s (pc' := 52) (st' := [.int 4, .int (nI y), .ref 62]) rfl rfl rfl rfl ?_
      refine go_s (pc' := 53) rfl rfl rfl rfl ?_
      refine go_s (pc' := 54) (st' := [.int 2, .int 3, .int 4, .int (nI y), .ref 62]) rfl rfl rfl rfl ?_
      refine go_s (pc' := 55) (st' := [.int 1, .int 4, .int (nI y), .ref 62]) rfl rfl rfl rfl ?_
      refine go_s (pc' := 56) (st' := [.int 5, .int (nI y), .ref 62]) rfl rfl rfl rfl ?_
      refine go_callV (pc' := 57) rfl rfl rfl (Nat.le_of_ble_eq_true rfl) rfl (sm_o hS rfl) rfl rfl rfl (rs_cp hr hS hW (hW 77 (by decide) (by decide)) (f := y) (g := 5) (by omega) (by decide) (by omega) (by decide) (by omega)) (fun r h146 q147 => ?_)
      obtain ⟨rfl, hS148, hE149⟩ := q147
      rw [cpI_jn] at hS148
      obtain ⟨K7, e7⟩ : ∃ z, z = cpI K y 5 424 := ⟨_, rfl⟩
      rw [← e7] at hS148
      have hz7 : RZ K7 (decide (5 < 2)) 5 m.2 := by
        rw [e7]
        have z := RZ_cp (g := 5) y4
        rw [e5] at z
        exact z
      have hU150 : RU w B R [(x, m)] hb h146 am ln K7 (I, Q, uZ Z 5 m.2) := RU_row (by decide) (fun c j _ hc => by
        rw [e7]
        exact cpI_r (Nat.le_refl _) c j hc) hz7 (RU_I hE149 (fun _ => rfl) (fun _ => rfl) (Nat.le_refl _) hU)
      have hU151 : RU w B R [(x, m)] hb h146 am ln K7 (I, Q, (uZ Z 5 m.2)) := RU_I (sm_e_refl (tbr am (13 * ln) 77 5088) _) (I' := I) (fun _ => rfl) (fun _ => rfl) (Nat.le_refl _) hU150
      have hS152 : sm (tbr am (13 * ln) 77 5088) _ (jn (uI I 40 2 1) K7) Y := sm_jg hr hS148 (fun c j _ n1 n2 n3 => uI_c n3)
      have hU153 : RU w B R [(x, m)] hb h146 am ln K7 ((uI I 40 2 1), Q, (uZ Z 5 m.2)) := RU_I (sm_e_refl (tbr am (13 * ln) 77 5088) _) (fun _ => rfl) (fun _ => rfl) (Nat.le_refl _) hU151
      refine go_s (pc' := 58) rfl rfl rfl rfl ?_
      refine go_s (pc' := 59) rfl rfl rfl rfl ?_
      refine go_s (pc' := 60) rfl rfl rfl rfl ?_
      refine go_s (pc' := 61) (st' := [.int 5, .int (nI f), .int 3, .ref 62]) rfl rfl rfl rfl ?_
      refine go_s (pc' := 62) rfl rfl rfl rfl ?_
      have hU154 : RU w B R [(x, m)] hb h146 am ln K7 ((uI I 40 2 1), Q, (uZ Z 5 m.2)) := RU_I (sm_e_refl (tbr am (13 * ln) 77 5088) _) (I' := (uI I 40 2 1)) (fun _ => rfl) (fun _ => rfl) (Nat.le_refl _) hU153
      by_cases u155 : (uI I 40 2 1) 0 f = 0
      · skip
        refine go_callV (pc' := 63) rfl rfl rfl (Nat.le_of_ble_eq_true rfl) rfl (sm_o hS152 rfl) rfl rfl rfl (rn_snd_0 hS152 hU154 (by omega) (f := 3) (t := f) (by decide) hf u155 (by omega)) (fun r h156 q157 => ?_)
        obtain ⟨rfl, rfl⟩ := q157
        refine go_s (pc' := 64) (lo' := [some (.ref 62), some (.int (nI (13 * x))), some (.int (nI f)), some (.int 3), some (.int 2), some (.int (-1))]) rfl rfl rfl rfl ?_
        refine go_s (pc' := 65) rfl rfl rfl rfl ?_
        refine go_s (pc' := 66) (st' := [.int (-1), .int (-1)]) rfl rfl rfl rfl ?_
        refine go_icmpP (t' := 100) (pc' := 67) rfl rfl rfl (fun _ => ?_) (fun (c : ¬ (((-1) : Int32) = (-1))) => absurd (by decide) c)
        refine go_ret rfl rfl ?_
        have hA158 : RA w B R [(x, m)] hb h156 ((uI I 40 2 1), Q, (uZ Z 5 m.2)) := RA_u.mpr ⟨_, _, _, _, hS152, hU154⟩
        have hms : rbr f 3 m (I, Q, Z) = ((uI I 40 2 1), Q, (uZ Z 5 m.2)) := by
          unfold rbr
          rw [if_neg (show ¬ m.1 0 = 1 by rw [h0]; decide), if_neg (show ¬ m.1 0 = 2 by rw [h0]; decide), if_pos (show m.1 0 = 3 ∨ m.1 0 = 4 from Or.inr h0), ec, show rcy 2 3 m.2 (I, Q, Z) = ((uI I 40 2 1, Q, uZ Z 5 m.2) : mM) from rfl, show rsn 3 f (mgW 2 (m.1 6)) ((uI I 40 2 1, Q, uZ Z 5 m.2) : mM) = ((uI I 40 2 1, Q, uZ Z 5 m.2) : mM) from if_pos u155]
        rw [hms]
        exact ⟨rfl, RA_R (by omega) hA158⟩
      · skip
        refine go_callV (pc' := 63) rfl rfl rfl (Nat.le_of_ble_eq_true rfl) rfl (sm_o hS152 rfl) rfl rfl rfl (rn_snd_1 hS152 hU154 (by omega) (f := 3) (t := f) (by decide) hf u155 (by omega)) (fun r h159 q160 => ?_)
        obtain ⟨x161, am161, ln161, K161, rfl, hS161, hO161⟩ := q160
        obtain ⟨hx161, hln161, hr161, hWm161⟩ := RO_x hO161 (by omega)
        refine go_s (pc' := 64) (lo' := [some (.ref 62), some (.int (nI (13 * x))), some (.int (nI f)), some (.int 3), some (.int 2), some (.int (nI (13 * x161)))]) rfl rfl rfl rfl ?_
        refine go_s (pc' := 65) rfl rfl rfl rfl ?_
        refine go_s (pc' := 66) (st' := [.int (-1), .int (nI (13 * x161))]) rfl rfl rfl rfl ?_
        refine go_icmpP (t' := 100) (pc' := 67) rfl rfl rfl (fun (c : (nI (13 * x161)) = (-1)) => absurd c (nI_nm1 (by omega))) (fun _ => ?_)
        have hxo := RO_h hO161 (y := x) (m := m) (by simp)
        have hxl9 := hxo.1
        refine go_s (pc' := 68) rfl rfl rfl rfl ?_
        refine go_sget (pc' := 69) (v := .ref am161) hS161 rfl rfl rfl (by decide) rfl rfl ?_
        refine go_s (pc' := 70) rfl rfl rfl rfl ?_
        refine go_s (pc' := 71) (st' := [.int 6, .int (nI (13 * x161)), .ref am161]) rfl rfl rfl rfl ?_
        refine go_nadd (pc' := 72) (a := (13 * x161)) (b := 6) rfl rfl rfl rfl rfl ?_
        refine go_s (pc' := 73) rfl rfl rfl rfl ?_
        refine go_sget (pc' := 74) (v := .ref am161) hS161 rfl rfl rfl (by decide) rfl rfl ?_
        refine go_s (pc' := 75) rfl rfl rfl rfl ?_
        refine go_s (pc' := 76) (st' := [.int 6, .int (nI (13 * x)), .ref am161, .int (nI ((13 * x161) + 6)), .ref am161]) rfl rfl rfl rfl ?_
        refine go_nadd (pc' := 77) (a := (13 * x)) (b := 6) rfl rfl rfl rfl rfl ?_
        refine go_sald (pc' := 78) (q := ((13 * x) + 6)) (v := .int (m.1 6)) hS161 rfl (tr_ms hr161 (by omega)) rfl rfl (by omega) (congrArg Value.int (hxo.2 0 (by rw [h0]; decide))) rfl ?_
        refine go_siast (pc' := 79) (q := ((13 * x161) + 6)) hS161 rfl (tr_ms hr161 (by omega)) tbr_inj (Nat.le_of_ble_eq_true rfl) rfl (by omega) (rk_0 hr161).1 hWm161 rfl (fun h162 hS163 hE164 => ?_)
        refine go_s (pc' := 100) rfl rfl rfl rfl ?_
        refine go_ret rfl rfl ?_
        change sm (tbr am161 (13 * ln161) 77 5088) _ (uI (jn (appI (uI I 40 2 1) Q (4 * 3 + f)) K161) 50 ((13 * x161) + 6) (m.1 6)) Y at hS163
        rw [jn_hi (c := 50) (by decide)] at hS163
        have hU165 := RO_cl (K' := (uI K161 50 ((13 * x161) + 6) (m.1 6))) (m := (mgn (mgW 2 (m.1 6)) ((uI I 40 2 1) 9 (4 * 3 + f) + 1))) (by omega) hO161 (hE164) rfl rfl rfl rfl (fun c j _ hc => by
          simp only [uI]
          rw [if_neg (by omega)]) (fun i hi => by
          have hi2 : i < 1 := hi
          match i, hi2 with
            | 0, _ => (repeat (first | rw [uI_e (by omega)] | rw [uI_j (by omega)])) <;> rfl)
        have hA166 : RA w B (R + 1) [(x, m)] hb h162 ((appI (uI I 40 2 1) Q (4 * 3 + f)), (uQ Q (4 * 3 + f) (Q (4 * 3 + f) ++ [(mgn (mgW 2 (m.1 6)) ((uI I 40 2 1) 9 (4 * 3 + f) + 1))])), (uZ Z 5 m.2)) := RA_u.mpr ⟨_, _, _, _, hS163, hU165⟩
        have hms : rbr f 3 m (I, Q, Z) = ((appI (uI I 40 2 1) Q (4 * 3 + f)), (uQ Q (4 * 3 + f) (Q (4 * 3 + f) ++ [(mgn (mgW 2 (m.1 6)) ((uI I 40 2 1) 9 (4 * 3 + f) + 1))])), (uZ Z 5 m.2)) := by
          unfold rbr
          rw [if_neg (show ¬ m.1 0 = 1 by rw [h0]; decide), if_neg (show ¬ m.1 0 = 2 by rw [h0]; decide), if_pos (show m.1 0 = 3 ∨ m.1 0 = 4 from Or.inr h0), ec, show rcy 2 3 m.2 (I, Q, Z) = ((uI I 40 2 1, Q, uZ Z 5 m.2) : mM) from rfl, show rsn 3 f (mgW 2 (m.1 6)) ((uI I 40 2 1, Q, uZ Z 5 m.2) : mM) = mapp (4 * 3 + f) (mgW 2 (m.1 6)) ((uI I 40 2 1, Q, uZ Z 5 m.2) : mM) from if_neg u155]
          rw [show mapp (4 * 3 + f) (mgW 2 (m.1 6)) ((uI I 40 2 1, Q, uZ Z 5 m.2) : mM) = ((appI (uI I 40 2 1) Q (4 * 3 + f)), (uQ Q (4 * 3 + f) (Q (4 * 3 + f) ++ [(mgn (mgW 2 (m.1 6)) ((uI I 40 2 1) 9 (4 * 3 + f) + 1))])), (uZ Z 5 m.2)) from rfl]
        rw [hms]
        exact ⟨rfl, RA_R (by omega) hA166⟩
  · skip
    have hhc : hc [(x, m)] hb = 0 := by
      have z : isS m = false := by unfold isS; rw [h0]; rfl
      cases hb
      · rfl
      · show List.countP (fun p => isS p.2) [(x, m)] = 0
        simp [z]
    obtain ⟨k9, hk9, e5⟩ := mk3 (Or.inr (Or.inr h0))
    obtain rfl | rfl | rfl : k9 = 0 ∨ k9 = 1 ∨ k9 = 2 := by omega
    · skip
      have ec : (m.1 5).toNatClampNeg = 0 := by rw [e5]; rfl
      refine go_s (pc' := 1) rfl rfl rfl rfl ?_
      refine go_sget (pc' := 2) (v := .ref am) hS rfl rfl rfl (by decide) rfl rfl ?_
      refine go_s (pc' := 3) rfl rfl rfl rfl ?_
      refine go_s (pc' := 4) (st' := [.int 5, .int (nI (13 * x)), .ref am]) rfl rfl rfl rfl ?_
      refine go_nadd (pc' := 5) (a := (13 * x)) (b := 5) rfl rfl rfl rfl rfl ?_
      refine go_sald (pc' := 6) (q := ((13 * x) + 5)) (v := .int 0) hS rfl (tr_ms hr (by omega)) rfl rfl (by omega) (congrArg Value.int (hx.2.2.2.1.trans e5)) rfl ?_
      refine go_s (pc' := 7) (lo' := [some (.ref 62), some (.int (nI (13 * x))), some (.int (nI f)), some (.int 3), some (.int 0), none]) rfl rfl rfl rfl ?_
      refine go_s (pc' := 8) rfl rfl rfl rfl ?_
      refine go_sget (pc' := 9) (v := .ref am) hS rfl rfl rfl (by decide) rfl rfl ?_
      refine go_s (pc' := 10) rfl rfl rfl rfl ?_
      refine go_s (pc' := 11) (st' := [.int 0, .int (nI (13 * x)), .ref am]) rfl rfl rfl rfl ?_
      refine go_nadd (pc' := 12) (a := (13 * x)) (b := 0) rfl rfl rfl rfl rfl ?_
      refine go_sald (pc' := 13) (q := ((13 * x) + 0)) (v := .int 5) hS rfl (tr_ms hr (by omega)) rfl rfl (by omega) (congrArg Value.int (hx.2.1.trans h0)) rfl ?_
      refine go_tsw (t' := 80) rfl (Or.inl ⟨by decide, rfl⟩) rfl ?_
      refine go_s (pc' := 81) rfl rfl rfl rfl ?_
      refine go_sget (pc' := 82) (v := .ref 78) hS rfl rfl rfl (by decide) rfl rfl ?_
      refine go_s (pc' := 83) rfl rfl rfl rfl ?_
      refine go_sald (pc' := 84) (q := 0) (v := .int (I 11 0)) hS rfl (tr_s hr (a := 78) rfl (by decide)) rfl rfl (by decide) rfl rfl ?_
      refine go_s (pc' := 85) rfl rfl rfl rfl ?_
      refine go_icmpP (t' := 100) (pc' := 86) rfl rfl rfl (fun (c167 : ¬ (I 11 0) = 3) => ?_) (fun (c167' : ¬ ¬ (I 11 0) = 3) => ?_)
      · skip
        refine go_ret rfl rfl ?_
        have hms : rbr f 3 m (I, Q, Z) = (I, Q, Z) := by
          unfold rbr
          rw [if_neg (show ¬ m.1 0 = 1 by rw [h0]; decide), if_neg (show ¬ m.1 0 = 2 by rw [h0]; decide), if_neg (show ¬ (m.1 0 = 3 ∨ m.1 0 = 4) by rw [h0]; decide), ec, if_neg (fun z => c167 z.1)]
        rw [hms]
        exact ⟨rfl, RA_R (by omega) hA⟩
      · skip
        have c167 : (I 11 0) = 3 := Decidable.not_not.mp c167'
        refine go_s (pc' := 87) rfl rfl rfl rfl ?_
        refine go_sget (pc' := 88) (v := .ref am) hS rfl rfl rfl (by decide) rfl rfl ?_
        refine go_s (pc' := 89) rfl rfl rfl rfl ?_
        refine go_s (pc' := 90) (st' := [.int 6, .int (nI (13 * x)), .ref am]) rfl rfl rfl rfl ?_
        refine go_nadd (pc' := 91) (a := (13 * x)) (b := 6) rfl rfl rfl rfl rfl ?_
        refine go_sald (pc' := 92) (q := ((13 * x) + 6)) (v := .int (m.1 6)) hS rfl (tr_ms hr (by omega)) rfl rfl (by omega) (congrArg Value.int (hx.2.2.2.2.1 0 (by rw [h0]; decide))) rfl ?_
        refine go_s (pc' := 93) rfl rfl rfl rfl ?_
        refine go_sget (pc' := 94) (v := .ref 82) hS rfl rfl rfl (by decide) rfl rfl ?_
        refine go_s (pc' := 95) rfl rfl rfl rfl ?_
        refine go_sald (pc' := 96) (q := 0) (v := .int (I 15 0)) hS rfl (tr_s hr (a := 82) rfl (by decide)) rfl rfl (by decide) rfl rfl ?_
        refine go_icmpP (t' := 100) (pc' := 97) rfl rfl rfl (fun (c168 : ¬ (m.1 6) = (I 15 0)) => ?_) (fun (c168' : ¬ ¬ (m.1 6) = (I 15 0)) => ?_)
        · skip
          refine go_ret rfl rfl ?_
          have hms : rbr f 3 m (I, Q, Z) = (I, Q, Z) := by
            unfold rbr
            rw [if_neg (show ¬ m.1 0 = 1 by rw [h0]; decide), if_neg (show ¬ m.1 0 = 2 by rw [h0]; decide), if_neg (show ¬ (m.1 0 = 3 ∨ m.1 0 = 4) by rw [h0]; decide), ec, if_neg (fun z => c168 z.2)]
          rw [hms]
          exact ⟨rfl, RA_R (by omega) hA⟩
        · skip
          have c168 : (m.1 6) = (I 15 0) := Decidable.not_not.mp c168'
          refine go_s (pc' := 98) rfl rfl rfl rfl ?_
          refine go_s (pc' := 99) rfl rfl rfl rfl ?_
          obtain ⟨hns, hgo⟩ := hwd 0 (by decide) h0 e5 c168
          have h5q : sq Q ≤ 5 := sq_5 (X := X) (k := 0) (M := (I, Q, Z)) (by omega) hN.1 (by decide) hns
          have hnk : ¬ I 11 0 = -1 := fun z => absurd (c167.symm.trans z) (by decide)
          have hU169 : RU w B R [(x, m)] hb h am ln K (I, Q, Z) := RU_I (sm_e_refl (tbr am (13 * ln) 77 5088) _) (I' := I) (fun _ => rfl) (fun _ => rfl) (Nat.le_refl _) hU
          have hA170 : RA w B R [(x, m)] hb h (I, Q, Z) := RA_u.mpr ⟨_, _, _, _, hS, hU169⟩
          refine go_callV (pc' := 100) rfl rfl rfl (Nat.le_of_ble_eq_true rfl) rfl (sm_o hS rfl) rfl rfl rfl (ra_wd_0 hA170 (by omega) (X := X) (by omega) hgo hhc h5q hp0 hnk (by omega)) (fun r h171 q172 => ?_)
          obtain ⟨rfl, hA173⟩ := q172
          refine go_ret rfl rfl ?_
          have hms : rbr f 3 m (I, Q, Z) = rwd 0 (I, Q, Z) := by
            unfold rbr
            rw [if_neg (show ¬ m.1 0 = 1 by rw [h0]; decide), if_neg (show ¬ m.1 0 = 2 by rw [h0]; decide), if_neg (show ¬ (m.1 0 = 3 ∨ m.1 0 = 4) by rw [h0]; decide), ec, if_pos (show ((I, Q, Z) : mM).1 11 0 = nI 3 ∧ m.1 6 = ((I, Q, Z) : mM).1 15 0 from ⟨c167, c168⟩)]
          rw [hms]
          exact ⟨rfl, RA_R (by omega) hA173⟩
    · skip
      have ec : (m.1 5).toNatClampNeg = 1 := by rw [e5]; rfl
      refine go_s (pc' := 1) rfl rfl rfl rfl ?_
      refine go_sget (pc' := 2) (v := .ref am) hS rfl rfl rfl (by decide) rfl rfl ?_
      refine go_s (pc' := 3) rfl rfl rfl rfl ?_
      refine go_s (pc' := 4) (st' := [.int 5, .int (nI (13 * x)), .ref am]) rfl rfl rfl rfl ?_
      refine go_nadd (pc' := 5) (a := (13 * x)) (b := 5) rfl rfl rfl rfl rfl ?_
      refine go_sald (pc' := 6) (q := ((13 * x) + 5)) (v := .int 1) hS rfl (tr_ms hr (by omega)) rfl rfl (by omega) (congrArg Value.int (hx.2.2.2.1.trans e5)) rfl ?_
      refine go_s (pc' := 7) (lo' := [some (.ref 62), some (.int (nI (13 * x))), some (.int (nI f)), some (.int 3), some (.int 1), none]) rfl rfl rfl rfl ?_
      refine go_s (pc' := 8) rfl rfl rfl rfl ?_
      refine go_sget (pc' := 9) (v := .ref am) hS rfl rfl rfl (by decide) rfl rfl ?_
      refine go_s (pc' := 10) rfl rfl rfl rfl ?_
      refine go_s (pc' := 11) (st' := [.int 0, .int (nI (13 * x)), .ref am]) rfl rfl rfl rfl ?_
      refine go_nadd (pc' := 12) (a := (13 * x)) (b := 0) rfl rfl rfl rfl rfl ?_
      refine go_sald (pc' := 13) (q := ((13 * x) + 0)) (v := .int 5) hS rfl (tr_ms hr (by omega)) rfl rfl (by omega) (congrArg Value.int (hx.2.1.trans h0)) rfl ?_
      refine go_tsw (t' := 80) rfl (Or.inl ⟨by decide, rfl⟩) rfl ?_
      refine go_s (pc' := 81) rfl rfl rfl rfl ?_
      refine go_sget (pc' := 82) (v := .ref 78) hS rfl rfl rfl (by decide) rfl rfl ?_
      refine go_s (pc' := 83) rfl rfl rfl rfl ?_
      refine go_sald (pc' := 84) (q := 1) (v := .int (I 11 1)) hS rfl (tr_s hr (a := 78) rfl (by decide)) rfl rfl (by decide) rfl rfl ?_
      refine go_s (pc' := 85) rfl rfl rfl rfl ?_
      refine go_icmpP (t' := 100) (pc' := 86) rfl rfl rfl (fun (c174 : ¬ (I 11 1) = 3) => ?_) (fun (c174' : ¬ ¬ (I 11 1) = 3) => ?_)
      · skip
        refine go_ret rfl rfl ?_
        have hms : rbr f 3 m (I, Q, Z) = (I, Q, Z) := by
          unfold rbr
          rw [if_neg (show ¬ m.1 0 = 1 by rw [h0]; decide), if_neg (show ¬ m.1 0 = 2 by rw [h0]; decide), if_neg (show ¬ (m.1 0 = 3 ∨ m.1 0 = 4) by rw [h0]; decide), ec, if_neg (fun z => c174 z.1)]
        rw [hms]
        exact ⟨rfl, RA_R (by omega) hA⟩
      · skip
        have c174 : (I 11 1) = 3 := Decidable.not_not.mp c174'
        refine go_s (pc' := 87) rfl rfl rfl rfl ?_
        refine go_sget (pc' := 88) (v := .ref am) hS rfl rfl rfl (by decide) rfl rfl ?_
        refine go_s (pc' := 89) rfl rfl rfl rfl ?_
        refine go_s (pc' := 90) (st' := [.int 6, .int (nI (13 * x)), .ref am]) rfl rfl rfl rfl ?_
        refine go_nadd (pc' := 91) (a := (13 * x)) (b := 6) rfl rfl rfl rfl rfl ?_
        refine go_sald (pc' := 92) (q := ((13 * x) + 6)) (v := .int (m.1 6)) hS rfl (tr_ms hr (by omega)) rfl rfl (by omega) (congrArg Value.int (hx.2.2.2.2.1 0 (by rw [h0]; decide))) rfl ?_
        refine go_s (pc' := 93) rfl rfl rfl rfl ?_
        refine go_sget (pc' := 94) (v := .ref 82) hS rfl rfl rfl (by decide) rfl rfl ?_
        refine go_s (pc' := 95) rfl rfl rfl rfl ?_
        refine go_sald (pc' := 96) (q := 1) (v := .int (I 15 1)) hS rfl (tr_s hr (a := 82) rfl (by decide)) rfl rfl (by decide) rfl rfl ?_
        refine go_icmpP (t' := 100) (pc' := 97) rfl rfl rfl (fun (c175 : ¬ (m.1 6) = (I 15 1)) => ?_) (fun (c175' : ¬ ¬ (m.1 6) = (I 15 1)) => ?_)
        · skip
          refine go_ret rfl rfl ?_
          have hms : rbr f 3 m (I, Q, Z) = (I, Q, Z) := by
            unfold rbr
            rw [if_neg (show ¬ m.1 0 = 1 by rw [h0]; decide), if_neg (show ¬ m.1 0 = 2 by rw [h0]; decide), if_neg (show ¬ (m.1 0 = 3 ∨ m.1 0 = 4) by rw [h0]; decide), ec, if_neg (fun z => c175 z.2)]
          rw [hms]
          exact ⟨rfl, RA_R (by omega) hA⟩
        · skip
          have c175 : (m.1 6) = (I 15 1) := Decidable.not_not.mp c175'
          refine go_s (pc' := 98) rfl rfl rfl rfl ?_
          refine go_s (pc' := 99) rfl rfl rfl rfl ?_
          obtain ⟨hns, hgo⟩ := hwd 1 (by decide) h0 e5 c175
          have h5q : sq Q ≤ 5 := sq_5 (X := X) (k := 1) (M := (I, Q, Z)) (by omega) hN.1 (by decide) hns
          have hnk : ¬ I 11 1 = -1 := fun z => absurd (c174.symm.trans z) (by decide)
          have hU176 : RU w B R [(x, m)] hb h am ln K (I, Q, Z) := RU_I (sm_e_refl (tbr am (13 * ln) 77 5088) _) (I' := I) (fun _ => rfl) (fun _ => rfl) (Nat.le_refl _) hU
          have hA177 : RA w B R [(x, m)] hb h (I, Q, Z) := RA_u.mpr ⟨_, _, _, _, hS, hU176⟩
          refine go_callV (pc' := 100) rfl rfl rfl (Nat.le_of_ble_eq_true rfl) rfl (sm_o hS rfl) rfl rfl rfl (ra_wd_1 hA177 (by omega) (X := X) (by omega) hgo hhc h5q hp0 hp1 hnk (by omega)) (fun r h178 q179 => ?_)
          obtain ⟨rfl, hA180⟩ := q179
          refine go_ret rfl rfl ?_
          have hms : rbr f 3 m (I, Q, Z) = rwd 1 (I, Q, Z) := by
            unfold rbr
            rw [if_neg (show ¬ m.1 0 = 1 by rw [h0]; decide), if_neg (show ¬ m.1 0 = 2 by rw [h0]; decide), if_neg (show ¬ (m.1 0 = 3 ∨ m.1 0 = 4) by rw [h0]; decide), ec, if_pos (show ((I, Q, Z) : mM).1 11 1 = nI 3 ∧ m.1 6 = ((I, Q, Z) : mM).1 15 1 from ⟨c174, c175⟩)]
          rw [hms]
          exact ⟨rfl, RA_R (by omega) hA180⟩
    · skip
      have ec : (m.1 5).toNatClampNeg = 2 := by rw [e5]; rfl
      refine go_s (pc' := 1) rfl rfl rfl rfl ?_
      refine go_sget (pc' := 2) (v := .ref am) hS rfl rfl rfl (by decide) rfl rfl ?_
      refine go_s (pc' := 3) rfl rfl rfl rfl ?_
      refine go_s (pc' := 4) (st' := [.int 5, .int (nI (13 * x)), .ref am]) rfl rfl rfl rfl ?_
      refine go_nadd (pc' := 5) (a := (13 * x)) (b := 5) rfl rfl rfl rfl rfl ?_
      refine go_sald (pc' := 6) (q := ((13 * x) + 5)) (v := .int 2) hS rfl (tr_ms hr (by omega)) rfl rfl (by omega) (congrArg Value.int (hx.2.2.2.1.trans e5)) rfl ?_
      refine go_s (pc' := 7) (lo' := [some (.ref 62), some (.int (nI (13 * x))), some (.int (nI f)), some (.int 3), some (.int 2), none]) rfl rfl rfl rfl ?_
      refine go_s (pc' := 8) rfl rfl rfl rfl ?_
      refine go_sget (pc' := 9) (v := .ref am) hS rfl rfl rfl (by decide) rfl rfl ?_
      refine go_s (pc' := 10) rfl rfl rfl rfl ?_
      refine go_s (pc' := 11) (st' := [.int 0, .int (nI (13 * x)), .ref am]) rfl rfl rfl rfl ?_
      refine go_nadd (pc' := 12) (a := (13 * x)) (b := 0) rfl rfl rfl rfl rfl ?_
      refine go_sald (pc' := 13) (q := ((13 * x) + 0)) (v := .int 5) hS rfl (tr_ms hr (by omega)) rfl rfl (by omega) (congrArg Value.int (hx.2.1.trans h0)) rfl ?_
      refine go_tsw (t' := 80) rfl (Or.inl ⟨by decide, rfl⟩) rfl ?_
      refine go_s (pc' := 81) rfl rfl rfl rfl ?_
      refine go_sget (pc' := 82) (v := .ref 78) hS rfl rfl rfl (by decide) rfl rfl ?_
      refine go_s (pc' := 83) rfl rfl rfl rfl ?_
      refine go_sald (pc' := 84) (q := 2) (v := .int (I 11 2)) hS rfl (tr_s hr (a := 78) rfl (by decide)) rfl rfl (by decide) rfl rfl ?_
      refine go_s (pc' := 85) rfl rfl rfl rfl ?_
      refine go_icmpP (t' := 100) (pc' := 86) rfl rfl rfl (fun (c181 : ¬ (I 11 2) = 3) => ?_) (fun (c181' : ¬ ¬ (I 11 2) = 3) => ?_)
      · skip
        refine go_ret rfl rfl ?_
        have hms : rbr f 3 m (I, Q, Z) = (I, Q, Z) := by
          unfold rbr
          rw [if_neg (show ¬ m.1 0 = 1 by rw [h0]; decide), if_neg (show ¬ m.1 0 = 2 by rw [h0]; decide), if_neg (show ¬ (m.1 0 = 3 ∨ m.1 0 = 4) by rw [h0]; decide), ec, if_neg (fun z => c181 z.1)]
        rw [hms]
        exact ⟨rfl, RA_R (by omega) hA⟩
      · skip
        have c181 : (I 11 2) = 3 := Decidable.not_not.mp c181'
        refine go_s (pc' := 87) rfl rfl rfl rfl ?_
        refine go_sget (pc' := 88) (v := .ref am) hS rfl rfl rfl (by decide) rfl rfl ?_
        refine go_s (pc' := 89) rfl rfl rfl rfl ?_
        refine go_s (pc' := 90) (st' := [.int 6, .int (nI (13 * x)), .ref am]) rfl rfl rfl rfl ?_
        refine go_nadd (pc' := 91) (a := (13 * x)) (b := 6) rfl rfl rfl rfl rfl ?_
        refine go_sald (pc' := 92) (q := ((13 * x) + 6)) (v := .int (m.1 6)) hS rfl (tr_ms hr (by omega)) rfl rfl (by omega) (congrArg Value.int (hx.2.2.2.2.1 0 (by rw [h0]; decide))) rfl ?_
        refine go_s (pc' := 93) rfl rfl rfl rfl ?_
        refine go_sget (pc' := 94) (v := .ref 82) hS rfl rfl rfl (by decide) rfl rfl ?_
        refine go_s (pc' := 95) rfl rfl rfl rfl ?_
        refine go_sald (pc' := 96) (q := 2) (v := .int (I 15 2)) hS rfl (tr_s hr (a := 82) rfl (by decide)) rfl rfl (by decide) rfl rfl ?_
        refine go_icmpP (t' := 100) (pc' := 97) rfl rfl rfl (fun (c182 : ¬ (m.1 6) = (I 15 2)) => ?_) (fun (c182' : ¬ ¬ (m.1 6) = (I 15 2)) => ?_)
        · skip
          refine go_ret rfl rfl ?_
          have hms : rbr f 3 m (I, Q, Z) = (I, Q, Z) := by
            unfold rbr
            rw [if_neg (show ¬ m.1 0 = 1 by rw [h0]; decide), if_neg (show ¬ m.1 0 = 2 by rw [h0]; decide), if_neg (show ¬ (m.1 0 = 3 ∨ m.1 0 = 4) by rw [h0]; decide), ec, if_neg (fun z => c182 z.2)]
          rw [hms]
          exact ⟨rfl, RA_R (by omega) hA⟩
        · skip
          have c182 : (m.1 6) = (I 15 2) := Decidable.not_not.mp c182'
          refine go_s (pc' := 98) rfl rfl rfl rfl ?_
          refine go_s (pc' := 99) rfl rfl rfl rfl ?_
          obtain ⟨hns, hgo⟩ := hwd 2 (by decide) h0 e5 c182
          have h5q : sq Q ≤ 5 := sq_5 (X := X) (k := 2) (M := (I, Q, Z)) (by omega) hN.1 (by decide) hns
          have hnk : ¬ I 11 2 = -1 := fun z => absurd (c181.symm.trans z) (by decide)
          have hU183 : RU w B R [(x, m)] hb h am ln K (I, Q, Z) := RU_I (sm_e_refl (tbr am (13 * ln) 77 5088) _) (I' := I) (fun _ => rfl) (fun _ => rfl) (Nat.le_refl _) hU
          have hA184 : RA w B R [(x, m)] hb h (I, Q, Z) := RA_u.mpr ⟨_, _, _, _, hS, hU183⟩
          refine go_callV (pc' := 100) rfl rfl rfl (Nat.le_of_ble_eq_true rfl) rfl (sm_o hS rfl) rfl rfl rfl (ra_wd_2 hA184 (by omega) (X := X) (by omega) hgo hhc h5q hp0 hp2 hnk (by omega)) (fun r h185 q186 => ?_)
          obtain ⟨rfl, hA187⟩ := q186
          refine go_ret rfl rfl ?_
          have hms : rbr f 3 m (I, Q, Z) = rwd 2 (I, Q, Z) := by
            unfold rbr
            rw [if_neg (show ¬ m.1 0 = 1 by rw [h0]; decide), if_neg (show ¬ m.1 0 = 2 by rw [h0]; decide), if_neg (show ¬ (m.1 0 = 3 ∨ m.1 0 = 4) by rw [h0]; decide), ec, if_pos (show ((I, Q, Z) : mM).1 11 2 = nI 3 ∧ m.1 6 = ((I, Q, Z) : mM).1 15 2 from ⟨c181, c182⟩)]
          rw [hms]
          exact ⟨rfl, RA_R (by omega) hA187⟩
