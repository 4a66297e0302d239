theorem ra_pr_0_0 {w : Nat → Bool} {d B R : Nat} {h : am_Hp} {I : sm_I} {Q : mQ} {Z : mZ} (hA : RA w B R [] true h (I, Q, Z)) (hR : R + 0 < 40000) (hpk : ∀ k, k < 3 → prk I k) (hbok : ∀ r, r < 2 → bok (Z r)) (hd : 3 ≤ d) : am_Ev (am_prog w) d 186 [.ref 62, .int 0, .int 0] h (fun r h' => r = some (.int (mqpr 0 0 (I, Q, Z))) ∧ h' = h) := by
  obtain ⟨K, Y, am, ln, hS, hU⟩ := RA_u.mp hA
  change sm (tbr am (13 * ln) 77 5088) h (jn I K) Y at hS
  obtain ⟨hW, hWm, -, -, hr, -⟩ := id hU.1
  have hln := RU_ln hU (by omega)
  obtain ⟨d, rfl⟩ : ∃ e, d = e + 1 := ⟨d - 1, by omega⟩
  refine ev_go rfl (Nat.le_of_ble_eq_true rfl) rfl ?_
  have hp0 : prk I 0 := hpk 0 (by decide)
  have hp1 : prk I 1 := hpk 1 (by decide)
  have hp2 : prk I 2 := hpk 2 (by decide)
  refine go_s (pc' := 1) rfl rfl rfl rfl ?_
  refine go_s (pc' := 2) (st' := [.int 0, .int 0]) rfl rfl rfl rfl ?_
  refine go_s (pc' := 3) (st' := [.int 2, .int 0, .int 0]) rfl rfl rfl rfl ?_
  refine go_callS (pc' := 4) rfl rfl rfl (Nat.le_of_ble_eq_true rfl) rfl rfl rfl (rt_within_t (q := 0) (n := 2) (by decide) (by decide) (by omega)) (fun r h1 q2 => ?_)
  obtain ⟨rfl, rfl⟩ := q2
  refine go_ifP (t' := 7) (pc' := 5) rfl rfl rfl (fun _ => ?_) (fun (c : ¬ (¬ (1 : Int32) = 0)) => absurd (by decide) c)
  refine go_s (pc' := 8) rfl rfl rfl rfl ?_
  refine go_ifP (t' := 14) (pc' := 9) rfl rfl rfl (fun (c : ¬ (0 : Int32) = 0) => absurd c (by decide)) (fun _ => ?_)
  refine go_s (pc' := 10) rfl rfl rfl rfl ?_
  refine go_sget (pc' := 11) (v := .ref 78) hS rfl rfl rfl (by decide) rfl rfl ?_
  refine go_s (pc' := 12) rfl rfl rfl rfl ?_
  refine go_sald (pc' := 13) (q := 0) (v := .int (I 11 0)) hS rfl (tr_s hr (a := 78) rfl (by decide)) rfl rfl (by decide) rfl rfl ?_
  refine go_ret rfl rfl ?_
  have hms : mqpr 0 0 (I, Q, Z) = (I 11 0) := rfl
  rw [hms]
  exact ⟨rfl, rfl⟩
theorem ra_pr_0_1 {w : Nat → Bool} {d B R : Nat} {h : am_Hp} {I : sm_I} {Q : mQ} {Z : mZ} (hA : RA w B R [] true h (I, Q, Z)) (hR : R + 0 < 40000) (hpk : ∀ k, k < 3 → prk I k) (hbok : ∀ r, r < 2 → bok (Z r)) (hd : 3 ≤ d) : am_Ev (am_prog w) d 186 [.ref 62, .int 0, .int 1] h (fun r h' => r = some (.int (mqpr 0 1 (I, Q, Z))) ∧ h' = h) := by
  obtain ⟨K, Y, am, ln, hS, hU⟩ := RA_u.mp hA
  change sm (tbr am (13 * ln) 77 5088) h (jn I K) Y at hS
  obtain ⟨hW, hWm, -, -, hr, -⟩ := id hU.1
  have hln := RU_ln hU (by omega)
  obtain ⟨d, rfl⟩ : ∃ e, d = e + 1 := ⟨d - 1, by omega⟩
  refine ev_go rfl (Nat.le_of_ble_eq_true rfl) rfl ?_
  have hp0 : prk I 0 := hpk 0 (by decide)
  have hp1 : prk I 1 := hpk 1 (by decide)
  have hp2 : prk I 2 := hpk 2 (by decide)
  refine go_s (pc' := 1) rfl rfl rfl rfl ?_
  refine go_s (pc' := 2) (st' := [.int 0, .int 0]) rfl rfl rfl rfl ?_
  refine go_s (pc' := 3) (st' := [.int 2, .int 0, .int 0]) rfl rfl rfl rfl ?_
  refine go_callS (pc' := 4) rfl rfl rfl (Nat.le_of_ble_eq_true rfl) rfl rfl rfl (rt_within_t (q := 0) (n := 2) (by decide) (by decide) (by omega)) (fun r h1 q2 => ?_)
  obtain ⟨rfl, rfl⟩ := q2
  refine go_ifP (t' := 7) (pc' := 5) rfl rfl rfl (fun _ => ?_) (fun (c : ¬ (¬ (1 : Int32) = 0)) => absurd (by decide) c)
  refine go_s (pc' := 8) rfl rfl rfl rfl ?_
  refine go_ifP (t' := 14) (pc' := 9) rfl rfl rfl (fun _ => ?_) (fun (c : ¬ (¬ (1 : Int32) = 0)) => absurd (by decide) c)
  refine go_s (pc' := 15) rfl rfl rfl rfl ?_
  refine go_s (pc' := 16) (st' := [.int 1, .int 1]) rfl rfl rfl rfl ?_
  refine go_icmpP (t' := 22) (pc' := 17) rfl rfl rfl (fun (c : ¬ (1 : Int32) = 1) => absurd c (by decide)) (fun _ => ?_)
  refine go_s (pc' := 18) rfl rfl rfl rfl ?_
  refine go_sget (pc' := 19) (v := .ref 79) hS rfl rfl rfl (by decide) rfl rfl ?_
  refine go_s (pc' := 20) rfl rfl rfl rfl ?_
  refine go_sald (pc' := 21) (q := 0) (v := .int (I 12 0)) hS rfl (tr_s hr (a := 79) rfl (by decide)) rfl rfl (by decide) rfl rfl ?_
  refine go_ret rfl rfl ?_
  have hms : mqpr 0 1 (I, Q, Z) = (I 12 0) := rfl
  rw [hms]
  exact ⟨rfl, rfl⟩
theorem ra_pr_0_2 {w : Nat → Bool} {d B R : Nat} {h : am_Hp} {I : sm_I} {Q : mQ} {Z : mZ} (hA : RA w B R [] true h (I, Q, Z)) (hR : R + 0 < 40000) (hpk : ∀ k, k < 3 → prk I k) (hbok : ∀ r, r < 2 → bok (Z r)) (hd : 3 ≤ d) : am_Ev (am_prog w) d 186 [.ref 62, .int 0, .int 2] h (fun r h' => r = some (.int (mqpr 0 2 (I, Q, Z))) ∧ h' = h) := by
  obtain ⟨K, Y, am, ln, hS, hU⟩ := RA_u.mp hA
  change sm (tbr am (13 * ln) 77 5088) h (jn I K) Y at hS
  obtain ⟨hW, hWm, -, -, hr, -⟩ := id hU.1
  have hln := RU_ln hU (by omega)
  obtain ⟨d, rfl⟩ : ∃ e, d = e + 1 := ⟨d - 1, by omega⟩
  refine ev_go rfl (Nat.le_of_ble_eq_true rfl) rfl ?_
  have hp0 : prk I 0 := hpk 0 (by decide)
  have hp1 : prk I 1 := hpk 1 (by decide)
  have hp2 : prk I 2 := hpk 2 (by decide)
  refine go_s (pc' := 1) rfl rfl rfl rfl ?_
  refine go_s (pc' := 2) (st' := [.int 0, .int 0]) rfl rfl rfl rfl ?_
  refine go_s (pc' := 3) (st' := [.int 2, .int 0, .int 0]) rfl rfl rfl rfl ?_
  refine go_callS (pc' := 4) rfl rfl rfl (Nat.le_of_ble_eq_true rfl) rfl rfl rfl (rt_within_t (q := 0) (n := 2) (by decide) (by decide) (by omega)) (fun r h1 q2 => ?_)
  obtain ⟨rfl, rfl⟩ := q2
  refine go_ifP (t' := 7) (pc' := 5) rfl rfl rfl (fun _ => ?_) (fun (c : ¬ (¬ (1 : Int32) = 0)) => absurd (by decide) c)
  refine go_s (pc' := 8) rfl rfl rfl rfl ?_
  refine go_ifP (t' := 14) (pc' := 9) rfl rfl rfl (fun _ => ?_) (fun (c : ¬ (¬ (2 : Int32) = 0)) => absurd (by decide) c)
  refine go_s (pc' := 15) rfl rfl rfl rfl ?_
  refine go_s (pc' := 16) (st' := [.int 1, .int 2]) rfl rfl rfl rfl ?_
  refine go_icmpP (t' := 22) (pc' := 17) rfl rfl rfl (fun _ => ?_) (fun (c : ¬ (¬ (2 : Int32) = 1)) => absurd (by decide) c)
  refine go_s (pc' := 23) rfl rfl rfl rfl ?_
  refine go_s (pc' := 24) (st' := [.int 2, .int 2]) rfl rfl rfl rfl ?_
  refine go_icmpP (t' := 34) (pc' := 25) rfl rfl rfl (fun (c : ¬ (2 : Int32) = 2) => absurd c (by decide)) (fun _ => ?_)
  refine go_s (pc' := 26) rfl rfl rfl rfl ?_
  refine go_sget (pc' := 27) (v := .ref 80) hS rfl rfl rfl (by decide) rfl rfl ?_
  refine go_s (pc' := 28) rfl rfl rfl rfl ?_
  refine go_sald (pc' := 29) (q := 0) (v := .int (I 13 0)) hS rfl (tr_s hr (a := 80) rfl (by decide)) rfl rfl (by decide) rfl rfl ?_
  refine go_ifP (t' := 32) (pc' := 30) rfl rfl rfl (fun (c3 : (I 13 0) = 0) => ?_) (fun (c3 : ¬ (I 13 0) = 0) => ?_)
  · skip
    refine go_s (pc' := 33) (st' := [.int 0]) rfl rfl rfl rfl ?_
    refine go_ret rfl rfl ?_
    have hms : mqpr 0 2 (I, Q, Z) = 0 := by
      show bI (I 13 0) = 0
      exact if_pos c3
    rw [hms]
    exact ⟨rfl, rfl⟩
  · skip
    refine go_s (pc' := 31) (st' := [.int 1]) rfl rfl rfl rfl ?_
    refine go_s (pc' := 33) rfl rfl rfl rfl ?_
    refine go_ret rfl rfl ?_
    have hms : mqpr 0 2 (I, Q, Z) = 1 := by
      show bI (I 13 0) = 1
      exact if_neg c3
    rw [hms]
    exact ⟨rfl, rfl⟩
theorem ra_pr_0_3 {w : Nat → Bool} {d B R : Nat} {h : am_Hp} {I : sm_I} {Q : mQ} {Z : mZ} (hA : RA w B R [] true h (I, Q, Z)) (hR : R + 0 < 40000) (hpk : ∀ k, k < 3 → prk I k) (hbok : ∀ r, r < 2 → bok (Z r)) (hd : 3 ≤ d) : am_Ev (am_prog w) d 186 [.ref 62, .int 0, .int 3] h (fun r h' => r = some (.int (mqpr 0 3 (I, Q, Z))) ∧ h' = h) := by
  obtain ⟨K, Y, am, ln, hS, hU⟩ := RA_u.mp hA
  change sm (tbr am (13 * ln) 77 5088) h (jn I K) Y at hS
  obtain ⟨hW, hWm, -, -, hr, -⟩ := id hU.1
  have hln := RU_ln hU (by omega)
  obtain ⟨d, rfl⟩ : ∃ e, d = e + 1 := ⟨d - 1, by omega⟩
  refine ev_go rfl (Nat.le_of_ble_eq_true rfl) rfl ?_
  have hp0 : prk I 0 := hpk 0 (by decide)
  have hp1 : prk I 1 := hpk 1 (by decide)
  have hp2 : prk I 2 := hpk 2 (by decide)
  refine go_s (pc' := 1) rfl rfl rfl rfl ?_
  refine go_s (pc' := 2) (st' := [.int 0, .int 0]) rfl rfl rfl rfl ?_
  refine go_s (pc' := 3) (st' := [.int 2, .int 0, .int 0]) rfl rfl rfl rfl ?_
  refine go_callS (pc' := 4) rfl rfl rfl (Nat.le_of_ble_eq_true rfl) rfl rfl rfl (rt_within_t (q := 0) (n := 2) (by decide) (by decide) (by omega)) (fun r h1 q2 => ?_)
  obtain ⟨rfl, rfl⟩ := q2
  refine go_ifP (t' := 7) (pc' := 5) rfl rfl rfl (fun _ => ?_) (fun (c : ¬ (¬ (1 : Int32) = 0)) => absurd (by decide) c)
  refine go_s (pc' := 8) rfl rfl rfl rfl ?_
  refine go_ifP (t' := 14) (pc' := 9) rfl rfl rfl (fun _ => ?_) (fun (c : ¬ (¬ (3 : Int32) = 0)) => absurd (by decide) c)
  refine go_s (pc' := 15) rfl rfl rfl rfl ?_
  refine go_s (pc' := 16) (st' := [.int 1, .int 3]) rfl rfl rfl rfl ?_
  refine go_icmpP (t' := 22) (pc' := 17) rfl rfl rfl (fun _ => ?_) (fun (c : ¬ (¬ (3 : Int32) = 1)) => absurd (by decide) c)
  refine go_s (pc' := 23) rfl rfl rfl rfl ?_
  refine go_s (pc' := 24) (st' := [.int 2, .int 3]) rfl rfl rfl rfl ?_
  refine go_icmpP (t' := 34) (pc' := 25) rfl rfl rfl (fun _ => ?_) (fun (c : ¬ (¬ (3 : Int32) = 2)) => absurd (by decide) c)
  refine go_s (pc' := 35) rfl rfl rfl rfl ?_
  refine go_s (pc' := 36) (st' := [.int 4, .int 3]) rfl rfl rfl rfl ?_
  refine go_icmpP (t' := 42) (pc' := 37) rfl rfl rfl (fun _ => ?_) (fun (c : ¬ (¬ (3 : Int32) = 4)) => absurd (by decide) c)
  refine go_s (pc' := 43) rfl rfl rfl rfl ?_
  refine go_ifP (t' := 54) (pc' := 44) rfl rfl rfl (fun _ => ?_) (fun (c : ¬ ((0 : Int32) ≤ 0)) => absurd (by decide) c)
  refine go_s (pc' := 55) rfl rfl rfl rfl ?_
  refine go_s (pc' := 56) rfl rfl rfl rfl ?_
  refine go_callV (pc' := 57) rfl rfl rfl (Nat.le_of_ble_eq_true rfl) rfl (sm_o hS rfl) rfl rfl rfl (rt_lives_0 hr hS hp0 (by omega)) (fun r h3 q4 => ?_)
  obtain ⟨rfl, rfl⟩ := q4
  rw [show lv (jn I K) 0 = lv I 0 from rfl]
  cases u5 : lv I 0
  · skip
    show am_Go _ _ _ _ 57 _ [.int 0] _ _
    refine go_ifP (t' := 60) (pc' := 58) rfl rfl rfl (fun (c : ¬ (0 : Int32) = 0) => absurd c (by decide)) (fun _ => ?_)
    refine go_s (pc' := 59) (st' := [.int (-1)]) rfl rfl rfl rfl ?_
    refine go_ret rfl rfl ?_
    have hms : mqpr 0 3 (I, Q, Z) = (-1) := by
      show (if lv I 0 = true then I 16 0 else -1) = (-1)
      exact (if_neg (by rw [u5]; decide))
    rw [hms]
    exact ⟨rfl, rfl⟩
  · skip
    show am_Go _ _ _ _ 57 _ [.int 1] _ _
    refine go_ifP (t' := 60) (pc' := 58) rfl rfl rfl (fun _ => ?_) (fun (c : ¬ (¬ (1 : Int32) = 0)) => absurd (by decide) c)
    refine go_s (pc' := 61) rfl rfl rfl rfl ?_
    refine go_s (pc' := 62) (st' := [.int 3, .int 3]) rfl rfl rfl rfl ?_
    refine go_icmpP (t' := 68) (pc' := 63) rfl rfl rfl (fun (c : ¬ (3 : Int32) = 3) => absurd c (by decide)) (fun _ => ?_)
    refine go_s (pc' := 64) rfl rfl rfl rfl ?_
    refine go_sget (pc' := 65) (v := .ref 83) hS rfl rfl rfl (by decide) rfl rfl ?_
    refine go_s (pc' := 66) rfl rfl rfl rfl ?_
    refine go_sald (pc' := 67) (q := 0) (v := .int (I 16 0)) hS rfl (tr_s hr (a := 83) rfl (by decide)) rfl rfl (by decide) rfl rfl ?_
    refine go_ret rfl rfl ?_
    have hms : mqpr 0 3 (I, Q, Z) = (I 16 0) := by
      show (if lv I 0 = true then I 16 0 else -1) = (I 16 0)
      exact (if_pos u5)
    rw [hms]
    exact ⟨rfl, rfl⟩
theorem ra_pr_0_4 {w : Nat → Bool} {d B R : Nat} {h : am_Hp} {I : sm_I} {Q : mQ} {Z : mZ} (hA : RA w B R [] true h (I, Q, Z)) (hR : R + 0 < 40000) (hpk : ∀ k, k < 3 → prk I k) (hbok : ∀ r, r < 2 → bok (Z r)) (hd : 3 ≤ d) : am_Ev (am_prog w) d 186 [.ref 62, .int 0, .int 4] h (fun r h' => r = some (.int (mqpr 0 4 (I, Q, Z))) ∧ h' = h) := by
  obtain ⟨K, Y, am, ln, hS, hU⟩ := RA_u.mp hA
  change sm (tbr am (13 * ln) 77 5088) h (jn I K) Y at hS
  obtain ⟨hW, hWm, -, -, hr, -⟩ := id hU.1
  have hln := RU_ln hU (by omega)
  obtain ⟨d, rfl⟩ : ∃ e, d = e + 1 := ⟨d - 1, by omega⟩
  refine ev_go rfl (Nat.le_of_ble_eq_true rfl) rfl ?_
  have hp0 : prk I 0 := hpk 0 (by decide)
  have hp1 : prk I 1 := hpk 1 (by decide)
  have hp2 : prk I 2 := hpk 2 (by decide)
  refine go_s (pc' := 1) rfl rfl rfl rfl ?_
  refine go_s (pc' := 2) (st' := [.int 0, .int 0]) rfl rfl rfl rfl ?_
  refine go_s (pc' := 3) (st' := [.int 2, .int 0, .int 0]) rfl rfl rfl rfl ?_
  refine go_callS (pc' := 4) rfl rfl rfl (Nat.le_of_ble_eq_true rfl) rfl rfl rfl (rt_within_t (q := 0) (n := 2) (by decide) (by decide) (by omega)) (fun r h1 q2 => ?_)
  obtain ⟨rfl, rfl⟩ := q2
  refine go_ifP (t' := 7) (pc' := 5) rfl rfl rfl (fun _ => ?_) (fun (c : ¬ (¬ (1 : Int32) = 0)) => absurd (by decide) c)
  refine go_s (pc' := 8) rfl rfl rfl rfl ?_
  refine go_ifP (t' := 14) (pc' := 9) rfl rfl rfl (fun _ => ?_) (fun (c : ¬ (¬ (4 : Int32) = 0)) => absurd (by decide) c)
  refine go_s (pc' := 15) rfl rfl rfl rfl ?_
  refine go_s (pc' := 16) (st' := [.int 1, .int 4]) rfl rfl rfl rfl ?_
  refine go_icmpP (t' := 22) (pc' := 17) rfl rfl rfl (fun _ => ?_) (fun (c : ¬ (¬ (4 : Int32) = 1)) => absurd (by decide) c)
  refine go_s (pc' := 23) rfl rfl rfl rfl ?_
  refine go_s (pc' := 24) (st' := [.int 2, .int 4]) rfl rfl rfl rfl ?_
  refine go_icmpP (t' := 34) (pc' := 25) rfl rfl rfl (fun _ => ?_) (fun (c : ¬ (¬ (4 : Int32) = 2)) => absurd (by decide) c)
  refine go_s (pc' := 35) rfl rfl rfl rfl ?_
  refine go_s (pc' := 36) (st' := [.int 4, .int 4]) rfl rfl rfl rfl ?_
  refine go_icmpP (t' := 42) (pc' := 37) rfl rfl rfl (fun (c : ¬ (4 : Int32) = 4) => absurd c (by decide)) (fun _ => ?_)
  refine go_s (pc' := 38) rfl rfl rfl rfl ?_
  refine go_sget (pc' := 39) (v := .ref 82) hS rfl rfl rfl (by decide) rfl rfl ?_
  refine go_s (pc' := 40) rfl rfl rfl rfl ?_
  refine go_sald (pc' := 41) (q := 0) (v := .int (I 15 0)) hS rfl (tr_s hr (a := 82) rfl (by decide)) rfl rfl (by decide) rfl rfl ?_
  refine go_ret rfl rfl ?_
  have hms : mqpr 0 4 (I, Q, Z) = (I 15 0) := rfl
  rw [hms]
  exact ⟨rfl, rfl⟩
theorem ra_pr_0_5 {w : Nat → Bool} {d B R : Nat} {h : am_Hp} {I : sm_I} {Q : mQ} {Z : mZ} (hA : RA w B R [] true h (I, Q, Z)) (hR : R + 0 < 40000) (hpk : ∀ k, k < 3 → prk I k) (hbok : ∀ r, r < 2 → bok (Z r)) (hd : 3 ≤ d) : am_Ev (am_prog w) d 186 [.ref 62, .int 0, .int 5] h (fun r h' => r = some (.int (mqpr 0 5 (I, Q, Z))) ∧ h' = h) := by
  obtain ⟨K, Y, am, ln, hS, hU⟩ := RA_u.mp hA
  change sm (tbr am (13 * ln) 77 5088) h (jn I K) Y at hS
  obtain ⟨hW, hWm, -, -, hr, -⟩ := id hU.1
  have hln := RU_ln hU (by omega)
  obtain ⟨d, rfl⟩ : ∃ e, d = e + 1 := ⟨d - 1, by omega⟩
  refine ev_go rfl (Nat.le_of_ble_eq_true rfl) rfl ?_
  have hp0 : prk I 0 := hpk 0 (by decide)
  have hp1 : prk I 1 := hpk 1 (by decide)
  have hp2 : prk I 2 := hpk 2 (by decide)
  refine go_s (pc' := 1) rfl rfl rfl rfl ?_
  refine go_s (pc' := 2) (st' := [.int 0, .int 0]) rfl rfl rfl rfl ?_
  refine go_s (pc' := 3) (st' := [.int 2, .int 0, .int 0]) rfl rfl rfl rfl ?_
  refine go_callS (pc' := 4) rfl rfl rfl (Nat.le_of_ble_eq_true rfl) rfl rfl rfl (rt_within_t (q := 0) (n := 2) (by decide) (by decide) (by omega)) (fun r h1 q2 => ?_)
  obtain ⟨rfl, rfl⟩ := q2
  refine go_ifP (t' := 7) (pc' := 5) rfl rfl rfl (fun _ => ?_) (fun (c : ¬ (¬ (1 : Int32) = 0)) => absurd (by decide) c)
  refine go_s (pc' := 8) rfl rfl rfl rfl ?_
  refine go_ifP (t' := 14) (pc' := 9) rfl rfl rfl (fun _ => ?_) (fun (c : ¬ (¬ (5 : Int32) = 0)) => absurd (by decide) c)
  refine go_s (pc' := 15) rfl rfl rfl rfl ?_
  refine go_s (pc' := 16) (st' := [.int 1, .int 5]) rfl rfl rfl rfl ?_
  refine go_icmpP (t' := 22) (pc' := 17) rfl rfl rfl (fun _ => ?_) (fun (c : ¬ (¬ (5 : Int32) = 1)) => absurd (by decide) c)
  refine go_s (pc' := 23) rfl rfl rfl rfl ?_
  refine go_s (pc' := 24) (st' := [.int 2, .int 5]) rfl rfl rfl rfl ?_
  refine go_icmpP (t' := 34) (pc' := 25) rfl rfl rfl (fun _ => ?_) (fun (c : ¬ (¬ (5 : Int32) = 2)) => absurd (by decide) c)
  refine go_s (pc' := 35) rfl rfl rfl rfl ?_
  refine go_s (pc' := 36) (st' := [.int 4, .int 5]) rfl rfl rfl rfl ?_
  refine go_icmpP (t' := 42) (pc' := 37) rfl rfl rfl (fun _ => ?_) (fun (c : ¬ (¬ (5 : Int32) = 4)) => absurd (by decide) c)
  refine go_s (pc' := 43) rfl rfl rfl rfl ?_
  refine go_ifP (t' := 54) (pc' := 44) rfl rfl rfl (fun _ => ?_) (fun (c : ¬ ((0 : Int32) ≤ 0)) => absurd (by decide) c)
  refine go_s (pc' := 55) rfl rfl rfl rfl ?_
  refine go_s (pc' := 56) rfl rfl rfl rfl ?_
  refine go_callV (pc' := 57) rfl rfl rfl (Nat.le_of_ble_eq_true rfl) rfl (sm_o hS rfl) rfl rfl rfl (rt_lives_0 hr hS hp0 (by omega)) (fun r h3 q4 => ?_)
  obtain ⟨rfl, rfl⟩ := q4
  rw [show lv (jn I K) 0 = lv I 0 from rfl]
  cases u5 : lv I 0
  · skip
    show am_Go _ _ _ _ 57 _ [.int 0] _ _
    refine go_ifP (t' := 60) (pc' := 58) rfl rfl rfl (fun (c : ¬ (0 : Int32) = 0) => absurd c (by decide)) (fun _ => ?_)
    refine go_s (pc' := 59) (st' := [.int (-1)]) rfl rfl rfl rfl ?_
    refine go_ret rfl rfl ?_
    have hms : mqpr 0 5 (I, Q, Z) = (-1) := by
      show mqst 5 (I, Q, Z) = -1
      exact (if_neg (by rw [u5]; decide))
    rw [hms]
    exact ⟨rfl, rfl⟩
  · skip
    show am_Go _ _ _ _ 57 _ [.int 1] _ _
    refine go_ifP (t' := 60) (pc' := 58) rfl rfl rfl (fun _ => ?_) (fun (c : ¬ (¬ (1 : Int32) = 0)) => absurd (by decide) c)
    refine go_s (pc' := 61) rfl rfl rfl rfl ?_
    refine go_s (pc' := 62) (st' := [.int 3, .int 5]) rfl rfl rfl rfl ?_
    refine go_icmpP (t' := 68) (pc' := 63) rfl rfl rfl (fun _ => ?_) (fun (c : ¬ (¬ (5 : Int32) = 3)) => absurd (by decide) c)
    rcases (id hp0) with e6 | e6 | e6
    · skip
      exact absurd e6 (lv_up u5).1
    · skip
      refine go_s (pc' := 69) rfl rfl rfl rfl ?_
      refine go_s (pc' := 70) rfl rfl rfl rfl ?_
      refine go_callV (pc' := 71) rfl rfl rfl (Nat.le_of_ble_eq_true rfl) rfl (sm_o hS rfl) rfl rfl rfl (rt_at_0 hr hS (Or.inr (Or.inl e6)) (fun z => absurd (e6.symm.trans z) (by decide)) (by omega)) (fun r h7 q8 => ?_)
      obtain ⟨rfl, rfl⟩ := q8
      rw [show rwi (jn I K) 0 = 0 by unfold rwi pn; rw [show (jn I K) 11 0 = 0 from e6]; rfl]
      show am_Go _ _ _ _ 71 _ [.int 0] _ _
      refine go_s (pc' := 72) (lo' := [some (.ref 62), some (.int 0), some (.int 5), some (.int 0)]) rfl rfl rfl rfl ?_
      refine go_s (pc' := 73) rfl rfl rfl rfl ?_
      refine go_ifP (t' := 106) (pc' := 74) rfl rfl rfl (fun _ => ?_) (fun (c : ¬ ((0 : Int32) ≤ 0)) => absurd (by decide) c)
      refine go_s (pc' := 107) rfl rfl rfl rfl ?_
      refine go_tsw (t' := 108) rfl (Or.inr ⟨by decide, rfl⟩) rfl ?_
      refine go_s (pc' := 109) rfl rfl rfl rfl ?_
      refine go_callV (pc' := 110) rfl rfl rfl (Nat.le_of_ble_eq_true rfl) rfl (sm_o hS rfl) rfl rfl rfl (rs_unw hr hS (rho := 0) (s := Z 0) (Or.inr (Or.inl e6)) (fun z => absurd (e6.symm.trans z) (by decide)) (rwi_l (v := 0) e6 (by decide)) (by decide) (by decide) (RS_jn (RR_row hU.2.1 (i := 0) (by decide)).1) (by omega)) (fun r h9 q10 => ?_)
      obtain ⟨rfl, rfl⟩ := q10
      refine go_ret rfl rfl ?_
      have hms : mqpr 0 5 (I, Q, Z) = (if I 16 0 = 2 then mlck I (nI (List.length (Z 0).2.2)) else 0) := by
        show mqst 5 (I, Q, Z) = (if I 16 0 = 2 then mlck I (nI (List.length (Z 0).2.2)) else 0)
        refine (if_pos u5 : mqst 5 (I, Q, Z) = (if I 16 0 = 2 then mlck I (nI (Z (rwi I 0)).2.2.length) else 0)).trans ?_
        show (if I 16 0 = 2 then mlck I (nI (Z (rwi I 0)).2.2.length) else 0) = (if I 16 0 = 2 then mlck I (nI (List.length (Z 0).2.2)) else 0)
        rw [show (Z (rwi I 0)) = Z 0 from congrArg Z (rwi_l (v := 0) e6 (by decide))]
      rw [hms]
      exact ⟨rfl, rfl⟩
    · skip
      refine go_s (pc' := 69) rfl rfl rfl rfl ?_
      refine go_s (pc' := 70) rfl rfl rfl rfl ?_
      refine go_callV (pc' := 71) rfl rfl rfl (Nat.le_of_ble_eq_true rfl) rfl (sm_o hS rfl) rfl rfl rfl (rt_at_0 hr hS (Or.inr (Or.inr e6)) (fun z => absurd (e6.symm.trans z) (by decide)) (by omega)) (fun r h11 q12 => ?_)
      obtain ⟨rfl, rfl⟩ := q12
      rw [show rwi (jn I K) 0 = 1 by unfold rwi pn; rw [show (jn I K) 11 0 = 1 from e6]; rfl]
      show am_Go _ _ _ _ 71 _ [.int 424] _ _
      refine go_s (pc' := 72) (lo' := [some (.ref 62), some (.int 0), some (.int 5), some (.int 424)]) rfl rfl rfl rfl ?_
      refine go_s (pc' := 73) rfl rfl rfl rfl ?_
      refine go_ifP (t' := 106) (pc' := 74) rfl rfl rfl (fun _ => ?_) (fun (c : ¬ ((0 : Int32) ≤ 0)) => absurd (by decide) c)
      refine go_s (pc' := 107) rfl rfl rfl rfl ?_
      refine go_tsw (t' := 108) rfl (Or.inr ⟨by decide, rfl⟩) rfl ?_
      refine go_s (pc' := 109) rfl rfl rfl rfl ?_
      refine go_callV (pc' := 110) rfl rfl rfl (Nat.le_of_ble_eq_true rfl) rfl (sm_o hS rfl) rfl rfl rfl (rs_unw hr hS (rho := 1) (s := Z 1) (Or.inr (Or.inr e6)) (fun z => absurd (e6.symm.trans z) (by decide)) (rwi_l (v := 1) e6 (by decide)) (by decide) (by decide) (RS_jn (RR_row hU.2.1 (i := 1) (by decide)).1) (by omega)) (fun r h13 q14 => ?_)
      obtain ⟨rfl, rfl⟩ := q14
      refine go_ret rfl rfl ?_
      have hms : mqpr 0 5 (I, Q, Z) = (if I 16 0 = 2 then mlck I (nI (List.length (Z 1).2.2)) else 0) := by
        show mqst 5 (I, Q, Z) = (if I 16 0 = 2 then mlck I (nI (List.length (Z 1).2.2)) else 0)
        refine (if_pos u5 : mqst 5 (I, Q, Z) = (if I 16 0 = 2 then mlck I (nI (Z (rwi I 0)).2.2.length) else 0)).trans ?_
        show (if I 16 0 = 2 then mlck I (nI (Z (rwi I 0)).2.2.length) else 0) = (if I 16 0 = 2 then mlck I (nI (List.length (Z 1).2.2)) else 0)
        rw [show (Z (rwi I 0)) = Z 1 from congrArg Z (rwi_l (v := 1) e6 (by decide))]
      rw [hms]
      exact ⟨rfl, rfl⟩
theorem ra_pr_0_6 {w : Nat → Bool} {d B R : Nat} {h : am_Hp} {I : sm_I} {Q : mQ} {Z : mZ} (hA : RA w B R [] true h (I, Q, Z)) (hR : R + 0 < 40000) (hpk : ∀ k, k < 3 → prk I k) (hbok : ∀ r, r < 2 → bok (Z r)) (hd : 3 ≤ d) : am_Ev (am_prog w) d 186 [.ref 62, .int 0, .int 6] h (fun r h' => r = some (.int (mqpr 0 6 (I, Q, Z))) ∧ h' = h) := by
  obtain ⟨K, Y, am, ln, hS, hU⟩ := RA_u.mp hA
  change sm (tbr am (13 * ln) 77 5088) h (jn I K) Y at hS
  obtain ⟨hW, hWm, -, -, hr, -⟩ := id hU.1
  have hln := RU_ln hU (by omega)
  obtain ⟨d, rfl⟩ : ∃ e, d = e + 1 := ⟨d - 1, by omega⟩
  refine ev_go rfl (Nat.le_of_ble_eq_true rfl) rfl ?_
  have hp0 : prk I 0 := hpk 0 (by decide)
  have hp1 : prk I 1 := hpk 1 (by decide)
  have hp2 : prk I 2 := hpk 2 (by decide)
  refine go_s (pc' := 1) rfl rfl rfl rfl ?_
  refine go_s (pc' := 2) (st' := [.int 0, .int 0]) rfl rfl rfl rfl ?_
  refine go_s (pc' := 3) (st' := [.int 2, .int 0, .int 0]) rfl rfl rfl rfl ?_
  refine go_callS (pc' := 4) rfl rfl rfl (Nat.le_of_ble_eq_true rfl) rfl rfl rfl (rt_within_t (q := 0) (n := 2) (by decide) (by decide) (by omega)) (fun r h1 q2 => ?_)
  obtain ⟨rfl, rfl⟩ := q2
  refine go_ifP (t' := 7) (pc' := 5) rfl rfl rfl (fun _ => ?_) (fun (c : ¬ (¬ (1 : Int32) = 0)) => absurd (by decide) c)
  refine go_s (pc' := 8) rfl rfl rfl rfl ?_
  refine go_ifP (t' := 14) (pc' := 9) rfl rfl rfl (fun _ => ?_) (fun (c : ¬ (¬ (6 : Int32) = 0)) => absurd (by decide) c)
  refine go_s (pc' := 15) rfl rfl rfl rfl ?_
  refine go_s (pc' := 16) (st' := [.int 1, .int 6]) rfl rfl rfl rfl ?_
  refine go_icmpP (t' := 22) (pc' := 17) rfl rfl rfl (fun _ => ?_) (fun (c : ¬ (¬ (6 : Int32) = 1)) => absurd (by decide) c)
  refine go_s (pc' := 23) rfl rfl rfl rfl ?_
  refine go_s (pc' := 24) (st' := [.int 2, .int 6]) rfl rfl rfl rfl ?_
  refine go_icmpP (t' := 34) (pc' := 25) rfl rfl rfl (fun _ => ?_) (fun (c : ¬ (¬ (6 : Int32) = 2)) => absurd (by decide) c)
  refine go_s (pc' := 35) rfl rfl rfl rfl ?_
  refine go_s (pc' := 36) (st' := [.int 4, .int 6]) rfl rfl rfl rfl ?_
  refine go_icmpP (t' := 42) (pc' := 37) rfl rfl rfl (fun _ => ?_) (fun (c : ¬ (¬ (6 : Int32) = 4)) => absurd (by decide) c)
  refine go_s (pc' := 43) rfl rfl rfl rfl ?_
  refine go_ifP (t' := 54) (pc' := 44) rfl rfl rfl (fun _ => ?_) (fun (c : ¬ ((0 : Int32) ≤ 0)) => absurd (by decide) c)
  refine go_s (pc' := 55) rfl rfl rfl rfl ?_
  refine go_s (pc' := 56) rfl rfl rfl rfl ?_
  refine go_callV (pc' := 57) rfl rfl rfl (Nat.le_of_ble_eq_true rfl) rfl (sm_o hS rfl) rfl rfl rfl (rt_lives_0 hr hS hp0 (by omega)) (fun r h3 q4 => ?_)
  obtain ⟨rfl, rfl⟩ := q4
  rw [show lv (jn I K) 0 = lv I 0 from rfl]
  cases u5 : lv I 0
  · skip
    show am_Go _ _ _ _ 57 _ [.int 0] _ _
    refine go_ifP (t' := 60) (pc' := 58) rfl rfl rfl (fun (c : ¬ (0 : Int32) = 0) => absurd c (by decide)) (fun _ => ?_)
    refine go_s (pc' := 59) (st' := [.int (-1)]) rfl rfl rfl rfl ?_
    refine go_ret rfl rfl ?_
    have hms : mqpr 0 6 (I, Q, Z) = (-1) := by
      show mqst 6 (I, Q, Z) = -1
      exact (if_neg (by rw [u5]; decide))
    rw [hms]
    exact ⟨rfl, rfl⟩
  · skip
    show am_Go _ _ _ _ 57 _ [.int 1] _ _
    refine go_ifP (t' := 60) (pc' := 58) rfl rfl rfl (fun _ => ?_) (fun (c : ¬ (¬ (1 : Int32) = 0)) => absurd (by decide) c)
    refine go_s (pc' := 61) rfl rfl rfl rfl ?_
    refine go_s (pc' := 62) (st' := [.int 3, .int 6]) rfl rfl rfl rfl ?_
    refine go_icmpP (t' := 68) (pc' := 63) rfl rfl rfl (fun _ => ?_) (fun (c : ¬ (¬ (6 : Int32) = 3)) => absurd (by decide) c)
    rcases (id hp0) with e6 | e6 | e6
    · skip
      exact absurd e6 (lv_up u5).1
    · skip
      refine go_s (pc' := 69) rfl rfl rfl rfl ?_
      refine go_s (pc' := 70) rfl rfl rfl rfl ?_
      refine go_callV (pc' := 71) rfl rfl rfl (Nat.le_of_ble_eq_true rfl) rfl (sm_o hS rfl) rfl rfl rfl (rt_at_0 hr hS (Or.inr (Or.inl e6)) (fun z => absurd (e6.symm.trans z) (by decide)) (by omega)) (fun r h7 q8 => ?_)
      obtain ⟨rfl, rfl⟩ := q8
      rw [show rwi (jn I K) 0 = 0 by unfold rwi pn; rw [show (jn I K) 11 0 = 0 from e6]; rfl]
      show am_Go _ _ _ _ 71 _ [.int 0] _ _
      refine go_s (pc' := 72) (lo' := [some (.ref 62), some (.int 0), some (.int 6), some (.int 0)]) rfl rfl rfl rfl ?_
      refine go_s (pc' := 73) rfl rfl rfl rfl ?_
      refine go_ifP (t' := 106) (pc' := 74) rfl rfl rfl (fun _ => ?_) (fun (c : ¬ ((0 : Int32) ≤ 0)) => absurd (by decide) c)
      refine go_s (pc' := 107) rfl rfl rfl rfl ?_
      refine go_tsw (t' := 111) rfl (Or.inr ⟨by decide, rfl⟩) rfl ?_
      refine go_s (pc' := 112) rfl rfl rfl rfl ?_
      refine go_sget (pc' := 113) (v := .int (I 21 0)) hS rfl rfl rfl (by decide) rfl rfl ?_
      refine go_ret rfl rfl ?_
      have hms : mqpr 0 6 (I, Q, Z) = (I 21 0) := by
        show mqst 6 (I, Q, Z) = (I 21 0)
        refine (if_pos u5 : mqst 6 (I, Q, Z) = I 21 0).trans ?_
        show I 21 0 = (I 21 0)
        rfl
      rw [hms]
      exact ⟨rfl, rfl⟩
    · skip
      refine go_s (pc' := 69) rfl rfl rfl rfl ?_
      refine go_s (pc' := 70) rfl rfl rfl rfl ?_
      refine go_callV (pc' := 71) rfl rfl rfl (Nat.le_of_ble_eq_true rfl) rfl (sm_o hS rfl) rfl rfl rfl (rt_at_0 hr hS (Or.inr (Or.inr e6)) (fun z => absurd (e6.symm.trans z) (by decide)) (by omega)) (fun r h9 q10 => ?_)
      obtain ⟨rfl, rfl⟩ := q10
      rw [show rwi (jn I K) 0 = 1 by unfold rwi pn; rw [show (jn I K) 11 0 = 1 from e6]; rfl]
      show am_Go _ _ _ _ 71 _ [.int 424] _ _
      refine go_s (pc' := 72) (lo' := [some (.ref 62), some (.int 0), some (.int 6), some (.int 424)]) rfl rfl rfl rfl ?_
      refine go_s (pc' := 73) rfl rfl rfl rfl ?_
      refine go_ifP (t' := 106) (pc' := 74) rfl rfl rfl (fun _ => ?_) (fun (c : ¬ ((0 : Int32) ≤ 0)) => absurd (by decide) c)
      refine go_s (pc' := 107) rfl rfl rfl rfl ?_
      refine go_tsw (t' := 111) rfl (Or.inr ⟨by decide, rfl⟩) rfl ?_
      refine go_s (pc' := 112) rfl rfl rfl rfl ?_
      refine go_sget (pc' := 113) (v := .int (I 21 0)) hS rfl rfl rfl (by decide) rfl rfl ?_
      refine go_ret rfl rfl ?_
      have hms : mqpr 0 6 (I, Q, Z) = (I 21 0) := by
        show mqst 6 (I, Q, Z) = (I 21 0)
        refine (if_pos u5 : mqst 6 (I, Q, Z) = I 21 0).trans ?_
        show I 21 0 = (I 21 0)
        rfl
      rw [hms]
      exact ⟨rfl, rfl⟩
theorem ra_pr_0_7 {w : Nat → Bool} {d B R : Nat} {h : am_Hp} {I : sm_I} {Q : mQ} {Z : mZ} (hA : RA w B R [] true h (I, Q, Z)) (hR : R + 0 < 40000) (hpk : ∀ k, k < 3 → prk I k) (hbok : ∀ r, r < 2 → bok (Z r)) (hd : 3 ≤ d) : am_Ev (am_prog w) d 186 [.ref 62, .int 0, .int 7] h (fun r h' => r = some (.int (mqpr 0 7 (I, Q, Z))) ∧ h' = h) := by
  obtain ⟨K, Y, am, ln, hS, hU⟩ := RA_u.mp hA
  change sm (tbr am (13 * ln) 77 5088) h (jn I K) Y at hS
  obtain ⟨hW, hWm, -, -, hr, -⟩ := id hU.1
  have hln := RU_ln hU (by omega)
  obtain ⟨d, rfl⟩ : ∃ e, d = e + 1 := ⟨d - 1, by omega⟩
  refine ev_go rfl (Nat.le_of_ble_eq_true rfl) rfl ?_
  have hp0 : prk I 0 := hpk 0 (by decide)
  have hp1 : prk I 1 := hpk 1 (by decide)
  have hp2 : prk I 2 := hpk 2 (by decide)
  refine go_s (pc' := 1) rfl rfl rfl rfl ?_
  refine go_s (pc' := 2) (st' := [.int 0, .int 0]) rfl rfl rfl rfl ?_
  refine go_s (pc' := 3) (st' := [.int 2, .int 0, .int 0]) rfl rfl rfl rfl ?_
  refine go_callS (pc' := 4) rfl rfl rfl (Nat.le_of_ble_eq_true rfl) rfl rfl rfl (rt_within_t (q := 0) (n := 2) (by decide) (by decide) (by omega)) (fun r h1 q2 => ?_)
  obtain ⟨rfl, rfl⟩ := q2
  refine go_ifP (t' := 7) (pc' := 5) rfl rfl rfl (fun _ => ?_) (fun (c : ¬ (¬ (1 : Int32) = 0)) => absurd (by decide) c)
  refine go_s (pc' := 8) rfl rfl rfl rfl ?_
  refine go_ifP (t' := 14) (pc' := 9) rfl rfl rfl (fun _ => ?_) (fun (c : ¬ (¬ (7 : Int32) = 0)) => absurd (by decide) c)
  refine go_s (pc' := 15) rfl rfl rfl rfl ?_
  refine go_s (pc' := 16) (st' := [.int 1, .int 7]) rfl rfl rfl rfl ?_
  refine go_icmpP (t' := 22) (pc' := 17) rfl rfl rfl (fun _ => ?_) (fun (c : ¬ (¬ (7 : Int32) = 1)) => absurd (by decide) c)
  refine go_s (pc' := 23) rfl rfl rfl rfl ?_
  refine go_s (pc' := 24) (st' := [.int 2, .int 7]) rfl rfl rfl rfl ?_
  refine go_icmpP (t' := 34) (pc' := 25) rfl rfl rfl (fun _ => ?_) (fun (c : ¬ (¬ (7 : Int32) = 2)) => absurd (by decide) c)
  refine go_s (pc' := 35) rfl rfl rfl rfl ?_
  refine go_s (pc' := 36) (st' := [.int 4, .int 7]) rfl rfl rfl rfl ?_
  refine go_icmpP (t' := 42) (pc' := 37) rfl rfl rfl (fun _ => ?_) (fun (c : ¬ (¬ (7 : Int32) = 4)) => absurd (by decide) c)
  refine go_s (pc' := 43) rfl rfl rfl rfl ?_
  refine go_ifP (t' := 54) (pc' := 44) rfl rfl rfl (fun _ => ?_) (fun (c : ¬ ((0 : Int32) ≤ 0)) => absurd (by decide) c)
  refine go_s (pc' := 55) rfl rfl rfl rfl ?_
  refine go_s (pc' := 56) rfl rfl rfl rfl ?_
  refine go_callV (pc' := 57) rfl rfl rfl (Nat.le_of_ble_eq_true rfl) rfl (sm_o hS rfl) rfl rfl rfl (rt_lives_0 hr hS hp0 (by omega)) (fun r h3 q4 => ?_)
  obtain ⟨rfl, rfl⟩ := q4
  rw [show lv (jn I K) 0 = lv I 0 from rfl]
  cases u5 : lv I 0
  · skip
    show am_Go _ _ _ _ 57 _ [.int 0] _ _
    refine go_ifP (t' := 60) (pc' := 58) rfl rfl rfl (fun (c : ¬ (0 : Int32) = 0) => absurd c (by decide)) (fun _ => ?_)
    refine go_s (pc' := 59) (st' := [.int (-1)]) rfl rfl rfl rfl ?_
    refine go_ret rfl rfl ?_
    have hms : mqpr 0 7 (I, Q, Z) = (-1) := by
      show mqst 7 (I, Q, Z) = -1
      exact (if_neg (by rw [u5]; decide))
    rw [hms]
    exact ⟨rfl, rfl⟩
  · skip
    show am_Go _ _ _ _ 57 _ [.int 1] _ _
    refine go_ifP (t' := 60) (pc' := 58) rfl rfl rfl (fun _ => ?_) (fun (c : ¬ (¬ (1 : Int32) = 0)) => absurd (by decide) c)
    refine go_s (pc' := 61) rfl rfl rfl rfl ?_
    refine go_s (pc' := 62) (st' := [.int 3, .int 7]) rfl rfl rfl rfl ?_
    refine go_icmpP (t' := 68) (pc' := 63) rfl rfl rfl (fun _ => ?_) (fun (c : ¬ (¬ (7 : Int32) = 3)) => absurd (by decide) c)
    rcases (id hp0) with e6 | e6 | e6
    · skip
      exact absurd e6 (lv_up u5).1
    · skip
      refine go_s (pc' := 69) rfl rfl rfl rfl ?_
      refine go_s (pc' := 70) rfl rfl rfl rfl ?_
      refine go_callV (pc' := 71) rfl rfl rfl (Nat.le_of_ble_eq_true rfl) rfl (sm_o hS rfl) rfl rfl rfl (rt_at_0 hr hS (Or.inr (Or.inl e6)) (fun z => absurd (e6.symm.trans z) (by decide)) (by omega)) (fun r h7 q8 => ?_)
      obtain ⟨rfl, rfl⟩ := q8
      rw [show rwi (jn I K) 0 = 0 by unfold rwi pn; rw [show (jn I K) 11 0 = 0 from e6]; rfl]
      show am_Go _ _ _ _ 71 _ [.int 0] _ _
      refine go_s (pc' := 72) (lo' := [some (.ref 62), some (.int 0), some (.int 7), some (.int 0)]) rfl rfl rfl rfl ?_
      refine go_s (pc' := 73) rfl rfl rfl rfl ?_
      refine go_ifP (t' := 106) (pc' := 74) rfl rfl rfl (fun _ => ?_) (fun (c : ¬ ((0 : Int32) ≤ 0)) => absurd (by decide) c)
      refine go_s (pc' := 107) rfl rfl rfl rfl ?_
      refine go_tsw (t' := 114) rfl (Or.inr ⟨by decide, rfl⟩) rfl ?_
      refine go_s (pc' := 115) rfl rfl rfl rfl ?_
      refine go_sget (pc' := 116) (v := .ref 77) hS rfl rfl rfl (by decide) rfl rfl ?_
      refine go_s (pc' := 117) rfl rfl rfl rfl ?_
      refine go_s (pc' := 118) (st' := [.int 0, .int 0, .ref 77]) rfl rfl rfl rfl ?_
      refine go_s (pc' := 119) (st' := [.int 0, .ref 77]) rfl rfl rfl rfl ?_
      refine go_sald (pc' := 120) (q := 0) (v := .int ((Z 0).1 0)) hS rfl (tr_as hr (by omega)) rfl rfl (by decide) (congrArg Value.int ((RR_row hU.2.1 (i := 0) (by decide)).1.1 0 (by decide) (by decide) (by decide))) rfl ?_
      refine go_ret rfl rfl ?_
      have hms : mqpr 0 7 (I, Q, Z) = ((Z 0).1 0) := by
        show mqst 7 (I, Q, Z) = ((Z 0).1 0)
        refine (if_pos u5 : mqst 7 (I, Q, Z) = row1 (I, Q, Z) 0 0).trans ?_
        show row1 (I, Q, Z) 0 0 = ((Z 0).1 0)
        exact congrFun (row1_l (v := 0) e6 (by decide)) 0
      rw [hms]
      exact ⟨rfl, rfl⟩
    · skip
      refine go_s (pc' := 69) rfl rfl rfl rfl ?_
      refine go_s (pc' := 70) rfl rfl rfl rfl ?_
      refine go_callV (pc' := 71) rfl rfl rfl (Nat.le_of_ble_eq_true rfl) rfl (sm_o hS rfl) rfl rfl rfl (rt_at_0 hr hS (Or.inr (Or.inr e6)) (fun z => absurd (e6.symm.trans z) (by decide)) (by omega)) (fun r h9 q10 => ?_)
      obtain ⟨rfl, rfl⟩ := q10
      rw [show rwi (jn I K) 0 = 1 by unfold rwi pn; rw [show (jn I K) 11 0 = 1 from e6]; rfl]
      show am_Go _ _ _ _ 71 _ [.int 424] _ _
      refine go_s (pc' := 72) (lo' := [some (.ref 62), some (.int 0), some (.int 7), some (.int 424)]) rfl rfl rfl rfl ?_
      refine go_s (pc' := 73) rfl rfl rfl rfl ?_
      refine go_ifP (t' := 106) (pc' := 74) rfl rfl rfl (fun _ => ?_) (fun (c : ¬ ((0 : Int32) ≤ 0)) => absurd (by decide) c)
      refine go_s (pc' := 107) rfl rfl rfl rfl ?_
      refine go_tsw (t' := 114) rfl (Or.inr ⟨by decide, rfl⟩) rfl ?_
      refine go_s (pc' := 115) rfl rfl rfl rfl ?_
      refine go_sget (pc' := 116) (v := .ref 77) hS rfl rfl rfl (by decide) rfl rfl ?_
      refine go_s (pc' := 117) rfl rfl rfl rfl ?_
      refine go_s (pc' := 118) (st' := [.int 0, .int 424, .ref 77]) rfl rfl rfl rfl ?_
      refine go_s (pc' := 119) (st' := [.int 424, .ref 77]) rfl rfl rfl rfl ?_
      refine go_sald (pc' := 120) (q := 424) (v := .int ((Z 1).1 0)) hS rfl (tr_as hr (by omega)) rfl rfl (by decide) (congrArg Value.int ((RR_row hU.2.1 (i := 1) (by decide)).1.1 0 (by decide) (by decide) (by decide))) rfl ?_
      refine go_ret rfl rfl ?_
      have hms : mqpr 0 7 (I, Q, Z) = ((Z 1).1 0) := by
        show mqst 7 (I, Q, Z) = ((Z 1).1 0)
        refine (if_pos u5 : mqst 7 (I, Q, Z) = row1 (I, Q, Z) 0 0).trans ?_
        show row1 (I, Q, Z) 0 0 = ((Z 1).1 0)
        exact congrFun (row1_l (v := 1) e6 (by decide)) 0
      rw [hms]
      exact ⟨rfl, rfl⟩
theorem ra_pr_0_8 {w : Nat → Bool} {d B R : Nat} {h : am_Hp} {I : sm_I} {Q : mQ} {Z : mZ} (hA : RA w B R [] true h (I, Q, Z)) (hR : R + 0 < 40000) (hpk : ∀ k, k < 3 → prk I k) (hbok : ∀ r, r < 2 → bok (Z r)) (hd : 3 ≤ d) : am_Ev (am_prog w) d 186 [.ref 62, .int 0, .int 8] h (fun r h' => r = some (.int (mqpr 0 8 (I, Q, Z))) ∧ h' = h) := by
  obtain ⟨K, Y, am, ln, hS, hU⟩ := RA_u.mp hA
  change sm (tbr am (13 * ln) 77 5088) h (jn I K) Y at hS
  obtain ⟨hW, hWm, -, -, hr, -⟩ := id hU.1
  have hln := RU_ln hU (by omega)
  obtain ⟨d, rfl⟩ : ∃ e, d = e + 1 := ⟨d - 1, by omega⟩
  refine ev_go rfl (Nat.le_of_ble_eq_true rfl) rfl ?_
  have hp0 : prk I 0 := hpk 0 (by decide)
  have hp1 : prk I 1 := hpk 1 (by decide)
  have hp2 : prk I 2 := hpk 2 (by decide)
  refine go_s (pc' := 1) rfl rfl rfl rfl ?_
  refine go_s (pc' := 2) (st' := [.int 0, .int 0]) rfl rfl rfl rfl ?_
  refine go_s (pc' := 3) (st' := [.int 2, .int 0, .int 0]) rfl rfl rfl rfl ?_
  refine go_callS (pc' := 4) rfl rfl rfl (Nat.le_of_ble_eq_true rfl) rfl rfl rfl (rt_within_t (q := 0) (n := 2) (by decide) (by decide) (by omega)) (fun r h1 q2 => ?_)
  obtain ⟨rfl, rfl⟩ := q2
  refine go_ifP (t' := 7) (pc' := 5) rfl rfl rfl (fun _ => ?_) (fun (c : ¬ (¬ (1 : Int32) = 0)) => absurd (by decide) c)
  refine go_s (pc' := 8) rfl rfl rfl rfl ?_
  refine go_ifP (t' := 14) (pc' := 9) rfl rfl rfl (fun _ => ?_) (fun (c : ¬ (¬ (8 : Int32) = 0)) => absurd (by decide) c)
  refine go_s (pc' := 15) rfl rfl rfl rfl ?_
  refine go_s (pc' := 16) (st' := [.int 1, .int 8]) rfl rfl rfl rfl ?_
  refine go_icmpP (t' := 22) (pc' := 17) rfl rfl rfl (fun _ => ?_) (fun (c : ¬ (¬ (8 : Int32) = 1)) => absurd (by decide) c)
  refine go_s (pc' := 23) rfl rfl rfl rfl ?_
  refine go_s (pc' := 24) (st' := [.int 2, .int 8]) rfl rfl rfl rfl ?_
  refine go_icmpP (t' := 34) (pc' := 25) rfl rfl rfl (fun _ => ?_) (fun (c : ¬ (¬ (8 : Int32) = 2)) => absurd (by decide) c)
  refine go_s (pc' := 35) rfl rfl rfl rfl ?_
  refine go_s (pc' := 36) (st' := [.int 4, .int 8]) rfl rfl rfl rfl ?_
  refine go_icmpP (t' := 42) (pc' := 37) rfl rfl rfl (fun _ => ?_) (fun (c : ¬ (¬ (8 : Int32) = 4)) => absurd (by decide) c)
  refine go_s (pc' := 43) rfl rfl rfl rfl ?_
  refine go_ifP (t' := 54) (pc' := 44) rfl rfl rfl (fun _ => ?_) (fun (c : ¬ ((0 : Int32) ≤ 0)) => absurd (by decide) c)
  refine go_s (pc' := 55) rfl rfl rfl rfl ?_
  refine go_s (pc' := 56) rfl rfl rfl rfl ?_
  refine go_callV (pc' := 57) rfl rfl rfl (Nat.le_of_ble_eq_true rfl) rfl (sm_o hS rfl) rfl rfl rfl (rt_lives_0 hr hS hp0 (by omega)) (fun r h3 q4 => ?_)
  obtain ⟨rfl, rfl⟩ := q4
  rw [show lv (jn I K) 0 = lv I 0 from rfl]
  cases u5 : lv I 0
  · skip
    show am_Go _ _ _ _ 57 _ [.int 0] _ _
    refine go_ifP (t' := 60) (pc' := 58) rfl rfl rfl (fun (c : ¬ (0 : Int32) = 0) => absurd c (by decide)) (fun _ => ?_)
    refine go_s (pc' := 59) (st' := [.int (-1)]) rfl rfl rfl rfl ?_
    refine go_ret rfl rfl ?_
    have hms : mqpr 0 8 (I, Q, Z) = (-1) := by
      show mqst 8 (I, Q, Z) = -1
      exact (if_neg (by rw [u5]; decide))
    rw [hms]
    exact ⟨rfl, rfl⟩
  · skip
    show am_Go _ _ _ _ 57 _ [.int 1] _ _
    refine go_ifP (t' := 60) (pc' := 58) rfl rfl rfl (fun _ => ?_) (fun (c : ¬ (¬ (1 : Int32) = 0)) => absurd (by decide) c)
    refine go_s (pc' := 61) rfl rfl rfl rfl ?_
    refine go_s (pc' := 62) (st' := [.int 3, .int 8]) rfl rfl rfl rfl ?_
    refine go_icmpP (t' := 68) (pc' := 63) rfl rfl rfl (fun _ => ?_) (fun (c : ¬ (¬ (8 : Int32) = 3)) => absurd (by decide) c)
    rcases (id hp0) with e6 | e6 | e6
    · skip
      exact absurd e6 (lv_up u5).1
    · skip
      refine go_s (pc' := 69) rfl rfl rfl rfl ?_
      refine go_s (pc' := 70) rfl rfl rfl rfl ?_
      refine go_callV (pc' := 71) rfl rfl rfl (Nat.le_of_ble_eq_true rfl) rfl (sm_o hS rfl) rfl rfl rfl (rt_at_0 hr hS (Or.inr (Or.inl e6)) (fun z => absurd (e6.symm.trans z) (by decide)) (by omega)) (fun r h7 q8 => ?_)
      obtain ⟨rfl, rfl⟩ := q8
      rw [show rwi (jn I K) 0 = 0 by unfold rwi pn; rw [show (jn I K) 11 0 = 0 from e6]; rfl]
      show am_Go _ _ _ _ 71 _ [.int 0] _ _
      refine go_s (pc' := 72) (lo' := [some (.ref 62), some (.int 0), some (.int 8), some (.int 0)]) rfl rfl rfl rfl ?_
      refine go_s (pc' := 73) rfl rfl rfl rfl ?_
      refine go_ifP (t' := 106) (pc' := 74) rfl rfl rfl (fun _ => ?_) (fun (c : ¬ ((0 : Int32) ≤ 0)) => absurd (by decide) c)
      refine go_s (pc' := 107) rfl rfl rfl rfl ?_
      refine go_tsw (t' := 121) rfl (Or.inr ⟨by decide, rfl⟩) rfl ?_
      refine go_s (pc' := 122) rfl rfl rfl rfl ?_
      refine go_sget (pc' := 123) (v := .ref 77) hS rfl rfl rfl (by decide) rfl rfl ?_
      refine go_s (pc' := 124) rfl rfl rfl rfl ?_
      refine go_s (pc' := 125) (st' := [.int 1, .int 0, .ref 77]) rfl rfl rfl rfl ?_
      refine go_s (pc' := 126) (st' := [.int 1, .ref 77]) rfl rfl rfl rfl ?_
      refine go_sald (pc' := 127) (q := 1) (v := .int ((Z 0).1 1)) hS rfl (tr_as hr (by omega)) rfl rfl (by decide) (congrArg Value.int ((RR_row hU.2.1 (i := 0) (by decide)).1.1 1 (by decide) (by decide) (by decide))) rfl ?_
      refine go_ret rfl rfl ?_
      have hms : mqpr 0 8 (I, Q, Z) = ((Z 0).1 1) := by
        show mqst 8 (I, Q, Z) = ((Z 0).1 1)
        refine (if_pos u5 : mqst 8 (I, Q, Z) = row1 (I, Q, Z) 0 1).trans ?_
        show row1 (I, Q, Z) 0 1 = ((Z 0).1 1)
        exact congrFun (row1_l (v := 0) e6 (by decide)) 1
      rw [hms]
      exact ⟨rfl, rfl⟩
    · skip
      refine go_s (pc' := 69) rfl rfl rfl rfl ?_
      refine go_s (pc' := 70) rfl rfl rfl rfl ?_
      refine go_callV (pc' := 71) rfl rfl rfl (Nat.le_of_ble_eq_true rfl) rfl (sm_o hS rfl) rfl rfl rfl (rt_at_0 hr hS (Or.inr (Or.inr e6)) (fun z => absurd (e6.symm.trans z) (by decide)) (by omega)) (fun r h9 q10 => ?_)
      obtain ⟨rfl, rfl⟩ := q10
      rw [show rwi (jn I K) 0 = 1 by unfold rwi pn; rw [show (jn I K) 11 0 = 1 from e6]; rfl]
      show am_Go _ _ _ _ 71 _ [.int 424] _ _
      refine go_s (pc' := 72) (lo' := [some (.ref 62), some (.int 0), some (.int 8), some (.int 424)]) rfl rfl rfl rfl ?_
      refine go_s (pc' := 73) rfl rfl rfl rfl ?_
      refine go_ifP (t' := 106) (pc' := 74) rfl rfl rfl (fun _ => ?_) (fun (c : ¬ ((0 : Int32) ≤ 0)) => absurd (by decide) c)
      refine go_s (pc' := 107) rfl rfl rfl rfl ?_
      refine go_tsw (t' := 121) rfl (Or.inr ⟨by decide, rfl⟩) rfl ?_
      refine go_s (pc' := 122) rfl rfl rfl rfl ?_
      refine go_sget (pc' := 123) (v := .ref 77) hS rfl rfl rfl (by decide) rfl rfl ?_
      refine go_s (pc' := 124) rfl rfl rfl rfl ?_
      refine go_s (pc' := 125) (st' := [.int 1, .int 424, .ref 77]) rfl rfl rfl rfl ?_
      refine go_s (pc' := 126) (st' := [.int 425, .ref 77]) rfl rfl rfl rfl ?_
      refine go_sald (pc' := 127) (q := 425) (v := .int ((Z 1).1 1)) hS rfl (tr_as hr (by omega)) rfl rfl (by decide) (congrArg Value.int ((RR_row hU.2.1 (i := 1) (by decide)).1.1 1 (by decide) (by decide) (by decide))) rfl ?_
      refine go_ret rfl rfl ?_
      have hms : mqpr 0 8 (I, Q, Z) = ((Z 1).1 1) := by
        show mqst 8 (I, Q, Z) = ((Z 1).1 1)
        refine (if_pos u5 : mqst 8 (I, Q, Z) = row1 (I, Q, Z) 0 1).trans ?_
        show row1 (I, Q, Z) 0 1 = ((Z 1).1 1)
        exact congrFun (row1_l (v := 1) e6 (by decide)) 1
      rw [hms]
      exact ⟨rfl, rfl⟩
theorem ra_pr_0_9 {w : Nat → Bool} {d B R : Nat} {h : am_Hp} {I : sm_I} {Q : mQ} {Z : mZ} (hA : RA w B R [] true h (I, Q, Z)) (hR : R + 0 < 40000) (hpk : ∀ k, k < 3 → prk I k) (hbok : ∀ r, r < 2 → bok (Z r)) (hd : 3 ≤ d) : am_Ev (am_prog w) d 186 [.ref 62, .int 0, .int 9] h (fun r h' => r = some (.int (mqpr 0 9 (I, Q, Z))) ∧ h' = h) := by
  obtain ⟨K, Y, am, ln, hS, hU⟩ := RA_u.mp hA
  change sm (tbr am (13 * ln) 77 5088) h (jn I K) Y at hS
  obtain ⟨hW, hWm, -, -, hr, -⟩ := id hU.1
  have hln := RU_ln hU (by omega)
  obtain ⟨d, rfl⟩ : ∃ e, d = e + 1 := ⟨d - 1, by omega⟩
  refine ev_go rfl (Nat.le_of_ble_eq_true rfl) rfl ?_
  have hp0 : prk I 0 := hpk 0 (by decide)
  have hp1 : prk I 1 := hpk 1 (by decide)
  have hp2 : prk I 2 := hpk 2 (by decide)
  refine go_s (pc' := 1) rfl rfl rfl rfl ?_
  refine go_s (pc' := 2) (st' := [.int 0, .int 0]) rfl rfl rfl rfl ?_
  refine go_s (pc' := 3) (st' := [.int 2, .int 0, .int 0]) rfl rfl rfl rfl ?_
  refine go_callS (pc' := 4) rfl rfl rfl (Nat.le_of_ble_eq_true rfl) rfl rfl rfl (rt_within_t (q := 0) (n := 2) (by decide) (by decide) (by omega)) (fun r h1 q2 => ?_)
  obtain ⟨rfl, rfl⟩ := q2
  refine go_ifP (t' := 7) (pc' := 5) rfl rfl rfl (fun _ => ?_) (fun (c : ¬ (¬ (1 : Int32) = 0)) => absurd (by decide) c)
  refine go_s (pc' := 8) rfl rfl rfl rfl ?_
  refine go_ifP (t' := 14) (pc' := 9) rfl rfl rfl (fun _ => ?_) (fun (c : ¬ (¬ (9 : Int32) = 0)) => absurd (by decide) c)
  refine go_s (pc' := 15) rfl rfl rfl rfl ?_
  refine go_s (pc' := 16) (st' := [.int 1, .int 9]) rfl rfl rfl rfl ?_
  refine go_icmpP (t' := 22) (pc' := 17) rfl rfl rfl (fun _ => ?_) (fun (c : ¬ (¬ (9 : Int32) = 1)) => absurd (by decide) c)
  refine go_s (pc' := 23) rfl rfl rfl rfl ?_
  refine go_s (pc' := 24) (st' := [.int 2, .int 9]) rfl rfl rfl rfl ?_
  refine go_icmpP (t' := 34) (pc' := 25) rfl rfl rfl (fun _ => ?_) (fun (c : ¬ (¬ (9 : Int32) = 2)) => absurd (by decide) c)
  refine go_s (pc' := 35) rfl rfl rfl rfl ?_
  refine go_s (pc' := 36) (st' := [.int 4, .int 9]) rfl rfl rfl rfl ?_
  refine go_icmpP (t' := 42) (pc' := 37) rfl rfl rfl (fun _ => ?_) (fun (c : ¬ (¬ (9 : Int32) = 4)) => absurd (by decide) c)
  refine go_s (pc' := 43) rfl rfl rfl rfl ?_
  refine go_ifP (t' := 54) (pc' := 44) rfl rfl rfl (fun _ => ?_) (fun (c : ¬ ((0 : Int32) ≤ 0)) => absurd (by decide) c)
  refine go_s (pc' := 55) rfl rfl rfl rfl ?_
  refine go_s (pc' := 56) rfl rfl rfl rfl ?_
  refine go_callV (pc' := 57) rfl rfl rfl (Nat.le_of_ble_eq_true rfl) rfl (sm_o hS rfl) rfl rfl rfl (rt_lives_0 hr hS hp0 (by omega)) (fun r h3 q4 => ?_)
  obtain ⟨rfl, rfl⟩ := q4
  rw [show lv (jn I K) 0 = lv I 0 from rfl]
  cases u5 : lv I 0
  · skip
    show am_Go _ _ _ _ 57 _ [.int 0] _ _
    refine go_ifP (t' := 60) (pc' := 58) rfl rfl rfl (fun (c : ¬ (0 : Int32) = 0) => absurd c (by decide)) (fun _ => ?_)
    refine go_s (pc' := 59) (st' := [.int (-1)]) rfl rfl rfl rfl ?_
    refine go_ret rfl rfl ?_
    have hms : mqpr 0 9 (I, Q, Z) = (-1) := by
      show mqst 9 (I, Q, Z) = -1
      exact (if_neg (by rw [u5]; decide))
    rw [hms]
    exact ⟨rfl, rfl⟩
  · skip
    show am_Go _ _ _ _ 57 _ [.int 1] _ _
    refine go_ifP (t' := 60) (pc' := 58) rfl rfl rfl (fun _ => ?_) (fun (c : ¬ (¬ (1 : Int32) = 0)) => absurd (by decide) c)
    refine go_s (pc' := 61) rfl rfl rfl rfl ?_
    refine go_s (pc' := 62) (st' := [.int 3, .int 9]) rfl rfl rfl rfl ?_
    refine go_icmpP (t' := 68) (pc' := 63) rfl rfl rfl (fun _ => ?_) (fun (c : ¬ (¬ (9 : Int32) = 3)) => absurd (by decide) c)
    rcases (id hp0) with e6 | e6 | e6
    · skip
      exact absurd e6 (lv_up u5).1
    · skip
      refine go_s (pc' := 69) rfl rfl rfl rfl ?_
      refine go_s (pc' := 70) rfl rfl rfl rfl ?_
      refine go_callV (pc' := 71) rfl rfl rfl (Nat.le_of_ble_eq_true rfl) rfl (sm_o hS rfl) rfl rfl rfl (rt_at_0 hr hS (Or.inr (Or.inl e6)) (fun z => absurd (e6.symm.trans z) (by decide)) (by omega)) (fun r h7 q8 => ?_)
      obtain ⟨rfl, rfl⟩ := q8
      rw [show rwi (jn I K) 0 = 0 by unfold rwi pn; rw [show (jn I K) 11 0 = 0 from e6]; rfl]
      show am_Go _ _ _ _ 71 _ [.int 0] _ _
      refine go_s (pc' := 72) (lo' := [some (.ref 62), some (.int 0), some (.int 9), some (.int 0)]) rfl rfl rfl rfl ?_
      refine go_s (pc' := 73) rfl rfl rfl rfl ?_
      refine go_ifP (t' := 106) (pc' := 74) rfl rfl rfl (fun _ => ?_) (fun (c : ¬ ((0 : Int32) ≤ 0)) => absurd (by decide) c)
      refine go_s (pc' := 107) rfl rfl rfl rfl ?_
      refine go_tsw (t' := 128) rfl (Or.inr ⟨by decide, rfl⟩) rfl ?_
      refine go_s (pc' := 129) rfl rfl rfl rfl ?_
      refine go_sget (pc' := 130) (v := .ref 77) hS rfl rfl rfl (by decide) rfl rfl ?_
      refine go_s (pc' := 131) rfl rfl rfl rfl ?_
      refine go_s (pc' := 132) (st' := [.int 2, .int 0, .ref 77]) rfl rfl rfl rfl ?_
      refine go_s (pc' := 133) (st' := [.int 2, .ref 77]) rfl rfl rfl rfl ?_
      refine go_sald (pc' := 134) (q := 2) (v := .int (nI (List.length (Z 0).2.1))) hS rfl (tr_as hr (by omega)) rfl rfl (by decide) (congrArg Value.int (RR_row hU.2.1 (i := 0) (by decide)).1.2.1) rfl ?_
      refine go_ret rfl rfl ?_
      have hms : mqpr 0 9 (I, Q, Z) = (nI (List.length (Z 0).2.1)) := by
        show mqst 9 (I, Q, Z) = (nI (List.length (Z 0).2.1))
        refine (if_pos u5 : mqst 9 (I, Q, Z) = nI (Z (rwi I 0)).2.1.length).trans ?_
        show nI (Z (rwi I 0)).2.1.length = (nI (List.length (Z 0).2.1))
        rw [show (Z (rwi I 0)) = Z 0 from congrArg Z (rwi_l (v := 0) e6 (by decide))]
      rw [hms]
      exact ⟨rfl, rfl⟩
    · skip
      refine go_s (pc' := 69) rfl rfl rfl rfl ?_
      refine go_s (pc' := 70) rfl rfl rfl rfl ?_
      refine go_callV (pc' := 71) rfl rfl rfl (Nat.le_of_ble_eq_true rfl) rfl (sm_o hS rfl) rfl rfl rfl (rt_at_0 hr hS (Or.inr (Or.inr e6)) (fun z => absurd (e6.symm.trans z) (by decide)) (by omega)) (fun r h9 q10 => ?_)
      obtain ⟨rfl, rfl⟩ := q10
      rw [show rwi (jn I K) 0 = 1 by unfold rwi pn; rw [show (jn I K) 11 0 = 1 from e6]; rfl]
      show am_Go _ _ _ _ 71 _ [.int 424] _ _
      refine go_s (pc' := 72) (lo' := [some (.ref 62), some (.int 0), some (.int 9), some (.int 424)]) rfl rfl rfl rfl ?_
      refine go_s (pc' := 73) rfl rfl rfl rfl ?_
      refine go_ifP (t' := 106) (pc' := 74) rfl rfl rfl (fun _ => ?_) (fun (c : ¬ ((0 : Int32) ≤ 0)) => absurd (by decide) c)
      refine go_s (pc' := 107) rfl rfl rfl rfl ?_
      refine go_tsw (t' := 128) rfl (Or.inr ⟨by decide, rfl⟩) rfl ?_
      refine go_s (pc' := 129) rfl rfl rfl rfl ?_
      refine go_sget (pc' := 130) (v := .ref 77) hS rfl rfl rfl (by decide) rfl rfl ?_
      refine go_s (pc' := 131) rfl rfl rfl rfl ?_
      refine go_s (pc' := 132) (st' := [.int 2, .int 424, .ref 77]) rfl rfl rfl rfl ?_
      refine go_s (pc' := 133) (st' := [.int 426, .ref 77]) rfl rfl rfl rfl ?_
      refine go_sald (pc' := 134) (q := 426) (v := .int (nI (List.length (Z 1).2.1))) hS rfl (tr_as hr (by omega)) rfl rfl (by decide) (congrArg Value.int (RR_row hU.2.1 (i := 1) (by decide)).1.2.1) rfl ?_
      refine go_ret rfl rfl ?_
      have hms : mqpr 0 9 (I, Q, Z) = (nI (List.length (Z 1).2.1)) := by
        show mqst 9 (I, Q, Z) = (nI (List.length (Z 1).2.1))
        refine (if_pos u5 : mqst 9 (I, Q, Z) = nI (Z (rwi I 0)).2.1.length).trans ?_
        show nI (Z (rwi I 0)).2.1.length = (nI (List.length (Z 1).2.1))
        rw [show (Z (rwi I 0)) = Z 1 from congrArg Z (rwi_l (v := 1) e6 (by decide))]
      rw [hms]
      exact ⟨rfl, rfl⟩
theorem ra_pr_0_10 {w : Nat → Bool} {d B R : Nat} {h : am_Hp} {I : sm_I} {Q : mQ} {Z : mZ} (hA : RA w B R [] true h (I, Q, Z)) (hR : R + 0 < 40000) (hpk : ∀ k, k < 3 → prk I k) (hbok : ∀ r, r < 2 → bok (Z r)) (hd : 3 ≤ d) : am_Ev (am_prog w) d 186 [.ref 62, .int 0, .int 10] h (fun r h' => r = some (.int (mqpr 0 10 (I, Q, Z))) ∧ h' = h) := by
  obtain ⟨K, Y, am, ln, hS, hU⟩ := RA_u.mp hA
  change sm (tbr am (13 * ln) 77 5088) h (jn I K) Y at hS
  obtain ⟨hW, hWm, -, -, hr, -⟩ := id hU.1
  have hln := RU_ln hU (by omega)
  obtain ⟨d, rfl⟩ : ∃ e, d = e + 1 := ⟨d - 1, by omega⟩
  refine ev_go rfl (Nat.le_of_ble_eq_true rfl) rfl ?_
  have hp0 : prk I 0 := hpk 0 (by decide)
  have hp1 : prk I 1 := hpk 1 (by decide)
  have hp2 : prk I 2 := hpk 2 (by decide)
  refine go_s (pc' := 1) rfl rfl rfl rfl ?_
  refine go_s (pc' := 2) (st' := [.int 0, .int 0]) rfl rfl rfl rfl ?_
  refine go_s (pc' := 3) (st' := [.int 2, .int 0, .int 0]) rfl rfl rfl rfl ?_
  refine go_callS (pc' := 4) rfl rfl rfl (Nat.le_of_ble_eq_true rfl) rfl rfl rfl (rt_within_t (q := 0) (n := 2) (by decide) (by decide) (by omega)) (fun r h1 q2 => ?_)
  obtain ⟨rfl, rfl⟩ := q2
  refine go_ifP (t' := 7) (pc' := 5) rfl rfl rfl (fun _ => ?_) (fun (c : ¬ (¬ (1 : Int32) = 0)) => absurd (by decide) c)
  refine go_s (pc' := 8) rfl rfl rfl rfl ?_
  refine go_ifP (t' := 14) (pc' := 9) rfl rfl rfl (fun _ => ?_) (fun (c : ¬ (¬ (10 : Int32) = 0)) => absurd (by decide) c)
  refine go_s (pc' := 15) rfl rfl rfl rfl ?_
  refine go_s (pc' := 16) (st' := [.int 1, .int 10]) rfl rfl rfl rfl ?_
  refine go_icmpP (t' := 22) (pc' := 17) rfl rfl rfl (fun _ => ?_) (fun (c : ¬ (¬ (10 : Int32) = 1)) => absurd (by decide) c)
  refine go_s (pc' := 23) rfl rfl rfl rfl ?_
  refine go_s (pc' := 24) (st' := [.int 2, .int 10]) rfl rfl rfl rfl ?_
  refine go_icmpP (t' := 34) (pc' := 25) rfl rfl rfl (fun _ => ?_) (fun (c : ¬ (¬ (10 : Int32) = 2)) => absurd (by decide) c)
  refine go_s (pc' := 35) rfl rfl rfl rfl ?_
  refine go_s (pc' := 36) (st' := [.int 4, .int 10]) rfl rfl rfl rfl ?_
  refine go_icmpP (t' := 42) (pc' := 37) rfl rfl rfl (fun _ => ?_) (fun (c : ¬ (¬ (10 : Int32) = 4)) => absurd (by decide) c)
  refine go_s (pc' := 43) rfl rfl rfl rfl ?_
  refine go_ifP (t' := 54) (pc' := 44) rfl rfl rfl (fun _ => ?_) (fun (c : ¬ ((0 : Int32) ≤ 0)) => absurd (by decide) c)
  refine go_s (pc' := 55) rfl rfl rfl rfl ?_
  refine go_s (pc' := 56) rfl rfl rfl rfl ?_
  refine go_callV (pc' := 57) rfl rfl rfl (Nat.le_of_ble_eq_true rfl) rfl (sm_o hS rfl) rfl rfl rfl (rt_lives_0 hr hS hp0 (by omega)) (fun r h3 q4 => ?_)
  obtain ⟨rfl, rfl⟩ := q4
  rw [show lv (jn I K) 0 = lv I 0 from rfl]
  cases u5 : lv I 0
  · skip
    show am_Go _ _ _ _ 57 _ [.int 0] _ _
    refine go_ifP (t' := 60) (pc' := 58) rfl rfl rfl (fun (c : ¬ (0 : Int32) = 0) => absurd c (by decide)) (fun _ => ?_)
    refine go_s (pc' := 59) (st' := [.int (-1)]) rfl rfl rfl rfl ?_
    refine go_ret rfl rfl ?_
    have hms : mqpr 0 10 (I, Q, Z) = (-1) := by
      show mqst 10 (I, Q, Z) = -1
      exact (if_neg (by rw [u5]; decide))
    rw [hms]
    exact ⟨rfl, rfl⟩
  · skip
    show am_Go _ _ _ _ 57 _ [.int 1] _ _
    refine go_ifP (t' := 60) (pc' := 58) rfl rfl rfl (fun _ => ?_) (fun (c : ¬ (¬ (1 : Int32) = 0)) => absurd (by decide) c)
    refine go_s (pc' := 61) rfl rfl rfl rfl ?_
    refine go_s (pc' := 62) (st' := [.int 3, .int 10]) rfl rfl rfl rfl ?_
    refine go_icmpP (t' := 68) (pc' := 63) rfl rfl rfl (fun _ => ?_) (fun (c : ¬ (¬ (10 : Int32) = 3)) => absurd (by decide) c)
    rcases (id hp0) with e6 | e6 | e6
    · skip
      exact absurd e6 (lv_up u5).1
    · skip
      refine go_s (pc' := 69) rfl rfl rfl rfl ?_
      refine go_s (pc' := 70) rfl rfl rfl rfl ?_
      refine go_callV (pc' := 71) rfl rfl rfl (Nat.le_of_ble_eq_true rfl) rfl (sm_o hS rfl) rfl rfl rfl (rt_at_0 hr hS (Or.inr (Or.inl e6)) (fun z => absurd (e6.symm.trans z) (by decide)) (by omega)) (fun r h7 q8 => ?_)
      obtain ⟨rfl, rfl⟩ := q8
      rw [show rwi (jn I K) 0 = 0 by unfold rwi pn; rw [show (jn I K) 11 0 = 0 from e6]; rfl]
      show am_Go _ _ _ _ 71 _ [.int 0] _ _
      refine go_s (pc' := 72) (lo' := [some (.ref 62), some (.int 0), some (.int 10), some (.int 0)]) rfl rfl rfl rfl ?_
      refine go_s (pc' := 73) rfl rfl rfl rfl ?_
      refine go_ifP (t' := 106) (pc' := 74) rfl rfl rfl (fun _ => ?_) (fun (c : ¬ ((0 : Int32) ≤ 0)) => absurd (by decide) c)
      refine go_s (pc' := 107) rfl rfl rfl rfl ?_
      refine go_tsw (t' := 135) rfl (Or.inr ⟨by decide, rfl⟩) rfl ?_
      refine go_s (pc' := 136) rfl rfl rfl rfl ?_
      refine go_callV (pc' := 137) rfl rfl rfl (Nat.le_of_ble_eq_true rfl) rfl (sm_o hS rfl) rfl rfl rfl (rs_tr hr hS (rho := 0) (s := Z 0) (Or.inr (Or.inl e6)) (fun z => absurd (e6.symm.trans z) (by decide)) (rwi_l (v := 0) e6 (by decide)) (by decide) (by decide) (RS_jn (RR_row hU.2.1 (i := 0) (by decide)).1) (hbok 0 (by decide)) (by omega)) (fun r h9 q10 => ?_)
      obtain ⟨rfl, rfl⟩ := q10
      refine go_ret rfl rfl ?_
      have hms : mqpr 0 10 (I, Q, Z) = (nI (mtr (Z 0))) := by
        show mqst 10 (I, Q, Z) = (nI (mtr (Z 0)))
        refine (if_pos u5 : mqst 10 (I, Q, Z) = nI (mtr (Z (rwi I 0)))).trans ?_
        show nI (mtr (Z (rwi I 0))) = (nI (mtr (Z 0)))
        rw [show (Z (rwi I 0)) = Z 0 from congrArg Z (rwi_l (v := 0) e6 (by decide))]
      rw [hms]
      exact ⟨rfl, rfl⟩
    · skip
      refine go_s (pc' := 69) rfl rfl rfl rfl ?_
      refine go_s (pc' := 70) rfl rfl rfl rfl ?_
      refine go_callV (pc' := 71) rfl rfl rfl (Nat.le_of_ble_eq_true rfl) rfl (sm_o hS rfl) rfl rfl rfl (rt_at_0 hr hS (Or.inr (Or.inr e6)) (fun z => absurd (e6.symm.trans z) (by decide)) (by omega)) (fun r h11 q12 => ?_)
      obtain ⟨rfl, rfl⟩ := q12
      rw [show rwi (jn I K) 0 = 1 by unfold rwi pn; rw [show (jn I K) 11 0 = 1 from e6]; rfl]
      show am_Go _ _ _ _ 71 _ [.int 424] _ _
      refine go_s (pc' := 72) (lo' := [some (.ref 62), some (.int 0), some (.int 10), some (.int 424)]) rfl rfl rfl rfl ?_
      refine go_s (pc' := 73) rfl rfl rfl rfl ?_
      refine go_ifP (t' := 106) (pc' := 74) rfl rfl rfl (fun _ => ?_) (fun (c : ¬ ((0 : Int32) ≤ 0)) => absurd (by decide) c)
      refine go_s (pc' := 107) rfl rfl rfl rfl ?_
      refine go_tsw (t' := 135) rfl (Or.inr ⟨by decide, rfl⟩) rfl ?_
      refine go_s (pc' := 136) rfl rfl rfl rfl ?_
      refine go_callV (pc' := 137) rfl rfl rfl (Nat.le_of_ble_eq_true rfl) rfl (sm_o hS rfl) rfl rfl rfl (rs_tr hr hS (rho := 1) (s := Z 1) (Or.inr (Or.inr e6)) (fun z => absurd (e6.symm.trans z) (by decide)) (rwi_l (v := 1) e6 (by decide)) (by decide) (by decide) (RS_jn (RR_row hU.2.1 (i := 1) (by decide)).1) (hbok 1 (by decide)) (by omega)) (fun r h13 q14 => ?_)
      obtain ⟨rfl, rfl⟩ := q14
      refine go_ret rfl rfl ?_
      have hms : mqpr 0 10 (I, Q, Z) = (nI (mtr (Z 1))) := by
        show mqst 10 (I, Q, Z) = (nI (mtr (Z 1)))
        refine (if_pos u5 : mqst 10 (I, Q, Z) = nI (mtr (Z (rwi I 0)))).trans ?_
        show nI (mtr (Z (rwi I 0))) = (nI (mtr (Z 1)))
        rw [show (Z (rwi I 0)) = Z 1 from congrArg Z (rwi_l (v := 1) e6 (by decide))]
      rw [hms]
      exact ⟨rfl, rfl⟩
theorem ra_pr_0_n {w : Nat → Bool} {d B R : Nat} {h : am_Hp} {I : sm_I} {Q : mQ} {Z : mZ} (hA : RA w B R [] true h (I, Q, Z)) (hR : R + 0 < 40000) (hpk : ∀ k, k < 3 → prk I k) (hbok : ∀ r, r < 2 → bok (Z r)) {x : Int32} (x0 : ¬ x = 0) (x1 : ¬ x = 1) (x2 : ¬ x = 2) (x3 : ¬ x = 3) (x4 : ¬ x = 4) (x5 : ¬ x = 5) (x6 : ¬ x = 6) (x7 : ¬ x = 7) (x8 : ¬ x = 8) (x9 : ¬ x = 9) (x10 : ¬ x = 10) (hd : 3 ≤ d) : am_Ev (am_prog w) d 186 [.ref 62, .int 0, .int x] h (fun r h' => r = some (.int (mqpr 0 x (I, Q, Z))) ∧ h' = h) := by
  obtain ⟨K, Y, am, ln, hS, hU⟩ := RA_u.mp hA
  change sm (tbr am (13 * ln) 77 5088) h (jn I K) Y at hS
  obtain ⟨hW, hWm, -, -, hr, -⟩ := id hU.1
  have hln := RU_ln hU (by omega)
  obtain ⟨d, rfl⟩ : ∃ e, d = e + 1 := ⟨d - 1, by omega⟩
  refine ev_go rfl (Nat.le_of_ble_eq_true rfl) rfl ?_
  have hp0 : prk I 0 := hpk 0 (by decide)
  have hp1 : prk I 1 := hpk 1 (by decide)
  have hp2 : prk I 2 := hpk 2 (by decide)
  refine go_s (pc' := 1) rfl rfl rfl rfl ?_
  refine go_s (pc' := 2) (st' := [.int 0, .int 0]) rfl rfl rfl rfl ?_
  refine go_s (pc' := 3) (st' := [.int 2, .int 0, .int 0]) rfl rfl rfl rfl ?_
  refine go_callS (pc' := 4) rfl rfl rfl (Nat.le_of_ble_eq_true rfl) rfl rfl rfl (rt_within_t (q := 0) (n := 2) (by decide) (by decide) (by omega)) (fun r h1 q2 => ?_)
  obtain ⟨rfl, rfl⟩ := q2
  refine go_ifP (t' := 7) (pc' := 5) rfl rfl rfl (fun _ => ?_) (fun (c : ¬ (¬ (1 : Int32) = 0)) => absurd (by decide) c)
  refine go_s (pc' := 8) rfl rfl rfl rfl ?_
  refine go_ifP (t' := 14) (pc' := 9) rfl rfl rfl (fun _ => ?_) (fun (c : ¬ (¬ x = 0)) => absurd x0 c)
  refine go_s (pc' := 15) rfl rfl rfl rfl ?_
  refine go_s (pc' := 16) (st' := [.int 1, .int x]) rfl rfl rfl rfl ?_
  refine go_icmpP (t' := 22) (pc' := 17) rfl rfl rfl (fun _ => ?_) (fun (c : ¬ (¬ x = 1)) => absurd x1 c)
  refine go_s (pc' := 23) rfl rfl rfl rfl ?_
  refine go_s (pc' := 24) (st' := [.int 2, .int x]) rfl rfl rfl rfl ?_
  refine go_icmpP (t' := 34) (pc' := 25) rfl rfl rfl (fun _ => ?_) (fun (c : ¬ (¬ x = 2)) => absurd x2 c)
  refine go_s (pc' := 35) rfl rfl rfl rfl ?_
  refine go_s (pc' := 36) (st' := [.int 4, .int x]) rfl rfl rfl rfl ?_
  refine go_icmpP (t' := 42) (pc' := 37) rfl rfl rfl (fun _ => ?_) (fun (c : ¬ (¬ x = 4)) => absurd x4 c)
  refine go_s (pc' := 43) rfl rfl rfl rfl ?_
  refine go_ifP (t' := 54) (pc' := 44) rfl rfl rfl (fun _ => ?_) (fun (c : ¬ ((0 : Int32) ≤ 0)) => absurd (by decide) c)
  refine go_s (pc' := 55) rfl rfl rfl rfl ?_
  refine go_s (pc' := 56) rfl rfl rfl rfl ?_
  refine go_callV (pc' := 57) rfl rfl rfl (Nat.le_of_ble_eq_true rfl) rfl (sm_o hS rfl) rfl rfl rfl (rt_lives_0 hr hS hp0 (by omega)) (fun r h3 q4 => ?_)
  obtain ⟨rfl, rfl⟩ := q4
  rw [show lv (jn I K) 0 = lv I 0 from rfl]
  cases u5 : lv I 0
  · skip
    show am_Go _ _ _ _ 57 _ [.int 0] _ _
    refine go_ifP (t' := 60) (pc' := 58) rfl rfl rfl (fun (c : ¬ (0 : Int32) = 0) => absurd c (by decide)) (fun _ => ?_)
    refine go_s (pc' := 59) (st' := [.int (-1)]) rfl rfl rfl rfl ?_
    refine go_ret rfl rfl ?_
    have hms : mqpr 0 x (I, Q, Z) = (-1) := by
      unfold mqpr
      rw [if_neg x0, if_neg x1, if_neg x2, if_neg x3, if_neg x4, if_pos rfl]
      exact (if_neg (by rw [u5]; decide))
    rw [hms]
    exact ⟨rfl, rfl⟩
  · skip
    show am_Go _ _ _ _ 57 _ [.int 1] _ _
    refine go_ifP (t' := 60) (pc' := 58) rfl rfl rfl (fun _ => ?_) (fun (c : ¬ (¬ (1 : Int32) = 0)) => absurd (by decide) c)
    refine go_s (pc' := 61) rfl rfl rfl rfl ?_
    refine go_s (pc' := 62) (st' := [.int 3, .int x]) rfl rfl rfl rfl ?_
    refine go_icmpP (t' := 68) (pc' := 63) rfl rfl rfl (fun _ => ?_) (fun (c : ¬ (¬ x = 3)) => absurd x3 c)
    rcases (id hp0) with e6 | e6 | e6
    · skip
      exact absurd e6 (lv_up u5).1
    · skip
      refine go_s (pc' := 69) rfl rfl rfl rfl ?_
      refine go_s (pc' := 70) rfl rfl rfl rfl ?_
      refine go_callV (pc' := 71) rfl rfl rfl (Nat.le_of_ble_eq_true rfl) rfl (sm_o hS rfl) rfl rfl rfl (rt_at_0 hr hS (Or.inr (Or.inl e6)) (fun z => absurd (e6.symm.trans z) (by decide)) (by omega)) (fun r h7 q8 => ?_)
      obtain ⟨rfl, rfl⟩ := q8
      rw [show rwi (jn I K) 0 = 0 by unfold rwi pn; rw [show (jn I K) 11 0 = 0 from e6]; rfl]
      show am_Go _ _ _ _ 71 _ [.int 0] _ _
      refine go_s (pc' := 72) (lo' := [some (.ref 62), some (.int 0), some (.int x), some (.int 0)]) rfl rfl rfl rfl ?_
      refine go_s (pc' := 73) rfl rfl rfl rfl ?_
      refine go_ifP (t' := 106) (pc' := 74) rfl rfl rfl (fun _ => ?_) (fun (c : ¬ ((0 : Int32) ≤ 0)) => absurd (by decide) c)
      refine go_s (pc' := 107) rfl rfl rfl rfl ?_
      refine go_tsw (t' := 138) rfl (Or.inl ⟨tsw_5_10 x5 x6 x7 x8 x9 x10, rfl⟩) rfl ?_
      refine go_s (pc' := 139) (st' := [.int (-1)]) rfl rfl rfl rfl ?_
      refine go_ret rfl rfl ?_
      have hms : mqpr 0 x (I, Q, Z) = (-1) := by
        unfold mqpr
        rw [if_neg x0, if_neg x1, if_neg x2, if_neg x3, if_neg x4, if_pos rfl]
        unfold mqst
        rw [if_pos (show lv ((I, Q, Z) : mM).1 0 = true from u5), if_neg x5, if_neg x6, if_neg x7, if_neg x8, if_neg x9, if_neg x10]
      rw [hms]
      exact ⟨rfl, rfl⟩
    · skip
      refine go_s (pc' := 69) rfl rfl rfl rfl ?_
      refine go_s (pc' := 70) rfl rfl rfl rfl ?_
      refine go_callV (pc' := 71) rfl rfl rfl (Nat.le_of_ble_eq_true rfl) rfl (sm_o hS rfl) rfl rfl rfl (rt_at_0 hr hS (Or.inr (Or.inr e6)) (fun z => absurd (e6.symm.trans z) (by decide)) (by omega)) (fun r h9 q10 => ?_)
      obtain ⟨rfl, rfl⟩ := q10
      rw [show rwi (jn I K) 0 = 1 by unfold rwi pn; rw [show (jn I K) 11 0 = 1 from e6]; rfl]
      show am_Go _ _ _ _ 71 _ [.int 424] _ _
      refine go_s (pc' := 72) (lo' := [some (.ref 62), some (.int 0), some (.int x), some (.int 424)]) rfl rfl rfl rfl ?_
      refine go_s (pc' := 73) rfl rfl rfl rfl ?_
      refine go_ifP (t' := 106) (pc' := 74) rfl rfl rfl (fun _ => ?_) (fun (c : ¬ ((0 : Int32) ≤ 0)) => absurd (by decide) c)
      refine go_s (pc' := 107) rfl rfl rfl rfl ?_
      refine go_tsw (t' := 138) rfl (Or.inl ⟨tsw_5_10 x5 x6 x7 x8 x9 x10, rfl⟩) rfl ?_
      refine go_s (pc' := 139) (st' := [.int (-1)]) rfl rfl rfl rfl ?_
      refine go_ret rfl rfl ?_
      have hms : mqpr 0 x (I, Q, Z) = (-1) := by
        unfold mqpr
        rw [if_neg x0, if_neg x1, if_neg x2, if_neg x3, if_neg x4, if_pos rfl]
        unfold mqst
        rw [if_pos (show lv ((I, Q, Z) : mM).1 0 = true from u5), if_neg x5, if_neg x6, if_neg x7, if_neg x8, if_neg x9, if_neg x10]
      rw [hms]
      exact ⟨rfl, rfl⟩
theorem ra_pr_0 {w : Nat → Bool} {d B R : Nat} {h : am_Hp} {I : sm_I} {Q : mQ} {Z : mZ} (hA : RA w B R [] true h (I, Q, Z)) (hR : R + 0 < 40000) (hpk : ∀ k, k < 3 → prk I k) (hbok : ∀ r, r < 2 → bok (Z r)) {x : Int32} (hd : 3 ≤ d) : am_Ev (am_prog w) d 186 [.ref 62, .int 0, .int x] h (fun r h' => r = some (.int (mqpr 0 x (I, Q, Z))) ∧ h' = h) := by
  by_cases x0 : x = 0
  · subst x0; exact ra_pr_0_0 hA hR hpk hbok hd
  by_cases x1 : x = 1
  · subst x1; exact ra_pr_0_1 hA hR hpk hbok hd
  by_cases x2 : x = 2
  · subst x2; exact ra_pr_0_2 hA hR hpk hbok hd
  by_cases x3 : x = 3
  · subst x3; exact ra_pr_0_3 hA hR hpk hbok hd
  by_cases x4 : x = 4
  · subst x4; exact ra_pr_0_4 hA hR hpk hbok hd
  by_cases x5 : x = 5
  · subst x5; exact ra_pr_0_5 hA hR hpk hbok hd
  by_cases x6 : x = 6
  · subst x6; exact ra_pr_0_6 hA hR hpk hbok hd
  by_cases x7 : x = 7
  · subst x7; exact ra_pr_0_7 hA hR hpk hbok hd
  by_cases x8 : x = 8
  · subst x8; exact ra_pr_0_8 hA hR hpk hbok hd
  by_cases x9 : x = 9
  · subst x9; exact ra_pr_0_9 hA hR hpk hbok hd
  by_cases x10 : x = 10
  · subst x10; exact ra_pr_0_10 hA hR hpk hbok hd
  exact ra_pr_0_n hA hR hpk hbok x0 x1 x2 x3 x4 x5 x6 x7 x8 x9 x10 hd
theorem ra_pr_1_0 {w : Nat → Bool} {d B R : Nat} {h : am_Hp} {I : sm_I} {Q : mQ} {Z : mZ} (hA : RA w B R [] true h (I, Q, Z)) (hR : R + 0 < 40000) (hpk : ∀ k, k < 3 → prk I k) (hbok : ∀ r, r < 2 → bok (Z r)) (hd : 3 ≤ d) : am_Ev (am_prog w) d 186 [.ref 62, .int 1, .int 0] h (fun r h' => r = some (.int (mqpr 1 0 (I, Q, Z))) ∧ h' = h) := by
  obtain ⟨K, Y, am, ln, hS, hU⟩ := RA_u.mp hA
  change sm (tbr am (13 * ln) 77 5088) h (jn I K) Y at hS
  obtain ⟨hW, hWm, -, -, hr, -⟩ := id hU.1
  have hln := RU_ln hU (by omega)
  obtain ⟨d, rfl⟩ : ∃ e, d = e + 1 := ⟨d - 1, by omega⟩
  refine ev_go rfl (Nat.le_of_ble_eq_true rfl) rfl ?_
  have hp0 : prk I 0 := hpk 0 (by decide)
  have hp1 : prk I 1 := hpk 1 (by decide)
  have hp2 : prk I 2 := hpk 2 (by decide)
  refine go_s (pc' := 1) rfl rfl rfl rfl ?_
  refine go_s (pc' := 2) (st' := [.int 0, .int 1]) rfl rfl rfl rfl ?_
  refine go_s (pc' := 3) (st' := [.int 2, .int 0, .int 1]) rfl rfl rfl rfl ?_
  refine go_callS (pc' := 4) rfl rfl rfl (Nat.le_of_ble_eq_true rfl) rfl rfl rfl (rt_within_t (q := 1) (n := 2) (by decide) (by decide) (by omega)) (fun r h1 q2 => ?_)
  obtain ⟨rfl, rfl⟩ := q2
  refine go_ifP (t' := 7) (pc' := 5) rfl rfl rfl (fun _ => ?_) (fun (c : ¬ (¬ (1 : Int32) = 0)) => absurd (by decide) c)
  refine go_s (pc' := 8) rfl rfl rfl rfl ?_
  refine go_ifP (t' := 14) (pc' := 9) rfl rfl rfl (fun (c : ¬ (0 : Int32) = 0) => absurd c (by decide)) (fun _ => ?_)
  refine go_s (pc' := 10) rfl rfl rfl rfl ?_
  refine go_sget (pc' := 11) (v := .ref 78) hS rfl rfl rfl (by decide) rfl rfl ?_
  refine go_s (pc' := 12) rfl rfl rfl rfl ?_
  refine go_sald (pc' := 13) (q := 1) (v := .int (I 11 1)) hS rfl (tr_s hr (a := 78) rfl (by decide)) rfl rfl (by decide) rfl rfl ?_
  refine go_ret rfl rfl ?_
  have hms : mqpr 1 0 (I, Q, Z) = (I 11 1) := rfl
  rw [hms]
  exact ⟨rfl, rfl⟩
theorem ra_pr_1_1 {w : Nat → Bool} {d B R : Nat} {h : am_Hp} {I : sm_I} {Q : mQ} {Z : mZ} (hA : RA w B R [] true h (I, Q, Z)) (hR : R + 0 < 40000) (hpk : ∀ k, k < 3 → prk I k) (hbok : ∀ r, r < 2 → bok (Z r)) (hd : 3 ≤ d) : am_Ev (am_prog w) d 186 [.ref 62, .int 1, .int 1] h (fun r h' => r = some (.int (mqpr 1 1 (I, Q, Z))) ∧ h' = h) := by
  obtain ⟨K, Y, am, ln, hS, hU⟩ := RA_u.mp hA
  change sm (tbr am (13 * ln) 77 5088) h (jn I K) Y at hS
  obtain ⟨hW, hWm, -, -, hr, -⟩ := id hU.1
  have hln := RU_ln hU (by omega)
  obtain ⟨d, rfl⟩ : ∃ e, d = e + 1 := ⟨d - 1, by omega⟩
  refine ev_go rfl (Nat.le_of_ble_eq_true rfl) rfl ?_
  have hp0 : prk I 0 := hpk 0 (by decide)
  have hp1 : prk I 1 := hpk 1 (by decide)
  have hp2 : prk I 2 := hpk 2 (by decide)
  refine go_s (pc' := 1) rfl rfl rfl rfl ?_
  refine go_s (pc' := 2) (st' := [.int 0, .int 1]) rfl rfl rfl rfl ?_
  refine go_s (pc' := 3) (st' := [.int 2, .int 0, .int 1]) rfl rfl rfl rfl ?_
  refine go_callS (pc' := 4) rfl rfl rfl (Nat.le_of_ble_eq_true rfl) rfl rfl rfl (rt_within_t (q := 1) (n := 2) (by decide) (by decide) (by omega)) (fun r h1 q2 => ?_)
  obtain ⟨rfl, rfl⟩ := q2
  refine go_ifP (t' := 7) (pc' := 5) rfl rfl rfl (fun _ => ?_) (fun (c : ¬ (¬ (1 : Int32) = 0)) => absurd (by decide) c)
  refine go_s (pc' := 8) rfl rfl rfl rfl ?_
  refine go_ifP (t' := 14) (pc' := 9) rfl rfl rfl (fun _ => ?_) (fun (c : ¬ (¬ (1 : Int32) = 0)) => absurd (by decide) c)
  refine go_s (pc' := 15) rfl rfl rfl rfl ?_
  refine go_s (pc' := 16) (st' := [.int 1, .int 1]) rfl rfl rfl rfl ?_
  refine go_icmpP (t' := 22) (pc' := 17) rfl rfl rfl (fun (c : ¬ (1 : Int32) = 1) => absurd c (by decide)) (fun _ => ?_)
  refine go_s (pc' := 18) rfl rfl rfl rfl ?_
  refine go_sget (pc' := 19) (v := .ref 79) hS rfl rfl rfl (by decide) rfl rfl ?_
  refine go_s (pc' := 20) rfl rfl rfl rfl ?_
  refine go_sald (pc' := 21) (q := 1) (v := .int (I 12 1)) hS rfl (tr_s hr (a := 79) rfl (by decide)) rfl rfl (by decide) rfl rfl ?_
  refine go_ret rfl rfl ?_
  have hms : mqpr 1 1 (I, Q, Z) = (I 12 1) := rfl
  rw [hms]
  exact ⟨rfl, rfl⟩
theorem ra_pr_1_2 {w : Nat → Bool} {d B R : Nat} {h : am_Hp} {I : sm_I} {Q : mQ} {Z : mZ} (hA : RA w B R [] true h (I, Q, Z)) (hR : R + 0 < 40000) (hpk : ∀ k, k < 3 → prk I k) (hbok : ∀ r, r < 2 → bok (Z r)) (hd : 3 ≤ d) : am_Ev (am_prog w) d 186 [.ref 62, .int 1, .int 2] h (fun r h' => r = some (.int (mqpr 1 2 (I, Q, Z))) ∧ h' = h) := by
  obtain ⟨K, Y, am, ln, hS, hU⟩ := RA_u.mp hA
  change sm (tbr am (13 * ln) 77 5088) h (jn I K) Y at hS
  obtain ⟨hW, hWm, -, -, hr, -⟩ := id hU.1
  have hln := RU_ln hU (by omega)
  obtain ⟨d, rfl⟩ : ∃ e, d = e + 1 := ⟨d - 1, by omega⟩
  refine ev_go rfl (Nat.le_of_ble_eq_true rfl) rfl ?_
  have hp0 : prk I 0 := hpk 0 (by decide)
  have hp1 : prk I 1 := hpk 1 (by decide)
  have hp2 : prk I 2 := hpk 2 (by decide)
  refine go_s (pc' := 1) rfl rfl rfl rfl ?_
  refine go_s (pc' := 2) (st' := [.int 0, .int 1]) rfl rfl rfl rfl ?_
  refine go_s (pc' := 3) (st' := [.int 2, .int 0, .int 1]) rfl rfl rfl rfl ?_
  refine go_callS (pc' := 4) rfl rfl rfl (Nat.le_of_ble_eq_true rfl) rfl rfl rfl (rt_within_t (q := 1) (n := 2) (by decide) (by decide) (by omega)) (fun r h1 q2 => ?_)
  obtain ⟨rfl, rfl⟩ := q2
  refine go_ifP (t' := 7) (pc' := 5) rfl rfl rfl (fun _ => ?_) (fun (c : ¬ (¬ (1 : Int32) = 0)) => absurd (by decide) c)
  refine go_s (pc' := 8) rfl rfl rfl rfl ?_
  refine go_ifP (t' := 14) (pc' := 9) rfl rfl rfl (fun _ => ?_) (fun (c : ¬ (¬ (2 : Int32) = 0)) => absurd (by decide) c)
  refine go_s (pc' := 15) rfl rfl rfl rfl ?_
  refine go_s (pc' := 16) (st' := [.int 1, .int 2]) rfl rfl rfl rfl ?_
  refine go_icmpP (t' := 22) (pc' := 17) rfl rfl rfl (fun _ => ?_) (fun (c : ¬ (¬ (2 : Int32) = 1)) => absurd (by decide) c)
  refine go_s (pc' := 23) rfl rfl rfl rfl ?_
  refine go_s (pc' := 24) (st' := [.int 2, .int 2]) rfl rfl rfl rfl ?_
  refine go_icmpP (t' := 34) (pc' := 25) rfl rfl rfl (fun (c : ¬ (2 : Int32) = 2) => absurd c (by decide)) (fun _ => ?_)
  refine go_s (pc' := 26) rfl rfl rfl rfl ?_
  refine go_sget (pc' := 27) (v := .ref 80) hS rfl rfl rfl (by decide) rfl rfl ?_
  refine go_s (pc' := 28) rfl rfl rfl rfl ?_
  refine go_sald (pc' := 29) (q := 1) (v := .int (I 13 1)) hS rfl (tr_s hr (a := 80) rfl (by decide)) rfl rfl (by decide) rfl rfl ?_
  refine go_ifP (t' := 32) (pc' := 30) rfl rfl rfl (fun (c3 : (I 13 1) = 0) => ?_) (fun (c3 : ¬ (I 13 1) = 0) => ?_)
  · skip
    refine go_s (pc' := 33) (st' := [.int 0]) rfl rfl rfl rfl ?_
    refine go_ret rfl rfl ?_
    have hms : mqpr 1 2 (I, Q, Z) = 0 := by
      show bI (I 13 1) = 0
      exact if_pos c3
    rw [hms]
    exact ⟨rfl, rfl⟩
  · skip
    refine go_s (pc' := 31) (st' := [.int 1]) rfl rfl rfl rfl ?_
    refine go_s (pc' := 33) rfl rfl rfl rfl ?_
    refine go_ret rfl rfl ?_
    have hms : mqpr 1 2 (I, Q, Z) = 1 := by
      show bI (I 13 1) = 1
      exact if_neg c3
    rw [hms]
    exact ⟨rfl, rfl⟩
theorem ra_pr_1_3 {w : Nat → Bool} {d B R : Nat} {h : am_Hp} {I : sm_I} {Q : mQ} {Z : mZ} (hA : RA w B R [] true h (I, Q, Z)) (hR : R + 0 < 40000) (hpk : ∀ k, k < 3 → prk I k) (hbok : ∀ r, r < 2 → bok (Z r)) (hd : 3 ≤ d) : am_Ev (am_prog w) d 186 [.ref 62, .int 1, .int 3] h (fun r h' => r = some (.int (mqpr 1 3 (I, Q, Z))) ∧ h' = h) := by
  obtain ⟨K, Y, am, ln, hS, hU⟩ := RA_u.mp hA
  change sm (tbr am (13 * ln) 77 5088) h (jn I K) Y at hS
  obtain ⟨hW, hWm, -, -, hr, -⟩ := id hU.1
  have hln := RU_ln hU (by omega)
  obtain ⟨d, rfl⟩ : ∃ e, d = e + 1 := ⟨d - 1, by omega⟩
  refine ev_go rfl (Nat.le_of_ble_eq_true rfl) rfl ?_
  have hp0 : prk I 0 := hpk 0 (by decide)
  have hp1 : prk I 1 := hpk 1 (by decide)
  have hp2 : prk I 2 := hpk 2 (by decide)
  refine go_s (pc' := 1) rfl rfl rfl rfl ?_
  refine go_s (pc' := 2) (st' := [.int 0, .int 1]) rfl rfl rfl rfl ?_
  refine go_s (pc' := 3) (st' := [.int 2, .int 0, .int 1]) rfl rfl rfl rfl ?_
  refine go_callS (pc' := 4) rfl rfl rfl (Nat.le_of_ble_eq_true rfl) rfl rfl rfl (rt_within_t (q := 1) (n := 2) (by decide) (by decide) (by omega)) (fun r h1 q2 => ?_)
  obtain ⟨rfl, rfl⟩ := q2
  refine go_ifP (t' := 7) (pc' := 5) rfl rfl rfl (fun _ => ?_) (fun (c : ¬ (¬ (1 : Int32) = 0)) => absurd (by decide) c)
  refine go_s (pc' := 8) rfl rfl rfl rfl ?_
  refine go_ifP (t' := 14) (pc' := 9) rfl rfl rfl (fun _ => ?_) (fun (c : ¬ (¬ (3 : Int32) = 0)) => absurd (by decide) c)
  refine go_s (pc' := 15) rfl rfl rfl rfl ?_
  refine go_s (pc' := 16) (st' := [.int 1, .int 3]) rfl rfl rfl rfl ?_
  refine go_icmpP (t' := 22) (pc' := 17) rfl rfl rfl (fun _ => ?_) (fun (c : ¬ (¬ (3 : Int32) = 1)) => absurd (by decide) c)
  refine go_s (pc' := 23) rfl rfl rfl rfl ?_
  refine go_s (pc' := 24) (st' := [.int 2, .int 3]) rfl rfl rfl rfl ?_
  refine go_icmpP (t' := 34) (pc' := 25) rfl rfl rfl (fun _ => ?_) (fun (c : ¬ (¬ (3 : Int32) = 2)) => absurd (by decide) c)
  refine go_s (pc' := 35) rfl rfl rfl rfl ?_
  refine go_s (pc' := 36) (st' := [.int 4, .int 3]) rfl rfl rfl rfl ?_
  refine go_icmpP (t' := 42) (pc' := 37) rfl rfl rfl (fun _ => ?_) (fun (c : ¬ (¬ (3 : Int32) = 4)) => absurd (by decide) c)
  refine go_s (pc' := 43) rfl rfl rfl rfl ?_
  refine go_ifP (t' := 54) (pc' := 44) rfl rfl rfl (fun (c : (1 : Int32) ≤ 0) => absurd c (by decide)) (fun _ => ?_)
  refine go_s (pc' := 45) rfl rfl rfl rfl ?_
  refine go_s (pc' := 46) (st' := [.int 5, .int 3]) rfl rfl rfl rfl ?_
  refine go_icmpP (t' := 54) (pc' := 47) rfl rfl rfl (fun _ => ?_) (fun (c : ¬ (¬ (3 : Int32) = 5)) => absurd (by decide) c)
  refine go_s (pc' := 55) rfl rfl rfl rfl ?_
  refine go_s (pc' := 56) rfl rfl rfl rfl ?_
  refine go_callV (pc' := 57) rfl rfl rfl (Nat.le_of_ble_eq_true rfl) rfl (sm_o hS rfl) rfl rfl rfl (rt_lives_1 hr hS hp1 (by omega)) (fun r h3 q4 => ?_)
  obtain ⟨rfl, rfl⟩ := q4
  rw [show lv (jn I K) 1 = lv I 1 from rfl]
  cases u5 : lv I 1
  · skip
    show am_Go _ _ _ _ 57 _ [.int 0] _ _
    refine go_ifP (t' := 60) (pc' := 58) rfl rfl rfl (fun (c : ¬ (0 : Int32) = 0) => absurd c (by decide)) (fun _ => ?_)
    refine go_s (pc' := 59) (st' := [.int (-1)]) rfl rfl rfl rfl ?_
    refine go_ret rfl rfl ?_
    have hms : mqpr 1 3 (I, Q, Z) = (-1) := by
      show (if lv I 1 = true then I 16 1 else -1) = (-1)
      exact (if_neg (by rw [u5]; decide))
    rw [hms]
    exact ⟨rfl, rfl⟩
  · skip
    show am_Go _ _ _ _ 57 _ [.int 1] _ _
    refine go_ifP (t' := 60) (pc' := 58) rfl rfl rfl (fun _ => ?_) (fun (c : ¬ (¬ (1 : Int32) = 0)) => absurd (by decide) c)
    refine go_s (pc' := 61) rfl rfl rfl rfl ?_
    refine go_s (pc' := 62) (st' := [.int 3, .int 3]) rfl rfl rfl rfl ?_
    refine go_icmpP (t' := 68) (pc' := 63) rfl rfl rfl (fun (c : ¬ (3 : Int32) = 3) => absurd c (by decide)) (fun _ => ?_)
    refine go_s (pc' := 64) rfl rfl rfl rfl ?_
    refine go_sget (pc' := 65) (v := .ref 83) hS rfl rfl rfl (by decide) rfl rfl ?_
    refine go_s (pc' := 66) rfl rfl rfl rfl ?_
    refine go_sald (pc' := 67) (q := 1) (v := .int (I 16 1)) hS rfl (tr_s hr (a := 83) rfl (by decide)) rfl rfl (by decide) rfl rfl ?_
    refine go_ret rfl rfl ?_
    have hms : mqpr 1 3 (I, Q, Z) = (I 16 1) := by
      show (if lv I 1 = true then I 16 1 else -1) = (I 16 1)
      exact (if_pos u5)
    rw [hms]
    exact ⟨rfl, rfl⟩
theorem ra_pr_1_4 {w : Nat → Bool} {d B R : Nat} {h : am_Hp} {I : sm_I} {Q : mQ} {Z : mZ} (hA : RA w B R [] true h (I, Q, Z)) (hR : R + 0 < 40000) (hpk : ∀ k, k < 3 → prk I k) (hbok : ∀ r, r < 2 → bok (Z r)) (hd : 3 ≤ d) : am_Ev (am_prog w) d 186 [.ref 62, .int 1, .int 4] h (fun r h' => r = some (.int (mqpr 1 4 (I, Q, Z))) ∧ h' = h) := by
  obtain ⟨K, Y, am, ln, hS, hU⟩ := RA_u.mp hA
  change sm (tbr am (13 * ln) 77 5088) h (jn I K) Y at hS
  obtain ⟨hW, hWm, -, -, hr, -⟩ := id hU.1
  have hln := RU_ln hU (by omega)
  obtain ⟨d, rfl⟩ : ∃ e, d = e + 1 := ⟨d - 1, by omega⟩
  refine ev_go rfl (Nat.le_of_ble_eq_true rfl) rfl ?_
  have hp0 : prk I 0 := hpk 0 (by decide)
  have hp1 : prk I 1 := hpk 1 (by decide)
  have hp2 : prk I 2 := hpk 2 (by decide)
  refine go_s (pc' := 1) rfl rfl rfl rfl ?_
  refine go_s (pc' := 2) (st' := [.int 0, .int 1]) rfl rfl rfl rfl ?_
  refine go_s (pc' := 3) (st' := [.int 2, .int 0, .int 1]) rfl rfl rfl rfl ?_
  refine go_callS (pc' := 4) rfl rfl rfl (Nat.le_of_ble_eq_true rfl) rfl rfl rfl (rt_within_t (q := 1) (n := 2) (by decide) (by decide) (by omega)) (fun r h1 q2 => ?_)
  obtain ⟨rfl, rfl⟩ := q2
  refine go_ifP (t' := 7) (pc' := 5) rfl rfl rfl (fun _ => ?_) (fun (c : ¬ (¬ (1 : Int32) = 0)) => absurd (by decide) c)
  refine go_s (pc' := 8) rfl rfl rfl rfl ?_
  refine go_ifP (t' := 14) (pc' := 9) rfl rfl rfl (fun _ => ?_) (fun (c : ¬ (¬ (4 : Int32) = 0)) => absurd (by decide) c)
  refine go_s (pc' := 15) rfl rfl rfl rfl ?_
  refine go_s (pc' := 16) (st' := [.int 1, .int 4]) rfl rfl rfl rfl ?_
  refine go_icmpP (t' := 22) (pc' := 17) rfl rfl rfl (fun _ => ?_) (fun (c : ¬ (¬ (4 : Int32) = 1)) => absurd (by decide) c)
  refine go_s (pc' := 23) rfl rfl rfl rfl ?_
  refine go_s (pc' := 24) (st' := [.int 2, .int 4]) rfl rfl rfl rfl ?_
  refine go_icmpP (t' := 34) (pc' := 25) rfl rfl rfl (fun _ => ?_) (fun (c : ¬ (¬ (4 : Int32) = 2)) => absurd (by decide) c)
  refine go_s (pc' := 35) rfl rfl rfl rfl ?_
  refine go_s (pc' := 36) (st' := [.int 4, .int 4]) rfl rfl rfl rfl ?_
  refine go_icmpP (t' := 42) (pc' := 37) rfl rfl rfl (fun (c : ¬ (4 : Int32) = 4) => absurd c (by decide)) (fun _ => ?_)
  refine go_s (pc' := 38) rfl rfl rfl rfl ?_
  refine go_sget (pc' := 39) (v := .ref 82) hS rfl rfl rfl (by decide) rfl rfl ?_
  refine go_s (pc' := 40) rfl rfl rfl rfl ?_
  refine go_sald (pc' := 41) (q := 1) (v := .int (I 15 1)) hS rfl (tr_s hr (a := 82) rfl (by decide)) rfl rfl (by decide) rfl rfl ?_
  refine go_ret rfl rfl ?_
  have hms : mqpr 1 4 (I, Q, Z) = (I 15 1) := rfl
  rw [hms]
  exact ⟨rfl, rfl⟩
theorem ra_pr_1_5 {w : Nat → Bool} {d B R : Nat} {h : am_Hp} {I : sm_I} {Q : mQ} {Z : mZ} (hA : RA w B R [] true h (I, Q, Z)) (hR : R + 0 < 40000) (hpk : ∀ k, k < 3 → prk I k) (hbok : ∀ r, r < 2 → bok (Z r)) (hd : 3 ≤ d) : am_Ev (am_prog w) d 186 [.ref 62, .int 1, .int 5] h (fun r h' => r = some (.int (mqpr 1 5 (I, Q, Z))) ∧ h' = h) := by
  obtain ⟨K, Y, am, ln, hS, hU⟩ := RA_u.mp hA
  change sm (tbr am (13 * ln) 77 5088) h (jn I K) Y at hS
  obtain ⟨hW, hWm, -, -, hr, -⟩ := id hU.1
  have hln := RU_ln hU (by omega)
  obtain ⟨d, rfl⟩ : ∃ e, d = e + 1 := ⟨d - 1, by omega⟩
  refine ev_go rfl (Nat.le_of_ble_eq_true rfl) rfl ?_
  have hp0 : prk I 0 := hpk 0 (by decide)
  have hp1 : prk I 1 := hpk 1 (by decide)
  have hp2 : prk I 2 := hpk 2 (by decide)
  refine go_s (pc' := 1) rfl rfl rfl rfl ?_
  refine go_s (pc' := 2) (st' := [.int 0, .int 1]) rfl rfl rfl rfl ?_
  refine go_s (pc' := 3) (st' := [.int 2, .int 0, .int 1]) rfl rfl rfl rfl ?_
  refine go_callS (pc' := 4) rfl rfl rfl (Nat.le_of_ble_eq_true rfl) rfl rfl rfl (rt_within_t (q := 1) (n := 2) (by decide) (by decide) (by omega)) (fun r h1 q2 => ?_)
  obtain ⟨rfl, rfl⟩ := q2
  refine go_ifP (t' := 7) (pc' := 5) rfl rfl rfl (fun _ => ?_) (fun (c : ¬ (¬ (1 : Int32) = 0)) => absurd (by decide) c)
  refine go_s (pc' := 8) rfl rfl rfl rfl ?_
  refine go_ifP (t' := 14) (pc' := 9) rfl rfl rfl (fun _ => ?_) (fun (c : ¬ (¬ (5 : Int32) = 0)) => absurd (by decide) c)
  refine go_s (pc' := 15) rfl rfl rfl rfl ?_
  refine go_s (pc' := 16) (st' := [.int 1, .int 5]) rfl rfl rfl rfl ?_
  refine go_icmpP (t' := 22) (pc' := 17) rfl rfl rfl (fun _ => ?_) (fun (c : ¬ (¬ (5 : Int32) = 1)) => absurd (by decide) c)
  refine go_s (pc' := 23) rfl rfl rfl rfl ?_
  refine go_s (pc' := 24) (st' := [.int 2, .int 5]) rfl rfl rfl rfl ?_
  refine go_icmpP (t' := 34) (pc' := 25) rfl rfl rfl (fun _ => ?_) (fun (c : ¬ (¬ (5 : Int32) = 2)) => absurd (by decide) c)
  refine go_s (pc' := 35) rfl rfl rfl rfl ?_
  refine go_s (pc' := 36) (st' := [.int 4, .int 5]) rfl rfl rfl rfl ?_
  refine go_icmpP (t' := 42) (pc' := 37) rfl rfl rfl (fun _ => ?_) (fun (c : ¬ (¬ (5 : Int32) = 4)) => absurd (by decide) c)
  refine go_s (pc' := 43) rfl rfl rfl rfl ?_
  refine go_ifP (t' := 54) (pc' := 44) rfl rfl rfl (fun (c : (1 : Int32) ≤ 0) => absurd c (by decide)) (fun _ => ?_)
  refine go_s (pc' := 45) rfl rfl rfl rfl ?_
  refine go_s (pc' := 46) (st' := [.int 5, .int 5]) rfl rfl rfl rfl ?_
  refine go_icmpP (t' := 54) (pc' := 47) rfl rfl rfl (fun (c : ¬ (5 : Int32) = 5) => absurd c (by decide)) (fun _ => ?_)
  refine go_s (pc' := 48) rfl rfl rfl rfl ?_
  refine go_sget (pc' := 49) (v := .ref 84) hS rfl rfl rfl (by decide) rfl rfl ?_
  refine go_s (pc' := 50) rfl rfl rfl rfl ?_
  refine go_s (pc' := 51) (st' := [.int 1, .int 1, .ref 84]) rfl rfl rfl rfl ?_
  refine go_s (pc' := 52) (st' := [.int 0, .ref 84]) rfl rfl rfl rfl ?_
  refine go_sald (pc' := 53) (q := 0) (v := .int (I 17 0)) hS rfl (tr_s hr (a := 84) rfl (by decide)) rfl rfl (by decide) rfl rfl ?_
  refine go_ret rfl rfl ?_
  have hms : mqpr 1 5 (I, Q, Z) = (I 17 0) := rfl
  rw [hms]
  exact ⟨rfl, rfl⟩
theorem ra_pr_1_6 {w : Nat → Bool} {d B R : Nat} {h : am_Hp} {I : sm_I} {Q : mQ} {Z : mZ} (hA : RA w B R [] true h (I, Q, Z)) (hR : R + 0 < 40000) (hpk : ∀ k, k < 3 → prk I k) (hbok : ∀ r, r < 2 → bok (Z r)) (hd : 3 ≤ d) : am_Ev (am_prog w) d 186 [.ref 62, .int 1, .int 6] h (fun r h' => r = some (.int (mqpr 1 6 (I, Q, Z))) ∧ h' = h) := by
  obtain ⟨K, Y, am, ln, hS, hU⟩ := RA_u.mp hA
  change sm (tbr am (13 * ln) 77 5088) h (jn I K) Y at hS
  obtain ⟨hW, hWm, -, -, hr, -⟩ := id hU.1
  have hln := RU_ln hU (by omega)
  obtain ⟨d, rfl⟩ : ∃ e, d = e + 1 := ⟨d - 1, by omega⟩
  refine ev_go rfl (Nat.le_of_ble_eq_true rfl) rfl ?_
  have hp0 : prk I 0 := hpk 0 (by decide)
  have hp1 : prk I 1 := hpk 1 (by decide)
  have hp2 : prk I 2 := hpk 2 (by decide)
  refine go_s (pc' := 1) rfl rfl rfl rfl ?_
  refine go_s (pc' := 2) (st' := [.int 0, .int 1]) rfl rfl rfl rfl ?_
  refine go_s (pc' := 3) (st' := [.int 2, .int 0, .int 1]) rfl rfl rfl rfl ?_
  refine go_callS (pc' := 4) rfl rfl rfl (Nat.le_of_ble_eq_true rfl) rfl rfl rfl (rt_within_t (q := 1) (n := 2) (by decide) (by decide) (by omega)) (fun r h1 q2 => ?_)
  obtain ⟨rfl, rfl⟩ := q2
  refine go_ifP (t' := 7) (pc' := 5) rfl rfl rfl (fun _ => ?_) (fun (c : ¬ (¬ (1 : Int32) = 0)) => absurd (by decide) c)
  refine go_s (pc' := 8) rfl rfl rfl rfl ?_
  refine go_ifP (t' := 14) (pc' := 9) rfl rfl rfl (fun _ => ?_) (fun (c : ¬ (¬ (6 : Int32) = 0)) => absurd (by decide) c)
  refine go_s (pc' := 15) rfl rfl rfl rfl ?_
  refine go_s (pc' := 16) (st' := [.int 1, .int 6]) rfl rfl rfl rfl ?_
  refine go_icmpP (t' := 22) (pc' := 17) rfl rfl rfl (fun _ => ?_) (fun (c : ¬ (¬ (6 : Int32) = 1)) => absurd (by decide) c)
  refine go_s (pc' := 23) rfl rfl rfl rfl ?_
  refine go_s (pc' := 24) (st' := [.int 2, .int 6]) rfl rfl rfl rfl ?_
  refine go_icmpP (t' := 34) (pc' := 25) rfl rfl rfl (fun _ => ?_) (fun (c : ¬ (¬ (6 : Int32) = 2)) => absurd (by decide) c)
  refine go_s (pc' := 35) rfl rfl rfl rfl ?_
  refine go_s (pc' := 36) (st' := [.int 4, .int 6]) rfl rfl rfl rfl ?_
  refine go_icmpP (t' := 42) (pc' := 37) rfl rfl rfl (fun _ => ?_) (fun (c : ¬ (¬ (6 : Int32) = 4)) => absurd (by decide) c)
  refine go_s (pc' := 43) rfl rfl rfl rfl ?_
  refine go_ifP (t' := 54) (pc' := 44) rfl rfl rfl (fun (c : (1 : Int32) ≤ 0) => absurd c (by decide)) (fun _ => ?_)
  refine go_s (pc' := 45) rfl rfl rfl rfl ?_
  refine go_s (pc' := 46) (st' := [.int 5, .int 6]) rfl rfl rfl rfl ?_
  refine go_icmpP (t' := 54) (pc' := 47) rfl rfl rfl (fun _ => ?_) (fun (c : ¬ (¬ (6 : Int32) = 5)) => absurd (by decide) c)
  refine go_s (pc' := 55) rfl rfl rfl rfl ?_
  refine go_s (pc' := 56) rfl rfl rfl rfl ?_
  refine go_callV (pc' := 57) rfl rfl rfl (Nat.le_of_ble_eq_true rfl) rfl (sm_o hS rfl) rfl rfl rfl (rt_lives_1 hr hS hp1 (by omega)) (fun r h3 q4 => ?_)
  obtain ⟨rfl, rfl⟩ := q4
  rw [show lv (jn I K) 1 = lv I 1 from rfl]
  cases u5 : lv I 1
  · skip
    show am_Go _ _ _ _ 57 _ [.int 0] _ _
    refine go_ifP (t' := 60) (pc' := 58) rfl rfl rfl (fun (c : ¬ (0 : Int32) = 0) => absurd c (by decide)) (fun _ => ?_)
    refine go_s (pc' := 59) (st' := [.int (-1)]) rfl rfl rfl rfl ?_
    refine go_ret rfl rfl ?_
    have hms : mqpr 1 6 (I, Q, Z) = (-1) := by
      show mqtm 0 6 (I, Q, Z) = -1
      show (if lv I 1 = true then _ else (-1 : Int32)) = -1
      exact (if_neg (by rw [u5]; decide))
    rw [hms]
    exact ⟨rfl, rfl⟩
  · skip
    show am_Go _ _ _ _ 57 _ [.int 1] _ _
    refine go_ifP (t' := 60) (pc' := 58) rfl rfl rfl (fun _ => ?_) (fun (c : ¬ (¬ (1 : Int32) = 0)) => absurd (by decide) c)
    refine go_s (pc' := 61) rfl rfl rfl rfl ?_
    refine go_s (pc' := 62) (st' := [.int 3, .int 6]) rfl rfl rfl rfl ?_
    refine go_icmpP (t' := 68) (pc' := 63) rfl rfl rfl (fun _ => ?_) (fun (c : ¬ (¬ (6 : Int32) = 3)) => absurd (by decide) c)
    rcases (id hp1) with e6 | e6 | e6
    · skip
      exact absurd e6 (lv_up u5).1
    · skip
      refine go_s (pc' := 69) rfl rfl rfl rfl ?_
      refine go_s (pc' := 70) rfl rfl rfl rfl ?_
      refine go_callV (pc' := 71) rfl rfl rfl (Nat.le_of_ble_eq_true rfl) rfl (sm_o hS rfl) rfl rfl rfl (rt_at_1 hr hS (Or.inr (Or.inl e6)) (fun z => absurd (e6.symm.trans z) (by decide)) (by omega)) (fun r h7 q8 => ?_)
      obtain ⟨rfl, rfl⟩ := q8
      rw [show rwi (jn I K) 1 = 2 by unfold rwi pn; rw [show (jn I K) 11 1 = 2 from e6]; rfl]
      show am_Go _ _ _ _ 71 _ [.int 848] _ _
      refine go_s (pc' := 72) (lo' := [some (.ref 62), some (.int 1), some (.int 6), some (.int 848)]) rfl rfl rfl rfl ?_
      refine go_s (pc' := 73) rfl rfl rfl rfl ?_
      refine go_ifP (t' := 106) (pc' := 74) rfl rfl rfl (fun (c : (1 : Int32) ≤ 0) => absurd c (by decide)) (fun _ => ?_)
      refine go_s (pc' := 75) rfl rfl rfl rfl ?_
      refine go_s (pc' := 76) (st' := [.int 6, .int 6]) rfl rfl rfl rfl ?_
      refine go_icmpP (t' := 84) (pc' := 77) rfl rfl rfl (fun (c : ¬ (6 : Int32) = 6) => absurd c (by decide)) (fun _ => ?_)
      refine go_s (pc' := 78) rfl rfl rfl rfl ?_
      refine go_sget (pc' := 79) (v := .ref 77) hS rfl rfl rfl (by decide) rfl rfl ?_
      refine go_s (pc' := 80) rfl rfl rfl rfl ?_
      refine go_s (pc' := 81) (st' := [.int 0, .int 848, .ref 77]) rfl rfl rfl rfl ?_
      refine go_s (pc' := 82) (st' := [.int 848, .ref 77]) rfl rfl rfl rfl ?_
      refine go_sald (pc' := 83) (q := 848) (v := .int ((Z 2).1 0)) hS rfl (tr_as hr (by omega)) rfl rfl (by decide) (congrArg Value.int (RR_t hU.2.1 (i := 2) (by decide) (by decide) 0 (by decide))) rfl ?_
      refine go_s (pc' := 105) rfl rfl rfl rfl ?_
      refine go_ret rfl rfl ?_
      have hms : mqpr 1 6 (I, Q, Z) = ((Z 2).1 0) := by
        show (if lv I 1 = true then row1 (I, Q, Z) 1 0 else -1) = ((Z 2).1 0)
        exact (if_pos u5).trans (congrFun (row1_l (v := 2) e6 (by decide)) 0)
      rw [hms]
      exact ⟨rfl, rfl⟩
    · skip
      refine go_s (pc' := 69) rfl rfl rfl rfl ?_
      refine go_s (pc' := 70) rfl rfl rfl rfl ?_
      refine go_callV (pc' := 71) rfl rfl rfl (Nat.le_of_ble_eq_true rfl) rfl (sm_o hS rfl) rfl rfl rfl (rt_at_1 hr hS (Or.inr (Or.inr e6)) (fun z => absurd (e6.symm.trans z) (by decide)) (by omega)) (fun r h9 q10 => ?_)
      obtain ⟨rfl, rfl⟩ := q10
      rw [show rwi (jn I K) 1 = 3 by unfold rwi pn; rw [show (jn I K) 11 1 = 3 from e6]; rfl]
      show am_Go _ _ _ _ 71 _ [.int 1272] _ _
      refine go_s (pc' := 72) (lo' := [some (.ref 62), some (.int 1), some (.int 6), some (.int 1272)]) rfl rfl rfl rfl ?_
      refine go_s (pc' := 73) rfl rfl rfl rfl ?_
      refine go_ifP (t' := 106) (pc' := 74) rfl rfl rfl (fun (c : (1 : Int32) ≤ 0) => absurd c (by decide)) (fun _ => ?_)
      refine go_s (pc' := 75) rfl rfl rfl rfl ?_
      refine go_s (pc' := 76) (st' := [.int 6, .int 6]) rfl rfl rfl rfl ?_
      refine go_icmpP (t' := 84) (pc' := 77) rfl rfl rfl (fun (c : ¬ (6 : Int32) = 6) => absurd c (by decide)) (fun _ => ?_)
      refine go_s (pc' := 78) rfl rfl rfl rfl ?_
      refine go_sget (pc' := 79) (v := .ref 77) hS rfl rfl rfl (by decide) rfl rfl ?_
      refine go_s (pc' := 80) rfl rfl rfl rfl ?_
      refine go_s (pc' := 81) (st' := [.int 0, .int 1272, .ref 77]) rfl rfl rfl rfl ?_
      refine go_s (pc' := 82) (st' := [.int 1272, .ref 77]) rfl rfl rfl rfl ?_
      refine go_sald (pc' := 83) (q := 1272) (v := .int ((Z 3).1 0)) hS rfl (tr_as hr (by omega)) rfl rfl (by decide) (congrArg Value.int (RR_t hU.2.1 (i := 3) (by decide) (by decide) 0 (by decide))) rfl ?_
      refine go_s (pc' := 105) rfl rfl rfl rfl ?_
      refine go_ret rfl rfl ?_
      have hms : mqpr 1 6 (I, Q, Z) = ((Z 3).1 0) := by
        show (if lv I 1 = true then row1 (I, Q, Z) 1 0 else -1) = ((Z 3).1 0)
        exact (if_pos u5).trans (congrFun (row1_l (v := 3) e6 (by decide)) 0)
      rw [hms]
      exact ⟨rfl, rfl⟩
theorem ra_pr_1_7 {w : Nat → Bool} {d B R : Nat} {h : am_Hp} {I : sm_I} {Q : mQ} {Z : mZ} (hA : RA w B R [] true h (I, Q, Z)) (hR : R + 0 < 40000) (hpk : ∀ k, k < 3 → prk I k) (hbok : ∀ r, r < 2 → bok (Z r)) (hd : 3 ≤ d) : am_Ev (am_prog w) d 186 [.ref 62, .int 1, .int 7] h (fun r h' => r = some (.int (mqpr 1 7 (I, Q, Z))) ∧ h' = h) := by
  obtain ⟨K, Y, am, ln, hS, hU⟩ := RA_u.mp hA
  change sm (tbr am (13 * ln) 77 5088) h (jn I K) Y at hS
  obtain ⟨hW, hWm, -, -, hr, -⟩ := id hU.1
  have hln := RU_ln hU (by omega)
  obtain ⟨d, rfl⟩ : ∃ e, d = e + 1 := ⟨d - 1, by omega⟩
  refine ev_go rfl (Nat.le_of_ble_eq_true rfl) rfl ?_
  have hp0 : prk I 0 := hpk 0 (by decide)
  have hp1 : prk I 1 := hpk 1 (by decide)
  have hp2 : prk I 2 := hpk 2 (by decide)
  refine go_s (pc' := 1) rfl rfl rfl rfl ?_
  refine go_s (pc' := 2) (st' := [.int 0, .int 1]) rfl rfl rfl rfl ?_
  refine go_s (pc' := 3) (st' := [.int 2, .int 0, .int 1]) rfl rfl rfl rfl ?_
  refine go_callS (pc' := 4) rfl rfl rfl (Nat.le_of_ble_eq_true rfl) rfl rfl rfl (rt_within_t (q := 1) (n := 2) (by decide) (by decide) (by omega)) (fun r h1 q2 => ?_)
  obtain ⟨rfl, rfl⟩ := q2
  refine go_ifP (t' := 7) (pc' := 5) rfl rfl rfl (fun _ => ?_) (fun (c : ¬ (¬ (1 : Int32) = 0)) => absurd (by decide) c)
  refine go_s (pc' := 8) rfl rfl rfl rfl ?_
  refine go_ifP (t' := 14) (pc' := 9) rfl rfl rfl (fun _ => ?_) (fun (c : ¬ (¬ (7 : Int32) = 0)) => absurd (by decide) c)
  refine go_s (pc' := 15) rfl rfl rfl rfl ?_
  refine go_s (pc' := 16) (st' := [.int 1, .int 7]) rfl rfl rfl rfl ?_
  refine go_icmpP (t' := 22) (pc' := 17) rfl rfl rfl (fun _ => ?_) (fun (c : ¬ (¬ (7 : Int32) = 1)) => absurd (by decide) c)
  refine go_s (pc' := 23) rfl rfl rfl rfl ?_
  refine go_s (pc' := 24) (st' := [.int 2, .int 7]) rfl rfl rfl rfl ?_
  refine go_icmpP (t' := 34) (pc' := 25) rfl rfl rfl (fun _ => ?_) (fun (c : ¬ (¬ (7 : Int32) = 2)) => absurd (by decide) c)
  refine go_s (pc' := 35) rfl rfl rfl rfl ?_
  refine go_s (pc' := 36) (st' := [.int 4, .int 7]) rfl rfl rfl rfl ?_
  refine go_icmpP (t' := 42) (pc' := 37) rfl rfl rfl (fun _ => ?_) (fun (c : ¬ (¬ (7 : Int32) = 4)) => absurd (by decide) c)
  refine go_s (pc' := 43) rfl rfl rfl rfl ?_
  refine go_ifP (t' := 54) (pc' := 44) rfl rfl rfl (fun (c : (1 : Int32) ≤ 0) => absurd c (by decide)) (fun _ => ?_)
  refine go_s (pc' := 45) rfl rfl rfl rfl ?_
  refine go_s (pc' := 46) (st' := [.int 5, .int 7]) rfl rfl rfl rfl ?_
  refine go_icmpP (t' := 54) (pc' := 47) rfl rfl rfl (fun _ => ?_) (fun (c : ¬ (¬ (7 : Int32) = 5)) => absurd (by decide) c)
  refine go_s (pc' := 55) rfl rfl rfl rfl ?_
  refine go_s (pc' := 56) rfl rfl rfl rfl ?_
  refine go_callV (pc' := 57) rfl rfl rfl (Nat.le_of_ble_eq_true rfl) rfl (sm_o hS rfl) rfl rfl rfl (rt_lives_1 hr hS hp1 (by omega)) (fun r h3 q4 => ?_)
  obtain ⟨rfl, rfl⟩ := q4
  rw [show lv (jn I K) 1 = lv I 1 from rfl]
  cases u5 : lv I 1
  · skip
    show am_Go _ _ _ _ 57 _ [.int 0] _ _
    refine go_ifP (t' := 60) (pc' := 58) rfl rfl rfl (fun (c : ¬ (0 : Int32) = 0) => absurd c (by decide)) (fun _ => ?_)
    refine go_s (pc' := 59) (st' := [.int (-1)]) rfl rfl rfl rfl ?_
    refine go_ret rfl rfl ?_
    have hms : mqpr 1 7 (I, Q, Z) = (-1) := by
      show mqtm 0 7 (I, Q, Z) = -1
      show (if lv I 1 = true then _ else (-1 : Int32)) = -1
      exact (if_neg (by rw [u5]; decide))
    rw [hms]
    exact ⟨rfl, rfl⟩
  · skip
    show am_Go _ _ _ _ 57 _ [.int 1] _ _
    refine go_ifP (t' := 60) (pc' := 58) rfl rfl rfl (fun _ => ?_) (fun (c : ¬ (¬ (1 : Int32) = 0)) => absurd (by decide) c)
    refine go_s (pc' := 61) rfl rfl rfl rfl ?_
    refine go_s (pc' := 62) (st' := [.int 3, .int 7]) rfl rfl rfl rfl ?_
    refine go_icmpP (t' := 68) (pc' := 63) rfl rfl rfl (fun _ => ?_) (fun (c : ¬ (¬ (7 : Int32) = 3)) => absurd (by decide) c)
    rcases (id hp1) with e6 | e6 | e6
    · skip
      exact absurd e6 (lv_up u5).1
    · skip
      refine go_s (pc' := 69) rfl rfl rfl rfl ?_
      refine go_s (pc' := 70) rfl rfl rfl rfl ?_
      refine go_callV (pc' := 71) rfl rfl rfl (Nat.le_of_ble_eq_true rfl) rfl (sm_o hS rfl) rfl rfl rfl (rt_at_1 hr hS (Or.inr (Or.inl e6)) (fun z => absurd (e6.symm.trans z) (by decide)) (by omega)) (fun r h7 q8 => ?_)
      obtain ⟨rfl, rfl⟩ := q8
      rw [show rwi (jn I K) 1 = 2 by unfold rwi pn; rw [show (jn I K) 11 1 = 2 from e6]; rfl]
      show am_Go _ _ _ _ 71 _ [.int 848] _ _
      refine go_s (pc' := 72) (lo' := [some (.ref 62), some (.int 1), some (.int 7), some (.int 848)]) rfl rfl rfl rfl ?_
      refine go_s (pc' := 73) rfl rfl rfl rfl ?_
      refine go_ifP (t' := 106) (pc' := 74) rfl rfl rfl (fun (c : (1 : Int32) ≤ 0) => absurd c (by decide)) (fun _ => ?_)
      refine go_s (pc' := 75) rfl rfl rfl rfl ?_
      refine go_s (pc' := 76) (st' := [.int 6, .int 7]) rfl rfl rfl rfl ?_
      refine go_icmpP (t' := 84) (pc' := 77) rfl rfl rfl (fun _ => ?_) (fun (c : ¬ (¬ (7 : Int32) = 6)) => absurd (by decide) c)
      refine go_s (pc' := 85) rfl rfl rfl rfl ?_
      refine go_s (pc' := 86) (st' := [.int 7, .int 7]) rfl rfl rfl rfl ?_
      refine go_icmpP (t' := 94) (pc' := 87) rfl rfl rfl (fun (c : ¬ (7 : Int32) = 7) => absurd c (by decide)) (fun _ => ?_)
      refine go_s (pc' := 88) rfl rfl rfl rfl ?_
      refine go_sget (pc' := 89) (v := .ref 77) hS rfl rfl rfl (by decide) rfl rfl ?_
      refine go_s (pc' := 90) rfl rfl rfl rfl ?_
      refine go_s (pc' := 91) (st' := [.int 1, .int 848, .ref 77]) rfl rfl rfl rfl ?_
      refine go_s (pc' := 92) (st' := [.int 849, .ref 77]) rfl rfl rfl rfl ?_
      refine go_sald (pc' := 93) (q := 849) (v := .int ((Z 2).1 1)) hS rfl (tr_as hr (by omega)) rfl rfl (by decide) (congrArg Value.int (RR_t hU.2.1 (i := 2) (by decide) (by decide) 1 (by decide))) rfl ?_
      refine go_s (pc' := 105) rfl rfl rfl rfl ?_
      refine go_ret rfl rfl ?_
      have hms : mqpr 1 7 (I, Q, Z) = ((Z 2).1 1) := by
        show (if lv I 1 = true then row1 (I, Q, Z) 1 1 else -1) = ((Z 2).1 1)
        exact (if_pos u5).trans (congrFun (row1_l (v := 2) e6 (by decide)) 1)
      rw [hms]
      exact ⟨rfl, rfl⟩
    · skip
      refine go_s (pc' := 69) rfl rfl rfl rfl ?_
      refine go_s (pc' := 70) rfl rfl rfl rfl ?_
      refine go_callV (pc' := 71) rfl rfl rfl (Nat.le_of_ble_eq_true rfl) rfl (sm_o hS rfl) rfl rfl rfl (rt_at_1 hr hS (Or.inr (Or.inr e6)) (fun z => absurd (e6.symm.trans z) (by decide)) (by omega)) (fun r h9 q10 => ?_)
      obtain ⟨rfl, rfl⟩ := q10
      rw [show rwi (jn I K) 1 = 3 by unfold rwi pn; rw [show (jn I K) 11 1 = 3 from e6]; rfl]
      show am_Go _ _ _ _ 71 _ [.int 1272] _ _
      refine go_s (pc' := 72) (lo' := [some (.ref 62), some (.int 1), some (.int 7), some (.int 1272)]) rfl rfl rfl rfl ?_
      refine go_s (pc' := 73) rfl rfl rfl rfl ?_
      refine go_ifP (t' := 106) (pc' := 74) rfl rfl rfl (fun (c : (1 : Int32) ≤ 0) => absurd c (by decide)) (fun _ => ?_)
      refine go_s (pc' := 75) rfl rfl rfl rfl ?_
      refine go_s (pc' := 76) (st' := [.int 6, .int 7]) rfl rfl rfl rfl ?_
      refine go_icmpP (t' := 84) (pc' := 77) rfl rfl rfl (fun _ => ?_) (fun (c : ¬ (¬ (7 : Int32) = 6)) => absurd (by decide) c)
      refine go_s (pc' := 85) rfl rfl rfl rfl ?_
      refine go_s (pc' := 86) (st' := [.int 7, .int 7]) rfl rfl rfl rfl ?_
      refine go_icmpP (t' := 94) (pc' := 87) rfl rfl rfl (fun (c : ¬ (7 : Int32) = 7) => absurd c (by decide)) (fun _ => ?_)
      refine go_s (pc' := 88) rfl rfl rfl rfl ?_
      refine go_sget (pc' := 89) (v := .ref 77) hS rfl rfl rfl (by decide) rfl rfl ?_
      refine go_s (pc' := 90) rfl rfl rfl rfl ?_
      refine go_s (pc' := 91) (st' := [.int 1, .int 1272, .ref 77]) rfl rfl rfl rfl ?_
      refine go_s (pc' := 92) (st' := [.int 1273, .ref 77]) rfl rfl rfl rfl ?_
      refine go_sald (pc' := 93) (q := 1273) (v := .int ((Z 3).1 1)) hS rfl (tr_as hr (by omega)) rfl rfl (by decide) (congrArg Value.int (RR_t hU.2.1 (i := 3) (by decide) (by decide) 1 (by decide))) rfl ?_
      refine go_s (pc' := 105) rfl rfl rfl rfl ?_
      refine go_ret rfl rfl ?_
      have hms : mqpr 1 7 (I, Q, Z) = ((Z 3).1 1) := by
        show (if lv I 1 = true then row1 (I, Q, Z) 1 1 else -1) = ((Z 3).1 1)
        exact (if_pos u5).trans (congrFun (row1_l (v := 3) e6 (by decide)) 1)
      rw [hms]
      exact ⟨rfl, rfl⟩
theorem ra_pr_1_8 {w : Nat → Bool} {d B R : Nat} {h : am_Hp} {I : sm_I} {Q : mQ} {Z : mZ} (hA : RA w B R [] true h (I, Q, Z)) (hR : R + 0 < 40000) (hpk : ∀ k, k < 3 → prk I k) (hbok : ∀ r, r < 2 → bok (Z r)) (hd : 3 ≤ d) : am_Ev (am_prog w) d 186 [.ref 62, .int 1, .int 8] h (fun r h' => r = some (.int (mqpr 1 8 (I, Q, Z))) ∧ h' = h) := by
  obtain ⟨K, Y, am, ln, hS, hU⟩ := RA_u.mp hA
  change sm (tbr am (13 * ln) 77 5088) h (jn I K) Y at hS
  obtain ⟨hW, hWm, -, -, hr, -⟩ := id hU.1
  have hln := RU_ln hU (by omega)
  obtain ⟨d, rfl⟩ : ∃ e, d = e + 1 := ⟨d - 1, by omega⟩
  refine ev_go rfl (Nat.le_of_ble_eq_true rfl) rfl ?_
  have hp0 : prk I 0 := hpk 0 (by decide)
  have hp1 : prk I 1 := hpk 1 (by decide)
  have hp2 : prk I 2 := hpk 2 (by decide)
  refine go_s (pc' := 1) rfl rfl rfl rfl ?_
  refine go_s (pc' := 2) (st' := [.int 0, .int 1]) rfl rfl rfl rfl ?_
  refine go_s (pc' := 3) (st' := [.int 2, .int 0, .int 1]) rfl rfl rfl rfl ?_
  refine go_callS (pc' := 4) rfl rfl rfl (Nat.le_of_ble_eq_true rfl) rfl rfl rfl (rt_within_t (q := 1) (n := 2) (by decide) (by decide) (by omega)) (fun r h1 q2 => ?_)
  obtain ⟨rfl, rfl⟩ := q2
  refine go_ifP (t' := 7) (pc' := 5) rfl rfl rfl (fun _ => ?_) (fun (c : ¬ (¬ (1 : Int32) = 0)) => absurd (by decide) c)
  refine go_s (pc' := 8) rfl rfl rfl rfl ?_
  refine go_ifP (t' := 14) (pc' := 9) rfl rfl rfl (fun _ => ?_) (fun (c : ¬ (¬ (8 : Int32) = 0)) => absurd (by decide) c)
  refine go_s (pc' := 15) rfl rfl rfl rfl ?_
  refine go_s (pc' := 16) (st' := [.int 1, .int 8]) rfl rfl rfl rfl ?_
  refine go_icmpP (t' := 22) (pc' := 17) rfl rfl rfl (fun _ => ?_) (fun (c : ¬ (¬ (8 : Int32) = 1)) => absurd (by decide) c)
  refine go_s (pc' := 23) rfl rfl rfl rfl ?_
  refine go_s (pc' := 24) (st' := [.int 2, .int 8]) rfl rfl rfl rfl ?_
  refine go_icmpP (t' := 34) (pc' := 25) rfl rfl rfl (fun _ => ?_) (fun (c : ¬ (¬ (8 : Int32) = 2)) => absurd (by decide) c)
  refine go_s (pc' := 35) rfl rfl rfl rfl ?_
  refine go_s (pc' := 36) (st' := [.int 4, .int 8]) rfl rfl rfl rfl ?_
  refine go_icmpP (t' := 42) (pc' := 37) rfl rfl rfl (fun _ => ?_) (fun (c : ¬ (¬ (8 : Int32) = 4)) => absurd (by decide) c)
  refine go_s (pc' := 43) rfl rfl rfl rfl ?_
  refine go_ifP (t' := 54) (pc' := 44) rfl rfl rfl (fun (c : (1 : Int32) ≤ 0) => absurd c (by decide)) (fun _ => ?_)
  refine go_s (pc' := 45) rfl rfl rfl rfl ?_
  refine go_s (pc' := 46) (st' := [.int 5, .int 8]) rfl rfl rfl rfl ?_
  refine go_icmpP (t' := 54) (pc' := 47) rfl rfl rfl (fun _ => ?_) (fun (c : ¬ (¬ (8 : Int32) = 5)) => absurd (by decide) c)
  refine go_s (pc' := 55) rfl rfl rfl rfl ?_
  refine go_s (pc' := 56) rfl rfl rfl rfl ?_
  refine go_callV (pc' := 57) rfl rfl rfl (Nat.le_of_ble_eq_true rfl) rfl (sm_o hS rfl) rfl rfl rfl (rt_lives_1 hr hS hp1 (by omega)) (fun r h3 q4 => ?_)
  obtain ⟨rfl, rfl⟩ := q4
  rw [show lv (jn I K) 1 = lv I 1 from rfl]
  cases u5 : lv I 1
  · skip
    show am_Go _ _ _ _ 57 _ [.int 0] _ _
    refine go_ifP (t' := 60) (pc' := 58) rfl rfl rfl (fun (c : ¬ (0 : Int32) = 0) => absurd c (by decide)) (fun _ => ?_)
    refine go_s (pc' := 59) (st' := [.int (-1)]) rfl rfl rfl rfl ?_
    refine go_ret rfl rfl ?_
    have hms : mqpr 1 8 (I, Q, Z) = (-1) := by
      show mqtm 0 8 (I, Q, Z) = -1
      show (if lv I 1 = true then _ else (-1 : Int32)) = -1
      exact (if_neg (by rw [u5]; decide))
    rw [hms]
    exact ⟨rfl, rfl⟩
  · skip
    show am_Go _ _ _ _ 57 _ [.int 1] _ _
    refine go_ifP (t' := 60) (pc' := 58) rfl rfl rfl (fun _ => ?_) (fun (c : ¬ (¬ (1 : Int32) = 0)) => absurd (by decide) c)
    refine go_s (pc' := 61) rfl rfl rfl rfl ?_
    refine go_s (pc' := 62) (st' := [.int 3, .int 8]) rfl rfl rfl rfl ?_
    refine go_icmpP (t' := 68) (pc' := 63) rfl rfl rfl (fun _ => ?_) (fun (c : ¬ (¬ (8 : Int32) = 3)) => absurd (by decide) c)
    rcases (id hp1) with e6 | e6 | e6
    · skip
      exact absurd e6 (lv_up u5).1
    · skip
      refine go_s (pc' := 69) rfl rfl rfl rfl ?_
      refine go_s (pc' := 70) rfl rfl rfl rfl ?_
      refine go_callV (pc' := 71) rfl rfl rfl (Nat.le_of_ble_eq_true rfl) rfl (sm_o hS rfl) rfl rfl rfl (rt_at_1 hr hS (Or.inr (Or.inl e6)) (fun z => absurd (e6.symm.trans z) (by decide)) (by omega)) (fun r h7 q8 => ?_)
      obtain ⟨rfl, rfl⟩ := q8
      rw [show rwi (jn I K) 1 = 2 by unfold rwi pn; rw [show (jn I K) 11 1 = 2 from e6]; rfl]
      show am_Go _ _ _ _ 71 _ [.int 848] _ _
      refine go_s (pc' := 72) (lo' := [some (.ref 62), some (.int 1), some (.int 8), some (.int 848)]) rfl rfl rfl rfl ?_
      refine go_s (pc' := 73) rfl rfl rfl rfl ?_
      refine go_ifP (t' := 106) (pc' := 74) rfl rfl rfl (fun (c : (1 : Int32) ≤ 0) => absurd c (by decide)) (fun _ => ?_)
      refine go_s (pc' := 75) rfl rfl rfl rfl ?_
      refine go_s (pc' := 76) (st' := [.int 6, .int 8]) rfl rfl rfl rfl ?_
      refine go_icmpP (t' := 84) (pc' := 77) rfl rfl rfl (fun _ => ?_) (fun (c : ¬ (¬ (8 : Int32) = 6)) => absurd (by decide) c)
      refine go_s (pc' := 85) rfl rfl rfl rfl ?_
      refine go_s (pc' := 86) (st' := [.int 7, .int 8]) rfl rfl rfl rfl ?_
      refine go_icmpP (t' := 94) (pc' := 87) rfl rfl rfl (fun _ => ?_) (fun (c : ¬ (¬ (8 : Int32) = 7)) => absurd (by decide) c)
      refine go_s (pc' := 95) rfl rfl rfl rfl ?_
      refine go_s (pc' := 96) (st' := [.int 8, .int 8]) rfl rfl rfl rfl ?_
      refine go_icmpP (t' := 104) (pc' := 97) rfl rfl rfl (fun (c : ¬ (8 : Int32) = 8) => absurd c (by decide)) (fun _ => ?_)
      refine go_s (pc' := 98) rfl rfl rfl rfl ?_
      refine go_sget (pc' := 99) (v := .ref 77) hS rfl rfl rfl (by decide) rfl rfl ?_
      refine go_s (pc' := 100) rfl rfl rfl rfl ?_
      refine go_s (pc' := 101) (st' := [.int 5, .int 848, .ref 77]) rfl rfl rfl rfl ?_
      refine go_s (pc' := 102) (st' := [.int 853, .ref 77]) rfl rfl rfl rfl ?_
      refine go_sald (pc' := 103) (q := 853) (v := .int ((Z 2).1 5)) hS rfl (tr_as hr (by omega)) rfl rfl (by decide) (congrArg Value.int (RR_t hU.2.1 (i := 2) (by decide) (by decide) 5 (by decide))) rfl ?_
      refine go_s (pc' := 105) rfl rfl rfl rfl ?_
      refine go_ret rfl rfl ?_
      have hms : mqpr 1 8 (I, Q, Z) = ((Z 2).1 5) := by
        show (if lv I 1 = true then row1 (I, Q, Z) 1 5 else -1) = ((Z 2).1 5)
        exact (if_pos u5).trans (congrFun (row1_l (v := 2) e6 (by decide)) 5)
      rw [hms]
      exact ⟨rfl, rfl⟩
    · skip
      refine go_s (pc' := 69) rfl rfl rfl rfl ?_
      refine go_s (pc' := 70) rfl rfl rfl rfl ?_
      refine go_callV (pc' := 71) rfl rfl rfl (Nat.le_of_ble_eq_true rfl) rfl (sm_o hS rfl) rfl rfl rfl (rt_at_1 hr hS (Or.inr (Or.inr e6)) (fun z => absurd (e6.symm.trans z) (by decide)) (by omega)) (fun r h9 q10 => ?_)
      obtain ⟨rfl, rfl⟩ := q10
      rw [show rwi (jn I K) 1 = 3 by unfold rwi pn; rw [show (jn I K) 11 1 = 3 from e6]; rfl]
      show am_Go _ _ _ _ 71 _ [.int 1272] _ _
      refine go_s (pc' := 72) (lo' := [some (.ref 62), some (.int 1), some (.int 8), some (.int 1272)]) rfl rfl rfl rfl ?_
      refine go_s (pc' := 73) rfl rfl rfl rfl ?_
      refine go_ifP (t' := 106) (pc' := 74) rfl rfl rfl (fun (c : (1 : Int32) ≤ 0) => absurd c (by decide)) (fun _ => ?_)
      refine go_s (pc' := 75) rfl rfl rfl rfl ?_
      refine go_s (pc' := 76) (st' := [.int 6, .int 8]) rfl rfl rfl rfl ?_
      refine go_icmpP (t' := 84) (pc' := 77) rfl rfl rfl (fun _ => ?_) (fun (c : ¬ (¬ (8 : Int32) = 6)) => absurd (by decide) c)
      refine go_s (pc' := 85) rfl rfl rfl rfl ?_
      refine go_s (pc' := 86) (st' := [.int 7, .int 8]) rfl rfl rfl rfl ?_
      refine go_icmpP (t' := 94) (pc' := 87) rfl rfl rfl (fun _ => ?_) (fun (c : ¬ (¬ (8 : Int32) = 7)) => absurd (by decide) c)
      refine go_s (pc' := 95) rfl rfl rfl rfl ?_
      refine go_s (pc' := 96) (st' := [.int 8, .int 8]) rfl rfl rfl rfl ?_
      refine go_icmpP (t' := 104) (pc' := 97) rfl rfl rfl (fun (c : ¬ (8 : Int32) = 8) => absurd c (by decide)) (fun _ => ?_)
      refine go_s (pc' := 98) rfl rfl rfl rfl ?_
      refine go_sget (pc' := 99) (v := .ref 77) hS rfl rfl rfl (by decide) rfl rfl ?_
      refine go_s (pc' := 100) rfl rfl rfl rfl ?_
      refine go_s (pc' := 101) (st' := [.int 5, .int 1272, .ref 77]) rfl rfl rfl rfl ?_
      refine go_s (pc' := 102) (st' := [.int 1277, .ref 77]) rfl rfl rfl rfl ?_
      refine go_sald (pc' := 103) (q := 1277) (v := .int ((Z 3).1 5)) hS rfl (tr_as hr (by omega)) rfl rfl (by decide) (congrArg Value.int (RR_t hU.2.1 (i := 3) (by decide) (by decide) 5 (by decide))) rfl ?_
      refine go_s (pc' := 105) rfl rfl rfl rfl ?_
      refine go_ret rfl rfl ?_
      have hms : mqpr 1 8 (I, Q, Z) = ((Z 3).1 5) := by
        show (if lv I 1 = true then row1 (I, Q, Z) 1 5 else -1) = ((Z 3).1 5)
        exact (if_pos u5).trans (congrFun (row1_l (v := 3) e6 (by decide)) 5)
      rw [hms]
      exact ⟨rfl, rfl⟩
theorem ra_pr_1_9 {w : Nat → Bool} {d B R : Nat} {h : am_Hp} {I : sm_I} {Q : mQ} {Z : mZ} (hA : RA w B R [] true h (I, Q, Z)) (hR : R + 0 < 40000) (hpk : ∀ k, k < 3 → prk I k) (hbok : ∀ r, r < 2 → bok (Z r)) (hd : 3 ≤ d) : am_Ev (am_prog w) d 186 [.ref 62, .int 1, .int 9] h (fun r h' => r = some (.int (mqpr 1 9 (I, Q, Z))) ∧ h' = h) := by
  obtain ⟨K, Y, am, ln, hS, hU⟩ := RA_u.mp hA
  change sm (tbr am (13 * ln) 77 5088) h (jn I K) Y at hS
  obtain ⟨hW, hWm, -, -, hr, -⟩ := id hU.1
  have hln := RU_ln hU (by omega)
  obtain ⟨d, rfl⟩ : ∃ e, d = e + 1 := ⟨d - 1, by omega⟩
  refine ev_go rfl (Nat.le_of_ble_eq_true rfl) rfl ?_
  have hp0 : prk I 0 := hpk 0 (by decide)
  have hp1 : prk I 1 := hpk 1 (by decide)
  have hp2 : prk I 2 := hpk 2 (by decide)
  refine go_s (pc' := 1) rfl rfl rfl rfl ?_
  refine go_s (pc' := 2) (st' := [.int 0, .int 1]) rfl rfl rfl rfl ?_
  refine go_s (pc' := 3) (st' := [.int 2, .int 0, .int 1]) rfl rfl rfl rfl ?_
  refine go_callS (pc' := 4) rfl rfl rfl (Nat.le_of_ble_eq_true rfl) rfl rfl rfl (rt_within_t (q := 1) (n := 2) (by decide) (by decide) (by omega)) (fun r h1 q2 => ?_)
  obtain ⟨rfl, rfl⟩ := q2
  refine go_ifP (t' := 7) (pc' := 5) rfl rfl rfl (fun _ => ?_) (fun (c : ¬ (¬ (1 : Int32) = 0)) => absurd (by decide) c)
  refine go_s (pc' := 8) rfl rfl rfl rfl ?_
  refine go_ifP (t' := 14) (pc' := 9) rfl rfl rfl (fun _ => ?_) (fun (c : ¬ (¬ (9 : Int32) = 0)) => absurd (by decide) c)
  refine go_s (pc' := 15) rfl rfl rfl rfl ?_
  refine go_s (pc' := 16) (st' := [.int 1, .int 9]) rfl rfl rfl rfl ?_
  refine go_icmpP (t' := 22) (pc' := 17) rfl rfl rfl (fun _ => ?_) (fun (c : ¬ (¬ (9 : Int32) = 1)) => absurd (by decide) c)
  refine go_s (pc' := 23) rfl rfl rfl rfl ?_
  refine go_s (pc' := 24) (st' := [.int 2, .int 9]) rfl rfl rfl rfl ?_
  refine go_icmpP (t' := 34) (pc' := 25) rfl rfl rfl (fun _ => ?_) (fun (c : ¬ (¬ (9 : Int32) = 2)) => absurd (by decide) c)
  refine go_s (pc' := 35) rfl rfl rfl rfl ?_
  refine go_s (pc' := 36) (st' := [.int 4, .int 9]) rfl rfl rfl rfl ?_
  refine go_icmpP (t' := 42) (pc' := 37) rfl rfl rfl (fun _ => ?_) (fun (c : ¬ (¬ (9 : Int32) = 4)) => absurd (by decide) c)
  refine go_s (pc' := 43) rfl rfl rfl rfl ?_
  refine go_ifP (t' := 54) (pc' := 44) rfl rfl rfl (fun (c : (1 : Int32) ≤ 0) => absurd c (by decide)) (fun _ => ?_)
  refine go_s (pc' := 45) rfl rfl rfl rfl ?_
  refine go_s (pc' := 46) (st' := [.int 5, .int 9]) rfl rfl rfl rfl ?_
  refine go_icmpP (t' := 54) (pc' := 47) rfl rfl rfl (fun _ => ?_) (fun (c : ¬ (¬ (9 : Int32) = 5)) => absurd (by decide) c)
  refine go_s (pc' := 55) rfl rfl rfl rfl ?_
  refine go_s (pc' := 56) rfl rfl rfl rfl ?_
  refine go_callV (pc' := 57) rfl rfl rfl (Nat.le_of_ble_eq_true rfl) rfl (sm_o hS rfl) rfl rfl rfl (rt_lives_1 hr hS hp1 (by omega)) (fun r h3 q4 => ?_)
  obtain ⟨rfl, rfl⟩ := q4
  rw [show lv (jn I K) 1 = lv I 1 from rfl]
  cases u5 : lv I 1
  · skip
    show am_Go _ _ _ _ 57 _ [.int 0] _ _
    refine go_ifP (t' := 60) (pc' := 58) rfl rfl rfl (fun (c : ¬ (0 : Int32) = 0) => absurd c (by decide)) (fun _ => ?_)
    refine go_s (pc' := 59) (st' := [.int (-1)]) rfl rfl rfl rfl ?_
    refine go_ret rfl rfl ?_
    have hms : mqpr 1 9 (I, Q, Z) = (-1) := by
      unfold mqpr
      rw [if_neg (by decide), if_neg (by decide), if_neg (by decide), if_neg (by decide), if_neg (by decide), if_neg (by decide)]
      unfold mqtm
      rw [if_neg (by decide)]
      exact if_neg (by rw [show lv ((I, Q, Z) : mM).1 (1 + (1 - 1)) = false from u5]; decide)
    rw [hms]
    exact ⟨rfl, rfl⟩
  · skip
    show am_Go _ _ _ _ 57 _ [.int 1] _ _
    refine go_ifP (t' := 60) (pc' := 58) rfl rfl rfl (fun _ => ?_) (fun (c : ¬ (¬ (1 : Int32) = 0)) => absurd (by decide) c)
    refine go_s (pc' := 61) rfl rfl rfl rfl ?_
    refine go_s (pc' := 62) (st' := [.int 3, .int 9]) rfl rfl rfl rfl ?_
    refine go_icmpP (t' := 68) (pc' := 63) rfl rfl rfl (fun _ => ?_) (fun (c : ¬ (¬ (9 : Int32) = 3)) => absurd (by decide) c)
    rcases (id hp1) with e6 | e6 | e6
    · skip
      exact absurd e6 (lv_up u5).1
    · skip
      refine go_s (pc' := 69) rfl rfl rfl rfl ?_
      refine go_s (pc' := 70) rfl rfl rfl rfl ?_
      refine go_callV (pc' := 71) rfl rfl rfl (Nat.le_of_ble_eq_true rfl) rfl (sm_o hS rfl) rfl rfl rfl (rt_at_1 hr hS (Or.inr (Or.inl e6)) (fun z => absurd (e6.symm.trans z) (by decide)) (by omega)) (fun r h7 q8 => ?_)
      obtain ⟨rfl, rfl⟩ := q8
      rw [show rwi (jn I K) 1 = 2 by unfold rwi pn; rw [show (jn I K) 11 1 = 2 from e6]; rfl]
      show am_Go _ _ _ _ 71 _ [.int 848] _ _
      refine go_s (pc' := 72) (lo' := [some (.ref 62), some (.int 1), some (.int 9), some (.int 848)]) rfl rfl rfl rfl ?_
      refine go_s (pc' := 73) rfl rfl rfl rfl ?_
      refine go_ifP (t' := 106) (pc' := 74) rfl rfl rfl (fun (c : (1 : Int32) ≤ 0) => absurd c (by decide)) (fun _ => ?_)
      refine go_s (pc' := 75) rfl rfl rfl rfl ?_
      refine go_s (pc' := 76) (st' := [.int 6, .int 9]) rfl rfl rfl rfl ?_
      refine go_icmpP (t' := 84) (pc' := 77) rfl rfl rfl (fun _ => ?_) (fun (c : ¬ (¬ (9 : Int32) = 6)) => absurd (by decide) c)
      refine go_s (pc' := 85) rfl rfl rfl rfl ?_
      refine go_s (pc' := 86) (st' := [.int 7, .int 9]) rfl rfl rfl rfl ?_
      refine go_icmpP (t' := 94) (pc' := 87) rfl rfl rfl (fun _ => ?_) (fun (c : ¬ (¬ (9 : Int32) = 7)) => absurd (by decide) c)
      refine go_s (pc' := 95) rfl rfl rfl rfl ?_
      refine go_s (pc' := 96) (st' := [.int 8, .int 9]) rfl rfl rfl rfl ?_
      refine go_icmpP (t' := 104) (pc' := 97) rfl rfl rfl (fun _ => ?_) (fun (c : ¬ (¬ (9 : Int32) = 8)) => absurd (by decide) c)
      refine go_s (pc' := 105) (st' := [.int (-1)]) rfl rfl rfl rfl ?_
      refine go_ret rfl rfl ?_
      have hms : mqpr 1 9 (I, Q, Z) = (-1) := by
        unfold mqpr
        rw [if_neg (by decide), if_neg (by decide), if_neg (by decide), if_neg (by decide), if_neg (by decide), if_neg (by decide)]
        unfold mqtm
        rw [if_neg (by decide)]
        rw [if_pos (show lv ((I, Q, Z) : mM).1 (1 + (1 - 1)) = true from u5), if_neg (by decide), if_neg (by decide), if_neg (by decide)]
      rw [hms]
      exact ⟨rfl, rfl⟩
    · skip
      refine go_s (pc' := 69) rfl rfl rfl rfl ?_
      refine go_s (pc' := 70) rfl rfl rfl rfl ?_
      refine go_callV (pc' := 71) rfl rfl rfl (Nat.le_of_ble_eq_true rfl) rfl (sm_o hS rfl) rfl rfl rfl (rt_at_1 hr hS (Or.inr (Or.inr e6)) (fun z => absurd (e6.symm.trans z) (by decide)) (by omega)) (fun r h9 q10 => ?_)
      obtain ⟨rfl, rfl⟩ := q10
      rw [show rwi (jn I K) 1 = 3 by unfold rwi pn; rw [show (jn I K) 11 1 = 3 from e6]; rfl]
      show am_Go _ _ _ _ 71 _ [.int 1272] _ _
      refine go_s (pc' := 72) (lo' := [some (.ref 62), some (.int 1), some (.int 9), some (.int 1272)]) rfl rfl rfl rfl ?_
      refine go_s (pc' := 73) rfl rfl rfl rfl ?_
      refine go_ifP (t' := 106) (pc' := 74) rfl rfl rfl (fun (c : (1 : Int32) ≤ 0) => absurd c (by decide)) (fun _ => ?_)
      refine go_s (pc' := 75) rfl rfl rfl rfl ?_
      refine go_s (pc' := 76) (st' := [.int 6, .int 9]) rfl rfl rfl rfl ?_
      refine go_icmpP (t' := 84) (pc' := 77) rfl rfl rfl (fun _ => ?_) (fun (c : ¬ (¬ (9 : Int32) = 6)) => absurd (by decide) c)
      refine go_s (pc' := 85) rfl rfl rfl rfl ?_
      refine go_s (pc' := 86) (st' := [.int 7, .int 9]) rfl rfl rfl rfl ?_
      refine go_icmpP (t' := 94) (pc' := 87) rfl rfl rfl (fun _ => ?_) (fun (c : ¬ (¬ (9 : Int32) = 7)) => absurd (by decide) c)
      refine go_s (pc' := 95) rfl rfl rfl rfl ?_
      refine go_s (pc' := 96) (st' := [.int 8, .int 9]) rfl rfl rfl rfl ?_
      refine go_icmpP (t' := 104) (pc' := 97) rfl rfl rfl (fun _ => ?_) (fun (c : ¬ (¬ (9 : Int32) = 8)) => absurd (by decide) c)
      refine go_s (pc' := 105) (st' := [.int (-1)]) rfl rfl rfl rfl ?_
      refine go_ret rfl rfl ?_
      have hms : mqpr 1 9 (I, Q, Z) = (-1) := by
        unfold mqpr
        rw [if_neg (by decide), if_neg (by decide), if_neg (by decide), if_neg (by decide), if_neg (by decide), if_neg (by decide)]
        unfold mqtm
        rw [if_neg (by decide)]
        rw [if_pos (show lv ((I, Q, Z) : mM).1 (1 + (1 - 1)) = true from u5), if_neg (by decide), if_neg (by decide), if_neg (by decide)]
      rw [hms]
      exact ⟨rfl, rfl⟩
theorem ra_pr_1_10 {w : Nat → Bool} {d B R : Nat} {h : am_Hp} {I : sm_I} {Q : mQ} {Z : mZ} (hA : RA w B R [] true h (I, Q, Z)) (hR : R + 0 < 40000) (hpk : ∀ k, k < 3 → prk I k) (hbok : ∀ r, r < 2 → bok (Z r)) (hd : 3 ≤ d) : am_Ev (am_prog w) d 186 [.ref 62, .int 1, .int 10] h (fun r h' => r = some (.int (mqpr 1 10 (I, Q, Z))) ∧ h' = h) := by
  obtain ⟨K, Y, am, ln, hS, hU⟩ := RA_u.mp hA
  change sm (tbr am (13 * ln) 77 5088) h (jn I K) Y at hS
  obtain ⟨hW, hWm, -, -, hr, -⟩ := id hU.1
  have hln := RU_ln hU (by omega)
  obtain ⟨d, rfl⟩ : ∃ e, d = e + 1 := ⟨d - 1, by omega⟩
  refine ev_go rfl (Nat.le_of_ble_eq_true rfl) rfl ?_
  have hp0 : prk I 0 := hpk 0 (by decide)
  have hp1 : prk I 1 := hpk 1 (by decide)
  have hp2 : prk I 2 := hpk 2 (by decide)
  refine go_s (pc' := 1) rfl rfl rfl rfl ?_
  refine go_s (pc' := 2) (st' := [.int 0, .int 1]) rfl rfl rfl rfl ?_
  refine go_s (pc' := 3) (st' := [.int 2, .int 0, .int 1]) rfl rfl rfl rfl ?_
  refine go_callS (pc' := 4) rfl rfl rfl (Nat.le_of_ble_eq_true rfl) rfl rfl rfl (rt_within_t (q := 1) (n := 2) (by decide) (by decide) (by omega)) (fun r h1 q2 => ?_)
  obtain ⟨rfl, rfl⟩ := q2
  refine go_ifP (t' := 7) (pc' := 5) rfl rfl rfl (fun _ => ?_) (fun (c : ¬ (¬ (1 : Int32) = 0)) => absurd (by decide) c)
  refine go_s (pc' := 8) rfl rfl rfl rfl ?_
  refine go_ifP (t' := 14) (pc' := 9) rfl rfl rfl (fun _ => ?_) (fun (c : ¬ (¬ (10 : Int32) = 0)) => absurd (by decide) c)
  refine go_s (pc' := 15) rfl rfl rfl rfl ?_
  refine go_s (pc' := 16) (st' := [.int 1, .int 10]) rfl rfl rfl rfl ?_
  refine go_icmpP (t' := 22) (pc' := 17) rfl rfl rfl (fun _ => ?_) (fun (c : ¬ (¬ (10 : Int32) = 1)) => absurd (by decide) c)
  refine go_s (pc' := 23) rfl rfl rfl rfl ?_
  refine go_s (pc' := 24) (st' := [.int 2, .int 10]) rfl rfl rfl rfl ?_
  refine go_icmpP (t' := 34) (pc' := 25) rfl rfl rfl (fun _ => ?_) (fun (c : ¬ (¬ (10 : Int32) = 2)) => absurd (by decide) c)
  refine go_s (pc' := 35) rfl rfl rfl rfl ?_
  refine go_s (pc' := 36) (st' := [.int 4, .int 10]) rfl rfl rfl rfl ?_
  refine go_icmpP (t' := 42) (pc' := 37) rfl rfl rfl (fun _ => ?_) (fun (c : ¬ (¬ (10 : Int32) = 4)) => absurd (by decide) c)
  refine go_s (pc' := 43) rfl rfl rfl rfl ?_
  refine go_ifP (t' := 54) (pc' := 44) rfl rfl rfl (fun (c : (1 : Int32) ≤ 0) => absurd c (by decide)) (fun _ => ?_)
  refine go_s (pc' := 45) rfl rfl rfl rfl ?_
  refine go_s (pc' := 46) (st' := [.int 5, .int 10]) rfl rfl rfl rfl ?_
  refine go_icmpP (t' := 54) (pc' := 47) rfl rfl rfl (fun _ => ?_) (fun (c : ¬ (¬ (10 : Int32) = 5)) => absurd (by decide) c)
  refine go_s (pc' := 55) rfl rfl rfl rfl ?_
  refine go_s (pc' := 56) rfl rfl rfl rfl ?_
  refine go_callV (pc' := 57) rfl rfl rfl (Nat.le_of_ble_eq_true rfl) rfl (sm_o hS rfl) rfl rfl rfl (rt_lives_1 hr hS hp1 (by omega)) (fun r h3 q4 => ?_)
  obtain ⟨rfl, rfl⟩ := q4
  rw [show lv (jn I K) 1 = lv I 1 from rfl]
  cases u5 : lv I 1
  · skip
    show am_Go _ _ _ _ 57 _ [.int 0] _ _
    refine go_ifP (t' := 60) (pc' := 58) rfl rfl rfl (fun (c : ¬ (0 : Int32) = 0) => absurd c (by decide)) (fun _ => ?_)
    refine go_s (pc' := 59) (st' := [.int (-1)]) rfl rfl rfl rfl ?_
    refine go_ret rfl rfl ?_
    have hms : mqpr 1 10 (I, Q, Z) = (-1) := by
      unfold mqpr
      rw [if_neg (by decide), if_neg (by decide), if_neg (by decide), if_neg (by decide), if_neg (by decide), if_neg (by decide)]
      unfold mqtm
      rw [if_neg (by decide)]
      exact if_neg (by rw [show lv ((I, Q, Z) : mM).1 (1 + (1 - 1)) = false from u5]; decide)
    rw [hms]
    exact ⟨rfl, rfl⟩
  · skip
    show am_Go _ _ _ _ 57 _ [.int 1] _ _
    refine go_ifP (t' := 60) (pc' := 58) rfl rfl rfl (fun _ => ?_) (fun (c : ¬ (¬ (1 : Int32) = 0)) => absurd (by decide) c)
    refine go_s (pc' := 61) rfl rfl rfl rfl ?_
    refine go_s (pc' := 62) (st' := [.int 3, .int 10]) rfl rfl rfl rfl ?_
    refine go_icmpP (t' := 68) (pc' := 63) rfl rfl rfl (fun _ => ?_) (fun (c : ¬ (¬ (10 : Int32) = 3)) => absurd (by decide) c)
    rcases (id hp1) with e6 | e6 | e6
    · skip
      exact absurd e6 (lv_up u5).1
    · skip
      refine go_s (pc' := 69) rfl rfl rfl rfl ?_
      refine go_s (pc' := 70) rfl rfl rfl rfl ?_
      refine go_callV (pc' := 71) rfl rfl rfl (Nat.le_of_ble_eq_true rfl) rfl (sm_o hS rfl) rfl rfl rfl (rt_at_1 hr hS (Or.inr (Or.inl e6)) (fun z => absurd (e6.symm.trans z) (by decide)) (by omega)) (fun r h7 q8 => ?_)
      obtain ⟨rfl, rfl⟩ := q8
      rw [show rwi (jn I K) 1 = 2 by unfold rwi pn; rw [show (jn I K) 11 1 = 2 from e6]; rfl]
      show am_Go _ _ _ _ 71 _ [.int 848] _ _
      refine go_s (pc' := 72) (lo' := [some (.ref 62), some (.int 1), some (.int 10), some (.int 848)]) rfl rfl rfl rfl ?_
      refine go_s (pc' := 73) rfl rfl rfl rfl ?_
      refine go_ifP (t' := 106) (pc' := 74) rfl rfl rfl (fun (c : (1 : Int32) ≤ 0) => absurd c (by decide)) (fun _ => ?_)
      refine go_s (pc' := 75) rfl rfl rfl rfl ?_
      refine go_s (pc' := 76) (st' := [.int 6, .int 10]) rfl rfl rfl rfl ?_
      refine go_icmpP (t' := 84) (pc' := 77) rfl rfl rfl (fun _ => ?_) (fun (c : ¬ (¬ (10 : Int32) = 6)) => absurd (by decide) c)
      refine go_s (pc' := 85) rfl rfl rfl rfl ?_
      refine go_s (pc' := 86) (st' := [.int 7, .int 10]) rfl rfl rfl rfl ?_
      refine go_icmpP (t' := 94) (pc' := 87) rfl rfl rfl (fun _ => ?_) (fun (c : ¬ (¬ (10 : Int32) = 7)) => absurd (by decide) c)
      refine go_s (pc' := 95) rfl rfl rfl rfl ?_
      refine go_s (pc' := 96) (st' := [.int 8, .int 10]) rfl rfl rfl rfl ?_
      refine go_icmpP (t' := 104) (pc' := 97) rfl rfl rfl (fun _ => ?_) (fun (c : ¬ (¬ (10 : Int32) = 8)) => absurd (by decide) c)
      refine go_s (pc' := 105) (st' := [.int (-1)]) rfl rfl rfl rfl ?_
      refine go_ret rfl rfl ?_
      have hms : mqpr 1 10 (I, Q, Z) = (-1) := by
        unfold mqpr
        rw [if_neg (by decide), if_neg (by decide), if_neg (by decide), if_neg (by decide), if_neg (by decide), if_neg (by decide)]
        unfold mqtm
        rw [if_neg (by decide)]
        rw [if_pos (show lv ((I, Q, Z) : mM).1 (1 + (1 - 1)) = true from u5), if_neg (by decide), if_neg (by decide), if_neg (by decide)]
      rw [hms]
      exact ⟨rfl, rfl⟩
    · skip
      refine go_s (pc' := 69) rfl rfl rfl rfl ?_
      refine go_s (pc' := 70) rfl rfl rfl rfl ?_
      refine go_callV (pc' := 71) rfl rfl rfl (Nat.le_of_ble_eq_true rfl) rfl (sm_o hS rfl) rfl rfl rfl (rt_at_1 hr hS (Or.inr (Or.inr e6)) (fun z => absurd (e6.symm.trans z) (by decide)) (by omega)) (fun r h9 q10 => ?_)
      obtain ⟨rfl, rfl⟩ := q10
      rw [show rwi (jn I K) 1 = 3 by unfold rwi pn; rw [show (jn I K) 11 1 = 3 from e6]; rfl]
      show am_Go _ _ _ _ 71 _ [.int 1272] _ _
      refine go_s (pc' := 72) (lo' := [some (.ref 62), some (.int 1), some (.int 10), some (.int 1272)]) rfl rfl rfl rfl ?_
      refine go_s (pc' := 73) rfl rfl rfl rfl ?_
      refine go_ifP (t' := 106) (pc' := 74) rfl rfl rfl (fun (c : (1 : Int32) ≤ 0) => absurd c (by decide)) (fun _ => ?_)
      refine go_s (pc' := 75) rfl rfl rfl rfl ?_
      refine go_s (pc' := 76) (st' := [.int 6, .int 10]) rfl rfl rfl rfl ?_
      refine go_icmpP (t' := 84) (pc' := 77) rfl rfl rfl (fun _ => ?_) (fun (c : ¬ (¬ (10 : Int32) = 6)) => absurd (by decide) c)
      refine go_s (pc' := 85) rfl rfl rfl rfl ?_
      refine go_s (pc' := 86) (st' := [.int 7, .int 10]) rfl rfl rfl rfl ?_
      refine go_icmpP (t' := 94) (pc' := 87) rfl rfl rfl (fun _ => ?_) (fun (c : ¬ (¬ (10 : Int32) = 7)) => absurd (by decide) c)
      refine go_s (pc' := 95) rfl rfl rfl rfl ?_
      refine go_s (pc' := 96) (st' := [.int 8, .int 10]) rfl rfl rfl rfl ?_
      refine go_icmpP (t' := 104) (pc' := 97) rfl rfl rfl (fun _ => ?_) (fun (c : ¬ (¬ (10 : Int32) = 8)) => absurd (by decide) c)
      refine go_s (pc' := 105) (st' := [.int (-1)]) rfl rfl rfl rfl ?_
      refine go_ret rfl rfl ?_
      have hms : mqpr 1 10 (I, Q, Z) = (-1) := by
        unfold mqpr
        rw [if_neg (by decide), if_neg (by decide), if_neg (by decide), if_neg (by decide), if_neg (by decide), if_neg (by decide)]
        unfold mqtm
        rw [if_neg (by decide)]
        rw [if_pos (show lv ((I, Q, Z) : mM).1 (1 + (1 - 1)) = true from u5), if_neg (by decide), if_neg (by decide), if_neg (by decide)]
      rw [hms]
      exact ⟨rfl, rfl⟩
theorem ra_pr_1_n {w : Nat → Bool} {d B R : Nat} {h : am_Hp} {I : sm_I} {Q : mQ} {Z : mZ} (hA : RA w B R [] true h (I, Q, Z)) (hR : R + 0 < 40000) (hpk : ∀ k, k < 3 → prk I k) (hbok : ∀ r, r < 2 → bok (Z r)) {x : Int32} (x0 : ¬ x = 0) (x1 : ¬ x = 1) (x2 : ¬ x = 2) (x3 : ¬ x = 3) (x4 : ¬ x = 4) (x5 : ¬ x = 5) (x6 : ¬ x = 6) (x7 : ¬ x = 7) (x8 : ¬ x = 8) (x9 : ¬ x = 9) (x10 : ¬ x = 10) (hd : 3 ≤ d) : am_Ev (am_prog w) d 186 [.ref 62, .int 1, .int x] h (fun r h' => r = some (.int (mqpr 1 x (I, Q, Z))) ∧ h' = h) := by
  obtain ⟨K, Y, am, ln, hS, hU⟩ := RA_u.mp hA
  change sm (tbr am (13 * ln) 77 5088) h (jn I K) Y at hS
  obtain ⟨hW, hWm, -, -, hr, -⟩ := id hU.1
  have hln := RU_ln hU (by omega)
  obtain ⟨d, rfl⟩ : ∃ e, d = e + 1 := ⟨d - 1, by omega⟩
  refine ev_go rfl (Nat.le_of_ble_eq_true rfl) rfl ?_
  have hp0 : prk I 0 := hpk 0 (by decide)
  have hp1 : prk I 1 := hpk 1 (by decide)
  have hp2 : prk I 2 := hpk 2 (by decide)
  refine go_s (pc' := 1) rfl rfl rfl rfl ?_
  refine go_s (pc' := 2) (st' := [.int 0, .int 1]) rfl rfl rfl rfl ?_
  refine go_s (pc' := 3) (st' := [.int 2, .int 0, .int 1]) rfl rfl rfl rfl ?_
  refine go_callS (pc' := 4) rfl rfl rfl (Nat.le_of_ble_eq_true rfl) rfl rfl rfl (rt_within_t (q := 1) (n := 2) (by decide) (by decide) (by omega)) (fun r h1 q2 => ?_)
  obtain ⟨rfl, rfl⟩ := q2
  refine go_ifP (t' := 7) (pc' := 5) rfl rfl rfl (fun _ => ?_) (fun (c : ¬ (¬ (1 : Int32) = 0)) => absurd (by decide) c)
  refine go_s (pc' := 8) rfl rfl rfl rfl ?_
  refine go_ifP (t' := 14) (pc' := 9) rfl rfl rfl (fun _ => ?_) (fun (c : ¬ (¬ x = 0)) => absurd x0 c)
  refine go_s (pc' := 15) rfl rfl rfl rfl ?_
  refine go_s (pc' := 16) (st' := [.int 1, .int x]) rfl rfl rfl rfl ?_
  refine go_icmpP (t' := 22) (pc' := 17) rfl rfl rfl (fun _ => ?_) (fun (c : ¬ (¬ x = 1)) => absurd x1 c)
  refine go_s (pc' := 23) rfl rfl rfl rfl ?_
  refine go_s (pc' := 24) (st' := [.int 2, .int x]) rfl rfl rfl rfl ?_
  refine go_icmpP (t' := 34) (pc' := 25) rfl rfl rfl (fun _ => ?_) (fun (c : ¬ (¬ x = 2)) => absurd x2 c)
  refine go_s (pc' := 35) rfl rfl rfl rfl ?_
  refine go_s (pc' := 36) (st' := [.int 4, .int x]) rfl rfl rfl rfl ?_
  refine go_icmpP (t' := 42) (pc' := 37) rfl rfl rfl (fun _ => ?_) (fun (c : ¬ (¬ x = 4)) => absurd x4 c)
  refine go_s (pc' := 43) rfl rfl rfl rfl ?_
  refine go_ifP (t' := 54) (pc' := 44) rfl rfl rfl (fun (c : (1 : Int32) ≤ 0) => absurd c (by decide)) (fun _ => ?_)
  refine go_s (pc' := 45) rfl rfl rfl rfl ?_
  refine go_s (pc' := 46) (st' := [.int 5, .int x]) rfl rfl rfl rfl ?_
  refine go_icmpP (t' := 54) (pc' := 47) rfl rfl rfl (fun _ => ?_) (fun (c : ¬ (¬ x = 5)) => absurd x5 c)
  refine go_s (pc' := 55) rfl rfl rfl rfl ?_
  refine go_s (pc' := 56) rfl rfl rfl rfl ?_
  refine go_callV (pc' := 57) rfl rfl rfl (Nat.le_of_ble_eq_true rfl) rfl (sm_o hS rfl) rfl rfl rfl (rt_lives_1 hr hS hp1 (by omega)) (fun r h3 q4 => ?_)
  obtain ⟨rfl, rfl⟩ := q4
  rw [show lv (jn I K) 1 = lv I 1 from rfl]
  cases u5 : lv I 1
  · skip
    show am_Go _ _ _ _ 57 _ [.int 0] _ _
    refine go_ifP (t' := 60) (pc' := 58) rfl rfl rfl (fun (c : ¬ (0 : Int32) = 0) => absurd c (by decide)) (fun _ => ?_)
    refine go_s (pc' := 59) (st' := [.int (-1)]) rfl rfl rfl rfl ?_
    refine go_ret rfl rfl ?_
    have hms : mqpr 1 x (I, Q, Z) = (-1) := by
      unfold mqpr
      rw [if_neg x0, if_neg x1, if_neg x2, if_neg x3, if_neg x4, if_neg (by decide)]
      unfold mqtm
      rw [if_neg x5]
      exact if_neg (by rw [show lv ((I, Q, Z) : mM).1 (1 + (1 - 1)) = false from u5]; decide)
    rw [hms]
    exact ⟨rfl, rfl⟩
  · skip
    show am_Go _ _ _ _ 57 _ [.int 1] _ _
    refine go_ifP (t' := 60) (pc' := 58) rfl rfl rfl (fun _ => ?_) (fun (c : ¬ (¬ (1 : Int32) = 0)) => absurd (by decide) c)
    refine go_s (pc' := 61) rfl rfl rfl rfl ?_
    refine go_s (pc' := 62) (st' := [.int 3, .int x]) rfl rfl rfl rfl ?_
    refine go_icmpP (t' := 68) (pc' := 63) rfl rfl rfl (fun _ => ?_) (fun (c : ¬ (¬ x = 3)) => absurd x3 c)
    rcases (id hp1) with e6 | e6 | e6
    · skip
      exact absurd e6 (lv_up u5).1
    · skip
      refine go_s (pc' := 69) rfl rfl rfl rfl ?_
      refine go_s (pc' := 70) rfl rfl rfl rfl ?_
      refine go_callV (pc' := 71) rfl rfl rfl (Nat.le_of_ble_eq_true rfl) rfl (sm_o hS rfl) rfl rfl rfl (rt_at_1 hr hS (Or.inr (Or.inl e6)) (fun z => absurd (e6.symm.trans z) (by decide)) (by omega)) (fun r h7 q8 => ?_)
      obtain ⟨rfl, rfl⟩ := q8
      rw [show rwi (jn I K) 1 = 2 by unfold rwi pn; rw [show (jn I K) 11 1 = 2 from e6]; rfl]
      show am_Go _ _ _ _ 71 _ [.int 848] _ _
      refine go_s (pc' := 72) (lo' := [some (.ref 62), some (.int 1), some (.int x), some (.int 848)]) rfl rfl rfl rfl ?_
      refine go_s (pc' := 73) rfl rfl rfl rfl ?_
      refine go_ifP (t' := 106) (pc' := 74) rfl rfl rfl (fun (c : (1 : Int32) ≤ 0) => absurd c (by decide)) (fun _ => ?_)
      refine go_s (pc' := 75) rfl rfl rfl rfl ?_
      refine go_s (pc' := 76) (st' := [.int 6, .int x]) rfl rfl rfl rfl ?_
      refine go_icmpP (t' := 84) (pc' := 77) rfl rfl rfl (fun _ => ?_) (fun (c : ¬ (¬ x = 6)) => absurd x6 c)
      refine go_s (pc' := 85) rfl rfl rfl rfl ?_
      refine go_s (pc' := 86) (st' := [.int 7, .int x]) rfl rfl rfl rfl ?_
      refine go_icmpP (t' := 94) (pc' := 87) rfl rfl rfl (fun _ => ?_) (fun (c : ¬ (¬ x = 7)) => absurd x7 c)
      refine go_s (pc' := 95) rfl rfl rfl rfl ?_
      refine go_s (pc' := 96) (st' := [.int 8, .int x]) rfl rfl rfl rfl ?_
      refine go_icmpP (t' := 104) (pc' := 97) rfl rfl rfl (fun _ => ?_) (fun (c : ¬ (¬ x = 8)) => absurd x8 c)
      refine go_s (pc' := 105) (st' := [.int (-1)]) rfl rfl rfl rfl ?_
      refine go_ret rfl rfl ?_
      have hms : mqpr 1 x (I, Q, Z) = (-1) := by
        unfold mqpr
        rw [if_neg x0, if_neg x1, if_neg x2, if_neg x3, if_neg x4, if_neg (by decide)]
        unfold mqtm
        rw [if_neg x5]
        rw [if_pos (show lv ((I, Q, Z) : mM).1 (1 + (1 - 1)) = true from u5), if_neg x6, if_neg x7, if_neg x8]
      rw [hms]
      exact ⟨rfl, rfl⟩
    · skip
      refine go_s (pc' := 69) rfl rfl rfl rfl ?_
      refine go_s (pc' := 70) rfl rfl rfl rfl ?_
      refine go_callV (pc' := 71) rfl rfl rfl (Nat.le_of_ble_eq_true rfl) rfl (sm_o hS rfl) rfl rfl rfl (rt_at_1 hr hS (Or.inr (Or.inr e6)) (fun z => absurd (e6.symm.trans z) (by decide)) (by omega)) (fun r h9 q10 => ?_)
      obtain ⟨rfl, rfl⟩ := q10
      rw [show rwi (jn I K) 1 = 3 by unfold rwi pn; rw [show (jn I K) 11 1 = 3 from e6]; rfl]
      show am_Go _ _ _ _ 71 _ [.int 1272] _ _
      refine go_s (pc' := 72) (lo' := [some (.ref 62), some (.int 1), some (.int x), some (.int 1272)]) rfl rfl rfl rfl ?_
      refine go_s (pc' := 73) rfl rfl rfl rfl ?_
      refine go_ifP (t' := 106) (pc' := 74) rfl rfl rfl (fun (c : (1 : Int32) ≤ 0) => absurd c (by decide)) (fun _ => ?_)
      refine go_s (pc' := 75) rfl rfl rfl rfl ?_
      refine go_s (pc' := 76) (st' := [.int 6, .int x]) rfl rfl rfl rfl ?_
      refine go_icmpP (t' := 84) (pc' := 77) rfl rfl rfl (fun _ => ?_) (fun (c : ¬ (¬ x = 6)) => absurd x6 c)
      refine go_s (pc' := 85) rfl rfl rfl rfl ?_
      refine go_s (pc' := 86) (st' := [.int 7, .int x]) rfl rfl rfl rfl ?_
      refine go_icmpP (t' := 94) (pc' := 87) rfl rfl rfl (fun _ => ?_) (fun (c : ¬ (¬ x = 7)) => absurd x7 c)
      refine go_s (pc' := 95) rfl rfl rfl rfl ?_
      refine go_s (pc' := 96) (st' := [.int 8, .int x]) rfl rfl rfl rfl ?_
      refine go_icmpP (t' := 104) (pc' := 97) rfl rfl rfl (fun _ => ?_) (fun (c : ¬ (¬ x = 8)) => absurd x8 c)
      refine go_s (pc' := 105) (st' := [.int (-1)]) rfl rfl rfl rfl ?_
      refine go_ret rfl rfl ?_
      have hms : mqpr 1 x (I, Q, Z) = (-1) := by
        unfold mqpr
        rw [if_neg x0, if_neg x1, if_neg x2, if_neg x3, if_neg x4, if_neg (by decide)]
        unfold mqtm
        rw [if_neg x5]
        rw [if_pos (show lv ((I, Q, Z) : mM).1 (1 + (1 - 1)) = true from u5), if_neg x6, if_neg x7, if_neg x8]
      rw [hms]
      exact ⟨rfl, rfl⟩
theorem ra_pr_1 {w : Nat → Bool} {d B R : Nat} {h : am_Hp} {I : sm_I} {Q : mQ} {Z : mZ} (hA : RA w B R [] true h (I, Q, Z)) (hR : R + 0 < 40000) (hpk : ∀ k, k < 3 → prk I k) (hbok : ∀ r, r < 2 → bok (Z r)) {x : Int32} (hd : 3 ≤ d) : am_Ev (am_prog w) d 186 [.ref 62, .int 1, .int x] h (fun r h' => r = some (.int (mqpr 1 x (I, Q, Z))) ∧ h' = h) := by
  by_cases x0 : x = 0
  · subst x0; exact ra_pr_1_0 hA hR hpk hbok hd
  by_cases x1 : x = 1
  · subst x1; exact ra_pr_1_1 hA hR hpk hbok hd
  by_cases x2 : x = 2
  · subst x2; exact ra_pr_1_2 hA hR hpk hbok hd
  by_cases x3 : x = 3
  · subst x3; exact ra_pr_1_3 hA hR hpk hbok hd
  by_cases x4 : x = 4
  · subst x4; exact ra_pr_1_4 hA hR hpk hbok hd
  by_cases x5 : x = 5
  · subst x5; exact ra_pr_1_5 hA hR hpk hbok hd
  by_cases x6 : x = 6
  · subst x6; exact ra_pr_1_6 hA hR hpk hbok hd
  by_cases x7 : x = 7
  · subst x7; exact ra_pr_1_7 hA hR hpk hbok hd
  by_cases x8 : x = 8
  · subst x8; exact ra_pr_1_8 hA hR hpk hbok hd
  by_cases x9 : x = 9
  · subst x9; exact ra_pr_1_9 hA hR hpk hbok hd
  by_cases x10 : x = 10
  · subst x10; exact ra_pr_1_10 hA hR hpk hbok hd
  exact ra_pr_1_n hA hR hpk hbok x0 x1 x2 x3 x4 x5 x6 x7 x8 x9 x10 hd
theorem ra_pr_2_0 {w : Nat → Bool} {d B R : Nat} {h : am_Hp} {I : sm_I} {Q : mQ} {Z : mZ} (hA : RA w B R [] true h (I, Q, Z)) (hR : R + 0 < 40000) (hpk : ∀ k, k < 3 → prk I k) (hbok : ∀ r, r < 2 → bok (Z r)) (hd : 3 ≤ d) : am_Ev (am_prog w) d 186 [.ref 62, .int 2, .int 0] h (fun r h' => r = some (.int (mqpr 2 0 (I, Q, Z))) ∧ h' = h) := by
  obtain ⟨K, Y, am, ln, hS, hU⟩ := RA_u.mp hA
  change sm (tbr am (13 * ln) 77 5088) h (jn I K) Y at hS
  obtain ⟨hW, hWm, -, -, hr, -⟩ := id hU.1
  have hln := RU_ln hU (by omega)
  obtain ⟨d, rfl⟩ : ∃ e, d = e + 1 := ⟨d - 1, by omega⟩
  refine ev_go rfl (Nat.le_of_ble_eq_true rfl) rfl ?_
  have hp0 : prk I 0 := hpk 0 (by decide)
  have hp1 : prk I 1 := hpk 1 (by decide)
  have hp2 : prk I 2 := hpk 2 (by decide)
  refine go_s (pc' := 1) rfl rfl rfl rfl ?_
  refine go_s (pc' := 2) (st' := [.int 0, .int 2]) rfl rfl rfl rfl ?_
  refine go_s (pc' := 3) (st' := [.int 2, .int 0, .int 2]) rfl rfl rfl rfl ?_
  refine go_callS (pc' := 4) rfl rfl rfl (Nat.le_of_ble_eq_true rfl) rfl rfl rfl (rt_within_t (q := 2) (n := 2) (by decide) (by decide) (by omega)) (fun r h1 q2 => ?_)
  obtain ⟨rfl, rfl⟩ := q2
  refine go_ifP (t' := 7) (pc' := 5) rfl rfl rfl (fun _ => ?_) (fun (c : ¬ (¬ (1 : Int32) = 0)) => absurd (by decide) c)
  refine go_s (pc' := 8) rfl rfl rfl rfl ?_
  refine go_ifP (t' := 14) (pc' := 9) rfl rfl rfl (fun (c : ¬ (0 : Int32) = 0) => absurd c (by decide)) (fun _ => ?_)
  refine go_s (pc' := 10) rfl rfl rfl rfl ?_
  refine go_sget (pc' := 11) (v := .ref 78) hS rfl rfl rfl (by decide) rfl rfl ?_
  refine go_s (pc' := 12) rfl rfl rfl rfl ?_
  refine go_sald (pc' := 13) (q := 2) (v := .int (I 11 2)) hS rfl (tr_s hr (a := 78) rfl (by decide)) rfl rfl (by decide) rfl rfl ?_
  refine go_ret rfl rfl ?_
  have hms : mqpr 2 0 (I, Q, Z) = (I 11 2) := rfl
  rw [hms]
  exact ⟨rfl, rfl⟩
theorem ra_pr_2_1 {w : Nat → Bool} {d B R : Nat} {h : am_Hp} {I : sm_I} {Q : mQ} {Z : mZ} (hA : RA w B R [] true h (I, Q, Z)) (hR : R + 0 < 40000) (hpk : ∀ k, k < 3 → prk I k) (hbok : ∀ r, r < 2 → bok (Z r)) (hd : 3 ≤ d) : am_Ev (am_prog w) d 186 [.ref 62, .int 2, .int 1] h (fun r h' => r = some (.int (mqpr 2 1 (I, Q, Z))) ∧ h' = h) := by
  obtain ⟨K, Y, am, ln, hS, hU⟩ := RA_u.mp hA
  change sm (tbr am (13 * ln) 77 5088) h (jn I K) Y at hS
  obtain ⟨hW, hWm, -, -, hr, -⟩ := id hU.1
  have hln := RU_ln hU (by omega)
  obtain ⟨d, rfl⟩ : ∃ e, d = e + 1 := ⟨d - 1, by omega⟩
  refine ev_go rfl (Nat.le_of_ble_eq_true rfl) rfl ?_
  have hp0 : prk I 0 := hpk 0 (by decide)
  have hp1 : prk I 1 := hpk 1 (by decide)
  have hp2 : prk I 2 := hpk 2 (by decide)
  refine go_s (pc' := 1) rfl rfl rfl rfl ?_
  refine go_s (pc' := 2) (st' := [.int 0, .int 2]) rfl rfl rfl rfl ?_
  refine go_s (pc' := 3) (st' := [.int 2, .int 0, .int 2]) rfl rfl rfl rfl ?_
  refine go_callS (pc' := 4) rfl rfl rfl (Nat.le_of_ble_eq_true rfl) rfl rfl rfl (rt_within_t (q := 2) (n := 2) (by decide) (by decide) (by omega)) (fun r h1 q2 => ?_)
  obtain ⟨rfl, rfl⟩ := q2
  refine go_ifP (t' := 7) (pc' := 5) rfl rfl rfl (fun _ => ?_) (fun (c : ¬ (¬ (1 : Int32) = 0)) => absurd (by decide) c)
  refine go_s (pc' := 8) rfl rfl rfl rfl ?_
  refine go_ifP (t' := 14) (pc' := 9) rfl rfl rfl (fun _ => ?_) (fun (c : ¬ (¬ (1 : Int32) = 0)) => absurd (by decide) c)
  refine go_s (pc' := 15) rfl rfl rfl rfl ?_
  refine go_s (pc' := 16) (st' := [.int 1, .int 1]) rfl rfl rfl rfl ?_
  refine go_icmpP (t' := 22) (pc' := 17) rfl rfl rfl (fun (c : ¬ (1 : Int32) = 1) => absurd c (by decide)) (fun _ => ?_)
  refine go_s (pc' := 18) rfl rfl rfl rfl ?_
  refine go_sget (pc' := 19) (v := .ref 79) hS rfl rfl rfl (by decide) rfl rfl ?_
  refine go_s (pc' := 20) rfl rfl rfl rfl ?_
  refine go_sald (pc' := 21) (q := 2) (v := .int (I 12 2)) hS rfl (tr_s hr (a := 79) rfl (by decide)) rfl rfl (by decide) rfl rfl ?_
  refine go_ret rfl rfl ?_
  have hms : mqpr 2 1 (I, Q, Z) = (I 12 2) := rfl
  rw [hms]
  exact ⟨rfl, rfl⟩
theorem ra_pr_2_2 {w : Nat → Bool} {d B R : Nat} {h : am_Hp} {I : sm_I} {Q : mQ} {Z : mZ} (hA : RA w B R [] true h (I, Q, Z)) (hR : R + 0 < 40000) (hpk : ∀ k, k < 3 → prk I k) (hbok : ∀ r, r < 2 → bok (Z r)) (hd : 3 ≤ d) : am_Ev (am_prog w) d 186 [.ref 62, .int 2, .int 2] h (fun r h' => r = some (.int (mqpr 2 2 (I, Q, Z))) ∧ h' = h) := by
  obtain ⟨K, Y, am, ln, hS, hU⟩ := RA_u.mp hA
  change sm (tbr am (13 * ln) 77 5088) h (jn I K) Y at hS
  obtain ⟨hW, hWm, -, -, hr, -⟩ := id hU.1
  have hln := RU_ln hU (by omega)
  obtain ⟨d, rfl⟩ : ∃ e, d = e + 1 := ⟨d - 1, by omega⟩
  refine ev_go rfl (Nat.le_of_ble_eq_true rfl) rfl ?_
  have hp0 : prk I 0 := hpk 0 (by decide)
  have hp1 : prk I 1 := hpk 1 (by decide)
  have hp2 : prk I 2 := hpk 2 (by decide)
  refine go_s (pc' := 1) rfl rfl rfl rfl ?_
  refine go_s (pc' := 2) (st' := [.int 0, .int 2]) rfl rfl rfl rfl ?_
  refine go_s (pc' := 3) (st' := [.int 2, .int 0, .int 2]) rfl rfl rfl rfl ?_
  refine go_callS (pc' := 4) rfl rfl rfl (Nat.le_of_ble_eq_true rfl) rfl rfl rfl (rt_within_t (q := 2) (n := 2) (by decide) (by decide) (by omega)) (fun r h1 q2 => ?_)
  obtain ⟨rfl, rfl⟩ := q2
  refine go_ifP (t' := 7) (pc' := 5) rfl rfl rfl (fun _ => ?_) (fun (c : ¬ (¬ (1 : Int32) = 0)) => absurd (by decide) c)
  refine go_s (pc' := 8) rfl rfl rfl rfl ?_
  refine go_ifP (t' := 14) (pc' := 9) rfl rfl rfl (fun _ => ?_) (fun (c : ¬ (¬ (2 : Int32) = 0)) => absurd (by decide) c)
  refine go_s (pc' := 15) rfl rfl rfl rfl ?_
  refine go_s (pc' := 16) (st' := [.int 1, .int 2]) rfl rfl rfl rfl ?_
  refine go_icmpP (t' := 22) (pc' := 17) rfl rfl rfl (fun _ => ?_) (fun (c : ¬ (¬ (2 : Int32) = 1)) => absurd (by decide) c)
  refine go_s (pc' := 23) rfl rfl rfl rfl ?_
  refine go_s (pc' := 24) (st' := [.int 2, .int 2]) rfl rfl rfl rfl ?_
  refine go_icmpP (t' := 34) (pc' := 25) rfl rfl rfl (fun (c : ¬ (2 : Int32) = 2) => absurd c (by decide)) (fun _ => ?_)
  refine go_s (pc' := 26) rfl rfl rfl rfl ?_
  refine go_sget (pc' := 27) (v := .ref 80) hS rfl rfl rfl (by decide) rfl rfl ?_
  refine go_s (pc' := 28) rfl rfl rfl rfl ?_
  refine go_sald (pc' := 29) (q := 2) (v := .int (I 13 2)) hS rfl (tr_s hr (a := 80) rfl (by decide)) rfl rfl (by decide) rfl rfl ?_
  refine go_ifP (t' := 32) (pc' := 30) rfl rfl rfl (fun (c3 : (I 13 2) = 0) => ?_) (fun (c3 : ¬ (I 13 2) = 0) => ?_)
  · skip
    refine go_s (pc' := 33) (st' := [.int 0]) rfl rfl rfl rfl ?_
    refine go_ret rfl rfl ?_
    have hms : mqpr 2 2 (I, Q, Z) = 0 := by
      show bI (I 13 2) = 0
      exact if_pos c3
    rw [hms]
    exact ⟨rfl, rfl⟩
  · skip
    refine go_s (pc' := 31) (st' := [.int 1]) rfl rfl rfl rfl ?_
    refine go_s (pc' := 33) rfl rfl rfl rfl ?_
    refine go_ret rfl rfl ?_
    have hms : mqpr 2 2 (I, Q, Z) = 1 := by
      show bI (I 13 2) = 1
      exact if_neg c3
    rw [hms]
    exact ⟨rfl, rfl⟩
theorem ra_pr_2_3 {w : Nat → Bool} {d B R : Nat} {h : am_Hp} {I : sm_I} {Q : mQ} {Z : mZ} (hA : RA w B R [] true h (I, Q, Z)) (hR : R + 0 < 40000) (hpk : ∀ k, k < 3 → prk I k) (hbok : ∀ r, r < 2 → bok (Z r)) (hd : 3 ≤ d) : am_Ev (am_prog w) d 186 [.ref 62, .int 2, .int 3] h (fun r h' => r = some (.int (mqpr 2 3 (I, Q, Z))) ∧ h' = h) := by
  obtain ⟨K, Y, am, ln, hS, hU⟩ := RA_u.mp hA
  change sm (tbr am (13 * ln) 77 5088) h (jn I K) Y at hS
  obtain ⟨hW, hWm, -, -, hr, -⟩ := id hU.1
  have hln := RU_ln hU (by omega)
  obtain ⟨d, rfl⟩ : ∃ e, d = e + 1 := ⟨d - 1, by omega⟩
  refine ev_go rfl (Nat.le_of_ble_eq_true rfl) rfl ?_
  have hp0 : prk I 0 := hpk 0 (by decide)
  have hp1 : prk I 1 := hpk 1 (by decide)
  have hp2 : prk I 2 := hpk 2 (by decide)
  refine go_s (pc' := 1) rfl rfl rfl rfl ?_
  refine go_s (pc' := 2) (st' := [.int 0, .int 2]) rfl rfl rfl rfl ?_
  refine go_s (pc' := 3) (st' := [.int 2, .int 0, .int 2]) rfl rfl rfl rfl ?_
  refine go_callS (pc' := 4) rfl rfl rfl (Nat.le_of_ble_eq_true rfl) rfl rfl rfl (rt_within_t (q := 2) (n := 2) (by decide) (by decide) (by omega)) (fun r h1 q2 => ?_)
  obtain ⟨rfl, rfl⟩ := q2
  refine go_ifP (t' := 7) (pc' := 5) rfl rfl rfl (fun _ => ?_) (fun (c : ¬ (¬ (1 : Int32) = 0)) => absurd (by decide) c)
  refine go_s (pc' := 8) rfl rfl rfl rfl ?_
  refine go_ifP (t' := 14) (pc' := 9) rfl rfl rfl (fun _ => ?_) (fun (c : ¬ (¬ (3 : Int32) = 0)) => absurd (by decide) c)
  refine go_s (pc' := 15) rfl rfl rfl rfl ?_
  refine go_s (pc' := 16) (st' := [.int 1, .int 3]) rfl rfl rfl rfl ?_
  refine go_icmpP (t' := 22) (pc' := 17) rfl rfl rfl (fun _ => ?_) (fun (c : ¬ (¬ (3 : Int32) = 1)) => absurd (by decide) c)
  refine go_s (pc' := 23) rfl rfl rfl rfl ?_
  refine go_s (pc' := 24) (st' := [.int 2, .int 3]) rfl rfl rfl rfl ?_
  refine go_icmpP (t' := 34) (pc' := 25) rfl rfl rfl (fun _ => ?_) (fun (c : ¬ (¬ (3 : Int32) = 2)) => absurd (by decide) c)
  refine go_s (pc' := 35) rfl rfl rfl rfl ?_
  refine go_s (pc' := 36) (st' := [.int 4, .int 3]) rfl rfl rfl rfl ?_
  refine go_icmpP (t' := 42) (pc' := 37) rfl rfl rfl (fun _ => ?_) (fun (c : ¬ (¬ (3 : Int32) = 4)) => absurd (by decide) c)
  refine go_s (pc' := 43) rfl rfl rfl rfl ?_
  refine go_ifP (t' := 54) (pc' := 44) rfl rfl rfl (fun (c : (2 : Int32) ≤ 0) => absurd c (by decide)) (fun _ => ?_)
  refine go_s (pc' := 45) rfl rfl rfl rfl ?_
  refine go_s (pc' := 46) (st' := [.int 5, .int 3]) rfl rfl rfl rfl ?_
  refine go_icmpP (t' := 54) (pc' := 47) rfl rfl rfl (fun _ => ?_) (fun (c : ¬ (¬ (3 : Int32) = 5)) => absurd (by decide) c)
  refine go_s (pc' := 55) rfl rfl rfl rfl ?_
  refine go_s (pc' := 56) rfl rfl rfl rfl ?_
  refine go_callV (pc' := 57) rfl rfl rfl (Nat.le_of_ble_eq_true rfl) rfl (sm_o hS rfl) rfl rfl rfl (rt_lives_2 hr hS hp2 (by omega)) (fun r h3 q4 => ?_)
  obtain ⟨rfl, rfl⟩ := q4
  rw [show lv (jn I K) 2 = lv I 2 from rfl]
  cases u5 : lv I 2
  · skip
    show am_Go _ _ _ _ 57 _ [.int 0] _ _
    refine go_ifP (t' := 60) (pc' := 58) rfl rfl rfl (fun (c : ¬ (0 : Int32) = 0) => absurd c (by decide)) (fun _ => ?_)
    refine go_s (pc' := 59) (st' := [.int (-1)]) rfl rfl rfl rfl ?_
    refine go_ret rfl rfl ?_
    have hms : mqpr 2 3 (I, Q, Z) = (-1) := by
      show (if lv I 2 = true then I 16 2 else -1) = (-1)
      exact (if_neg (by rw [u5]; decide))
    rw [hms]
    exact ⟨rfl, rfl⟩
  · skip
    show am_Go _ _ _ _ 57 _ [.int 1] _ _
    refine go_ifP (t' := 60) (pc' := 58) rfl rfl rfl (fun _ => ?_) (fun (c : ¬ (¬ (1 : Int32) = 0)) => absurd (by decide) c)
    refine go_s (pc' := 61) rfl rfl rfl rfl ?_
    refine go_s (pc' := 62) (st' := [.int 3, .int 3]) rfl rfl rfl rfl ?_
    refine go_icmpP (t' := 68) (pc' := 63) rfl rfl rfl (fun (c : ¬ (3 : Int32) = 3) => absurd c (by decide)) (fun _ => ?_)
    refine go_s (pc' := 64) rfl rfl rfl rfl ?_
    refine go_sget (pc' := 65) (v := .ref 83) hS rfl rfl rfl (by decide) rfl rfl ?_
    refine go_s (pc' := 66) rfl rfl rfl rfl ?_
    refine go_sald (pc' := 67) (q := 2) (v := .int (I 16 2)) hS rfl (tr_s hr (a := 83) rfl (by decide)) rfl rfl (by decide) rfl rfl ?_
    refine go_ret rfl rfl ?_
    have hms : mqpr 2 3 (I, Q, Z) = (I 16 2) := by
      show (if lv I 2 = true then I 16 2 else -1) = (I 16 2)
      exact (if_pos u5)
    rw [hms]
    exact ⟨rfl, rfl⟩
theorem ra_pr_2_4 {w : Nat → Bool} {d B R : Nat} {h : am_Hp} {I : sm_I} {Q : mQ} {Z : mZ} (hA : RA w B R [] true h (I, Q, Z)) (hR : R + 0 < 40000) (hpk : ∀ k, k < 3 → prk I k) (hbok : ∀ r, r < 2 → bok (Z r)) (hd : 3 ≤ d) : am_Ev (am_prog w) d 186 [.ref 62, .int 2, .int 4] h (fun r h' => r = some (.int (mqpr 2 4 (I, Q, Z))) ∧ h' = h) := by
  obtain ⟨K, Y, am, ln, hS, hU⟩ := RA_u.mp hA
  change sm (tbr am (13 * ln) 77 5088) h (jn I K) Y at hS
  obtain ⟨hW, hWm, -, -, hr, -⟩ := id hU.1
  have hln := RU_ln hU (by omega)
  obtain ⟨d, rfl⟩ : ∃ e, d = e + 1 := ⟨d - 1, by omega⟩
  refine ev_go rfl (Nat.le_of_ble_eq_true rfl) rfl ?_
  have hp0 : prk I 0 := hpk 0 (by decide)
  have hp1 : prk I 1 := hpk 1 (by decide)
  have hp2 : prk I 2 := hpk 2 (by decide)
  refine go_s (pc' := 1) rfl rfl rfl rfl ?_
  refine go_s (pc' := 2) (st' := [.int 0, .int 2]) rfl rfl rfl rfl ?_
  refine go_s (pc' := 3) (st' := [.int 2, .int 0, .int 2]) rfl rfl rfl rfl ?_
  refine go_callS (pc' := 4) rfl rfl rfl (Nat.le_of_ble_eq_true rfl) rfl rfl rfl (rt_within_t (q := 2) (n := 2) (by decide) (by decide) (by omega)) (fun r h1 q2 => ?_)
  obtain ⟨rfl, rfl⟩ := q2
  refine go_ifP (t' := 7) (pc' := 5) rfl rfl rfl (fun _ => ?_) (fun (c : ¬ (¬ (1 : Int32) = 0)) => absurd (by decide) c)
  refine go_s (pc' := 8) rfl rfl rfl rfl ?_
  refine go_ifP (t' := 14) (pc' := 9) rfl rfl rfl (fun _ => ?_) (fun (c : ¬ (¬ (4 : Int32) = 0)) => absurd (by decide) c)
  refine go_s (pc' := 15) rfl rfl rfl rfl ?_
  refine go_s (pc' := 16) (st' := [.int 1, .int 4]) rfl rfl rfl rfl ?_
  refine go_icmpP (t' := 22) (pc' := 17) rfl rfl rfl (fun _ => ?_) (fun (c : ¬ (¬ (4 : Int32) = 1)) => absurd (by decide) c)
  refine go_s (pc' := 23) rfl rfl rfl rfl ?_
  refine go_s (pc' := 24) (st' := [.int 2, .int 4]) rfl rfl rfl rfl ?_
  refine go_icmpP (t' := 34) (pc' := 25) rfl rfl rfl (fun _ => ?_) (fun (c : ¬ (¬ (4 : Int32) = 2)) => absurd (by decide) c)
  refine go_s (pc' := 35) rfl rfl rfl rfl ?_
  refine go_s (pc' := 36) (st' := [.int 4, .int 4]) rfl rfl rfl rfl ?_
  refine go_icmpP (t' := 42) (pc' := 37) rfl rfl rfl (fun (c : ¬ (4 : Int32) = 4) => absurd c (by decide)) (fun _ => ?_)
  refine go_s (pc' := 38) rfl rfl rfl rfl ?_
  refine go_sget (pc' := 39) (v := .ref 82) hS rfl rfl rfl (by decide) rfl rfl ?_
  refine go_s (pc' := 40) rfl rfl rfl rfl ?_
  refine go_sald (pc' := 41) (q := 2) (v := .int (I 15 2)) hS rfl (tr_s hr (a := 82) rfl (by decide)) rfl rfl (by decide) rfl rfl ?_
  refine go_ret rfl rfl ?_
  have hms : mqpr 2 4 (I, Q, Z) = (I 15 2) := rfl
  rw [hms]
  exact ⟨rfl, rfl⟩
theorem ra_pr_2_5 {w : Nat → Bool} {d B R : Nat} {h : am_Hp} {I : sm_I} {Q : mQ} {Z : mZ} (hA : RA w B R [] true h (I, Q, Z)) (hR : R + 0 < 40000) (hpk : ∀ k, k < 3 → prk I k) (hbok : ∀ r, r < 2 → bok (Z r)) (hd : 3 ≤ d) : am_Ev (am_prog w) d 186 [.ref 62, .int 2, .int 5] h (fun r h' => r = some (.int (mqpr 2 5 (I, Q, Z))) ∧ h' = h) := by
  obtain ⟨K, Y, am, ln, hS, hU⟩ := RA_u.mp hA
  change sm (tbr am (13 * ln) 77 5088) h (jn I K) Y at hS
  obtain ⟨hW, hWm, -, -, hr, -⟩ := id hU.1
  have hln := RU_ln hU (by omega)
  obtain ⟨d, rfl⟩ : ∃ e, d = e + 1 := ⟨d - 1, by omega⟩
  refine ev_go rfl (Nat.le_of_ble_eq_true rfl) rfl ?_
  have hp0 : prk I 0 := hpk 0 (by decide)
  have hp1 : prk I 1 := hpk 1 (by decide)
  have hp2 : prk I 2 := hpk 2 (by decide)
  refine go_s (pc' := 1) rfl rfl rfl rfl ?_
  refine go_s (pc' := 2) (st' := [.int 0, .int 2]) rfl rfl rfl rfl ?_
  refine go_s (pc' := 3) (st' := [.int 2, .int 0, .int 2]) rfl rfl rfl rfl ?_
  refine go_callS (pc' := 4) rfl rfl rfl (Nat.le_of_ble_eq_true rfl) rfl rfl rfl (rt_within_t (q := 2) (n := 2) (by decide) (by decide) (by omega)) (fun r h1 q2 => ?_)
  obtain ⟨rfl, rfl⟩ := q2
  refine go_ifP (t' := 7) (pc' := 5) rfl rfl rfl (fun _ => ?_) (fun (c : ¬ (¬ (1 : Int32) = 0)) => absurd (by decide) c)
  refine go_s (pc' := 8) rfl rfl rfl rfl ?_
  refine go_ifP (t' := 14) (pc' := 9) rfl rfl rfl (fun _ => ?_) (fun (c : ¬ (¬ (5 : Int32) = 0)) => absurd (by decide) c)
  refine go_s (pc' := 15) rfl rfl rfl rfl ?_
  refine go_s (pc' := 16) (st' := [.int 1, .int 5]) rfl rfl rfl rfl ?_
  refine go_icmpP (t' := 22) (pc' := 17) rfl rfl rfl (fun _ => ?_) (fun (c : ¬ (¬ (5 : Int32) = 1)) => absurd (by decide) c)
  refine go_s (pc' := 23) rfl rfl rfl rfl ?_
  refine go_s (pc' := 24) (st' := [.int 2, .int 5]) rfl rfl rfl rfl ?_
  refine go_icmpP (t' := 34) (pc' := 25) rfl rfl rfl (fun _ => ?_) (fun (c : ¬ (¬ (5 : Int32) = 2)) => absurd (by decide) c)
  refine go_s (pc' := 35) rfl rfl rfl rfl ?_
  refine go_s (pc' := 36) (st' := [.int 4, .int 5]) rfl rfl rfl rfl ?_
  refine go_icmpP (t' := 42) (pc' := 37) rfl rfl rfl (fun _ => ?_) (fun (c : ¬ (¬ (5 : Int32) = 4)) => absurd (by decide) c)
  refine go_s (pc' := 43) rfl rfl rfl rfl ?_
  refine go_ifP (t' := 54) (pc' := 44) rfl rfl rfl (fun (c : (2 : Int32) ≤ 0) => absurd c (by decide)) (fun _ => ?_)
  refine go_s (pc' := 45) rfl rfl rfl rfl ?_
  refine go_s (pc' := 46) (st' := [.int 5, .int 5]) rfl rfl rfl rfl ?_
  refine go_icmpP (t' := 54) (pc' := 47) rfl rfl rfl (fun (c : ¬ (5 : Int32) = 5) => absurd c (by decide)) (fun _ => ?_)
  refine go_s (pc' := 48) rfl rfl rfl rfl ?_
  refine go_sget (pc' := 49) (v := .ref 84) hS rfl rfl rfl (by decide) rfl rfl ?_
  refine go_s (pc' := 50) rfl rfl rfl rfl ?_
  refine go_s (pc' := 51) (st' := [.int 1, .int 2, .ref 84]) rfl rfl rfl rfl ?_
  refine go_s (pc' := 52) (st' := [.int 1, .ref 84]) rfl rfl rfl rfl ?_
  refine go_sald (pc' := 53) (q := 1) (v := .int (I 17 1)) hS rfl (tr_s hr (a := 84) rfl (by decide)) rfl rfl (by decide) rfl rfl ?_
  refine go_ret rfl rfl ?_
  have hms : mqpr 2 5 (I, Q, Z) = (I 17 1) := rfl
  rw [hms]
  exact ⟨rfl, rfl⟩
theorem ra_pr_2_6 {w : Nat → Bool} {d B R : Nat} {h : am_Hp} {I : sm_I} {Q : mQ} {Z : mZ} (hA : RA w B R [] true h (I, Q, Z)) (hR : R + 0 < 40000) (hpk : ∀ k, k < 3 → prk I k) (hbok : ∀ r, r < 2 → bok (Z r)) (hd : 3 ≤ d) : am_Ev (am_prog w) d 186 [.ref 62, .int 2, .int 6] h (fun r h' => r = some (.int (mqpr 2 6 (I, Q, Z))) ∧ h' = h) := by
  obtain ⟨K, Y, am, ln, hS, hU⟩ := RA_u.mp hA
  change sm (tbr am (13 * ln) 77 5088) h (jn I K) Y at hS
  obtain ⟨hW, hWm, -, -, hr, -⟩ := id hU.1
  have hln := RU_ln hU (by omega)
  obtain ⟨d, rfl⟩ : ∃ e, d = e + 1 := ⟨d - 1, by omega⟩
  refine ev_go rfl (Nat.le_of_ble_eq_true rfl) rfl ?_
  have hp0 : prk I 0 := hpk 0 (by decide)
  have hp1 : prk I 1 := hpk 1 (by decide)
  have hp2 : prk I 2 := hpk 2 (by decide)
  refine go_s (pc' := 1) rfl rfl rfl rfl ?_
  refine go_s (pc' := 2) (st' := [.int 0, .int 2]) rfl rfl rfl rfl ?_
  refine go_s (pc' := 3) (st' := [.int 2, .int 0, .int 2]) rfl rfl rfl rfl ?_
  refine go_callS (pc' := 4) rfl rfl rfl (Nat.le_of_ble_eq_true rfl) rfl rfl rfl (rt_within_t (q := 2) (n := 2) (by decide) (by decide) (by omega)) (fun r h1 q2 => ?_)
  obtain ⟨rfl, rfl⟩ := q2
  refine go_ifP (t' := 7) (pc' := 5) rfl rfl rfl (fun _ => ?_) (fun (c : ¬ (¬ (1 : Int32) = 0)) => absurd (by decide) c)
  refine go_s (pc' := 8) rfl rfl rfl rfl ?_
  refine go_ifP (t' := 14) (pc' := 9) rfl rfl rfl (fun _ => ?_) (fun (c : ¬ (¬ (6 : Int32) = 0)) => absurd (by decide) c)
  refine go_s (pc' := 15) rfl rfl rfl rfl ?_
  refine go_s (pc' := 16) (st' := [.int 1, .int 6]) rfl rfl rfl rfl ?_
  refine go_icmpP (t' := 22) (pc' := 17) rfl rfl rfl (fun _ => ?_) (fun (c : ¬ (¬ (6 : Int32) = 1)) => absurd (by decide) c)
  refine go_s (pc' := 23) rfl rfl rfl rfl ?_
  refine go_s (pc' := 24) (st' := [.int 2, .int 6]) rfl rfl rfl rfl ?_
  refine go_icmpP (t' := 34) (pc' := 25) rfl rfl rfl (fun _ => ?_) (fun (c : ¬ (¬ (6 : Int32) = 2)) => absurd (by decide) c)
  refine go_s (pc' := 35) rfl rfl rfl rfl ?_
  refine go_s (pc' := 36) (st' := [.int 4, .int 6]) rfl rfl rfl rfl ?_
  refine go_icmpP (t' := 42) (pc' := 37) rfl rfl rfl (fun _ => ?_) (fun (c : ¬ (¬ (6 : Int32) = 4)) => absurd (by decide) c)
  refine go_s (pc' := 43) rfl rfl rfl rfl ?_
  refine go_ifP (t' := 54) (pc' := 44) rfl rfl rfl (fun (c : (2 : Int32) ≤ 0) => absurd c (by decide)) (fun _ => ?_)
  refine go_s (pc' := 45) rfl rfl rfl rfl ?_
  refine go_s (pc' := 46) (st' := [.int 5, .int 6]) rfl rfl rfl rfl ?_
  refine go_icmpP (t' := 54) (pc' := 47) rfl rfl rfl (fun _ => ?_) (fun (c : ¬ (¬ (6 : Int32) = 5)) => absurd (by decide) c)
  refine go_s (pc' := 55) rfl rfl rfl rfl ?_
  refine go_s (pc' := 56) rfl rfl rfl rfl ?_
  refine go_callV (pc' := 57) rfl rfl rfl (Nat.le_of_ble_eq_true rfl) rfl (sm_o hS rfl) rfl rfl rfl (rt_lives_2 hr hS hp2 (by omega)) (fun r h3 q4 => ?_)
  obtain ⟨rfl, rfl⟩ := q4
  rw [show lv (jn I K) 2 = lv I 2 from rfl]
  cases u5 : lv I 2
  · skip
    show am_Go _ _ _ _ 57 _ [.int 0] _ _
    refine go_ifP (t' := 60) (pc' := 58) rfl rfl rfl (fun (c : ¬ (0 : Int32) = 0) => absurd c (by decide)) (fun _ => ?_)
    refine go_s (pc' := 59) (st' := [.int (-1)]) rfl rfl rfl rfl ?_
    refine go_ret rfl rfl ?_
    have hms : mqpr 2 6 (I, Q, Z) = (-1) := by
      show mqtm 1 6 (I, Q, Z) = -1
      show (if lv I 2 = true then _ else (-1 : Int32)) = -1
      exact (if_neg (by rw [u5]; decide))
    rw [hms]
    exact ⟨rfl, rfl⟩
  · skip
    show am_Go _ _ _ _ 57 _ [.int 1] _ _
    refine go_ifP (t' := 60) (pc' := 58) rfl rfl rfl (fun _ => ?_) (fun (c : ¬ (¬ (1 : Int32) = 0)) => absurd (by decide) c)
    refine go_s (pc' := 61) rfl rfl rfl rfl ?_
    refine go_s (pc' := 62) (st' := [.int 3, .int 6]) rfl rfl rfl rfl ?_
    refine go_icmpP (t' := 68) (pc' := 63) rfl rfl rfl (fun _ => ?_) (fun (c : ¬ (¬ (6 : Int32) = 3)) => absurd (by decide) c)
    rcases (id hp2) with e6 | e6 | e6
    · skip
      exact absurd e6 (lv_up u5).1
    · skip
      refine go_s (pc' := 69) rfl rfl rfl rfl ?_
      refine go_s (pc' := 70) rfl rfl rfl rfl ?_
      refine go_callV (pc' := 71) rfl rfl rfl (Nat.le_of_ble_eq_true rfl) rfl (sm_o hS rfl) rfl rfl rfl (rt_at_2 hr hS (Or.inr (Or.inl e6)) (fun z => absurd (e6.symm.trans z) (by decide)) (by omega)) (fun r h7 q8 => ?_)
      obtain ⟨rfl, rfl⟩ := q8
      rw [show rwi (jn I K) 2 = 4 by unfold rwi pn; rw [show (jn I K) 11 2 = 2 from e6]; rfl]
      show am_Go _ _ _ _ 71 _ [.int 1696] _ _
      refine go_s (pc' := 72) (lo' := [some (.ref 62), some (.int 2), some (.int 6), some (.int 1696)]) rfl rfl rfl rfl ?_
      refine go_s (pc' := 73) rfl rfl rfl rfl ?_
      refine go_ifP (t' := 106) (pc' := 74) rfl rfl rfl (fun (c : (2 : Int32) ≤ 0) => absurd c (by decide)) (fun _ => ?_)
      refine go_s (pc' := 75) rfl rfl rfl rfl ?_
      refine go_s (pc' := 76) (st' := [.int 6, .int 6]) rfl rfl rfl rfl ?_
      refine go_icmpP (t' := 84) (pc' := 77) rfl rfl rfl (fun (c : ¬ (6 : Int32) = 6) => absurd c (by decide)) (fun _ => ?_)
      refine go_s (pc' := 78) rfl rfl rfl rfl ?_
      refine go_sget (pc' := 79) (v := .ref 77) hS rfl rfl rfl (by decide) rfl rfl ?_
      refine go_s (pc' := 80) rfl rfl rfl rfl ?_
      refine go_s (pc' := 81) (st' := [.int 0, .int 1696, .ref 77]) rfl rfl rfl rfl ?_
      refine go_s (pc' := 82) (st' := [.int 1696, .ref 77]) rfl rfl rfl rfl ?_
      refine go_sald (pc' := 83) (q := 1696) (v := .int ((Z 4).1 0)) hS rfl (tr_as hr (by omega)) rfl rfl (by decide) (congrArg Value.int (RR_t hU.2.1 (i := 4) (by decide) (by decide) 0 (by decide))) rfl ?_
      refine go_s (pc' := 105) rfl rfl rfl rfl ?_
      refine go_ret rfl rfl ?_
      have hms : mqpr 2 6 (I, Q, Z) = ((Z 4).1 0) := by
        show (if lv I 2 = true then row1 (I, Q, Z) 2 0 else -1) = ((Z 4).1 0)
        exact (if_pos u5).trans (congrFun (row1_l (v := 2) e6 (by decide)) 0)
      rw [hms]
      exact ⟨rfl, rfl⟩
    · skip
      refine go_s (pc' := 69) rfl rfl rfl rfl ?_
      refine go_s (pc' := 70) rfl rfl rfl rfl ?_
      refine go_callV (pc' := 71) rfl rfl rfl (Nat.le_of_ble_eq_true rfl) rfl (sm_o hS rfl) rfl rfl rfl (rt_at_2 hr hS (Or.inr (Or.inr e6)) (fun z => absurd (e6.symm.trans z) (by decide)) (by omega)) (fun r h9 q10 => ?_)
      obtain ⟨rfl, rfl⟩ := q10
      rw [show rwi (jn I K) 2 = 5 by unfold rwi pn; rw [show (jn I K) 11 2 = 3 from e6]; rfl]
      show am_Go _ _ _ _ 71 _ [.int 2120] _ _
      refine go_s (pc' := 72) (lo' := [some (.ref 62), some (.int 2), some (.int 6), some (.int 2120)]) rfl rfl rfl rfl ?_
      refine go_s (pc' := 73) rfl rfl rfl rfl ?_
      refine go_ifP (t' := 106) (pc' := 74) rfl rfl rfl (fun (c : (2 : Int32) ≤ 0) => absurd c (by decide)) (fun _ => ?_)
      refine go_s (pc' := 75) rfl rfl rfl rfl ?_
      refine go_s (pc' := 76) (st' := [.int 6, .int 6]) rfl rfl rfl rfl ?_
      refine go_icmpP (t' := 84) (pc' := 77) rfl rfl rfl (fun (c : ¬ (6 : Int32) = 6) => absurd c (by decide)) (fun _ => ?_)
      refine go_s (pc' := 78) rfl rfl rfl rfl ?_
      refine go_sget (pc' := 79) (v := .ref 77) hS rfl rfl rfl (by decide) rfl rfl ?_
      refine go_s (pc' := 80) rfl rfl rfl rfl ?_
      refine go_s (pc' := 81) (st' := [.int 0, .int 2120, .ref 77]) rfl rfl rfl rfl ?_
      refine go_s (pc' := 82) (st' := [.int 2120, .ref 77]) rfl rfl rfl rfl ?_
      refine go_sald (pc' := 83) (q := 2120) (v := .int ((Z 5).1 0)) hS rfl (tr_as hr (by omega)) rfl rfl (by decide) (congrArg Value.int (RR_t hU.2.1 (i := 5) (by decide) (by decide) 0 (by decide))) rfl ?_
      refine go_s (pc' := 105) rfl rfl rfl rfl ?_
      refine go_ret rfl rfl ?_
      have hms : mqpr 2 6 (I, Q, Z) = ((Z 5).1 0) := by
        show (if lv I 2 = true then row1 (I, Q, Z) 2 0 else -1) = ((Z 5).1 0)
        exact (if_pos u5).trans (congrFun (row1_l (v := 3) e6 (by decide)) 0)
      rw [hms]
      exact ⟨rfl, rfl⟩
theorem ra_pr_2_7 {w : Nat → Bool} {d B R : Nat} {h : am_Hp} {I : sm_I} {Q : mQ} {Z : mZ} (hA : RA w B R [] true h (I, Q, Z)) (hR : R + 0 < 40000) (hpk : ∀ k, k < 3 → prk I k) (hbok : ∀ r, r < 2 → bok (Z r)) (hd : 3 ≤ d) : am_Ev (am_prog w) d 186 [.ref 62, .int 2, .int 7] h (fun r h' => r = some (.int (mqpr 2 7 (I, Q, Z))) ∧ h' = h) := by
  obtain ⟨K, Y, am, ln, hS, hU⟩ := RA_u.mp hA
  change sm (tbr am (13 * ln) 77 5088) h (jn I K) Y at hS
  obtain ⟨hW, hWm, -, -, hr, -⟩ := id hU.1
  have hln := RU_ln hU (by omega)
  obtain ⟨d, rfl⟩ : ∃ e, d = e + 1 := ⟨d - 1, by omega⟩
  refine ev_go rfl (Nat.le_of_ble_eq_true rfl) rfl ?_
  have hp0 : prk I 0 := hpk 0 (by decide)
  have hp1 : prk I 1 := hpk 1 (by decide)
  have hp2 : prk I 2 := hpk 2 (by decide)
  refine go_s (pc' := 1) rfl rfl rfl rfl ?_
  refine go_s (pc' := 2) (st' := [.int 0, .int 2]) rfl rfl rfl rfl ?_
  refine go_s (pc' := 3) (st' := [.int 2, .int 0, .int 2]) rfl rfl rfl rfl ?_
  refine go_callS (pc' := 4) rfl rfl rfl (Nat.le_of_ble_eq_true rfl) rfl rfl rfl (rt_within_t (q := 2) (n := 2) (by decide) (by decide) (by omega)) (fun r h1 q2 => ?_)
  obtain ⟨rfl, rfl⟩ := q2
  refine go_ifP (t' := 7) (pc' := 5) rfl rfl rfl (fun _ => ?_) (fun (c : ¬ (¬ (1 : Int32) = 0)) => absurd (by decide) c)
  refine go_s (pc' := 8) rfl rfl rfl rfl ?_
  refine go_ifP (t' := 14) (pc' := 9) rfl rfl rfl (fun _ => ?_) (fun (c : ¬ (¬ (7 : Int32) = 0)) => absurd (by decide) c)
  refine go_s (pc' := 15) rfl rfl rfl rfl ?_
  refine go_s (pc' := 16) (st' := [.int 1, .int 7]) rfl rfl rfl rfl ?_
  refine go_icmpP (t' := 22) (pc' := 17) rfl rfl rfl (fun _ => ?_) (fun (c : ¬ (¬ (7 : Int32) = 1)) => absurd (by decide) c)
  refine go_s (pc' := 23) rfl rfl rfl rfl ?_
  refine go_s (pc' := 24) (st' := [.int 2, .int 7]) rfl rfl rfl rfl ?_
  refine go_icmpP (t' := 34) (pc' := 25) rfl rfl rfl (fun _ => ?_) (fun (c : ¬ (¬ (7 : Int32) = 2)) => absurd (by decide) c)
  refine go_s (pc' := 35) rfl rfl rfl rfl ?_
  refine go_s (pc' := 36) (st' := [.int 4, .int 7]) rfl rfl rfl rfl ?_
  refine go_icmpP (t' := 42) (pc' := 37) rfl rfl rfl (fun _ => ?_) (fun (c : ¬ (¬ (7 : Int32) = 4)) => absurd (by decide) c)
  refine go_s (pc' := 43) rfl rfl rfl rfl ?_
  refine go_ifP (t' := 54) (pc' := 44) rfl rfl rfl (fun (c : (2 : Int32) ≤ 0) => absurd c (by decide)) (fun _ => ?_)
  refine go_s (pc' := 45) rfl rfl rfl rfl ?_
  refine go_s (pc' := 46) (st' := [.int 5, .int 7]) rfl rfl rfl rfl ?_
  refine go_icmpP (t' := 54) (pc' := 47) rfl rfl rfl (fun _ => ?_) (fun (c : ¬ (¬ (7 : Int32) = 5)) => absurd (by decide) c)
  refine go_s (pc' := 55) rfl rfl rfl rfl ?_
  refine go_s (pc' := 56) rfl rfl rfl rfl ?_
  refine go_callV (pc' := 57) rfl rfl rfl (Nat.le_of_ble_eq_true rfl) rfl (sm_o hS rfl) rfl rfl rfl (rt_lives_2 hr hS hp2 (by omega)) (fun r h3 q4 => ?_)
  obtain ⟨rfl, rfl⟩ := q4
  rw [show lv (jn I K) 2 = lv I 2 from rfl]
  cases u5 : lv I 2
  · skip
    show am_Go _ _ _ _ 57 _ [.int 0] _ _
    refine go_ifP (t' := 60) (pc' := 58) rfl rfl rfl (fun (c : ¬ (0 : Int32) = 0) => absurd c (by decide)) (fun _ => ?_)
    refine go_s (pc' := 59) (st' := [.int (-1)]) rfl rfl rfl rfl ?_
    refine go_ret rfl rfl ?_
    have hms : mqpr 2 7 (I, Q, Z) = (-1) := by
      show mqtm 1 7 (I, Q, Z) = -1
      show (if lv I 2 = true then _ else (-1 : Int32)) = -1
      exact (if_neg (by rw [u5]; decide))
    rw [hms]
    exact ⟨rfl, rfl⟩
  · skip
    show am_Go _ _ _ _ 57 _ [.int 1] _ _
    refine go_ifP (t' := 60) (pc' := 58) rfl rfl rfl (fun _ => ?_) (fun (c : ¬ (¬ (1 : Int32) = 0)) => absurd (by decide) c)
    refine go_s (pc' := 61) rfl rfl rfl rfl ?_
    refine go_s (pc' := 62) (st' := [.int 3, .int 7]) rfl rfl rfl rfl ?_
    refine go_icmpP (t' := 68) (pc' := 63) rfl rfl rfl (fun _ => ?_) (fun (c : ¬ (¬ (7 : Int32) = 3)) => absurd (by decide) c)
    rcases (id hp2) with e6 | e6 | e6
    · skip
      exact absurd e6 (lv_up u5).1
    · skip
      refine go_s (pc' := 69) rfl rfl rfl rfl ?_
      refine go_s (pc' := 70) rfl rfl rfl rfl ?_
      refine go_callV (pc' := 71) rfl rfl rfl (Nat.le_of_ble_eq_true rfl) rfl (sm_o hS rfl) rfl rfl rfl (rt_at_2 hr hS (Or.inr (Or.inl e6)) (fun z => absurd (e6.symm.trans z) (by decide)) (by omega)) (fun r h7 q8 => ?_)
      obtain ⟨rfl, rfl⟩ := q8
      rw [show rwi (jn I K) 2 = 4 by unfold rwi pn; rw [show (jn I K) 11 2 = 2 from e6]; rfl]
      show am_Go _ _ _ _ 71 _ [.int 1696] _ _
      refine go_s (pc' := 72) (lo' := [some (.ref 62), some (.int 2), some (.int 7), some (.int 1696)]) rfl rfl rfl rfl ?_
      refine go_s (pc' := 73) rfl rfl rfl rfl ?_
      refine go_ifP (t' := 106) (pc' := 74) rfl rfl rfl (fun (c : (2 : Int32) ≤ 0) => absurd c (by decide)) (fun _ => ?_)
      refine go_s (pc' := 75) rfl rfl rfl rfl ?_
      refine go_s (pc' := 76) (st' := [.int 6, .int 7]) rfl rfl rfl rfl ?_
      refine go_icmpP (t' := 84) (pc' := 77) rfl rfl rfl (fun _ => ?_) (fun (c : ¬ (¬ (7 : Int32) = 6)) => absurd (by decide) c)
      refine go_s (pc' := 85) rfl rfl rfl rfl ?_
      refine go_s (pc' := 86) (st' := [.int 7, .int 7]) rfl rfl rfl rfl ?_
      refine go_icmpP (t' := 94) (pc' := 87) rfl rfl rfl (fun (c : ¬ (7 : Int32) = 7) => absurd c (by decide)) (fun _ => ?_)
      refine go_s (pc' := 88) rfl rfl rfl rfl ?_
      refine go_sget (pc' := 89) (v := .ref 77) hS rfl rfl rfl (by decide) rfl rfl ?_
      refine go_s (pc' := 90) rfl rfl rfl rfl ?_
      refine go_s (pc' := 91) (st' := [.int 1, .int 1696, .ref 77]) rfl rfl rfl rfl ?_
      refine go_s (pc' := 92) (st' := [.int 1697, .ref 77]) rfl rfl rfl rfl ?_
      refine go_sald (pc' := 93) (q := 1697) (v := .int ((Z 4).1 1)) hS rfl (tr_as hr (by omega)) rfl rfl (by decide) (congrArg Value.int (RR_t hU.2.1 (i := 4) (by decide) (by decide) 1 (by decide))) rfl ?_
      refine go_s (pc' := 105) rfl rfl rfl rfl ?_
      refine go_ret rfl rfl ?_
      have hms : mqpr 2 7 (I, Q, Z) = ((Z 4).1 1) := by
        show (if lv I 2 = true then row1 (I, Q, Z) 2 1 else -1) = ((Z 4).1 1)
        exact (if_pos u5).trans (congrFun (row1_l (v := 2) e6 (by decide)) 1)
      rw [hms]
      exact ⟨rfl, rfl⟩
    · skip
      refine go_s (pc' := 69) rfl rfl rfl rfl ?_
      refine go_s (pc' := 70) rfl rfl rfl rfl ?_
      refine go_callV (pc' := 71) rfl rfl rfl (Nat.le_of_ble_eq_true rfl) rfl (sm_o hS rfl) rfl rfl rfl (rt_at_2 hr hS (Or.inr (Or.inr e6)) (fun z => absurd (e6.symm.trans z) (by decide)) (by omega)) (fun r h9 q10 => ?_)
      obtain ⟨rfl, rfl⟩ := q10
      rw [show rwi (jn I K) 2 = 5 by unfold rwi pn; rw [show (jn I K) 11 2 = 3 from e6]; rfl]
      show am_Go _ _ _ _ 71 _ [.int 2120] _ _
      refine go_s (pc' := 72) (lo' := [some (.ref 62), some (.int 2), some (.int 7), some (.int 2120)]) rfl rfl rfl rfl ?_
      refine go_s (pc' := 73) rfl rfl rfl rfl ?_
      refine go_ifP (t' := 106) (pc' := 74) rfl rfl rfl (fun (c : (2 : Int32) ≤ 0) => absurd c (by decide)) (fun _ => ?_)
      refine go_s (pc' := 75) rfl rfl rfl rfl ?_
      refine go_s (pc' := 76) (st' := [.int 6, .int 7]) rfl rfl rfl rfl ?_
      refine go_icmpP (t' := 84) (pc' := 77) rfl rfl rfl (fun _ => ?_) (fun (c : ¬ (¬ (7 : Int32) = 6)) => absurd (by decide) c)
      refine go_s (pc' := 85) rfl rfl rfl rfl ?_
      refine go_s (pc' := 86) (st' := [.int 7, .int 7]) rfl rfl rfl rfl ?_
      refine go_icmpP (t' := 94) (pc' := 87) rfl rfl rfl (fun (c : ¬ (7 : Int32) = 7) => absurd c (by decide)) (fun _ => ?_)
      refine go_s (pc' := 88) rfl rfl rfl rfl ?_
      refine go_sget (pc' := 89) (v := .ref 77) hS rfl rfl rfl (by decide) rfl rfl ?_
      refine go_s (pc' := 90) rfl rfl rfl rfl ?_
      refine go_s (pc' := 91) (st' := [.int 1, .int 2120, .ref 77]) rfl rfl rfl rfl ?_
      refine go_s (pc' := 92) (st' := [.int 2121, .ref 77]) rfl rfl rfl rfl ?_
      refine go_sald (pc' := 93) (q := 2121) (v := .int ((Z 5).1 1)) hS rfl (tr_as hr (by omega)) rfl rfl (by decide) (congrArg Value.int (RR_t hU.2.1 (i := 5) (by decide) (by decide) 1 (by decide))) rfl ?_
      refine go_s (pc' := 105) rfl rfl rfl rfl ?_
      refine go_ret rfl rfl ?_
      have hms : mqpr 2 7 (I, Q, Z) = ((Z 5).1 1) := by
        show (if lv I 2 = true then row1 (I, Q, Z) 2 1 else -1) = ((Z 5).1 1)
        exact (if_pos u5).trans (congrFun (row1_l (v := 3) e6 (by decide)) 1)
      rw [hms]
      exact ⟨rfl, rfl⟩
theorem ra_pr_2_8 {w : Nat → Bool} {d B R : Nat} {h : am_Hp} {I : sm_I} {Q : mQ} {Z : mZ} (hA : RA w B R [] true h (I, Q, Z)) (hR : R + 0 < 40000) (hpk : ∀ k, k < 3 → prk I k) (hbok : ∀ r, r < 2 → bok (Z r)) (hd : 3 ≤ d) : am_Ev (am_prog w) d 186 [.ref 62, .int 2, .int 8] h (fun r h' => r = some (.int (mqpr 2 8 (I, Q, Z))) ∧ h' = h) := by
  obtain ⟨K, Y, am, ln, hS, hU⟩ := RA_u.mp hA
  change sm (tbr am (13 * ln) 77 5088) h (jn I K) Y at hS
  obtain ⟨hW, hWm, -, -, hr, -⟩ := id hU.1
  have hln := RU_ln hU (by omega)
  obtain ⟨d, rfl⟩ : ∃ e, d = e + 1 := ⟨d - 1, by omega⟩
  refine ev_go rfl (Nat.le_of_ble_eq_true rfl) rfl ?_
  have hp0 : prk I 0 := hpk 0 (by decide)
  have hp1 : prk I 1 := hpk 1 (by decide)
  have hp2 : prk I 2 := hpk 2 (by decide)
  refine go_s (pc' := 1) rfl rfl rfl rfl ?_
  refine go_s (pc' := 2) (st' := [.int 0, .int 2]) rfl rfl rfl rfl ?_
  refine go_s (pc' := 3) (st' := [.int 2, .int 0, .int 2]) rfl rfl rfl rfl ?_
  refine go_callS (pc' := 4) rfl rfl rfl (Nat.le_of_ble_eq_true rfl) rfl rfl rfl (rt_within_t (q := 2) (n := 2) (by decide) (by decide) (by omega)) (fun r h1 q2 => ?_)
  obtain ⟨rfl, rfl⟩ := q2
  refine go_ifP (t' := 7) (pc' := 5) rfl rfl rfl (fun _ => ?_) (fun (c : ¬ (¬ (1 : Int32) = 0)) => absurd (by decide) c)
  refine go_s (pc' := 8) rfl rfl rfl rfl ?_
  refine go_ifP (t' := 14) (pc' := 9) rfl rfl rfl (fun _ => ?_) (fun (c : ¬ (¬ (8 : Int32) = 0)) => absurd (by decide) c)
  refine go_s (pc' := 15) rfl rfl rfl rfl ?_
  refine go_s (pc' := 16) (st' := [.int 1, .int 8]) rfl rfl rfl rfl ?_
  refine go_icmpP (t' := 22) (pc' := 17) rfl rfl rfl (fun _ => ?_) (fun (c : ¬ (¬ (8 : Int32) = 1)) => absurd (by decide) c)
  refine go_s (pc' := 23) rfl rfl rfl rfl ?_
  refine go_s (pc' := 24) (st' := [.int 2, .int 8]) rfl rfl rfl rfl ?_
  refine go_icmpP (t' := 34) (pc' := 25) rfl rfl rfl (fun _ => ?_) (fun (c : ¬ (¬ (8 : Int32) = 2)) => absurd (by decide) c)
  refine go_s (pc' := 35) rfl rfl rfl rfl ?_
  refine go_s (pc' := 36) (st' := [.int 4, .int 8]) rfl rfl rfl rfl ?_
  refine go_icmpP (t' := 42) (pc' := 37) rfl rfl rfl (fun _ => ?_) (fun (c : ¬ (¬ (8 : Int32) = 4)) => absurd (by decide) c)
  refine go_s (pc' := 43) rfl rfl rfl rfl ?_
  refine go_ifP (t' := 54) (pc' := 44) rfl rfl rfl (fun (c : (2 : Int32) ≤ 0) => absurd c (by decide)) (fun _ => ?_)
  refine go_s (pc' := 45) rfl rfl rfl rfl ?_
  refine go_s (pc' := 46) (st' := [.int 5, .int 8]) rfl rfl rfl rfl ?_
  refine go_icmpP (t' := 54) (pc' := 47) rfl rfl rfl (fun _ => ?_) (fun (c : ¬ (¬ (8 : Int32) = 5)) => absurd (by decide) c)
  refine go_s (pc' := 55) rfl rfl rfl rfl ?_
  refine go_s (pc' := 56) rfl rfl rfl rfl ?_
  refine go_callV (pc' := 57) rfl rfl rfl (Nat.le_of_ble_eq_true rfl) rfl (sm_o hS rfl) rfl rfl rfl (rt_lives_2 hr hS hp2 (by omega)) (fun r h3 q4 => ?_)
  obtain ⟨rfl, rfl⟩ := q4
  rw [show lv (jn I K) 2 = lv I 2 from rfl]
  cases u5 : lv I 2
  · skip
    show am_Go _ _ _ _ 57 _ [.int 0] _ _
    refine go_ifP (t' := 60) (pc' := 58) rfl rfl rfl (fun (c : ¬ (0 : Int32) = 0) => absurd c (by decide)) (fun _ => ?_)
    refine go_s (pc' := 59) (st' := [.int (-1)]) rfl rfl rfl rfl ?_
    refine go_ret rfl rfl ?_
    have hms : mqpr 2 8 (I, Q, Z) = (-1) := by
      show mqtm 1 8 (I, Q, Z) = -1
      show (if lv I 2 = true then _ else (-1 : Int32)) = -1
      exact (if_neg (by rw [u5]; decide))
    rw [hms]
    exact ⟨rfl, rfl⟩
  · skip
    show am_Go _ _ _ _ 57 _ [.int 1] _ _
    refine go_ifP (t' := 60) (pc' := 58) rfl rfl rfl (fun _ => ?_) (fun (c : ¬ (¬ (1 : Int32) = 0)) => absurd (by decide) c)
    refine go_s (pc' := 61) rfl rfl rfl rfl ?_
    refine go_s (pc' := 62) (st' := [.int 3, .int 8]) rfl rfl rfl rfl ?_
    refine go_icmpP (t' := 68) (pc' := 63) rfl rfl rfl (fun _ => ?_) (fun (c : ¬ (¬ (8 : Int32) = 3)) => absurd (by decide) c)
    rcases (id hp2) with e6 | e6 | e6
    · skip
      exact absurd e6 (lv_up u5).1
    · skip
      refine go_s (pc' := 69) rfl rfl rfl rfl ?_
      refine go_s (pc' := 70) rfl rfl rfl rfl ?_
      refine go_callV (pc' := 71) rfl rfl rfl (Nat.le_of_ble_eq_true rfl) rfl (sm_o hS rfl) rfl rfl rfl (rt_at_2 hr hS (Or.inr (Or.inl e6)) (fun z => absurd (e6.symm.trans z) (by decide)) (by omega)) (fun r h7 q8 => ?_)
      obtain ⟨rfl, rfl⟩ := q8
      rw [show rwi (jn I K) 2 = 4 by unfold rwi pn; rw [show (jn I K) 11 2 = 2 from e6]; rfl]
      show am_Go _ _ _ _ 71 _ [.int 1696] _ _
      refine go_s (pc' := 72) (lo' := [some (.ref 62), some (.int 2), some (.int 8), some (.int 1696)]) rfl rfl rfl rfl ?_
      refine go_s (pc' := 73) rfl rfl rfl rfl ?_
      refine go_ifP (t' := 106) (pc' := 74) rfl rfl rfl (fun (c : (2 : Int32) ≤ 0) => absurd c (by decide)) (fun _ => ?_)
      refine go_s (pc' := 75) rfl rfl rfl rfl ?_
      refine go_s (pc' := 76) (st' := [.int 6, .int 8]) rfl rfl rfl rfl ?_
      refine go_icmpP (t' := 84) (pc' := 77) rfl rfl rfl (fun _ => ?_) (fun (c : ¬ (¬ (8 : Int32) = 6)) => absurd (by decide) c)
      refine go_s (pc' := 85) rfl rfl rfl rfl ?_
      refine go_s (pc' := 86) (st' := [.int 7, .int 8]) rfl rfl rfl rfl ?_
      refine go_icmpP (t' := 94) (pc' := 87) rfl rfl rfl (fun _ => ?_) (fun (c : ¬ (¬ (8 : Int32) = 7)) => absurd (by decide) c)
      refine go_s (pc' := 95) rfl rfl rfl rfl ?_
      refine go_s (pc' := 96) (st' := [.int 8, .int 8]) rfl rfl rfl rfl ?_
      refine go_icmpP (t' := 104) (pc' := 97) rfl rfl rfl (fun (c : ¬ (8 : Int32) = 8) => absurd c (by decide)) (fun _ => ?_)
      refine go_s (pc' := 98) rfl rfl rfl rfl ?_
      refine go_sget (pc' := 99) (v := .ref 77) hS rfl rfl rfl (by decide) rfl rfl ?_
      refine go_s (pc' := 100) rfl rfl rfl rfl ?_
      refine go_s (pc' := 101) (st' := [.int 5, .int 1696, .ref 77]) rfl rfl rfl rfl ?_
      refine go_s (pc' := 102) (st' := [.int 1701, .ref 77]) rfl rfl rfl rfl ?_
      refine go_sald (pc' := 103) (q := 1701) (v := .int ((Z 4).1 5)) hS rfl (tr_as hr (by omega)) rfl rfl (by decide) (congrArg Value.int (RR_t hU.2.1 (i := 4) (by decide) (by decide) 5 (by decide))) rfl ?_
      refine go_s (pc' := 105) rfl rfl rfl rfl ?_
      refine go_ret rfl rfl ?_
      have hms : mqpr 2 8 (I, Q, Z) = ((Z 4).1 5) := by
        show (if lv I 2 = true then row1 (I, Q, Z) 2 5 else -1) = ((Z 4).1 5)
        exact (if_pos u5).trans (congrFun (row1_l (v := 2) e6 (by decide)) 5)
      rw [hms]
      exact ⟨rfl, rfl⟩
    · skip
      refine go_s (pc' := 69) rfl rfl rfl rfl ?_
      refine go_s (pc' := 70) rfl rfl rfl rfl ?_
      refine go_callV (pc' := 71) rfl rfl rfl (Nat.le_of_ble_eq_true rfl) rfl (sm_o hS rfl) rfl rfl rfl (rt_at_2 hr hS (Or.inr (Or.inr e6)) (fun z => absurd (e6.symm.trans z) (by decide)) (by omega)) (fun r h9 q10 => ?_)
      obtain ⟨rfl, rfl⟩ := q10
      rw [show rwi (jn I K) 2 = 5 by unfold rwi pn; rw [show (jn I K) 11 2 = 3 from e6]; rfl]
      show am_Go _ _ _ _ 71 _ [.int 2120] _ _
      refine go_s (pc' := 72) (lo' := [some (.ref 62), some (.int 2), some (.int 8), some (.int 2120)]) rfl rfl rfl rfl ?_
      refine go_s (pc' := 73) rfl rfl rfl rfl ?_
      refine go_ifP (t' := 106) (pc' := 74) rfl rfl rfl (fun (c : (2 : Int32) ≤ 0) => absurd c (by decide)) (fun _ => ?_)
      refine go_s (pc' := 75) rfl rfl rfl rfl ?_
      refine go_s (pc' := 76) (st' := [.int 6, .int 8]) rfl rfl rfl rfl ?_
      refine go_icmpP (t' := 84) (pc' := 77) rfl rfl rfl (fun _ => ?_) (fun (c : ¬ (¬ (8 : Int32) = 6)) => absurd (by decide) c)
      refine go_s (pc' := 85) rfl rfl rfl rfl ?_
      refine go_s (pc' := 86) (st' := [.int 7, .int 8]) rfl rfl rfl rfl ?_
      refine go_icmpP (t' := 94) (pc' := 87) rfl rfl rfl (fun _ => ?_) (fun (c : ¬ (¬ (8 : Int32) = 7)) => absurd (by decide) c)
      refine go_s (pc' := 95) rfl rfl rfl rfl ?_
      refine go_s (pc' := 96) (st' := [.int 8, .int 8]) rfl rfl rfl rfl ?_
      refine go_icmpP (t' := 104) (pc' := 97) rfl rfl rfl (fun (c : ¬ (8 : Int32) = 8) => absurd c (by decide)) (fun _ => ?_)
      refine go_s (pc' := 98) rfl rfl rfl rfl ?_
      refine go_sget (pc' := 99) (v := .ref 77) hS rfl rfl rfl (by decide) rfl rfl ?_
      refine go_s (pc' := 100) rfl rfl rfl rfl ?_
      refine go_s (pc' := 101) (st' := [.int 5, .int 2120, .ref 77]) rfl rfl rfl rfl ?_
      refine go_s (pc' := 102) (st' := [.int 2125, .ref 77]) rfl rfl rfl rfl ?_
      refine go_sald (pc' := 103) (q := 2125) (v := .int ((Z 5).1 5)) hS rfl (tr_as hr (by omega)) rfl rfl (by decide) (congrArg Value.int (RR_t hU.2.1 (i := 5) (by decide) (by decide) 5 (by decide))) rfl ?_
      refine go_s (pc' := 105) rfl rfl rfl rfl ?_
      refine go_ret rfl rfl ?_
      have hms : mqpr 2 8 (I, Q, Z) = ((Z 5).1 5) := by
        show (if lv I 2 = true then row1 (I, Q, Z) 2 5 else -1) = ((Z 5).1 5)
        exact (if_pos u5).trans (congrFun (row1_l (v := 3) e6 (by decide)) 5)
      rw [hms]
      exact ⟨rfl, rfl⟩
theorem ra_pr_2_9 {w : Nat → Bool} {d B R : Nat} {h : am_Hp} {I : sm_I} {Q : mQ} {Z : mZ} (hA : RA w B R [] true h (I, Q, Z)) (hR : R + 0 < 40000) (hpk : ∀ k, k < 3 → prk I k) (hbok : ∀ r, r < 2 → bok (Z r)) (hd : 3 ≤ d) : am_Ev (am_prog w) d 186 [.ref 62, .int 2, .int 9] h (fun r h' => r = some (.int (mqpr 2 9 (I, Q, Z))) ∧ h' = h) := by
  obtain ⟨K, Y, am, ln, hS, hU⟩ := RA_u.mp hA
  change sm (tbr am (13 * ln) 77 5088) h (jn I K) Y at hS
  obtain ⟨hW, hWm, -, -, hr, -⟩ := id hU.1
  have hln := RU_ln hU (by omega)
  obtain ⟨d, rfl⟩ : ∃ e, d = e + 1 := ⟨d - 1, by omega⟩
  refine ev_go rfl (Nat.le_of_ble_eq_true rfl) rfl ?_
  have hp0 : prk I 0 := hpk 0 (by decide)
  have hp1 : prk I 1 := hpk 1 (by decide)
  have hp2 : prk I 2 := hpk 2 (by decide)
  refine go_s (pc' := 1) rfl rfl rfl rfl ?_
  refine go_s (pc' := 2) (st' := [.int 0, .int 2]) rfl rfl rfl rfl ?_
  refine go_s (pc' := 3) (st' := [.int 2, .int 0, .int 2]) rfl rfl rfl rfl ?_
  refine go_callS (pc' := 4) rfl rfl rfl (Nat.le_of_ble_eq_true rfl) rfl rfl rfl (rt_within_t (q := 2) (n := 2) (by decide) (by decide) (by omega)) (fun r h1 q2 => ?_)
  obtain ⟨rfl, rfl⟩ := q2
  refine go_ifP (t' := 7) (pc' := 5) rfl rfl rfl (fun _ => ?_) (fun (c : ¬ (¬ (1 : Int32) = 0)) => absurd (by decide) c)
  refine go_s (pc' := 8) rfl rfl rfl rfl ?_
  refine go_ifP (t' := 14) (pc' := 9) rfl rfl rfl (fun _ => ?_) (fun (c : ¬ (¬ (9 : Int32) = 0)) => absurd (by decide) c)
  refine go_s (pc' := 15) rfl rfl rfl rfl ?_
  refine go_s (pc' := 16) (st' := [.int 1, .int 9]) rfl rfl rfl rfl ?_
  refine go_icmpP (t' := 22) (pc' := 17) rfl rfl rfl (fun _ => ?_) (fun (c : ¬ (¬ (9 : Int32) = 1)) => absurd (by decide) c)
  refine go_s (pc' := 23) rfl rfl rfl rfl ?_
  refine go_s (pc' := 24) (st' := [.int 2, .int 9]) rfl rfl rfl rfl ?_
  refine go_icmpP (t' := 34) (pc' := 25) rfl rfl rfl (fun _ => ?_) (fun (c : ¬ (¬ (9 : Int32) = 2)) => absurd (by decide) c)
  refine go_s (pc' := 35) rfl rfl rfl rfl ?_
  refine go_s (pc' := 36) (st' := [.int 4, .int 9]) rfl rfl rfl rfl ?_
  refine go_icmpP (t' := 42) (pc' := 37) rfl rfl rfl (fun _ => ?_) (fun (c : ¬ (¬ (9 : Int32) = 4)) => absurd (by decide) c)
  refine go_s (pc' := 43) rfl rfl rfl rfl ?_
  refine go_ifP (t' := 54) (pc' := 44) rfl rfl rfl (fun (c : (2 : Int32) ≤ 0) => absurd c (by decide)) (fun _ => ?_)
  refine go_s (pc' := 45) rfl rfl rfl rfl ?_
  refine go_s (pc' := 46) (st' := [.int 5, .int 9]) rfl rfl rfl rfl ?_
  refine go_icmpP (t' := 54) (pc' := 47) rfl rfl rfl (fun _ => ?_) (fun (c : ¬ (¬ (9 : Int32) = 5)) => absurd (by decide) c)
  refine go_s (pc' := 55) rfl rfl rfl rfl ?_
  refine go_s (pc' := 56) rfl rfl rfl rfl ?_
  refine go_callV (pc' := 57) rfl rfl rfl (Nat.le_of_ble_eq_true rfl) rfl (sm_o hS rfl) rfl rfl rfl (rt_lives_2 hr hS hp2 (by omega)) (fun r h3 q4 => ?_)
  obtain ⟨rfl, rfl⟩ := q4
  rw [show lv (jn I K) 2 = lv I 2 from rfl]
  cases u5 : lv I 2
  · skip
    show am_Go _ _ _ _ 57 _ [.int 0] _ _
    refine go_ifP (t' := 60) (pc' := 58) rfl rfl rfl (fun (c : ¬ (0 : Int32) = 0) => absurd c (by decide)) (fun _ => ?_)
    refine go_s (pc' := 59) (st' := [.int (-1)]) rfl rfl rfl rfl ?_
    refine go_ret rfl rfl ?_
    have hms : mqpr 2 9 (I, Q, Z) = (-1) := by
      unfold mqpr
      rw [if_neg (by decide), if_neg (by decide), if_neg (by decide), if_neg (by decide), if_neg (by decide), if_neg (by decide)]
      unfold mqtm
      rw [if_neg (by decide)]
      exact if_neg (by rw [show lv ((I, Q, Z) : mM).1 (1 + (2 - 1)) = false from u5]; decide)
    rw [hms]
    exact ⟨rfl, rfl⟩
  · skip
    show am_Go _ _ _ _ 57 _ [.int 1] _ _
    refine go_ifP (t' := 60) (pc' := 58) rfl rfl rfl (fun _ => ?_) (fun (c : ¬ (¬ (1 : Int32) = 0)) => absurd (by decide) c)
    refine go_s (pc' := 61) rfl rfl rfl rfl ?_
    refine go_s (pc' := 62) (st' := [.int 3, .int 9]) rfl rfl rfl rfl ?_
    refine go_icmpP (t' := 68) (pc' := 63) rfl rfl rfl (fun _ => ?_) (fun (c : ¬ (¬ (9 : Int32) = 3)) => absurd (by decide) c)
    rcases (id hp2) with e6 | e6 | e6
    · skip
      exact absurd e6 (lv_up u5).1
    · skip
      refine go_s (pc' := 69) rfl rfl rfl rfl ?_
      refine go_s (pc' := 70) rfl rfl rfl rfl ?_
      refine go_callV (pc' := 71) rfl rfl rfl (Nat.le_of_ble_eq_true rfl) rfl (sm_o hS rfl) rfl rfl rfl (rt_at_2 hr hS (Or.inr (Or.inl e6)) (fun z => absurd (e6.symm.trans z) (by decide)) (by omega)) (fun r h7 q8 => ?_)
      obtain ⟨rfl, rfl⟩ := q8
      rw [show rwi (jn I K) 2 = 4 by unfold rwi pn; rw [show (jn I K) 11 2 = 2 from e6]; rfl]
      show am_Go _ _ _ _ 71 _ [.int 1696] _ _
      refine go_s (pc' := 72) (lo' := [some (.ref 62), some (.int 2), some (.int 9), some (.int 1696)]) rfl rfl rfl rfl ?_
      refine go_s (pc' := 73) rfl rfl rfl rfl ?_
      refine go_ifP (t' := 106) (pc' := 74) rfl rfl rfl (fun (c : (2 : Int32) ≤ 0) => absurd c (by decide)) (fun _ => ?_)
      refine go_s (pc' := 75) rfl rfl rfl rfl ?_
      refine go_s (pc' := 76) (st' := [.int 6, .int 9]) rfl rfl rfl rfl ?_
      refine go_icmpP (t' := 84) (pc' := 77) rfl rfl rfl (fun _ => ?_) (fun (c : ¬ (¬ (9 : Int32) = 6)) => absurd (by decide) c)
      refine go_s (pc' := 85) rfl rfl rfl rfl ?_
      refine go_s (pc' := 86) (st' := [.int 7, .int 9]) rfl rfl rfl rfl ?_
      refine go_icmpP (t' := 94) (pc' := 87) rfl rfl rfl (fun _ => ?_) (fun (c : ¬ (¬ (9 : Int32) = 7)) => absurd (by decide) c)
      refine go_s (pc' := 95) rfl rfl rfl rfl ?_
      refine go_s (pc' := 96) (st' := [.int 8, .int 9]) rfl rfl rfl rfl ?_
      refine go_icmpP (t' := 104) (pc' := 97) rfl rfl rfl (fun _ => ?_) (fun (c : ¬ (¬ (9 : Int32) = 8)) => absurd (by decide) c)
      refine go_s (pc' := 105) (st' := [.int (-1)]) rfl rfl rfl rfl ?_
      refine go_ret rfl rfl ?_
      have hms : mqpr 2 9 (I, Q, Z) = (-1) := by
        unfold mqpr
        rw [if_neg (by decide), if_neg (by decide), if_neg (by decide), if_neg (by decide), if_neg (by decide), if_neg (by decide)]
        unfold mqtm
        rw [if_neg (by decide)]
        rw [if_pos (show lv ((I, Q, Z) : mM).1 (1 + (2 - 1)) = true from u5), if_neg (by decide), if_neg (by decide), if_neg (by decide)]
      rw [hms]
      exact ⟨rfl, rfl⟩
    · skip
      refine go_s (pc' := 69) rfl rfl rfl rfl ?_
      refine go_s (pc' := 70) rfl rfl rfl rfl ?_
      refine go_callV (pc' := 71) rfl rfl rfl (Nat.le_of_ble_eq_true rfl) rfl (sm_o hS rfl) rfl rfl rfl (rt_at_2 hr hS (Or.inr (Or.inr e6)) (fun z => absurd (e6.symm.trans z) (by decide)) (by omega)) (fun r h9 q10 => ?_)
      obtain ⟨rfl, rfl⟩ := q10
      rw [show rwi (jn I K) 2 = 5 by unfold rwi pn; rw [show (jn I K) 11 2 = 3 from e6]; rfl]
      show am_Go _ _ _ _ 71 _ [.int 2120] _ _
      refine go_s (pc' := 72) (lo' := [some (.ref 62), some (.int 2), some (.int 9), some (.int 2120)]) rfl rfl rfl rfl ?_
      refine go_s (pc' := 73) rfl rfl rfl rfl ?_
      refine go_ifP (t' := 106) (pc' := 74) rfl rfl rfl (fun (c : (2 : Int32) ≤ 0) => absurd c (by decide)) (fun _ => ?_)
      refine go_s (pc' := 75) rfl rfl rfl rfl ?_
      refine go_s (pc' := 76) (st' := [.int 6, .int 9]) rfl rfl rfl rfl ?_
      refine go_icmpP (t' := 84) (pc' := 77) rfl rfl rfl (fun _ => ?_) (fun (c : ¬ (¬ (9 : Int32) = 6)) => absurd (by decide) c)
      refine go_s (pc' := 85) rfl rfl rfl rfl ?_
      refine go_s (pc' := 86) (st' := [.int 7, .int 9]) rfl rfl rfl rfl ?_
      refine go_icmpP (t' := 94) (pc' := 87) rfl rfl rfl (fun _ => ?_) (fun (c : ¬ (¬ (9 : Int32) = 7)) => absurd (by decide) c)
      refine go_s (pc' := 95) rfl rfl rfl rfl ?_
      refine go_s (pc' := 96) (st' := [.int 8, .int 9]) rfl rfl rfl rfl ?_
      refine go_icmpP (t' := 104) (pc' := 97) rfl rfl rfl (fun _ => ?_) (fun (c : ¬ (¬ (9 : Int32) = 8)) => absurd (by decide) c)
      refine go_s (pc' := 105) (st' := [.int (-1)]) rfl rfl rfl rfl ?_
      refine go_ret rfl rfl ?_
      have hms : mqpr 2 9 (I, Q, Z) = (-1) := by
        unfold mqpr
        rw [if_neg (by decide), if_neg (by decide), if_neg (by decide), if_neg (by decide), if_neg (by decide), if_neg (by decide)]
        unfold mqtm
        rw [if_neg (by decide)]
        rw [if_pos (show lv ((I, Q, Z) : mM).1 (1 + (2 - 1)) = true from u5), if_neg (by decide), if_neg (by decide), if_neg (by decide)]
      rw [hms]
      exact ⟨rfl, rfl⟩
theorem ra_pr_2_10 {w : Nat → Bool} {d B R : Nat} {h : am_Hp} {I : sm_I} {Q : mQ} {Z : mZ} (hA : RA w B R [] true h (I, Q, Z)) (hR : R + 0 < 40000) (hpk : ∀ k, k < 3 → prk I k) (hbok : ∀ r, r < 2 → bok (Z r)) (hd : 3 ≤ d) : am_Ev (am_prog w) d 186 [.ref 62, .int 2, .int 10] h (fun r h' => r = some (.int (mqpr 2 10 (I, Q, Z))) ∧ h' = h) := by
  obtain ⟨K, Y, am, ln, hS, hU⟩ := RA_u.mp hA
  change sm (tbr am (13 * ln) 77 5088) h (jn I K) Y at hS
  obtain ⟨hW, hWm, -, -, hr, -⟩ := id hU.1
  have hln := RU_ln hU (by omega)
  obtain ⟨d, rfl⟩ : ∃ e, d = e + 1 := ⟨d - 1, by omega⟩
  refine ev_go rfl (Nat.le_of_ble_eq_true rfl) rfl ?_
  have hp0 : prk I 0 := hpk 0 (by decide)
  have hp1 : prk I 1 := hpk 1 (by decide)
  have hp2 : prk I 2 := hpk 2 (by decide)
  refine go_s (pc' := 1) rfl rfl rfl rfl ?_
  refine go_s (pc' := 2) (st' := [.int 0, .int 2]) rfl rfl rfl rfl ?_
  refine go_s (pc' := 3) (st' := [.int 2, .int 0, .int 2]) rfl rfl rfl rfl ?_
  refine go_callS (pc' := 4) rfl rfl rfl (Nat.le_of_ble_eq_true rfl) rfl rfl rfl (rt_within_t (q := 2) (n := 2) (by decide) (by decide) (by omega)) (fun r h1 q2 => ?_)
  obtain ⟨rfl, rfl⟩ := q2
  refine go_ifP (t' := 7) (pc' := 5) rfl rfl rfl (fun _ => ?_) (fun (c : ¬ (¬ (1 : Int32) = 0)) => absurd (by decide) c)
  refine go_s (pc' := 8) rfl rfl rfl rfl ?_
  refine go_ifP (t' := 14) (pc' := 9) rfl rfl rfl (fun _ => ?_) (fun (c : ¬ (¬ (10 : Int32) = 0)) => absurd (by decide) c)
  refine go_s (pc' := 15) rfl rfl rfl rfl ?_
  refine go_s (pc' := 16) (st' := [.int 1, .int 10]) rfl rfl rfl rfl ?_
  refine go_icmpP (t' := 22) (pc' := 17) rfl rfl rfl (fun _ => ?_) (fun (c : ¬ (¬ (10 : Int32) = 1)) => absurd (by decide) c)
  refine go_s (pc' := 23) rfl rfl rfl rfl ?_
  refine go_s (pc' := 24) (st' := [.int 2, .int 10]) rfl rfl rfl rfl ?_
  refine go_icmpP (t' := 34) (pc' := 25) rfl rfl rfl (fun _ => ?_) (fun (c : ¬ (¬ (10 : Int32) = 2)) => absurd (by decide) c)
  refine go_s (pc' := 35) rfl rfl rfl rfl ?_
  refine go_s (pc' := 36) (st' := [.int 4, .int 10]) rfl rfl rfl rfl ?_
  refine go_icmpP (t' := 42) (pc' := 37) rfl rfl rfl (fun _ => ?_) (fun (c : ¬ (¬ (10 : Int32) = 4)) => absurd (by decide) c)
  refine go_s (pc' := 43) rfl rfl rfl rfl ?_
  refine go_ifP (t' := 54) (pc' := 44) rfl rfl rfl (fun (c : (2 : Int32) ≤ 0) => absurd c (by decide)) (fun _ => ?_)
  refine go_s (pc' := 45) rfl rfl rfl rfl ?_
  refine go_s (pc' := 46) (st' := [.int 5, .int 10]) rfl rfl rfl rfl ?_
  refine go_icmpP (t' := 54) (pc' := 47) rfl rfl rfl (fun _ => ?_) (fun (c : ¬ (¬ (10 : Int32) = 5)) => absurd (by decide) c)
  refine go_s (pc' := 55) rfl rfl rfl rfl ?_
  refine go_s (pc' := 56) rfl rfl rfl rfl ?_
  refine go_callV (pc' := 57) rfl rfl rfl (Nat.le_of_ble_eq_true rfl) rfl (sm_o hS rfl) rfl rfl rfl (rt_lives_2 hr hS hp2 (by omega)) (fun r h3 q4 => ?_)
  obtain ⟨rfl, rfl⟩ := q4
  rw [show lv (jn I K) 2 = lv I 2 from rfl]
  cases u5 : lv I 2
  · skip
    show am_Go _ _ _ _ 57 _ [.int 0] _ _
    refine go_ifP (t' := 60) (pc' := 58) rfl rfl rfl (fun (c : ¬ (0 : Int32) = 0) => absurd c (by decide)) (fun _ => ?_)
    refine go_s (pc' := 59) (st' := [.int (-1)]) rfl rfl rfl rfl ?_
    refine go_ret rfl rfl ?_
    have hms : mqpr 2 10 (I, Q, Z) = (-1) := by
      unfold mqpr
      rw [if_neg (by decide), if_neg (by decide), if_neg (by decide), if_neg (by decide), if_neg (by decide), if_neg (by decide)]
      unfold mqtm
      rw [if_neg (by decide)]
      exact if_neg (by rw [show lv ((I, Q, Z) : mM).1 (1 + (2 - 1)) = false from u5]; decide)
    rw [hms]
    exact ⟨rfl, rfl⟩
  · skip
    show am_Go _ _ _ _ 57 _ [.int 1] _ _
    refine go_ifP (t' := 60) (pc' := 58) rfl rfl rfl (fun _ => ?_) (fun (c : ¬ (¬ (1 : Int32) = 0)) => absurd (by decide) c)
    refine go_s (pc' := 61) rfl rfl rfl rfl ?_
    refine go_s (pc' := 62) (st' := [.int 3, .int 10]) rfl rfl rfl rfl ?_
    refine go_icmpP (t' := 68) (pc' := 63) rfl rfl rfl (fun _ => ?_) (fun (c : ¬ (¬ (10 : Int32) = 3)) => absurd (by decide) c)
    rcases (id hp2) with e6 | e6 | e6
    · skip
      exact absurd e6 (lv_up u5).1
    · skip
      refine go_s (pc' := 69) rfl rfl rfl rfl ?_
      refine go_s (pc' := 70) rfl rfl rfl rfl ?_
      refine go_callV (pc' := 71) rfl rfl rfl (Nat.le_of_ble_eq_true rfl) rfl (sm_o hS rfl) rfl rfl rfl (rt_at_2 hr hS (Or.inr (Or.inl e6)) (fun z => absurd (e6.symm.trans z) (by decide)) (by omega)) (fun r h7 q8 => ?_)
      obtain ⟨rfl, rfl⟩ := q8
      rw [show rwi (jn I K) 2 = 4 by unfold rwi pn; rw [show (jn I K) 11 2 = 2 from e6]; rfl]
      show am_Go _ _ _ _ 71 _ [.int 1696] _ _
      refine go_s (pc' := 72) (lo' := [some (.ref 62), some (.int 2), some (.int 10), some (.int 1696)]) rfl rfl rfl rfl ?_
      refine go_s (pc' := 73) rfl rfl rfl rfl ?_
      refine go_ifP (t' := 106) (pc' := 74) rfl rfl rfl (fun (c : (2 : Int32) ≤ 0) => absurd c (by decide)) (fun _ => ?_)
      refine go_s (pc' := 75) rfl rfl rfl rfl ?_
      refine go_s (pc' := 76) (st' := [.int 6, .int 10]) rfl rfl rfl rfl ?_
      refine go_icmpP (t' := 84) (pc' := 77) rfl rfl rfl (fun _ => ?_) (fun (c : ¬ (¬ (10 : Int32) = 6)) => absurd (by decide) c)
      refine go_s (pc' := 85) rfl rfl rfl rfl ?_
      refine go_s (pc' := 86) (st' := [.int 7, .int 10]) rfl rfl rfl rfl ?_
      refine go_icmpP (t' := 94) (pc' := 87) rfl rfl rfl (fun _ => ?_) (fun (c : ¬ (¬ (10 : Int32) = 7)) => absurd (by decide) c)
      refine go_s (pc' := 95) rfl rfl rfl rfl ?_
      refine go_s (pc' := 96) (st' := [.int 8, .int 10]) rfl rfl rfl rfl ?_
      refine go_icmpP (t' := 104) (pc' := 97) rfl rfl rfl (fun _ => ?_) (fun (c : ¬ (¬ (10 : Int32) = 8)) => absurd (by decide) c)
      refine go_s (pc' := 105) (st' := [.int (-1)]) rfl rfl rfl rfl ?_
      refine go_ret rfl rfl ?_
      have hms : mqpr 2 10 (I, Q, Z) = (-1) := by
        unfold mqpr
        rw [if_neg (by decide), if_neg (by decide), if_neg (by decide), if_neg (by decide), if_neg (by decide), if_neg (by decide)]
        unfold mqtm
        rw [if_neg (by decide)]
        rw [if_pos (show lv ((I, Q, Z) : mM).1 (1 + (2 - 1)) = true from u5), if_neg (by decide), if_neg (by decide), if_neg (by decide)]
      rw [hms]
      exact ⟨rfl, rfl⟩
    · skip
      refine go_s (pc' := 69) rfl rfl rfl rfl ?_
      refine go_s (pc' := 70) rfl rfl rfl rfl ?_
      refine go_callV (pc' := 71) rfl rfl rfl (Nat.le_of_ble_eq_true rfl) rfl (sm_o hS rfl) rfl rfl rfl (rt_at_2 hr hS (Or.inr (Or.inr e6)) (fun z => absurd (e6.symm.trans z) (by decide)) (by omega)) (fun r h9 q10 => ?_)
      obtain ⟨rfl, rfl⟩ := q10
      rw [show rwi (jn I K) 2 = 5 by unfold rwi pn; rw [show (jn I K) 11 2 = 3 from e6]; rfl]
      show am_Go _ _ _ _ 71 _ [.int 2120] _ _
      refine go_s (pc' := 72) (lo' := [some (.ref 62), some (.int 2), some (.int 10), some (.int 2120)]) rfl rfl rfl rfl ?_
      refine go_s (pc' := 73) rfl rfl rfl rfl ?_
      refine go_ifP (t' := 106) (pc' := 74) rfl rfl rfl (fun (c : (2 : Int32) ≤ 0) => absurd c (by decide)) (fun _ => ?_)
      refine go_s (pc' := 75) rfl rfl rfl rfl ?_
      refine go_s (pc' := 76) (st' := [.int 6, .int 10]) rfl rfl rfl rfl ?_
      refine go_icmpP (t' := 84) (pc' := 77) rfl rfl rfl (fun _ => ?_) (fun (c : ¬ (¬ (10 : Int32) = 6)) => absurd (by decide) c)
      refine go_s (pc' := 85) rfl rfl rfl rfl ?_
      refine go_s (pc' := 86) (st' := [.int 7, .int 10]) rfl rfl rfl rfl ?_
      refine go_icmpP (t' := 94) (pc' := 87) rfl rfl rfl (fun _ => ?_) (fun (c : ¬ (¬ (10 : Int32) = 7)) => absurd (by decide) c)
      refine go_s (pc' := 95) rfl rfl rfl rfl ?_
      refine go_s (pc' := 96) (st' := [.int 8, .int 10]) rfl rfl rfl rfl ?_
      refine go_icmpP (t' := 104) (pc' := 97) rfl rfl rfl (fun _ => ?_) (fun (c : ¬ (¬ (10 : Int32) = 8)) => absurd (by decide) c)
      refine go_s (pc' := 105) (st' := [.int (-1)]) rfl rfl rfl rfl ?_
      refine go_ret rfl rfl ?_
      have hms : mqpr 2 10 (I, Q, Z) = (-1) := by
        unfold mqpr
        rw [if_neg (by decide), if_neg (by decide), if_neg (by decide), if_neg (by decide), if_neg (by decide), if_neg (by decide)]
        unfold mqtm
        rw [if_neg (by decide)]
        rw [if_pos (show lv ((I, Q, Z) : mM).1 (1 + (2 - 1)) = true from u5), if_neg (by decide), if_neg (by decide), if_neg (by decide)]
      rw [hms]
      exact ⟨rfl, rfl⟩
theorem ra_pr_2_n {w : Nat → Bool} {d B R : Nat} {h : am_Hp} {I : sm_I} {Q : mQ} {Z : mZ} (hA : RA w B R [] true h (I, Q, Z)) (hR : R + 0 < 40000) (hpk : ∀ k, k < 3 → prk I k) (hbok : ∀ r, r < 2 → bok (Z r)) {x : Int32} (x0 : ¬ x = 0) (x1 : ¬ x = 1) (x2 : ¬ x = 2) (x3 : ¬ x = 3) (x4 : ¬ x = 4) (x5 : ¬ x = 5) (x6 : ¬ x = 6) (x7 : ¬ x = 7) (x8 : ¬ x = 8) (x9 : ¬ x = 9) (x10 : ¬ x = 10) (hd : 3 ≤ d) : am_Ev (am_prog w) d 186 [.ref 62, .int 2, .int x] h (fun r h' => r = some (.int (mqpr 2 x (I, Q, Z))) ∧ h' = h) := by
  obtain ⟨K, Y, am, ln, hS, hU⟩ := RA_u.mp hA
  change sm (tbr am (13 * ln) 77 5088) h (jn I K) Y at hS
  obtain ⟨hW, hWm, -, -, hr, -⟩ := id hU.1
  have hln := RU_ln hU (by omega)
  obtain ⟨d, rfl⟩ : ∃ e, d = e + 1 := ⟨d - 1, by omega⟩
  refine ev_go rfl (Nat.le_of_ble_eq_true rfl) rfl ?_
  have hp0 : prk I 0 := hpk 0 (by decide)
  have hp1 : prk I 1 := hpk 1 (by decide)
  have hp2 : prk I 2 := hpk 2 (by decide)
  refine go_s (pc' := 1) rfl rfl rfl rfl ?_
  refine go_s (pc' := 2) (st' := [.int 0, .int 2]) rfl rfl rfl rfl ?_
  refine go_s (pc' := 3) (st' := [.int 2, .int 0, .int 2]) rfl rfl rfl rfl ?_
  refine go_callS (pc' := 4) rfl rfl rfl (Nat.le_of_ble_eq_true rfl) rfl rfl rfl (rt_within_t (q := 2) (n := 2) (by decide) (by decide) (by omega)) (fun r h1 q2 => ?_)
  obtain ⟨rfl, rfl⟩ := q2
  refine go_ifP (t' := 7) (pc' := 5) rfl rfl rfl (fun _ => ?_) (fun (c : ¬ (¬ (1 : Int32) = 0)) => absurd (by decide) c)
  refine go_s (pc' := 8) rfl rfl rfl rfl ?_
  refine go_ifP (t' := 14) (pc' := 9) rfl rfl rfl (fun _ => ?_) (fun (c : ¬ (¬ x = 0)) => absurd x0 c)
  refine go_s (pc' := 15) rfl rfl rfl rfl ?_
  refine go_s (pc' := 16) (st' := [.int 1, .int x]) rfl rfl rfl rfl ?_
  refine go_icmpP (t' := 22) (pc' := 17) rfl rfl rfl (fun _ => ?_) (fun (c : ¬ (¬ x = 1)) => absurd x1 c)
  refine go_s (pc' := 23) rfl rfl rfl rfl ?_
  refine go_s (pc' := 24) (st' := [.int 2, .int x]) rfl rfl rfl rfl ?_
  refine go_icmpP (t' := 34) (pc' := 25) rfl rfl rfl (fun _ => ?_) (fun (c : ¬ (¬ x = 2)) => absurd x2 c)
  refine go_s (pc' := 35) rfl rfl rfl rfl ?_
  refine go_s (pc' := 36) (st' := [.int 4, .int x]) rfl rfl rfl rfl ?_
  refine go_icmpP (t' := 42) (pc' := 37) rfl rfl rfl (fun _ => ?_) (fun (c : ¬ (¬ x = 4)) => absurd x4 c)
  refine go_s (pc' := 43) rfl rfl rfl rfl ?_
  refine go_ifP (t' := 54) (pc' := 44) rfl rfl rfl (fun (c : (2 : Int32) ≤ 0) => absurd c (by decide)) (fun _ => ?_)
  refine go_s (pc' := 45) rfl rfl rfl rfl ?_
  refine go_s (pc' := 46) (st' := [.int 5, .int x]) rfl rfl rfl rfl ?_
  refine go_icmpP (t' := 54) (pc' := 47) rfl rfl rfl (fun _ => ?_) (fun (c : ¬ (¬ x = 5)) => absurd x5 c)
  refine go_s (pc' := 55) rfl rfl rfl rfl ?_
  refine go_s (pc' := 56) rfl rfl rfl rfl ?_
  refine go_callV (pc' := 57) rfl rfl rfl (Nat.le_of_ble_eq_true rfl) rfl (sm_o hS rfl) rfl rfl rfl (rt_lives_2 hr hS hp2 (by omega)) (fun r h3 q4 => ?_)
  obtain ⟨rfl, rfl⟩ := q4
  rw [show lv (jn I K) 2 = lv I 2 from rfl]
  cases u5 : lv I 2
  · skip
    show am_Go _ _ _ _ 57 _ [.int 0] _ _
    refine go_ifP (t' := 60) (pc' := 58) rfl rfl rfl (fun (c : ¬ (0 : Int32) = 0) => absurd c (by decide)) (fun _ => ?_)
    refine go_s (pc' := 59) (st' := [.int (-1)]) rfl rfl rfl rfl ?_
    refine go_ret rfl rfl ?_
    have hms : mqpr 2 x (I, Q, Z) = (-1) := by
      unfold mqpr
      rw [if_neg x0, if_neg x1, if_neg x2, if_neg x3, if_neg x4, if_neg (by decide)]
      unfold mqtm
      rw [if_neg x5]
      exact if_neg (by rw [show lv ((I, Q, Z) : mM).1 (1 + (2 - 1)) = false from u5]; decide)
    rw [hms]
    exact ⟨rfl, rfl⟩
  · skip
    show am_Go _ _ _ _ 57 _ [.int 1] _ _
    refine go_ifP (t' := 60) (pc' := 58) rfl rfl rfl (fun _ => ?_) (fun (c : ¬ (¬ (1 : Int32) = 0)) => absurd (by decide) c)
    refine go_s (pc' := 61) rfl rfl rfl rfl ?_
    refine go_s (pc' := 62) (st' := [.int 3, .int x]) rfl rfl rfl rfl ?_
    refine go_icmpP (t' := 68) (pc' := 63) rfl rfl rfl (fun _ => ?_) (fun (c : ¬ (¬ x = 3)) => absurd x3 c)
    rcases (id hp2) with e6 | e6 | e6
    · skip
      exact absurd e6 (lv_up u5).1
    · skip
      refine go_s (pc' := 69) rfl rfl rfl rfl ?_
      refine go_s (pc' := 70) rfl rfl rfl rfl ?_
      refine go_callV (pc' := 71) rfl rfl rfl (Nat.le_of_ble_eq_true rfl) rfl (sm_o hS rfl) rfl rfl rfl (rt_at_2 hr hS (Or.inr (Or.inl e6)) (fun z => absurd (e6.symm.trans z) (by decide)) (by omega)) (fun r h7 q8 => ?_)
      obtain ⟨rfl, rfl⟩ := q8
      rw [show rwi (jn I K) 2 = 4 by unfold rwi pn; rw [show (jn I K) 11 2 = 2 from e6]; rfl]
      show am_Go _ _ _ _ 71 _ [.int 1696] _ _
      refine go_s (pc' := 72) (lo' := [some (.ref 62), some (.int 2), some (.int x), some (.int 1696)]) rfl rfl rfl rfl ?_
      refine go_s (pc' := 73) rfl rfl rfl rfl ?_
      refine go_ifP (t' := 106) (pc' := 74) rfl rfl rfl (fun (c : (2 : Int32) ≤ 0) => absurd c (by decide)) (fun _ => ?_)
      refine go_s (pc' := 75) rfl rfl rfl rfl ?_
      refine go_s (pc' := 76) (st' := [.int 6, .int x]) rfl rfl rfl rfl ?_
      refine go_icmpP (t' := 84) (pc' := 77) rfl rfl rfl (fun _ => ?_) (fun (c : ¬ (¬ x = 6)) => absurd x6 c)
      refine go_s (pc' := 85) rfl rfl rfl rfl ?_
      refine go_s (pc' := 86) (st' := [.int 7, .int x]) rfl rfl rfl rfl ?_
      refine go_icmpP (t' := 94) (pc' := 87) rfl rfl rfl (fun _ => ?_) (fun (c : ¬ (¬ x = 7)) => absurd x7 c)
      refine go_s (pc' := 95) rfl rfl rfl rfl ?_
      refine go_s (pc' := 96) (st' := [.int 8, .int x]) rfl rfl rfl rfl ?_
      refine go_icmpP (t' := 104) (pc' := 97) rfl rfl rfl (fun _ => ?_) (fun (c : ¬ (¬ x = 8)) => absurd x8 c)
      refine go_s (pc' := 105) (st' := [.int (-1)]) rfl rfl rfl rfl ?_
      refine go_ret rfl rfl ?_
      have hms : mqpr 2 x (I, Q, Z) = (-1) := by
        unfold mqpr
        rw [if_neg x0, if_neg x1, if_neg x2, if_neg x3, if_neg x4, if_neg (by decide)]
        unfold mqtm
        rw [if_neg x5]
        rw [if_pos (show lv ((I, Q, Z) : mM).1 (1 + (2 - 1)) = true from u5), if_neg x6, if_neg x7, if_neg x8]
      rw [hms]
      exact ⟨rfl, rfl⟩
    · skip
      refine go_s (pc' := 69) rfl rfl rfl rfl ?_
      refine go_s (pc' := 70) rfl rfl rfl rfl ?_
      refine go_callV (pc' := 71) rfl rfl rfl (Nat.le_of_ble_eq_true rfl) rfl (sm_o hS rfl) rfl rfl rfl (rt_at_2 hr hS (Or.inr (Or.inr e6)) (fun z => absurd (e6.symm.trans z) (by decide)) (by omega)) (fun r h9 q10 => ?_)
      obtain ⟨rfl, rfl⟩ := q10
      rw [show rwi (jn I K) 2 = 5 by unfold rwi pn; rw [show (jn I K) 11 2 = 3 from e6]; rfl]
      show am_Go _ _ _ _ 71 _ [.int 2120] _ _
      refine go_s (pc' := 72) (lo' := [some (.ref 62), some (.int 2), some (.int x), some (.int 2120)]) rfl rfl rfl rfl ?_
      refine go_s (pc' := 73) rfl rfl rfl rfl ?_
      refine go_ifP (t' := 106) (pc' := 74) rfl rfl rfl (fun (c : (2 : Int32) ≤ 0) => absurd c (by decide)) (fun _ => ?_)
      refine go_s (pc' := 75) rfl rfl rfl rfl ?_
      refine go_s (pc' := 76) (st' := [.int 6, .int x]) rfl rfl rfl rfl ?_
      refine go_icmpP (t' := 84) (pc' := 77) rfl rfl rfl (fun _ => ?_) (fun (c : ¬ (¬ x = 6)) => absurd x6 c)
      refine go_s (pc' := 85) rfl rfl rfl rfl ?_
      refine go_s (pc' := 86) (st' := [.int 7, .int x]) rfl rfl rfl rfl ?_
      refine go_icmpP (t' := 94) (pc' := 87) rfl rfl rfl (fun _ => ?_) (fun (c : ¬ (¬ x = 7)) => absurd x7 c)
      refine go_s (pc' := 95) rfl rfl rfl rfl ?_
      refine go_s (pc' := 96) (st' := [.int 8, .int x]) rfl rfl rfl rfl ?_
      refine go_icmpP (t' := 104) (pc' := 97) rfl rfl rfl (fun _ => ?_) (fun (c : ¬ (¬ x = 8)) => absurd x8 c)
      refine go_s (pc' := 105) (st' := [.int (-1)]) rfl rfl rfl rfl ?_
      refine go_ret rfl rfl ?_
      have hms : mqpr 2 x (I, Q, Z) = (-1) := by
        unfold mqpr
        rw [if_neg x0, if_neg x1, if_neg x2, if_neg x3, if_neg x4, if_neg (by decide)]
        unfold mqtm
        rw [if_neg x5]
        rw [if_pos (show lv ((I, Q, Z) : mM).1 (1 + (2 - 1)) = true from u5), if_neg x6, if_neg x7, if_neg x8]
      rw [hms]
      exact ⟨rfl, rfl⟩
theorem ra_pr_2 {w : Nat → Bool} {d B R : Nat} {h : am_Hp} {I : sm_I} {Q : mQ} {Z : mZ} (hA : RA w B R [] true h (I, Q, Z)) (hR : R + 0 < 40000) (hpk : ∀ k, k < 3 → prk I k) (hbok : ∀ r, r < 2 → bok (Z r)) {x : Int32} (hd : 3 ≤ d) : am_Ev (am_prog w) d 186 [.ref 62, .int 2, .int x] h (fun r h' => r = some (.int (mqpr 2 x (I, Q, Z))) ∧ h' = h) := by
  by_cases x0 : x = 0
  · subst x0; exact ra_pr_2_0 hA hR hpk hbok hd
  by_cases x1 : x = 1
  · subst x1; exact ra_pr_2_1 hA hR hpk hbok hd
  by_cases x2 : x = 2
  · subst x2; exact ra_pr_2_2 hA hR hpk hbok hd
  by_cases x3 : x = 3
  · subst x3; exact ra_pr_2_3 hA hR hpk hbok hd
  by_cases x4 : x = 4
  · subst x4; exact ra_pr_2_4 hA hR hpk hbok hd
  by_cases x5 : x = 5
  · subst x5; exact ra_pr_2_5 hA hR hpk hbok hd
  by_cases x6 : x = 6
  · subst x6; exact ra_pr_2_6 hA hR hpk hbok hd
  by_cases x7 : x = 7
  · subst x7; exact ra_pr_2_7 hA hR hpk hbok hd
  by_cases x8 : x = 8
  · subst x8; exact ra_pr_2_8 hA hR hpk hbok hd
  by_cases x9 : x = 9
  · subst x9; exact ra_pr_2_9 hA hR hpk hbok hd
  by_cases x10 : x = 10
  · subst x10; exact ra_pr_2_10 hA hR hpk hbok hd
  exact ra_pr_2_n hA hR hpk hbok x0 x1 x2 x3 x4 x5 x6 x7 x8 x9 x10 hd
theorem ra_pr_f {w : Nat → Bool} {d B R : Nat} {h : am_Hp} {I : sm_I} {Q : mQ} {Z : mZ} (hA : RA w B R [] true h (I, Q, Z)) (hR : R + 0 < 40000) {a x : Int32} (hn : a < 0 ∨ nI 2 < a) (hd : 3 ≤ d) : am_Ev (am_prog w) d 186 [.ref 62, .int a, .int x] h (fun r h' => r = some (.int (-1)) ∧ h' = h) := by
  obtain ⟨K, Y, am, ln, hS, hU⟩ := RA_u.mp hA
  change sm (tbr am (13 * ln) 77 5088) h (jn I K) Y at hS
  obtain ⟨hW, hWm, -, -, hr, -⟩ := id hU.1
  have hln := RU_ln hU (by omega)
  obtain ⟨d, rfl⟩ : ∃ e, d = e + 1 := ⟨d - 1, by omega⟩
  refine ev_go rfl (Nat.le_of_ble_eq_true rfl) rfl ?_
  refine go_s (pc' := 1) rfl rfl rfl rfl ?_
  refine go_s (pc' := 2) (st' := [.int 0, .int a]) rfl rfl rfl rfl ?_
  refine go_s (pc' := 3) (st' := [.int 2, .int 0, .int a]) rfl rfl rfl rfl ?_
  refine go_callS (pc' := 4) rfl rfl rfl (Nat.le_of_ble_eq_true rfl) rfl rfl rfl (rt_within_f (a := a) (n := 2) hn (by omega)) (fun r h1 q2 => ?_)
  obtain ⟨rfl, rfl⟩ := q2
  refine go_ifP (t' := 7) (pc' := 5) rfl rfl rfl (fun (c : ¬ (0 : Int32) = 0) => absurd c (by decide)) (fun _ => ?_)
  refine go_s (pc' := 6) (st' := [.int (-1)]) rfl rfl rfl rfl ?_
  refine go_ret rfl rfl ?_
  exact ⟨rfl, rfl⟩
theorem out_m {n k : Nat} {x : Int32} (hk : k < 2 ^ 31) (hn : n ≤ k) (h : x < 0 ∨ nI k < x) : x < 0 ∨ nI n < x := h.imp id (fun z => Int32.lt_of_le_of_lt (nI_le hn hk) z)
theorem ra_prt_f {w : Nat → Bool} {d B R : Nat} {h : am_Hp} {I : sm_I} {Q : mQ} {Z : mZ} (hA : RA w B R [] true h (I, Q, Z)) (hR : R + 0 < 40000) {a x : Int32} (hn : a < 0 ∨ nI 3 < a) (hd : 3 ≤ d) : am_Ev (am_prog w) d 188 [.ref 62, .int x, .int a] h (fun r h' => r = some (.int (if x = 30 then I 8 0 else -1)) ∧ h' = h) := by
  obtain ⟨K, Y, am, ln, hS, hU⟩ := RA_u.mp hA
  change sm (tbr am (13 * ln) 77 5088) h (jn I K) Y at hS
  obtain ⟨hW, hWm, -, -, hr, -⟩ := id hU.1
  have hln := RU_ln hU (by omega)
  obtain ⟨d, rfl⟩ : ∃ e, d = e + 1 := ⟨d - 1, by omega⟩
  refine ev_go rfl (Nat.le_of_ble_eq_true rfl) rfl ?_
  refine go_s (pc' := 1) rfl rfl rfl rfl ?_
  refine go_s (pc' := 2) (st' := [.int 30, .int x]) rfl rfl rfl rfl ?_
  refine go_icmpP (t' := 6) (pc' := 3) rfl rfl rfl (fun (c1 : ¬ x = 30) => ?_) (fun (c1' : ¬ ¬ x = 30) => ?_)
  · skip
    by_cases hx : x < 0 ∨ nI 2 < x
    · skip
      refine go_s (pc' := 7) rfl rfl rfl rfl ?_
      refine go_s (pc' := 8) (st' := [.int 0, .int x]) rfl rfl rfl rfl ?_
      refine go_s (pc' := 9) (st' := [.int 2, .int 0, .int x]) rfl rfl rfl rfl ?_
      refine go_callS (pc' := 10) rfl rfl rfl (Nat.le_of_ble_eq_true rfl) rfl rfl rfl (rt_within_f (a := x) (n := 2) hx (by omega)) (fun r h2 q3 => ?_)
      obtain ⟨rfl, rfl⟩ := q3
      refine go_ifP (t' := 44) (pc' := 11) rfl rfl rfl (fun _ => ?_) (fun (c : ¬ ((0 : Int32) = 0)) => absurd (by decide) c)
      refine go_s (pc' := 45) rfl rfl rfl rfl ?_
      refine go_s (pc' := 46) (st' := [.int 0, .int a]) rfl rfl rfl rfl ?_
      refine go_s (pc' := 47) (st' := [.int 1, .int 0, .int a]) rfl rfl rfl rfl ?_
      refine go_callS (pc' := 48) rfl rfl rfl (Nat.le_of_ble_eq_true rfl) rfl rfl rfl (rt_within_f (a := a) (n := 1) (out_m (by decide) (by decide) hn) (by omega)) (fun r h4 q5 => ?_)
      obtain ⟨rfl, rfl⟩ := q5
      refine go_ifP (t' := 51) (pc' := 49) rfl rfl rfl (fun (c : ¬ (0 : Int32) = 0) => absurd c (by decide)) (fun _ => ?_)
      refine go_s (pc' := 50) (st' := [.int (-1)]) rfl rfl rfl rfl ?_
      refine go_ret rfl rfl ?_
      exact ⟨by rw [if_neg c1], rfl⟩
    · skip
      refine go_s (pc' := 7) rfl rfl rfl rfl ?_
      refine go_s (pc' := 8) (st' := [.int 0, .int x]) rfl rfl rfl rfl ?_
      refine go_s (pc' := 9) (st' := [.int 2, .int 0, .int x]) rfl rfl rfl rfl ?_
      refine go_callS (pc' := 10) rfl rfl rfl (Nat.le_of_ble_eq_true rfl) rfl rfl rfl (rt_within_g (a := x) (n := 2) hx (by omega)) (fun r h6 q7 => ?_)
      obtain ⟨rfl, rfl⟩ := q7
      refine go_ifP (t' := 44) (pc' := 11) rfl rfl rfl (fun (c : (1 : Int32) = 0) => absurd c (by decide)) (fun _ => ?_)
      refine go_s (pc' := 12) rfl rfl rfl rfl ?_
      refine go_s (pc' := 13) (st' := [.int 0, .int a]) rfl rfl rfl rfl ?_
      refine go_s (pc' := 14) (st' := [.int 3, .int 0, .int a]) rfl rfl rfl rfl ?_
      refine go_callS (pc' := 15) rfl rfl rfl (Nat.le_of_ble_eq_true rfl) rfl rfl rfl (rt_within_f (a := a) (n := 3) hn (by omega)) (fun r h8 q9 => ?_)
      obtain ⟨rfl, rfl⟩ := q9
      refine go_ifP (t' := 44) (pc' := 16) rfl rfl rfl (fun _ => ?_) (fun (c : ¬ ((0 : Int32) = 0)) => absurd (by decide) c)
      refine go_s (pc' := 45) rfl rfl rfl rfl ?_
      refine go_s (pc' := 46) (st' := [.int 0, .int a]) rfl rfl rfl rfl ?_
      refine go_s (pc' := 47) (st' := [.int 1, .int 0, .int a]) rfl rfl rfl rfl ?_
      refine go_callS (pc' := 48) rfl rfl rfl (Nat.le_of_ble_eq_true rfl) rfl rfl rfl (rt_within_f (a := a) (n := 1) (out_m (by decide) (by decide) hn) (by omega)) (fun r h10 q11 => ?_)
      obtain ⟨rfl, rfl⟩ := q11
      refine go_ifP (t' := 51) (pc' := 49) rfl rfl rfl (fun (c : ¬ (0 : Int32) = 0) => absurd c (by decide)) (fun _ => ?_)
      refine go_s (pc' := 50) (st' := [.int (-1)]) rfl rfl rfl rfl ?_
      refine go_ret rfl rfl ?_
      exact ⟨by rw [if_neg c1], rfl⟩
  · skip
    have c1 : x = 30 := Decidable.not_not.mp c1'
    refine go_s (pc' := 4) rfl rfl rfl rfl ?_
    refine go_sget (pc' := 5) (v := .int (I 8 0)) hS rfl rfl rfl (by decide) rfl rfl ?_
    refine go_ret rfl rfl ?_
    exact ⟨by rw [if_pos c1], rfl⟩
theorem rq_prt_0 {w : Nat → Bool} {d : Nat} {h : am_Hp} {J : sm_I} {Y : sm_X} {am lm as_ ls : Nat} (hr : rk am as_) (hS : sm (tbr am lm as_ ls) h J Y) {Q : mQ} {Z : mZ} {x : Int32} (hd : 3 ≤ d) : am_Ev (am_prog w) d 188 [.ref 62, .int x, .int 0] h (fun r h' => r = some (.int (mqpt 0 x (J, Q, Z))) ∧ h' = h) := by
  by_cases x30 : x = 30
  · subst x30; exact rq_prt_0_30 hr hS hd
  by_cases x0 : x = 0
  · subst x0; exact rq_prt_0_0 hr hS hd
  by_cases x1 : x = 1
  · subst x1; exact rq_prt_0_1 hr hS hd
  by_cases x2 : x = 2
  · subst x2; exact rq_prt_0_2 hr hS hd
  by_cases x10 : x = 10
  · subst x10; exact rq_prt_0_10 hr hS hd
  by_cases x20 : x = 20
  · subst x20; exact rq_prt_0_20 hr hS hd
  by_cases x21 : x = 21
  · subst x21; exact rq_prt_0_21 hr hS hd
  by_cases x22 : x = 22
  · subst x22; exact rq_prt_0_22 hr hS hd
  exact rq_prt_0_n hr hS x30 x0 x1 x2 x10 x20 x21 x22 hd
theorem rq_prt_1 {w : Nat → Bool} {d : Nat} {h : am_Hp} {J : sm_I} {Y : sm_X} {am lm as_ ls : Nat} (hr : rk am as_) (hS : sm (tbr am lm as_ ls) h J Y) {Q : mQ} {Z : mZ} {x : Int32} (hd : 3 ≤ d) : am_Ev (am_prog w) d 188 [.ref 62, .int x, .int 1] h (fun r h' => r = some (.int (mqpt 1 x (J, Q, Z))) ∧ h' = h) := by
  by_cases x30 : x = 30
  · subst x30; exact rq_prt_1_30 hr hS hd
  by_cases x0 : x = 0
  · subst x0; exact rq_prt_1_0 hr hS hd
  by_cases x1 : x = 1
  · subst x1; exact rq_prt_1_1 hr hS hd
  by_cases x2 : x = 2
  · subst x2; exact rq_prt_1_2 hr hS hd
  by_cases x10 : x = 10
  · subst x10; exact rq_prt_1_10 hr hS hd
  by_cases x20 : x = 20
  · subst x20; exact rq_prt_1_20 hr hS hd
  by_cases x21 : x = 21
  · subst x21; exact rq_prt_1_21 hr hS hd
  by_cases x22 : x = 22
  · subst x22; exact rq_prt_1_22 hr hS hd
  exact rq_prt_1_n hr hS x30 x0 x1 x2 x10 x20 x21 x22 hd
theorem rq_prt_2 {w : Nat → Bool} {d : Nat} {h : am_Hp} {J : sm_I} {Y : sm_X} {am lm as_ ls : Nat} (hr : rk am as_) (hS : sm (tbr am lm as_ ls) h J Y) {Q : mQ} {Z : mZ} {x : Int32} (hd : 3 ≤ d) : am_Ev (am_prog w) d 188 [.ref 62, .int x, .int 2] h (fun r h' => r = some (.int (mqpt 2 x (J, Q, Z))) ∧ h' = h) := by
  by_cases x30 : x = 30
  · subst x30; exact rq_prt_2_30 hr hS hd
  by_cases x0 : x = 0
  · subst x0; exact rq_prt_2_0 hr hS hd
  by_cases x1 : x = 1
  · subst x1; exact rq_prt_2_1 hr hS hd
  by_cases x2 : x = 2
  · subst x2; exact rq_prt_2_2 hr hS hd
  by_cases x10 : x = 10
  · subst x10; exact rq_prt_2_10 hr hS hd
  by_cases x20 : x = 20
  · subst x20; exact rq_prt_2_20 hr hS hd
  by_cases x21 : x = 21
  · subst x21; exact rq_prt_2_21 hr hS hd
  by_cases x22 : x = 22
  · subst x22; exact rq_prt_2_22 hr hS hd
  exact rq_prt_2_n hr hS x30 x0 x1 x2 x10 x20 x21 x22 hd
theorem rq_prt_3 {w : Nat → Bool} {d : Nat} {h : am_Hp} {J : sm_I} {Y : sm_X} {am lm as_ ls : Nat} (hr : rk am as_) (hS : sm (tbr am lm as_ ls) h J Y) {Q : mQ} {Z : mZ} {x : Int32} (hd : 3 ≤ d) : am_Ev (am_prog w) d 188 [.ref 62, .int x, .int 3] h (fun r h' => r = some (.int (mqpt 3 x (J, Q, Z))) ∧ h' = h) := by
  by_cases x30 : x = 30
  · subst x30; exact rq_prt_3_30 hr hS hd
  by_cases x0 : x = 0
  · subst x0; exact rq_prt_3_0 hr hS hd
  by_cases x1 : x = 1
  · subst x1; exact rq_prt_3_1 hr hS hd
  by_cases x2 : x = 2
  · subst x2; exact rq_prt_3_2 hr hS hd
  by_cases x10 : x = 10
  · subst x10; exact rq_prt_3_10 hr hS hd
  by_cases x20 : x = 20
  · subst x20; exact rq_prt_3_20 hr hS hd
  by_cases x21 : x = 21
  · subst x21; exact rq_prt_3_21 hr hS hd
  by_cases x22 : x = 22
  · subst x22; exact rq_prt_3_22 hr hS hd
  exact rq_prt_3_n hr hS x30 x0 x1 x2 x10 x20 x21 x22 hd
theorem rq_ans_0 {w : Nat → Bool} {d : Nat} {h : am_Hp} {J : sm_I} {Y : sm_X} {am lm as_ ls : Nat} (hr : rk am as_) (hS : sm (tbr am lm as_ ls) h J Y) (hpk : ∀ k, k < 3 → prk J k) {Q : mQ} {Z : mZ} {x : Int32} (hd : 2 ≤ d) : am_Ev (am_prog w) d 185 [.ref 62, .int 0, .int x] h (fun r h' => r = some (.int (mqan 0 x (J, Q, Z))) ∧ h' = h) := by
  by_cases x0 : x = 0
  · subst x0; exact rq_ans_0_0 hr hS hpk hd
  by_cases x1 : x = 1
  · subst x1; exact rq_ans_0_1 hr hS hpk hd
  by_cases x2 : x = 2
  · subst x2; exact rq_ans_0_2 hr hS hpk hd
  by_cases x3 : x = 3
  · subst x3; exact rq_ans_0_3 hr hS hpk hd
  exact rq_ans_0_n hr hS hpk x0 x1 x2 x3 hd
theorem rq_ans_1 {w : Nat → Bool} {d : Nat} {h : am_Hp} {J : sm_I} {Y : sm_X} {am lm as_ ls : Nat} (hr : rk am as_) (hS : sm (tbr am lm as_ ls) h J Y) (hpk : ∀ k, k < 3 → prk J k) {Q : mQ} {Z : mZ} {x : Int32} (hd : 2 ≤ d) : am_Ev (am_prog w) d 185 [.ref 62, .int 1, .int x] h (fun r h' => r = some (.int (mqan 1 x (J, Q, Z))) ∧ h' = h) := by
  by_cases x0 : x = 0
  · subst x0; exact rq_ans_1_0 hr hS hpk hd
  by_cases x1 : x = 1
  · subst x1; exact rq_ans_1_1 hr hS hpk hd
  by_cases x2 : x = 2
  · subst x2; exact rq_ans_1_2 hr hS hpk hd
  by_cases x3 : x = 3
  · subst x3; exact rq_ans_1_3 hr hS hpk hd
  exact rq_ans_1_n hr hS hpk x0 x1 x2 x3 hd
theorem rq_rec {w : Nat → Bool} {d : Nat} {h : am_Hp} {J : sm_I} {Y : sm_X} {am lm as_ ls : Nat} (hr : rk am as_) (hS : sm (tbr am lm as_ ls) h J Y) (hpk : ∀ k, k < 3 → prk J k) {Q : mQ} {Z : mZ} (hRv : lv J 0 = true → RS J (rwi J 0) (Z (rwi J 0))) (hls : 424 * rwi J 0 + 424 ≤ ls) (hl31 : ls < 2 ^ 31) {q : Nat} (hq : q < 16) {x : Int32} (hd : 2 ≤ d) : am_Ev (am_prog w) d 191 [.ref 62, .int (nI q), .int x] h (fun r h' => r = some (.int (mqrc q x (J, Q, Z))) ∧ h' = h) := by
  by_cases x0 : x = 0
  · subst x0; exact rq_rec_0 hr hS hpk hRv hls hl31 hq hd
  by_cases x1 : x = 1
  · subst x1; exact rq_rec_1 hr hS hpk hRv hls hl31 hq hd
  exact rq_rec_n hr hS hpk hRv hls hl31 hq x0 x1 hd
theorem ra_wr_f {w : Nat → Bool} {d B R : Nat} {h : am_Hp} {I : sm_I} {Q : mQ} {Z : mZ} (hA : RA w B R [] true h (I, Q, Z)) (hR : R + 0 < 40000) {a : Int32} (hn : a < 0 ∨ nI 1 < a) (hd : 2 ≤ d) : am_Ev (am_prog w) d 137 [.ref 62, .int a] h (fun r h' => r = some (.int (-1)) ∧ h' = h) := by
  obtain ⟨K, Y, am, ln, hS, hU⟩ := RA_u.mp hA
  change sm (tbr am (13 * ln) 77 5088) h (jn I K) Y at hS
  obtain ⟨hW, hWm, -, -, hr, -⟩ := id hU.1
  have hln := RU_ln hU (by omega)
  obtain ⟨d, rfl⟩ : ∃ e, d = e + 1 := ⟨d - 1, by omega⟩
  refine ev_go rfl (Nat.le_of_ble_eq_true rfl) rfl ?_
  refine go_s (pc' := 1) rfl rfl rfl rfl ?_
  refine go_s (pc' := 2) (st' := [.int 0, .int a]) rfl rfl rfl rfl ?_
  refine go_s (pc' := 3) (st' := [.int 1, .int 0, .int a]) rfl rfl rfl rfl ?_
  refine go_callS (pc' := 4) rfl rfl rfl (Nat.le_of_ble_eq_true rfl) rfl rfl rfl (rt_within_f (a := a) (n := 1) hn (by omega)) (fun r h1 q2 => ?_)
  obtain ⟨rfl, rfl⟩ := q2
  refine go_ifP (t' := 32) (pc' := 5) rfl rfl rfl (fun _ => ?_) (fun (c : ¬ ((0 : Int32) = 0)) => absurd (by decide) c)
  refine go_s (pc' := 33) (st' := [.int (-1)]) rfl rfl rfl rfl ?_
  refine go_ret rfl rfl ?_
  exact ⟨rfl, rfl⟩
theorem ra_rq_f {w : Nat → Bool} {d B R : Nat} {h : am_Hp} {I : sm_I} {Q : mQ} {Z : mZ} (hA : RA w B R [] true h (I, Q, Z)) (hR : R + 0 < 40000) {a kd rc vl : Int32} (hn : a < 0 ∨ nI 1 < a) (hd : 2 ≤ d) : am_Ev (am_prog w) d 123 [.ref 62, .int a, .int kd, .int rc, .int vl] h (fun r h' => r = some (.int (-1)) ∧ h' = h) := by
  obtain ⟨K, Y, am, ln, hS, hU⟩ := RA_u.mp hA
  change sm (tbr am (13 * ln) 77 5088) h (jn I K) Y at hS
  obtain ⟨hW, hWm, -, -, hr, -⟩ := id hU.1
  have hln := RU_ln hU (by omega)
  obtain ⟨d, rfl⟩ : ∃ e, d = e + 1 := ⟨d - 1, by omega⟩
  refine ev_go rfl (Nat.le_of_ble_eq_true rfl) rfl ?_
  refine go_s (pc' := 1) rfl rfl rfl rfl ?_
  refine go_s (pc' := 2) (st' := [.int 0, .int a]) rfl rfl rfl rfl ?_
  refine go_s (pc' := 3) (st' := [.int 1, .int 0, .int a]) rfl rfl rfl rfl ?_
  refine go_callS (pc' := 4) rfl rfl rfl (Nat.le_of_ble_eq_true rfl) rfl rfl rfl (rt_within_f (a := a) (n := 1) hn (by omega)) (fun r h1 q2 => ?_)
  obtain ⟨rfl, rfl⟩ := q2
  refine go_ifP (t' := 11) (pc' := 5) rfl rfl rfl (fun _ => ?_) (fun (c : ¬ ((0 : Int32) = 0)) => absurd (by decide) c)
  refine go_s (pc' := 12) (st' := [.int (-1)]) rfl rfl rfl rfl ?_
  refine go_ret rfl rfl ?_
  exact ⟨rfl, rfl⟩
theorem ra_rq1_0 {w : Nat → Bool} {d B R : Nat} {h : am_Hp} {I : sm_I} {Q : mQ} {Z : mZ} (hA : RA w B R [] true h (I, Q, Z)) (hR : R + 0 < 40000) {kd rc vl : Int32} (hp0 : prk I 0) (hpk : prk I 1) (h16 : I 16 1 = 1) (hd : 3 ≤ d) : am_Ev (am_prog w) d 123 [.ref 62, .int 0, .int kd, .int rc, .int vl] h (fun r h' => r = some (.int (-1)) ∧ h' = h) := by
  obtain ⟨K, Y, am, ln, hS, hU⟩ := RA_u.mp hA
  change sm (tbr am (13 * ln) 77 5088) h (jn I K) Y at hS
  obtain ⟨hW, hWm, -, -, hr, -⟩ := id hU.1
  have hln := RU_ln hU (by omega)
  obtain ⟨d, rfl⟩ : ∃ e, d = e + 1 := ⟨d - 1, by omega⟩
  refine ev_go rfl (Nat.le_of_ble_eq_true rfl) rfl ?_
  refine go_s (pc' := 1) rfl rfl rfl rfl ?_
  refine go_s (pc' := 2) (st' := [.int 0, .int 0]) rfl rfl rfl rfl ?_
  refine go_s (pc' := 3) (st' := [.int 1, .int 0, .int 0]) rfl rfl rfl rfl ?_
  refine go_callS (pc' := 4) rfl rfl rfl (Nat.le_of_ble_eq_true rfl) rfl rfl rfl (rt_within_t (q := 0) (n := 1) (by decide) (by decide) (by omega)) (fun r h1 q2 => ?_)
  obtain ⟨rfl, rfl⟩ := q2
  refine go_ifP (t' := 11) (pc' := 5) rfl rfl rfl (fun (c : (1 : Int32) = 0) => absurd c (by decide)) (fun _ => ?_)
  refine go_s (pc' := 6) rfl rfl rfl rfl ?_
  refine go_s (pc' := 7) (st' := [.int 1, .ref 62]) rfl rfl rfl rfl ?_
  refine go_s (pc' := 8) rfl rfl rfl rfl ?_
  refine go_s (pc' := 9) (st' := [.int 1, .ref 62]) rfl rfl rfl rfl ?_
  refine go_callV (pc' := 10) rfl rfl rfl (Nat.le_of_ble_eq_true rfl) rfl (sm_o hS rfl) rfl rfl rfl (rt_lives_1 hr hS hpk (by omega)) (fun r h3 q4 => ?_)
  obtain ⟨rfl, rfl⟩ := q4
  rw [show lv (jn I K) 1 = lv I 1 from rfl]
  cases u5 : lv I 1
  · skip
    show am_Go _ _ _ _ 10 _ [.int 0] _ _
    refine go_ifP (t' := 13) (pc' := 11) rfl rfl rfl (fun (c : ¬ (0 : Int32) = 0) => absurd c (by decide)) (fun _ => ?_)
    refine go_s (pc' := 12) (st' := [.int (-1)]) rfl rfl rfl rfl ?_
    refine go_ret rfl rfl ?_
    exact ⟨rfl, rfl⟩
  · skip
    show am_Go _ _ _ _ 10 _ [.int 1] _ _
    refine go_ifP (t' := 13) (pc' := 11) rfl rfl rfl (fun _ => ?_) (fun (c : ¬ (¬ (1 : Int32) = 0)) => absurd (by decide) c)
    rcases (id hpk) with e6 | e6 | e6
    · skip
      exact absurd e6 (lv_up u5).1
    · skip
      refine go_s (pc' := 14) (st' := [.int 1]) rfl rfl rfl rfl ?_
      refine go_s (pc' := 15) rfl rfl rfl rfl ?_
      refine go_s (pc' := 16) (st' := [.int 1]) rfl rfl rfl rfl ?_
      refine go_s (pc' := 17) (lo' := [some (.ref 62), some (.int 0), some (.int kd), some (.int rc), some (.int vl), some (.int 1), none, none]) rfl rfl rfl rfl ?_
      refine go_s (pc' := 18) rfl rfl rfl rfl ?_
      refine go_s (pc' := 19) rfl rfl rfl rfl ?_
      refine go_callV (pc' := 20) rfl rfl rfl (Nat.le_of_ble_eq_true rfl) rfl (sm_o hS rfl) rfl rfl rfl (rt_at_1 hr hS (Or.inr (Or.inl e6)) (fun z => absurd (e6.symm.trans z) (by decide)) (by omega)) (fun r h7 q8 => ?_)
      obtain ⟨rfl, rfl⟩ := q8
      rw [show rwi (jn I K) 1 = 2 by unfold rwi pn; rw [show (jn I K) 11 1 = 2 from e6]; rfl]
      show am_Go _ _ _ _ 20 _ [.int 848] _ _
      refine go_s (pc' := 21) (lo' := [some (.ref 62), some (.int 0), some (.int kd), some (.int rc), some (.int vl), some (.int 1), some (.int 848), none]) rfl rfl rfl rfl ?_
      refine go_s (pc' := 22) rfl rfl rfl rfl ?_
      refine go_sget (pc' := 23) (v := .ref 77) hS rfl rfl rfl (by decide) rfl rfl ?_
      refine go_s (pc' := 24) rfl rfl rfl rfl ?_
      refine go_s (pc' := 25) (st' := [.int 1, .int 848, .ref 77]) rfl rfl rfl rfl ?_
      refine go_s (pc' := 26) (st' := [.int 849, .ref 77]) rfl rfl rfl rfl ?_
      refine go_sald (pc' := 27) (q := 849) (v := .int ((Z 2).1 1)) hS rfl (tr_as hr (by omega)) rfl rfl (by decide) (congrArg Value.int (RR_t hU.2.1 (i := 2) (by decide) (by decide) 1 (by decide))) rfl ?_
      refine go_s (pc' := 28) (st' := [.int 1, .int ((Z 2).1 1)]) rfl rfl rfl rfl ?_
      refine go_icmpP (t' := 35) (pc' := 29) rfl rfl rfl (fun (c9 : ((Z 2).1 1) = 1) => ?_) (fun (c9 : ¬ ((Z 2).1 1) = 1) => ?_)
      · skip
        refine go_s (pc' := 36) (st' := [.int (-1)]) rfl rfl rfl rfl ?_
        refine go_ret rfl rfl ?_
        exact ⟨rfl, rfl⟩
      · skip
        refine go_s (pc' := 30) rfl rfl rfl rfl ?_
        refine go_sget (pc' := 31) (v := .ref 83) hS rfl rfl rfl (by decide) rfl rfl ?_
        refine go_s (pc' := 32) rfl rfl rfl rfl ?_
        refine go_sald (pc' := 33) (q := 1) (v := .int (I 16 1)) hS rfl (tr_s hr (a := 83) rfl (by decide)) rfl rfl (by decide) rfl rfl ?_
        refine go_s (pc' := 34) (st' := [.int 1, .int (I 16 1)]) rfl rfl rfl rfl ?_
        refine go_icmpP (t' := 37) (pc' := 35) rfl rfl rfl (fun (c : ¬ (I 16 1) = 1) => absurd c (fun z => z h16)) (fun _ => ?_)
        refine go_s (pc' := 36) (st' := [.int (-1)]) rfl rfl rfl rfl ?_
        refine go_ret rfl rfl ?_
        exact ⟨rfl, rfl⟩
    · skip
      refine go_s (pc' := 14) (st' := [.int 1]) rfl rfl rfl rfl ?_
      refine go_s (pc' := 15) rfl rfl rfl rfl ?_
      refine go_s (pc' := 16) (st' := [.int 1]) rfl rfl rfl rfl ?_
      refine go_s (pc' := 17) (lo' := [some (.ref 62), some (.int 0), some (.int kd), some (.int rc), some (.int vl), some (.int 1), none, none]) rfl rfl rfl rfl ?_
      refine go_s (pc' := 18) rfl rfl rfl rfl ?_
      refine go_s (pc' := 19) rfl rfl rfl rfl ?_
      refine go_callV (pc' := 20) rfl rfl rfl (Nat.le_of_ble_eq_true rfl) rfl (sm_o hS rfl) rfl rfl rfl (rt_at_1 hr hS (Or.inr (Or.inr e6)) (fun z => absurd (e6.symm.trans z) (by decide)) (by omega)) (fun r h10 q11 => ?_)
      obtain ⟨rfl, rfl⟩ := q11
      rw [show rwi (jn I K) 1 = 3 by unfold rwi pn; rw [show (jn I K) 11 1 = 3 from e6]; rfl]
      show am_Go _ _ _ _ 20 _ [.int 1272] _ _
      refine go_s (pc' := 21) (lo' := [some (.ref 62), some (.int 0), some (.int kd), some (.int rc), some (.int vl), some (.int 1), some (.int 1272), none]) rfl rfl rfl rfl ?_
      refine go_s (pc' := 22) rfl rfl rfl rfl ?_
      refine go_sget (pc' := 23) (v := .ref 77) hS rfl rfl rfl (by decide) rfl rfl ?_
      refine go_s (pc' := 24) rfl rfl rfl rfl ?_
      refine go_s (pc' := 25) (st' := [.int 1, .int 1272, .ref 77]) rfl rfl rfl rfl ?_
      refine go_s (pc' := 26) (st' := [.int 1273, .ref 77]) rfl rfl rfl rfl ?_
      refine go_sald (pc' := 27) (q := 1273) (v := .int ((Z 3).1 1)) hS rfl (tr_as hr (by omega)) rfl rfl (by decide) (congrArg Value.int (RR_t hU.2.1 (i := 3) (by decide) (by decide) 1 (by decide))) rfl ?_
      refine go_s (pc' := 28) (st' := [.int 1, .int ((Z 3).1 1)]) rfl rfl rfl rfl ?_
      refine go_icmpP (t' := 35) (pc' := 29) rfl rfl rfl (fun (c12 : ((Z 3).1 1) = 1) => ?_) (fun (c12 : ¬ ((Z 3).1 1) = 1) => ?_)
      · skip
        refine go_s (pc' := 36) (st' := [.int (-1)]) rfl rfl rfl rfl ?_
        refine go_ret rfl rfl ?_
        exact ⟨rfl, rfl⟩
      · skip
        refine go_s (pc' := 30) rfl rfl rfl rfl ?_
        refine go_sget (pc' := 31) (v := .ref 83) hS rfl rfl rfl (by decide) rfl rfl ?_
        refine go_s (pc' := 32) rfl rfl rfl rfl ?_
        refine go_sald (pc' := 33) (q := 1) (v := .int (I 16 1)) hS rfl (tr_s hr (a := 83) rfl (by decide)) rfl rfl (by decide) rfl rfl ?_
        refine go_s (pc' := 34) (st' := [.int 1, .int (I 16 1)]) rfl rfl rfl rfl ?_
        refine go_icmpP (t' := 37) (pc' := 35) rfl rfl rfl (fun (c : ¬ (I 16 1) = 1) => absurd c (fun z => z h16)) (fun _ => ?_)
        refine go_s (pc' := 36) (st' := [.int (-1)]) rfl rfl rfl rfl ?_
        refine go_ret rfl rfl ?_
        exact ⟨rfl, rfl⟩
theorem ra_rq1_1 {w : Nat → Bool} {d B R : Nat} {h : am_Hp} {I : sm_I} {Q : mQ} {Z : mZ} (hA : RA w B R [] true h (I, Q, Z)) (hR : R + 0 < 40000) {kd rc vl : Int32} (hp0 : prk I 0) (hpk : prk I 2) (h16 : I 16 2 = 1) (hd : 3 ≤ d) : am_Ev (am_prog w) d 123 [.ref 62, .int 1, .int kd, .int rc, .int vl] h (fun r h' => r = some (.int (-1)) ∧ h' = h) := by
  obtain ⟨K, Y, am, ln, hS, hU⟩ := RA_u.mp hA
  change sm (tbr am (13 * ln) 77 5088) h (jn I K) Y at hS
  obtain ⟨hW, hWm, -, -, hr, -⟩ := id hU.1
  have hln := RU_ln hU (by omega)
  obtain ⟨d, rfl⟩ : ∃ e, d = e + 1 := ⟨d - 1, by omega⟩
  refine ev_go rfl (Nat.le_of_ble_eq_true rfl) rfl ?_
  refine go_s (pc' := 1) rfl rfl rfl rfl ?_
  refine go_s (pc' := 2) (st' := [.int 0, .int 1]) rfl rfl rfl rfl ?_
  refine go_s (pc' := 3) (st' := [.int 1, .int 0, .int 1]) rfl rfl rfl rfl ?_
  refine go_callS (pc' := 4) rfl rfl rfl (Nat.le_of_ble_eq_true rfl) rfl rfl rfl (rt_within_t (q := 1) (n := 1) (by decide) (by decide) (by omega)) (fun r h1 q2 => ?_)
  obtain ⟨rfl, rfl⟩ := q2
  refine go_ifP (t' := 11) (pc' := 5) rfl rfl rfl (fun (c : (1 : Int32) = 0) => absurd c (by decide)) (fun _ => ?_)
  refine go_s (pc' := 6) rfl rfl rfl rfl ?_
  refine go_s (pc' := 7) (st' := [.int 1, .ref 62]) rfl rfl rfl rfl ?_
  refine go_s (pc' := 8) rfl rfl rfl rfl ?_
  refine go_s (pc' := 9) (st' := [.int 2, .ref 62]) rfl rfl rfl rfl ?_
  refine go_callV (pc' := 10) rfl rfl rfl (Nat.le_of_ble_eq_true rfl) rfl (sm_o hS rfl) rfl rfl rfl (rt_lives_2 hr hS hpk (by omega)) (fun r h3 q4 => ?_)
  obtain ⟨rfl, rfl⟩ := q4
  rw [show lv (jn I K) 2 = lv I 2 from rfl]
  cases u5 : lv I 2
  · skip
    show am_Go _ _ _ _ 10 _ [.int 0] _ _
    refine go_ifP (t' := 13) (pc' := 11) rfl rfl rfl (fun (c : ¬ (0 : Int32) = 0) => absurd c (by decide)) (fun _ => ?_)
    refine go_s (pc' := 12) (st' := [.int (-1)]) rfl rfl rfl rfl ?_
    refine go_ret rfl rfl ?_
    exact ⟨rfl, rfl⟩
  · skip
    show am_Go _ _ _ _ 10 _ [.int 1] _ _
    refine go_ifP (t' := 13) (pc' := 11) rfl rfl rfl (fun _ => ?_) (fun (c : ¬ (¬ (1 : Int32) = 0)) => absurd (by decide) c)
    rcases (id hpk) with e6 | e6 | e6
    · skip
      exact absurd e6 (lv_up u5).1
    · skip
      refine go_s (pc' := 14) (st' := [.int 1]) rfl rfl rfl rfl ?_
      refine go_s (pc' := 15) rfl rfl rfl rfl ?_
      refine go_s (pc' := 16) (st' := [.int 2]) rfl rfl rfl rfl ?_
      refine go_s (pc' := 17) (lo' := [some (.ref 62), some (.int 1), some (.int kd), some (.int rc), some (.int vl), some (.int 2), none, none]) rfl rfl rfl rfl ?_
      refine go_s (pc' := 18) rfl rfl rfl rfl ?_
      refine go_s (pc' := 19) rfl rfl rfl rfl ?_
      refine go_callV (pc' := 20) rfl rfl rfl (Nat.le_of_ble_eq_true rfl) rfl (sm_o hS rfl) rfl rfl rfl (rt_at_2 hr hS (Or.inr (Or.inl e6)) (fun z => absurd (e6.symm.trans z) (by decide)) (by omega)) (fun r h7 q8 => ?_)
      obtain ⟨rfl, rfl⟩ := q8
      rw [show rwi (jn I K) 2 = 4 by unfold rwi pn; rw [show (jn I K) 11 2 = 2 from e6]; rfl]
      show am_Go _ _ _ _ 20 _ [.int 1696] _ _
      refine go_s (pc' := 21) (lo' := [some (.ref 62), some (.int 1), some (.int kd), some (.int rc), some (.int vl), some (.int 2), some (.int 1696), none]) rfl rfl rfl rfl ?_
      refine go_s (pc' := 22) rfl rfl rfl rfl ?_
      refine go_sget (pc' := 23) (v := .ref 77) hS rfl rfl rfl (by decide) rfl rfl ?_
      refine go_s (pc' := 24) rfl rfl rfl rfl ?_
      refine go_s (pc' := 25) (st' := [.int 1, .int 1696, .ref 77]) rfl rfl rfl rfl ?_
      refine go_s (pc' := 26) (st' := [.int 1697, .ref 77]) rfl rfl rfl rfl ?_
      refine go_sald (pc' := 27) (q := 1697) (v := .int ((Z 4).1 1)) hS rfl (tr_as hr (by omega)) rfl rfl (by decide) (congrArg Value.int (RR_t hU.2.1 (i := 4) (by decide) (by decide) 1 (by decide))) rfl ?_
      refine go_s (pc' := 28) (st' := [.int 1, .int ((Z 4).1 1)]) rfl rfl rfl rfl ?_
      refine go_icmpP (t' := 35) (pc' := 29) rfl rfl rfl (fun (c9 : ((Z 4).1 1) = 1) => ?_) (fun (c9 : ¬ ((Z 4).1 1) = 1) => ?_)
      · skip
        refine go_s (pc' := 36) (st' := [.int (-1)]) rfl rfl rfl rfl ?_
        refine go_ret rfl rfl ?_
        exact ⟨rfl, rfl⟩
      · skip
        refine go_s (pc' := 30) rfl rfl rfl rfl ?_
        refine go_sget (pc' := 31) (v := .ref 83) hS rfl rfl rfl (by decide) rfl rfl ?_
        refine go_s (pc' := 32) rfl rfl rfl rfl ?_
        refine go_sald (pc' := 33) (q := 2) (v := .int (I 16 2)) hS rfl (tr_s hr (a := 83) rfl (by decide)) rfl rfl (by decide) rfl rfl ?_
        refine go_s (pc' := 34) (st' := [.int 1, .int (I 16 2)]) rfl rfl rfl rfl ?_
        refine go_icmpP (t' := 37) (pc' := 35) rfl rfl rfl (fun (c : ¬ (I 16 2) = 1) => absurd c (fun z => z h16)) (fun _ => ?_)
        refine go_s (pc' := 36) (st' := [.int (-1)]) rfl rfl rfl rfl ?_
        refine go_ret rfl rfl ?_
        exact ⟨rfl, rfl⟩
    · skip
      refine go_s (pc' := 14) (st' := [.int 1]) rfl rfl rfl rfl ?_
      refine go_s (pc' := 15) rfl rfl rfl rfl ?_
      refine go_s (pc' := 16) (st' := [.int 2]) rfl rfl rfl rfl ?_
      refine go_s (pc' := 17) (lo' := [some (.ref 62), some (.int 1), some (.int kd), some (.int rc), some (.int vl), some (.int 2), none, none]) rfl rfl rfl rfl ?_
      refine go_s (pc' := 18) rfl rfl rfl rfl ?_
      refine go_s (pc' := 19) rfl rfl rfl rfl ?_
      refine go_callV (pc' := 20) rfl rfl rfl (Nat.le_of_ble_eq_true rfl) rfl (sm_o hS rfl) rfl rfl rfl (rt_at_2 hr hS (Or.inr (Or.inr e6)) (fun z => absurd (e6.symm.trans z) (by decide)) (by omega)) (fun r h10 q11 => ?_)
      obtain ⟨rfl, rfl⟩ := q11
      rw [show rwi (jn I K) 2 = 5 by unfold rwi pn; rw [show (jn I K) 11 2 = 3 from e6]; rfl]
      show am_Go _ _ _ _ 20 _ [.int 2120] _ _
      refine go_s (pc' := 21) (lo' := [some (.ref 62), some (.int 1), some (.int kd), some (.int rc), some (.int vl), some (.int 2), some (.int 2120), none]) rfl rfl rfl rfl ?_
      refine go_s (pc' := 22) rfl rfl rfl rfl ?_
      refine go_sget (pc' := 23) (v := .ref 77) hS rfl rfl rfl (by decide) rfl rfl ?_
      refine go_s (pc' := 24) rfl rfl rfl rfl ?_
      refine go_s (pc' := 25) (st' := [.int 1, .int 2120, .ref 77]) rfl rfl rfl rfl ?_
      refine go_s (pc' := 26) (st' := [.int 2121, .ref 77]) rfl rfl rfl rfl ?_
      refine go_sald (pc' := 27) (q := 2121) (v := .int ((Z 5).1 1)) hS rfl (tr_as hr (by omega)) rfl rfl (by decide) (congrArg Value.int (RR_t hU.2.1 (i := 5) (by decide) (by decide) 1 (by decide))) rfl ?_
      refine go_s (pc' := 28) (st' := [.int 1, .int ((Z 5).1 1)]) rfl rfl rfl rfl ?_
      refine go_icmpP (t' := 35) (pc' := 29) rfl rfl rfl (fun (c12 : ((Z 5).1 1) = 1) => ?_) (fun (c12 : ¬ ((Z 5).1 1) = 1) => ?_)
      · skip
        refine go_s (pc' := 36) (st' := [.int (-1)]) rfl rfl rfl rfl ?_
        refine go_ret rfl rfl ?_
        exact ⟨rfl, rfl⟩
      · skip
        refine go_s (pc' := 30) rfl rfl rfl rfl ?_
        refine go_sget (pc' := 31) (v := .ref 83) hS rfl rfl rfl (by decide) rfl rfl ?_
        refine go_s (pc' := 32) rfl rfl rfl rfl ?_
        refine go_sald (pc' := 33) (q := 2) (v := .int (I 16 2)) hS rfl (tr_s hr (a := 83) rfl (by decide)) rfl rfl (by decide) rfl rfl ?_
        refine go_s (pc' := 34) (st' := [.int 1, .int (I 16 2)]) rfl rfl rfl rfl ?_
        refine go_icmpP (t' := 37) (pc' := 35) rfl rfl rfl (fun (c : ¬ (I 16 2) = 1) => absurd c (fun z => z h16)) (fun _ => ?_)
        refine go_s (pc' := 36) (st' := [.int (-1)]) rfl rfl rfl rfl ?_
        refine go_ret rfl rfl ?_
        exact ⟨rfl, rfl⟩
