theorem out_4 {x : Int32} (h0 : ¬ x = 0) (h1 : ¬ x = 1) (h2 : ¬ x = 2) (h3 : ¬ x = 3) : x < 0 ∨ nI 3 < x := by
  rw [← Int32.toInt_inj] at h0 h1 h2 h3
  rw [Int32.lt_iff_toInt_lt, Int32.lt_iff_toInt_lt]
  have e1 : (nI 3).toInt = 3 := rfl
  simp at h0 h1 h2 h3 ⊢
  omega
theorem out_2 {x : Int32} (h0 : ¬ x = 0) (h1 : ¬ x = 1) : x < 0 ∨ nI 1 < x := by
  rw [← Int32.toInt_inj] at h0 h1
  rw [Int32.lt_iff_toInt_lt, Int32.lt_iff_toInt_lt]
  have e1 : (nI 1).toInt = 1 := rfl
  simp at h0 h1 ⊢
  omega
theorem rq_ans_0_0 {w : Nat → Bool} {d : Nat} {h : am_Hp} {J : sm_I} {Y : sm_X} {am lm as_ ls : Nat} (hr : rk am as_) (hS : sm (tbr am lm as_ ls) h J Y) (hpk : ∀ k, k < 3 → prk J k) {Q : mQ} {Z : mZ} (hd : 2 ≤ d) : am_Ev (am_prog w) d 185 [.ref 62, .int 0, .int 0] h (fun r h' => r = some (.int (mqan 0 0 (J, Q, Z))) ∧ h' = h) := by
  obtain ⟨d, rfl⟩ : ∃ e, d = e + 1 := ⟨d - 1, by omega⟩
  refine ev_go rfl (Nat.le_of_ble_eq_true rfl) rfl ?_
  refine go_s (pc' := 1) rfl rfl rfl rfl ?_
  refine go_s (pc' := 2) (st' := [.int 0, .int 0]) rfl rfl rfl rfl ?_
  refine go_s (pc' := 3) (st' := [.int 1, .int 0, .int 0]) rfl rfl rfl rfl ?_
  refine go_callS (pc' := 4) rfl rfl rfl (Nat.le_of_ble_eq_true rfl) rfl rfl rfl (rt_within_t (q := 0) (n := 1) (by decide) (by decide) (by omega)) (fun r h1 q2 => ?_)
  obtain ⟨rfl, rfl⟩ := q2
  refine go_ifP (t' := 21) (pc' := 5) rfl rfl rfl (fun (c : (1 : Int32) = 0) => absurd c (by decide)) (fun _ => ?_)
  refine go_s (pc' := 6) rfl rfl rfl rfl ?_
  refine go_s (pc' := 7) (st' := [.int 0, .int 0]) rfl rfl rfl rfl ?_
  refine go_s (pc' := 8) (st' := [.int 3, .int 0, .int 0]) rfl rfl rfl rfl ?_
  refine go_callS (pc' := 9) rfl rfl rfl (Nat.le_of_ble_eq_true rfl) rfl rfl rfl (rt_within_t (q := 0) (n := 3) (by decide) (by decide) (by omega)) (fun r h3 q4 => ?_)
  obtain ⟨rfl, rfl⟩ := q4
  refine go_ifP (t' := 21) (pc' := 10) rfl rfl rfl (fun (c : (1 : Int32) = 0) => absurd c (by decide)) (fun _ => ?_)
  refine go_s (pc' := 11) rfl rfl rfl rfl ?_
  refine go_s (pc' := 12) (st' := [.int 1, .ref 62]) rfl rfl rfl rfl ?_
  refine go_s (pc' := 13) rfl rfl rfl rfl ?_
  refine go_s (pc' := 14) (st' := [.int 1, .ref 62]) rfl rfl rfl rfl ?_
  refine go_callV (pc' := 15) rfl rfl rfl (Nat.le_of_ble_eq_true rfl) rfl (sm_o hS rfl) rfl rfl rfl (rt_lives_1 hr hS (hpk 1 (by decide)) (by omega)) (fun r h5 q6 => ?_)
  obtain ⟨rfl, rfl⟩ := q6
  cases u7 : lv J 1
  · skip
    show am_Go _ _ _ _ 15 _ [.int 0] _ _
    refine go_ifP (t' := 21) (pc' := 16) rfl rfl rfl (fun _ => ?_) (fun (c : ¬ ((0 : Int32) = 0)) => absurd (by decide) c)
    refine go_s (pc' := 22) (st' := [.int (-1)]) rfl rfl rfl rfl ?_
    refine go_ret rfl rfl ?_
    exact ⟨by unfold mqan; rw [if_neg (by rw [show lv (J, Q, Z).1 (1 + 0) = false from u7]; decide)], rfl⟩
  · skip
    show am_Go _ _ _ _ 15 _ [.int 1] _ _
    refine go_ifP (t' := 21) (pc' := 16) rfl rfl rfl (fun (c : (1 : Int32) = 0) => absurd c (by decide)) (fun _ => ?_)
    refine go_s (pc' := 17) rfl rfl rfl rfl ?_
    refine go_sget (pc' := 18) (v := .ref 85) hS rfl rfl rfl (by decide) rfl rfl ?_
    refine go_s (pc' := 19) rfl rfl rfl rfl ?_
    refine go_sald (pc' := 20) (q := 0) (v := .int (J 18 0)) hS rfl (tr_s hr (a := 85) rfl (by decide)) rfl rfl (by decide) rfl rfl ?_
    refine go_ifP (t' := 23) (pc' := 21) rfl rfl rfl (fun (c8 : ¬ (J 18 0) = 0) => ?_) (fun (c8' : ¬ ¬ (J 18 0) = 0) => ?_)
    · skip
      refine go_s (pc' := 24) rfl rfl rfl rfl ?_
      refine go_sget (pc' := 25) (v := .ref 86) hS rfl rfl rfl (by decide) rfl rfl ?_
      refine go_s (pc' := 26) (st' := [.int 4, .ref 86]) rfl rfl rfl rfl ?_
      refine go_s (pc' := 27) rfl rfl rfl rfl ?_
      refine go_s (pc' := 28) (st' := [.int 0, .ref 86]) rfl rfl rfl rfl ?_
      refine go_s (pc' := 29) rfl rfl rfl rfl ?_
      refine go_s (pc' := 30) (st' := [.int 0, .ref 86]) rfl rfl rfl rfl ?_
      refine go_sald (pc' := 31) (q := 0) (v := .int (J 19 0)) hS rfl (tr_s hr (a := 86) rfl (by decide)) rfl rfl (by decide) rfl rfl ?_
      refine go_ret rfl rfl ?_
      exact ⟨by unfold mqan; rw [if_pos (show lv (J, Q, Z).1 (1 + 0) = true from u7), if_neg (show ¬ J 18 0 = 0 from c8)]; rfl, rfl⟩
    · skip
      have c8 : (J 18 0) = 0 := Decidable.not_not.mp c8'
      refine go_s (pc' := 22) (st' := [.int (-1)]) rfl rfl rfl rfl ?_
      refine go_ret rfl rfl ?_
      exact ⟨by unfold mqan; rw [if_pos (show lv (J, Q, Z).1 (1 + 0) = true from u7), if_pos (show J 18 0 = 0 from c8)], rfl⟩
theorem rq_ans_0_1 {w : Nat → Bool} {d : Nat} {h : am_Hp} {J : sm_I} {Y : sm_X} {am lm as_ ls : Nat} (hr : rk am as_) (hS : sm (tbr am lm as_ ls) h J Y) (hpk : ∀ k, k < 3 → prk J k) {Q : mQ} {Z : mZ} (hd : 2 ≤ d) : am_Ev (am_prog w) d 185 [.ref 62, .int 0, .int 1] h (fun r h' => r = some (.int (mqan 0 1 (J, Q, Z))) ∧ h' = h) := by
  obtain ⟨d, rfl⟩ : ∃ e, d = e + 1 := ⟨d - 1, by omega⟩
  refine ev_go rfl (Nat.le_of_ble_eq_true rfl) rfl ?_
  refine go_s (pc' := 1) rfl rfl rfl rfl ?_
  refine go_s (pc' := 2) (st' := [.int 0, .int 0]) rfl rfl rfl rfl ?_
  refine go_s (pc' := 3) (st' := [.int 1, .int 0, .int 0]) rfl rfl rfl rfl ?_
  refine go_callS (pc' := 4) rfl rfl rfl (Nat.le_of_ble_eq_true rfl) rfl rfl rfl (rt_within_t (q := 0) (n := 1) (by decide) (by decide) (by omega)) (fun r h1 q2 => ?_)
  obtain ⟨rfl, rfl⟩ := q2
  refine go_ifP (t' := 21) (pc' := 5) rfl rfl rfl (fun (c : (1 : Int32) = 0) => absurd c (by decide)) (fun _ => ?_)
  refine go_s (pc' := 6) rfl rfl rfl rfl ?_
  refine go_s (pc' := 7) (st' := [.int 0, .int 1]) rfl rfl rfl rfl ?_
  refine go_s (pc' := 8) (st' := [.int 3, .int 0, .int 1]) rfl rfl rfl rfl ?_
  refine go_callS (pc' := 9) rfl rfl rfl (Nat.le_of_ble_eq_true rfl) rfl rfl rfl (rt_within_t (q := 1) (n := 3) (by decide) (by decide) (by omega)) (fun r h3 q4 => ?_)
  obtain ⟨rfl, rfl⟩ := q4
  refine go_ifP (t' := 21) (pc' := 10) rfl rfl rfl (fun (c : (1 : Int32) = 0) => absurd c (by decide)) (fun _ => ?_)
  refine go_s (pc' := 11) rfl rfl rfl rfl ?_
  refine go_s (pc' := 12) (st' := [.int 1, .ref 62]) rfl rfl rfl rfl ?_
  refine go_s (pc' := 13) rfl rfl rfl rfl ?_
  refine go_s (pc' := 14) (st' := [.int 1, .ref 62]) rfl rfl rfl rfl ?_
  refine go_callV (pc' := 15) rfl rfl rfl (Nat.le_of_ble_eq_true rfl) rfl (sm_o hS rfl) rfl rfl rfl (rt_lives_1 hr hS (hpk 1 (by decide)) (by omega)) (fun r h5 q6 => ?_)
  obtain ⟨rfl, rfl⟩ := q6
  cases u7 : lv J 1
  · skip
    show am_Go _ _ _ _ 15 _ [.int 0] _ _
    refine go_ifP (t' := 21) (pc' := 16) rfl rfl rfl (fun _ => ?_) (fun (c : ¬ ((0 : Int32) = 0)) => absurd (by decide) c)
    refine go_s (pc' := 22) (st' := [.int (-1)]) rfl rfl rfl rfl ?_
    refine go_ret rfl rfl ?_
    exact ⟨by unfold mqan; rw [if_neg (by rw [show lv (J, Q, Z).1 (1 + 0) = false from u7]; decide)], rfl⟩
  · skip
    show am_Go _ _ _ _ 15 _ [.int 1] _ _
    refine go_ifP (t' := 21) (pc' := 16) rfl rfl rfl (fun (c : (1 : Int32) = 0) => absurd c (by decide)) (fun _ => ?_)
    refine go_s (pc' := 17) rfl rfl rfl rfl ?_
    refine go_sget (pc' := 18) (v := .ref 85) hS rfl rfl rfl (by decide) rfl rfl ?_
    refine go_s (pc' := 19) rfl rfl rfl rfl ?_
    refine go_sald (pc' := 20) (q := 0) (v := .int (J 18 0)) hS rfl (tr_s hr (a := 85) rfl (by decide)) rfl rfl (by decide) rfl rfl ?_
    refine go_ifP (t' := 23) (pc' := 21) rfl rfl rfl (fun (c8 : ¬ (J 18 0) = 0) => ?_) (fun (c8' : ¬ ¬ (J 18 0) = 0) => ?_)
    · skip
      refine go_s (pc' := 24) rfl rfl rfl rfl ?_
      refine go_sget (pc' := 25) (v := .ref 86) hS rfl rfl rfl (by decide) rfl rfl ?_
      refine go_s (pc' := 26) (st' := [.int 4, .ref 86]) rfl rfl rfl rfl ?_
      refine go_s (pc' := 27) rfl rfl rfl rfl ?_
      refine go_s (pc' := 28) (st' := [.int 0, .ref 86]) rfl rfl rfl rfl ?_
      refine go_s (pc' := 29) rfl rfl rfl rfl ?_
      refine go_s (pc' := 30) (st' := [.int 1, .ref 86]) rfl rfl rfl rfl ?_
      refine go_sald (pc' := 31) (q := 1) (v := .int (J 19 1)) hS rfl (tr_s hr (a := 86) rfl (by decide)) rfl rfl (by decide) rfl rfl ?_
      refine go_ret rfl rfl ?_
      exact ⟨by unfold mqan; rw [if_pos (show lv (J, Q, Z).1 (1 + 0) = true from u7), if_neg (show ¬ J 18 0 = 0 from c8)]; rfl, rfl⟩
    · skip
      have c8 : (J 18 0) = 0 := Decidable.not_not.mp c8'
      refine go_s (pc' := 22) (st' := [.int (-1)]) rfl rfl rfl rfl ?_
      refine go_ret rfl rfl ?_
      exact ⟨by unfold mqan; rw [if_pos (show lv (J, Q, Z).1 (1 + 0) = true from u7), if_pos (show J 18 0 = 0 from c8)], rfl⟩
theorem rq_ans_0_2 {w : Nat → Bool} {d : Nat} {h : am_Hp} {J : sm_I} {Y : sm_X} {am lm as_ ls : Nat} (hr : rk am as_) (hS : sm (tbr am lm as_ ls) h J Y) (hpk : ∀ k, k < 3 → prk J k) {Q : mQ} {Z : mZ} (hd : 2 ≤ d) : am_Ev (am_prog w) d 185 [.ref 62, .int 0, .int 2] h (fun r h' => r = some (.int (mqan 0 2 (J, Q, Z))) ∧ h' = h) := by
  obtain ⟨d, rfl⟩ : ∃ e, d = e + 1 := ⟨d - 1, by omega⟩
  refine ev_go rfl (Nat.le_of_ble_eq_true rfl) rfl ?_
  refine go_s (pc' := 1) rfl rfl rfl rfl ?_
  refine go_s (pc' := 2) (st' := [.int 0, .int 0]) rfl rfl rfl rfl ?_
  refine go_s (pc' := 3) (st' := [.int 1, .int 0, .int 0]) rfl rfl rfl rfl ?_
  refine go_callS (pc' := 4) rfl rfl rfl (Nat.le_of_ble_eq_true rfl) rfl rfl rfl (rt_within_t (q := 0) (n := 1) (by decide) (by decide) (by omega)) (fun r h1 q2 => ?_)
  obtain ⟨rfl, rfl⟩ := q2
  refine go_ifP (t' := 21) (pc' := 5) rfl rfl rfl (fun (c : (1 : Int32) = 0) => absurd c (by decide)) (fun _ => ?_)
  refine go_s (pc' := 6) rfl rfl rfl rfl ?_
  refine go_s (pc' := 7) (st' := [.int 0, .int 2]) rfl rfl rfl rfl ?_
  refine go_s (pc' := 8) (st' := [.int 3, .int 0, .int 2]) rfl rfl rfl rfl ?_
  refine go_callS (pc' := 9) rfl rfl rfl (Nat.le_of_ble_eq_true rfl) rfl rfl rfl (rt_within_t (q := 2) (n := 3) (by decide) (by decide) (by omega)) (fun r h3 q4 => ?_)
  obtain ⟨rfl, rfl⟩ := q4
  refine go_ifP (t' := 21) (pc' := 10) rfl rfl rfl (fun (c : (1 : Int32) = 0) => absurd c (by decide)) (fun _ => ?_)
  refine go_s (pc' := 11) rfl rfl rfl rfl ?_
  refine go_s (pc' := 12) (st' := [.int 1, .ref 62]) rfl rfl rfl rfl ?_
  refine go_s (pc' := 13) rfl rfl rfl rfl ?_
  refine go_s (pc' := 14) (st' := [.int 1, .ref 62]) rfl rfl rfl rfl ?_
  refine go_callV (pc' := 15) rfl rfl rfl (Nat.le_of_ble_eq_true rfl) rfl (sm_o hS rfl) rfl rfl rfl (rt_lives_1 hr hS (hpk 1 (by decide)) (by omega)) (fun r h5 q6 => ?_)
  obtain ⟨rfl, rfl⟩ := q6
  cases u7 : lv J 1
  · skip
    show am_Go _ _ _ _ 15 _ [.int 0] _ _
    refine go_ifP (t' := 21) (pc' := 16) rfl rfl rfl (fun _ => ?_) (fun (c : ¬ ((0 : Int32) = 0)) => absurd (by decide) c)
    refine go_s (pc' := 22) (st' := [.int (-1)]) rfl rfl rfl rfl ?_
    refine go_ret rfl rfl ?_
    exact ⟨by unfold mqan; rw [if_neg (by rw [show lv (J, Q, Z).1 (1 + 0) = false from u7]; decide)], rfl⟩
  · skip
    show am_Go _ _ _ _ 15 _ [.int 1] _ _
    refine go_ifP (t' := 21) (pc' := 16) rfl rfl rfl (fun (c : (1 : Int32) = 0) => absurd c (by decide)) (fun _ => ?_)
    refine go_s (pc' := 17) rfl rfl rfl rfl ?_
    refine go_sget (pc' := 18) (v := .ref 85) hS rfl rfl rfl (by decide) rfl rfl ?_
    refine go_s (pc' := 19) rfl rfl rfl rfl ?_
    refine go_sald (pc' := 20) (q := 0) (v := .int (J 18 0)) hS rfl (tr_s hr (a := 85) rfl (by decide)) rfl rfl (by decide) rfl rfl ?_
    refine go_ifP (t' := 23) (pc' := 21) rfl rfl rfl (fun (c8 : ¬ (J 18 0) = 0) => ?_) (fun (c8' : ¬ ¬ (J 18 0) = 0) => ?_)
    · skip
      refine go_s (pc' := 24) rfl rfl rfl rfl ?_
      refine go_sget (pc' := 25) (v := .ref 86) hS rfl rfl rfl (by decide) rfl rfl ?_
      refine go_s (pc' := 26) (st' := [.int 4, .ref 86]) rfl rfl rfl rfl ?_
      refine go_s (pc' := 27) rfl rfl rfl rfl ?_
      refine go_s (pc' := 28) (st' := [.int 0, .ref 86]) rfl rfl rfl rfl ?_
      refine go_s (pc' := 29) rfl rfl rfl rfl ?_
      refine go_s (pc' := 30) (st' := [.int 2, .ref 86]) rfl rfl rfl rfl ?_
      refine go_sald (pc' := 31) (q := 2) (v := .int (J 19 2)) hS rfl (tr_s hr (a := 86) rfl (by decide)) rfl rfl (by decide) rfl rfl ?_
      refine go_ret rfl rfl ?_
      exact ⟨by unfold mqan; rw [if_pos (show lv (J, Q, Z).1 (1 + 0) = true from u7), if_neg (show ¬ J 18 0 = 0 from c8)]; rfl, rfl⟩
    · skip
      have c8 : (J 18 0) = 0 := Decidable.not_not.mp c8'
      refine go_s (pc' := 22) (st' := [.int (-1)]) rfl rfl rfl rfl ?_
      refine go_ret rfl rfl ?_
      exact ⟨by unfold mqan; rw [if_pos (show lv (J, Q, Z).1 (1 + 0) = true from u7), if_pos (show J 18 0 = 0 from c8)], rfl⟩
theorem rq_ans_0_3 {w : Nat → Bool} {d : Nat} {h : am_Hp} {J : sm_I} {Y : sm_X} {am lm as_ ls : Nat} (hr : rk am as_) (hS : sm (tbr am lm as_ ls) h J Y) (hpk : ∀ k, k < 3 → prk J k) {Q : mQ} {Z : mZ} (hd : 2 ≤ d) : am_Ev (am_prog w) d 185 [.ref 62, .int 0, .int 3] h (fun r h' => r = some (.int (mqan 0 3 (J, Q, Z))) ∧ h' = h) := by
  obtain ⟨d, rfl⟩ : ∃ e, d = e + 1 := ⟨d - 1, by omega⟩
  refine ev_go rfl (Nat.le_of_ble_eq_true rfl) rfl ?_
  refine go_s (pc' := 1) rfl rfl rfl rfl ?_
  refine go_s (pc' := 2) (st' := [.int 0, .int 0]) rfl rfl rfl rfl ?_
  refine go_s (pc' := 3) (st' := [.int 1, .int 0, .int 0]) rfl rfl rfl rfl ?_
  refine go_callS (pc' := 4) rfl rfl rfl (Nat.le_of_ble_eq_true rfl) rfl rfl rfl (rt_within_t (q := 0) (n := 1) (by decide) (by decide) (by omega)) (fun r h1 q2 => ?_)
  obtain ⟨rfl, rfl⟩ := q2
  refine go_ifP (t' := 21) (pc' := 5) rfl rfl rfl (fun (c : (1 : Int32) = 0) => absurd c (by decide)) (fun _ => ?_)
  refine go_s (pc' := 6) rfl rfl rfl rfl ?_
  refine go_s (pc' := 7) (st' := [.int 0, .int 3]) rfl rfl rfl rfl ?_
  refine go_s (pc' := 8) (st' := [.int 3, .int 0, .int 3]) rfl rfl rfl rfl ?_
  refine go_callS (pc' := 9) rfl rfl rfl (Nat.le_of_ble_eq_true rfl) rfl rfl rfl (rt_within_t (q := 3) (n := 3) (by decide) (by decide) (by omega)) (fun r h3 q4 => ?_)
  obtain ⟨rfl, rfl⟩ := q4
  refine go_ifP (t' := 21) (pc' := 10) rfl rfl rfl (fun (c : (1 : Int32) = 0) => absurd c (by decide)) (fun _ => ?_)
  refine go_s (pc' := 11) rfl rfl rfl rfl ?_
  refine go_s (pc' := 12) (st' := [.int 1, .ref 62]) rfl rfl rfl rfl ?_
  refine go_s (pc' := 13) rfl rfl rfl rfl ?_
  refine go_s (pc' := 14) (st' := [.int 1, .ref 62]) rfl rfl rfl rfl ?_
  refine go_callV (pc' := 15) rfl rfl rfl (Nat.le_of_ble_eq_true rfl) rfl (sm_o hS rfl) rfl rfl rfl (rt_lives_1 hr hS (hpk 1 (by decide)) (by omega)) (fun r h5 q6 => ?_)
  obtain ⟨rfl, rfl⟩ := q6
  cases u7 : lv J 1
  · skip
    show am_Go _ _ _ _ 15 _ [.int 0] _ _
    refine go_ifP (t' := 21) (pc' := 16) rfl rfl rfl (fun _ => ?_) (fun (c : ¬ ((0 : Int32) = 0)) => absurd (by decide) c)
    refine go_s (pc' := 22) (st' := [.int (-1)]) rfl rfl rfl rfl ?_
    refine go_ret rfl rfl ?_
    exact ⟨by unfold mqan; rw [if_neg (by rw [show lv (J, Q, Z).1 (1 + 0) = false from u7]; decide)], rfl⟩
  · skip
    show am_Go _ _ _ _ 15 _ [.int 1] _ _
    refine go_ifP (t' := 21) (pc' := 16) rfl rfl rfl (fun (c : (1 : Int32) = 0) => absurd c (by decide)) (fun _ => ?_)
    refine go_s (pc' := 17) rfl rfl rfl rfl ?_
    refine go_sget (pc' := 18) (v := .ref 85) hS rfl rfl rfl (by decide) rfl rfl ?_
    refine go_s (pc' := 19) rfl rfl rfl rfl ?_
    refine go_sald (pc' := 20) (q := 0) (v := .int (J 18 0)) hS rfl (tr_s hr (a := 85) rfl (by decide)) rfl rfl (by decide) rfl rfl ?_
    refine go_ifP (t' := 23) (pc' := 21) rfl rfl rfl (fun (c8 : ¬ (J 18 0) = 0) => ?_) (fun (c8' : ¬ ¬ (J 18 0) = 0) => ?_)
    · skip
      refine go_s (pc' := 24) rfl rfl rfl rfl ?_
      refine go_sget (pc' := 25) (v := .ref 86) hS rfl rfl rfl (by decide) rfl rfl ?_
      refine go_s (pc' := 26) (st' := [.int 4, .ref 86]) rfl rfl rfl rfl ?_
      refine go_s (pc' := 27) rfl rfl rfl rfl ?_
      refine go_s (pc' := 28) (st' := [.int 0, .ref 86]) rfl rfl rfl rfl ?_
      refine go_s (pc' := 29) rfl rfl rfl rfl ?_
      refine go_s (pc' := 30) (st' := [.int 3, .ref 86]) rfl rfl rfl rfl ?_
      refine go_sald (pc' := 31) (q := 3) (v := .int (J 19 3)) hS rfl (tr_s hr (a := 86) rfl (by decide)) rfl rfl (by decide) rfl rfl ?_
      refine go_ret rfl rfl ?_
      exact ⟨by unfold mqan; rw [if_pos (show lv (J, Q, Z).1 (1 + 0) = true from u7), if_neg (show ¬ J 18 0 = 0 from c8)]; rfl, rfl⟩
    · skip
      have c8 : (J 18 0) = 0 := Decidable.not_not.mp c8'
      refine go_s (pc' := 22) (st' := [.int (-1)]) rfl rfl rfl rfl ?_
      refine go_ret rfl rfl ?_
      exact ⟨by unfold mqan; rw [if_pos (show lv (J, Q, Z).1 (1 + 0) = true from u7), if_pos (show J 18 0 = 0 from c8)], rfl⟩
theorem rq_ans_0_n {w : Nat → Bool} {d : Nat} {h : am_Hp} {J : sm_I} {Y : sm_X} {am lm as_ ls : Nat} (hr : rk am as_) (hS : sm (tbr am lm as_ ls) h J Y) (hpk : ∀ k, k < 3 → prk J k) {Q : mQ} {Z : mZ} {x : Int32} (x0 : ¬ x = 0) (x1 : ¬ x = 1) (x2 : ¬ x = 2) (x3 : ¬ x = 3) (hd : 2 ≤ d) : am_Ev (am_prog w) d 185 [.ref 62, .int 0, .int x] h (fun r h' => r = some (.int (mqan 0 x (J, Q, Z))) ∧ h' = h) := by
  obtain ⟨d, rfl⟩ : ∃ e, d = e + 1 := ⟨d - 1, by omega⟩
  refine ev_go rfl (Nat.le_of_ble_eq_true rfl) rfl ?_
  refine go_s (pc' := 1) rfl rfl rfl rfl ?_
  refine go_s (pc' := 2) (st' := [.int 0, .int 0]) rfl rfl rfl rfl ?_
  refine go_s (pc' := 3) (st' := [.int 1, .int 0, .int 0]) rfl rfl rfl rfl ?_
  refine go_callS (pc' := 4) rfl rfl rfl (Nat.le_of_ble_eq_true rfl) rfl rfl rfl (rt_within_t (q := 0) (n := 1) (by decide) (by decide) (by omega)) (fun r h1 q2 => ?_)
  obtain ⟨rfl, rfl⟩ := q2
  refine go_ifP (t' := 21) (pc' := 5) rfl rfl rfl (fun (c : (1 : Int32) = 0) => absurd c (by decide)) (fun _ => ?_)
  refine go_s (pc' := 6) rfl rfl rfl rfl ?_
  refine go_s (pc' := 7) (st' := [.int 0, .int x]) rfl rfl rfl rfl ?_
  refine go_s (pc' := 8) (st' := [.int 3, .int 0, .int x]) rfl rfl rfl rfl ?_
  refine go_callS (pc' := 9) rfl rfl rfl (Nat.le_of_ble_eq_true rfl) rfl rfl rfl (rt_within_f (a := x) (n := 3) (out_4 x0 x1 x2 x3) (by omega)) (fun r h3 q4 => ?_)
  obtain ⟨rfl, rfl⟩ := q4
  refine go_ifP (t' := 21) (pc' := 10) rfl rfl rfl (fun _ => ?_) (fun (c : ¬ ((0 : Int32) = 0)) => absurd (by decide) c)
  refine go_s (pc' := 22) (st' := [.int (-1)]) rfl rfl rfl rfl ?_
  refine go_ret rfl rfl ?_
  exact ⟨by unfold mqan; simp [x0, x1, x2, x3], rfl⟩
theorem rq_ans_1_0 {w : Nat → Bool} {d : Nat} {h : am_Hp} {J : sm_I} {Y : sm_X} {am lm as_ ls : Nat} (hr : rk am as_) (hS : sm (tbr am lm as_ ls) h J Y) (hpk : ∀ k, k < 3 → prk J k) {Q : mQ} {Z : mZ} (hd : 2 ≤ d) : am_Ev (am_prog w) d 185 [.ref 62, .int 1, .int 0] h (fun r h' => r = some (.int (mqan 1 0 (J, Q, Z))) ∧ h' = h) := by
  obtain ⟨d, rfl⟩ : ∃ e, d = e + 1 := ⟨d - 1, by omega⟩
  refine ev_go rfl (Nat.le_of_ble_eq_true rfl) rfl ?_
  refine go_s (pc' := 1) rfl rfl rfl rfl ?_
  refine go_s (pc' := 2) (st' := [.int 0, .int 1]) rfl rfl rfl rfl ?_
  refine go_s (pc' := 3) (st' := [.int 1, .int 0, .int 1]) rfl rfl rfl rfl ?_
  refine go_callS (pc' := 4) rfl rfl rfl (Nat.le_of_ble_eq_true rfl) rfl rfl rfl (rt_within_t (q := 1) (n := 1) (by decide) (by decide) (by omega)) (fun r h1 q2 => ?_)
  obtain ⟨rfl, rfl⟩ := q2
  refine go_ifP (t' := 21) (pc' := 5) rfl rfl rfl (fun (c : (1 : Int32) = 0) => absurd c (by decide)) (fun _ => ?_)
  refine go_s (pc' := 6) rfl rfl rfl rfl ?_
  refine go_s (pc' := 7) (st' := [.int 0, .int 0]) rfl rfl rfl rfl ?_
  refine go_s (pc' := 8) (st' := [.int 3, .int 0, .int 0]) rfl rfl rfl rfl ?_
  refine go_callS (pc' := 9) rfl rfl rfl (Nat.le_of_ble_eq_true rfl) rfl rfl rfl (rt_within_t (q := 0) (n := 3) (by decide) (by decide) (by omega)) (fun r h3 q4 => ?_)
  obtain ⟨rfl, rfl⟩ := q4
  refine go_ifP (t' := 21) (pc' := 10) rfl rfl rfl (fun (c : (1 : Int32) = 0) => absurd c (by decide)) (fun _ => ?_)
  refine go_s (pc' := 11) rfl rfl rfl rfl ?_
  refine go_s (pc' := 12) (st' := [.int 1, .ref 62]) rfl rfl rfl rfl ?_
  refine go_s (pc' := 13) rfl rfl rfl rfl ?_
  refine go_s (pc' := 14) (st' := [.int 2, .ref 62]) rfl rfl rfl rfl ?_
  refine go_callV (pc' := 15) rfl rfl rfl (Nat.le_of_ble_eq_true rfl) rfl (sm_o hS rfl) rfl rfl rfl (rt_lives_2 hr hS (hpk 2 (by decide)) (by omega)) (fun r h5 q6 => ?_)
  obtain ⟨rfl, rfl⟩ := q6
  cases u7 : lv J 2
  · skip
    show am_Go _ _ _ _ 15 _ [.int 0] _ _
    refine go_ifP (t' := 21) (pc' := 16) rfl rfl rfl (fun _ => ?_) (fun (c : ¬ ((0 : Int32) = 0)) => absurd (by decide) c)
    refine go_s (pc' := 22) (st' := [.int (-1)]) rfl rfl rfl rfl ?_
    refine go_ret rfl rfl ?_
    exact ⟨by unfold mqan; rw [if_neg (by rw [show lv (J, Q, Z).1 (1 + 1) = false from u7]; decide)], rfl⟩
  · skip
    show am_Go _ _ _ _ 15 _ [.int 1] _ _
    refine go_ifP (t' := 21) (pc' := 16) rfl rfl rfl (fun (c : (1 : Int32) = 0) => absurd c (by decide)) (fun _ => ?_)
    refine go_s (pc' := 17) rfl rfl rfl rfl ?_
    refine go_sget (pc' := 18) (v := .ref 85) hS rfl rfl rfl (by decide) rfl rfl ?_
    refine go_s (pc' := 19) rfl rfl rfl rfl ?_
    refine go_sald (pc' := 20) (q := 1) (v := .int (J 18 1)) hS rfl (tr_s hr (a := 85) rfl (by decide)) rfl rfl (by decide) rfl rfl ?_
    refine go_ifP (t' := 23) (pc' := 21) rfl rfl rfl (fun (c8 : ¬ (J 18 1) = 0) => ?_) (fun (c8' : ¬ ¬ (J 18 1) = 0) => ?_)
    · skip
      refine go_s (pc' := 24) rfl rfl rfl rfl ?_
      refine go_sget (pc' := 25) (v := .ref 86) hS rfl rfl rfl (by decide) rfl rfl ?_
      refine go_s (pc' := 26) (st' := [.int 4, .ref 86]) rfl rfl rfl rfl ?_
      refine go_s (pc' := 27) rfl rfl rfl rfl ?_
      refine go_s (pc' := 28) (st' := [.int 4, .ref 86]) rfl rfl rfl rfl ?_
      refine go_s (pc' := 29) rfl rfl rfl rfl ?_
      refine go_s (pc' := 30) (st' := [.int 4, .ref 86]) rfl rfl rfl rfl ?_
      refine go_sald (pc' := 31) (q := 4) (v := .int (J 19 4)) hS rfl (tr_s hr (a := 86) rfl (by decide)) rfl rfl (by decide) rfl rfl ?_
      refine go_ret rfl rfl ?_
      exact ⟨by unfold mqan; rw [if_pos (show lv (J, Q, Z).1 (1 + 1) = true from u7), if_neg (show ¬ J 18 1 = 0 from c8)]; rfl, rfl⟩
    · skip
      have c8 : (J 18 1) = 0 := Decidable.not_not.mp c8'
      refine go_s (pc' := 22) (st' := [.int (-1)]) rfl rfl rfl rfl ?_
      refine go_ret rfl rfl ?_
      exact ⟨by unfold mqan; rw [if_pos (show lv (J, Q, Z).1 (1 + 1) = true from u7), if_pos (show J 18 1 = 0 from c8)], rfl⟩
theorem rq_ans_1_1 {w : Nat → Bool} {d : Nat} {h : am_Hp} {J : sm_I} {Y : sm_X} {am lm as_ ls : Nat} (hr : rk am as_) (hS : sm (tbr am lm as_ ls) h J Y) (hpk : ∀ k, k < 3 → prk J k) {Q : mQ} {Z : mZ} (hd : 2 ≤ d) : am_Ev (am_prog w) d 185 [.ref 62, .int 1, .int 1] h (fun r h' => r = some (.int (mqan 1 1 (J, Q, Z))) ∧ h' = h) := by
  obtain ⟨d, rfl⟩ : ∃ e, d = e + 1 := ⟨d - 1, by omega⟩
  refine ev_go rfl (Nat.le_of_ble_eq_true rfl) rfl ?_
  refine go_s (pc' := 1) rfl rfl rfl rfl ?_
  refine go_s (pc' := 2) (st' := [.int 0, .int 1]) rfl rfl rfl rfl ?_
  refine go_s (pc' := 3) (st' := [.int 1, .int 0, .int 1]) rfl rfl rfl rfl ?_
  refine go_callS (pc' := 4) rfl rfl rfl (Nat.le_of_ble_eq_true rfl) rfl rfl rfl (rt_within_t (q := 1) (n := 1) (by decide) (by decide) (by omega)) (fun r h1 q2 => ?_)
  obtain ⟨rfl, rfl⟩ := q2
  refine go_ifP (t' := 21) (pc' := 5) rfl rfl rfl (fun (c : (1 : Int32) = 0) => absurd c (by decide)) (fun _ => ?_)
  refine go_s (pc' := 6) rfl rfl rfl rfl ?_
  refine go_s (pc' := 7) (st' := [.int 0, .int 1]) rfl rfl rfl rfl ?_
  refine go_s (pc' := 8) (st' := [.int 3, .int 0, .int 1]) rfl rfl rfl rfl ?_
  refine go_callS (pc' := 9) rfl rfl rfl (Nat.le_of_ble_eq_true rfl) rfl rfl rfl (rt_within_t (q := 1) (n := 3) (by decide) (by decide) (by omega)) (fun r h3 q4 => ?_)
  obtain ⟨rfl, rfl⟩ := q4
  refine go_ifP (t' := 21) (pc' := 10) rfl rfl rfl (fun (c : (1 : Int32) = 0) => absurd c (by decide)) (fun _ => ?_)
  refine go_s (pc' := 11) rfl rfl rfl rfl ?_
  refine go_s (pc' := 12) (st' := [.int 1, .ref 62]) rfl rfl rfl rfl ?_
  refine go_s (pc' := 13) rfl rfl rfl rfl ?_
  refine go_s (pc' := 14) (st' := [.int 2, .ref 62]) rfl rfl rfl rfl ?_
  refine go_callV (pc' := 15) rfl rfl rfl (Nat.le_of_ble_eq_true rfl) rfl (sm_o hS rfl) rfl rfl rfl (rt_lives_2 hr hS (hpk 2 (by decide)) (by omega)) (fun r h5 q6 => ?_)
  obtain ⟨rfl, rfl⟩ := q6
  cases u7 : lv J 2
  · skip
    show am_Go _ _ _ _ 15 _ [.int 0] _ _
    refine go_ifP (t' := 21) (pc' := 16) rfl rfl rfl (fun _ => ?_) (fun (c : ¬ ((0 : Int32) = 0)) => absurd (by decide) c)
    refine go_s (pc' := 22) (st' := [.int (-1)]) rfl rfl rfl rfl ?_
    refine go_ret rfl rfl ?_
    exact ⟨by unfold mqan; rw [if_neg (by rw [show lv (J, Q, Z).1 (1 + 1) = false from u7]; decide)], rfl⟩
  · skip
    show am_Go _ _ _ _ 15 _ [.int 1] _ _
    refine go_ifP (t' := 21) (pc' := 16) rfl rfl rfl (fun (c : (1 : Int32) = 0) => absurd c (by decide)) (fun _ => ?_)
    refine go_s (pc' := 17) rfl rfl rfl rfl ?_
    refine go_sget (pc' := 18) (v := .ref 85) hS rfl rfl rfl (by decide) rfl rfl ?_
    refine go_s (pc' := 19) rfl rfl rfl rfl ?_
    refine go_sald (pc' := 20) (q := 1) (v := .int (J 18 1)) hS rfl (tr_s hr (a := 85) rfl (by decide)) rfl rfl (by decide) rfl rfl ?_
    refine go_ifP (t' := 23) (pc' := 21) rfl rfl rfl (fun (c8 : ¬ (J 18 1) = 0) => ?_) (fun (c8' : ¬ ¬ (J 18 1) = 0) => ?_)
    · skip
      refine go_s (pc' := 24) rfl rfl rfl rfl ?_
      refine go_sget (pc' := 25) (v := .ref 86) hS rfl rfl rfl (by decide) rfl rfl ?_
      refine go_s (pc' := 26) (st' := [.int 4, .ref 86]) rfl rfl rfl rfl ?_
      refine go_s (pc' := 27) rfl rfl rfl rfl ?_
      refine go_s (pc' := 28) (st' := [.int 4, .ref 86]) rfl rfl rfl rfl ?_
      refine go_s (pc' := 29) rfl rfl rfl rfl ?_
      refine go_s (pc' := 30) (st' := [.int 5, .ref 86]) rfl rfl rfl rfl ?_
      refine go_sald (pc' := 31) (q := 5) (v := .int (J 19 5)) hS rfl (tr_s hr (a := 86) rfl (by decide)) rfl rfl (by decide) rfl rfl ?_
      refine go_ret rfl rfl ?_
      exact ⟨by unfold mqan; rw [if_pos (show lv (J, Q, Z).1 (1 + 1) = true from u7), if_neg (show ¬ J 18 1 = 0 from c8)]; rfl, rfl⟩
    · skip
      have c8 : (J 18 1) = 0 := Decidable.not_not.mp c8'
      refine go_s (pc' := 22) (st' := [.int (-1)]) rfl rfl rfl rfl ?_
      refine go_ret rfl rfl ?_
      exact ⟨by unfold mqan; rw [if_pos (show lv (J, Q, Z).1 (1 + 1) = true from u7), if_pos (show J 18 1 = 0 from c8)], rfl⟩
theorem rq_ans_1_2 {w : Nat → Bool} {d : Nat} {h : am_Hp} {J : sm_I} {Y : sm_X} {am lm as_ ls : Nat} (hr : rk am as_) (hS : sm (tbr am lm as_ ls) h J Y) (hpk : ∀ k, k < 3 → prk J k) {Q : mQ} {Z : mZ} (hd : 2 ≤ d) : am_Ev (am_prog w) d 185 [.ref 62, .int 1, .int 2] h (fun r h' => r = some (.int (mqan 1 2 (J, Q, Z))) ∧ h' = h) := by
  obtain ⟨d, rfl⟩ : ∃ e, d = e + 1 := ⟨d - 1, by omega⟩
  refine ev_go rfl (Nat.le_of_ble_eq_true rfl) rfl ?_
  refine go_s (pc' := 1) rfl rfl rfl rfl ?_
  refine go_s (pc' := 2) (st' := [.int 0, .int 1]) rfl rfl rfl rfl ?_
  refine go_s (pc' := 3) (st' := [.int 1, .int 0, .int 1]) rfl rfl rfl rfl ?_
  refine go_callS (pc' := 4) rfl rfl rfl (Nat.le_of_ble_eq_true rfl) rfl rfl rfl (rt_within_t (q := 1) (n := 1) (by decide) (by decide) (by omega)) (fun r h1 q2 => ?_)
  obtain ⟨rfl, rfl⟩ := q2
  refine go_ifP (t' := 21) (pc' := 5) rfl rfl rfl (fun (c : (1 : Int32) = 0) => absurd c (by decide)) (fun _ => ?_)
  refine go_s (pc' := 6) rfl rfl rfl rfl ?_
  refine go_s (pc' := 7) (st' := [.int 0, .int 2]) rfl rfl rfl rfl ?_
  refine go_s (pc' := 8) (st' := [.int 3, .int 0, .int 2]) rfl rfl rfl rfl ?_
  refine go_callS (pc' := 9) rfl rfl rfl (Nat.le_of_ble_eq_true rfl) rfl rfl rfl (rt_within_t (q := 2) (n := 3) (by decide) (by decide) (by omega)) (fun r h3 q4 => ?_)
  obtain ⟨rfl, rfl⟩ := q4
  refine go_ifP (t' := 21) (pc' := 10) rfl rfl rfl (fun (c : (1 : Int32) = 0) => absurd c (by decide)) (fun _ => ?_)
  refine go_s (pc' := 11) rfl rfl rfl rfl ?_
  refine go_s (pc' := 12) (st' := [.int 1, .ref 62]) rfl rfl rfl rfl ?_
  refine go_s (pc' := 13) rfl rfl rfl rfl ?_
  refine go_s (pc' := 14) (st' := [.int 2, .ref 62]) rfl rfl rfl rfl ?_
  refine go_callV (pc' := 15) rfl rfl rfl (Nat.le_of_ble_eq_true rfl) rfl (sm_o hS rfl) rfl rfl rfl (rt_lives_2 hr hS (hpk 2 (by decide)) (by omega)) (fun r h5 q6 => ?_)
  obtain ⟨rfl, rfl⟩ := q6
  cases u7 : lv J 2
  · skip
    show am_Go _ _ _ _ 15 _ [.int 0] _ _
    refine go_ifP (t' := 21) (pc' := 16) rfl rfl rfl (fun _ => ?_) (fun (c : ¬ ((0 : Int32) = 0)) => absurd (by decide) c)
    refine go_s (pc' := 22) (st' := [.int (-1)]) rfl rfl rfl rfl ?_
    refine go_ret rfl rfl ?_
    exact ⟨by unfold mqan; rw [if_neg (by rw [show lv (J, Q, Z).1 (1 + 1) = false from u7]; decide)], rfl⟩
  · skip
    show am_Go _ _ _ _ 15 _ [.int 1] _ _
    refine go_ifP (t' := 21) (pc' := 16) rfl rfl rfl (fun (c : (1 : Int32) = 0) => absurd c (by decide)) (fun _ => ?_)
    refine go_s (pc' := 17) rfl rfl rfl rfl ?_
    refine go_sget (pc' := 18) (v := .ref 85) hS rfl rfl rfl (by decide) rfl rfl ?_
    refine go_s (pc' := 19) rfl rfl rfl rfl ?_
    refine go_sald (pc' := 20) (q := 1) (v := .int (J 18 1)) hS rfl (tr_s hr (a := 85) rfl (by decide)) rfl rfl (by decide) rfl rfl ?_
    refine go_ifP (t' := 23) (pc' := 21) rfl rfl rfl (fun (c8 : ¬ (J 18 1) = 0) => ?_) (fun (c8' : ¬ ¬ (J 18 1) = 0) => ?_)
    · skip
      refine go_s (pc' := 24) rfl rfl rfl rfl ?_
      refine go_sget (pc' := 25) (v := .ref 86) hS rfl rfl rfl (by decide) rfl rfl ?_
      refine go_s (pc' := 26) (st' := [.int 4, .ref 86]) rfl rfl rfl rfl ?_
      refine go_s (pc' := 27) rfl rfl rfl rfl ?_
      refine go_s (pc' := 28) (st' := [.int 4, .ref 86]) rfl rfl rfl rfl ?_
      refine go_s (pc' := 29) rfl rfl rfl rfl ?_
      refine go_s (pc' := 30) (st' := [.int 6, .ref 86]) rfl rfl rfl rfl ?_
      refine go_sald (pc' := 31) (q := 6) (v := .int (J 19 6)) hS rfl (tr_s hr (a := 86) rfl (by decide)) rfl rfl (by decide) rfl rfl ?_
      refine go_ret rfl rfl ?_
      exact ⟨by unfold mqan; rw [if_pos (show lv (J, Q, Z).1 (1 + 1) = true from u7), if_neg (show ¬ J 18 1 = 0 from c8)]; rfl, rfl⟩
    · skip
      have c8 : (J 18 1) = 0 := Decidable.not_not.mp c8'
      refine go_s (pc' := 22) (st' := [.int (-1)]) rfl rfl rfl rfl ?_
      refine go_ret rfl rfl ?_
      exact ⟨by unfold mqan; rw [if_pos (show lv (J, Q, Z).1 (1 + 1) = true from u7), if_pos (show J 18 1 = 0 from c8)], rfl⟩
theorem rq_ans_1_3 {w : Nat → Bool} {d : Nat} {h : am_Hp} {J : sm_I} {Y : sm_X} {am lm as_ ls : Nat} (hr : rk am as_) (hS : sm (tbr am lm as_ ls) h J Y) (hpk : ∀ k, k < 3 → prk J k) {Q : mQ} {Z : mZ} (hd : 2 ≤ d) : am_Ev (am_prog w) d 185 [.ref 62, .int 1, .int 3] h (fun r h' => r = some (.int (mqan 1 3 (J, Q, Z))) ∧ h' = h) := by
  obtain ⟨d, rfl⟩ : ∃ e, d = e + 1 := ⟨d - 1, by omega⟩
  refine ev_go rfl (Nat.le_of_ble_eq_true rfl) rfl ?_
  refine go_s (pc' := 1) rfl rfl rfl rfl ?_
  refine go_s (pc' := 2) (st' := [.int 0, .int 1]) rfl rfl rfl rfl ?_
  refine go_s (pc' := 3) (st' := [.int 1, .int 0, .int 1]) rfl rfl rfl rfl ?_
  refine go_callS (pc' := 4) rfl rfl rfl (Nat.le_of_ble_eq_true rfl) rfl rfl rfl (rt_within_t (q := 1) (n := 1) (by decide) (by decide) (by omega)) (fun r h1 q2 => ?_)
  obtain ⟨rfl, rfl⟩ := q2
  refine go_ifP (t' := 21) (pc' := 5) rfl rfl rfl (fun (c : (1 : Int32) = 0) => absurd c (by decide)) (fun _ => ?_)
  refine go_s (pc' := 6) rfl rfl rfl rfl ?_
  refine go_s (pc' := 7) (st' := [.int 0, .int 3]) rfl rfl rfl rfl ?_
  refine go_s (pc' := 8) (st' := [.int 3, .int 0, .int 3]) rfl rfl rfl rfl ?_
  refine go_callS (pc' := 9) rfl rfl rfl (Nat.le_of_ble_eq_true rfl) rfl rfl rfl (rt_within_t (q := 3) (n := 3) (by decide) (by decide) (by omega)) (fun r h3 q4 => ?_)
  obtain ⟨rfl, rfl⟩ := q4
  refine go_ifP (t' := 21) (pc' := 10) rfl rfl rfl (fun (c : (1 : Int32) = 0) => absurd c (by decide)) (fun _ => ?_)
  refine go_s (pc' := 11) rfl rfl rfl rfl ?_
  refine go_s (pc' := 12) (st' := [.int 1, .ref 62]) rfl rfl rfl rfl ?_
  refine go_s (pc' := 13) rfl rfl rfl rfl ?_
  refine go_s (pc' := 14) (st' := [.int 2, .ref 62]) rfl rfl rfl rfl ?_
  refine go_callV (pc' := 15) rfl rfl rfl (Nat.le_of_ble_eq_true rfl) rfl (sm_o hS rfl) rfl rfl rfl (rt_lives_2 hr hS (hpk 2 (by decide)) (by omega)) (fun r h5 q6 => ?_)
  obtain ⟨rfl, rfl⟩ := q6
  cases u7 : lv J 2
  · skip
    show am_Go _ _ _ _ 15 _ [.int 0] _ _
    refine go_ifP (t' := 21) (pc' := 16) rfl rfl rfl (fun _ => ?_) (fun (c : ¬ ((0 : Int32) = 0)) => absurd (by decide) c)
    refine go_s (pc' := 22) (st' := [.int (-1)]) rfl rfl rfl rfl ?_
    refine go_ret rfl rfl ?_
    exact ⟨by unfold mqan; rw [if_neg (by rw [show lv (J, Q, Z).1 (1 + 1) = false from u7]; decide)], rfl⟩
  · skip
    show am_Go _ _ _ _ 15 _ [.int 1] _ _
    refine go_ifP (t' := 21) (pc' := 16) rfl rfl rfl (fun (c : (1 : Int32) = 0) => absurd c (by decide)) (fun _ => ?_)
    refine go_s (pc' := 17) rfl rfl rfl rfl ?_
    refine go_sget (pc' := 18) (v := .ref 85) hS rfl rfl rfl (by decide) rfl rfl ?_
    refine go_s (pc' := 19) rfl rfl rfl rfl ?_
    refine go_sald (pc' := 20) (q := 1) (v := .int (J 18 1)) hS rfl (tr_s hr (a := 85) rfl (by decide)) rfl rfl (by decide) rfl rfl ?_
    refine go_ifP (t' := 23) (pc' := 21) rfl rfl rfl (fun (c8 : ¬ (J 18 1) = 0) => ?_) (fun (c8' : ¬ ¬ (J 18 1) = 0) => ?_)
    · skip
      refine go_s (pc' := 24) rfl rfl rfl rfl ?_
      refine go_sget (pc' := 25) (v := .ref 86) hS rfl rfl rfl (by decide) rfl rfl ?_
      refine go_s (pc' := 26) (st' := [.int 4, .ref 86]) rfl rfl rfl rfl ?_
      refine go_s (pc' := 27) rfl rfl rfl rfl ?_
      refine go_s (pc' := 28) (st' := [.int 4, .ref 86]) rfl rfl rfl rfl ?_
      refine go_s (pc' := 29) rfl rfl rfl rfl ?_
      refine go_s (pc' := 30) (st' := [.int 7, .ref 86]) rfl rfl rfl rfl ?_
      refine go_sald (pc' := 31) (q := 7) (v := .int (J 19 7)) hS rfl (tr_s hr (a := 86) rfl (by decide)) rfl rfl (by decide) rfl rfl ?_
      refine go_ret rfl rfl ?_
      exact ⟨by unfold mqan; rw [if_pos (show lv (J, Q, Z).1 (1 + 1) = true from u7), if_neg (show ¬ J 18 1 = 0 from c8)]; rfl, rfl⟩
    · skip
      have c8 : (J 18 1) = 0 := Decidable.not_not.mp c8'
      refine go_s (pc' := 22) (st' := [.int (-1)]) rfl rfl rfl rfl ?_
      refine go_ret rfl rfl ?_
      exact ⟨by unfold mqan; rw [if_pos (show lv (J, Q, Z).1 (1 + 1) = true from u7), if_pos (show J 18 1 = 0 from c8)], rfl⟩
theorem rq_ans_1_n {w : Nat → Bool} {d : Nat} {h : am_Hp} {J : sm_I} {Y : sm_X} {am lm as_ ls : Nat} (hr : rk am as_) (hS : sm (tbr am lm as_ ls) h J Y) (hpk : ∀ k, k < 3 → prk J k) {Q : mQ} {Z : mZ} {x : Int32} (x0 : ¬ x = 0) (x1 : ¬ x = 1) (x2 : ¬ x = 2) (x3 : ¬ x = 3) (hd : 2 ≤ d) : am_Ev (am_prog w) d 185 [.ref 62, .int 1, .int x] h (fun r h' => r = some (.int (mqan 1 x (J, Q, Z))) ∧ h' = h) := by
  obtain ⟨d, rfl⟩ : ∃ e, d = e + 1 := ⟨d - 1, by omega⟩
  refine ev_go rfl (Nat.le_of_ble_eq_true rfl) rfl ?_
  refine go_s (pc' := 1) rfl rfl rfl rfl ?_
  refine go_s (pc' := 2) (st' := [.int 0, .int 1]) rfl rfl rfl rfl ?_
  refine go_s (pc' := 3) (st' := [.int 1, .int 0, .int 1]) rfl rfl rfl rfl ?_
  refine go_callS (pc' := 4) rfl rfl rfl (Nat.le_of_ble_eq_true rfl) rfl rfl rfl (rt_within_t (q := 1) (n := 1) (by decide) (by decide) (by omega)) (fun r h1 q2 => ?_)
  obtain ⟨rfl, rfl⟩ := q2
  refine go_ifP (t' := 21) (pc' := 5) rfl rfl rfl (fun (c : (1 : Int32) = 0) => absurd c (by decide)) (fun _ => ?_)
  refine go_s (pc' := 6) rfl rfl rfl rfl ?_
  refine go_s (pc' := 7) (st' := [.int 0, .int x]) rfl rfl rfl rfl ?_
  refine go_s (pc' := 8) (st' := [.int 3, .int 0, .int x]) rfl rfl rfl rfl ?_
  refine go_callS (pc' := 9) rfl rfl rfl (Nat.le_of_ble_eq_true rfl) rfl rfl rfl (rt_within_f (a := x) (n := 3) (out_4 x0 x1 x2 x3) (by omega)) (fun r h3 q4 => ?_)
  obtain ⟨rfl, rfl⟩ := q4
  refine go_ifP (t' := 21) (pc' := 10) rfl rfl rfl (fun _ => ?_) (fun (c : ¬ ((0 : Int32) = 0)) => absurd (by decide) c)
  refine go_s (pc' := 22) (st' := [.int (-1)]) rfl rfl rfl rfl ?_
  refine go_ret rfl rfl ?_
  exact ⟨by unfold mqan; simp [x0, x1, x2, x3], rfl⟩
theorem rq_ans_f {w : Nat → Bool} {d : Nat} {h : am_Hp} {J : sm_I} {Y : sm_X} {am lm as_ ls : Nat} (hr : rk am as_) (hS : sm (tbr am lm as_ ls) h J Y) {a x : Int32} (hn : a < 0 ∨ nI 1 < a) (hd : 2 ≤ d) : am_Ev (am_prog w) d 185 [.ref 62, .int a, .int x] h (fun r h' => r = some (.int (-1)) ∧ h' = h) := by
  obtain ⟨d, rfl⟩ : ∃ e, d = e + 1 := ⟨d - 1, by omega⟩
  refine ev_go rfl (Nat.le_of_ble_eq_true rfl) rfl ?_
  refine go_s (pc' := 1) rfl rfl rfl rfl ?_
  refine go_s (pc' := 2) (st' := [.int 0, .int a]) rfl rfl rfl rfl ?_
  refine go_s (pc' := 3) (st' := [.int 1, .int 0, .int a]) rfl rfl rfl rfl ?_
  refine go_callS (pc' := 4) rfl rfl rfl (Nat.le_of_ble_eq_true rfl) rfl rfl rfl (rt_within_f (a := a) (n := 1) hn (by omega)) (fun r h1 q2 => ?_)
  obtain ⟨rfl, rfl⟩ := q2
  refine go_ifP (t' := 21) (pc' := 5) rfl rfl rfl (fun _ => ?_) (fun (c : ¬ ((0 : Int32) = 0)) => absurd (by decide) c)
  refine go_s (pc' := 22) (st' := [.int (-1)]) rfl rfl rfl rfl ?_
  refine go_ret rfl rfl ?_
  exact ⟨rfl, rfl⟩
theorem rq_rec_0 {w : Nat → Bool} {d : Nat} {h : am_Hp} {J : sm_I} {Y : sm_X} {am lm as_ ls : Nat} (hr : rk am as_) (hS : sm (tbr am lm as_ ls) h J Y) (hpk : ∀ k, k < 3 → prk J k) {Q : mQ} {Z : mZ} (hRv : lv J 0 = true → RS J (rwi J 0) (Z (rwi J 0))) (hls : 424 * rwi J 0 + 424 ≤ ls) (hl31 : ls < 2 ^ 31) {q : Nat} (hq : q < 16) (hd : 2 ≤ d) : am_Ev (am_prog w) d 191 [.ref 62, .int (nI q), .int 0] h (fun r h' => r = some (.int (mqrc q 0 (J, Q, Z))) ∧ h' = h) := by
  obtain ⟨d, rfl⟩ : ∃ e, d = e + 1 := ⟨d - 1, by omega⟩
  refine ev_go rfl (Nat.le_of_ble_eq_true rfl) rfl ?_
  refine go_s (pc' := 1) rfl rfl rfl rfl ?_
  refine go_s (pc' := 2) (st' := [.int 0, .int (nI q)]) rfl rfl rfl rfl ?_
  refine go_s (pc' := 3) (st' := [.int 15, .int 0, .int (nI q)]) rfl rfl rfl rfl ?_
  refine go_callS (pc' := 4) rfl rfl rfl (Nat.le_of_ble_eq_true rfl) rfl rfl rfl (rt_within_t (q := q) (n := 15) (by omega) (by decide) (by omega)) (fun r h1 q2 => ?_)
  obtain ⟨rfl, rfl⟩ := q2
  refine go_ifP (t' := 14) (pc' := 5) rfl rfl rfl (fun (c : (1 : Int32) = 0) => absurd c (by decide)) (fun _ => ?_)
  refine go_s (pc' := 6) rfl rfl rfl rfl ?_
  refine go_s (pc' := 7) (st' := [.int 0, .int 0]) rfl rfl rfl rfl ?_
  refine go_s (pc' := 8) (st' := [.int 1, .int 0, .int 0]) rfl rfl rfl rfl ?_
  refine go_callS (pc' := 9) rfl rfl rfl (Nat.le_of_ble_eq_true rfl) rfl rfl rfl (rt_within_t (q := 0) (n := 1) (by decide) (by decide) (by omega)) (fun r h3 q4 => ?_)
  obtain ⟨rfl, rfl⟩ := q4
  refine go_ifP (t' := 14) (pc' := 10) rfl rfl rfl (fun (c : (1 : Int32) = 0) => absurd c (by decide)) (fun _ => ?_)
  refine go_s (pc' := 11) rfl rfl rfl rfl ?_
  refine go_s (pc' := 12) (st' := [.int 0, .ref 62]) rfl rfl rfl rfl ?_
  refine go_callV (pc' := 13) rfl rfl rfl (Nat.le_of_ble_eq_true rfl) rfl (sm_o hS rfl) rfl rfl rfl (rt_lives_0 hr hS (hpk 0 (by decide)) (by omega)) (fun r h5 q6 => ?_)
  obtain ⟨rfl, rfl⟩ := q6
  cases u7 : lv J 0
  · skip
    show am_Go _ _ _ _ 13 _ [.int 0] _ _
    refine go_ifP (t' := 16) (pc' := 14) rfl rfl rfl (fun (c : ¬ (0 : Int32) = 0) => absurd c (by decide)) (fun _ => ?_)
    refine go_s (pc' := 15) (st' := [.int (-2147483648)]) rfl rfl rfl rfl ?_
    refine go_ret rfl rfl ?_
    exact ⟨by unfold mqrc; rw [if_neg (by rw [show lv (J, Q, Z).1 0 = false from u7]; decide)], rfl⟩
  · skip
    show am_Go _ _ _ _ 13 _ [.int 1] _ _
    refine go_ifP (t' := 16) (pc' := 14) rfl rfl rfl (fun _ => ?_) (fun (c : ¬ (¬ (1 : Int32) = 0)) => absurd (by decide) c)
    have hv := u7
    have hn : ¬ J 11 0 = -1 := fun z => by rw [lv_n z] at hv; cases hv
    have hp := hpk 0 (by decide)
    obtain ⟨rho, hrho⟩ : ∃ r, rwi J 0 = r := ⟨_, rfl⟩
    have hR := hRv hv
    rw [hrho] at hR hls
    have hw9 : J 51 (424 * rho + 16 + q) = (Z (rwi J 0)).1 (16 + q) := by
      have z := hR.1 (16 + q) (by omega) (by omega) (by omega)
      rw [show 424 * rho + (16 + q) = 424 * rho + 16 + q by omega] at z
      rw [hrho]
      exact z
    refine go_s (pc' := 17) rfl rfl rfl rfl ?_
    refine go_sget (pc' := 18) (v := .ref as_) hS rfl rfl rfl (by decide) rfl rfl ?_
    refine go_s (pc' := 19) rfl rfl rfl rfl ?_
    refine go_s (pc' := 20) (st' := [.int 0, .ref 62, .ref as_]) rfl rfl rfl rfl ?_
    refine go_callV (pc' := 21) rfl rfl rfl (Nat.le_of_ble_eq_true rfl) rfl (sm_o hS rfl) rfl rfl rfl (rt_at_0 hr hS hp hn (by omega)) (fun r h8 q9 => ?_)
    obtain ⟨rfl, rfl⟩ := q9
    rw [show rwi J 0 = rho from hrho]
    refine go_s (pc' := 22) rfl rfl rfl rfl ?_
    refine go_ifP (t' := 25) (pc' := 23) rfl rfl rfl (fun (c : ¬ (0 : Int32) = 0) => absurd c (by decide)) (fun _ => ?_)
    refine go_s (pc' := 24) (st' := [.int 16, .int (nI (424 * rho)), .ref as_]) rfl rfl rfl rfl ?_
    refine go_s (pc' := 26) rfl rfl rfl rfl ?_
    refine go_nadd (pc' := 27) (a := (424 * rho)) (b := 16) rfl rfl rfl rfl rfl ?_
    refine go_s (pc' := 28) rfl rfl rfl rfl ?_
    refine go_nadd (pc' := 29) (a := ((424 * rho) + 16)) (b := q) rfl rfl rfl rfl rfl ?_
    refine go_sald (pc' := 30) (q := (((424 * rho) + 16) + q)) (v := .int ((Z (rwi J 0)).1 (16 + q))) hS rfl (tr_as hr (by omega)) rfl rfl (by omega) (congrArg Value.int hw9) rfl ?_
    refine go_ret rfl rfl ?_
    exact ⟨by unfold mqrc; rw [if_pos (show lv (J, Q, Z).1 0 = true from u7)]; rfl, rfl⟩
theorem rq_rec_1 {w : Nat → Bool} {d : Nat} {h : am_Hp} {J : sm_I} {Y : sm_X} {am lm as_ ls : Nat} (hr : rk am as_) (hS : sm (tbr am lm as_ ls) h J Y) (hpk : ∀ k, k < 3 → prk J k) {Q : mQ} {Z : mZ} (hRv : lv J 0 = true → RS J (rwi J 0) (Z (rwi J 0))) (hls : 424 * rwi J 0 + 424 ≤ ls) (hl31 : ls < 2 ^ 31) {q : Nat} (hq : q < 16) (hd : 2 ≤ d) : am_Ev (am_prog w) d 191 [.ref 62, .int (nI q), .int 1] h (fun r h' => r = some (.int (mqrc q 1 (J, Q, Z))) ∧ h' = h) := by
  obtain ⟨d, rfl⟩ : ∃ e, d = e + 1 := ⟨d - 1, by omega⟩
  refine ev_go rfl (Nat.le_of_ble_eq_true rfl) rfl ?_
  refine go_s (pc' := 1) rfl rfl rfl rfl ?_
  refine go_s (pc' := 2) (st' := [.int 0, .int (nI q)]) rfl rfl rfl rfl ?_
  refine go_s (pc' := 3) (st' := [.int 15, .int 0, .int (nI q)]) rfl rfl rfl rfl ?_
  refine go_callS (pc' := 4) rfl rfl rfl (Nat.le_of_ble_eq_true rfl) rfl rfl rfl (rt_within_t (q := q) (n := 15) (by omega) (by decide) (by omega)) (fun r h1 q2 => ?_)
  obtain ⟨rfl, rfl⟩ := q2
  refine go_ifP (t' := 14) (pc' := 5) rfl rfl rfl (fun (c : (1 : Int32) = 0) => absurd c (by decide)) (fun _ => ?_)
  refine go_s (pc' := 6) rfl rfl rfl rfl ?_
  refine go_s (pc' := 7) (st' := [.int 0, .int 1]) rfl rfl rfl rfl ?_
  refine go_s (pc' := 8) (st' := [.int 1, .int 0, .int 1]) rfl rfl rfl rfl ?_
  refine go_callS (pc' := 9) rfl rfl rfl (Nat.le_of_ble_eq_true rfl) rfl rfl rfl (rt_within_t (q := 1) (n := 1) (by decide) (by decide) (by omega)) (fun r h3 q4 => ?_)
  obtain ⟨rfl, rfl⟩ := q4
  refine go_ifP (t' := 14) (pc' := 10) rfl rfl rfl (fun (c : (1 : Int32) = 0) => absurd c (by decide)) (fun _ => ?_)
  refine go_s (pc' := 11) rfl rfl rfl rfl ?_
  refine go_s (pc' := 12) (st' := [.int 0, .ref 62]) rfl rfl rfl rfl ?_
  refine go_callV (pc' := 13) rfl rfl rfl (Nat.le_of_ble_eq_true rfl) rfl (sm_o hS rfl) rfl rfl rfl (rt_lives_0 hr hS (hpk 0 (by decide)) (by omega)) (fun r h5 q6 => ?_)
  obtain ⟨rfl, rfl⟩ := q6
  cases u7 : lv J 0
  · skip
    show am_Go _ _ _ _ 13 _ [.int 0] _ _
    refine go_ifP (t' := 16) (pc' := 14) rfl rfl rfl (fun (c : ¬ (0 : Int32) = 0) => absurd c (by decide)) (fun _ => ?_)
    refine go_s (pc' := 15) (st' := [.int (-2147483648)]) rfl rfl rfl rfl ?_
    refine go_ret rfl rfl ?_
    exact ⟨by unfold mqrc; rw [if_neg (by rw [show lv (J, Q, Z).1 0 = false from u7]; decide)], rfl⟩
  · skip
    show am_Go _ _ _ _ 13 _ [.int 1] _ _
    refine go_ifP (t' := 16) (pc' := 14) rfl rfl rfl (fun _ => ?_) (fun (c : ¬ (¬ (1 : Int32) = 0)) => absurd (by decide) c)
    have hv := u7
    have hn : ¬ J 11 0 = -1 := fun z => by rw [lv_n z] at hv; cases hv
    have hp := hpk 0 (by decide)
    obtain ⟨rho, hrho⟩ : ∃ r, rwi J 0 = r := ⟨_, rfl⟩
    have hR := hRv hv
    rw [hrho] at hR hls
    have hw9 : J 51 (424 * rho + 32 + q) = (Z (rwi J 0)).1 (32 + q) := by
      have z := hR.1 (32 + q) (by omega) (by omega) (by omega)
      rw [show 424 * rho + (32 + q) = 424 * rho + 32 + q by omega] at z
      rw [hrho]
      exact z
    refine go_s (pc' := 17) rfl rfl rfl rfl ?_
    refine go_sget (pc' := 18) (v := .ref as_) hS rfl rfl rfl (by decide) rfl rfl ?_
    refine go_s (pc' := 19) rfl rfl rfl rfl ?_
    refine go_s (pc' := 20) (st' := [.int 0, .ref 62, .ref as_]) rfl rfl rfl rfl ?_
    refine go_callV (pc' := 21) rfl rfl rfl (Nat.le_of_ble_eq_true rfl) rfl (sm_o hS rfl) rfl rfl rfl (rt_at_0 hr hS hp hn (by omega)) (fun r h8 q9 => ?_)
    obtain ⟨rfl, rfl⟩ := q9
    rw [show rwi J 0 = rho from hrho]
    refine go_s (pc' := 22) rfl rfl rfl rfl ?_
    refine go_ifP (t' := 25) (pc' := 23) rfl rfl rfl (fun _ => ?_) (fun (c : ¬ (¬ (1 : Int32) = 0)) => absurd (by decide) c)
    refine go_s (pc' := 26) (st' := [.int 32, .int (nI (424 * rho)), .ref as_]) rfl rfl rfl rfl ?_
    refine go_nadd (pc' := 27) (a := (424 * rho)) (b := 32) rfl rfl rfl rfl rfl ?_
    refine go_s (pc' := 28) rfl rfl rfl rfl ?_
    refine go_nadd (pc' := 29) (a := ((424 * rho) + 32)) (b := q) rfl rfl rfl rfl rfl ?_
    refine go_sald (pc' := 30) (q := (((424 * rho) + 32) + q)) (v := .int ((Z (rwi J 0)).1 (32 + q))) hS rfl (tr_as hr (by omega)) rfl rfl (by omega) (congrArg Value.int hw9) rfl ?_
    refine go_ret rfl rfl ?_
    exact ⟨by unfold mqrc; rw [if_pos (show lv (J, Q, Z).1 0 = true from u7)]; rfl, rfl⟩
theorem rq_rec_n {w : Nat → Bool} {d : Nat} {h : am_Hp} {J : sm_I} {Y : sm_X} {am lm as_ ls : Nat} (hr : rk am as_) (hS : sm (tbr am lm as_ ls) h J Y) (hpk : ∀ k, k < 3 → prk J k) {Q : mQ} {Z : mZ} (hRv : lv J 0 = true → RS J (rwi J 0) (Z (rwi J 0))) (hls : 424 * rwi J 0 + 424 ≤ ls) (hl31 : ls < 2 ^ 31) {q : Nat} (hq : q < 16) {x : Int32} (x0 : ¬ x = 0) (x1 : ¬ x = 1) (hd : 2 ≤ d) : am_Ev (am_prog w) d 191 [.ref 62, .int (nI q), .int x] h (fun r h' => r = some (.int (mqrc q x (J, Q, Z))) ∧ h' = h) := by
  obtain ⟨d, rfl⟩ : ∃ e, d = e + 1 := ⟨d - 1, by omega⟩
  refine ev_go rfl (Nat.le_of_ble_eq_true rfl) rfl ?_
  refine go_s (pc' := 1) rfl rfl rfl rfl ?_
  refine go_s (pc' := 2) (st' := [.int 0, .int (nI q)]) rfl rfl rfl rfl ?_
  refine go_s (pc' := 3) (st' := [.int 15, .int 0, .int (nI q)]) rfl rfl rfl rfl ?_
  refine go_callS (pc' := 4) rfl rfl rfl (Nat.le_of_ble_eq_true rfl) rfl rfl rfl (rt_within_t (q := q) (n := 15) (by omega) (by decide) (by omega)) (fun r h1 q2 => ?_)
  obtain ⟨rfl, rfl⟩ := q2
  refine go_ifP (t' := 14) (pc' := 5) rfl rfl rfl (fun (c : (1 : Int32) = 0) => absurd c (by decide)) (fun _ => ?_)
  refine go_s (pc' := 6) rfl rfl rfl rfl ?_
  refine go_s (pc' := 7) (st' := [.int 0, .int x]) rfl rfl rfl rfl ?_
  refine go_s (pc' := 8) (st' := [.int 1, .int 0, .int x]) rfl rfl rfl rfl ?_
  refine go_callS (pc' := 9) rfl rfl rfl (Nat.le_of_ble_eq_true rfl) rfl rfl rfl (rt_within_f (a := x) (n := 1) (out_2 x0 x1) (by omega)) (fun r h3 q4 => ?_)
  obtain ⟨rfl, rfl⟩ := q4
  refine go_ifP (t' := 14) (pc' := 10) rfl rfl rfl (fun _ => ?_) (fun (c : ¬ ((0 : Int32) = 0)) => absurd (by decide) c)
  refine go_s (pc' := 15) (st' := [.int (-2147483648)]) rfl rfl rfl rfl ?_
  refine go_ret rfl rfl ?_
  exact ⟨by unfold mqrc; simp [x0, x1], rfl⟩
theorem rq_rec_f {w : Nat → Bool} {d : Nat} {h : am_Hp} {J : sm_I} {Y : sm_X} {am lm as_ ls : Nat} (hr : rk am as_) (hS : sm (tbr am lm as_ ls) h J Y) {a x : Int32} (hn : a < 0 ∨ nI 15 < a) (hd : 2 ≤ d) : am_Ev (am_prog w) d 191 [.ref 62, .int a, .int x] h (fun r h' => r = some (.int (-2147483648)) ∧ h' = h) := by
  obtain ⟨d, rfl⟩ : ∃ e, d = e + 1 := ⟨d - 1, by omega⟩
  refine ev_go rfl (Nat.le_of_ble_eq_true rfl) rfl ?_
  refine go_s (pc' := 1) rfl rfl rfl rfl ?_
  refine go_s (pc' := 2) (st' := [.int 0, .int a]) rfl rfl rfl rfl ?_
  refine go_s (pc' := 3) (st' := [.int 15, .int 0, .int a]) rfl rfl rfl rfl ?_
  refine go_callS (pc' := 4) rfl rfl rfl (Nat.le_of_ble_eq_true rfl) rfl rfl rfl (rt_within_f (a := a) (n := 15) hn (by omega)) (fun r h1 q2 => ?_)
  obtain ⟨rfl, rfl⟩ := q2
  refine go_ifP (t' := 14) (pc' := 5) rfl rfl rfl (fun _ => ?_) (fun (c : ¬ ((0 : Int32) = 0)) => absurd (by decide) c)
  refine go_s (pc' := 15) (st' := [.int (-2147483648)]) rfl rfl rfl rfl ?_
  refine go_ret rfl rfl ?_
  exact ⟨rfl, rfl⟩
