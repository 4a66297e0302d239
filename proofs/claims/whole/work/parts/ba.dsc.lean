theorem rq_dsc_0 {w : Nat → Bool} {d : Nat} {h : am_Hp} {J : sm_I} {Y : sm_X} {am lm as_ ls : Nat} (hr : rk am as_) (hS : sm (tbr am lm as_ ls) h J Y) {q : Nat} (hq : q < 49) {r9 : Nat} (hr9 : r9 < wdn q) (hd : 2 ≤ d) : am_Ev (am_prog w) d 190 [.ref 62, .int 0, .int (nI q), .int (nI r9)] h (fun r h' => r = some (.int (J 7 (245 * 0 + (q * 5 + r9)))) ∧ h' = h) := by
  obtain ⟨d, rfl⟩ : ∃ e, d = e + 1 := ⟨d - 1, by omega⟩
  refine ev_go rfl (Nat.le_of_ble_eq_true rfl) rfl ?_
  by_cases q1 : q < 16
  · skip
    have hw9 : wdn q = 1 := by simp [wdn, q1]
    rw [hw9] at hr9
    refine go_s (pc' := 1) rfl rfl rfl rfl ?_
    refine go_s (pc' := 2) (st' := [.int 0, .int 0]) rfl rfl rfl rfl ?_
    refine go_s (pc' := 3) (st' := [.int 1, .int 0, .int 0]) rfl rfl rfl rfl ?_
    refine go_callS (pc' := 4) rfl rfl rfl (Nat.le_of_ble_eq_true rfl) rfl rfl rfl (rt_within_t (q := 0) (n := 1) (by decide) (by decide) (by omega)) (fun r h1 q2 => ?_)
    obtain ⟨rfl, rfl⟩ := q2
    refine go_ifP (t' := 27) (pc' := 5) rfl rfl rfl (fun (c : (1 : Int32) = 0) => absurd c (by decide)) (fun _ => ?_)
    refine go_s (pc' := 6) rfl rfl rfl rfl ?_
    refine go_s (pc' := 7) (st' := [.int 0, .int (nI q)]) rfl rfl rfl rfl ?_
    refine go_s (pc' := 8) (st' := [.int 48, .int 0, .int (nI q)]) rfl rfl rfl rfl ?_
    refine go_callS (pc' := 9) rfl rfl rfl (Nat.le_of_ble_eq_true rfl) rfl rfl rfl (rt_within_t (q := q) (n := 48) (by omega) (by decide) (by omega)) (fun r h3 q4 => ?_)
    obtain ⟨rfl, rfl⟩ := q4
    refine go_ifP (t' := 27) (pc' := 10) rfl rfl rfl (fun (c : (1 : Int32) = 0) => absurd c (by decide)) (fun _ => ?_)
    refine go_s (pc' := 11) rfl rfl rfl rfl ?_
    refine go_s (pc' := 12) (st' := [.int 0, .int (nI r9)]) rfl rfl rfl rfl ?_
    refine go_s (pc' := 13) rfl rfl rfl rfl ?_
    refine go_s (pc' := 14) (st' := [.int 16, .int (nI q), .int 0, .int (nI r9)]) rfl rfl rfl rfl ?_
    refine go_icmpP (t' := 17) (pc' := 15) rfl rfl rfl (fun (c : 16 ≤ (nI q)) => absurd c (nI_ge (b := 16) q1 (by decide))) (fun _ => ?_)
    refine go_s (pc' := 16) (st' := [.int 0, .int 0, .int (nI r9)]) rfl rfl rfl rfl ?_
    refine go_s (pc' := 23) rfl rfl rfl rfl ?_
    refine go_callS (pc' := 24) rfl rfl rfl (Nat.le_of_ble_eq_true rfl) rfl rfl rfl (rt_within_t (q := r9) (n := 0) (by omega) (by decide) (by omega)) (fun r h5 q6 => ?_)
    obtain ⟨rfl, rfl⟩ := q6
    refine go_ifP (t' := 27) (pc' := 25) rfl rfl rfl (fun (c : (1 : Int32) = 0) => absurd c (by decide)) (fun _ => ?_)
    refine go_s (pc' := 26) (st' := [.int 1]) rfl rfl rfl rfl ?_
    refine go_s (pc' := 28) rfl rfl rfl rfl ?_
    refine go_s (pc' := 29) (lo' := [some (.ref 62), some (.int 0), some (.int (nI q)), some (.int (nI r9)), some (.int 1)]) rfl rfl rfl rfl ?_
    refine go_s (pc' := 30) rfl rfl rfl rfl ?_
    refine go_ifP (t' := 44) (pc' := 31) rfl rfl rfl (fun (c : (1 : Int32) = 0) => absurd c (by decide)) (fun _ => ?_)
    refine go_s (pc' := 32) rfl rfl rfl rfl ?_
    refine go_sget (pc' := 33) (v := .ref 70) hS rfl rfl rfl (by decide) rfl rfl ?_
    refine go_s (pc' := 34) (st' := [.int 5, .ref 70]) rfl rfl rfl rfl ?_
    refine go_s (pc' := 35) (st' := [.int 49, .int 5, .ref 70]) rfl rfl rfl rfl ?_
    refine go_s (pc' := 36) rfl rfl rfl rfl ?_
    refine go_s (pc' := 37) (st' := [.int 0, .int 5, .ref 70]) rfl rfl rfl rfl ?_
    refine go_s (pc' := 38) rfl rfl rfl rfl ?_
    refine go_nadd (pc' := 39) (a := 0) (b := q) rfl rfl rfl rfl rfl ?_
    refine go_nmul (pc' := 40) (a := 5) (b := (0 + q)) rfl rfl rfl rfl rfl ?_
    refine go_s (pc' := 41) rfl rfl rfl rfl ?_
    refine go_nadd (pc' := 42) (a := (5 * (0 + q))) (b := r9) rfl rfl rfl rfl rfl ?_
    refine go_sald (pc' := 43) (q := ((5 * (0 + q)) + r9)) (v := .int (J 7 ((5 * (0 + q)) + r9))) hS rfl (tr_s hr (a := 70) rfl (by omega)) rfl rfl (by omega) rfl rfl ?_
    refine go_s (pc' := 45) rfl rfl rfl rfl ?_
    refine go_ret rfl rfl ?_
    exact ⟨by rw [show 245 * 0 + (q * 5 + r9) = 5 * (0 + q) + r9 by omega], rfl⟩
  · skip
    by_cases q2 : q = 16
    · skip
      have hw9 : wdn q = 2 := by simp [wdn, q1, q2]
      rw [hw9] at hr9
      refine go_s (pc' := 1) rfl rfl rfl rfl ?_
      refine go_s (pc' := 2) (st' := [.int 0, .int 0]) rfl rfl rfl rfl ?_
      refine go_s (pc' := 3) (st' := [.int 1, .int 0, .int 0]) rfl rfl rfl rfl ?_
      refine go_callS (pc' := 4) rfl rfl rfl (Nat.le_of_ble_eq_true rfl) rfl rfl rfl (rt_within_t (q := 0) (n := 1) (by decide) (by decide) (by omega)) (fun r h7 q8 => ?_)
      obtain ⟨rfl, rfl⟩ := q8
      refine go_ifP (t' := 27) (pc' := 5) rfl rfl rfl (fun (c : (1 : Int32) = 0) => absurd c (by decide)) (fun _ => ?_)
      refine go_s (pc' := 6) rfl rfl rfl rfl ?_
      refine go_s (pc' := 7) (st' := [.int 0, .int (nI q)]) rfl rfl rfl rfl ?_
      refine go_s (pc' := 8) (st' := [.int 48, .int 0, .int (nI q)]) rfl rfl rfl rfl ?_
      refine go_callS (pc' := 9) rfl rfl rfl (Nat.le_of_ble_eq_true rfl) rfl rfl rfl (rt_within_t (q := q) (n := 48) (by omega) (by decide) (by omega)) (fun r h9 q10 => ?_)
      obtain ⟨rfl, rfl⟩ := q10
      refine go_ifP (t' := 27) (pc' := 10) rfl rfl rfl (fun (c : (1 : Int32) = 0) => absurd c (by decide)) (fun _ => ?_)
      refine go_s (pc' := 11) rfl rfl rfl rfl ?_
      refine go_s (pc' := 12) (st' := [.int 0, .int (nI r9)]) rfl rfl rfl rfl ?_
      refine go_s (pc' := 13) rfl rfl rfl rfl ?_
      refine go_s (pc' := 14) (st' := [.int 16, .int (nI q), .int 0, .int (nI r9)]) rfl rfl rfl rfl ?_
      refine go_icmpP (t' := 17) (pc' := 15) rfl rfl rfl (fun _ => ?_) (fun (c : ¬ (16 ≤ (nI q))) => absurd (nI_le (a := 16) (by omega) (by omega)) c)
      refine go_s (pc' := 18) rfl rfl rfl rfl ?_
      refine go_s (pc' := 19) (st' := [.int 16, .int (nI q), .int 0, .int (nI r9)]) rfl rfl rfl rfl ?_
      refine go_icmpP (t' := 22) (pc' := 20) rfl rfl rfl (fun (c : ¬ (nI q) = 16) => absurd c (fun z => z (by rw [q2]; rfl))) (fun _ => ?_)
      refine go_s (pc' := 21) (st' := [.int 1, .int 0, .int (nI r9)]) rfl rfl rfl rfl ?_
      refine go_s (pc' := 23) rfl rfl rfl rfl ?_
      refine go_callS (pc' := 24) rfl rfl rfl (Nat.le_of_ble_eq_true rfl) rfl rfl rfl (rt_within_t (q := r9) (n := 1) (by omega) (by decide) (by omega)) (fun r h11 q12 => ?_)
      obtain ⟨rfl, rfl⟩ := q12
      refine go_ifP (t' := 27) (pc' := 25) rfl rfl rfl (fun (c : (1 : Int32) = 0) => absurd c (by decide)) (fun _ => ?_)
      refine go_s (pc' := 26) (st' := [.int 1]) rfl rfl rfl rfl ?_
      refine go_s (pc' := 28) rfl rfl rfl rfl ?_
      refine go_s (pc' := 29) (lo' := [some (.ref 62), some (.int 0), some (.int (nI q)), some (.int (nI r9)), some (.int 1)]) rfl rfl rfl rfl ?_
      refine go_s (pc' := 30) rfl rfl rfl rfl ?_
      refine go_ifP (t' := 44) (pc' := 31) rfl rfl rfl (fun (c : (1 : Int32) = 0) => absurd c (by decide)) (fun _ => ?_)
      refine go_s (pc' := 32) rfl rfl rfl rfl ?_
      refine go_sget (pc' := 33) (v := .ref 70) hS rfl rfl rfl (by decide) rfl rfl ?_
      refine go_s (pc' := 34) (st' := [.int 5, .ref 70]) rfl rfl rfl rfl ?_
      refine go_s (pc' := 35) (st' := [.int 49, .int 5, .ref 70]) rfl rfl rfl rfl ?_
      refine go_s (pc' := 36) rfl rfl rfl rfl ?_
      refine go_s (pc' := 37) (st' := [.int 0, .int 5, .ref 70]) rfl rfl rfl rfl ?_
      refine go_s (pc' := 38) rfl rfl rfl rfl ?_
      refine go_nadd (pc' := 39) (a := 0) (b := q) rfl rfl rfl rfl rfl ?_
      refine go_nmul (pc' := 40) (a := 5) (b := (0 + q)) rfl rfl rfl rfl rfl ?_
      refine go_s (pc' := 41) rfl rfl rfl rfl ?_
      refine go_nadd (pc' := 42) (a := (5 * (0 + q))) (b := r9) rfl rfl rfl rfl rfl ?_
      refine go_sald (pc' := 43) (q := ((5 * (0 + q)) + r9)) (v := .int (J 7 ((5 * (0 + q)) + r9))) hS rfl (tr_s hr (a := 70) rfl (by omega)) rfl rfl (by omega) rfl rfl ?_
      refine go_s (pc' := 45) rfl rfl rfl rfl ?_
      refine go_ret rfl rfl ?_
      exact ⟨by rw [show 245 * 0 + (q * 5 + r9) = 5 * (0 + q) + r9 by omega], rfl⟩
    · skip
      have hw9 : wdn q = 5 := by simp [wdn, q1, q2]
      rw [hw9] at hr9
      refine go_s (pc' := 1) rfl rfl rfl rfl ?_
      refine go_s (pc' := 2) (st' := [.int 0, .int 0]) rfl rfl rfl rfl ?_
      refine go_s (pc' := 3) (st' := [.int 1, .int 0, .int 0]) rfl rfl rfl rfl ?_
      refine go_callS (pc' := 4) rfl rfl rfl (Nat.le_of_ble_eq_true rfl) rfl rfl rfl (rt_within_t (q := 0) (n := 1) (by decide) (by decide) (by omega)) (fun r h13 q14 => ?_)
      obtain ⟨rfl, rfl⟩ := q14
      refine go_ifP (t' := 27) (pc' := 5) rfl rfl rfl (fun (c : (1 : Int32) = 0) => absurd c (by decide)) (fun _ => ?_)
      refine go_s (pc' := 6) rfl rfl rfl rfl ?_
      refine go_s (pc' := 7) (st' := [.int 0, .int (nI q)]) rfl rfl rfl rfl ?_
      refine go_s (pc' := 8) (st' := [.int 48, .int 0, .int (nI q)]) rfl rfl rfl rfl ?_
      refine go_callS (pc' := 9) rfl rfl rfl (Nat.le_of_ble_eq_true rfl) rfl rfl rfl (rt_within_t (q := q) (n := 48) (by omega) (by decide) (by omega)) (fun r h15 q16 => ?_)
      obtain ⟨rfl, rfl⟩ := q16
      refine go_ifP (t' := 27) (pc' := 10) rfl rfl rfl (fun (c : (1 : Int32) = 0) => absurd c (by decide)) (fun _ => ?_)
      refine go_s (pc' := 11) rfl rfl rfl rfl ?_
      refine go_s (pc' := 12) (st' := [.int 0, .int (nI r9)]) rfl rfl rfl rfl ?_
      refine go_s (pc' := 13) rfl rfl rfl rfl ?_
      refine go_s (pc' := 14) (st' := [.int 16, .int (nI q), .int 0, .int (nI r9)]) rfl rfl rfl rfl ?_
      refine go_icmpP (t' := 17) (pc' := 15) rfl rfl rfl (fun _ => ?_) (fun (c : ¬ (16 ≤ (nI q))) => absurd (nI_le (a := 16) (by omega) (by omega)) c)
      refine go_s (pc' := 18) rfl rfl rfl rfl ?_
      refine go_s (pc' := 19) (st' := [.int 16, .int (nI q), .int 0, .int (nI r9)]) rfl rfl rfl rfl ?_
      refine go_icmpP (t' := 22) (pc' := 20) rfl rfl rfl (fun _ => ?_) (fun (c : ¬ (¬ (nI q) = 16)) => absurd (fun z => q2 ((nI_eq (b := 16) (by omega) (by omega)).mp z)) c)
      refine go_s (pc' := 23) (st' := [.int 4, .int 0, .int (nI r9)]) rfl rfl rfl rfl ?_
      refine go_callS (pc' := 24) rfl rfl rfl (Nat.le_of_ble_eq_true rfl) rfl rfl rfl (rt_within_t (q := r9) (n := 4) (by omega) (by decide) (by omega)) (fun r h17 q18 => ?_)
      obtain ⟨rfl, rfl⟩ := q18
      refine go_ifP (t' := 27) (pc' := 25) rfl rfl rfl (fun (c : (1 : Int32) = 0) => absurd c (by decide)) (fun _ => ?_)
      refine go_s (pc' := 26) (st' := [.int 1]) rfl rfl rfl rfl ?_
      refine go_s (pc' := 28) rfl rfl rfl rfl ?_
      refine go_s (pc' := 29) (lo' := [some (.ref 62), some (.int 0), some (.int (nI q)), some (.int (nI r9)), some (.int 1)]) rfl rfl rfl rfl ?_
      refine go_s (pc' := 30) rfl rfl rfl rfl ?_
      refine go_ifP (t' := 44) (pc' := 31) rfl rfl rfl (fun (c : (1 : Int32) = 0) => absurd c (by decide)) (fun _ => ?_)
      refine go_s (pc' := 32) rfl rfl rfl rfl ?_
      refine go_sget (pc' := 33) (v := .ref 70) hS rfl rfl rfl (by decide) rfl rfl ?_
      refine go_s (pc' := 34) (st' := [.int 5, .ref 70]) rfl rfl rfl rfl ?_
      refine go_s (pc' := 35) (st' := [.int 49, .int 5, .ref 70]) rfl rfl rfl rfl ?_
      refine go_s (pc' := 36) rfl rfl rfl rfl ?_
      refine go_s (pc' := 37) (st' := [.int 0, .int 5, .ref 70]) rfl rfl rfl rfl ?_
      refine go_s (pc' := 38) rfl rfl rfl rfl ?_
      refine go_nadd (pc' := 39) (a := 0) (b := q) rfl rfl rfl rfl rfl ?_
      refine go_nmul (pc' := 40) (a := 5) (b := (0 + q)) rfl rfl rfl rfl rfl ?_
      refine go_s (pc' := 41) rfl rfl rfl rfl ?_
      refine go_nadd (pc' := 42) (a := (5 * (0 + q))) (b := r9) rfl rfl rfl rfl rfl ?_
      refine go_sald (pc' := 43) (q := ((5 * (0 + q)) + r9)) (v := .int (J 7 ((5 * (0 + q)) + r9))) hS rfl (tr_s hr (a := 70) rfl (by omega)) rfl rfl (by omega) rfl rfl ?_
      refine go_s (pc' := 45) rfl rfl rfl rfl ?_
      refine go_ret rfl rfl ?_
      exact ⟨by rw [show 245 * 0 + (q * 5 + r9) = 5 * (0 + q) + r9 by omega], rfl⟩
theorem rq_dsc_0_c {w : Nat → Bool} {d : Nat} {h : am_Hp} {J : sm_I} {Y : sm_X} {am lm as_ ls : Nat} (hr : rk am as_) (hS : sm (tbr am lm as_ ls) h J Y) {q : Nat} (hq : q < 49) {c : Int32} (hr9 : c < 0 ∨ nI (wdn q) ≤ c) (hd : 2 ≤ d) : am_Ev (am_prog w) d 190 [.ref 62, .int 0, .int (nI q), .int c] h (fun r h' => r = some (.int (-2147483648)) ∧ h' = h) := by
  obtain ⟨d, rfl⟩ : ∃ e, d = e + 1 := ⟨d - 1, by omega⟩
  refine ev_go rfl (Nat.le_of_ble_eq_true rfl) rfl ?_
  by_cases q1 : q < 16
  · skip
    have hw9 : wdn q = 1 := by simp [wdn, q1]
    rw [hw9] at hr9
    refine go_s (pc' := 1) rfl rfl rfl rfl ?_
    refine go_s (pc' := 2) (st' := [.int 0, .int 0]) rfl rfl rfl rfl ?_
    refine go_s (pc' := 3) (st' := [.int 1, .int 0, .int 0]) rfl rfl rfl rfl ?_
    refine go_callS (pc' := 4) rfl rfl rfl (Nat.le_of_ble_eq_true rfl) rfl rfl rfl (rt_within_t (q := 0) (n := 1) (by decide) (by decide) (by omega)) (fun r h1 q2 => ?_)
    obtain ⟨rfl, rfl⟩ := q2
    refine go_ifP (t' := 27) (pc' := 5) rfl rfl rfl (fun (c : (1 : Int32) = 0) => absurd c (by decide)) (fun _ => ?_)
    refine go_s (pc' := 6) rfl rfl rfl rfl ?_
    refine go_s (pc' := 7) (st' := [.int 0, .int (nI q)]) rfl rfl rfl rfl ?_
    refine go_s (pc' := 8) (st' := [.int 48, .int 0, .int (nI q)]) rfl rfl rfl rfl ?_
    refine go_callS (pc' := 9) rfl rfl rfl (Nat.le_of_ble_eq_true rfl) rfl rfl rfl (rt_within_t (q := q) (n := 48) (by omega) (by decide) (by omega)) (fun r h3 q4 => ?_)
    obtain ⟨rfl, rfl⟩ := q4
    refine go_ifP (t' := 27) (pc' := 10) rfl rfl rfl (fun (c : (1 : Int32) = 0) => absurd c (by decide)) (fun _ => ?_)
    refine go_s (pc' := 11) rfl rfl rfl rfl ?_
    refine go_s (pc' := 12) (st' := [.int 0, .int c]) rfl rfl rfl rfl ?_
    refine go_s (pc' := 13) rfl rfl rfl rfl ?_
    refine go_s (pc' := 14) (st' := [.int 16, .int (nI q), .int 0, .int c]) rfl rfl rfl rfl ?_
    refine go_icmpP (t' := 17) (pc' := 15) rfl rfl rfl (fun (c : 16 ≤ (nI q)) => absurd c (nI_ge (b := 16) q1 (by decide))) (fun _ => ?_)
    refine go_s (pc' := 16) (st' := [.int 0, .int 0, .int c]) rfl rfl rfl rfl ?_
    refine go_s (pc' := 23) rfl rfl rfl rfl ?_
    refine go_callS (pc' := 24) rfl rfl rfl (Nat.le_of_ble_eq_true rfl) rfl rfl rfl (rt_within_f (a := c) (n := 0) (hr9.imp id (fun z => by
      rw [Int32.le_iff_toInt_le] at z
      rw [Int32.lt_iff_toInt_lt]
      have e1 : (nI 0).toInt = 0 := rfl
      have e2 : (nI 1).toInt = 1 := rfl
      omega)) (by omega)) (fun r h5 q6 => ?_)
    obtain ⟨rfl, rfl⟩ := q6
    refine go_ifP (t' := 27) (pc' := 25) rfl rfl rfl (fun _ => ?_) (fun (c : ¬ ((0 : Int32) = 0)) => absurd (by decide) c)
    refine go_s (pc' := 28) (st' := [.int 0]) rfl rfl rfl rfl ?_
    refine go_s (pc' := 29) (lo' := [some (.ref 62), some (.int 0), some (.int (nI q)), some (.int c), some (.int 0)]) rfl rfl rfl rfl ?_
    refine go_s (pc' := 30) rfl rfl rfl rfl ?_
    refine go_ifP (t' := 44) (pc' := 31) rfl rfl rfl (fun _ => ?_) (fun (c : ¬ ((0 : Int32) = 0)) => absurd (by decide) c)
    refine go_s (pc' := 45) (st' := [.int (-2147483648)]) rfl rfl rfl rfl ?_
    refine go_ret rfl rfl ?_
    exact ⟨rfl, rfl⟩
  · skip
    by_cases q2 : q = 16
    · skip
      have hw9 : wdn q = 2 := by simp [wdn, q1, q2]
      rw [hw9] at hr9
      refine go_s (pc' := 1) rfl rfl rfl rfl ?_
      refine go_s (pc' := 2) (st' := [.int 0, .int 0]) rfl rfl rfl rfl ?_
      refine go_s (pc' := 3) (st' := [.int 1, .int 0, .int 0]) rfl rfl rfl rfl ?_
      refine go_callS (pc' := 4) rfl rfl rfl (Nat.le_of_ble_eq_true rfl) rfl rfl rfl (rt_within_t (q := 0) (n := 1) (by decide) (by decide) (by omega)) (fun r h7 q8 => ?_)
      obtain ⟨rfl, rfl⟩ := q8
      refine go_ifP (t' := 27) (pc' := 5) rfl rfl rfl (fun (c : (1 : Int32) = 0) => absurd c (by decide)) (fun _ => ?_)
      refine go_s (pc' := 6) rfl rfl rfl rfl ?_
      refine go_s (pc' := 7) (st' := [.int 0, .int (nI q)]) rfl rfl rfl rfl ?_
      refine go_s (pc' := 8) (st' := [.int 48, .int 0, .int (nI q)]) rfl rfl rfl rfl ?_
      refine go_callS (pc' := 9) rfl rfl rfl (Nat.le_of_ble_eq_true rfl) rfl rfl rfl (rt_within_t (q := q) (n := 48) (by omega) (by decide) (by omega)) (fun r h9 q10 => ?_)
      obtain ⟨rfl, rfl⟩ := q10
      refine go_ifP (t' := 27) (pc' := 10) rfl rfl rfl (fun (c : (1 : Int32) = 0) => absurd c (by decide)) (fun _ => ?_)
      refine go_s (pc' := 11) rfl rfl rfl rfl ?_
      refine go_s (pc' := 12) (st' := [.int 0, .int c]) rfl rfl rfl rfl ?_
      refine go_s (pc' := 13) rfl rfl rfl rfl ?_
      refine go_s (pc' := 14) (st' := [.int 16, .int (nI q), .int 0, .int c]) rfl rfl rfl rfl ?_
      refine go_icmpP (t' := 17) (pc' := 15) rfl rfl rfl (fun _ => ?_) (fun (c : ¬ (16 ≤ (nI q))) => absurd (nI_le (a := 16) (by omega) (by omega)) c)
      refine go_s (pc' := 18) rfl rfl rfl rfl ?_
      refine go_s (pc' := 19) (st' := [.int 16, .int (nI q), .int 0, .int c]) rfl rfl rfl rfl ?_
      refine go_icmpP (t' := 22) (pc' := 20) rfl rfl rfl (fun (c : ¬ (nI q) = 16) => absurd c (fun z => z (by rw [q2]; rfl))) (fun _ => ?_)
      refine go_s (pc' := 21) (st' := [.int 1, .int 0, .int c]) rfl rfl rfl rfl ?_
      refine go_s (pc' := 23) rfl rfl rfl rfl ?_
      refine go_callS (pc' := 24) rfl rfl rfl (Nat.le_of_ble_eq_true rfl) rfl rfl rfl (rt_within_f (a := c) (n := 1) (hr9.imp id (fun z => by
        rw [Int32.le_iff_toInt_le] at z
        rw [Int32.lt_iff_toInt_lt]
        have e1 : (nI 1).toInt = 1 := rfl
        have e2 : (nI 2).toInt = 2 := rfl
        omega)) (by omega)) (fun r h11 q12 => ?_)
      obtain ⟨rfl, rfl⟩ := q12
      refine go_ifP (t' := 27) (pc' := 25) rfl rfl rfl (fun _ => ?_) (fun (c : ¬ ((0 : Int32) = 0)) => absurd (by decide) c)
      refine go_s (pc' := 28) (st' := [.int 0]) rfl rfl rfl rfl ?_
      refine go_s (pc' := 29) (lo' := [some (.ref 62), some (.int 0), some (.int (nI q)), some (.int c), some (.int 0)]) rfl rfl rfl rfl ?_
      refine go_s (pc' := 30) rfl rfl rfl rfl ?_
      refine go_ifP (t' := 44) (pc' := 31) rfl rfl rfl (fun _ => ?_) (fun (c : ¬ ((0 : Int32) = 0)) => absurd (by decide) c)
      refine go_s (pc' := 45) (st' := [.int (-2147483648)]) rfl rfl rfl rfl ?_
      refine go_ret rfl rfl ?_
      exact ⟨rfl, rfl⟩
    · skip
      have hw9 : wdn q = 5 := by simp [wdn, q1, q2]
      rw [hw9] at hr9
      refine go_s (pc' := 1) rfl rfl rfl rfl ?_
      refine go_s (pc' := 2) (st' := [.int 0, .int 0]) rfl rfl rfl rfl ?_
      refine go_s (pc' := 3) (st' := [.int 1, .int 0, .int 0]) rfl rfl rfl rfl ?_
      refine go_callS (pc' := 4) rfl rfl rfl (Nat.le_of_ble_eq_true rfl) rfl rfl rfl (rt_within_t (q := 0) (n := 1) (by decide) (by decide) (by omega)) (fun r h13 q14 => ?_)
      obtain ⟨rfl, rfl⟩ := q14
      refine go_ifP (t' := 27) (pc' := 5) rfl rfl rfl (fun (c : (1 : Int32) = 0) => absurd c (by decide)) (fun _ => ?_)
      refine go_s (pc' := 6) rfl rfl rfl rfl ?_
      refine go_s (pc' := 7) (st' := [.int 0, .int (nI q)]) rfl rfl rfl rfl ?_
      refine go_s (pc' := 8) (st' := [.int 48, .int 0, .int (nI q)]) rfl rfl rfl rfl ?_
      refine go_callS (pc' := 9) rfl rfl rfl (Nat.le_of_ble_eq_true rfl) rfl rfl rfl (rt_within_t (q := q) (n := 48) (by omega) (by decide) (by omega)) (fun r h15 q16 => ?_)
      obtain ⟨rfl, rfl⟩ := q16
      refine go_ifP (t' := 27) (pc' := 10) rfl rfl rfl (fun (c : (1 : Int32) = 0) => absurd c (by decide)) (fun _ => ?_)
      refine go_s (pc' := 11) rfl rfl rfl rfl ?_
      refine go_s (pc' := 12) (st' := [.int 0, .int c]) rfl rfl rfl rfl ?_
      refine go_s (pc' := 13) rfl rfl rfl rfl ?_
      refine go_s (pc' := 14) (st' := [.int 16, .int (nI q), .int 0, .int c]) rfl rfl rfl rfl ?_
      refine go_icmpP (t' := 17) (pc' := 15) rfl rfl rfl (fun _ => ?_) (fun (c : ¬ (16 ≤ (nI q))) => absurd (nI_le (a := 16) (by omega) (by omega)) c)
      refine go_s (pc' := 18) rfl rfl rfl rfl ?_
      refine go_s (pc' := 19) (st' := [.int 16, .int (nI q), .int 0, .int c]) rfl rfl rfl rfl ?_
      refine go_icmpP (t' := 22) (pc' := 20) rfl rfl rfl (fun _ => ?_) (fun (c : ¬ (¬ (nI q) = 16)) => absurd (fun z => q2 ((nI_eq (b := 16) (by omega) (by omega)).mp z)) c)
      refine go_s (pc' := 23) (st' := [.int 4, .int 0, .int c]) rfl rfl rfl rfl ?_
      refine go_callS (pc' := 24) rfl rfl rfl (Nat.le_of_ble_eq_true rfl) rfl rfl rfl (rt_within_f (a := c) (n := 4) (hr9.imp id (fun z => by
        rw [Int32.le_iff_toInt_le] at z
        rw [Int32.lt_iff_toInt_lt]
        have e1 : (nI 4).toInt = 4 := rfl
        have e2 : (nI 5).toInt = 5 := rfl
        omega)) (by omega)) (fun r h17 q18 => ?_)
      obtain ⟨rfl, rfl⟩ := q18
      refine go_ifP (t' := 27) (pc' := 25) rfl rfl rfl (fun _ => ?_) (fun (c : ¬ ((0 : Int32) = 0)) => absurd (by decide) c)
      refine go_s (pc' := 28) (st' := [.int 0]) rfl rfl rfl rfl ?_
      refine go_s (pc' := 29) (lo' := [some (.ref 62), some (.int 0), some (.int (nI q)), some (.int c), some (.int 0)]) rfl rfl rfl rfl ?_
      refine go_s (pc' := 30) rfl rfl rfl rfl ?_
      refine go_ifP (t' := 44) (pc' := 31) rfl rfl rfl (fun _ => ?_) (fun (c : ¬ ((0 : Int32) = 0)) => absurd (by decide) c)
      refine go_s (pc' := 45) (st' := [.int (-2147483648)]) rfl rfl rfl rfl ?_
      refine go_ret rfl rfl ?_
      exact ⟨rfl, rfl⟩
theorem rq_dsc_0_b {w : Nat → Bool} {d : Nat} {h : am_Hp} {J : sm_I} {Y : sm_X} {am lm as_ ls : Nat} (hr : rk am as_) (hS : sm (tbr am lm as_ ls) h J Y) {b c : Int32} (hn : b < 0 ∨ nI 48 < b) (hd : 2 ≤ d) : am_Ev (am_prog w) d 190 [.ref 62, .int 0, .int b, .int c] h (fun r h' => r = some (.int (-2147483648)) ∧ h' = h) := by
  obtain ⟨d, rfl⟩ : ∃ e, d = e + 1 := ⟨d - 1, by omega⟩
  refine ev_go rfl (Nat.le_of_ble_eq_true rfl) rfl ?_
  refine go_s (pc' := 1) rfl rfl rfl rfl ?_
  refine go_s (pc' := 2) (st' := [.int 0, .int 0]) rfl rfl rfl rfl ?_
  refine go_s (pc' := 3) (st' := [.int 1, .int 0, .int 0]) rfl rfl rfl rfl ?_
  refine go_callS (pc' := 4) rfl rfl rfl (Nat.le_of_ble_eq_true rfl) rfl rfl rfl (rt_within_t (q := 0) (n := 1) (by decide) (by decide) (by omega)) (fun r h1 q2 => ?_)
  obtain ⟨rfl, rfl⟩ := q2
  refine go_ifP (t' := 27) (pc' := 5) rfl rfl rfl (fun (c : (1 : Int32) = 0) => absurd c (by decide)) (fun _ => ?_)
  refine go_s (pc' := 6) rfl rfl rfl rfl ?_
  refine go_s (pc' := 7) (st' := [.int 0, .int b]) rfl rfl rfl rfl ?_
  refine go_s (pc' := 8) (st' := [.int 48, .int 0, .int b]) rfl rfl rfl rfl ?_
  refine go_callS (pc' := 9) rfl rfl rfl (Nat.le_of_ble_eq_true rfl) rfl rfl rfl (rt_within_f (a := b) (n := 48) hn (by omega)) (fun r h3 q4 => ?_)
  obtain ⟨rfl, rfl⟩ := q4
  refine go_ifP (t' := 27) (pc' := 10) rfl rfl rfl (fun _ => ?_) (fun (c : ¬ ((0 : Int32) = 0)) => absurd (by decide) c)
  refine go_s (pc' := 28) (st' := [.int 0]) rfl rfl rfl rfl ?_
  refine go_s (pc' := 29) (lo' := [some (.ref 62), some (.int 0), some (.int b), some (.int c), some (.int 0)]) rfl rfl rfl rfl ?_
  refine go_s (pc' := 30) rfl rfl rfl rfl ?_
  refine go_ifP (t' := 44) (pc' := 31) rfl rfl rfl (fun _ => ?_) (fun (c : ¬ ((0 : Int32) = 0)) => absurd (by decide) c)
  refine go_s (pc' := 45) (st' := [.int (-2147483648)]) rfl rfl rfl rfl ?_
  refine go_ret rfl rfl ?_
  exact ⟨rfl, rfl⟩
theorem rq_dsc_1 {w : Nat → Bool} {d : Nat} {h : am_Hp} {J : sm_I} {Y : sm_X} {am lm as_ ls : Nat} (hr : rk am as_) (hS : sm (tbr am lm as_ ls) h J Y) {q : Nat} (hq : q < 49) {r9 : Nat} (hr9 : r9 < wdn q) (hd : 2 ≤ d) : am_Ev (am_prog w) d 190 [.ref 62, .int 1, .int (nI q), .int (nI r9)] h (fun r h' => r = some (.int (J 7 (245 * 1 + (q * 5 + r9)))) ∧ h' = h) := by
  obtain ⟨d, rfl⟩ : ∃ e, d = e + 1 := ⟨d - 1, by omega⟩
  refine ev_go rfl (Nat.le_of_ble_eq_true rfl) rfl ?_
  by_cases q1 : q < 16
  · skip
    have hw9 : wdn q = 1 := by simp [wdn, q1]
    rw [hw9] at hr9
    refine go_s (pc' := 1) rfl rfl rfl rfl ?_
    refine go_s (pc' := 2) (st' := [.int 0, .int 1]) rfl rfl rfl rfl ?_
    refine go_s (pc' := 3) (st' := [.int 1, .int 0, .int 1]) rfl rfl rfl rfl ?_
    refine go_callS (pc' := 4) rfl rfl rfl (Nat.le_of_ble_eq_true rfl) rfl rfl rfl (rt_within_t (q := 1) (n := 1) (by decide) (by decide) (by omega)) (fun r h1 q2 => ?_)
    obtain ⟨rfl, rfl⟩ := q2
    refine go_ifP (t' := 27) (pc' := 5) rfl rfl rfl (fun (c : (1 : Int32) = 0) => absurd c (by decide)) (fun _ => ?_)
    refine go_s (pc' := 6) rfl rfl rfl rfl ?_
    refine go_s (pc' := 7) (st' := [.int 0, .int (nI q)]) rfl rfl rfl rfl ?_
    refine go_s (pc' := 8) (st' := [.int 48, .int 0, .int (nI q)]) rfl rfl rfl rfl ?_
    refine go_callS (pc' := 9) rfl rfl rfl (Nat.le_of_ble_eq_true rfl) rfl rfl rfl (rt_within_t (q := q) (n := 48) (by omega) (by decide) (by omega)) (fun r h3 q4 => ?_)
    obtain ⟨rfl, rfl⟩ := q4
    refine go_ifP (t' := 27) (pc' := 10) rfl rfl rfl (fun (c : (1 : Int32) = 0) => absurd c (by decide)) (fun _ => ?_)
    refine go_s (pc' := 11) rfl rfl rfl rfl ?_
    refine go_s (pc' := 12) (st' := [.int 0, .int (nI r9)]) rfl rfl rfl rfl ?_
    refine go_s (pc' := 13) rfl rfl rfl rfl ?_
    refine go_s (pc' := 14) (st' := [.int 16, .int (nI q), .int 0, .int (nI r9)]) rfl rfl rfl rfl ?_
    refine go_icmpP (t' := 17) (pc' := 15) rfl rfl rfl (fun (c : 16 ≤ (nI q)) => absurd c (nI_ge (b := 16) q1 (by decide))) (fun _ => ?_)
    refine go_s (pc' := 16) (st' := [.int 0, .int 0, .int (nI r9)]) rfl rfl rfl rfl ?_
    refine go_s (pc' := 23) rfl rfl rfl rfl ?_
    refine go_callS (pc' := 24) rfl rfl rfl (Nat.le_of_ble_eq_true rfl) rfl rfl rfl (rt_within_t (q := r9) (n := 0) (by omega) (by decide) (by omega)) (fun r h5 q6 => ?_)
    obtain ⟨rfl, rfl⟩ := q6
    refine go_ifP (t' := 27) (pc' := 25) rfl rfl rfl (fun (c : (1 : Int32) = 0) => absurd c (by decide)) (fun _ => ?_)
    refine go_s (pc' := 26) (st' := [.int 1]) rfl rfl rfl rfl ?_
    refine go_s (pc' := 28) rfl rfl rfl rfl ?_
    refine go_s (pc' := 29) (lo' := [some (.ref 62), some (.int 1), some (.int (nI q)), some (.int (nI r9)), some (.int 1)]) rfl rfl rfl rfl ?_
    refine go_s (pc' := 30) rfl rfl rfl rfl ?_
    refine go_ifP (t' := 44) (pc' := 31) rfl rfl rfl (fun (c : (1 : Int32) = 0) => absurd c (by decide)) (fun _ => ?_)
    refine go_s (pc' := 32) rfl rfl rfl rfl ?_
    refine go_sget (pc' := 33) (v := .ref 70) hS rfl rfl rfl (by decide) rfl rfl ?_
    refine go_s (pc' := 34) (st' := [.int 5, .ref 70]) rfl rfl rfl rfl ?_
    refine go_s (pc' := 35) (st' := [.int 49, .int 5, .ref 70]) rfl rfl rfl rfl ?_
    refine go_s (pc' := 36) rfl rfl rfl rfl ?_
    refine go_s (pc' := 37) (st' := [.int 49, .int 5, .ref 70]) rfl rfl rfl rfl ?_
    refine go_s (pc' := 38) rfl rfl rfl rfl ?_
    refine go_nadd (pc' := 39) (a := 49) (b := q) rfl rfl rfl rfl rfl ?_
    refine go_nmul (pc' := 40) (a := 5) (b := (49 + q)) rfl rfl rfl rfl rfl ?_
    refine go_s (pc' := 41) rfl rfl rfl rfl ?_
    refine go_nadd (pc' := 42) (a := (5 * (49 + q))) (b := r9) rfl rfl rfl rfl rfl ?_
    refine go_sald (pc' := 43) (q := ((5 * (49 + q)) + r9)) (v := .int (J 7 ((5 * (49 + q)) + r9))) hS rfl (tr_s hr (a := 70) rfl (by omega)) rfl rfl (by omega) rfl rfl ?_
    refine go_s (pc' := 45) rfl rfl rfl rfl ?_
    refine go_ret rfl rfl ?_
    exact ⟨by rw [show 245 * 1 + (q * 5 + r9) = 5 * (49 + q) + r9 by omega], rfl⟩
  · skip
    by_cases q2 : q = 16
    · skip
      have hw9 : wdn q = 2 := by simp [wdn, q1, q2]
      rw [hw9] at hr9
      refine go_s (pc' := 1) rfl rfl rfl rfl ?_
      refine go_s (pc' := 2) (st' := [.int 0, .int 1]) rfl rfl rfl rfl ?_
      refine go_s (pc' := 3) (st' := [.int 1, .int 0, .int 1]) rfl rfl rfl rfl ?_
      refine go_callS (pc' := 4) rfl rfl rfl (Nat.le_of_ble_eq_true rfl) rfl rfl rfl (rt_within_t (q := 1) (n := 1) (by decide) (by decide) (by omega)) (fun r h7 q8 => ?_)
      obtain ⟨rfl, rfl⟩ := q8
      refine go_ifP (t' := 27) (pc' := 5) rfl rfl rfl (fun (c : (1 : Int32) = 0) => absurd c (by decide)) (fun _ => ?_)
      refine go_s (pc' := 6) rfl rfl rfl rfl ?_
      refine go_s (pc' := 7) (st' := [.int 0, .int (nI q)]) rfl rfl rfl rfl ?_
      refine go_s (pc' := 8) (st' := [.int 48, .int 0, .int (nI q)]) rfl rfl rfl rfl ?_
      refine go_callS (pc' := 9) rfl rfl rfl (Nat.le_of_ble_eq_true rfl) rfl rfl rfl (rt_within_t (q := q) (n := 48) (by omega) (by decide) (by omega)) (fun r h9 q10 => ?_)
      obtain ⟨rfl, rfl⟩ := q10
      refine go_ifP (t' := 27) (pc' := 10) rfl rfl rfl (fun (c : (1 : Int32) = 0) => absurd c (by decide)) (fun _ => ?_)
      refine go_s (pc' := 11) rfl rfl rfl rfl ?_
      refine go_s (pc' := 12) (st' := [.int 0, .int (nI r9)]) rfl rfl rfl rfl ?_
      refine go_s (pc' := 13) rfl rfl rfl rfl ?_
      refine go_s (pc' := 14) (st' := [.int 16, .int (nI q), .int 0, .int (nI r9)]) rfl rfl rfl rfl ?_
      refine go_icmpP (t' := 17) (pc' := 15) rfl rfl rfl (fun _ => ?_) (fun (c : ¬ (16 ≤ (nI q))) => absurd (nI_le (a := 16) (by omega) (by omega)) c)
      refine go_s (pc' := 18) rfl rfl rfl rfl ?_
      refine go_s (pc' := 19) (st' := [.int 16, .int (nI q), .int 0, .int (nI r9)]) rfl rfl rfl rfl ?_
      refine go_icmpP (t' := 22) (pc' := 20) rfl rfl rfl (fun (c : ¬ (nI q) = 16) => absurd c (fun z => z (by rw [q2]; rfl))) (fun _ => ?_)
      refine go_s (pc' := 21) (st' := [.int 1, .int 0, .int (nI r9)]) rfl rfl rfl rfl ?_
      refine go_s (pc' := 23) rfl rfl rfl rfl ?_
      refine go_callS (pc' := 24) rfl rfl rfl (Nat.le_of_ble_eq_true rfl) rfl rfl rfl (rt_within_t (q := r9) (n := 1) (by omega) (by decide) (by omega)) (fun r h11 q12 => ?_)
      obtain ⟨rfl, rfl⟩ := q12
      refine go_ifP (t' := 27) (pc' := 25) rfl rfl rfl (fun (c : (1 : Int32) = 0) => absurd c (by decide)) (fun _ => ?_)
      refine go_s (pc' := 26) (st' := [.int 1]) rfl rfl rfl rfl ?_
      refine go_s (pc' := 28) rfl rfl rfl rfl ?_
      refine go_s (pc' := 29) (lo' := [some (.ref 62), some (.int 1), some (.int (nI q)), some (.int (nI r9)), some (.int 1)]) rfl rfl rfl rfl ?_
      refine go_s (pc' := 30) rfl rfl rfl rfl ?_
      refine go_ifP (t' := 44) (pc' := 31) rfl rfl rfl (fun (c : (1 : Int32) = 0) => absurd c (by decide)) (fun _ => ?_)
      refine go_s (pc' := 32) rfl rfl rfl rfl ?_
      refine go_sget (pc' := 33) (v := .ref 70) hS rfl rfl rfl (by decide) rfl rfl ?_
      refine go_s (pc' := 34) (st' := [.int 5, .ref 70]) rfl rfl rfl rfl ?_
      refine go_s (pc' := 35) (st' := [.int 49, .int 5, .ref 70]) rfl rfl rfl rfl ?_
      refine go_s (pc' := 36) rfl rfl rfl rfl ?_
      refine go_s (pc' := 37) (st' := [.int 49, .int 5, .ref 70]) rfl rfl rfl rfl ?_
      refine go_s (pc' := 38) rfl rfl rfl rfl ?_
      refine go_nadd (pc' := 39) (a := 49) (b := q) rfl rfl rfl rfl rfl ?_
      refine go_nmul (pc' := 40) (a := 5) (b := (49 + q)) rfl rfl rfl rfl rfl ?_
      refine go_s (pc' := 41) rfl rfl rfl rfl ?_
      refine go_nadd (pc' := 42) (a := (5 * (49 + q))) (b := r9) rfl rfl rfl rfl rfl ?_
      refine go_sald (pc' := 43) (q := ((5 * (49 + q)) + r9)) (v := .int (J 7 ((5 * (49 + q)) + r9))) hS rfl (tr_s hr (a := 70) rfl (by omega)) rfl rfl (by omega) rfl rfl ?_
      refine go_s (pc' := 45) rfl rfl rfl rfl ?_
      refine go_ret rfl rfl ?_
      exact ⟨by rw [show 245 * 1 + (q * 5 + r9) = 5 * (49 + q) + r9 by omega], rfl⟩
    · skip
      have hw9 : wdn q = 5 := by simp [wdn, q1, q2]
      rw [hw9] at hr9
      refine go_s (pc' := 1) rfl rfl rfl rfl ?_
      refine go_s (pc' := 2) (st' := [.int 0, .int 1]) rfl rfl rfl rfl ?_
      refine go_s (pc' := 3) (st' := [.int 1, .int 0, .int 1]) rfl rfl rfl rfl ?_
      refine go_callS (pc' := 4) rfl rfl rfl (Nat.le_of_ble_eq_true rfl) rfl rfl rfl (rt_within_t (q := 1) (n := 1) (by decide) (by decide) (by omega)) (fun r h13 q14 => ?_)
      obtain ⟨rfl, rfl⟩ := q14
      refine go_ifP (t' := 27) (pc' := 5) rfl rfl rfl (fun (c : (1 : Int32) = 0) => absurd c (by decide)) (fun _ => ?_)
      refine go_s (pc' := 6) rfl rfl rfl rfl ?_
      refine go_s (pc' := 7) (st' := [.int 0, .int (nI q)]) rfl rfl rfl rfl ?_
      refine go_s (pc' := 8) (st' := [.int 48, .int 0, .int (nI q)]) rfl rfl rfl rfl ?_
      refine go_callS (pc' := 9) rfl rfl rfl (Nat.le_of_ble_eq_true rfl) rfl rfl rfl (rt_within_t (q := q) (n := 48) (by omega) (by decide) (by omega)) (fun r h15 q16 => ?_)
      obtain ⟨rfl, rfl⟩ := q16
      refine go_ifP (t' := 27) (pc' := 10) rfl rfl rfl (fun (c : (1 : Int32) = 0) => absurd c (by decide)) (fun _ => ?_)
      refine go_s (pc' := 11) rfl rfl rfl rfl ?_
      refine go_s (pc' := 12) (st' := [.int 0, .int (nI r9)]) rfl rfl rfl rfl ?_
      refine go_s (pc' := 13) rfl rfl rfl rfl ?_
      refine go_s (pc' := 14) (st' := [.int 16, .int (nI q), .int 0, .int (nI r9)]) rfl rfl rfl rfl ?_
      refine go_icmpP (t' := 17) (pc' := 15) rfl rfl rfl (fun _ => ?_) (fun (c : ¬ (16 ≤ (nI q))) => absurd (nI_le (a := 16) (by omega) (by omega)) c)
      refine go_s (pc' := 18) rfl rfl rfl rfl ?_
      refine go_s (pc' := 19) (st' := [.int 16, .int (nI q), .int 0, .int (nI r9)]) rfl rfl rfl rfl ?_
      refine go_icmpP (t' := 22) (pc' := 20) rfl rfl rfl (fun _ => ?_) (fun (c : ¬ (¬ (nI q) = 16)) => absurd (fun z => q2 ((nI_eq (b := 16) (by omega) (by omega)).mp z)) c)
      refine go_s (pc' := 23) (st' := [.int 4, .int 0, .int (nI r9)]) rfl rfl rfl rfl ?_
      refine go_callS (pc' := 24) rfl rfl rfl (Nat.le_of_ble_eq_true rfl) rfl rfl rfl (rt_within_t (q := r9) (n := 4) (by omega) (by decide) (by omega)) (fun r h17 q18 => ?_)
      obtain ⟨rfl, rfl⟩ := q18
      refine go_ifP (t' := 27) (pc' := 25) rfl rfl rfl (fun (c : (1 : Int32) = 0) => absurd c (by decide)) (fun _ => ?_)
      refine go_s (pc' := 26) (st' := [.int 1]) rfl rfl rfl rfl ?_
      refine go_s (pc' := 28) rfl rfl rfl rfl ?_
      refine go_s (pc' := 29) (lo' := [some (.ref 62), some (.int 1), some (.int (nI q)), some (.int (nI r9)), some (.int 1)]) rfl rfl rfl rfl ?_
      refine go_s (pc' := 30) rfl rfl rfl rfl ?_
      refine go_ifP (t' := 44) (pc' := 31) rfl rfl rfl (fun (c : (1 : Int32) = 0) => absurd c (by decide)) (fun _ => ?_)
      refine go_s (pc' := 32) rfl rfl rfl rfl ?_
      refine go_sget (pc' := 33) (v := .ref 70) hS rfl rfl rfl (by decide) rfl rfl ?_
      refine go_s (pc' := 34) (st' := [.int 5, .ref 70]) rfl rfl rfl rfl ?_
      refine go_s (pc' := 35) (st' := [.int 49, .int 5, .ref 70]) rfl rfl rfl rfl ?_
      refine go_s (pc' := 36) rfl rfl rfl rfl ?_
      refine go_s (pc' := 37) (st' := [.int 49, .int 5, .ref 70]) rfl rfl rfl rfl ?_
      refine go_s (pc' := 38) rfl rfl rfl rfl ?_
      refine go_nadd (pc' := 39) (a := 49) (b := q) rfl rfl rfl rfl rfl ?_
      refine go_nmul (pc' := 40) (a := 5) (b := (49 + q)) rfl rfl rfl rfl rfl ?_
      refine go_s (pc' := 41) rfl rfl rfl rfl ?_
      refine go_nadd (pc' := 42) (a := (5 * (49 + q))) (b := r9) rfl rfl rfl rfl rfl ?_
      refine go_sald (pc' := 43) (q := ((5 * (49 + q)) + r9)) (v := .int (J 7 ((5 * (49 + q)) + r9))) hS rfl (tr_s hr (a := 70) rfl (by omega)) rfl rfl (by omega) rfl rfl ?_
      refine go_s (pc' := 45) rfl rfl rfl rfl ?_
      refine go_ret rfl rfl ?_
      exact ⟨by rw [show 245 * 1 + (q * 5 + r9) = 5 * (49 + q) + r9 by omega], rfl⟩
theorem rq_dsc_1_c {w : Nat → Bool} {d : Nat} {h : am_Hp} {J : sm_I} {Y : sm_X} {am lm as_ ls : Nat} (hr : rk am as_) (hS : sm (tbr am lm as_ ls) h J Y) {q : Nat} (hq : q < 49) {c : Int32} (hr9 : c < 0 ∨ nI (wdn q) ≤ c) (hd : 2 ≤ d) : am_Ev (am_prog w) d 190 [.ref 62, .int 1, .int (nI q), .int c] h (fun r h' => r = some (.int (-2147483648)) ∧ h' = h) := by
  obtain ⟨d, rfl⟩ : ∃ e, d = e + 1 := ⟨d - 1, by omega⟩
  refine ev_go rfl (Nat.le_of_ble_eq_true rfl) rfl ?_
  by_cases q1 : q < 16
  · skip
    have hw9 : wdn q = 1 := by simp [wdn, q1]
    rw [hw9] at hr9
    refine go_s (pc' := 1) rfl rfl rfl rfl ?_
    refine go_s (pc' := 2) (st' := [.int 0, .int 1]) rfl rfl rfl rfl ?_
    refine go_s (pc' := 3) (st' := [.int 1, .int 0, .int 1]) rfl rfl rfl rfl ?_
    refine go_callS (pc' := 4) rfl rfl rfl (Nat.le_of_ble_eq_true rfl) rfl rfl rfl (rt_within_t (q := 1) (n := 1) (by decide) (by decide) (by omega)) (fun r h1 q2 => ?_)
    obtain ⟨rfl, rfl⟩ := q2
    refine go_ifP (t' := 27) (pc' := 5) rfl rfl rfl (fun (c : (1 : Int32) = 0) => absurd c (by decide)) (fun _ => ?_)
    refine go_s (pc' := 6) rfl rfl rfl rfl ?_
    refine go_s (pc' := 7) (st' := [.int 0, .int (nI q)]) rfl rfl rfl rfl ?_
    refine go_s (pc' := 8) (st' := [.int 48, .int 0, .int (nI q)]) rfl rfl rfl rfl ?_
    refine go_callS (pc' := 9) rfl rfl rfl (Nat.le_of_ble_eq_true rfl) rfl rfl rfl (rt_within_t (q := q) (n := 48) (by omega) (by decide) (by omega)) (fun r h3 q4 => ?_)
    obtain ⟨rfl, rfl⟩ := q4
    refine go_ifP (t' := 27) (pc' := 10) rfl rfl rfl (fun (c : (1 : Int32) = 0) => absurd c (by decide)) (fun _ => ?_)
    refine go_s (pc' := 11) rfl rfl rfl rfl ?_
    refine go_s (pc' := 12) (st' := [.int 0, .int c]) rfl rfl rfl rfl ?_
    refine go_s (pc' := 13) rfl rfl rfl rfl ?_
    refine go_s (pc' := 14) (st' := [.int 16, .int (nI q), .int 0, .int c]) rfl rfl rfl rfl ?_
    refine go_icmpP (t' := 17) (pc' := 15) rfl rfl rfl (fun (c : 16 ≤ (nI q)) => absurd c (nI_ge (b := 16) q1 (by decide))) (fun _ => ?_)
    refine go_s (pc' := 16) (st' := [.int 0, .int 0, .int c]) rfl rfl rfl rfl ?_
    refine go_s (pc' := 23) rfl rfl rfl rfl ?_
    refine go_callS (pc' := 24) rfl rfl rfl (Nat.le_of_ble_eq_true rfl) rfl rfl rfl (rt_within_f (a := c) (n := 0) (hr9.imp id (fun z => by
      rw [Int32.le_iff_toInt_le] at z
      rw [Int32.lt_iff_toInt_lt]
      have e1 : (nI 0).toInt = 0 := rfl
      have e2 : (nI 1).toInt = 1 := rfl
      omega)) (by omega)) (fun r h5 q6 => ?_)
    obtain ⟨rfl, rfl⟩ := q6
    refine go_ifP (t' := 27) (pc' := 25) rfl rfl rfl (fun _ => ?_) (fun (c : ¬ ((0 : Int32) = 0)) => absurd (by decide) c)
    refine go_s (pc' := 28) (st' := [.int 0]) rfl rfl rfl rfl ?_
    refine go_s (pc' := 29) (lo' := [some (.ref 62), some (.int 1), some (.int (nI q)), some (.int c), some (.int 0)]) rfl rfl rfl rfl ?_
    refine go_s (pc' := 30) rfl rfl rfl rfl ?_
    refine go_ifP (t' := 44) (pc' := 31) rfl rfl rfl (fun _ => ?_) (fun (c : ¬ ((0 : Int32) = 0)) => absurd (by decide) c)
    refine go_s (pc' := 45) (st' := [.int (-2147483648)]) rfl rfl rfl rfl ?_
    refine go_ret rfl rfl ?_
    exact ⟨rfl, rfl⟩
  · skip
    by_cases q2 : q = 16
    · skip
      have hw9 : wdn q = 2 := by simp [wdn, q1, q2]
      rw [hw9] at hr9
      refine go_s (pc' := 1) rfl rfl rfl rfl ?_
      refine go_s (pc' := 2) (st' := [.int 0, .int 1]) rfl rfl rfl rfl ?_
      refine go_s (pc' := 3) (st' := [.int 1, .int 0, .int 1]) rfl rfl rfl rfl ?_
      refine go_callS (pc' := 4) rfl rfl rfl (Nat.le_of_ble_eq_true rfl) rfl rfl rfl (rt_within_t (q := 1) (n := 1) (by decide) (by decide) (by omega)) (fun r h7 q8 => ?_)
      obtain ⟨rfl, rfl⟩ := q8
      refine go_ifP (t' := 27) (pc' := 5) rfl rfl rfl (fun (c : (1 : Int32) = 0) => absurd c (by decide)) (fun _ => ?_)
      refine go_s (pc' := 6) rfl rfl rfl rfl ?_
      refine go_s (pc' := 7) (st' := [.int 0, .int (nI q)]) rfl rfl rfl rfl ?_
      refine go_s (pc' := 8) (st' := [.int 48, .int 0, .int (nI q)]) rfl rfl rfl rfl ?_
      refine go_callS (pc' := 9) rfl rfl rfl (Nat.le_of_ble_eq_true rfl) rfl rfl rfl (rt_within_t (q := q) (n := 48) (by omega) (by decide) (by omega)) (fun r h9 q10 => ?_)
      obtain ⟨rfl, rfl⟩ := q10
      refine go_ifP (t' := 27) (pc' := 10) rfl rfl rfl (fun (c : (1 : Int32) = 0) => absurd c (by decide)) (fun _ => ?_)
      refine go_s (pc' := 11) rfl rfl rfl rfl ?_
      refine go_s (pc' := 12) (st' := [.int 0, .int c]) rfl rfl rfl rfl ?_
      refine go_s (pc' := 13) rfl rfl rfl rfl ?_
      refine go_s (pc' := 14) (st' := [.int 16, .int (nI q), .int 0, .int c]) rfl rfl rfl rfl ?_
      refine go_icmpP (t' := 17) (pc' := 15) rfl rfl rfl (fun _ => ?_) (fun (c : ¬ (16 ≤ (nI q))) => absurd (nI_le (a := 16) (by omega) (by omega)) c)
      refine go_s (pc' := 18) rfl rfl rfl rfl ?_
      refine go_s (pc' := 19) (st' := [.int 16, .int (nI q), .int 0, .int c]) rfl rfl rfl rfl ?_
      refine go_icmpP (t' := 22) (pc' := 20) rfl rfl rfl (fun (c : ¬ (nI q) = 16) => absurd c (fun z => z (by rw [q2]; rfl))) (fun _ => ?_)
      refine go_s (pc' := 21) (st' := [.int 1, .int 0, .int c]) rfl rfl rfl rfl ?_
      refine go_s (pc' := 23) rfl rfl rfl rfl ?_
      refine go_callS (pc' := 24) rfl rfl rfl (Nat.le_of_ble_eq_true rfl) rfl rfl rfl (rt_within_f (a := c) (n := 1) (hr9.imp id (fun z => by
        rw [Int32.le_iff_toInt_le] at z
        rw [Int32.lt_iff_toInt_lt]
        have e1 : (nI 1).toInt = 1 := rfl
        have e2 : (nI 2).toInt = 2 := rfl
        omega)) (by omega)) (fun r h11 q12 => ?_)
      obtain ⟨rfl, rfl⟩ := q12
      refine go_ifP (t' := 27) (pc' := 25) rfl rfl rfl (fun _ => ?_) (fun (c : ¬ ((0 : Int32) = 0)) => absurd (by decide) c)
      refine go_s (pc' := 28) (st' := [.int 0]) rfl rfl rfl rfl ?_
      refine go_s (pc' := 29) (lo' := [some (.ref 62), some (.int 1), some (.int (nI q)), some (.int c), some (.int 0)]) rfl rfl rfl rfl ?_
      refine go_s (pc' := 30) rfl rfl rfl rfl ?_
      refine go_ifP (t' := 44) (pc' := 31) rfl rfl rfl (fun _ => ?_) (fun (c : ¬ ((0 : Int32) = 0)) => absurd (by decide) c)
      refine go_s (pc' := 45) (st' := [.int (-2147483648)]) rfl rfl rfl rfl ?_
      refine go_ret rfl rfl ?_
      exact ⟨rfl, rfl⟩
    · skip
      have hw9 : wdn q = 5 := by simp [wdn, q1, q2]
      rw [hw9] at hr9
      refine go_s (pc' := 1) rfl rfl rfl rfl ?_
      refine go_s (pc' := 2) (st' := [.int 0, .int 1]) rfl rfl rfl rfl ?_
      refine go_s (pc' := 3) (st' := [.int 1, .int 0, .int 1]) rfl rfl rfl rfl ?_
      refine go_callS (pc' := 4) rfl rfl rfl (Nat.le_of_ble_eq_true rfl) rfl rfl rfl (rt_within_t (q := 1) (n := 1) (by decide) (by decide) (by omega)) (fun r h13 q14 => ?_)
      obtain ⟨rfl, rfl⟩ := q14
      refine go_ifP (t' := 27) (pc' := 5) rfl rfl rfl (fun (c : (1 : Int32) = 0) => absurd c (by decide)) (fun _ => ?_)
      refine go_s (pc' := 6) rfl rfl rfl rfl ?_
      refine go_s (pc' := 7) (st' := [.int 0, .int (nI q)]) rfl rfl rfl rfl ?_
      refine go_s (pc' := 8) (st' := [.int 48, .int 0, .int (nI q)]) rfl rfl rfl rfl ?_
      refine go_callS (pc' := 9) rfl rfl rfl (Nat.le_of_ble_eq_true rfl) rfl rfl rfl (rt_within_t (q := q) (n := 48) (by omega) (by decide) (by omega)) (fun r h15 q16 => ?_)
      obtain ⟨rfl, rfl⟩ := q16
      refine go_ifP (t' := 27) (pc' := 10) rfl rfl rfl (fun (c : (1 : Int32) = 0) => absurd c (by decide)) (fun _ => ?_)
      refine go_s (pc' := 11) rfl rfl rfl rfl ?_
      refine go_s (pc' := 12) (st' := [.int 0, .int c]) rfl rfl rfl rfl ?_
      refine go_s (pc' := 13) rfl rfl rfl rfl ?_
      refine go_s (pc' := 14) (st' := [.int 16, .int (nI q), .int 0, .int c]) rfl rfl rfl rfl ?_
      refine go_icmpP (t' := 17) (pc' := 15) rfl rfl rfl (fun _ => ?_) (fun (c : ¬ (16 ≤ (nI q))) => absurd (nI_le (a := 16) (by omega) (by omega)) c)
      refine go_s (pc' := 18) rfl rfl rfl rfl ?_
      refine go_s (pc' := 19) (st' := [.int 16, .int (nI q), .int 0, .int c]) rfl rfl rfl rfl ?_
      refine go_icmpP (t' := 22) (pc' := 20) rfl rfl rfl (fun _ => ?_) (fun (c : ¬ (¬ (nI q) = 16)) => absurd (fun z => q2 ((nI_eq (b := 16) (by omega) (by omega)).mp z)) c)
      refine go_s (pc' := 23) (st' := [.int 4, .int 0, .int c]) rfl rfl rfl rfl ?_
      refine go_callS (pc' := 24) rfl rfl rfl (Nat.le_of_ble_eq_true rfl) rfl rfl rfl (rt_within_f (a := c) (n := 4) (hr9.imp id (fun z => by
        rw [Int32.le_iff_toInt_le] at z
        rw [Int32.lt_iff_toInt_lt]
        have e1 : (nI 4).toInt = 4 := rfl
        have e2 : (nI 5).toInt = 5 := rfl
        omega)) (by omega)) (fun r h17 q18 => ?_)
      obtain ⟨rfl, rfl⟩ := q18
      refine go_ifP (t' := 27) (pc' := 25) rfl rfl rfl (fun _ => ?_) (fun (c : ¬ ((0 : Int32) = 0)) => absurd (by decide) c)
      refine go_s (pc' := 28) (st' := [.int 0]) rfl rfl rfl rfl ?_
      refine go_s (pc' := 29) (lo' := [some (.ref 62), some (.int 1), some (.int (nI q)), some (.int c), some (.int 0)]) rfl rfl rfl rfl ?_
      refine go_s (pc' := 30) rfl rfl rfl rfl ?_
      refine go_ifP (t' := 44) (pc' := 31) rfl rfl rfl (fun _ => ?_) (fun (c : ¬ ((0 : Int32) = 0)) => absurd (by decide) c)
      refine go_s (pc' := 45) (st' := [.int (-2147483648)]) rfl rfl rfl rfl ?_
      refine go_ret rfl rfl ?_
      exact ⟨rfl, rfl⟩
theorem rq_dsc_1_b {w : Nat → Bool} {d : Nat} {h : am_Hp} {J : sm_I} {Y : sm_X} {am lm as_ ls : Nat} (hr : rk am as_) (hS : sm (tbr am lm as_ ls) h J Y) {b c : Int32} (hn : b < 0 ∨ nI 48 < b) (hd : 2 ≤ d) : am_Ev (am_prog w) d 190 [.ref 62, .int 1, .int b, .int c] h (fun r h' => r = some (.int (-2147483648)) ∧ h' = h) := by
  obtain ⟨d, rfl⟩ : ∃ e, d = e + 1 := ⟨d - 1, by omega⟩
  refine ev_go rfl (Nat.le_of_ble_eq_true rfl) rfl ?_
  refine go_s (pc' := 1) rfl rfl rfl rfl ?_
  refine go_s (pc' := 2) (st' := [.int 0, .int 1]) rfl rfl rfl rfl ?_
  refine go_s (pc' := 3) (st' := [.int 1, .int 0, .int 1]) rfl rfl rfl rfl ?_
  refine go_callS (pc' := 4) rfl rfl rfl (Nat.le_of_ble_eq_true rfl) rfl rfl rfl (rt_within_t (q := 1) (n := 1) (by decide) (by decide) (by omega)) (fun r h1 q2 => ?_)
  obtain ⟨rfl, rfl⟩ := q2
  refine go_ifP (t' := 27) (pc' := 5) rfl rfl rfl (fun (c : (1 : Int32) = 0) => absurd c (by decide)) (fun _ => ?_)
  refine go_s (pc' := 6) rfl rfl rfl rfl ?_
  refine go_s (pc' := 7) (st' := [.int 0, .int b]) rfl rfl rfl rfl ?_
  refine go_s (pc' := 8) (st' := [.int 48, .int 0, .int b]) rfl rfl rfl rfl ?_
  refine go_callS (pc' := 9) rfl rfl rfl (Nat.le_of_ble_eq_true rfl) rfl rfl rfl (rt_within_f (a := b) (n := 48) hn (by omega)) (fun r h3 q4 => ?_)
  obtain ⟨rfl, rfl⟩ := q4
  refine go_ifP (t' := 27) (pc' := 10) rfl rfl rfl (fun _ => ?_) (fun (c : ¬ ((0 : Int32) = 0)) => absurd (by decide) c)
  refine go_s (pc' := 28) (st' := [.int 0]) rfl rfl rfl rfl ?_
  refine go_s (pc' := 29) (lo' := [some (.ref 62), some (.int 1), some (.int b), some (.int c), some (.int 0)]) rfl rfl rfl rfl ?_
  refine go_s (pc' := 30) rfl rfl rfl rfl ?_
  refine go_ifP (t' := 44) (pc' := 31) rfl rfl rfl (fun _ => ?_) (fun (c : ¬ ((0 : Int32) = 0)) => absurd (by decide) c)
  refine go_s (pc' := 45) (st' := [.int (-2147483648)]) rfl rfl rfl rfl ?_
  refine go_ret rfl rfl ?_
  exact ⟨rfl, rfl⟩
theorem rq_dsc_a {w : Nat → Bool} {d : Nat} {h : am_Hp} {J : sm_I} {Y : sm_X} {am lm as_ ls : Nat} (hr : rk am as_) (hS : sm (tbr am lm as_ ls) h J Y) {a b c : Int32} (hn : a < 0 ∨ nI 1 < a) (hd : 2 ≤ d) : am_Ev (am_prog w) d 190 [.ref 62, .int a, .int b, .int c] h (fun r h' => r = some (.int (-2147483648)) ∧ h' = h) := by
  obtain ⟨d, rfl⟩ : ∃ e, d = e + 1 := ⟨d - 1, by omega⟩
  refine ev_go rfl (Nat.le_of_ble_eq_true rfl) rfl ?_
  refine go_s (pc' := 1) rfl rfl rfl rfl ?_
  refine go_s (pc' := 2) (st' := [.int 0, .int a]) rfl rfl rfl rfl ?_
  refine go_s (pc' := 3) (st' := [.int 1, .int 0, .int a]) rfl rfl rfl rfl ?_
  refine go_callS (pc' := 4) rfl rfl rfl (Nat.le_of_ble_eq_true rfl) rfl rfl rfl (rt_within_f (a := a) (n := 1) hn (by omega)) (fun r h1 q2 => ?_)
  obtain ⟨rfl, rfl⟩ := q2
  refine go_ifP (t' := 27) (pc' := 5) rfl rfl rfl (fun _ => ?_) (fun (c : ¬ ((0 : Int32) = 0)) => absurd (by decide) c)
  refine go_s (pc' := 28) (st' := [.int 0]) rfl rfl rfl rfl ?_
  refine go_s (pc' := 29) (lo' := [some (.ref 62), some (.int a), some (.int b), some (.int c), some (.int 0)]) rfl rfl rfl rfl ?_
  refine go_s (pc' := 30) rfl rfl rfl rfl ?_
  refine go_ifP (t' := 44) (pc' := 31) rfl rfl rfl (fun _ => ?_) (fun (c : ¬ ((0 : Int32) = 0)) => absurd (by decide) c)
  refine go_s (pc' := 45) (st' := [.int (-2147483648)]) rfl rfl rfl rfl ?_
  refine go_ret rfl rfl ?_
  exact ⟨rfl, rfl⟩
