theorem rk_0 {am as_ : Nat} (hr : rk am as_) : am ≠ 0 ∧ as_ ≠ 0 := by
  obtain ⟨r1, r2, r3⟩ := hr
  omega
theorem nI_gt {a b : Nat} (h : a ≤ b) (hb : b < 2 ^ 31) : ¬ nI b < nI a := fun z => absurd (nI_le h hb) (Int32.not_le.mpr z)
theorem rt_within_t {w : Nat → Bool} {d : Nat} {h : am_Hp} {q n : Nat} (hq : q ≤ n) (hn : n < 2 ^ 31) (hd : 1 ≤ d) : am_Ev (am_prog w) d 124 [.int (nI q), .int 0, .int (nI n)] h (fun r h' => r = some (.int 1) ∧ h' = h) := by
  obtain ⟨d, rfl⟩ : ∃ e, d = e + 1 := ⟨d - 1, by omega⟩
  refine ev_go rfl (Nat.le_of_ble_eq_true rfl) rfl ?_
  refine go_s (pc' := 1) rfl rfl rfl rfl ?_
  refine go_s (pc' := 2) rfl rfl rfl rfl ?_
  refine go_icmpP (t' := 8) (pc' := 3) rfl rfl rfl (fun (c : (nI q) < 0) => absurd c (nI_pos (by omega : q < 2 ^ 31))) (fun _ => ?_)
  refine go_s (pc' := 4) rfl rfl rfl rfl ?_
  refine go_s (pc' := 5) rfl rfl rfl rfl ?_
  refine go_icmpP (t' := 8) (pc' := 6) rfl rfl rfl (fun (c : (nI n) < (nI q)) => absurd c (nI_gt hq (by omega))) (fun _ => ?_)
  refine go_s (pc' := 7) (st' := [.int 1]) rfl rfl rfl rfl ?_
  refine go_s (pc' := 9) rfl rfl rfl rfl ?_
  refine go_ret rfl rfl ?_
  exact ⟨rfl, rfl⟩
theorem rt_within_f {w : Nat → Bool} {d : Nat} {h : am_Hp} {a : Int32} {n : Nat} (hn : a < 0 ∨ nI n < a) (hd : 1 ≤ d) : am_Ev (am_prog w) d 124 [.int a, .int 0, .int (nI n)] h (fun r h' => r = some (.int 0) ∧ h' = h) := by
  obtain ⟨d, rfl⟩ : ∃ e, d = e + 1 := ⟨d - 1, by omega⟩
  refine ev_go rfl (Nat.le_of_ble_eq_true rfl) rfl ?_
  refine go_s (pc' := 1) rfl rfl rfl rfl ?_
  refine go_s (pc' := 2) rfl rfl rfl rfl ?_
  refine go_icmpP (t' := 8) (pc' := 3) rfl rfl rfl (fun (c1 : a < 0) => ?_) (fun (c1 : ¬ a < 0) => ?_)
  · skip
    refine go_s (pc' := 9) (st' := [.int 0]) rfl rfl rfl rfl ?_
    refine go_ret rfl rfl ?_
    exact ⟨rfl, rfl⟩
  · skip
    refine go_s (pc' := 4) rfl rfl rfl rfl ?_
    refine go_s (pc' := 5) rfl rfl rfl rfl ?_
    refine go_icmpP (t' := 8) (pc' := 6) rfl rfl rfl (fun (c2 : (nI n) < a) => ?_) (fun (c2 : ¬ (nI n) < a) => ?_)
    · skip
      refine go_s (pc' := 9) (st' := [.int 0]) rfl rfl rfl rfl ?_
      refine go_ret rfl rfl ?_
      exact ⟨rfl, rfl⟩
    · skip
      refine go_s (pc' := 7) (st' := [.int 1]) rfl rfl rfl rfl ?_
      refine go_s (pc' := 9) rfl rfl rfl rfl ?_
      refine go_ret rfl rfl ?_
      exact (hn.elim (fun z => c1 z) (fun z => c2 z)).elim
theorem rt_lives_0 {w : Nat → Bool} {d : Nat} {h : am_Hp} {J : sm_I} {Y : sm_X} {am lm as_ ls : Nat} (hr : rk am as_) (hS : sm (tbr am lm as_ ls) h J Y) (hp : prk J 0) (hd : 1 ≤ d) : am_Ev (am_prog w) d 125 [.ref 62, .int 0] h (fun r h' => r = some (.int (b2i (lv J 0))) ∧ h' = h) := by
  obtain ⟨d, rfl⟩ : ∃ e, d = e + 1 := ⟨d - 1, by omega⟩
  refine ev_go rfl (Nat.le_of_ble_eq_true rfl) rfl ?_
  rcases hp with e | e | e
  · skip
    refine go_s (pc' := 1) rfl rfl rfl rfl ?_
    refine go_sget (pc' := 2) (v := .ref 78) hS rfl rfl rfl (by decide) rfl rfl ?_
    refine go_s (pc' := 3) rfl rfl rfl rfl ?_
    refine go_sald (pc' := 4) (q := 0) (v := .int (-1)) hS rfl (tr_s hr (a := 78) rfl (by decide)) rfl rfl (by decide) (congrArg Value.int e) rfl ?_
    refine go_s (pc' := 5) (st' := [.int (-1), .int (-1)]) rfl rfl rfl rfl ?_
    refine go_icmpP (t' := 16) (pc' := 6) rfl rfl rfl (fun _ => ?_) (fun (c : ¬ (((-1) : Int32) = (-1))) => absurd (by decide) c)
    refine go_s (pc' := 17) (st' := [.int 0]) rfl rfl rfl rfl ?_
    refine go_ret rfl rfl ?_
    exact ⟨by simp [b2i, lv, pn, e], rfl⟩
  · skip
    refine go_s (pc' := 1) rfl rfl rfl rfl ?_
    refine go_sget (pc' := 2) (v := .ref 78) hS rfl rfl rfl (by decide) rfl rfl ?_
    refine go_s (pc' := 3) rfl rfl rfl rfl ?_
    refine go_sald (pc' := 4) (q := 0) (v := .int 0) hS rfl (tr_s hr (a := 78) rfl (by decide)) rfl rfl (by decide) (congrArg Value.int e) rfl ?_
    refine go_s (pc' := 5) (st' := [.int (-1), .int 0]) rfl rfl rfl rfl ?_
    refine go_icmpP (t' := 16) (pc' := 6) rfl rfl rfl (fun (c : (0 : Int32) = (-1)) => absurd c (by decide)) (fun _ => ?_)
    refine go_s (pc' := 7) rfl rfl rfl rfl ?_
    refine go_sget (pc' := 8) (v := .ref 63) hS rfl rfl rfl (by decide) rfl rfl ?_
    refine go_s (pc' := 9) rfl rfl rfl rfl ?_
    refine go_sget (pc' := 10) (v := .ref 78) hS rfl rfl rfl (by decide) rfl rfl ?_
    refine go_s (pc' := 11) rfl rfl rfl rfl ?_
    refine go_sald (pc' := 12) (q := 0) (v := .int 0) hS rfl (tr_s hr (a := 78) rfl (by decide)) rfl rfl (by decide) (congrArg Value.int e) rfl ?_
    refine go_sald (pc' := 13) (q := 0) (v := .int (J 0 0)) hS rfl (tr_s hr (a := 63) rfl (by decide)) rfl rfl (by decide) rfl rfl ?_
    refine go_ifP (t' := 16) (pc' := 14) rfl rfl rfl (fun (c1 : (J 0 0) = 0) => ?_) (fun (c1 : ¬ (J 0 0) = 0) => ?_)
    · skip
      refine go_s (pc' := 17) (st' := [.int 0]) rfl rfl rfl rfl ?_
      refine go_ret rfl rfl ?_
      exact ⟨by simp [b2i, lv, pn, e, c1], rfl⟩
    · skip
      refine go_s (pc' := 15) (st' := [.int 1]) rfl rfl rfl rfl ?_
      refine go_s (pc' := 17) rfl rfl rfl rfl ?_
      refine go_ret rfl rfl ?_
      exact ⟨by simp [b2i, lv, pn, e, c1], rfl⟩
  · skip
    refine go_s (pc' := 1) rfl rfl rfl rfl ?_
    refine go_sget (pc' := 2) (v := .ref 78) hS rfl rfl rfl (by decide) rfl rfl ?_
    refine go_s (pc' := 3) rfl rfl rfl rfl ?_
    refine go_sald (pc' := 4) (q := 0) (v := .int 1) hS rfl (tr_s hr (a := 78) rfl (by decide)) rfl rfl (by decide) (congrArg Value.int e) rfl ?_
    refine go_s (pc' := 5) (st' := [.int (-1), .int 1]) rfl rfl rfl rfl ?_
    refine go_icmpP (t' := 16) (pc' := 6) rfl rfl rfl (fun (c : (1 : Int32) = (-1)) => absurd c (by decide)) (fun _ => ?_)
    refine go_s (pc' := 7) rfl rfl rfl rfl ?_
    refine go_sget (pc' := 8) (v := .ref 63) hS rfl rfl rfl (by decide) rfl rfl ?_
    refine go_s (pc' := 9) rfl rfl rfl rfl ?_
    refine go_sget (pc' := 10) (v := .ref 78) hS rfl rfl rfl (by decide) rfl rfl ?_
    refine go_s (pc' := 11) rfl rfl rfl rfl ?_
    refine go_sald (pc' := 12) (q := 0) (v := .int 1) hS rfl (tr_s hr (a := 78) rfl (by decide)) rfl rfl (by decide) (congrArg Value.int e) rfl ?_
    refine go_sald (pc' := 13) (q := 1) (v := .int (J 0 1)) hS rfl (tr_s hr (a := 63) rfl (by decide)) rfl rfl (by decide) rfl rfl ?_
    refine go_ifP (t' := 16) (pc' := 14) rfl rfl rfl (fun (c2 : (J 0 1) = 0) => ?_) (fun (c2 : ¬ (J 0 1) = 0) => ?_)
    · skip
      refine go_s (pc' := 17) (st' := [.int 0]) rfl rfl rfl rfl ?_
      refine go_ret rfl rfl ?_
      exact ⟨by simp [b2i, lv, pn, e, c2], rfl⟩
    · skip
      refine go_s (pc' := 15) (st' := [.int 1]) rfl rfl rfl rfl ?_
      refine go_s (pc' := 17) rfl rfl rfl rfl ?_
      refine go_ret rfl rfl ?_
      exact ⟨by simp [b2i, lv, pn, e, c2], rfl⟩
theorem rt_at_0 {w : Nat → Bool} {d : Nat} {h : am_Hp} {J : sm_I} {Y : sm_X} {am lm as_ ls : Nat} (hr : rk am as_) (hS : sm (tbr am lm as_ ls) h J Y) (hp : prk J 0) (hn : ¬ J 11 0 = -1) (hd : 1 ≤ d) : am_Ev (am_prog w) d 126 [.ref 62, .int 0] h (fun r h' => r = some (.int (nI (424 * rwi J 0))) ∧ h' = h) := by
  obtain ⟨d, rfl⟩ : ∃ e, d = e + 1 := ⟨d - 1, by omega⟩
  refine ev_go rfl (Nat.le_of_ble_eq_true rfl) rfl ?_
  rcases hp with e | e | e
  · exact absurd e hn
  · skip
    refine go_s (pc' := 1) (st' := [.int 424]) rfl rfl rfl rfl ?_
    refine go_s (pc' := 2) (st' := [.int 2, .int 424]) rfl rfl rfl rfl ?_
    refine go_s (pc' := 3) rfl rfl rfl rfl ?_
    refine go_s (pc' := 4) (st' := [.int 0, .int 424]) rfl rfl rfl rfl ?_
    refine go_s (pc' := 5) rfl rfl rfl rfl ?_
    refine go_sget (pc' := 6) (v := .ref 78) hS rfl rfl rfl (by decide) rfl rfl ?_
    refine go_s (pc' := 7) rfl rfl rfl rfl ?_
    refine go_sald (pc' := 8) (q := 0) (v := .int 0) hS rfl (tr_s hr (a := 78) rfl (by decide)) rfl rfl (by decide) (congrArg Value.int e) rfl ?_
    refine go_s (pc' := 9) (st' := [.int 2, .int 0, .int 0, .int 424]) rfl rfl rfl rfl ?_
    refine go_s (pc' := 10) (st' := [.int 0, .int 0, .int 424]) rfl rfl rfl rfl ?_
    refine go_s (pc' := 11) (st' := [.int 0, .int 424]) rfl rfl rfl rfl ?_
    refine go_s (pc' := 12) (st' := [.int 0]) rfl rfl rfl rfl ?_
    refine go_ret rfl rfl ?_
    exact ⟨by rw [show rwi J 0 = 0 by unfold rwi pn; rw [e]; rfl]; rfl, rfl⟩
  · skip
    refine go_s (pc' := 1) (st' := [.int 424]) rfl rfl rfl rfl ?_
    refine go_s (pc' := 2) (st' := [.int 2, .int 424]) rfl rfl rfl rfl ?_
    refine go_s (pc' := 3) rfl rfl rfl rfl ?_
    refine go_s (pc' := 4) (st' := [.int 0, .int 424]) rfl rfl rfl rfl ?_
    refine go_s (pc' := 5) rfl rfl rfl rfl ?_
    refine go_sget (pc' := 6) (v := .ref 78) hS rfl rfl rfl (by decide) rfl rfl ?_
    refine go_s (pc' := 7) rfl rfl rfl rfl ?_
    refine go_sald (pc' := 8) (q := 0) (v := .int 1) hS rfl (tr_s hr (a := 78) rfl (by decide)) rfl rfl (by decide) (congrArg Value.int e) rfl ?_
    refine go_s (pc' := 9) (st' := [.int 2, .int 1, .int 0, .int 424]) rfl rfl rfl rfl ?_
    refine go_s (pc' := 10) (st' := [.int 1, .int 0, .int 424]) rfl rfl rfl rfl ?_
    refine go_s (pc' := 11) (st' := [.int 1, .int 424]) rfl rfl rfl rfl ?_
    refine go_s (pc' := 12) (st' := [.int 424]) rfl rfl rfl rfl ?_
    refine go_ret rfl rfl ?_
    exact ⟨by rw [show rwi J 0 = 1 by unfold rwi pn; rw [e]; rfl]; rfl, rfl⟩
theorem rt_lives_1 {w : Nat → Bool} {d : Nat} {h : am_Hp} {J : sm_I} {Y : sm_X} {am lm as_ ls : Nat} (hr : rk am as_) (hS : sm (tbr am lm as_ ls) h J Y) (hp : prk J 1) (hd : 1 ≤ d) : am_Ev (am_prog w) d 125 [.ref 62, .int 1] h (fun r h' => r = some (.int (b2i (lv J 1))) ∧ h' = h) := by
  obtain ⟨d, rfl⟩ : ∃ e, d = e + 1 := ⟨d - 1, by omega⟩
  refine ev_go rfl (Nat.le_of_ble_eq_true rfl) rfl ?_
  rcases hp with e | e | e
  · skip
    refine go_s (pc' := 1) rfl rfl rfl rfl ?_
    refine go_sget (pc' := 2) (v := .ref 78) hS rfl rfl rfl (by decide) rfl rfl ?_
    refine go_s (pc' := 3) rfl rfl rfl rfl ?_
    refine go_sald (pc' := 4) (q := 1) (v := .int (-1)) hS rfl (tr_s hr (a := 78) rfl (by decide)) rfl rfl (by decide) (congrArg Value.int e) rfl ?_
    refine go_s (pc' := 5) (st' := [.int (-1), .int (-1)]) rfl rfl rfl rfl ?_
    refine go_icmpP (t' := 16) (pc' := 6) rfl rfl rfl (fun _ => ?_) (fun (c : ¬ (((-1) : Int32) = (-1))) => absurd (by decide) c)
    refine go_s (pc' := 17) (st' := [.int 0]) rfl rfl rfl rfl ?_
    refine go_ret rfl rfl ?_
    exact ⟨by simp [b2i, lv, pn, e], rfl⟩
  · skip
    refine go_s (pc' := 1) rfl rfl rfl rfl ?_
    refine go_sget (pc' := 2) (v := .ref 78) hS rfl rfl rfl (by decide) rfl rfl ?_
    refine go_s (pc' := 3) rfl rfl rfl rfl ?_
    refine go_sald (pc' := 4) (q := 1) (v := .int 2) hS rfl (tr_s hr (a := 78) rfl (by decide)) rfl rfl (by decide) (congrArg Value.int e) rfl ?_
    refine go_s (pc' := 5) (st' := [.int (-1), .int 2]) rfl rfl rfl rfl ?_
    refine go_icmpP (t' := 16) (pc' := 6) rfl rfl rfl (fun (c : (2 : Int32) = (-1)) => absurd c (by decide)) (fun _ => ?_)
    refine go_s (pc' := 7) rfl rfl rfl rfl ?_
    refine go_sget (pc' := 8) (v := .ref 63) hS rfl rfl rfl (by decide) rfl rfl ?_
    refine go_s (pc' := 9) rfl rfl rfl rfl ?_
    refine go_sget (pc' := 10) (v := .ref 78) hS rfl rfl rfl (by decide) rfl rfl ?_
    refine go_s (pc' := 11) rfl rfl rfl rfl ?_
    refine go_sald (pc' := 12) (q := 1) (v := .int 2) hS rfl (tr_s hr (a := 78) rfl (by decide)) rfl rfl (by decide) (congrArg Value.int e) rfl ?_
    refine go_sald (pc' := 13) (q := 2) (v := .int (J 0 2)) hS rfl (tr_s hr (a := 63) rfl (by decide)) rfl rfl (by decide) rfl rfl ?_
    refine go_ifP (t' := 16) (pc' := 14) rfl rfl rfl (fun (c1 : (J 0 2) = 0) => ?_) (fun (c1 : ¬ (J 0 2) = 0) => ?_)
    · skip
      refine go_s (pc' := 17) (st' := [.int 0]) rfl rfl rfl rfl ?_
      refine go_ret rfl rfl ?_
      exact ⟨by simp [b2i, lv, pn, e, c1], rfl⟩
    · skip
      refine go_s (pc' := 15) (st' := [.int 1]) rfl rfl rfl rfl ?_
      refine go_s (pc' := 17) rfl rfl rfl rfl ?_
      refine go_ret rfl rfl ?_
      exact ⟨by simp [b2i, lv, pn, e, c1], rfl⟩
  · skip
    refine go_s (pc' := 1) rfl rfl rfl rfl ?_
    refine go_sget (pc' := 2) (v := .ref 78) hS rfl rfl rfl (by decide) rfl rfl ?_
    refine go_s (pc' := 3) rfl rfl rfl rfl ?_
    refine go_sald (pc' := 4) (q := 1) (v := .int 3) hS rfl (tr_s hr (a := 78) rfl (by decide)) rfl rfl (by decide) (congrArg Value.int e) rfl ?_
    refine go_s (pc' := 5) (st' := [.int (-1), .int 3]) rfl rfl rfl rfl ?_
    refine go_icmpP (t' := 16) (pc' := 6) rfl rfl rfl (fun (c : (3 : Int32) = (-1)) => absurd c (by decide)) (fun _ => ?_)
    refine go_s (pc' := 7) rfl rfl rfl rfl ?_
    refine go_sget (pc' := 8) (v := .ref 63) hS rfl rfl rfl (by decide) rfl rfl ?_
    refine go_s (pc' := 9) rfl rfl rfl rfl ?_
    refine go_sget (pc' := 10) (v := .ref 78) hS rfl rfl rfl (by decide) rfl rfl ?_
    refine go_s (pc' := 11) rfl rfl rfl rfl ?_
    refine go_sald (pc' := 12) (q := 1) (v := .int 3) hS rfl (tr_s hr (a := 78) rfl (by decide)) rfl rfl (by decide) (congrArg Value.int e) rfl ?_
    refine go_sald (pc' := 13) (q := 3) (v := .int (J 0 3)) hS rfl (tr_s hr (a := 63) rfl (by decide)) rfl rfl (by decide) rfl rfl ?_
    refine go_ifP (t' := 16) (pc' := 14) rfl rfl rfl (fun (c2 : (J 0 3) = 0) => ?_) (fun (c2 : ¬ (J 0 3) = 0) => ?_)
    · skip
      refine go_s (pc' := 17) (st' := [.int 0]) rfl rfl rfl rfl ?_
      refine go_ret rfl rfl ?_
      exact ⟨by simp [b2i, lv, pn, e, c2], rfl⟩
    · skip
      refine go_s (pc' := 15) (st' := [.int 1]) rfl rfl rfl rfl ?_
      refine go_s (pc' := 17) rfl rfl rfl rfl ?_
      refine go_ret rfl rfl ?_
      exact ⟨by simp [b2i, lv, pn, e, c2], rfl⟩
theorem rt_at_1 {w : Nat → Bool} {d : Nat} {h : am_Hp} {J : sm_I} {Y : sm_X} {am lm as_ ls : Nat} (hr : rk am as_) (hS : sm (tbr am lm as_ ls) h J Y) (hp : prk J 1) (hn : ¬ J 11 1 = -1) (hd : 1 ≤ d) : am_Ev (am_prog w) d 126 [.ref 62, .int 1] h (fun r h' => r = some (.int (nI (424 * rwi J 1))) ∧ h' = h) := by
  obtain ⟨d, rfl⟩ : ∃ e, d = e + 1 := ⟨d - 1, by omega⟩
  refine ev_go rfl (Nat.le_of_ble_eq_true rfl) rfl ?_
  rcases hp with e | e | e
  · exact absurd e hn
  · skip
    refine go_s (pc' := 1) (st' := [.int 424]) rfl rfl rfl rfl ?_
    refine go_s (pc' := 2) (st' := [.int 2, .int 424]) rfl rfl rfl rfl ?_
    refine go_s (pc' := 3) rfl rfl rfl rfl ?_
    refine go_s (pc' := 4) (st' := [.int 2, .int 424]) rfl rfl rfl rfl ?_
    refine go_s (pc' := 5) rfl rfl rfl rfl ?_
    refine go_sget (pc' := 6) (v := .ref 78) hS rfl rfl rfl (by decide) rfl rfl ?_
    refine go_s (pc' := 7) rfl rfl rfl rfl ?_
    refine go_sald (pc' := 8) (q := 1) (v := .int 2) hS rfl (tr_s hr (a := 78) rfl (by decide)) rfl rfl (by decide) (congrArg Value.int e) rfl ?_
    refine go_s (pc' := 9) (st' := [.int 2, .int 2, .int 2, .int 424]) rfl rfl rfl rfl ?_
    refine go_s (pc' := 10) (st' := [.int 0, .int 2, .int 424]) rfl rfl rfl rfl ?_
    refine go_s (pc' := 11) (st' := [.int 2, .int 424]) rfl rfl rfl rfl ?_
    refine go_s (pc' := 12) (st' := [.int 848]) rfl rfl rfl rfl ?_
    refine go_ret rfl rfl ?_
    exact ⟨by rw [show rwi J 1 = 2 by unfold rwi pn; rw [e]; rfl]; rfl, rfl⟩
  · skip
    refine go_s (pc' := 1) (st' := [.int 424]) rfl rfl rfl rfl ?_
    refine go_s (pc' := 2) (st' := [.int 2, .int 424]) rfl rfl rfl rfl ?_
    refine go_s (pc' := 3) rfl rfl rfl rfl ?_
    refine go_s (pc' := 4) (st' := [.int 2, .int 424]) rfl rfl rfl rfl ?_
    refine go_s (pc' := 5) rfl rfl rfl rfl ?_
    refine go_sget (pc' := 6) (v := .ref 78) hS rfl rfl rfl (by decide) rfl rfl ?_
    refine go_s (pc' := 7) rfl rfl rfl rfl ?_
    refine go_sald (pc' := 8) (q := 1) (v := .int 3) hS rfl (tr_s hr (a := 78) rfl (by decide)) rfl rfl (by decide) (congrArg Value.int e) rfl ?_
    refine go_s (pc' := 9) (st' := [.int 2, .int 3, .int 2, .int 424]) rfl rfl rfl rfl ?_
    refine go_s (pc' := 10) (st' := [.int 1, .int 2, .int 424]) rfl rfl rfl rfl ?_
    refine go_s (pc' := 11) (st' := [.int 3, .int 424]) rfl rfl rfl rfl ?_
    refine go_s (pc' := 12) (st' := [.int 1272]) rfl rfl rfl rfl ?_
    refine go_ret rfl rfl ?_
    exact ⟨by rw [show rwi J 1 = 3 by unfold rwi pn; rw [e]; rfl]; rfl, rfl⟩
theorem rt_lives_2 {w : Nat → Bool} {d : Nat} {h : am_Hp} {J : sm_I} {Y : sm_X} {am lm as_ ls : Nat} (hr : rk am as_) (hS : sm (tbr am lm as_ ls) h J Y) (hp : prk J 2) (hd : 1 ≤ d) : am_Ev (am_prog w) d 125 [.ref 62, .int 2] h (fun r h' => r = some (.int (b2i (lv J 2))) ∧ h' = h) := by
  obtain ⟨d, rfl⟩ : ∃ e, d = e + 1 := ⟨d - 1, by omega⟩
  refine ev_go rfl (Nat.le_of_ble_eq_true rfl) rfl ?_
  rcases hp with e | e | e
  · skip
    refine go_s (pc' := 1) rfl rfl rfl rfl ?_
    refine go_sget (pc' := 2) (v := .ref 78) hS rfl rfl rfl (by decide) rfl rfl ?_
    refine go_s (pc' := 3) rfl rfl rfl rfl ?_
    refine go_sald (pc' := 4) (q := 2) (v := .int (-1)) hS rfl (tr_s hr (a := 78) rfl (by decide)) rfl rfl (by decide) (congrArg Value.int e) rfl ?_
    refine go_s (pc' := 5) (st' := [.int (-1), .int (-1)]) rfl rfl rfl rfl ?_
    refine go_icmpP (t' := 16) (pc' := 6) rfl rfl rfl (fun _ => ?_) (fun (c : ¬ (((-1) : Int32) = (-1))) => absurd (by decide) c)
    refine go_s (pc' := 17) (st' := [.int 0]) rfl rfl rfl rfl ?_
    refine go_ret rfl rfl ?_
    exact ⟨by simp [b2i, lv, pn, e], rfl⟩
  · skip
    refine go_s (pc' := 1) rfl rfl rfl rfl ?_
    refine go_sget (pc' := 2) (v := .ref 78) hS rfl rfl rfl (by decide) rfl rfl ?_
    refine go_s (pc' := 3) rfl rfl rfl rfl ?_
    refine go_sald (pc' := 4) (q := 2) (v := .int 2) hS rfl (tr_s hr (a := 78) rfl (by decide)) rfl rfl (by decide) (congrArg Value.int e) rfl ?_
    refine go_s (pc' := 5) (st' := [.int (-1), .int 2]) rfl rfl rfl rfl ?_
    refine go_icmpP (t' := 16) (pc' := 6) rfl rfl rfl (fun (c : (2 : Int32) = (-1)) => absurd c (by decide)) (fun _ => ?_)
    refine go_s (pc' := 7) rfl rfl rfl rfl ?_
    refine go_sget (pc' := 8) (v := .ref 63) hS rfl rfl rfl (by decide) rfl rfl ?_
    refine go_s (pc' := 9) rfl rfl rfl rfl ?_
    refine go_sget (pc' := 10) (v := .ref 78) hS rfl rfl rfl (by decide) rfl rfl ?_
    refine go_s (pc' := 11) rfl rfl rfl rfl ?_
    refine go_sald (pc' := 12) (q := 2) (v := .int 2) hS rfl (tr_s hr (a := 78) rfl (by decide)) rfl rfl (by decide) (congrArg Value.int e) rfl ?_
    refine go_sald (pc' := 13) (q := 2) (v := .int (J 0 2)) hS rfl (tr_s hr (a := 63) rfl (by decide)) rfl rfl (by decide) rfl rfl ?_
    refine go_ifP (t' := 16) (pc' := 14) rfl rfl rfl (fun (c1 : (J 0 2) = 0) => ?_) (fun (c1 : ¬ (J 0 2) = 0) => ?_)
    · skip
      refine go_s (pc' := 17) (st' := [.int 0]) rfl rfl rfl rfl ?_
      refine go_ret rfl rfl ?_
      exact ⟨by simp [b2i, lv, pn, e, c1], rfl⟩
    · skip
      refine go_s (pc' := 15) (st' := [.int 1]) rfl rfl rfl rfl ?_
      refine go_s (pc' := 17) rfl rfl rfl rfl ?_
      refine go_ret rfl rfl ?_
      exact ⟨by simp [b2i, lv, pn, e, c1], rfl⟩
  · skip
    refine go_s (pc' := 1) rfl rfl rfl rfl ?_
    refine go_sget (pc' := 2) (v := .ref 78) hS rfl rfl rfl (by decide) rfl rfl ?_
    refine go_s (pc' := 3) rfl rfl rfl rfl ?_
    refine go_sald (pc' := 4) (q := 2) (v := .int 3) hS rfl (tr_s hr (a := 78) rfl (by decide)) rfl rfl (by decide) (congrArg Value.int e) rfl ?_
    refine go_s (pc' := 5) (st' := [.int (-1), .int 3]) rfl rfl rfl rfl ?_
    refine go_icmpP (t' := 16) (pc' := 6) rfl rfl rfl (fun (c : (3 : Int32) = (-1)) => absurd c (by decide)) (fun _ => ?_)
    refine go_s (pc' := 7) rfl rfl rfl rfl ?_
    refine go_sget (pc' := 8) (v := .ref 63) hS rfl rfl rfl (by decide) rfl rfl ?_
    refine go_s (pc' := 9) rfl rfl rfl rfl ?_
    refine go_sget (pc' := 10) (v := .ref 78) hS rfl rfl rfl (by decide) rfl rfl ?_
    refine go_s (pc' := 11) rfl rfl rfl rfl ?_
    refine go_sald (pc' := 12) (q := 2) (v := .int 3) hS rfl (tr_s hr (a := 78) rfl (by decide)) rfl rfl (by decide) (congrArg Value.int e) rfl ?_
    refine go_sald (pc' := 13) (q := 3) (v := .int (J 0 3)) hS rfl (tr_s hr (a := 63) rfl (by decide)) rfl rfl (by decide) rfl rfl ?_
    refine go_ifP (t' := 16) (pc' := 14) rfl rfl rfl (fun (c2 : (J 0 3) = 0) => ?_) (fun (c2 : ¬ (J 0 3) = 0) => ?_)
    · skip
      refine go_s (pc' := 17) (st' := [.int 0]) rfl rfl rfl rfl ?_
      refine go_ret rfl rfl ?_
      exact ⟨by simp [b2i, lv, pn, e, c2], rfl⟩
    · skip
      refine go_s (pc' := 15) (st' := [.int 1]) rfl rfl rfl rfl ?_
      refine go_s (pc' := 17) rfl rfl rfl rfl ?_
      refine go_ret rfl rfl ?_
      exact ⟨by simp [b2i, lv, pn, e, c2], rfl⟩
theorem rt_at_2 {w : Nat → Bool} {d : Nat} {h : am_Hp} {J : sm_I} {Y : sm_X} {am lm as_ ls : Nat} (hr : rk am as_) (hS : sm (tbr am lm as_ ls) h J Y) (hp : prk J 2) (hn : ¬ J 11 2 = -1) (hd : 1 ≤ d) : am_Ev (am_prog w) d 126 [.ref 62, .int 2] h (fun r h' => r = some (.int (nI (424 * rwi J 2))) ∧ h' = h) := by
  obtain ⟨d, rfl⟩ : ∃ e, d = e + 1 := ⟨d - 1, by omega⟩
  refine ev_go rfl (Nat.le_of_ble_eq_true rfl) rfl ?_
  rcases hp with e | e | e
  · exact absurd e hn
  · skip
    refine go_s (pc' := 1) (st' := [.int 424]) rfl rfl rfl rfl ?_
    refine go_s (pc' := 2) (st' := [.int 2, .int 424]) rfl rfl rfl rfl ?_
    refine go_s (pc' := 3) rfl rfl rfl rfl ?_
    refine go_s (pc' := 4) (st' := [.int 4, .int 424]) rfl rfl rfl rfl ?_
    refine go_s (pc' := 5) rfl rfl rfl rfl ?_
    refine go_sget (pc' := 6) (v := .ref 78) hS rfl rfl rfl (by decide) rfl rfl ?_
    refine go_s (pc' := 7) rfl rfl rfl rfl ?_
    refine go_sald (pc' := 8) (q := 2) (v := .int 2) hS rfl (tr_s hr (a := 78) rfl (by decide)) rfl rfl (by decide) (congrArg Value.int e) rfl ?_
    refine go_s (pc' := 9) (st' := [.int 2, .int 2, .int 4, .int 424]) rfl rfl rfl rfl ?_
    refine go_s (pc' := 10) (st' := [.int 0, .int 4, .int 424]) rfl rfl rfl rfl ?_
    refine go_s (pc' := 11) (st' := [.int 4, .int 424]) rfl rfl rfl rfl ?_
    refine go_s (pc' := 12) (st' := [.int 1696]) rfl rfl rfl rfl ?_
    refine go_ret rfl rfl ?_
    exact ⟨by rw [show rwi J 2 = 4 by unfold rwi pn; rw [e]; rfl]; rfl, rfl⟩
  · skip
    refine go_s (pc' := 1) (st' := [.int 424]) rfl rfl rfl rfl ?_
    refine go_s (pc' := 2) (st' := [.int 2, .int 424]) rfl rfl rfl rfl ?_
    refine go_s (pc' := 3) rfl rfl rfl rfl ?_
    refine go_s (pc' := 4) (st' := [.int 4, .int 424]) rfl rfl rfl rfl ?_
    refine go_s (pc' := 5) rfl rfl rfl rfl ?_
    refine go_sget (pc' := 6) (v := .ref 78) hS rfl rfl rfl (by decide) rfl rfl ?_
    refine go_s (pc' := 7) rfl rfl rfl rfl ?_
    refine go_sald (pc' := 8) (q := 2) (v := .int 3) hS rfl (tr_s hr (a := 78) rfl (by decide)) rfl rfl (by decide) (congrArg Value.int e) rfl ?_
    refine go_s (pc' := 9) (st' := [.int 2, .int 3, .int 4, .int 424]) rfl rfl rfl rfl ?_
    refine go_s (pc' := 10) (st' := [.int 1, .int 4, .int 424]) rfl rfl rfl rfl ?_
    refine go_s (pc' := 11) (st' := [.int 5, .int 424]) rfl rfl rfl rfl ?_
    refine go_s (pc' := 12) (st' := [.int 2120]) rfl rfl rfl rfl ?_
    refine go_ret rfl rfl ?_
    exact ⟨by rw [show rwi J 2 = 5 by unfold rwi pn; rw [e]; rfl]; rfl, rfl⟩
theorem rt_us_0 {w : Nat → Bool} {d : Nat} {h : am_Hp} {J : sm_I} {Y : sm_X} {am lm as_ ls : Nat} (hr : rk am as_) (hS : sm (tbr am lm as_ ls) h J Y) (hd : 1 ≤ d) : am_Ev (am_prog w) d 138 [.ref 62, .int 0] h (fun r h' => r = some (.int (b2i (us J 0))) ∧ h' = h) := by
  obtain ⟨d, rfl⟩ : ∃ e, d = e + 1 := ⟨d - 1, by omega⟩
  refine ev_go rfl (Nat.le_of_ble_eq_true rfl) rfl ?_
  refine go_s (pc' := 1) rfl rfl rfl rfl ?_
  refine go_sget (pc' := 2) (v := .ref 67) hS rfl rfl rfl (by decide) rfl rfl ?_
  refine go_s (pc' := 3) rfl rfl rfl rfl ?_
  refine go_sald (pc' := 4) (q := 0) (v := .int (J 4 0)) hS rfl (tr_s hr (a := 67) rfl (by decide)) rfl rfl (by decide) rfl rfl ?_
  refine go_ifP (t' := 12) (pc' := 5) rfl rfl rfl (fun (c1 : (J 4 0) = 0) => ?_) (fun (c1 : ¬ (J 4 0) = 0) => ?_)
  · skip
    refine go_s (pc' := 13) (st' := [.int 0]) rfl rfl rfl rfl ?_
    refine go_ret rfl rfl ?_
    exact ⟨by simp [us, b2i, c1], rfl⟩
  · skip
    refine go_s (pc' := 6) rfl rfl rfl rfl ?_
    refine go_sget (pc' := 7) (v := .ref 68) hS rfl rfl rfl (by decide) rfl rfl ?_
    refine go_s (pc' := 8) rfl rfl rfl rfl ?_
    refine go_sald (pc' := 9) (q := 0) (v := .int (J 5 0)) hS rfl (tr_s hr (a := 68) rfl (by decide)) rfl rfl (by decide) rfl rfl ?_
    refine go_ifP (t' := 12) (pc' := 10) rfl rfl rfl (fun (c2 : (J 5 0) = 0) => ?_) (fun (c2 : ¬ (J 5 0) = 0) => ?_)
    · skip
      refine go_s (pc' := 13) (st' := [.int 0]) rfl rfl rfl rfl ?_
      refine go_ret rfl rfl ?_
      exact ⟨by simp [us, b2i, c1, c2], rfl⟩
    · skip
      refine go_s (pc' := 11) (st' := [.int 1]) rfl rfl rfl rfl ?_
      refine go_s (pc' := 13) rfl rfl rfl rfl ?_
      refine go_ret rfl rfl ?_
      exact ⟨by simp [us, b2i, c1, c2], rfl⟩
theorem rt_us_1 {w : Nat → Bool} {d : Nat} {h : am_Hp} {J : sm_I} {Y : sm_X} {am lm as_ ls : Nat} (hr : rk am as_) (hS : sm (tbr am lm as_ ls) h J Y) (hd : 1 ≤ d) : am_Ev (am_prog w) d 138 [.ref 62, .int 1] h (fun r h' => r = some (.int (b2i (us J 1))) ∧ h' = h) := by
  obtain ⟨d, rfl⟩ : ∃ e, d = e + 1 := ⟨d - 1, by omega⟩
  refine ev_go rfl (Nat.le_of_ble_eq_true rfl) rfl ?_
  refine go_s (pc' := 1) rfl rfl rfl rfl ?_
  refine go_sget (pc' := 2) (v := .ref 67) hS rfl rfl rfl (by decide) rfl rfl ?_
  refine go_s (pc' := 3) rfl rfl rfl rfl ?_
  refine go_sald (pc' := 4) (q := 1) (v := .int (J 4 1)) hS rfl (tr_s hr (a := 67) rfl (by decide)) rfl rfl (by decide) rfl rfl ?_
  refine go_ifP (t' := 12) (pc' := 5) rfl rfl rfl (fun (c1 : (J 4 1) = 0) => ?_) (fun (c1 : ¬ (J 4 1) = 0) => ?_)
  · skip
    refine go_s (pc' := 13) (st' := [.int 0]) rfl rfl rfl rfl ?_
    refine go_ret rfl rfl ?_
    exact ⟨by simp [us, b2i, c1], rfl⟩
  · skip
    refine go_s (pc' := 6) rfl rfl rfl rfl ?_
    refine go_sget (pc' := 7) (v := .ref 68) hS rfl rfl rfl (by decide) rfl rfl ?_
    refine go_s (pc' := 8) rfl rfl rfl rfl ?_
    refine go_sald (pc' := 9) (q := 1) (v := .int (J 5 1)) hS rfl (tr_s hr (a := 68) rfl (by decide)) rfl rfl (by decide) rfl rfl ?_
    refine go_ifP (t' := 12) (pc' := 10) rfl rfl rfl (fun (c2 : (J 5 1) = 0) => ?_) (fun (c2 : ¬ (J 5 1) = 0) => ?_)
    · skip
      refine go_s (pc' := 13) (st' := [.int 0]) rfl rfl rfl rfl ?_
      refine go_ret rfl rfl ?_
      exact ⟨by simp [us, b2i, c1, c2], rfl⟩
    · skip
      refine go_s (pc' := 11) (st' := [.int 1]) rfl rfl rfl rfl ?_
      refine go_s (pc' := 13) rfl rfl rfl rfl ?_
      refine go_ret rfl rfl ?_
      exact ⟨by simp [us, b2i, c1, c2], rfl⟩
theorem rt_rv_0 {w : Nat → Bool} {d : Nat} {h : am_Hp} {J : sm_I} {Y : sm_X} {am lm as_ ls : Nat} (hr : rk am as_) (hS : sm (tbr am lm as_ ls) h J Y) (hd : 2 ≤ d) : am_Ev (am_prog w) d 139 [.ref 62, .int 0] h (fun r h' => r = some (.int (b2i (rv J 0))) ∧ h' = h) := by
  obtain ⟨d, rfl⟩ : ∃ e, d = e + 1 := ⟨d - 1, by omega⟩
  refine ev_go rfl (Nat.le_of_ble_eq_true rfl) rfl ?_
  refine go_s (pc' := 1) rfl rfl rfl rfl ?_
  refine go_sget (pc' := 2) (v := .ref 67) hS rfl rfl rfl (by decide) rfl rfl ?_
  refine go_s (pc' := 3) rfl rfl rfl rfl ?_
  refine go_sald (pc' := 4) (q := 0) (v := .int (J 4 0)) hS rfl (tr_s hr (a := 67) rfl (by decide)) rfl rfl (by decide) rfl rfl ?_
  refine go_ifP (t' := 18) (pc' := 5) rfl rfl rfl (fun (c1 : (J 4 0) = 0) => ?_) (fun (c1 : ¬ (J 4 0) = 0) => ?_)
  · skip
    refine go_s (pc' := 19) (st' := [.int 0]) rfl rfl rfl rfl ?_
    refine go_ret rfl rfl ?_
    exact ⟨by simp [rv, b2i, c1], rfl⟩
  · skip
    refine go_s (pc' := 6) rfl rfl rfl rfl ?_
    refine go_sget (pc' := 7) (v := .ref 68) hS rfl rfl rfl (by decide) rfl rfl ?_
    refine go_s (pc' := 8) rfl rfl rfl rfl ?_
    refine go_sald (pc' := 9) (q := 0) (v := .int (J 5 0)) hS rfl (tr_s hr (a := 68) rfl (by decide)) rfl rfl (by decide) rfl rfl ?_
    refine go_ifP (t' := 18) (pc' := 10) rfl rfl rfl (fun (c2 : ¬ (J 5 0) = 0) => ?_) (fun (c2' : ¬ ¬ (J 5 0) = 0) => ?_)
    · skip
      refine go_s (pc' := 19) (st' := [.int 0]) rfl rfl rfl rfl ?_
      refine go_ret rfl rfl ?_
      exact ⟨by simp [rv, b2i, c1, c2], rfl⟩
    · skip
      have c2 : (J 5 0) = 0 := Decidable.not_not.mp c2'
      refine go_s (pc' := 11) rfl rfl rfl rfl ?_
      refine go_s (pc' := 12) (st' := [.int 1, .ref 62]) rfl rfl rfl rfl ?_
      refine go_s (pc' := 13) rfl rfl rfl rfl ?_
      refine go_s (pc' := 14) (st' := [.int 1, .ref 62]) rfl rfl rfl rfl ?_
      refine go_callV (pc' := 15) rfl rfl rfl (Nat.le_of_ble_eq_true rfl) rfl (sm_o hS rfl) rfl rfl rfl (rt_us_1 hr hS (by omega)) (fun r h3 q4 => ?_)
      obtain ⟨rfl, rfl⟩ := q4
      cases u5 : us J 1
      · skip
        show am_Go _ _ _ _ 15 _ [.int 0] _ _
        refine go_ifP (t' := 18) (pc' := 16) rfl rfl rfl (fun _ => ?_) (fun (c : ¬ ((0 : Int32) = 0)) => absurd (by decide) c)
        refine go_s (pc' := 19) (st' := [.int 0]) rfl rfl rfl rfl ?_
        refine go_ret rfl rfl ?_
        exact ⟨by simp [rv, b2i, c1, c2, u5], rfl⟩
      · skip
        show am_Go _ _ _ _ 15 _ [.int 1] _ _
        refine go_ifP (t' := 18) (pc' := 16) rfl rfl rfl (fun (c : (1 : Int32) = 0) => absurd c (by decide)) (fun _ => ?_)
        refine go_s (pc' := 17) (st' := [.int 1]) rfl rfl rfl rfl ?_
        refine go_s (pc' := 19) rfl rfl rfl rfl ?_
        refine go_ret rfl rfl ?_
        exact ⟨by simp [rv, b2i, c1, c2, u5], rfl⟩
theorem rt_rv_1 {w : Nat → Bool} {d : Nat} {h : am_Hp} {J : sm_I} {Y : sm_X} {am lm as_ ls : Nat} (hr : rk am as_) (hS : sm (tbr am lm as_ ls) h J Y) (hd : 2 ≤ d) : am_Ev (am_prog w) d 139 [.ref 62, .int 1] h (fun r h' => r = some (.int (b2i (rv J 1))) ∧ h' = h) := by
  obtain ⟨d, rfl⟩ : ∃ e, d = e + 1 := ⟨d - 1, by omega⟩
  refine ev_go rfl (Nat.le_of_ble_eq_true rfl) rfl ?_
  refine go_s (pc' := 1) rfl rfl rfl rfl ?_
  refine go_sget (pc' := 2) (v := .ref 67) hS rfl rfl rfl (by decide) rfl rfl ?_
  refine go_s (pc' := 3) rfl rfl rfl rfl ?_
  refine go_sald (pc' := 4) (q := 1) (v := .int (J 4 1)) hS rfl (tr_s hr (a := 67) rfl (by decide)) rfl rfl (by decide) rfl rfl ?_
  refine go_ifP (t' := 18) (pc' := 5) rfl rfl rfl (fun (c1 : (J 4 1) = 0) => ?_) (fun (c1 : ¬ (J 4 1) = 0) => ?_)
  · skip
    refine go_s (pc' := 19) (st' := [.int 0]) rfl rfl rfl rfl ?_
    refine go_ret rfl rfl ?_
    exact ⟨by simp [rv, b2i, c1], rfl⟩
  · skip
    refine go_s (pc' := 6) rfl rfl rfl rfl ?_
    refine go_sget (pc' := 7) (v := .ref 68) hS rfl rfl rfl (by decide) rfl rfl ?_
    refine go_s (pc' := 8) rfl rfl rfl rfl ?_
    refine go_sald (pc' := 9) (q := 1) (v := .int (J 5 1)) hS rfl (tr_s hr (a := 68) rfl (by decide)) rfl rfl (by decide) rfl rfl ?_
    refine go_ifP (t' := 18) (pc' := 10) rfl rfl rfl (fun (c2 : ¬ (J 5 1) = 0) => ?_) (fun (c2' : ¬ ¬ (J 5 1) = 0) => ?_)
    · skip
      refine go_s (pc' := 19) (st' := [.int 0]) rfl rfl rfl rfl ?_
      refine go_ret rfl rfl ?_
      exact ⟨by simp [rv, b2i, c1, c2], rfl⟩
    · skip
      have c2 : (J 5 1) = 0 := Decidable.not_not.mp c2'
      refine go_s (pc' := 11) rfl rfl rfl rfl ?_
      refine go_s (pc' := 12) (st' := [.int 1, .ref 62]) rfl rfl rfl rfl ?_
      refine go_s (pc' := 13) rfl rfl rfl rfl ?_
      refine go_s (pc' := 14) (st' := [.int 0, .ref 62]) rfl rfl rfl rfl ?_
      refine go_callV (pc' := 15) rfl rfl rfl (Nat.le_of_ble_eq_true rfl) rfl (sm_o hS rfl) rfl rfl rfl (rt_us_0 hr hS (by omega)) (fun r h3 q4 => ?_)
      obtain ⟨rfl, rfl⟩ := q4
      cases u5 : us J 0
      · skip
        show am_Go _ _ _ _ 15 _ [.int 0] _ _
        refine go_ifP (t' := 18) (pc' := 16) rfl rfl rfl (fun _ => ?_) (fun (c : ¬ ((0 : Int32) = 0)) => absurd (by decide) c)
        refine go_s (pc' := 19) (st' := [.int 0]) rfl rfl rfl rfl ?_
        refine go_ret rfl rfl ?_
        exact ⟨by simp [rv, b2i, c1, c2, u5], rfl⟩
      · skip
        show am_Go _ _ _ _ 15 _ [.int 1] _ _
        refine go_ifP (t' := 18) (pc' := 16) rfl rfl rfl (fun (c : (1 : Int32) = 0) => absurd c (by decide)) (fun _ => ?_)
        refine go_s (pc' := 17) (st' := [.int 1]) rfl rfl rfl rfl ?_
        refine go_s (pc' := 19) rfl rfl rfl rfl ?_
        refine go_ret rfl rfl ?_
        exact ⟨by simp [rv, b2i, c1, c2, u5], rfl⟩
theorem rt_oh_0 {w : Nat → Bool} {d : Nat} {h : am_Hp} (hd : 1 ≤ d) : am_Ev (am_prog w) d 166 [.int 0] h (fun r h' => r = some (.int 1) ∧ h' = h) := by
  obtain ⟨d, rfl⟩ : ∃ e, d = e + 1 := ⟨d - 1, by omega⟩
  refine ev_go rfl (Nat.le_of_ble_eq_true rfl) rfl ?_
  refine go_s (pc' := 1) rfl rfl rfl rfl ?_
  refine go_s (pc' := 2) (st' := [.int 2, .int 0]) rfl rfl rfl rfl ?_
  refine go_s (pc' := 3) (st' := [.int 0]) rfl rfl rfl rfl ?_
  refine go_ifP (t' := 8) (pc' := 4) rfl rfl rfl (fun (c : ¬ (0 : Int32) = 0) => absurd c (by decide)) (fun _ => ?_)
  refine go_s (pc' := 5) rfl rfl rfl rfl ?_
  refine go_s (pc' := 6) (st' := [.int 1, .int 0]) rfl rfl rfl rfl ?_
  refine go_s (pc' := 7) (st' := [.int 1]) rfl rfl rfl rfl ?_
  refine go_s (pc' := 11) rfl rfl rfl rfl ?_
  refine go_ret rfl rfl ?_
  exact ⟨rfl, rfl⟩
theorem rt_ih_0_0 {w : Nat → Bool} {d : Nat} {h : am_Hp} (hd : 1 ≤ d) : am_Ev (am_prog w) d 165 [.int 0, .int 0] h (fun r h' => r = some (.int 1) ∧ h' = h) := by
  obtain ⟨d, rfl⟩ : ∃ e, d = e + 1 := ⟨d - 1, by omega⟩
  refine ev_go rfl (Nat.le_of_ble_eq_true rfl) rfl ?_
  refine go_s (pc' := 1) rfl rfl rfl rfl ?_
  refine go_ifP (t' := 9) (pc' := 2) rfl rfl rfl (fun (c : ¬ (0 : Int32) = 0) => absurd c (by decide)) (fun _ => ?_)
  refine go_s (pc' := 3) rfl rfl rfl rfl ?_
  refine go_s (pc' := 4) (st' := [.int 2, .int 0]) rfl rfl rfl rfl ?_
  refine go_icmpP (t' := 7) (pc' := 5) rfl rfl rfl (fun (c : 2 ≤ (0 : Int32)) => absurd c (by decide)) (fun _ => ?_)
  refine go_s (pc' := 6) (st' := [.int 1]) rfl rfl rfl rfl ?_
  refine go_s (pc' := 15) rfl rfl rfl rfl ?_
  refine go_ret rfl rfl ?_
  exact ⟨rfl, rfl⟩
theorem rt_ih_1_0 {w : Nat → Bool} {d : Nat} {h : am_Hp} (hd : 1 ≤ d) : am_Ev (am_prog w) d 165 [.int 1, .int 0] h (fun r h' => r = some (.int 0) ∧ h' = h) := by
  obtain ⟨d, rfl⟩ : ∃ e, d = e + 1 := ⟨d - 1, by omega⟩
  refine ev_go rfl (Nat.le_of_ble_eq_true rfl) rfl ?_
  refine go_s (pc' := 1) rfl rfl rfl rfl ?_
  refine go_ifP (t' := 9) (pc' := 2) rfl rfl rfl (fun _ => ?_) (fun (c : ¬ (¬ (1 : Int32) = 0)) => absurd (by decide) c)
  refine go_s (pc' := 10) rfl rfl rfl rfl ?_
  refine go_s (pc' := 11) (st' := [.int 1, .int 0]) rfl rfl rfl rfl ?_
  refine go_icmpP (t' := 14) (pc' := 12) rfl rfl rfl (fun _ => ?_) (fun (c : ¬ ((0 : Int32) ≤ 1)) => absurd (by decide) c)
  refine go_s (pc' := 15) (st' := [.int 0]) rfl rfl rfl rfl ?_
  refine go_ret rfl rfl ?_
  exact ⟨rfl, rfl⟩
theorem rt_ih_2_0 {w : Nat → Bool} {d : Nat} {h : am_Hp} (hd : 1 ≤ d) : am_Ev (am_prog w) d 165 [.int 2, .int 0] h (fun r h' => r = some (.int 0) ∧ h' = h) := by
  obtain ⟨d, rfl⟩ : ∃ e, d = e + 1 := ⟨d - 1, by omega⟩
  refine ev_go rfl (Nat.le_of_ble_eq_true rfl) rfl ?_
  refine go_s (pc' := 1) rfl rfl rfl rfl ?_
  refine go_ifP (t' := 9) (pc' := 2) rfl rfl rfl (fun _ => ?_) (fun (c : ¬ (¬ (2 : Int32) = 0)) => absurd (by decide) c)
  refine go_s (pc' := 10) rfl rfl rfl rfl ?_
  refine go_s (pc' := 11) (st' := [.int 1, .int 0]) rfl rfl rfl rfl ?_
  refine go_icmpP (t' := 14) (pc' := 12) rfl rfl rfl (fun _ => ?_) (fun (c : ¬ ((0 : Int32) ≤ 1)) => absurd (by decide) c)
  refine go_s (pc' := 15) (st' := [.int 0]) rfl rfl rfl rfl ?_
  refine go_ret rfl rfl ?_
  exact ⟨rfl, rfl⟩
theorem rt_oh_1 {w : Nat → Bool} {d : Nat} {h : am_Hp} (hd : 1 ≤ d) : am_Ev (am_prog w) d 166 [.int 1] h (fun r h' => r = some (.int 0) ∧ h' = h) := by
  obtain ⟨d, rfl⟩ : ∃ e, d = e + 1 := ⟨d - 1, by omega⟩
  refine ev_go rfl (Nat.le_of_ble_eq_true rfl) rfl ?_
  refine go_s (pc' := 1) rfl rfl rfl rfl ?_
  refine go_s (pc' := 2) (st' := [.int 2, .int 1]) rfl rfl rfl rfl ?_
  refine go_s (pc' := 3) (st' := [.int 1]) rfl rfl rfl rfl ?_
  refine go_ifP (t' := 8) (pc' := 4) rfl rfl rfl (fun _ => ?_) (fun (c : ¬ (¬ (1 : Int32) = 0)) => absurd (by decide) c)
  refine go_s (pc' := 9) rfl rfl rfl rfl ?_
  refine go_s (pc' := 10) (st' := [.int 1, .int 1]) rfl rfl rfl rfl ?_
  refine go_s (pc' := 11) (st' := [.int 0]) rfl rfl rfl rfl ?_
  refine go_ret rfl rfl ?_
  exact ⟨rfl, rfl⟩
theorem rt_ih_0_1 {w : Nat → Bool} {d : Nat} {h : am_Hp} (hd : 1 ≤ d) : am_Ev (am_prog w) d 165 [.int 0, .int 1] h (fun r h' => r = some (.int 1) ∧ h' = h) := by
  obtain ⟨d, rfl⟩ : ∃ e, d = e + 1 := ⟨d - 1, by omega⟩
  refine ev_go rfl (Nat.le_of_ble_eq_true rfl) rfl ?_
  refine go_s (pc' := 1) rfl rfl rfl rfl ?_
  refine go_ifP (t' := 9) (pc' := 2) rfl rfl rfl (fun (c : ¬ (0 : Int32) = 0) => absurd c (by decide)) (fun _ => ?_)
  refine go_s (pc' := 3) rfl rfl rfl rfl ?_
  refine go_s (pc' := 4) (st' := [.int 2, .int 1]) rfl rfl rfl rfl ?_
  refine go_icmpP (t' := 7) (pc' := 5) rfl rfl rfl (fun (c : 2 ≤ (1 : Int32)) => absurd c (by decide)) (fun _ => ?_)
  refine go_s (pc' := 6) (st' := [.int 1]) rfl rfl rfl rfl ?_
  refine go_s (pc' := 15) rfl rfl rfl rfl ?_
  refine go_ret rfl rfl ?_
  exact ⟨rfl, rfl⟩
theorem rt_ih_1_1 {w : Nat → Bool} {d : Nat} {h : am_Hp} (hd : 1 ≤ d) : am_Ev (am_prog w) d 165 [.int 1, .int 1] h (fun r h' => r = some (.int 0) ∧ h' = h) := by
  obtain ⟨d, rfl⟩ : ∃ e, d = e + 1 := ⟨d - 1, by omega⟩
  refine ev_go rfl (Nat.le_of_ble_eq_true rfl) rfl ?_
  refine go_s (pc' := 1) rfl rfl rfl rfl ?_
  refine go_ifP (t' := 9) (pc' := 2) rfl rfl rfl (fun _ => ?_) (fun (c : ¬ (¬ (1 : Int32) = 0)) => absurd (by decide) c)
  refine go_s (pc' := 10) rfl rfl rfl rfl ?_
  refine go_s (pc' := 11) (st' := [.int 1, .int 1]) rfl rfl rfl rfl ?_
  refine go_icmpP (t' := 14) (pc' := 12) rfl rfl rfl (fun _ => ?_) (fun (c : ¬ ((1 : Int32) ≤ 1)) => absurd (by decide) c)
  refine go_s (pc' := 15) (st' := [.int 0]) rfl rfl rfl rfl ?_
  refine go_ret rfl rfl ?_
  exact ⟨rfl, rfl⟩
theorem rt_ih_2_1 {w : Nat → Bool} {d : Nat} {h : am_Hp} (hd : 1 ≤ d) : am_Ev (am_prog w) d 165 [.int 2, .int 1] h (fun r h' => r = some (.int 0) ∧ h' = h) := by
  obtain ⟨d, rfl⟩ : ∃ e, d = e + 1 := ⟨d - 1, by omega⟩
  refine ev_go rfl (Nat.le_of_ble_eq_true rfl) rfl ?_
  refine go_s (pc' := 1) rfl rfl rfl rfl ?_
  refine go_ifP (t' := 9) (pc' := 2) rfl rfl rfl (fun _ => ?_) (fun (c : ¬ (¬ (2 : Int32) = 0)) => absurd (by decide) c)
  refine go_s (pc' := 10) rfl rfl rfl rfl ?_
  refine go_s (pc' := 11) (st' := [.int 1, .int 1]) rfl rfl rfl rfl ?_
  refine go_icmpP (t' := 14) (pc' := 12) rfl rfl rfl (fun _ => ?_) (fun (c : ¬ ((1 : Int32) ≤ 1)) => absurd (by decide) c)
  refine go_s (pc' := 15) (st' := [.int 0]) rfl rfl rfl rfl ?_
  refine go_ret rfl rfl ?_
  exact ⟨rfl, rfl⟩
theorem rt_oh_2 {w : Nat → Bool} {d : Nat} {h : am_Hp} (hd : 1 ≤ d) : am_Ev (am_prog w) d 166 [.int 2] h (fun r h' => r = some (.int 3) ∧ h' = h) := by
  obtain ⟨d, rfl⟩ : ∃ e, d = e + 1 := ⟨d - 1, by omega⟩
  refine ev_go rfl (Nat.le_of_ble_eq_true rfl) rfl ?_
  refine go_s (pc' := 1) rfl rfl rfl rfl ?_
  refine go_s (pc' := 2) (st' := [.int 2, .int 2]) rfl rfl rfl rfl ?_
  refine go_s (pc' := 3) (st' := [.int 0]) rfl rfl rfl rfl ?_
  refine go_ifP (t' := 8) (pc' := 4) rfl rfl rfl (fun (c : ¬ (0 : Int32) = 0) => absurd c (by decide)) (fun _ => ?_)
  refine go_s (pc' := 5) rfl rfl rfl rfl ?_
  refine go_s (pc' := 6) (st' := [.int 1, .int 2]) rfl rfl rfl rfl ?_
  refine go_s (pc' := 7) (st' := [.int 3]) rfl rfl rfl rfl ?_
  refine go_s (pc' := 11) rfl rfl rfl rfl ?_
  refine go_ret rfl rfl ?_
  exact ⟨rfl, rfl⟩
theorem rt_ih_0_2 {w : Nat → Bool} {d : Nat} {h : am_Hp} (hd : 1 ≤ d) : am_Ev (am_prog w) d 165 [.int 0, .int 2] h (fun r h' => r = some (.int 0) ∧ h' = h) := by
  obtain ⟨d, rfl⟩ : ∃ e, d = e + 1 := ⟨d - 1, by omega⟩
  refine ev_go rfl (Nat.le_of_ble_eq_true rfl) rfl ?_
  refine go_s (pc' := 1) rfl rfl rfl rfl ?_
  refine go_ifP (t' := 9) (pc' := 2) rfl rfl rfl (fun (c : ¬ (0 : Int32) = 0) => absurd c (by decide)) (fun _ => ?_)
  refine go_s (pc' := 3) rfl rfl rfl rfl ?_
  refine go_s (pc' := 4) (st' := [.int 2, .int 2]) rfl rfl rfl rfl ?_
  refine go_icmpP (t' := 7) (pc' := 5) rfl rfl rfl (fun _ => ?_) (fun (c : ¬ (2 ≤ (2 : Int32))) => absurd (by decide) c)
  refine go_s (pc' := 8) (st' := [.int 0]) rfl rfl rfl rfl ?_
  refine go_s (pc' := 15) rfl rfl rfl rfl ?_
  refine go_ret rfl rfl ?_
  exact ⟨rfl, rfl⟩
theorem rt_ih_1_2 {w : Nat → Bool} {d : Nat} {h : am_Hp} (hd : 1 ≤ d) : am_Ev (am_prog w) d 165 [.int 1, .int 2] h (fun r h' => r = some (.int 1) ∧ h' = h) := by
  obtain ⟨d, rfl⟩ : ∃ e, d = e + 1 := ⟨d - 1, by omega⟩
  refine ev_go rfl (Nat.le_of_ble_eq_true rfl) rfl ?_
  refine go_s (pc' := 1) rfl rfl rfl rfl ?_
  refine go_ifP (t' := 9) (pc' := 2) rfl rfl rfl (fun _ => ?_) (fun (c : ¬ (¬ (1 : Int32) = 0)) => absurd (by decide) c)
  refine go_s (pc' := 10) rfl rfl rfl rfl ?_
  refine go_s (pc' := 11) (st' := [.int 1, .int 2]) rfl rfl rfl rfl ?_
  refine go_icmpP (t' := 14) (pc' := 12) rfl rfl rfl (fun (c : (2 : Int32) ≤ 1) => absurd c (by decide)) (fun _ => ?_)
  refine go_s (pc' := 13) (st' := [.int 1]) rfl rfl rfl rfl ?_
  refine go_s (pc' := 15) rfl rfl rfl rfl ?_
  refine go_ret rfl rfl ?_
  exact ⟨rfl, rfl⟩
theorem rt_ih_2_2 {w : Nat → Bool} {d : Nat} {h : am_Hp} (hd : 1 ≤ d) : am_Ev (am_prog w) d 165 [.int 2, .int 2] h (fun r h' => r = some (.int 1) ∧ h' = h) := by
  obtain ⟨d, rfl⟩ : ∃ e, d = e + 1 := ⟨d - 1, by omega⟩
  refine ev_go rfl (Nat.le_of_ble_eq_true rfl) rfl ?_
  refine go_s (pc' := 1) rfl rfl rfl rfl ?_
  refine go_ifP (t' := 9) (pc' := 2) rfl rfl rfl (fun _ => ?_) (fun (c : ¬ (¬ (2 : Int32) = 0)) => absurd (by decide) c)
  refine go_s (pc' := 10) rfl rfl rfl rfl ?_
  refine go_s (pc' := 11) (st' := [.int 1, .int 2]) rfl rfl rfl rfl ?_
  refine go_icmpP (t' := 14) (pc' := 12) rfl rfl rfl (fun (c : (2 : Int32) ≤ 1) => absurd c (by decide)) (fun _ => ?_)
  refine go_s (pc' := 13) (st' := [.int 1]) rfl rfl rfl rfl ?_
  refine go_s (pc' := 15) rfl rfl rfl rfl ?_
  refine go_ret rfl rfl ?_
  exact ⟨rfl, rfl⟩
theorem rt_oh_3 {w : Nat → Bool} {d : Nat} {h : am_Hp} (hd : 1 ≤ d) : am_Ev (am_prog w) d 166 [.int 3] h (fun r h' => r = some (.int 2) ∧ h' = h) := by
  obtain ⟨d, rfl⟩ : ∃ e, d = e + 1 := ⟨d - 1, by omega⟩
  refine ev_go rfl (Nat.le_of_ble_eq_true rfl) rfl ?_
  refine go_s (pc' := 1) rfl rfl rfl rfl ?_
  refine go_s (pc' := 2) (st' := [.int 2, .int 3]) rfl rfl rfl rfl ?_
  refine go_s (pc' := 3) (st' := [.int 1]) rfl rfl rfl rfl ?_
  refine go_ifP (t' := 8) (pc' := 4) rfl rfl rfl (fun _ => ?_) (fun (c : ¬ (¬ (1 : Int32) = 0)) => absurd (by decide) c)
  refine go_s (pc' := 9) rfl rfl rfl rfl ?_
  refine go_s (pc' := 10) (st' := [.int 1, .int 3]) rfl rfl rfl rfl ?_
  refine go_s (pc' := 11) (st' := [.int 2]) rfl rfl rfl rfl ?_
  refine go_ret rfl rfl ?_
  exact ⟨rfl, rfl⟩
theorem rt_ih_0_3 {w : Nat → Bool} {d : Nat} {h : am_Hp} (hd : 1 ≤ d) : am_Ev (am_prog w) d 165 [.int 0, .int 3] h (fun r h' => r = some (.int 0) ∧ h' = h) := by
  obtain ⟨d, rfl⟩ : ∃ e, d = e + 1 := ⟨d - 1, by omega⟩
  refine ev_go rfl (Nat.le_of_ble_eq_true rfl) rfl ?_
  refine go_s (pc' := 1) rfl rfl rfl rfl ?_
  refine go_ifP (t' := 9) (pc' := 2) rfl rfl rfl (fun (c : ¬ (0 : Int32) = 0) => absurd c (by decide)) (fun _ => ?_)
  refine go_s (pc' := 3) rfl rfl rfl rfl ?_
  refine go_s (pc' := 4) (st' := [.int 2, .int 3]) rfl rfl rfl rfl ?_
  refine go_icmpP (t' := 7) (pc' := 5) rfl rfl rfl (fun _ => ?_) (fun (c : ¬ (2 ≤ (3 : Int32))) => absurd (by decide) c)
  refine go_s (pc' := 8) (st' := [.int 0]) rfl rfl rfl rfl ?_
  refine go_s (pc' := 15) rfl rfl rfl rfl ?_
  refine go_ret rfl rfl ?_
  exact ⟨rfl, rfl⟩
theorem rt_ih_1_3 {w : Nat → Bool} {d : Nat} {h : am_Hp} (hd : 1 ≤ d) : am_Ev (am_prog w) d 165 [.int 1, .int 3] h (fun r h' => r = some (.int 1) ∧ h' = h) := by
  obtain ⟨d, rfl⟩ : ∃ e, d = e + 1 := ⟨d - 1, by omega⟩
  refine ev_go rfl (Nat.le_of_ble_eq_true rfl) rfl ?_
  refine go_s (pc' := 1) rfl rfl rfl rfl ?_
  refine go_ifP (t' := 9) (pc' := 2) rfl rfl rfl (fun _ => ?_) (fun (c : ¬ (¬ (1 : Int32) = 0)) => absurd (by decide) c)
  refine go_s (pc' := 10) rfl rfl rfl rfl ?_
  refine go_s (pc' := 11) (st' := [.int 1, .int 3]) rfl rfl rfl rfl ?_
  refine go_icmpP (t' := 14) (pc' := 12) rfl rfl rfl (fun (c : (3 : Int32) ≤ 1) => absurd c (by decide)) (fun _ => ?_)
  refine go_s (pc' := 13) (st' := [.int 1]) rfl rfl rfl rfl ?_
  refine go_s (pc' := 15) rfl rfl rfl rfl ?_
  refine go_ret rfl rfl ?_
  exact ⟨rfl, rfl⟩
theorem rt_ih_2_3 {w : Nat → Bool} {d : Nat} {h : am_Hp} (hd : 1 ≤ d) : am_Ev (am_prog w) d 165 [.int 2, .int 3] h (fun r h' => r = some (.int 1) ∧ h' = h) := by
  obtain ⟨d, rfl⟩ : ∃ e, d = e + 1 := ⟨d - 1, by omega⟩
  refine ev_go rfl (Nat.le_of_ble_eq_true rfl) rfl ?_
  refine go_s (pc' := 1) rfl rfl rfl rfl ?_
  refine go_ifP (t' := 9) (pc' := 2) rfl rfl rfl (fun _ => ?_) (fun (c : ¬ (¬ (2 : Int32) = 0)) => absurd (by decide) c)
  refine go_s (pc' := 10) rfl rfl rfl rfl ?_
  refine go_s (pc' := 11) (st' := [.int 1, .int 3]) rfl rfl rfl rfl ?_
  refine go_icmpP (t' := 14) (pc' := 12) rfl rfl rfl (fun (c : (3 : Int32) ≤ 1) => absurd c (by decide)) (fun _ => ?_)
  refine go_s (pc' := 13) (st' := [.int 1]) rfl rfl rfl rfl ?_
  refine go_s (pc' := 15) rfl rfl rfl rfl ?_
  refine go_ret rfl rfl ?_
  exact ⟨rfl, rfl⟩
theorem rt_fh_0 {w : Nat → Bool} {d : Nat} {h : am_Hp} {J : sm_I} {Y : sm_X} {am lm as_ ls : Nat} (hr : rk am as_) (hS : sm (tbr am lm as_ ls) h J Y) (hd : 1 ≤ d) : am_Ev (am_prog w) d 171 [.ref 62, .int 0] h (fun r h' => r = some (.int (fup J 0)) ∧ h' = h) := by
  obtain ⟨d, rfl⟩ : ∃ e, d = e + 1 := ⟨d - 1, by omega⟩
  refine ev_go rfl (Nat.le_of_ble_eq_true rfl) rfl ?_
  refine go_s (pc' := 1) rfl rfl rfl rfl ?_
  refine go_ifP (t' := 4) (pc' := 2) rfl rfl rfl (fun (c : ¬ (0 : Int32) = 0) => absurd c (by decide)) (fun _ => ?_)
  refine go_s (pc' := 3) (st' := [.int 0]) rfl rfl rfl rfl ?_
  refine go_s (pc' := 5) rfl rfl rfl rfl ?_
  refine go_s (pc' := 6) (lo' := [some (.ref 62), some (.int 0), some (.int 0)]) rfl rfl rfl rfl ?_
  refine go_s (pc' := 7) rfl rfl rfl rfl ?_
  refine go_sget (pc' := 8) (v := .ref 63) hS rfl rfl rfl (by decide) rfl rfl ?_
  refine go_s (pc' := 9) rfl rfl rfl rfl ?_
  refine go_sald (pc' := 10) (q := 0) (v := .int (J 0 0)) hS rfl (tr_s hr (a := 63) rfl (by decide)) rfl rfl (by decide) rfl rfl ?_
  refine go_ifP (t' := 13) (pc' := 11) rfl rfl rfl (fun (c1 : (J 0 0) = 0) => ?_) (fun (c1 : ¬ (J 0 0) = 0) => ?_)
  · skip
    refine go_s (pc' := 14) rfl rfl rfl rfl ?_
    refine go_sget (pc' := 15) (v := .ref 63) hS rfl rfl rfl (by decide) rfl rfl ?_
    refine go_s (pc' := 16) rfl rfl rfl rfl ?_
    refine go_s (pc' := 17) (st' := [.int 1, .int 0, .ref 63]) rfl rfl rfl rfl ?_
    refine go_s (pc' := 18) (st' := [.int 1, .ref 63]) rfl rfl rfl rfl ?_
    refine go_sald (pc' := 19) (q := 1) (v := .int (J 0 1)) hS rfl (tr_s hr (a := 63) rfl (by decide)) rfl rfl (by decide) rfl rfl ?_
    refine go_ifP (t' := 24) (pc' := 20) rfl rfl rfl (fun (c2 : (J 0 1) = 0) => ?_) (fun (c2 : ¬ (J 0 1) = 0) => ?_)
    · skip
      refine go_s (pc' := 25) (st' := [.int (-1)]) rfl rfl rfl rfl ?_
      refine go_ret rfl rfl ?_
      exact ⟨by simp [fup, c1, c2] <;> rfl, rfl⟩
    · skip
      refine go_s (pc' := 21) rfl rfl rfl rfl ?_
      refine go_s (pc' := 22) (st' := [.int 1, .int 0]) rfl rfl rfl rfl ?_
      refine go_s (pc' := 23) (st' := [.int 1]) rfl rfl rfl rfl ?_
      refine go_s (pc' := 25) rfl rfl rfl rfl ?_
      refine go_ret rfl rfl ?_
      exact ⟨by simp [fup, c1, c2] <;> rfl, rfl⟩
  · skip
    refine go_s (pc' := 12) rfl rfl rfl rfl ?_
    refine go_s (pc' := 25) rfl rfl rfl rfl ?_
    refine go_ret rfl rfl ?_
    exact ⟨by simp [fup, c1] <;> rfl, rfl⟩
theorem rt_fh_1 {w : Nat → Bool} {d : Nat} {h : am_Hp} {J : sm_I} {Y : sm_X} {am lm as_ ls : Nat} (hr : rk am as_) (hS : sm (tbr am lm as_ ls) h J Y) (hd : 1 ≤ d) : am_Ev (am_prog w) d 171 [.ref 62, .int 1] h (fun r h' => r = some (.int (fup J 2)) ∧ h' = h) := by
  obtain ⟨d, rfl⟩ : ∃ e, d = e + 1 := ⟨d - 1, by omega⟩
  refine ev_go rfl (Nat.le_of_ble_eq_true rfl) rfl ?_
  refine go_s (pc' := 1) rfl rfl rfl rfl ?_
  refine go_ifP (t' := 4) (pc' := 2) rfl rfl rfl (fun _ => ?_) (fun (c : ¬ (¬ (1 : Int32) = 0)) => absurd (by decide) c)
  refine go_s (pc' := 5) (st' := [.int 2]) rfl rfl rfl rfl ?_
  refine go_s (pc' := 6) (lo' := [some (.ref 62), some (.int 1), some (.int 2)]) rfl rfl rfl rfl ?_
  refine go_s (pc' := 7) rfl rfl rfl rfl ?_
  refine go_sget (pc' := 8) (v := .ref 63) hS rfl rfl rfl (by decide) rfl rfl ?_
  refine go_s (pc' := 9) rfl rfl rfl rfl ?_
  refine go_sald (pc' := 10) (q := 2) (v := .int (J 0 2)) hS rfl (tr_s hr (a := 63) rfl (by decide)) rfl rfl (by decide) rfl rfl ?_
  refine go_ifP (t' := 13) (pc' := 11) rfl rfl rfl (fun (c1 : (J 0 2) = 0) => ?_) (fun (c1 : ¬ (J 0 2) = 0) => ?_)
  · skip
    refine go_s (pc' := 14) rfl rfl rfl rfl ?_
    refine go_sget (pc' := 15) (v := .ref 63) hS rfl rfl rfl (by decide) rfl rfl ?_
    refine go_s (pc' := 16) rfl rfl rfl rfl ?_
    refine go_s (pc' := 17) (st' := [.int 1, .int 2, .ref 63]) rfl rfl rfl rfl ?_
    refine go_s (pc' := 18) (st' := [.int 3, .ref 63]) rfl rfl rfl rfl ?_
    refine go_sald (pc' := 19) (q := 3) (v := .int (J 0 3)) hS rfl (tr_s hr (a := 63) rfl (by decide)) rfl rfl (by decide) rfl rfl ?_
    refine go_ifP (t' := 24) (pc' := 20) rfl rfl rfl (fun (c2 : (J 0 3) = 0) => ?_) (fun (c2 : ¬ (J 0 3) = 0) => ?_)
    · skip
      refine go_s (pc' := 25) (st' := [.int (-1)]) rfl rfl rfl rfl ?_
      refine go_ret rfl rfl ?_
      exact ⟨by simp [fup, c1, c2] <;> rfl, rfl⟩
    · skip
      refine go_s (pc' := 21) rfl rfl rfl rfl ?_
      refine go_s (pc' := 22) (st' := [.int 1, .int 2]) rfl rfl rfl rfl ?_
      refine go_s (pc' := 23) (st' := [.int 3]) rfl rfl rfl rfl ?_
      refine go_s (pc' := 25) rfl rfl rfl rfl ?_
      refine go_ret rfl rfl ?_
      exact ⟨by simp [fup, c1, c2] <;> rfl, rfl⟩
  · skip
    refine go_s (pc' := 12) rfl rfl rfl rfl ?_
    refine go_s (pc' := 25) rfl rfl rfl rfl ?_
    refine go_ret rfl rfl ?_
    exact ⟨by simp [fup, c1] <;> rfl, rfl⟩
theorem rt_fh_2 {w : Nat → Bool} {d : Nat} {h : am_Hp} {J : sm_I} {Y : sm_X} {am lm as_ ls : Nat} (hr : rk am as_) (hS : sm (tbr am lm as_ ls) h J Y) (hd : 1 ≤ d) : am_Ev (am_prog w) d 171 [.ref 62, .int 2] h (fun r h' => r = some (.int (fup J 2)) ∧ h' = h) := by
  obtain ⟨d, rfl⟩ : ∃ e, d = e + 1 := ⟨d - 1, by omega⟩
  refine ev_go rfl (Nat.le_of_ble_eq_true rfl) rfl ?_
  refine go_s (pc' := 1) rfl rfl rfl rfl ?_
  refine go_ifP (t' := 4) (pc' := 2) rfl rfl rfl (fun _ => ?_) (fun (c : ¬ (¬ (2 : Int32) = 0)) => absurd (by decide) c)
  refine go_s (pc' := 5) (st' := [.int 2]) rfl rfl rfl rfl ?_
  refine go_s (pc' := 6) (lo' := [some (.ref 62), some (.int 2), some (.int 2)]) rfl rfl rfl rfl ?_
  refine go_s (pc' := 7) rfl rfl rfl rfl ?_
  refine go_sget (pc' := 8) (v := .ref 63) hS rfl rfl rfl (by decide) rfl rfl ?_
  refine go_s (pc' := 9) rfl rfl rfl rfl ?_
  refine go_sald (pc' := 10) (q := 2) (v := .int (J 0 2)) hS rfl (tr_s hr (a := 63) rfl (by decide)) rfl rfl (by decide) rfl rfl ?_
  refine go_ifP (t' := 13) (pc' := 11) rfl rfl rfl (fun (c1 : (J 0 2) = 0) => ?_) (fun (c1 : ¬ (J 0 2) = 0) => ?_)
  · skip
    refine go_s (pc' := 14) rfl rfl rfl rfl ?_
    refine go_sget (pc' := 15) (v := .ref 63) hS rfl rfl rfl (by decide) rfl rfl ?_
    refine go_s (pc' := 16) rfl rfl rfl rfl ?_
    refine go_s (pc' := 17) (st' := [.int 1, .int 2, .ref 63]) rfl rfl rfl rfl ?_
    refine go_s (pc' := 18) (st' := [.int 3, .ref 63]) rfl rfl rfl rfl ?_
    refine go_sald (pc' := 19) (q := 3) (v := .int (J 0 3)) hS rfl (tr_s hr (a := 63) rfl (by decide)) rfl rfl (by decide) rfl rfl ?_
    refine go_ifP (t' := 24) (pc' := 20) rfl rfl rfl (fun (c2 : (J 0 3) = 0) => ?_) (fun (c2 : ¬ (J 0 3) = 0) => ?_)
    · skip
      refine go_s (pc' := 25) (st' := [.int (-1)]) rfl rfl rfl rfl ?_
      refine go_ret rfl rfl ?_
      exact ⟨by simp [fup, c1, c2] <;> rfl, rfl⟩
    · skip
      refine go_s (pc' := 21) rfl rfl rfl rfl ?_
      refine go_s (pc' := 22) (st' := [.int 1, .int 2]) rfl rfl rfl rfl ?_
      refine go_s (pc' := 23) (st' := [.int 3]) rfl rfl rfl rfl ?_
      refine go_s (pc' := 25) rfl rfl rfl rfl ?_
      refine go_ret rfl rfl ?_
      exact ⟨by simp [fup, c1, c2] <;> rfl, rfl⟩
  · skip
    refine go_s (pc' := 12) rfl rfl rfl rfl ?_
    refine go_s (pc' := 25) rfl rfl rfl rfl ?_
    refine go_ret rfl rfl ?_
    exact ⟨by simp [fup, c1] <;> rfl, rfl⟩
theorem rt_leads {w : Nat → Bool} {d : Nat} {h : am_Hp} {J : sm_I} {Y : sm_X} {am lm as_ ls : Nat} (hr : rk am as_) (hS : sm (tbr am lm as_ ls) h J Y) (hW : ∀ a, 62 ≤ a → a ≤ 88 → w a = true) (hWm : w am = true) {m : Nat} (hm : m + 3 < lm) (hl : lm < 2 ^ 31) (hd : 1 ≤ d) : am_Ev (am_prog w) d 132 [.ref 62, .int (nI m)] h (fun r h' => r = none ∧ sm (tbr am lm as_ ls) h' (uI (uI J 50 (m + 2) (fbu J)) 50 (m + 3) (fbu J)) Y ∧ sm_e (tbr am lm as_ ls) h h') := by
  obtain ⟨d, rfl⟩ : ∃ e, d = e + 1 := ⟨d - 1, by omega⟩
  refine ev_go rfl (Nat.le_of_ble_eq_true rfl) rfl ?_
  refine go_s (pc' := 1) rfl rfl rfl rfl ?_
  refine go_sget (pc' := 2) (v := .ref 66) hS rfl rfl rfl (by decide) rfl rfl ?_
  refine go_s (pc' := 3) (st' := [.int 0, .ref 66]) rfl rfl rfl rfl ?_
  refine go_sald (pc' := 4) (q := 0) (v := .int (J 3 0)) hS rfl (tr_s hr (a := 66) rfl (by decide)) rfl rfl (by decide) rfl rfl ?_
  refine go_ifP (t' := 7) (pc' := 5) rfl rfl rfl (fun (c1 : (J 3 0) = 0) => ?_) (fun (c1 : ¬ (J 3 0) = 0) => ?_)
  · skip
    refine go_s (pc' := 8) rfl rfl rfl rfl ?_
    refine go_sget (pc' := 9) (v := .ref 66) hS rfl rfl rfl (by decide) rfl rfl ?_
    refine go_s (pc' := 10) (st' := [.int 1, .ref 66]) rfl rfl rfl rfl ?_
    refine go_sald (pc' := 11) (q := 1) (v := .int (J 3 1)) hS rfl (tr_s hr (a := 66) rfl (by decide)) rfl rfl (by decide) rfl rfl ?_
    refine go_ifP (t' := 14) (pc' := 12) rfl rfl rfl (fun (c2 : (J 3 1) = 0) => ?_) (fun (c2 : ¬ (J 3 1) = 0) => ?_)
    · skip
      refine go_s (pc' := 15) (st' := [.int (-1)]) rfl rfl rfl rfl ?_
      refine go_s (pc' := 16) (lo' := [some (.ref 62), some (.int (nI m)), some (.int (-1))]) rfl rfl rfl rfl ?_
      refine go_s (pc' := 17) rfl rfl rfl rfl ?_
      refine go_sget (pc' := 18) (v := .ref am) hS rfl rfl rfl (by decide) rfl rfl ?_
      refine go_s (pc' := 19) rfl rfl rfl rfl ?_
      refine go_s (pc' := 20) (st' := [.int 2, .int (nI m), .ref am]) rfl rfl rfl rfl ?_
      refine go_nadd (pc' := 21) (a := m) (b := 2) rfl rfl rfl rfl rfl ?_
      refine go_s (pc' := 22) rfl rfl rfl rfl ?_
      refine go_siast (pc' := 23) (q := (m + 2)) hS rfl (tr_ms hr (by omega)) tbr_inj (Nat.le_of_ble_eq_true rfl) rfl (by omega) (rk_0 hr).1 hWm rfl (fun h3 hS4 hE5 => ?_)
      refine go_s (pc' := 24) rfl rfl rfl rfl ?_
      refine go_sget (pc' := 25) (v := .ref am) hS4 rfl rfl rfl (by decide) rfl rfl ?_
      refine go_s (pc' := 26) rfl rfl rfl rfl ?_
      refine go_s (pc' := 27) (st' := [.int 3, .int (nI m), .ref am]) rfl rfl rfl rfl ?_
      refine go_nadd (pc' := 28) (a := m) (b := 3) rfl rfl rfl rfl rfl ?_
      refine go_s (pc' := 29) rfl rfl rfl rfl ?_
      refine go_siast (pc' := 30) (q := (m + 3)) hS4 rfl (tr_ms hr (by omega)) tbr_inj (Nat.le_of_ble_eq_true rfl) rfl (by omega) (rk_0 hr).1 hWm rfl (fun h6 hS7 hE8 => ?_)
      have hE9 := sm_e_trans hE5 hE8
      refine go_ret rfl rfl ?_
      exact ⟨rfl, by rw [show fbu J = (-1) by simp [fbu, c1, c2]]; exact hS7, hE9⟩
    · skip
      refine go_s (pc' := 13) (st' := [.int 1]) rfl rfl rfl rfl ?_
      refine go_s (pc' := 15) rfl rfl rfl rfl ?_
      refine go_s (pc' := 16) (lo' := [some (.ref 62), some (.int (nI m)), some (.int 1)]) rfl rfl rfl rfl ?_
      refine go_s (pc' := 17) rfl rfl rfl rfl ?_
      refine go_sget (pc' := 18) (v := .ref am) hS rfl rfl rfl (by decide) rfl rfl ?_
      refine go_s (pc' := 19) rfl rfl rfl rfl ?_
      refine go_s (pc' := 20) (st' := [.int 2, .int (nI m), .ref am]) rfl rfl rfl rfl ?_
      refine go_nadd (pc' := 21) (a := m) (b := 2) rfl rfl rfl rfl rfl ?_
      refine go_s (pc' := 22) rfl rfl rfl rfl ?_
      refine go_siast (pc' := 23) (q := (m + 2)) hS rfl (tr_ms hr (by omega)) tbr_inj (Nat.le_of_ble_eq_true rfl) rfl (by omega) (rk_0 hr).1 hWm rfl (fun h10 hS11 hE12 => ?_)
      refine go_s (pc' := 24) rfl rfl rfl rfl ?_
      refine go_sget (pc' := 25) (v := .ref am) hS11 rfl rfl rfl (by decide) rfl rfl ?_
      refine go_s (pc' := 26) rfl rfl rfl rfl ?_
      refine go_s (pc' := 27) (st' := [.int 3, .int (nI m), .ref am]) rfl rfl rfl rfl ?_
      refine go_nadd (pc' := 28) (a := m) (b := 3) rfl rfl rfl rfl rfl ?_
      refine go_s (pc' := 29) rfl rfl rfl rfl ?_
      refine go_siast (pc' := 30) (q := (m + 3)) hS11 rfl (tr_ms hr (by omega)) tbr_inj (Nat.le_of_ble_eq_true rfl) rfl (by omega) (rk_0 hr).1 hWm rfl (fun h13 hS14 hE15 => ?_)
      have hE16 := sm_e_trans hE12 hE15
      refine go_ret rfl rfl ?_
      exact ⟨rfl, by rw [show fbu J = 1 by simp [fbu, c1, c2]]; exact hS14, hE16⟩
  · skip
    refine go_s (pc' := 6) (st' := [.int 0]) rfl rfl rfl rfl ?_
    refine go_s (pc' := 15) rfl rfl rfl rfl ?_
    refine go_s (pc' := 16) (lo' := [some (.ref 62), some (.int (nI m)), some (.int 0)]) rfl rfl rfl rfl ?_
    refine go_s (pc' := 17) rfl rfl rfl rfl ?_
    refine go_sget (pc' := 18) (v := .ref am) hS rfl rfl rfl (by decide) rfl rfl ?_
    refine go_s (pc' := 19) rfl rfl rfl rfl ?_
    refine go_s (pc' := 20) (st' := [.int 2, .int (nI m), .ref am]) rfl rfl rfl rfl ?_
    refine go_nadd (pc' := 21) (a := m) (b := 2) rfl rfl rfl rfl rfl ?_
    refine go_s (pc' := 22) rfl rfl rfl rfl ?_
    refine go_siast (pc' := 23) (q := (m + 2)) hS rfl (tr_ms hr (by omega)) tbr_inj (Nat.le_of_ble_eq_true rfl) rfl (by omega) (rk_0 hr).1 hWm rfl (fun h17 hS18 hE19 => ?_)
    refine go_s (pc' := 24) rfl rfl rfl rfl ?_
    refine go_sget (pc' := 25) (v := .ref am) hS18 rfl rfl rfl (by decide) rfl rfl ?_
    refine go_s (pc' := 26) rfl rfl rfl rfl ?_
    refine go_s (pc' := 27) (st' := [.int 3, .int (nI m), .ref am]) rfl rfl rfl rfl ?_
    refine go_nadd (pc' := 28) (a := m) (b := 3) rfl rfl rfl rfl rfl ?_
    refine go_s (pc' := 29) rfl rfl rfl rfl ?_
    refine go_siast (pc' := 30) (q := (m + 3)) hS18 rfl (tr_ms hr (by omega)) tbr_inj (Nat.le_of_ble_eq_true rfl) rfl (by omega) (rk_0 hr).1 hWm rfl (fun h20 hS21 hE22 => ?_)
    have hE23 := sm_e_trans hE19 hE22
    refine go_ret rfl rfl ?_
    exact ⟨rfl, by rw [show fbu J = 0 by simp [fbu, c1]]; exact hS21, hE23⟩
theorem rt_put_0 {w : Nat → Bool} {d : Nat} {h : am_Hp} {J : sm_I} {Y : sm_X} {am lm as_ ls : Nat} (hr : rk am as_) (hS : sm (tbr am lm as_ ls) h J Y) (hW : ∀ a, 62 ≤ a → a ≤ 88 → w a = true) {q : Nat} {a b c e f : Int32} (hq : q < 49) (hd : 1 ≤ d) : am_Ev (am_prog w) d 122 [.ref 62, .int 0, .int (nI q), .int a, .int b, .int c, .int e, .int f] h (fun r h' => r = none ∧ sm (tbr am lm as_ ls) h' (uI (uI (uI (uI (uI J 7 (5 * (0 + q)) a) 7 (5 * (0 + q) + 1) b) 7 (5 * (0 + q) + 2) c) 7 (5 * (0 + q) + 3) e) 7 (5 * (0 + q) + 4) f) Y ∧ sm_e (tbr am lm as_ ls) h h') := by
  obtain ⟨d, rfl⟩ : ∃ e, d = e + 1 := ⟨d - 1, by omega⟩
  refine ev_go rfl (Nat.le_of_ble_eq_true rfl) rfl ?_
  refine go_s (pc' := 1) (st' := [.int 5]) rfl rfl rfl rfl ?_
  refine go_s (pc' := 2) (st' := [.int 49, .int 5]) rfl rfl rfl rfl ?_
  refine go_s (pc' := 3) rfl rfl rfl rfl ?_
  refine go_s (pc' := 4) (st' := [.int 0, .int 5]) rfl rfl rfl rfl ?_
  refine go_s (pc' := 5) rfl rfl rfl rfl ?_
  refine go_nadd (pc' := 6) (a := 0) (b := q) rfl rfl rfl rfl rfl ?_
  refine go_nmul (pc' := 7) (a := 5) (b := (0 + q)) rfl rfl rfl rfl rfl ?_
  refine go_s (pc' := 8) (lo' := [some (.ref 62), some (.int 0), some (.int (nI q)), some (.int a), some (.int b), some (.int c), some (.int e), some (.int f), some (.int (nI (5 * (0 + q))))]) rfl rfl rfl rfl ?_
  refine go_s (pc' := 9) rfl rfl rfl rfl ?_
  refine go_sget (pc' := 10) (v := .ref 70) hS rfl rfl rfl (by decide) rfl rfl ?_
  refine go_s (pc' := 11) rfl rfl rfl rfl ?_
  refine go_s (pc' := 12) rfl rfl rfl rfl ?_
  refine go_siast (pc' := 13) (q := (5 * (0 + q))) hS rfl (tr_s hr (a := 70) rfl (by omega)) tbr_inj (Nat.le_of_ble_eq_true rfl) rfl (by omega) (by decide) (hW _ (by decide) (by decide)) rfl (fun h1 hS2 hE3 => ?_)
  refine go_s (pc' := 14) rfl rfl rfl rfl ?_
  refine go_sget (pc' := 15) (v := .ref 70) hS2 rfl rfl rfl (by decide) rfl rfl ?_
  refine go_s (pc' := 16) rfl rfl rfl rfl ?_
  refine go_s (pc' := 17) (st' := [.int 1, .int (nI (5 * (0 + q))), .ref 70]) rfl rfl rfl rfl ?_
  refine go_nadd (pc' := 18) (a := (5 * (0 + q))) (b := 1) rfl rfl rfl rfl rfl ?_
  refine go_s (pc' := 19) rfl rfl rfl rfl ?_
  refine go_siast (pc' := 20) (q := ((5 * (0 + q)) + 1)) hS2 rfl (tr_s hr (a := 70) rfl (by omega)) tbr_inj (Nat.le_of_ble_eq_true rfl) rfl (by omega) (by decide) (hW _ (by decide) (by decide)) rfl (fun h4 hS5 hE6 => ?_)
  have hE7 := sm_e_trans hE3 hE6
  refine go_s (pc' := 21) rfl rfl rfl rfl ?_
  refine go_sget (pc' := 22) (v := .ref 70) hS5 rfl rfl rfl (by decide) rfl rfl ?_
  refine go_s (pc' := 23) rfl rfl rfl rfl ?_
  refine go_s (pc' := 24) (st' := [.int 2, .int (nI (5 * (0 + q))), .ref 70]) rfl rfl rfl rfl ?_
  refine go_nadd (pc' := 25) (a := (5 * (0 + q))) (b := 2) rfl rfl rfl rfl rfl ?_
  refine go_s (pc' := 26) rfl rfl rfl rfl ?_
  refine go_siast (pc' := 27) (q := ((5 * (0 + q)) + 2)) hS5 rfl (tr_s hr (a := 70) rfl (by omega)) tbr_inj (Nat.le_of_ble_eq_true rfl) rfl (by omega) (by decide) (hW _ (by decide) (by decide)) rfl (fun h8 hS9 hE10 => ?_)
  have hE11 := sm_e_trans hE7 hE10
  refine go_s (pc' := 28) rfl rfl rfl rfl ?_
  refine go_sget (pc' := 29) (v := .ref 70) hS9 rfl rfl rfl (by decide) rfl rfl ?_
  refine go_s (pc' := 30) rfl rfl rfl rfl ?_
  refine go_s (pc' := 31) (st' := [.int 3, .int (nI (5 * (0 + q))), .ref 70]) rfl rfl rfl rfl ?_
  refine go_nadd (pc' := 32) (a := (5 * (0 + q))) (b := 3) rfl rfl rfl rfl rfl ?_
  refine go_s (pc' := 33) rfl rfl rfl rfl ?_
  refine go_siast (pc' := 34) (q := ((5 * (0 + q)) + 3)) hS9 rfl (tr_s hr (a := 70) rfl (by omega)) tbr_inj (Nat.le_of_ble_eq_true rfl) rfl (by omega) (by decide) (hW _ (by decide) (by decide)) rfl (fun h12 hS13 hE14 => ?_)
  have hE15 := sm_e_trans hE11 hE14
  refine go_s (pc' := 35) rfl rfl rfl rfl ?_
  refine go_sget (pc' := 36) (v := .ref 70) hS13 rfl rfl rfl (by decide) rfl rfl ?_
  refine go_s (pc' := 37) rfl rfl rfl rfl ?_
  refine go_s (pc' := 38) (st' := [.int 4, .int (nI (5 * (0 + q))), .ref 70]) rfl rfl rfl rfl ?_
  refine go_nadd (pc' := 39) (a := (5 * (0 + q))) (b := 4) rfl rfl rfl rfl rfl ?_
  refine go_s (pc' := 40) rfl rfl rfl rfl ?_
  refine go_siast (pc' := 41) (q := ((5 * (0 + q)) + 4)) hS13 rfl (tr_s hr (a := 70) rfl (by omega)) tbr_inj (Nat.le_of_ble_eq_true rfl) rfl (by omega) (by decide) (hW _ (by decide) (by decide)) rfl (fun h16 hS17 hE18 => ?_)
  have hE19 := sm_e_trans hE15 hE18
  refine go_ret rfl rfl ?_
  exact ⟨rfl, hS17, hE19⟩
theorem rt_put_1 {w : Nat → Bool} {d : Nat} {h : am_Hp} {J : sm_I} {Y : sm_X} {am lm as_ ls : Nat} (hr : rk am as_) (hS : sm (tbr am lm as_ ls) h J Y) (hW : ∀ a, 62 ≤ a → a ≤ 88 → w a = true) {q : Nat} {a b c e f : Int32} (hq : q < 49) (hd : 1 ≤ d) : am_Ev (am_prog w) d 122 [.ref 62, .int 1, .int (nI q), .int a, .int b, .int c, .int e, .int f] h (fun r h' => r = none ∧ sm (tbr am lm as_ ls) h' (uI (uI (uI (uI (uI J 7 (5 * (49 + q)) a) 7 (5 * (49 + q) + 1) b) 7 (5 * (49 + q) + 2) c) 7 (5 * (49 + q) + 3) e) 7 (5 * (49 + q) + 4) f) Y ∧ sm_e (tbr am lm as_ ls) h h') := by
  obtain ⟨d, rfl⟩ : ∃ e, d = e + 1 := ⟨d - 1, by omega⟩
  refine ev_go rfl (Nat.le_of_ble_eq_true rfl) rfl ?_
  refine go_s (pc' := 1) (st' := [.int 5]) rfl rfl rfl rfl ?_
  refine go_s (pc' := 2) (st' := [.int 49, .int 5]) rfl rfl rfl rfl ?_
  refine go_s (pc' := 3) rfl rfl rfl rfl ?_
  refine go_s (pc' := 4) (st' := [.int 49, .int 5]) rfl rfl rfl rfl ?_
  refine go_s (pc' := 5) rfl rfl rfl rfl ?_
  refine go_nadd (pc' := 6) (a := 49) (b := q) rfl rfl rfl rfl rfl ?_
  refine go_nmul (pc' := 7) (a := 5) (b := (49 + q)) rfl rfl rfl rfl rfl ?_
  refine go_s (pc' := 8) (lo' := [some (.ref 62), some (.int 1), some (.int (nI q)), some (.int a), some (.int b), some (.int c), some (.int e), some (.int f), some (.int (nI (5 * (49 + q))))]) rfl rfl rfl rfl ?_
  refine go_s (pc' := 9) rfl rfl rfl rfl ?_
  refine go_sget (pc' := 10) (v := .ref 70) hS rfl rfl rfl (by decide) rfl rfl ?_
  refine go_s (pc' := 11) rfl rfl rfl rfl ?_
  refine go_s (pc' := 12) rfl rfl rfl rfl ?_
  refine go_siast (pc' := 13) (q := (5 * (49 + q))) hS rfl (tr_s hr (a := 70) rfl (by omega)) tbr_inj (Nat.le_of_ble_eq_true rfl) rfl (by omega) (by decide) (hW _ (by decide) (by decide)) rfl (fun h1 hS2 hE3 => ?_)
  refine go_s (pc' := 14) rfl rfl rfl rfl ?_
  refine go_sget (pc' := 15) (v := .ref 70) hS2 rfl rfl rfl (by decide) rfl rfl ?_
  refine go_s (pc' := 16) rfl rfl rfl rfl ?_
  refine go_s (pc' := 17) (st' := [.int 1, .int (nI (5 * (49 + q))), .ref 70]) rfl rfl rfl rfl ?_
  refine go_nadd (pc' := 18) (a := (5 * (49 + q))) (b := 1) rfl rfl rfl rfl rfl ?_
  refine go_s (pc' := 19) rfl rfl rfl rfl ?_
  refine go_siast (pc' := 20) (q := ((5 * (49 + q)) + 1)) hS2 rfl (tr_s hr (a := 70) rfl (by omega)) tbr_inj (Nat.le_of_ble_eq_true rfl) rfl (by omega) (by decide) (hW _ (by decide) (by decide)) rfl (fun h4 hS5 hE6 => ?_)
  have hE7 := sm_e_trans hE3 hE6
  refine go_s (pc' := 21) rfl rfl rfl rfl ?_
  refine go_sget (pc' := 22) (v := .ref 70) hS5 rfl rfl rfl (by decide) rfl rfl ?_
  refine go_s (pc' := 23) rfl rfl rfl rfl ?_
  refine go_s (pc' := 24) (st' := [.int 2, .int (nI (5 * (49 + q))), .ref 70]) rfl rfl rfl rfl ?_
  refine go_nadd (pc' := 25) (a := (5 * (49 + q))) (b := 2) rfl rfl rfl rfl rfl ?_
  refine go_s (pc' := 26) rfl rfl rfl rfl ?_
  refine go_siast (pc' := 27) (q := ((5 * (49 + q)) + 2)) hS5 rfl (tr_s hr (a := 70) rfl (by omega)) tbr_inj (Nat.le_of_ble_eq_true rfl) rfl (by omega) (by decide) (hW _ (by decide) (by decide)) rfl (fun h8 hS9 hE10 => ?_)
  have hE11 := sm_e_trans hE7 hE10
  refine go_s (pc' := 28) rfl rfl rfl rfl ?_
  refine go_sget (pc' := 29) (v := .ref 70) hS9 rfl rfl rfl (by decide) rfl rfl ?_
  refine go_s (pc' := 30) rfl rfl rfl rfl ?_
  refine go_s (pc' := 31) (st' := [.int 3, .int (nI (5 * (49 + q))), .ref 70]) rfl rfl rfl rfl ?_
  refine go_nadd (pc' := 32) (a := (5 * (49 + q))) (b := 3) rfl rfl rfl rfl rfl ?_
  refine go_s (pc' := 33) rfl rfl rfl rfl ?_
  refine go_siast (pc' := 34) (q := ((5 * (49 + q)) + 3)) hS9 rfl (tr_s hr (a := 70) rfl (by omega)) tbr_inj (Nat.le_of_ble_eq_true rfl) rfl (by omega) (by decide) (hW _ (by decide) (by decide)) rfl (fun h12 hS13 hE14 => ?_)
  have hE15 := sm_e_trans hE11 hE14
  refine go_s (pc' := 35) rfl rfl rfl rfl ?_
  refine go_sget (pc' := 36) (v := .ref 70) hS13 rfl rfl rfl (by decide) rfl rfl ?_
  refine go_s (pc' := 37) rfl rfl rfl rfl ?_
  refine go_s (pc' := 38) (st' := [.int 4, .int (nI (5 * (49 + q))), .ref 70]) rfl rfl rfl rfl ?_
  refine go_nadd (pc' := 39) (a := (5 * (49 + q))) (b := 4) rfl rfl rfl rfl rfl ?_
  refine go_s (pc' := 40) rfl rfl rfl rfl ?_
  refine go_siast (pc' := 41) (q := ((5 * (49 + q)) + 4)) hS13 rfl (tr_s hr (a := 70) rfl (by omega)) tbr_inj (Nat.le_of_ble_eq_true rfl) rfl (by omega) (by decide) (hW _ (by decide) (by decide)) rfl (fun h16 hS17 hE18 => ?_)
  have hE19 := sm_e_trans hE15 hE18
  refine go_ret rfl rfl ?_
  exact ⟨rfl, hS17, hE19⟩
theorem rt_stops_0 {w : Nat → Bool} {d : Nat} {h : am_Hp} {J : sm_I} {Y : sm_X} {am lm as_ ls : Nat} (hr : rk am as_) (hS : sm (tbr am lm as_ ls) h J Y) (hW : ∀ a, 62 ≤ a → a ≤ 88 → w a = true) (hd : 1 ≤ d) : am_Ev (am_prog w) d 160 [.ref 62, .int 0] h (fun r h' => r = none ∧ sm (tbr am lm as_ ls) h' (mstI 0 J) Y ∧ sm_e (tbr am lm as_ ls) h h') := by
  obtain ⟨d, rfl⟩ : ∃ e, d = e + 1 := ⟨d - 1, by omega⟩
  refine ev_go rfl (Nat.le_of_ble_eq_true rfl) rfl ?_
  refine go_s (pc' := 1) rfl rfl rfl rfl ?_
  refine go_sget (pc' := 2) (v := .ref 83) hS rfl rfl rfl (by decide) rfl rfl ?_
  refine go_s (pc' := 3) rfl rfl rfl rfl ?_
  refine go_s (pc' := 4) (st' := [.int 0, .int 0, .ref 83]) rfl rfl rfl rfl ?_
  refine go_siast (pc' := 5) (q := 0) hS rfl (tr_s hr (a := 83) rfl (by decide)) tbr_inj (Nat.le_of_ble_eq_true rfl) rfl (by decide) (by decide) (hW _ (by decide) (by decide)) rfl (fun h1 hS2 hE3 => ?_)
  refine go_s (pc' := 6) rfl rfl rfl rfl ?_
  refine go_ifP (t' := 8) (pc' := 7) rfl rfl rfl (fun _ => ?_) (fun (c : ¬ ((0 : Int32) ≤ 0)) => absurd (by decide) c)
  refine go_s (pc' := 9) rfl rfl rfl rfl ?_
  refine go_s (pc' := 10) (st' := [.int 0, .ref 62]) rfl rfl rfl rfl ?_
  refine go_sput (pc' := 11) hS2 rfl rfl rfl (by decide) tbr_inj (Nat.le_of_ble_eq_true rfl) rfl (hW _ (by decide) (by decide)) rfl (fun h4 hS5 hE6 => ?_)
  have hE7 := sm_e_trans hE3 hE6
  refine go_s (pc' := 12) rfl rfl rfl rfl ?_
  refine go_s (pc' := 13) (st' := [.int 0, .ref 62]) rfl rfl rfl rfl ?_
  refine go_sput (pc' := 14) hS5 rfl rfl rfl (by decide) tbr_inj (Nat.le_of_ble_eq_true rfl) rfl (hW _ (by decide) (by decide)) rfl (fun h8 hS9 hE10 => ?_)
  have hE11 := sm_e_trans hE7 hE10
  refine go_ret rfl rfl ?_
  exact ⟨rfl, hS9, hE11⟩
theorem rt_stops_1 {w : Nat → Bool} {d : Nat} {h : am_Hp} {J : sm_I} {Y : sm_X} {am lm as_ ls : Nat} (hr : rk am as_) (hS : sm (tbr am lm as_ ls) h J Y) (hW : ∀ a, 62 ≤ a → a ≤ 88 → w a = true) (hd : 1 ≤ d) : am_Ev (am_prog w) d 160 [.ref 62, .int 1] h (fun r h' => r = none ∧ sm (tbr am lm as_ ls) h' (mstI 1 J) Y ∧ sm_e (tbr am lm as_ ls) h h') := by
  obtain ⟨d, rfl⟩ : ∃ e, d = e + 1 := ⟨d - 1, by omega⟩
  refine ev_go rfl (Nat.le_of_ble_eq_true rfl) rfl ?_
  refine go_s (pc' := 1) rfl rfl rfl rfl ?_
  refine go_sget (pc' := 2) (v := .ref 83) hS rfl rfl rfl (by decide) rfl rfl ?_
  refine go_s (pc' := 3) rfl rfl rfl rfl ?_
  refine go_s (pc' := 4) (st' := [.int 0, .int 1, .ref 83]) rfl rfl rfl rfl ?_
  refine go_siast (pc' := 5) (q := 1) hS rfl (tr_s hr (a := 83) rfl (by decide)) tbr_inj (Nat.le_of_ble_eq_true rfl) rfl (by decide) (by decide) (hW _ (by decide) (by decide)) rfl (fun h1 hS2 hE3 => ?_)
  refine go_s (pc' := 6) rfl rfl rfl rfl ?_
  refine go_ifP (t' := 8) (pc' := 7) rfl rfl rfl (fun (c : (1 : Int32) ≤ 0) => absurd c (by decide)) (fun _ => ?_)
  refine go_ret rfl rfl ?_
  exact ⟨rfl, hS2, hE3⟩
theorem rt_stops_2 {w : Nat → Bool} {d : Nat} {h : am_Hp} {J : sm_I} {Y : sm_X} {am lm as_ ls : Nat} (hr : rk am as_) (hS : sm (tbr am lm as_ ls) h J Y) (hW : ∀ a, 62 ≤ a → a ≤ 88 → w a = true) (hd : 1 ≤ d) : am_Ev (am_prog w) d 160 [.ref 62, .int 2] h (fun r h' => r = none ∧ sm (tbr am lm as_ ls) h' (mstI 2 J) Y ∧ sm_e (tbr am lm as_ ls) h h') := by
  obtain ⟨d, rfl⟩ : ∃ e, d = e + 1 := ⟨d - 1, by omega⟩
  refine ev_go rfl (Nat.le_of_ble_eq_true rfl) rfl ?_
  refine go_s (pc' := 1) rfl rfl rfl rfl ?_
  refine go_sget (pc' := 2) (v := .ref 83) hS rfl rfl rfl (by decide) rfl rfl ?_
  refine go_s (pc' := 3) rfl rfl rfl rfl ?_
  refine go_s (pc' := 4) (st' := [.int 0, .int 2, .ref 83]) rfl rfl rfl rfl ?_
  refine go_siast (pc' := 5) (q := 2) hS rfl (tr_s hr (a := 83) rfl (by decide)) tbr_inj (Nat.le_of_ble_eq_true rfl) rfl (by decide) (by decide) (hW _ (by decide) (by decide)) rfl (fun h1 hS2 hE3 => ?_)
  refine go_s (pc' := 6) rfl rfl rfl rfl ?_
  refine go_ifP (t' := 8) (pc' := 7) rfl rfl rfl (fun (c : (2 : Int32) ≤ 0) => absurd c (by decide)) (fun _ => ?_)
  refine go_ret rfl rfl ?_
  exact ⟨rfl, hS2, hE3⟩
