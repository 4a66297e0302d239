theorem rs_unw {w : Nat → Bool} {d : Nat} {h : am_Hp} {J : sm_I} {Y : sm_X} {am lm as_ ls : Nat} (hr : rk am as_) (hS : sm (tbr am lm as_ ls) h J Y) {rho : Nat} {s : ms} (hp : prk J 0) (hn : ¬ J 11 0 = -1) (hrho : rwi J 0 = rho) (hls : 424 * rho + 424 ≤ ls) (hl31 : ls < 2 ^ 31) (hR : RS J rho s) (hd : 2 ≤ d) : am_Ev (am_prog w) d 187 [.ref 62] h (fun r h' => r = some (.int (if J 16 0 = 2 then mlck J (nI s.2.2.length) else 0)) ∧ h' = h) := by
  obtain ⟨d, rfl⟩ : ∃ e, d = e + 1 := ⟨d - 1, by omega⟩
  refine ev_go rfl (Nat.le_of_ble_eq_true rfl) rfl ?_
  refine go_s (pc' := 1) (st' := [.int 0]) rfl rfl rfl rfl ?_
  refine go_s (pc' := 2) (lo' := [some (.ref 62), some (.int 0), none]) rfl rfl rfl rfl ?_
  refine go_s (pc' := 3) (st' := [.int 0]) rfl rfl rfl rfl ?_
  refine go_s (pc' := 4) (lo' := [some (.ref 62), some (.int 0), some (.int 0)]) rfl rfl rfl rfl ?_
  refine go_s (pc' := 5) rfl rfl rfl rfl ?_
  refine go_s (pc' := 6) (st' := [.int 2, .int 0]) rfl rfl rfl rfl ?_
  refine go_icmpP (t' := 35) (pc' := 7) rfl rfl rfl (fun (c : 2 ≤ (0 : Int32)) => absurd c (by decide)) (fun _ => ?_)
  refine go_s (pc' := 8) rfl rfl rfl rfl ?_
  refine go_sget (pc' := 9) (v := .ref 83) hS rfl rfl rfl (by decide) rfl rfl ?_
  refine go_s (pc' := 10) (st' := [.int 0, .ref 83]) rfl rfl rfl rfl ?_
  refine go_sald (pc' := 11) (q := 0) (v := .int (J 16 0)) hS rfl (tr_s hr (a := 83) rfl (by decide)) rfl rfl (by decide) rfl rfl ?_
  refine go_s (pc' := 12) (st' := [.int 2, .int (J 16 0)]) rfl rfl rfl rfl ?_
  refine go_icmpP (t' := 33) (pc' := 13) rfl rfl rfl (fun (c1 : ¬ (J 16 0) = 2) => ?_) (fun (c1' : ¬ ¬ (J 16 0) = 2) => ?_)
  · skip
    refine go_s (pc' := 34) (lo' := [some (.ref 62), some (.int 0), some (.int 1)]) rfl rfl rfl rfl ?_
    refine go_s (pc' := 4) rfl rfl rfl rfl ?_
    refine go_s (pc' := 5) rfl rfl rfl rfl ?_
    refine go_s (pc' := 6) (st' := [.int 2, .int 1]) rfl rfl rfl rfl ?_
    refine go_icmpP (t' := 35) (pc' := 7) rfl rfl rfl (fun (c : 2 ≤ (1 : Int32)) => absurd c (by decide)) (fun _ => ?_)
    refine go_s (pc' := 8) rfl rfl rfl rfl ?_
    refine go_sget (pc' := 9) (v := .ref 83) hS rfl rfl rfl (by decide) rfl rfl ?_
    refine go_s (pc' := 10) (st' := [.int 0, .ref 83]) rfl rfl rfl rfl ?_
    refine go_sald (pc' := 11) (q := 0) (v := .int (J 16 0)) hS rfl (tr_s hr (a := 83) rfl (by decide)) rfl rfl (by decide) rfl rfl ?_
    refine go_s (pc' := 12) (st' := [.int 2, .int (J 16 0)]) rfl rfl rfl rfl ?_
    refine go_icmpP (t' := 33) (pc' := 13) rfl rfl rfl (fun _ => ?_) (fun (c : ¬ (¬ (J 16 0) = 2)) => absurd c1 c)
    refine go_s (pc' := 34) (lo' := [some (.ref 62), some (.int 0), some (.int 2)]) rfl rfl rfl rfl ?_
    refine go_s (pc' := 4) rfl rfl rfl rfl ?_
    refine go_s (pc' := 5) rfl rfl rfl rfl ?_
    refine go_s (pc' := 6) (st' := [.int 2, .int 2]) rfl rfl rfl rfl ?_
    refine go_icmpP (t' := 35) (pc' := 7) rfl rfl rfl (fun _ => ?_) (fun (c : ¬ (2 ≤ (2 : Int32))) => absurd (by decide) c)
    refine go_s (pc' := 36) rfl rfl rfl rfl ?_
    refine go_ret rfl rfl ?_
    exact ⟨by rw [if_neg c1], rfl⟩
  · skip
    have c1 : (J 16 0) = 2 := Decidable.not_not.mp c1'
    refine go_s (pc' := 14) rfl rfl rfl rfl ?_
    refine go_s (pc' := 15) rfl rfl rfl rfl ?_
    refine go_callV (pc' := 16) rfl rfl rfl (Nat.le_of_ble_eq_true rfl) rfl (sm_o hS rfl) rfl rfl rfl (rt_us_0 hr hS (by omega)) (fun r h2 q3 => ?_)
    obtain ⟨rfl, rfl⟩ := q3
    cases u4 : us J 0
    · skip
      show am_Go _ _ _ _ 16 _ [.int 0] _ _
      refine go_ifP (t' := 33) (pc' := 17) rfl rfl rfl (fun _ => ?_) (fun (c : ¬ ((0 : Int32) = 0)) => absurd (by decide) c)
      refine go_s (pc' := 34) (lo' := [some (.ref 62), some (.int 0), some (.int 1)]) rfl rfl rfl rfl ?_
      refine go_s (pc' := 4) rfl rfl rfl rfl ?_
      refine go_s (pc' := 5) rfl rfl rfl rfl ?_
      refine go_s (pc' := 6) (st' := [.int 2, .int 1]) rfl rfl rfl rfl ?_
      refine go_icmpP (t' := 35) (pc' := 7) rfl rfl rfl (fun (c : 2 ≤ (1 : Int32)) => absurd c (by decide)) (fun _ => ?_)
      refine go_s (pc' := 8) rfl rfl rfl rfl ?_
      refine go_sget (pc' := 9) (v := .ref 83) hS rfl rfl rfl (by decide) rfl rfl ?_
      refine go_s (pc' := 10) (st' := [.int 0, .ref 83]) rfl rfl rfl rfl ?_
      refine go_sald (pc' := 11) (q := 0) (v := .int (J 16 0)) hS rfl (tr_s hr (a := 83) rfl (by decide)) rfl rfl (by decide) rfl rfl ?_
      refine go_s (pc' := 12) (st' := [.int 2, .int (J 16 0)]) rfl rfl rfl rfl ?_
      refine go_icmpP (t' := 33) (pc' := 13) rfl rfl rfl (fun (c : ¬ (J 16 0) = 2) => absurd c (by rw [c1] <;> decide)) (fun _ => ?_)
      refine go_s (pc' := 14) rfl rfl rfl rfl ?_
      refine go_s (pc' := 15) rfl rfl rfl rfl ?_
      refine go_callV (pc' := 16) rfl rfl rfl (Nat.le_of_ble_eq_true rfl) rfl (sm_o hS rfl) rfl rfl rfl (rt_us_1 hr hS (by omega)) (fun r h5 q6 => ?_)
      obtain ⟨rfl, rfl⟩ := q6
      cases u7 : us J 1
      · skip
        show am_Go _ _ _ _ 16 _ [.int 0] _ _
        refine go_ifP (t' := 33) (pc' := 17) rfl rfl rfl (fun _ => ?_) (fun (c : ¬ ((0 : Int32) = 0)) => absurd (by decide) c)
        refine go_s (pc' := 34) (lo' := [some (.ref 62), some (.int 0), some (.int 2)]) rfl rfl rfl rfl ?_
        refine go_s (pc' := 4) rfl rfl rfl rfl ?_
        refine go_s (pc' := 5) rfl rfl rfl rfl ?_
        refine go_s (pc' := 6) (st' := [.int 2, .int 2]) rfl rfl rfl rfl ?_
        refine go_icmpP (t' := 35) (pc' := 7) rfl rfl rfl (fun _ => ?_) (fun (c : ¬ (2 ≤ (2 : Int32))) => absurd (by decide) c)
        refine go_s (pc' := 36) rfl rfl rfl rfl ?_
        refine go_ret rfl rfl ?_
        exact ⟨by rw [if_pos c1]; simp [mlck, mlk1, u4, u7], rfl⟩
      · skip
        show am_Go _ _ _ _ 16 _ [.int 1] _ _
        refine go_ifP (t' := 33) (pc' := 17) rfl rfl rfl (fun (c : (1 : Int32) = 0) => absurd c (by decide)) (fun _ => ?_)
        refine go_s (pc' := 18) rfl rfl rfl rfl ?_
        refine go_s (pc' := 19) rfl rfl rfl rfl ?_
        refine go_sget (pc' := 20) (v := .ref as_) hS rfl rfl rfl (by decide) rfl rfl ?_
        refine go_s (pc' := 21) rfl rfl rfl rfl ?_
        refine go_s (pc' := 22) (st' := [.int 0, .ref 62, .ref as_, .int 0]) rfl rfl rfl rfl ?_
        refine go_callV (pc' := 23) rfl rfl rfl (Nat.le_of_ble_eq_true rfl) rfl (sm_o hS rfl) rfl rfl rfl (rt_at_0 hr hS hp hn (by omega)) (fun r h8 q9 => ?_)
        obtain ⟨rfl, rfl⟩ := q9
        rw [show rwi J 0 = rho from hrho]
        refine go_s (pc' := 24) (st' := [.int 5, .int (nI (424 * rho)), .ref as_, .int 0]) rfl rfl rfl rfl ?_
        refine go_nadd (pc' := 25) (a := (424 * rho)) (b := 5) rfl rfl rfl rfl rfl ?_
        refine go_sald (pc' := 26) (q := ((424 * rho) + 5)) (v := .int (nI s.2.2.length)) hS rfl (tr_as hr (by omega)) rfl rfl (by omega) (congrArg Value.int hR.2.2.1) rfl ?_
        refine go_s (pc' := 27) rfl rfl rfl rfl ?_
        refine go_sget (pc' := 28) (v := .ref 88) hS rfl rfl rfl (by decide) rfl rfl ?_
        refine go_s (pc' := 29) rfl rfl rfl rfl ?_
        refine go_sald (pc' := 30) (q := 1) (v := .int (J 22 1)) hS rfl (tr_s hr (a := 88) rfl (by decide)) rfl rfl (by decide) rfl rfl ?_
        refine go_s (pc' := 31) rfl rfl rfl rfl ?_
        refine go_max (pc' := 32) rfl rfl rfl ?_
        refine go_s (pc' := 33) (lo' := [some (.ref 62), some (.int (imx 0 ((nI s.2.2.length) - (J 22 1)))), some (.int 1)]) rfl rfl rfl rfl ?_
        refine go_s (pc' := 34) (lo' := [some (.ref 62), some (.int (imx 0 ((nI s.2.2.length) - (J 22 1)))), some (.int 2)]) rfl rfl rfl rfl ?_
        refine go_s (pc' := 4) rfl rfl rfl rfl ?_
        refine go_s (pc' := 5) rfl rfl rfl rfl ?_
        refine go_s (pc' := 6) (st' := [.int 2, .int 2]) rfl rfl rfl rfl ?_
        refine go_icmpP (t' := 35) (pc' := 7) rfl rfl rfl (fun _ => ?_) (fun (c : ¬ (2 ≤ (2 : Int32))) => absurd (by decide) c)
        refine go_s (pc' := 36) rfl rfl rfl rfl ?_
        refine go_ret rfl rfl ?_
        exact ⟨by rw [if_pos c1]; simp [mlck, mlk1, u4, u7], rfl⟩
    · skip
      show am_Go _ _ _ _ 16 _ [.int 1] _ _
      refine go_ifP (t' := 33) (pc' := 17) rfl rfl rfl (fun (c : (1 : Int32) = 0) => absurd c (by decide)) (fun _ => ?_)
      refine go_s (pc' := 18) rfl rfl rfl rfl ?_
      refine go_s (pc' := 19) rfl rfl rfl rfl ?_
      refine go_sget (pc' := 20) (v := .ref as_) hS rfl rfl rfl (by decide) rfl rfl ?_
      refine go_s (pc' := 21) rfl rfl rfl rfl ?_
      refine go_s (pc' := 22) (st' := [.int 0, .ref 62, .ref as_, .int 0]) rfl rfl rfl rfl ?_
      refine go_callV (pc' := 23) rfl rfl rfl (Nat.le_of_ble_eq_true rfl) rfl (sm_o hS rfl) rfl rfl rfl (rt_at_0 hr hS hp hn (by omega)) (fun r h10 q11 => ?_)
      obtain ⟨rfl, rfl⟩ := q11
      rw [show rwi J 0 = rho from hrho]
      refine go_s (pc' := 24) (st' := [.int 5, .int (nI (424 * rho)), .ref as_, .int 0]) rfl rfl rfl rfl ?_
      refine go_nadd (pc' := 25) (a := (424 * rho)) (b := 5) rfl rfl rfl rfl rfl ?_
      refine go_sald (pc' := 26) (q := ((424 * rho) + 5)) (v := .int (nI s.2.2.length)) hS rfl (tr_as hr (by omega)) rfl rfl (by omega) (congrArg Value.int hR.2.2.1) rfl ?_
      refine go_s (pc' := 27) rfl rfl rfl rfl ?_
      refine go_sget (pc' := 28) (v := .ref 88) hS rfl rfl rfl (by decide) rfl rfl ?_
      refine go_s (pc' := 29) rfl rfl rfl rfl ?_
      refine go_sald (pc' := 30) (q := 0) (v := .int (J 22 0)) hS rfl (tr_s hr (a := 88) rfl (by decide)) rfl rfl (by decide) rfl rfl ?_
      refine go_s (pc' := 31) rfl rfl rfl rfl ?_
      refine go_max (pc' := 32) rfl rfl rfl ?_
      refine go_s (pc' := 33) (lo' := [some (.ref 62), some (.int (imx 0 ((nI s.2.2.length) - (J 22 0)))), some (.int 0)]) rfl rfl rfl rfl ?_
      refine go_s (pc' := 34) (lo' := [some (.ref 62), some (.int (imx 0 ((nI s.2.2.length) - (J 22 0)))), some (.int 1)]) rfl rfl rfl rfl ?_
      refine go_s (pc' := 4) rfl rfl rfl rfl ?_
      refine go_s (pc' := 5) rfl rfl rfl rfl ?_
      refine go_s (pc' := 6) (st' := [.int 2, .int 1]) rfl rfl rfl rfl ?_
      refine go_icmpP (t' := 35) (pc' := 7) rfl rfl rfl (fun (c : 2 ≤ (1 : Int32)) => absurd c (by decide)) (fun _ => ?_)
      refine go_s (pc' := 8) rfl rfl rfl rfl ?_
      refine go_sget (pc' := 9) (v := .ref 83) hS rfl rfl rfl (by decide) rfl rfl ?_
      refine go_s (pc' := 10) (st' := [.int 0, .ref 83]) rfl rfl rfl rfl ?_
      refine go_sald (pc' := 11) (q := 0) (v := .int (J 16 0)) hS rfl (tr_s hr (a := 83) rfl (by decide)) rfl rfl (by decide) rfl rfl ?_
      refine go_s (pc' := 12) (st' := [.int 2, .int (J 16 0)]) rfl rfl rfl rfl ?_
      refine go_icmpP (t' := 33) (pc' := 13) rfl rfl rfl (fun (c : ¬ (J 16 0) = 2) => absurd c (by rw [c1] <;> decide)) (fun _ => ?_)
      refine go_s (pc' := 14) rfl rfl rfl rfl ?_
      refine go_s (pc' := 15) rfl rfl rfl rfl ?_
      refine go_callV (pc' := 16) rfl rfl rfl (Nat.le_of_ble_eq_true rfl) rfl (sm_o hS rfl) rfl rfl rfl (rt_us_1 hr hS (by omega)) (fun r h12 q13 => ?_)
      obtain ⟨rfl, rfl⟩ := q13
      cases u14 : us J 1
      · skip
        show am_Go _ _ _ _ 16 _ [.int 0] _ _
        refine go_ifP (t' := 33) (pc' := 17) rfl rfl rfl (fun _ => ?_) (fun (c : ¬ ((0 : Int32) = 0)) => absurd (by decide) c)
        refine go_s (pc' := 34) (lo' := [some (.ref 62), some (.int (imx 0 ((nI s.2.2.length) - (J 22 0)))), some (.int 2)]) rfl rfl rfl rfl ?_
        refine go_s (pc' := 4) rfl rfl rfl rfl ?_
        refine go_s (pc' := 5) rfl rfl rfl rfl ?_
        refine go_s (pc' := 6) (st' := [.int 2, .int 2]) rfl rfl rfl rfl ?_
        refine go_icmpP (t' := 35) (pc' := 7) rfl rfl rfl (fun _ => ?_) (fun (c : ¬ (2 ≤ (2 : Int32))) => absurd (by decide) c)
        refine go_s (pc' := 36) rfl rfl rfl rfl ?_
        refine go_ret rfl rfl ?_
        exact ⟨by rw [if_pos c1]; simp [mlck, mlk1, u4, u14], rfl⟩
      · skip
        show am_Go _ _ _ _ 16 _ [.int 1] _ _
        refine go_ifP (t' := 33) (pc' := 17) rfl rfl rfl (fun (c : (1 : Int32) = 0) => absurd c (by decide)) (fun _ => ?_)
        refine go_s (pc' := 18) rfl rfl rfl rfl ?_
        refine go_s (pc' := 19) rfl rfl rfl rfl ?_
        refine go_sget (pc' := 20) (v := .ref as_) hS rfl rfl rfl (by decide) rfl rfl ?_
        refine go_s (pc' := 21) rfl rfl rfl rfl ?_
        refine go_s (pc' := 22) (st' := [.int 0, .ref 62, .ref as_, .int (imx 0 ((nI s.2.2.length) - (J 22 0)))]) rfl rfl rfl rfl ?_
        refine go_callV (pc' := 23) rfl rfl rfl (Nat.le_of_ble_eq_true rfl) rfl (sm_o hS rfl) rfl rfl rfl (rt_at_0 hr hS hp hn (by omega)) (fun r h15 q16 => ?_)
        obtain ⟨rfl, rfl⟩ := q16
        rw [show rwi J 0 = rho from hrho]
        refine go_s (pc' := 24) (st' := [.int 5, .int (nI (424 * rho)), .ref as_, .int (imx 0 ((nI s.2.2.length) - (J 22 0)))]) rfl rfl rfl rfl ?_
        refine go_nadd (pc' := 25) (a := (424 * rho)) (b := 5) rfl rfl rfl rfl rfl ?_
        refine go_sald (pc' := 26) (q := ((424 * rho) + 5)) (v := .int (nI s.2.2.length)) hS rfl (tr_as hr (by omega)) rfl rfl (by omega) (congrArg Value.int hR.2.2.1) rfl ?_
        refine go_s (pc' := 27) rfl rfl rfl rfl ?_
        refine go_sget (pc' := 28) (v := .ref 88) hS rfl rfl rfl (by decide) rfl rfl ?_
        refine go_s (pc' := 29) rfl rfl rfl rfl ?_
        refine go_sald (pc' := 30) (q := 1) (v := .int (J 22 1)) hS rfl (tr_s hr (a := 88) rfl (by decide)) rfl rfl (by decide) rfl rfl ?_
        refine go_s (pc' := 31) rfl rfl rfl rfl ?_
        refine go_max (pc' := 32) rfl rfl rfl ?_
        refine go_s (pc' := 33) (lo' := [some (.ref 62), some (.int (imx (imx 0 ((nI s.2.2.length) - (J 22 0))) ((nI s.2.2.length) - (J 22 1)))), some (.int 1)]) rfl rfl rfl rfl ?_
        refine go_s (pc' := 34) (lo' := [some (.ref 62), some (.int (imx (imx 0 ((nI s.2.2.length) - (J 22 0))) ((nI s.2.2.length) - (J 22 1)))), some (.int 2)]) rfl rfl rfl rfl ?_
        refine go_s (pc' := 4) rfl rfl rfl rfl ?_
        refine go_s (pc' := 5) rfl rfl rfl rfl ?_
        refine go_s (pc' := 6) (st' := [.int 2, .int 2]) rfl rfl rfl rfl ?_
        refine go_icmpP (t' := 35) (pc' := 7) rfl rfl rfl (fun _ => ?_) (fun (c : ¬ (2 ≤ (2 : Int32))) => absurd (by decide) c)
        refine go_s (pc' := 36) rfl rfl rfl rfl ?_
        refine go_ret rfl rfl ?_
        exact ⟨by rw [if_pos c1]; simp [mlck, mlk1, u4, u14], rfl⟩
def clI (J : sm_I) (r n : Nat) : sm_I := fun c j => if c = 51 ∧ 424 * r ≤ j ∧ j < 424 * r + n then 0 else J c j
theorem clI_s {J : sm_I} {r n : Nat} : uI (clI J r n) 51 (424 * r + n) 0 = clI J r (n + 1) := by
  funext c j
  simp only [uI, clI]
  by_cases h1 : c = 51
  · subst h1
    by_cases h2 : j = 424 * r + n
    · subst h2; simp
    · by_cases h3 : 424 * r ≤ j ∧ j < 424 * r + n
      · rw [if_neg (by omega), if_pos ⟨rfl, h3⟩, if_pos ⟨rfl, by omega⟩]
      · rw [if_neg (by omega), if_neg (fun z => h3 z.2), if_neg (fun z => h3 (by omega))]
  · simp [h1]
theorem clI_0 {J : sm_I} {r : Nat} : clI J r 0 = J := by
  funext c j
  simp only [clI]
  rw [if_neg (by omega)]
theorem RS_cl {J : sm_I} {r : Nat} : RS (clI J r 424) r (fun _ => 0, [], []) := by
  have z : ∀ j, j < 424 → clI J r 424 51 (424 * r + j) = 0 := fun j hj => by
    simp only [clI]
    rw [if_pos ⟨trivial, by omega⟩]
  exact ⟨fun j h1 _ _ => z j (by omega), z 2 (by omega), z 5 (by omega), fun i e hi => by simp at hi, fun i x hi => by simp at hi⟩
theorem clI_r {J : sm_I} {r n : Nat} (hn : n ≤ 424) : rfr J (clI J r n) r := by
  intro c j h
  simp only [clI]
  rw [if_neg (fun z => h ⟨z.1, by omega⟩)]
theorem lp_cl {w : Nat → Bool} {d : Nat} {J : sm_I} {Y : sm_X} {am lm as_ ls : Nat} (hr : rk am as_) (hW : ∀ a, 62 ≤ a → a ≤ 88 → w a = true) (hWa : w as_ = true) {r9 : Nat} (hls : 424 * r9 + 424 ≤ ls) (hl31 : ls < 2 ^ 31) {h0 : am_Hp} : ∀ (k n : Nat) (h : am_Hp), n + k = 424 → sm (tbr am lm as_ ls) h (clI J r9 n) Y → sm_e (tbr am lm as_ ls) h0 h → am_Go (am_prog w) d am_c172 none 2 [some (.ref 62), some (.int (nI r9)), some (.int (nI n))] [] h (fun r h' => r = none ∧ sm (tbr am lm as_ ls) h' (clI J r9 424) Y ∧ sm_e (tbr am lm as_ ls) h0 h') := by
  intro k
  induction k with
  | zero =>
    intro n h hnk hS hE0
    obtain rfl : n = 424 := by omega
    refine go_s (pc' := 3) rfl rfl rfl rfl ?_
    refine go_s (pc' := 4) (st' := [.int 424, .int (nI 424)]) rfl rfl rfl rfl ?_
    refine go_icmpP (t' := 16) (pc' := 5) rfl rfl rfl (fun _ => ?_) (fun (c : ¬ (424 ≤ (nI 424))) => absurd (by decide) c)
    refine go_ret rfl rfl ?_
    exact ⟨rfl, hS, hE0⟩
  | succ k ih =>
    intro n h hnk hS hE0
    refine go_s (pc' := 3) rfl rfl rfl rfl ?_
    refine go_s (pc' := 4) (st' := [.int 424, .int (nI n)]) rfl rfl rfl rfl ?_
    refine go_icmpP (t' := 16) (pc' := 5) rfl rfl rfl (fun (c : 424 ≤ (nI n)) => absurd c (nI_ge (b := 424) (show n < 424 by omega) (by decide))) (fun _ => ?_)
    refine go_s (pc' := 6) rfl rfl rfl rfl ?_
    refine go_sget (pc' := 7) (v := .ref as_) hS rfl rfl rfl (by decide) rfl rfl ?_
    refine go_s (pc' := 8) (st' := [.int 424, .ref as_]) rfl rfl rfl rfl ?_
    refine go_s (pc' := 9) rfl rfl rfl rfl ?_
    refine go_nmul (pc' := 10) (a := 424) (b := r9) rfl rfl rfl rfl rfl ?_
    refine go_s (pc' := 11) rfl rfl rfl rfl ?_
    refine go_nadd (pc' := 12) (a := (424 * r9)) (b := n) rfl rfl rfl rfl rfl ?_
    refine go_s (pc' := 13) (st' := [.int 0, .int (nI ((424 * r9) + n)), .ref as_]) rfl rfl rfl rfl ?_
    refine go_siast (pc' := 14) (q := ((424 * r9) + n)) hS rfl (tr_as hr (by omega)) tbr_inj (Nat.le_of_ble_eq_true rfl) rfl (by omega) (rk_0 hr).2 hWa rfl (fun h1 hS2 hE3 => ?_)
    refine go_ninc (pc' := 15) (a := n) (n := 1) (lo' := [some (.ref 62), some (.int (nI r9)), some (.int (nI (n + 1)))]) rfl rfl rfl rfl rfl rfl ?_
    refine go_s (pc' := 2) rfl rfl rfl rfl ?_
    exact ih (n + 1) _ (by omega) (by rw [← clI_s]; exact hS2) (sm_e_trans hE0 hE3)
theorem rs_cl {w : Nat → Bool} {d : Nat} {h : am_Hp} {J : sm_I} {Y : sm_X} {am lm as_ ls : Nat} (hr : rk am as_) (hS : sm (tbr am lm as_ ls) h J Y) (hW : ∀ a, 62 ≤ a → a ≤ 88 → w a = true) (hWa : w as_ = true) {r9 : Nat} (hls : 424 * r9 + 424 ≤ ls) (hl31 : ls < 2 ^ 31) (hd : 1 ≤ d) : am_Ev (am_prog w) d 172 [.ref 62, .int (nI r9)] h (fun r h' => r = none ∧ sm (tbr am lm as_ ls) h' (clI J r9 424) Y ∧ sm_e (tbr am lm as_ ls) h h') := by
  obtain ⟨d, rfl⟩ : ∃ e, d = e + 1 := ⟨d - 1, by omega⟩
  refine ev_go rfl (Nat.le_of_ble_eq_true rfl) rfl ?_
  refine go_s (pc' := 1) (st' := [.int 0]) rfl rfl rfl rfl ?_
  refine go_s (pc' := 2) (lo' := [some (.ref 62), some (.int (nI r9)), some (.int 0)]) rfl rfl rfl rfl ?_
  exact lp_cl hr hW hWa hls hl31 424 0 h rfl (by rw [clI_0]; exact hS) (sm_e_refl _ _)
