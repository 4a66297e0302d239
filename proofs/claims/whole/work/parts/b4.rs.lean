def EK (L : List ms_E) : Prop := ∀ (i : Nat) (e : ms_E), L[i]? = some e → e.1 = 1 ∨ e.1 = 2 ∨ e.1 = 3
theorem EK_cl {e : ms_E} {t : Int32} (h : e.1 = 1 ∨ e.1 = 2 ∨ e.1 = 3) : eCl e t = (decide (¬ e.1 ≤ 1) && decide (e.2.1 = t)) := by
  unfold eCl
  rcases h with h | h | h <;> rw [h] <;> simp <;> by_cases z : e.2.1 = t <;> simp [z] <;> decide
theorem lp_bg {w : Nat → Bool} {d : Nat} {h : am_Hp} {J : sm_I} {Y : sm_X} {am lm as_ ls : Nat} (hr : rk am as_) (hS : sm (tbr am lm as_ ls) h J Y) {rho : Nat} {s : ms} (hp : prk J 0) (hn : ¬ J 11 0 = -1) (hrho : rwi J 0 = rho) (hls : 424 * rho + 424 ≤ ls) (hl31 : ls < 2 ^ 31) (hR : RS J rho s) {t : Int32} (hl : s.2.1.length ≤ 32) (hK : EK s.2.1) : ∀ (k n : Nat), n + k = s.2.1.length → am_Go (am_prog w) d am_c153 (some .int) 8 [some (.ref 62), some (.int t), some (.int (nI (424 * rho))), some (.int (nI (opn s.2.1 t n))), some (.int (nI n))] [] h (fun r h' => r = some (.int (nI (mof s t))) ∧ h' = h) := by
  intro k
  induction k with
  | zero =>
    intro n hk
    obtain rfl : n = s.2.1.length := by omega
    refine go_s (pc' := 9) rfl rfl rfl rfl ?_
    refine go_s (pc' := 10) rfl rfl rfl rfl ?_
    refine go_sget (pc' := 11) (v := .ref as_) hS rfl rfl rfl (by decide) rfl rfl ?_
    refine go_s (pc' := 12) rfl rfl rfl rfl ?_
    refine go_s (pc' := 13) (st' := [.int 2, .int (nI (424 * rho)), .ref as_, .int (nI (List.length s.2.1))]) rfl rfl rfl rfl ?_
    refine go_nadd (pc' := 14) (a := (424 * rho)) (b := 2) rfl rfl rfl rfl rfl ?_
    refine go_sald (pc' := 15) (q := ((424 * rho) + 2)) (v := .int (nI (List.length s.2.1))) hS rfl (tr_as hr (by omega)) rfl rfl (by omega) (congrArg Value.int hR.2.1) rfl ?_
    refine go_icmpP (t' := 48) (pc' := 16) rfl rfl rfl (fun _ => ?_) (fun (c : ¬ ((nI (List.length s.2.1)) ≤ (nI (List.length s.2.1)))) => absurd (Int32.le_refl _) c)
    refine go_s (pc' := 49) rfl rfl rfl rfl ?_
    refine go_ret rfl rfl ?_
    exact ⟨rfl, rfl⟩
  | succ k ih =>
    intro n hk
    obtain ⟨e, he⟩ : ∃ e, s.2.1[n]? = some e := ⟨_, List.getElem?_eq_getElem (by omega)⟩
    have hcl := EK_cl (t := t) (hK n e he)
    refine go_s (pc' := 9) rfl rfl rfl rfl ?_
    refine go_s (pc' := 10) rfl rfl rfl rfl ?_
    refine go_sget (pc' := 11) (v := .ref as_) hS rfl rfl rfl (by decide) rfl rfl ?_
    refine go_s (pc' := 12) rfl rfl rfl rfl ?_
    refine go_s (pc' := 13) (st' := [.int 2, .int (nI (424 * rho)), .ref as_, .int (nI n)]) rfl rfl rfl rfl ?_
    refine go_nadd (pc' := 14) (a := (424 * rho)) (b := 2) rfl rfl rfl rfl rfl ?_
    refine go_sald (pc' := 15) (q := ((424 * rho) + 2)) (v := .int (nI (List.length s.2.1))) hS rfl (tr_as hr (by omega)) rfl rfl (by omega) (congrArg Value.int hR.2.1) rfl ?_
    refine go_icmpP (t' := 48) (pc' := 16) rfl rfl rfl (fun (c : (nI (List.length s.2.1)) ≤ (nI n)) => absurd c (nI_ge (show n < s.2.1.length by omega) (by omega))) (fun _ => ?_)
    refine go_s (pc' := 17) rfl rfl rfl rfl ?_
    refine go_sget (pc' := 18) (v := .ref as_) hS rfl rfl rfl (by decide) rfl rfl ?_
    refine go_s (pc' := 19) rfl rfl rfl rfl ?_
    refine go_s (pc' := 20) (st' := [.int 48, .int (nI (424 * rho)), .ref as_]) rfl rfl rfl rfl ?_
    refine go_nadd (pc' := 21) (a := (424 * rho)) (b := 48) rfl rfl rfl rfl rfl ?_
    refine go_s (pc' := 22) (st' := [.int 4, .int (nI ((424 * rho) + 48)), .ref as_]) rfl rfl rfl rfl ?_
    refine go_s (pc' := 23) rfl rfl rfl rfl ?_
    refine go_nmul (pc' := 24) (a := 4) (b := n) rfl rfl rfl rfl rfl ?_
    refine go_nadd (pc' := 25) (a := ((424 * rho) + 48)) (b := (4 * n)) rfl rfl rfl rfl rfl ?_
    refine go_sald (pc' := 26) (q := (((424 * rho) + 48) + (4 * n))) (v := .int (en e 0)) hS rfl (tr_as hr (by omega)) rfl rfl (by omega) (congrArg Value.int (hR.2.2.2.1 n e he 0 (by decide))) rfl ?_
    refine go_s (pc' := 27) (st' := [.int 1, .int (en e 0)]) rfl rfl rfl rfl ?_
    refine go_icmpP (t' := 46) (pc' := 28) rfl rfl rfl (fun (c1 : (en e 0) ≤ 1) => ?_) (fun (c1 : ¬ (en e 0) ≤ 1) => ?_)
    · skip
      refine go_ninc (pc' := 47) (a := n) (n := 1) (lo' := [some (.ref 62), some (.int t), some (.int (nI (424 * rho))), some (.int (nI (opn s.2.1 t n))), some (.int (nI (n + 1)))]) rfl rfl rfl rfl rfl rfl ?_
      refine go_s (pc' := 8) rfl rfl rfl rfl ?_
      have ho : opn s.2.1 t (n + 1) = opn s.2.1 t n := by
        simp only [opn, he, hcl]
        rw [if_neg (by simp [show e.1 ≤ 1 from c1])]
      have := ih (n + 1) (by omega)
      rw [ho] at this
      exact this
    · skip
      refine go_s (pc' := 29) rfl rfl rfl rfl ?_
      refine go_sget (pc' := 30) (v := .ref as_) hS rfl rfl rfl (by decide) rfl rfl ?_
      refine go_s (pc' := 31) rfl rfl rfl rfl ?_
      refine go_s (pc' := 32) (st' := [.int 48, .int (nI (424 * rho)), .ref as_]) rfl rfl rfl rfl ?_
      refine go_nadd (pc' := 33) (a := (424 * rho)) (b := 48) rfl rfl rfl rfl rfl ?_
      refine go_s (pc' := 34) (st' := [.int 4, .int (nI ((424 * rho) + 48)), .ref as_]) rfl rfl rfl rfl ?_
      refine go_s (pc' := 35) rfl rfl rfl rfl ?_
      refine go_nmul (pc' := 36) (a := 4) (b := n) rfl rfl rfl rfl rfl ?_
      refine go_nadd (pc' := 37) (a := ((424 * rho) + 48)) (b := (4 * n)) rfl rfl rfl rfl rfl ?_
      refine go_s (pc' := 38) (st' := [.int 1, .int (nI (((424 * rho) + 48) + (4 * n))), .ref as_]) rfl rfl rfl rfl ?_
      refine go_nadd (pc' := 39) (a := (((424 * rho) + 48) + (4 * n))) (b := 1) rfl rfl rfl rfl rfl ?_
      refine go_sald (pc' := 40) (q := ((((424 * rho) + 48) + (4 * n)) + 1)) (v := .int (en e 1)) hS rfl (tr_as hr (by omega)) rfl rfl (by omega) (congrArg Value.int (hR.2.2.2.1 n e he 1 (by decide))) rfl ?_
      refine go_s (pc' := 41) rfl rfl rfl rfl ?_
      refine go_icmpP (t' := 46) (pc' := 42) rfl rfl rfl (fun (c2 : ¬ (en e 1) = t) => ?_) (fun (c2' : ¬ ¬ (en e 1) = t) => ?_)
      · skip
        refine go_ninc (pc' := 47) (a := n) (n := 1) (lo' := [some (.ref 62), some (.int t), some (.int (nI (424 * rho))), some (.int (nI (opn s.2.1 t n))), some (.int (nI (n + 1)))]) rfl rfl rfl rfl rfl rfl ?_
        refine go_s (pc' := 8) rfl rfl rfl rfl ?_
        have ho : opn s.2.1 t (n + 1) = opn s.2.1 t n := by
          simp only [opn, he, hcl]
          rw [if_neg (by simp [show ¬ e.2.1 = t from c2])]
        have := ih (n + 1) (by omega)
        rw [ho] at this
        exact this
      · skip
        have c2 : (en e 1) = t := Decidable.not_not.mp c2'
        refine go_s (pc' := 43) rfl rfl rfl rfl ?_
        refine go_s (pc' := 44) (st' := [.int 1, .int (nI n)]) rfl rfl rfl rfl ?_
        refine go_nadd (pc' := 45) (a := n) (b := 1) rfl rfl rfl rfl rfl ?_
        refine go_s (pc' := 46) (lo' := [some (.ref 62), some (.int t), some (.int (nI (424 * rho))), some (.int (nI (n + 1))), some (.int (nI n))]) rfl rfl rfl rfl ?_
        refine go_ninc (pc' := 47) (a := n) (n := 1) (lo' := [some (.ref 62), some (.int t), some (.int (nI (424 * rho))), some (.int (nI (n + 1))), some (.int (nI (n + 1)))]) rfl rfl rfl rfl rfl rfl ?_
        refine go_s (pc' := 8) rfl rfl rfl rfl ?_
        have ho : opn s.2.1 t (n + 1) = n + 1 := by
          simp only [opn, he, hcl]
          rw [if_pos (by simp [show ¬ e.1 ≤ 1 from c1, show e.2.1 = t from c2])]
        have := ih (n + 1) (by omega)
        rw [ho] at this
        exact this
theorem rs_bg {w : Nat → Bool} {d : Nat} {h : am_Hp} {J : sm_I} {Y : sm_X} {am lm as_ ls : Nat} (hr : rk am as_) (hS : sm (tbr am lm as_ ls) h J Y) {rho : Nat} {s : ms} (hp : prk J 0) (hn : ¬ J 11 0 = -1) (hrho : rwi J 0 = rho) (hls : 424 * rho + 424 ≤ ls) (hl31 : ls < 2 ^ 31) (hR : RS J rho s) {t : Int32} (hl : s.2.1.length ≤ 32) (hK : EK s.2.1) (hd : 2 ≤ d) : am_Ev (am_prog w) d 153 [.ref 62, .int t] h (fun r h' => r = some (.int (nI (mof s t))) ∧ h' = h) := by
  obtain ⟨d, rfl⟩ : ∃ e, d = e + 1 := ⟨d - 1, by omega⟩
  refine ev_go rfl (Nat.le_of_ble_eq_true rfl) rfl ?_
  refine go_s (pc' := 1) rfl rfl rfl rfl ?_
  refine go_s (pc' := 2) (st' := [.int 0, .ref 62]) rfl rfl rfl rfl ?_
  refine go_callV (pc' := 3) rfl rfl rfl (Nat.le_of_ble_eq_true rfl) rfl (sm_o hS rfl) rfl rfl rfl (rt_at_0 hr hS hp hn (by omega)) (fun r h1 q2 => ?_)
  obtain ⟨rfl, rfl⟩ := q2
  rw [show rwi J 0 = rho from hrho]
  refine go_s (pc' := 4) (lo' := [some (.ref 62), some (.int t), some (.int (nI (424 * rho))), none, none]) rfl rfl rfl rfl ?_
  refine go_s (pc' := 5) (st' := [.int 0]) rfl rfl rfl rfl ?_
  refine go_s (pc' := 6) (lo' := [some (.ref 62), some (.int t), some (.int (nI (424 * rho))), some (.int 0), none]) rfl rfl rfl rfl ?_
  refine go_s (pc' := 7) (st' := [.int 0]) rfl rfl rfl rfl ?_
  refine go_s (pc' := 8) (lo' := [some (.ref 62), some (.int t), some (.int (nI (424 * rho))), some (.int 0), some (.int 0)]) rfl rfl rfl rfl ?_
  exact lp_bg hr hS hp hn hrho hls hl31 hR hl hK s.2.1.length 0 (by omega)
theorem lp_ho {w : Nat → Bool} {d : Nat} {J : sm_I} {Y : sm_X} {am lm as_ ls : Nat} (hr : rk am as_) {rho : Nat} {s : ms} (hp : prk J 0) (hn : ¬ J 11 0 = -1) (hrho : rwi J 0 = rho) (hls : 424 * rho + 424 ≤ ls) (hl31 : ls < 2 ^ 31) {t : Int32} (hl : s.2.1.length ≤ 32) (hd : 2 ≤ d) : ∀ (k n : Nat) (b : Bool) (h : am_Hp), n + k = s.2.1.length → sm (tbr am lm as_ ls) h J Y → RS J rho s → am_Go (am_prog w) d am_c174 (some .boolean) 6 [some (.ref 62), some (.int t), some (.int (b2i b)), some (.int (nI n))] [] h (fun r h' => r = some (.int (b2i (b || awf s.2.1 t n k))) ∧ h' = h) := by
  intro k
  induction k with
  | zero =>
    intro n b h hk hS hR
    obtain rfl : n = s.2.1.length := by omega
    refine go_s (pc' := 7) rfl rfl rfl rfl ?_
    refine go_s (pc' := 8) rfl rfl rfl rfl ?_
    refine go_sget (pc' := 9) (v := .ref as_) hS rfl rfl rfl (by decide) rfl rfl ?_
    refine go_s (pc' := 10) rfl rfl rfl rfl ?_
    refine go_s (pc' := 11) (st' := [.int 0, .ref 62, .ref as_, .int (nI (List.length s.2.1))]) rfl rfl rfl rfl ?_
    refine go_callV (pc' := 12) rfl rfl rfl (Nat.le_of_ble_eq_true rfl) rfl (sm_o hS rfl) rfl rfl rfl (rt_at_0 hr hS hp hn (by omega)) (fun r h1 q2 => ?_)
    obtain ⟨rfl, rfl⟩ := q2
    rw [show rwi J 0 = rho from hrho]
    refine go_s (pc' := 13) (st' := [.int 2, .int (nI (424 * rho)), .ref as_, .int (nI (List.length s.2.1))]) rfl rfl rfl rfl ?_
    refine go_nadd (pc' := 14) (a := (424 * rho)) (b := 2) rfl rfl rfl rfl rfl ?_
    refine go_sald (pc' := 15) (q := ((424 * rho) + 2)) (v := .int (nI (List.length s.2.1))) hS rfl (tr_as hr (by omega)) rfl rfl (by omega) (congrArg Value.int hR.2.1) rfl ?_
    refine go_icmpP (t' := 30) (pc' := 16) rfl rfl rfl (fun _ => ?_) (fun (c : ¬ ((nI (List.length s.2.1)) ≤ (nI (List.length s.2.1)))) => absurd (Int32.le_refl _) c)
    refine go_s (pc' := 31) rfl rfl rfl rfl ?_
    refine go_ret rfl (if_pos (by cases b <;> decide)) ?_
    exact ⟨by simp [awf], rfl⟩
  | succ k ih =>
    intro n b h hk hS hR
    obtain ⟨e, he⟩ : ∃ e, s.2.1[n]? = some e := ⟨_, List.getElem?_eq_getElem (by omega)⟩
    cases b
    · skip
      refine go_s (pc' := 7) rfl rfl rfl rfl ?_
      refine go_s (pc' := 8) rfl rfl rfl rfl ?_
      refine go_sget (pc' := 9) (v := .ref as_) hS rfl rfl rfl (by decide) rfl rfl ?_
      refine go_s (pc' := 10) rfl rfl rfl rfl ?_
      refine go_s (pc' := 11) (st' := [.int 0, .ref 62, .ref as_, .int (nI n)]) rfl rfl rfl rfl ?_
      refine go_callV (pc' := 12) rfl rfl rfl (Nat.le_of_ble_eq_true rfl) rfl (sm_o hS rfl) rfl rfl rfl (rt_at_0 hr hS hp hn (by omega)) (fun r h3 q4 => ?_)
      obtain ⟨rfl, rfl⟩ := q4
      rw [show rwi J 0 = rho from hrho]
      refine go_s (pc' := 13) (st' := [.int 2, .int (nI (424 * rho)), .ref as_, .int (nI n)]) rfl rfl rfl rfl ?_
      refine go_nadd (pc' := 14) (a := (424 * rho)) (b := 2) rfl rfl rfl rfl rfl ?_
      refine go_sald (pc' := 15) (q := ((424 * rho) + 2)) (v := .int (nI (List.length s.2.1))) hS rfl (tr_as hr (by omega)) rfl rfl (by omega) (congrArg Value.int hR.2.1) rfl ?_
      refine go_icmpP (t' := 30) (pc' := 16) rfl rfl rfl (fun (c : (nI (List.length s.2.1)) ≤ (nI n)) => absurd c (nI_ge (show n < s.2.1.length by omega) (by omega))) (fun _ => ?_)
      refine go_s (pc' := 17) rfl rfl rfl rfl ?_
      refine go_ifP (t' := 24) (pc' := 18) rfl rfl rfl (fun (c : ¬ (0 : Int32) = 0) => absurd c (by decide)) (fun _ => ?_)
      refine go_s (pc' := 19) rfl rfl rfl rfl ?_
      refine go_s (pc' := 20) rfl rfl rfl rfl ?_
      refine go_s (pc' := 21) rfl rfl rfl rfl ?_
      refine go_s (pc' := 22) (st' := [.int 0, .int t, .int (nI n), .ref 62]) rfl rfl rfl rfl ?_
      refine go_callV (pc' := 23) rfl rfl rfl (Nat.le_of_ble_eq_true rfl) rfl (sm_o hS rfl) rfl rfl rfl (rs_oe hr hS hp hn hrho hls hl31 hR (f := 0) he (by omega) (by omega) (by omega)) (fun r h5 q6 => ?_)
      obtain ⟨rfl, rfl⟩ := q6
      cases u7 : (decide (0 ≤ n) && eWr e t)
      · skip
        show am_Go _ _ _ _ 23 _ [.int 0] _ _
        refine go_ifP (t' := 26) (pc' := 24) rfl rfl rfl (fun _ => ?_) (fun (c : ¬ ((0 : Int32) = 0)) => absurd (by decide) c)
        refine go_s (pc' := 27) (st' := [.int 0]) rfl rfl rfl rfl ?_
        refine go_s (pc' := 28) (lo' := [some (.ref 62), some (.int t), some (.int 0), some (.int (nI n))]) rfl rfl rfl rfl ?_
        refine go_ninc (pc' := 29) (a := n) (n := 1) (lo' := [some (.ref 62), some (.int t), some (.int 0), some (.int (nI (n + 1)))]) rfl rfl rfl rfl rfl rfl ?_
        refine go_s (pc' := 6) rfl rfl rfl rfl ?_
        have ha : awf s.2.1 t n (k + 1) = (eWr e t || awf s.2.1 t (n + 1) k) := by simp only [awf, he]
        have := ih (n + 1) false _ (by omega) hS hR
        have hu : eWr e t = false := by simpa using u7
        rw [ha, hu]
        simp only [Bool.false_or] at this ⊢
        exact this
      · skip
        show am_Go _ _ _ _ 23 _ [.int 1] _ _
        refine go_ifP (t' := 26) (pc' := 24) rfl rfl rfl (fun (c : (1 : Int32) = 0) => absurd c (by decide)) (fun _ => ?_)
        refine go_s (pc' := 25) (st' := [.int 1]) rfl rfl rfl rfl ?_
        refine go_s (pc' := 27) rfl rfl rfl rfl ?_
        refine go_s (pc' := 28) (lo' := [some (.ref 62), some (.int t), some (.int 1), some (.int (nI n))]) rfl rfl rfl rfl ?_
        refine go_ninc (pc' := 29) (a := n) (n := 1) (lo' := [some (.ref 62), some (.int t), some (.int 1), some (.int (nI (n + 1)))]) rfl rfl rfl rfl rfl rfl ?_
        refine go_s (pc' := 6) rfl rfl rfl rfl ?_
        have ha : awf s.2.1 t n (k + 1) = (eWr e t || awf s.2.1 t (n + 1) k) := by simp only [awf, he]
        have := ih (n + 1) true _ (by omega) hS hR
        have hu : eWr e t = true := by simpa using u7
        rw [ha, hu]
        simp only [Bool.false_or, Bool.true_or] at this ⊢
        exact this
    · skip
      refine go_s (pc' := 7) rfl rfl rfl rfl ?_
      refine go_s (pc' := 8) rfl rfl rfl rfl ?_
      refine go_sget (pc' := 9) (v := .ref as_) hS rfl rfl rfl (by decide) rfl rfl ?_
      refine go_s (pc' := 10) rfl rfl rfl rfl ?_
      refine go_s (pc' := 11) (st' := [.int 0, .ref 62, .ref as_, .int (nI n)]) rfl rfl rfl rfl ?_
      refine go_callV (pc' := 12) rfl rfl rfl (Nat.le_of_ble_eq_true rfl) rfl (sm_o hS rfl) rfl rfl rfl (rt_at_0 hr hS hp hn (by omega)) (fun r h8 q9 => ?_)
      obtain ⟨rfl, rfl⟩ := q9
      rw [show rwi J 0 = rho from hrho]
      refine go_s (pc' := 13) (st' := [.int 2, .int (nI (424 * rho)), .ref as_, .int (nI n)]) rfl rfl rfl rfl ?_
      refine go_nadd (pc' := 14) (a := (424 * rho)) (b := 2) rfl rfl rfl rfl rfl ?_
      refine go_sald (pc' := 15) (q := ((424 * rho) + 2)) (v := .int (nI (List.length s.2.1))) hS rfl (tr_as hr (by omega)) rfl rfl (by omega) (congrArg Value.int hR.2.1) rfl ?_
      refine go_icmpP (t' := 30) (pc' := 16) rfl rfl rfl (fun (c : (nI (List.length s.2.1)) ≤ (nI n)) => absurd c (nI_ge (show n < s.2.1.length by omega) (by omega))) (fun _ => ?_)
      refine go_s (pc' := 17) rfl rfl rfl rfl ?_
      refine go_ifP (t' := 24) (pc' := 18) rfl rfl rfl (fun _ => ?_) (fun (c : ¬ (¬ (1 : Int32) = 0)) => absurd (by decide) c)
      refine go_s (pc' := 25) (st' := [.int 1]) rfl rfl rfl rfl ?_
      refine go_s (pc' := 27) rfl rfl rfl rfl ?_
      refine go_s (pc' := 28) (lo' := [some (.ref 62), some (.int t), some (.int 1), some (.int (nI n))]) rfl rfl rfl rfl ?_
      refine go_ninc (pc' := 29) (a := n) (n := 1) (lo' := [some (.ref 62), some (.int t), some (.int 1), some (.int (nI (n + 1)))]) rfl rfl rfl rfl rfl rfl ?_
      refine go_s (pc' := 6) rfl rfl rfl rfl ?_
      have ha : awf s.2.1 t n (k + 1) = (eWr e t || awf s.2.1 t (n + 1) k) := by simp only [awf, he]
      have := ih (n + 1) true _ (by omega) hS hR
      rw [show (true || awf s.2.1 t n (k + 1)) = (true || awf s.2.1 t (n + 1) k) by simp]
      exact this
theorem rs_ho {w : Nat → Bool} {d : Nat} {h : am_Hp} {J : sm_I} {Y : sm_X} {am lm as_ ls : Nat} (hr : rk am as_) (hS : sm (tbr am lm as_ ls) h J Y) {rho : Nat} {s : ms} (hp : prk J 0) (hn : ¬ J 11 0 = -1) (hrho : rwi J 0 = rho) (hls : 424 * rho + 424 ≤ ls) (hl31 : ls < 2 ^ 31) (hR : RS J rho s) {t : Int32} (hl : s.2.1.length ≤ 32) (hK : EK s.2.1) (hd : 3 ≤ d) : am_Ev (am_prog w) d 174 [.ref 62, .int t] h (fun r h' => r = some (.int (b2i (hop s t))) ∧ h' = h) := by
  obtain ⟨d, rfl⟩ : ∃ e, d = e + 1 := ⟨d - 1, by omega⟩
  refine ev_go rfl (Nat.le_of_ble_eq_true rfl) rfl ?_
  refine go_s (pc' := 1) (st' := [.int 0]) rfl rfl rfl rfl ?_
  refine go_s (pc' := 2) (lo' := [some (.ref 62), some (.int t), some (.int 0), none]) rfl rfl rfl rfl ?_
  refine go_s (pc' := 3) rfl rfl rfl rfl ?_
  refine go_s (pc' := 4) rfl rfl rfl rfl ?_
  refine go_callV (pc' := 5) rfl rfl rfl (Nat.le_of_ble_eq_true rfl) rfl (sm_o hS rfl) rfl rfl rfl (rs_bg hr hS hp hn hrho hls hl31 hR (by omega) hK (by omega)) (fun r h1 q2 => ?_)
  obtain ⟨rfl, rfl⟩ := q2
  refine go_s (pc' := 6) (lo' := [some (.ref 62), some (.int t), some (.int 0), some (.int (nI (mof s t)))]) rfl rfl rfl rfl ?_
  have hml : mof s t ≤ s.2.1.length := opn_le _ _ _ (Nat.le_refl _)
  have z := lp_ho (w := w) hr hp hn hrho hls hl31 (t := t) hl (by omega : 2 ≤ d) (s.2.1.length - mof s t) (mof s t) false _ (by omega) hS hR
  simp only [Bool.false_or] at z
  exact z
