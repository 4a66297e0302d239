theorem lp_open {w : Nat → Bool} {d : Nat} {h : am_Hp} {S : sm_I} {Y : sm_X} {ad : Nat → Nat} (hA : adk ad) (hS : sm (tbs ad) h S Y) {m : ms} (hm : sc S m) (t : Int32) : ∀ n, n ≤ m.2.1.length → m.2.1.length ≤ 32 → 1 ≤ d → am_Go (am_prog w) d am_c62 (some .int) 5 [some (.ref (ad 0)), some (.int t), some (.int (nI n - 1))] [] h (fun r h' => r = some (.int (nI (opn m.2.1 t n))) ∧ h' = h) := by
  intro n
  induction n with
  | zero =>
    intro _ _ _
    show am_Go _ _ _ _ 5 [some (.ref (ad 0)), some (.int t), some (.int (-1))] _ _ _
    refine go_s (pc' := 6) rfl rfl rfl rfl ?_
    refine go_ifP (t' := 25) (pc' := 7) rfl rfl rfl (fun _ => ?_) (fun (c : ¬ (((-1) : Int32) < 0)) => absurd (by decide) c)
    refine go_s (pc' := 26) (st' := [.int 0]) rfl rfl rfl rfl ?_
    refine go_ret rfl rfl ?_
    exact ⟨rfl, rfl⟩
  | succ n ih =>
    intro hn h32 hd
    obtain ⟨e, he⟩ := l_some (show n < m.2.1.length by omega)
    obtain ⟨e1, e2, e3, e4⟩ := sc_el hm he
    rw [nI_pred]
    refine go_s (pc' := 6) rfl rfl rfl rfl ?_
    refine go_ifP (t' := 25) (pc' := 7) rfl rfl rfl (fun (c : (nI n) < 0) => absurd c (nI_pos (by omega : n < 2 ^ 31))) (fun _ => ?_)
    refine go_s (pc' := 8) rfl rfl rfl rfl ?_
    refine go_s (pc' := 9) rfl rfl rfl rfl ?_
    refine go_s (pc' := 10) (st' := [.int 2, .int (nI n), .ref (ad 0)]) rfl rfl rfl rfl ?_
    refine go_s (pc' := 11) rfl rfl rfl rfl ?_
    refine go_callV (pc' := 12) rfl rfl rfl (Nat.le_of_ble_eq_true rfl) rfl (sm_o hS (tbs_at hA (i := 0) (by decide))) rfl rfl rfl (cs_isE hA hS (by omega) 2 t (by omega)) (fun r h1 q2 => ?_)
    obtain ⟨rfl, rfl⟩ := q2
    cases u3 : (decide (S 8 (n * 5 + 1) = 2 ∧ S 8 (n * 5 + 2) = t))
    · skip
      show am_Go _ _ _ _ 12 _ [.int 0] _ _
      refine go_ifP (t' := 19) (pc' := 13) rfl rfl rfl (fun (c : ¬ (0 : Int32) = 0) => absurd c (by decide)) (fun _ => ?_)
      refine go_s (pc' := 14) rfl rfl rfl rfl ?_
      refine go_s (pc' := 15) rfl rfl rfl rfl ?_
      refine go_s (pc' := 16) (st' := [.int 3, .int (nI n), .ref (ad 0)]) rfl rfl rfl rfl ?_
      refine go_s (pc' := 17) rfl rfl rfl rfl ?_
      refine go_callV (pc' := 18) rfl rfl rfl (Nat.le_of_ble_eq_true rfl) rfl (sm_o hS (tbs_at hA (i := 0) (by decide))) rfl rfl rfl (cs_isE hA hS (by omega) 3 t (by omega)) (fun r h4 q5 => ?_)
      obtain ⟨rfl, rfl⟩ := q5
      cases u6 : (decide (S 8 (n * 5 + 1) = 3 ∧ S 8 (n * 5 + 2) = t))
      · skip
        show am_Go _ _ _ _ 18 _ [.int 0] _ _
        refine go_ifP (t' := 23) (pc' := 19) rfl rfl rfl (fun _ => ?_) (fun (c : ¬ ((0 : Int32) = 0)) => absurd (by decide) c)
        refine go_ndec (pc' := 24) (lo' := [some (.ref (ad 0)), some (.int t), some (.int (nI n - 1))]) rfl rfl rfl rfl ?_
        refine go_s (pc' := 5) rfl rfl rfl rfl ?_
        have hh : opn m.2.1 t (n + 1) = opn m.2.1 t n := by
          simp only [opn, he]
          rw [if_neg]
          simp only [eCl, ← e1, ← e2, u3, u6]
          decide
        rw [hh]
        exact ih (by omega) h32 hd
      · skip
        show am_Go _ _ _ _ 18 _ [.int 1] _ _
        refine go_ifP (t' := 23) (pc' := 19) rfl rfl rfl (fun (c : (1 : Int32) = 0) => absurd c (by decide)) (fun _ => ?_)
        refine go_s (pc' := 20) rfl rfl rfl rfl ?_
        refine go_s (pc' := 21) (st' := [.int 1, .int (nI n)]) rfl rfl rfl rfl ?_
        refine go_nadd (pc' := 22) (a := n) (b := 1) rfl rfl rfl rfl rfl ?_
        refine go_ret rfl rfl ?_
        exact ⟨by simp only [opn, he]; rw [if_pos (by simp [eCl, ← e1, ← e2]; simp at u6; simp [u6])], rfl⟩
    · skip
      show am_Go _ _ _ _ 12 _ [.int 1] _ _
      refine go_ifP (t' := 19) (pc' := 13) rfl rfl rfl (fun _ => ?_) (fun (c : ¬ (¬ (1 : Int32) = 0)) => absurd (by decide) c)
      refine go_s (pc' := 20) rfl rfl rfl rfl ?_
      refine go_s (pc' := 21) (st' := [.int 1, .int (nI n)]) rfl rfl rfl rfl ?_
      refine go_nadd (pc' := 22) (a := n) (b := 1) rfl rfl rfl rfl rfl ?_
      refine go_ret rfl rfl ?_
      exact ⟨by simp only [opn, he]; rw [if_pos (by simp [eCl, ← e1, ← e2]; simp at u3; simp [u3])], rfl⟩
theorem cs_open {w : Nat → Bool} {d : Nat} {h : am_Hp} {S : sm_I} {Y : sm_X} {ad : Nat → Nat} (hA : adk ad) (hS : sm (tbs ad) h S Y) {m : ms} (hm : sc S m) (t : Int32) (h32 : m.2.1.length ≤ 32) (hd : 2 ≤ d) : am_Ev (am_prog w) d 62 [.ref (ad 0), .int t] h (fun r h' => r = some (.int (nI (mof m t))) ∧ h' = h) := by
  obtain ⟨d, rfl⟩ : ∃ e, d = e + 1 := ⟨d - 1, by omega⟩
  refine ev_go rfl (Nat.le_of_ble_eq_true rfl) rfl ?_
  refine go_s (pc' := 1) rfl rfl rfl rfl ?_
  refine go_sget (pc' := 2) (v := .int (nI m.2.1.length)) hS rfl rfl (tbs_s hA (i := 0) (by decide) rfl) (by decide) (congrArg Value.int hm.2.2.1) rfl ?_
  refine go_s (pc' := 3) (st' := [.int 1, .int (nI m.2.1.length)]) rfl rfl rfl rfl ?_
  refine go_s (pc' := 4) rfl rfl rfl rfl ?_
  refine go_s (pc' := 5) (lo' := [some (.ref (ad 0)), some (.int t), some (.int (nI m.2.1.length - 1))]) rfl rfl rfl rfl ?_
  exact lp_open hA hS hm t _ (Nat.le_refl _) h32 (by omega)
theorem opn_le (L : List ms_E) (t : Int32) : ∀ n, n ≤ L.length → opn L t n ≤ n := by
  intro n
  induction n with
  | zero => intro _; exact Nat.le_refl _
  | succ n ih =>
    intro hn
    unfold opn
    split
    · split
      · exact Nat.le_refl _
      · exact Nat.le_succ_of_le (ih (by omega))
    · omega
theorem mof_le (m : ms) (t : Int32) : mof m t ≤ m.2.1.length := opn_le _ _ _ (Nat.le_refl _)
theorem lp_hop {w : Nat → Bool} {d : Nat} {h : am_Hp} {S : sm_I} {Y : sm_X} {ad : Nat → Nat} (hA : adk ad) (hS : sm (tbs ad) h S Y) {m : ms} (hm : sc S m) (t : Int32) : ∀ k i, i + k = m.2.1.length → m.2.1.length ≤ 32 → 1 ≤ d → am_Go (am_prog w) d am_c76 (some .boolean) 4 [some (.ref (ad 0)), some (.int t), some (.int (nI i))] [] h (fun r h' => r = some (.int (b2i (awf m.2.1 t i k))) ∧ h' = h) := by
  intro k
  induction k with
  | zero =>
    intro i hi h32 hd
    refine go_s (pc' := 5) rfl rfl rfl rfl ?_
    refine go_s (pc' := 6) rfl rfl rfl rfl ?_
    refine go_sget (pc' := 7) (v := .int (nI m.2.1.length)) hS rfl rfl (tbs_s hA (i := 0) (by decide) rfl) (by decide) (congrArg Value.int hm.2.2.1) rfl ?_
    refine go_icmpP (t' := 18) (pc' := 8) rfl rfl rfl (fun _ => ?_) (fun (c : ¬ ((nI m.2.1.length) ≤ (nI i))) => absurd (nI_le (by omega) (by omega)) c)
    refine go_s (pc' := 19) (st' := [.int 0]) rfl rfl rfl rfl ?_
    refine go_ret rfl rfl ?_
    exact ⟨rfl, rfl⟩
  | succ k ih =>
    intro i hi h32 hd
    obtain ⟨e, he⟩ := l_some (show i < m.2.1.length by omega)
    obtain ⟨e1, e2, e3, e4⟩ := sc_el hm he
    refine go_s (pc' := 5) rfl rfl rfl rfl ?_
    refine go_s (pc' := 6) rfl rfl rfl rfl ?_
    refine go_sget (pc' := 7) (v := .int (nI m.2.1.length)) hS rfl rfl (tbs_s hA (i := 0) (by decide) rfl) (by decide) (congrArg Value.int hm.2.2.1) rfl ?_
    refine go_icmpP (t' := 18) (pc' := 8) rfl rfl rfl (fun (c : (nI m.2.1.length) ≤ (nI i)) => absurd c (nI_ge (by omega) (by omega))) (fun _ => ?_)
    refine go_s (pc' := 9) rfl rfl rfl rfl ?_
    refine go_s (pc' := 10) rfl rfl rfl rfl ?_
    refine go_s (pc' := 11) (st' := [.int 1, .int (nI i), .ref (ad 0)]) rfl rfl rfl rfl ?_
    refine go_s (pc' := 12) rfl rfl rfl rfl ?_
    refine go_callV (pc' := 13) rfl rfl rfl (Nat.le_of_ble_eq_true rfl) rfl (sm_o hS (tbs_at hA (i := 0) (by decide))) rfl rfl rfl (cs_isE hA hS (by omega) 1 t (by omega)) (fun r h1 q2 => ?_)
    obtain ⟨rfl, rfl⟩ := q2
    cases u3 : (decide (S 8 (i * 5 + 1) = 1 ∧ S 8 (i * 5 + 2) = t))
    · skip
      show am_Go _ _ _ _ 13 _ [.int 0] _ _
      refine go_ifP (t' := 16) (pc' := 14) rfl rfl rfl (fun _ => ?_) (fun (c : ¬ ((0 : Int32) = 0)) => absurd (by decide) c)
      refine go_ninc (pc' := 17) (a := i) (n := 1) (lo' := [some (.ref (ad 0)), some (.int t), some (.int (nI (i + 1)))]) rfl rfl rfl rfl rfl rfl ?_
      refine go_s (pc' := 4) rfl rfl rfl rfl ?_
      have hh : awf m.2.1 t i (k + 1) = awf m.2.1 t (i + 1) k := by
        simp only [awf, he, eWr, ← e1, ← e2, u3, Bool.false_or]
      rw [hh]
      exact ih (i + 1) (by omega) h32 hd
    · skip
      show am_Go _ _ _ _ 13 _ [.int 1] _ _
      refine go_ifP (t' := 16) (pc' := 14) rfl rfl rfl (fun (c : (1 : Int32) = 0) => absurd c (by decide)) (fun _ => ?_)
      refine go_s (pc' := 15) (st' := [.int 1]) rfl rfl rfl rfl ?_
      refine go_ret rfl rfl ?_
      exact ⟨by simp only [awf, he, eWr, ← e1, ← e2, u3]; rfl, rfl⟩
theorem cs_hop {w : Nat → Bool} {d : Nat} {h : am_Hp} {S : sm_I} {Y : sm_X} {ad : Nat → Nat} (hA : adk ad) (hS : sm (tbs ad) h S Y) {m : ms} (hm : sc S m) (t : Int32) (h32 : m.2.1.length ≤ 32) (hd : 3 ≤ d) : am_Ev (am_prog w) d 76 [.ref (ad 0), .int t] h (fun r h' => r = some (.int (b2i (hop m t))) ∧ h' = h) := by
  obtain ⟨d, rfl⟩ : ∃ e, d = e + 1 := ⟨d - 1, by omega⟩
  refine ev_go rfl (Nat.le_of_ble_eq_true rfl) rfl ?_
  refine go_s (pc' := 1) rfl rfl rfl rfl ?_
  refine go_s (pc' := 2) rfl rfl rfl rfl ?_
  refine go_callV (pc' := 3) rfl rfl rfl (Nat.le_of_ble_eq_true rfl) rfl (sm_o hS (tbs_at hA (i := 0) (by decide))) rfl rfl rfl (cs_open hA hS hm t h32 (by omega)) (fun r h1 q2 => ?_)
  obtain ⟨rfl, rfl⟩ := q2
  refine go_s (pc' := 4) (lo' := [some (.ref (ad 0)), some (.int t), some (.int (nI (mof m t)))]) rfl rfl rfl rfl ?_
  exact lp_hop hA hS hm t _ _ (by have := mof_le m t; omega) h32 (by omega)
theorem lp_first {w : Nat → Bool} {d : Nat} {h : am_Hp} {S : sm_I} {Y : sm_X} {ad : Nat → Nat} (hA : adk ad) (hS : sm (tbs ad) h S Y) {m : ms} (hm : sc S m) (t : Int32) {i fr : Nat} {x : ms_E} (hi : i < m.2.1.length) (hx : m.2.1[i]? = some x) (x3 : S 8 (i * 5 + 3) = x.2.2.1) (h32 : m.2.1.length ≤ 32) (hd : 1 ≤ d) : ∀ k j, j + k = i → am_Go (am_prog w) d am_c64 (some .boolean) 2 [some (.ref (ad 0)), some (.int (nI i)), some (.int (nI fr)), some (.int t), some (.int (nI j))] [] h (fun r h' => r = some (.int (b2i (afs m.2.1 t x.2.2.1 j k))) ∧ h' = h) := by
  intro k
  induction k with
  | zero =>
    intro j hj
    refine go_s (pc' := 3) rfl rfl rfl rfl ?_
    refine go_s (pc' := 4) rfl rfl rfl rfl ?_
    refine go_icmpP (t' := 32) (pc' := 5) rfl rfl rfl (fun _ => ?_) (fun (c : ¬ ((nI i) ≤ (nI j))) => absurd (nI_le (by omega) (by omega)) c)
    refine go_s (pc' := 33) (st' := [.int 1]) rfl rfl rfl rfl ?_
    refine go_ret rfl rfl ?_
    exact ⟨rfl, rfl⟩
  | succ k ih =>
    intro j hj
    obtain ⟨e, he⟩ := l_some (show j < m.2.1.length by omega)
    obtain ⟨e1, e2, e3, e4⟩ := sc_el hm he
    refine go_s (pc' := 3) rfl rfl rfl rfl ?_
    refine go_s (pc' := 4) rfl rfl rfl rfl ?_
    refine go_icmpP (t' := 32) (pc' := 5) rfl rfl rfl (fun (c : (nI i) ≤ (nI j)) => absurd c (nI_ge (by omega) (by omega))) (fun _ => ?_)
    refine go_s (pc' := 6) rfl rfl rfl rfl ?_
    refine go_s (pc' := 7) rfl rfl rfl rfl ?_
    refine go_s (pc' := 8) (st' := [.int 1, .int (nI j), .ref (ad 0)]) rfl rfl rfl rfl ?_
    refine go_s (pc' := 9) rfl rfl rfl rfl ?_
    refine go_callV (pc' := 10) rfl rfl rfl (Nat.le_of_ble_eq_true rfl) rfl (sm_o hS (tbs_at hA (i := 0) (by decide))) rfl rfl rfl (cs_isE hA hS (by omega) 1 t (by omega)) (fun r h1 q2 => ?_)
    obtain ⟨rfl, rfl⟩ := q2
    cases u3 : (decide (S 8 (j * 5 + 1) = 1 ∧ S 8 (j * 5 + 2) = t))
    · skip
      show am_Go _ _ _ _ 10 _ [.int 0] _ _
      refine go_ifP (t' := 30) (pc' := 11) rfl rfl rfl (fun _ => ?_) (fun (c : ¬ ((0 : Int32) = 0)) => absurd (by decide) c)
      refine go_ninc (pc' := 31) (a := j) (n := 1) (lo' := [some (.ref (ad 0)), some (.int (nI i)), some (.int (nI fr)), some (.int t), some (.int (nI (j + 1)))]) rfl rfl rfl rfl rfl rfl ?_
      refine go_s (pc' := 2) rfl rfl rfl rfl ?_
      have hh : afs m.2.1 t x.2.2.1 j (k + 1) = afs m.2.1 t x.2.2.1 (j + 1) k := by
        simp only [afs, he, eWr, ← e1, ← e2, u3, Bool.false_and, Bool.not_false, Bool.true_and]
      rw [hh]
      exact ih (j + 1) (by omega)
    · skip
      show am_Go _ _ _ _ 10 _ [.int 1] _ _
      refine go_ifP (t' := 30) (pc' := 11) rfl rfl rfl (fun (c : (1 : Int32) = 0) => absurd c (by decide)) (fun _ => ?_)
      refine go_s (pc' := 12) rfl rfl rfl rfl ?_
      refine go_sget (pc' := 13) (v := .ref (ad 8)) hS rfl rfl (tbs_s hA (i := 0) (by decide) rfl) (by decide) rfl rfl ?_
      refine go_s (pc' := 14) rfl rfl rfl rfl ?_
      refine go_s (pc' := 15) (st' := [.int 5, .int (nI j), .ref (ad 8)]) rfl rfl rfl rfl ?_
      refine go_nmul (pc' := 16) (a := j) (b := 5) rfl rfl rfl rfl rfl ?_
      refine go_s (pc' := 17) (st' := [.int 3, .int (nI (j * 5)), .ref (ad 8)]) rfl rfl rfl rfl ?_
      refine go_nadd (pc' := 18) (a := (j * 5)) (b := 3) rfl rfl rfl rfl rfl ?_
      refine go_sald (pc' := 19) (q := ((j * 5) + 3)) (v := .int (S 8 ((j * 5) + 3))) hS rfl (tbs_s hA (i := 8) (by decide) (rg_el (by omega))) rfl rfl (by omega) rfl rfl ?_
      refine go_s (pc' := 20) rfl rfl rfl rfl ?_
      refine go_sget (pc' := 21) (v := .ref (ad 8)) hS rfl rfl (tbs_s hA (i := 0) (by decide) rfl) (by decide) rfl rfl ?_
      refine go_s (pc' := 22) rfl rfl rfl rfl ?_
      refine go_s (pc' := 23) (st' := [.int 5, .int (nI i), .ref (ad 8), .int (S 8 ((j * 5) + 3))]) rfl rfl rfl rfl ?_
      refine go_nmul (pc' := 24) (a := i) (b := 5) rfl rfl rfl rfl rfl ?_
      refine go_s (pc' := 25) (st' := [.int 3, .int (nI (i * 5)), .ref (ad 8), .int (S 8 ((j * 5) + 3))]) rfl rfl rfl rfl ?_
      refine go_nadd (pc' := 26) (a := (i * 5)) (b := 3) rfl rfl rfl rfl rfl ?_
      refine go_sald (pc' := 27) (q := ((i * 5) + 3)) (v := .int (S 8 ((i * 5) + 3))) hS rfl (tbs_s hA (i := 8) (by decide) (rg_el (by omega))) rfl rfl (by omega) rfl rfl ?_
      refine go_icmpP (t' := 30) (pc' := 28) rfl rfl rfl (fun (c4 : ¬ (S 8 ((j * 5) + 3)) = (S 8 ((i * 5) + 3))) => ?_) (fun (c4' : ¬ ¬ (S 8 ((j * 5) + 3)) = (S 8 ((i * 5) + 3))) => ?_)
      · skip
        refine go_ninc (pc' := 31) (a := j) (n := 1) (lo' := [some (.ref (ad 0)), some (.int (nI i)), some (.int (nI fr)), some (.int t), some (.int (nI (j + 1)))]) rfl rfl rfl rfl rfl rfl ?_
        refine go_s (pc' := 2) rfl rfl rfl rfl ?_
        have hh : afs m.2.1 t x.2.2.1 j (k + 1) = afs m.2.1 t x.2.2.1 (j + 1) k := by
          have z : ¬ e.2.2.1 = x.2.2.1 := by rw [← e3, ← x3]; exact c4
          simp [afs, he, z]
        rw [hh]
        exact ih (j + 1) (by omega)
      · skip
        have c4 : (S 8 ((j * 5) + 3)) = (S 8 ((i * 5) + 3)) := Decidable.not_not.mp c4'
        refine go_s (pc' := 29) (st' := [.int 0]) rfl rfl rfl rfl ?_
        refine go_ret rfl rfl ?_
        exact ⟨by
          have z : e.2.2.1 = x.2.2.1 := by rw [← e3, ← x3]; exact c4
          have z2 : eWr e t = true := by simp only [eWr, ← e1, ← e2, u3]
          simp only [afs, he, z2, z]
          simp [b2i], rfl⟩
theorem cs_first {w : Nat → Bool} {d : Nat} {h : am_Hp} {S : sm_I} {Y : sm_X} {ad : Nat → Nat} (hA : adk ad) (hS : sm (tbs ad) h S Y) {m : ms} (hm : sc S m) (t : Int32) {i fr : Nat} {x : ms_E} (hi : i < m.2.1.length) (hx : m.2.1[i]? = some x) (hf : fr ≤ i) (h32 : m.2.1.length ≤ 32) (hd : 2 ≤ d) : am_Ev (am_prog w) d 64 [.ref (ad 0), .int (nI i), .int (nI fr), .int t] h (fun r h' => r = some (.int (b2i (fst1 m.2.1 t x.2.2.1 fr i))) ∧ h' = h) := by
  obtain ⟨d, rfl⟩ : ∃ e, d = e + 1 := ⟨d - 1, by omega⟩
  refine ev_go rfl (Nat.le_of_ble_eq_true rfl) rfl ?_
  refine go_s (pc' := 1) rfl rfl rfl rfl ?_
  refine go_s (pc' := 2) (lo' := [some (.ref (ad 0)), some (.int (nI i)), some (.int (nI fr)), some (.int t), some (.int (nI fr))]) rfl rfl rfl rfl ?_
  exact lp_first hA hS hm t hi hx (sc_el hm hx).2.2.1 h32 (by omega) _ _ (by omega)
