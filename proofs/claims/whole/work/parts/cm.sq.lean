/-! how many states are on their way -/
theorem sum_le {f g : Nat → Nat} : ∀ n, (∀ i, i < n → f i ≤ g i) → ((List.range n).map f).sum ≤ ((List.range n).map g).sum := by
  intro n
  induction n with
  | zero => intro _; simp
  | succ n ih =>
    intro h
    rw [List.range_succ, List.map_append, List.map_append, List.sum_append, List.sum_append]
    have := ih (fun i hi => h i (by omega))
    have := h n (by omega)
    simp
    omega
theorem sum_add {f g : Nat → Nat} : ∀ n, ((List.range n).map (fun i => f i + g i)).sum = ((List.range n).map f).sum + ((List.range n).map g).sum := by
  intro n
  induction n with
  | zero => simp
  | succ n ih =>
    rw [List.range_succ, List.map_append, List.map_append, List.map_append, List.sum_append, List.sum_append, List.sum_append, ih]
    simp
    omega
theorem sum_one {a c : Nat} : ∀ n, ((List.range n).map (fun i => if i = a then c else 0)).sum ≤ c := by
  have h0 : ∀ n, n ≤ a → ((List.range n).map (fun i => if i = a then c else 0)).sum = 0 := by
    intro n
    induction n with
    | zero => intro _; simp
    | succ n ih =>
      intro h
      rw [List.range_succ, List.map_append, List.sum_append, ih (by omega)]
      simp
      omega
  intro n
  induction n with
  | zero => simp
  | succ n ih =>
    rw [List.range_succ, List.map_append, List.sum_append]
    by_cases e : n = a
    · rw [h0 n (by omega)]
      simp [e]
    · simp [e]
      exact ih
theorem cnt_1 {p : mg → Bool} : ∀ (q : List mg), (∀ (i j : Nat) (x y : mg), q[i]? = some x → q[j]? = some y → p x = true → p y = true → i = j) → q.countP p ≤ 1 := by
  intro q
  induction q with
  | nil => intro _; simp
  | cons a q ih =>
    intro h
    rw [List.countP_cons]
    by_cases c : p a = true
    · have : q.countP p = 0 := by
        rw [List.countP_eq_zero]
        intro x hx hp
        obtain ⟨i, hi⟩ := List.getElem?_of_mem hx
        have := h 0 (i + 1) a x rfl hi c hp
        omega
      rw [this]
      split <;> omega
    · rw [if_neg c]
      exact ih (fun i j x y hi hj => fun hx hy => by
        have := h (i + 1) (j + 1) x y hi hj hx hy
        omega)
def isk (k : Nat) (m : mg) : Bool := isS m && decide (m.1 5 = nI k)
theorem cnt_3 : ∀ (q : List mg), (∀ (i : Nat) (x : mg), q[i]? = some x → isS x = true → ∃ k, k < 3 ∧ x.1 5 = nI k) → q.countP isS ≤ q.countP (isk 0) + q.countP (isk 1) + q.countP (isk 2) := by
  intro q
  induction q with
  | nil => intro _; simp
  | cons a q ih =>
    intro h
    have := ih (fun i x hi => h (i + 1) x hi)
    rw [List.countP_cons, List.countP_cons, List.countP_cons, List.countP_cons]
    by_cases c : isS a = true
    · obtain ⟨k, hk, e⟩ := h 0 a rfl c
      have hkk : isk k a = true := by
        unfold isk
        rw [c, e]
        simp
      have : k = 0 ∨ k = 1 ∨ k = 2 := by omega
      rcases this with rfl | rfl | rfl
      · rw [if_pos c, if_pos hkk]
        omega
      · rw [if_pos c, if_pos (c := isk 1 a = true) hkk]
        omega
      · rw [if_pos c, if_pos (c := isk 2 a = true) hkk]
        omega
    · rw [if_neg c]
      omega
/-- before pair k tells, at most five states are on their way -/
theorem sq_5 {X k : Nat} {M : mM} (hX : X < 2 ^ 30) (k0 : MID X M) (hk : k < 3) (hns : ∀ i y, ¬ US M.1 M.2.1 k i y) : sq M.2.1 ≤ 5 := by
  have hMK : ∀ l, l < 16 → ∀ (i : Nat) (x : mg), (M.2.1 l)[i]? = some x → isS x = true → ∃ j, j < 3 ∧ x.1 5 = nI j := fun l hl i x hi hs => by
    obtain ⟨-, -, m3, m4⟩ := MK_5 ((k0.2.2.2.2.2.1 l hl).2.2.2.2.1 i x hi)
    refine m3 ?_
    unfold isS at hs
    rw [Bool.or_eq_true] at hs
    rcases hs with z | z
    · exact Or.inl (of_decide_eq_true z)
    · exact Or.inr (Or.inl (of_decide_eq_true z))
  have hloc : ∀ l, l < 16 → ∀ (i : Nat) (x : mg) (j : Nat), j < 3 → (M.2.1 l)[i]? = some x → isS x = true → x.1 5 = nI j → l = lk M.1 j := fun l hl i x j hj hi hs h5 => by
    obtain ⟨⟨n, a1, a2, a3⟩, -⟩ := k0.2.2.2.2.2.2.2.1 j hj
    exact (a3 l hl i x hi h5 (Or.inl hs)).2.2.1 hs
  -- behind the first all are undelivered
  have hbeh : ∀ l, l < 16 → ∀ (i : Nat) (x : mg) (j : Nat), j < 3 → (M.2.1 l)[i + 1]? = some x → isS x = true → x.1 5 = nI j → US M.1 M.2.1 j (i + 1) x := fun l hl i x j hj hi hs h5 => by
    have e := hloc l hl (i + 1) x j hj hi hs h5
    obtain ⟨-, -, -, -, -, A, T, b1, b2, b3, b4, b5, b6, b7⟩ := k0.2.2.2.2.2.1 l hl
    have hlt := (List.getElem?_eq_some_iff.mp hi).1
    refine ⟨by rw [← e]; exact hi, hs, h5, ?_⟩
    rw [← e, b3, b7 (i + 1) x hi]
    exact nI_ge (by omega) (by omega)
  have hone : ∀ l, l < 16 → ∀ j, j < 3 → (M.2.1 l).tail.countP (isk j) ≤ if l = lk M.1 j then (if j = k then 0 else 1) else 0 := fun l hl j hj => by
    have get : ∀ (i : Nat) (x : mg), (M.2.1 l).tail[i]? = some x → isk j x = true → US M.1 M.2.1 j (i + 1) x ∧ l = lk M.1 j := fun i x hi hx => by
      unfold isk at hx
      rw [Bool.and_eq_true] at hx
      have hi' : (M.2.1 l)[i + 1]? = some x := by rw [List.getElem?_tail] at hi; exact hi
      exact ⟨hbeh l hl i x j hj hi' hx.1 (of_decide_eq_true hx.2), hloc l hl (i + 1) x j hj hi' hx.1 (of_decide_eq_true hx.2)⟩
    by_cases c : l = lk M.1 j
    · rw [if_pos c]
      by_cases e : j = k
      · rw [if_pos e]
        subst e
        have : (M.2.1 l).tail.countP (isk j) = 0 := by
          rw [List.countP_eq_zero]
          intro x hx hp
          obtain ⟨i, hi⟩ := List.getElem?_of_mem hx
          exact hns _ _ (get i x hi hp).1
        omega
      · rw [if_neg e]
        refine cnt_1 _ (fun i i' x y hi hi' hx hy => ?_)
        have := (k0.2.2.2.2.2.2.2.1 j hj).2.1 _ _ _ _ (get i x hi hx).1 (get i' y hi' hy).1
        omega
    · rw [if_neg c]
      have : (M.2.1 l).tail.countP (isk j) = 0 := by
        rw [List.countP_eq_zero]
        intro x hx hp
        obtain ⟨i, hi⟩ := List.getElem?_of_mem hx
        exact c (get i x hi hp).2
      omega
  have hfr : ∀ l, l < 16 → (M.2.1 l).countP isS ≤ ((if l = lk M.1 0 then 1 else 0) + (if l = lk M.1 1 then 1 else 0) + (if l = lk M.1 2 then 1 else 0)) + ((if l = lk M.1 0 then (if 0 = k then 0 else 1) else 0) + (if l = lk M.1 1 then (if 1 = k then 0 else 1) else 0) + (if l = lk M.1 2 then (if 2 = k then 0 else 1) else 0)) := fun l hl => by
    have h0 := hone l hl 0 (by omega)
    have h1 := hone l hl 1 (by omega)
    have h2 := hone l hl 2 (by omega)
    cases hq : M.2.1 l with
    | nil => simp
    | cons m q =>
      have ht : (M.2.1 l).tail = q := by rw [hq]; rfl
      rw [ht] at h0 h1 h2
      have hc := cnt_3 q (fun i x hi => hMK l hl (i + 1) x (by rw [hq]; exact hi))
      rw [List.countP_cons]
      by_cases c : isS m = true
      · rw [if_pos c]
        obtain ⟨j, hj, h5⟩ := hMK l hl 0 m (by rw [hq]; rfl) c
        have e := hloc l hl 0 m j hj (by rw [hq]; rfl) c h5
        have : 1 ≤ (if l = lk M.1 0 then 1 else 0) + (if l = lk M.1 1 then 1 else 0) + (if l = lk M.1 2 then 1 else 0) := by
          have hjj : j = 0 ∨ j = 1 ∨ j = 2 := by omega
          rcases hjj with rfl | rfl | rfl
          · rw [if_pos e]; omega
          · rw [if_pos (c := l = lk M.1 1) e]; omega
          · rw [if_pos (c := l = lk M.1 2) e]; omega
        omega
      · rw [if_neg c]
        omega
  have hs : sq M.2.1 ≤ _ := sum_le 16 hfr
  rw [sum_add, sum_add, sum_add, sum_add, sum_add] at hs
  have s0 := sum_one (a := lk M.1 0) (c := 1) 16
  have s1 := sum_one (a := lk M.1 1) (c := 1) 16
  have s2 := sum_one (a := lk M.1 2) (c := 1) 16
  have t0 := sum_one (a := lk M.1 0) (c := if 0 = k then 0 else 1) 16
  have t1 := sum_one (a := lk M.1 1) (c := if 1 = k then 0 else 1) 16
  have t2 := sum_one (a := lk M.1 2) (c := if 2 = k then 0 else 1) 16
  have : k = 0 ∨ k = 1 ∨ k = 2 := by omega
  rcases this with rfl | rfl | rfl <;> simp only [if_true, if_neg (show ¬ (0 : Nat) = 1 by decide), if_neg (show ¬ (0 : Nat) = 2 by decide), if_neg (show ¬ (1 : Nat) = 0 by decide), if_neg (show ¬ (1 : Nat) = 2 by decide), if_neg (show ¬ (2 : Nat) = 0 by decide), if_neg (show ¬ (2 : Nat) = 1 by decide)] at hs t0 t1 t2 <;> omega
