/-! the log on a disc -/
theorem opn_app (L : List ms_E) (e : ms_E) (u : Int32) : ∀ n, n ≤ L.length → opn (L ++ [e]) u n = opn L u n := by
  intro n
  induction n with
  | zero => intro _; rfl
  | succ n ih =>
    intro hn
    simp only [opn]
    rw [List.getElem?_append_left (by omega), ih (by omega)]
theorem awf_app (L : List ms_E) (e : ms_E) (u : Int32) : ∀ k j, j + k = L.length → awf (L ++ [e]) u j (k + 1) = (awf L u j k || eWr e u) := by
  intro k
  induction k with
  | zero =>
    intro j hj
    obtain rfl : j = L.length := by omega
    simp [awf]
  | succ k ih =>
    intro j hj
    have h1 := ih (j + 1) (by omega)
    rw [show awf (L ++ [e]) u j (k + 1 + 1) = ((match (L ++ [e])[j]? with | some e => eWr e u | none => false) || awf (L ++ [e]) u (j + 1) (k + 1)) from rfl, h1, List.getElem?_append_left (by omega)]
    rw [show awf L u j (k + 1) = ((match L[j]? with | some e => eWr e u | none => false) || awf L u (j + 1) k) from rfl, Bool.or_assoc]
theorem hoL_cl {L : List ms_E} {e : ms_E} {u : Int32} (h : eCl e u = true) : hoL (L ++ [e]) u = 0 := by
  unfold hoL
  have : opn (L ++ [e]) u (L ++ [e]).length = L.length + 1 := by
    rw [List.length_append, List.length_singleton]
    simp only [opn]
    simp [h]
  rw [this]
  simp [awf]
theorem hoL_n {L : List ms_E} {e : ms_E} {u : Int32} (h : eCl e u = false) : hoL (L ++ [e]) u = if eWr e u = true then 1 else hoL L u := by
  unfold hoL
  have : opn (L ++ [e]) u (L ++ [e]).length = opn L u L.length := by
    rw [List.length_append, List.length_singleton]
    simp only [opn]
    simp [h]
    exact opn_app L e u _ (Nat.le_refl _)
  rw [this]
  have hle := opn_le L u L.length
  rw [List.length_append, List.length_singleton, show L.length + 1 - opn L u L.length = (L.length - opn L u L.length) + 1 by omega, awf_app L e u _ _ (by omega)]
  cases h2 : eWr e u <;> simp
theorem hoL_1 {L : List ms_E} {u : Int32} : hoL L u ≤ 1 := by
  unfold hoL
  split <;> omega
theorem hoL_nil {u : Int32} : hoL [] u = 0 := by
  unfold hoL
  simp [opn, awf]
/-- reading the log looks at the log only -/
theorem rd_c {f f' : Nat → Int32} (g : Int32) (h : ∀ j, 85 ≤ j → j < 245 → f j = f' j) : ∀ k n, n + k ≤ 32 → rd f g k n = rd f' g k n := by
  intro k
  induction k with
  | zero => intro n _; rfl
  | succ k ih =>
    intro n hn
    unfold rd
    rw [h (85 + 5 * n) (by omega) (by omega), ih (n + 1) (by omega)]
theorem rdL_c {f f' : Nat → Int32} (h : lge f f') : rdL f = rdL f' := by
  obtain ⟨h0, h1⟩ := h
  unfold rdL
  rw [h0, rd_c _ h1 32 0 (by omega)]
  apply List.map_congr_left
  intro i hi
  have hi2 : i < rd f' (f' 80) 32 0 := by simpa using hi
  have := rd_le f' (f' 80) 32 0
  rw [h1 _ (by omega) (by omega), h1 _ (by omega) (by omega), h1 _ (by omega) (by omega), h1 _ (by omega) (by omega)]
theorem LG_c {X : Nat} {f f' : Nat → Int32} (h : lge f f') (k : LG X f') : LG X f := by
  obtain ⟨g, k1, k2, k3, k4⟩ := k
  have e := rdL_c h
  refine ⟨g, k1, h.1.trans k2, fun i hi => ?_, by rw [e]; exact k4⟩
  rw [h.2 _ (by omega) (by omega), e]
  exact k3 i hi
theorem lge_refl (f : Nat → Int32) : lge f f := ⟨rfl, fun _ _ _ => rfl⟩
theorem lge_symm {f g : Nat → Int32} (h : lge f g) : lge g f := ⟨h.1.symm, fun j a b => (h.2 j a b).symm⟩
theorem lge_trans {f g h : Nat → Int32} (a : lge f g) (b : lge g h) : lge f h := ⟨a.1.trans b.1, fun j x y => (a.2 j x y).trans (b.2 j x y)⟩
/-- how far reading goes -/
theorem rd_eq (f : Nat → Int32) (g : Int32) : ∀ k n m, n ≤ m → m ≤ n + k → (∀ i, n ≤ i → i < m → f (85 + 5 * i) = g) → (m < n + k → ¬ f (85 + 5 * m) = g) → rd f g k n = m := by
  intro k
  induction k with
  | zero => intro n m h1 h2 _ _; unfold rd; omega
  | succ k ih =>
    intro n m h1 h2 h3 h4
    unfold rd
    by_cases c : n = m
    · subst c
      rw [if_neg (h4 (by omega))]
    · rw [if_pos (h3 n (by omega) (by omega))]
      exact ih (n + 1) m (by omega) (by omega) (fun i a b => h3 i (by omega) b) (fun z => h4 (by omega))
theorem rd_all (f : Nat → Int32) (g : Int32) : ∀ k n i, n ≤ i → i < rd f g k n → f (85 + 5 * i) = g := by
  intro k
  induction k with
  | zero => intro n i h1 h2; unfold rd at h2; omega
  | succ k ih =>
    intro n i h1 h2
    unfold rd at h2
    split at h2
    · rename_i h
      by_cases c : n = i
      · subst c; exact h
      · exact ih (n + 1) i (by omega) h2
    · omega
theorem rdL_len (f : Nat → Int32) : (rdL f).length = rd f (f 80) 32 0 := by
  unfold rdL
  simp
theorem rdL_le (f : Nat → Int32) : (rdL f).length ≤ 32 := by
  rw [rdL_len]
  have := rd_le f (f 80) 32 0
  omega
/-- an entry is written behind the log -/
theorem rdL_app {X n : Nat} {f : Nat → Int32} {e : ms_E} {G : Int32} (hX : X < 2 ^ 30) (hL : LG X f) (hn : (rdL f).length = n) (h32 : n < 32) (hg : f 80 = G) : rdL (ap1 f (tw n G e)) = rdL f ++ [e] ∧ (ap1 f (tw n G e)) 80 = G ∧ (∀ i, i < 32 → i ≠ n → (ap1 f (tw n G e)) (85 + 5 * i) = f (85 + 5 * i)) ∧ (ap1 f (tw n G e)) (85 + 5 * n) = G := by
  obtain ⟨g', a1, a2, a3, a4⟩ := hL
  obtain rfl : G = nI g' := hg.symm.trans a2
  have hb : (tw n (nI g') e).1.toNatClampNeg = 17 + n := nI_clamp (by omega)
  have o : ∀ j, (j < 85 + 5 * n ∨ 85 + 5 * n + 5 ≤ j) → ap1 f (tw n (nI g') e) j = f j := fun j hj => by
    unfold ap1
    rw [hb, if_neg (by omega)]
  have i0 : ∀ j, j < 5 → ap1 f (tw n (nI g') e) (85 + 5 * n + j) = wn (tw n (nI g') e) (1 + j) := fun j hj => by
    unfold ap1
    rw [hb, if_pos (by omega)]
    congr 1
    omega
  have e80 : ap1 f (tw n (nI g') e) 80 = nI g' := by rw [o 80 (by omega)]; exact hg
  have hrd : rd (ap1 f (tw n (nI g') e)) (nI g') 32 0 = n + 1 := by
    refine rd_eq _ _ 32 0 (n + 1) (by omega) (by omega) (fun i _ hi => ?_) (fun hlt => ?_)
    · by_cases c : i = n
      · subst c
        exact i0 0 (by omega)
      · rw [o _ (by omega)]
        have z := rd_all f (f 80) 32 0 i (by omega) (by rw [← rdL_len, hn]; omega)
        rw [z, hg]
    · rw [o _ (by omega)]
      obtain ⟨a, b1, b2, b3⟩ := a3 (n + 1) (by omega)
      rw [b1]
      intro z
      have := (nI_eq (by omega) (by omega)).mp z
      have := b3 (by omega)
      omega
  refine ⟨?_, e80, fun i hi hne => o _ (by omega), i0 0 (by omega)⟩
  have hlen : (rdL f).length = rd f (f 80) 32 0 := rdL_len f
  unfold rdL
  rw [e80, hrd, ← hlen, hn, List.range_succ, List.map_append]
  congr 1
  · apply List.map_congr_left
    intro i hi
    have : i < n := by simpa using hi
    rw [o _ (by omega), o _ (by omega), o _ (by omega), o _ (by omega)]
  · simp only [List.map_cons, List.map_nil]
    have j1 := i0 1 (by omega)
    have j2 := i0 2 (by omega)
    have j3 := i0 3 (by omega)
    have j4 := i0 4 (by omega)
    rw [show 86 + 5 * n = 85 + 5 * n + 1 by omega, show 87 + 5 * n = 85 + 5 * n + 2 by omega, show 88 + 5 * n = 85 + 5 * n + 3 by omega, show 89 + 5 * n = 85 + 5 * n + 4 by omega, j1, j2, j3, j4]
    rfl
/-- a write elsewhere leaves the log -/
theorem ap1_rec {f : Nat → Int32} {x : ms_W} (h : ∃ q, q < 16 ∧ x.1 = nI q) : lge (ap1 f x) f := by
  obtain ⟨q, hq, eq⟩ := h
  have hb : x.1.toNatClampNeg = q := by rw [eq]; exact nI_16 hq
  refine ⟨?_, fun j h1 h2 => ?_⟩
  · unfold ap1
    rw [hb, if_neg (by omega)]
  · unfold ap1
    rw [hb, if_neg (by omega)]
theorem apl_rec {R : List ms_W} : ∀ {f : Nat → Int32}, RW R → lge (apl f R) f := by
  induction R with
  | nil => intro f _; exact lge_refl f
  | cons x R ih =>
    intro f h
    have h1 : ∃ q, q < 16 ∧ x.1 = nI q := h 0 x rfl
    have h2 : RW R := fun i y hi => h (i + 1) y hi
    exact lge_trans (ih (f := ap1 f x) h2) (ap1_rec h1)
theorem apl_app {f : Nat → Int32} {A B : List ms_W} : apl f (A ++ B) = apl (apl f A) B := by
  unfold apl
  rw [List.foldl_append]
theorem ap1_l {f g : Nat → Int32} {x : ms_W} (h : lge f g) : lge (ap1 f x) (ap1 g x) := by
  obtain ⟨h0, h1⟩ := h
  refine ⟨?_, fun j a b => ?_⟩
  · unfold ap1
    split
    · rfl
    · exact h0
  · unfold ap1
    split
    · rfl
    · exact h1 j a b
theorem apl_l {W : List ms_W} : ∀ {f g : Nat → Int32}, lge f g → lge (apl f W) (apl g W) := by
  induction W with
  | nil => intro f g h; exact h
  | cons x W ih => intro f g h; exact ih (f := ap1 f x) (g := ap1 g x) (ap1_l h)
theorem take_app {α : Type} {A B : List α} {j : Nat} : (j ≤ A.length ∧ (A ++ B).take j = A.take j) ∨ (A.length < j ∧ (A ++ B).take j = A ++ B.take (j - A.length)) := by
  by_cases c : j ≤ A.length
  · exact Or.inl ⟨c, List.take_append_of_le_length c⟩
  · refine Or.inr ⟨by omega, ?_⟩
    rw [List.take_append, List.take_of_length_le (by omega)]
theorem RW_take {R : List ms_W} {j : Nat} (h : RW R) : RW (R.take j) := by
  intro i x hi
  rw [List.getElem?_take] at hi
  split at hi
  · exact h i x hi
  · cases hi
/-- a log with one more entry -/
theorem LG_tw {X n : Nat} {f : Nat → Int32} {e : ms_E} {G : Int32} (hX : X < 2 ^ 30) (hL : LG X f) (hn : (rdL f).length = n) (hg : f 80 = G) (h32 : n < 32) (hsum : (rdL f ++ [e]).length + hoL (rdL f ++ [e]) (nI 0) + hoL (rdL f ++ [e]) (nI 1) ≤ 32) (hr : ∀ u, u < 2 → eWr e (nI u) = true → ∃ q, q < 16 ∧ e.2.2.1 = nI q) (hk : e.1 = 1 ∨ e.1 = 2 ∨ e.1 = 3) : LG X (ap1 f (tw n G e)) := by
  obtain ⟨r1, r2, r3, r4⟩ := rdL_app (e := e) hX hL hn h32 hg
  obtain ⟨g, a1, a2, a3, a4, a5, a6, a7⟩ := hL
  refine ⟨g, a1, r2.trans (hg.symm.trans a2), fun i hi => ?_, by rw [r1]; exact hsum, by rw [r1]; exact rok_app a5 (hr 0 (by omega)), by rw [r1]; exact rok_app a6 (hr 1 (by omega)), ?_⟩
  · rw [r1]
    by_cases c : i = n
    · subst c
      exact ⟨g, r4.trans (hg.symm.trans a2), Nat.le_refl _, fun z => by simp at z; omega⟩
    · rw [r3 i hi c]
      obtain ⟨a, b1, b2, b3⟩ := a3 i hi
      exact ⟨a, b1, b2, fun z => b3 (by simp at z; omega)⟩
  · rw [r1]
    intro i y hi
    rcases get_app hi with z | ⟨-, z⟩
    · exact a7 i y z
    · rw [z]; exact hk
/-- a new generation begins -/
theorem LG_gw {X : Nat} {f : Nat → Int32} {G ep : Int32} (hX : X < 2 ^ 30) (hL : LG X f) (hg : f 80 = G) : LG (X + 1) (ap1 f (gw (G + 1) ep)) ∧ (ap1 f (gw (G + 1) ep)) 80 = G + 1 ∧ rdL (ap1 f (gw (G + 1) ep)) = [] := by
  obtain ⟨g, a1, a2, a3, -⟩ := hL
  obtain rfl : G = nI g := hg.symm.trans a2
  have e1 : nI g + 1 = nI (g + 1) := nI_add g 1
  have hb : (gw (nI g + 1) ep).1.toNatClampNeg = 16 := by rfl
  have o : ∀ j, (j < 80 ∨ 85 ≤ j) → ap1 f (gw (nI g + 1) ep) j = f j := fun j hj => by
    unfold ap1
    rw [hb, if_neg (by omega)]
  have e80 : ap1 f (gw (nI g + 1) ep) 80 = nI g + 1 := by
    unfold ap1
    rw [hb, if_pos (by omega)]
    rfl
  have hrd : rd (ap1 f (gw (nI g + 1) ep)) (nI g + 1) 32 0 = 0 := by
    refine rd_eq _ _ 32 0 0 (by omega) (by omega) (fun i h1 h2 => by omega) (fun _ => ?_)
    rw [o _ (by omega)]
    obtain ⟨a, b1, b2, -⟩ := a3 0 (by omega)
    rw [b1, e1]
    intro z
    have := (nI_eq (by omega) (by omega)).mp z
    omega
  have hnil : rdL (ap1 f (gw (nI g + 1) ep)) = [] := by
    unfold rdL
    rw [e80, hrd]
    rfl
  refine ⟨⟨g + 1, by omega, e80.trans e1, fun i hi => ?_, by rw [hnil, hoL_nil, hoL_nil]; simp, by rw [hnil]; exact fun i e h => by simp at h, by rw [hnil]; exact fun i e h => by simp at h, by rw [hnil]; exact fun i e h => by simp at h⟩, e80, hnil⟩
  rw [o _ (by omega)]
  obtain ⟨a, b1, b2, -⟩ := a3 i hi
  exact ⟨a, b1, by omega, fun _ => by omega⟩
