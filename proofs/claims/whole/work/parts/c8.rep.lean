/-- what declaring a processor gives -/
theorem DC {X p : Nat} {M : mM} (hX : X + 60 < 2 ^ 28) (k : INV X M) (hD : KD M.1) (hp : p < 4) (h0 : M.1 0 p = 0) : rdc p M = mset 10 (mdc p M) ∧ INV (X + 44) (rdc p M) ∧ KD (rdc p M).1 ∧ DCH p M ∧ SI (mdc p M) ∧ (rdc p M).1 0 = M.1 0 ∧ (rdc p M).1 1 p = 1 ∧ (∀ c, c = 3 ∨ c = 8 → (rdc p M).1 c = M.1 c) := by
  sorry
