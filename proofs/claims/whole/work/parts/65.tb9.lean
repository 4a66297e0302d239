/-! a state without its writes: nine places -/
def tb9 (ad : Nat → Nat) : sm_T := fun a => if (List.range 9).any (fun i => decide (ad i = a)) = true then some (.inl 5, []) else none
theorem tb9_none {ad : Nat → Nat} {a : Nat} : tb9 ad a = none ↔ ∀ i, i < 9 → ad i ≠ a := by
  unfold tb9
  constructor
  · intro h i hi e
    rw [if_pos (List.any_eq_true.mpr ⟨i, List.mem_range.mpr hi, by simp [e]⟩)] at h
    cases h
  · intro h
    rw [if_neg]
    intro z
    obtain ⟨i, hi, e⟩ := List.any_eq_true.mp z
    exact h i (List.mem_range.mp hi) (by simpa using e)
theorem fr_pt {tb : sm_T} {h1 h2 h3 : am_Hp} {k s x : Nat} (a : fr tb h1 h2 k s) (b : pq x h2 h3) (hx : tb x ≠ none) : fr tb h1 h3 k s := ⟨by have := a.1; have := b.1; omega, by have := a.2.1; have := b.1; omega, by have := a.2.2.1; have := b.2.1; omega, fun y hy hl => (b.2.2 y (fun e => hx (e ▸ hy))).trans (a.2.2.2 y hy hl)⟩
theorem fr_se {tb tb2 : sm_T} {h1 h2 h3 : am_Hp} {k s : Nat} (a : fr tb h1 h2 k s) (b : sm_e tb2 h2 h3) (hn : ∀ b, tb b = none → b < h1.length → tb2 b = none) : fr tb h1 h3 k s := ⟨by have := a.1; have := b.1; omega, by have := a.2.1; have := b.1; omega, by have := a.2.2.1; have := b.2.1; omega, fun y hy hl => (b.2.2 y (hn y hy hl)).trans (a.2.2.2 y hy hl)⟩
theorem fr_ini {ad : Nat → Nat} {h h2 : am_Hp} {S S2 : sm_I} {Y Y2 : sm_X} (hA : adk ad) (hS : sm (tbs ad) h S Y) (hS2 : sm (tbs ad) h2 S2 Y2) (hE : sm_e (tbs ad) h h2) (e9 : ∀ j, S2 9 j = S 9 j) (e10 : ∀ j, S2 10 j = S 10 j) (e4 : S2 0 4 = S 0 4) : fr (tb9 ad) h h2 0 0 := by
  refine ⟨Nat.le_of_eq hE.1.symm, Nat.le_of_eq hE.1, Nat.le_of_eq hE.2.1, fun b hb hl => ?_⟩
  rw [tb9_none] at hb
  by_cases c : tbs ad b = none
  · exact hE.2.2 b c
  · obtain ⟨x, hx⟩ := Option.ne_none_iff_exists'.mp c
    obtain ⟨i, hi, rfl, e⟩ := tbs_of hx
    rw [hS _ _ _ (tbs_at hA hi), hS2 _ _ _ (tbs_at hA hi)]
    have : ¬ i < 9 := fun z => hb i z rfl
    congr 2
    apply List.map_congr_left
    intro d hd
    rcases (show i = 9 ∨ i = 10 ∨ i = 11 by omega) with rfl | rfl | rfl
    · simp [tbsE] at hd
      rcases hd with rfl | rfl | rfl
      · rfl
      · rfl
      · simp [sm_v, e4]
    · simp [tbsE] at hd
      obtain ⟨j, -, rfl⟩ := hd
      simp [sm_v, e9]
    · simp [tbsE] at hd
      obtain ⟨j, -, rfl⟩ := hd
      simp [sm_v, e10]
theorem adW_none {ad : Nat → Nat} {L L1 L2 n : Nat} (hL : n ≤ L) (hL1 : n ≤ L1) (hL2 : n ≤ L2) : ∀ b, tb9 ad b = none → b < n → tbs (adW ad L L1 L2) b = none := by
  intro b hb hn
  rw [tb9_none] at hb
  apply tbs_none
  intro i hi e
  unfold adW at e
  split at e
  · omega
  · split at e
    · omega
    · split at e
      · omega
      · exact hb i (by omega) e
