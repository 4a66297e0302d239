/-! the reference's cells as a flat memory: 62 the object, its arrays at 63..88, the messages at am (lm ints), the states at as_ (ls ints) -/
def tbr_L : List (Option (FieldType × Nat × Nat)) := [some (.boolean, 0, 4), some (.boolean, 1, 4), some (.int, 2, 4), some (.boolean, 3, 2), some (.boolean, 4, 2), some (.boolean, 5, 2), some (.int, 6, 2), some (.int, 7, 490), none, some (.int, 53, 16), some (.int, 54, 16), some (.int, 55, 16), some (.int, 9, 16), some (.int, 10, 16), none, some (.int, 11, 3), some (.int, 12, 3), some (.boolean, 13, 3), some (.boolean, 14, 3), some (.int, 15, 3), some (.int, 16, 3), some (.int, 17, 2), some (.boolean, 18, 2), some (.int, 19, 8), some (.int, 20, 56), some (.int, 22, 2)]
def tbrA (a : Nat) : Option (FieldType × Nat × Nat) := if a < 63 then none else match tbr_L[a - 63]? with
  | some x => x
  | none => none
def tbrO (am as_ : Nat) : List (Nat × Nat) := [(1000, 63), (1000, 64), (1000, 65), (1000, 66), (1000, 67), (1000, 68), (1000, 69), (1000, 70), (8, 0), (1000, am), (52, 0), (52, 1), (1000, 72), (1000, 73), (1000, 74), (1000, 75), (1000, 76), (1000, as_), (52, 2), (52, 3), (1000, 78), (1000, 79), (1000, 80), (1000, 81), (1000, 82), (1000, 83), (1000, 84), (1000, 85), (1000, 86), (1000, 87), (21, 0), (1000, 88), (23, 0)]
def tbr (am lm as_ ls : Nat) : sm_T := fun a => if a = 62 then some (.inl 11, tbrO am as_) else if a = am then some (.inr .int, (List.range lm).map (fun j => (50, j))) else if a = as_ then some (.inr .int, (List.range ls).map (fun j => (51, j))) else match tbrA a with
  | some (ty, c, n) => some (.inr ty, (List.range n).map (fun j => (c, j)))
  | none => none
/-- where the two arrays may be -/
def rk (am as_ : Nat) : Prop := am ≠ as_ ∧ (am = 71 ∨ 89 ≤ am) ∧ (as_ = 77 ∨ 89 ≤ as_)
theorem tbrA_c {a : Nat} {x : FieldType × Nat × Nat} (h : tbrA a = some x) : (a = 63 ∧ x = (.boolean, 0, 4)) ∨ (a = 64 ∧ x = (.boolean, 1, 4)) ∨ (a = 65 ∧ x = (.int, 2, 4)) ∨ (a = 66 ∧ x = (.boolean, 3, 2)) ∨ (a = 67 ∧ x = (.boolean, 4, 2)) ∨ (a = 68 ∧ x = (.boolean, 5, 2)) ∨ (a = 69 ∧ x = (.int, 6, 2)) ∨ (a = 70 ∧ x = (.int, 7, 490)) ∨ (a = 72 ∧ x = (.int, 53, 16)) ∨ (a = 73 ∧ x = (.int, 54, 16)) ∨ (a = 74 ∧ x = (.int, 55, 16)) ∨ (a = 75 ∧ x = (.int, 9, 16)) ∨ (a = 76 ∧ x = (.int, 10, 16)) ∨ (a = 78 ∧ x = (.int, 11, 3)) ∨ (a = 79 ∧ x = (.int, 12, 3)) ∨ (a = 80 ∧ x = (.boolean, 13, 3)) ∨ (a = 81 ∧ x = (.boolean, 14, 3)) ∨ (a = 82 ∧ x = (.int, 15, 3)) ∨ (a = 83 ∧ x = (.int, 16, 3)) ∨ (a = 84 ∧ x = (.int, 17, 2)) ∨ (a = 85 ∧ x = (.boolean, 18, 2)) ∨ (a = 86 ∧ x = (.int, 19, 8)) ∨ (a = 87 ∧ x = (.int, 20, 56)) ∨ (a = 88 ∧ x = (.int, 22, 2)) := by
  unfold tbrA at h
  split at h
  · cases h
  · rename_i h63
    have hl : a - 63 < 26 := by
      by_cases z : a - 63 < 26
      · exact z
      · rw [List.getElem?_eq_none (by show 26 ≤ a - 63; omega)] at h
        cases h
    obtain ⟨b, rfl⟩ : ∃ b, a = b + 63 := ⟨a - 63, by omega⟩
    rw [Nat.add_sub_cancel] at h hl
    match b, hl with
    | 0, _ => exact (Or.inl ⟨rfl, (Option.some.inj h).symm⟩)
    | 1, _ => exact (Or.inr (Or.inl ⟨rfl, (Option.some.inj h).symm⟩))
    | 2, _ => exact (Or.inr (Or.inr (Or.inl ⟨rfl, (Option.some.inj h).symm⟩)))
    | 3, _ => exact (Or.inr (Or.inr (Or.inr (Or.inl ⟨rfl, (Option.some.inj h).symm⟩))))
    | 4, _ => exact (Or.inr (Or.inr (Or.inr (Or.inr (Or.inl ⟨rfl, (Option.some.inj h).symm⟩)))))
    | 5, _ => exact (Or.inr (Or.inr (Or.inr (Or.inr (Or.inr (Or.inl ⟨rfl, (Option.some.inj h).symm⟩))))))
    | 6, _ => exact (Or.inr (Or.inr (Or.inr (Or.inr (Or.inr (Or.inr (Or.inl ⟨rfl, (Option.some.inj h).symm⟩)))))))
    | 7, _ => exact (Or.inr (Or.inr (Or.inr (Or.inr (Or.inr (Or.inr (Or.inr (Or.inl ⟨rfl, (Option.some.inj h).symm⟩))))))))
    | 8, _ => cases h
    | 9, _ => exact (Or.inr (Or.inr (Or.inr (Or.inr (Or.inr (Or.inr (Or.inr (Or.inr (Or.inl ⟨rfl, (Option.some.inj h).symm⟩)))))))))
    | 10, _ => exact (Or.inr (Or.inr (Or.inr (Or.inr (Or.inr (Or.inr (Or.inr (Or.inr (Or.inr (Or.inl ⟨rfl, (Option.some.inj h).symm⟩))))))))))
    | 11, _ => exact (Or.inr (Or.inr (Or.inr (Or.inr (Or.inr (Or.inr (Or.inr (Or.inr (Or.inr (Or.inr (Or.inl ⟨rfl, (Option.some.inj h).symm⟩)))))))))))
    | 12, _ => exact (Or.inr (Or.inr (Or.inr (Or.inr (Or.inr (Or.inr (Or.inr (Or.inr (Or.inr (Or.inr (Or.inr (Or.inl ⟨rfl, (Option.some.inj h).symm⟩))))))))))))
    | 13, _ => exact (Or.inr (Or.inr (Or.inr (Or.inr (Or.inr (Or.inr (Or.inr (Or.inr (Or.inr (Or.inr (Or.inr (Or.inr (Or.inl ⟨rfl, (Option.some.inj h).symm⟩)))))))))))))
    | 14, _ => cases h
    | 15, _ => exact (Or.inr (Or.inr (Or.inr (Or.inr (Or.inr (Or.inr (Or.inr (Or.inr (Or.inr (Or.inr (Or.inr (Or.inr (Or.inr (Or.inl ⟨rfl, (Option.some.inj h).symm⟩))))))))))))))
    | 16, _ => exact (Or.inr (Or.inr (Or.inr (Or.inr (Or.inr (Or.inr (Or.inr (Or.inr (Or.inr (Or.inr (Or.inr (Or.inr (Or.inr (Or.inr (Or.inl ⟨rfl, (Option.some.inj h).symm⟩)))))))))))))))
    | 17, _ => exact (Or.inr (Or.inr (Or.inr (Or.inr (Or.inr (Or.inr (Or.inr (Or.inr (Or.inr (Or.inr (Or.inr (Or.inr (Or.inr (Or.inr (Or.inr (Or.inl ⟨rfl, (Option.some.inj h).symm⟩))))))))))))))))
    | 18, _ => exact (Or.inr (Or.inr (Or.inr (Or.inr (Or.inr (Or.inr (Or.inr (Or.inr (Or.inr (Or.inr (Or.inr (Or.inr (Or.inr (Or.inr (Or.inr (Or.inr (Or.inl ⟨rfl, (Option.some.inj h).symm⟩)))))))))))))))))
    | 19, _ => exact (Or.inr (Or.inr (Or.inr (Or.inr (Or.inr (Or.inr (Or.inr (Or.inr (Or.inr (Or.inr (Or.inr (Or.inr (Or.inr (Or.inr (Or.inr (Or.inr (Or.inr (Or.inl ⟨rfl, (Option.some.inj h).symm⟩))))))))))))))))))
    | 20, _ => exact (Or.inr (Or.inr (Or.inr (Or.inr (Or.inr (Or.inr (Or.inr (Or.inr (Or.inr (Or.inr (Or.inr (Or.inr (Or.inr (Or.inr (Or.inr (Or.inr (Or.inr (Or.inr (Or.inl ⟨rfl, (Option.some.inj h).symm⟩)))))))))))))))))))
    | 21, _ => exact (Or.inr (Or.inr (Or.inr (Or.inr (Or.inr (Or.inr (Or.inr (Or.inr (Or.inr (Or.inr (Or.inr (Or.inr (Or.inr (Or.inr (Or.inr (Or.inr (Or.inr (Or.inr (Or.inr (Or.inl ⟨rfl, (Option.some.inj h).symm⟩))))))))))))))))))))
    | 22, _ => exact (Or.inr (Or.inr (Or.inr (Or.inr (Or.inr (Or.inr (Or.inr (Or.inr (Or.inr (Or.inr (Or.inr (Or.inr (Or.inr (Or.inr (Or.inr (Or.inr (Or.inr (Or.inr (Or.inr (Or.inr (Or.inl ⟨rfl, (Option.some.inj h).symm⟩)))))))))))))))))))))
    | 23, _ => exact (Or.inr (Or.inr (Or.inr (Or.inr (Or.inr (Or.inr (Or.inr (Or.inr (Or.inr (Or.inr (Or.inr (Or.inr (Or.inr (Or.inr (Or.inr (Or.inr (Or.inr (Or.inr (Or.inr (Or.inr (Or.inr (Or.inl ⟨rfl, (Option.some.inj h).symm⟩))))))))))))))))))))))
    | 24, _ => exact (Or.inr (Or.inr (Or.inr (Or.inr (Or.inr (Or.inr (Or.inr (Or.inr (Or.inr (Or.inr (Or.inr (Or.inr (Or.inr (Or.inr (Or.inr (Or.inr (Or.inr (Or.inr (Or.inr (Or.inr (Or.inr (Or.inr (Or.inl ⟨rfl, (Option.some.inj h).symm⟩)))))))))))))))))))))))
    | 25, _ => exact (Or.inr (Or.inr (Or.inr (Or.inr (Or.inr (Or.inr (Or.inr (Or.inr (Or.inr (Or.inr (Or.inr (Or.inr (Or.inr (Or.inr (Or.inr (Or.inr (Or.inr (Or.inr (Or.inr (Or.inr (Or.inr (Or.inr (Or.inr ⟨rfl, (Option.some.inj h).symm⟩)))))))))))))))))))))))
theorem tbrA_r {a : Nat} {x : FieldType × Nat × Nat} (h : tbrA a = some x) : 63 ≤ a ∧ a ≤ 88 ∧ a ≠ 71 ∧ a ≠ 77 := by
  have := tbrA_c h
  omega
def cpl (c : Nat) : Nat := match c with
  | 0 => 63
  | 1 => 64
  | 2 => 65
  | 3 => 66
  | 4 => 67
  | 5 => 68
  | 6 => 69
  | 7 => 70
  | 53 => 72
  | 54 => 73
  | 55 => 74
  | 9 => 75
  | 10 => 76
  | 11 => 78
  | 12 => 79
  | 13 => 80
  | 14 => 81
  | 15 => 82
  | 16 => 83
  | 17 => 84
  | 18 => 85
  | 19 => 86
  | 20 => 87
  | 22 => 88
  | _ => 0
def posr (am as_ : Nat) (d : Nat × Nat) : Nat × Nat := match d.1 with
  | 50 => (am, d.2)
  | 51 => (as_, d.2)
  | 8 => (62, 8)
  | 52 => (62, if d.2 = 0 then 10 else if d.2 = 1 then 11 else if d.2 = 2 then 18 else 19)
  | 21 => (62, 30)
  | 23 => (62, 32)
  | c => (cpl c, d.2)
theorem tr_t {am lm as_ ls a : Nat} {ty : FieldType} {c n : Nat} (hr : rk am as_) (h : tbrA a = some (ty, c, n)) : tbr am lm as_ ls a = some (.inr ty, (List.range n).map (fun j => (c, j))) := by
  obtain ⟨h1, h2, h3, h4⟩ := tbrA_r h
  obtain ⟨r1, r2, r3⟩ := hr
  unfold tbr
  rw [if_neg (by omega), if_neg (by omega), if_neg (by omega), h]
theorem tr_s {am lm as_ ls a k : Nat} {ty : FieldType} {c n : Nat} (hr : rk am as_) (h : tbrA a = some (ty, c, n)) (hk : k < n) : sm_s (tbr am lm as_ ls) a k = some (.inr ty, (c, k)) := by
  unfold sm_s
  rw [tr_t hr h]
  simp only []
  rw [rg_el hk]
theorem tr_m {am lm as_ ls : Nat} (hr : rk am as_) : tbr am lm as_ ls am = some (.inr .int, (List.range lm).map (fun j => (50, j))) := by
  obtain ⟨r1, r2, r3⟩ := hr
  unfold tbr
  rw [if_neg (by omega), if_pos rfl]
theorem tr_a {am lm as_ ls : Nat} (hr : rk am as_) : tbr am lm as_ ls as_ = some (.inr .int, (List.range ls).map (fun j => (51, j))) := by
  obtain ⟨r1, r2, r3⟩ := hr
  unfold tbr
  rw [if_neg (by omega), if_neg (fun e => r1 e.symm), if_pos rfl]
theorem tr_ms {am lm as_ ls k : Nat} (hr : rk am as_) (hk : k < lm) : sm_s (tbr am lm as_ ls) am k = some (.inr .int, (50, k)) := by
  unfold sm_s
  rw [tr_m hr]
  simp only []
  rw [rg_el hk]
theorem tr_as {am lm as_ ls k : Nat} (hr : rk am as_) (hk : k < ls) : sm_s (tbr am lm as_ ls) as_ k = some (.inr .int, (51, k)) := by
  unfold sm_s
  rw [tr_a hr]
  simp only []
  rw [rg_el hk]
theorem tr_key {am lm as_ ls a i : Nat} {hd : Nat ⊕ FieldType} {d : Nat × Nat} (hs : sm_s (tbr am lm as_ ls) a i = some (hd, d)) (h1 : d.1 < 1000) : posr am as_ d = (a, i) := by
  unfold sm_s tbr at hs
  by_cases e1 : a = 62
  · subst e1
    rw [if_pos rfl] at hs
    simp only [] at hs
    have hl : i < 33 := by
      by_cases z : i < 33
      · exact z
      · rw [List.getElem?_eq_none (by show 33 ≤ i; omega)] at hs
        cases hs
    match i, hl with
    | 0, _ => cases hs; exact absurd (show (1000 : Nat) < 1000 from h1) (by decide)
    | 1, _ => cases hs; exact absurd (show (1000 : Nat) < 1000 from h1) (by decide)
    | 2, _ => cases hs; exact absurd (show (1000 : Nat) < 1000 from h1) (by decide)
    | 3, _ => cases hs; exact absurd (show (1000 : Nat) < 1000 from h1) (by decide)
    | 4, _ => cases hs; exact absurd (show (1000 : Nat) < 1000 from h1) (by decide)
    | 5, _ => cases hs; exact absurd (show (1000 : Nat) < 1000 from h1) (by decide)
    | 6, _ => cases hs; exact absurd (show (1000 : Nat) < 1000 from h1) (by decide)
    | 7, _ => cases hs; exact absurd (show (1000 : Nat) < 1000 from h1) (by decide)
    | 8, _ => cases hs; rfl
    | 9, _ => cases hs; exact absurd (show (1000 : Nat) < 1000 from h1) (by decide)
    | 10, _ => cases hs; rfl
    | 11, _ => cases hs; rfl
    | 12, _ => cases hs; exact absurd (show (1000 : Nat) < 1000 from h1) (by decide)
    | 13, _ => cases hs; exact absurd (show (1000 : Nat) < 1000 from h1) (by decide)
    | 14, _ => cases hs; exact absurd (show (1000 : Nat) < 1000 from h1) (by decide)
    | 15, _ => cases hs; exact absurd (show (1000 : Nat) < 1000 from h1) (by decide)
    | 16, _ => cases hs; exact absurd (show (1000 : Nat) < 1000 from h1) (by decide)
    | 17, _ => cases hs; exact absurd (show (1000 : Nat) < 1000 from h1) (by decide)
    | 18, _ => cases hs; rfl
    | 19, _ => cases hs; rfl
    | 20, _ => cases hs; exact absurd (show (1000 : Nat) < 1000 from h1) (by decide)
    | 21, _ => cases hs; exact absurd (show (1000 : Nat) < 1000 from h1) (by decide)
    | 22, _ => cases hs; exact absurd (show (1000 : Nat) < 1000 from h1) (by decide)
    | 23, _ => cases hs; exact absurd (show (1000 : Nat) < 1000 from h1) (by decide)
    | 24, _ => cases hs; exact absurd (show (1000 : Nat) < 1000 from h1) (by decide)
    | 25, _ => cases hs; exact absurd (show (1000 : Nat) < 1000 from h1) (by decide)
    | 26, _ => cases hs; exact absurd (show (1000 : Nat) < 1000 from h1) (by decide)
    | 27, _ => cases hs; exact absurd (show (1000 : Nat) < 1000 from h1) (by decide)
    | 28, _ => cases hs; exact absurd (show (1000 : Nat) < 1000 from h1) (by decide)
    | 29, _ => cases hs; exact absurd (show (1000 : Nat) < 1000 from h1) (by decide)
    | 30, _ => cases hs; rfl
    | 31, _ => cases hs; exact absurd (show (1000 : Nat) < 1000 from h1) (by decide)
    | 32, _ => cases hs; rfl
  · rw [if_neg e1] at hs
    by_cases e2 : a = am
    · subst e2
      rw [if_pos rfl] at hs
      simp only [] at hs
      split at hs
      · rename_i d' hi
        simp at hs
        obtain ⟨-, rfl⟩ := hs
        rw [rg_map hi]
        rfl
      · cases hs
    · rw [if_neg e2] at hs
      by_cases e3 : a = as_
      · subst e3
        rw [if_pos rfl] at hs
        simp only [] at hs
        split at hs
        · rename_i d' hi
          simp at hs
          obtain ⟨-, rfl⟩ := hs
          rw [rg_map hi]
          rfl
        · cases hs
      · rw [if_neg e3] at hs
        cases hA : tbrA a with
        | none => rw [hA] at hs; cases hs
        | some x =>
          obtain ⟨ty, c, n⟩ := x
          rw [hA] at hs
          simp only [] at hs
          split at hs
          · rename_i d' hi
            simp at hs
            obtain ⟨-, rfl⟩ := hs
            rw [rg_map hi]
            rcases tbrA_c hA with ⟨rfl, e⟩ | ⟨rfl, e⟩ | ⟨rfl, e⟩ | ⟨rfl, e⟩ | ⟨rfl, e⟩ | ⟨rfl, e⟩ | ⟨rfl, e⟩ | ⟨rfl, e⟩ | ⟨rfl, e⟩ | ⟨rfl, e⟩ | ⟨rfl, e⟩ | ⟨rfl, e⟩ | ⟨rfl, e⟩ | ⟨rfl, e⟩ | ⟨rfl, e⟩ | ⟨rfl, e⟩ | ⟨rfl, e⟩ | ⟨rfl, e⟩ | ⟨rfl, e⟩ | ⟨rfl, e⟩ | ⟨rfl, e⟩ | ⟨rfl, e⟩ | ⟨rfl, e⟩ | ⟨rfl, e⟩
            · cases e; rfl
            · cases e; rfl
            · cases e; rfl
            · cases e; rfl
            · cases e; rfl
            · cases e; rfl
            · cases e; rfl
            · cases e; rfl
            · cases e; rfl
            · cases e; rfl
            · cases e; rfl
            · cases e; rfl
            · cases e; rfl
            · cases e; rfl
            · cases e; rfl
            · cases e; rfl
            · cases e; rfl
            · cases e; rfl
            · cases e; rfl
            · cases e; rfl
            · cases e; rfl
            · cases e; rfl
            · cases e; rfl
            · cases e; rfl
          · cases hs
theorem tbr_inj {am lm as_ ls : Nat} : sm_inj (tbr am lm as_ ls) := by
  intro a a' i i' hd hd' d h1 h2 h3
  have e1 := tr_key h1 h3
  have e2 := tr_key h2 h3
  rw [e1] at e2
  simp at e2
  exact e2
