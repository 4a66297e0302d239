/-! what judging leaves -/
theorem mj_keep (m : ms) (t : Nat) (q1 q3 kd rc : Int32) : (mj m t q1 q3 kd rc).2.2.1 = m.2.1 ∧ (mj m t q1 q3 kd rc).2.2.2 = m.2.2 ∧ ∀ x, x < 32 → (mj m t q1 q3 kd rc).2.1 x = m.1 x := by
  have hA : (mjA m t kd rc).2.2.1 = m.2.1 ∧ (mjA m t kd rc).2.2.2 = m.2.2 ∧ ∀ x, x < 32 → (mjA m t kd rc).2.1 x = m.1 x := by
    unfold mjA
    split
    · exact ⟨rfl, rfl, fun _ _ => rfl⟩
    · split
      · exact ⟨rfl, rfl, fun _ _ => rfl⟩
      · exact ⟨rfl, rfl, fun x hx => uF_ne (by omega)⟩
  unfold mj
  split
  · exact ⟨rfl, rfl, fun _ _ => rfl⟩
  · split
    · exact ⟨rfl, rfl, fun _ _ => rfl⟩
    · split
      · exact ⟨rfl, rfl, fun _ _ => rfl⟩
      · split
        · exact ⟨rfl, rfl, fun _ _ => rfl⟩
        · split
          · exact hA
          · exact ⟨rfl, rfl, fun _ _ => rfl⟩
theorem mj_has {m : ms} {t : Nat} {q1 q3 kd rc : Int32} (h : (mj m t q1 q3 kd rc).1 = 0) (hk : ¬ kd = 0) : ¬ m.1 (14 + t) = 0 := by
  intro z
  unfold mj at h
  by_cases c1 : ¬ q1 = m.1 (6 + t) ∨ ¬ q3 = m.1 0
  · rw [if_pos c1] at h
    exact absurd (show (-9 : Int32) = 0 from h) (by decide)
  · rw [if_neg c1, if_neg hk] at h
    by_cases c2 : kd < 0 ∨ 4 < kd
    · rw [if_pos c2] at h
      exact absurd (show (-5 : Int32) = 0 from h) (by decide)
    · rw [if_neg c2, if_pos z] at h
      exact absurd (show (-2 : Int32) = 0 from h) (by decide)
theorem mj_rec {m : ms} {t : Nat} {q1 q3 kd rc : Int32} (h : (mj m t q1 q3 kd rc).1 = 0) (hk : kd = 1 ∨ kd = 2) (hr : rc < 0 ∨ 16 ≤ rc) : False := by
  have k0 : ¬ kd = 0 := by rcases hk with e | e <;> rw [e] <;> decide
  have k1 : ¬ (kd < 0 ∨ 4 < kd) := by rcases hk with e | e <;> rw [e] <;> decide
  have k2 := mj_has h k0
  unfold mj at h
  by_cases c1 : ¬ q1 = m.1 (6 + t) ∨ ¬ q3 = m.1 0
  · rw [if_pos c1] at h
    exact absurd (show (-9 : Int32) = 0 from h) (by decide)
  · rw [if_neg c1, if_neg k0, if_neg k1, if_neg k2, if_pos hk] at h
    unfold mjA at h
    rw [if_pos hr] at h
    exact absurd (show (-5 : Int32) = 0 from h) (by decide)
theorem cw_le (L : List ms_E) (t : Int32) : ∀ n, cw L t n ≤ n := by
  intro n
  induction n with
  | zero => exact Nat.le_refl _
  | succ n ih =>
    unfold cw
    split
    · split <;> omega
    · omega
theorem mtr_congr {m m2 : ms} (h : ∀ x, x < 32 → m2.1 x = m.1 x) : mtr m2 = mtr m := by
  unfold mtr
  rw [h 14 (by omega), h 15 (by omega)]
