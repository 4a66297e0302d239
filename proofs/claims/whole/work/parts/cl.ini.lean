/-! the beginning -/
def I00 : sm_I := fun c j => if c = 0 ∨ c = 3 ∨ c = 4 ∨ c = 5 then 1 else if c = 7 then (if j = 80 ∨ j = 81 ∨ j = 325 ∨ j = 326 then 1 else 0) else if c = 11 then (if j = 0 then 0 else if j = 1 then 2 else 3) else if c = 12 then (if j = 0 then 1 else if j = 1 then 3 else 2) else if c = 24 ∨ c = 25 then -1 else if c = 40 then 1 else 0
def Z00 : mZ := fun i => if i < 2 then mN else (fun j => if j = 5 then 1 else 0, [], [])
def M00 : mM := (I00, fun _ => [], Z00)
theorem mN_OK : OK mN := by
  refine ⟨⟨by decide, fun i e h => by simp [mN] at h, fun i e h => by simp [mN] at h⟩, fun i x h => by simp [mN] at h, fun i e h => by simp [mN] at h, ⟨Or.inl rfl, Or.inl rfl⟩, by decide, Or.inl rfl, ⟨0, by decide, rfl⟩, fun _ => rfl, fun u _ h => ?_⟩
  have : hoL mN.2.1 (nI u) = 0 := hoL_nil
  omega
theorem d00 {d j : Nat} (hd : d < 2) (hj : j < 245) : dsk I00 d j = if j = 80 ∨ j = 81 then 1 else 0 := by
  have : dsk I00 d j = if 245 * d + j = 80 ∨ 245 * d + j = 81 ∨ 245 * d + j = 325 ∨ 245 * d + j = 326 then 1 else 0 := rfl
  rw [this]
  have h : d = 0 ∨ d = 1 := by omega
  rcases h with rfl | rfl
  · by_cases c : j = 80 ∨ j = 81
    · rw [if_pos c, if_pos (by omega)]
    · rw [if_neg c, if_neg (by omega)]
  · by_cases c : j = 80 ∨ j = 81
    · rw [if_pos c, if_pos (by omega)]
    · rw [if_neg c, if_neg (by omega)]
theorem rd00 {d : Nat} (hd : d < 2) : rdL (dsk I00 d) = [] := by
  have h80 : dsk I00 d 80 = nI 1 := by
    rw [d00 hd (by omega)]
    rfl
  have : rd (dsk I00 d) (dsk I00 d 80) 32 0 = 0 := by
    refine rd_eq _ _ 32 0 0 (by omega) (by omega) (fun i h1 h2 => by omega) (fun _ => ?_)
    rw [h80, d00 hd (by omega)]
    decide
  unfold rdL
  rw [this]
  rfl
theorem LG00 {d : Nat} (hd : d < 2) : LG 1 (dsk I00 d) := by
  have h80 : dsk I00 d 80 = nI 1 := by
    rw [d00 hd (by omega)]
    rfl
  refine ⟨1, by omega, h80, fun i hi => ⟨0, ?_, by omega, fun _ => by omega⟩, ?_, ?_, ?_, ?_⟩
  · rw [d00 hd (by omega), if_neg (by omega)]
    rfl
  · rw [rd00 hd, hoL_nil, hoL_nil]
    decide
  · rw [rd00 hd]; exact fun i e h => by simp at h
  · rw [rd00 hd]; exact fun i e h => by simp at h
  · rw [rd00 hd]; exact fun i e h => by simp at h
theorem XV_0 : XV 1 M00 := by
  have hlv : ∀ k, k < 3 → lv I00 k = true := fun k hk => by
    have : k = 0 ∨ k = 1 ∨ k = 2 := by omega
    rcases this with rfl | rfl | rfl <;> decide
  have hu : ∀ k i y, ¬ US I00 (fun _ => []) k i y := fun k i y u => by
    have := u.1
    simp at this
  have hw : ∀ k i y, ¬ UW I00 (fun _ => []) k i y := fun k i y u => by
    have := u.1
    simp at this
  have hz : ∀ i, i < 2 → Z00 i = mN := fun i hi => if_pos hi
  have hdr : ∀ d, d < 2 → ∀ i, i < 2 → DR 1 (dsk I00 d) (Z00 i) 0 := fun d hd i hi => by
    rw [hz i hi]
    refine DR_nil rfl (LG00 hd) ?_ ?_
    · rw [d00 hd (by omega)]
      rfl
    · rw [rd00 hd]
      rfl
  refine ⟨⟨⟨fun p hp => ⟨Or.inr rfl, Or.inl rfl, fun _ => rfl, fun z => absurd (show (1 : Int32) = 0 from z) (by decide)⟩, ⟨fun d hd => ⟨Or.inr rfl, Or.inr rfl, Or.inr rfl, fun z => absurd (show (1 : Int32) = 0 from z) (by decide)⟩, fun _ _ => ⟨rfl, rfl⟩, Or.inl rfl⟩, fun k hk => ?_, fun t ht => fun _ => ?_, ?_, fun l hl => ?_, ?_, fun k hk => ?_, fun d hd _ => ?_, ?_, fun d hd z => absurd (show (1 : Int32) = 0 from z) (by decide)⟩, ?_⟩, ?_, fun p hp z => absurd (show (1 : Int32) = 0 from z) (by decide)⟩
  · have h := hlv k hk
    have : k = 0 ∨ k = 1 ∨ k = 2 := by omega
    refine ⟨?_, Or.inl rfl, Or.inl rfl, Or.inl rfl, fun _ => ⟨rfl, ?_, rfl, ?_⟩, fun z => absurd (show (0 : Int32) = 1 from z) (by decide), fun _ => rfl, fun _ => rfl⟩
    · rcases this with rfl | rfl | rfl
      · exact Or.inr (Or.inl rfl)
      · exact Or.inr (Or.inl rfl)
      · exact Or.inr (Or.inr rfl)
    · rcases this with rfl | rfl | rfl <;> decide
    · rcases this with rfl | rfl | rfl <;> decide
  · have : t = 0 ∨ t = 1 := by omega
    rcases this with rfl | rfl <;> exact ⟨fun z => absurd (show (0 : Int32) = 2 from z) (by decide), fun _ => rfl, fun z => absurd (show (0 : Int32) = 1 from z) (by decide), rfl⟩
  · exact ⟨fun _ => ⟨fun _ => rfl, fun _ => rfl⟩, fun z => absurd (show (0 : Int32) = 1 from z) (by decide), Or.inl rfl, fun z => absurd (show (0 : Int32) = 1 from z) (by decide), fun z => absurd ((hlv 0 (by omega)).symm.trans z) (by decide), ⟨0, by omega, rfl, fun k hk => by omega⟩, fun z => absurd (show (0 : Int32) = 2 from z) (by decide)⟩
  · exact ⟨fun z => absurd rfl z, fun _ => ⟨rfl, rfl⟩, Or.inl rfl, Or.inl rfl, fun i m h => by simp [M00] at h, 0, 0, by omega, rfl, rfl, by omega, by simp, by simp [M00], fun i m h => by simp [M00] at h⟩
  · refine ⟨mN_OK, mN_OK, fun i h1 h2 => ?_, fun l hl i m h => by simp [M00] at h, fun t ht => ⟨fun _ => ?_, ⟨0, by omega, rfl⟩⟩⟩
    · show TB (Z00 i)
      unfold Z00
      rw [if_neg (by omega)]
      exact ⟨Or.inl rfl, Or.inl rfl⟩
    · have : t = 0 ∨ t = 1 := by omega
      rcases this with rfl | rfl <;> rfl
  · exact ⟨⟨0, by omega, rfl, fun l hl i m h => by simp [M00] at h⟩, fun i j m m' u _ => absurd u (hu k i m), fun i m u => absurd u (hu k i m)⟩
  · refine ⟨LG00 hd, fun _ => ⟨0, hdr d hd _ rwi_lt0, fun z => absurd (show (0 : Int32) = 2 from z) (by decide)⟩, fun _ => hdr d hd _ (by unfold rwo; omega), fun _ i m u => absurd u (hu 0 i m), fun _ _ i m u => absurd u (hw 0 i m)⟩
  · exact ⟨fun z => absurd (show (0 : Int32) = 2 from z) (by decide), fun _ => ⟨fun i m u => absurd u (hu 0 i m), fun i m u => absurd u (hw 0 i m)⟩⟩
  · exact ⟨fun _ z => absurd (show (0 : Int32) = 2 from z) (by decide), fun _ _ => rfl⟩
  · intro k hk p hp z
    exact absurd (show (0 : Int32) = 1 from z) (by decide)
