/-! a restart's state, as it is read from a disc -/
def rd (f : Nat → Int32) (g : Int32) : Nat → Nat → Nat
  | 0, n => n
  | k + 1, n => if f (85 + 5 * n) = g then rd f g k (n + 1) else n
theorem rd_le (f : Nat → Int32) (g : Int32) : ∀ k n, rd f g k n ≤ n + k := by
  intro k
  induction k with
  | zero => intro n; exact Nat.le_refl _
  | succ k ih =>
    intro n
    unfold rd
    split
    · have := ih (n + 1); omega
    · omega
def rdL (f : Nat → Int32) : List ms_E := (List.range (rd f (f 80) 32 0)).map (fun i => (f (86 + 5 * i), f (87 + 5 * i), f (88 + 5 * i), f (89 + 5 * i)))
def mr1 (f : Nat → Int32) : ms := (fun j => if j = 0 then f 81 + 1 else if j = 1 then f 80 else if j = 6 then -1 else if 16 ≤ j ∧ j < 32 then f (5 * (j - 16)) else if 32 ≤ j ∧ j < 48 then -1 else 0, rdL f, [])
def mr2 (f : Nat → Int32) : ms := if hop (mr1 f) 0 = true then mB (mr1 f) 0 else mr1 f
def mr3 (f : Nat → Int32) : ms := (uF (mr2 f).1 7 (-1), (mr2 f).2.1, (mr2 f).2.2)
def mr4 (f : Nat → Int32) : ms := if hop (mr3 f) 1 = true then mB (mr3 f) 1 else mr3 f
def mrs (f : Nat → Int32) : ms := mG (mr4 f)
/-- there is room for what a restart does -/
def mrk (f : Nat → Int32) : Prop := rok (rdL f) 0 ∧ (hop (mr1 f) 0 = true → (rdL f).length < 32) ∧ rok (mr3 f).2.1 1 ∧ (mr3 f).2.1.length ≤ 32 ∧ (hop (mr3 f) 1 = true → (mr3 f).2.1.length < 32 ∧ (mr3 f).2.2.length + cw (mr3 f).2.1 1 (mr3 f).2.1.length ≤ 33) ∧ (mr4 f).2.2.length < 35
/-- the class's cells, with the records of a disc -/
def SD (f : Nat → Int32) (n : Nat) : sm_I := fun c j => if c = 5 ∧ j < n then f (5 * j) else SL 16 c j
theorem SD_s {f : Nat → Int32} {n : Nat} : uI (SD f n) 5 n (f (n * 5)) = SD f (n + 1) := by
  funext c j
  simp only [uI, SD]
  by_cases h : c = 5
  · subst h
    by_cases h2 : j = n
    · subst h2; simp [Nat.mul_comm]
    · by_cases h3 : j < n
      · have : j < n + 1 := by omega
        simp [h2, h3, this]
      · have : ¬ j < n + 1 := by omega
        simp [h2, h3, this]
  · simp [h]
theorem SD_0 {f : Nat → Int32} : SD f 0 = SL 16 := by
  funext c j
  simp [SD]
/-- and with its trail -/
def SE (f : Nat → Int32) : sm_I := uI (uC (uI (uI (uI (SD f 16) 0 1 (f 80)) 0 0 (f 81 + 1)) 0 2 (nI (rd f (f 80) 32 0))) 8 0 (rd f (f 80) 32 0 * 5) (fun j => f (85 + j))) 1 0 (-1)
theorem sc_rd (f : Nat → Int32) : sc (SE f) (mr1 f) := by
  have hl : (rdL f).length = rd f (f 80) 32 0 := by simp [rdL]
  refine ⟨rfl, rfl, ?_, rfl, ?_, ?_, ?_, ?_, ?_⟩
  · show nI _ = nI (rdL f).length
    rw [hl]
  · intro t ht
    match t, ht with
    | 0, _ => exact ⟨rfl, rfl, rfl, rfl, rfl⟩
    | 1, _ => exact ⟨rfl, rfl, rfl, rfl, rfl⟩
  · intro k hk
    constructor
    · show SD f 16 5 k = _
      simp only [SD, mr1]
      rw [if_pos ⟨trivial, hk⟩, if_neg (by omega), if_neg (by omega), if_neg (by omega), if_pos (by omega)]
      congr 1
      omega
    · show SL 16 6 k = _
      simp only [SL, mr1]
      rw [if_pos ⟨trivial, hk⟩, if_neg (by omega), if_neg (by omega), if_neg (by omega), if_neg (by omega), if_pos (by omega)]
  · intro i e hi j hj
    have hil : i < rd f (f 80) 32 0 := by have := (List.getElem?_eq_some_iff.mp hi).1; rw [show (mr1 f).2.1 = rdL f from rfl, hl] at this; exact this
    have he : e = (f (86 + 5 * i), f (87 + 5 * i), f (88 + 5 * i), f (89 + 5 * i)) := by
      have : (rdL f)[i]? = some e := hi
      rw [rdL, List.getElem?_map, List.getElem?_range hil] at this
      simpa using this.symm
    subst he
    have : SE f 8 (5 * i + 1 + j) = f (85 + (5 * i + 1 + j)) := by
      simp only [SE, uI, uC]
      rw [if_neg (by omega), if_pos ⟨trivial, by omega, by omega⟩]
      rfl
    rw [this]
    match j, hj with
    | 0, _ => show _ = f (86 + 5 * i); congr 1; omega
    | 1, _ => show _ = f (87 + 5 * i); congr 1; omega
    | 2, _ => show _ = f (88 + 5 * i); congr 1; omega
    | 3, _ => show _ = f (89 + 5 * i); congr 1; omega
  · intro i x hi
    simp [mr1] at hi
  · intro q _ _
    rfl
