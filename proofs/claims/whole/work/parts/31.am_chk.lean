/-! the check of a method's code, by a program that the kernel runs -/
def am_pcs (raw : List (Nat × Instr × Nat × List Nat)) (q : Nat) : Nat := ((raw[q]?).map (fun z => z.1)).getD 0
def am_mokj (Tb : List Jvm.Cond) (cl : List vw_C) (tys : List FieldType) (T : am_T) (Y : List (MethodName × ByteArray)) (y : MethodName) (bytes : ByteArray) (code : List Instr) (raw : List (Nat × Instr × Nat × List Nat)) (j : Nat) : Bool := match code[j]?, raw[j]? with
  | some i, some (_, ri, len, hs) => decide (decode bytes (am_pcs raw j) = .ok (ri, len)) && (am_ok Tb cl tys T y.cls y.name (am_pcs raw) j ri len hs i || am_okc Tb cl T Y y.cls (am_pcs raw) j ri len hs i || am_okr ri len i)
  | _, _ => false
def am_mokr (Tb : List Jvm.Cond) (cl : List vw_C) (tys : List FieldType) (T : am_T) (Y : List (MethodName × ByteArray)) (y : MethodName) (bytes : ByteArray) (code : List Instr) (raw : List (Nat × Instr × Nat × List Nat)) (a n : Nat) : Bool := (List.range n).all (fun q => am_mokj Tb cl tys T Y y bytes code raw (a + q))
def am_mokl (Tb : List Jvm.Cond) (cl : List vw_C) (tys : List FieldType) (T : am_T) (Y : List (MethodName × ByteArray)) (y : MethodName) (bytes : ByteArray) (code : List Instr) (raw : List (Nat × Instr × Nat × List Nat)) (a : Nat) : Prop := ∀ j : Nat, a ≤ j → j < code.length → am_mokj Tb cl tys T Y y bytes code raw j = true
theorem am_mokl_nil {Tb : List Jvm.Cond} {cl : List vw_C} {tys : List FieldType} {T : am_T} {Y : List (MethodName × ByteArray)} {y : MethodName} {bytes : ByteArray} {code : List Instr} {raw : List (Nat × Instr × Nat × List Nat)} {a : Nat} (h : Nat.ble code.length a = true) : am_mokl Tb cl tys T Y y bytes code raw a := fun j h1 h2 => absurd h2 (by have := Nat.le_of_ble_eq_true h; omega)
theorem am_mokl_cons {Tb : List Jvm.Cond} {cl : List vw_C} {tys : List FieldType} {T : am_T} {Y : List (MethodName × ByteArray)} {y : MethodName} {bytes : ByteArray} {code : List Instr} {raw : List (Nat × Instr × Nat × List Nat)} {a n : Nat} (h : am_mokr Tb cl tys T Y y bytes code raw a n = true) (k : am_mokl Tb cl tys T Y y bytes code raw (a + n)) : am_mokl Tb cl tys T Y y bytes code raw a := by
  intro j h1 h2
  by_cases hj : j < a + n
  · have := List.all_eq_true.mp h (j - a) (List.mem_range.mpr (by omega))
    rw [show a + (j - a) = j by omega] at this
    exact this
  · exact k j (by omega) h2
theorem am_mok_of {Tb : List Jvm.Cond} {cl : List vw_C} {tys : List FieldType} {T : am_T} {Y : List (MethodName × ByteArray)} {y : MethodName} {bytes : ByteArray} {code : List Instr} {raw : List (Nat × Instr × Nat × List Nat)} (h : am_mokl Tb cl tys T Y y bytes code raw 0) : am_mok Tb cl tys T Y y bytes code (am_pcs raw) := by
  intro j i hi
  have h1 := h j (Nat.zero_le _) (List.getElem?_eq_some_iff.mp hi).1
  unfold am_mokj at h1
  rw [hi] at h1
  split at h1
  · rename_i i' pc ri len hs e1 e2
    cases e1
    simp only [Bool.and_eq_true, Bool.or_eq_true, decide_eq_true_eq] at h1
    refine ⟨ri, len, hs, h1.1, ?_⟩
    rcases h1.2 with (h2 | h2) | h2
    · exact Or.inl h2
    · exact Or.inr (Or.inl h2)
    · exact Or.inr (Or.inr h2)
  · cases h1
def am_Gd (q : (MethodName × ByteArray) × (List Instr × Nat × Option FieldType)) : Prop := plainName q.1.1.cls = true ∧ ∃ pcs : Nat → Nat, am_mok am_wt am_cl am_tys (am_prog (fun _ => true)) am_Y q.1.1 q.1.2 q.2.1 pcs ∧ pcs 0 = 0
