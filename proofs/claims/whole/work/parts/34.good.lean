/-- every method of the program holds -/
theorem am_zip : am_Y.zip am_tM = am_z0 ++ (am_z1 ++ (am_z2 ++ (am_z3 ++ (am_z4 ++ (am_z5 ++ (am_z6 ++ (am_z7 ++ (am_z8 ++ (am_z9 ++ (am_z10 ++ (am_z11 ++ (am_z12)))))))))))) := by rfl
theorem am_good_all : ∀ (mm : Nat) (y : MethodName) (bytes : ByteArray) (code : List Instr) (nL : Nat) (rt : Option FieldType), am_Y[mm]? = some (y, bytes) → am_tM[mm]? = some (code, nL, rt) → am_Gd ((y, bytes), (code, nL, rt)) := by
  intro mm y bytes code nL rt h1 h2
  have h : ((y, bytes), (code, nL, rt)) ∈ am_Y.zip am_tM := by
    apply List.mem_of_getElem? (i := mm)
    rw [List.getElem?_zip_eq_some]
    exact ⟨h1, h2⟩
  rw [am_zip] at h
  rcases List.mem_append.mp h with h | h
  · exact am_g0 _ h
  rcases List.mem_append.mp h with h | h
  · exact am_g1 _ h
  rcases List.mem_append.mp h with h | h
  · exact am_g2 _ h
  rcases List.mem_append.mp h with h | h
  · exact am_g3 _ h
  rcases List.mem_append.mp h with h | h
  · exact am_g4 _ h
  rcases List.mem_append.mp h with h | h
  · exact am_g5 _ h
  rcases List.mem_append.mp h with h | h
  · exact am_g6 _ h
  rcases List.mem_append.mp h with h | h
  · exact am_g7 _ h
  rcases List.mem_append.mp h with h | h
  · exact am_g8 _ h
  rcases List.mem_append.mp h with h | h
  · exact am_g9 _ h
  rcases List.mem_append.mp h with h | h
  · exact am_g10 _ h
  rcases List.mem_append.mp h with h | h
  · exact am_g11 _ h
  exact am_g12 _ h
