/-! the tables of the classes hold -/
def am_ty0 : Nat → FieldType := fun k => match k with
  | 0 => (.object "MirrorPairs$Network")
  | 1 => (.object "MirrorPairs$Mirror")
  | 2 => (.object "MirrorPairs$Store")
  | 3 => (.array (.object "MirrorPairs$Terminal"))
  | 4 => (.array (.object "MirrorPairs$Pair"))
  | _ => .int
theorem am_u0 : ∀ w ∈ u_ws "MirrorPairs" am_f0 6, w ∈ am_ts am_wt := by decide +kernel
theorem am_ul0 : ∀ w ∈ u_ws "MirrorPairs" am_f0 6, w ∈ lw_tbl := by decide +kernel
theorem am_n0 : ∀ a, a < 6 → ∀ b, b < 6 → a ≠ b → (am_f0 a).2.1 ≠ (am_f0 b).2.1 := by decide +kernel
theorem am_t0 : ∀ k, k < 6 → parseFieldDescriptor (am_f0 k).2.2.1 = some (am_ty0 k) := by decide +kernel
theorem am_b0 : ∀ k, k < 6 → ((am_tB[0]?).getD [])[k]? = some (defaultValue (am_ty0 k)) := by decide +kernel
def am_ty1 : Nat → FieldType := fun k => match k with
  | 0 => (.array .boolean)
  | 1 => (.array .boolean)
  | 2 => (.array .int)
  | 3 => (.array .boolean)
  | _ => (.array (.object "MirrorPairs$Link"))
theorem am_u1 : ∀ w ∈ u_ws "MirrorPairs$Network" am_f1 5, w ∈ am_ts am_wt := by decide +kernel
theorem am_ul1 : ∀ w ∈ u_ws "MirrorPairs$Network" am_f1 5, w ∈ lw_tbl := by decide +kernel
theorem am_n1 : ∀ a, a < 5 → ∀ b, b < 5 → a ≠ b → (am_f1 a).2.1 ≠ (am_f1 b).2.1 := by decide +kernel
theorem am_t1 : ∀ k, k < 5 → parseFieldDescriptor (am_f1 k).2.2.1 = some (am_ty1 k) := by decide +kernel
theorem am_b1 : ∀ k, k < 5 → ((am_tB[1]?).getD [])[k]? = some (defaultValue (am_ty1 k)) := by decide +kernel
def am_ty2 : Nat → FieldType := fun k => match k with
  | 0 => (.object "MirrorPairs$Message")
  | 1 => (.object "MirrorPairs$Message")
  | 2 => .int
  | 3 => .int
  | 4 => .int
  | 5 => .int
  | _ => .int
theorem am_u2 : ∀ w ∈ u_ws "MirrorPairs$Link" am_f2 7, w ∈ am_ts am_wt := by decide +kernel
theorem am_ul2 : ∀ w ∈ u_ws "MirrorPairs$Link" am_f2 7, w ∈ lw_tbl := by decide +kernel
theorem am_n2 : ∀ a, a < 7 → ∀ b, b < 7 → a ≠ b → (am_f2 a).2.1 ≠ (am_f2 b).2.1 := by decide +kernel
theorem am_t2 : ∀ k, k < 7 → parseFieldDescriptor (am_f2 k).2.2.1 = some (am_ty2 k) := by decide +kernel
theorem am_b2 : ∀ k, k < 7 → ((am_tB[2]?).getD [])[k]? = some (defaultValue (am_ty2 k)) := by decide +kernel
def am_ty3 : Nat → FieldType := fun k => match k with
  | 0 => (.array .boolean)
  | 1 => (.array .boolean)
  | 2 => (.array .int)
  | 3 => (.array .int)
  | _ => (.array (.array .int))
theorem am_u3 : ∀ w ∈ u_ws "MirrorPairs$Mirror" am_f3 5, w ∈ am_ts am_wt := by decide +kernel
theorem am_ul3 : ∀ w ∈ u_ws "MirrorPairs$Mirror" am_f3 5, w ∈ lw_tbl := by decide +kernel
theorem am_n3 : ∀ a, a < 5 → ∀ b, b < 5 → a ≠ b → (am_f3 a).2.1 ≠ (am_f3 b).2.1 := by decide +kernel
theorem am_t3 : ∀ k, k < 5 → parseFieldDescriptor (am_f3 k).2.2.1 = some (am_ty3 k) := by decide +kernel
theorem am_b3 : ∀ k, k < 5 → ((am_tB[3]?).getD [])[k]? = some (defaultValue (am_ty3 k)) := by decide +kernel
def am_ty4 : Nat → FieldType := fun k => match k with
  | 0 => .int
  | 1 => .int
  | 2 => .int
  | 3 => .boolean
  | 4 => .boolean
  | 5 => .boolean
  | 6 => .int
  | 7 => .int
  | 8 => (.object "MirrorPairs$StoreState")
  | 9 => (.object "MirrorPairs$StoreState")
  | 10 => (.array (.object "MirrorPairs$Request"))
  | 11 => .int
  | _ => .boolean
theorem am_u4 : ∀ w ∈ u_ws "MirrorPairs$Store" am_f4 13, w ∈ am_ts am_wt := by decide +kernel
theorem am_ul4 : ∀ w ∈ u_ws "MirrorPairs$Store" am_f4 13, w ∈ lw_tbl := by decide +kernel
theorem am_n4 : ∀ a, a < 13 → ∀ b, b < 13 → a ≠ b → (am_f4 a).2.1 ≠ (am_f4 b).2.1 := by decide +kernel
theorem am_t4 : ∀ k, k < 13 → parseFieldDescriptor (am_f4 k).2.2.1 = some (am_ty4 k) := by decide +kernel
theorem am_b4 : ∀ k, k < 13 → ((am_tB[4]?).getD [])[k]? = some (defaultValue (am_ty4 k)) := by decide +kernel
def am_ty5 : Nat → FieldType := fun k => match k with
  | 0 => .int
  | 1 => (.array .int)
  | 2 => (.array .int)
  | 3 => (.array .int)
  | 4 => (.array .int)
  | 5 => (.array .int)
  | 6 => (.array .int)
  | 7 => (.array .boolean)
  | 8 => .int
  | 9 => .int
  | 10 => (.array .int)
  | 11 => .boolean
  | 12 => (.object "MirrorPairs$Request")
  | _ => (.object "MirrorPairs$Writes")
theorem am_u5 : ∀ w ∈ u_ws "MirrorPairs$StoreState" am_f5 14, w ∈ am_ts am_wt := by decide +kernel
theorem am_ul5 : ∀ w ∈ u_ws "MirrorPairs$StoreState" am_f5 14, w ∈ lw_tbl := by decide +kernel
theorem am_n5 : ∀ a, a < 14 → ∀ b, b < 14 → a ≠ b → (am_f5 a).2.1 ≠ (am_f5 b).2.1 := by decide +kernel
theorem am_t5 : ∀ k, k < 14 → parseFieldDescriptor (am_f5 k).2.2.1 = some (am_ty5 k) := by decide +kernel
theorem am_b5 : ∀ k, k < 14 → ((am_tB[5]?).getD [])[k]? = some (defaultValue (am_ty5 k)) := by decide +kernel
def am_ty6 : Nat → FieldType := fun k => match k with
  | 0 => (.array .int)
  | 1 => (.array .int)
  | _ => .int
theorem am_u6 : ∀ w ∈ u_ws "MirrorPairs$Writes" am_f6 3, w ∈ am_ts am_wt := by decide +kernel
theorem am_ul6 : ∀ w ∈ u_ws "MirrorPairs$Writes" am_f6 3, w ∈ lw_tbl := by decide +kernel
theorem am_n6 : ∀ a, a < 3 → ∀ b, b < 3 → a ≠ b → (am_f6 a).2.1 ≠ (am_f6 b).2.1 := by decide +kernel
theorem am_t6 : ∀ k, k < 3 → parseFieldDescriptor (am_f6 k).2.2.1 = some (am_ty6 k) := by decide +kernel
theorem am_b6 : ∀ k, k < 3 → ((am_tB[6]?).getD [])[k]? = some (defaultValue (am_ty6 k)) := by decide +kernel
def am_ty7 : Nat → FieldType := fun k => match k with
  | 0 => .int
  | 1 => .int
  | 2 => .int
  | 3 => .boolean
  | 4 => .boolean
  | 5 => .boolean
  | 6 => .int
  | 7 => .int
  | 8 => .int
  | 9 => (.object "MirrorPairs$Request")
  | 10 => (.object "MirrorPairs$Answer")
  | 11 => (.object "MirrorPairs$Request")
  | 12 => (.object "MirrorPairs$Answer")
  | _ => (.object "MirrorPairs$Answer")
theorem am_u7 : ∀ w ∈ u_ws "MirrorPairs$Terminal" am_f7 14, w ∈ am_ts am_wt := by decide +kernel
theorem am_ul7 : ∀ w ∈ u_ws "MirrorPairs$Terminal" am_f7 14, w ∈ lw_tbl := by decide +kernel
theorem am_n7 : ∀ a, a < 14 → ∀ b, b < 14 → a ≠ b → (am_f7 a).2.1 ≠ (am_f7 b).2.1 := by decide +kernel
theorem am_t7 : ∀ k, k < 14 → parseFieldDescriptor (am_f7 k).2.2.1 = some (am_ty7 k) := by decide +kernel
theorem am_b7 : ∀ k, k < 14 → ((am_tB[7]?).getD [])[k]? = some (defaultValue (am_ty7 k)) := by decide +kernel
def am_ty8 : Nat → FieldType := fun k => match k with
  | 0 => .int
  | 1 => .int
  | 2 => .int
  | 3 => .int
  | 4 => .int
  | 5 => .int
  | _ => .int
theorem am_u8 : ∀ w ∈ u_ws "MirrorPairs$Request" am_f8 7, w ∈ am_ts am_wt := by decide +kernel
theorem am_ul8 : ∀ w ∈ u_ws "MirrorPairs$Request" am_f8 7, w ∈ lw_tbl := by decide +kernel
theorem am_n8 : ∀ a, a < 7 → ∀ b, b < 7 → a ≠ b → (am_f8 a).2.1 ≠ (am_f8 b).2.1 := by decide +kernel
theorem am_t8 : ∀ k, k < 7 → parseFieldDescriptor (am_f8 k).2.2.1 = some (am_ty8 k) := by decide +kernel
theorem am_b8 : ∀ k, k < 7 → ((am_tB[8]?).getD [])[k]? = some (defaultValue (am_ty8 k)) := by decide +kernel
def am_ty9 : Nat → FieldType := fun k => match k with
  | 0 => .int
  | 1 => .int
  | 2 => .int
  | 3 => .int
  | 4 => (.object "MirrorPairs$Request")
  | 5 => (.object "MirrorPairs$Answer")
  | 6 => (.object "MirrorPairs$StoreState")
  | _ => (.object "MirrorPairs$Message")
theorem am_u9 : ∀ w ∈ u_ws "MirrorPairs$Message" am_f9 8, w ∈ am_ts am_wt := by decide +kernel
theorem am_ul9 : ∀ w ∈ u_ws "MirrorPairs$Message" am_f9 8, w ∈ lw_tbl := by decide +kernel
theorem am_n9 : ∀ a, a < 8 → ∀ b, b < 8 → a ≠ b → (am_f9 a).2.1 ≠ (am_f9 b).2.1 := by decide +kernel
theorem am_t9 : ∀ k, k < 8 → parseFieldDescriptor (am_f9 k).2.2.1 = some (am_ty9 k) := by decide +kernel
theorem am_b9 : ∀ k, k < 8 → ((am_tB[9]?).getD [])[k]? = some (defaultValue (am_ty9 k)) := by decide +kernel
def am_ty10 : Nat → FieldType := fun k => match k with
  | 0 => .int
  | 1 => .int
  | 2 => .int
  | 3 => .int
  | 4 => .int
  | _ => .int
theorem am_u10 : ∀ w ∈ u_ws "MirrorPairs$Answer" am_f10 6, w ∈ am_ts am_wt := by decide +kernel
theorem am_ul10 : ∀ w ∈ u_ws "MirrorPairs$Answer" am_f10 6, w ∈ lw_tbl := by decide +kernel
theorem am_n10 : ∀ a, a < 6 → ∀ b, b < 6 → a ≠ b → (am_f10 a).2.1 ≠ (am_f10 b).2.1 := by decide +kernel
theorem am_t10 : ∀ k, k < 6 → parseFieldDescriptor (am_f10 k).2.2.1 = some (am_ty10 k) := by decide +kernel
theorem am_b10 : ∀ k, k < 6 → ((am_tB[10]?).getD [])[k]? = some (defaultValue (am_ty10 k)) := by decide +kernel
def am_ty11 : Nat → FieldType := fun k => match k with
  | 0 => (.array .boolean)
  | 1 => (.array .boolean)
  | 2 => (.array .int)
  | 3 => (.array .boolean)
  | 4 => (.array .boolean)
  | 5 => (.array .boolean)
  | 6 => (.array .int)
  | 7 => (.array .int)
  | 8 => .int
  | 9 => (.array .int)
  | 10 => .int
  | 11 => .int
  | 12 => (.array .int)
  | 13 => (.array .int)
  | 14 => (.array .int)
  | 15 => (.array .int)
  | 16 => (.array .int)
  | 17 => (.array .int)
  | 18 => .int
  | 19 => .int
  | 20 => (.array .int)
  | 21 => (.array .int)
  | 22 => (.array .boolean)
  | 23 => (.array .boolean)
  | 24 => (.array .int)
  | 25 => (.array .int)
  | 26 => (.array .int)
  | 27 => (.array .boolean)
  | 28 => (.array .int)
  | 29 => (.array .int)
  | 30 => .int
  | 31 => (.array .int)
  | _ => .boolean
theorem am_u11 : ∀ w ∈ u_ws "MirrorPairsModel" am_f11 33, w ∈ am_ts am_wt := by decide +kernel
theorem am_ul11 : ∀ w ∈ u_ws "MirrorPairsModel" am_f11 33, w ∈ lw_tbl := by decide +kernel
theorem am_n11 : ∀ a, a < 33 → ∀ b, b < 33 → a ≠ b → (am_f11 a).2.1 ≠ (am_f11 b).2.1 := by decide +kernel
theorem am_t11 : ∀ k, k < 33 → parseFieldDescriptor (am_f11 k).2.2.1 = some (am_ty11 k) := by decide +kernel
theorem am_b11 : ∀ k, k < 33 → ((am_tB[11]?).getD [])[k]? = some (defaultValue (am_ty11 k)) := by decide +kernel
theorem am_clok1 : ∀ (ci : Nat) (C : String) (F : u_T) (N : Nat), am_cl[ci]? = some (C, F, N) → (∀ w ∈ u_ws C F N, w ∈ am_ts am_wt) ∧ (∀ a, a < N → ∀ b, b < N → a ≠ b → (F a).2.1 ≠ (F b).2.1) ∧ ∃ ty0 : Nat → FieldType, (∀ k, k < N → parseFieldDescriptor (F k).2.2.1 = some (ty0 k)) ∧ ∀ fs, am_tB[ci]? = some fs → fs.length = N ∧ ∀ k, k < N → fs[k]? = some (defaultValue (ty0 k)) := by
  intro ci C F N h
  match ci, h with
  | 0, h => cases h; exact ⟨am_u0, am_n0, am_ty0, am_t0, fun fs hf => by cases hf; exact ⟨rfl, am_b0⟩⟩
  | 1, h => cases h; exact ⟨am_u1, am_n1, am_ty1, am_t1, fun fs hf => by cases hf; exact ⟨rfl, am_b1⟩⟩
  | 2, h => cases h; exact ⟨am_u2, am_n2, am_ty2, am_t2, fun fs hf => by cases hf; exact ⟨rfl, am_b2⟩⟩
  | 3, h => cases h; exact ⟨am_u3, am_n3, am_ty3, am_t3, fun fs hf => by cases hf; exact ⟨rfl, am_b3⟩⟩
  | 4, h => cases h; exact ⟨am_u4, am_n4, am_ty4, am_t4, fun fs hf => by cases hf; exact ⟨rfl, am_b4⟩⟩
  | 5, h => cases h; exact ⟨am_u5, am_n5, am_ty5, am_t5, fun fs hf => by cases hf; exact ⟨rfl, am_b5⟩⟩
  | 6, h => cases h; exact ⟨am_u6, am_n6, am_ty6, am_t6, fun fs hf => by cases hf; exact ⟨rfl, am_b6⟩⟩
  | 7, h => cases h; exact ⟨am_u7, am_n7, am_ty7, am_t7, fun fs hf => by cases hf; exact ⟨rfl, am_b7⟩⟩
  | 8, h => cases h; exact ⟨am_u8, am_n8, am_ty8, am_t8, fun fs hf => by cases hf; exact ⟨rfl, am_b8⟩⟩
  | 9, h => cases h; exact ⟨am_u9, am_n9, am_ty9, am_t9, fun fs hf => by cases hf; exact ⟨rfl, am_b9⟩⟩
  | 10, h => cases h; exact ⟨am_u10, am_n10, am_ty10, am_t10, fun fs hf => by cases hf; exact ⟨rfl, am_b10⟩⟩
  | 11, h => cases h; exact ⟨am_u11, am_n11, am_ty11, am_t11, fun fs hf => by cases hf; exact ⟨rfl, am_b11⟩⟩
  | ci + 12, h => simp [am_cl] at h
theorem am_clok2 : ∀ (C : String) (ci : Nat), ci ∈ am_tS C → ∃ r : vw_C, am_cl[ci]? = some r ∧ (r.1 = C ∨ Cond.castable r.1 C ∈ am_wt) := by
  intro C ci h
  unfold am_tS at h
  split at h
  · rename_i hC
    subst hC
    rcases List.mem_cons.mp h with rfl | h
    · exact ⟨_, rfl, Or.inr (List.mem_of_getElem? (i := 1365) (by decide +kernel))⟩
    · rw [List.mem_singleton.mp h]
      exact ⟨_, rfl, Or.inr (List.mem_of_getElem? (i := 1366) (by decide +kernel))⟩
  · split at h
    · rename_i hC
      rw [List.mem_singleton.mp h, hC]
      exact ⟨_, rfl, Or.inl rfl⟩
    · split at h
      · rename_i hC
        rw [List.mem_singleton.mp h, hC]
        exact ⟨_, rfl, Or.inl rfl⟩
      · split at h
        · rename_i hC
          rw [List.mem_singleton.mp h, hC]
          exact ⟨_, rfl, Or.inl rfl⟩
        · cases h
theorem am_clok_all : am_clok am_wt (am_prog (fun _ => true)) am_cl := ⟨am_clok1, am_clok2⟩
