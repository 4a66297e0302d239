/-! the two constructors, run by the kernel -/
theorem am_jf_prog (w : Nat → Bool) : am_jf (am_prog w) := by
  refine ⟨?_, ?_, ?_, ?_⟩
  · intro n cs k ty h
    have : ∀ q ∈ am_tF, 999 ∉ q.1 := by decide +kernel
    exact this _ (List.mem_of_getElem? h)
  · intro C h
    have h : 999 ∈ am_tS C := h
    unfold am_tS at h
    split at h
    · exact absurd h (by decide)
    · split at h
      · exact absurd h (by decide)
      · split at h
        · exact absurd h (by decide)
        · split at h
          · exact absurd h (by decide)
          · cases h
  · intro t ys ns az h
    have : ∀ q ∈ am_tI, 999 ∉ q.1 ∧ 999 ∉ q.2.1 := by decide +kernel
    exact this _ (List.mem_of_getElem? h)
  · intro n kd k ms h
    have : ∀ q ∈ am_tK, q.2.2.lookup 999 = none := by decide +kernel
    exact this _ (List.mem_of_getElem? h)
/-- the heap behind the class's constructor, behind the reference's, but for the first cell -/
def am_s1 : am_Hp := (((am_call am_T0 2000 8 0 [.ref 1] [am_jk, .inl (0, [.null, .null, .null, .null, .null, .int 0])]).map (fun q => q.2)).getD []).tail
def am_s2 : am_Hp := (((am_call am_T0 3000 8 121 [.ref 62] (am_jk :: am_s1 ++ [.inl (11, [.null, .null, .null, .null, .null, .null, .null, .null, .int 0, .null, .int 0, .int 0, .null, .null, .null, .null, .null, .null, .int 0, .int 0, .null, .null, .null, .null, .null, .null, .null, .null, .null, .null, .int 0, .null, .int 0])])).map (fun q => q.2)).getD []).tail
set_option maxRecDepth 100000 in
theorem am_init1 : am_call am_T0 2000 8 0 [.ref 1] [am_jk, .inl (0, [.null, .null, .null, .null, .null, .int 0])] = some (none, am_jk :: am_s1) := by decide +kernel
set_option maxRecDepth 100000 in
theorem am_init2 : am_call am_T0 3000 8 121 [.ref 62] (am_jk :: (am_s1 ++ [.inl (11, [.null, .null, .null, .null, .null, .null, .null, .null, .int 0, .null, .int 0, .int 0, .null, .null, .null, .null, .null, .null, .int 0, .int 0, .null, .null, .null, .null, .null, .null, .null, .null, .null, .null, .int 0, .null, .int 0])])) = some (none, am_jk :: am_s2) := by decide +kernel
theorem am_s1_len : am_s1.length = 61 := by decide +kernel
theorem am_s2_len : am_s2.length = 88 := by decide +kernel
/-- the claim's statement on AM, out of a relation -/
def am_keeps (sv : List Value) (Rel : Nat → am_Hp → Prop) : Prop := (∀ n h, Rel n h → am_base sv h) ∧ (∀ n h, n ≤ 512 → Rel n h → h.length ≤ 600001 ∧ am_sl h ≤ 7302249) ∧ (∀ n h, n < 512 → Rel n h → Rel (n + 1) h)
    ∧ (∀ a b c e : Int32, am_one sv Rel 9 123 [.int a, .int b, .int c, .int e])
    ∧ (am_one sv Rel 30 168 [])
    ∧ (∀ a b c : Int32, (c = 0 ∨ c = 1) → am_one sv Rel 78 176 [.int a, .int b, .int c])
    ∧ (∀ a b : Int32, am_one sv Rel 89 184 [.int a, .int b])
    ∧ (∀ a : Int32, am_one sv Rel 90 137 [.int a])
    ∧ (am_one sv Rel 94 155 [])
    ∧ (∀ a b : Int32, am_one sv Rel 96 156 [.int a, .int b])
    ∧ (∀ a b : Int32, am_one sv Rel 106 162 [.int a, .int b])
    ∧ (∀ a b : Int32, am_one sv Rel 109 185 [.int a, .int b])
    ∧ (∀ a b : Int32, am_one sv Rel 110 186 [.int a, .int b])
    ∧ (∀ a b : Int32, am_one sv Rel 114 188 [.int a, .int b])
    ∧ (∀ a b c : Int32, am_one sv Rel 117 189 [.int a, .int b, .int c])
    ∧ (∀ a b c : Int32, am_one sv Rel 118 190 [.int a, .int b, .int c])
    ∧ (∀ a b : Int32, am_one sv Rel 120 191 [.int a, .int b])
theorem am_hA {Rel : List Value → Nat → am_Hp → Prop} (hK : ∀ sv, (∀ v ∈ sv, ∃ x : Int32, v = .int x) → sv.length ≤ 2560 → am_keeps sv (Rel sv) ∧ Rel sv 0 (.inr (.int, sv) :: am_s2)) :
    ∀ vs : List Int32, vs.length ≤ 2560 → am_Go am_T0 12 am_c192 (some .boolean) 0 (am_en [.ref 0] 4) [] [.inr (.int, vs.map Value.int)] (fun r h' => r = some (.int 1) ∧ h'.length ≤ 600001 ∧ am_sl h' ≤ 7302249) := by
  intro vs hvs
  generalize hsv : vs.map Value.int = sv
  have hs : ∀ v ∈ sv, ∃ x : Int32, v = .int x := by
    intro v hv
    rw [← hsv] at hv
    obtain ⟨x, -, rfl⟩ := List.mem_map.mp hv
    exact ⟨x, rfl⟩
  have hl : sv.length ≤ 2560 := by rw [← hsv, List.length_map]; exact hvs
  obtain ⟨⟨k1, k2, k3, p0, p1, p2, p3, p4, p5, p6, p7, p8, p9, p10, p11, p12, p13⟩, hR⟩ := hK sv hs hl
  refine go_new (pc' := 1) rfl rfl rfl ?_
  refine go_s (pc' := 2) rfl rfl rfl rfl ?_
  refine go_callI (a := 1) (ci := 0) (rest := [.ref 1]) (pc' := 3) (P := fun r h' => r = none ∧ h' = .inr (.int, sv) :: am_s1) rfl rfl rfl (Nat.le_of_ble_eq_true rfl) rfl rfl rfl rfl rfl (ev_deep (ev_junk (am_jf_prog _) am_init1 ⟨rfl, rfl⟩) (by omega)) (fun r h' hp => ?_)
  obtain ⟨rfl, rfl⟩ := hp
  refine go_s (pc' := 4) (lo' := [some (.ref 0), some (.ref 1), none, none]) rfl rfl rfl rfl ?_
  refine go_new (pc' := 5) (fs := [.null, .null, .null, .null, .null, .null, .null, .null, .int 0, .null, .int 0, .int 0, .null, .null, .null, .null, .null, .null, .int 0, .int 0, .null, .null, .null, .null, .null, .null, .null, .null, .null, .null, .int 0, .null, .int 0]) rfl rfl rfl ?_
  have e62 : ((.inr (.int, sv) :: am_s1 : am_Hp)).length = 62 := by rw [List.length_cons, am_s1_len]
  rw [e62]
  refine go_s (pc' := 6) rfl rfl rfl rfl ?_
  have c62 : ((.inr (.int, sv) :: am_s1) ++ [.inl (11, [.null, .null, .null, .null, .null, .null, .null, .null, .int 0, .null, .int 0, .int 0, .null, .null, .null, .null, .null, .null, .int 0, .int 0, .null, .null, .null, .null, .null, .null, .null, .null, .null, .null, .int 0, .null, .int 0])] : am_Hp)[62]? = some (.inl (11, [.null, .null, .null, .null, .null, .null, .null, .null, .int 0, .null, .int 0, .int 0, .null, .null, .null, .null, .null, .null, .int 0, .int 0, .null, .null, .null, .null, .null, .null, .null, .null, .null, .null, .int 0, .null, .int 0])) := by
    rw [List.getElem?_append_right (by rw [e62]; exact Nat.le_refl _), e62]
    rfl
  refine go_callI (a := 62) (ci := 11) (rest := [.ref 62]) (pc' := 7) (P := fun r h' => r = none ∧ h' = .inr (.int, sv) :: am_s2) rfl rfl rfl (Nat.le_of_ble_eq_true rfl) rfl c62 rfl rfl rfl (ev_deep (ev_junk (am_jf_prog _) am_init2 ⟨rfl, rfl⟩) (by omega)) (fun r h' hp => ?_)
  obtain ⟨rfl, rfl⟩ := hp
  refine go_s (pc' := 8) (lo' := [some (.ref 0), some (.ref 1), some (.ref 62), none]) rfl rfl rfl rfl ?_
  refine go_s (pc' := 9) rfl rfl rfl rfl ?_
  refine go_s (pc' := 10) (lo' := [some (.ref 0), some (.ref 1), some (.ref 62), some (.int (nI (5 * 0)))]) rfl rfl rfl (by rfl) ?_
  exact am_loop hs hl k1 k2 k3 p0 p1 p2 p3 p4 p5 p6 p7 p8 p9 p10 p11 p12 p13 512 0 _ (by omega) (by omega) (by omega) hR
