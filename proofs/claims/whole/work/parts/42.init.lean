/-! the two constructors, run by the kernel -/
theorem am_jf_prog (w : Nat → Bool) : am_jf (am_prog w) := by
  refine ⟨?_, ?_, ?_, ?_⟩
  · intro n cs k ty h
    have : ∀ q ∈ am_tF, 999 ∉ q.1 := by decide +kernel
    exact this _ (List.mem_of_getElem? h)
  · intro C h
    have h : 999 ∈ am_tS C := h
    unfold am_tS at h
    split at h
    · exact absurd h (by decide)
    · split at h
      · exact absurd h (by decide)
      · split at h
        · exact absurd h (by decide)
        · split at h
          · exact absurd h (by decide)
          · cases h
  · intro t ys ns az h
    have : ∀ q ∈ am_tI, 999 ∉ q.1 ∧ 999 ∉ q.2.1 := by decide +kernel
    exact this _ (List.mem_of_getElem? h)
  · intro n kd k ms h
    have : ∀ q ∈ am_tK, q.2.2.lookup 999 = none := by decide +kernel
    exact this _ (List.mem_of_getElem? h)
def am_h1 : am_Hp := ((am_call (am_prog (fun _ => true)) 2000 8 0 [.ref 1] [am_jk, .inl (0, [.null, .null, .null, .null, .null, .int 0])]).map (fun q => q.2)).getD []
set_option maxRecDepth 100000 in
theorem am_h1_len : am_h1.length = 62 := by decide +kernel
