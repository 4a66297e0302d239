/-! a row of the reference's states -/
def RS (J : sm_I) (r : Nat) (s : ms) : Prop := (∀ j, j < 48 → j ≠ 2 → j ≠ 5 → J 51 (424 * r + j) = s.1 j) ∧ J 51 (424 * r + 2) = nI s.2.1.length ∧ J 51 (424 * r + 5) = nI s.2.2.length ∧ (∀ i e, s.2.1[i]? = some e → ∀ j, j < 4 → J 51 (424 * r + 48 + 4 * i + j) = en e j) ∧ (∀ i x, s.2.2[i]? = some x → ∀ j, j < 6 → J 51 (424 * r + 176 + 6 * i + j) = wn x j)
/-- nothing but the row changes -/
def rfr (J K : sm_I) (r : Nat) : Prop := ∀ c j, ¬ (c = 51 ∧ 424 * r ≤ j ∧ j < 424 * r + 424) → K c j = J c j
theorem rfr_refl (J : sm_I) (r : Nat) : rfr J J r := fun _ _ _ => rfl
theorem rfr_trans {J K L : sm_I} {r : Nat} (a : rfr J K r) (b : rfr K L r) : rfr J L r := fun c j h => (b c j h).trans (a c j h)
theorem rfr_u {J : sm_I} {r j : Nat} {v : Int32} (h1 : 424 * r ≤ j) (h2 : j < 424 * r + 424) : rfr J (uI J 51 j v) r := by
  intro c k h
  simp only [uI]
  rw [if_neg (fun z => h ⟨z.1, by omega⟩)]
theorem rfr_c {J K : sm_I} {r c : Nat} (a : rfr J K r) (h : c ≠ 51) : K c = J c := by
  funext j
  exact a c j (fun z => h z.1)
theorem rfr_w {J K : sm_I} {r k : Nat} (a : rfr J K r) : rwi K k = rwi J k := rwi_c (rfr_c a (by omega))
theorem RS_W {J K : sm_I} {r : Nat} {s : ms} {x : ms_W} (k : RS J r s) (hn : s.2.2.length < 41) (hl : s.2.1.length ≤ 32) (h5 : K 51 (424 * r + 5) = nI (s.2.2.length + 1)) (hx : ∀ j, j < 6 → K 51 (424 * r + 176 + 6 * s.2.2.length + j) = wn x j) (ho : ∀ j, j ≠ 424 * r + 5 → (j < 424 * r + 176 + 6 * s.2.2.length ∨ 424 * r + 176 + 6 * s.2.2.length + 6 ≤ j) → K 51 j = J 51 j) : RS K r (mW s x) := by
  obtain ⟨k1, k2, k3, k4, k5⟩ := k
  refine ⟨fun j h1 h2 h3 => ?_, ?_, ?_, fun i e hi j hj => ?_, fun i y hi j hj => ?_⟩
  · rw [ho _ (by omega) (by omega)]; exact k1 j h1 h2 h3
  · rw [ho _ (by omega) (by omega)]; exact k2
  · rw [h5]; simp [mW]
  · have hi2 := (List.getElem?_eq_some_iff.mp hi).1
    have hi3 : i < s.2.1.length := hi2
    rw [ho _ (by omega) (by omega)]
    exact k4 i e hi j hj
  · have hi' : (s.2.2 ++ [x])[i]? = some y := hi
    by_cases c : i < s.2.2.length
    · rw [List.getElem?_append_left c] at hi'
      rw [ho _ (by omega) (by omega)]
      exact k5 i y hi' j hj
    · have := (List.getElem?_eq_some_iff.mp hi').1
      simp at this
      obtain rfl : i = s.2.2.length := by omega
      simp at hi'
      subst hi'
      exact hx j hj
theorem RS_E {J K : sm_I} {r : Nat} {s : ms} {e : ms_E} (k : RS J r s) (hl : s.2.1.length < 32) (h2 : K 51 (424 * r + 2) = nI (s.2.1.length + 1)) (he : ∀ j, j < 4 → K 51 (424 * r + 48 + 4 * s.2.1.length + j) = en e j) (ho : ∀ j, j ≠ 424 * r + 2 → (j < 424 * r + 48 + 4 * s.2.1.length ∨ 424 * r + 48 + 4 * s.2.1.length + 4 ≤ j) → K 51 j = J 51 j) : RS K r (s.1, s.2.1 ++ [e], s.2.2) := by
  obtain ⟨k1, k2, k3, k4, k5⟩ := k
  refine ⟨fun j h1 h2 h3 => ?_, ?_, ?_, fun i y hi j hj => ?_, fun i y hi j hj => ?_⟩
  · rw [ho _ (by omega) (by omega)]; exact k1 j h1 h2 h3
  · rw [h2]; simp
  · rw [ho _ (by omega) (by omega)]; exact k3
  · have hi' : (s.2.1 ++ [e])[i]? = some y := hi
    by_cases c : i < s.2.1.length
    · rw [List.getElem?_append_left c] at hi'
      rw [ho _ (by omega) (by omega)]
      exact k4 i y hi' j hj
    · have := (List.getElem?_eq_some_iff.mp hi').1
      simp at this
      obtain rfl : i = s.2.1.length := by omega
      simp at hi'
      subst hi'
      exact he j hj
  · rw [ho _ (by omega) (by omega)]
    exact k5 i y hi j hj
theorem RS_F {J : sm_I} {r j : Nat} {s : ms} {v : Int32} (k : RS J r s) (hj : j < 48) (h2 : j ≠ 2) (h5 : j ≠ 5) : RS (uI J 51 (424 * r + j) v) r (uF s.1 j v, s.2) := by
  obtain ⟨k1, k2, k3, k4, k5⟩ := k
  have o : ∀ i, i ≠ 424 * r + j → uI J 51 (424 * r + j) v 51 i = J 51 i := fun i hi => by simp [uI, hi]
  refine ⟨fun i h1 h2 h3 => ?_, ?_, ?_, fun i e hi q hq => ?_, fun i y hi q hq => ?_⟩
  · by_cases e : i = j
    · subst e; simp [uI, uF]
    · rw [o _ (by omega)]
      simp only [uF, if_neg e]
      exact k1 i h1 h2 h3
  · rw [o _ (by omega)]; exact k2
  · rw [o _ (by omega)]; exact k3
  · rw [o _ (by omega)]; exact k4 i e hi q hq
  · rw [o _ (by omega)]; exact k5 i y hi q hq
