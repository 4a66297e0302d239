theorem WB_rw {R : List ms_W} (h : RW R) : ∀ (i : Nat) (x : ms_W), R[i]? = some x → ∃ q, q < 49 ∧ x.1 = nI q := fun i x hi => by
  obtain ⟨q, a, b⟩ := h i x hi
  exact ⟨q, by omega, b⟩
theorem WB_ap {R : List ms_W} {z : ms_W} (h : ∀ (i : Nat) (x : ms_W), R[i]? = some x → ∃ q, q < 49 ∧ x.1 = nI q) (hz : ∃ q, q < 49 ∧ z.1 = nI q) : ∀ (i : Nat) (x : ms_W), (R ++ [z])[i]? = some x → ∃ q, q < 49 ∧ x.1 = nI q := fun i x hi => by
  rcases get_app hi with a | ⟨-, a⟩
  · exact h i x a
  · rw [a]; exact hz
theorem EK_ap {L : List ms_E} {e : ms_E} (h : EK L) (he : e.1 = 1 ∨ e.1 = 2 ∨ e.1 = 3) : EK (L ++ [e]) := fun i x hi => by
  rcases get_app hi with a | ⟨-, a⟩
  · exact h i x a
  · rw [a]; exact he
theorem mps_34 {s : ms} {t : Nat} {q : Nat → Int32} : (mps s t q).1 3 = 1 ∧ (mps s t q).1 4 = nI t := by
  refine ⟨mps_3, ?_⟩
  unfold mps
  simp only [uF, if_true]
/-- an operation leaves a good state -/
theorem OK_mps {s : ms} {t : Nat} {q : Nat → Int32} (ht : t < 2) (k : OK s) : OK (mps s t q) := by
  obtain ⟨k1, k2, k3, k4, k5, k6, k7, k8, k9⟩ := k
  have hc := OC_mps (q := q) ht k1
  have hsg := SG_mps (q := q) ht k1
  have hwl := OC_wl k1 hc
  obtain ⟨e3, e4⟩ := mps_34 (s := s) (t := t) (q := q)
  generalize mps s t q = s' at *
  have hb : ∀ u, u < 2 → b01 (s.1 (14 + u)) := fun u hu => by
    have : u = 0 ∨ u = 1 := by omega
    rcases this with rfl | rfl
    · exact k4.1
    · exact k4.2
  have hsl := k1.1
  obtain ⟨u, hu, hut⟩ : ∃ u, u < 2 ∧ u ≠ t := by
    by_cases c : t = 0
    · exact ⟨1, by omega, by omega⟩
    · exact ⟨0, by omega, by omega⟩
  have hbk : (∀ u, u < 2 → b01 (s'.1 (14 + u))) → bok s' := fun h => ⟨h 0 (by omega), h 1 (by omega)⟩
  have cas : ∀ v, v < 2 → v = t ∨ v = u := fun v hv => by omega
  rcases hc with ⟨z1, z2, z3, z4⟩ | ⟨q, v, bf, z0, z1, z2, z3, z4, z5, z6⟩ | ⟨R, kd, z0, z1, z2, z3, z4, z5, z6⟩
  · refine ⟨hsg, ?_, by rw [z1]; exact k3, hbk (fun u hu => ?_), by omega, Or.inr (Or.inl e3), ⟨t, ht, e4⟩, fun z => by rw [e3] at z; exact absurd z (by decide), fun u hu h => ?_⟩
    · unfold WB
      rw [z2]
      intro i x h
      simp at h
    · rcases z4 u hu with y | y
      · rw [y]; exact hb u hu
      · exact Or.inr y.1
    · rw [z1] at h
      rcases z4 u hu with y | y
      · rw [y]; exact k9 u hu h
      · rw [y.1]; decide
  · have h32 : s.2.1.length < 32 := by omega
    refine ⟨hsg, ?_, by rw [z2]; exact EK_ap k3 (Or.inl rfl), hbk (fun u hu => by rw [z5 u hu]; exact hb u hu), by omega, Or.inr (Or.inl e3), ⟨t, ht, e4⟩, fun z => by rw [e3] at z; exact absurd z (by decide), fun w hw h => ?_⟩
    · unfold WB
      rw [z3]
      exact WB_ap (WB_ap (R := []) (fun i x h => by simp at h) ⟨17 + s.2.1.length, by omega, rfl⟩) ⟨q, by omega, rfl⟩
    · rw [z5 w hw]
      rcases cas w hw with e | e
      · rw [e]; exact z6
      · rw [e] at h ⊢
        rw [z2, hoL_n (eCl_1 ht hu).1, if_neg (fun z => hut ((eCl_1 ht hu).2.mp z))] at h
        exact k9 u hu h
  · have h32 : s.2.1.length < 32 := by
      have := mtr_2 (s := s) ht hu hut
      rw [if_neg z3] at this
      omega
    have ncl : eCl ((kd, nI t, 0, 0) : ms_E) (nI u) = false := by
      cases h : eCl ((kd, nI t, 0, 0) : ms_E) (nI u) with
      | false => rfl
      | true => exact absurd ((eCl_k ht hu z0).1.mp h) hut
    have hw1 := WB_ap (WB_rw z1) (z := tw s.2.1.length (s.1 1) (kd, nI t, 0, 0)) ⟨17 + s.2.1.length, by omega, rfl⟩
    have hbb : ∀ u, u < 2 → b01 (s'.1 (14 + u)) := fun w hw => by
      rcases cas w hw with e | e
      · rw [e, z4]; exact Or.inl rfl
      · rw [e, z5 u hu hut]; exact hb u hu
    rcases z6 with ⟨y1, y2, y3⟩ | ⟨y1, y2, y3⟩
    · refine ⟨hsg, by unfold WB; rw [y3]; exact hw1, by rw [y1]; exact EK_ap k3 (Or.inr z0), hbk hbb, by omega, Or.inr (Or.inl e3), ⟨t, ht, e4⟩, fun z => by rw [e3] at z; exact absurd z (by decide), fun w hw h => ?_⟩
      rcases cas w hw with e | e
      · rw [e, y1, hoL_cl ((eCl_k ht ht z0).1.mpr rfl)] at h
        omega
      · rw [e] at h ⊢
        rw [y1, hoL_n ncl, if_neg (by rw [(eCl_k ht hu z0).2]; decide)] at h
        rw [z5 u hu hut]
        exact k9 u hu h
    · refine ⟨hsg, by unfold WB; rw [y3]; exact WB_ap hw1 ⟨16, by omega, rfl⟩, by rw [y1]; exact fun i e h => by simp at h, hbk hbb, by omega, Or.inr (Or.inl e3), ⟨t, ht, e4⟩, fun z => by rw [e3] at z; exact absurd z (by decide), fun w hw h => ?_⟩
      rw [y1, hoL_nil] at h
      omega
theorem OK_mfs {s : ms} (k : OK s) : OK (mfs s) := by
  obtain ⟨k1, k2, k3, k4, k5, k6, k7, k8, k9⟩ := k
  exact ⟨SG_mfs k1, fun i x h => by simp [mfs] at h, k3, k4, by simp [mfs], Or.inl rfl, k7, fun _ => rfl, fun u hu h => by
    show ¬ uF s.1 3 0 (14 + u) = 0
    simp only [uF]
    rw [if_neg (by omega)]
    exact k9 u hu h⟩
/-- all is written -/
theorem DR_end {X n : Nat} {f : Nat → Int32} {s : ms} (k : DR X f s n) (h : s.2.2.length ≤ n) : LG X f ∧ f 80 = s.1 1 ∧ rdL f = s.2.1 := by
  obtain ⟨f0, p, k1, k2, k3, k4, k5, k6, k7⟩ := k
  obtain rfl : p = s.2.2.length := by omega
  rw [List.take_length] at k3
  have := k4 s.2.2.length (Nat.le_refl _)
  rw [List.take_length] at this
  exact ⟨LG_c k3 this, k3.1.trans k5, (rdL_c k3).trans k6⟩
theorem DR_nil {X : Nat} {f : Nat → Int32} {s : ms} (h : s.2.2 = []) (k1 : LG X f) (k2 : f 80 = s.1 1) (k3 : rdL f = s.2.1) : DR X f s 0 := by
  refine ⟨f, 0, Nat.le_refl _, Nat.zero_le _, ?_, ?_⟩
  · simpa [apl] using lge_refl f
  · unfold GB
    rw [h]
    exact ⟨fun j _ => by simpa [apl] using k1, k2, k3, fun i j x y h => by simp at h⟩
theorem DR_0 {X : Nat} {f : Nat → Int32} {s : ms} (h : GB X f s) : DR X f s 0 := ⟨f, 0, Nat.le_refl _, Nat.zero_le _, by simpa [apl] using lge_refl f, h⟩
