theorem CD_22 {w : Nat → Bool} {e : Nat} {m0 : mg} {h : am_Hp} {I : sm_I} {Q : mQ} {Z : mZ} {X : sm_X} {ow : ow_T} {sb : Nat} (c : CD w e m0 h I Q Z X ow sb) (hv : ¬ I 16 0 = 2) : CD w e m0 h (uI (uI I 22 0 0) 22 1 0) Q Z X ow sb := by
  obtain ⟨k1, k2, k3, ⟨d1, d2, d3⟩, k5, k6, k7⟩ := c
  refine ⟨k1, k2, k3, ⟨d1, fun d hd => ?_, d3⟩, k5, k6, k7⟩
  obtain ⟨n, a, b⟩ := d2 d hd
  exact ⟨n, a, fun c => absurd c hv⟩
theorem CD_w2 {w : Nat → Bool} {e : Nat} {m0 : mg} {h : am_Hp} {I : sm_I} {Q : mQ} {Z : mZ} {X : sm_X} {ow : ow_T} {sb : Nat} (c : CD w e m0 h I Q Z X ow sb) (h0 : I 22 0 = 0) (h1 : I 22 1 = 0) : CD w e m0 h (uI I 16 0 2) Q Z (uX (uX X 206 0 (.int 0)) 206 1 (.int 0)) ow sb := by
  obtain ⟨k1, k2, k3, ⟨d1, d2, d3⟩, k5, k6, k7⟩ := c
  refine ⟨k1, fun l hl => LK_c (k2 l hl) rfl rfl rfl, k3, ⟨d1, fun d hd => ?_, d3⟩, k5, k6, k7⟩
  have : d = 0 ∨ d = 1 := by omega
  rcases this with rfl | rfl
  · exact ⟨0, rfl, fun _ => h0.symm⟩
  · exact ⟨0, rfl, fun _ => h1.symm⟩
theorem sm_f9 {ad : Nat → Nat} {h h2 : am_Hp} {I : sm_I} {X : sm_X} {k s : Nat} (hS : sm tbc h I X) (f : fr (tb9 ad) h h2 k s) (ht : ∀ i, i < 12 → tbc (ad i) = none) : sm tbc h2 I X := by
  intro a hd ds hb
  have := hS a hd ds hb
  rw [f.2.2.2 a (tb9_none.mpr (fun i hi e => by rw [← e, ht i (by omega)] at hb; cases hb)) (lt_of this)]
  exact this
theorem sm_22 {h : am_Hp} {I : sm_I} {X : sm_X} (s : sm tbc h I X) : sm tbc h (uI (uI I 22 0 0) 22 1 0) X := by
  refine sm_hid s (fun c j hc => ?_)
  have h1 : c ≠ 22 := fun e => by subst e; cases hc
  simp [uI, h1]
theorem Rq_ntb {w : Nat → Bool} {h : am_Hp} {ow : ow_T} {sb a : Nat} {ad : Nat → Nat} {S : sm_I} {Y : sm_X} {q : Nat → Int32} (hA : adk ad) (k2 : ∀ i, i < 9 → ow (ad i) = 20 + sb) (k4 : sm (tbs ad) h S Y) (oa : ow a = 1) (ha : h[a]? = some (.inl (8, rqf q))) : tbs ad a = none := by
  refine tbs_none (fun i hi e => ?_)
  subst e
  by_cases c : i < 9
  · have := k2 i c
    omega
  · have z := k4 (ad i) _ _ (tbs_at hA hi)
    rw [ha] at z
    have : i = 9 ∨ i = 10 ∨ i = 11 := by omega
    rcases this with rfl | rfl | rfl
    · simp [tbsE, sm_c] at z
    · simp [tbsE, sm_c] at z
    · simp [tbsE, sm_c] at z
theorem mpf_6 {m : ms} {t : Nat} {q1 q2 q3 kd rc vl : Int32} : (mpf m t q1 q2 q3 kd rc vl).1 (6 + t) = q1 ∧ (mpf m t q1 q2 q3 kd rc vl).1 (8 + t) = q2 := by
  unfold mpf mfi
  simp [uF]
