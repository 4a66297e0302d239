theorem MID_d1 {X p : Nat} {M : mM} (k : MID X M) (hp : p < 4) (h0 : M.1 0 p = 0) : MID X (uI M.1 1 p 1, M.2) := by
  obtain ⟨k1, k2, k3, k4, k5, k6, k7, k8, k9, k10, k11⟩ := k
  refine ⟨fun q hq => ?_, k2, k3, k4, k5, k6, k7, k8, k9, k10, k11⟩
  obtain ⟨a1, a2, a3, a4⟩ := k1 q hq
  show b01 (M.1 0 q) ∧ b01 (uI M.1 1 p 1 1 q) ∧ (M.1 0 q = 1 → uI M.1 1 p 1 1 q = 0) ∧ (M.1 0 q = 0 → uI M.1 1 p 1 1 q = 0 → ∃ s, s < 6 ∧ M.1 2 q = nI s)
  by_cases e : q = p
  · subst e
    rw [uI_s]
    exact ⟨a1, Or.inr rfl, fun z => absurd (h0.symm.trans z) (by decide), fun _ z => absurd z (by decide)⟩
  · rw [uI_j e]
    exact ⟨a1, a2, a3, a4⟩
theorem rsa1_I {t c : Nat} {M : mM} (h1 : c ≠ 9) (h2 : c ≠ 24) (h3 : c ≠ 25) : (rsa1 t M).1 c = M.1 c := by
  unfold rsa1
  split
  · unfold rsr
    split
    · rfl
    · exact rsn_I h1 h2 h3
  · rfl
theorem rsa_I {c : Nat} {M : mM} (h1 : c ≠ 9) (h2 : c ≠ 24) (h3 : c ≠ 25) : (rsa M).1 c = M.1 c := by
  unfold rsa
  rw [rsa1_I h1 h2 h3, rsa1_I h1 h2 h3]
theorem rsa_Z {M : mM} : (rsa M).2.2 = M.2.2 := by
  have h : ∀ t (N : mM), (rsa1 t N).2.2 = N.2.2 := fun t N => by
    unfold rsa1
    split
    · unfold rsr
      split
      · rfl
      · exact rsn_Z
    · rfl
  unfold rsa
  rw [h, h]
theorem rfin_I {c : Nat} {M : mM} (h1 : c ≠ 9) (h2 : c ≠ 24) (h3 : c ≠ 25) (h4 : c ≠ 16) (h5 : c ≠ 23) : (rfin M).1 c = M.1 c := by
  unfold rfin
  show uI (rfin1 M).1 23 0 _ c = _
  rw [uI_f h5]
  have e0 : (mfin0 M).1 c = M.1 c := mfin0_I h4
  unfold rfin1
  split
  · rw [rrp_I h1 h2 h3, e0]
  · split
    · exact e0
    · rw [rsa_I h1 h2 h3, e0]
theorem rbeg_I {c : Nat} {M : mM} (h1 : c ≠ 9) (h2 : c ≠ 24) (h3 : c ≠ 25) (h4 : c ≠ 14) (h5 : c ≠ 15) (h6 : c ≠ 16) (h7 : c ≠ 20) (h8 : c ≠ 21) (h9 : c ≠ 22) : (rbeg M).1 c = M.1 c := by
  unfold rbeg
  split
  · rw [rrp_I h1 h2 h3]
    exact msh_o h7 h8
  · split
    · exact msh_o h7 h8
    · rw [rtl0_I h1 h2 h3 h4 h5 h6, mbp_I h9, msh_o h7 h8]
theorem rset_I {c : Nat} (h1 : c ≠ 9) (h2 : c ≠ 24) (h3 : c ≠ 25) (h4 : c ≠ 14) (h5 : c ≠ 15) (h6 : c ≠ 16) (h7 : c ≠ 20) (h8 : c ≠ 21) (h9 : c ≠ 22) (h10 : c ≠ 23) : ∀ n M, (rset n M).1 c = M.1 c := by
  intro n
  induction n with
  | zero => intro M; rfl
  | succ n ih =>
    intro M
    rw [rset_s]
    split
    · split
      · rw [ih, rfin_I h1 h2 h3 h6 h10]
      · rw [ih, rbeg_I h1 h2 h3 h4 h5 h6 h7 h8 h9]
    · rfl
/-- the class's and the reference's way to it -/
theorem to0_m {I : sm_I} {Q : mQ} {Z : mZ} {v : Int32} (h16 : I 16 0 = 0) (hp : prk I 0) (hn : ¬ I 11 0 = -1) (hv : v = (if (Z (rwo I 0)).1 3 = 0 then 0 else 2)) : mtos (mpri 0 (nI (ohn I 0)) (mdrp 0 (I, Q, Z))) = (to0 v I, Q, Z) := by
  obtain ⟨J, eJ⟩ : ∃ J, J = (mpri 0 (nI (ohn I 0)) (mdrp 0 (I, Q, Z))).1 := ⟨_, rfl⟩
  have e11 : J 11 0 = nI (ohn I 0) := by
    rw [eJ]
    show uI (uI (mdrp 0 (I, Q, Z)).1 11 0 (nI (ohn I 0))) 40 0 0 11 0 = _
    rw [uI_c (by decide), uI_s]
  obtain ⟨o1, o2, o3, o4, o5, o6, o7⟩ := oh_prk (J := J) (by omega) hp hn e11
  have er : row1 (mpri 0 (nI (ohn I 0)) (mdrp 0 (I, Q, Z))) 0 = (Z (rwo I 0)).1 := by
    show (Z (rwi (mpri 0 (nI (ohn I 0)) (mdrp 0 (I, Q, Z))).1 0)).1 = _
    rw [← eJ, o5]
  unfold mtos
  rw [er]
  by_cases c : (Z (rwo I 0)).1 3 = 0
  · rw [if_pos c] at hv ⊢
    subst hv
    show (_, Q, Z) = (_, Q, Z)
    congr 1
    funext a b
    simp only [to0, toI, mpri, mdrp, uI]
    grind
  · rw [if_neg c] at hv ⊢
    subst hv
    show (_, Q, Z) = (_, Q, Z)
    congr 1
    funext a b
    simp only [to0, toI, mpri, mdrp, uI]
    grind
theorem to0_r {I : sm_I} {Q : mQ} {Z : mZ} {v : Int32} (h16 : I 16 0 = 0) (h21 : I 21 0 = 0) (h23 : I 23 0 = 0) (hp : prk I 0) (hn : ¬ I 11 0 = -1) (h12 : I 12 0 = nI (ohn I 0)) (h3 : (Z (rwo I 0)).1 3 = 0 ∨ (Z (rwo I 0)).1 3 = 1 ∨ (Z (rwo I 0)).1 3 = 2) (hv : v = (if (Z (rwo I 0)).1 3 = 0 then 0 else 2)) : rto1 (rto0 0 (I, Q, Z)) = (to0 v I, Q, Z) := by
  obtain ⟨J, eJ⟩ : ∃ J, J = (rto0 0 (I, Q, Z)).1 := ⟨_, rfl⟩
  have e11 : J 11 0 = nI (ohn I 0) := by
    rw [eJ]
    show mstI 0 (uI (uI (uI (uI I 11 0 (I 12 0)) 12 0 (-1)) 13 0 0) 40 0 0) 11 0 = _
    rw [mstI_o (by decide), uI_c (by decide), uI_c (by decide), uI_c (by decide), uI_s]
    exact h12
  obtain ⟨o1, o2, o3, o4, o5, o6, o7⟩ := oh_prk (J := J) (by omega) hp hn e11
  have er : row1 (rto0 0 (I, Q, Z)) 0 = (Z (rwo I 0)).1 := by
    show (Z (rwi (rto0 0 (I, Q, Z)).1 0)).1 = _
    rw [← eJ, o5]
  have ev : (if 0 < (Z (rwo I 0)).1 3 then 2 else 0 : Int32) = v := by
    rw [hv]
    rcases h3 with e | e | e <;> rw [e] <;> decide
  unfold rto1
  rw [er, ev]
  show (_, Q, Z) = (_, Q, Z)
  congr 1
  funext a b
  simp only [rto0, mstI, to0, toI, if_true, uI]
  grind
