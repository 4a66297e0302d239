theorem fup_c {I : sm_I} {f : Nat} (h : ¬ fup I f = -1) (hf : f < 3) : ∃ p, p < 4 ∧ (p = f ∨ p = f + 1) ∧ fup I f = nI p ∧ (fup I f).toNatClampNeg = p ∧ ¬ I 0 p = 0 := by
  unfold fup at h ⊢
  by_cases c : I 0 f = 0
  · rw [if_pos c] at h ⊢
    by_cases c2 : I 0 (f + 1) = 0
    · rw [if_pos c2] at h
      exact absurd rfl h
    · rw [if_neg c2]
      exact ⟨f + 1, by omega, Or.inr rfl, rfl, nI_clamp (by omega), c2⟩
  · rw [if_neg c]
    exact ⟨f, by omega, Or.inl rfl, rfl, nI_clamp (by omega), c⟩
theorem NM_dead {X k : Nat} {M : mM} (k0 : MID X M) (hk : k < 3) (h : M.1 11 k = -1) : NM M.2.1 k := by
  intro l hl i m hi h5 hs
  obtain ⟨⟨n, a1, a2, a3⟩, -⟩ := k0.2.2.2.2.2.2.2.1 k hk
  exact (a3 l hl i m hi h5 hs).2.1 h
theorem dead {X k : Nat} {M : mM} (k0 : MID X M) (hk : k < 3) (h : M.1 11 k = -1) : lv M.1 k = false ∧ M.1 12 k = -1 ∧ M.1 13 k = 0 ∧ M.1 16 k = 0 := by
  obtain ⟨a1, a2, a3, a4, a5, a6, a7, a8⟩ := k0.2.2.1 k hk
  have hl : lv M.1 k = false := by
    unfold lv
    rw [h]
    rfl
  refine ⟨hl, ?_, a8 h, a7 hl⟩
  by_cases c : M.1 12 k = -1
  · exact c
  · exact absurd h (a5 c).2.1
theorem MID_rT {X t hm : Nat} {M : mM} (k0 : MID X M) (ht : t < 2) (h11 : M.1 11 (1 + t) = -1) (hhm : hm = 2 ∨ hm = 3) (hu : ¬ M.1 0 hm = 0) : MID (X + 1) (mrT t hm M) ∧ lv (mrT t hm M).1 (1 + t) = true ∧ (mrT t hm M).1 12 (1 + t) = -1 ∧ NM (mrT t hm M).2.1 (1 + t) := by
  have hNM := NM_dead k0 (by omega) h11
  obtain ⟨dl, d12, d13, d16⟩ := dead k0 (by omega : 1 + t < 3) h11
  obtain ⟨k1, k2, k3, k4, k5, k6, k7, k8, k9, k10, k11⟩ := MID_X (Nat.le_succ X) k0
  have k7X := k0.2.2.2.2.2.2.1
  obtain ⟨I, Q, Z⟩ := M
  simp only [] at h11 hu dl d12 d13 d16
  obtain ⟨J, eJ⟩ : ∃ J, J = uI (uI (uI (uI I 17 t (I 17 t + 1)) 18 t 0) 11 (1 + t) (nI hm)) 40 (1 + t) 0 := ⟨_, rfl⟩
  obtain ⟨r, er⟩ : ∃ r, r = 2 * (1 + t) + hm % 2 := ⟨_, rfl⟩
  have eN : mrT t hm (I, Q, Z) = (J, Q, uZ Z r (rwT (I 17 t + 1))) := by rw [eJ, er]; rfl
  rw [eN]
  have f : ∀ c, c ≠ 11 → c ≠ 17 → c ≠ 18 → c ≠ 40 → J c = I c := fun c h1 h2 h3 h4 => by rw [eJ, uI_f h4, uI_f h1, uI_f h3, uI_f h2]
  have j11 : J 11 (1 + t) = nI hm := by rw [eJ, uI_c (by decide), uI_s]
  have o11 : ∀ j, j ≠ 1 + t → J 11 j = I 11 j := fun j h => by rw [eJ, uI_c (by decide), uI_j h, uI_c (by decide), uI_c (by decide)]
  have j40 : J 40 (1 + t) = 0 := by rw [eJ, uI_s]
  have o40 : ∀ j, j ≠ 1 + t → J 40 j = I 40 j := fun j h => by rw [eJ, uI_j h, uI_c (by decide), uI_c (by decide), uI_c (by decide)]
  have j17 : J 17 t = I 17 t + 1 := by rw [eJ, uI_c (by decide), uI_c (by decide), uI_c (by decide), uI_s]
  have o17 : ∀ j, j ≠ t → J 17 j = I 17 j := fun j h => by rw [eJ, uI_c (by decide), uI_c (by decide), uI_c (by decide), uI_j h]
  have e0 := f 0 (by decide) (by decide) (by decide) (by decide)
  have e5 := f 5 (by decide) (by decide) (by decide) (by decide)
  have e10 := f 10 (by decide) (by decide) (by decide) (by decide)
  have e16 := f 16 (by decide) (by decide) (by decide) (by decide)
  have e22 := f 22 (by decide) (by decide) (by decide) (by decide)
  have hprk : prk J (1 + t) := by
    unfold prk
    rw [if_neg (by omega), if_neg (by omega), j11]
    rcases hhm with rfl | rfl
    · exact Or.inr (Or.inl rfl)
    · exact Or.inr (Or.inr rfl)
  have hpn : pn J (1 + t) = hm := by
    unfold pn
    rw [j11]
    exact nI_clamp (by omega)
  have hrw : rwi J (1 + t) = r := by
    unfold rwi
    rw [hpn, er]
  have hlv : lv J (1 + t) = true := by
    unfold lv
    rw [hpn, e0, j11]
    have : ¬ nI hm = (-1 : Int32) := nI_m1 (by omega)
    simp [this, hu]
  have hr2 : 2 ≤ r ∧ r < 6 := by omega
  have ez : ∀ i, i ≠ r → uZ Z r (rwT (I 17 t + 1)) i = Z i := fun i h => uZ_n h
  have ez2 : ∀ i, i < 2 → uZ Z r (rwT (I 17 t + 1)) i = Z i := fun i h => ez i (by omega)
  have rne : ∀ u (K : sm_I), u ≠ t → rwi K (1 + u) ≠ r ∧ rwo K (1 + u) ≠ r := fun u K h => by
    rw [er]
    unfold rwi rwo
    omega
  refine ⟨⟨K1_c e0 (f 1 (by decide) (by decide) (by decide) (by decide)) (f 2 (by decide) (by decide) (by decide) (by decide)) k1, K2_c (f 3 (by decide) (by decide) (by decide) (by decide)) (f 4 (by decide) (by decide) (by decide) (by decide)) e5 (f 6 (by decide) (by decide) (by decide) (by decide)) k2, fun k' hk' => ?_, fun u hu' => ?_, K5_p (M := (I, Q, Z)) (N := (J, Q, uZ Z r (rwT (I 17 t + 1)))) e0 e5 (o11 0 (by omega)) (congrFun e16 _) (f 20 (by decide) (by decide) (by decide) (by decide)) (f 21 (by decide) (by decide) (by decide) (by decide)) e22 (f 23 (by decide) (by decide) (by decide) (by decide)) (ez2 _ rwi_lt0) k5, fun l hl => K6_c e0 (congrFun (f 9 (by decide) (by decide) (by decide) (by decide)) _) (congrFun e10 _) (congrFun (f 24 (by decide) (by decide) (by decide) (by decide)) _) (congrFun (f 25 (by decide) (by decide) (by decide) (by decide)) _) rfl (k6 l hl), ?_, fun k' hk' => ?_, K9_p (M := (I, Q, Z)) (N := (J, Q, uZ Z r (rwT (I 17 t + 1)))) e0 e5 (f 7 (by decide) (by decide) (by decide) (by decide)) e10 (o11 0 (by omega)) (congrFun (f 12 (by decide) (by decide) (by decide) (by decide)) _) (congrFun (f 13 (by decide) (by decide) (by decide) (by decide)) _) (congrFun (f 14 (by decide) (by decide) (by decide) (by decide)) _) (congrFun (f 15 (by decide) (by decide) (by decide) (by decide)) _) (congrFun e16 _) e22 rfl ez2 k9, K10_p (M := (I, Q, Z)) (N := (J, Q, uZ Z r (rwT (I 17 t + 1)))) e10 (o11 0 (by omega)) (congrFun (f 12 (by decide) (by decide) (by decide) (by decide)) _) (congrFun (f 13 (by decide) (by decide) (by decide) (by decide)) _) (congrFun (f 14 (by decide) (by decide) (by decide) (by decide)) _) (congrFun (f 15 (by decide) (by decide) (by decide) (by decide)) _) (congrFun e16 _) rfl ez2 k10, K11_c (f 4 (by decide) (by decide) (by decide) (by decide)) e5 (f 6 (by decide) (by decide) (by decide) (by decide)) (f 7 (by decide) (by decide) (by decide) (by decide)) k11⟩, hlv, ?_, hNM⟩
  · by_cases e : k' = 1 + t
    · subst e
      show K3 J (1 + t)
      refine K3_nb hprk ?_ ?_ ?_ (Or.inl ?_) (fun z => absurd (hlv.symm.trans z) (by decide))
      · rw [f 12 (by decide) (by decide) (by decide) (by decide)]; exact d12
      · rw [f 13 (by decide) (by decide) (by decide) (by decide)]; exact d13
      · rw [f 14 (by decide) (by decide) (by decide) (by decide)]; exact (k3 (1 + t) hk').2.2.1
      · rw [e16]; exact d16
    · exact K3_p e0 (f 1 (by decide) (by decide) (by decide) (by decide)) (o11 k' e) (congrFun (f 12 (by decide) (by decide) (by decide) (by decide)) _) (congrFun (f 13 (by decide) (by decide) (by decide) (by decide)) _) (congrFun (f 14 (by decide) (by decide) (by decide) (by decide)) _) (congrFun e16 _) (o40 k' e) (k3 k' hk')
  · by_cases e : u = t
    · subst e
      intro _
      have e1 : row1 (J, Q, uZ Z r (rwT (I 17 u + 1))) (1 + u) = (rwT (I 17 u + 1)).1 := by
        show (uZ Z r (rwT (I 17 u + 1)) (rwi J (1 + u))).1 = _
        rw [hrw, uZ_s]
      have e2 : (J, Q, uZ Z r (rwT (I 17 u + 1))).1 16 (1 + u) = 0 := by
        show J 16 (1 + u) = 0
        rw [e16]
        exact d16
      rw [e1, e2]
      refine ⟨fun z => absurd z (by decide), fun _ => rfl, fun z => absurd z (by decide), ?_⟩
      show I 17 u + 1 = J 17 u
      rw [j17]
    · have e1 : J 11 (1 + u) = I 11 (1 + u) := o11 _ (by omega)
      refine K4_p (M := (I, Q, Z)) (N := (J, Q, uZ Z r (rwT (I 17 t + 1)))) e0 e1 (congrFun e16 _) (o17 u e) ?_ (k4 u hu')
      show (uZ Z r (rwT (I 17 t + 1)) (rwi J (1 + u))).1 = (Z (rwi I (1 + u))).1
      rw [ez _ (rne u J e).1, rwi_p e1]
  · obtain ⟨a1, a2, a3, a4, a5⟩ := k7
    have a5X := k7X.2.2.2.2
    refine ⟨?_, ?_, fun i h1 h2 => ?_, fun l hl i m hi hm' => ?_, fun u hu' => ?_⟩
    · show OK (uZ Z r (rwT (I 17 t + 1)) 0)
      rw [ez2 0 (by omega)]; exact a1
    · show OK (uZ Z r (rwT (I 17 t + 1)) 1)
      rw [ez2 1 (by omega)]; exact a2
    · show TB (uZ Z r (rwT (I 17 t + 1)) i)
      by_cases e : i = r
      · rw [e, uZ_s]
        exact ⟨Or.inl rfl, Or.inl rfl⟩
      · rw [ez i e]; exact a3 i h1 h2
    · obtain ⟨b1, b2⟩ := a4 l hl i m hi hm'
      refine ⟨b1, fun u hu' e => ?_⟩
      by_cases eu : u = t
      · subst eu
        exact absurd (Or.inl hm') (hNM l hl i m hi e)
      · show TB m.2 ∧ m.2.1 11 = J 17 u
        rw [o17 u eu]
        exact b2 u hu' e
    · by_cases eu : u = t
      · subst eu
        refine ⟨fun z => absurd (j40.symm.trans z) (by decide), ?_⟩
        obtain ⟨n, n1, n2⟩ := (a5X u hu').2
        refine ⟨n + 1, by omega, ?_⟩
        show J 17 u = _
        rw [j17]
        have : I 17 u = nI n := n2
        rw [this]
        exact nI_add n 1
      · have e1 : J 11 (1 + u) = I 11 (1 + u) := o11 _ (by omega)
        refine ⟨fun z => ?_, ?_⟩
        · show (uZ Z r (rwT (I 17 t + 1)) (rwo J (1 + u))).1 11 = J 17 u
          rw [ez _ (rne u J eu).2, rwo_p e1, o17 u eu]
          exact (a5 u hu').1 ((o40 (1 + u) (by omega)).symm.trans z)
        · obtain ⟨n, n1, n2⟩ := (a5 u hu').2
          exact ⟨n, n1, (o17 u eu).trans n2⟩
  · by_cases e : k' = 1 + t
    · subst e
      show K8 (X + 1) J Q (1 + t)
      obtain ⟨⟨n, a1, a2, a3⟩, -⟩ := k8 (1 + t) hk'
      obtain ⟨hnu, hnw⟩ := NM_US (by omega) hprk hNM
      refine ⟨⟨n, a1, by rw [f 15 (by decide) (by decide) (by decide) (by decide)]; exact a2, fun l hl i m hi h1 h2 => absurd h2 (hNM l hl i m hi h1)⟩, fun i j m m' u _ => absurd u (hnu i m), fun i m u => absurd u (hnu i m)⟩
    · exact K8_p e10 (o11 k' e) (congrFun (f 13 (by decide) (by decide) (by decide) (by decide)) _) (congrFun (f 15 (by decide) (by decide) (by decide) (by decide)) _) (congrFun e16 _) (o40 k' e) (k8 k' hk')
  · show J 12 (1 + t) = -1
    rw [f 12 (by decide) (by decide) (by decide) (by decide)]
    exact d12
