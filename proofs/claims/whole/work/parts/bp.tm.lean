theorem rw_t {I : sm_I} {t u : Nat} (h : u ≠ t) : rwi I (1 + u) ≠ rwi I (1 + t) ∧ rwo I (1 + u) ≠ rwi I (1 + t) := by
  unfold rwi rwo
  omega
theorem rwo_i {I : sm_I} {k : Nat} : rwo I k ≠ rwi I k := by
  unfold rwi rwo
  omega
theorem rwi_g {I : sm_I} {t : Nat} (ht : t < 2) : 2 ≤ rwi I (1 + t) ∧ rwi I (1 + t) < 6 := by
  unfold rwi
  omega
theorem rwo_g {I : sm_I} {t : Nat} (ht : t < 2) : 2 ≤ rwo I (1 + t) ∧ rwo I (1 + t) < 6 := by
  unfold rwo
  omega
/-- a terminal goes on -/
theorem MID_tm {X t : Nat} {v14 v16 : Int32} {s' : ms} {M : mM} (ht : t < 2) (k : MID X M) (hl : lv M.1 (1 + t) = true) (hs : TB s') (h11 : s'.1 11 = row1 M (1 + t) 11) (b14 : b01 v14) (h16 : v16 = 0 ∨ v16 = 2) (hu : ∀ i m, US M.1 M.2.1 (1 + t) i m → M.1 13 (1 + t) = 1) (c2 : v16 = 2 → s'.1 1 = 1) (c0 : v16 = 0 → s'.1 1 = 0) : MID X (uI (uI M.1 14 (1 + t) v14) 16 (1 + t) v16, M.2.1, uZ M.2.2 (rwi M.1 (1 + t)) s') := by
  obtain ⟨k1, k2, k3, k4, k5, k6, k7, k8, k9, k10, k11⟩ := k
  obtain ⟨I, Q, Z⟩ := M
  have oth : ∀ c j, j ≠ 1 + t → uI (uI I 14 (1 + t) v14) 16 (1 + t) v16 c j = I c j := fun c j h => by rw [uI_j h, uI_j h]
  have ezz : ∀ i, i < 2 → uZ Z (rwi I (1 + t)) s' i = Z i := fun i hi => uZ_n (by have := (rwi_g (I := I) ht).1; omega)
  refine ⟨k1, k2, fun k' hk' => ?_, fun u hu' => ?_, ?_, fun l hl' => k6 l hl', ?_, fun k' hk' => ?_, ?_, ?_, k11⟩
  · by_cases e : k' = 1 + t
    · subst e
      obtain ⟨a1, a2, a3, a4, a5, a6, a7, a8⟩ := k3 (1 + t) hk'
      refine ⟨a1, a2, ?_, ?_, a5, fun z => ?_, fun z => ?_, a8⟩
      · show b01 (uI (uI I 14 (1 + t) v14) 16 (1 + t) v16 14 (1 + t))
        rw [uI_c (by decide), uI_s]
        exact b14
      · show uI (uI I 14 (1 + t) v14) 16 (1 + t) v16 16 (1 + t) = 0 ∨ uI (uI I 14 (1 + t) v14) 16 (1 + t) v16 16 (1 + t) = 1 ∨ uI (uI I 14 (1 + t) v14) 16 (1 + t) v16 16 (1 + t) = 2
        rw [uI_s]
        rcases h16 with e | e
        · exact Or.inl e
        · exact Or.inr (Or.inr e)
      · exfalso
        change uI (uI I 14 (1 + t) v14) 16 (1 + t) v16 16 (1 + t) = 1 at z
        rw [uI_s] at z
        rcases h16 with e | e <;> rw [e] at z <;> exact absurd z (by decide)
      · exact absurd (hl.symm.trans z) (by decide)
    · exact K3_c (I := I) rfl rfl rfl (oth 12 _ e) (oth 13 _ e) (oth 14 _ e) (oth 16 _ e) (oth 40 _ e) (k3 k' hk')
  · by_cases e : u = t
    · subst e
      intro _
      have er : row1 (uI (uI I 14 (1 + u) v14) 16 (1 + u) v16, Q, uZ Z (rwi I (1 + u)) s') (1 + u) = s'.1 := by
        show (uZ Z (rwi I (1 + u)) s' (rwi I (1 + u))).1 = _
        rw [uZ_s]
      rw [er]
      refine ⟨fun z => ?_, fun z => ?_, fun z => ?_, ?_⟩
      · change uI (uI I 14 (1 + u) v14) 16 (1 + u) v16 16 (1 + u) = 2 at z
        rw [uI_s] at z
        exact c2 z
      · change uI (uI I 14 (1 + u) v14) 16 (1 + u) v16 16 (1 + u) = 0 at z
        rw [uI_s] at z
        exact c0 z
      · exfalso
        change uI (uI I 14 (1 + u) v14) 16 (1 + u) v16 16 (1 + u) = 1 at z
        rw [uI_s] at z
        rcases h16 with e | e <;> rw [e] at z <;> exact absurd z (by decide)
      · rw [h11]
        exact (k4 u ht hl).2.2.2
    · refine K4_c (M := (I, Q, Z)) rfl rfl (oth 16 (1 + u) (by omega)) rfl ?_ (k4 u hu')
      show (uZ Z (rwi I (1 + t)) s' (rwi I (1 + u))).1 = (Z (rwi I (1 + u))).1
      rw [uZ_n (rw_t e).1]
  · exact K5_c (M := (I, Q, Z)) rfl rfl rfl (oth 16 0 (by omega)) rfl rfl rfl rfl (ezz _ rwi_lt0) k5
  · obtain ⟨a1, a2, a3, a4, a5⟩ := k7
    refine ⟨?_, ?_, fun i h1 h2 => ?_, a4, fun u hu' => ⟨fun z => ?_, (a5 u hu').2⟩⟩
    · show OK (uZ Z (rwi I (1 + t)) s' 0)
      rw [ezz 0 (by omega)]; exact a1
    · show OK (uZ Z (rwi I (1 + t)) s' 1)
      rw [ezz 1 (by omega)]; exact a2
    · show TB (uZ Z (rwi I (1 + t)) s' i)
      by_cases e : i = rwi I (1 + t)
      · rw [e, uZ_s]; exact hs
      · rw [uZ_n e]; exact a3 i h1 h2
    · show (uZ Z (rwi I (1 + t)) s' (rwo I (1 + u))).1 11 = _
      by_cases e : u = t
      · subst e
        rw [uZ_n rwo_i]
        exact (a5 u hu').1 z
      · rw [uZ_n (rw_t e).2]
        exact (a5 u hu').1 z
  · by_cases e : k' = 1 + t
    · subst e
      obtain ⟨⟨n, a1, a2, a3⟩, a4, a5⟩ := k8 (1 + t) hk'
      refine ⟨⟨n, a1, a2, a3⟩, a4, fun i m u => ?_⟩
      obtain ⟨b1, b2, b3⟩ := a5 i m u
      exact ⟨b1, Or.inr (hu i m u), b3⟩
    · exact K8_c (I := I) rfl rfl (oth 13 _ e) (oth 15 _ e) (oth 16 _ e) (oth 40 _ e) (k8 k' hk')
  · exact K9_c (M := (I, Q, Z)) rfl rfl rfl rfl rfl rfl rfl (oth 14 0 (by omega)) rfl (oth 16 0 (by omega)) rfl rfl ezz k9
  · exact K10_c (M := (I, Q, Z)) rfl rfl rfl rfl (oth 14 0 (by omega)) rfl (oth 16 0 (by omega)) rfl ezz k10
/-- nothing but what is shown and the ticks changed -/
theorem MID_sh {X : Nat} {M : mM} {J : sm_I} (e : ∀ c, c ≠ 8 → c ≠ 18 → c ≠ 19 → J c = M.1 c) (k : MID X M) : MID X (J, M.2) := by
  obtain ⟨k1, k2, k3, k4, k5, k6, k7, k8, k9, k10, k11⟩ := k
  have ec : ∀ c, c ≠ 8 → c ≠ 18 → c ≠ 19 → J c = M.1 c := e
  have e0 := ec 0 (by decide) (by decide) (by decide)
  have e11 := ec 11 (by decide) (by decide) (by decide)
  exact ⟨K1_c e0 (ec 1 (by decide) (by decide) (by decide)) (ec 2 (by decide) (by decide) (by decide)) k1, K2_c (ec 3 (by decide) (by decide) (by decide)) (ec 4 (by decide) (by decide) (by decide)) (ec 5 (by decide) (by decide) (by decide)) (ec 6 (by decide) (by decide) (by decide)) k2,
    fun k hk => K3_c e0 (ec 1 (by decide) (by decide) (by decide)) e11 (congrFun (ec 12 (by decide) (by decide) (by decide)) _) (congrFun (ec 13 (by decide) (by decide) (by decide)) _) (congrFun (ec 14 (by decide) (by decide) (by decide)) _) (congrFun (ec 16 (by decide) (by decide) (by decide)) _) (congrFun (ec 40 (by decide) (by decide) (by decide)) _) (k3 k hk),
    fun t ht => K4_c (N := (J, M.2)) e0 e11 (congrFun (ec 16 (by decide) (by decide) (by decide)) _) (congrFun (ec 17 (by decide) (by decide) (by decide)) _) (row1_c (N := (J, M.2)) e11 rfl) (k4 t ht),
    K5_c (N := (J, M.2)) e0 (ec 5 (by decide) (by decide) (by decide)) e11 (congrFun (ec 16 (by decide) (by decide) (by decide)) _) (ec 20 (by decide) (by decide) (by decide)) (ec 21 (by decide) (by decide) (by decide)) (ec 22 (by decide) (by decide) (by decide)) (ec 23 (by decide) (by decide) (by decide)) rfl k5,
    fun l hl => K6_c e0 (congrFun (ec 9 (by decide) (by decide) (by decide)) _) (congrFun (ec 10 (by decide) (by decide) (by decide)) _) (congrFun (ec 24 (by decide) (by decide) (by decide)) _) (congrFun (ec 25 (by decide) (by decide) (by decide)) _) rfl (k6 l hl),
    K7_c (N := (J, M.2)) e11 (ec 17 (by decide) (by decide) (by decide)) (ec 40 (by decide) (by decide) (by decide)) rfl k7,
    fun k hk => K8_c (ec 10 (by decide) (by decide) (by decide)) e11 (congrFun (ec 13 (by decide) (by decide) (by decide)) _) (congrFun (ec 15 (by decide) (by decide) (by decide)) _) (congrFun (ec 16 (by decide) (by decide) (by decide)) _) (congrFun (ec 40 (by decide) (by decide) (by decide)) _) (k8 k hk),
    K9_c (N := (J, M.2)) e0 (ec 5 (by decide) (by decide) (by decide)) (ec 7 (by decide) (by decide) (by decide)) (ec 10 (by decide) (by decide) (by decide)) e11 (congrFun (ec 12 (by decide) (by decide) (by decide)) _) (congrFun (ec 13 (by decide) (by decide) (by decide)) _) (congrFun (ec 14 (by decide) (by decide) (by decide)) _) (congrFun (ec 15 (by decide) (by decide) (by decide)) _) (congrFun (ec 16 (by decide) (by decide) (by decide)) _) (ec 22 (by decide) (by decide) (by decide)) rfl (fun _ _ => rfl) k9,
    K10_c (N := (J, M.2)) (ec 10 (by decide) (by decide) (by decide)) e11 (congrFun (ec 12 (by decide) (by decide) (by decide)) _) (congrFun (ec 13 (by decide) (by decide) (by decide)) _) (congrFun (ec 14 (by decide) (by decide) (by decide)) _) (congrFun (ec 15 (by decide) (by decide) (by decide)) _) (congrFun (ec 16 (by decide) (by decide) (by decide)) _) rfl (fun _ _ => rfl) k10,
    K11_c (ec 4 (by decide) (by decide) (by decide)) (ec 5 (by decide) (by decide) (by decide)) (ec 6 (by decide) (by decide) (by decide)) (ec 7 (by decide) (by decide) (by decide)) k11⟩
