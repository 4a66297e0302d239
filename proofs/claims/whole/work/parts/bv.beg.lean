theorem UW_none {X k : Nat} {I J : sm_I} {Q : mQ} (hX : X < 2 ^ 30) (hk : k < 3) (hp : prk I k) (hn : ¬ I 11 k = -1) (k8 : K8 X I Q k) (e11 : J 11 = I 11) (h15 : J 15 k = I 15 k + 1) : ∀ j w, ¬ UW J Q k j w := by
  intro j w u
  obtain ⟨u1, u2, u3, u4, u5⟩ := u
  obtain ⟨⟨n, a1, a2, a3⟩, -, -⟩ := k8
  rw [lb_c e11] at u1
  obtain ⟨⟨w', b1, b2⟩, -⟩ := a3 (lb I k) (lk_lt hk hp hn).2 j w u1 u3 (Or.inr u2)
  rw [h15, a2, b2] at u4
  have : nI n + 1 = nI (n + 1) := nI_add n 1
  rw [this] at u4
  have := (nI_eq (by omega) (by omega)).mp u4
  omega
/-- the first of those that stand is taken -/
theorem MID_sh0 {X n : Nat} {M : mM} (k : MID X M) (hl : lv M.1 0 = true) (en : M.1 21 0 = nI n) (hn1 : 1 ≤ n) (hn8 : n ≤ 8) : MID X (msh M.1, M.2) := by
  have eo : ∀ c, c ≠ 20 → c ≠ 21 → msh M.1 c = M.1 c := fun c h1 h2 => msh_o h1 h2
  have es : stn M.1 = n := stn_eq en hn8
  obtain ⟨k1, k2, k3, k4, k5, k6, k7, k8, k9, k10, k11⟩ := k
  have e0 := eo 0 (by decide) (by decide)
  have e11 := eo 11 (by decide) (by decide)
  refine ⟨K1_c e0 (eo 1 (by decide) (by decide)) (eo 2 (by decide) (by decide)) k1, K2_c (eo 3 (by decide) (by decide)) (eo 4 (by decide) (by decide)) (eo 5 (by decide) (by decide)) (eo 6 (by decide) (by decide)) k2,
    fun k hk => K3_c e0 (eo 1 (by decide) (by decide)) e11 (congrFun (eo 12 (by decide) (by decide)) _) (congrFun (eo 13 (by decide) (by decide)) _) (congrFun (eo 14 (by decide) (by decide)) _) (congrFun (eo 16 (by decide) (by decide)) _) (congrFun (eo 40 (by decide) (by decide)) _) (k3 k hk),
    fun t ht => K4_c (N := (msh M.1, M.2)) e0 e11 (congrFun (eo 16 (by decide) (by decide)) _) (congrFun (eo 17 (by decide) (by decide)) _) (row1_c (N := (msh M.1, M.2)) e11 rfl) (k4 t ht), ?_,
    fun l hl => K6_c e0 (congrFun (eo 9 (by decide) (by decide)) _) (congrFun (eo 10 (by decide) (by decide)) _) (congrFun (eo 24 (by decide) (by decide)) _) (congrFun (eo 25 (by decide) (by decide)) _) rfl (k6 l hl),
    K7_c (N := (msh M.1, M.2)) e11 (eo 17 (by decide) (by decide)) (eo 40 (by decide) (by decide)) rfl k7,
    fun k hk => K8_c (eo 10 (by decide) (by decide)) e11 (congrFun (eo 13 (by decide) (by decide)) _) (congrFun (eo 15 (by decide) (by decide)) _) (congrFun (eo 16 (by decide) (by decide)) _) (congrFun (eo 40 (by decide) (by decide)) _) (k8 k hk),
    K9_c (N := (msh M.1, M.2)) e0 (eo 5 (by decide) (by decide)) (eo 7 (by decide) (by decide)) (eo 10 (by decide) (by decide)) e11 (congrFun (eo 12 (by decide) (by decide)) _) (congrFun (eo 13 (by decide) (by decide)) _) (congrFun (eo 14 (by decide) (by decide)) _) (congrFun (eo 15 (by decide) (by decide)) _) (congrFun (eo 16 (by decide) (by decide)) _) (eo 22 (by decide) (by decide)) rfl (fun _ _ => rfl) k9,
    K10_c (N := (msh M.1, M.2)) (eo 10 (by decide) (by decide)) e11 (congrFun (eo 12 (by decide) (by decide)) _) (congrFun (eo 13 (by decide) (by decide)) _) (congrFun (eo 14 (by decide) (by decide)) _) (congrFun (eo 15 (by decide) (by decide)) _) (congrFun (eo 16 (by decide) (by decide)) _) rfl (fun _ _ => rfl) k10,
    K11_c (eo 4 (by decide) (by decide)) (eo 5 (by decide) (by decide)) (eo 6 (by decide) (by decide)) (eo 7 (by decide) (by decide)) k11⟩
  obtain ⟨a1, a2, a3, a4, a5, ⟨n', c1, c2, c3⟩, a7⟩ := k5
  have enn : n' = n := (nI_eq (by omega) (by omega)).mp (c2.symm.trans en)
  subst enn
  have er : row1 (msh M.1, M.2) 0 = row1 M 0 := row1_c (N := (msh M.1, M.2)) e11 rfl
  have e21 : msh M.1 21 0 = nI (n' - 1) := by simp [msh, es]
  unfold K5
  rw [er]
  show (lv (msh M.1) 0 = true → (row1 M 0 3 = 0 ↔ msh M.1 16 0 = 0)) ∧ (msh M.1 16 0 = 1 → msh M.1 22 0 = 0 ∧ msh M.1 22 1 = 0) ∧ b01 (msh M.1 23 0) ∧ (msh M.1 23 0 = 1 → msh M.1 16 0 = 2 ∧ row1 M 0 3 = 2) ∧ (lv (msh M.1) 0 = false → msh M.1 21 0 = 0 ∧ msh M.1 23 0 = 0) ∧ (∃ n, n ≤ 8 ∧ msh M.1 21 0 = nI n ∧ ∀ k, k < n → ∃ t, t < 2 ∧ msh M.1 20 (7 * k) = nI t) ∧ (msh M.1 16 0 = 2 → ∀ d, d < 2 → msh M.1 5 d = 1 → ∃ g, g ≤ (M.2.2 (rwi (msh M.1) 0)).2.2.length ∧ msh M.1 22 d = nI g)
  rw [lv_c e0 e11, rwi_c e11, eo 16 (by decide) (by decide), eo 22 (by decide) (by decide), eo 23 (by decide) (by decide), eo 5 (by decide) (by decide)]
  refine ⟨a1, a2, a3, a4, fun z => absurd (hl.symm.trans z) (by decide), ⟨n' - 1, by omega, e21, fun k hk => ?_⟩, a7⟩
  have : msh M.1 20 (7 * k) = M.1 20 (7 * (k + 1)) := by
    simp only [msh, es]
    rw [if_pos ⟨trivial, by omega⟩]
    congr 1
  rw [this]
  exact c3 (k + 1) (by omega)
/-- a request is begun -/
theorem MID_b3 {X n t : Nat} {M : mM} (hX0 : X < 2 ^ 29) (k : MID X M) (hl : lv M.1 0 = true) (h0 : M.1 16 0 = 0) (en : M.1 21 0 = nI n) (hn1 : 1 ≤ n) (hn8 : n ≤ 8) (ht : t < 2) (et : mbt M = t) : MID (X + 2) (rtl 0 (mbp M)) := by
  have hX : X < 2 ^ 30 := by omega
  obtain ⟨k1, k2, k3, k4, k5, k6, k7, k8, k9, k10, k11⟩ := MID_sh0 k hl en hn1 hn8
  have kk9 := k.2.2.2.2.2.2.2.2.1
  have eb : mbp M = (uI (uI (msh M.1) 22 0 0) 22 1 0, M.2.1, uZ M.2.2 (rwi M.1 0) (mps (M.2.2 (rwi M.1 0)) t (mbq M))) := by
    unfold mbp
    rw [et]
  have ej : ∀ c, c ≠ 20 → c ≠ 21 → msh M.1 c = M.1 c := fun c h1 h2 => msh_o h1 h2
  obtain ⟨I, Q, Z⟩ := M
  obtain ⟨J, eJ⟩ : ∃ J, J = msh I := ⟨_, rfl⟩
  simp only [] at eb hl h0 ej k1 k2 k3 k4 k5 k6 k7 k8 k9 k10 k11
  rw [← eJ] at eb ej k1 k2 k3 k4 k5 k6 k7 k8 k9 k10 k11
  have e0 := ej 0 (by decide) (by decide)
  have e11 := ej 11 (by decide) (by decide)
  have hlJ : lv J 0 = true := by rw [lv_c e0 e11]; exact hl
  have erw : rwi I 0 = rwi J 0 := (rwi_c e11).symm
  have h16 : J 16 0 = 0 := by rw [ej 16 (by decide) (by decide)]; exact h0
  rw [erw] at eb
  have h01 : rwi J 0 = 0 ∨ rwi J 0 = 1 := by have := rwi_lt0 (I := J); omega
  have hok : OK (Z (rwi J 0)) := by
    rcases h01 with e | e <;> rw [e]
    · exact k7.1
    · exact k7.2.1
  obtain ⟨s, es⟩ : ∃ s, s = Z (rwi J 0) := ⟨_, rfl⟩
  obtain ⟨s', es'⟩ : ∃ s', s' = mps s t (mbq (I, Q, Z)) := ⟨_, rfl⟩
  rw [← es] at hok eb
  rw [← es'] at eb
  have hok' : OK s' := by rw [es']; exact OK_mps ht hok
  have hoc : OC s t s' := by rw [es']; exact OC_mps ht hok.1
  have h3' : s'.1 3 = 1 := by rw [es']; exact mps_3
  have hr3 : s.1 3 = 0 := by
    have := (k5.1 hlJ).mpr h16
    rw [es]
    exact this
  have hw0 : s.2.2 = [] := hok.2.2.2.2.2.2.2.1 hr3
  have hgb : ∀ d, d < 2 → J 5 d = 1 → GB (X + 1) (dsk J d) s' := fun d hd h5 => by
    obtain ⟨n, b1, -⟩ := (k9 d hd h5).2.1 hlJ
    change DR X (dsk J d) (Z (rwi J 0)) n at b1
    rw [← es] at b1
    obtain ⟨c1, c2, c3⟩ := DR_end b1 (by rw [hw0]; exact Nat.zero_le _)
    exact GB_op hX ht c1 c2 c3 hok.1 hok.2.2.2.2.2.2.2.2 hoc
  have ez : ∀ i, i ≠ rwi J 0 → uZ Z (rwi J 0) s' i = Z i := fun i h => uZ_n h
  have ero : uZ Z (rwi J 0) s' (rwo J 0) = Z (rwo J 0) := uZ_n rwo_i
  have k7' : ∀ Y : Nat, X ≤ Y → ∀ I' : sm_I, I' 17 = J 17 → I' 40 = J 40 → I' 11 = J 11 → K7 Y (I', Q, uZ Z (rwi J 0) s') := by
    intro Y hY I' f17 f40 f11
    obtain ⟨a1, a2, a3, a4, a5⟩ := k7
    have hz : ∀ i, OK (Z i) → OK (uZ Z (rwi J 0) s' i) := fun i h => by
      by_cases e : i = rwi J 0
      · rw [e, uZ_s]; exact hok'
      · rw [uZ_n e]; exact h
    unfold K7
    simp only []
    rw [f17, f40]
    refine ⟨hz 0 a1, hz 1 a2, fun i h1 h2 => ?_, a4, fun t ht => ⟨fun z => ?_, ?_⟩⟩
    · rw [ez i (by have := rwi_lt0 (I := J); omega)]
      exact a3 i h1 h2
    · rw [rwo_c f11, ez _ (by have := rwi_lt0 (I := J); have := (rwo_g (I := J) ht).1; omega)]
      exact (a5 t ht).1 z
    · obtain ⟨n, b1, b2⟩ := (a5 t ht).2
      exact ⟨n, by omega, b2⟩
  have er : ∀ (I' : sm_I), I' 11 = J 11 → ∀ u, row1 (I', Q, uZ Z (rwi J 0) s') (1 + u) = row1 (J, Q, Z) (1 + u) := fun I' f u => by
    show (uZ Z (rwi J 0) s' (rwi I' (1 + u))).1 = (Z (rwi J (1 + u))).1
    rw [rwi_c f, uZ_n rwi_ne]
  have er0 : ∀ (I' : sm_I), I' 11 = J 11 → row1 (I', Q, uZ Z (rwi J 0) s') 0 = s'.1 := fun I' f => by
    show (uZ Z (rwi J 0) s' (rwi I' 0)).1 = _
    rw [rwi_c f, uZ_s]
  have h23 : J 23 0 = 0 := by
    rcases k5.2.2.1 with y | y
    · exact y
    · exact absurd (h16.symm.trans (k5.2.2.2.1 y).1) (by decide)
  rw [eb]
  unfold rtl
  by_cases c : J 12 0 = -1
  · rw [if_pos (show (uI (uI J 22 0 0) 22 1 0, Q, uZ Z (rwi J 0) s').1 12 0 = -1 from c)]
    have est : ∃ v, b01 v ∧ (J 13 0 = 1 → v = 1) ∧ rst 0 (uI (uI J 22 0 0) 22 1 0, Q, uZ Z (rwi J 0) s') = (uI (uI (uI J 22 0 0) 22 1 0) 14 0 v, Q, uZ Z (rwi J 0) s') := by
      unfold rst
      split
      · rename_i y
        have y' : J 13 0 = 0 := y
        exact ⟨J 14 0, (k3 0 (by omega)).2.2.1, fun z => absurd (y'.symm.trans z) (by decide), by rw [uI_id (show (uI (uI J 22 0 0) 22 1 0) 14 0 = J 14 0 from rfl)]⟩
      · exact ⟨1, Or.inr rfl, fun _ => rfl, rfl⟩
    obtain ⟨v, hv, hv1, ev⟩ := est
    rw [ev]
    unfold rgo
    rw [if_pos rfl]
    simp only []
    have oth : ∀ c j, j ≠ 0 → c ≠ 22 → uI (uI (uI (uI J 22 0 0) 22 1 0) 14 0 v) 16 0 2 c j = J c j := fun c j h h2 => by rw [uI_j h, uI_j h, uI_c h2, uI_c h2]
    have ev14 : uI (uI (uI (uI J 22 0 0) 22 1 0) 14 0 v) 16 0 2 14 0 = v := by rw [uI_c (by decide), uI_s]
    obtain ⟨I', eI'⟩ : ∃ I', I' = uI (uI (uI (uI J 22 0 0) 22 1 0) 14 0 v) 16 0 2 := ⟨_, rfl⟩
    have f : ∀ c, c ≠ 14 → c ≠ 16 → c ≠ 22 → I' c = J c := fun c h1 h2 h3 => by rw [eI', uI_f h2, uI_f h1, uI_f h3, uI_f h3]
    have f16 : I' 16 0 = 2 := by rw [eI']; exact uI_s
    have f14 : I' 14 0 = v := by rw [eI']; exact ev14
    have f22 : ∀ d, d < 2 → I' 22 d = nI 0 := fun d hd => by
      rw [eI']
      have : d = 0 ∨ d = 1 := by omega
      rcases this with rfl | rfl <;> rfl
    rw [← eI'] at oth ⊢
    have g0 := f 0 (by decide) (by decide) (by decide)
    have g5 := f 5 (by decide) (by decide) (by decide)
    have g10 := f 10 (by decide) (by decide) (by decide)
    have g11 := f 11 (by decide) (by decide) (by decide)
    have hnc : ¬ (¬ I' 12 0 = -1 ∨ (I' 13 0 = 1 ∧ I' 14 0 = 0)) := fun z => by
      rw [f 12 (by decide) (by decide) (by decide), f 13 (by decide) (by decide) (by decide), f14] at z
      rcases z with z | ⟨z1, z2⟩
      · exact z c
      · rw [hv1 z1] at z2
        exact absurd z2 (by decide)
    refine ⟨K1_c g0 (f 1 (by decide) (by decide) (by decide)) (f 2 (by decide) (by decide) (by decide)) k1, K2_c (f 3 (by decide) (by decide) (by decide)) (f 4 (by decide) (by decide) (by decide)) g5 (f 6 (by decide) (by decide) (by decide)) k2, fun k' hk' => ?_, fun u hu => K4_c (M := (J, Q, Z)) g0 g11 (oth 16 _ (by omega) (by decide)) (congrFun (f 17 (by decide) (by decide) (by decide)) _) (er I' g11 u) (k4 u hu), ?_, fun l hl => ?_, k7' (X + 2) (by omega) I' (f 17 (by decide) (by decide) (by decide)) (f 40 (by decide) (by decide) (by decide)) g11, fun k' hk' => ?_, fun d hd h5 => ?_, ?_, K11_c (f 4 (by decide) (by decide) (by decide)) g5 (f 6 (by decide) (by decide) (by decide)) (f 7 (by decide) (by decide) (by decide)) k11⟩
    · by_cases e : k' = 0
      · subst e
        obtain ⟨a1, a2, a3, a4, a5, a6, a7, a8⟩ := k3 0 hk'
        unfold K3
        simp only []
        rw [f16, f14, f 12 (by decide) (by decide) (by decide), f 13 (by decide) (by decide) (by decide), f 40 (by decide) (by decide) (by decide), lv_c g0 g11, ohI_c g11]
        refine ⟨by unfold prk; rw [g11]; exact a1, a2, hv, Or.inr (Or.inr rfl), by rw [g11]; exact a5, fun z => absurd z (by decide), fun z => absurd (hlJ.symm.trans z) (by decide), by rw [g11]; exact a8⟩
      · exact K3_c (I := J) g0 (f 1 (by decide) (by decide) (by decide)) g11 (oth 12 _ e (by decide)) (oth 13 _ e (by decide)) (oth 14 _ e (by decide)) (oth 16 _ e (by decide)) (oth 40 _ e (by decide)) (k3 k' hk')
    · obtain ⟨a1, a2, a3, a4, a5, a6, a7⟩ := k5
      unfold K5
      simp only []
      rw [er0 I' g11, f16, f 23 (by decide) (by decide) (by decide), f 21 (by decide) (by decide) (by decide), f 20 (by decide) (by decide) (by decide), g5, lv_c g0 g11, rwi_c g11, uZ_s]
      refine ⟨fun _ => ⟨fun z => by rw [h3'] at z; exact absurd z (by decide), fun z => absurd z (by decide)⟩, fun z => absurd z (by decide), a3, fun z => by rw [h23] at z; exact absurd z (by decide), fun z => absurd (hlJ.symm.trans z) (by decide), a6, fun _ d hd _ => ⟨0, Nat.zero_le _, f22 d hd⟩⟩
    · obtain ⟨a1, a2, a3, a4, a5, N, T, b1, b2⟩ := K6_c (J := I') (R := Q) g0 (congrFun (f 9 (by decide) (by decide) (by decide)) _) (congrFun g10 _) (congrFun (f 24 (by decide) (by decide) (by decide)) _) (congrFun (f 25 (by decide) (by decide) (by decide)) _) rfl (k6 l hl)
      exact ⟨a1, a2, a3, a4, a5, N, T, by omega, b2⟩
    · by_cases e : k' = 0
      · subst e
        show K8 (X + 2) I' Q 0
        obtain ⟨⟨n, b1, b2, b3⟩, a4, a5⟩ := k8 0 hk'
        refine ⟨⟨n, by omega, by rw [f 15 (by decide) (by decide) (by decide)]; exact b2, fun l hl i m hi h1 h2 => ?_⟩, fun i j m m' u u' => a4 i j m m' ((US_c g10 g11).mp u) ((US_c g10 g11).mp u'), fun i m u => ?_⟩
        · rw [g11, f 40 (by decide) (by decide) (by decide), lk_c g11, lb_c g11]
          exact b3 l hl i m hi h1 h2
        · obtain ⟨c1, c2, c3⟩ := a5 i m ((US_c g10 g11).mp u)
          rw [f 13 (by decide) (by decide) (by decide), f 15 (by decide) (by decide) (by decide)]
          refine ⟨c1, Or.inr (c2.resolve_left (fun z => absurd (h16.symm.trans z) (by decide))), fun j w y => c3 j w ((UW_c g10 g11 (congrFun (f 15 (by decide) (by decide) (by decide)) _)).mp y)⟩
      · obtain ⟨⟨n, b1, b2⟩, b3⟩ := K8_c (J := I') g10 g11 (oth 13 _ e (by decide)) (oth 15 _ e (by decide)) (oth 16 _ e (by decide)) (oth 40 _ e (by decide)) (k8 k' hk')
        exact ⟨⟨n, by omega, b2⟩, b3⟩
    · simp only [] at h5 ⊢
      rw [g5] at h5
      rw [dsk_c (f 7 (by decide) (by decide) (by decide)), rwi_c g11, uZ_s]
      refine ⟨LG_X (by omega) (k9 d hd h5).1, fun _ => ⟨0, DR_X (Nat.le_succ _) (DR_0 (hgb d hd h5)), fun _ => f22 d hd⟩, fun z => absurd (Or.inl z) hnc, fun z => absurd z hnc, fun z y => absurd (Or.inr ⟨z, y⟩) hnc⟩
    · refine ⟨fun _ z => absurd (Or.inl z) hnc, fun z => ?_⟩
      rcases z with z | z
      · exact absurd (f16.symm.trans z) (by decide)
      · exact absurd (Or.inr z.2) hnc
  · rw [if_neg (show ¬ (uI (uI J 22 0 0) 22 1 0, Q, uZ Z (rwi J 0) s').1 12 0 = -1 from c)]
    obtain ⟨b1, b2, b3, b4⟩ := (k3 0 (by omega)).2.2.2.2.1 c
    have est : rst 0 (uI (uI J 22 0 0) 22 1 0, Q, uZ Z (rwi J 0) s') = (uI (uI J 22 0 0) 22 1 0, Q, uZ Z (rwi J 0) s') := by
      unfold rst
      rw [if_pos (show (uI (uI J 22 0 0) 22 1 0, Q, uZ Z (rwi J 0) s').1 13 0 = 0 from b1)]
    rw [est]
    obtain ⟨B, eB⟩ : ∃ B, B = uI (uI J 22 0 0) 22 1 0 := ⟨_, rfl⟩
    have f : ∀ c, c ≠ 22 → B c = J c := fun c h => by rw [eB, uI_f h, uI_f h]
    have f22 : ∀ d, d < 2 → B 22 d = nI 0 := fun d hd => by
      rw [eB]
      have : d = 0 ∨ d = 1 := by omega
      rcases this with rfl | rfl <;> rfl
    rw [← eB]
    have g0 := f 0 (by decide)
    have g5 := f 5 (by decide)
    have g7 := f 7 (by decide)
    have g10 := f 10 (by decide)
    have g11 := f 11 (by decide)
    have hus : ∀ i m, ¬ US J Q 0 i m := fun i m u => by
      rcases ((k8 0 (by omega)).2.2 i m u).2.1 with z | z
      · exact absurd (h16.symm.trans z) (by decide)
      · exact absurd (b1.symm.trans z) (by decide)
    have hB : (J 12 0).toNatClampNeg = ohn B 0 := by rw [bk_oh b4, ohn_c g11]
    obtain ⟨I', eI'⟩ : ∃ I', I' = uI (uI B 16 0 1) 15 0 (B 15 0 + 1) := ⟨_, rfl⟩
    have oth : ∀ c j, j ≠ 0 → I' c j = B c j := fun c j h => by rw [eI', uI_j h, uI_j h]
    have fI : ∀ c, c ≠ 15 → c ≠ 16 → I' c = B c := fun c h1 h2 => by rw [eI', uI_f h1, uI_f h2]
    have i16 : I' 16 0 = 1 := by rw [eI', uI_c (by decide), uI_s]
    have i15 : I' 15 0 = B 15 0 + 1 := by rw [eI']; exact uI_s
    have l0 := (fI 0 (by decide) (by decide)).trans g0
    have l5 := (fI 5 (by decide) (by decide)).trans g5
    have l10 := (fI 10 (by decide) (by decide)).trans g10
    have l11 := (fI 11 (by decide) (by decide)).trans g11
    have l7 := (fI 7 (by decide) (by decide)).trans g7
    have hp : prk J 0 := (k3 0 (by omega)).1
    have hnw : ∀ j w, ¬ UW I' Q 0 j w := UW_none hX (by omega) hp (lv_up hlJ).1 (k8 0 (by omega)) l11 (by rw [i15, f 15 (by decide)])
    have hns : ∀ i m, ¬ US I' Q 0 i m := fun i m u => hus i m ((US_c l10 l11).mp u)
    have e := MID_st (X := X + 1) (k := 0) (kd := 3) (I := B) (I' := I') (Q := Q) (Z := uZ Z (rwi J 0) s') (by omega) (by omega) (Or.inl rfl) (by rw [lv_c g0 g11]; exact hlJ) (fun c j h => ?_) i15 (Or.inl i16) (K1_c g0 (f 1 (by decide)) (f 2 (by decide)) k1) (K2_c (f 3 (by decide)) (f 4 (by decide)) g5 (f 6 (by decide)) k2) (fun k' hk' => ?_) (fun u hu => ?_) ?_ (fun l hl => ?_) (k7' (X + 1) (by omega) B (f 17 (by decide)) (f 40 (by decide)) g11) (fun k' hk' => ?_) (fun i m u => hus i m ((US_c g10 g11).mp u)) (fun d hd h5 => ?_) ?_ (K11_c (f 4 (by decide)) g5 (f 6 (by decide)) g7 k11) (fun _ d hd h5 => ?_)
    · unfold rss
      simp only []
      rw [show (uI B 16 0 1) 15 0 = B 15 0 from rfl, show pn (uI B 16 0 1) 0 = pn B 0 from rfl, show rwi (uI B 16 0 1) 0 = rwi B 0 from rfl, ← eI']
      show MID (X + 2) (rsn (pn B 0) (B 12 0).toNatClampNeg _ _)
      rw [f 12 (by decide), hB]
      exact e
    · by_cases hj : j = 0
      · subst hj
        rw [eI', uI_c (by omega), uI_c (by omega)]
      · exact oth c j hj
    · by_cases e : k' = 0
      · subst e
        obtain ⟨a1, a2, a3, a4, a5, a6, a7, a8⟩ := k3 0 hk'
        unfold K3
        rw [i16, fI 12 (by decide) (by decide), fI 13 (by decide) (by decide), fI 14 (by decide) (by decide), fI 40 (by decide) (by decide), f 12 (by decide), f 13 (by decide), f 14 (by decide), f 40 (by decide), lv_c l0 l11, ohI_c l11]
        exact ⟨by unfold prk; rw [l11]; exact a1, a2, a3, Or.inr (Or.inl rfl), by rw [l11]; exact a5, fun _ => ⟨c, hlJ⟩, fun z => absurd (hlJ.symm.trans z) (by decide), by rw [l11]; exact a8⟩
      · exact K3_c (I := J) l0 ((fI 1 (by decide) (by decide)).trans (f 1 (by decide))) l11 ((oth 12 _ e).trans (congrFun (f 12 (by decide)) _)) ((oth 13 _ e).trans (congrFun (f 13 (by decide)) _)) ((oth 14 _ e).trans (congrFun (f 14 (by decide)) _)) ((oth 16 _ e).trans (congrFun (f 16 (by decide)) _)) ((oth 40 _ e).trans (congrFun (f 40 (by decide)) _)) (k3 k' hk')
    · exact K4_c (M := (J, Q, Z)) l0 l11 ((oth 16 _ (by omega)).trans (congrFun (f 16 (by decide)) _)) (congrFun ((fI 17 (by decide) (by decide)).trans (f 17 (by decide))) _) (er I' l11 u) (k4 u hu)
    · obtain ⟨a1, a2, a3, a4, a5, a6, a7⟩ := k5
      unfold K5
      simp only []
      rw [er0 I' l11, i16, fI 23 (by decide) (by decide), fI 21 (by decide) (by decide), fI 20 (by decide) (by decide), fI 22 (by decide) (by decide), f 23 (by decide), f 21 (by decide), f 20 (by decide), lv_c l0 l11]
      exact ⟨fun _ => ⟨fun z => by rw [h3'] at z; exact absurd z (by decide), fun z => absurd z (by decide)⟩, fun _ => ⟨f22 0 (by omega), f22 1 (by omega)⟩, a3, fun z => by rw [h23] at z; exact absurd z (by decide), fun z => absurd (hlJ.symm.trans z) (by decide), a6, fun z => absurd z (by decide)⟩
    · obtain ⟨a1, a2, a3, a4, a5, N, T, b1, b2⟩ := K6_c (J := B) (R := Q) g0 (congrFun (f 9 (by decide)) _) (congrFun g10 _) (congrFun (f 24 (by decide)) _) (congrFun (f 25 (by decide)) _) rfl (k6 l hl)
      exact ⟨a1, a2, a3, a4, a5, N, T, by omega, b2⟩
    · obtain ⟨⟨n, b1, b2⟩, b3⟩ := K8_c (J := B) g10 g11 (congrFun (f 13 (by decide)) _) (congrFun (f 15 (by decide)) _) (congrFun (f 16 (by decide)) _) (congrFun (f 40 (by decide)) _) (k8 k' hk')
      exact ⟨⟨n, by omega, b2⟩, b3⟩
    · simp only [] at h5 ⊢
      rw [l5] at h5
      rw [dsk_c l7, rwi_c l11, uZ_s, rwo_c l11, ero, i16, fI 12 (by decide) (by decide), f 12 (by decide)]
      refine ⟨LG_X (by omega) (k9 d hd h5).1, fun _ => ⟨0, DR_0 (hgb d hd h5), fun z => absurd z (by decide)⟩, fun z => DR_X (by omega) ((k9 d hd h5).2.2.1 z), fun _ i m u => absurd u (hns i m), fun _ _ i m u => absurd u (hnw i m)⟩
    · exact ⟨fun z => absurd (i16.symm.trans z) (by decide), fun _ => ⟨fun i m u => absurd u (hns i m), fun i m u => absurd u (hnw i m)⟩⟩
    · rw [g5] at h5
      rw [dsk_c g7, rwi_c g11, uZ_s]
      exact DR_0 (hgb d hd h5)
theorem MID_beg {X n : Nat} {M : mM} (hX : X < 2 ^ 29) (k : MID X M) (hl : lv M.1 0 = true) (h0 : M.1 16 0 = 0) (en : M.1 21 0 = nI n) (hn1 : 1 ≤ n) (hn8 : n ≤ 8) : MID (X + 2) (rbeg M) := by
  obtain ⟨n', c1, c2, c3⟩ := k.2.2.2.2.1.2.2.2.2.2.1
  have enn : n' = n := (nI_eq (by omega) (by omega)).mp (c2.symm.trans en)
  subst enn
  obtain ⟨t, ht, q0⟩ := c3 0 (by omega)
  have et : mbt M = t := by
    unfold mbt mbq
    rw [show (7 * 0 : Nat) = 0 from rfl] at q0
    rw [q0]
    exact nI_clamp (by omega)
  have hlm : lv (msh M.1) 0 = true := by rw [lv_c (msh_o (by decide) (by decide)) (msh_o (by decide) (by decide))]; exact hl
  unfold rbeg
  split
  · rw [et]
    exact MID_X (Nat.le_succ _) (MID_rp ht (MID_sh0 k hl en hn1 hn8) hlm)
  · split
    · exact MID_X (by omega) (MID_sh0 k hl en hn1 hn8)
    · exact MID_b3 hX k hl h0 en hn1 hn8 ht et
