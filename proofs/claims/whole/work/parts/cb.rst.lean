theorem chs_c {I : sm_I} (k : K2 I) (h : ¬ chs I = -1) : ∃ d, d < 2 ∧ (chs I).toNatClampNeg = d ∧ us I d = true ∧ I 5 d = 1 ∧ (d = 1 → us I 0 = false) := by
  unfold chs at h ⊢
  by_cases c : us I 0 = true
  · rw [if_pos c]
    exact ⟨0, by omega, rfl, c, (us_5 k (by omega) c).2, fun z => by omega⟩
  · rw [if_neg c] at h ⊢
    by_cases c1 : us I 1 = true
    · rw [if_pos c1]
      exact ⟨1, by omega, rfl, c1, (us_5 k (by omega) c1).2, fun _ => by simpa using c⟩
    · rw [if_neg c1] at h
      exact absurd rfl h
/-- only one disc is current then -/
def onI (d : Nat) (I : sm_I) : sm_I := if I 5 (1 - d) = 0 then I else uI (uI I 5 (1 - d) 0) 6 (1 - d) 0
theorem onI_m {I : sm_I} {d : Nat} (k : K2 I) (hd : d < 2) (hu : us I d = true) (h1 : d = 1 → us I 0 = false) : chI I = onI d I ∧ rchI d I = onI d I := by
  obtain ⟨c1, c2, c3⟩ := k
  have h5 := us_5 ⟨c1, c2, c3⟩ hd hu
  have hb : b01 (I 5 (1 - d)) := (c1 (1 - d) (by omega)).2.2.1
  refine ⟨?_, ?_⟩
  · unfold chI onI
    by_cases c : I 5 (1 - d) = 0
    · rw [if_pos c, if_neg]
      intro z
      rw [Bool.and_eq_true] at z
      have : d = 0 ∨ d = 1 := by omega
      rcases this with rfl | rfl
      · have := (us_5 ⟨c1, c2, c3⟩ (by omega) z.2).2
        rw [show I 5 1 = 0 from c] at this
        exact absurd this (by decide)
      · have := (us_5 ⟨c1, c2, c3⟩ (by omega) z.1).2
        rw [show I 5 0 = 0 from c] at this
        exact absurd this (by decide)
    · have o5 : I 5 (1 - d) = 1 := hb.resolve_left c
      rw [if_neg c]
      have : d = 0 ∨ d = 1 := by omega
      rcases this with rfl | rfl
      · obtain ⟨x1, x2⟩ := c2 h5.2 o5
        rw [if_pos (by simp [us, x1, x2, h5.2, show I 5 1 = 1 from o5])]
      · exfalso
        obtain ⟨x1, x2⟩ := c2 o5 h5.2
        have := h1 rfl
        rw [show us I 0 = true by simp [us, x1, show I 5 0 = 1 from o5]] at this
        cases this
  · unfold rchI onI
    by_cases c : I 5 (1 - d) = 0
    · rw [if_pos c, if_pos c, uI_id c]
    · rw [if_neg c, if_neg c, uI_x (by decide)]
def rsI (d hm : Nat) (I : sm_I) : sm_I := uI (uI (uI (uI (uI (uI (onI d I) 23 0 1) 22 0 0) 22 1 0) 16 0 2) 11 0 (nI hm)) 40 0 0
theorem MID_rS {X d hm : Nat} {M : mM} (hX : X < 2 ^ 29) (k0 : MID X M) (h11 : M.1 11 0 = -1) (hhm : hm = 0 ∨ hm = 1) (hup : ¬ M.1 0 hm = 0) (hd : d < 2) (hu : us M.1 d = true) : MID (X + 1) (rsI d hm M.1, M.2.1, uZ M.2.2 (hm % 2) (mrs2 (dsk M.1 d))) ∧ lv (rsI d hm M.1) 0 = true ∧ rsI d hm M.1 12 0 = -1 ∧ NM M.2.1 0 ∧ SD2 (rsI d hm M.1, M.2.1, uZ M.2.2 (hm % 2) (mrs2 (dsk M.1 d))) ∧ mrk (dsk M.1 d) := by
  have hNM := NM_dead k0 (by omega) h11
  obtain ⟨dl, d12, d13, d16⟩ := dead k0 (by omega : 0 < 3) h11
  obtain ⟨h21, h23⟩ := k0.2.2.2.2.1.2.2.2.2.1 dl
  obtain ⟨u4, u5⟩ := us_5 k0.2.1 hd hu
  have hLG := (k0.2.2.2.2.2.2.2.2.1 d hd u5).1
  obtain ⟨gb, gm, gl, g1, gw', gE⟩ := GB_rs hX hLG
  have hOK := OK_rs hX hLG
  obtain ⟨k1, k2, k3, k4, k5, k6, k7, k8, k9, k10, k11⟩ := MID_X (Nat.le_succ X) k0
  obtain ⟨I, Q, Z⟩ := M
  simp only [] at h11 hup dl d12 d13 d16 h21 h23 u4 u5 hu hLG gb gm gl g1 gw' gE hOK ⊢
  obtain ⟨J, eJ⟩ : ∃ J, J = rsI d hm I := ⟨_, rfl⟩
  obtain ⟨S, eS⟩ : ∃ S, S = mrs2 (dsk I d) := ⟨_, rfl⟩
  have s3 : S.1 3 = 2 := by rw [eS]; rfl
  rw [← eS] at gb gl g1 gw' gE hOK
  rw [← eJ, ← eS]
  have on5 : ∀ c, c ≠ 5 → c ≠ 6 → onI d I c = I c := fun c a b => by
    unfold onI
    split
    · rfl
    · rw [uI_f b, uI_f a]
  have f : ∀ c, c ≠ 5 → c ≠ 6 → c ≠ 23 → c ≠ 22 → c ≠ 16 → c ≠ 11 → c ≠ 40 → J c = I c := fun c a1 a2 a3 a4 a5 a6 a7 => by
    rw [eJ]
    unfold rsI
    rw [uI_f a7, uI_f a6, uI_f a5, uI_f a4, uI_f a4, uI_f a3, on5 c a1 a2]
  have J5 : ∀ e, e < 2 → J 5 e = if e = d then 1 else 0 := fun e he => by
    rw [eJ]
    unfold rsI
    rw [uI_c (by decide), uI_c (by decide), uI_c (by decide), uI_c (by decide), uI_c (by decide), uI_c (by decide)]
    unfold onI
    by_cases c : e = d
    · subst c
      rw [if_pos rfl]
      split
      · exact u5
      · rw [uI_c (by decide), uI_j (by omega)]; exact u5
    · rw [if_neg c]
      have : e = 1 - d := by omega
      subst this
      split
      · assumption
      · rw [uI_c (by decide), uI_s]
  have J6 : ∀ e, J 6 e = I 6 e ∨ (J 6 e = 0 ∧ e = 1 - d) := fun e => by
    rw [eJ]
    unfold rsI
    rw [uI_c (by decide), uI_c (by decide), uI_c (by decide), uI_c (by decide), uI_c (by decide), uI_c (by decide)]
    unfold onI
    split
    · exact Or.inl rfl
    · by_cases c : e = 1 - d
      · rw [c, uI_s]
        exact Or.inr ⟨rfl, rfl⟩
      · rw [uI_j c, uI_j c]
        exact Or.inl rfl
  have J6' : I 5 (1 - d) = 1 → J 6 (1 - d) = 0 := fun h => by
    rw [eJ]
    unfold rsI
    rw [uI_c (by decide), uI_c (by decide), uI_c (by decide), uI_c (by decide), uI_c (by decide), uI_c (by decide)]
    unfold onI
    rw [if_neg (by rw [h]; decide), uI_s]
  have j11 : J 11 0 = nI hm := by rw [eJ]; rfl
  have o11 : ∀ j, j ≠ 0 → J 11 j = I 11 j := fun j h => by
    rw [eJ]
    unfold rsI
    rw [uI_j h, uI_j h, uI_j h, uI_c (by decide), uI_c (by decide), uI_j h, on5 11 (by decide) (by decide)]
  have j16 : J 16 0 = 2 := by rw [eJ]; rfl
  have o16 : ∀ j, j ≠ 0 → J 16 j = I 16 j := fun j h => by
    rw [eJ]
    unfold rsI
    rw [uI_j h, uI_j h, uI_j h, uI_c (by decide), uI_c (by decide), uI_j h, on5 16 (by decide) (by decide)]
  have j40 : J 40 0 = 0 := by rw [eJ]; rfl
  have o40 : ∀ j, j ≠ 0 → J 40 j = I 40 j := fun j h => by
    rw [eJ]
    unfold rsI
    rw [uI_j h, uI_j h, uI_j h, uI_c (by decide), uI_c (by decide), uI_j h, on5 40 (by decide) (by decide)]
  have j22 : ∀ e, e < 2 → J 22 e = nI 0 := fun e he => by
    rw [eJ]
    have : e = 0 ∨ e = 1 := by omega
    rcases this with rfl | rfl <;> rfl
  have j23 : J 23 0 = 1 := by rw [eJ]; rfl
  have e0 := f 0 (by decide) (by decide) (by decide) (by decide) (by decide) (by decide) (by decide)
  have e7 := f 7 (by decide) (by decide) (by decide) (by decide) (by decide) (by decide) (by decide)
  have e10 := f 10 (by decide) (by decide) (by decide) (by decide) (by decide) (by decide) (by decide)
  have e12 := f 12 (by decide) (by decide) (by decide) (by decide) (by decide) (by decide) (by decide)
  have e13 := f 13 (by decide) (by decide) (by decide) (by decide) (by decide) (by decide) (by decide)
  have e15 := f 15 (by decide) (by decide) (by decide) (by decide) (by decide) (by decide) (by decide)
  have e17 := f 17 (by decide) (by decide) (by decide) (by decide) (by decide) (by decide) (by decide)
  have e21 := f 21 (by decide) (by decide) (by decide) (by decide) (by decide) (by decide) (by decide)
  have e4 := f 4 (by decide) (by decide) (by decide) (by decide) (by decide) (by decide) (by decide)
  have hprk : prk J 0 := by
    unfold prk
    rw [if_pos rfl, if_pos rfl, j11]
    rcases hhm with rfl | rfl
    · exact Or.inr (Or.inl rfl)
    · exact Or.inr (Or.inr rfl)
  have hpn : pn J 0 = hm := by
    unfold pn
    rw [j11]
    exact nI_clamp (by omega)
  have hrw : rwi J 0 = hm % 2 := by
    unfold rwi
    rw [hpn]
    omega
  have hlv : lv J 0 = true := by
    unfold lv
    rw [hpn, e0, j11]
    have : ¬ nI hm = (-1 : Int32) := nI_m1 (by omega)
    simp [this, hup]
  have J12 : J 12 0 = -1 := by rw [e12]; exact d12
  have J13 : J 13 0 = 0 := by rw [e13]; exact d13
  have ez : ∀ i, i ≠ hm % 2 → uZ Z (hm % 2) S i = Z i := fun i h => uZ_n h
  have er0 : row1 (J, Q, uZ Z (hm % 2) S) 0 = S.1 := by
    show (uZ Z (hm % 2) S (rwi J 0)).1 = _
    rw [hrw, uZ_s]
  have hne : 1 - d ≠ d := by omega
  refine ⟨⟨K1_c e0 (f 1 (by decide) (by decide) (by decide) (by decide) (by decide) (by decide) (by decide)) (f 2 (by decide) (by decide) (by decide) (by decide) (by decide) (by decide) (by decide)) k1, ?_, fun k' hk' => ?_, fun u hu' => ?_, ?_, fun l hl => K6_c e0 (congrFun (f 9 (by decide) (by decide) (by decide) (by decide) (by decide) (by decide) (by decide)) _) (congrFun e10 _) (congrFun (f 24 (by decide) (by decide) (by decide) (by decide) (by decide) (by decide) (by decide)) _) (congrFun (f 25 (by decide) (by decide) (by decide) (by decide) (by decide) (by decide) (by decide)) _) rfl (k6 l hl), ?_, fun k' hk' => ?_, fun e he h5 => ?_, ?_, fun e he h5 h4 q eq j hj hq => ?_⟩, hlv, J12, hNM, ?_, gm⟩
  · obtain ⟨c1, c2, c3⟩ := k2
    show K2 J
    refine ⟨fun e he => ?_, fun z1 z2 => ?_, ?_⟩
    · obtain ⟨b1, b2, b3, b4⟩ := c1 e he
      rw [f 3 (by decide) (by decide) (by decide) (by decide) (by decide) (by decide) (by decide), e4, J5 e he]
      refine ⟨b1, b2, ?_, fun z => ?_⟩
      · split
        · exact Or.inr rfl
        · exact Or.inl rfl
      · by_cases c : e = d
        · rw [if_pos c] at z
          exact absurd z (by decide)
        · have ee : e = 1 - d := by omega
          subst ee
          rcases b3 with y | y
          · rcases J6 (1 - d) with w | w
            · rw [w]; exact b4 y
            · exact ⟨0, by omega, w.1⟩
          · exact ⟨0, by omega, J6' y⟩
    · rw [J5 0 (by omega)] at z1
      rw [J5 1 (by omega)] at z2
      exfalso
      split at z1
      · split at z2
        · omega
        · exact absurd z2 (by decide)
      · exact absurd z1 (by decide)
    · rw [J5 0 (by omega), J5 1 (by omega)]
      have : d = 0 ∨ d = 1 := by omega
      rcases this with rfl | rfl
      · exact Or.inl rfl
      · exact Or.inr rfl
  · by_cases e : k' = 0
    · subst e
      show K3 J 0
      refine K3_nb hprk J12 J13 ?_ (Or.inr j16) (fun z => absurd (hlv.symm.trans z) (by decide))
      rw [f 14 (by decide) (by decide) (by decide) (by decide) (by decide) (by decide) (by decide)]; exact (k3 0 hk').2.2.1
    · exact K3_p e0 (f 1 (by decide) (by decide) (by decide) (by decide) (by decide) (by decide) (by decide)) (o11 k' e) (congrFun e12 _) (congrFun e13 _) (congrFun (f 14 (by decide) (by decide) (by decide) (by decide) (by decide) (by decide) (by decide)) _) (o16 k' e) (o40 k' e) (k3 k' hk')
  · have e1 : J 11 (1 + u) = I 11 (1 + u) := o11 _ (by omega)
    refine K4_p (M := (I, Q, Z)) (N := (J, Q, uZ Z (hm % 2) S)) e0 e1 (o16 _ (by omega)) (congrFun e17 _) ?_ (k4 u hu')
    show (uZ Z (hm % 2) S (rwi J (1 + u))).1 = (Z (rwi I (1 + u))).1
    rw [ez _ (by have := (rwi_g (I := J) hu').1; omega), rwi_p e1]
  · unfold K5
    rw [er0]
    simp only []
    rw [hrw, uZ_s, j16, j23, e21, h21, s3, f 20 (by decide) (by decide) (by decide) (by decide) (by decide) (by decide) (by decide)]
    exact ⟨fun _ => ⟨fun z => absurd z (by decide), fun z => absurd z (by decide)⟩, fun z => absurd z (by decide), Or.inr rfl, fun _ => ⟨rfl, rfl⟩, fun z => absurd (hlv.symm.trans z) (by decide), ⟨0, by omega, rfl, fun k hk => by omega⟩, fun _ e he _ => ⟨0, Nat.zero_le _, j22 e he⟩⟩
  · obtain ⟨a1, a2, a3, a4, a5⟩ := k7
    have hz : ∀ i, OK (Z i) → OK (uZ Z (hm % 2) S i) := fun i h => by
      by_cases e : i = hm % 2
      · rw [e, uZ_s]; exact hOK
      · rw [uZ_n e]; exact h
    unfold K7
    simp only []
    rw [e17]
    refine ⟨hz 0 a1, hz 1 a2, fun i h1 h2 => by rw [ez i (by omega)]; exact a3 i h1 h2, a4, fun t ht => ⟨fun z => ?_, (a5 t ht).2⟩⟩
    have e1 : J 11 (1 + t) = I 11 (1 + t) := o11 _ (by omega)
    rw [rwo_p e1, ez _ (by have := (rwo_g (I := I) ht).1; omega)]
    exact (a5 t ht).1 ((o40 (1 + t) (by omega)).symm.trans z)
  · by_cases e : k' = 0
    · subst e
      show K8 (X + 1) J Q 0
      obtain ⟨⟨n, a1, a2, a3⟩, -⟩ := k8 0 hk'
      obtain ⟨hnu, hnw⟩ := NM_US (by omega) hprk hNM
      exact ⟨⟨n, a1, by rw [e15]; exact a2, fun l hl i m hi h1 h2 => absurd h2 (hNM l hl i m hi h1)⟩, fun i j m m' u _ => absurd u (hnu i m), fun i m u => absurd u (hnu i m)⟩
    · exact K8_p e10 (o11 k' e) (congrFun e13 _) (congrFun e15 _) (o16 k' e) (o40 k' e) (k8 k' hk')
  · simp only [] at h5 ⊢
    rw [J5 e he] at h5
    have ee : e = d := by
      by_cases c : e = d
      · exact c
      · rw [if_neg c] at h5
        exact absurd h5 (by decide)
    subst ee
    rw [dsk_c e7, hrw, uZ_s, J12, J13]
    refine ⟨LG_X (by omega) hLG, fun _ => ⟨0, DR_0 gb, fun _ => j22 e he⟩, fun z => absurd rfl z, fun z => ?_, fun z => absurd z (by decide)⟩
    rcases z with z | z
    · exact absurd rfl z
    · exact absurd z.1 (by decide)
  · obtain ⟨hnu, hnw⟩ := NM_US (by omega) hprk hNM
    exact ⟨fun _ z => absurd J12 z, fun _ => ⟨fun i m u => absurd u (hnu i m), fun i m u => absurd u (hnw i m)⟩⟩
  · simp only [] at h5 h4 eq ⊢
    rw [J5 e he] at h5
    have ee : e = 1 - d := by
      by_cases c : e = d
      · rw [if_pos c] at h5
        exact absurd h5 (by decide)
      · omega
    subst ee
    rw [dsk_c e7, dsk_c e7]
    have hb : b01 (I 5 (1 - d)) := (k2.1 (1 - d) (by omega)).2.2.1
    rw [e4] at h4
    have q0 : J 6 (1 - d) = 0 → q = 0 := fun y => by
      rw [y] at eq
      exact (nI_eq (a := q) (b := 0) (by omega) (by omega)).mp eq.symm
    rcases hb with y | y
    · rcases J6 (1 - d) with w | w
      · rw [w] at eq
        exact k11 (1 - d) he y h4 q eq j hj hq
      · have := q0 w.1
        omega
    · have := q0 (J6' y)
      omega
  · refine ⟨fun _ _ => ⟨d, hd, by show J 5 d = 1; rw [J5 d hd, if_pos rfl], ?_⟩, fun _ z => absurd (j16.symm.trans z) (by decide)⟩
    show ¬ J 22 d = nI (uZ Z (hm % 2) S (rwi J 0)).2.2.length
    rw [j22 d hd, hrw, uZ_s]
    intro z
    have := (nI_eq (a := 0) (by omega) (by omega)).mp z
    omega
