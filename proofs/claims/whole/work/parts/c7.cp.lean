/-- a copy goes out -/
theorem MID_sc {X k : Nat} {M : mM} (hX : X < 2 ^ 30) (k0 : MID X M) (hk : k < 3) (hl : lv M.1 k = true) (h12 : M.1 12 k = -1) (hus : ∀ i m, ¬ US M.1 M.2.1 k i m) : MID (X + 1) (rsc k M) := by
  obtain ⟨k1, k2, k3, k4, k5, k6, k7, k8, k9, k10, k11⟩ := k0
  obtain ⟨I, Q, Z⟩ := M
  obtain ⟨I', eI'⟩ : ∃ I', I' = uI (uI (uI I 13 k 1) 14 k 0) 15 k (I 15 k + 1) := ⟨_, rfl⟩
  have f : ∀ c, c ≠ 13 → c ≠ 14 → c ≠ 15 → I' c = I c := fun c h1 h2 h3 => by rw [eI', uI_f h3, uI_f h2, uI_f h1]
  have oth : ∀ c j, j ≠ k → I' c j = I c j := fun c j h => by rw [eI', uI_j h, uI_j h, uI_j h]
  have i13 : I' 13 k = 1 := by rw [eI', uI_c (by decide), uI_c (by decide), uI_s]
  have i14 : I' 14 k = 0 := by rw [eI', uI_c (by decide), uI_s]
  have i15 : I' 15 k = I 15 k + 1 := by rw [eI']; exact uI_s
  have e0 := f 0 (by decide) (by decide) (by decide)
  have e5 := f 5 (by decide) (by decide) (by decide)
  have e7 := f 7 (by decide) (by decide) (by decide)
  have e10 := f 10 (by decide) (by decide) (by decide)
  have e11 := f 11 (by decide) (by decide) (by decide)
  have e12 := f 12 (by decide) (by decide) (by decide)
  have e16 := f 16 (by decide) (by decide) (by decide)
  have e22 := f 22 (by decide) (by decide) (by decide)
  obtain ⟨a1, a2, a3, a4, a5, a6, a7, a8⟩ := k3 k hk
  have hns : ∀ i m, ¬ US I' Q k i m := fun i m u => hus i m ((US_c e10 e11).mp u)
  have hnw : ∀ j w, ¬ UW I' Q k j w := UW_none hX hk a1 (lv_up hl).1 (k8 k hk) e11 i15
  have er : ∀ j, row1 (I', Q, Z) j = row1 (I, Q, Z) j := fun j => row1_c (M := (I, Q, Z)) (N := (I', Q, Z)) e11 rfl
  have e := MID_st (X := X) (k := k) (kd := 4) (I := I) (I' := I') (Q := Q) (Z := Z) hX hk (Or.inr rfl) hl (fun c j h => ?_) i15 (Or.inr i13) k1 k2 (fun k' hk' => ?_) (fun u hu => K4_c (M := (I, Q, Z)) (N := (I', Q, Z)) e0 e11 (congrFun e16 _) (congrFun (f 17 (by decide) (by decide) (by decide)) _) (er _) (k4 u hu)) (K5_c (M := (I, Q, Z)) (N := (I', Q, Z)) e0 e5 e11 (congrFun e16 _) (f 20 (by decide) (by decide) (by decide)) (f 21 (by decide) (by decide) (by decide)) e22 (f 23 (by decide) (by decide) (by decide)) rfl k5) k6 k7 k8 hus ?_ ?_ k11 (fun e d hd h5 => ?_)
  · unfold rsc rss
    simp only []
    rw [show (uI (uI I 13 k 1) 14 k 0) 15 k = I 15 k from rfl, show pn (uI (uI I 13 k 1) 14 k 0) k = pn I k from rfl, show rwi (uI (uI I 13 k 1) 14 k 0) k = rwi I k from rfl, ← eI']
    exact e
  · by_cases hj : j = k
    · subst hj
      rw [eI', uI_c (by omega), uI_c (by omega), uI_c (by omega)]
    · exact oth c j hj
  · by_cases e : k' = k
    · subst e
      unfold K3
      rw [lv_c e0 e11, ohI_c e11, i13, i14, e12, e16, f 40 (by decide) (by decide) (by decide), e11]
      exact ⟨by unfold prk; rw [e11]; exact a1, Or.inr rfl, Or.inl rfl, a4, fun z => absurd h12 z, a6, a7, fun z => absurd z (lv_up hl).1⟩
    · exact K3_c (I := I) e0 (f 1 (by decide) (by decide) (by decide)) e11 (oth 12 _ e) (oth 13 _ e) (oth 14 _ e) (oth 16 _ e) (oth 40 _ e) (k3 k' hk')
  · by_cases e : k = 0
    · subst e
      intro d hd h5
      simp only [] at h5 ⊢
      rw [e5] at h5
      obtain ⟨b1, b2, b3, b4, b5⟩ := k9 d hd h5
      rw [dsk_c e7, lv_c e0 e11, rwi_c e11, rwo_c e11, e12, e16, e22]
      exact ⟨b1, b2, b3, fun _ i m u => absurd u (hns i m), fun _ _ i m u => absurd u (hnw i m)⟩
    · have ne : (0 : Nat) ≠ k := fun z => e z.symm
      exact K9_c (M := (I, Q, Z)) (N := (I', Q, Z)) e0 e5 e7 e10 e11 (oth 12 0 ne) (oth 13 0 ne) (oth 14 0 ne) (oth 15 0 ne) (oth 16 0 ne) e22 rfl (fun _ _ => rfl) k9
  · by_cases e : k = 0
    · subst e
      unfold K10
      simp only []
      rw [rwi_c e11, rwo_c e11, e12]
      exact ⟨fun _ z => absurd h12 z, fun _ => ⟨fun i m u => absurd u (hns i m), fun i m u => absurd u (hnw i m)⟩⟩
    · have ne : (0 : Nat) ≠ k := fun z => e z.symm
      exact K10_c (M := (I, Q, Z)) (N := (I', Q, Z)) e10 e11 (oth 12 0 ne) (oth 13 0 ne) (oth 14 0 ne) (oth 15 0 ne) (oth 16 0 ne) rfl (fun _ _ => rfl) k10
  · subst e
    obtain ⟨n, b1, -⟩ := (k9 d hd h5).2.1 hl
    exact DR_n (Nat.zero_le _) b1
theorem rsc_I {k c : Nat} {M : mM} (h1 : c ≠ 9) (h2 : c ≠ 24) (h3 : c ≠ 25) (h4 : c ≠ 13) (h5 : c ≠ 14) (h6 : c ≠ 15) : (rsc k M).1 c = M.1 c := by
  unfold rsc rss
  rw [rsn_I h1 h2 h3]
  show uI (uI (uI M.1 13 k 1) 14 k 0) 15 k ((uI (uI M.1 13 k 1) 14 k 0) 15 k + 1) c = _
  rw [uI_f h6, uI_f h5, uI_f h4]
theorem rsc_Z {k : Nat} {M : mM} : (rsc k M).2.2 = M.2.2 := by
  unfold rsc rss
  rw [rsn_Z]
theorem rsc_13 {k j : Nat} {M : mM} : (rsc k M).1 13 j = if j = k then 1 else M.1 13 j := by
  unfold rsc rss
  rw [rsn_I (by decide) (by decide) (by decide)]
  show uI (uI (uI M.1 13 k 1) 14 k 0) 15 k ((uI (uI M.1 13 k 1) 14 k 0) 15 k + 1) 13 j = _
  rw [uI_c (by decide), uI_c (by decide)]
  by_cases e : j = k
  · subst e
    rw [if_pos rfl, uI_s]
  · rw [if_neg e, uI_j e]
theorem sc_SD {k : Nat} {M : mM} (h : SD2 M) : SD2 (rsc k M) := by
  have f : ∀ c, c ≠ 9 → c ≠ 24 → c ≠ 25 → c ≠ 13 → c ≠ 14 → c ≠ 15 → (rsc k M).1 c = M.1 c := fun c a1 a2 a3 a4 a5 a6 => rsc_I a1 a2 a3 a4 a5 a6
  unfold SD2
  rw [lv_c (f 0 (by decide) (by decide) (by decide) (by decide) (by decide) (by decide)) (f 11 (by decide) (by decide) (by decide) (by decide) (by decide) (by decide)), rwi_c (f 11 (by decide) (by decide) (by decide) (by decide) (by decide) (by decide)), f 5 (by decide) (by decide) (by decide) (by decide) (by decide) (by decide), f 16 (by decide) (by decide) (by decide) (by decide) (by decide) (by decide), f 21 (by decide) (by decide) (by decide) (by decide) (by decide) (by decide), f 22 (by decide) (by decide) (by decide) (by decide) (by decide) (by decide), rsc_Z]
  exact h
/-! a processor is repaired -/
theorem INV_up {X p : Nat} {M : mM} (k : INV X M) (hD : KD M.1) (hp : p < 4) (h0 : M.1 0 p = 0) (h1 : M.1 1 p = 1) : INV X (uI (uI M.1 0 p 1) 1 p 0, M.2) ∧ KD (uI (uI M.1 0 p 1) 1 p 0) := by
  obtain ⟨⟨k1, k2, k3, k4, k5, k6, k7, k8, k9, k10, k11⟩, kS⟩ := k
  obtain ⟨N, eN⟩ : ∃ N, N = uI (uI M.1 0 p 1) 1 p 0 := ⟨_, rfl⟩
  rw [← eN]
  have f : ∀ c, c ≠ 0 → c ≠ 1 → N c = M.1 c := fun c a b => by rw [eN, uI_f b, uI_f a]
  have f0 : ∀ j, N 0 j = if j = p then 1 else M.1 0 j := fun j => by
    rw [eN, uI_c (by decide)]
    by_cases e : j = p
    · subst e
      rw [if_pos rfl, uI_s]
    · rw [if_neg e, uI_j e]
  have f1 : ∀ j, N 1 j = if j = p then 0 else M.1 1 j := fun j => by
    rw [eN]
    by_cases e : j = p
    · subst e
      rw [if_pos rfl, uI_s]
    · rw [if_neg e, uI_j e, uI_c (by decide)]
  have e11 := f 11 (by decide) (by decide)
  have hlv : ∀ k, k < 3 → lv N k = lv M.1 k := fun k hk => by
    by_cases hn : M.1 11 k = -1
    · unfold lv
      rw [e11, hn]
      rfl
    · obtain ⟨p1, p2, p3, p4, -⟩ := prk_n hk (k3 k hk).1 hn
      have hne : pn M.1 k ≠ p := fun e => (hD k hk p hp h1).1 (by rw [p4, e])
      unfold lv
      rw [pn_c e11, e11, f0, if_neg hne]
  refine ⟨⟨⟨fun q hq => ?_, K2_c (f 3 (by decide) (by decide)) (f 4 (by decide) (by decide)) (f 5 (by decide) (by decide)) (f 6 (by decide) (by decide)) k2, fun k hk => ?_, fun t ht => ?_, ?_, fun l hl => ?_, K7_c (N := (N, M.2)) e11 (f 17 (by decide) (by decide)) (f 40 (by decide) (by decide)) rfl k7, fun k hk => K8_c (f 10 (by decide) (by decide)) e11 (congrFun (f 13 (by decide) (by decide)) _) (congrFun (f 15 (by decide) (by decide)) _) (congrFun (f 16 (by decide) (by decide)) _) (congrFun (f 40 (by decide) (by decide)) _) (k8 k hk), fun d hd h5 => ?_, K10_c (N := (N, M.2)) (f 10 (by decide) (by decide)) e11 (congrFun (f 12 (by decide) (by decide)) _) (congrFun (f 13 (by decide) (by decide)) _) (congrFun (f 14 (by decide) (by decide)) _) (congrFun (f 15 (by decide) (by decide)) _) (congrFun (f 16 (by decide) (by decide)) _) rfl (fun _ _ => rfl) k10, K11_c (f 4 (by decide) (by decide)) (f 5 (by decide) (by decide)) (f 6 (by decide) (by decide)) (f 7 (by decide) (by decide)) k11⟩, ?_⟩, fun k hk q hq hq1 => ?_⟩
  · obtain ⟨a1, a2, a3, a4⟩ := k1 q hq
    show b01 (N 0 q) ∧ b01 (N 1 q) ∧ (N 0 q = 1 → N 1 q = 0) ∧ (N 0 q = 0 → N 1 q = 0 → ∃ s, s < 6 ∧ N 2 q = nI s)
    rw [f0, f1, f 2 (by decide) (by decide)]
    by_cases e : q = p
    · rw [if_pos e, if_pos e]
      exact ⟨Or.inr rfl, Or.inl rfl, fun _ => rfl, fun z => absurd z (by decide)⟩
    · rw [if_neg e, if_neg e]
      exact ⟨a1, a2, a3, a4⟩
  · have := k3 k hk
    unfold K3 at this ⊢
    simp only []
    rw [hlv k hk, ohI_c e11, e11, f 12 (by decide) (by decide), f 13 (by decide) (by decide), f 14 (by decide) (by decide), f 16 (by decide) (by decide), f 40 (by decide) (by decide)]
    unfold prk at this ⊢
    rw [e11]
    exact this
  · have := k4 t ht
    unfold K4 at this ⊢
    rw [row1_c (N := (N, M.2)) e11 rfl]
    simp only []
    rw [hlv (1 + t) (by omega), f 16 (by decide) (by decide), f 17 (by decide) (by decide)]
    exact this
  · have := k5
    unfold K5 at this ⊢
    rw [row1_c (N := (N, M.2)) e11 rfl]
    simp only []
    rw [hlv 0 (by omega), rwi_c e11, f 5 (by decide) (by decide), f 16 (by decide) (by decide), f 20 (by decide) (by decide), f 21 (by decide) (by decide), f 22 (by decide) (by decide), f 23 (by decide) (by decide)]
    exact this
  · obtain ⟨a1, a2, a3, a4, a5, a6⟩ := k6 l hl
    unfold K6 KN at *
    simp only []
    rw [f 9 (by decide) (by decide), f 10 (by decide) (by decide), f 24 (by decide) (by decide), f 25 (by decide) (by decide), f0, f0]
    refine ⟨fun z => ?_, a2, a3, a4, a5, a6⟩
    obtain ⟨b1, b2, b3⟩ := a1 z
    refine ⟨?_, ?_, b3⟩
    · split
      · rfl
      · exact b1
    · split
      · rfl
      · exact b2
  · simp only [] at h5 ⊢
    rw [f 5 (by decide) (by decide)] at h5
    obtain ⟨a1, a2, a3, a4, a5⟩ := k9 d hd h5
    rw [dsk_c (f 7 (by decide) (by decide)), hlv 0 (by omega), rwi_c e11, rwo_c e11, f 12 (by decide) (by decide), f 13 (by decide) (by decide), f 14 (by decide) (by decide), f 16 (by decide) (by decide), f 22 (by decide) (by decide)]
    exact ⟨a1, a2, a3, fun z i m u => a4 z i m ((US_c (f 10 (by decide) (by decide)) e11).mp u), fun z y i m u => a5 z y i m ((UW_c (f 10 (by decide) (by decide)) e11 (congrFun (f 15 (by decide) (by decide)) _)).mp u)⟩
  · unfold SD2
    simp only []
    rw [hlv 0 (by omega), rwi_c e11, f 5 (by decide) (by decide), f 16 (by decide) (by decide), f 21 (by decide) (by decide), f 22 (by decide) (by decide)]
    exact kS
  · rw [f1] at hq1
    split at hq1
    · exact absurd hq1 (by decide)
    · rw [e11, ohI_c e11, f 12 (by decide) (by decide), f 13 (by decide) (by decide)]
      exact hD k hk q hq hq1
theorem sq_e {X k p : Nat} {M : mM} (k0 : INV X M) (hk : k < 3) (hp : p < 4) : rrq k p M = msq k p M := by
  obtain ⟨a1, a2, a3, a4, a5, a6, a7, a8⟩ := k0.1.2.2.1 k hk
  have key : lv M.1 k = true → (ihm k p = true ∧ M.1 11 k = nI (if p % 2 = 0 then p + 1 else p - 1) ↔ ohI M.1 k = nI p) := fun hl => by
    have hn := (lv_up hl).1
    have hkk : k = 0 ∨ k = 1 ∨ k = 2 := by omega
    have hpp : p = 0 ∨ p = 1 ∨ p = 2 ∨ p = 3 := by omega
    unfold prk at a1
    rcases hkk with rfl | rfl | rfl <;> rcases a1 with e | e | e <;> first | exact absurd e hn | (rcases hpp with rfl | rfl | rfl | rfl <;> simp only [ihm, ohI, e, if_neg (show ¬ (1 : Nat) = 0 by decide), if_neg (show ¬ (2 : Nat) = 0 by decide)] <;> decide)
  unfold rrq msq
  by_cases hl : lv M.1 k = true
  · by_cases c : (lv M.1 k = true ∧ M.1 12 k = -1 ∧ M.1 13 k = 0) ∧ ohI M.1 k = nI p
    · rw [if_pos c, if_pos ⟨((key hl).mpr c.2).1, ((key hl).mpr c.2).2, hl, c.1.2.1, c.1.2.2⟩]
      exact e_sc hl
    · rw [if_neg c, if_neg (fun z => c ⟨⟨z.2.2.1, z.2.2.2⟩, (key hl).mp ⟨z.1, z.2.1⟩⟩)]
  · rw [if_neg (fun z => hl z.2.2.1), if_neg (fun z => hl z.1.1)]
theorem INV_sq {X k p : Nat} {M : mM} (hX : X < 2 ^ 30) (k0 : INV X M) (hD : KD M.1) (hk : k < 3) (hp : p < 4) (hu : M.1 0 p = 1) : INV (X + 1) (msq k p M) ∧ KD (msq k p M).1 ∧ (msq k p M).1 0 = M.1 0 := by
  unfold msq
  split
  · rename_i c
    obtain ⟨⟨c1, c2, c3⟩, c4⟩ := c
    rw [← e_sc c1]
    have h16 : ¬ M.1 16 k = 1 := fun z => ((k0.1.2.2.1 k hk).2.2.2.2.2.1 z).1 c2
    have kk := MID_sc hX k0.1 hk c1 c2 (fun i m u => by
      rcases ((k0.1.2.2.2.2.2.2.2.1 k hk).2.2 i m u).2.1 with z | z
      · exact h16 z
      · exact absurd (c3.symm.trans z) (by decide))
    have e11 : (rsc k M).1 11 = M.1 11 := rsc_I (by decide) (by decide) (by decide) (by decide) (by decide) (by decide)
    have e1 : (rsc k M).1 1 = M.1 1 := rsc_I (by decide) (by decide) (by decide) (by decide) (by decide) (by decide)
    have e12 : (rsc k M).1 12 = M.1 12 := rsc_I (by decide) (by decide) (by decide) (by decide) (by decide) (by decide)
    refine ⟨⟨kk, sc_SD k0.2⟩, fun k' hk' q hq hq1 => ?_, rsc_I (by decide) (by decide) (by decide) (by decide) (by decide) (by decide)⟩
    rw [e1] at hq1
    rw [e11, e12, ohI_c e11, rsc_13]
    obtain ⟨d1, d2, d3⟩ := hD k' hk' q hq hq1
    refine ⟨d1, d2, fun z y => ?_⟩
    by_cases e : k' = k
    · subst e
      have : q = p := (nI_eq (by omega) (by omega)).mp (y.symm.trans c4)
      subst this
      have := (k0.1.1 q hq).2.2.1 hu
      rw [hq1] at this
      exact absurd this (by decide)
    · rw [if_neg e] at z
      exact d3 z y
  · exact ⟨INV_X (Nat.le_succ X) k0, hD, rfl⟩
