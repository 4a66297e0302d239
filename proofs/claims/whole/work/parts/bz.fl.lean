/-- only the discs' being up, current and next change -/
theorem MID_456 {X : Nat} {M : mM} {N : sm_I} (k : MID X M) (f : ∀ c, c ≠ 4 → c ≠ 5 → c ≠ 6 → N c = M.1 c) (h2 : K2 N) (h5 : ∀ d, d < 2 → N 5 d = 1 → M.1 5 d = 1) (h11 : K11 N) : MID X (N, M.2) := by
  obtain ⟨k1, k2, k3, k4, k5, k6, k7, k8, k9, k10, k11⟩ := k
  have e0 := f 0 (by decide) (by decide) (by decide)
  have e10 := f 10 (by decide) (by decide) (by decide)
  have e11 := f 11 (by decide) (by decide) (by decide)
  have e12 := f 12 (by decide) (by decide) (by decide)
  have e13 := f 13 (by decide) (by decide) (by decide)
  have e14 := f 14 (by decide) (by decide) (by decide)
  have e15 := f 15 (by decide) (by decide) (by decide)
  have e16 := f 16 (by decide) (by decide) (by decide)
  have e22 := f 22 (by decide) (by decide) (by decide)
  refine ⟨K1_c e0 (f 1 (by decide) (by decide) (by decide)) (f 2 (by decide) (by decide) (by decide)) k1, h2, fun k' hk' => K3_c e0 (f 1 (by decide) (by decide) (by decide)) e11 (congrFun e12 _) (congrFun e13 _) (congrFun e14 _) (congrFun e16 _) (congrFun (f 40 (by decide) (by decide) (by decide)) _) (k3 k' hk'), fun t ht => K4_c (N := (N, M.2)) e0 e11 (congrFun e16 _) (congrFun (f 17 (by decide) (by decide) (by decide)) _) (row1_c (N := (N, M.2)) e11 rfl) (k4 t ht), ?_, fun l hl => K6_c e0 (congrFun (f 9 (by decide) (by decide) (by decide)) _) (congrFun e10 _) (congrFun (f 24 (by decide) (by decide) (by decide)) _) (congrFun (f 25 (by decide) (by decide) (by decide)) _) rfl (k6 l hl), K7_c (N := (N, M.2)) e11 (f 17 (by decide) (by decide) (by decide)) (f 40 (by decide) (by decide) (by decide)) rfl k7, fun k' hk' => K8_c e10 e11 (congrFun e13 _) (congrFun e15 _) (congrFun e16 _) (congrFun (f 40 (by decide) (by decide) (by decide)) _) (k8 k' hk'), fun d hd z5 => ?_, K10_c (N := (N, M.2)) e10 e11 (congrFun e12 _) (congrFun e13 _) (congrFun e14 _) (congrFun e15 _) (congrFun e16 _) rfl (fun _ _ => rfl) k10, h11⟩
  · obtain ⟨a1, a2, a3, a4, a5, a6, a7⟩ := k5
    have er : row1 (N, M.2) 0 = row1 M 0 := row1_c (N := (N, M.2)) e11 rfl
    unfold K5
    rw [er]
    simp only []
    rw [lv_c e0 e11, rwi_c e11, e16, e22, f 23 (by decide) (by decide) (by decide), f 21 (by decide) (by decide) (by decide), f 20 (by decide) (by decide) (by decide)]
    exact ⟨a1, a2, a3, a4, a5, a6, fun z d hd z5 => a7 z d hd (h5 d hd z5)⟩
  · obtain ⟨a1, a2, a3, a4, a5⟩ := k9 d hd (h5 d hd z5)
    simp only []
    rw [dsk_c (f 7 (by decide) (by decide) (by decide)), lv_c e0 e11, rwi_c e11, rwo_c e11, e12, e13, e14, e16, e22]
    exact ⟨a1, a2, a3, fun z i m u => a4 z i m ((US_c e10 e11).mp u), fun z y i m u => a5 z y i m ((UW_c e10 e11 (congrFun e15 _)).mp u)⟩
/-- a disc fails -/
theorem INV_fd {X d : Nat} {M : mM} (hX : X + 50 < 2 ^ 28) (k : INV X M) (hd : d < 2) : rfl2 d M = mfl2 d M ∧ INV (X + 40) (rfl2 d M).2 := by
  have en : uI (uI (if us M.1 (1 - d) = true then uI M.1 5 d 0 else M.1) 4 d 0) 6 d 0 = mdsI M.1 d := by
    unfold mdsI
    split
    · rw [uI_x (c := 5) (c' := 4) (by decide)]
    · rfl
  unfold rfl2 mfl2
  rw [en]
  by_cases c : M.1 4 d = 0
  · rw [if_pos c, if_pos c]
    exact ⟨rfl, INV_X (by omega) k⟩
  · rw [if_neg c, if_neg c]
    obtain ⟨km, kS⟩ := k
    have k2 := km.2.1
    obtain ⟨N, eN⟩ : ∃ N, N = mdsI M.1 d := ⟨_, rfl⟩
    have f : ∀ c, c ≠ 4 → c ≠ 5 → c ≠ 6 → N c = M.1 c := fun c h1 h2 h3 => by
      rw [eN]
      unfold mdsI
      rw [uI_f h3]
      split
      · rw [uI_f h2, uI_f h1]
      · rw [uI_f h1]
    have f4 : ∀ e, N 4 e = if e = d then 0 else M.1 4 e := fun e => by
      rw [eN]
      unfold mdsI
      rw [uI_c (by decide)]
      by_cases ce : e = d
      · subst ce
        rw [if_pos rfl]
        split
        · rw [uI_c (by decide), uI_s]
        · rw [uI_s]
      · rw [if_neg ce]
        split
        · rw [uI_j ce, uI_j ce]
        · rw [uI_j ce]
    have f5 : ∀ e, N 5 e = if e = d ∧ us M.1 (1 - d) = true then 0 else M.1 5 e := fun e => by
      rw [eN]
      unfold mdsI
      rw [uI_c (by decide)]
      by_cases cu : us M.1 (1 - d) = true
      · rw [if_pos cu]
        by_cases ce : e = d
        · subst ce
          rw [if_pos ⟨rfl, cu⟩, uI_s]
        · rw [if_neg (fun z => ce z.1), uI_j ce, uI_j ce]
      · rw [if_neg cu, if_neg (fun z => cu z.2), uI_c (by decide)]
    have f6 : ∀ e, N 6 e = if e = d then 0 else M.1 6 e := fun e => by
      rw [eN]
      unfold mdsI
      by_cases ce : e = d
      · subst ce
        rw [if_pos rfl, uI_s]
      · rw [if_neg ce, uI_j ce]
        split
        · rw [uI_j ce, uI_j ce]
        · rw [uI_j ce]
    have hne : 1 - d ≠ d := by omega
    have cas : ∀ e, e < 2 → e = d ∨ e = 1 - d := fun e he => by omega
    have k2N : K2 N := by
      obtain ⟨c1, c2, c3⟩ := k2
      refine ⟨fun e he => ?_, fun z1 z2 => ?_, ?_⟩
      · obtain ⟨b1, b2, b3, b4⟩ := c1 e he
        rw [f 3 (by decide) (by decide) (by decide), f4, f5, f6]
        refine ⟨b1, ?_, ?_, fun z => ?_⟩
        · split
          · exact Or.inl rfl
          · exact b2
        · split
          · exact Or.inl rfl
          · exact b3
        · by_cases ce : e = d
          · rw [if_pos ce]
            exact ⟨0, by omega, rfl⟩
          · rw [if_neg (fun y => ce y.1)] at z
            rw [if_neg ce]
            exact b4 z
      · exfalso
        have h : ∀ e, e < 2 → N 5 e = 1 := fun e he => by
          have : e = 0 ∨ e = 1 := by omega
          rcases this with rfl | rfl
          · exact z1
          · exact z2
        have hd5 := h d hd
        rw [f5] at hd5
        have hu : ¬ us M.1 (1 - d) = true := fun z => by
          rw [if_pos ⟨rfl, z⟩] at hd5
          exact absurd hd5 (by decide)
        rw [if_neg (fun z => hu z.2)] at hd5
        have ho5 := h (1 - d) (by omega)
        rw [f5, if_neg (fun z => hne z.1)] at ho5
        have : M.1 4 (1 - d) = 1 := by
          have hh : M.1 5 0 = 1 ∧ M.1 5 1 = 1 := by
            have : d = 0 ∨ d = 1 := by omega
            rcases this with rfl | rfl
            · exact ⟨hd5, ho5⟩
            · exact ⟨ho5, hd5⟩
          have : d = 0 ∨ d = 1 := by omega
          rcases this with rfl | rfl
          · exact (c2 hh.1 hh.2).2
          · exact (c2 hh.1 hh.2).1
        exact hu (by simp [us, this, ho5])
      · by_cases cu : us M.1 (1 - d) = true
        · have h5 := (us_5 ⟨c1, c2, c3⟩ (by omega) cu).2
          have : N 5 (1 - d) = 1 := by rw [f5, if_neg (fun z => hne z.1)]; exact h5
          have hdd : d = 0 ∨ d = 1 := by omega
          rcases hdd with rfl | rfl
          · exact Or.inr this
          · exact Or.inl this
        · rw [f5, f5, if_neg (fun z => cu z.2), if_neg (fun z => cu z.2)]
          exact c3
    have kN : MID X (N, M.2) := by
      refine MID_456 km f k2N (fun e he z => ?_) (fun e he z5 z4 q eq j hj hq => ?_)
      · rw [f5] at z
        split at z
        · exact absurd z (by decide)
        · exact z
      · rw [dsk_c (f 7 (by decide) (by decide) (by decide)), dsk_c (f 7 (by decide) (by decide) (by decide))]
        rcases cas e he with ce | ce
        · rw [f4, if_pos ce] at z4
          exact absurd z4 (by decide)
        · have hed : e ≠ d := by omega
          rw [f4, if_neg hed] at z4
          rw [f5, if_neg (fun z => hed z.1)] at z5
          rw [f6, if_neg hed] at eq
          exact km.2.2.2.2.2.2.2.2.2.2 e he z5 z4 q eq j hj hq
    have hN : NU (N, M.2) := by
      intro hl h16 u0 u1
      have e0 := f 0 (by decide) (by decide) (by decide)
      have e11 := f 11 (by decide) (by decide) (by decide)
      simp only [] at hl h16 u0 u1 ⊢
      rw [lv_c e0 e11] at hl
      rw [f 16 (by decide) (by decide) (by decide)] at h16
      obtain ⟨e, he, h5, hg⟩ := kS.1 hl h16
      refine Or.inr ⟨e, he, ?_, by rw [f 22 (by decide) (by decide) (by decide), rwi_c e11]; exact hg⟩
      rw [f5]
      by_cases ce : e = d ∧ us M.1 (1 - d) = true
      · exfalso
        have hu := ce.2
        have hun : us N (1 - d) = true := by
          unfold us
          rw [f4, f5, if_neg hne, if_neg (fun z => hne z.1)]
          exact hu
        have : d = 0 ∨ d = 1 := by omega
        rcases this with rfl | rfl
        · rw [show (1 : Nat) - 0 = 1 from rfl, u1] at hun
          cases hun
        · rw [show (1 : Nat) - 1 = 0 from rfl, u0] at hun
          cases hun
      · rw [if_neg ce]
        exact h5
    obtain ⟨z1, z2⟩ := MID_set30 hX kN hN
    rw [← eN, z2]
    exact ⟨rfl, z1⟩
/-- a disc is repaired -/
theorem INV_rd {X d : Nat} {M : mM} (k : INV X M) (hd : d < 2) : rrr2 d M = mrr2 d M ∧ INV X (rrr2 d M).2 := by
  unfold rrr2 mrr2
  by_cases c : M.1 4 d = 0
  · rw [if_pos c, if_pos c]
    obtain ⟨km, kS⟩ := k
    obtain ⟨N, eN⟩ : ∃ N, N = uI (uI M.1 4 d 1) 6 d 0 := ⟨_, rfl⟩
    rw [← eN]
    have f : ∀ c, c ≠ 4 → c ≠ 5 → c ≠ 6 → N c = M.1 c := fun c h1 h2 h3 => by rw [eN, uI_f h3, uI_f h1]
    have f5 : N 5 = M.1 5 := by rw [eN, uI_f (by decide), uI_f (by decide)]
    have f4 : ∀ e, N 4 e = if e = d then 1 else M.1 4 e := fun e => by
      rw [eN, uI_c (by decide)]
      by_cases ce : e = d
      · subst ce
        rw [if_pos rfl, uI_s]
      · rw [if_neg ce, uI_j ce]
    have f6 : ∀ e, N 6 e = if e = d then 0 else M.1 6 e := fun e => by
      rw [eN]
      by_cases ce : e = d
      · subst ce
        rw [if_pos rfl, uI_s]
      · rw [if_neg ce, uI_j ce, uI_j ce]
    have kN : MID X (N, M.2) := by
      refine MID_456 km f ?_ (fun e he z => by rw [f5] at z; exact z) (fun e he z5 z4 q eq j hj hq => ?_)
      · obtain ⟨c1, c2, c3⟩ := km.2.1
        refine ⟨fun e he => ?_, fun z1 z2 => ?_, by rw [f5]; exact c3⟩
        · obtain ⟨b1, b2, b3, b4⟩ := c1 e he
          rw [f 3 (by decide) (by decide) (by decide), f4, f5, f6]
          refine ⟨b1, ?_, b3, fun z => ?_⟩
          · split
            · exact Or.inr rfl
            · exact b2
          · split
            · exact ⟨0, by omega, rfl⟩
            · exact b4 z
        · rw [f5] at z1 z2
          obtain ⟨y1, y2⟩ := c2 z1 z2
          have : d = 0 ∨ d = 1 := by omega
          rcases this with rfl | rfl
          · rw [c] at y1
            exact absurd y1 (by decide)
          · rw [c] at y2
            exact absurd y2 (by decide)
      · rw [dsk_c (f 7 (by decide) (by decide) (by decide)), dsk_c (f 7 (by decide) (by decide) (by decide))]
        by_cases ce : e = d
        · rw [f6, if_pos ce] at eq
          have : q = 0 := (nI_eq (a := q) (b := 0) (by omega) (by omega)).mp eq.symm
          omega
        · rw [f4, if_neg ce] at z4
          rw [f5] at z5
          rw [f6, if_neg ce] at eq
          exact km.2.2.2.2.2.2.2.2.2.2 e he z5 z4 q eq j hj hq
    have hS : SD2 (N, M.2) := by
      have e0 := f 0 (by decide) (by decide) (by decide)
      have e11 := f 11 (by decide) (by decide) (by decide)
      unfold SD2
      simp only []
      rw [lv_c e0 e11, rwi_c e11, f5, f 16 (by decide) (by decide) (by decide), f 21 (by decide) (by decide) (by decide), f 22 (by decide) (by decide) (by decide)]
      exact kS
    have kk : INV X (N, M.2) := ⟨kN, hS⟩
    rw [INV_id kk]
    exact ⟨rfl, kk⟩
  · rw [if_neg c, if_neg c]
    exact ⟨rfl, k⟩
/-! the buses -/
theorem INV_24 {X : Nat} {M : mM} {N : sm_I} (k : INV X M) (f : ∀ c, c ≠ 3 → c ≠ 24 → c ≠ 25 → N c = M.1 c) (h3 : ∀ d, d < 2 → b01 (N 3 d)) (h24 : ∀ l, l < 16 → tri (N 24 l) ∧ tri (N 25 l) ∧ (M.2.1 l = [] → N 24 l = -1 ∧ N 25 l = -1)) : INV X (N, M.2) := by
  obtain ⟨⟨k1, k2, k3, k4, k5, k6, k7, k8, k9, k10, k11⟩, kS⟩ := k
  have e0 := f 0 (by decide) (by decide) (by decide)
  have e5 := f 5 (by decide) (by decide) (by decide)
  have e10 := f 10 (by decide) (by decide) (by decide)
  have e11 := f 11 (by decide) (by decide) (by decide)
  have e12 := f 12 (by decide) (by decide) (by decide)
  have e13 := f 13 (by decide) (by decide) (by decide)
  have e14 := f 14 (by decide) (by decide) (by decide)
  have e15 := f 15 (by decide) (by decide) (by decide)
  have e16 := f 16 (by decide) (by decide) (by decide)
  have e21 := f 21 (by decide) (by decide) (by decide)
  have e22 := f 22 (by decide) (by decide) (by decide)
  refine ⟨⟨K1_c e0 (f 1 (by decide) (by decide) (by decide)) (f 2 (by decide) (by decide) (by decide)) k1, ?_, fun k' hk' => K3_c e0 (f 1 (by decide) (by decide) (by decide)) e11 (congrFun e12 _) (congrFun e13 _) (congrFun e14 _) (congrFun e16 _) (congrFun (f 40 (by decide) (by decide) (by decide)) _) (k3 k' hk'), fun t ht => K4_c (N := (N, M.2)) e0 e11 (congrFun e16 _) (congrFun (f 17 (by decide) (by decide) (by decide)) _) (row1_c (N := (N, M.2)) e11 rfl) (k4 t ht), K5_c (N := (N, M.2)) e0 e5 e11 (congrFun e16 _) (f 20 (by decide) (by decide) (by decide)) e21 e22 (f 23 (by decide) (by decide) (by decide)) rfl k5, fun l hl => ?_, K7_c (N := (N, M.2)) e11 (f 17 (by decide) (by decide) (by decide)) (f 40 (by decide) (by decide) (by decide)) rfl k7, fun k' hk' => K8_c e10 e11 (congrFun e13 _) (congrFun e15 _) (congrFun e16 _) (congrFun (f 40 (by decide) (by decide) (by decide)) _) (k8 k' hk'), K9_c (N := (N, M.2)) e0 e5 (f 7 (by decide) (by decide) (by decide)) e10 e11 (congrFun e12 _) (congrFun e13 _) (congrFun e14 _) (congrFun e15 _) (congrFun e16 _) e22 rfl (fun _ _ => rfl) k9, K10_c (N := (N, M.2)) e10 e11 (congrFun e12 _) (congrFun e13 _) (congrFun e14 _) (congrFun e15 _) (congrFun e16 _) rfl (fun _ _ => rfl) k10, K11_c (f 4 (by decide) (by decide) (by decide)) e5 (f 6 (by decide) (by decide) (by decide)) (f 7 (by decide) (by decide) (by decide)) k11⟩, ?_⟩
  · obtain ⟨c1, c2, c3⟩ := k2
    unfold K2
    simp only []
    rw [f 4 (by decide) (by decide) (by decide), e5, f 6 (by decide) (by decide) (by decide)]
    exact ⟨fun d hd => ⟨h3 d hd, (c1 d hd).2⟩, c2, c3⟩
  · obtain ⟨a1, a2, a3, a4, a5, a6⟩ := k6 l hl
    obtain ⟨b1, b2, b3⟩ := h24 l hl
    unfold K6 KN
    simp only []
    rw [e0, e10, f 9 (by decide) (by decide) (by decide)]
    exact ⟨a1, b3, b1, b2, a5, a6⟩
  · unfold SD2
    simp only []
    rw [lv_c e0 e11, rwi_c e11, e5, e16, e21, e22]
    exact kS
theorem INV_fb {X b : Nat} {M : mM} (k : INV X M) (hb : b < 2) : INV X (mfl1 b M).2 := by
  unfold mfl1
  split
  · exact k
  · refine INV_24 k (fun c h1 h2 h3 => ?_) (fun d hd => ?_) (fun l hl => ?_)
    · funext j
      unfold mbsI
      rw [if_neg (fun z => h2 z.1), uI_c h1]
    · unfold mbsI
      rw [if_neg (fun z => absurd z.1 (by decide))]
      by_cases e : d = b
      · subst e
        rw [uI_s]
        exact Or.inl rfl
      · rw [uI_j e]
        exact (k.1.2.1.1 d hd).1
    · obtain ⟨a1, a2, a3, a4, a5, a6⟩ := k.1.2.2.2.2.2.1 l hl
      have e25 : mbsI M.1 b 16 25 l = M.1 25 l := by
        unfold mbsI
        rw [if_neg (fun z => absurd z.1 (by decide)), uI_c (by decide)]
      rw [e25]
      unfold mbsI
      by_cases c : (24 = 24 ∧ l < 16 ∧ M.1 24 l = nI b)
      · rw [if_pos c]
        exact ⟨Or.inl rfl, a4, fun z => ⟨rfl, (a2 z).2⟩⟩
      · rw [if_neg c, uI_c (by decide)]
        exact ⟨a3, a4, a2⟩
theorem INV_rb {X b : Nat} {M : mM} (k : INV X M) (hb : b < 2) : INV X (mrr1 b M).2 := by
  unfold mrr1
  split
  · refine INV_24 k (fun c h1 _ _ => uI_f h1) (fun d hd => ?_) (fun l hl => ?_)
    · by_cases e : d = b
      · subst e
        rw [uI_s]
        exact Or.inr rfl
      · rw [uI_j e]
        exact (k.1.2.1.1 d hd).1
    · obtain ⟨a1, a2, a3, a4, a5, a6⟩ := k.1.2.2.2.2.2.1 l hl
      rw [uI_c (by decide), uI_c (by decide)]
      exact ⟨a3, a4, a2⟩
  · exact k
theorem INV_los {X f p : Nat} {M : mM} (k : INV X M) : INV X (mlos f p M).2 := by
  unfold mlos
  split
  · exact k
  · refine INV_24 (N := uI M.1 24 (4 * f + p) (-1)) k (fun c _ h2 _ => uI_f h2) (fun d hd => (k.1.2.1.1 d hd).1) (fun l hl => ?_)
    obtain ⟨a1, a2, a3, a4, a5, a6⟩ := k.1.2.2.2.2.2.1 l hl
    by_cases e : l = 4 * f + p
    · rw [← e, uI_s, uI_c (by decide)]
      exact ⟨Or.inl rfl, a4, fun z => ⟨rfl, (a2 z).2⟩⟩
    · rw [uI_j e, uI_c (by decide)]
      exact ⟨a3, a4, a2⟩
