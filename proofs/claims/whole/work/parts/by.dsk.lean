theorem lge_DR {X n : Nat} {f g : Nat → Int32} {s : ms} (h : lge f g) (k : DR X g s n) : DR X f s n := by
  obtain ⟨f0, p, c1, c2, c3, c4⟩ := k
  exact ⟨f0, p, c1, c2, lge_trans h c3, c4⟩
theorem rv_of {I : sm_I} {d : Nat} (k : K2 I) (hd : d < 2) (h : rv I d = true) : I 4 d = 1 ∧ I 5 d = 0 ∧ us I (1 - d) = true ∧ I 4 (1 - d) = 1 ∧ I 5 (1 - d) = 1 := by
  unfold rv at h
  simp at h
  obtain ⟨⟨h1, h2⟩, h3⟩ := h
  obtain ⟨-, v1, v2, -⟩ := k.1 d hd
  exact ⟨v1.resolve_left h1, h2, h3, us_5 k (by omega) h3⟩
theorem mcp0_7 {I : sm_I} {d q e j : Nat} (hd : d < 2) (he : e < 2) (hq : q < 49) (hj : j < 245) : dsk (mcp0 I d q) e j = if e = d ∧ q * 5 ≤ j ∧ j < q * 5 + 5 then dsk I (1 - d) j else dsk I e j := by
  unfold dsk mcp0
  rw [uI_c (by decide), uC_7 hd he hq hj]
  by_cases c : e = d ∧ q * 5 ≤ j ∧ j < q * 5 + 5
  · rw [if_pos c, if_pos c]
    congr 1
    omega
  · rw [if_neg c, if_neg c]
theorem mcp0_o {I : sm_I} {d q c : Nat} (h6 : c ≠ 6) (h7 : c ≠ 7) : mcp0 I d q c = I c := by
  funext j
  unfold mcp0
  rw [uI_c h6]
  unfold uC
  rw [if_neg (fun z => h7 z.1)]
theorem mcp0_6 {I : sm_I} {d q e : Nat} : mcp0 I d q 6 e = if e = d then nI (q + 1) else I 6 e := by
  unfold mcp0
  by_cases c : e = d
  · subst c
    rw [if_pos rfl, uI_s]
  · rw [if_neg c, uI_j c]
    unfold uC
    rw [if_neg (fun z => absurd z.1 (by decide))]
/-- a block is copied -/
theorem INV_cp1 {X d q : Nat} {M : mM} (k : INV X M) (hd : d < 2) (hr : rv M.1 d = true) (eq : M.1 6 d = nI q) (hq : q < 49) : INV X (mcpI M.1 d q, M.2) := by
  obtain ⟨k, kS⟩ := k
  have hok := MID_OK k
  obtain ⟨k1, k2, k3, k4, k5, k6, k7, k8, k9, k10, k11⟩ := k
  obtain ⟨I, Q, Z⟩ := M
  obtain ⟨r4, r5, ru, s4, s5⟩ := rv_of k2 hd hr
  have hdd : 1 - (1 - d) = d := by omega
  have hne : 1 - d ≠ d := by omega
  have f0 : ∀ c, c ≠ 6 → c ≠ 7 → mcp0 I d q c = I c := fun c h1 h2 => mcp0_o h1 h2
  have hcur : ∀ j, j < 245 → dsk (mcp0 I d q) (1 - d) j = dsk I (1 - d) j := fun j hj => by rw [mcp0_7 hd (by omega) hq hj, if_neg (fun z => hne z.1)]
  have hpre : ∀ j, j < 5 * (q + 1) → dsk (mcp0 I d q) d j = dsk I (1 - d) j := fun j hj => by
    rw [mcp0_7 hd hd hq (by omega)]
    by_cases c : d = d ∧ q * 5 ≤ j ∧ j < q * 5 + 5
    · rw [if_pos c]
    · rw [if_neg c]
      exact k11 d hd r5 r4 q eq j (by omega) hq
  obtain ⟨N, eN⟩ : ∃ N, N = mcpI I d q := ⟨_, rfl⟩
  have f : ∀ c, c ≠ 5 → c ≠ 6 → c ≠ 7 → c ≠ 22 → N c = I c := fun c h1 h2 h3 h4 => by
    rw [eN]
    unfold mcpI
    split
    · rw [uI_f h4, uI_f h1, f0 c h2 h3]
    · exact f0 c h2 h3
  have f7 : N 7 = mcp0 I d q 7 := by
    rw [eN]
    unfold mcpI
    split
    · rw [uI_f (by decide), uI_f (by decide)]
    · rfl
  have f6 : ∀ e, N 6 e = if e = d then nI (q + 1) else I 6 e := fun e => by
    rw [eN]
    unfold mcpI
    split
    · rw [uI_c (by decide), uI_c (by decide)]
      exact mcp0_6
    · exact mcp0_6
  have f5o : N 5 (1 - d) = 1 := by
    rw [eN]
    unfold mcpI
    split
    · rw [uI_c (by decide), uI_j hne, f0 5 (by decide) (by decide)]
      exact s5
    · rw [f0 5 (by decide) (by decide)]
      exact s5
  have f22o : N 22 (1 - d) = I 22 (1 - d) := by
    rw [eN]
    unfold mcpI
    split
    · rw [uI_j hne, uI_c (by decide), f0 22 (by decide) (by decide)]
    · rw [f0 22 (by decide) (by decide)]
  have f5d : (49 ≤ q + 1 ∧ N 5 d = 1 ∧ N 22 d = I 22 (1 - d)) ∨ (q + 1 < 49 ∧ N 5 d = 0 ∧ N 22 d = I 22 d) := by
    rw [eN]
    unfold mcpI
    split
    · rename_i h
      refine Or.inl ⟨h, ?_, uI_s⟩
      rw [uI_c (by decide), uI_s]
    · rename_i h
      refine Or.inr ⟨by omega, ?_, ?_⟩
      · rw [f0 5 (by decide) (by decide)]; exact r5
      · rw [f0 22 (by decide) (by decide)]
  show INV X (mcpI I d q, Q, Z)
  rw [← eN]
  have e0 := f 0 (by decide) (by decide) (by decide) (by decide)
  have e4 := f 4 (by decide) (by decide) (by decide) (by decide)
  have e10 := f 10 (by decide) (by decide) (by decide) (by decide)
  have e11 := f 11 (by decide) (by decide) (by decide) (by decide)
  have e16 := f 16 (by decide) (by decide) (by decide) (by decide)
  have cas : ∀ e, e < 2 → e = d ∨ e = 1 - d := fun e he => by omega
  have hlo : lge (dsk N (1 - d)) (dsk I (1 - d)) := by
    have h : ∀ j, j < 245 → dsk N (1 - d) j = dsk I (1 - d) j := fun j hj => by
      rw [← hcur j hj]
      unfold dsk
      rw [f7]
    exact ⟨h 80 (by omega), fun j _ b => h j b⟩
  have hld : 49 ≤ q + 1 → lge (dsk N d) (dsk I (1 - d)) := fun hq' => by
    have h : ∀ j, j < 245 → dsk N d j = dsk I (1 - d) j := fun j hj => by
      rw [← hpre j (by omega)]
      unfold dsk
      rw [f7]
    exact ⟨h 80 (by omega), fun j _ b => h j b⟩
  refine ⟨⟨K1_c e0 (f 1 (by decide) (by decide) (by decide) (by decide)) (f 2 (by decide) (by decide) (by decide) (by decide)) k1, ?_, fun k' hk' => K3_c e0 (f 1 (by decide) (by decide) (by decide) (by decide)) e11 (congrFun (f 12 (by decide) (by decide) (by decide) (by decide)) _) (congrFun (f 13 (by decide) (by decide) (by decide) (by decide)) _) (congrFun (f 14 (by decide) (by decide) (by decide) (by decide)) _) (congrFun e16 _) (congrFun (f 40 (by decide) (by decide) (by decide) (by decide)) _) (k3 k' hk'), fun t ht => K4_c (M := (I, Q, Z)) (N := (N, Q, Z)) e0 e11 (congrFun e16 _) (congrFun (f 17 (by decide) (by decide) (by decide) (by decide)) _) (row1_c (M := (I, Q, Z)) (N := (N, Q, Z)) e11 rfl) (k4 t ht), ?_, fun l hl => K6_c e0 (congrFun (f 9 (by decide) (by decide) (by decide) (by decide)) _) (congrFun e10 _) (congrFun (f 24 (by decide) (by decide) (by decide) (by decide)) _) (congrFun (f 25 (by decide) (by decide) (by decide) (by decide)) _) rfl (k6 l hl), K7_c (M := (I, Q, Z)) (N := (N, Q, Z)) e11 (f 17 (by decide) (by decide) (by decide) (by decide)) (f 40 (by decide) (by decide) (by decide) (by decide)) rfl k7, fun k' hk' => K8_c e10 e11 (congrFun (f 13 (by decide) (by decide) (by decide) (by decide)) _) (congrFun (f 15 (by decide) (by decide) (by decide) (by decide)) _) (congrFun e16 _) (congrFun (f 40 (by decide) (by decide) (by decide) (by decide)) _) (k8 k' hk'), fun e he h5 => ?_, K10_c (M := (I, Q, Z)) (N := (N, Q, Z)) e10 e11 (congrFun (f 12 (by decide) (by decide) (by decide) (by decide)) _) (congrFun (f 13 (by decide) (by decide) (by decide) (by decide)) _) (congrFun (f 14 (by decide) (by decide) (by decide) (by decide)) _) (congrFun (f 15 (by decide) (by decide) (by decide) (by decide)) _) (congrFun e16 _) rfl (fun _ _ => rfl) k10, fun e he h5 h4 q' eq' j hj hq' => ?_⟩, ?_⟩
  · obtain ⟨c1, c2, c3⟩ := k2
    refine ⟨fun e he => ?_, fun z1 z2 => ?_, ?_⟩
    · rw [show (N, Q, Z).1 3 = I 3 from f 3 (by decide) (by decide) (by decide) (by decide), show (N, Q, Z).1 4 = I 4 from e4]
      obtain ⟨b1, b2, b3, b4⟩ := c1 e he
      refine ⟨b1, b2, ?_⟩
      rcases cas e he with rfl | rfl
      · rcases f5d with ⟨g1, g2, -⟩ | ⟨g1, g2, -⟩
        · exact ⟨Or.inr g2, fun z => absurd (g2.symm.trans z) (by decide)⟩
        · refine ⟨Or.inl g2, fun _ => ⟨q + 1, g1, ?_⟩⟩
          show N 6 e = _
          rw [f6, if_pos rfl]
      · exact ⟨Or.inr f5o, fun z => absurd (f5o.symm.trans z) (by decide)⟩
    · rw [show (N, Q, Z).1 4 = I 4 from e4]
      have : d = 0 ∨ d = 1 := by omega
      rcases this with rfl | rfl
      · exact ⟨r4, s4⟩
      · exact ⟨s4, r4⟩
    · have : d = 0 ∨ d = 1 := by omega
      rcases this with rfl | rfl
      · exact Or.inr f5o
      · exact Or.inl f5o
  · obtain ⟨a1, a2, a3, a4, a5, a6, a7⟩ := k5
    have er : row1 (N, Q, Z) 0 = row1 (I, Q, Z) 0 := row1_c (M := (I, Q, Z)) (N := (N, Q, Z)) e11 rfl
    unfold K5
    rw [er]
    simp only []
    rw [lv_c e0 e11, rwi_c e11, e16, f 23 (by decide) (by decide) (by decide) (by decide), f 21 (by decide) (by decide) (by decide) (by decide), f 20 (by decide) (by decide) (by decide) (by decide)]
    have g22 : ∀ e, e < 2 → N 22 e = I 22 e ∨ N 22 e = I 22 (1 - d) := fun e he => by
      rcases cas e he with rfl | rfl
      · rcases f5d with ⟨-, -, g3⟩ | ⟨-, -, g3⟩
        · exact Or.inr g3
        · exact Or.inl g3
      · exact Or.inl f22o
    refine ⟨a1, fun z => ?_, a3, a4, a5, a6, fun z e he h5 => ?_⟩
    · have h22 : ∀ e, e < 2 → I 22 e = 0 := fun e he => by
        have : e = 0 ∨ e = 1 := by omega
        rcases this with rfl | rfl
        · exact (a2 z).1
        · exact (a2 z).2
      refine ⟨?_, ?_⟩
      · rcases g22 0 (by omega) with y | y <;> rw [y] <;> exact h22 _ (by omega)
      · rcases g22 1 (by omega) with y | y <;> rw [y] <;> exact h22 _ (by omega)
    · rcases cas e he with rfl | rfl
      · rcases f5d with ⟨-, -, g3⟩ | ⟨-, g2, -⟩
        · rw [g3]; exact a7 z _ (by omega) s5
        · exact absurd (g2.symm.trans h5) (by decide)
      · rw [f22o]; exact a7 z _ (by omega) s5
  · simp only [] at h5 ⊢
    rw [lv_c e0 e11, rwi_c e11, rwo_c e11, f 12 (by decide) (by decide) (by decide) (by decide), f 13 (by decide) (by decide) (by decide) (by decide), f 14 (by decide) (by decide) (by decide) (by decide), e16]
    obtain ⟨a1, a2, a3, a4, a5⟩ := k9 (1 - d) (by omega) s5
    have key : lge (dsk N e) (dsk I (1 - d)) ∧ N 22 e = I 22 (1 - d) := by
      rcases cas e he with rfl | rfl
      · rcases f5d with ⟨g1, -, g3⟩ | ⟨-, g2, -⟩
        · exact ⟨hld g1, g3⟩
        · exact absurd (g2.symm.trans h5) (by decide)
      · exact ⟨hlo, f22o⟩
    refine ⟨LG_c key.1 a1, fun z => ?_, fun z => lge_DR key.1 (a3 z), fun z i m u => lge_DR key.1 (a4 z i m ((US_c (I := I) e10 e11).mp u)), fun z y i m u => lge_DR key.1 (a5 z y i m ((UW_c (I := I) e10 e11 (congrFun (f 15 (by decide) (by decide) (by decide) (by decide)) _)).mp u))⟩
    obtain ⟨n, b1, b2⟩ := a2 z
    exact ⟨n, lge_DR key.1 b1, fun y => by rw [key.2]; exact b2 y⟩
  · simp only [] at h5 h4 eq' ⊢
    rcases cas e he with rfl | rfl
    · rcases f5d with ⟨-, g2, -⟩ | ⟨g1, -, -⟩
      · exact absurd (g2.symm.trans h5) (by decide)
      · rw [f6, if_pos rfl] at eq'
        have : q' = q + 1 := (nI_eq (by omega) (by omega)).mp eq'.symm
        subst this
        have h1 : dsk N e j = dsk (mcp0 I e q) e j := by unfold dsk; rw [f7]
        have h2 : dsk N (1 - e) j = dsk (mcp0 I e q) (1 - e) j := by unfold dsk; rw [f7]
        rw [h1, h2, hcur j (by omega), hpre j hj]
    · exact absurd (f5o.symm.trans h5) (by decide)
  · obtain ⟨s1, s2⟩ := kS
    unfold SD2
    simp only []
    rw [lv_c e0 e11, rwi_c e11, e16, f 21 (by decide) (by decide) (by decide) (by decide)]
    refine ⟨fun hl h16 => ?_, s2⟩
    obtain ⟨e, he, h5, hg⟩ := s1 hl h16
    rcases cas e he with rfl | rfl
    · exact absurd (r5.symm.trans h5) (by decide)
    · exact ⟨1 - d, by omega, f5o, by rw [f22o]; exact hg⟩
theorem INV_id {X b : Nat} {M : mM} (k : INV X M) : rset b M = M := SD2_set k.1.2.1 k.1.2.2.2.2.1 (by have := (MID_OK k.1).2.2.2.2.1; omega) k.2
theorem INV_X {X Y : Nat} {M : mM} (h : X ≤ Y) (k : INV X M) : INV Y M := ⟨MID_X h k.1, k.2⟩
theorem INV_cp {X : Nat} {M : mM} (k : INV X M) : rcp M = mcpy M ∧ INV X (rcp M).2 := by
  have key : ∀ d, d < 2 → rv M.1 d = true → rcp1 d M = (mcpI M.1 d (M.1 6 d).toNatClampNeg, M.2) ∧ INV X (rcp1 d M) := by
    intro d hd hr
    obtain ⟨q, hq, eq⟩ := (k.1.2.1.1 d hd).2.2.2 (rv_of k.1.2.1 hd hr).2.1
    have e6 : (M.1 6 d).toNatClampNeg = q := by rw [eq]; exact nI_clamp (by omega)
    have kc := INV_cp1 k hd hr eq hq
    unfold rcp1
    rw [e6]
    split
    · rw [INV_id kc]
      exact ⟨rfl, kc⟩
    · exact ⟨rfl, kc⟩
  unfold rcp mcpy
  by_cases c : rv M.1 0 = true
  · obtain ⟨z1, z2⟩ := key 0 (by omega) c
    rw [if_pos c, if_pos c, ← z1]
    exact ⟨rfl, z2⟩
  · rw [if_neg c, if_neg c]
    by_cases c2 : rv M.1 1 = true
    · obtain ⟨z1, z2⟩ := key 1 (by omega) c2
      rw [if_pos c2, if_pos c2, ← z1]
      exact ⟨rfl, z2⟩
    · rw [if_neg c2, if_neg c2]
      exact ⟨rfl, k⟩
