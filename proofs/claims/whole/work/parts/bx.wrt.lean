/-! the discs -/
theorem DR_leq {X n : Nat} {f : Nat → Int32} {s s' : ms} (h : leq s s') (k : DR X f s' n) : DR X f s n := by
  obtain ⟨h1, h2⟩ := h
  unfold DR GB at k ⊢
  rw [h2, h1]
  exact k
theorem GB_wr {X : Nat} {f0 : Nat → Int32} {s : ms} {p g : Nat} {x : ms_W} (h : GB X f0 s) (hw : WB s) (hg : s.2.2[g]? = some x) (hgp : g < p) (hp : p ≤ s.2.2.length) : lge (ap1 (apl f0 (s.2.2.take p)) x) (apl f0 (s.2.2.take p)) := by
  by_cases c : ∃ q, q < 16 ∧ x.1 = nI q
  · exact ap1_rec c
  · -- a log block: nothing later wrote on it
    have key : ∀ n, g < n → n ≤ p → ∀ j, 5 * x.1.toNatClampNeg ≤ j → j < 5 * x.1.toNatClampNeg + 5 → apl f0 (s.2.2.take n) j = wn x (1 + (j - 5 * x.1.toNatClampNeg)) := by
      intro n
      induction n with
      | zero => intro h1; omega
      | succ n ih =>
        intro h1 h2 j j1 j2
        have hn : n < s.2.2.length := by omega
        obtain ⟨y, hy⟩ : ∃ y, s.2.2[n]? = some y := ⟨_, List.getElem?_eq_getElem hn⟩
        have et : s.2.2.take (n + 1) = s.2.2.take n ++ [y] := by
          rw [List.take_succ, hy]
          rfl
        rw [et, apl_app]
        show ap1 (apl f0 (s.2.2.take n)) y j = _
        by_cases e : n = g
        · subst e
          rw [hg] at hy
          cases hy
          unfold ap1
          rw [if_pos ⟨j1, j2⟩]
        · have hne : ¬ x.1 = y.1 := fun z => by
            rcases h.2.2.2 g n x y hg hy z with w | w
            · omega
            · exact c w
          unfold ap1
          by_cases cy : 5 * y.1.toNatClampNeg ≤ j ∧ j < 5 * y.1.toNatClampNeg + 5
          · exfalso
            obtain ⟨qx, a1, a2⟩ := hw g x hg
            obtain ⟨qy, b1, b2⟩ := hw n y hy
            rw [a2, nI_clamp (by omega)] at j1 j2
            rw [b2, nI_clamp (by omega)] at cy
            have : qx = qy := by omega
            exact hne (by rw [a2, b2, this])
          · rw [if_neg cy]
            exact ih (by omega) (by omega) j j1 j2
    have hk := key p hgp (Nat.le_refl _)
    refine ⟨?_, fun j a b => ?_⟩
    · unfold ap1
      split
      · rename_i z
        exact (hk 80 z.1 z.2).symm
      · rfl
    · unfold ap1
      split
      · rename_i z
        exact (hk j z.1 z.2).symm
      · rfl
theorem DR_wr {X g : Nat} {f f' : Nat → Int32} {s : ms} {x : ms_W} (k : DR X f s g) (hw : WB s) (hg : s.2.2[g]? = some x) (hf : lge f' (ap1 f x)) : DR X f' s (g + 1) := by
  obtain ⟨f0, p, k1, k2, k3, k4⟩ := k
  have hl := (List.getElem?_eq_some_iff.mp hg).1
  by_cases c : p = g
  · subst c
    refine ⟨f0, p + 1, Nat.le_refl _, by omega, lge_trans hf ?_, k4⟩
    have et : s.2.2.take (p + 1) = s.2.2.take p ++ [x] := by
      rw [List.take_succ, hg]
      rfl
    rw [et, apl_app]
    exact ap1_l k3
  · exact ⟨f0, p, by omega, k2, lge_trans hf (lge_trans (ap1_l k3) (GB_wr k4 hw hg (by omega) k2)), k4⟩
theorem DR_LG {X n : Nat} {f : Nat → Int32} {s : ms} (k : DR X f s n) : LG X f := by
  obtain ⟨f0, p, k1, k2, k3, k4⟩ := k
  exact LG_c k3 (k4.1 p k2)
theorem uC_7 {I : sm_I} {d e q j : Nat} {g : Nat → Int32} (hd : d < 2) (he : e < 2) (hq : q < 49) (hj : j < 245) : uC I 7 (245 * d + q * 5) 5 g 7 (245 * e + j) = if e = d ∧ q * 5 ≤ j ∧ j < q * 5 + 5 then g (j - q * 5) else I 7 (245 * e + j) := by
  unfold uC
  by_cases c : e = d ∧ q * 5 ≤ j ∧ j < q * 5 + 5
  · rw [if_pos c, if_pos ⟨rfl, by omega⟩]
    congr 1
    omega
  · rw [if_neg c, if_neg (by omega)]
theorem mwr_7 {I : sm_I} {d q : Nat} {x : ms_W} (hd : d < 2) (hq : q < 49) : (∀ j, j < 245 → dsk (mwrI I d q x) d j = if q * 5 ≤ j ∧ j < q * 5 + 5 then wn x (1 + (j - q * 5)) else dsk I d j) ∧ (∀ j, j < 245 → dsk (mwrI I d q x) (1 - d) j = if (rv I (1 - d) = true ∧ nI q < I 6 (1 - d)) ∧ q * 5 ≤ j ∧ j < q * 5 + 5 then wn x (1 + (j - q * 5)) else dsk I (1 - d) j) := by
  have hdd : d ≠ 1 - d := by omega
  refine ⟨fun j hj => ?_, fun j hj => ?_⟩
  · unfold dsk mwrI
    rw [uI_c (by decide)]
    split
    · rw [uC_7 (by omega) hd hq hj, if_neg (fun z => hdd z.1), uC_7 hd hd hq hj]
      by_cases c : q * 5 ≤ j ∧ j < q * 5 + 5
      · rw [if_pos ⟨rfl, c⟩, if_pos c]
      · rw [if_neg (fun z => c z.2), if_neg c]
    · rw [uC_7 hd hd hq hj]
      by_cases c : q * 5 ≤ j ∧ j < q * 5 + 5
      · rw [if_pos ⟨rfl, c⟩, if_pos c]
      · rw [if_neg (fun z => c z.2), if_neg c]
  · unfold dsk mwrI
    rw [uI_c (by decide)]
    by_cases c0 : rv I (1 - d) = true ∧ nI q < I 6 (1 - d)
    · rw [if_pos c0, uC_7 (by omega) (by omega) hq hj]
      by_cases c : q * 5 ≤ j ∧ j < q * 5 + 5
      · rw [if_pos ⟨rfl, c⟩, if_pos ⟨c0, c⟩]
      · rw [if_neg (fun z => c z.2), if_neg (fun z => c z.2), uC_7 hd (by omega) hq hj, if_neg (fun z => hdd z.1.symm)]
    · rw [if_neg c0, uC_7 hd (by omega) hq hj, if_neg (fun z => hdd z.1.symm), if_neg (fun z => c0 z.1)]
theorem mwr_o {I : sm_I} {d q c : Nat} {x : ms_W} (h7 : c ≠ 7) (h22 : c ≠ 22) : mwrI I d q x c = I c := by
  funext j
  unfold mwrI
  rw [uI_c h22]
  split
  · unfold uC
    rw [if_neg (fun z => h7 z.1), if_neg (fun z => h7 z.1)]
  · unfold uC
    rw [if_neg (fun z => h7 z.1)]
theorem mwr_22 {I : sm_I} {d q e : Nat} {x : ms_W} : mwrI I d q x 22 e = if e = d then I 22 d + 1 else I 22 e := by
  unfold mwrI
  by_cases c : e = d
  · subst c
    rw [if_pos rfl, uI_s]
  · rw [if_neg c, uI_j c]
    split
    · unfold uC
      rw [if_neg (fun z => absurd z.1 (by decide)), if_neg (fun z => absurd z.1 (by decide))]
    · unfold uC
      rw [if_neg (fun z => absurd z.1 (by decide))]
/-- a block is written -/
theorem MID_wr {X d g : Nat} {x : ms_W} {M : mM} (k : MID X M) (hd : d < 2) (hl : lv M.1 0 = true) (h2 : M.1 16 0 = 2) (hu : us M.1 d = true) (eg : M.1 22 d = nI g) (hx : (M.2.2 (rwi M.1 0)).2.2[g]? = some x) : MID X (mwrI M.1 d x.1.toNatClampNeg x, M.2) := by
  have hok := MID_OK k
  obtain ⟨k1, k2, k3, k4, k5, k6, k7, k8, k9, k10, k11⟩ := k
  obtain ⟨I, Q, Z⟩ := M
  obtain ⟨q, hq, eq⟩ := hok.2.1 g x hx
  have hwl := hok.2.2.2.2.1
  have hgl := (List.getElem?_eq_some_iff.mp hx).1
  change g < (Z (rwi I 0)).2.2.length at hgl
  change (Z (rwi I 0)).2.2.length ≤ 35 at hwl
  have hb : x.1.toNatClampNeg = q := by rw [eq]; exact nI_clamp (by omega)
  rw [hb]
  obtain ⟨u4, u5⟩ := us_5 k2 hd hu
  obtain ⟨N, eN⟩ : ∃ N, N = mwrI I d q x := ⟨_, rfl⟩
  have f : ∀ c, c ≠ 7 → c ≠ 22 → N c = I c := fun c h1 h3 => by rw [eN]; exact mwr_o h1 h3
  have f22 : ∀ e, N 22 e = if e = d then I 22 d + 1 else I 22 e := fun e => by rw [eN]; exact mwr_22
  have fg : N 22 d = nI (g + 1) := by
    rw [f22 d, if_pos rfl]
    have : I 22 d = nI g := eg
    rw [this]
    exact nI_add g 1
  obtain ⟨w1, w2⟩ := mwr_7 (I := I) (x := x) hd hq
  rw [← eN] at w1 w2
  show MID X (mwrI I d q x, Q, Z)
  rw [← eN]
  have hlg : lge (dsk N d) (ap1 (dsk I d) x) := by
    have h : ∀ j, j < 245 → dsk N d j = ap1 (dsk I d) x j := fun j hj => by
      rw [w1 j hj]
      unfold ap1
      rw [hb]
      by_cases c : q * 5 ≤ j ∧ j < q * 5 + 5
      · rw [if_pos c, if_pos (by omega)]
        congr 2
        omega
      · rw [if_neg c, if_neg (by omega)]
    exact ⟨h 80 (by omega), fun j _ b => h j b⟩
  have hoth : I 5 (1 - d) = 1 → ∀ j, j < 245 → dsk N (1 - d) j = dsk I (1 - d) j := fun h5 j hj => by
    rw [w2 j hj, if_neg]
    intro z
    have := z.1.1
    unfold rv at this
    simp [h5] at this
  have e0 := f 0 (by decide) (by decide)
  have e5 := f 5 (by decide) (by decide)
  have e10 := f 10 (by decide) (by decide)
  have e11 := f 11 (by decide) (by decide)
  refine ⟨K1_c e0 (f 1 (by decide) (by decide)) (f 2 (by decide) (by decide)) k1, K2_c (f 3 (by decide) (by decide)) (f 4 (by decide) (by decide)) e5 (f 6 (by decide) (by decide)) k2, fun k' hk' => K3_c e0 (f 1 (by decide) (by decide)) e11 (congrFun (f 12 (by decide) (by decide)) _) (congrFun (f 13 (by decide) (by decide)) _) (congrFun (f 14 (by decide) (by decide)) _) (congrFun (f 16 (by decide) (by decide)) _) (congrFun (f 40 (by decide) (by decide)) _) (k3 k' hk'), fun t ht => K4_c (M := (I, Q, Z)) (N := (N, Q, Z)) e0 e11 (congrFun (f 16 (by decide) (by decide)) _) (congrFun (f 17 (by decide) (by decide)) _) (row1_c (M := (I, Q, Z)) (N := (N, Q, Z)) e11 rfl) (k4 t ht), ?_, fun l hl => K6_c e0 (congrFun (f 9 (by decide) (by decide)) _) (congrFun e10 _) (congrFun (f 24 (by decide) (by decide)) _) (congrFun (f 25 (by decide) (by decide)) _) rfl (k6 l hl), K7_c (M := (I, Q, Z)) (N := (N, Q, Z)) e11 (f 17 (by decide) (by decide)) (f 40 (by decide) (by decide)) rfl k7, fun k' hk' => K8_c e10 e11 (congrFun (f 13 (by decide) (by decide)) _) (congrFun (f 15 (by decide) (by decide)) _) (congrFun (f 16 (by decide) (by decide)) _) (congrFun (f 40 (by decide) (by decide)) _) (k8 k' hk'), fun e he h5 => ?_, K10_c (M := (I, Q, Z)) (N := (N, Q, Z)) e10 e11 (congrFun (f 12 (by decide) (by decide)) _) (congrFun (f 13 (by decide) (by decide)) _) (congrFun (f 14 (by decide) (by decide)) _) (congrFun (f 15 (by decide) (by decide)) _) (congrFun (f 16 (by decide) (by decide)) _) rfl (fun _ _ => rfl) k10, fun e he h5 h4 q' eq' j hj hq' => ?_⟩
  · obtain ⟨a1, a2, a3, a4, a5, a6, a7⟩ := k5
    have er : row1 (N, Q, Z) 0 = row1 (I, Q, Z) 0 := row1_c (M := (I, Q, Z)) (N := (N, Q, Z)) e11 rfl
    unfold K5
    rw [er]
    simp only []
    rw [lv_c e0 e11, rwi_c e11, e5, f 16 (by decide) (by decide), f 23 (by decide) (by decide), f 21 (by decide) (by decide), f 20 (by decide) (by decide)]
    refine ⟨a1, fun z => absurd (h2.symm.trans z) (by decide), a3, a4, a5, a6, fun z e he h5 => ?_⟩
    rw [f22 e]
    by_cases c : e = d
    · subst c
      rw [if_pos rfl]
      refine ⟨g + 1, by omega, ?_⟩
      have : I 22 e = nI g := eg
      rw [this]
      exact nI_add g 1
    · rw [if_neg c]
      exact a7 z e he h5
  · simp only [] at h5 ⊢
    rw [e5] at h5
    obtain ⟨a1, a2, a3, a4, a5⟩ := k9 e he h5
    rw [lv_c e0 e11, rwi_c e11, rwo_c e11, f 12 (by decide) (by decide), f 13 (by decide) (by decide), f 14 (by decide) (by decide), f 16 (by decide) (by decide)]
    by_cases c : e = d
    · subst c
      obtain ⟨n, b1, b2⟩ := a2 hl
      have hng : n = g := by
        have hn : n ≤ (Z (rwi I 0)).2.2.length := by
          obtain ⟨f0, p, c1, c2, -⟩ := b1
          exact Nat.le_trans c1 c2
        have := (b2 h2).symm.trans eg
        exact (nI_eq (by omega) (by omega)).mp this
      subst hng
      have hnew := DR_wr b1 hok.2.1 hx hlg
      have hz := DR_n (m := 0) (Nat.zero_le _) hnew
      refine ⟨DR_LG hnew, fun _ => ⟨n + 1, hnew, fun _ => fg⟩, fun z => DR_leq (k10.1 h2 z) hz, fun z i m u => ?_, fun z y i m u => ?_⟩
      · have u' := (US_c (I := I) e10 e11).mp u
        rcases z with z | z
        · exfalso
          rcases ((k8 0 (by omega)).2.2 i m u').2.1 with w | w
          · exact absurd (h2.symm.trans w) (by decide)
          · exact absurd ((((k3 0 (by omega)).2.2.2.2.1 z).1).symm.trans w) (by decide)
        · exact DR_leq ((k10.2 (Or.inr ⟨h2, z⟩)).1 i m u') hz
      · exact DR_leq ((k10.2 (Or.inr ⟨h2, z, y⟩)).2 i m ((UW_c (I := I) e10 e11 (congrFun (f 15 (by decide) (by decide)) _)).mp u)) hz
    · have he1 : e = 1 - d := by omega
      subst he1
      have hll : lge (dsk N (1 - d)) (dsk I (1 - d)) := ⟨hoth h5 80 (by omega), fun j _ b => hoth h5 j b⟩
      have tr : ∀ s n, DR X (dsk I (1 - d)) s n → DR X (dsk N (1 - d)) s n := fun s n h => by
        obtain ⟨f0, p, c1, c2, c3, c4⟩ := h
        exact ⟨f0, p, c1, c2, lge_trans hll c3, c4⟩
      refine ⟨LG_c hll a1, fun z => ?_, fun z => tr _ _ (a3 z), fun z i m u => tr _ _ (a4 z i m ((US_c (I := I) e10 e11).mp u)), fun z y i m u => tr _ _ (a5 z y i m ((UW_c (I := I) e10 e11 (congrFun (f 15 (by decide) (by decide)) _)).mp u))⟩
      obtain ⟨n, b1, b2⟩ := a2 z
      refine ⟨n, tr _ _ b1, fun y => ?_⟩
      rw [f22, if_neg c]
      exact b2 y
  · simp only [] at h5 h4 eq' ⊢
    rw [e5] at h5
    rw [f 4 (by decide) (by decide)] at h4
    rw [f 6 (by decide) (by decide)] at eq'
    have he1 : e = 1 - d := by
      by_cases c : e = d
      · subst c
        exact absurd (h5.symm.trans u5) (by decide)
      · omega
    subst he1
    have hdd : 1 - (1 - d) = d := by omega
    rw [hdd, w1 j (by omega), w2 j (by omega)]
    have base := k11 (1 - d) he h5 h4 q' eq' j hj hq'
    rw [hdd] at base
    have hrv : rv I (1 - d) = true := by
      unfold rv
      rw [hdd, hu, h4, h5]
      rfl
    by_cases c : q * 5 ≤ j ∧ j < q * 5 + 5
    · have hlt : nI q < I 6 (1 - d) := by
        have : I 6 (1 - d) = nI q' := eq'
        rw [this]
        exact Int32.not_le.mp (nI_ge (by omega) (by omega))
      rw [if_pos c, if_pos ⟨⟨hrv, hlt⟩, c⟩]
    · rw [if_neg c, if_neg (fun z => c z.2)]
      exact base
theorem INV_wr {X d : Nat} {M : mM} (hX : X + 50 < 2 ^ 28) (k : INV X M) (hd : d < 2) : rwr d M = mwr d M ∧ INV (X + 40) (rwr d M).2 := by
  have hid : mset 10 M = M := by
    rw [(MID_set30 hX k.1 (NU_of k.2)).2]
    exact SD2_set k.1.2.1 k.1.2.2.2.2.1 (by have := (MID_OK k.1).2.2.2.2.1; omega) k.2
  have hkeep : INV (X + 40) M := ⟨MID_X (by omega) k.1, k.2⟩
  have hok := MID_OK k.1
  unfold rwr mwr
  by_cases c : lv M.1 0 = true ∧ M.1 16 0 = 2
  · rw [if_pos c]
    unfold mwrt
    by_cases hu : us M.1 d = true
    · rw [if_pos hu]
      obtain ⟨g, g1, g2⟩ := k.1.2.2.2.2.1.2.2.2.2.2.2 c.2 d hd (us_5 k.1.2.1 hd hu).2
      have hwl := hok.2.2.2.2.1
      have eg : (M.1 22 d).toNatClampNeg = g := by rw [g2]; exact nI_clamp (by omega)
      rw [eg]
      by_cases hg : g = (M.2.2 (rwi M.1 0)).2.2.length
      · have hn : (M.2.2 (rwi M.1 0)).2.2[g]? = none := by rw [hg]; simp
        rw [if_neg (fun z => z.2.2.2 (by rw [g2, hg])), hn]
        simp only []
        rw [hid]
        exact ⟨rfl, hkeep⟩
      · have hne : ¬ M.1 22 d = nI (M.2.2 (rwi M.1 0)).2.2.length := fun z => hg ((nI_eq (by omega) (by omega)).mp (g2.symm.trans z))
        rw [if_pos ⟨c.1, c.2, hu, hne⟩]
        obtain ⟨x, hx⟩ : ∃ x, (M.2.2 (rwi M.1 0)).2.2[g]? = some x := ⟨_, List.getElem?_eq_getElem (by omega)⟩
        rw [hx]
        simp only []
        have km := MID_wr k.1 hd c.1 c.2 hu g2 hx
        obtain ⟨z1, z2⟩ := MID_set30 hX km (fun _ _ y0 y1 => by
          exfalso
          have e : us (mwrI M.1 d x.1.toNatClampNeg x) d = us M.1 d := by
            unfold us
            rw [mwr_o (by decide) (by decide), mwr_o (by decide) (by decide)]
          have hdd : d = 0 ∨ d = 1 := by omega
          rcases hdd with rfl | rfl
          · rw [show us (mwrI M.1 0 x.1.toNatClampNeg x, M.2).1 0 = us M.1 0 from e, hu] at y0
            cases y0
          · rw [show us (mwrI M.1 1 x.1.toNatClampNeg x, M.2).1 1 = us M.1 1 from e, hu] at y1
            cases y1)
        rw [z2]
        exact ⟨rfl, z1⟩
    · rw [if_neg hu, if_neg (fun z => hu z.2.2.1)]
      simp only []
      rw [hid]
      exact ⟨rfl, hkeep⟩
  · rw [if_neg c, if_neg (fun z => c ⟨z.1, z.2.1⟩)]
    exact ⟨rfl, hkeep⟩
