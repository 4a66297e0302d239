theorem rsT_e {t hm : Nat} {M : mM} (h12 : M.1 12 (1 + t) = -1) (h16 : M.1 16 (1 + t) = 0) (hf : fup M.1 2 = nI hm) (hhm : hm < 4) (hc : (fup M.1 2).toNatClampNeg = hm) : rrsN (1 + t) M = mrT t hm M ∧ mrsN (1 + t) M = mrT t hm M := by
  refine ⟨?_, ?_⟩
  · unfold rrsN rrs1
    rw [if_neg (by omega), if_neg (by omega)]
    unfold rrsT mrT
    rw [show 1 + t - 1 = t by omega]
    have e11 : (uI (uI (uI M.1 11 (1 + t) (fup M.1 2)) 12 (1 + t) (-1)) 40 (1 + t) 0) 11 (1 + t) = nI hm := by
      rw [uI_c (by decide), uI_c (by decide), uI_s]
      exact hf
    have erw : rwi (uI (uI (uI M.1 11 (1 + t) (fup M.1 2)) 12 (1 + t) (-1)) 40 (1 + t) 0) (1 + t) = 2 * (1 + t) + hm % 2 := by
      unfold rwi pn
      rw [e11, nI_clamp (by omega)]
    simp only []
    rw [erw]
    have e17 : (uI (uI (uI M.1 11 (1 + t) (fup M.1 2)) 12 (1 + t) (-1)) 40 (1 + t) 0) 17 t = M.1 17 t := rfl
    rw [e17, hf]
    congr 1
    funext a b
    simp only [uI]
    grind
  · unfold mrsN
    rw [if_neg (by omega), show 1 + t - 1 = t by omega, hc]
theorem rsS_e {X d hm : Nat} {M : mM} (k : MID X M) (h11 : M.1 11 0 = -1) (hf : fup M.1 0 = nI hm) (hhm : hm < 4) (hc : (fup M.1 0).toNatClampNeg = hm) (hd : d < 2) (hcd : (chs M.1).toNatClampNeg = d) (hu : us M.1 d = true) (h1 : d = 1 → us M.1 0 = false) : rrsN 0 M = (rsI d hm M.1, M.2.1, uZ M.2.2 (hm % 2) (mrs2 (dsk M.1 d))) ∧ mrsN 0 M = (rsI d hm M.1, M.2.1, uZ M.2.2 (hm % 2) (mrs2 (dsk M.1 d))) := by
  obtain ⟨dl, d12, d13, d16⟩ := dead k (by omega : 0 < 3) h11
  obtain ⟨h21, h23⟩ := k.2.2.2.2.1.2.2.2.2.1 dl
  obtain ⟨o1, o2⟩ := onI_m k.2.1 hd hu h1
  refine ⟨?_, ?_⟩
  · unfold rrsN rrs1
    rw [if_pos rfl, if_pos rfl]
    have ech : chs (uI (uI (uI M.1 11 0 (fup M.1 0)) 12 0 (-1)) 40 0 0) = chs M.1 := rfl
    show rrsS (chs (uI (uI (uI M.1 11 0 (fup M.1 0)) 12 0 (-1)) 40 0 0)).toNatClampNeg _ = _
    rw [ech, hcd]
    unfold rrsS
    have e11 : (uI (uI (uI M.1 11 0 (fup M.1 0)) 12 0 (-1)) 40 0 0) 11 0 = nI hm := by
      rw [uI_c (by decide), uI_c (by decide), uI_s]
      exact hf
    have erw : rwi (uI (uI (uI M.1 11 0 (fup M.1 0)) 12 0 (-1)) 40 0 0) 0 = hm % 2 := by
      unfold rwi pn
      rw [e11, nI_clamp (by omega)]
      omega
    simp only []
    rw [erw, hf]
    have eds : dsk (uI (uI (uI M.1 11 0 (nI hm)) 12 0 (-1)) 40 0 0) d = dsk M.1 d := rfl
    rw [eds]
    congr 1
    unfold rsI
    have hdd : d = 0 ∨ d = 1 := by omega
    obtain ⟨Y, eY⟩ : ∃ Y, Y = mstI 0 (uI (uI (uI M.1 11 0 (nI hm)) 12 0 (-1)) 40 0 0) := ⟨_, rfl⟩
    have hY5 : Y 5 (1 - d) = M.1 5 (1 - d) := by
      rw [eY, mstI_o (by decide), uI_c (by decide), uI_c (by decide), uI_c (by decide)]
    rw [← eY]
    by_cases c : M.1 5 (1 - d) = 0
    · have e1 : onI d M.1 = M.1 := if_pos c
      have e2 : rchI d Y = uI Y 5 (1 - d) 0 := by
        unfold rchI
        rw [if_pos (hY5.trans c)]
      rw [e1, e2, eY]
      funext a b
      simp only [mstI, if_true, uI]
      grind (splits := 40)
    · have e1 : onI d M.1 = uI (uI M.1 5 (1 - d) 0) 6 (1 - d) 0 := if_neg c
      have e2 : rchI d Y = uI (uI Y 6 (1 - d) 0) 5 (1 - d) 0 := by
        unfold rchI
        rw [if_neg (fun z => c (hY5.symm.trans z))]
      rw [e1, e2, eY]
      funext a b
      simp only [mstI, if_true, uI]
      grind (splits := 40)
  · unfold mrsN mrS
    rw [if_pos rfl, hc, hcd, o1]
    rfl
theorem KD_mk {X k hm : Nat} {M N : mM} (k0 : MID X M) (hD : KD M.1) (hk : k < 3) (hhm : hm < 4) (hu : ¬ M.1 0 hm = 0) (e1 : N.1 1 = M.1 1) (o11 : ∀ j, j ≠ k → N.1 11 j = M.1 11 j) (e12 : N.1 12 = M.1 12) (e13 : N.1 13 = M.1 13) (j11 : N.1 11 k = nI hm) (d12 : M.1 12 k = -1) (d13 : M.1 13 k = 0) : KD N.1 := by
  intro k' hk' q hq h1
  rw [e1] at h1
  obtain ⟨b1, b2, b3⟩ := hD k' hk' q hq h1
  rw [e12, e13]
  by_cases e : k' = k
  · subst e
    rw [j11, d12, d13]
    refine ⟨fun z => ?_, fun z => nI_m1 hq z.symm, fun z => absurd z (by decide)⟩
    have : hm = q := (nI_eq (by omega) (by omega)).mp z
    subst this
    have h01 := (k0.1 hm hhm).1.resolve_left hu
    have := (k0.1 hm hhm).2.2.1 h01
    rw [h1] at this
    exact absurd this (by decide)
  · rw [o11 k' e, ohI_p (o11 k' e)]
    exact ⟨b1, b2, b3⟩
/-- a copy to the other home, if it is up -/
theorem INV_cp2 {X k : Nat} {N : mM} (hX : X < 2 ^ 30) (k0 : INV X N) (hD : KD N.1) (hk : k < 3) (hl : lv N.1 k = true) (h12 : N.1 12 k = -1) (hNM : NM N.2.1 k) : (if N.1 0 (ohn N.1 k) = 0 then N else rsc k N) = (if N.1 0 (ohn N.1 k) = 0 then N else msC k N) ∧ INV (X + 1) (if N.1 0 (ohn N.1 k) = 0 then N else rsc k N) ∧ KD (if N.1 0 (ohn N.1 k) = 0 then N else rsc k N).1 ∧ (∀ c, c = 0 ∨ c = 1 ∨ c = 2 ∨ c = 11 ∨ c = 17 → (if N.1 0 (ohn N.1 k) = 0 then N else rsc k N).1 c = N.1 c) := by
  rw [e_sc hl]
  by_cases c : N.1 0 (ohn N.1 k) = 0
  · rw [if_pos c]
    exact ⟨rfl, INV_X (Nat.le_succ X) k0, hD, fun _ _ => rfl⟩
  · rw [if_neg c, ← e_sc hl]
    have hpk := (k0.1.2.2.1 k hk).1
    obtain ⟨p1, p2, p3, p4, p5, -⟩ := prk_n hk hpk (lv_up hl).1
    have e11 : (rsc k N).1 11 = N.1 11 := rsc_I (by decide) (by decide) (by decide) (by decide) (by decide) (by decide)
    refine ⟨rfl, ⟨MID_sc hX k0.1 hk hl h12 (NM_US hk hpk hNM).1, sc_SD k0.2⟩, fun k' hk' q hq hq1 => ?_, fun c hc => rsc_I (by omega) (by omega) (by omega) (by omega) (by omega) (by omega)⟩
    rw [rsc_I (by decide) (by decide) (by decide) (by decide) (by decide) (by decide)] at hq1
    rw [e11, rsc_I (by decide) (by decide) (by decide) (by decide) (by decide) (by decide), ohI_c e11, rsc_13]
    obtain ⟨d1, d2, d3⟩ := hD k' hk' q hq hq1
    refine ⟨d1, d2, fun z y => ?_⟩
    by_cases e : k' = k
    · subst e
      have : q = ohn N.1 k' := (nI_eq (by omega) (by omega)).mp (y.symm.trans p5)
      subst this
      have h01 := (k0.1.1 _ p2).1.resolve_left c
      have := (k0.1.1 _ p2).2.2.1 h01
      rw [hq1] at this
      exact absurd this (by decide)
    · rw [if_neg e] at z
      exact d3 z y
theorem INV_rs {X k : Nat} {M : mM} (hX : X < 2 ^ 28) (k0 : INV X M) (hD : KD M.1) (hk : k < 3) : rrs k M = mrst k M ∧ INV (X + 2) (rrs k M) ∧ KD (rrs k M).1 ∧ RSH k M ∧ (∀ c, c = 0 ∨ c = 1 ∨ c = 2 → (rrs k M).1 c = M.1 c) := by
  have hR : RSH k M := by
    intro h11
    refine ⟨fun e hc => ?_, fun e => ?_⟩
    · subst e
      obtain ⟨d, hd, h1, h2, h3, h4⟩ := chs_c k0.1.2.1 hc
      rw [h1]
      exact (GB_rs (X := X) (by omega) (k0.1.2.2.2.2.2.2.2.2.1 d hd h3).1).2.1
    · obtain ⟨n, n1, n2⟩ := (k0.1.2.2.2.2.2.2.1.2.2.2.2 (k - 1) (by omega)).2
      rw [n2]
      have : nI n + 1 = nI (n + 1) := nI_add n 1
      rw [this]
      intro z
      have := (nI_eq (a := n + 1) (b := 0) (by omega) (by omega)).mp z
      omega
  unfold rrs mrst
  by_cases c : ¬ M.1 11 k = -1 ∨ fup M.1 (if k = 0 then 0 else 2) = -1 ∨ (k = 0 ∧ chs M.1 = -1)
  · rw [if_pos c, if_pos c]
    exact ⟨rfl, INV_X (by omega) k0, hD, hR, fun _ _ => rfl⟩
  · rw [if_neg c, if_neg c]
    have h11 : M.1 11 k = -1 := Classical.byContradiction (fun z => c (Or.inl z))
    have hfu : ¬ fup M.1 (if k = 0 then 0 else 2) = -1 := fun z => c (Or.inr (Or.inl z))
    obtain ⟨dl, d12, d13, d16⟩ := dead k0.1 hk h11
    by_cases e : k = 0
    · subst e
      rw [if_pos rfl] at hfu
      obtain ⟨hm, m1, m2, m3, m4, m5⟩ := fup_c hfu (by omega)
      obtain ⟨d, hd, h1, h2, h3, h4⟩ := chs_c k0.1.2.1 (fun z => c (Or.inr (Or.inr ⟨rfl, z⟩)))
      obtain ⟨e1, e2⟩ := rsS_e k0.1 h11 m3 m1 m4 hd h1 h2 h4
      obtain ⟨r1, r2, r3, r4, r5, r6⟩ := MID_rS (by omega) k0.1 h11 (by omega : hm = 0 ∨ hm = 1) m5 hd h2
      obtain ⟨N, eN⟩ : ∃ N : mM, N = (rsI d hm M.1, M.2.1, uZ M.2.2 (hm % 2) (mrs2 (dsk M.1 d))) := ⟨_, rfl⟩
      rw [← eN] at e1 e2 r1 r5
      rw [e1, e2]
      have on5 : ∀ c, c ≠ 5 → c ≠ 6 → c ≠ 23 → c ≠ 22 → c ≠ 16 → c ≠ 11 → c ≠ 40 → N.1 c = M.1 c := fun c a1 a2 a3 a4 a5 a6 a7 => by
        rw [eN]
        show rsI d hm M.1 c = _
        unfold rsI onI
        rw [uI_f a7, uI_f a6, uI_f a5, uI_f a4, uI_f a4, uI_f a3]
        split
        · rfl
        · rw [uI_f a2, uI_f a1]
      have dN : KD N.1 := KD_mk (k := 0) (hm := hm) k0.1 hD (by omega) m1 m5 (on5 1 (by decide) (by decide) (by decide) (by decide) (by decide) (by decide) (by decide)) (fun j hj => by
        rw [eN]
        show rsI d hm M.1 11 j = _
        unfold rsI onI
        rw [uI_j hj, uI_j hj, uI_j hj, uI_c (by decide), uI_c (by decide), uI_j hj]
        split
        · rfl
        · rw [uI_c (by decide), uI_c (by decide)]) (on5 12 (by decide) (by decide) (by decide) (by decide) (by decide) (by decide) (by decide)) (on5 13 (by decide) (by decide) (by decide) (by decide) (by decide) (by decide) (by decide)) (by rw [eN]; rfl) d12 d13
      have hN0 : N.1 0 = M.1 0 := on5 0 (by decide) (by decide) (by decide) (by decide) (by decide) (by decide) (by decide)
      have z := INV_cp2 (k := 0) (N := N) (by omega) ⟨r1, r5⟩ dN (by omega) (by rw [eN]; exact r2) (by rw [eN]; exact r3) (by rw [eN]; exact r4)
      rw [hN0] at z
      refine ⟨z.1, z.2.1, z.2.2.1, hR, fun c hc => (z.2.2.2 c (by omega)).trans (on5 c (by omega) (by omega) (by omega) (by omega) (by omega) (by omega) (by omega))⟩
    · obtain ⟨t, rfl⟩ : ∃ t, k = 1 + t := ⟨k - 1, by omega⟩
      rw [if_neg e] at hfu
      obtain ⟨hm, m1, m2, m3, m4, m5⟩ := fup_c hfu (by omega)
      obtain ⟨e1, e2⟩ := rsT_e d12 d16 m3 m1 m4
      obtain ⟨r1, r2, r3, r4⟩ := MID_rT k0.1 (by omega : t < 2) h11 (by omega : hm = 2 ∨ hm = 3) m5
      obtain ⟨N, eN⟩ : ∃ N : mM, N = mrT t hm M := ⟨_, rfl⟩
      rw [← eN] at e1 e2 r1 r2 r3 r4
      rw [e1, e2]
      have on5 : ∀ c, c ≠ 17 → c ≠ 18 → c ≠ 11 → c ≠ 40 → N.1 c = M.1 c := fun c a1 a2 a3 a4 => by
        rw [eN]
        show uI (uI (uI (uI M.1 17 t (M.1 17 t + 1)) 18 t 0) 11 (1 + t) (nI hm)) 40 (1 + t) 0 c = _
        rw [uI_f a4, uI_f a3, uI_f a2, uI_f a1]
      have o11 : ∀ j, j ≠ 1 + t → N.1 11 j = M.1 11 j := fun j hj => by
        rw [eN]
        show uI (uI (uI (uI M.1 17 t (M.1 17 t + 1)) 18 t 0) 11 (1 + t) (nI hm)) 40 (1 + t) 0 11 j = _
        rw [uI_c (by decide), uI_j hj, uI_c (by decide), uI_c (by decide)]
      have dN : KD N.1 := KD_mk (k := 1 + t) (hm := hm) k0.1 hD (by omega) m1 m5 (on5 1 (by decide) (by decide) (by decide) (by decide)) o11 (on5 12 (by decide) (by decide) (by decide) (by decide)) (on5 13 (by decide) (by decide) (by decide) (by decide)) (by
        rw [eN]
        show uI (uI (uI (uI M.1 17 t (M.1 17 t + 1)) 18 t 0) 11 (1 + t) (nI hm)) 40 (1 + t) 0 11 (1 + t) = _
        rw [uI_c (by decide), uI_s]) d12 d13
      have hN0 : N.1 0 = M.1 0 := on5 0 (by decide) (by decide) (by decide) (by decide)
      have hS : SD2 N := by
        have hz : N.2.2 (rwi M.1 0) = M.2.2 (rwi M.1 0) := by
          rw [eN]
          show uZ M.2.2 (2 * (1 + t) + hm % 2) _ (rwi M.1 0) = _
          exact uZ_n (by have := rwi_lt0 (I := M.1); omega)
        unfold SD2
        rw [lv_p hN0 (o11 0 (by omega)), rwi_p (o11 0 (by omega)), hz, on5 5 (by decide) (by decide) (by decide) (by decide), on5 16 (by decide) (by decide) (by decide) (by decide), on5 21 (by decide) (by decide) (by decide) (by decide), on5 22 (by decide) (by decide) (by decide) (by decide)]
        exact k0.2
      have z := INV_cp2 (k := 1 + t) (N := N) (by omega) ⟨r1, hS⟩ dN (by omega) r2 r3 r4
      rw [hN0] at z
      exact ⟨z.1, z.2.1, z.2.2.1, hR, fun c hc => (z.2.2.2 c (by omega)).trans (on5 c (by omega) (by omega) (by omega) (by omega))⟩
