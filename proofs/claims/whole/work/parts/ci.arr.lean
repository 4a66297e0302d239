/-- a state is delivered -/
theorem del_3 {X l f p k : Nat} {lost : Bool} {m : mg} {q : List mg} {M : mM} (hX : X + 60 < 2 ^ 28) (k0 : INV X M) (hf : f < 4) (hp : p < 4) (el : l = 4 * f + p) (hl : l < 16) (hq : M.2.1 l = m :: q) (hn : ¬ m.1 1 ≤ M.1 10 l) (hk : k < 3) (h5 : m.1 5 = nI k) (h0 : m.1 0 = 3 ∨ m.1 0 = 4) {N : mM} (eN : N = mar2 l (m.1 1) (mar1 lost l M)) : rbr f p m N = mset 10 (mdel f p m N) ∧ INV (X + 42) (rbr f p m N) ∧ SI (mdel f p m N) ∧ ∀ c, c = 0 ∨ c = 1 ∨ c = 2 ∨ c = 11 ∨ c = 12 ∨ c = 13 → (rbr f p m N).1 c = N.1 c := by
  obtain ⟨kN, hUS, hUW⟩ := INV_m2 (lost := lost) (by omega) k0 hl hq
  rw [← eN] at kN hUS hUW
  have hs : isS m = true := by
    unfold isS
    rcases h0 with e | e <;> rw [e] <;> rfl
  obtain ⟨fu, -, -⟩ := fresh_US k0 hl hq hn hk h5
  obtain ⟨u0, elk, hn1⟩ := fu hs
  obtain ⟨f1, f2, f3, f4, f5⟩ := mar_f (l := l) (lost := lost) (M := M)
  have fN : ∀ c, c ≠ 10 → c ≠ 24 → c ≠ 25 → N.1 c = M.1 c := fun c h1 h2 h3 => by
    rw [eN]
    show uI (mar1 lost l M).1 10 l (m.1 1) c = _
    rw [uI_f h1, f1 c h2 h3]
  have hZ : N.2.2 = M.2.2 := by rw [eN]; exact f3
  have e11 := fN 11 (by decide) (by decide) (by decide)
  have hpk := (k0.1.2.2.1 k hk).1
  obtain ⟨p1, p2, p3, p4, p5, p6, p7⟩ := prk_n hk hpk hn1
  have hfp : pn M.1 k = f ∧ ohn M.1 k = p := by
    unfold lk at elk
    omega
  have hne : ¬ M.2.1 l = [] := by rw [hq]; exact List.cons_ne_nil _ _
  obtain ⟨v1, v2, v3⟩ := (k0.1.2.2.2.2.2.1 l hl).1 hne
  rw [el, show (4 * f + p) / 4 = f by omega] at v1
  rw [el, show (4 * f + p) % 4 = p by omega] at v2
  have e0 := fN 0 (by decide) (by decide) (by decide)
  have u1 : N.1 0 f = 1 := by rw [e0]; exact v1
  have u2 : N.1 0 p = 1 := by rw [e0]; exact v2
  have hns : ∀ i y, ¬ US N.1 N.2.1 k i y := fun i y u => by
    obtain ⟨i', w1, w2⟩ := hUS k hk i y u
    have := (k0.1.2.2.2.2.2.2.2.1 k hk).2.1 _ _ _ _ w1 u0
    have := w2 elk.symm
    omega
  have hm0 : (M.2.1 l)[0]? = some m := by rw [hq]; rfl
  obtain ⟨kK, hnw⟩ := MID_ky k0.1 kN.1 hk hn1 fN hZ h5 hs hl hm0 u0 hns (hUW k hk)
  obtain ⟨K, eK⟩ : ∃ K : mM, K = (uI N.1 40 k 1, N.2.1, uZ N.2.2 (rwo N.1 k) m.2) := ⟨_, rfl⟩
  have kK' : MID X K := by rw [eK]; exact kK
  have epn : pn N.1 k = f := (pn_c e11).trans hfp.1
  have eoh : ohn N.1 k = p := (ohn_c e11).trans hfp.2
  have erw : rwo N.1 k = 2 * k + p % 2 := by rw [rwo_c e11, p7, hfp.2]
  have K1' : ∀ c, c ≠ 40 → K.1 c = N.1 c := fun c h => by rw [eK]; exact uI_f h
  have eKrwi : rwi K.1 0 = rwi N.1 0 := rwi_c (K1' 11 (by decide))
  have eKrwo : rwo K.1 0 = rwo N.1 0 := rwo_c (K1' 11 (by decide))
  have ec : (m.1 5).toNatClampNeg = k := by rw [h5]; exact nI_clamp (by omega)
  have hK0 : ∀ j, K.1 0 j = N.1 0 j := fun j => by rw [K1' 0 (by decide)]
  have hst := ((k0.1.2.2.2.2.2.2.2.1 k hk).2.2 0 m u0).1
  have hW := MID_wd (X := X) (k := k) (td := m.1 6) (M := K) (by omega) kK' hk (by rw [K1' 11 (by decide), e11]; exact hn1) (by rw [pn_c (K1' 11 (by decide)), epn, hK0]; exact u1) (by rw [ohn_c (K1' 11 (by decide)), eoh, hK0]; exact u2) (by rw [eK]; exact uI_s) (fun n hn' _ => ⟨n, Nat.le_refl _, by rw [hst, ← fN 15 (by decide) (by decide) (by decide), ← K1' 15 (by decide)]; exact hn'⟩) (fun i y u => hns i y (by rw [eK] at u; exact u)) (fun e z1 z2 d hd h5' => by
      subst e
      rw [eKrwo, eK]
      show DR X (dsk N.1 d) (uZ N.2.2 (rwo N.1 0) m.2 (rwo N.1 0)) 0
      rw [uZ_s, dsk_c (fN 7 (by decide) (by decide) (by decide))]
      rw [K1' 13 (by decide), fN 13 (by decide) (by decide) (by decide)] at z1
      rw [K1' 14 (by decide), fN 14 (by decide) (by decide) (by decide)] at z2
      rw [K1' 5 (by decide), fN 5 (by decide) (by decide) (by decide)] at h5'
      exact (k0.1.2.2.2.2.2.2.2.2.1 d hd h5').2.2.2.1 (Or.inr ⟨z1, z2⟩) 0 m u0) (fun e z => by
      subst e
      rw [eKrwo, eKrwi, eK]
      show leq (uZ N.2.2 (rwo N.1 0) m.2 (rwo N.1 0)) (uZ N.2.2 (rwo N.1 0) m.2 (rwi N.1 0))
      rw [uZ_s, uZ_n (fun y => rwo_i (I := N.1) (k := 0) y.symm), hZ, rwi_c e11]
      rw [K1' 16 (by decide), fN 16 (by decide) (by decide) (by decide), K1' 13 (by decide), fN 13 (by decide) (by decide) (by decide), K1' 14 (by decide), fN 14 (by decide) (by decide) (by decide)] at z
      exact (k0.1.2.2.2.2.2.2.2.2.2.1.2 z).1 0 m u0)
  rw [pn_c (K1' 11 (by decide)), ohn_c (K1' 11 (by decide)), epn, eoh] at hW
  obtain ⟨W, eW⟩ : ∃ W, W = mapp (4 * p + f) (mgW k (m.1 6)) K := ⟨_, rfl⟩
  rw [← eW] at hW
  have n1 : ¬ m.1 0 = 1 := by rcases h0 with e | e <;> rw [e] <;> decide
  have n2 : ¬ m.1 0 = 2 := by rcases h0 with e | e <;> rw [e] <;> decide
  have n5 : ¬ m.1 0 = 5 := by rcases h0 with e | e <;> rw [e] <;> decide
  have er : rbr f p m N = W := by
    unfold rbr
    rw [if_neg n1, if_neg n2, if_pos h0, ec]
    have ey : rcy k p m.2 N = K := by
      unfold rcy
      rw [eK, erw]
    rw [ey]
    unfold rsn
    rw [if_neg (by rw [hK0, u1]; decide), eW]
  have em : mdel f p m N = W := by
    unfold mdel
    rw [if_neg n1, if_neg n2, if_neg n5, ec]
    unfold mts
    have h1 : N.1 11 k = nI f := by rw [e11, p4, hfp.1]
    have h2 : ohI N.1 k = nI p := by rw [ohI_c e11, p5, hfp.2]
    rw [if_neg (fun z => z.elim (fun y => y h1) (fun y => y h2))]
    have ey : mkp k m.2 N = K := by
      unfold mkp
      rw [eK]
    rw [ey]
    unfold msnd
    rw [if_neg (fun z => z.elim (fun y => by rw [hK0, u2] at y; exact absurd y (by decide)) (fun y => by rw [hK0, u1] at y; exact absurd y (by decide))), eW]
  have WI : ∀ c, c ≠ 9 → c ≠ 24 → c ≠ 25 → c ≠ 40 → W.1 c = N.1 c := fun c a1 a2 a3 a4 => by rw [eW, mapp_I a1 a2 a3, K1' c a4]
  have hSW : SD2 W := by
    refine SD_c (M := N) (WI 0 (by decide) (by decide) (by decide) (by decide)) (WI 5 (by decide) (by decide) (by decide) (by decide)) (congrFun (WI 11 (by decide) (by decide) (by decide) (by decide)) _) (congrFun (WI 16 (by decide) (by decide) (by decide) (by decide)) _) (WI 21 (by decide) (by decide) (by decide) (by decide)) (WI 22 (by decide) (by decide) (by decide) (by decide)) ?_ kN.2
    rw [eW, mapp_Z, eK]
    show uZ N.2.2 (rwo N.1 k) m.2 (rwi N.1 0) = _
    refine uZ_n (fun y => ?_)
    by_cases e : k = 0
    · subst e
      exact rwo_i (I := N.1) (k := 0) y.symm
    · unfold rwi rwo at y
      omega
  have kW : INV (X + 1) W := ⟨hW, hSW⟩
  rw [er, em]
  refine ⟨?_, INV_X (by omega) kW, SI_of kW.1, fun c hc => WI c (by omega) (by omega) (by omega) (by omega)⟩
  rw [(MID_set30 (by omega) kW.1 (NU_of kW.2)).2]
  exact (INV_id kW).symm
