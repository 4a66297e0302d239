theorem uZ_id {Z : mZ} {i : Nat} : uZ Z i (Z i) = Z := by
  funext j
  unfold uZ
  split
  · rename_i h
    rw [h]
  · rfl
/-- the store goes on: its backup knows -/
theorem MID_g0 {X : Nat} {N : mM} (kN : MID X N) (hl : lv N.1 0 = true) (h16 : N.1 16 0 = 1) (hns : ∀ i y, ¬ US N.1 N.2.1 0 i y) (hq : leq (N.2.2 (rwo N.1 0)) (N.2.2 (rwi N.1 0))) : MID X (uI N.1 16 0 2, N.2) ∧ NU (uI N.1 16 0 2, N.2) := by
  obtain ⟨k1, k2, k3, k4, k5, k6, k7, k8, k9, k10, k11⟩ := kN
  have oth : ∀ c j, ¬ (c = 16 ∧ j = 0) → uI N.1 16 0 2 c j = N.1 c j := fun c j h => if_neg h
  obtain ⟨c1, c2, c3, c4, c5, c6, c7⟩ := k5
  obtain ⟨z0, z1⟩ := c2 h16
  obtain ⟨a1, a2, a3, a4, a5, a6, a7, a8⟩ := k3 0 (by omega)
  have h12 := (a6 h16).1
  have h13 := (a5 h12).1
  have h22 : ∀ d, d < 2 → N.1 22 d = nI 0 := fun d hd => by
    have : d = 0 ∨ d = 1 := by omega
    rcases this with rfl | rfl
    · exact z0
    · exact z1
  have kk : MID X (uI N.1 16 0 2, N.2) := by
    refine ⟨k1, k2, fun k hk => ?_, fun t ht => K4_c (M := N) (N := (uI N.1 16 0 2, N.2)) rfl rfl (oth 16 _ (by omega)) rfl rfl (k4 t ht), ?_, k6, k7, fun k hk => ?_, fun d hd z5 => ?_, ?_, k11⟩
    · by_cases e : k = 0
      · subst e
        exact ⟨a1, a2, a3, Or.inr (Or.inr rfl), a5, fun z => absurd (show (2 : Int32) = 1 from z) (by decide), fun z => absurd (hl.symm.trans z) (by decide), a8⟩
      · exact K3_c (I := N.1) rfl rfl rfl rfl rfl rfl (oth 16 k (fun z => e z.2)) rfl (k3 k hk)
    · refine ⟨fun _ => ⟨fun z => ?_, fun z => absurd (show (2 : Int32) = 0 from z) (by decide)⟩, fun z => absurd (show (2 : Int32) = 1 from z) (by decide), c3, fun z => ⟨rfl, ?_⟩, c5, c6, fun _ d hd _ => ⟨0, Nat.zero_le _, h22 d hd⟩⟩
      · have := (c1 hl).mp z
        rw [h16] at this
        exact absurd this (by decide)
      · exact (c4 z).2
    · by_cases e : k = 0
      · subst e
        obtain ⟨b1, b2, b3⟩ := k8 0 hk
        exact ⟨b1, b2, fun i m u => absurd u (hns i m)⟩
      · exact K8_c (I := N.1) rfl rfl rfl rfl (oth 16 k (fun z => e z.2)) rfl (k8 k hk)
    · obtain ⟨b1, b2, b3, b4, b5⟩ := k9 d hd z5
      refine ⟨b1, fun z => ?_, b3, b4, b5⟩
      obtain ⟨n, d1, -⟩ := b2 z
      exact ⟨0, DR_n (Nat.zero_le _) d1, fun _ => h22 d hd⟩
    · refine ⟨fun _ _ => hq, fun z => ?_⟩
      rcases z with z | z
      · exact absurd (show (2 : Int32) = 1 from z) (by decide)
      · exact absurd (h13.symm.trans z.2.1) (by decide)
  exact ⟨kk, NU_0 kk (fun _ => ⟨z0, z1⟩)⟩
/-- the other home has what it was told: it is the backup -/
theorem MID_bk {X k : Nat} {N : mM} (kN : MID X N) (hk : k < 3) (hn : ¬ N.1 11 k = -1) (h13 : N.1 13 k = 1) (h40 : N.1 40 k = 1) (hns : ∀ i y, ¬ US N.1 N.2.1 k i y) (h9 : k = 0 → ∀ d, d < 2 → N.1 5 d = 1 → DR X (dsk N.1 d) (N.2.2 (rwo N.1 0)) 0) (h10 : k = 0 → N.1 16 0 = 2 → leq (N.2.2 (rwo N.1 0)) (N.2.2 (rwi N.1 0))) : MID X (uI (uI N.1 13 k 0) 12 k (nI (ohn N.1 k)), N.2) := by
  obtain ⟨k1, k2, k3, k4, k5, k6, k7, k8, k9, k10, k11⟩ := kN
  obtain ⟨J, eJ⟩ : ∃ J, J = uI (uI N.1 13 k 0) 12 k (nI (ohn N.1 k)) := ⟨_, rfl⟩
  rw [← eJ]
  have oth : ∀ c j, ¬ (j = k ∧ (c = 12 ∨ c = 13)) → J c j = N.1 c j := fun c j h => by
    rw [eJ]
    simp only [uI]
    rw [if_neg (by omega), if_neg (by omega)]
  have f : ∀ c, c ≠ 12 → c ≠ 13 → J c = N.1 c := fun c a b => funext (fun j => oth c j (by omega))
  have j13 : J 13 k = 0 := by rw [eJ, uI_c (by decide), uI_s]
  have j12 : J 12 k = nI (ohn N.1 k) := by rw [eJ, uI_s]
  obtain ⟨a1, a2, a3, a4, a5, a6, a7, a8⟩ := k3 k hk
  obtain ⟨p1, p2, p3, p4, p5, -⟩ := prk_n hk a1 hn
  have e0 := f 0 (by decide) (by decide)
  have e10 := f 10 (by decide) (by decide)
  have e11 := f 11 (by decide) (by decide)
  have h16 : ¬ N.1 16 k = 1 := fun z => by
    have := (a5 (a6 z).1).1
    rw [h13] at this
    exact absurd this (by decide)
  refine ⟨K1_c e0 (f 1 (by decide) (by decide)) (f 2 (by decide) (by decide)) k1, K2_c (f 3 (by decide) (by decide)) (f 4 (by decide) (by decide)) (f 5 (by decide) (by decide)) (f 6 (by decide) (by decide)) k2, fun j hj => ?_, fun t ht => K4_c (N := (J, N.2)) e0 e11 (congrFun (f 16 (by decide) (by decide)) _) (congrFun (f 17 (by decide) (by decide)) _) (row1_c (N := (J, N.2)) e11 rfl) (k4 t ht), K5_c (N := (J, N.2)) e0 (f 5 (by decide) (by decide)) e11 (congrFun (f 16 (by decide) (by decide)) _) (f 20 (by decide) (by decide)) (f 21 (by decide) (by decide)) (f 22 (by decide) (by decide)) (f 23 (by decide) (by decide)) rfl k5, fun l hl => K6_c e0 (congrFun (f 9 (by decide) (by decide)) _) (congrFun e10 _) (congrFun (f 24 (by decide) (by decide)) _) (congrFun (f 25 (by decide) (by decide)) _) rfl (k6 l hl), K7_c (N := (J, N.2)) e11 (f 17 (by decide) (by decide)) (f 40 (by decide) (by decide)) rfl k7, fun j hj => ?_, fun d hd z5 => ?_, ?_, K11_c (f 4 (by decide) (by decide)) (f 5 (by decide) (by decide)) (f 6 (by decide) (by decide)) (f 7 (by decide) (by decide)) k11⟩
  · by_cases e : j = k
    · subst e
      show K3 J j
      unfold K3
      rw [lv_c e0 e11, ohI_c e11, j12, j13, f 14 (by decide) (by decide), f 16 (by decide) (by decide), f 40 (by decide) (by decide), e11]
      exact ⟨by unfold prk; rw [e11]; exact a1, Or.inl rfl, a3, a4, fun _ => ⟨rfl, hn, h40, p5.symm⟩, fun z => absurd z h16, a7, fun _ => rfl⟩
    · exact K3_c (I := N.1) e0 (f 1 (by decide) (by decide)) e11 (oth 12 j (fun z => e z.1)) (oth 13 j (fun z => e z.1)) (oth 14 j (fun z => e z.1)) (oth 16 j (fun z => e z.1)) (oth 40 j (fun z => e z.1)) (k3 j hj)
  · by_cases e : j = k
    · subst e
      show K8 X J N.2.1 j
      obtain ⟨⟨n, b1, b2, b3⟩, -, -⟩ := k8 j hj
      have hns' : ∀ i y, ¬ US J N.2.1 j i y := fun i y u => hns i y ((US_c e10 e11).mp u)
      refine ⟨⟨n, b1, by rw [f 15 (by decide) (by decide)]; exact b2, fun l hl i m hi h1 h2 => ?_⟩, fun i i' m m' u _ => absurd u (hns' i m), fun i m u => absurd u (hns' i m)⟩
      rw [e11, f 40 (by decide) (by decide), lk_c e11, lb_c e11]
      exact b3 l hl i m hi h1 h2
    · exact K8_c e10 e11 (oth 13 j (fun z => e z.1)) (oth 15 j (fun z => e z.1)) (oth 16 j (fun z => e z.1)) (oth 40 j (fun z => e z.1)) (k8 j hj)
  · by_cases e : k = 0
    · subst e
      simp only [] at z5 ⊢
      rw [f 5 (by decide) (by decide)] at z5
      obtain ⟨b1, b2, b3, b4, b5⟩ := k9 d hd z5
      rw [dsk_c (f 7 (by decide) (by decide)), lv_c e0 e11, rwi_c e11, rwo_c e11, j13, f 16 (by decide) (by decide), f 22 (by decide) (by decide)]
      exact ⟨b1, b2, fun _ => h9 rfl d hd z5, fun _ i m u => absurd ((US_c e10 e11).mp u) (hns i m), fun z => absurd z (by decide)⟩
    · have ne : (0 : Nat) ≠ k := fun z => e z.symm
      exact K9_c (M := N) (N := (J, N.2)) e0 (f 5 (by decide) (by decide)) (f 7 (by decide) (by decide)) e10 e11 (oth 12 0 (fun z => ne z.1)) (oth 13 0 (fun z => ne z.1)) (oth 14 0 (fun z => ne z.1)) (oth 15 0 (fun z => ne z.1)) (oth 16 0 (fun z => ne z.1)) (f 22 (by decide) (by decide)) rfl (fun _ _ => rfl) k9 d hd z5
  · by_cases e : k = 0
    · subst e
      unfold K10
      simp only []
      rw [rwi_c e11, rwo_c e11, j13, f 16 (by decide) (by decide)]
      refine ⟨fun z _ => h10 rfl z, fun z => ?_⟩
      rcases z with z | z
      · exact absurd z h16
      · exact absurd z.2.1 (by decide)
    · have ne : (0 : Nat) ≠ k := fun z => e z.symm
      exact K10_c (M := N) (N := (J, N.2)) e10 e11 (oth 12 0 (fun z => ne z.1)) (oth 13 0 (fun z => ne z.1)) (oth 14 0 (fun z => ne z.1)) (oth 15 0 (fun z => ne z.1)) (oth 16 0 (fun z => ne z.1)) rfl (fun _ _ => rfl) k10
/-- a word is delivered -/
theorem del_5 {X l f p k : Nat} {lost : Bool} {m : mg} {q : List mg} {M : mM} (hX : X + 60 < 2 ^ 28) (k0 : INV X M) (hD : KD M.1) (hf : f < 4) (hp : p < 4) (el : l = 4 * f + p) (hl : l < 16) (hq : M.2.1 l = m :: q) (hn : ¬ m.1 1 ≤ M.1 10 l) (hk : k < 3) (h5 : m.1 5 = nI k) (h0 : m.1 0 = 5) {N : mM} (eN : N = mar2 l (m.1 1) (mar1 lost l M)) : rbr f p m N = mset 10 (mdel f p m N) ∧ INV (X + 42) (rbr f p m N) ∧ SI (mdel f p m N) ∧ KD (rbr f p m N).1 ∧ ∀ c, c = 0 ∨ c = 1 ∨ c = 2 → (rbr f p m N).1 c = N.1 c := by
  obtain ⟨kN, hUS, hUW⟩ := INV_m2 (lost := lost) (by omega) k0 hl hq
  rw [← eN] at kN hUS hUW
  obtain ⟨-, fw, fl⟩ := fresh_US k0 hl hq hn hk h5
  obtain ⟨elb, h40, hn1⟩ := fl h0
  obtain ⟨f1, f2, f3, f4, f5⟩ := mar_f (l := l) (lost := lost) (M := M)
  have fN : ∀ c, c ≠ 10 → c ≠ 24 → c ≠ 25 → N.1 c = M.1 c := fun c h1 h2 h3 => by
    rw [eN]
    show uI (mar1 lost l M).1 10 l (m.1 1) c = _
    rw [uI_f h1, f1 c h2 h3]
  have hZ : N.2.2 = M.2.2 := by rw [eN]; exact f3
  have e11 := fN 11 (by decide) (by decide) (by decide)
  have dN : KD N.1 := KD_c (fN 1 (by decide) (by decide) (by decide)) e11 (fN 12 (by decide) (by decide) (by decide)) (fN 13 (by decide) (by decide) (by decide)) hD
  obtain ⟨p1, p2, p3, p4, p5, p6, p7⟩ := prk_n hk (k0.1.2.2.1 k hk).1 hn1
  have hfp : ohn M.1 k = f ∧ pn M.1 k = p := by
    unfold lb at elb
    omega
  have hne : ¬ M.2.1 l = [] := by rw [hq]; exact List.cons_ne_nil _ _
  obtain ⟨v1, v2, v3⟩ := (k0.1.2.2.2.2.2.1 l hl).1 hne
  rw [el, show (4 * f + p) / 4 = f by omega] at v1
  rw [el, show (4 * f + p) % 4 = p by omega] at v2
  have e0 := fN 0 (by decide) (by decide) (by decide)
  have u1 : N.1 0 f = 1 := by rw [e0]; exact v1
  have u2 : N.1 0 p = 1 := by rw [e0]; exact v2
  have epn : pn N.1 k = p := (pn_c e11).trans hfp.2
  have eoh : ohn N.1 k = f := (ohn_c e11).trans hfp.1
  have h11 : N.1 11 k = nI p := by rw [e11, p4, hfp.2]
  have hnN : ¬ N.1 11 k = -1 := by rw [e11]; exact hn1
  have hlv : lv N.1 k = true := by
    unfold lv
    rw [epn, u2]
    simp [hnN]
  have ec : (m.1 5).toNatClampNeg = k := by rw [h5]; exact nI_clamp (by omega)
  have n1 : ¬ m.1 0 = 1 := by rw [h0]; decide
  have n2 : ¬ m.1 0 = 2 := by rw [h0]; decide
  have n34 : ¬ (m.1 0 = 3 ∨ m.1 0 = 4) := fun z => by rcases z with z | z <;> rw [h0] at z <;> exact absurd z (by decide)
  have er : rbr f p m N = if N.1 11 k = nI p ∧ m.1 6 = N.1 15 k then rwd k N else N := by
    unfold rbr
    rw [if_neg n1, if_neg n2, if_neg n34, ec]
  have em : mdel f p m N = mwd k p (m.1 6) N := by
    unfold mdel
    rw [if_neg n1, if_neg n2, if_pos h0, ec]
  rw [er, em]
  have keep : N = mset 10 N ∧ INV (X + 42) N ∧ SI N ∧ KD N.1 ∧ ∀ c, c = 0 ∨ c = 1 ∨ c = 2 → N.1 c = N.1 c := by
    refine ⟨?_, INV_X (by omega) kN, SI_of kN.1, dN, fun _ _ => rfl⟩
    rw [(MID_set30 (by omega) kN.1 (NU_of kN.2)).2]
    exact (INV_id kN).symm
  unfold mwd
  by_cases c : m.1 6 = N.1 15 k
  · rw [if_pos ⟨h11, c⟩, if_neg (fun z => z.elim (fun y => y h11) (fun y => y c))]
    have u0 := fw h0 (by rw [c, fN 15 (by decide) (by decide) (by decide)])
    have hns : ∀ i y, ¬ US N.1 N.2.1 k i y := fun i y u => by
      obtain ⟨i', w1, -⟩ := hUS k hk i y u
      exact ((k0.1.2.2.2.2.2.2.2.1 k hk).2.2 i' y w1).2.2 0 m u0
    obtain ⟨a1, a2, a3, a4, a5, a6, a7, a8⟩ := kN.1.2.2.1 k hk
    have h40N : N.1 40 k = 1 := by rw [fN 40 (by decide) (by decide) (by decide)]; exact h40
    unfold rwd mstw
    by_cases c16 : N.1 16 k = 1
    · obtain ⟨b12, -⟩ := a6 c16
      have b13 := (a5 b12).1
      rw [if_pos c16, if_pos b13, if_pos c16]
      by_cases e : k = 0
      · subst e
        rw [if_pos rfl]
        have hq' : leq (N.2.2 (rwo N.1 0)) (N.2.2 (rwi N.1 0)) := by
          rw [hZ, rwo_c e11, rwi_c e11]
          refine (k0.1.2.2.2.2.2.2.2.2.2.1.2 (Or.inl ?_)).2 0 m u0
          rw [← fN 16 (by decide) (by decide) (by decide)]
          exact c16
        obtain ⟨g1, g2⟩ := MID_g0 kN.1 hlv c16 hns hq'
        have eg : rgo 0 N = (uI N.1 16 0 2, N.2) := if_pos rfl
        rw [eg]
        obtain ⟨z1, z2⟩ := MID_set30 (by omega) g1 g2
        have rI : ∀ c, c = 0 ∨ c = 1 ∨ c = 2 ∨ c = 11 ∨ c = 12 ∨ c = 13 → (rset 30 (uI N.1 16 0 2, N.2)).1 c = N.1 c := fun c hc => by
          rw [rset_I (by omega) (by omega) (by omega) (by omega) (by omega) (by omega) (by omega) (by omega) (by omega) (by omega)]
          exact uI_f (by omega)
        exact ⟨z2.symm, INV_X (by omega) z1, SI_of g1, KD_c (rI 1 (by omega)) (rI 11 (by omega)) (rI 12 (by omega)) (rI 13 (by omega)) dN, fun c hc => rI c (by omega)⟩
      · obtain ⟨t, rfl⟩ : ∃ t, k = 1 + t := ⟨k - 1, by omega⟩
        rw [if_neg e, show 1 + t - 1 = t by omega]
        have ht : t < 2 := by omega
        obtain ⟨q1, q2, q3, q4⟩ := kN.1.2.2.2.1 t ht hlv
        have tb : TB (N.2.2 (rwi N.1 (1 + t))) := kN.1.2.2.2.2.2.2.1.2.2.1 _ (rwi_g ht).1 (rwi_g ht).2
        have hgo := e_go (t := t) hlv (fun z => q3 c16 (b01_n tb.1 z))
        rw [← hgo]
        have hsf : SF N (rgo (1 + t) N) ∧ MID (X + 1) (rgo (1 + t) N) ∧ ∀ c, c = 0 ∨ c = 1 ∨ c = 2 ∨ c = 11 ∨ c = 12 ∨ c = 13 → (rgo (1 + t) N).1 c = N.1 c := by
          have hv14 := a3
          have tm : ∀ v, (v = 0 ∨ v = 2) → (v = 2 → row1 N (1 + t) 1 = 1) → (v = 0 → row1 N (1 + t) 1 = 0) → MID X (uI N.1 16 (1 + t) v, N.2) := fun v b1 b2 b3 => by
            have := MID_tm (v14 := N.1 14 (1 + t)) (v16 := v) (s' := N.2.2 (rwi N.1 (1 + t))) ht kN.1 hlv tb rfl hv14 b1 (fun i y u => absurd u (hns i y)) b2 b3
            rw [uI_id rfl, uZ_id] at this
            exact this
          have sf : ∀ v, SF N (uI N.1 16 (1 + t) v, N.2) := fun v => ⟨fun c _ _ _ _ _ _ _ _ h9 _ => uI_f h9, rfl, uI_j (by omega), rfl⟩
          unfold rgo
          rw [if_neg e, show 1 + t - 1 = t by omega]
          by_cases c1 : row1 N (1 + t) 1 = 1
          · rw [if_pos c1]
            have b := tm 2 (Or.inr rfl) (fun _ => c1) (fun z => absurd z (by decide))
            refine ⟨SF_trans (sf 2) sr_F, MID_sr ht b hlv, fun c hc => ?_⟩
            rw [(rsr_F (by omega) (by omega) (by omega)).1]
            exact uI_f (by omega)
          · rw [if_neg c1]
            have b := tm 0 (Or.inl rfl) (fun z => absurd z (by decide)) (fun _ => b01_n tb.1 c1)
            refine ⟨SF_trans (sf 0) (sh_F (N := (uI N.1 16 (1 + t) 0, N.2))), MID_X (Nat.le_succ X) (MID_sh (M := (uI N.1 16 (1 + t) 0, N.2)) (fun c _ h2 h3 => mshw_I h2 h3) b), fun c hc => ?_⟩
            unfold rshw
            simp only []
            rw [mshw_I (by omega) (by omega), uI_f (by omega)]
        obtain ⟨s1, s2, s3⟩ := hsf
        have kk : INV (X + 1) (rgo (1 + t) N) := ⟨s2, SF_SD s1 kN.2⟩
        have hz := (MID_set30 (by omega) kk.1 (NU_of kk.2)).2
        rw [INV_id kk]
        rw [INV_id kk] at hz
        exact ⟨hz.symm, INV_X (by omega) kk, SI_of kk.1, KD_c (s3 1 (by omega)) (s3 11 (by omega)) (s3 12 (by omega)) (s3 13 (by omega)) dN, fun c hc => s3 c (by omega)⟩
    · rw [if_neg c16]
      by_cases c13 : N.1 13 k = 0
      · rw [if_pos c13, if_pos c13, if_neg c16]
        exact keep
      · rw [if_neg c13, if_neg c13]
        have h13 : N.1 13 k = 1 := a2.resolve_left c13
        have h12 : N.1 12 k = -1 := by
          by_cases z : N.1 12 k = -1
          · exact z
          · exact absurd (a5 z).1 c13
        by_cases c14 : N.1 14 k = 0
        · rw [if_pos c14, if_pos c14]
          have m13 : k = 0 → M.1 13 0 = 1 ∧ M.1 14 0 = 0 := fun e => by
            subst e
            rw [← fN 13 (by decide) (by decide) (by decide), ← fN 14 (by decide) (by decide) (by decide)]
            exact ⟨h13, c14⟩
          have km := MID_bk kN.1 hk hnN h13 h40N hns (fun e d hd z5 => by
            subst e
            rw [hZ, rwo_c e11, dsk_c (fN 7 (by decide) (by decide) (by decide))]
            rw [fN 5 (by decide) (by decide) (by decide)] at z5
            exact (k0.1.2.2.2.2.2.2.2.2.1 d hd z5).2.2.2.2 (m13 rfl).1 (m13 rfl).2 0 m u0) (fun e z => by
            subst e
            rw [hZ, rwo_c e11, rwi_c e11]
            refine (k0.1.2.2.2.2.2.2.2.2.2.1.2 (Or.inr ⟨?_, m13 rfl⟩)).2 0 m u0
            rw [← fN 16 (by decide) (by decide) (by decide)]
            exact z)
          obtain ⟨B, eB⟩ : ∃ B : mM, B = (uI (uI N.1 13 k 0) 12 k (nI (ohn N.1 k)), N.2) := ⟨_, rfl⟩
          have eb : mbk k N = B := by rw [eB]; rfl
          rw [eb, ← eB]
          have kB : MID X B := by rw [eB]; exact km
          have BI : ∀ c, c ≠ 12 → c ≠ 13 → B.1 c = N.1 c := fun c a b => by
            rw [eB]
            show uI (uI N.1 13 k 0) 12 k (nI (ohn N.1 k)) c = _
            rw [uI_f a, uI_f b]
          have sB : SD2 B := SD_c (M := N) (BI 0 (by decide) (by decide)) (BI 5 (by decide) (by decide)) (congrFun (BI 11 (by decide) (by decide)) _) (congrFun (BI 16 (by decide) (by decide)) _) (BI 21 (by decide) (by decide)) (BI 22 (by decide) (by decide)) (by rw [eB]) kN.2
          have kk : INV X B := ⟨kB, sB⟩
          have hz := (MID_set30 (by omega) kk.1 (NU_of kk.2)).2
          rw [INV_id kk] at hz
          refine ⟨hz.symm, INV_X (by omega) kk, SI_of kk.1, fun j hj r hr hr1 => ?_, fun c hc => BI c (by omega) (by omega)⟩
          rw [BI 1 (by decide) (by decide)] at hr1
          obtain ⟨d1, d2, d3⟩ := dN j hj r hr hr1
          have eB11 := BI 11 (by decide) (by decide)
          rw [eB11, ohI_c eB11]
          by_cases ej : j = k
          · subst ej
            have B12 : B.1 12 j = nI (ohn N.1 j) := by rw [eB]; exact uI_s
            have B13 : B.1 13 j = 0 := by
              rw [eB]
              show uI (uI N.1 13 j 0) 12 j (nI (ohn N.1 j)) 13 j = 0
              rw [uI_c (by decide), uI_s]
            rw [B12, B13, eoh]
            refine ⟨d1, fun z => ?_, fun z => absurd z (by decide)⟩
            have : f = r := (nI_eq (by omega) (by omega)).mp z
            subst this
            have := (kN.1.1 f hf).2.2.1 u1
            rw [hr1] at this
            exact absurd this (by decide)
          · have B12 : B.1 12 j = N.1 12 j := by
              rw [eB]
              show uI (uI N.1 13 k 0) 12 k (nI (ohn N.1 k)) 12 j = _
              rw [uI_j ej, uI_c (by decide)]
            have B13 : B.1 13 j = N.1 13 j := by
              rw [eB]
              show uI (uI N.1 13 k 0) 12 k (nI (ohn N.1 k)) 13 j = _
              rw [uI_c (by decide), uI_j ej]
            rw [B12, B13]
            exact ⟨d1, d2, d3⟩
        · rw [if_neg c14, if_neg c14, ← e_sc hlv]
          have km := MID_sc (X := X) (by omega) kN.1 hk hlv h12 hns
          have kk : INV (X + 1) (rsc k N) := ⟨km, sc_SD kN.2⟩
          have hz := (MID_set30 (by omega) kk.1 (NU_of kk.2)).2
          rw [INV_id kk] at hz
          have sI : ∀ c, c ≠ 9 → c ≠ 24 → c ≠ 25 → c ≠ 13 → c ≠ 14 → c ≠ 15 → (rsc k N).1 c = N.1 c := fun c a1 a2 a3 a4 a5 a6 => rsc_I a1 a2 a3 a4 a5 a6
          have s13 : (rsc k N).1 13 = N.1 13 := by
            funext j
            rw [rsc_13]
            by_cases ej : j = k
            · rw [if_pos ej, ej, h13]
            · rw [if_neg ej]
          exact ⟨hz.symm, INV_X (by omega) kk, SI_of kk.1, KD_c (sI 1 (by decide) (by decide) (by decide) (by decide) (by decide) (by decide)) (sI 11 (by decide) (by decide) (by decide) (by decide) (by decide) (by decide)) (sI 12 (by decide) (by decide) (by decide) (by decide) (by decide) (by decide)) s13 dN, fun c hc => sI c (by omega) (by omega) (by omega) (by omega) (by omega) (by omega)⟩
  · rw [if_neg (fun z => c z.2), if_pos (Or.inr c)]
    exact keep
