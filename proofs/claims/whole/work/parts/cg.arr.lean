/-- a state is kept; M is what was before, N with the message taken -/
theorem MID_ky {X k : Nat} {m : mg} {M N : mM} (k0 : MID X M) (kN : MID X N) (hk : k < 3) (hn : ¬ M.1 11 k = -1) (f : ∀ c, c ≠ 10 → c ≠ 24 → c ≠ 25 → N.1 c = M.1 c) (hZ : N.2.2 = M.2.2) (h5 : m.1 5 = nI k) (hs : isS m = true) {l : Nat} (hl : l < 16) (hm : (M.2.1 l)[0]? = some m) (hu : US M.1 M.2.1 k 0 m) (hns : ∀ i y, ¬ US N.1 N.2.1 k i y) (hw : ∀ i y, UW N.1 N.2.1 k i y → ∃ i', UW M.1 M.2.1 k i' y) : MID X (uI N.1 40 k 1, N.2.1, uZ N.2.2 (rwo N.1 k) m.2) ∧ ∀ i y, ¬ UW N.1 N.2.1 k i y := by
  have hnw : ∀ i y, ¬ UW N.1 N.2.1 k i y := fun i y u => by
    obtain ⟨i', u'⟩ := hw i y u
    exact ((k0.2.2.2.2.2.2.2.1 k hk).2.2 0 m hu).2.2 i' y u'
  refine ⟨?_, hnw⟩
  have hst := ((k0.2.2.2.2.2.2.2.1 k hk).2.2 0 m hu).2.1
  have e11 := f 11 (by decide) (by decide) (by decide)
  have hpk := (k0.2.2.1 k hk).1
  have hok : k = 0 → OK m.2 := fun e => by
    subst e
    exact (k0.2.2.2.2.2.2.1.2.2.2.1 l hl 0 m hm hs).1 h5
  have htb : ∀ t, t < 2 → k = 1 + t → TB m.2 ∧ m.2.1 11 = M.1 17 t := fun t ht e => by
    subst e
    exact (k0.2.2.2.2.2.2.1.2.2.2.1 l hl 0 m hm hs).2 t ht h5
  have h9 : k = 0 → ∀ d, d < 2 → M.1 5 d = 1 → (¬ M.1 12 0 = -1 ∨ (M.1 13 0 = 1 ∧ M.1 14 0 = 0)) → DR X (dsk M.1 d) m.2 0 := fun e d hd h5' z => by
    subst e
    exact (k0.2.2.2.2.2.2.2.2.1 d hd h5').2.2.2.1 z 0 m hu
  have h12 : ¬ M.1 12 k = -1 → M.1 13 k = 0 := fun z => ((k0.2.2.1 k hk).2.2.2.2.1 z).1
  obtain ⟨k1, k2, k3, k4, k5, k6, k7, k8, k9, k10, k11⟩ := kN
  have oth : ∀ c j, ¬ (c = 40 ∧ j = k) → uI N.1 40 k 1 c j = N.1 c j := fun c j h => if_neg h
  have ez : ∀ i, i ≠ rwo N.1 k → uZ N.2.2 (rwo N.1 k) m.2 i = N.2.2 i := fun i h => uZ_n h
  have hrn : ∀ j, j ≠ k → rwi N.1 j ≠ rwo N.1 k ∧ rwo N.1 j ≠ rwo N.1 k := fun j h => by
    unfold rwi rwo
    omega
  have hri : rwi N.1 k ≠ rwo N.1 k := fun e => rwo_i (I := N.1) (k := k) e.symm
  refine ⟨k1, k2, fun j hj => ?_, fun t ht => ?_, ?_, k6, ?_, fun j hj => ?_, fun d hd z5 => ?_, ?_, k11⟩
  · obtain ⟨a1, a2, a3, a4, a5, a6, a7, a8⟩ := k3 j hj
    refine ⟨a1, a2, a3, a4, fun z => ?_, a6, a7, a8⟩
    obtain ⟨b1, b2, b3, b4⟩ := a5 z
    refine ⟨b1, b2, ?_, b4⟩
    show uI N.1 40 k 1 40 j = 1
    by_cases e : j = k
    · rw [e, uI_s]
    · rw [uI_j e]; exact b3
  · refine K4_c (M := N) (N := (uI N.1 40 k 1, N.2.1, uZ N.2.2 (rwo N.1 k) m.2)) rfl rfl rfl rfl ?_ (k4 t ht)
    show (uZ N.2.2 (rwo N.1 k) m.2 (rwi N.1 (1 + t))).1 = (N.2.2 (rwi N.1 (1 + t))).1
    by_cases e : 1 + t = k
    · rw [e, ez _ hri]
    · rw [ez _ (hrn (1 + t) e).1]
  · refine K5_c (M := N) (N := (uI N.1 40 k 1, N.2.1, uZ N.2.2 (rwo N.1 k) m.2)) rfl rfl rfl rfl rfl rfl rfl rfl ?_ k5
    show uZ N.2.2 (rwo N.1 k) m.2 (rwi N.1 0) = N.2.2 (rwi N.1 0)
    by_cases e : 0 = k
    · rw [e, ez _ hri]
    · exact ez _ (hrn 0 e).1
  · obtain ⟨a1, a2, a3, a4, a5⟩ := k7
    have hrk : rwo N.1 k < 6 ∧ (rwo N.1 k < 2 ↔ k = 0) := by
      unfold rwo
      omega
    have hz : ∀ i, i < 2 → OK (N.2.2 i) → OK (uZ N.2.2 (rwo N.1 k) m.2 i) := fun i hi h => by
      by_cases e : i = rwo N.1 k
      · rw [e, uZ_s]
        exact hok (hrk.2.mp (by omega))
      · rw [uZ_n e]; exact h
    refine ⟨hz 0 (by omega) a1, hz 1 (by omega) a2, fun i h1 h2 => ?_, a4, fun t ht => ⟨fun z => ?_, (a5 t ht).2⟩⟩
    · show TB (uZ N.2.2 (rwo N.1 k) m.2 i)
      by_cases e : i = rwo N.1 k
      · rw [e, uZ_s]
        have hk0 : k ≠ 0 := fun z => by have := hrk.2.mpr z; omega
        obtain ⟨t, rfl⟩ : ∃ t, k = 1 + t := ⟨k - 1, by omega⟩
        exact (htb t (by omega) rfl).1
      · rw [uZ_n e]; exact a3 i h1 h2
    · show (uZ N.2.2 (rwo N.1 k) m.2 (rwo N.1 (1 + t))).1 11 = N.1 17 t
      by_cases e : 1 + t = k
      · subst e
        rw [uZ_s, f 17 (by decide) (by decide) (by decide)]
        exact (htb t ht rfl).2
      · rw [ez _ (hrn (1 + t) e).2]
        exact (a5 t ht).1 ((oth 40 (1 + t) (fun y => e y.2)).symm.trans z)
  · obtain ⟨⟨n, a1, a2, a3⟩, a4, a5⟩ := k8 j hj
    refine ⟨⟨n, a1, a2, fun l hl i y hi h1 h2 => ?_⟩, a4, a5⟩
    obtain ⟨b1, b2, b3, b4⟩ := a3 l hl i y hi h1 h2
    refine ⟨b1, b2, b3, fun z => ⟨(b4 z).1, ?_⟩⟩
    show uI N.1 40 k 1 40 j = 1
    by_cases e : j = k
    · rw [e, uI_s]
    · rw [uI_j e]; exact (b4 z).2
  · obtain ⟨a1, a2, a3, a4, a5⟩ := k9 d hd z5
    by_cases e : k = 0
    · subst e
      have z5' : M.1 5 d = 1 := by rw [← f 5 (by decide) (by decide) (by decide)]; exact z5
      have eds : dsk N.1 d = dsk M.1 d := dsk_c (f 7 (by decide) (by decide) (by decide))
      refine ⟨a1, fun z => ?_, fun z => ?_, a4, fun _ _ i y u => absurd u (hnw i y)⟩
      · show ∃ n, DR X (dsk N.1 d) (uZ N.2.2 (rwo N.1 0) m.2 (rwi N.1 0)) n ∧ _
        rw [ez _ hri]
        exact a2 z
      · show DR X (dsk N.1 d) (uZ N.2.2 (rwo N.1 0) m.2 (rwo N.1 0)) 0
        rw [uZ_s, eds]
        have z' : ¬ M.1 12 0 = -1 := by rw [← f 12 (by decide) (by decide) (by decide)]; exact z
        exact h9 rfl d hd z5' (Or.inl z')
    · have ne : (0 : Nat) ≠ k := fun z => e z.symm
      refine ⟨a1, fun z => ?_, fun z => ?_, a4, fun z y i w u => ?_⟩
      · show ∃ n, DR X (dsk N.1 d) (uZ N.2.2 (rwo N.1 k) m.2 (rwi N.1 0)) n ∧ _
        rw [ez _ (hrn 0 ne).1]
        exact a2 z
      · show DR X (dsk N.1 d) (uZ N.2.2 (rwo N.1 k) m.2 (rwo N.1 0)) 0
        rw [ez _ (hrn 0 ne).2]
        exact a3 z
      · show DR X (dsk N.1 d) (uZ N.2.2 (rwo N.1 k) m.2 (rwo N.1 0)) 0
        rw [ez _ (hrn 0 ne).2]
        exact a5 z y i w u
  · by_cases e : k = 0
    · subst e
      refine ⟨fun z1 z2 => ?_, fun _ => ⟨fun i y u => absurd u (hns i y), fun i y u => absurd u (hnw i y)⟩⟩
      exfalso
      have z1' : M.1 16 0 = 2 := by rw [← f 16 (by decide) (by decide) (by decide)]; exact z1
      have z2' : ¬ M.1 12 0 = -1 := by rw [← f 12 (by decide) (by decide) (by decide)]; exact z2
      rcases hst with y | y
      · exact absurd (z1'.symm.trans y) (by decide)
      · exact absurd ((h12 z2').symm.trans y) (by decide)
    · have ne : (0 : Nat) ≠ k := fun z => e z.symm
      obtain ⟨a1, a2⟩ := k10
      refine ⟨fun z1 z2 => ?_, fun z => ⟨fun i y u => ?_, fun i y u => ?_⟩⟩
      · show leq (uZ N.2.2 (rwo N.1 k) m.2 (rwo N.1 0)) (uZ N.2.2 (rwo N.1 k) m.2 (rwi N.1 0))
        rw [ez _ (hrn 0 ne).1, ez _ (hrn 0 ne).2]
        exact a1 z1 z2
      · show leq y.2 (uZ N.2.2 (rwo N.1 k) m.2 (rwi N.1 0))
        rw [ez _ (hrn 0 ne).1]
        exact (a2 z).1 i y u
      · show leq (uZ N.2.2 (rwo N.1 k) m.2 (rwo N.1 0)) (uZ N.2.2 (rwo N.1 k) m.2 (rwi N.1 0))
        rw [ez _ (hrn 0 ne).1, ez _ (hrn 0 ne).2]
        exact (a2 z).2 i y u
/-- a word goes out -/
theorem MID_wd {X k : Nat} {td : Int32} {M : mM} (hX : X < 2 ^ 30) (k0 : MID X M) (hk : k < 3) (hn : ¬ M.1 11 k = -1) (hf : M.1 0 (pn M.1 k) = 1) (ho : M.1 0 (ohn M.1 k) = 1) (h40 : M.1 40 k = 1) (htd : ∀ n, M.1 15 k = nI n → n ≤ X → ∃ w, w ≤ n ∧ td = nI w) (hns : ∀ i y, ¬ US M.1 M.2.1 k i y)
    (h9 : k = 0 → M.1 13 0 = 1 → M.1 14 0 = 0 → ∀ d, d < 2 → M.1 5 d = 1 → DR X (dsk M.1 d) (M.2.2 (rwo M.1 0)) 0) (h10 : k = 0 → (M.1 16 0 = 1 ∨ (M.1 16 0 = 2 ∧ M.1 13 0 = 1 ∧ M.1 14 0 = 0)) → leq (M.2.2 (rwo M.1 0)) (M.2.2 (rwi M.1 0))) : MID (X + 1) (mapp (4 * ohn M.1 k + pn M.1 k) (mgW k td) M) := by
  obtain ⟨k1, k2, k3, k4, k5, k6, k7, k8, k9, k10, k11⟩ := MID_X (Nat.le_succ X) k0
  have k60 := k0.2.2.2.2.2.1
  have hpk := (k0.2.2.1 k hk).1
  obtain ⟨p1, p2, p3, p4, p5, -⟩ := prk_n hk hpk hn
  obtain ⟨m, em⟩ : ∃ m, m = mgW k td := ⟨_, rfl⟩
  have m0 : m.1 0 = 5 := by rw [em]; rfl
  have m5 : m.1 5 = nI k := by rw [em]; rfl
  have m6 : m.1 6 = td := by rw [em]; rfl
  have mS : isS m = false := by
    unfold isS
    rw [m0]
    rfl
  have hMK : MK m := Or.inr (Or.inr (Or.inr ⟨m0, k, hk, m5⟩))
  rw [← em]
  obtain ⟨l, el⟩ : ∃ l, l = 4 * ohn M.1 k + pn M.1 k := ⟨_, rfl⟩
  have elb : lb M.1 k = l := by rw [el]; rfl
  rw [← el]
  have ec : ∀ c, c ≠ 9 → c ≠ 24 → c ≠ 25 → (mapp l m M).1 c = M.1 c := fun c h1 h2 h3 => mapp_I h1 h2 h3
  have hus : ∀ j i y, US (mapp l m M).1 (mapp l m M).2.1 j i y → US M.1 M.2.1 j i y := fun j i y u => (US_snd u).elim id (fun z => by have := z.2.1; rw [mS] at this; cases this)
  have huw : ∀ j i y, j < 3 → UW (mapp l m M).1 (mapp l m M).2.1 j i y → UW M.1 M.2.1 j i y ∨ j = k := fun j i y hj u => (UW_snd u).elim Or.inl (fun z => Or.inr (by
    by_cases e : j = k
    · exact e
    · exact absurd (z.2.2.1.symm.trans m5) (nI_k hj hk e)))
  have e0 := ec 0 (by decide) (by decide) (by decide)
  have e5 := ec 5 (by decide) (by decide) (by decide)
  have e11 := ec 11 (by decide) (by decide) (by decide)
  have e12 := ec 12 (by decide) (by decide) (by decide)
  have e13 := ec 13 (by decide) (by decide) (by decide)
  have e14 := ec 14 (by decide) (by decide) (by decide)
  have e15 := ec 15 (by decide) (by decide) (by decide)
  have e16 := ec 16 (by decide) (by decide) (by decide)
  have e17 := ec 17 (by decide) (by decide) (by decide)
  have e40 := ec 40 (by decide) (by decide) (by decide)
  refine ⟨K1_c e0 (ec 1 (by decide) (by decide) (by decide)) (ec 2 (by decide) (by decide) (by decide)) k1, K2_c (ec 3 (by decide) (by decide) (by decide)) (ec 4 (by decide) (by decide) (by decide)) e5 (ec 6 (by decide) (by decide) (by decide)) k2, fun k hk => K3_c e0 (ec 1 (by decide) (by decide) (by decide)) e11 (by rw [e12]) (by rw [e13]) (by rw [e14]) (by rw [e16]) (by rw [e40]) (k3 k hk), fun t ht => K4_c e0 e11 (by rw [e16]) (by rw [e17]) (row1_c e11 mapp_Z) (k4 t ht), K5_c e0 e5 e11 (by rw [e16]) (ec 20 (by decide) (by decide) (by decide)) (ec 21 (by decide) (by decide) (by decide)) (ec 22 (by decide) (by decide) (by decide)) (ec 23 (by decide) (by decide) (by decide)) rfl k5, fun j hj => by rw [el]; exact K6_snd p2 p1 (fun z => p3 z.symm) ho hf hMK (k60 j hj), ?_, fun j hj => ?_, fun d hd h5 => ?_, ?_, K11_c (ec 4 (by decide) (by decide) (by decide)) e5 (ec 6 (by decide) (by decide) (by decide)) (ec 7 (by decide) (by decide) (by decide)) k11⟩
  · obtain ⟨a1, a2, a3, a4, a5⟩ := k7
    refine ⟨a1, a2, a3, fun j hj i y hi hy => ?_, fun t ht => ?_⟩
    · rw [e17]
      by_cases e : j = l
      · subst e
        rw [mapp_Q, uQs] at hi
        rcases get_app hi with z | ⟨-, z⟩
        · exact a4 _ hj i y z hy
        · rw [z, isS_n, mS] at hy; cases hy
      · rw [mapp_Q, uQn e] at hi
        exact a4 j hj i y hi hy
    · rw [e17, e40, rwo_c e11]
      exact a5 t ht
  · obtain ⟨⟨n, a1, a2, a3⟩, a4, a5⟩ := k8 j hj
    refine ⟨⟨n, a1, by rw [e15]; exact a2, fun l' hl' i y hi h1 h2 => ?_⟩, fun i i' y y' u u' => a4 i i' y y' (hus _ _ _ u) (hus _ _ _ u'), fun i y u => ?_⟩
    · rw [e11, e40, lk_c e11, lb_c e11]
      by_cases e : l' = l
      · subst e
        rw [mapp_Q, uQs] at hi
        rcases get_app hi with z | ⟨-, z⟩
        · exact a3 _ hl' i y z h1 h2
        · have hjk : j = k := by
            rw [z, mgn_0 (by decide), m5] at h1
            by_cases c : j = k
            · exact c
            · exact absurd h1.symm (nI_k hj hk c)
          subst hjk
          obtain ⟨⟨n', b1, b2, -⟩, -⟩ := k0.2.2.2.2.2.2.2.1 j hj
          obtain ⟨w, w1, w2⟩ := htd n' b2 b1
          refine ⟨⟨w, ?_, by rw [z, mgn_0 (by decide), m6]; exact w2⟩, hn, fun h => ?_, fun _ => ⟨elb.symm, h40⟩⟩
          · have : nI n = nI n' := a2.symm.trans b2
            have := (nI_eq (by omega) (by omega)).mp this
            omega
          · rw [z, isS_n, mS] at h; cases h
      · rw [mapp_Q, uQn e] at hi
        exact a3 l' hl' i y hi h1 h2
    · rw [e13, e15, e16]
      have u' := hus _ _ _ u
      by_cases e : j = k
      · subst e
        exact absurd u' (hns i y)
      · obtain ⟨b1, b2, b3⟩ := a5 i y u'
        exact ⟨b1, b2, fun i' w z => (huw j i' w hj z).elim (b3 i' w) e⟩
  · rw [e5] at h5
    obtain ⟨a1, a2, a3, a4, a5⟩ := k9 d hd h5
    rw [dsk_c (ec 7 (by decide) (by decide) (by decide)), lv_c e0 e11, rwi_c e11, rwo_c e11, e12, e13, e14, e16, ec 22 (by decide) (by decide) (by decide), mapp_Z]
    refine ⟨a1, a2, a3, fun z i y u => a4 z i y (hus _ _ _ u), fun z y i w u => ?_⟩
    rcases huw 0 i w (by omega) u with v | v
    · exact a5 z y i w v
    · exact DR_X (Nat.le_succ X) (h9 v.symm z y d hd h5)
  · unfold K10
    rw [rwi_c e11, rwo_c e11, e12, e13, e14, e16, mapp_Z]
    refine ⟨k10.1, fun z => ⟨fun i y u => (k10.2 z).1 i y (hus _ _ _ u), fun i y u => ?_⟩⟩
    rcases huw 0 i y (by omega) u with v | v
    · exact (k10.2 z).2 i y v
    · exact h10 v.symm z
