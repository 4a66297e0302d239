theorem mapp_u {l c j : Nat} {m : mg} {v : Int32} {I : sm_I} {Q : mQ} {Z : mZ} (h9 : c ≠ 9) (h3 : c ≠ 3) (h24 : c ≠ 24) (h25 : c ≠ 25) : mapp l m (uI I c j v, Q, Z) = (uI (mapp l m (I, Q, Z)).1 c j v, (mapp l m (I, Q, Z)).2) := by
  have ef : fbu (uI I c j v) = fbu I := by unfold fbu; rw [uI_c (fun e => h3 e.symm), uI_c (fun e => h3 e.symm)]
  have e9 : (uI I c j v) 9 l = I 9 l := uI_c (fun e => h9 e.symm)
  unfold mapp appI
  simp only []
  by_cases c1 : Q l = []
  · rw [if_pos c1, if_pos c1, ef, e9, uI_x h9, uI_x h24, uI_x h25]
  · rw [if_neg c1, if_neg c1, e9, uI_x h9]
theorem rsn_u {f t c j : Nat} {m : mg} {v : Int32} {I : sm_I} {Q : mQ} {Z : mZ} (h0 : c ≠ 0) (h9 : c ≠ 9) (h3 : c ≠ 3) (h24 : c ≠ 24) (h25 : c ≠ 25) : rsn f t m (uI I c j v, Q, Z) = (uI (rsn f t m (I, Q, Z)).1 c j v, (rsn f t m (I, Q, Z)).2) := by
  unfold rsn
  have e0 : (uI I c j v) 0 t = I 0 t := uI_c (fun e => h0 e.symm)
  by_cases c1 : I 0 t = 0
  · rw [if_pos (show (uI I c j v, Q, Z).1 0 t = 0 from e0.trans c1), if_pos (show (I, Q, Z).1 0 t = 0 from c1)]
  · rw [if_neg (show ¬ (uI I c j v, Q, Z).1 0 t = 0 from fun z => c1 (e0.symm.trans z)), if_neg (show ¬ (I, Q, Z).1 0 t = 0 from c1)]
    exact mapp_u h9 h3 h24 h25
theorem rrp_u {t : Nat} {v : Int32} {I : sm_I} {Q : mQ} {Z : mZ} : rrp t (uI I 23 0 v, Q, Z) = (uI (rrp t (I, Q, Z)).1 23 0 v, (rrp t (I, Q, Z)).2) := by
  unfold rrp
  by_cases c : I 11 (1 + t) = -1
  · rw [if_pos (show (uI I 23 0 v, Q, Z).1 11 (1 + t) = -1 from c), if_pos (show (I, Q, Z).1 11 (1 + t) = -1 from c)]
  · rw [if_neg (show ¬ (uI I 23 0 v, Q, Z).1 11 (1 + t) = -1 from c), if_neg (show ¬ (I, Q, Z).1 11 (1 + t) = -1 from c)]
    exact rsn_u (by decide) (by decide) (by decide) (by decide) (by decide)
theorem rsr_u {t : Nat} {v : Int32} {I : sm_I} {Q : mQ} {Z : mZ} : rsr t (uI I 23 0 v, Q, Z) = (uI (rsr t (I, Q, Z)).1 23 0 v, (rsr t (I, Q, Z)).2) := by
  unfold rsr
  by_cases c : I 11 0 = -1
  · rw [if_pos (show (uI I 23 0 v, Q, Z).1 11 0 = -1 from c), if_pos (show (I, Q, Z).1 11 0 = -1 from c)]
  · rw [if_neg (show ¬ (uI I 23 0 v, Q, Z).1 11 0 = -1 from c), if_neg (show ¬ (I, Q, Z).1 11 0 = -1 from c)]
    exact rsn_u (by decide) (by decide) (by decide) (by decide) (by decide)
theorem rsa1_u {t : Nat} {v : Int32} {I : sm_I} {Q : mQ} {Z : mZ} : rsa1 t (uI I 23 0 v, Q, Z) = (uI (rsa1 t (I, Q, Z)).1 23 0 v, (rsa1 t (I, Q, Z)).2) := by
  unfold rsa1
  by_cases c : lv I (1 + t) = true ∧ I 16 (1 + t) = 2
  · rw [if_pos (show lv (uI I 23 0 v, Q, Z).1 (1 + t) = true ∧ (uI I 23 0 v, Q, Z).1 16 (1 + t) = 2 from c), if_pos (show lv (I, Q, Z).1 (1 + t) = true ∧ (I, Q, Z).1 16 (1 + t) = 2 from c)]
    exact rsr_u
  · rw [if_neg (show ¬ (lv (uI I 23 0 v, Q, Z).1 (1 + t) = true ∧ (uI I 23 0 v, Q, Z).1 16 (1 + t) = 2) from c), if_neg (show ¬ (lv (I, Q, Z).1 (1 + t) = true ∧ (I, Q, Z).1 16 (1 + t) = 2) from c)]
theorem rsa_u {v : Int32} {I : sm_I} {Q : mQ} {Z : mZ} : rsa (uI I 23 0 v, Q, Z) = (uI (rsa (I, Q, Z)).1 23 0 v, (rsa (I, Q, Z)).2) := by
  unfold rsa
  rw [rsa1_u]
  obtain ⟨N, eN⟩ : ∃ N, N = rsa1 0 (I, Q, Z) := ⟨_, rfl⟩
  rw [← eN]
  obtain ⟨I', Q', Z'⟩ := N
  exact rsa1_u
/-- a reply goes out -/
theorem MID_rp {X t : Nat} {M : mM} (ht : t < 2) (k : MID X M) (hl : lv M.1 0 = true) : MID (X + 1) (rrp t M) := by
  unfold rrp
  split
  · exact MID_X (Nat.le_succ X) k
  · rename_i h1
    unfold rsn
    split
    · exact MID_X (Nat.le_succ X) k
    · rename_i hu
      obtain ⟨p1, p2, -⟩ := prk_n (by omega) (k.2.2.1 0 (by omega)).1 (lv_up hl).1
      obtain ⟨q1, q2, -⟩ := prk_n (by omega) (k.2.2.1 (1 + t) (by omega)).1 h1
      have hne : ¬ pn M.1 0 = pn M.1 (1 + t) := by
        have a := (k.2.2.1 0 (by omega)).1
        have b := (k.2.2.1 (1 + t) (by omega)).1
        unfold prk at a b
        rw [if_neg (by omega), if_neg (by omega)] at b
        rw [if_pos rfl, if_pos rfl] at a
        unfold pn
        rcases a with a | a | a <;> rcases b with b | b | b <;> first | exact absurd a (lv_up hl).1 | exact absurd b h1 | (rw [a, b]; decide)
      exact MID_snd p1 q1 hne (lv_1 (by omega) k.1 (k.2.2.1 0 (by omega)).1 hl) (((k.1 _ q1).1).resolve_left hu) (Or.inr (Or.inl ⟨rfl, t, ht, rfl⟩)) (Or.inr rfl) k
theorem MID_sa1 {X t : Nat} {M : mM} (ht : t < 2) (k : MID X M) : MID (X + 1) (rsa1 t M) := by
  unfold rsa1
  split
  · rename_i h
    exact MID_sr ht k h.1
  · exact MID_X (Nat.le_succ X) k
theorem MID_sa {X : Nat} {M : mM} (k : MID X M) : MID (X + 2) (rsa M) := MID_sa1 (by omega) (MID_sa1 (by omega) k)
/-- the store has done what it did -/
theorem MID_f0 {X : Nat} {M : mM} (k : MID X M) (hl : lv M.1 0 = true) (h2 : M.1 16 0 = 2) (hr : raw M = true) : MID X (uI (uI M.1 16 0 0) 23 0 0, M.2.1, uZ M.2.2 (rwi M.1 0) (mfs (M.2.2 (rwi M.1 0)))) := by
  obtain ⟨k1, k2, k3, k4, k5, k6, k7, k8, k9, k10, k11⟩ := k
  obtain ⟨I, Q, Z⟩ := M
  have oth : ∀ c j, j ≠ 0 → uI (uI I 16 0 0) 23 0 0 c j = I c j := fun c j h => by rw [uI_j h, uI_j h]
  have h01 : rwi I 0 = 0 ∨ rwi I 0 = 1 := by have := rwi_lt0 (I := I); omega
  have hok : OK (Z (rwi I 0)) := by
    rcases h01 with e | e <;> rw [e]
    · exact k7.1
    · exact k7.2.1
  have hall : ∀ d, d < 2 → I 5 d = 1 → LG X (dsk I d) ∧ dsk I d 80 = (Z (rwi I 0)).1 1 ∧ rdL (dsk I d) = (Z (rwi I 0)).2.1 := by
    intro d hd h5
    obtain ⟨-, a2, -⟩ := k9 d hd h5
    obtain ⟨n, b1, b2⟩ := a2 hl
    have hn := b2 h2
    have hnp : n ≤ (Z (rwi I 0)).2.2.length := by
      obtain ⟨f0, p, c1, c2, -⟩ := b1
      exact Nat.le_trans c1 c2
    refine DR_end b1 ?_
    have hwl := hok.2.2.2.2.1
    generalize hN : (Z (rwi I 0)).2.2.length = N at *
    by_cases c : N = 0
    · omega
    · have hn0 : ¬ nI N = 0 := fun e => c ((nI_eq (a := N) (b := 0) (by omega) (by omega)).mp e)
      unfold raw at hr
      simp only [hN] at hr
      rw [Bool.or_eq_true] at hr
      rcases hr with hr | hr
      · exact absurd (by simpa using hr) hn0
      · rw [Bool.and_eq_true, Bool.and_eq_true] at hr
        obtain ⟨⟨y1, y2⟩, y3⟩ := hr
        obtain ⟨c1, c2, c3⟩ := k2
        have h4 : ∀ d', d' < 2 → us I d' = true → I 4 d' = 1 ∧ I 5 d' = 1 := fun d' hd' hu' => by
          unfold us at hu'
          simp at hu'
          obtain ⟨u1, u2⟩ := hu'
          obtain ⟨-, v1, v2, -⟩ := c1 d' hd'
          exact ⟨v1.resolve_left u1, v2.resolve_left u2⟩
        have mk : ∀ d', I 4 d' = 1 → I 5 d' = 1 → us I d' = true := fun d' a b => by simp [us, a, b]
        have hu : us I d = true := by
          have hdd : d = 0 ∨ d = 1 := by omega
          rcases hdd with rfl | rfl
          · rw [Bool.or_eq_true] at y1
            rcases y1 with y1 | y1
            · exact y1
            · exact mk 0 (c2 h5 (h4 1 (by omega) y1).2).1 h5
          · rw [Bool.or_eq_true] at y1
            rcases y1 with y1 | y1
            · exact mk 1 (c2 (h4 0 (by omega) y1).2 h5).2 h5
            · exact y1
        have y : raw1 I (nI N) d = true := by
          have hdd : d = 0 ∨ d = 1 := by omega
          rcases hdd with rfl | rfl
          · exact y2
          · exact y3
        unfold raw1 at y
        rw [hu] at y
        simp at y
        have : nI n = nI N := hn.symm.trans y
        have := (nI_eq (by omega) (by omega)).mp this
        omega
  have er : ∀ u, row1 (uI (uI I 16 0 0) 23 0 0, Q, uZ Z (rwi I 0) (mfs (Z (rwi I 0)))) (1 + u) = row1 (I, Q, Z) (1 + u) := fun u => by
    show (uZ Z (rwi I 0) (mfs (Z (rwi I 0))) (rwi I (1 + u))).1 = _
    rw [uZ_n rwi_ne]
    rfl
  have ez : ∀ i, i ≠ rwi I 0 → uZ Z (rwi I 0) (mfs (Z (rwi I 0))) i = Z i := fun i h => uZ_n h
  refine ⟨k1, k2, fun k' hk' => ?_, fun u hu => ?_, ?_, fun l hl' => k6 l hl', ?_, fun k' hk' => ?_, fun d hd h5 => ?_, ?_, k11⟩
  · by_cases e : k' = 0
    · subst e
      obtain ⟨a1, a2, a3, a4, a5, a6, a7, a8⟩ := k3 0 hk'
      exact ⟨a1, a2, a3, Or.inl rfl, a5, fun z => absurd (show (0 : Int32) = 1 from z) (by decide), fun _ => rfl, a8⟩
    · exact K3_c (I := I) rfl rfl rfl rfl rfl rfl (oth 16 _ e) rfl (k3 k' hk')
  · exact K4_c (M := (I, Q, Z)) rfl rfl (oth 16 _ (by omega)) rfl (er u) (k4 u hu)
  · obtain ⟨a1, a2, a3, a4, a5, a6, a7⟩ := k5
    refine ⟨fun _ => ⟨fun _ => rfl, fun _ => ?_⟩, fun z => absurd (show (0 : Int32) = 1 from z) (by decide), Or.inl rfl, fun z => absurd (show (0 : Int32) = 1 from z) (by decide), fun z => absurd (hl.symm.trans z) (by decide), a6, fun z => absurd (show (0 : Int32) = 2 from z) (by decide)⟩
    show (uZ Z (rwi I 0) (mfs (Z (rwi I 0))) (rwi I 0)).1 3 = 0
    rw [uZ_s]
    rfl
  · obtain ⟨a1, a2, a3, a4, a5⟩ := k7
    have hz : ∀ i, OK (Z i) → OK (uZ Z (rwi I 0) (mfs (Z (rwi I 0))) i) := fun i h => by
      by_cases e : i = rwi I 0
      · rw [e, uZ_s]; exact OK_mfs hok
      · rw [uZ_n e]; exact h
    refine ⟨hz 0 a1, hz 1 a2, fun i h1 h2 => ?_, a4, fun t ht => ⟨fun z => ?_, (a5 t ht).2⟩⟩
    · show TB (uZ Z (rwi I 0) (mfs (Z (rwi I 0))) i)
      rw [ez i (by have := rwi_lt0 (I := I); omega)]
      exact a3 i h1 h2
    · show (uZ Z (rwi I 0) (mfs (Z (rwi I 0))) (rwo I (1 + t))).1 11 = _
      rw [ez _ (by have := rwi_lt0 (I := I); have := (rwo_g (I := I) ht).1; omega)]
      exact (a5 t ht).1 z
  · by_cases e : k' = 0
    · subst e
      obtain ⟨b, a4, a5⟩ := k8 0 hk'
      refine ⟨b, a4, fun i m u => ?_⟩
      obtain ⟨b1, b2, b3⟩ := a5 i m u
      refine ⟨b1, Or.inr (b2.resolve_left (fun z => ?_)), b3⟩
      exact absurd (h2.symm.trans z) (by decide)
    · exact K8_c (I := I) rfl rfl rfl rfl (oth 16 _ e) rfl (k8 k' hk')
  · obtain ⟨a1, a2, a3, a4, a5⟩ := k9 d hd h5
    have ero : uZ Z (rwi I 0) (mfs (Z (rwi I 0))) (rwo I 0) = Z (rwo I 0) := uZ_n rwo_i
    refine ⟨a1, fun _ => ⟨0, ?_, fun z => absurd (show (0 : Int32) = 2 from z) (by decide)⟩, fun z => ?_, a4, fun z y i m u => ?_⟩
    · show DR X (dsk I d) (uZ Z (rwi I 0) (mfs (Z (rwi I 0))) (rwi I 0)) 0
      rw [uZ_s]
      obtain ⟨b1, b2, b3⟩ := hall d hd h5
      exact DR_nil rfl b1 b2 b3
    · show DR X (dsk I d) (uZ Z (rwi I 0) (mfs (Z (rwi I 0))) (rwo I 0)) 0
      rw [ero]
      exact a3 z
    · show DR X (dsk I d) (uZ Z (rwi I 0) (mfs (Z (rwi I 0))) (rwo I 0)) 0
      rw [ero]
      exact a5 z y i m u
  · refine ⟨fun z => absurd (show (0 : Int32) = 2 from z) (by decide), fun z => ?_⟩
    rcases z with z | z
    · exact absurd (show (0 : Int32) = 1 from z) (by decide)
    · exact absurd (show (0 : Int32) = 2 from z.1) (by decide)
theorem MID_fin {X : Nat} {M : mM} (k : MID X M) (hl : lv M.1 0 = true) (h2 : M.1 16 0 = 2) (hr : raw M = true) : MID (X + 2) (rfin M) := by
  have b := MID_f0 k hl h2 hr
  have h23 : ¬ row1 M 0 3 = 2 → M.1 23 0 = 0 := fun z => by
    rcases k.2.2.2.2.1.2.2.1 with y | y
    · exact y
    · exact absurd (k.2.2.2.2.1.2.2.2.1 y).2 z
  have hok : OK (M.2.2 (rwi M.1 0)) := by
    have h01 : rwi M.1 0 = 0 ∨ rwi M.1 0 = 1 := by have := rwi_lt0 (I := M.1); omega
    rcases h01 with e | e <;> rw [e]
    · exact k.2.2.2.2.2.2.1.1
    · exact k.2.2.2.2.2.2.1.2.1
  obtain ⟨t, ht, et⟩ := hok.2.2.2.2.2.2.1
  have et' : (row1 M 0 4).toNatClampNeg = t := by
    show ((M.2.2 (rwi M.1 0)).1 4).toNatClampNeg = t
    rw [et]
    exact nI_clamp (by omega)
  obtain ⟨I, Q, Z⟩ := M
  have e0 : mfin0 (I, Q, Z) = (uI I 16 0 0, Q, uZ Z (rwi I 0) (mfs (Z (rwi I 0)))) := rfl
  have key : rfin (I, Q, Z) = (uI (rfin1 (I, Q, Z)).1 23 0 0, (rfin1 (I, Q, Z)).2) := by
    unfold rfin
    by_cases c : row1 (I, Q, Z) 0 3 = 2
    · rw [if_pos c]
    · rw [if_neg c]
      have : (rfin1 (I, Q, Z)).1 23 0 = 0 := by
        have h := h23 c
        unfold rfin1
        rw [e0]
        have hsn : ∀ f t m (N : mM), (rsn f t m N).1 23 = N.1 23 := fun f t m N => by
          unfold rsn
          split
          · rfl
          · exact mapp_I (by decide) (by decide) (by decide)
        have hrp : ∀ t (N : mM), (rrp t N).1 23 = N.1 23 := fun t N => by
          unfold rrp
          split
          · rfl
          · exact hsn _ _ _ _
        split
        · rw [hrp]; exact h
        · first
          | exact h
          | (rw [if_pos h]; exact h)
      rw [this]
  rw [key]
  unfold rfin1
  rw [e0, et']
  split
  · rw [← rrp_u]
    exact MID_X (Nat.le_succ _) (MID_rp ht b hl)
  · split
    · exact MID_X (by omega) b
    · rw [← rsa_u]
      exact MID_sa b
