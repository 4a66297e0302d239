theorem lsI_o {k c j : Nat} {v : Int32} {I : sm_I} (h : ¬ (j = k ∧ (c = 12 ∨ c = 13 ∨ c = 16))) : lsI k v I c j = I c j := by
  unfold lsI
  simp only [uI]
  rw [if_neg (by omega), if_neg (by omega), if_neg (by omega)]
theorem ls_F {t : Nat} {v : Int32} {N : mM} : SF N (lsI (1 + t) v N.1, N.2) := ⟨fun c _ _ _ _ _ _ h7 h8 h9 _ => funext (fun j => lsI_o (by omega)), (show lsI (1 + t) v N.1 11 0 = N.1 11 0 from lsI_o (by omega)), (show lsI (1 + t) v N.1 16 0 = N.1 16 0 from lsI_o (by omega)), rfl⟩
theorem prk_2 {I : sm_I} {t p : Nat} (hp : p = 2 ∨ p = 3) (h : prk I (1 + t)) (hn : ¬ I 11 (1 + t) = -1) : (I 11 (1 + t) = nI p → ¬ ohI I (1 + t) = nI p) ∧ (¬ I 11 (1 + t) = nI p → ohI I (1 + t) = nI p) := by
  unfold prk at h
  rw [if_neg (by omega), if_neg (by omega)] at h
  unfold ohI
  rw [if_neg (by omega)]
  rcases hp with rfl | rfl <;> rcases h with e | e | e <;> first | exact absurd e hn | (rw [e]; decide)
/-- the second part, for a terminal -/
theorem SB {Y t p : Nat} {N : mM} (k : MID Y N) (ht : t < 2) (hp : p = 2 ∨ p = 3) (h0 : N.1 0 p = 0) (h11 : ¬ N.1 11 (1 + t) = nI p) : rdB (1 + t) p N = mdB (1 + t) p N ∧ MID (Y + 1) (mdB (1 + t) p N) ∧ SF N (mdB (1 + t) p N) ∧ (¬ (mdB (1 + t) p N).1 11 (1 + t) = nI p ∧ ¬ (mdB (1 + t) p N).1 12 (1 + t) = nI p ∧ ((mdB (1 + t) p N).1 13 (1 + t) = 1 → ¬ ohI (mdB (1 + t) p N).1 (1 + t) = nI p)) ∧ (∀ c j, j ≠ 1 + t → c = 11 ∨ c = 12 ∨ c = 13 → (mdB (1 + t) p N).1 c j = N.1 c j) ∧ CHG N.1 (mdB (1 + t) p N).1 (1 + t) := by
  have hp4 : p < 4 := by omega
  obtain ⟨a1, a2, a3, a4, a5, a6, a7, a8⟩ := k.2.2.1 (1 + t) (by omega)
  have i0 : ihm (1 + t) p = true := by
    unfold ihm
    rw [if_neg (by omega)]
    simp
    omega
  by_cases c2 : (¬ N.1 12 (1 + t) = -1 ∨ ¬ N.1 13 (1 + t) = 0) ∧ ohI N.1 (1 + t) = nI p
  · obtain ⟨c3, c4⟩ := c2
    have hn1 : ¬ N.1 11 (1 + t) = -1 := fun z => by
      rcases c3 with y | y
      · exact (a5 y).2.1 z
      · exact y (a8 z)
    obtain ⟨p1, p2, p3, p4, p5, -⟩ := prk_n (by omega) a1 hn1
    have ho : ohn N.1 (1 + t) = p := (nI_eq (by omega) (by omega)).mp (p5.symm.trans c4)
    have hm : mdB (1 + t) p N = mstw (1 + t) (mdrp (1 + t) N) := if_pos ⟨c3, c4⟩
    have hr : rdB (1 + t) p N = rdB1 (1 + t) (uI (uI N.1 12 (1 + t) (-1)) 13 (1 + t) 0, N.2) := if_neg (fun z => by
      rcases z with z | z | z | z
      · exact hn1 z
      · exact h11 z
      · rw [i0] at z; cases z
      · rcases c3 with y | y
        · exact y z.1
        · exact y z.2)
    rw [hm, hr]
    unfold mstw rdB1
    rw [if_neg (by omega : ¬ 1 + t = 0), show 1 + t - 1 = t by omega]
    have eI : ∀ v, uI (uI (uI N.1 12 (1 + t) (-1)) 13 (1 + t) 0) 16 (1 + t) v = lsI (1 + t) v N.1 := fun v => rfl
    have eM : (mdrp (1 + t) N) = (uI (uI N.1 12 (1 + t) (-1)) 13 (1 + t) 0, N.2) := by
      show (uI (uI N.1 13 (1 + t) 0) 12 (1 + t) (-1), N.2) = _
      rw [uI_x (by decide)]
    rw [eM]
    have e16 : (uI (uI N.1 12 (1 + t) (-1)) 13 (1 + t) 0) 16 (1 + t) = N.1 16 (1 + t) := rfl
    have elv : lv (uI (uI N.1 12 (1 + t) (-1)) 13 (1 + t) 0) (1 + t) = lv N.1 (1 + t) := rfl
    have hkeep : ∀ A : mM, A.1 11 (1 + t) = N.1 11 (1 + t) → A.1 12 (1 + t) = -1 → A.1 13 (1 + t) = 0 → (¬ A.1 11 (1 + t) = nI p ∧ ¬ A.1 12 (1 + t) = nI p ∧ (A.1 13 (1 + t) = 1 → ¬ ohI A.1 (1 + t) = nI p)) := fun A b1 b2 b3 => ⟨by rw [b1]; exact h11, by rw [b2]; exact fun z => nI_m1 hp4 z.symm, fun z => absurd (b3.symm.trans z) (by decide)⟩
    have L12 : ∀ v, lsI (1 + t) v N.1 12 (1 + t) = -1 := fun v => by
      unfold lsI
      rw [uI_c (by decide), uI_c (by decide), uI_s]
    have L13 : ∀ v, lsI (1 + t) v N.1 13 (1 + t) = 0 := fun v => by
      unfold lsI
      rw [uI_c (by decide), uI_s]
    have L11 : ∀ v, lsI (1 + t) v N.1 11 (1 + t) = N.1 11 (1 + t) := fun v => lsI_o (by omega)
    by_cases c16 : N.1 16 (1 + t) = 1
    · have hl := (a6 c16).2
      obtain ⟨d1, d2, d3, d4⟩ := k.2.2.2.1 t ht hl
      have tb : TB (N.2.2 (rwi N.1 (1 + t))) := k.2.2.2.2.2.2.1.2.2.1 _ (rwi_g ht).1 (rwi_g ht).2
      have kk : ∀ v, (v = 2 ∧ row1 N (1 + t) 1 = 1) ∨ (v = 0 ∧ row1 N (1 + t) 1 = 0) → MID Y (lsI (1 + t) v N.1, N.2) := fun v hv => by
        refine MID_ls k (by omega) hp4 h0 hn1 ho (hv.elim (fun z => Or.inr z.1) (fun z => Or.inl z.1)) (fun z => absurd (hl.symm.trans z) (by decide)) (fun u hu e _ => ?_) (fun e => by omega)
        rcases hv with ⟨z1, z2⟩ | ⟨z1, z2⟩
        · exact ⟨fun _ => z2, fun y => absurd (z1.symm.trans y) (by decide)⟩
        · exact ⟨fun y => absurd (z1.symm.trans y) (by decide), fun _ => z2⟩
      rw [if_pos (show ((uI (uI N.1 12 (1 + t) (-1)) 13 (1 + t) 0, N.2) : mM).1 16 (1 + t) = 1 from c16), if_pos (show lv ((uI (uI N.1 12 (1 + t) (-1)) 13 (1 + t) 0, N.2) : mM).1 (1 + t) = true ∧ ((uI (uI N.1 12 (1 + t) (-1)) 13 (1 + t) 0, N.2) : mM).1 16 (1 + t) = 1 from ⟨hl, c16⟩)]
      have e := e_go (t := t) (M := (uI (uI N.1 12 (1 + t) (-1)) 13 (1 + t) 0, N.2)) hl (fun z => d3 c16 (b01_n tb.1 z))
      rw [← e]
      unfold rgo
      rw [if_neg (by omega : ¬ 1 + t = 0), show 1 + t - 1 = t by omega]
      have er : row1 ((uI (uI N.1 12 (1 + t) (-1)) 13 (1 + t) 0, N.2) : mM) (1 + t) = row1 N (1 + t) := rfl
      rw [er]
      by_cases c1 : row1 N (1 + t) 1 = 1
      · rw [if_pos c1]
        refine ⟨rfl, MID_sr ht (kk 2 (Or.inl ⟨rfl, c1⟩)) hl, SF_trans (ls_F (v := 2)) sr_F, hkeep _ ?_ ?_ ?_, fun c j hj hc => ?_, Or.inr ⟨?_, ?_, Or.inl ?_⟩⟩
        · rw [(rsr_F (by decide) (by decide) (by decide)).1]; exact L11 2
        · rw [(rsr_F (by decide) (by decide) (by decide)).1]; exact L12 2
        · rw [(rsr_F (by decide) (by decide) (by decide)).1]; exact L13 2
        · rw [(rsr_F (by omega) (by omega) (by omega)).1]
          exact lsI_o (v := 2) (by omega)
        · rw [(rsr_F (by decide) (by decide) (by decide)).1]; exact L12 2
        · rw [(rsr_F (by decide) (by decide) (by decide)).1]; exact L13 2
        · rw [(rsr_F (by decide) (by decide) (by decide)).1]; exact L11 2
      · rw [if_neg c1]
        have k0 := kk 0 (Or.inr ⟨rfl, b01_n tb.1 c1⟩)
        have hs : ∀ c, c ≠ 18 → c ≠ 19 → (rshw t (lsI (1 + t) 0 N.1, N.2)).1 c = lsI (1 + t) 0 N.1 c := fun c h1 h2 => mshw_I h1 h2
        refine ⟨rfl, MID_X (Nat.le_succ Y) (MID_sh (M := (lsI (1 + t) 0 N.1, N.2)) (fun c _ h2 h3 => mshw_I h2 h3) k0), SF_trans (ls_F (v := 0)) (sh_F (N := (lsI (1 + t) 0 N.1, N.2))), hkeep _ ?_ ?_ ?_, fun c j hj hc => ?_, Or.inr ⟨?_, ?_, Or.inl ?_⟩⟩
        · exact (congrFun (hs 11 (by decide) (by decide)) _).trans (L11 0)
        · exact (congrFun (hs 12 (by decide) (by decide)) _).trans (L12 0)
        · exact (congrFun (hs 13 (by decide) (by decide)) _).trans (L13 0)
        · exact (congrFun (hs c (by omega) (by omega)) _).trans (lsI_o (by omega))
        · exact (congrFun (hs 12 (by decide) (by decide)) _).trans (L12 0)
        · exact (congrFun (hs 13 (by decide) (by decide)) _).trans (L13 0)
        · exact (congrFun (hs 11 (by decide) (by decide)) _).trans (L11 0)
    · rw [if_neg (show ¬ ((uI (uI N.1 12 (1 + t) (-1)) 13 (1 + t) 0, N.2) : mM).1 16 (1 + t) = 1 from c16), if_neg (fun z => c16 z.2)]
      have hv2 : N.1 16 (1 + t) = 0 ∨ N.1 16 (1 + t) = 2 := by
        rcases a4 with z | z | z
        · exact Or.inl z
        · exact absurd z c16
        · exact Or.inr z
      have kl := MID_ls (v := N.1 16 (1 + t)) k (by omega) hp4 h0 hn1 ho hv2 a7 (fun u hu e hl => by
        have : u = t := by omega
        subst this
        obtain ⟨d1, d2, d3, d4⟩ := k.2.2.2.1 u hu hl
        exact ⟨d1, d2⟩) (fun e => by omega)
      have el : lsI (1 + t) (N.1 16 (1 + t)) N.1 = uI (uI N.1 12 (1 + t) (-1)) 13 (1 + t) 0 := by
        unfold lsI
        exact uI_id e16
      rw [← el]
      exact ⟨rfl, MID_X (Nat.le_succ Y) kl, ls_F, hkeep _ (L11 (N.1 16 (1 + t))) (L12 (N.1 16 (1 + t))) (L13 (N.1 16 (1 + t))), fun c j hj hc => lsI_o (v := N.1 16 (1 + t)) (by omega), Or.inr ⟨L12 (N.1 16 (1 + t)), L13 (N.1 16 (1 + t)), Or.inl (L11 (N.1 16 (1 + t)))⟩⟩
  · have hm : mdB (1 + t) p N = N := if_neg c2
    have hr : rdB (1 + t) p N = N := by
      refine if_pos ?_
      by_cases y : N.1 11 (1 + t) = -1
      · exact Or.inl y
      · refine Or.inr (Or.inr (Or.inr ?_))
        have hoh := (prk_2 hp a1 y).2 h11
        refine ⟨?_, ?_⟩
        · by_cases w : N.1 12 (1 + t) = -1
          · exact w
          · exact absurd ⟨Or.inl w, hoh⟩ c2
        · by_cases w : N.1 13 (1 + t) = 0
          · exact w
          · exact absurd ⟨Or.inr w, hoh⟩ c2
    rw [hm, hr]
    refine ⟨rfl, MID_X (Nat.le_succ Y) k, SF_refl N, ⟨h11, fun z => ?_, fun z y => ?_⟩, fun _ _ _ _ => rfl, CHG_refl⟩
    · have w : ¬ N.1 12 (1 + t) = -1 := fun w => nI_m1 hp4 (z.symm.trans w)
      exact c2 ⟨Or.inl w, (a5 w).2.2.2.symm.trans z⟩
    · exact c2 ⟨Or.inr (by rw [z]; decide), y⟩
theorem prk_3 {I : sm_I} {p : Nat} (hp : p = 2 ∨ p = 3) (h : prk I 0) : ¬ I 11 0 = nI p ∧ ¬ ohI I 0 = nI p := by
  unfold prk at h
  rw [if_pos rfl, if_pos rfl] at h
  unfold ohI
  rw [if_pos rfl]
  rcases hp with rfl | rfl <;> rcases h with e | e | e <;> rw [e] <;> decide
/-- a home of the terminals is declared -/
theorem DC1 {X p : Nat} {M : mM} (hX : X + 60 < 2 ^ 28) (k : INV X M) (hp : p = 2 ∨ p = 3) (h0 : M.1 0 p = 0) : rdc p M = mset 10 (mdc p M) ∧ INV (X + 44) (rdc p M) ∧ DCH p M ∧ SI (mdc p M) ∧ (∀ c, c = 1 ∨ c = 11 ∨ c = 12 ∨ c = 13 → (rdc p M).1 c = (mdc p M).1 c) ∧ (∀ t, t < 2 → ¬ (mdc p M).1 11 (1 + t) = nI p ∧ ¬ (mdc p M).1 12 (1 + t) = nI p ∧ ((mdc p M).1 13 (1 + t) = 1 → ¬ ohI (mdc p M).1 (1 + t) = nI p)) ∧ ∀ k, k < 3 → CHG M.1 (mdc p M).1 k := by
  have hp4 : p < 4 := by omega
  obtain ⟨km, kS⟩ := k
  have km1 := MID_d1 km hp4 h0
  obtain ⟨J, eJ⟩ : ∃ J : mM, J = (uI M.1 1 p 1, M.2) := ⟨_, rfl⟩
  have kJ : MID X J := by rw [eJ]; exact km1
  have sJ : SD2 J := by rw [eJ]; exact kS
  have hJ0 : J.1 0 p = 0 := by rw [eJ]; exact h0
  have n0 : ∀ A : mM, A.1 11 0 = J.1 11 0 → ¬ A.1 11 0 = nI p ∧ ¬ ohI A.1 0 = nI p := fun A h => by
    have := prk_3 hp (kJ.2.2.1 0 (by omega)).1
    rw [h, ohI_p h]
    exact this
  have i0 : ihm 0 p = false := by
    unfold ihm
    rw [if_pos rfl]
    simp
    omega
  have A0 : mdA 0 p J = J := if_neg (n0 J rfl).1
  have R0 : rdA 0 p J = J := if_neg (n0 J rfl).1
  obtain ⟨x1, x2, x3, x4, x5, x6⟩ := SA kJ (by omega : 0 < 2) hp4 hJ0
  simp only [Nat.add_zero] at x1 x2 x3 x4 x5 x6
  obtain ⟨A1, eA1⟩ : ∃ A, A = mdA 1 p J := ⟨_, rfl⟩
  rw [← eA1] at x1 x2 x3 x4 x5 x6
  have h1 : A1.1 0 p = 0 := by rw [x3.1 0 (by decide) (by decide) (by decide) (by decide) (by decide) (by decide) (by decide) (by decide) (by decide) (by decide)]; exact hJ0
  obtain ⟨y1, y2, y3, y4, y5, y6⟩ := SA x2 (by omega : 1 < 2) hp4 h1
  obtain ⟨A2, eA2⟩ : ∃ A, A = mdA (1 + 1) p A1 := ⟨_, rfl⟩
  rw [← eA2] at y1 y2 y3 y4 y5 y6
  have h2 : A2.1 0 p = 0 := by rw [y3.1 0 (by decide) (by decide) (by decide) (by decide) (by decide) (by decide) (by decide) (by decide) (by decide) (by decide)]; exact h1
  have B0 : mdB 0 p A2 = A2 := if_neg (fun z => (n0 A2 (y3.2.1.trans x3.2.1)).2 z.2)
  have Q0 : rdB 0 p A2 = A2 := if_pos (Or.inr (Or.inr (Or.inl i0)))
  have h211 : ¬ A2.1 11 (1 + 0) = nI p := by
    rw [y5 11 (1 + 0) (by omega) (Or.inl rfl)]
    exact x4
  obtain ⟨z1, z2, z3, z4, z5, z6⟩ := SB y2 (by omega : 0 < 2) hp h2 h211
  obtain ⟨B1, eB1⟩ : ∃ B, B = mdB (1 + 0) p A2 := ⟨_, rfl⟩
  rw [← eB1] at z1 z2 z3 z4 z5 z6
  have h3 : B1.1 0 p = 0 := by rw [z3.1 0 (by decide) (by decide) (by decide) (by decide) (by decide) (by decide) (by decide) (by decide) (by decide) (by decide)]; exact h2
  have h311 : ¬ B1.1 11 (1 + 1) = nI p := by
    rw [z5 11 (1 + 1) (by omega) (Or.inl rfl)]
    exact y4
  obtain ⟨w1, w2, w3, w4, w5, w6⟩ := SB z2 (by omega : 1 < 2) hp h3 h311
  obtain ⟨B2, eB2⟩ : ∃ B, B = mdB (1 + 1) p B1 := ⟨_, rfl⟩
  rw [← eB2] at w1 w2 w3 w4 w5 w6
  have em : mdc p M = B2 := by
    show mdB 2 p (mdB 1 p (mdB 0 p (mdA 2 p (mdA 1 p (mdA 0 p (uI M.1 1 p 1, M.2)))))) = B2
    rw [← eJ, A0, ← eA1, show mdA 2 p A1 = A2 from eA2.symm, B0, show mdB 1 p A2 = B1 from eB1.symm, show mdB 2 p B1 = B2 from eB2.symm]
  have er : rdc p M = rset 30 B2 := by
    show rset 30 (rdB 2 p (rdB 1 p (rdB 0 p (rdA 2 p (rdA 1 p (rdA 0 p (uI M.1 1 p 1, M.2))))))) = rset 30 B2
    rw [← eJ, R0, x1, show rdA 2 p A1 = A2 from y1, Q0, show rdB 1 p A2 = B1 from z1, show rdB 2 p B1 = B2 from w1]
  have hS : SD2 B2 := SF_SD w3 (SF_SD z3 (SF_SD y3 (SF_SD x3 sJ)))
  obtain ⟨u1, u2⟩ := MID_set30 (by omega) w2 (NU_of hS)
  refine ⟨by rw [er, em, u2], by rw [er]; exact INV_X (by omega) u1, ?_, by rw [em]; exact SI_of w2, fun c hc => ?_, fun t ht => ?_, fun k hk => ?_⟩
  · unfold DCH
    rw [← eJ, A0, ← eA1, show mdA 2 p A1 = A2 from eA2.symm, B0, show mdB 1 p A2 = B1 from eB1.symm]
    exact ⟨RPH_of kJ (by omega) hp4 hJ0, RPH_of kJ (by omega) hp4 hJ0, RPH_of x2 (by omega) hp4 h1, STH_of y2 (by omega), STH_of y2 (by omega), STH_of z2 (by omega)⟩
  · rw [er, em]
    rcases hc with rfl | rfl | rfl | rfl <;> exact rset_I (by decide) (by decide) (by decide) (by decide) (by decide) (by decide) (by decide) (by decide) (by decide) (by decide) 30 B2
  · rw [em]
    have : t = 0 ∨ t = 1 := by omega
    rcases this with rfl | rfl
    · obtain ⟨v1, v2, v3⟩ := z4
      have e11 := w5 11 (1 + 0) (by omega) (Or.inl rfl)
      rw [e11, w5 12 (1 + 0) (by omega) (Or.inr (Or.inl rfl)), w5 13 (1 + 0) (by omega) (Or.inr (Or.inr rfl)), ohI_p e11]
      exact ⟨v1, v2, v3⟩
    · exact w4
  · rw [em]
    have z0 : ∀ {N A : mM}, SF N A → A.1 0 = N.1 0 := fun h => h.1 0 (by decide) (by decide) (by decide) (by decide) (by decide) (by decide) (by decide) (by decide) (by decide) (by decide)
    have same : ∀ {N A : mM} (j : Nat), (∀ c i, i ≠ j → c = 11 ∨ c = 12 ∨ c = 13 → A.1 c i = N.1 c i) → ∀ k, k ≠ j → CHG N.1 A.1 k := fun j h k hk => Or.inl ⟨h 11 k hk (Or.inl rfl), h 12 k hk (Or.inr (Or.inl rfl)), h 13 k hk (Or.inr (Or.inr rfl))⟩
    have hMJ : CHG M.1 J.1 k := by rw [eJ]; exact CHG_refl
    have hJ00 : J.1 0 = M.1 0 := by rw [eJ]; rfl
    have c1 : CHG J.1 A1.1 k := by
      by_cases e : k = 1
      · rw [e]; exact x6
      · exact same 1 x5 k e
    have c2 : CHG A1.1 A2.1 k := by
      by_cases e : k = 1 + 1
      · rw [e]; exact y6
      · exact same (1 + 1) y5 k e
    have c3 : CHG A2.1 B1.1 k := by
      by_cases e : k = 1 + 0
      · rw [e]; exact z6
      · exact same (1 + 0) z5 k e
    have c4 : CHG B1.1 B2.1 k := by
      by_cases e : k = 1 + 1
      · rw [e]; exact w6
      · exact same (1 + 1) w5 k e
    have e1 := (z0 x3).trans hJ00
    have e2 := (z0 y3).trans e1
    have e3 := (z0 z3).trans e2
    exact CHG_trans e3 (CHG_trans e2 (CHG_trans e1 (CHG_trans hJ00 hMJ c1) c2) c3) c4
