theorem row1_t {I J : sm_I} {Q : mQ} {Z : mZ} {k r : Nat} (h : rwi J k = r) : row1 (J, Q, Z) k = (Z r).1 := by
  show (Z (rwi J k)).1 = _
  rw [h]
/-- what a terminal's other process does -/
def toT (t : Nat) (N : mM) : mM := if (N.2.2 (rwo N.1 (1 + t))).1 1 = 1 then rsr t (toI (1 + t) 2 N.1, N.2) else if (N.2.2 (rwo N.1 (1 + t))).1 6 = 1 then (mshw t (N.2.2 (rwo N.1 (1 + t))).1 (toI (1 + t) 0 N.1), N.2) else (toI (1 + t) 0 N.1, N.2)
theorem toT_m {X t p : Nat} {N : mM} (k : MID X N) (ht : t < 2) (hp : p < 4) (h0 : N.1 0 p = 0) (h1 : N.1 11 (1 + t) = nI p) (h12 : ¬ N.1 12 (1 + t) = -1) (hu : ¬ N.1 0 (ohn N.1 (1 + t)) = 0) : mgo t (mpri (1 + t) (nI (ohn N.1 (1 + t))) (mdrp (1 + t) N)) = toT t N ∧ rto (1 + t) N = toT t N ∧ MID (X + 1) (toT t N) := by
  obtain ⟨I, Q, Z⟩ := N
  obtain ⟨a1, a2, a3, a4, a5, a6, a7, a8⟩ := k.2.2.1 (1 + t) (by omega)
  have hn1 : ¬ I 11 (1 + t) = -1 := (a5 h12).2.1
  obtain ⟨p1, p2, p3, p4, p5, -⟩ := prk_n (I := I) (by omega) a1 hn1
  have b12 : I 12 (1 + t) = nI (ohn I (1 + t)) := (a5 h12).2.2.2.trans p5
  obtain ⟨r, er⟩ : ∃ r, r = (Z (rwo I (1 + t))).1 := ⟨_, rfl⟩
  have e1 : ∀ v, uI (mpri (1 + t) (nI (ohn I (1 + t))) (mdrp (1 + t) (I, Q, Z))).1 16 (1 + t) v = toI (1 + t) v I := fun v => by
    funext a b
    simp only [mpri, mdrp, toI, uI]
    grind
  have e2 : (rto0 (1 + t) (I, Q, Z)) = (toI (1 + t) 0 I, Q, Z) := by
    show (_, Q, Z) = (_, Q, Z)
    congr 1
    have hk : ¬ 1 + t = 0 := by omega
    funext a b
    simp only [mstI, if_neg hk, toI, uI]
    grind
  have em : (mpri (1 + t) (nI (ohn I (1 + t))) (mdrp (1 + t) (I, Q, Z))).1 11 (1 + t) = nI (ohn I (1 + t)) := by
    show uI (uI (mdrp (1 + t) (I, Q, Z)).1 11 (1 + t) (nI (ohn I (1 + t)))) 40 (1 + t) 0 11 (1 + t) = _
    rw [uI_c (by decide), uI_s]
  obtain ⟨o1, o2, o3, o4, o5, o6, o7⟩ := oh_prk (I := I) (J := (mpri (1 + t) (nI (ohn I (1 + t))) (mdrp (1 + t) (I, Q, Z))).1) (by omega) a1 hn1 em
  have rm : row1 (mpri (1 + t) (nI (ohn I (1 + t))) (mdrp (1 + t) (I, Q, Z))) (1 + t) = r := by
    show (Z (rwi (mpri (1 + t) (nI (ohn I (1 + t))) (mdrp (1 + t) (I, Q, Z))).1 (1 + t))).1 = r
    rw [o5, er]
  have rt : ∀ v, row1 (toI (1 + t) v I, Q, Z) (1 + t) = r := fun v => by
    obtain ⟨-, -, -, -, q5, -⟩ := oh_prk (I := I) (J := toI (1 + t) v I) (by omega) a1 hn1 toI_s.1
    show (Z (rwi (toI (1 + t) v I) (1 + t))).1 = r
    rw [q5, er]
  have hmid : ∀ v, v = (if r 1 = 1 then 2 else 0) → MID X (toI (1 + t) v I, Q, Z) ∧ lv (toI (1 + t) v I) (1 + t) = true := fun v hv => by
    have := MID_toT (v := v) k ht hp h0 h1 h12 hu (by rw [er] at hv; exact hv)
    exact ⟨this.1, this.2.1⟩
  unfold toT
  show mgo t (mpri (1 + t) (nI (ohn I (1 + t))) (mdrp (1 + t) (I, Q, Z))) = (if (Z (rwo I (1 + t))).1 1 = 1 then rsr t (toI (1 + t) 2 I, Q, Z) else if (Z (rwo I (1 + t))).1 6 = 1 then (mshw t (Z (rwo I (1 + t))).1 (toI (1 + t) 0 I), Q, Z) else (toI (1 + t) 0 I, Q, Z)) ∧ rto (1 + t) (I, Q, Z) = (if (Z (rwo I (1 + t))).1 1 = 1 then rsr t (toI (1 + t) 2 I, Q, Z) else if (Z (rwo I (1 + t))).1 6 = 1 then (mshw t (Z (rwo I (1 + t))).1 (toI (1 + t) 0 I), Q, Z) else (toI (1 + t) 0 I, Q, Z)) ∧ MID (X + 1) (if (Z (rwo I (1 + t))).1 1 = 1 then rsr t (toI (1 + t) 2 I, Q, Z) else if (Z (rwo I (1 + t))).1 6 = 1 then (mshw t (Z (rwo I (1 + t))).1 (toI (1 + t) 0 I), Q, Z) else (toI (1 + t) 0 I, Q, Z))
  rw [← er]
  unfold mgo rto rto2
  rw [if_neg (by omega : ¬ 1 + t = 0), e2, show 1 + t - 1 = t by omega, rm, rt, e1, e1]
  by_cases c : r 1 = 1
  · obtain ⟨m1, m2⟩ := hmid 2 (by rw [if_pos c])
    rw [if_pos c, if_pos c, if_pos c, show uI (toI (1 + t) 0 I, Q, Z).1 16 (1 + t) 2 = toI (1 + t) 2 I from uI_r]
    refine ⟨?_, rfl, MID_sr ht m1 m2⟩
    have e11 : (mpri (1 + t) (nI (ohn I (1 + t))) (mdrp (1 + t) (I, Q, Z))).1 11 0 = toI (1 + t) 2 I 11 0 := by
      rw [toI_o (by omega)]
      show uI (uI (mdrp (1 + t) (I, Q, Z)).1 11 (1 + t) (nI (ohn I (1 + t)))) 40 (1 + t) 0 11 0 = _
      rw [uI_c (by decide), uI_j (by omega)]
      rfl
    unfold rsr
    rw [show ((toI (1 + t) 2 I, Q, Z) : mM).1 11 0 = toI (1 + t) 2 I 11 0 from rfl, e11]
    have eN2 : (mpri (1 + t) (nI (ohn I (1 + t))) (mdrp (1 + t) (I, Q, Z))).2 = (Q, Z) := rfl
    split
    · rfl
    · have ep : pn (mpri (1 + t) (nI (ohn I (1 + t))) (mdrp (1 + t) (I, Q, Z))).1 (1 + t) = pn (toI (1 + t) 2 I) (1 + t) := pn_p (em.trans toI_s.1.symm)
      have ep0 : pn (mpri (1 + t) (nI (ohn I (1 + t))) (mdrp (1 + t) (I, Q, Z))).1 0 = pn (toI (1 + t) 2 I) 0 := pn_p e11
      rw [ep, ep0, rt, eN2]
      exact (e_sn (lv_up m2).2).symm
  · obtain ⟨m1, m2⟩ := hmid 0 (by rw [if_neg c])
    rw [if_neg c, if_neg c, if_neg c]
    by_cases c6 : r 6 = 1
    · rw [if_pos c6, if_pos c6, if_pos c6]
      refine ⟨rfl, ?_, MID_X (Nat.le_succ X) (MID_sh (M := (toI (1 + t) 0 I, Q, Z)) (fun c _ h2 h3 => mshw_I h2 h3) m1)⟩
      unfold rshw
      rw [rt]
    · rw [if_neg c6, if_neg c6, if_neg c6]
      exact ⟨rfl, rfl, MID_X (Nat.le_succ X) m1⟩
/-- nothing of the store changes -/
def SF (N A : mM) : Prop := (∀ c, c ≠ 9 → c ≠ 24 → c ≠ 25 → c ≠ 18 → c ≠ 19 → c ≠ 11 → c ≠ 12 → c ≠ 13 → c ≠ 16 → c ≠ 40 → A.1 c = N.1 c) ∧ A.1 11 0 = N.1 11 0 ∧ A.1 16 0 = N.1 16 0 ∧ A.2.2 = N.2.2
theorem SF_refl (N : mM) : SF N N := ⟨fun _ _ _ _ _ _ _ _ _ _ _ => rfl, rfl, rfl, rfl⟩
theorem SF_trans {N A B : mM} (h1 : SF N A) (h2 : SF A B) : SF N B := ⟨fun c a1 a2 a3 a4 a5 a6 a7 a8 a9 a10 => (h2.1 c a1 a2 a3 a4 a5 a6 a7 a8 a9 a10).trans (h1.1 c a1 a2 a3 a4 a5 a6 a7 a8 a9 a10), h2.2.1.trans h1.2.1, h2.2.2.1.trans h1.2.2.1, h2.2.2.2.trans h1.2.2.2⟩
theorem SF_SD {N A : mM} (h : SF N A) (k : SD2 N) : SD2 A := by
  obtain ⟨h1, h2, h3, h4⟩ := h
  have e0 := h1 0 (by decide) (by decide) (by decide) (by decide) (by decide) (by decide) (by decide) (by decide) (by decide) (by decide)
  have e5 := h1 5 (by decide) (by decide) (by decide) (by decide) (by decide) (by decide) (by decide) (by decide) (by decide) (by decide)
  have e21 := h1 21 (by decide) (by decide) (by decide) (by decide) (by decide) (by decide) (by decide) (by decide) (by decide) (by decide)
  have e22 := h1 22 (by decide) (by decide) (by decide) (by decide) (by decide) (by decide) (by decide) (by decide) (by decide) (by decide)
  unfold SD2
  rw [lv_p e0 h2, rwi_p h2, e5, e21, e22, h3, h4]
  exact k
theorem rsr_F {t c : Nat} {M : mM} (h1 : c ≠ 9) (h2 : c ≠ 24) (h3 : c ≠ 25) : (rsr t M).1 c = M.1 c ∧ (rsr t M).2.2 = M.2.2 := by
  unfold rsr
  split
  · exact ⟨rfl, rfl⟩
  · exact ⟨rsn_I h1 h2 h3, rsn_Z⟩
theorem toI_F {t : Nat} {v : Int32} {N : mM} : SF N (toI (1 + t) v N.1, N.2) := ⟨fun c _ _ _ _ _ h6 h7 h8 h9 h10 => funext (fun j => toI_o (by omega)), (show toI (1 + t) v N.1 11 0 = N.1 11 0 from toI_o (by omega)), (show toI (1 + t) v N.1 16 0 = N.1 16 0 from toI_o (by omega)), rfl⟩
theorem sr_F {t : Nat} {N : mM} : SF N (rsr t N) := ⟨fun c h1 h2 h3 _ _ _ _ _ _ _ => (rsr_F h1 h2 h3).1, by rw [(rsr_F (by decide) (by decide) (by decide)).1], by rw [(rsr_F (by decide) (by decide) (by decide)).1], (rsr_F (c := 0) (by decide) (by decide) (by decide)).2⟩
theorem sh_F {t : Nat} {r : Nat → Int32} {N : mM} : SF N (mshw t r N.1, N.2) := ⟨fun c _ _ _ h4 h5 _ _ _ _ _ => mshw_I h4 h5, by show mshw t r N.1 11 0 = _; rw [mshw_I (by decide) (by decide)], by show mshw t r N.1 16 0 = _; rw [mshw_I (by decide) (by decide)], rfl⟩
theorem toT_F {t : Nat} {N : mM} : SF N (toT t N) := by
  unfold toT
  split
  · exact SF_trans toI_F sr_F
  · split
    · exact SF_trans toI_F (sh_F (N := (toI (1 + t) 0 N.1, N.2)))
    · exact toI_F
theorem toT_s {t : Nat} {N : mM} : (toT t N).1 11 (1 + t) = nI (ohn N.1 (1 + t)) ∧ (toT t N).1 12 (1 + t) = -1 ∧ (toT t N).1 13 (1 + t) = 0 ∧ ∀ c j, j ≠ 1 + t → c = 11 ∨ c = 12 ∨ c = 13 → (toT t N).1 c j = N.1 c j := by
  obtain ⟨s1, s2, s3, -⟩ := toI_s (k := 1 + t) (v := 2) (I := N.1)
  obtain ⟨u1, u2, u3, -⟩ := toI_s (k := 1 + t) (v := 0) (I := N.1)
  unfold toT
  split
  · have h : ∀ c, c ≠ 9 → c ≠ 24 → c ≠ 25 → (rsr t (toI (1 + t) 2 N.1, N.2)).1 c = toI (1 + t) 2 N.1 c := fun c h1 h2 h3 => (rsr_F h1 h2 h3).1
    rw [h 11 (by decide) (by decide) (by decide), h 12 (by decide) (by decide) (by decide), h 13 (by decide) (by decide) (by decide)]
    refine ⟨s1, s2, s3, fun c j hj hc => ?_⟩
    rw [h c (by omega) (by omega) (by omega)]
    exact toI_o (by omega)
  · split
    · have h : ∀ c, c ≠ 18 → c ≠ 19 → mshw t (N.2.2 (rwo N.1 (1 + t))).1 (toI (1 + t) 0 N.1) c = toI (1 + t) 0 N.1 c := fun c h1 h2 => mshw_I h1 h2
      refine ⟨?_, ?_, ?_, fun c j hj hc => ?_⟩
      · exact (congrFun (h 11 (by decide) (by decide)) _).trans u1
      · exact (congrFun (h 12 (by decide) (by decide)) _).trans u2
      · exact (congrFun (h 13 (by decide) (by decide)) _).trans u3
      · exact (congrFun (h c (by omega) (by omega)) _).trans (toI_o (by omega))
    · exact ⟨u1, u2, u3, fun c j hj hc => toI_o (by omega)⟩
/-- the first part, for a terminal -/
theorem SA {Y t p : Nat} {N : mM} (k : MID Y N) (ht : t < 2) (hp : p < 4) (h0 : N.1 0 p = 0) : rdA (1 + t) p N = mdA (1 + t) p N ∧ MID (Y + 1) (mdA (1 + t) p N) ∧ SF N (mdA (1 + t) p N) ∧ ¬ (mdA (1 + t) p N).1 11 (1 + t) = nI p ∧ (∀ c j, j ≠ 1 + t → c = 11 ∨ c = 12 ∨ c = 13 → (mdA (1 + t) p N).1 c j = N.1 c j) ∧ CHG N.1 (mdA (1 + t) p N).1 (1 + t) := by
  unfold rdA mdA
  by_cases c1 : N.1 11 (1 + t) = nI p
  · rw [if_pos c1, if_pos c1]
    obtain ⟨a1, a2, a3, a4, a5, a6, a7, a8⟩ := k.2.2.1 (1 + t) (by omega)
    have hn1 : ¬ N.1 11 (1 + t) = -1 := fun z => nI_m1 hp (c1.symm.trans z)
    obtain ⟨p1, p2, p3, p4, p5, -⟩ := prk_n (by omega) a1 hn1
    have hpp : pn N.1 (1 + t) = p := (nI_eq (by omega) (by omega)).mp (p4.symm.trans c1)
    have hl : lv N.1 (1 + t) = false := by
      cases z : lv N.1 (1 + t) with
      | false => rfl
      | true =>
        have := (lv_up z).2
        rw [hpp, h0] at this
        exact absurd rfl this
    unfold mrpl
    by_cases c2 : ¬ N.1 12 (1 + t) = -1 ∧ ¬ N.1 0 (ohn N.1 (1 + t)) = 0
    · have eb : (N.1 12 (1 + t)).toNatClampNeg = ohn N.1 (1 + t) := bk_oh (a5 c2.1).2.2.2
      rw [eb, if_pos c2, if_pos c2, if_neg (by omega), show 1 + t - 1 = t by omega]
      obtain ⟨z1, z2, z3⟩ := toT_m k ht hp h0 c1 c2.1 c2.2
      obtain ⟨s1, s2, s3, s4⟩ := toT_s (t := t) (N := N)
      rw [z1, z2]
      exact ⟨rfl, z3, toT_F, by rw [s1]; exact fun z => p3 (hpp.trans ((nI_eq (by omega) (by omega)).mp z).symm), s4, Or.inr ⟨s2, s3, Or.inr (Or.inr ⟨ohn N.1 (1 + t), p2, s1, c2.2⟩)⟩⟩
    · rw [if_neg c2, if_neg (fun z => c2 ⟨z.1, by rw [← bk_oh (a5 z.1).2.2.2]; exact z.2⟩)]
      obtain ⟨I, Q, Z⟩ := N
      rw [dr_m (a7 hl) (fun e => by omega)]
      have kD := MID_dr k (by omega) hp h0 c1
      have hk : ¬ 1 + t = 0 := by omega
      have oth : ∀ c j, ¬ (j = 1 + t ∧ (c = 11 ∨ c = 12 ∨ c = 13 ∨ c = 16 ∨ c = 40)) → drI (1 + t) I c j = I c j := fun c j h => by
        unfold drI mstI
        rw [if_neg hk]
        simp only [uI]
        rw [if_neg (by omega), if_neg (by omega), if_neg (by omega), if_neg (by omega), if_neg (by omega)]
      refine ⟨rfl, MID_X (Nat.le_succ Y) kD, ⟨fun c _ _ _ _ _ h6 h7 h8 h9 h10 => funext (fun j => oth c j (by omega)), oth 11 0 (by omega), oth 16 0 (by omega), rfl⟩, ?_, fun c j hj _ => oth c j (by omega), Or.inr ⟨?_, ?_, Or.inr (Or.inl ?_)⟩⟩
      have : drI (1 + t) I 11 (1 + t) = -1 := by
        unfold drI
        rw [mstI_k hk (by decide), uI_c (by decide), uI_c (by decide), uI_c (by decide), uI_s]
      show ¬ drI (1 + t) I 11 (1 + t) = nI p
      rw [this]
      exact fun z => nI_m1 hp z.symm
      · show drI (1 + t) I 12 (1 + t) = -1
        unfold drI
        rw [mstI_k hk (by decide), uI_c (by decide), uI_c (by decide), uI_s]
      · show drI (1 + t) I 13 (1 + t) = 0
        unfold drI
        rw [mstI_k hk (by decide), uI_c (by decide), uI_s]
      · show drI (1 + t) I 11 (1 + t) = -1
        unfold drI
        rw [mstI_k hk (by decide), uI_c (by decide), uI_c (by decide), uI_c (by decide), uI_s]
  · rw [if_neg c1, if_neg c1]
    exact ⟨rfl, MID_X (Nat.le_succ Y) k, SF_refl N, c1, fun _ _ _ _ => rfl, CHG_refl⟩
