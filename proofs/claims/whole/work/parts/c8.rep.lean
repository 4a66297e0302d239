theorem KD_of {X p : Nat} {M N : mM} (k : MID X M) (hD : KD M.1) (hp : p < 4) (e1 : N.1 1 = uI M.1 1 p 1 1) (hc : ∀ k, k < 3 → CHG M.1 N.1 k) (hq : ∀ k, k < 3 → ¬ N.1 11 k = nI p ∧ ¬ N.1 12 k = nI p ∧ (N.1 13 k = 1 → ¬ ohI N.1 k = nI p)) : KD N.1 := by
  intro k' hk q hq4 h1
  by_cases e : q = p
  · rw [e]
    exact hq k' hk
  · have hM : M.1 1 q = 1 := by
      rw [e1, uI_j e] at h1
      exact h1
    obtain ⟨d1, d2, d3⟩ := hD k' hk q hq4 hM
    rcases hc k' hk with ⟨a1, a2, a3⟩ | ⟨a1, a2, a3⟩
    · rw [a1, a2, a3, ohI_p a1]
      exact ⟨d1, d2, d3⟩
    · refine ⟨fun z => ?_, fun z => nI_m1 hq4 (z.symm.trans a1), fun z => absurd (a2.symm.trans z) (by decide)⟩
      rcases a3 with c | c | ⟨r, c1, c2, c3⟩
      · exact d1 (c.symm.trans z)
      · exact nI_m1 hq4 (z.symm.trans c)
      · have : r = q := (nI_eq (by omega) (by omega)).mp (c2.symm.trans z)
        subst this
        have h01 := (k.1 r hq4).1.resolve_left c3
        have := (k.1 r hq4).2.2.1 h01
        rw [hM] at this
        exact absurd this (by decide)
theorem rdA_I {k p c : Nat} {M : mM} (hc : c = 0 ∨ c = 1 ∨ c = 2 ∨ c = 3 ∨ c = 8) : (rdA k p M).1 c = M.1 c := by
  have hm : ∀ k (I : sm_I), mstI k I c = I c := fun k I => funext (fun j => mstI_o (by omega))
  have hs : ∀ t (N : mM), (rsr t N).1 c = N.1 c := fun t N => (rsr_F (by omega) (by omega) (by omega)).1
  unfold rdA
  split
  · split
    · unfold rto
      split
      · rw [rset_I (by omega) (by omega) (by omega) (by omega) (by omega) (by omega) (by omega) (by omega) (by omega) (by omega), rsa_I (by omega) (by omega) (by omega)]
        unfold rto1 rto0
        simp only []
        rw [uI_f (by omega), uI_f (by omega), uI_f (by omega), hm, uI_f (by omega), uI_f (by omega), uI_f (by omega), uI_f (by omega)]
      · have h0 : (rto0 k M).1 c = M.1 c := by
          unfold rto0
          simp only []
          rw [hm, uI_f (by omega), uI_f (by omega), uI_f (by omega), uI_f (by omega)]
        unfold rto2
        split
        · rw [hs]
          show uI (rto0 k M).1 16 _ 2 c = _
          rw [uI_f (by omega), h0]
        · split
          · unfold rshw
            show mshw _ _ (rto0 k M).1 c = _
            rw [mshw_I (by omega) (by omega), h0]
          · exact h0
    · show mstI k _ c = _
      rw [hm, uI_f (by omega), uI_f (by omega), uI_f (by omega), uI_f (by omega)]
  · rfl
theorem rdB_I {k p c : Nat} {M : mM} (hc : c = 0 ∨ c = 1 ∨ c = 2 ∨ c = 3 ∨ c = 8) : (rdB k p M).1 c = M.1 c := by
  have hs : ∀ t (N : mM), (rsr t N).1 c = N.1 c := fun t N => (rsr_F (by omega) (by omega) (by omega)).1
  unfold rdB
  split
  · rfl
  · have h0 : (uI (uI M.1 12 k (-1)) 13 k 0) c = M.1 c := by rw [uI_f (by omega), uI_f (by omega)]
    unfold rdB1
    split
    · unfold rgo
      split
      · show uI (uI (uI M.1 12 k (-1)) 13 k 0) 16 0 2 c = _
        rw [uI_f (by omega), h0]
      · split
        · rw [hs]
          show uI (uI (uI M.1 12 k (-1)) 13 k 0) 16 k 2 c = _
          rw [uI_f (by omega), h0]
        · unfold rshw
          show mshw _ _ (uI (uI (uI M.1 12 k (-1)) 13 k 0) 16 k 0) c = _
          rw [mshw_I (by omega) (by omega), uI_f (by omega), h0]
    · exact h0
theorem rdc_I {p c : Nat} {M : mM} (hc : c = 0 ∨ c = 1 ∨ c = 2 ∨ c = 3 ∨ c = 8) : (rdc p M).1 c = uI M.1 1 p 1 c := by
  unfold rdc
  rw [rset_I (by omega) (by omega) (by omega) (by omega) (by omega) (by omega) (by omega) (by omega) (by omega) (by omega), rdB_I hc, rdB_I hc, rdB_I hc, rdA_I hc, rdA_I hc, rdA_I hc]
/-- what declaring a processor gives -/
theorem DC {X p : Nat} {M : mM} (hX : X + 60 < 2 ^ 28) (k : INV X M) (hD : KD M.1) (hp : p < 4) (h0 : M.1 0 p = 0) : rdc p M = mset 10 (mdc p M) ∧ INV (X + 44) (rdc p M) ∧ KD (rdc p M).1 ∧ DCH p M ∧ SI (mdc p M) := by
  by_cases c : p < 2
  · obtain ⟨a1, a2, a3, a4, a5, a6, a7⟩ := DC0 hX k c h0
    refine ⟨a1, INV_X (by omega) a2, ?_, a3, a4⟩
    have e := fun c hc => a5 c hc
    refine KD_of (X := X) k.1 hD hp (rdc_I (Or.inr (Or.inl rfl))) (fun k' hk' => ?_) (fun k' hk' => ?_)
    · have := a7 k' hk'
      unfold CHG at this ⊢
      rw [e 11 (by omega), e 12 (by omega), e 13 (by omega)]
      exact this
    · rw [e 11 (by omega), e 12 (by omega), e 13 (by omega), ohI_c (I := (mdc p M).1) (e 11 (by omega))]
      by_cases z : k' = 0
      · subst z
        exact a6
      · have hpr := a2.1.2.2.1 k' hk'
        obtain ⟨t, rfl⟩ : ∃ t, k' = 1 + t := ⟨k' - 1, by omega⟩
        have n1 := prk_0 c hpr.1
        rw [ohI_c (I := (mdc p M).1) (e 11 (by omega)), e 11 (by omega)] at n1
        refine ⟨n1.1, fun y => ?_, fun _ => n1.2⟩
        have w : ¬ (rdc p M).1 12 (1 + t) = -1 := by rw [e 12 (by omega), y]; exact nI_m1 hp
        have := (hpr.2.2.2.2.1 w).2.2.2
        rw [e 12 (by omega), ohI_c (I := (mdc p M).1) (e 11 (by omega))] at this
        exact n1.2 (this.symm.trans y)
  · have hp2 : p = 2 ∨ p = 3 := by omega
    obtain ⟨a1, a2, a3, a4, a5, a6, a7⟩ := DC1 hX k hp2 h0
    refine ⟨a1, a2, ?_, a3, a4⟩
    have e := fun c hc => a5 c hc
    refine KD_of (X := X) k.1 hD hp (rdc_I (Or.inr (Or.inl rfl))) (fun k' hk' => ?_) (fun k' hk' => ?_)
    · have := a7 k' hk'
      unfold CHG at this ⊢
      rw [e 11 (by omega), e 12 (by omega), e 13 (by omega)]
      exact this
    · rw [e 11 (by omega), e 12 (by omega), e 13 (by omega), ohI_c (I := (mdc p M).1) (e 11 (by omega))]
      by_cases z : k' = 0
      · subst z
        have hpr := a2.1.2.2.1 0 hk'
        have n1 := prk_3 hp2 hpr.1
        rw [ohI_c (I := (mdc p M).1) (e 11 (by omega)), e 11 (by omega)] at n1
        refine ⟨n1.1, fun y => ?_, fun _ => n1.2⟩
        have w : ¬ (rdc p M).1 12 0 = -1 := by rw [e 12 (by omega), y]; exact nI_m1 hp
        have := (hpr.2.2.2.2.1 w).2.2.2
        rw [e 12 (by omega), ohI_c (I := (mdc p M).1) (e 11 (by omega))] at this
        exact n1.2 (this.symm.trans y)
      · obtain ⟨t, rfl⟩ : ∃ t, k' = 1 + t := ⟨k' - 1, by omega⟩
        exact a6 t (by omega)
/-- a processor is repaired -/
theorem INV_rp {X p : Nat} {M : mM} (hX : X + 60 < 2 ^ 28) (k : INV X M) (hD : KD M.1) (hp : p < 4) : rrr0 p M = mrr0 p M ∧ INV (X + 47) (rrr0 p M).2 ∧ KD (rrr0 p M).2.1 ∧ (M.1 0 p = 0 → M.1 1 p = 0 → DCH p M ∧ SI (mdc p M)) ∧ (M.1 0 p = 0 → ∀ k, k < 3 → ¬ (if M.1 1 p = 0 then mset 10 (mdc p M) else M).1 11 k = nI p) := by
  unfold rrr0 mrr0
  by_cases c : M.1 0 p = 0
  · rw [if_pos c, if_pos c]
    have key : ∃ R, (if M.1 1 p = 0 then rdc p M else M) = R ∧ (if M.1 1 p = 0 then mset 10 (mdc p M) else M) = R ∧ INV (X + 44) R ∧ KD R.1 ∧ R.1 0 p = 0 ∧ R.1 1 p = 1 ∧ (M.1 1 p = 0 → DCH p M ∧ SI (mdc p M)) := by
      by_cases c1 : M.1 1 p = 0
      · obtain ⟨a1, a2, a3, a4, a5⟩ := DC hX k hD hp c
        refine ⟨rdc p M, if_pos c1, by rw [if_pos c1, a1], a2, a3, ?_, ?_, fun _ => ⟨a4, a5⟩⟩
        · rw [rdc_I (Or.inl rfl)]
          exact c
        · rw [rdc_I (Or.inr (Or.inl rfl))]
          exact uI_s
      · exact ⟨M, if_neg c1, if_neg c1, INV_X (by omega) k, hD, c, (k.1.1 p hp).2.1.resolve_left c1, fun z => absurd z c1⟩
    obtain ⟨R, e1, e2, kR, dR, r0, r1, hh⟩ := key
    rw [e1, e2]
    obtain ⟨kU, dU⟩ := INV_up kR dR hp r0 r1
    obtain ⟨U, eU⟩ : ∃ U : mM, U = (uI (uI R.1 0 p 1) 1 p 0, R.2) := ⟨_, rfl⟩
    have kU' : INV (X + 44) U := by rw [eU]; exact kU
    have dU' : KD U.1 := by rw [eU]; exact dU
    have uU : U.1 0 p = 1 := by
      rw [eU]
      show uI (uI R.1 0 p 1) 1 p 0 0 p = 1
      rw [uI_c (by decide), uI_s]
    have eq0 := sq_e kU' (by omega : 0 < 3) hp
    obtain ⟨b1, b2, b3⟩ := INV_sq (k := 0) (by omega) kU' dU' (by omega) hp uU
    have u1 : (msq 0 p U).1 0 p = 1 := by rw [b3]; exact uU
    have eq1 := sq_e b1 (by omega : 1 < 3) hp
    obtain ⟨c1, c2, c3⟩ := INV_sq (k := 1) (by omega) b1 b2 (by omega) hp u1
    have u2 : (msq 1 p (msq 0 p U)).1 0 p = 1 := by rw [c3]; exact u1
    have eq2 := sq_e c1 (by omega : 2 < 3) hp
    obtain ⟨d1, d2, d3⟩ := INV_sq (k := 2) (by omega) c1 c2 (by omega) hp u2
    have er : rrp0 p R = mspr p R := by
      unfold rrp0 mspr
      show rrq 2 p (rrq 1 p (rrq 0 p (uI (uI R.1 0 p 1) 1 p 0, R.2))) = msq 2 p (msq 1 p (msq 0 p (uI (uI R.1 0 p 1) 1 p 0, R.2)))
      rw [← eU, eq0, eq1, eq2]
    have em : mspr p R = msq 2 p (msq 1 p (msq 0 p U)) := by
      rw [eU]
      rfl
    rw [er]
    refine ⟨rfl, by rw [em]; exact d1, by rw [em]; exact d2, fun _ => hh, fun _ k' hk' => (dR k' hk' p hp r1).1⟩
  · rw [if_neg c, if_neg c]
    exact ⟨rfl, INV_X (by omega) k, hD, fun z => absurd z c, fun z => absurd z c⟩
