/-! states on the way to a rest: what the reference's own order runs through -/
theorem MID_fd {X d : Nat} {M : mM} (km : MID X M) (hd : d < 2) : MID X (uI (uI (if us M.1 (1 - d) = true then uI M.1 5 d 0 else M.1) 4 d 0) 6 d 0, M.2) := by
  have en : uI (uI (if us M.1 (1 - d) = true then uI M.1 5 d 0 else M.1) 4 d 0) 6 d 0 = mdsI M.1 d := by
    unfold mdsI
    split
    · rw [uI_x (c := 5) (c' := 4) (by decide)]
    · rfl
  rw [en]
  have k2 := km.2.1
  obtain ⟨N, eN⟩ : ∃ N, N = mdsI M.1 d := ⟨_, rfl⟩
  have f : ∀ c, c ≠ 4 → c ≠ 5 → c ≠ 6 → N c = M.1 c := fun c h1 h2 h3 => by
    rw [eN]
    unfold mdsI
    rw [uI_f h3]
    split
    · rw [uI_f h2, uI_f h1]
    · rw [uI_f h1]
  have f4 : ∀ e, N 4 e = if e = d then 0 else M.1 4 e := fun e => by
    rw [eN]
    unfold mdsI
    rw [uI_c (by decide)]
    by_cases ce : e = d
    · subst ce
      rw [if_pos rfl]
      split
      · rw [uI_c (by decide), uI_s]
      · rw [uI_s]
    · rw [if_neg ce]
      split
      · rw [uI_j ce, uI_j ce]
      · rw [uI_j ce]
  have f5 : ∀ e, N 5 e = if e = d ∧ us M.1 (1 - d) = true then 0 else M.1 5 e := fun e => by
    rw [eN]
    unfold mdsI
    rw [uI_c (by decide)]
    by_cases cu : us M.1 (1 - d) = true
    · rw [if_pos cu]
      by_cases ce : e = d
      · subst ce
        rw [if_pos ⟨rfl, cu⟩, uI_s]
      · rw [if_neg (fun z => ce z.1), uI_j ce, uI_j ce]
    · rw [if_neg cu, if_neg (fun z => cu z.2), uI_c (by decide)]
  have f6 : ∀ e, N 6 e = if e = d then 0 else M.1 6 e := fun e => by
    rw [eN]
    unfold mdsI
    by_cases ce : e = d
    · subst ce
      rw [if_pos rfl, uI_s]
    · rw [if_neg ce, uI_j ce]
      split
      · rw [uI_j ce, uI_j ce]
      · rw [uI_j ce]
  have hne : 1 - d ≠ d := by omega
  have cas : ∀ e, e < 2 → e = d ∨ e = 1 - d := fun e he => by omega
  have k2N : K2 N := by
    obtain ⟨c1, c2, c3⟩ := k2
    refine ⟨fun e he => ?_, fun z1 z2 => ?_, ?_⟩
    · obtain ⟨b1, b2, b3, b4⟩ := c1 e he
      rw [f 3 (by decide) (by decide) (by decide), f4, f5, f6]
      refine ⟨b1, ?_, ?_, fun z => ?_⟩
      · split
        · exact Or.inl rfl
        · exact b2
      · split
        · exact Or.inl rfl
        · exact b3
      · by_cases ce : e = d
        · rw [if_pos ce]
          exact ⟨0, by omega, rfl⟩
        · rw [if_neg (fun y => ce y.1)] at z
          rw [if_neg ce]
          exact b4 z
    · exfalso
      have h : ∀ e, e < 2 → N 5 e = 1 := fun e he => by
        have : e = 0 ∨ e = 1 := by omega
        rcases this with rfl | rfl
        · exact z1
        · exact z2
      have hd5 := h d hd
      rw [f5] at hd5
      have hu : ¬ us M.1 (1 - d) = true := fun z => by
        rw [if_pos ⟨rfl, z⟩] at hd5
        exact absurd hd5 (by decide)
      rw [if_neg (fun z => hu z.2)] at hd5
      have ho5 := h (1 - d) (by omega)
      rw [f5, if_neg (fun z => hne z.1)] at ho5
      have : M.1 4 (1 - d) = 1 := by
        have hh : M.1 5 0 = 1 ∧ M.1 5 1 = 1 := by
          have : d = 0 ∨ d = 1 := by omega
          rcases this with rfl | rfl
          · exact ⟨hd5, ho5⟩
          · exact ⟨ho5, hd5⟩
        have : d = 0 ∨ d = 1 := by omega
        rcases this with rfl | rfl
        · exact (c2 hh.1 hh.2).2
        · exact (c2 hh.1 hh.2).1
      exact hu (by simp [us, this, ho5])
    · by_cases cu : us M.1 (1 - d) = true
      · have h5 := (us_5 ⟨c1, c2, c3⟩ (by omega) cu).2
        have : N 5 (1 - d) = 1 := by rw [f5, if_neg (fun z => hne z.1)]; exact h5
        have hdd : d = 0 ∨ d = 1 := by omega
        rcases hdd with rfl | rfl
        · exact Or.inr this
        · exact Or.inl this
      · rw [f5, f5, if_neg (fun z => cu z.2), if_neg (fun z => cu z.2)]
        exact c3
  have kN : MID X (N, M.2) := by
    refine MID_456 km f k2N (fun e he z => ?_) (fun e he z5 z4 q eq j hj hq => ?_)
    · rw [f5] at z
      split at z
      · exact absurd z (by decide)
      · exact z
    · rw [dsk_c (f 7 (by decide) (by decide) (by decide)), dsk_c (f 7 (by decide) (by decide) (by decide))]
      rcases cas e he with ce | ce
      · rw [f4, if_pos ce] at z4
        exact absurd z4 (by decide)
      · have hed : e ≠ d := by omega
        rw [f4, if_neg hed] at z4
        rw [f5, if_neg (fun z => hed z.1)] at z5
        rw [f6, if_neg hed] at eq
        exact km.2.2.2.2.2.2.2.2.2.2 e he z5 z4 q eq j hj hq
  rw [← eN]
  exact kN
theorem MID_rdk {X d : Nat} {M : mM} (km : MID X M) (hd : d < 2) (c : M.1 4 d = 0) : MID X (uI (uI M.1 4 d 1) 6 d 0, M.2) := by
  obtain ⟨N, eN⟩ : ∃ N, N = uI (uI M.1 4 d 1) 6 d 0 := ⟨_, rfl⟩
  rw [← eN]
  have f : ∀ c, c ≠ 4 → c ≠ 5 → c ≠ 6 → N c = M.1 c := fun c h1 h2 h3 => by rw [eN, uI_f h3, uI_f h1]
  have f5 : N 5 = M.1 5 := by rw [eN, uI_f (by decide), uI_f (by decide)]
  have f4 : ∀ e, N 4 e = if e = d then 1 else M.1 4 e := fun e => by
    rw [eN, uI_c (by decide)]
    by_cases ce : e = d
    · subst ce
      rw [if_pos rfl, uI_s]
    · rw [if_neg ce, uI_j ce]
  have f6 : ∀ e, N 6 e = if e = d then 0 else M.1 6 e := fun e => by
    rw [eN]
    by_cases ce : e = d
    · subst ce
      rw [if_pos rfl, uI_s]
    · rw [if_neg ce, uI_j ce, uI_j ce]
  have kN : MID X (N, M.2) := by
    refine MID_456 km f ?_ (fun e he z => by rw [f5] at z; exact z) (fun e he z5 z4 q eq j hj hq => ?_)
    · obtain ⟨c1, c2, c3⟩ := km.2.1
      refine ⟨fun e he => ?_, fun z1 z2 => ?_, by rw [f5]; exact c3⟩
      · obtain ⟨b1, b2, b3, b4⟩ := c1 e he
        rw [f 3 (by decide) (by decide) (by decide), f4, f5, f6]
        refine ⟨b1, ?_, b3, fun z => ?_⟩
        · split
          · exact Or.inr rfl
          · exact b2
        · split
          · exact ⟨0, by omega, rfl⟩
          · exact b4 z
      · rw [f5] at z1 z2
        obtain ⟨y1, y2⟩ := c2 z1 z2
        have : d = 0 ∨ d = 1 := by omega
        rcases this with rfl | rfl
        · rw [c] at y1
          exact absurd y1 (by decide)
        · rw [c] at y2
          exact absurd y2 (by decide)
    · rw [dsk_c (f 7 (by decide) (by decide) (by decide)), dsk_c (f 7 (by decide) (by decide) (by decide))]
      by_cases ce : e = d
      · rw [f6, if_pos ce] at eq
        have : q = 0 := (nI_eq (a := q) (b := 0) (by omega) (by omega)).mp eq.symm
        omega
      · rw [f4, if_neg ce] at z4
        rw [f5] at z5
        rw [f6, if_neg ce] at eq
        exact km.2.2.2.2.2.2.2.2.2.2 e he z5 z4 q eq j hj hq
  exact kN
theorem MID_T0 {X p : Nat} {M : mM} (k : MID X M) (hp : p < 4) (h0 : M.1 0 p = 0) (c1 : M.1 11 0 = nI p) (c2 : ¬ M.1 12 0 = -1) (c3 : ¬ M.1 0 (ohn M.1 0) = 0) : MID (X + 2) (rsa (rto1 (rto0 0 M))) ∧ NU (rsa (rto1 (rto0 0 M))) := by
  obtain ⟨J, Q, Z⟩ := M
  obtain ⟨a1, a2, a3, a4, a5, a6, a7, a8⟩ := k.2.2.1 0 (by omega)
  have hn1 : ¬ J 11 0 = -1 := fun z => nI_m1 hp (c1.symm.trans z)
  obtain ⟨p1, p2, p3, p4, p5, -⟩ := prk_n (I := J) (by omega) a1 hn1
  have hpp : pn J 0 = p := (nI_eq (by omega) (by omega)).mp (p4.symm.trans c1)
  have hl : lv J 0 = false := by
    cases z : lv J 0 with
    | false => rfl
    | true =>
      have z2 := (lv_up z).2
      rw [hpp] at z2
      exact absurd h0 z2
  have h16 := a7 hl
  obtain ⟨h21, h23⟩ := k.2.2.2.2.1.2.2.2.2.1 hl
  obtain ⟨b1, b2, b3, b4⟩ := a5 c2
  have h12 : J 12 0 = nI (ohn J 0) := b4.trans p5
  obtain ⟨v, hv⟩ : ∃ v : Int32, v = (if (Z (rwo J 0)).1 3 = 0 then 0 else 2) := ⟨_, rfl⟩
  obtain ⟨t1, t2, t3, t4⟩ := MID_to0 k hp h0 c1 c2 c3 hv
  have hok : (Z (rwo J 0)).1 3 = 0 ∨ (Z (rwo J 0)).1 3 = 1 ∨ (Z (rwo J 0)).1 3 = 2 := by
    have h01 : rwo J 0 = 0 ∨ rwo J 0 = 1 := by unfold rwo; omega
    rcases h01 with e | e <;> rw [e]
    · exact k.2.2.2.2.2.2.1.1.2.2.2.2.2.1
    · exact k.2.2.2.2.2.2.1.2.1.2.2.2.2.2.1
  rw [to0_r h16 h21 h23 a1 hn1 h12 hok hv]
  have kT := MID_sa t1
  exact ⟨kT, NU_0 kT (fun _ => by rw [rsa_I (by decide) (by decide) (by decide)]; exact ⟨rfl, rfl⟩)⟩
theorem MID_A0 {X p : Nat} {M : mM} (hX : X + 60 < 2 ^ 28) (k : MID X M) (hp : p < 4) (h0 : M.1 0 p = 0) : MID (X + 42) (rdA 0 p M) := by
  unfold rdA
  by_cases c1 : M.1 11 0 = nI p
  · rw [if_pos c1]
    by_cases c2 : ¬ M.1 12 0 = -1 ∧ ¬ M.1 0 (M.1 12 0).toNatClampNeg = 0
    · rw [if_pos c2]
      have hoh : M.1 12 0 = ohI M.1 0 := ((k.2.2.1 0 (by omega)).2.2.2.2.1 c2.1).2.2.2
      obtain ⟨t1, t2⟩ := MID_T0 k hp h0 c1 c2.1 (by rw [← bk_oh hoh]; exact c2.2)
      unfold rto
      rw [if_pos rfl]
      exact MID_X (by omega) (MID_set30 (by omega) t1 t2).1.1
    · rw [if_neg c2]
      exact MID_X (by omega) (MID_dr k (by omega) hp h0 c1)
  · rw [if_neg c1]
    exact MID_X (by omega) k
theorem MID_A {X p k : Nat} {M : mM} (hX : X + 60 < 2 ^ 28) (h : MID X M) (hk : k < 3) (hp : p < 4) (h0 : M.1 0 p = 0) : MID (X + 42) (rdA k p M) := by
  obtain rfl | ⟨t, rfl, ht⟩ : k = 0 ∨ ∃ t, k = 1 + t ∧ t < 2 := by
    by_cases e : k = 0
    · exact Or.inl e
    · exact Or.inr ⟨k - 1, by omega, by omega⟩
  · exact MID_A0 hX h hp h0
  · obtain ⟨s1, s2, -⟩ := SA h ht hp h0
    rw [s1]
    exact MID_X (by omega) s2
theorem MID_B0 {X p : Nat} {M : mM} (k : MID X M) (hp : p < 4) (h0 : M.1 0 p = 0) : MID X (rdB 0 p M) := by
  unfold rdB
  by_cases c : M.1 11 0 = -1 ∨ M.1 11 0 = nI p ∨ ihm 0 p = false ∨ (M.1 12 0 = -1 ∧ M.1 13 0 = 0)
  · rw [if_pos c]
    exact k
  · rw [if_neg c]
    obtain ⟨J, Q, Z⟩ := M
    obtain ⟨a1, a2, a3, a4, a5, a6, a7, a8⟩ := k.2.2.1 0 (by omega)
    have hn1 : ¬ J 11 0 = -1 := fun z => c (Or.inl z)
    have c1 : ¬ J 11 0 = nI p := fun z => c (Or.inr (Or.inl z))
    have hp2 : p < 2 := by
      have z : ¬ ihm 0 p = false := fun z => c (Or.inr (Or.inr (Or.inl z)))
      unfold ihm at z
      rw [if_pos rfl] at z
      simpa using z
    have hoh : ohI J 0 = nI p := by
      have a1' := a1
      unfold prk at a1'
      unfold ohI
      rw [if_pos rfl] at a1' ⊢
      have : p = 0 ∨ p = 1 := by omega
      rcases this with rfl | rfl <;> rcases a1' with z | z | z
      · exact absurd z hn1
      · exact absurd z c1
      · rw [show J 11 0 = 1 from z]; rfl
      · exact absurd z hn1
      · rw [show J 11 0 = 0 from z]; rfl
      · exact absurd z c1
    obtain ⟨p1, p2, p3, p4, p5, -⟩ := prk_n (I := J) (by omega) a1 hn1
    have ho : ohn J 0 = p := (nI_eq (by omega) (by omega)).mp (p5.symm.trans hoh)
    show MID X (rdB1 0 (uI (uI J 12 0 (-1)) 13 0 0, Q, Z))
    rw [ls_r (fun z => (a6 z).2)]
    obtain ⟨v, hv⟩ : ∃ v : Int32, v = (if J 16 0 = 1 then 2 else J 16 0) := ⟨_, rfl⟩
    have hv2 : v = 0 ∨ v = 2 := by
      rw [hv]
      split
      · exact Or.inr rfl
      · rename_i y
        rcases a4 with z | z | z
        · exact Or.inl z
        · exact absurd z y
        · exact Or.inr z
    rw [← hv]
    exact MID_ls (v := v) k (by omega) hp h0 hn1 ho hv2 (fun z => by
      have y : J 16 0 = 0 := a7 z
      rw [hv, if_neg (by rw [y]; decide)]
      exact y) (fun t _ e => by omega) (fun _ hl => by
      rw [hv]
      show ((if J 16 0 = 1 then 2 else J 16 0) = 0 ↔ J 16 0 = 0) ∧ ((if J 16 0 = 1 then 2 else J 16 0) = 2 → J 16 0 = 2 ∨ J 16 0 = 1)
      by_cases y : J 16 0 = 1
      · rw [if_pos y, y]
        exact ⟨⟨fun z => absurd z (by decide), fun z => absurd z (by decide)⟩, fun _ => Or.inr rfl⟩
      · rw [if_neg y]
        exact ⟨Iff.rfl, fun z => Or.inl z⟩)
theorem MID_B {X p k : Nat} {M : mM} (h : MID X M) (hk : k < 3) (hp : p < 4) (h0 : M.1 0 p = 0) : MID (X + 1) (rdB k p M) := by
  obtain rfl | ⟨t, rfl, ht⟩ : k = 0 ∨ ∃ t, k = 1 + t ∧ t < 2 := by
    by_cases e : k = 0
    · exact Or.inl e
    · exact Or.inr ⟨k - 1, by omega, by omega⟩
  · exact MID_X (by omega) (MID_B0 h hp h0)
  · by_cases c1 : M.1 11 (1 + t) = nI p
    · have z : rdB (1 + t) p M = M := if_pos (Or.inr (Or.inl c1))
      rw [z]
      exact MID_X (by omega) h
    · by_cases c2 : p < 2
      · have z : rdB (1 + t) p M = M := if_pos (Or.inr (Or.inr (Or.inl (by
          unfold ihm
          rw [if_neg (by omega)]
          simp
          omega))))
        rw [z]
        exact MID_X (by omega) h
      · obtain ⟨s1, s2, -⟩ := SB h ht (show p = 2 ∨ p = 3 by omega) h0 c1
        rw [s1]
        exact s2
