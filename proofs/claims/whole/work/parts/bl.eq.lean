theorem SM_beg {M : mM} {n t : Nat} (k : SM M) (h0 : M.1 16 0 = 0) (en : M.1 21 0 = nI n) (hn1 : 1 ≤ n) (hn8 : n ≤ 8) (ht : t < 2) (q0 : M.1 20 0 = nI t) : SM (mbeg M) ∧ (mbeg M).1 21 0 = nI (n - 1) := by
  obtain ⟨k0, a1, a2, a3, a4, a5, a6⟩ := k
  have hs : ¬ M.1 21 0 = 0 := by
    rw [en]
    intro z
    have := (nI_eq (a := n) (b := 0) (by omega) (by omega)).mp z
    omega
  have ec : ∀ c, c ≠ 9 → c ≠ 24 → c ≠ 25 → c ≠ 15 → c ≠ 14 → c ≠ 16 → c ≠ 22 → c ≠ 20 → c ≠ 21 → (mbeg M).1 c = M.1 c := fun c h1 h2 h3 h4 h5 h6 h7 h8 h9 => by rw [mbeg_I h1 h2 h3 h4 h5 h6 h7, msh_o h8 h9]
  have e11 := ec 11 (by decide) (by decide) (by decide) (by decide) (by decide) (by decide) (by decide) (by decide) (by decide)
  have e12 := ec 12 (by decide) (by decide) (by decide) (by decide) (by decide) (by decide) (by decide) (by decide) (by decide)
  have e13 := ec 13 (by decide) (by decide) (by decide) (by decide) (by decide) (by decide) (by decide) (by decide) (by decide)
  have e23 := ec 23 (by decide) (by decide) (by decide) (by decide) (by decide) (by decide) (by decide) (by decide) (by decide)
  have e21 : (mbeg M).1 21 0 = nI (n - 1) := by
    rw [mbeg_I (by decide) (by decide) (by decide) (by decide) (by decide) (by decide) (by decide)]
    simp [msh, stn_eq en hn8]
  have ebt : mbt M = t := by
    unfold mbt mbq
    rw [q0]
    exact nI_clamp (by omega)
  have h23 : M.1 23 0 = 0 := by
    by_cases c : M.1 23 0 = 0
    · exact c
    · have := (a3 c).1
      rw [h0] at this
      exact absurd this (by decide)
  have hwl : ((mbeg M).2.2 (rwi (mbeg M).1 0)).2.2.length < 2 ^ 20 := by
    rw [rwi_c e11]
    rcases mbeg_Z (M := M) with z | z
    · rw [z]; exact a6
    · rw [z, uZ_s]
      have := OC_wl k0.2.2.2.2 (OC_mps (q := mbq M) (ebt ▸ ht : mbt M < 2) k0.2.2.2.2)
      omega
  refine ⟨⟨SI_beg k0 h0 hs en hn1 hn8 ht q0, ?_, fun t ht z => ?_, fun z => ?_, fun z d hd hu => ?_, ⟨n - 1, by omega, e21⟩, hwl⟩, e21⟩
  · rw [e12, e13, show ohI (mbeg M).1 0 = ohI M.1 0 by unfold ohI; rw [e11]]; exact a1
  · rw [mbeg_161] at z
    have := a2 t ht z
    unfold row1
    rw [rwi_c e11]
    rcases mbeg_Z (M := M) with y | y
    · rw [y]; exact this
    · rw [y, uZ_n rwi_ne]; exact this
  · rw [e23] at z
    exact absurd h23 z
  · refine ⟨0, Nat.zero_le _, ?_⟩
    have hd2 : d = 0 ∨ d = 1 := by omega
    by_cases c1 : mord (row1 M 0) (mbq M) (mbt M) = 0
    · exfalso
      rw [mbeg_c1 c1, mrp_I (by decide) (by decide) (by decide)] at z
      change msh M.1 16 0 = 2 at z
      rw [msh_o (by decide) (by decide), h0] at z
      exact absurd z (by decide)
    · by_cases c2 : mord (row1 M 0) (mbq M) (mbt M) ≤ 0
      · exfalso
        rw [mbeg_c2 c1 c2] at z
        change msh M.1 16 0 = 2 at z
        rw [msh_o (by decide) (by decide), h0] at z
        exact absurd z (by decide)
      · unfold mbeg
        rw [if_neg c1, if_neg c2]
        have e : (mtl 0 (mbp M)).1 22 d = nI 0 := by
          rw [mtl_I (by decide) (by decide) (by decide) (by decide) (by decide) (by decide)]
          rcases hd2 with rfl | rfl <;> rfl
        split
        · exact e
        · exact e
theorem e_raw1 {I : sm_I} {d n : Nat} (hn : n < 2 ^ 20) (h : us I d = true → ∃ g, g ≤ n ∧ I 22 d = nI g) : raw1 I (nI n) d = (!us I d || decide (¬ I 22 d < nI n)) := by
  unfold raw1
  cases hu : us I d with
  | false => rfl
  | true =>
    obtain ⟨g, g1, g2⟩ := h hu
    simp only [Bool.not_true, Bool.false_or]
    rw [g2]
    by_cases c : g = n
    · subst c
      simp
    · have h1 : ¬ nI g = nI n := fun z => c ((nI_eq (by omega) (by omega)).mp z)
      have h2 : nI g < nI n := Int32.not_le.mp (nI_ge (by omega) (by omega))
      simp [h1, h2]
theorem e_raw {M : mM} (k : SM M) (h2 : M.1 16 0 = 2) : raw M = mha M := by
  obtain ⟨k0, a1, a2, a3, a4, a5, a6⟩ := k
  have b := a4 h2
  unfold raw mha
  generalize (M.2.2 (rwi M.1 0)).2.2.length = n at *
  have r0 := e_raw1 (I := M.1) (d := 0) a6 (b 0 (by omega))
  have r1 := e_raw1 (I := M.1) (d := 1) a6 (b 1 (by omega))
  rw [r0, r1]
  unfold hall
  cases h0 : us M.1 0 with
  | false =>
    cases h1 : us M.1 1 with
    | false => simp
    | true =>
      obtain ⟨g, g1, g2⟩ := b 1 (by omega) h1
      by_cases c : n = 0
      · subst c
        have : g = 0 := by omega
        subst this
        simp [g2, nI]
      · have hc : ¬ nI n = 0 := fun z => c ((nI_eq (a := n) (b := 0) (by omega) (by omega)).mp z)
        simp [hc]
  | true =>
    obtain ⟨g, g1, g2⟩ := b 0 (by omega) h0
    by_cases c : n = 0
    · subst c
      have : g = 0 := by omega
      subst this
      cases h1 : us M.1 1 with
      | false => simp [g2, nI]
      | true =>
        obtain ⟨g', g1', g2'⟩ := b 1 (by omega) h1
        have : g' = 0 := by omega
        subst this
        simp [g2, g2', nI]
    · have hc : ¬ nI n = 0 := fun z => c ((nI_eq (a := n) (b := 0) (by omega) (by omega)).mp z)
      cases h1 : us M.1 1 with
      | false =>
        by_cases c3 : M.1 22 0 < nI n
        · simp [hc, c3]
        · simp [hc, c3]
      | true =>
        by_cases c3 : M.1 22 0 < nI n
        · simp [hc, c3]
        · simp [hc, c3]
theorem rset_s {n : Nat} {M : mM} : rset (n + 1) M = if lv M.1 0 = true ∧ ((M.1 16 0 = 2 ∧ raw M = true) ∨ (M.1 16 0 = 0 ∧ 0 < M.1 21 0)) then (if M.1 16 0 = 2 then rset n (rfin M) else rset n (rbeg M)) else M := rfl
theorem mset_s {n : Nat} {M : mM} : mset (n + 1) M = if (mru M).1 16 0 = 0 ∧ ¬ (mru M).1 21 0 = 0 then mset n (mbeg (mru M)) else mru M := rfl
theorem nI_p0 {n : Nat} (hn : n ≤ 8) : (0 < nI n ↔ ¬ n = 0) ∧ (nI n = 0 ↔ n = 0) := by
  have h : n = 0 ∨ n = 1 ∨ n = 2 ∨ n = 3 ∨ n = 4 ∨ n = 5 ∨ n = 6 ∨ n = 7 ∨ n = 8 := by omega
  rcases h with rfl | rfl | rfl | rfl | rfl | rfl | rfl | rfl | rfl <;> exact ⟨by decide, by decide⟩
/-- the store settles alike -/
theorem e_set : ∀ n M a b, SM M → lv M.1 0 = true → M.1 21 0 = nI n → n ≤ 8 → n + 1 ≤ a → 2 * n + 2 ≤ b → mset a M = rset b M := by
  intro n
  induction n with
  | zero =>
    intro M a b k hl e21 hn8 ha hb
    obtain ⟨a, rfl⟩ : ∃ y, a = y + 1 := ⟨a - 1, by omega⟩
    obtain ⟨b, rfl⟩ : ∃ y, b = y + 2 := ⟨b - 2, by omega⟩
    rw [mset_s]
    have z0 : ∀ N : mM, N.1 21 0 = nI 0 → rset (b + 1) N = if lv N.1 0 = true ∧ (N.1 16 0 = 2 ∧ raw N = true) then (if N.1 16 0 = 2 then rset b (rfin N) else rset b (rbeg N)) else N := fun N eN => by
      rw [rset_s]
      have : ¬ (0 < N.1 21 0) := by rw [eN]; decide
      by_cases c : lv N.1 0 = true ∧ (N.1 16 0 = 2 ∧ raw N = true)
      · rw [if_pos c, if_pos ⟨c.1, Or.inl c.2⟩]
      · rw [if_neg c, if_neg (fun y => c ⟨y.1, y.2.elim id (fun x => absurd x.2 this)⟩)]
    have e210 : M.1 21 0 = 0 := e21
    rw [rset_s]
    by_cases c : M.1 16 0 = 2 ∧ raw M = true
    · have hm : M.1 16 0 = 2 ∧ mha M = true := ⟨c.1, (e_raw k c.1) ▸ c.2⟩
      have er : mru M = mfin M := by unfold mru; rw [if_pos hm]
      have e21f : (mfin M).1 21 0 = nI 0 := by rw [mfin_I (by decide) (by decide) (by decide) (by decide) (by decide) (by decide) (by decide)]; exact e21
      rw [er, if_neg (fun z => z.2 e21f), if_pos ⟨hl, Or.inl c⟩, if_pos c.1, e_fin k c.1, z0 _ e21f, if_neg (fun z => by have := z.2.1; rw [mfin_160] at this; exact absurd this (by decide))]
    · have hm : ¬ (M.1 16 0 = 2 ∧ mha M = true) := fun z => c ⟨z.1, (e_raw k z.1).symm ▸ z.2⟩
      have er : mru M = M := by unfold mru; rw [if_neg hm]
      rw [er, if_neg (fun z => z.2 e210), if_neg (fun z => z.2.elim c (fun y => by have := y.2; rw [e210] at this; exact absurd this (by decide)))]
  | succ n ih =>
    intro M a b k hl e21 hn8 ha hb
    obtain ⟨a, rfl⟩ : ∃ y, a = y + 1 := ⟨a - 1, by omega⟩
    obtain ⟨b, rfl⟩ : ∃ y, b = y + 2 := ⟨b - 2, by omega⟩
    have step : ∀ N : mM, SM N → lv N.1 0 = true → N.1 21 0 = nI (n + 1) → N.1 16 0 = 0 → ∀ b, 2 * n + 2 ≤ b → mset a (mbeg N) = rset (b + 1) N := by
      intro N kN hlN eN h16 b hb
      obtain ⟨t, ht, q0⟩ := kN.1.2.2.1 0 (by rw [stn_eq eN hn8]; omega)
      obtain ⟨kb, eb⟩ := SM_beg kN h16 eN (by omega) hn8 ht q0
      have hlb : lv (mbeg N).1 0 = true := by
        have e0 : (mbeg N).1 0 = N.1 0 := by rw [mbeg_I (by decide) (by decide) (by decide) (by decide) (by decide) (by decide) (by decide), msh_o (by decide) (by decide)]
        have e11 : (mbeg N).1 11 = N.1 11 := by rw [mbeg_I (by decide) (by decide) (by decide) (by decide) (by decide) (by decide) (by decide), msh_o (by decide) (by decide)]
        rw [lv_c e0 e11]; exact hlN
      rw [rset_s, if_pos ⟨hlN, Or.inr ⟨h16, by rw [eN]; exact (nI_p0 hn8).1.mpr (by omega)⟩⟩, if_neg (by rw [h16]; decide), e_beg hlN kN.2.1]
      exact ih (mbeg N) a b kb hlb (by rw [eb]; congr 1) (by omega) (by omega) hb
    have hne : ¬ M.1 21 0 = 0 := by rw [e21]; exact fun z => absurd ((nI_p0 hn8).2.mp z) (by omega)
    rw [mset_s]
    by_cases c : M.1 16 0 = 2 ∧ raw M = true
    · have hm : M.1 16 0 = 2 ∧ mha M = true := ⟨c.1, (e_raw k c.1) ▸ c.2⟩
      have er : mru M = mfin M := by unfold mru; rw [if_pos hm]
      have e21f : (mfin M).1 21 0 = nI (n + 1) := by rw [mfin_I (by decide) (by decide) (by decide) (by decide) (by decide) (by decide) (by decide)]; exact e21
      have hlf : lv (mfin M).1 0 = true := by rw [lv_c (mfin_I (by decide) (by decide) (by decide) (by decide) (by decide) (by decide) (by decide)) (mfin_I (by decide) (by decide) (by decide) (by decide) (by decide) (by decide) (by decide))]; exact hl
      rw [er, if_pos ⟨mfin_160, by rw [e21f, ← e21]; exact hne⟩, rset_s, if_pos ⟨hl, Or.inl c⟩, if_pos c.1, e_fin k c.1]
      exact step _ (SM_fin k c.1) hlf e21f mfin_160 b (by omega)
    · have hm : ¬ (M.1 16 0 = 2 ∧ mha M = true) := fun z => c ⟨z.1, (e_raw k z.1).symm ▸ z.2⟩
      have er : mru M = M := by unfold mru; rw [if_neg hm]
      rw [er]
      by_cases c2 : M.1 16 0 = 0
      · rw [if_pos ⟨c2, hne⟩]
        exact step M k hl e21 c2 (b + 1) (by omega)
      · rw [if_neg (fun z => c2 z.1), rset_s, if_neg (fun z => z.2.elim c (fun y => c2 y.1))]
theorem e_set0 {n b : Nat} {M : mM} (hl : lv M.1 0 = false) (h16 : M.1 16 0 = 0) (h21 : M.1 21 0 = 0) : mset (n + 1) M = rset b M := by
  have e1 : mset (n + 1) M = M := by
    rw [mset_s]
    have er : mru M = M := by unfold mru; rw [if_neg (fun z => by rw [h16] at z; exact absurd z.1 (by decide))]
    rw [er, if_neg (fun z => z.2 h21)]
  rw [e1]
  cases b with
  | zero => rfl
  | succ b => rw [rset_s, if_neg (fun z => by rw [hl] at z; exact absurd z.1 (by decide))]
