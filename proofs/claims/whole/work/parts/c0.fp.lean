/-! a processor fails -/
def mcls (L : List Nat) (M : mM) : mM := L.foldl (fun N l => mclr l N) M
theorem mclr_I {l c : Nat} {M : mM} (h1 : c ≠ 9) (h2 : c ≠ 10) (h3 : c ≠ 24) (h4 : c ≠ 25) : (mclr l M).1 c = M.1 c := by
  show mclI M.1 l c = M.1 c
  unfold mclI
  rw [uI_f h4, uI_f h3, uI_f h2, uI_f h1]
theorem mclr_l {l c j : Nat} {M : mM} (h : j ≠ l) : (mclr l M).1 c j = M.1 c j := by
  show mclI M.1 l c j = M.1 c j
  unfold mclI
  rw [uI_j h, uI_j h, uI_j h, uI_j h]
theorem mclr_s {l : Nat} {M : mM} : (mclr l M).1 9 l = 0 ∧ (mclr l M).1 10 l = 0 ∧ (mclr l M).1 24 l = -1 ∧ (mclr l M).1 25 l = -1 ∧ (mclr l M).2.1 l = [] := by
  show mclI M.1 l 9 l = 0 ∧ mclI M.1 l 10 l = 0 ∧ mclI M.1 l 24 l = -1 ∧ mclI M.1 l 25 l = -1 ∧ uQ M.2.1 l [] l = []
  unfold mclI
  refine ⟨?_, ?_, ?_, ?_, uQs⟩
  · rw [uI_c (by decide), uI_c (by decide), uI_c (by decide), uI_s]
  · rw [uI_c (by decide), uI_c (by decide), uI_s]
  · rw [uI_c (by decide), uI_s]
  · rw [uI_s]
theorem mcls_I {c : Nat} (h1 : c ≠ 9) (h2 : c ≠ 10) (h3 : c ≠ 24) (h4 : c ≠ 25) : ∀ (L : List Nat) (M : mM), (mcls L M).1 c = M.1 c := by
  intro L
  induction L with
  | nil => intro M; rfl
  | cons l L ih =>
    intro M
    show (mcls L (mclr l M)).1 c = _
    rw [ih, mclr_I h1 h2 h3 h4]
theorem mcls_Z : ∀ (L : List Nat) (M : mM), (mcls L M).2.2 = M.2.2 := by
  intro L
  induction L with
  | nil => intro M; rfl
  | cons l L ih => intro M; exact ih (mclr l M)
theorem mcls_n {j : Nat} : ∀ (L : List Nat) (M : mM), j ∉ L → (∀ c, (mcls L M).1 c j = M.1 c j) ∧ (mcls L M).2.1 j = M.2.1 j := by
  intro L
  induction L with
  | nil => intro M _; exact ⟨fun _ => rfl, rfl⟩
  | cons l L ih =>
    intro M h
    have h1 : j ≠ l := fun e => h (by simp [e])
    obtain ⟨a, b⟩ := ih (mclr l M) (fun z => h (by simp [z]))
    refine ⟨fun c => (a c).trans (mclr_l h1), b.trans ?_⟩
    show uQ M.2.1 l [] j = _
    exact uQn h1
theorem mcls_y {j : Nat} : ∀ (L : List Nat) (M : mM), j ∈ L → (mcls L M).1 9 j = 0 ∧ (mcls L M).1 10 j = 0 ∧ (mcls L M).1 24 j = -1 ∧ (mcls L M).1 25 j = -1 ∧ (mcls L M).2.1 j = [] := by
  intro L
  induction L with
  | nil => intro M h; simp at h
  | cons l L ih =>
    intro M h
    by_cases c : j ∈ L
    · exact ih (mclr l M) c
    · have e : j = l := by
        rcases List.mem_cons.mp h with z | z
        · exact z
        · exact absurd z c
      subst e
      obtain ⟨a, b⟩ := mcls_n L (mclr j M) c
      obtain ⟨s1, s2, s3, s4, s5⟩ := mclr_s (l := j) (M := M)
      exact ⟨(a 9).trans s1, (a 10).trans s2, (a 24).trans s3, (a 25).trans s4, b.trans s5⟩
def mlp (p : Nat) : List Nat := [4 * p + 0, 4 * 0 + p, 4 * p + 1, 4 * 1 + p, 4 * p + 2, 4 * 2 + p, 4 * p + 3, 4 * 3 + p]
theorem mlp_m {p l : Nat} (hp : p < 4) (hl : l < 16) : l ∈ mlp p ↔ (l / 4 = p ∨ l % 4 = p) := by
  unfold mlp
  simp only [List.mem_cons, List.not_mem_nil, or_false]
  omega
theorem e_fp {p : Nat} {M : mM} (h : M.1 1 p = 0) : rfp p M = mfp p M := by
  have e : uI (uI (uI M.1 0 p 0) 1 p 0) 2 p 0 = uI (uI M.1 0 p 0) 2 p 0 := by
    rw [uI_id (show (uI M.1 0 p 0) 1 p = 0 by rw [uI_c (by decide)]; exact h)]
  unfold rfp mfp mnst mst0
  rw [e]
theorem mfp_e {p : Nat} {M : mM} : mfp p M = mstp 2 p (mstp 1 p (mstp 0 p (mcls (mlp p) (uI (uI M.1 0 p 0) 2 p 0, M.2)))) := rfl
theorem mstI_o {k c j : Nat} {I : sm_I} (h : c ≠ 16 ∧ c ≠ 21 ∧ c ≠ 23) : mstI k I c j = I c j := by
  unfold mstI
  split
  · rw [uI_c h.2.2, uI_c h.2.1, uI_c h.1]
  · rw [uI_c h.1]
theorem mstI_16 {k j : Nat} {I : sm_I} : mstI k I 16 j = if j = k then 0 else I 16 j := by
  unfold mstI
  by_cases e : j = k
  · subst e
    rw [if_pos rfl]
    split
    · rename_i h
      subst h
      rw [uI_c (by decide), uI_c (by decide), uI_s]
    · rw [uI_s]
  · rw [if_neg e]
    split
    · rename_i h
      subst h
      rw [uI_c (by decide), uI_c (by decide), uI_j e]
    · rw [uI_j e]
theorem mstI_k {k c j : Nat} {I : sm_I} (hk : ¬ k = 0) (h : c ≠ 16) : mstI k I c j = I c j := by
  unfold mstI
  rw [if_neg hk, uI_c h]
theorem mstI_0 {I : sm_I} : mstI 0 I 21 0 = 0 ∧ mstI 0 I 23 0 = 0 := by
  unfold mstI
  rw [if_pos rfl]
  exact ⟨by rw [uI_c (by decide), uI_s], uI_s⟩
theorem mstp_2 {k p : Nat} {M : mM} : (mstp k p M).2 = M.2 := by
  unfold mstp
  split <;> rfl
theorem mstp_o {k p c j : Nat} {M : mM} (h : c ≠ 16 ∧ c ≠ 21 ∧ c ≠ 23) : (mstp k p M).1 c j = M.1 c j := by
  unfold mstp
  split
  · exact mstI_o h
  · rfl
theorem mstp_16 {k p j : Nat} {M : mM} : (mstp k p M).1 16 j = if j = k ∧ M.1 11 k = nI p then 0 else M.1 16 j := by
  unfold mstp
  by_cases c : M.1 11 k = nI p
  · rw [if_pos c]
    show mstI k M.1 16 j = _
    rw [mstI_16]
    by_cases e : j = k
    · rw [if_pos e, if_pos ⟨e, c⟩]
    · rw [if_neg e, if_neg (fun z => e z.1)]
  · rw [if_neg c, if_neg (fun z => c z.2)]
theorem mstp_k {k p c j : Nat} {M : mM} (hk : ¬ k = 0) (h : c ≠ 16) : (mstp k p M).1 c j = M.1 c j := by
  unfold mstp
  split
  · exact mstI_k hk h
  · rfl
theorem mstp_0 {p : Nat} {M : mM} : (M.1 11 0 = nI p → (mstp 0 p M).1 21 0 = 0 ∧ (mstp 0 p M).1 23 0 = 0) ∧ (¬ M.1 11 0 = nI p → mstp 0 p M = M) := by
  unfold mstp
  refine ⟨fun h => ?_, fun h => if_neg h⟩
  rw [if_pos h]
  exact mstI_0 (I := M.1)
theorem INV_fp {X p : Nat} {M : mM} (k : INV X M) (hp : p < 4) (hu : M.1 0 p = 1) : INV X (mfp p M) := by
  obtain ⟨⟨k1, k2, k3, k4, k5, k6, k7, k8, k9, k10, k11⟩, kS⟩ := k
  obtain ⟨C, eC⟩ : ∃ C, C = mcls (mlp p) (uI (uI M.1 0 p 0) 2 p 0, M.2) := ⟨_, rfl⟩
  obtain ⟨N, eN⟩ : ∃ N, N = mfp p M := ⟨_, rfl⟩
  have eNC : N = mstp 2 p (mstp 1 p (mstp 0 p C)) := by rw [eN, mfp_e, ← eC]
  have c0 : ∀ c, c ≠ 9 → c ≠ 10 → c ≠ 24 → c ≠ 25 → C.1 c = uI (uI M.1 0 p 0) 2 p 0 c := fun c h1 h2 h3 h4 => by rw [eC]; exact mcls_I h1 h2 h3 h4 _ _
  have n0 : ∀ c, c ≠ 16 → c ≠ 21 → c ≠ 23 → N.1 c = C.1 c := fun c h1 h2 h3 => by
    funext j
    rw [eNC, mstp_o ⟨h1, h2, h3⟩, mstp_o ⟨h1, h2, h3⟩, mstp_o ⟨h1, h2, h3⟩]
  have nQ : N.2 = C.2 := by rw [eNC, mstp_2, mstp_2, mstp_2]
  have f : ∀ c, c ≠ 9 → c ≠ 10 → c ≠ 24 → c ≠ 25 → c ≠ 16 → c ≠ 21 → c ≠ 23 → c ≠ 0 → c ≠ 2 → N.1 c = M.1 c := fun c h1 h2 h3 h4 h5 h6 h7 h8 h9 => by rw [n0 c h5 h6 h7, c0 c h1 h2 h3 h4, uI_f h9, uI_f h8]
  have f0 : ∀ j, N.1 0 j = if j = p then 0 else M.1 0 j := fun j => by
    rw [n0 0 (by decide) (by decide) (by decide), c0 0 (by decide) (by decide) (by decide) (by decide), uI_c (by decide)]
    by_cases e : j = p
    · subst e
      rw [if_pos rfl, uI_s]
    · rw [if_neg e, uI_j e]
  have f2 : ∀ j, N.1 2 j = if j = p then 0 else M.1 2 j := fun j => by
    rw [n0 2 (by decide) (by decide) (by decide), c0 2 (by decide) (by decide) (by decide) (by decide)]
    by_cases e : j = p
    · subst e
      rw [if_pos rfl, uI_s]
    · rw [if_neg e, uI_j e, uI_c (by decide)]
  have e1 := f 1 (by decide) (by decide) (by decide) (by decide) (by decide) (by decide) (by decide) (by decide) (by decide)
  have e5 := f 5 (by decide) (by decide) (by decide) (by decide) (by decide) (by decide) (by decide) (by decide) (by decide)
  have e7 := f 7 (by decide) (by decide) (by decide) (by decide) (by decide) (by decide) (by decide) (by decide) (by decide)
  have e11 := f 11 (by decide) (by decide) (by decide) (by decide) (by decide) (by decide) (by decide) (by decide) (by decide)
  have e12 := f 12 (by decide) (by decide) (by decide) (by decide) (by decide) (by decide) (by decide) (by decide) (by decide)
  have e13 := f 13 (by decide) (by decide) (by decide) (by decide) (by decide) (by decide) (by decide) (by decide) (by decide)
  have e14 := f 14 (by decide) (by decide) (by decide) (by decide) (by decide) (by decide) (by decide) (by decide) (by decide)
  have e15 := f 15 (by decide) (by decide) (by decide) (by decide) (by decide) (by decide) (by decide) (by decide) (by decide)
  have e17 := f 17 (by decide) (by decide) (by decide) (by decide) (by decide) (by decide) (by decide) (by decide) (by decide)
  have e20 := f 20 (by decide) (by decide) (by decide) (by decide) (by decide) (by decide) (by decide) (by decide) (by decide)
  have e22 := f 22 (by decide) (by decide) (by decide) (by decide) (by decide) (by decide) (by decide) (by decide) (by decide)
  have e40 := f 40 (by decide) (by decide) (by decide) (by decide) (by decide) (by decide) (by decide) (by decide) (by decide)
  have cc11 : C.1 11 = M.1 11 := (n0 11 (by decide) (by decide) (by decide)).symm.trans e11
  have c16 : C.1 16 = M.1 16 := by rw [c0 16 (by decide) (by decide) (by decide) (by decide), uI_f (by decide), uI_f (by decide)]
  have f16 : ∀ j, j < 3 → N.1 16 j = if M.1 11 j = nI p then 0 else M.1 16 j := fun j hj => by
    rw [eNC, mstp_16, mstp_16, mstp_16]
    have h1 : (mstp 0 p C).1 11 1 = M.1 11 1 := by rw [mstp_o ⟨by decide, by decide, by decide⟩, cc11]
    have h2 : (mstp 1 p (mstp 0 p C)).1 11 2 = M.1 11 2 := by rw [mstp_o ⟨by decide, by decide, by decide⟩, mstp_o ⟨by decide, by decide, by decide⟩, cc11]
    rw [h1, h2, cc11, c16]
    have : j = 0 ∨ j = 1 ∨ j = 2 := by omega
    rcases this with rfl | rfl | rfl <;> simp
  have f21 : (M.1 11 0 = nI p → N.1 21 0 = 0 ∧ N.1 23 0 = 0) ∧ (¬ M.1 11 0 = nI p → N.1 21 = M.1 21 ∧ N.1 23 = M.1 23) := by
    have a : ∀ c j, c ≠ 16 → N.1 c j = (mstp 0 p C).1 c j := fun c j h => by rw [eNC, mstp_k (by decide) h, mstp_k (by decide) h]
    refine ⟨fun h => ?_, fun h => ?_⟩
    · rw [a 21 0 (by decide), a 23 0 (by decide)]
      exact mstp_0.1 (by rw [cc11]; exact h)
    · have hC := (mstp_0 (p := p) (M := C)).2 (by rw [cc11]; exact h)
      refine ⟨?_, ?_⟩
      · funext j
        rw [a 21 j (by decide), hC, c0 21 (by decide) (by decide) (by decide) (by decide), uI_c (by decide), uI_c (by decide)]
      · funext j
        rw [a 23 j (by decide), hC, c0 23 (by decide) (by decide) (by decide) (by decide), uI_c (by decide), uI_c (by decide)]
  have ly : ∀ l, l < 16 → (l / 4 = p ∨ l % 4 = p) → N.1 9 l = 0 ∧ N.1 10 l = 0 ∧ N.1 24 l = -1 ∧ N.1 25 l = -1 ∧ N.2.1 l = [] := fun l hl h => by
    obtain ⟨a1, a2, a3, a4, a5⟩ := mcls_y (j := l) (mlp p) (uI (uI M.1 0 p 0) 2 p 0, M.2) ((mlp_m hp hl).mpr h)
    rw [← eC] at a1 a2 a3 a4 a5
    rw [n0 9 (by decide) (by decide) (by decide), n0 10 (by decide) (by decide) (by decide), n0 24 (by decide) (by decide) (by decide), n0 25 (by decide) (by decide) (by decide), nQ]
    exact ⟨a1, a2, a3, a4, a5⟩
  have ln : ∀ l, l < 16 → ¬ (l / 4 = p ∨ l % 4 = p) → N.1 9 l = M.1 9 l ∧ N.1 10 l = M.1 10 l ∧ N.1 24 l = M.1 24 l ∧ N.1 25 l = M.1 25 l ∧ N.2.1 l = M.2.1 l := fun l hl h => by
    obtain ⟨a, b⟩ := mcls_n (j := l) (mlp p) (uI (uI M.1 0 p 0) 2 p 0, M.2) (fun z => h ((mlp_m hp hl).mp z))
    rw [← eC] at a b
    change ∀ c, C.1 c l = uI (uI M.1 0 p 0) 2 p 0 c l at a
    rw [n0 9 (by decide) (by decide) (by decide), n0 10 (by decide) (by decide) (by decide), n0 24 (by decide) (by decide) (by decide), n0 25 (by decide) (by decide) (by decide), nQ]
    refine ⟨?_, ?_, ?_, ?_, b⟩
    · rw [a 9, uI_c (by decide), uI_c (by decide)]
    · rw [a 10, uI_c (by decide), uI_c (by decide)]
    · rw [a 24, uI_c (by decide), uI_c (by decide)]
    · rw [a 25, uI_c (by decide), uI_c (by decide)]
  have sub : ∀ l, l < 16 → ∀ (i : Nat) (m : mg), (N.2.1 l)[i]? = some m → (M.2.1 l)[i]? = some m ∧ ¬ (l / 4 = p ∨ l % 4 = p) := fun l hl i m hi => by
    by_cases c : l / 4 = p ∨ l % 4 = p
    · rw [(ly l hl c).2.2.2.2] at hi
      simp at hi
    · rw [(ln l hl c).2.2.2.2] at hi
      exact ⟨hi, c⟩
  have hZ : N.2.2 = M.2.2 := by rw [nQ, eC, mcls_Z]
  have hpk : ∀ k, k < 3 → ¬ M.1 11 k = -1 → (M.1 11 k = nI p ↔ pn M.1 k = p) := fun k hk hn => by
    obtain ⟨p1, p2, p3, p4, p5, -⟩ := prk_n hk (k3 k hk).1 hn
    rw [p4]
    exact nI_eq (by omega) (by omega)
  have hlv : ∀ k, k < 3 → lv N.1 k = true → lv M.1 k = true ∧ ¬ M.1 11 k = nI p := fun k hk h => by
    obtain ⟨h1, h2⟩ := lv_up h
    rw [e11] at h1
    rw [pn_c e11, f0] at h2
    have hne : pn M.1 k ≠ p := fun e => h2 (by rw [if_pos e])
    rw [if_neg hne] at h2
    exact ⟨by unfold lv; simp [h1, h2], fun z => hne ((hpk k hk h1).mp z)⟩
  have hlv2 : ∀ k, k < 3 → lv N.1 k = false → lv M.1 k = false ∨ M.1 11 k = nI p := fun k hk h => by
    cases e : lv M.1 k with
    | false => exact Or.inl rfl
    | true =>
      refine Or.inr ?_
      obtain ⟨h1, h2⟩ := lv_up e
      by_cases c : M.1 11 k = nI p
      · exact c
      · exfalso
        have hne : pn M.1 k ≠ p := fun z => c ((hpk k hk h1).mpr z)
        have : lv N.1 k = true := by
          unfold lv
          rw [e11, pn_c e11, f0, if_neg hne]
          simp [h1, h2]
        rw [this] at h
        cases h
  have nm1 : ¬ nI p = (-1 : Int32) := by
    have : p = 0 ∨ p = 1 ∨ p = 2 ∨ p = 3 := by omega
    rcases this with rfl | rfl | rfl | rfl <;> decide
  have hUS : ∀ k i m, k < 3 → US N.1 N.2.1 k i m → US M.1 M.2.1 k i m ∧ ¬ M.1 11 k = nI p := fun k i m hk u => by
    obtain ⟨u1, u2, u3, u4⟩ := u
    rw [lk_c e11] at u1 u4
    by_cases hn : M.1 11 k = -1
    · exfalso
      have hlk : lk M.1 k < 16 := by
        unfold lk pn ohn
        rw [hn]
        have : k = 0 ∨ k = 1 ∨ k = 2 := by omega
        rcases this with rfl | rfl | rfl
        · rw [if_pos rfl, hn]; decide
        · rw [if_neg (by decide)]; decide
        · rw [if_neg (by decide)]; decide
      obtain ⟨s1, -⟩ := sub _ hlk i m u1
      obtain ⟨⟨n, a1, a2, a3⟩, -⟩ := k8 k hk
      exact (a3 _ hlk i m s1 u3 (Or.inl u2)).2.1 hn
    · obtain ⟨hlk, -⟩ := lk_lt hk (k3 k hk).1 hn
      obtain ⟨s1, s2⟩ := sub _ hlk i m u1
      rw [(ln _ hlk s2).2.1] at u4
      refine ⟨⟨s1, u2, u3, u4⟩, fun z => s2 (Or.inl ?_)⟩
      have := (hpk k hk hn).mp z
      obtain ⟨p1, p2, -⟩ := prk_n hk (k3 k hk).1 hn
      unfold lk
      omega
  have hUW : ∀ k i m, k < 3 → UW N.1 N.2.1 k i m → UW M.1 M.2.1 k i m := fun k i m hk u => by
    obtain ⟨u1, u2, u3, u5, u4⟩ := u
    rw [lb_c e11] at u1 u4
    rw [e15] at u5
    have hlb : lb M.1 k < 16 := by
      by_cases hn : M.1 11 k = -1
      · unfold lb pn ohn
        rw [hn]
        have : k = 0 ∨ k = 1 ∨ k = 2 := by omega
        rcases this with rfl | rfl | rfl
        · rw [if_pos rfl, hn]; decide
        · rw [if_neg (by decide)]; decide
        · rw [if_neg (by decide)]; decide
      · exact (lk_lt hk (k3 k hk).1 hn).2
    obtain ⟨s1, s2⟩ := sub _ hlb i m u1
    rw [(ln _ hlb s2).2.1] at u4
    exact ⟨s1, u2, u3, u5, u4⟩
  have er : ∀ k, row1 N k = row1 M k := fun k => row1_c e11 hZ
  rw [← eN]
  refine ⟨⟨fun q hq => ?_, K2_c (f 3 (by decide) (by decide) (by decide) (by decide) (by decide) (by decide) (by decide) (by decide) (by decide)) (f 4 (by decide) (by decide) (by decide) (by decide) (by decide) (by decide) (by decide) (by decide) (by decide)) e5 (f 6 (by decide) (by decide) (by decide) (by decide) (by decide) (by decide) (by decide) (by decide) (by decide)) k2, fun k hk => ?_, fun t ht => ?_, ?_, fun l hl => ?_, ?_, fun k hk => ?_, fun d hd h5 => ?_, ?_, K11_c (f 4 (by decide) (by decide) (by decide) (by decide) (by decide) (by decide) (by decide) (by decide) (by decide)) e5 (f 6 (by decide) (by decide) (by decide) (by decide) (by decide) (by decide) (by decide) (by decide) (by decide)) e7 k11⟩, ?_⟩
  · obtain ⟨a1, a2, a3, a4⟩ := k1 q hq
    rw [f0, f2, e1]
    by_cases e : q = p
    · subst e
      rw [if_pos rfl, if_pos rfl]
      exact ⟨Or.inl rfl, a2, fun z => absurd z (by decide), fun _ _ => ⟨0, by omega, rfl⟩⟩
    · rw [if_neg e, if_neg e]
      exact ⟨a1, a2, a3, a4⟩
  · obtain ⟨a1, a2, a3, a4, a5, a6, a7, a8⟩ := k3 k hk
    unfold K3
    rw [e12, e13, e14, e40, e11, ohI_c e11, f16 k hk]
    refine ⟨by unfold prk; rw [e11]; exact a1, a2, a3, ?_, a5, fun z => ?_, fun z => ?_, a8⟩
    · split
      · exact Or.inl rfl
      · exact a4
    · split at z
      · exact absurd z (by decide)
      · rename_i c
        obtain ⟨b1, b2⟩ := a6 z
        refine ⟨b1, ?_⟩
        cases e : lv N.1 k with
        | true => rfl
        | false =>
          rcases hlv2 k hk e with y | y
          · rw [y] at b2; cases b2
          · exact absurd y c
    · split
      · rfl
      · rename_i c
        rcases hlv2 k hk z with y | y
        · exact a7 y
        · exact absurd y c
  · intro hl
    obtain ⟨h1, h2⟩ := hlv (1 + t) (by omega) hl
    rw [f16 (1 + t) (by omega), if_neg h2, er, e17]
    exact k4 t ht h1
  · obtain ⟨a1, a2, a3, a4, a5, a6, a7⟩ := k5
    unfold K5
    rw [er, rwi_c e11, hZ, e5, e20, e22, f16 0 (by omega)]
    by_cases c : M.1 11 0 = nI p
    · obtain ⟨g1, g2⟩ := f21.1 c
      rw [if_pos c, g1, g2]
      refine ⟨fun z => absurd c (hlv 0 (by omega) z).2, fun z => absurd z (by decide), Or.inl rfl, fun z => absurd z (by decide), fun _ => ⟨rfl, rfl⟩, ⟨0, by omega, rfl, fun k hk => by omega⟩, fun z => absurd z (by decide)⟩
    · obtain ⟨g1, g2⟩ := f21.2 c
      rw [if_neg c, g1, g2]
      exact ⟨fun z => a1 (hlv 0 (by omega) z).1, a2, a3, a4, fun z => a5 ((hlv2 0 (by omega) z).resolve_right c), a6, a7⟩
  · obtain ⟨a1, a2, a3, a4, a5, N0, T, b1, b2, b3, b4, b5, b6, b7⟩ := k6 l hl
    by_cases c : l / 4 = p ∨ l % 4 = p
    · obtain ⟨l1, l2, l3, l4, l5⟩ := ly l hl c
      unfold K6 KN
      rw [l1, l2, l3, l4, l5]
      exact ⟨fun z => absurd rfl z, fun _ => ⟨rfl, rfl⟩, Or.inl rfl, Or.inl rfl, fun i m h => by simp at h, 0, 0, by omega, rfl, rfl, by omega, by simp, by simp, fun i m h => by simp at h⟩
    · obtain ⟨l1, l2, l3, l4, l5⟩ := ln l hl c
      unfold K6 KN
      rw [l1, l2, l3, l4, l5, f0, f0, if_neg (fun z => c (Or.inl z)), if_neg (fun z => c (Or.inr z))]
      exact ⟨a1, a2, a3, a4, a5, N0, T, b1, b2, b3, b4, b5, b6, b7⟩
  · obtain ⟨a1, a2, a3, a4, a5⟩ := k7
    unfold K7
    rw [hZ, e17, e40]
    refine ⟨a1, a2, a3, fun l hl i m hi hm => a4 l hl i m (sub l hl i m hi).1 hm, fun t ht => ?_⟩
    rw [rwo_c e11]
    exact a5 t ht
  · obtain ⟨⟨n, a1, a2, a3⟩, a4, a5⟩ := k8 k hk
    refine ⟨⟨n, a1, by rw [e15]; exact a2, fun l hl i m hi h1 h2 => ?_⟩, fun i j m m' u u' => a4 i j m m' (hUS k i m hk u).1 (hUS k j m' hk u').1, fun i m u => ?_⟩
    · rw [e11, e40, lk_c e11, lb_c e11]
      exact a3 l hl i m (sub l hl i m hi).1 h1 h2
    · obtain ⟨v1, v2⟩ := hUS k i m hk u
      obtain ⟨b1, b2, b3⟩ := a5 i m v1
      rw [e13, e15, f16 k hk, if_neg v2]
      exact ⟨b1, b2, fun j w y => b3 j w (hUW k j w hk y)⟩
  · rw [e5] at h5
    obtain ⟨a1, a2, a3, a4, a5⟩ := k9 d hd h5
    rw [dsk_c e7, rwi_c e11, rwo_c e11, e12, e13, e14, e22, hZ, f16 0 (by omega)]
    refine ⟨a1, fun z => ?_, a3, fun z i m u => a4 z i m (hUS 0 i m (by omega) u).1, fun z y i m u => a5 z y i m (hUW 0 i m (by omega) u)⟩
    obtain ⟨h1, h2⟩ := hlv 0 (by omega) z
    rw [if_neg h2]
    exact a2 h1
  · unfold K10
    rw [rwi_c e11, rwo_c e11, e12, e13, e14, hZ, f16 0 (by omega)]
    by_cases c : M.1 11 0 = nI p
    · rw [if_pos c]
      refine ⟨fun z => absurd z (by decide), fun z => ?_⟩
      rcases z with z | z
      · exact absurd z (by decide)
      · exact absurd z.1 (by decide)
    · rw [if_neg c]
      exact ⟨k10.1, fun z => ⟨fun i m u => (k10.2 z).1 i m (hUS 0 i m (by omega) u).1, fun i m u => (k10.2 z).2 i m (hUW 0 i m (by omega) u)⟩⟩
  · unfold SD2
    rw [rwi_c e11, e5, e22, hZ, f16 0 (by omega)]
    refine ⟨fun z => ?_, fun z => ?_⟩
    · obtain ⟨h1, h2⟩ := hlv 0 (by omega) z
      rw [if_neg h2]
      exact kS.1 h1
    · obtain ⟨h1, h2⟩ := hlv 0 (by omega) z
      rw [if_neg h2, (f21.2 h2).1]
      exact kS.2 h1
theorem INV_ff {X p : Nat} {M : mM} (k : INV X M) (hp : p < 4) : rfl0 p M = mfl0 p M ∧ INV X (rfl0 p M).2 := by
  unfold rfl0 mfl0
  by_cases c : M.1 0 p = 0
  · rw [if_pos c, if_pos c]
    exact ⟨rfl, k⟩
  · rw [if_neg c, if_neg c]
    obtain ⟨a1, a2, a3, a4⟩ := k.1.1 p hp
    have h1 := a1.resolve_left c
    rw [e_fp (a3 h1)]
    exact ⟨rfl, INV_fp k hp h1⟩
