theorem rsn_I {f t c : Nat} {m : mg} {M : mM} (h1 : c ≠ 9) (h2 : c ≠ 24) (h3 : c ≠ 25) : (rsn f t m M).1 c = M.1 c := by
  unfold rsn
  split
  · rfl
  · exact mapp_I h1 h2 h3
theorem rsn_Z {f t : Nat} {m : mg} {M : mM} : (rsn f t m M).2.2 = M.2.2 := by
  unfold rsn
  split <;> rfl
theorem rrp_I {t c : Nat} {M : mM} (h1 : c ≠ 9) (h2 : c ≠ 24) (h3 : c ≠ 25) : (rrp t M).1 c = M.1 c := by
  unfold rrp
  split
  · rfl
  · exact rsn_I h1 h2 h3
theorem rtl0_I {c : Nat} {M : mM} (h1 : c ≠ 9) (h2 : c ≠ 24) (h3 : c ≠ 25) (h4 : c ≠ 14) (h5 : c ≠ 15) (h6 : c ≠ 16) : (rtl 0 M).1 c = M.1 c := by
  unfold rtl
  split
  · unfold rgo
    rw [if_pos rfl]
    show uI (rst 0 M).1 16 0 2 c = _
    rw [uI_f h6, rst_c h4]
  · unfold rss
    rw [rsn_I h1 h2 h3]
    show uI (uI (rst 0 M).1 16 0 1) 15 0 _ c = _
    rw [uI_f h5, uI_f h6, rst_c h4]
theorem rtl0_Z {M : mM} : (rtl 0 M).2.2 = M.2.2 := by
  unfold rtl
  split
  · unfold rgo
    rw [if_pos rfl]
    show (rst 0 M).2.2 = _
    rw [rst_2]
  · unfold rss
    rw [rsn_Z]
theorem rbeg_22 {M : mM} (h0 : M.1 16 0 = 0) (h : (rbeg M).1 16 0 = 2) : ∀ d, d < 2 → (rbeg M).1 22 d = 0 := by
  unfold rbeg at h ⊢
  split at h
  · rw [rrp_I (by decide) (by decide) (by decide)] at h
    change msh M.1 16 0 = 2 at h
    rw [msh_o (by decide) (by decide), h0] at h
    exact absurd h (by decide)
  · rename_i c1
    split at h
    · change msh M.1 16 0 = 2 at h
      rw [msh_o (by decide) (by decide), h0] at h
      exact absurd h (by decide)
    · rename_i c2
      intro d hd
      rw [if_neg c1, if_neg c2, rtl0_I (by decide) (by decide) (by decide) (by decide) (by decide) (by decide)]
      have : d = 0 ∨ d = 1 := by omega
      rcases this with rfl | rfl <;> rfl
theorem MID_OK {X : Nat} {M : mM} (k : MID X M) : OK (M.2.2 (rwi M.1 0)) := by
  have h01 : rwi M.1 0 = 0 ∨ rwi M.1 0 = 1 := by have := rwi_lt0 (I := M.1); omega
  rcases h01 with e | e <;> rw [e]
  · exact k.2.2.2.2.2.2.1.1
  · exact k.2.2.2.2.2.2.1.2.1
theorem us_5 {I : sm_I} {d : Nat} (k : K2 I) (hd : d < 2) (h : us I d = true) : I 4 d = 1 ∧ I 5 d = 1 := by
  unfold us at h
  simp at h
  obtain ⟨-, v1, v2, -⟩ := k.1 d hd
  exact ⟨v1.resolve_left h.1, v2.resolve_left h.2⟩
theorem SI_of {X : Nat} {M : mM} (k : MID X M) : SI M := by
  have hok := MID_OK k
  obtain ⟨k1, k2, k3, k4, k5, k6, k7, k8, k9, k10, k11⟩ := k
  obtain ⟨a1, a2, a3, a4, a5, ⟨n, c1, c2, c3⟩, a7⟩ := k5
  have hl : ∀ k, k < 3 → ¬ M.1 16 k = 0 → lv M.1 k = true := fun k hk h => by
    cases e : lv M.1 k with
    | true => rfl
    | false => exact absurd ((k3 k hk).2.2.2.2.2.2.1 e) h
  refine ⟨fun z => ?_, fun z => ?_, fun k hk => ?_, fun t ht z => hl (1 + t) (by omega) (by rw [z]; decide), hok.1⟩
  · have h0 := hl 0 (by omega) (by rw [z]; decide)
    exact ⟨h0, fun y => absurd (((a1 h0).mp y).symm.trans z) (by decide)⟩
  · cases e : lv M.1 0 with
    | true => rfl
    | false => exact absurd (a5 e).1 z
  · rw [stn_eq c2 c1] at hk
    exact c3 k hk
theorem SM_of {X : Nat} {M : mM} (k : MID X M) : SM M := by
  have hok := MID_OK k
  have hsi := SI_of k
  obtain ⟨k1, k2, k3, k4, k5, k6, k7, k8, k9, k10, k11⟩ := k
  obtain ⟨a1, a2, a3, a4, a5, ⟨n, c1, c2, c3⟩, a7⟩ := k5
  refine ⟨hsi, fun z => ⟨((k3 0 (by omega)).2.2.2.2.1 z).2.2.2, ((k3 0 (by omega)).2.2.2.2.1 z).1⟩, fun t ht z => (k4 t ht (hsi.2.2.2.1 t ht z)).1 z, fun z => a4 (a3.resolve_left z), fun z d hd hu => a7 z d hd (us_5 k2 hd hu).2, ⟨n, c1, c2⟩, by have := hok.2.2.2.2.1; omega⟩
/-- with no disc to write on something is wanting -/
def NU (M : mM) : Prop := lv M.1 0 = true → M.1 16 0 = 2 → us M.1 0 = false → us M.1 1 = false → (M.2.2 (rwi M.1 0)).2.2 = [] ∨ ∃ d, d < 2 ∧ M.1 5 d = 1 ∧ ¬ M.1 22 d = nI (M.2.2 (rwi M.1 0)).2.2.length
theorem SD2_of {X : Nat} {M : mM} (k : MID X M) (hN : NU M) (h : ¬ (M.1 16 0 = 2 ∧ raw M = true)) (h2 : ¬ (M.1 16 0 = 0 ∧ 0 < M.1 21 0)) : SD2 M := by
  have hok := MID_OK k
  obtain ⟨k1, k2, k3, k4, k5, k6, k7, k8, k9, k10, k11⟩ := k
  obtain ⟨n, c1, c2, c3⟩ := k5.2.2.2.2.2.1
  refine ⟨fun hl h16 => ?_, fun hl h16 => ?_⟩
  · have hr : raw M = false := by
      cases e : raw M with
      | false => rfl
      | true => exact absurd ⟨h16, e⟩ h
    have hwl := hok.2.2.2.2.1
    have hN := hN hl h16
    unfold raw at hr
    generalize hn : (M.2.2 (rwi M.1 0)).2.2.length = w at *
    rw [Bool.or_eq_false_iff] at hr
    obtain ⟨r1, r2⟩ := hr
    have hw0 : ¬ nI w = 0 := by simpa using r1
    have hw1 : ¬ w = 0 := fun e => hw0 (by rw [e]; rfl)
    have fin : ∀ d, d < 2 → us M.1 d = true → raw1 M.1 (nI w) d = false → ∃ d, d < 2 ∧ M.1 5 d = 1 ∧ ¬ M.1 22 d = nI w := fun d hd hu hr => by
      refine ⟨d, hd, (us_5 k2 hd hu).2, ?_⟩
      unfold raw1 at hr
      rw [hu] at hr
      simpa using hr
    have triv : ∀ d, us M.1 d = false → raw1 M.1 (nI w) d = true := fun d hu => by
      unfold raw1
      rw [hu]
      rfl
    cases u0 : us M.1 0 with
    | false =>
      cases u1 : us M.1 1 with
      | false =>
        rcases hN u0 u1 with z | z
        · exfalso
          rw [z] at hn
          exact hw1 hn.symm
        · exact z
      | true =>
        rw [u0, u1, triv 0 u0] at r2
        exact fin 1 (by omega) u1 (by simpa using r2)
    | true =>
      cases r0 : raw1 M.1 (nI w) 0 with
      | false => exact fin 0 (by omega) u0 r0
      | true =>
        rw [u0, r0] at r2
        have r3 : raw1 M.1 (nI w) 1 = false := by simpa using r2
        cases u1 : us M.1 1 with
        | false =>
          rw [triv 1 u1] at r3
          cases r3
        | true => exact fin 1 (by omega) u1 r3
  · have : ¬ 0 < M.1 21 0 := fun z => h2 ⟨h16, z⟩
    rw [c2] at this ⊢
    have h0 : n = 0 := by
      by_cases e : n = 0
      · exact e
      · exact absurd ((nI_p0 c1).1.mpr e) this
    rw [h0]
    rfl
theorem rbeg_lv {X n : Nat} {M : mM} (k : MID X M) (hl : lv M.1 0 = true) (h0 : M.1 16 0 = 0) (en : M.1 21 0 = nI n) (hn1 : 1 ≤ n) (hn8 : n ≤ 8) : lv (rbeg M).1 0 = true ∧ (rbeg M).1 21 0 = nI (n - 1) := by
  have ks := SM_of k
  obtain ⟨t, ht, q0⟩ := ks.1.2.2.1 0 (by rw [stn_eq en hn8]; omega)
  rw [e_beg hl ks.2.1]
  refine ⟨?_, (SM_beg ks h0 en hn1 hn8 ht q0).2⟩
  have e0 : (mbeg M).1 0 = M.1 0 := by rw [mbeg_I (by decide) (by decide) (by decide) (by decide) (by decide) (by decide) (by decide), msh_o (by decide) (by decide)]
  have e11 : (mbeg M).1 11 = M.1 11 := by rw [mbeg_I (by decide) (by decide) (by decide) (by decide) (by decide) (by decide) (by decide), msh_o (by decide) (by decide)]
  rw [lv_c e0 e11]
  exact hl
/-- the store settles -/
theorem MID_set : ∀ n X M b, X + 4 * n + 8 < 2 ^ 28 → MID X M → NU M → M.1 21 0 = nI n → n ≤ 8 → 2 * n + 2 ≤ b → MID (X + 4 * n + 4) (rset b M) ∧ SD2 (rset b M) := by
  intro n
  induction n with
  | zero =>
    intro X M b hX k hN e21 hn8 hb
    obtain ⟨b, rfl⟩ : ∃ y, b = y + 2 := ⟨b - 2, by omega⟩
    have h21 : ∀ N : mM, N.1 21 0 = nI 0 → ¬ (N.1 16 0 = 0 ∧ 0 < N.1 21 0) := fun N e z => by rw [e] at z; exact absurd z.2 (by decide)
    rw [rset_s]
    by_cases c : lv M.1 0 = true ∧ (M.1 16 0 = 2 ∧ raw M = true)
    · rw [if_pos ⟨c.1, Or.inl c.2⟩, if_pos c.2.1]
      have kf := MID_fin k c.1 c.2.1 c.2.2
      have ef := e_fin (SM_of k) c.2.1
      have f16 : (rfin M).1 16 0 = 0 := by rw [ef]; exact mfin_160
      have f21 : (rfin M).1 21 0 = nI 0 := by rw [ef, mfin_I (by decide) (by decide) (by decide) (by decide) (by decide) (by decide) (by decide)]; exact e21
      have hs : SD2 (rfin M) := SD2_of kf (fun _ z => absurd (f16.symm.trans z) (by decide)) (fun z => absurd (f16.symm.trans z.1) (by decide)) (h21 _ f21)
      rw [rset_s, if_neg (fun z => z.2.elim (fun y => absurd (f16.symm.trans y.1) (by decide)) (h21 _ f21))]
      exact ⟨MID_X (by omega) kf, hs⟩
    · rw [if_neg (fun z => z.2.elim (fun y => c ⟨z.1, y⟩) (h21 M e21))]
      refine ⟨MID_X (by omega) k, ?_⟩
      by_cases hl : lv M.1 0 = true
      · exact SD2_of k hN (fun z => c ⟨hl, z⟩) (h21 M e21)
      · exact ⟨fun z => absurd z hl, fun z => absurd z hl⟩
  | succ n ih =>
    intro X M b hX k hN e21 hn8 hb
    obtain ⟨b, rfl⟩ : ∃ y, b = y + 2 := ⟨b - 2, by omega⟩
    have step : ∀ Y N b, X ≤ Y → Y ≤ X + 2 → MID Y N → lv N.1 0 = true → N.1 21 0 = nI (n + 1) → N.1 16 0 = 0 → 2 * n + 2 ≤ b → MID (X + 4 * (n + 1) + 4) (rset (b + 1) N) ∧ SD2 (rset (b + 1) N) := by
      intro Y N b hY1 hY2 kN hlN eN h16 hb
      have kb := MID_beg (by omega) kN hlN h16 eN (by omega) hn8
      obtain ⟨l1, l2⟩ := rbeg_lv kN hlN h16 eN (by omega) hn8
      rw [rset_s, if_pos ⟨hlN, Or.inr ⟨h16, by rw [eN]; exact (nI_p0 hn8).1.mpr (by omega)⟩⟩, if_neg (by rw [h16]; decide)]
      have hNb : NU (rbeg N) := fun _ z _ _ => by
        have h22 := rbeg_22 h16 z
        by_cases e : ((rbeg N).2.2 (rwi (rbeg N).1 0)).2.2 = []
        · exact Or.inl e
        · refine Or.inr ?_
          have hwl := (MID_OK kb).2.2.2.2.1
          have hp : 0 < ((rbeg N).2.2 (rwi (rbeg N).1 0)).2.2.length := List.length_pos_iff.mpr e
          rcases kb.2.1.2.2 with y | y
          · exact ⟨0, by omega, y, fun x => by
              rw [h22 0 (by omega)] at x
              have := (nI_eq (a := 0) (by omega) (by omega)).mp x
              omega⟩
          · exact ⟨1, by omega, y, fun x => by
              rw [h22 1 (by omega)] at x
              have := (nI_eq (a := 0) (by omega) (by omega)).mp x
              omega⟩
      obtain ⟨i1, i2⟩ := ih (Y + 2) (rbeg N) b (by omega) kb hNb (by rw [l2]; congr 1) (by omega) hb
      exact ⟨MID_X (by omega) i1, i2⟩
    rw [rset_s]
    by_cases c : lv M.1 0 = true ∧ (M.1 16 0 = 2 ∧ raw M = true)
    · rw [if_pos ⟨c.1, Or.inl c.2⟩, if_pos c.2.1]
      have kf := MID_fin k c.1 c.2.1 c.2.2
      have ef := e_fin (SM_of k) c.2.1
      have f16 : (rfin M).1 16 0 = 0 := by rw [ef]; exact mfin_160
      have f21 : (rfin M).1 21 0 = nI (n + 1) := by rw [ef, mfin_I (by decide) (by decide) (by decide) (by decide) (by decide) (by decide) (by decide)]; exact e21
      have flv : lv (rfin M).1 0 = true := by
        rw [ef, lv_c (mfin_I (by decide) (by decide) (by decide) (by decide) (by decide) (by decide) (by decide)) (mfin_I (by decide) (by decide) (by decide) (by decide) (by decide) (by decide) (by decide))]
        exact c.1
      exact step (X + 2) (rfin M) b (by omega) (by omega) kf flv f21 f16 (by omega)
    · by_cases c2 : lv M.1 0 = true ∧ M.1 16 0 = 0
      · have := step X M (b + 1) (by omega) (by omega) k c2.1 e21 c2.2 (by omega)
        rw [rset_s] at this
        exact this
      · rw [if_neg (fun z => z.2.elim (fun y => c ⟨z.1, y⟩) (fun y => c2 ⟨z.1, y.1⟩))]
        refine ⟨MID_X (by omega) k, ?_⟩
        by_cases hl : lv M.1 0 = true
        · exact SD2_of k hN (fun z => c ⟨hl, z⟩) (fun z => c2 ⟨hl, z.1⟩)
        · exact ⟨fun z => absurd z hl, fun z => absurd z hl⟩
theorem MID_set30 {X : Nat} {M : mM} (hX : X + 50 < 2 ^ 28) (k : MID X M) (hN : NU M) : INV (X + 40) (rset 30 M) ∧ mset 10 M = rset 30 M := by
  obtain ⟨n, c1, c2, c3⟩ := k.2.2.2.2.1.2.2.2.2.2.1
  obtain ⟨a1, a2⟩ := MID_set n X M 30 (by omega) k hN c2 c1 (by omega)
  refine ⟨⟨MID_X (by omega) a1, a2⟩, ?_⟩
  cases hl : lv M.1 0 with
  | true => exact e_set n M 10 30 (SM_of k) hl c2 c1 (by omega) (by omega)
  | false => exact e_set0 (n := 9) hl ((k.2.2.1 0 (by omega)).2.2.2.2.2.2.1 hl) (k.2.2.2.2.1.2.2.2.2.1 hl).1
theorem NU_of {M : mM} (h : SD2 M) : NU M := fun hl h16 _ _ => Or.inr (h.1 hl h16)
