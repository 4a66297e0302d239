/-! what holds while the store runs -/
def SI (M : mM) : Prop := (M.1 16 0 = 2 → lv M.1 0 = true ∧ ¬ row1 M 0 3 = 0) ∧ (¬ M.1 21 0 = 0 → lv M.1 0 = true) ∧ (∀ k, k < stn M.1 → ∃ t, t < 2 ∧ M.1 20 (7 * k) = nI t) ∧ (∀ t, t < 2 → M.1 16 (1 + t) = 2 → lv M.1 (1 + t) = true) ∧ SG (M.2.2 (rwi M.1 0))
theorem rwi_c {I J : sm_I} {k : Nat} (e11 : J 11 = I 11) : rwi J k = rwi I k := by
  unfold rwi pn
  rw [e11]
theorem stn_c {I J : sm_I} (e : J 21 = I 21) : stn J = stn I := by
  unfold stn
  rw [e]
theorem mfin0_I {c : Nat} {M : mM} (h : c ≠ 16) : (mfin0 M).1 c = M.1 c := by
  funext j
  simp [mfin0, uI, h]
theorem mfin1_I {c : Nat} {M : mM} (h1 : c ≠ 9) (h2 : c ≠ 24) (h3 : c ≠ 25) (h4 : c ≠ 16) (h5 : c ≠ 18) (h6 : c ≠ 19) : (mfin1 M).1 c = M.1 c := by
  unfold mfin1
  split
  · rw [mrp_I h1 h2 h3, mfin0_I h4]
  · split
    · exact mfin0_I h4
    · rw [mal_I h1 h2 h3 h4 h5 h6, mfin0_I h4]
theorem mfin_I {c : Nat} {M : mM} (h1 : c ≠ 9) (h2 : c ≠ 24) (h3 : c ≠ 25) (h4 : c ≠ 16) (h5 : c ≠ 18) (h6 : c ≠ 19) (h7 : c ≠ 23) : (mfin M).1 c = M.1 c := by
  have : (mfin M).1 c = (mfin1 M).1 c := by
    funext j
    simp [mfin, uI, h7]
  rw [this, mfin1_I h1 h2 h3 h4 h5 h6]
theorem mal1_162 {t u : Nat} {M : mM} (h : (mal1 t M).1 16 (1 + u) = 2) : M.1 16 (1 + u) = 2 := by
  unfold mal1 at h
  split at h
  · rename_i c
    by_cases e : u = t
    · subst e; exact c
    · rw [mgo_16 (by omega)] at h; exact h
  · exact h
theorem mfin_162 {u : Nat} {M : mM} (h : (mfin M).1 16 (1 + u) = 2) : M.1 16 (1 + u) = 2 := by
  have h1 : (mfin1 M).1 16 (1 + u) = 2 := by simpa [mfin, uI] using h
  have e0 : (mfin0 M).1 16 (1 + u) = M.1 16 (1 + u) := by simp [mfin0, uI]
  rw [← e0]
  unfold mfin1 at h1
  split at h1
  · rw [mrp_I (by omega) (by omega) (by omega)] at h1; exact h1
  · split at h1
    · exact h1
    · exact mal1_162 (mal1_162 h1)
theorem mfin_160 {M : mM} : (mfin M).1 16 0 = 0 := by
  have h1 : (mfin M).1 16 0 = (mfin1 M).1 16 0 := by simp [mfin, uI]
  have e0 : (mfin0 M).1 16 0 = 0 := by simp [mfin0, uI]
  rw [h1]
  unfold mfin1
  split
  · rw [mrp_I (by omega) (by omega) (by omega)]; exact e0
  · split
    · exact e0
    · rw [mal_16 (by omega) (by omega)]; exact e0
theorem mfin_Z {M : mM} : (mfin M).2.2 = uZ M.2.2 (rwi M.1 0) (mfs (M.2.2 (rwi M.1 0))) := by
  show (mfin1 M).2.2 = _
  unfold mfin1
  split
  · rw [mrp_Z]; rfl
  · split
    · rfl
    · rw [mal_Z]; rfl
theorem SG_mfs {s : ms} (k : SG s) : SG (mfs s) := by
  obtain ⟨a, b, c⟩ := k
  refine ⟨?_, b, c⟩
  rw [mtr_F (m := s) (by simp [mfs, uF]) (by simp [mfs, uF])]
  exact a
theorem SI_fin {M : mM} (k : SI M) : SI (mfin M) := by
  obtain ⟨k1, k2, k3, k4, k5⟩ := k
  have e0 : (mfin M).1 0 = M.1 0 := mfin_I (by omega) (by omega) (by omega) (by omega) (by omega) (by omega) (by omega)
  have e11 : (mfin M).1 11 = M.1 11 := mfin_I (by omega) (by omega) (by omega) (by omega) (by omega) (by omega) (by omega)
  have e20 : (mfin M).1 20 = M.1 20 := mfin_I (by omega) (by omega) (by omega) (by omega) (by omega) (by omega) (by omega)
  have e21 : (mfin M).1 21 = M.1 21 := mfin_I (by omega) (by omega) (by omega) (by omega) (by omega) (by omega) (by omega)
  refine ⟨fun z => ?_, fun z => ?_, fun k hk => ?_, fun t ht z => ?_, ?_⟩
  · rw [mfin_160] at z; exact absurd z (by decide)
  · rw [lv_c e0 e11]; rw [e21] at z; exact k2 z
  · rw [stn_c e21] at hk; rw [e20]; exact k3 k hk
  · rw [lv_c e0 e11]; exact k4 t ht (mfin_162 z)
  · rw [mfin_Z, rwi_c e11]
    simp only [uZ, if_true]
    exact SG_mfs k5
theorem msS_I {k c : Nat} {kd : Int32} {M : mM} (h1 : c ≠ 9) (h2 : c ≠ 24) (h3 : c ≠ 25) (h4 : c ≠ 15) : (msS k kd M).1 c = M.1 c := by
  unfold msS
  rw [msnd_I h1 h2 h3]
  funext j
  simp [uI, h4]
theorem msS_Z {k : Nat} {kd : Int32} {M : mM} : (msS k kd M).2.2 = M.2.2 := by
  unfold msS
  rw [msnd_Z]
theorem mtl_I {k c : Nat} {M : mM} (h1 : c ≠ 9) (h2 : c ≠ 24) (h3 : c ≠ 25) (h4 : c ≠ 15) (h5 : c ≠ 14) (h6 : c ≠ 16) : (mtl k M).1 c = M.1 c := by
  unfold mtl
  split
  · split
    · rfl
    · funext j; simp [uI, h5]
  · have : (uI (msS k 3 M).1 16 k 1) c = (msS k 3 M).1 c := by funext j; simp [uI, h6]
    exact this.trans (msS_I h1 h2 h3 h4)
theorem mtl_16 {k j : Nat} {M : mM} (hj : j ≠ k) : (mtl k M).1 16 j = M.1 16 j := by
  unfold mtl
  split
  · split
    · rfl
    · simp [uI]
  · show (uI (msS k 3 M).1 16 k 1) 16 j = _
    rw [show (uI (msS k 3 M).1 16 k 1) 16 j = (msS k 3 M).1 16 j by simp [uI, hj], msS_I (by omega) (by omega) (by omega) (by omega)]
theorem mtl_Z {k : Nat} {M : mM} : (mtl k M).2.2 = M.2.2 := by
  unfold mtl
  split
  · split <;> rfl
  · exact msS_Z
theorem mtl_12 {k : Nat} {M : mM} (h : ¬ M.1 12 k = -1) : (mtl k M).1 16 k = 1 := by
  unfold mtl
  rw [if_neg h]
  simp [uI]
theorem msh_o {c : Nat} {I : sm_I} (h1 : c ≠ 20) (h2 : c ≠ 21) : msh I c = I c := by
  funext j
  simp [msh, h1, h2]
theorem mbp_I {c : Nat} {M : mM} (h1 : c ≠ 22) : (mbp M).1 c = msh M.1 c := by
  funext j
  simp [mbp, uI, h1]
/-- what beginning leaves: the parts by component -/
theorem mbeg_I {c : Nat} {M : mM} (h1 : c ≠ 9) (h2 : c ≠ 24) (h3 : c ≠ 25) (h4 : c ≠ 15) (h5 : c ≠ 14) (h6 : c ≠ 16) (h7 : c ≠ 22) : (mbeg M).1 c = msh M.1 c := by
  unfold mbeg
  split
  · rw [mrp_I h1 h2 h3]
  · split
    · rfl
    · split
      · have : (uI (mtl 0 (mbp M)).1 16 0 2) c = (mtl 0 (mbp M)).1 c := by funext j; simp [uI, h6]
        exact this.trans ((mtl_I h1 h2 h3 h4 h5 h6).trans (mbp_I h7))
      · exact (mtl_I h1 h2 h3 h4 h5 h6).trans (mbp_I h7)
theorem mbeg_161 {t : Nat} {M : mM} : (mbeg M).1 16 (1 + t) = M.1 16 (1 + t) := by
  have e : (mbp M).1 16 (1 + t) = M.1 16 (1 + t) := by rw [mbp_I (by omega), msh_o (by omega) (by omega)]
  unfold mbeg
  split
  · rw [mrp_I (by omega) (by omega) (by omega)]
    show msh M.1 16 (1 + t) = _
    rw [msh_o (by omega) (by omega)]
  · split
    · show msh M.1 16 (1 + t) = _
      rw [msh_o (by omega) (by omega)]
    · split
      · have : (uI (mtl 0 (mbp M)).1 16 0 2) 16 (1 + t) = (mtl 0 (mbp M)).1 16 (1 + t) := by simp [uI]
        exact this.trans ((mtl_16 (by omega)).trans e)
      · exact (mtl_16 (by omega)).trans e
theorem mbeg_Z {M : mM} : (mbeg M).2.2 = M.2.2 ∨ (mbeg M).2.2 = uZ M.2.2 (rwi M.1 0) (mps (M.2.2 (rwi M.1 0)) (mbt M) (mbq M)) := by
  unfold mbeg
  split
  · exact Or.inl mrp_Z
  · split
    · exact Or.inl rfl
    · split
      · exact Or.inr mtl_Z
      · exact Or.inr mtl_Z
theorem mbeg_c1 {M : mM} (c1 : mord (row1 M 0) (mbq M) (mbt M) = 0) : mbeg M = mrp (mbt M) (msh M.1, M.2) := by
  unfold mbeg
  rw [if_pos c1]
theorem mbeg_c2 {M : mM} (c1 : ¬ mord (row1 M 0) (mbq M) (mbt M) = 0) (c2 : mord (row1 M 0) (mbq M) (mbt M) ≤ 0) : mbeg M = (msh M.1, M.2) := by
  unfold mbeg
  rw [if_neg c1, if_pos c2]
theorem mbeg_c3 {M : mM} (c1 : ¬ mord (row1 M 0) (mbq M) (mbt M) = 0) (c2 : ¬ mord (row1 M 0) (mbq M) (mbt M) ≤ 0) : (mbeg M).2 = (mtl 0 (mbp M)).2 := by
  unfold mbeg
  rw [if_neg c1, if_neg c2]
  generalize mtl 0 (mbp M) = X
  split <;> rfl
theorem mps_3 {s : ms} {t : Nat} {q : Nat → Int32} : (mps s t q).1 3 = 1 := by
  unfold mps
  generalize mpf s t (q 1) (q 2) (q 3) (q 4) (q 5) (q 6) = X
  simp [uF]
theorem mbeg_160 {M : mM} (h0 : M.1 16 0 = 0) (h : (mbeg M).1 16 0 = 2) : row1 (mbeg M) 0 3 = 1 := by
  have e11 : (mbeg M).1 11 = M.1 11 := by rw [mbeg_I (by omega) (by omega) (by omega) (by omega) (by omega) (by omega) (by omega), msh_o (by omega) (by omega)]
  have er : rwi (mbeg M).1 0 = rwi M.1 0 := rwi_c e11
  have eh : msh M.1 16 0 = 0 := by rw [msh_o (by omega) (by omega)]; exact h0
  unfold row1
  rw [er]
  by_cases c1 : mord (row1 M 0) (mbq M) (mbt M) = 0
  · rw [mbeg_c1 c1, mrp_I (by omega) (by omega) (by omega)] at h
    have h2 : msh M.1 16 0 = 2 := h
    rw [eh] at h2
    exact absurd h2 (by decide)
  · by_cases c2 : mord (row1 M 0) (mbq M) (mbt M) ≤ 0
    · rw [mbeg_c2 c1 c2] at h
      have h2 : msh M.1 16 0 = 2 := h
      rw [eh] at h2
      exact absurd h2 (by decide)
    · have : (mbeg M).2.2 = (mbp M).2.2 := by rw [mbeg_c3 c1 c2, mtl_Z]
      rw [this]
      have z : (mbp M).2.2 (rwi M.1 0) = mps (M.2.2 (rwi M.1 0)) (mbt M) (mbq M) := by
        show uZ M.2.2 (rwi M.1 0) (mps (M.2.2 (rwi M.1 0)) (mbt M) (mbq M)) (rwi M.1 0) = _
        unfold uZ
        rw [if_pos rfl]
      rw [z, mps_3]
theorem SI_beg {M : mM} {n t : Nat} (k : SI M) (h0 : M.1 16 0 = 0) (hs : ¬ M.1 21 0 = 0) (en : M.1 21 0 = nI n) (hn1 : 1 ≤ n) (hn8 : n ≤ 8) (ht : t < 2) (q0 : M.1 20 0 = nI t) : SI (mbeg M) := by
  obtain ⟨k1, k2, k3, k4, k5⟩ := k
  have hv := k2 hs
  have e0 : (mbeg M).1 0 = M.1 0 := by rw [mbeg_I (by omega) (by omega) (by omega) (by omega) (by omega) (by omega) (by omega), msh_o (by omega) (by omega)]
  have e11 : (mbeg M).1 11 = M.1 11 := by rw [mbeg_I (by omega) (by omega) (by omega) (by omega) (by omega) (by omega) (by omega), msh_o (by omega) (by omega)]
  have e20 : (mbeg M).1 20 = msh M.1 20 := mbeg_I (by omega) (by omega) (by omega) (by omega) (by omega) (by omega) (by omega)
  have e21 : (mbeg M).1 21 = msh M.1 21 := mbeg_I (by omega) (by omega) (by omega) (by omega) (by omega) (by omega) (by omega)
  have es : stn M.1 = n := stn_eq en hn8
  have ebt : mbt M = t := by
    unfold mbt mbq
    rw [q0]
    exact nI_clamp (by omega)
  refine ⟨fun z => ⟨by rw [lv_c e0 e11]; exact hv, by rw [mbeg_160 h0 z]; decide⟩, fun _ => by rw [lv_c e0 e11]; exact hv, fun k hk => ?_, fun t ht z => ?_, ?_⟩
  · have es2 : stn (mbeg M).1 = n - 1 := by
      unfold stn
      rw [e21]
      have : msh M.1 21 0 = nI (n - 1) := by simp [msh, es]
      rw [this]
      exact nI_clamp (by omega)
    rw [es2] at hk
    rw [e20]
    have : msh M.1 20 (7 * k) = M.1 20 (7 * (k + 1)) := by
      simp only [msh, es]
      rw [if_pos ⟨trivial, by omega⟩]
      congr 1
    rw [this]
    exact k3 (k + 1) (by omega)
  · rw [lv_c e0 e11]
    rw [mbeg_161] at z
    exact k4 t ht z
  · rw [rwi_c e11]
    rcases mbeg_Z (M := M) with z | z
    · rw [z]; exact k5
    · rw [z]
      simp only [uZ, if_true]
      rw [ebt]
      exact SG_mps ht k5
