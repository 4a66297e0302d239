/-! where the class's order and the reference's give the same -/
theorem uI_s {I : sm_I} {c j : Nat} {v : Int32} : uI I c j v c j = v := if_pos ⟨rfl, rfl⟩
theorem uI_c {I : sm_I} {c j c' j' : Nat} {v : Int32} (h : c' ≠ c) : uI I c j v c' j' = I c' j' := if_neg (fun z => h z.1)
theorem uI_j {I : sm_I} {c j c' j' : Nat} {v : Int32} (h : j' ≠ j) : uI I c j v c' j' = I c' j' := if_neg (fun z => h z.2)
theorem uI_f {I : sm_I} {c j c' : Nat} {v : Int32} (h : c' ≠ c) : uI I c j v c' = I c' := by
  funext j'
  exact uI_c h
theorem uI_x {I : sm_I} {c j c' j' : Nat} {v v' : Int32} (h : c ≠ c') : uI (uI I c j v) c' j' v' = uI (uI I c' j' v') c j v := by
  funext a b
  simp only [uI]
  by_cases h1 : a = c' ∧ b = j'
  · rw [if_pos h1, if_neg (fun z => h (z.1.symm.trans h1.1)), if_pos h1]
  · rw [if_neg h1]
    by_cases h2 : a = c ∧ b = j
    · rw [if_pos h2, if_pos h2]
    · rw [if_neg h2, if_neg h2, if_neg h1]
theorem uI_r {I : sm_I} {c j : Nat} {v v' : Int32} : uI (uI I c j v) c j v' = uI I c j v' := by
  funext a b
  simp only [uI]
  by_cases h1 : a = c ∧ b = j
  · rw [if_pos h1, if_pos h1]
  · rw [if_neg h1, if_neg h1, if_neg h1]
theorem uI_id {I : sm_I} {c j : Nat} {v : Int32} (h : I c j = v) : uI I c j v = I := by
  funext a b
  simp only [uI]
  by_cases h1 : a = c ∧ b = j
  · rw [if_pos h1, h1.1, h1.2, h]
  · rw [if_neg h1]
theorem lv_up {I : sm_I} {k : Nat} (h : lv I k = true) : ¬ I 11 k = -1 ∧ ¬ I 0 (pn I k) = 0 := by
  unfold lv at h
  simpa using h
theorem e_sn {f t : Nat} {m : mg} {M : mM} (h : ¬ M.1 0 f = 0) : rsn f t m M = msnd f t m M := by
  unfold rsn msnd
  by_cases h2 : M.1 0 t = 0
  · rw [if_pos h2, if_pos (Or.inr h2)]
  · rw [if_neg h2, if_neg (fun z => z.elim h h2)]
theorem e_ss {k : Nat} {kd : Int32} {M : mM} (h : lv M.1 k = true) : rss k kd (ohn M.1 k) M = msS k kd M := by
  unfold rss msS
  exact e_sn (lv_up h).2
theorem e_sc {k : Nat} {M : mM} (h : lv M.1 k = true) : rsc k M = msC k M := by
  unfold rsc msC
  have := e_ss (k := k) (kd := 4) (M := (uI (uI M.1 13 k 1) 14 k 0, M.2)) h
  exact this
theorem e_go {t : Nat} {M : mM} (h : lv M.1 (1 + t) = true) (h2 : ¬ row1 M (1 + t) 1 = 1 → row1 M (1 + t) 6 = 1) : rgo (1 + t) M = mgo t M := by
  unfold rgo mgo
  rw [if_neg (by omega), show 1 + t - 1 = t by omega]
  by_cases c : row1 M (1 + t) 1 = 1
  · rw [if_pos c, if_pos c]
    unfold rsr
    have e11 : (uI M.1 16 (1 + t) 2) 11 0 = M.1 11 0 := rfl
    by_cases c2 : M.1 11 0 = -1
    · rw [if_pos c2]
      simp only []
      rw [e11, if_pos c2]
    · rw [if_neg c2]
      simp only []
      rw [e11, if_neg c2]
      exact e_sn (lv_up h).2
  · rw [if_neg c, if_neg c, if_pos (h2 c)]
    rfl
theorem mapp_16 {l k : Nat} {m : mg} {v : Int32} {I : sm_I} {Q : mQ} {Z : mZ} : mapp l m (uI I 16 k v, Q, Z) = (uI (mapp l m (I, Q, Z)).1 16 k v, (mapp l m (I, Q, Z)).2) := by
  unfold mapp appI
  simp only []
  by_cases c : Q l = []
  · rw [if_pos c, if_pos c, show fbu (uI I 16 k v) = fbu I from rfl, show (uI I 16 k v) 9 l = I 9 l from rfl]
    rw [uI_x (c := 16) (c' := 9) (by decide), uI_x (c := 16) (c' := 24) (by decide), uI_x (c := 16) (c' := 25) (by decide)]
  · rw [if_neg c, if_neg c, show (uI I 16 k v) 9 l = I 9 l from rfl, uI_x (c := 16) (c' := 9) (by decide)]
theorem msnd_16 {f t k : Nat} {m : mg} {v : Int32} {I : sm_I} {Q : mQ} {Z : mZ} : msnd f t m (uI I 16 k v, Q, Z) = (uI (msnd f t m (I, Q, Z)).1 16 k v, (msnd f t m (I, Q, Z)).2) := by
  unfold msnd
  by_cases c : I 0 f = 0 ∨ I 0 t = 0
  · rw [if_pos (show (uI I 16 k v) 0 f = 0 ∨ (uI I 16 k v) 0 t = 0 from c), if_pos (show ((I, Q, Z) : mM).1 0 f = 0 ∨ ((I, Q, Z) : mM).1 0 t = 0 from c)]
  · rw [if_neg (show ¬ ((uI I 16 k v) 0 f = 0 ∨ (uI I 16 k v) 0 t = 0) from c), if_neg (show ¬ (((I, Q, Z) : mM).1 0 f = 0 ∨ ((I, Q, Z) : mM).1 0 t = 0) from c)]
    exact mapp_16
theorem msS_16 {k j : Nat} {kd v : Int32} {I : sm_I} {Q : mQ} {Z : mZ} : msS k kd (uI I 16 j v, Q, Z) = (uI (msS k kd (I, Q, Z)).1 16 j v, (msS k kd (I, Q, Z)).2) := by
  unfold msS
  simp only []
  have e15 : (uI I 16 j v) 15 k = I 15 k := rfl
  have ep : pn (uI I 16 j v) k = pn I k := rfl
  have eo : ohn (uI I 16 j v) k = ohn I k := rfl
  have er : rwi (uI I 16 j v) k = rwi I k := rfl
  rw [e15, ep, eo, er, uI_x (c := 16) (c' := 15) (by decide)]
  exact msnd_16
/-- told: the backup is the other home -/
theorem bk_oh {I : sm_I} {k : Nat} (h : I 12 k = ohI I k) : (I 12 k).toNatClampNeg = ohn I k := by
  rw [h]
  unfold ohI ohn
  split
  · split <;> rfl
  · split <;> rfl
theorem rst_c {k c : Nat} {M : mM} (h : c ≠ 14) : (rst k M).1 c = M.1 c := by
  unfold rst
  split
  · rfl
  · exact uI_f h
theorem rst_2 {k : Nat} {M : mM} : (rst k M).2 = M.2 := by
  unfold rst
  split <;> rfl
theorem mtl_n {k : Nat} {M : mM} (h : M.1 12 k = -1) : mtl k M = rst k M := by
  unfold mtl rst
  rw [if_pos h]
theorem e_tl0 {k : Nat} {M : mM} (hl : lv M.1 k = true) (hb : ¬ M.1 12 k = -1) (ho : M.1 12 k = ohI M.1 k) (hc : M.1 13 k = 0) : rtl k M = mtl k M := by
  unfold rtl mtl
  rw [if_neg hb, if_neg hb, bk_oh ho]
  have e : (rst k M) = M := by unfold rst; rw [if_pos hc]
  rw [e]
  obtain ⟨I, Q, Z⟩ := M
  rw [← msS_16]
  exact e_ss (M := (uI I 16 k 1, Q, Z)) hl
theorem e_tl {t : Nat} {M : mM} (hl : lv M.1 (1 + t) = true) (ho : ¬ M.1 12 (1 + t) = -1 → M.1 12 (1 + t) = ohI M.1 (1 + t) ∧ M.1 13 (1 + t) = 0) (h2 : ¬ row1 M (1 + t) 1 = 1 → row1 M (1 + t) 6 = 1) : rtl (1 + t) M = mtg t M := by
  unfold mtg
  by_cases hb : M.1 12 (1 + t) = -1
  · rw [if_pos hb, mtl_n hb]
    unfold rtl
    rw [if_pos hb]
    have er : row1 (rst (1 + t) M) (1 + t) = row1 M (1 + t) := by
      unfold row1
      rw [rst_2, rwi_c (rst_c (by decide))]
    exact e_go (by rw [lv_c (rst_c (by decide)) (rst_c (by decide))]; exact hl) (by rw [er]; exact h2)
  · rw [if_neg hb]
    exact e_tl0 hl hb (ho hb).1 (ho hb).2
theorem e_rp {t : Nat} {M : mM} (h : lv M.1 0 = true) : rrp t M = mrp t M := by
  unfold rrp mrp
  split
  · rfl
  · exact e_sn (lv_up h).2
theorem e_beg {M : mM} (h : lv M.1 0 = true) (ho : ¬ M.1 12 0 = -1 → M.1 12 0 = ohI M.1 0 ∧ M.1 13 0 = 0) : rbeg M = mbeg M := by
  unfold rbeg mbeg
  have hm : lv (msh M.1) 0 = true := by rw [lv_c (msh_o (by decide) (by decide)) (msh_o (by decide) (by decide))]; exact h
  have hp : lv (mbp M).1 0 = true := by
    have e0 : (mbp M).1 0 = msh M.1 0 := mbp_I (by decide)
    have e11 : (mbp M).1 11 = msh M.1 11 := mbp_I (by decide)
    rw [lv_c e0 e11]; exact hm
  by_cases c1 : mord (row1 M 0) (mbq M) (mbt M) = 0
  · rw [if_pos c1, if_pos c1]
    exact e_rp (M := (msh M.1, M.2)) hm
  · rw [if_neg c1, if_neg c1]
    by_cases c2 : mord (row1 M 0) (mbq M) (mbt M) ≤ 0
    · rw [if_pos c2, if_pos c2]
    · rw [if_neg c2, if_neg c2]
      have e12 : (mbp M).1 12 0 = M.1 12 0 := by rw [mbp_I (by decide), msh_o (by decide) (by decide)]
      have e13 : (mbp M).1 13 0 = M.1 13 0 := by rw [mbp_I (by decide), msh_o (by decide) (by decide)]
      have e11 : (mbp M).1 11 = M.1 11 := by rw [mbp_I (by decide), msh_o (by decide) (by decide)]
      by_cases c3 : M.1 12 0 = -1
      · rw [if_pos c3, mtl_n (e12.trans c3)]
        unfold rtl
        rw [if_pos (e12.trans c3)]
        rfl
      · rw [if_neg c3]
        have eo : ohI (mbp M).1 0 = ohI M.1 0 := by unfold ohI; rw [e11]
        exact e_tl0 hp (by rw [e12]; exact c3) (by rw [e12, eo]; exact (ho c3).1) (by rw [e13]; exact (ho c3).2)
theorem rwi_lt0 {I : sm_I} : rwi I 0 < 2 := by
  unfold rwi
  omega
theorem rwi_ne {I J : sm_I} {t : Nat} : rwi I (1 + t) ≠ rwi J 0 := by
  unfold rwi
  omega
theorem uZ_s {Z : mZ} {i : Nat} {s : ms} : uZ Z i s i = s := if_pos rfl
theorem uZ_n {Z : mZ} {i j : Nat} {s : ms} (h : j ≠ i) : uZ Z i s j = Z j := if_neg h
theorem e_sa1 {t : Nat} {M : mM} (h : M.1 16 (1 + t) = 2 → lv M.1 (1 + t) = true ∧ row1 M (1 + t) 1 = 1) : rsa1 t M = mal1 t M := by
  unfold rsa1 mal1
  by_cases c : M.1 16 (1 + t) = 2
  · obtain ⟨h1, h2⟩ := h c
    rw [if_pos ⟨h1, c⟩, if_pos c]
    unfold mgo rsr
    rw [if_pos h2, uI_id c]
    split
    · rfl
    · exact e_sn (lv_up h1).2
  · rw [if_neg (fun z => c z.2), if_neg c]
theorem row1_c {M N : mM} {k : Nat} (e11 : N.1 11 = M.1 11) (eZ : N.2.2 = M.2.2) : row1 N k = row1 M k := by
  unfold row1
  rw [eZ, rwi_c e11]
theorem mal1_2 {t u : Nat} {M : mM} (h : t ≠ u) : (mal1 t M).1 16 (1 + u) = M.1 16 (1 + u) := mal1_16 (by omega)
theorem e_sa {M : mM} (h : ∀ t, t < 2 → M.1 16 (1 + t) = 2 → lv M.1 (1 + t) = true ∧ row1 M (1 + t) 1 = 1) : rsa M = mal M := by
  unfold rsa mal
  rw [e_sa1 (h 0 (by omega))]
  refine e_sa1 (fun z => ?_)
  rw [mal1_2 (by decide)] at z
  have e0 : (mal1 0 M).1 0 = M.1 0 := mal1_I (by decide) (by decide) (by decide) (by decide) (by decide) (by decide)
  have e11 : (mal1 0 M).1 11 = M.1 11 := mal1_I (by decide) (by decide) (by decide) (by decide) (by decide) (by decide)
  rw [lv_c e0 e11, row1_c e11 mal1_Z]
  exact h 1 (by omega) z
/-- what holds of the store while it settles -/
def SM (M : mM) : Prop := SI M ∧ (¬ M.1 12 0 = -1 → M.1 12 0 = ohI M.1 0 ∧ M.1 13 0 = 0) ∧ (∀ t, t < 2 → M.1 16 (1 + t) = 2 → row1 M (1 + t) 1 = 1) ∧ (¬ M.1 23 0 = 0 → M.1 16 0 = 2 ∧ row1 M 0 3 = 2) ∧ (M.1 16 0 = 2 → ∀ d, d < 2 → us M.1 d = true → ∃ g, g ≤ (M.2.2 (rwi M.1 0)).2.2.length ∧ M.1 22 d = nI g) ∧ (∃ n, n ≤ 8 ∧ M.1 21 0 = nI n) ∧ (M.2.2 (rwi M.1 0)).2.2.length < 2 ^ 20
theorem e_fin {M : mM} (k : SM M) (h2 : M.1 16 0 = 2) : rfin M = mfin M := by
  obtain ⟨⟨k1, k2, k3, k4, k5⟩, a1, a2, a3, a4, a5, a6⟩ := k
  have hl := (k1 h2).1
  have hl0 : lv (mfin0 M).1 0 = true := by rw [lv_c (mfin0_I (by decide)) (mfin0_I (by decide))]; exact hl
  have e1 : rfin1 M = mfin1 M := by
    unfold rfin1 mfin1
    split
    · exact e_rp hl0
    · split
      · rfl
      · refine e_sa (fun t ht z => ?_)
        have z2 : M.1 16 (1 + t) = 2 := by
          unfold mfin0 at z
          simp only [] at z
          rw [uI_j (by omega)] at z
          exact z
        have er : row1 (mfin0 M) (1 + t) = row1 M (1 + t) := by
          unfold row1
          rw [rwi_c (mfin0_I (by decide))]
          unfold mfin0
          simp only []
          rw [uZ_n rwi_ne]
        rw [lv_c (mfin0_I (by decide)) (mfin0_I (by decide)), er]
        exact ⟨k4 t ht z2, a2 t ht z2⟩
  unfold rfin mfin
  rw [e1]
  split
  · rfl
  · rename_i h3
    have h23 : M.1 23 0 = 0 := by
      by_cases c : M.1 23 0 = 0
      · exact c
      · exact absurd (a3 c).2 h3
    have : (mfin1 M).1 23 0 = 0 := by
      rw [mfin1_I (by decide) (by decide) (by decide) (by decide) (by decide) (by decide)]
      exact h23
    rw [this]
theorem SM_fin {M : mM} (k : SM M) (h2 : M.1 16 0 = 2) : SM (mfin M) := by
  obtain ⟨k0, a1, a2, a3, a4, a5, a6⟩ := k
  have ec : ∀ c, c ≠ 9 → c ≠ 24 → c ≠ 25 → c ≠ 16 → c ≠ 18 → c ≠ 19 → c ≠ 23 → (mfin M).1 c = M.1 c := fun c h1 h2 h3 h4 h5 h6 h7 => mfin_I h1 h2 h3 h4 h5 h6 h7
  have e11 := ec 11 (by decide) (by decide) (by decide) (by decide) (by decide) (by decide) (by decide)
  have e12 := ec 12 (by decide) (by decide) (by decide) (by decide) (by decide) (by decide) (by decide)
  have e13 := ec 13 (by decide) (by decide) (by decide) (by decide) (by decide) (by decide) (by decide)
  have e21 := ec 21 (by decide) (by decide) (by decide) (by decide) (by decide) (by decide) (by decide)
  refine ⟨SI_fin k0, ?_, fun t ht z => ?_, fun z => ?_, fun z => ?_, ?_, ?_⟩
  · rw [e12, e13, show ohI (mfin M).1 0 = ohI M.1 0 by unfold ohI; rw [e11]]; exact a1
  · have := a2 t ht (mfin_162 z)
    unfold row1
    rw [rwi_c e11, mfin_Z, uZ_n rwi_ne]
    exact this
  · exfalso
    apply z
    show uI (mfin1 M).1 23 0 0 23 0 = 0
    exact uI_s
  · rw [mfin_160] at z
    exact absurd z (by decide)
  · rw [e21]; exact a5
  · rw [mfin_Z, rwi_c e11, uZ_s]
    simp [mfs]
