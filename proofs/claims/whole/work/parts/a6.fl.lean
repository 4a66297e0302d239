/-! parts that go down -/
def mclI (I : sm_I) (l : Nat) : sm_I := uI (uI (uI (uI I 9 l 0) 10 l 0) 24 l (-1)) 25 l (-1)
def mclr (l : Nat) (M : mM) : mM := (mclI M.1 l, uQ M.2.1 l [], M.2.2)
def mst0 (p : Nat) (M : mM) : mM := (uI (uI M.1 0 p 0) 2 p 0, M.2)
def mcl2 (p q : Nat) (M : mM) : mM := mclr (4 * q + p) (mclr (4 * p + q) M)
def mnst (p : Nat) (M : mM) : mM := mcl2 p 3 (mcl2 p 2 (mcl2 p 1 (mcl2 p 0 (mst0 p M))))
def mstI (k : Nat) (I : sm_I) : sm_I := if k = 0 then uI (uI (uI I 16 0 0) 21 0 0) 23 0 0 else uI I 16 k 0
def mstp (k p : Nat) (M : mM) : mM := if M.1 11 k = nI p then (mstI k M.1, M.2) else M
def mfp (p : Nat) (M : mM) : mM := mstp 2 p (mstp 1 p (mstp 0 p (mnst p M)))
theorem mclI_o {I : sm_I} {l c : Nat} (h1 : c ≠ 9) (h2 : c ≠ 10) (h3 : c ≠ 24) (h4 : c ≠ 25) : mclI I l c = I c := by
  funext j
  simp [mclI, uI, h1, h2, h3, h4]
theorem mclI_l {I : sm_I} {l c j : Nat} (h : j ≠ l) : mclI I l c j = I c j := by
  simp [mclI, uI, h]
theorem mclI_sm {h : am_Hp} {I : sm_I} {X : sm_X} {l : Nat} (s : sm tbc h (uI (uI I 9 l 0) 10 l 0) X) : sm tbc h (mclI I l) X := sm_12 (sm_12 s rfl) rfl
theorem CD_clr {w : Nat → Bool} {l : Nat} {m0 : mg} {h : am_Hp} {I : sm_I} {Q : mQ} {Z : mZ} {X : sm_X} {ow : ow_T} {sb : Nat} (c : CD w 32 m0 h I Q Z X ow sb) : CD w 32 m0 h (mclI I l) (uQ Q l []) Z (uX (uX (uX (uX (uX X 200 l .null) 201 l .null) 202 l (.int 0)) 203 l (.int (-1))) 204 l (.int (-1))) ow sb := by
  obtain ⟨k1, k2, k3, k4, k5, k6, k7⟩ := c
  refine ⟨k1, fun j hj => ?_, fun j hj => ?_, DT_c k4 (mclI_o (by omega) (by omega) (by omega) (by omega)) (mclI_o (by omega) (by omega) (by omega) (by omega)) (mclI_o (by omega) (by omega) (by omega) (by omega)) (by rw [mclI_o (by omega) (by omega) (by omega) (by omega)]) (mclI_o (by omega) (by omega) (by omega) (by omega)) rfl rfl rfl, SP_c k5 (mclI_o (by omega) (by omega) (by omega) (by omega)) (mclI_o (by omega) (by omega) (by omega) (by omega)) (mclI_o (by omega) (by omega) (by omega) (by omega)) (mclI_o (by omega) (by omega) (by omega) (by omega)) (mclI_o (by omega) (by omega) (by omega) (by omega)) rfl rfl rfl, fun t ht => TM_c (k6 t ht) (mclI_o (by omega) (by omega) (by omega) (by omega)) (mclI_o (by omega) (by omega) (by omega) (by omega)) (mclI_o (by omega) (by omega) (by omega) (by omega)) (mclI_o (by omega) (by omega) (by omega) (by omega)) (mclI_o (by omega) (by omega) (by omega) (by omega)) rfl rfl rfl rfl rfl, fun k hk => ?_⟩
  · rw [cq_32 hj]
    by_cases e : j = l
    · subst e
      refine ⟨[], by simp [uQ], by simp [uX, nxv], by simp [uX], by simp [uX]; rfl, fun i x m a _ => by simp at a⟩
    · have := k2 j hj
      rw [cq_32 hj] at this
      simp only [uQ, if_neg e]
      exact LK_c this (by simp [uX, e]) (by simp [uX, e]) (by simp [uX, e])
  · obtain ⟨-, -, b3⟩ := k3 j hj
    obtain ⟨y1, y2⟩ := b3 (by omega) (by omega)
    refine ⟨fun z => absurd z (by omega), fun z => absurd z (by omega), fun _ _ => ?_⟩
    by_cases e : j = l
    · subst e
      simp [uX, mclI, uI]
    · rw [mclI_l e, mclI_l e]
      simp only [uX, e, and_false, if_false]
      exact ⟨y1, y2⟩
  · have := k7 k hk
    unfold prk at this ⊢
    rw [mclI_o (by omega) (by omega) (by omega) (by omega)]
    exact this
theorem lv_up0 {I : sm_I} {p k : Nat} (h : lv (uI I 0 p 0) k = true) : lv I k = true := by
  unfold lv at h ⊢
  have e : pn (uI I 0 p 0) k = pn I k := rfl
  rw [e] at h
  simp at h ⊢
  refine ⟨h.1, fun z => h.2 ?_⟩
  simp only [uI]
  split
  · rfl
  · exact z
theorem CD_up0 {w : Nat → Bool} {p e : Nat} {m0 : mg} {h : am_Hp} {I : sm_I} {Q : mQ} {Z : mZ} {X : sm_X} {ow : ow_T} {sb : Nat} (c : CD w e m0 h I Q Z X ow sb) : CD w e m0 h (uI I 0 p 0) Q Z X ow sb := by
  obtain ⟨k1, k2, k3, k4, ⟨s1, s2, s3, s4⟩, k6, k7⟩ := c
  refine ⟨k1, k2, k3, k4, ⟨s1, fun z => s2 (lv_up0 z), s3, s4⟩, fun t ht => ?_, k7⟩
  obtain ⟨a1, a2, a3, a4⟩ := k6 t ht
  exact ⟨fun z => a1 (lv_up0 z), a2, a3, a4⟩
theorem CD_s21 {w : Nat → Bool} {e : Nat} {m0 : mg} {h : am_Hp} {I : sm_I} {Q : mQ} {Z : mZ} {X : sm_X} {ow : ow_T} {sb : Nat} (c : CD w e m0 h I Q Z X ow sb) : CD w e m0 h (uI I 21 0 0) Q Z X ow sb := by
  obtain ⟨k1, k2, k3, k4, ⟨s1, s2, s3, s4⟩, k6, k7⟩ := c
  exact ⟨k1, k2, k3, k4, ⟨s1, s2, s3, 0, by omega, rfl, fun k hk => absurd hk (by omega)⟩, k6, k7⟩
/-- a disc goes down, or comes up -/
def mdsI (I : sm_I) (d : Nat) : sm_I := uI (if us I (1 - d) = true then uI (uI I 4 d 0) 5 d 0 else uI I 4 d 0) 6 d 0
theorem CD_4 {w : Nat → Bool} {e d : Nat} {m0 : mg} {h : am_Hp} {I : sm_I} {Q : mQ} {Z : mZ} {X : sm_X} {ow : ow_T} {sb : Nat} (c : CD w e m0 h I Q Z X ow sb) : CD w e m0 h (uI (uI I 4 d 0) 6 d 0) Q Z X ow sb := by
  obtain ⟨k1, k2, k3, ⟨d1, d2, d3⟩, k5, k6, k7⟩ := c
  refine ⟨k1, k2, k3, ⟨fun j hj => ?_, d2, d3⟩, k5, k6, k7⟩
  obtain ⟨n, a, b⟩ := d1 j hj
  refine ⟨n, a, fun z => ?_⟩
  by_cases e : j = d
  · subst e
    exact absurd (by simp [uI]) z
  · have h1 : uI (uI I 4 d 0) 6 d 0 4 j = I 4 j := by simp [uI, e]
    have h2 : uI (uI I 4 d 0) 6 d 0 6 j = I 6 j := by simp [uI, e]
    rw [h1] at z
    rw [h2]
    exact b z
theorem CD_5 {w : Nat → Bool} {e d : Nat} {m0 : mg} {h : am_Hp} {I : sm_I} {Q : mQ} {Z : mZ} {X : sm_X} {ow : ow_T} {sb : Nat} (c : CD w e m0 h I Q Z X ow sb) : CD w e m0 h (uI (uI I 4 d 1) 6 d 0) Q Z (uX X 205 d (.int 0)) ow sb := by
  obtain ⟨k1, k2, k3, ⟨d1, d2, d3⟩, k5, k6, k7⟩ := c
  refine ⟨k1, fun l hl => LK_c (k2 l hl) rfl rfl rfl, k3, ⟨fun j hj => ?_, d2, d3⟩, k5, k6, k7⟩
  obtain ⟨n, a, b⟩ := d1 j hj
  by_cases e : j = d
  · subst e
    exact ⟨0, by simp [uX], fun _ => by simp [uI]⟩
  · refine ⟨n, by simp [uX, e, a], fun z => ?_⟩
    have h1 : uI (uI I 4 d 1) 6 d 0 4 j = I 4 j := by simp [uI, e]
    have h2 : uI (uI I 4 d 1) 6 d 0 6 j = I 6 j := by simp [uI, e]
    rw [h1] at z
    rw [h2]
    exact b z
/-- a bus goes down -/
def mbsI (I : sm_I) (b n : Nat) : sm_I := fun c j => if c = 24 ∧ j < n ∧ I 24 j = nI b then -1 else uI I 3 b 0 c j
theorem mbsI_o {I : sm_I} {b n c : Nat} (h1 : c ≠ 24) : mbsI I b n c = uI I 3 b 0 c := by
  funext j
  simp [mbsI, h1]
theorem mbsI_sm {h : am_Hp} {I : sm_I} {X : sm_X} {b n : Nat} (s : sm tbc h (uI I 3 b 0) X) : sm tbc h (mbsI I b n) X := by
  refine sm_hid s (fun c j hc => ?_)
  have h1 : c ≠ 24 := fun e => by subst e; cases hc
  rw [mbsI_o h1]
theorem CD_bs {w : Nat → Bool} {b n : Nat} {m0 : mg} {h : am_Hp} {I : sm_I} {Q : mQ} {Z : mZ} {X X2 : sm_X} {ow : ow_T} {sb : Nat} (c : CD w 32 m0 h I Q Z X ow sb) (h1 : ∀ c j, c ≠ 203 → X2 c j = X c j) (h2 : ∀ j, j < 16 → X2 203 j = .int (mbsI I b n 24 j)) : CD w 32 m0 h (mbsI I b n) Q Z X2 ow sb := by
  obtain ⟨k1, k2, k3, k4, k5, k6, k7⟩ := c
  have f : ∀ c, c ≠ 203 → X2 c = X c := fun c hc => by funext j; exact h1 c j hc
  have o : ∀ c, c ≠ 24 → c ≠ 3 → mbsI I b n c = I c := fun c a b => by rw [mbsI_o a]; funext j; simp [uI, b]
  refine ⟨k1, fun j hj => LK_c (k2 j hj) (h1 _ _ (by omega)) (h1 _ _ (by omega)) (h1 _ _ (by omega)), fun j hj => ?_, DT_c k4 (o _ (by omega) (by omega)) (o _ (by omega) (by omega)) (o _ (by omega) (by omega)) (by rw [o _ (by omega) (by omega)]) (o _ (by omega) (by omega)) (f _ (by omega)) (f _ (by omega)) (f _ (by omega)), SP_c k5 (o _ (by omega) (by omega)) (o _ (by omega) (by omega)) (o _ (by omega) (by omega)) (o _ (by omega) (by omega)) (o _ (by omega) (by omega)) (f _ (by omega)) (f _ (by omega)) (f _ (by omega)), fun t ht => TM_c (k6 t ht) (o _ (by omega) (by omega)) (o _ (by omega) (by omega)) (o _ (by omega) (by omega)) (o _ (by omega) (by omega)) (o _ (by omega) (by omega)) (f _ (by omega)) (f _ (by omega)) (f _ (by omega)) (f _ (by omega)) (f _ (by omega)), fun k hk => ?_⟩
  · obtain ⟨-, -, b3⟩ := k3 j hj
    obtain ⟨y1, y2⟩ := b3 (by omega) (by omega)
    refine ⟨fun z => absurd z (by omega), fun z => absurd z (by omega), fun _ _ => ⟨h2 j hj, ?_⟩⟩
    rw [h1 _ _ (by omega), y2, o _ (by omega) (by omega)]
  · have := k7 k hk
    unfold prk at this ⊢
    rw [o _ (by omega) (by omega)]
    exact this
/-- what waits boards the next bus -/
def wkc (I : sm_I) (Q : mQ) (j : Nat) : Bool := !(Q j).isEmpty && decide (I 24 j = -1) && decide (¬ nxb I (I 25 j) = -1)
def mwkI (I : sm_I) (Q : mQ) (n : Nat) : sm_I := fun c j => if (c = 24 ∨ c = 25) ∧ j < n ∧ wkc I Q j = true then nxb I (I 25 j) else I c j
theorem mwkI_o {I : sm_I} {Q : mQ} {n c : Nat} (h1 : c ≠ 24) (h2 : c ≠ 25) : mwkI I Q n c = I c := by
  funext j
  simp [mwkI, h1, h2]
theorem CD_wk {w : Nat → Bool} {n : Nat} {m0 : mg} {h : am_Hp} {I : sm_I} {Q : mQ} {Z : mZ} {X X2 : sm_X} {ow : ow_T} {sb : Nat} (c : CD w 32 m0 h I Q Z X ow sb) (h1 : ∀ c j, c ≠ 203 → c ≠ 204 → X2 c j = X c j) (h2 : ∀ j, j < 16 → X2 203 j = .int (mwkI I Q n 24 j) ∧ X2 204 j = .int (mwkI I Q n 25 j)) : CD w 32 m0 h (mwkI I Q n) Q Z X2 ow sb := by
  obtain ⟨k1, k2, k3, k4, k5, k6, k7⟩ := c
  have f : ∀ c, c ≠ 203 → c ≠ 204 → X2 c = X c := fun c hc hd => by funext j; exact h1 c j hc hd
  have o : ∀ c, c ≠ 24 → c ≠ 25 → mwkI I Q n c = I c := fun c a b => mwkI_o a b
  refine ⟨k1, fun j hj => LK_c (k2 j hj) (h1 _ _ (by omega) (by omega)) (h1 _ _ (by omega) (by omega)) (h1 _ _ (by omega) (by omega)), fun j hj => ⟨fun z => absurd z (by omega), fun z => absurd z (by omega), fun _ _ => h2 j hj⟩, DT_c k4 (o _ (by omega) (by omega)) (o _ (by omega) (by omega)) (o _ (by omega) (by omega)) (by rw [o _ (by omega) (by omega)]) (o _ (by omega) (by omega)) (f _ (by omega) (by omega)) (f _ (by omega) (by omega)) (f _ (by omega) (by omega)), SP_c k5 (o _ (by omega) (by omega)) (o _ (by omega) (by omega)) (o _ (by omega) (by omega)) (o _ (by omega) (by omega)) (o _ (by omega) (by omega)) (f _ (by omega) (by omega)) (f _ (by omega) (by omega)) (f _ (by omega) (by omega)), fun t ht => TM_c (k6 t ht) (o _ (by omega) (by omega)) (o _ (by omega) (by omega)) (o _ (by omega) (by omega)) (o _ (by omega) (by omega)) (o _ (by omega) (by omega)) (f _ (by omega) (by omega)) (f _ (by omega) (by omega)) (f _ (by omega) (by omega)) (f _ (by omega) (by omega)) (f _ (by omega) (by omega)), fun k hk => ?_⟩
  have := k7 k hk
  unfold prk at this ⊢
  rw [o _ (by omega) (by omega)]
  exact this
