/-! a processor is declared down -/
def mdrp (k : Nat) (M : mM) : mM := (uI (uI M.1 13 k 0) 12 k (-1), M.2)
def mpri (k : Nat) (v : Int32) (M : mM) : mM := (uI (uI M.1 11 k v) 40 k 0, M.2)
def mtos (M : mM) : mM := if row1 M 0 3 = 0 then (uI (uI M.1 22 0 0) 22 1 0, M.2) else (uI (uI (uI M.1 22 0 0) 22 1 0) 16 0 2, M.2)
def mrpl (k : Nat) (M : mM) : mM := if ¬ M.1 12 k = -1 ∧ ¬ M.1 0 (ohn M.1 k) = 0 then (if k = 0 then mal (mtos (mpri 0 (nI (ohn M.1 0)) (mdrp 0 M))) else mgo (k - 1) (mpri k (nI (ohn M.1 k)) (mdrp k M))) else mpri k (-1) (mdrp k M)
def mdA (k p : Nat) (M : mM) : mM := if M.1 11 k = nI p then mrpl k M else M
def mdB (k p : Nat) (M : mM) : mM := if (¬ M.1 12 k = -1 ∨ ¬ M.1 13 k = 0) ∧ ohI M.1 k = nI p then mstw k (mdrp k M) else M
def mdc (p : Nat) (M : mM) : mM := mdB 2 p (mdB 1 p (mdB 0 p (mdA 2 p (mdA 1 p (mdA 0 p (uI M.1 1 p 1, M.2))))))
def RPH (k p : Nat) (M : mM) : Prop := M.1 11 k = nI p → (¬ M.1 12 k = -1 → M.1 40 k = 1) ∧ M.1 16 k = 0 ∧ (k = 0 → (∀ l, l < 16 → ∀ m, m ∈ M.2.1 l → (m.1 0 = 3 ∨ m.1 0 = 4) → ¬ m.1 5 = 0) ∧ ∀ t, t < 2 → M.1 16 (1 + t) = 2 → lv M.1 (1 + t) = true)
def STH (k : Nat) (M : mM) : Prop := (k = 0 → M.1 16 0 = 1 → M.1 22 0 = 0 ∧ M.1 22 1 = 0) ∧ (¬ k = 0 → M.1 16 k = 1 → lv M.1 k = true)
theorem lv_n {I : sm_I} {k : Nat} (h : I 11 k = -1) : lv I k = false := by
  simp [lv, h]
theorem lv_11 {I : sm_I} {k j : Nat} {v : Int32} (h : j ≠ k) : lv (uI I 11 k v) j = lv I j ∧ rwi (uI I 11 k v) j = rwi I j ∧ rwo (uI I 11 k v) j = rwo I j := by
  have e : uI I 11 k v 11 j = I 11 j := by simp [uI, h]
  unfold lv rwi rwo pn
  rw [e]
  exact ⟨rfl, rfl, rfl⟩
theorem prk_11 {I : sm_I} {k j : Nat} {v : Int32} (h : prk I j) (hv : j = k → v = -1 ∨ v = (if k = 0 then 0 else 2) ∨ v = (if k = 0 then 1 else 3)) : prk (uI I 11 k v) j := by
  unfold prk at h ⊢
  by_cases e : j = k
  · subst e
    have : uI I 11 j v 11 j = v := by simp [uI]
    rw [this]
    exact hv rfl
  · have : uI I 11 k v 11 j = I 11 j := by simp [uI, e]
    rw [this]
    exact h
/-- a pair is without a primary -/
theorem CD_no {w : Nat → Bool} {e k : Nat} {m0 : mg} {h : am_Hp} {I : sm_I} {Q : mQ} {Z : mZ} {X : sm_X} {ow : ow_T} {sb : Nat} (c : CD w e m0 h I Q Z X ow sb) (hk : k < 3) : CD w e m0 h (uI (uI I 11 k (-1)) 40 k 0) Q Z X ow sb := by
  obtain ⟨k1, k2, k3, k4, ⟨s1, s2, s3, s4⟩, k6, k7⟩ := c
  have hl : lv (uI I 11 k (-1)) k = false := lv_n (by simp [uI])
  refine ⟨k1, k2, k3, k4, ⟨s1, ?_, ?_, s4⟩, fun t ht => ?_, fun j hj => ?_⟩
  · by_cases e : 0 = k
    · subst e
      intro z
      have z2 : lv (uI I 11 0 (-1)) 0 = true := z
      rw [hl] at z2; cases z2
    · obtain ⟨a, b, c⟩ := lv_11 (I := I) (v := -1) e
      show lv (uI I 11 k (-1)) 0 = true → St h ow sb (Z (rwi (uI I 11 k (-1)) 0))
      rw [a, b]; exact s2
  · by_cases e : 0 = k
    · subst e
      intro z
      exact absurd z (by simp [uI])
    · obtain ⟨a, b, c⟩ := lv_11 (I := I) (v := -1) e
      have z40 : uI (uI I 11 k (-1)) 40 k 0 40 0 = I 40 0 := by simp [uI, e]
      rw [z40]
      show I 40 0 = 1 → ∃ b, X 209 0 = .ref b ∧ b ≠ sb ∧ St h ow b (Z (rwo (uI I 11 k (-1)) 0))
      rw [c]; exact s3
  · obtain ⟨a1, a2, a3, a4⟩ := k6 t ht
    refine ⟨?_, ?_, a3, a4⟩
    · by_cases e : 1 + t = k
      · subst e
        intro z
        have z2 : lv (uI I 11 (1 + t) (-1)) (1 + t) = true := z
        rw [hl] at z2; cases z2
      · obtain ⟨a, b, c⟩ := lv_11 (I := I) (v := -1) e
        show lv (uI I 11 k (-1)) (1 + t) = true → TR h ow t (X 211 t) (X 212 t) (Z (rwi (uI I 11 k (-1)) (1 + t))).1
        rw [a, b]; exact a1
    · by_cases e : 1 + t = k
      · subst e
        intro z
        exact absurd z (by simp [uI])
      · obtain ⟨a, b, c⟩ := lv_11 (I := I) (v := -1) e
        have z40 : uI (uI I 11 k (-1)) 40 k 0 40 (1 + t) = I 40 (1 + t) := by simp only [uI]; rw [if_neg (by omega), if_neg (by omega)]
        rw [z40]
        show I 40 (1 + t) = 1 → TR h ow t (X 213 t) (X 214 t) (Z (rwo (uI I 11 k (-1)) (1 + t))).1
        rw [c]; exact a2
  · exact prk_11 (k7 j hj) (fun _ => Or.inl rfl)
/-- a terminal's backup takes over -/
theorem CD_to {w : Nat → Bool} {e t : Nat} {m0 : mg} {h : am_Hp} {I : sm_I} {Q : mQ} {Z : mZ} {X : sm_X} {ow : ow_T} {sb : Nat} {v : Int32} (c : CD w e m0 h I Q Z X ow sb) (ht : t < 2) (h40 : I 40 (1 + t) = 1) (hv : v = 2 ∨ v = 3) (hr : rwi (uI I 11 (1 + t) v) (1 + t) = rwo I (1 + t)) : CD w e m0 h (uI (uI I 11 (1 + t) v) 40 (1 + t) 0) Q Z (uX (uX X 211 t (X 213 t)) 212 t (X 214 t)) ow sb := by
  obtain ⟨k1, k2, k3, k4, ⟨s1, s2, s3, s4⟩, k6, k7⟩ := c
  obtain ⟨a, b, c⟩ := lv_11 (I := I) (k := 1 + t) (j := 0) (v := v) (by omega)
  have z40 : uI (uI I 11 (1 + t) v) 40 (1 + t) 0 40 0 = I 40 0 := by simp only [uI]; rw [if_neg (by omega), if_neg (by omega)]
  refine ⟨k1, fun l hl => LK_c (k2 l hl) rfl rfl rfl, k3, DT_c k4 rfl rfl rfl rfl rfl rfl rfl rfl, ⟨s1, ?_, ?_, s4⟩, fun u hu => ?_, fun j hj => prk_11 (k7 j hj) (fun e => Or.inr (by rw [if_neg (by omega), if_neg (by omega)]; exact hv))⟩
  · show lv (uI I 11 (1 + t) v) 0 = true → St h ow sb (Z (rwi (uI I 11 (1 + t) v) 0))
    rw [a, b]; exact s2
  · rw [z40]
    show I 40 0 = 1 → ∃ b, X 209 0 = .ref b ∧ b ≠ sb ∧ St h ow b (Z (rwo (uI I 11 (1 + t) v) 0))
    rw [c]; exact s3
  · obtain ⟨a1, a2, a3, a4⟩ := k6 u hu
    by_cases eu : u = t
    · subst eu
      refine ⟨fun _ => ?_, fun z => absurd z (by simp [uI]), a3, a4⟩
      show TR h ow u (uX (uX X 211 u (X 213 u)) 212 u (X 214 u) 211 u) (uX (uX X 211 u (X 213 u)) 212 u (X 214 u) 212 u) (Z (rwi (uI I 11 (1 + u) v) (1 + u))).1
      rw [hr]
      simp only [uX]
      exact a2 h40
    · obtain ⟨a, b, c⟩ := lv_11 (I := I) (k := 1 + t) (j := 1 + u) (v := v) (by omega)
      have y40 : uI (uI I 11 (1 + t) v) 40 (1 + t) 0 40 (1 + u) = I 40 (1 + u) := by simp only [uI]; rw [if_neg (by omega), if_neg (by omega)]
      have x1 : uX (uX X 211 t (X 213 t)) 212 t (X 214 t) 211 u = X 211 u := by simp [uX, eu]
      have x2 : uX (uX X 211 t (X 213 t)) 212 t (X 214 t) 212 u = X 212 u := by simp [uX, eu]
      refine ⟨?_, ?_, a3, a4⟩
      · show lv (uI I 11 (1 + t) v) (1 + u) = true → TR h ow u (uX (uX X 211 t (X 213 t)) 212 t (X 214 t) 211 u) (uX (uX X 211 t (X 213 t)) 212 t (X 214 t) 212 u) (Z (rwi (uI I 11 (1 + t) v) (1 + u))).1
        rw [a, b, x1, x2]; exact a1
      · rw [y40]
        show I 40 (1 + u) = 1 → TR h ow u (X 213 u) (X 214 u) (Z (rwo (uI I 11 (1 + t) v) (1 + u))).1
        rw [c]; exact a2
theorem MF_sb {h : am_Hp} {ow : ow_T} {sb sb2 : Nat} {m : mg} {pr td : Int32} {vq va vs : Value} (k : MF h ow sb m pr td vq va vs) (hn : (m.1 0 = 3 ∨ m.1 0 = 4) → ¬ m.1 5 = 0) : MF h ow sb2 m pr td vq va vs := by
  obtain ⟨k1, k2, k3, k4⟩ := k
  refine ⟨k1, k2, k3, fun c => ?_⟩
  obtain ⟨a1, a2, -, a4, a5⟩ := k4 c
  exact ⟨a1, a2, fun z => absurd z (hn c), a4, a5⟩
/-- the store's backup takes over -/
theorem CD_tos {w : Nat → Bool} {b : Nat} {m0 : mg} {h : am_Hp} {I : sm_I} {Q : mQ} {Z : mZ} {X : sm_X} {ow : ow_T} {sb : Nat} {v : Int32} (c : CD w 32 m0 h I Q Z X ow sb) (hb : X 209 0 = .ref b) (hst : St h ow b (Z (rwo I 0))) (hv : v = 0 ∨ v = 1) (hr : rwi (uI I 11 0 v) 0 = rwo I 0) (hn : ∀ l, l < 16 → ∀ m, m ∈ Q l → (m.1 0 = 3 ∨ m.1 0 = 4) → ¬ m.1 5 = 0) : CD w 32 m0 h (uI (uI I 11 0 v) 40 0 0) Q Z (uX X 208 0 (.ref b)) ow b := by
  obtain ⟨k1, k2, k3, k4, ⟨s1, s2, s3, s4⟩, k6, k7⟩ := c
  refine ⟨k1, fun l hl => ?_, k3, DT_c k4 rfl rfl rfl rfl rfl rfl rfl rfl, ⟨by simp [uX], fun _ => ?_, fun z => absurd z (by simp [uI]), s4⟩, fun u hu => ?_, fun j hj => prk_11 (k7 j hj) (fun e => Or.inr (by rw [if_pos rfl, if_pos rfl]; exact hv))⟩
  · have := k2 l hl
    rw [cq_32 hl] at this ⊢
    obtain ⟨L, l1, l2, l3, l4, l5⟩ := this
    refine ⟨L, l1, l2, l3, l4, fun i x m a b9 => ?_⟩
    obtain ⟨o1, pr, td, vq, va, vs, c1, f1⟩ := l5 i x m a b9
    exact ⟨o1, pr, td, vq, va, vs, c1, MF_sb f1 (hn l hl m (List.mem_of_getElem? b9))⟩
  · show St h ow b (Z (rwi (uI I 11 0 v) 0))
    rw [hr]; exact hst
  · obtain ⟨a1, a2, a3, a4⟩ := k6 u hu
    obtain ⟨a, b, c⟩ := lv_11 (I := I) (k := 0) (j := 1 + u) (v := v) (by omega)
    have y40 : uI (uI I 11 0 v) 40 0 0 40 (1 + u) = I 40 (1 + u) := by simp only [uI]; rw [if_neg (by omega), if_neg (by omega)]
    refine ⟨?_, ?_, a3, a4⟩
    · show lv (uI I 11 0 v) (1 + u) = true → TR h ow u (X 211 u) (X 212 u) (Z (rwi (uI I 11 0 v) (1 + u))).1
      rw [a, b]; exact a1
    · rw [y40]
      show I 40 (1 + u) = 1 → TR h ow u (X 213 u) (X 214 u) (Z (rwo (uI I 11 0 v) (1 + u))).1
      rw [c]; exact a2
/-- a processor comes up -/
theorem CD_up1 {w : Nat → Bool} {p e : Nat} {m0 : mg} {h : am_Hp} {I : sm_I} {Q : mQ} {Z : mZ} {X : sm_X} {ow : ow_T} {sb : Nat} (c : CD w e m0 h I Q Z X ow sb) (hp : p < 4) (hn : ∀ k, k < 3 → ¬ I 11 k = nI p) : CD w e m0 h (uI I 0 p 1) Q Z X ow sb := by
  have key : ∀ k, k < 3 → prk I k → lv (uI I 0 p 1) k = true → lv I k = true := by
    intro k hk pk z
    unfold lv at z ⊢
    have e : pn (uI I 0 p 1) k = pn I k := rfl
    rw [e] at z
    simp at z ⊢
    refine ⟨z.1, fun y => z.2 ?_⟩
    have hne : pn I k ≠ p := by
      intro ee
      have z1 : ¬ I 11 k = -1 := z.1
      have := hn k hk
      unfold pn at ee
      rcases pk with q | q | q
      · exact z1 q
      · apply this; rw [q] at ee ⊢; subst ee; split <;> rfl
      · apply this; rw [q] at ee ⊢; subst ee; split <;> rfl
    simp only [uI]
    rw [if_neg (fun q => hne q.2)]
    exact y
  obtain ⟨k1, k2, k3, k4, ⟨s1, s2, s3, s4⟩, k6, k7⟩ := c
  refine ⟨k1, k2, k3, k4, ⟨s1, fun z => s2 (key 0 (by omega) (k7 0 (by omega)) z), s3, s4⟩, fun t ht => ?_, k7⟩
  obtain ⟨a1, a2, a3, a4⟩ := k6 t ht
  exact ⟨fun z => a1 (key (1 + t) (by omega) (k7 (1 + t) (by omega)) z), a2, a3, a4⟩
def msq (k p : Nat) (M : mM) : mM := if (lv M.1 k = true ∧ M.1 12 k = -1 ∧ M.1 13 k = 0) ∧ ohI M.1 k = nI p then msC k M else M
def mspr (p : Nat) (M : mM) : mM := msq 2 p (msq 1 p (msq 0 p (uI (uI M.1 0 p 1) 1 p 0, M.2)))
