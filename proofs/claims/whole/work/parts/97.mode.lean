/-! a message arrives: the front of a link -/
def mlvI (I : sm_I) (l : Nat) (v : Int32) : sm_I := uI (uI I 24 l v) 25 l v
def mlv (l : Nat) (M : mM) : mM := (mlvI M.1 l (if (M.2.1 l).tail = [] then -1 else fbu M.1), uQ M.2.1 l (M.2.1 l).tail, M.2.2)
def mwt (l : Nat) (M : mM) : mM := (uI M.1 24 l (-1), M.2)
def mar1 (lost : Bool) (l : Nat) (M : mM) : mM := if lost = true then mwt l M else mlv l M
def mar2 (l : Nat) (n : Int32) (M : mM) : mM := (uI M.1 10 l n, M.2)
def marr (f p : Nat) (lost : Bool) (M : mM) : Int32 × mM := match M.2.1 (4 * f + p) with
  | [] => (0, M)
  | m :: _ => if M.1 24 (4 * f + p) = -1 then (0, M) else if m.1 1 ≤ M.1 10 (4 * f + p) then (2, mar1 lost (4 * f + p) M) else (1, mset 10 (mdel f p m (mar2 (4 * f + p) (m.1 1) (mar1 lost (4 * f + p) M))))
theorem cq_32 {m0 : mg} {Q : mQ} {l : Nat} (hl : l < 16) : cq 32 m0 Q l = Q l := by
  unfold cq
  rw [if_neg (by omega)]
theorem mlvI_o {I : sm_I} {l c : Nat} {v : Int32} (h1 : c ≠ 24) (h2 : c ≠ 25) : mlvI I l v c = I c := by
  funext j
  simp [mlvI, uI, h1, h2]
theorem mlvI_l {I : sm_I} {l c j : Nat} {v : Int32} (h : j ≠ l) : mlvI I l v c j = I c j := by
  simp [mlvI, uI, h]
theorem mlvI_b {I : sm_I} {l c : Nat} {v : Int32} (h : c = 24 ∨ c = 25) : mlvI I l v c l = v := by
  rcases h with rfl | rfl <;> simp [mlvI, uI]
theorem mlvI_sm {h : am_Hp} {I : sm_I} {X : sm_X} {l : Nat} {v : Int32} (s : sm tbc h I X) : sm tbc h (mlvI I l v) X := sm_12 (sm_12 s rfl) rfl
theorem CD_in {w : Nat → Bool} {l : Nat} {m0 m : mg} {q : List mg} {h : am_Hp} {I : sm_I} {Q : mQ} {Z : mZ} {X : sm_X} {ow : ow_T} {sb : Nat} (c : CD w 32 m0 h I Q Z X ow sb) (hl : l < 16) (hq : Q l = m :: q) : CD w l m h (mlvI I l (if q = [] then -1 else fbu I)) (uQ Q l q) Z X ow sb := by
  obtain ⟨k1, k2, k3, k4, k5, k6, k7⟩ := c
  refine ⟨k1, fun j hj => ?_, fun j hj => ?_, DT_c k4 (mlvI_o (by omega) (by omega)) (mlvI_o (by omega) (by omega)) (mlvI_o (by omega) (by omega)) (by rw [mlvI_o (by omega) (by omega)]) (mlvI_o (by omega) (by omega)) rfl rfl rfl, SP_c k5 (mlvI_o (by omega) (by omega)) (mlvI_o (by omega) (by omega)) (mlvI_o (by omega) (by omega)) (mlvI_o (by omega) (by omega)) (mlvI_o (by omega) (by omega)) rfl rfl rfl, fun t ht => TM_c (k6 t ht) (mlvI_o (by omega) (by omega)) (mlvI_o (by omega) (by omega)) (mlvI_o (by omega) (by omega)) (mlvI_o (by omega) (by omega)) (mlvI_o (by omega) (by omega)) rfl rfl rfl rfl rfl, fun k hk => ?_⟩
  · have := k2 j hj
    rw [cq_32 hj] at this
    by_cases e : j = l
    · subst e
      rw [hq] at this
      unfold cq uQ
      rw [if_pos rfl, if_pos rfl]
      exact this
    · unfold cq uQ
      rw [if_neg (by omega), if_neg e]
      exact this
  · obtain ⟨-, -, b3⟩ := k3 j hj
    obtain ⟨y1, y2⟩ := b3 (by omega) (by omega)
    have ef : fbu (mlvI I l (if q = [] then -1 else fbu I)) = fbu I := fbu_c (mlvI_o (by omega) (by omega))
    by_cases e : j = l
    · subst e
      refine ⟨fun _ => ⟨⟨_, _, y1, y2⟩, ?_, ?_⟩, fun z => absurd z (by omega), fun z => absurd rfl z⟩
      · rw [mlvI_b (Or.inl rfl), ef]; simp [uQ]
      · rw [mlvI_b (Or.inr rfl), ef]; simp [uQ]
    · refine ⟨fun z => absurd z.symm e, fun z => absurd z (by omega), fun _ _ => ?_⟩
      rw [mlvI_l e, mlvI_l e]
      exact ⟨y1, y2⟩
  · have := k7 k hk
    unfold prk at this ⊢
    rw [mlvI_o (by omega) (by omega)]
    exact this
theorem CD_in2 {w : Nat → Bool} {l : Nat} {m0 m : mg} {q : List mg} {h : am_Hp} {I : sm_I} {Q : mQ} {Z : mZ} {X : sm_X} {ow : ow_T} {sb : Nat} (c : CD w 32 m0 h I Q Z X ow sb) (hl : l < 16) (hq : Q l = m :: q) : CD w (16 + l) m h (uI I 24 l (-1)) Q Z X ow sb := by
  obtain ⟨k1, k2, k3, k4, k5, k6, k7⟩ := c
  refine ⟨k1, fun j hj => ?_, fun j hj => ?_, DT_c k4 rfl rfl rfl rfl rfl rfl rfl rfl, SP_c k5 rfl rfl rfl rfl rfl rfl rfl rfl, fun t ht => TM_c (k6 t ht) rfl rfl rfl rfl rfl rfl rfl rfl rfl rfl, k7⟩
  · have := k2 j hj
    rw [cq_32 hj] at this
    unfold cq
    rw [if_neg (by omega)]
    exact this
  · obtain ⟨-, -, b3⟩ := k3 j hj
    obtain ⟨y1, y2⟩ := b3 (by omega) (by omega)
    by_cases e : j = l
    · subst e
      refine ⟨fun z => absurd z (by omega), fun _ => ⟨⟨_, y1⟩, y2, by rw [hq]; simp, by simp [uI]⟩, fun _ z => absurd rfl z⟩
    · refine ⟨fun z => absurd z (by omega), fun z => absurd z (by omega), fun _ _ => ?_⟩
      have : uI I 24 l (-1) 24 j = I 24 j := by simp [uI, e]
      rw [this]
      exact ⟨y1, y2⟩
theorem CD_rf {w : Nat → Bool} {e l : Nat} {m0 m1 : mg} {h : am_Hp} {I : sm_I} {Q : mQ} {Z : mZ} {X X2 : sm_X} {ow : ow_T} {sb : Nat} (c : CD w e m0 h I Q Z X ow sb) (hl : l < 16) (he : e = l ∨ e = 16 + l) (hXl : ∀ c j, j ≠ l → X2 c j = X c j) (hXc : ∀ c, 205 ≤ c → X2 c = X c) (h3 : X2 203 l = .int (I 24 l)) (h4 : X2 204 l = .int (I 25 l)) (hq : LK h ow sb l X2 (Q l)) : CD w 32 m1 h I Q Z X2 ow sb := by
  obtain ⟨k1, k2, k3, k4, k5, k6, k7⟩ := c
  refine ⟨k1, fun j hj => ?_, fun j hj => ?_, DT_c k4 rfl rfl rfl rfl rfl (hXc _ (by omega)) (hXc _ (by omega)) (hXc _ (by omega)), SP_c k5 rfl rfl rfl rfl rfl (hXc _ (by omega)) (hXc _ (by omega)) (hXc _ (by omega)), fun t ht => TM_c (k6 t ht) rfl rfl rfl rfl rfl (hXc _ (by omega)) (hXc _ (by omega)) (hXc _ (by omega)) (hXc _ (by omega)) (hXc _ (by omega)), k7⟩
  · rw [cq_32 hj]
    by_cases ej : j = l
    · subst ej; exact hq
    · have := k2 j hj
      rw [show cq e m0 Q j = Q j by unfold cq; rw [if_neg (by omega)]] at this
      exact LK_c this (hXl _ _ ej) (hXl _ _ ej) (hXl _ _ ej)
  · refine ⟨fun z => absurd z (by omega), fun z => absurd z (by omega), fun _ _ => ?_⟩
    by_cases ej : j = l
    · subst ej; exact ⟨h3, h4⟩
    · obtain ⟨-, -, b3⟩ := k3 j hj
      rw [hXl _ _ ej, hXl _ _ ej]
      exact b3 (by omega) (by omega)
theorem LK_hd {h : am_Hp} {ow : ow_T} {sb l : Nat} {X : sm_X} {m : mg} {q : List mg} (k : LK h ow sb l X (m :: q)) : ∃ (x : Nat) (L : List Nat), X 200 l = .ref x ∧ L.length = q.length ∧ X 202 l = .int (nI (L.length + 1)) ∧ MC h ow sb l x m (nxv L 0) ∧ (L = [] ∨ X 201 l = nxv L (L.length - 1)) ∧ ∀ (i y : Nat) (m : mg), L[i]? = some y → q[i]? = some m → MC h ow sb l y m (nxv L (i + 1)) := by
  obtain ⟨L, k1, k2, k3, k4, k5⟩ := k
  cases L with
  | nil => simp at k1
  | cons x L =>
    refine ⟨x, L, k2, by simpa using k1, k4, k5 0 x m rfl rfl, ?_, fun i y m1 a b => k5 (i + 1) y m1 a b⟩
    by_cases e : L = []
    · exact Or.inl e
    · refine Or.inr ?_
      rw [k3, if_neg (by simp)]
      have := List.length_pos_iff.mpr e
      unfold nxv
      rw [show (x :: L).length - 1 = (L.length - 1) + 1 by simp; omega]
      rfl
theorem CD_m0 {w : Nat → Bool} {m0 m1 : mg} {h : am_Hp} {I : sm_I} {Q : mQ} {Z : mZ} {X : sm_X} {ow : ow_T} {sb : Nat} (c : CD w 32 m0 h I Q Z X ow sb) : CD w 32 m1 h I Q Z X ow sb := by
  obtain ⟨k1, k2, k3, k4, k5, k6, k7⟩ := c
  refine ⟨k1, fun j hj => ?_, fun j hj => k3 j hj, k4, k5, k6, k7⟩
  have := k2 j hj
  rw [cq_32 hj] at this ⊢
  exact this
