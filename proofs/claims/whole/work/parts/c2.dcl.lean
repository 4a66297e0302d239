/-! a processor is declared: what becomes of its pairs -/
theorem nI_m1 {p : Nat} (hp : p < 4) : ¬ nI p = (-1 : Int32) := by
  have : p = 0 ∨ p = 1 ∨ p = 2 ∨ p = 3 := by omega
  rcases this with rfl | rfl | rfl | rfl <;> decide
theorem oh_prk {I J : sm_I} {k : Nat} (hk : k < 3) (hp : prk I k) (hn : ¬ I 11 k = -1) (e : J 11 k = nI (ohn I k)) : prk J k ∧ ¬ J 11 k = -1 ∧ pn J k = ohn I k ∧ ohn J k = pn I k ∧ rwi J k = rwo I k ∧ rwo J k = rwi I k ∧ ohI J k = nI (pn I k) := by
  have : k = 0 ∨ k = 1 ∨ k = 2 := by omega
  rcases this with rfl | rfl | rfl <;> rcases hp with z | z | z <;> first | exact absurd z hn | (
    simp only [ohn, z, if_neg (show ¬ (1 : Nat) = 0 by decide), if_neg (show ¬ (2 : Nat) = 0 by decide), if_pos (show (0 : Nat) = 0 from rfl)] at e
    simp only [prk, pn, ohn, ohI, rwi, rwo, e, z, if_neg (show ¬ (1 : Nat) = 0 by decide), if_neg (show ¬ (2 : Nat) = 0 by decide), if_pos (show (0 : Nat) = 0 from rfl)]
    decide)
/-- the other takes over; 16 as its state says -/
def toI (k : Nat) (v : Int32) (I : sm_I) : sm_I := uI (uI (uI (uI (uI I 11 k (nI (ohn I k))) 12 k (-1)) 13 k 0) 40 k 0) 16 k v
def to0 (v : Int32) (I : sm_I) : sm_I := uI (uI (toI 0 v I) 22 0 0) 22 1 0
theorem toI_o {k c j : Nat} {v : Int32} {I : sm_I} (h : ¬ (j = k ∧ (c = 11 ∨ c = 12 ∨ c = 13 ∨ c = 16 ∨ c = 40))) : toI k v I c j = I c j := by
  unfold toI
  simp only [uI]
  rw [if_neg (by omega), if_neg (by omega), if_neg (by omega), if_neg (by omega), if_neg (by omega)]
theorem toI_s {k : Nat} {v : Int32} {I : sm_I} : toI k v I 11 k = nI (ohn I k) ∧ toI k v I 12 k = -1 ∧ toI k v I 13 k = 0 ∧ toI k v I 40 k = 0 ∧ toI k v I 16 k = v := by
  unfold toI
  refine ⟨?_, ?_, ?_, ?_, uI_s⟩
  · rw [uI_c (by decide), uI_c (by decide), uI_c (by decide), uI_c (by decide), uI_s]
  · rw [uI_c (by decide), uI_c (by decide), uI_c (by decide), uI_s]
  · rw [uI_c (by decide), uI_c (by decide), uI_s]
  · rw [uI_c (by decide), uI_s]
/-- what K3 asks of a pair that has no backup -/
theorem K3_nb {I : sm_I} {k : Nat} (hp : prk I k) (h12 : I 12 k = -1) (h13 : I 13 k = 0) (h14 : b01 (I 14 k)) (h16 : I 16 k = 0 ∨ I 16 k = 2) (hl : lv I k = false → I 16 k = 0) : K3 I k := by
  refine ⟨hp, Or.inl h13, h14, h16.elim Or.inl (fun z => Or.inr (Or.inr z)), fun z => absurd h12 z, fun z => ?_, hl, fun _ => h13⟩
  · rcases h16 with e | e <;> rw [e] at z <;> exact absurd z (by decide)
theorem MID_toT {X t p : Nat} {M : mM} (k : MID X M) (ht : t < 2) (hp : p < 4) (h0 : M.1 0 p = 0) (h1 : M.1 11 (1 + t) = nI p) (h12 : ¬ M.1 12 (1 + t) = -1) (hu : ¬ M.1 0 (ohn M.1 (1 + t)) = 0) {v : Int32} (hv : v = (if (M.2.2 (rwo M.1 (1 + t))).1 1 = 1 then 2 else 0)) : MID X (toI (1 + t) v M.1, M.2) ∧ lv (toI (1 + t) v M.1) (1 + t) = true ∧ row1 (toI (1 + t) v M.1, M.2) (1 + t) = (M.2.2 (rwo M.1 (1 + t))).1 := by
  obtain ⟨I, Q, Z⟩ := M
  obtain ⟨a1, a2, a3, a4, a5, a6, a7, a8⟩ := k.2.2.1 (1 + t) (by omega)
  have hn1 : ¬ I 11 (1 + t) = -1 := (a5 h12).2.1
  obtain ⟨t1, t2, t3, t4, t5⟩ := toI_s (k := 1 + t) (v := v) (I := I)
  obtain ⟨o1, o2, o3, o4, o5, o6, o7⟩ := oh_prk (J := toI (1 + t) v I) (by omega) a1 hn1 t1
  obtain ⟨p1, p2, p3, p4, p5, -⟩ := prk_n (I := I) (by omega) a1 hn1
  have hpp : pn I (1 + t) = p := (nI_eq (by omega) (by omega)).mp (p4.symm.trans h1)
  have e0 : toI (1 + t) v I 0 = I 0 := funext (fun j => toI_o (by omega))
  have e1 : toI (1 + t) v I 1 = I 1 := funext (fun j => toI_o (by omega))
  have hlv : lv (toI (1 + t) v I) (1 + t) = true := by
    unfold lv
    rw [o3, e0]
    simp only [o2, not_false_eq_true, decide_true, Bool.true_and, decide_eq_true_eq]
    exact hu
  have er : row1 (toI (1 + t) v I, Q, Z) (1 + t) = (Z (rwo I (1 + t))).1 := by
    show (Z (rwi (toI (1 + t) v I) (1 + t))).1 = _
    rw [o5]
  have tb : TB (Z (rwo I (1 + t))) := k.2.2.2.2.2.2.1.2.2.1 _ (rwo_g ht).1 (rwo_g ht).2
  have hv2 : v = 0 ∨ v = 2 := by
    rw [hv]
    split
    · exact Or.inr rfl
    · exact Or.inl rfl
  refine ⟨MID_pr (k := 1 + t) (by omega) k (fun c j h _ => toI_o h) t2 t3 (NM_of k (by omega) hp h0 (Or.inl hpp)) (K3_nb o1 t2 t3 ?_ (by rw [t5]; exact hv2) (fun z => absurd (hlv.symm.trans z) (by decide))) (fun u hu' e => ?_) (fun e => by omega) (fun u _ _ z => absurd (t4.symm.trans z) (by decide)) (fun e => by omega), hlv, er⟩
  · rw [toI_o (by omega)]; exact a3
  · have : u = t := by omega
    subst this
    intro _
    rw [er]
    show (toI (1 + u) v I 16 (1 + u) = 2 → _) ∧ (toI (1 + u) v I 16 (1 + u) = 0 → _) ∧ (toI (1 + u) v I 16 (1 + u) = 1 → _) ∧ _ = toI (1 + u) v I 17 u
    rw [t5]
    refine ⟨fun z => ?_, fun z => ?_, fun z => ?_, ?_⟩
    · rw [hv] at z
      split at z
      · assumption
      · exact absurd z (by decide)
    · rw [hv] at z
      split at z
      · exact absurd z (by decide)
      · rename_i c
        exact b01_n tb.1 c
    · rcases hv2 with e | e <;> rw [e] at z <;> exact absurd z (by decide)
    · rw [toI_o (by omega)]
      exact (k.2.2.2.2.2.2.1.2.2.2.2 u ht).1 (a5 h12).2.2.1
/-- the store's other process takes over -/
theorem MID_to0 {X p : Nat} {M : mM} (k : MID X M) (hp : p < 4) (h0 : M.1 0 p = 0) (h1 : M.1 11 0 = nI p) (h12 : ¬ M.1 12 0 = -1) (hu : ¬ M.1 0 (ohn M.1 0) = 0) {v : Int32} (hv : v = (if (M.2.2 (rwo M.1 0)).1 3 = 0 then 0 else 2)) : MID X (to0 v M.1, M.2) ∧ lv (to0 v M.1) 0 = true ∧ rwi (to0 v M.1) 0 = rwo M.1 0 ∧ to0 v M.1 21 0 = 0 := by
  obtain ⟨I, Q, Z⟩ := M
  obtain ⟨a1, a2, a3, a4, a5, a6, a7, a8⟩ := k.2.2.1 0 (by omega)
  have hn1 : ¬ I 11 0 = -1 := (a5 h12).2.1
  obtain ⟨s1, s2, s3, s4, s5⟩ := toI_s (k := 0) (v := v) (I := I)
  have tt : ∀ c j, c ≠ 22 → to0 v I c j = toI 0 v I c j := fun c j h => by
    unfold to0
    rw [uI_c h, uI_c h]
  have t1 := (tt 11 0 (by decide)).trans s1
  have t2 := (tt 12 0 (by decide)).trans s2
  have t3 := (tt 13 0 (by decide)).trans s3
  have t4 := (tt 40 0 (by decide)).trans s4
  have t5 := (tt 16 0 (by decide)).trans s5
  have t22 : ∀ d, d < 2 → to0 v I 22 d = nI 0 := fun d hd => by
    have : d = 0 ∨ d = 1 := by omega
    rcases this with rfl | rfl <;> rfl
  obtain ⟨o1, o2, o3, o4, o5, o6, o7⟩ := oh_prk (J := to0 v I) (by omega) a1 hn1 t1
  obtain ⟨p1, p2, p3, p4, p5, -⟩ := prk_n (I := I) (by omega) a1 hn1
  have hpp : pn I 0 = p := (nI_eq (by omega) (by omega)).mp (p4.symm.trans h1)
  have oth : ∀ c j, c ≠ 22 → ¬ (j = 0 ∧ (c = 11 ∨ c = 12 ∨ c = 13 ∨ c = 16 ∨ c = 40)) → to0 v I c j = I c j := fun c j h h' => (tt c j h).trans (toI_o h')
  have e0 : to0 v I 0 = I 0 := funext (fun j => oth 0 j (by decide) (by omega))
  have e1 : to0 v I 1 = I 1 := funext (fun j => oth 1 j (by decide) (by omega))
  have hlvI : lv I 0 = false := by
    cases e : lv I 0 with
    | false => rfl
    | true =>
      have := (lv_up e).2
      rw [hpp, show I 0 p = 0 from h0] at this
      exact absurd rfl this
  obtain ⟨c1, c2, c3, c4, c5, c6, c7⟩ := k.2.2.2.2.1
  obtain ⟨d1, d2⟩ := c5 hlvI
  have hlv : lv (to0 v I) 0 = true := by
    unfold lv
    rw [o3, e0]
    simp only [o2, not_false_eq_true, decide_true, Bool.true_and, decide_eq_true_eq]
    exact hu
  have hv2 : v = 0 ∨ v = 2 := by
    rw [hv]
    split
    · exact Or.inl rfl
    · exact Or.inr rfl
  have e21 : to0 v I 21 0 = 0 := (oth 21 0 (by decide) (by omega)).trans d1
  have e23 : to0 v I 23 0 = 0 := (oth 23 0 (by decide) (by omega)).trans d2
  refine ⟨MID_pr (k := 0) (by omega) k (fun c j h h' => ?_) t2 t3 (NM_of k (by omega) hp h0 (Or.inl hpp)) (K3_nb o1 t2 t3 ?_ (by rw [t5]; exact hv2) (fun z => absurd (hlv.symm.trans z) (by decide))) (fun u _ e => by omega) (fun _ => ?_) (fun u _ e => by omega) (fun _ _ d hd h5 => ?_), hlv, o5, e21⟩
  · exact oth c j (fun e => by subst e; exact absurd rfl (h' (Or.inr (Or.inl rfl)))) h
  · rw [oth 14 0 (by decide) (by omega)]; exact a3
  · have er : row1 (to0 v I, Q, Z) 0 = (Z (rwo I 0)).1 := by
      show (Z (rwi (to0 v I) 0)).1 = _
      rw [o5]
    unfold K5
    rw [er]
    simp only []
    rw [t5, e21, e23]
    refine ⟨fun _ => ?_, fun z => ?_, Or.inl rfl, fun z => absurd z (by decide), fun _ => ⟨rfl, rfl⟩, ⟨0, by omega, rfl, fun k hk => by omega⟩, fun _ d hd _ => ⟨0, Nat.zero_le _, t22 d hd⟩⟩
    · rw [hv]
      by_cases c : (Z (rwo I 0)).1 3 = 0
      · exact ⟨fun _ => if_pos c, fun _ => c⟩
      · exact ⟨fun z => absurd z c, fun z => by rw [if_neg (show ¬ ((I, Q, Z).2.2 (rwo (I, Q, Z).1 0)).1 3 = 0 from c)] at z; exact absurd z (by decide)⟩
    · rcases hv2 with e | e <;> rw [e] at z <;> exact absurd z (by decide)
  · refine ⟨0, ?_, fun _ => t22 d hd⟩
    rw [o5]
    exact (k.2.2.2.2.2.2.2.2.1 d hd h5).2.2.1 h12
/-- nobody takes over -/
def drI (k : Nat) (I : sm_I) : sm_I := mstI k (uI (uI (uI (uI I 11 k (-1)) 12 k (-1)) 13 k 0) 40 k 0)
theorem MID_dr {X k p : Nat} {M : mM} (k0 : MID X M) (hk : k < 3) (hp : p < 4) (h0 : M.1 0 p = 0) (h1 : M.1 11 k = nI p) : MID X (drI k M.1, M.2) := by
  obtain ⟨I, Q, Z⟩ := M
  obtain ⟨a1, a2, a3, a4, a5, a6, a7, a8⟩ := k0.2.2.1 k hk
  have hn1 : ¬ I 11 k = -1 := fun z => nI_m1 hp (h1.symm.trans z)
  obtain ⟨p1, p2, p3, p4, p5, -⟩ := prk_n (I := I) hk a1 hn1
  have hpp : pn I k = p := (nI_eq (by omega) (by omega)).mp (p4.symm.trans h1)
  have oth : ∀ c j, ¬ (j = k ∧ (c = 11 ∨ c = 12 ∨ c = 13 ∨ c = 16 ∨ c = 40)) → (c = 21 ∨ c = 22 ∨ c = 23 → k ≠ 0) → drI k I c j = I c j := fun c j h h' => by
    unfold drI
    by_cases c16 : c = 16
    · subst c16
      rw [mstI_16, if_neg (by omega), uI_c (by decide), uI_c (by decide), uI_c (by decide), uI_c (by decide)]
    · have : mstI k (uI (uI (uI (uI I 11 k (-1)) 12 k (-1)) 13 k 0) 40 k 0) c j = (uI (uI (uI (uI I 11 k (-1)) 12 k (-1)) 13 k 0) 40 k 0) c j := by
        by_cases hk0 : k = 0
        · refine mstI_o ⟨c16, fun e => absurd hk0 (h' (Or.inl e)), fun e => absurd hk0 (h' (Or.inr (Or.inr e)))⟩
        · exact mstI_k hk0 c16
      rw [this]
      simp only [uI]
      rw [if_neg (by omega), if_neg (by omega), if_neg (by omega), if_neg (by omega)]
  have v : ∀ c, c ≠ 16 → c ≠ 21 → c ≠ 23 → drI k I c k = (uI (uI (uI (uI I 11 k (-1)) 12 k (-1)) 13 k 0) 40 k 0) c k := fun c h1 h2 h3 => mstI_o ⟨h1, h2, h3⟩
  have t1 : drI k I 11 k = -1 := by rw [v 11 (by decide) (by decide) (by decide), uI_c (by decide), uI_c (by decide), uI_c (by decide), uI_s]
  have t2 : drI k I 12 k = -1 := by rw [v 12 (by decide) (by decide) (by decide), uI_c (by decide), uI_c (by decide), uI_s]
  have t3 : drI k I 13 k = 0 := by rw [v 13 (by decide) (by decide) (by decide), uI_c (by decide), uI_s]
  have t4 : drI k I 40 k = 0 := by rw [v 40 (by decide) (by decide) (by decide), uI_s]
  have t5 : drI k I 16 k = 0 := by
    unfold drI
    rw [mstI_16, if_pos rfl]
  have hlv : lv (drI k I) k = false := by
    unfold lv
    rw [t1]
    rfl
  refine MID_pr (k := k) hk k0 oth t2 t3 (NM_of k0 hk hp h0 (Or.inl hpp)) (K3_nb (Or.inl t1) t2 t3 ?_ (Or.inl t5) (fun _ => t5)) (fun u _ e z => ?_) (fun e => ?_) (fun u _ _ z => absurd (t4.symm.trans z) (by decide)) (fun e z => ?_)
  · rw [oth 14 k (by omega) (by omega)]; exact a3
  · subst e
    rw [show lv (drI (1 + u) I, Q, Z).1 (1 + u) = false from hlv] at z
    cases z
  · subst e
    obtain ⟨c1, c2, c3, c4, c5, c6, c7⟩ := k0.2.2.2.2.1
    have e21 : drI 0 I 21 0 = 0 := mstI_0.1
    have e23 : drI 0 I 23 0 = 0 := mstI_0.2
    unfold K5
    simp only []
    rw [t5, e21, e23]
    exact ⟨fun z => absurd (hlv.symm.trans z) (by decide), fun z => absurd z (by decide), Or.inl rfl, fun z => absurd z (by decide), fun _ => ⟨rfl, rfl⟩, ⟨0, by omega, rfl, fun k hk => by omega⟩, fun z => absurd z (by decide)⟩
  · subst e
    exact absurd (hlv.symm.trans z) (by decide)
/-- the backup is lost -/
def lsI (k : Nat) (v : Int32) (I : sm_I) : sm_I := uI (uI (uI I 12 k (-1)) 13 k 0) 16 k v
theorem MID_ls {X k p : Nat} {v : Int32} {M : mM} (k0 : MID X M) (hk : k < 3) (hp : p < 4) (h0 : M.1 0 p = 0) (hn1 : ¬ M.1 11 k = -1) (ho : ohn M.1 k = p) (hv : v = 0 ∨ v = 2) (hlv0 : lv M.1 k = false → v = 0)
    (h4 : ∀ t, t < 2 → k = 1 + t → lv M.1 k = true → (v = 2 → row1 M k 1 = 1) ∧ (v = 0 → row1 M k 1 = 0)) (h5 : k = 0 → lv M.1 0 = true → (v = 0 ↔ M.1 16 0 = 0) ∧ (v = 2 → M.1 16 0 = 2 ∨ M.1 16 0 = 1)) : MID X (lsI k v M.1, M.2) := by
  obtain ⟨I, Q, Z⟩ := M
  obtain ⟨a1, a2, a3, a4, a5, a6, a7, a8⟩ := k0.2.2.1 k hk
  have oth : ∀ c j, ¬ (j = k ∧ (c = 12 ∨ c = 13 ∨ c = 16)) → lsI k v I c j = I c j := fun c j h => by
    unfold lsI
    simp only [uI]
    rw [if_neg (by omega), if_neg (by omega), if_neg (by omega)]
  have t2 : lsI k v I 12 k = -1 := by
    unfold lsI
    rw [uI_c (by decide), uI_c (by decide), uI_s]
  have t3 : lsI k v I 13 k = 0 := by
    unfold lsI
    rw [uI_c (by decide), uI_s]
  have t5 : lsI k v I 16 k = v := uI_s
  have e0 : lsI k v I 0 = I 0 := funext (fun j => oth 0 j (by omega))
  have e11 : lsI k v I 11 = I 11 := funext (fun j => oth 11 j (by omega))
  have e1 : lsI k v I 1 = I 1 := funext (fun j => oth 1 j (by omega))
  have elv : lv (lsI k v I) k = lv I k := lv_c e0 e11
  refine MID_pr (k := k) hk k0 (fun c j h _ => oth c j (by omega)) t2 t3 (NM_of k0 hk hp h0 (Or.inr ho)) (K3_nb (by unfold prk; rw [e11]; exact a1) t2 t3 ?_ (by rw [t5]; exact hv) (fun z => by rw [t5]; exact hlv0 (by rw [← elv]; exact z))) (fun u hu e => ?_) (fun e => ?_) (fun u hu e z => ?_) (fun e z d hd h5' => ?_)
  · rw [oth 14 k (by omega)]; exact a3
  · subst e
    intro hl
    have hl' : lv I (1 + u) = true := by rw [← elv]; exact hl
    obtain ⟨b1, b2⟩ := h4 u hu rfl hl'
    have er : row1 (lsI (1 + u) v I, Q, Z) (1 + u) = row1 (I, Q, Z) (1 + u) := row1_c (M := (I, Q, Z)) (N := (lsI (1 + u) v I, Q, Z)) e11 rfl
    rw [er]
    show (lsI (1 + u) v I 16 (1 + u) = 2 → _) ∧ (lsI (1 + u) v I 16 (1 + u) = 0 → _) ∧ (lsI (1 + u) v I 16 (1 + u) = 1 → _) ∧ _ = lsI (1 + u) v I 17 u
    rw [t5, oth 17 u (by omega)]
    refine ⟨b1, b2, fun z => ?_, (k0.2.2.2.1 u hu hl').2.2.2⟩
    rcases hv with e | e <;> rw [e] at z <;> exact absurd z (by decide)
  · subst e
    obtain ⟨c1, c2, c3, c4, c5, c6, c7⟩ := k0.2.2.2.2.1
    have er : row1 (lsI 0 v I, Q, Z) 0 = row1 (I, Q, Z) 0 := row1_c (M := (I, Q, Z)) (N := (lsI 0 v I, Q, Z)) e11 rfl
    have g : ∀ c, c ≠ 12 → c ≠ 13 → c ≠ 16 → lsI 0 v I c = I c := fun c h1 h2 h3 => funext (fun j => oth c j (by omega))
    unfold K5
    rw [er]
    simp only []
    rw [t5, elv, rwi_c e11, g 5 (by decide) (by decide) (by decide), g 20 (by decide) (by decide) (by decide), g 21 (by decide) (by decide) (by decide), g 22 (by decide) (by decide) (by decide), g 23 (by decide) (by decide) (by decide)]
    refine ⟨fun z => (c1 z).trans (h5 rfl z).1.symm, fun z => ?_, c3, fun z => ?_, c5, c6, fun z d hd h5' => ?_⟩
    · rcases hv with e | e <;> rw [e] at z <;> exact absurd z (by decide)
    · obtain ⟨y1, y2⟩ := c4 z
      refine ⟨?_, y2⟩
      have hl : lv I 0 = true := by
        cases e : lv I 0 with
        | true => rfl
        | false => exact absurd ((a7 e).symm.trans y1) (by decide)
      rcases hv with e | e
      · have := (h5 rfl hl).1.mp e
        exact absurd (this.symm.trans y1) (by decide)
      · exact e
    · have hl : lv I 0 = true := by
        cases e : lv I 0 with
        | true => rfl
        | false => exact absurd ((hlv0 e).symm.trans z) (by decide)
      rcases (h5 rfl hl).2 z with y | y
      · exact c7 y d hd h5'
      · obtain ⟨w1, w2⟩ := c2 y
        refine ⟨0, Nat.zero_le _, ?_⟩
        have : d = 0 ∨ d = 1 := by omega
        rcases this with rfl | rfl
        · exact w1
        · exact w2
  · subst e
    rw [oth 40 (1 + u) (by omega)] at z
    rw [rwo_c e11]
    exact (k0.2.2.2.2.2.2.1.2.2.2.2 u hu).1 z
  · subst e
    have hl : lv I 0 = true := by rw [← elv]; exact z
    obtain ⟨n, b1, b2⟩ := (k0.2.2.2.2.2.2.2.2.1 d hd h5').2.1 hl
    rw [rwi_c e11, t5, oth 22 d (by omega)]
    by_cases c : I 16 0 = 2
    · exact ⟨n, b1, fun _ => b2 c⟩
    · refine ⟨0, DR_n (Nat.zero_le _) b1, fun y => ?_⟩
      rcases (h5 rfl hl).2 y with w | w
      · exact absurd w c
      · obtain ⟨w1, w2⟩ := k0.2.2.2.2.1.2.1 w
        have : d = 0 ∨ d = 1 := by omega
        rcases this with rfl | rfl
        · exact w1
        · exact w2
