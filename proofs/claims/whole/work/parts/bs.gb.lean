theorem hoL_mtr {s : ms} (h : ∀ u, u < 2 → hoL s.2.1 (nI u) = 1 → ¬ s.1 (14 + u) = 0) : hoL s.2.1 (nI 0) + hoL s.2.1 (nI 1) ≤ mtr s := by
  have h0 := h 0 (by omega)
  have h1 := h 1 (by omega)
  have l0 := hoL_1 (L := s.2.1) (u := nI 0)
  have l1 := hoL_1 (L := s.2.1) (u := nI 1)
  unfold mtr
  have a : hoL s.2.1 (nI 0) ≤ if s.1 14 = 0 then 0 else 1 := by
    split
    · rename_i z
      have : ¬ hoL s.2.1 (nI 0) = 1 := fun y => h0 y z
      omega
    · exact l0
  have b : hoL s.2.1 (nI 1) ≤ if s.1 15 = 0 then 0 else 1 := by
    split
    · rename_i z
      have : ¬ hoL s.2.1 (nI 1) = 1 := fun y => h1 y z
      omega
    · exact l1
  omega
theorem tw_ne {n : Nat} {G : Int32} {e : ms_E} (hn : n < 32) : ¬ ∃ q, q < 16 ∧ (tw n G e).1 = nI q := by
  rintro ⟨q, hq, z⟩
  have := (nI_eq (a := 17 + n) (b := q) (by omega) (by omega)).mp z
  omega
/-- distinct log blocks -/
def DL (W : List ms_W) : Prop := ∀ (i j : Nat) (x y : ms_W), W[i]? = some x → W[j]? = some y → x.1 = y.1 → i = j ∨ ∃ q, q < 16 ∧ x.1 = nI q
theorem DL_rw {R : List ms_W} (h : RW R) : DL R := fun i _ x _ hi _ _ => Or.inr (h i x hi)
theorem DL_app {R : List ms_W} {z : ms_W} (h : DL R) (hz : ∀ (i : Nat) (x : ms_W), R[i]? = some x → ¬ x.1 = z.1) : DL (R ++ [z]) := by
  intro i j x y hi hj e
  rcases get_app hi with a | ⟨a1, a2⟩
  · rcases get_app hj with b | ⟨b1, b2⟩
    · exact h i j x y a b e
    · subst b2
      exact absurd e (hz i x a)
  · rcases get_app hj with b | ⟨b1, b2⟩
    · subst a2
      exact absurd e.symm (hz j y b)
    · exact Or.inl (a1.trans b1.symm)
theorem RW_ne {R : List ms_W} (h : RW R) {z : ms_W} (hz : ¬ ∃ q, q < 16 ∧ z.1 = nI q) : ∀ (i : Nat) (x : ms_W), R[i]? = some x → ¬ x.1 = z.1 := fun i x hi e => by
  obtain ⟨q, a, b⟩ := h i x hi
  exact hz ⟨q, a, e ▸ b⟩
theorem gw_ne {G ep : Int32} : ¬ ∃ q, q < 16 ∧ (gw G ep).1 = nI q := by
  rintro ⟨q, hq, z⟩
  have := (nI_eq (a := 16) (b := q) (by omega) (by omega)).mp z
  omega
theorem gt_ne {n : Nat} {G G' ep : Int32} {e : ms_E} (hn : n < 32) : ¬ (tw n G e).1 = (gw G' ep).1 := fun z => by
  have := (nI_eq (a := 17 + n) (b := 16) (by omega) (by omega)).mp z
  omega
theorem take_1 {α : Type} {x : α} {j : Nat} (h : j ≤ 1) : [x].take j = [] ∨ [x].take j = [x] := by
  have : j = 0 ∨ j = 1 := by omega
  rcases this with rfl | rfl
  · exact Or.inl rfl
  · exact Or.inr rfl
theorem eCl_k {kd : Int32} {t u : Nat} (ht : t < 2) (hu : u < 2) (h : kd = 2 ∨ kd = 3) : (eCl (kd, nI t, 0, 0) (nI u) = true ↔ u = t) ∧ eWr (kd, nI t, 0, 0) (nI u) = false := by
  have e : nI t = nI u ↔ t = u := nI_eq (by omega) (by omega)
  unfold eCl eWr
  rcases h with h | h <;> subst h <;> simp [e] <;> exact ⟨fun z => z.symm, fun z => z.symm⟩
theorem eCl_1 {t u q : Nat} {bf : Int32} (ht : t < 2) (hu : u < 2) : eCl (1, nI t, nI q, bf) (nI u) = false ∧ (eWr (1, nI t, nI q, bf) (nI u) = true ↔ u = t) := by
  have e : nI t = nI u ↔ t = u := nI_eq (by omega) (by omega)
  unfold eCl eWr
  simp [e]
  exact ⟨fun z => z.symm, fun z => z.symm⟩
theorem mtr_2 {s : ms} {t u : Nat} (ht : t < 2) (hu : u < 2) (h : u ≠ t) : mtr s = (if s.1 (14 + t) = 0 then 0 else 1) + (if s.1 (14 + u) = 0 then 0 else 1) := by
  have : (t = 0 ∧ u = 1) ∨ (t = 1 ∧ u = 0) := by omega
  rcases this with ⟨rfl, rfl⟩ | ⟨rfl, rfl⟩
  · rfl
  · unfold mtr
    exact Nat.add_comm _ _
theorem sum_2 {f : Nat → Nat} {t u : Nat} (ht : t < 2) (hu : u < 2) (h : u ≠ t) : f 0 + f 1 = f t + f u := by
  have : (t = 0 ∧ u = 1) ∨ (t = 1 ∧ u = 0) := by omega
  rcases this with ⟨rfl, rfl⟩ | ⟨rfl, rfl⟩
  · rfl
  · exact Nat.add_comm _ _
/-- an operation begins where the log is the state's -/
theorem GB_op {X t : Nat} {f : Nat → Int32} {s s' : ms} (hX : X < 2 ^ 30) (ht : t < 2) (hL : LG X f) (hg : f 80 = s.1 1) (hE : rdL f = s.2.1) (hs : SG s) (hh : ∀ u, u < 2 → hoL s.2.1 (nI u) = 1 → ¬ s.1 (14 + u) = 0) (hc : OC s t s') : GB (X + 1) f s' := by
  have hsg := hs.1
  obtain ⟨u, hu, hut⟩ : ∃ u, u < 2 ∧ u ≠ t := by
    by_cases c : t = 0
    · exact ⟨1, by omega, by omega⟩
    · exact ⟨0, by omega, by omega⟩
  have hLX : LG (X + 1) f := LG_X (Nat.le_succ X) hL
  rcases hc with ⟨z1, z2, z3, z4⟩ | ⟨q, v, bf, z0, z1, z2, z3, z4, z5, z6⟩ | ⟨R, kd, z0, z1, z2, z3, z4, z5, z6⟩
  · unfold GB
    rw [z2]
    refine ⟨fun j _ => ?_, ?_, ?_, fun i j x y h => by simp at h⟩
    · simpa [apl] using hLX
    · show f 80 = _
      rw [hg, z3]
    · show rdL f = _
      rw [hE, z1]
  · have h32 : s.2.1.length < 32 := by
      have : 0 < mtr s := by
        rw [mtr_2 ht hu hut, if_neg z6]
        omega
      omega
    have hsum : (rdL f ++ [(1, nI t, nI q, bf)]).length + hoL (rdL f ++ [(1, nI t, nI q, bf)]) (nI 0) + hoL (rdL f ++ [(1, nI t, nI q, bf)]) (nI 1) ≤ 32 := by
      have e1 : hoL (rdL f ++ [((1, nI t, nI q, bf) : ms_E)]) (nI t) = 1 := by rw [hoL_n (eCl_1 ht ht).1, if_pos ((eCl_1 ht ht).2.mpr rfl)]
      have e2 : hoL (rdL f ++ [((1, nI t, nI q, bf) : ms_E)]) (nI u) = hoL (rdL f) (nI u) := by rw [hoL_n (eCl_1 ht hu).1, if_neg (fun z => hut ((eCl_1 ht hu).2.mp z))]
      have e3 := sum_2 (f := fun i => hoL (rdL f ++ [((1, nI t, nI q, bf) : ms_E)]) (nI i)) ht hu hut
      rw [Nat.add_assoc, e3, e1, e2, hE]
      have := mtr_2 (s := s) ht hu hut
      rw [if_neg z6] at this
      have h3 : hoL s.2.1 (nI u) ≤ if s.1 (14 + u) = 0 then 0 else 1 := by
        split
        · rename_i y
          have l := hoL_1 (L := s.2.1) (u := nI u)
          have : ¬ hoL s.2.1 (nI u) = 1 := fun x => hh u hu x y
          omega
        · exact hoL_1
      simp
      omega
    have hT := LG_tw (e := (1, nI t, nI q, bf)) hX hL (by rw [hE]) hg h32 hsum (fun u _ _ => ⟨q, z0, rfl⟩) (Or.inl rfl)
    obtain ⟨r1, r2, -, -⟩ := rdL_app (e := (1, nI t, nI q, bf)) hX hL (by rw [hE]) h32 hg
    have hrec : ∃ q', q' < 16 ∧ ((nI q, v, 0, 0, 0, 0) : ms_W).1 = nI q' := ⟨q, z0, rfl⟩
    unfold GB
    rw [z3]
    refine ⟨fun j hj => ?_, ?_, ?_, ?_⟩
    · have hj3 : j = 0 ∨ j = 1 ∨ j = 2 := by simp at hj; omega
      rcases hj3 with rfl | rfl | rfl
      · exact hLX
      · exact LG_X (Nat.le_succ X) hT
      · exact LG_c (ap1_rec hrec) (LG_X (Nat.le_succ X) hT)
    · show ap1 (ap1 f _) _ 80 = _
      rw [(ap1_rec hrec).1, r2, z4]
    · show rdL (ap1 (ap1 f _) _) = _
      rw [rdL_c (ap1_rec hrec), r1, hE, z2]
    · have : DL ([] ++ [tw s.2.1.length (s.1 1) (1, nI t, nI q, bf)] ++ [((nI q, v, 0, 0, 0, 0) : ms_W)]) := by
        refine DL_app (DL_app (fun i j x y h => by simp at h) (fun i x h => by simp at h)) (fun i x h => ?_)
        simp at h
        have : x = tw s.2.1.length (s.1 1) (1, nI t, nI q, bf) := by
          cases i with
          | zero => simpa using h.symm
          | succ i => simp at h
        subst this
        exact fun e => tw_ne h32 ⟨q, z0, e⟩
      exact this
  · have h32 : s.2.1.length < 32 := by
      have : 0 < mtr s := by
        rw [mtr_2 ht hu hut, if_neg z3]
        omega
      omega
    have hR : ∀ j, lge (apl f (R.take j)) f := fun j => apl_rec (RW_take z1)
    have hRf : lge (apl f R) f := apl_rec z1
    have e1 : hoL (s.2.1 ++ [((kd, nI t, 0, 0) : ms_E)]) (nI t) = 0 := hoL_cl ((eCl_k ht ht z0).1.mpr rfl)
    have ncl : eCl ((kd, nI t, 0, 0) : ms_E) (nI u) = false := by
      cases h : eCl ((kd, nI t, 0, 0) : ms_E) (nI u) with
      | false => rfl
      | true => exact absurd ((eCl_k ht hu z0).1.mp h) hut
    have e2 : hoL (s.2.1 ++ [((kd, nI t, 0, 0) : ms_E)]) (nI u) = hoL s.2.1 (nI u) := by rw [hoL_n ncl, if_neg (by rw [(eCl_k ht hu z0).2]; decide)]
    have hLR : LG X (apl f R) := LG_c hRf hL
    have hER : rdL (apl f R) = s.2.1 := (rdL_c hRf).trans hE
    have hgR : apl f R 80 = s.1 1 := hRf.1.trans hg
    have hsum : (rdL (apl f R) ++ [(kd, nI t, 0, 0)]).length + hoL (rdL (apl f R) ++ [(kd, nI t, 0, 0)]) (nI 0) + hoL (rdL (apl f R) ++ [(kd, nI t, 0, 0)]) (nI 1) ≤ 32 := by
      have e3 := sum_2 (f := fun i => hoL (rdL (apl f R) ++ [((kd, nI t, 0, 0) : ms_E)]) (nI i)) ht hu hut
      rw [Nat.add_assoc, e3, hER, e1, e2]
      have := mtr_2 (s := s) ht hu hut
      rw [if_neg z3] at this
      have h3 : hoL s.2.1 (nI u) ≤ if s.1 (14 + u) = 0 then 0 else 1 := by
        split
        · rename_i y
          have l := hoL_1 (L := s.2.1) (u := nI u)
          have : ¬ hoL s.2.1 (nI u) = 1 := fun x => hh u hu x y
          omega
        · exact hoL_1
      simp
      omega
    have hT := LG_tw (e := (kd, nI t, 0, 0)) hX hLR (by rw [hER]) hgR h32 hsum (fun u' hu' y => by rw [(eCl_k ht hu' z0).2] at y; cases y) (Or.inr (by rcases z0 with y | y <;> rw [y] <;> simp))
    obtain ⟨r1, r2, -, -⟩ := rdL_app (e := (kd, nI t, 0, 0)) hX hLR (by rw [hER]) h32 hgR
    have hdl : DL (R ++ [tw s.2.1.length (s.1 1) (kd, nI t, 0, 0)]) := DL_app (DL_rw z1) (RW_ne z1 (tw_ne h32))
    have hpre : ∀ j, j ≤ R.length + 1 → LG X (apl f ((R ++ [tw s.2.1.length (s.1 1) (kd, nI t, 0, 0)]).take j)) := by
      intro j hj
      rcases take_app (A := R) (B := [tw s.2.1.length (s.1 1) (kd, nI t, 0, 0)]) (j := j) with ⟨-, y⟩ | ⟨y1, y⟩
      · rw [y]
        exact LG_c (hR j) hL
      · rw [y, apl_app]
        have : j - R.length = 1 := by omega
        rw [this]
        exact hT
    rcases z6 with ⟨y1, y2, y3⟩ | ⟨y1, y2, y3⟩
    · unfold GB
      rw [y3]
      refine ⟨fun j hj => LG_X (Nat.le_succ X) (hpre j (by simpa using hj)), ?_, ?_, hdl⟩
      · rw [apl_app]
        show ap1 (apl f R) _ 80 = _
        rw [r2, y2]
      · rw [apl_app]
        show rdL (ap1 (apl f R) _) = _
        rw [r1, hER, y1]
    · obtain ⟨g1, g2, g3⟩ := LG_gw (ep := s.1 0) hX hT (by rw [r2])
      unfold GB
      rw [y3]
      refine ⟨fun j hj => ?_, ?_, ?_, ?_⟩
      · rcases take_app (A := R ++ [tw s.2.1.length (s.1 1) (kd, nI t, 0, 0)]) (B := [gw (s.1 1 + 1) (s.1 0)]) (j := j) with ⟨y4, y⟩ | ⟨y4, y⟩
        · rw [y]
          exact LG_X (Nat.le_succ X) (hpre j (by simpa using y4))
        · rw [y, apl_app, apl_app]
          have : j - (R ++ [tw s.2.1.length (s.1 1) (kd, nI t, 0, 0)]).length = 1 := by simp at hj y4 ⊢; omega
          rw [this]
          exact g1
      · rw [apl_app, apl_app]
        show ap1 (ap1 (apl f R) (tw s.2.1.length (s.1 1) (kd, nI t, 0, 0))) (gw (s.1 1 + 1) (s.1 0)) 80 = _
        rw [g2, y2]
      · rw [apl_app, apl_app]
        show rdL (ap1 (ap1 (apl f R) (tw s.2.1.length (s.1 1) (kd, nI t, 0, 0))) (gw (s.1 1 + 1) (s.1 0))) = _
        rw [g3, y1]
      · refine DL_app hdl (fun i x hi => ?_)
        rcases get_app hi with a | ⟨-, a⟩
        · exact RW_ne z1 gw_ne i x a
        · rw [a]; exact gt_ne h32
