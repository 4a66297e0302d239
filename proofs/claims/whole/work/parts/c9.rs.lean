/-! a restart reads a disc -/
theorem hop_e {m : ms} {t : Int32} : hop m t = true ↔ hoL m.2.1 t = 1 := by
  unfold hop hoL mof
  split
  · rename_i h
    exact ⟨fun _ => rfl, fun _ => h⟩
  · rename_i h
    exact ⟨fun z => absurd z h, fun z => by omega⟩
theorem cw_app (L : List ms_E) (e : ms_E) (t : Int32) : ∀ n, n ≤ L.length → cw (L ++ [e]) t n = cw L t n := by
  intro n
  induction n with
  | zero => intro _; rfl
  | succ n ih =>
    intro hn
    simp only [cw]
    rw [ih (by omega), List.getElem?_append_left (by omega)]
theorem cw_2 (L : List ms_E) : ∀ n, cw L (nI 0) n + cw L (nI 1) n ≤ n := by
  intro n
  induction n with
  | zero => simp [cw]
  | succ n ih =>
    simp only [cw]
    cases h : L[n]? with
    | none => simp; omega
    | some e =>
      simp only []
      by_cases h0 : eWr e (nI 0) = true
      · have h1 : ¬ eWr e (nI 1) = true := fun z => by
          unfold eWr at h0 z
          simp at h0 z
          have : nI 0 = nI 1 := h0.2.symm.trans z.2
          exact absurd this (by decide)
        rw [if_pos h0, if_neg h1]
        omega
      · rw [if_neg h0]
        split <;> omega
/-- one terminal's open entries are backed out, if there are any -/
def rb1 (m : ms) (t : Nat) : ms := if hop m (nI t) = true then mB m (nI t) else m
theorem rb1_c {X t : Nat} {f : Nat → Int32} {m : ms} {G : Int32} (hX : X < 2 ^ 30) (ht : t < 2) (hL : LG X f) (hg : f 80 = G) (hG : m.1 1 = G) (hE : rdL f = m.2.1) : ∃ A : List ms_W, (rb1 m t).2.2 = m.2.2 ++ A ∧ (∀ j, j ≤ A.length → LG X (apl f (A.take j))) ∧ (apl f A) 80 = G ∧ rdL (apl f A) = (rb1 m t).2.1 ∧ (∀ j, j < 16 → (rb1 m t).1 j = m.1 j) ∧ ((A = [] ∧ (rb1 m t).2.1 = m.2.1) ∨ (∃ R, A = R ++ [tw m.2.1.length G (3, nI t, 0, 0)] ∧ RW R ∧ m.2.1.length < 32 ∧ (rb1 m t).2.1 = m.2.1 ++ [(3, nI t, 0, 0)] ∧ A.length ≤ cw m.2.1 (nI t) m.2.1.length + 1)) := by
  unfold rb1
  split
  · rename_i h
    have ho := hop_e.mp h
    obtain ⟨g, l1, l2, l3, l4, l5, l6, l7⟩ := hL
    have hL' : LG X f := ⟨g, l1, l2, l3, l4, l5, l6, l7⟩
    rw [hE] at l4 l5 l6 l7
    have hrk : rok m.2.1 (nI t) := by
      have : t = 0 ∨ t = 1 := by omega
      rcases this with rfl | rfl
      · exact l5
      · exact l6
    obtain ⟨u, hu, hut⟩ : ∃ u, u < 2 ∧ u ≠ t := by
      by_cases c : t = 0
      · exact ⟨1, by omega, by omega⟩
      · exact ⟨0, by omega, by omega⟩
    have e3 := sum_2 (f := fun i => hoL m.2.1 (nI i)) ht hu hut
    have h32 : m.2.1.length < 32 := by
      have : hoL m.2.1 (nI 0) + hoL m.2.1 (nI 1) = hoL m.2.1 (nI t) + hoL m.2.1 (nI u) := e3
      omega
    obtain ⟨R, r1, r2, r3⟩ := bko_R m.2.1 (nI t) (mof m (nI t)) hrk m.2.1.length m
    have rl := bko_len m.2.1 (nI t) (mof m (nI t)) m.2.1.length m
    rw [r1, List.length_append] at rl
    obtain ⟨c1, c2⟩ := bko_k m.2.1 (nI t) (mof m (nI t)) m.2.1.length m
    have eW : (mB m (nI t)).2.2 = m.2.2 ++ (R ++ [tw m.2.1.length G (3, nI t, 0, 0)]) := by
      unfold mB mE tw
      simp only []
      rw [r1, c1, c2 1 (by omega), hG, List.append_assoc]
    have eE : (mB m (nI t)).2.1 = m.2.1 ++ [(3, nI t, 0, 0)] := by
      unfold mB mE
      rw [c1]
    have hRf : lge (apl f R) f := apl_rec r2
    have hLR : LG X (apl f R) := LG_c hRf hL'
    have hER : rdL (apl f R) = m.2.1 := (rdL_c hRf).trans hE
    have hgR : apl f R 80 = G := hRf.1.trans hg
    have q1 : hoL (m.2.1 ++ [((3, nI t, 0, 0) : ms_E)]) (nI t) = 0 := hoL_cl ((eCl_k ht ht (Or.inr rfl)).1.mpr rfl)
    have ncl : eCl ((3, nI t, 0, 0) : ms_E) (nI u) = false := by
      cases z : eCl ((3, nI t, 0, 0) : ms_E) (nI u) with
      | false => rfl
      | true => exact absurd ((eCl_k ht hu (Or.inr rfl)).1.mp z) hut
    have q2 : hoL (m.2.1 ++ [((3, nI t, 0, 0) : ms_E)]) (nI u) = hoL m.2.1 (nI u) := by rw [hoL_n ncl, if_neg (by rw [(eCl_k ht hu (Or.inr rfl)).2]; decide)]
    have hsum : (rdL (apl f R) ++ [(3, nI t, 0, 0)]).length + hoL (rdL (apl f R) ++ [(3, nI t, 0, 0)]) (nI 0) + hoL (rdL (apl f R) ++ [(3, nI t, 0, 0)]) (nI 1) ≤ 32 := by
      have e4 := sum_2 (f := fun i => hoL (rdL (apl f R) ++ [((3, nI t, 0, 0) : ms_E)]) (nI i)) ht hu hut
      have e4' : hoL (rdL (apl f R) ++ [((3, nI t, 0, 0) : ms_E)]) (nI 0) + hoL (rdL (apl f R) ++ [((3, nI t, 0, 0) : ms_E)]) (nI 1) = hoL (rdL (apl f R) ++ [((3, nI t, 0, 0) : ms_E)]) (nI t) + hoL (rdL (apl f R) ++ [((3, nI t, 0, 0) : ms_E)]) (nI u) := e4
      have e3' : hoL m.2.1 (nI 0) + hoL m.2.1 (nI 1) = hoL m.2.1 (nI t) + hoL m.2.1 (nI u) := e3
      rw [Nat.add_assoc, e4', hER, q1, q2]
      simp
      omega
    have hT := LG_tw (e := (3, nI t, 0, 0)) hX hLR (by rw [hER]) hgR h32 hsum (fun u' hu' y => by rw [(eCl_k ht hu' (Or.inr rfl)).2] at y; cases y) (Or.inr (Or.inr rfl))
    obtain ⟨x1, x2, -, -⟩ := rdL_app (e := (3, nI t, 0, 0)) hX hLR (by rw [hER]) h32 hgR
    refine ⟨R ++ [tw m.2.1.length G (3, nI t, 0, 0)], eW, fun j hj => ?_, ?_, ?_, fun j hj => ?_, Or.inr ⟨R, rfl, r2, h32, eE, ?_⟩⟩
    · rcases take_app (A := R) (B := [tw m.2.1.length G (3, nI t, 0, 0)]) (j := j) with ⟨-, y⟩ | ⟨y1, y⟩
      · rw [y]
        exact LG_c (apl_rec (RW_take r2)) hL'
      · rw [y, apl_app]
        have : j - R.length = 1 := by simp at hj; omega
        rw [this]
        exact hT
    · rw [apl_app]
      exact x2
    · rw [apl_app, eE]
      show rdL (ap1 (apl f R) (tw m.2.1.length G (3, nI t, 0, 0))) = _
      rw [x1, hER]
    · show (bko m.2.1 (nI t) (mof m (nI t)) m.2.1.length m).1 j = _
      exact c2 j hj
    · simp
      omega
  · exact ⟨[], by simp, fun j _ => by simpa [apl] using hL, hg, hE, fun _ _ => rfl, Or.inl ⟨rfl, rfl⟩⟩
theorem DL_ra {A R : List ms_W} (h : DL A) (hR : RW R) : DL (A ++ R) := by
  intro i j x y hi hj e
  by_cases ci : i < A.length
  · rw [List.getElem?_append_left ci] at hi
    by_cases cj : j < A.length
    · rw [List.getElem?_append_left cj] at hj
      exact h i j x y hi hj e
    · rw [List.getElem?_append_right (by omega)] at hj
      obtain ⟨q, q1, q2⟩ := hR _ y hj
      exact Or.inr ⟨q, q1, e.trans q2⟩
  · rw [List.getElem?_append_right (by omega)] at hi
    exact Or.inr (hR _ x hi)
theorem WB_2 {A B : List ms_W} (hA : ∀ (i : Nat) (x : ms_W), A[i]? = some x → ∃ q, q < 49 ∧ x.1 = nI q) (hB : ∀ (i : Nat) (x : ms_W), B[i]? = some x → ∃ q, q < 49 ∧ x.1 = nI q) : ∀ (i : Nat) (x : ms_W), (A ++ B)[i]? = some x → ∃ q, q < 49 ∧ x.1 = nI q := fun i x hi => by
  by_cases c : i < A.length
  · rw [List.getElem?_append_left c] at hi
    exact hA i x hi
  · rw [List.getElem?_append_right (by omega)] at hi
    exact hB _ x hi
theorem mr2_e (f : Nat → Int32) : mr2 f = rb1 (mr1 f) 0 := rfl
theorem mr4_e (f : Nat → Int32) : mr4 f = rb1 (mr3 f) 1 := rfl
theorem GB_rs {X : Nat} {f : Nat → Int32} (hX : X < 2 ^ 29) (hL : LG X f) : GB (X + 1) f (mrs2 f) ∧ mrk f ∧ (mrs2 f).2.2.length ≤ 35 ∧ 1 ≤ (mrs2 f).2.2.length ∧ WB (mrs2 f) ∧ (mrs2 f).2.1 = [] := by
  have hX2 : X < 2 ^ 30 := by omega
  have e1 : (mr1 f).1 1 = f 80 := rfl
  obtain ⟨A, a1, a2, a3, a4, a5, a6⟩ := rb1_c (m := mr1 f) (t := 0) hX2 (by omega) hL rfl e1 rfl
  rw [← mr2_e] at a1 a4 a5 a6
  have hLA : LG X (apl f A) := by
    have := a2 A.length (Nat.le_refl _)
    rw [List.take_length] at this
    exact this
  have m3 : (mr3 f).2 = (mr2 f).2 := rfl
  have m31 : (mr3 f).1 1 = f 80 := by
    show uF (mr2 f).1 7 (-1) 1 = _
    simp only [uF]
    rw [if_neg (by omega), a5 1 (by omega)]
    rfl
  obtain ⟨B, b1, b2, b3, b4, b5, b6⟩ := rb1_c (m := mr3 f) (t := 1) hX2 (by omega) hLA a3 m31 (by rw [a4, m3])
  rw [← mr4_e] at b1 b4 b5 b6
  have w1 : (mr1 f).2.2 = [] := rfl
  have w2 : (mr2 f).2.2 = A := by rw [a1, w1]; rfl
  have w4 : (mr4 f).2.2 = A ++ B := by rw [b1, m3, w2]
  have g4 : (mr4 f).1 1 = f 80 := by rw [b5 1 (by omega)]; exact m31
  have hLB : LG X (apl (apl f A) B) := by
    have := b2 B.length (Nat.le_refl _)
    rw [List.take_length] at this
    exact this
  obtain ⟨z1, z2, z3⟩ := LG_gw (ep := (mr4 f).1 0) hX2 hLB b3
  have eW : (mrs2 f).2.2 = A ++ B ++ [gw (f 80 + 1) ((mr4 f).1 0)] := by
    show (mG (mr4 f)).2.2 = _
    unfold mG gw
    simp only []
    rw [w4, g4]
  have eE : (mrs2 f).2.1 = [] := rfl
  have hLl := rdL_le f
  have c2 := cw_2 (rdL f) (rdL f).length
  have lA : A.length ≤ cw (rdL f) (nI 0) (rdL f).length + 1 := by
    rcases a6 with ⟨y, -⟩ | ⟨R, y1, y2, y3, y4, y5⟩
    · rw [y]; simp
    · exact y5
  have e2L : (mr3 f).2.1 = (mr2 f).2.1 := rfl
  have cw1 : cw (mr3 f).2.1 (nI 1) (mr3 f).2.1.length = cw (rdL f) (nI 1) (rdL f).length := by
    rw [e2L]
    rcases a6 with ⟨-, y⟩ | ⟨R, y1, y2, y3, y4, y5⟩
    · rw [y]
      rfl
    · rw [y4]
      show cw (rdL f ++ [(3, nI 0, 0, 0)]) (nI 1) (rdL f ++ [((3, nI 0, 0, 0) : ms_E)]).length = _
      rw [List.length_append, List.length_singleton]
      simp only [cw]
      rw [cw_app _ _ _ _ (Nat.le_refl _)]
      have : eWr ((3, nI 0, 0, 0) : ms_E) (nI 1) = false := by unfold eWr; simp
      simp [this]
  have lB : B.length ≤ cw (rdL f) (nI 1) (rdL f).length + 1 := by
    rcases b6 with ⟨y, -⟩ | ⟨R, y1, y2, y3, y4, y5⟩
    · rw [y]; simp
    · rw [← cw1]; exact y5
  have n3 : (mr3 f).2.1.length ≤ 32 := by
    rw [e2L, ← a4]
    exact rdL_le _
  have hWA : ∀ (i : Nat) (x : ms_W), A[i]? = some x → ∃ q, q < 49 ∧ x.1 = nI q := by
    rcases a6 with ⟨y, -⟩ | ⟨R, y1, y2, y3, y4, y5⟩
    · rw [y]; exact fun i x h => by simp at h
    · rw [y1]; exact WB_ap (WB_rw y2) ⟨17 + (mr1 f).2.1.length, by omega, rfl⟩
  have hWB : ∀ (i : Nat) (x : ms_W), B[i]? = some x → ∃ q, q < 49 ∧ x.1 = nI q := by
    rcases b6 with ⟨y, -⟩ | ⟨R, y1, y2, y3, y4, y5⟩
    · rw [y]; exact fun i x h => by simp at h
    · rw [y1]; exact WB_ap (WB_rw y2) ⟨17 + (mr3 f).2.1.length, by omega, rfl⟩
  have hDA : DL A ∧ ∀ (i : Nat) (x : ms_W), A[i]? = some x → (∃ q, q < 16 ∧ x.1 = nI q) ∨ (x.1 = nI (17 + (rdL f).length) ∧ (mr3 f).2.1.length = (rdL f).length + 1 ∧ (rdL f).length < 32) := by
    rcases a6 with ⟨y, -⟩ | ⟨R, y1, y2, y3, y4, y5⟩
    · rw [y]
      exact ⟨fun i j x y h => by simp at h, fun i x h => by simp at h⟩
    · rw [y1]
      refine ⟨DL_app (DL_rw y2) (RW_ne y2 (tw_ne y3)), fun i x hi => ?_⟩
      rcases get_app hi with z | ⟨-, z⟩
      · exact Or.inl (y2 i x z)
      · refine Or.inr ⟨by rw [z]; rfl, ?_, y3⟩
        rw [e2L, y4]
        show (rdL f ++ [((3, nI 0, 0, 0) : ms_E)]).length = _
        simp
  have hDAB : DL (A ++ B) ∧ ∀ (i : Nat) (x : ms_W), (A ++ B)[i]? = some x → ¬ x.1 = (gw (f 80 + 1) ((mr4 f).1 0)).1 := by
    have nA : ∀ (i : Nat) (x : ms_W), A[i]? = some x → ¬ x.1 = (gw (f 80 + 1) ((mr4 f).1 0)).1 := fun i x hi e => by
      rcases hDA.2 i x hi with ⟨q, q1, q2⟩ | ⟨q1, q2, q3⟩
      · exact gw_ne ⟨q, q1, e.symm.trans q2⟩
      · have := (nI_eq (a := 17 + (rdL f).length) (b := 16) (by omega) (by omega)).mp (q1.symm.trans e)
        omega
    rcases b6 with ⟨y, -⟩ | ⟨R, y1, y2, y3, y4, y5⟩
    · rw [y, List.append_nil]
      exact ⟨hDA.1, nA⟩
    · rw [y1, ← List.append_assoc]
      refine ⟨DL_app (DL_ra hDA.1 y2) (fun i x hi e => ?_), fun i x hi => ?_⟩
      · by_cases ci : i < A.length
        · rw [List.getElem?_append_left ci] at hi
          rcases hDA.2 i x hi with ⟨q, q1, q2⟩ | ⟨q1, q2, q3⟩
          · exact tw_ne y3 ⟨q, q1, e.symm.trans q2⟩
          · have : nI (17 + (rdL f).length) = nI (17 + (mr3 f).2.1.length) := q1.symm.trans e
            have := (nI_eq (by omega) (by omega)).mp this
            omega
        · rw [List.getElem?_append_right (by omega)] at hi
          exact RW_ne y2 (tw_ne y3) _ x hi e
      · rcases get_app hi with z | ⟨-, z⟩
        · by_cases ci : i < A.length
          · rw [List.getElem?_append_left ci] at z
            exact nA i x z
          · rw [List.getElem?_append_right (by omega)] at z
            exact RW_ne y2 gw_ne _ x z
        · rw [z]; exact gt_ne y3
  have hho := hL
  obtain ⟨g, l1, l2, l3, l4, l5, l6, l7⟩ := hho
  have lAB : A.length + B.length ≤ 34 := by omega
  refine ⟨⟨fun j hj => ?_, ?_, ?_, ?_⟩, ⟨l5, fun h => ?_, ?_, n3, fun h => ?_, ?_⟩, ?_, ?_, ?_, eE⟩
  · rw [eW] at hj ⊢
    rcases take_app (A := A ++ B) (B := [gw (f 80 + 1) ((mr4 f).1 0)]) (j := j) with ⟨y4, y⟩ | ⟨y4, y⟩
    · rw [y]
      rcases take_app (A := A) (B := B) (j := j) with ⟨w5, w⟩ | ⟨w5, w⟩
      · rw [w]
        exact LG_X (Nat.le_succ X) (a2 j w5)
      · rw [w, apl_app]
        exact LG_X (Nat.le_succ X) (b2 _ (by simp at y4; omega))
    · rw [y, apl_app, apl_app]
      have : j - (A ++ B).length = 1 := by simp at hj y4 ⊢; omega
      rw [this]
      exact z1
  · rw [eW, apl_app, apl_app]
    show ap1 (apl (apl f A) B) (gw (f 80 + 1) ((mr4 f).1 0)) 80 = (mr4 f).1 1 + 1
    rw [z2, g4]
  · rw [eW, apl_app, apl_app, eE]
    exact z3
  · rw [eW]
    exact DL_app hDAB.1 hDAB.2
  · have := hop_e.mp h
    have h1 : hoL (rdL f) (nI 0) = 1 := this
    omega
  · rw [e2L]
    rcases a6 with ⟨-, y⟩ | ⟨R, y1, y2, y3, y4, y5⟩
    · rw [y]; exact l6
    · rw [y4]
      exact rok_app l6 (fun z => by
        have z' : eWr ((3, nI 0, 0, 0) : ms_E) (nI 1) = true := z
        have : eWr ((3, nI 0, 0, 0) : ms_E) (nI 1) = false := by unfold eWr; simp
        rw [this] at z'
        cases z')
  · refine ⟨?_, ?_⟩
    · rcases b6 with ⟨y, y'⟩ | ⟨R, y1, y2, y3, y4, y5⟩
      · exfalso
        have : rb1 (mr3 f) 1 = mB (mr3 f) (nI 1) := if_pos h
        have e4 : (mr4 f).2.1 = (mB (mr3 f) (nI 1)).2.1 := by rw [mr4_e, this]
        have hl : (mB (mr3 f) (nI 1)).2.1.length = (mr3 f).2.1.length + 1 := by
          unfold mB mE
          rw [(bko_k _ _ _ _ _).1]
          simp
        rw [y'] at e4
        rw [← e4] at hl
        omega
      · exact y3
    · have e5 : (mr3 f).2.2.length = A.length := by rw [m3, w2]
      have : cw (mr3 f).2.1 1 (mr3 f).2.1.length = cw (rdL f) (nI 1) (rdL f).length := cw1
      rw [this, e5]
      omega
  · rw [w4]
    simp
    omega
  · rw [eW]
    simp
    omega
  · rw [eW, List.length_append, List.length_singleton]
    omega
  · unfold WB
    rw [eW]
    exact WB_ap (WB_2 hWA hWB) ⟨16, by omega, rfl⟩
theorem rb1_w {m : ms} {t j : Nat} (hj : j < 16) : (rb1 m t).1 j = m.1 j := by
  unfold rb1
  split
  · exact (bko_k m.2.1 (nI t) (mof m (nI t)) m.2.1.length m).2 j hj
  · rfl
theorem mrs2_w {f : Nat → Int32} {j : Nat} (hj : j < 16) (h1 : j ≠ 1) (h3 : j ≠ 3) (h4 : j ≠ 4) (h7 : j ≠ 7) : (mrs2 f).1 j = (mr1 f).1 j := by
  show uF (uF (mG (mr4 f)).1 3 2) 4 0 j = _
  simp only [uF]
  rw [if_neg h4, if_neg h3]
  show uF (mr4 f).1 1 _ j = _
  simp only [uF]
  rw [if_neg h1, mr4_e, rb1_w hj]
  show uF (mr2 f).1 7 (-1) j = _
  simp only [uF]
  rw [if_neg h7, mr2_e, rb1_w hj]
theorem OK_rs {X : Nat} {f : Nat → Int32} (hX : X < 2 ^ 29) (hL : LG X f) : OK (mrs2 f) := by
  obtain ⟨-, -, g3, -, g5, g6⟩ := GB_rs hX hL
  have h14 : (mrs2 f).1 14 = 0 := mrs2_w (by decide) (by decide) (by decide) (by decide) (by decide)
  have h15 : (mrs2 f).1 15 = 0 := mrs2_w (by decide) (by decide) (by decide) (by decide) (by decide)
  have h3 : (mrs2 f).1 3 = 2 := rfl
  have h4 : (mrs2 f).1 4 = nI 0 := rfl
  refine ⟨⟨?_, ?_, ?_⟩, g5, ?_, ⟨Or.inl h14, Or.inl h15⟩, g3, Or.inr (Or.inr h3), ⟨0, by omega, h4⟩, fun z => absurd (h3.symm.trans z) (by decide), fun u hu z => ?_⟩
  · rw [g6]
    unfold mtr
    rw [h14, h15]
    simp
  · rw [g6]; exact fun i e h => by simp at h
  · rw [g6]; exact fun i e h => by simp at h
  · rw [g6]; exact fun i e h => by simp at h
  · rw [g6, hoL_nil] at z
    omega
