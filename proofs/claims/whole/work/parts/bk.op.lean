/-! what an operation does to the log, and what it writes -/
def RW (R : List ms_W) : Prop := ∀ (i : Nat) (x : ms_W), R[i]? = some x → ∃ q, q < 16 ∧ x.1 = nI q
def tw (n : Nat) (g : Int32) (e : ms_E) : ms_W := (nI (17 + n), g, e.1, e.2.1, e.2.2.1, e.2.2.2)
def gw (g ep : Int32) : ms_W := (16, g, ep, 0, 0, 0)
def OC (m : ms) (t : Nat) (s : ms) : Prop :=
  (s.2.1 = m.2.1 ∧ s.2.2 = [] ∧ s.1 1 = m.1 1 ∧ (∀ u, u < 2 → s.1 (14 + u) = m.1 (14 + u) ∨ (s.1 (14 + u) = 1 ∧ m.1 (14 + u) = 0 ∧ m.2.1.length + mtr m + 1 ≤ 32))) ∨
  (∃ (q : Nat) (v bf : Int32), q < 16 ∧ m.2.1.length + 1 + mtr m ≤ 32 ∧ s.2.1 = m.2.1 ++ [(1, nI t, nI q, bf)] ∧ s.2.2 = [tw m.2.1.length (m.1 1) (1, nI t, nI q, bf), (nI q, v, 0, 0, 0, 0)] ∧ s.1 1 = m.1 1 ∧ (∀ u, u < 2 → s.1 (14 + u) = m.1 (14 + u)) ∧ ¬ m.1 (14 + t) = 0) ∨
  (∃ (R : List ms_W) (kd : Int32), (kd = 2 ∨ kd = 3) ∧ RW R ∧ R.length ≤ m.2.1.length ∧ ¬ m.1 (14 + t) = 0 ∧ s.1 (14 + t) = 0 ∧ (∀ u, u < 2 → u ≠ t → s.1 (14 + u) = m.1 (14 + u)) ∧
    ((s.2.1 = m.2.1 ++ [(kd, nI t, 0, 0)] ∧ s.1 1 = m.1 1 ∧ s.2.2 = R ++ [tw m.2.1.length (m.1 1) (kd, nI t, 0, 0)]) ∨
     (s.2.1 = [] ∧ s.1 1 = m.1 1 + 1 ∧ s.2.2 = R ++ [tw m.2.1.length (m.1 1) (kd, nI t, 0, 0)] ++ [gw (m.1 1 + 1) (m.1 0)])))
theorem RW_nil : RW [] := fun i x h => by simp at h
theorem RW_app {R : List ms_W} {x : ms_W} (h : RW R) (hx : ∃ q, q < 16 ∧ x.1 = nI q) : RW (R ++ [x]) := by
  intro i y hi
  by_cases c : i < R.length
  · rw [List.getElem?_append_left c] at hi
    exact h i y hi
  · have := (List.getElem?_eq_some_iff.mp hi).1
    simp at this
    obtain rfl : i = R.length := by omega
    simp at hi
    subst hi
    exact hx
theorem nI_16 {q : Nat} (h : q < 16) : (nI q).toNatClampNeg = q := nI_clamp (by omega)
/-- backing out writes records only -/
theorem bko_R (L : List ms_E) (t : Int32) (f : Nat) (hr : rok L t) : ∀ n (m : ms), ∃ R, (bko L t f n m).2.2 = m.2.2 ++ R ∧ RW R ∧ R.length ≤ n := by
  intro n
  induction n with
  | zero => intro m; exact ⟨[], by simp [bko], RW_nil, by simp⟩
  | succ n ih =>
    intro m
    unfold bko
    split
    · exact ⟨[], by simp, RW_nil, by simp⟩
    · split
      · rename_i e he
        split
        · rename_i hc
          have hw : eWr e t = true := by
            rw [Bool.and_eq_true] at hc
            exact hc.1
          obtain ⟨q, hq, eq⟩ := hr n e he hw
          obtain ⟨R, r1, r2, r3⟩ := ih (mR m e.2.2.1.toNatClampNeg e.2.2.2)
          refine ⟨[(nI q, e.2.2.2, 0, 0, 0, 0)] ++ R, ?_, ?_, ?_⟩
          · rw [r1]
            unfold mR
            simp only []
            rw [eq, nI_16 hq, List.append_assoc]
          · intro i x hi
            cases i with
            | zero =>
              simp at hi
              subst hi
              exact ⟨q, hq, rfl⟩
            | succ i => exact r2 i x (by simpa using hi)
          · simp
            omega
        · obtain ⟨R, r1, r2, r3⟩ := ih m
          exact ⟨R, r1, r2, by omega⟩
      · exact ⟨[], by simp, RW_nil, by simp⟩
theorem mX_c {m : ms} {t : Nat} (ht : t < 2) : (∀ u, u < 2 → u ≠ t → (mX m t).1 (14 + u) = m.1 (14 + u)) ∧ (mX m t).1 (14 + t) = 0 ∧ (((mX m t).2.1 = m.2.1 ∧ (mX m t).1 1 = m.1 1 ∧ (mX m t).2.2 = m.2.2) ∨ ((mX m t).2.1 = [] ∧ (mX m t).1 1 = m.1 1 + 1 ∧ (mX m t).2.2 = m.2.2 ++ [gw (m.1 1 + 1) (m.1 0)])) := by
  have f : ∀ j, j < 32 → frl (uF m.1 (14 + t) 0) (nI t) 16 j = uF m.1 (14 + t) 0 j := fun j hj => frl_o _ _ 16 j hj
  have f0 : frl (uF m.1 (14 + t) 0) (nI t) 16 0 = m.1 0 := by
    rw [f 0 (by omega)]
    simp only [uF]
    rw [if_neg (by omega)]
  have f1 : frl (uF m.1 (14 + t) 0) (nI t) 16 1 = m.1 1 := by
    rw [f 1 (by omega)]
    simp only [uF]
    rw [if_neg (by omega)]
  have ft : frl (uF m.1 (14 + t) 0) (nI t) 16 (14 + t) = 0 := by rw [f _ (by omega)]; simp [uF]
  have fu : ∀ u, u < 2 → u ≠ t → frl (uF m.1 (14 + t) 0) (nI t) 16 (14 + u) = m.1 (14 + u) := fun u hu hn => by
    rw [f _ (by omega)]
    simp only [uF]
    rw [if_neg (by omega)]
  rw [mX_def]
  generalize frl (uF m.1 (14 + t) 0) (nI t) 16 = G at f0 f1 ft fu
  split
  · refine ⟨fun u hu hn => ?_, ?_, Or.inr ⟨rfl, ?_, ?_⟩⟩
    · show uF G 1 (G 1 + 1) (14 + u) = _
      simp only [uF]
      rw [if_neg (by omega)]
      exact fu u hu hn
    · show uF G 1 (G 1 + 1) (14 + t) = _
      simp only [uF]
      rw [if_neg (by omega)]
      exact ft
    · show uF G 1 (G 1 + 1) 1 = _
      simp only [uF, if_true]
      rw [f1]
    · show m.2.2 ++ [(16, G 1 + 1, G 0, 0, 0, 0)] = _
      rw [f0, f1]
      rfl
  · exact ⟨fu, ft, Or.inl ⟨rfl, f1, rfl⟩⟩
theorem OC_mdo {m : ms} {t : Nat} {q1 q3 kd rc vl : Int32} (ht : t < 2) (k : SG m) (hw : m.2.2 = []) (m1 : ms) (rs : Int32) (e : mj m t q1 q3 kd rc = (rs, m1)) : OC m t (mdo m1 t rs kd rc vl) := by
  have hk := mj_keep m t q1 q3 kd rc
  have hh := @mj_has m t q1 q3 kd rc
  have hr := @mj_rec m t q1 q3 kd rc
  rw [e] at hk hh hr
  simp only [] at hk hh hr
  obtain ⟨a1, a2, a3⟩ := hk
  have e1 : m1.1 1 = m.1 1 := a3 1 (by omega)
  have e0 : m1.1 0 = m.1 0 := a3 0 (by omega)
  have eh : ∀ u, u < 2 → m1.1 (14 + u) = m.1 (14 + u) := fun u hu => a3 _ (by omega)
  have hnop : OC m t m1 := Or.inl ⟨a1, by rw [a2, hw], e1, fun u hu => Or.inl (eh u hu)⟩
  have hX : ∀ (m2 : ms) (R : List ms_W) (kd2 : Int32), (kd2 = 2 ∨ kd2 = 3) → RW R → R.length ≤ m.2.1.length → ¬ m.1 (14 + t) = 0 → m2.2.1 = m.2.1 ++ [(kd2, nI t, 0, 0)] → m2.2.2 = R ++ [tw m.2.1.length (m.1 1) (kd2, nI t, 0, 0)] → (∀ j, j < 16 → m2.1 j = m.1 j) → OC m t (mX m2 t) := by
    intro m2 R kd2 hkd hR hRl hn h1 h2 h3
    obtain ⟨x1, x2, x3⟩ := mX_c (m := m2) ht
    refine Or.inr (Or.inr ⟨R, kd2, hkd, hR, hRl, hn, x2, fun u hu hun => by rw [x1 u hu hun, h3 _ (by omega)], ?_⟩)
    rcases x3 with ⟨y1, y2, y3⟩ | ⟨y1, y2, y3⟩
    · exact Or.inl ⟨by rw [y1, h1], by rw [y2, h3 1 (by omega)], by rw [y3, h2]⟩
    · exact Or.inr ⟨y1, by rw [y2, h3 1 (by omega)], by rw [y3, h2, h3 1 (by omega), h3 0 (by omega)]⟩
  have hXB : ¬ m.1 (14 + t) = 0 → OC m t (mX (mB m1 (nI t)) t) := by
    intro hn
    have hrk : rok m1.2.1 (nI t) := by rw [a1]; exact SG_rok k ht
    obtain ⟨R, r1, r2, r3⟩ := bko_R m1.2.1 (nI t) (mof m1 (nI t)) hrk m1.2.1.length m1
    obtain ⟨c1, c2⟩ := bko_k m1.2.1 (nI t) (mof m1 (nI t)) m1.2.1.length m1
    refine hX _ R 3 (Or.inr rfl) r2 (by rw [← a1]; exact r3) hn ?_ ?_ (fun j hj => ?_)
    · unfold mB mE
      rw [c1, a1]
    · unfold mB mE tw
      simp only []
      rw [r1, c1, c2 1 (by omega), a1, a2, hw, e1]
      rfl
    · show (bko m1.2.1 (nI t) (mof m1 (nI t)) m1.2.1.length m1).1 j = _
      rw [c2 j hj, a3 j (by omega)]
  unfold mdo
  split
  · split
    · exact hnop
    · rename_i hn
      exact hXB (by rw [← eh t ht]; exact hn)
  · split
    · rename_i h9 h0
      split
      · rename_i hk0
        have hj : (mj m t q1 q3 kd rc).1 = 0 := by rw [e]; exact h0
        unfold mj at hj
        by_cases c1 : ¬ q1 = m.1 (6 + t) ∨ ¬ q3 = m.1 0
        · rw [if_pos c1] at hj
          exact absurd (show (-9 : Int32) = 0 from hj) (by decide)
        · rw [if_neg c1, if_pos hk0] at hj
          change mjB m t = 0 at hj
          unfold mjB at hj
          by_cases c2 : m.1 (14 + t) = 0
          · rw [if_pos c2] at hj
            by_cases c3 : 32 - m.2.1.length < mtr m + 1
            · rw [if_pos c3] at hj
              exact absurd hj (by decide)
            · refine Or.inl ⟨a1, by show m1.2.2 = []; rw [a2, hw], ?_, fun u hu => ?_⟩
              · show uF m1.1 (14 + t) 1 1 = m.1 1
                simp only [uF]
                rw [if_neg (by omega)]
                exact e1
              · show uF m1.1 (14 + t) 1 (14 + u) = _ ∨ (uF m1.1 (14 + t) 1 (14 + u) = 1 ∧ _)
                simp only [uF]
                by_cases c4 : u = t
                · subst c4
                  rw [if_pos rfl]
                  exact Or.inr ⟨rfl, c2, by have := k.1; omega⟩
                · rw [if_neg (by omega)]
                  exact Or.inl (eh u hu)
          · rw [if_neg c2] at hj
            exact absurd hj (by decide)
      · rename_i hk0
        have hhas := hh h0 hk0
        split
        · rename_i hk2
          have hrc : ¬ (rc < 0 ∨ 16 ≤ rc) := fun z => hr h0 (Or.inr hk2) z
          have hrc1 : ¬ rc < 0 := fun z => hrc (Or.inl z)
          obtain ⟨q, hq, rfl⟩ := nI_of hrc1
          have hq16 : q < 16 := by
            by_cases c : q < 16
            · exact c
            · exact absurd (Or.inr (nI_le (a := 16) (by omega) hq)) hrc
          have hj : (mj m t q1 q3 kd (nI q)).1 = 0 := by rw [e]; exact h0
          have hle : m.2.1.length + 1 + mtr m ≤ 32 := by
            subst hk2
            unfold mj at hj
            by_cases c1 : ¬ q1 = m.1 (6 + t) ∨ ¬ q3 = m.1 0
            · rw [if_pos c1] at hj
              exact absurd (show (-9 : Int32) = 0 from hj) (by decide)
            · rw [if_neg c1, if_neg (by decide), if_neg (by decide), if_neg hhas, if_pos (by decide)] at hj
              unfold mjA at hj
              rw [if_neg hrc] at hj
              split at hj
              · exact absurd (show (-3 : Int32) = 0 from hj) (by decide)
              · simp only [] at hj
                split at hj
                · exact absurd hj (by decide)
                · rename_i c5
                  have := k.1
                  have h2 : ¬ 32 - m.2.1.length - 1 < mtr m := fun z => c5 ⟨trivial, z⟩
                  have h3 : 0 < mtr m := by
                    unfold mtr
                    have : t = 0 ∨ t = 1 := by omega
                    rcases this with rfl | rfl
                    · rw [if_neg hhas]; omega
                    · rw [if_neg (show ¬ m.1 15 = 0 from hhas)]; omega
                  omega
          refine Or.inr (Or.inl ⟨q, vl, m1.1 (16 + (nI q).toNatClampNeg), hq16, hle, ?_, ?_, ?_, fun u hu => ?_, hhas⟩)
          · show m1.2.1 ++ [_] = _
            rw [a1]
          · show (m1.2.2 ++ [_]) ++ [_] = _
            rw [a2, hw, a1, e1, nI_16 hq16]
            rfl
          · show uF m1.1 (16 + (nI q).toNatClampNeg) vl 1 = _
            simp only [uF]
            rw [if_neg (by omega)]
            exact e1
          · show uF m1.1 (16 + (nI q).toNatClampNeg) vl (14 + u) = _
            simp only [uF]
            rw [if_neg (by omega)]
            exact eh u hu
        · split
          · refine hX _ [] 2 (Or.inl rfl) RW_nil (by simp) hhas ?_ ?_ (fun j hj => a3 j (by omega))
            · show m1.2.1 ++ [_] = _
              rw [a1]
            · show m1.2.2 ++ [_] = _
              rw [a2, hw, a1, e1]
              rfl
          · split
            · exact hXB hhas
            · exact hnop
    · exact hnop
theorem OC_mpf {m : ms} {t : Nat} {q1 q2 q3 kd rc vl : Int32} (ht : t < 2) (k : SG m) : OC m t (mpf m t q1 q2 q3 kd rc vl) := by
  unfold mpf
  have k0 : SG (m.1, m.2.1, []) := k
  obtain ⟨⟨rs, m1⟩, ej⟩ : ∃ y, y = mj (m.1, m.2.1, []) t q1 q3 kd rc := ⟨_, rfl⟩
  rw [← ej]
  have z := OC_mdo (vl := vl) ht k0 rfl m1 rs ej.symm
  show OC m t (mfi (mdo m1 t rs kd rc vl) t q1 q2 rs kd rc)
  generalize mdo m1 t rs kd rc vl = s at z
  have f : ∀ j, j ≠ 6 + t → j ≠ 8 + t → j ≠ 10 + t → j ≠ 12 + t → (mfi s t q1 q2 rs kd rc).1 j = s.1 j := fun j h1 h2 h3 h4 => by
    unfold mfi
    simp only [uF]
    rw [if_neg h4, if_neg h3, if_neg h2, if_neg h1]
  have f1 := f 1 (by omega) (by omega) (by omega) (by omega)
  have fh : ∀ u, u < 2 → (mfi s t q1 q2 rs kd rc).1 (14 + u) = s.1 (14 + u) := fun u hu => f _ (by omega) (by omega) (by omega) (by omega)
  rcases z with ⟨z1, z2, z3, z4⟩ | ⟨q, v, bf, z0, z1, z2, z3, z4, z5, z6⟩ | ⟨R, kd2, z0, z1, z2, z3, z4, z5, z6⟩
  · exact Or.inl ⟨z1, z2, f1.trans z3, fun u hu => by rw [fh u hu]; exact z4 u hu⟩
  · exact Or.inr (Or.inl ⟨q, v, bf, z0, z1, z2, z3, f1.trans z4, fun u hu => by rw [fh u hu]; exact z5 u hu, z6⟩)
  · refine Or.inr (Or.inr ⟨R, kd2, z0, z1, z2, z3, by rw [fh t ht]; exact z4, fun u hu hn => by rw [fh u hu]; exact z5 u hu hn, ?_⟩)
    rcases z6 with ⟨y1, y2, y3⟩ | ⟨y1, y2, y3⟩
    · exact Or.inl ⟨y1, f1.trans y2, y3⟩
    · exact Or.inr ⟨y1, f1.trans y2, y3⟩
theorem OC_mps {m : ms} {t : Nat} {q : Nat → Int32} (ht : t < 2) (k : SG m) : OC m t (mps m t q) := by
  have z := OC_mpf (q1 := q 1) (q2 := q 2) (q3 := q 3) (kd := q 4) (rc := q 5) (vl := q 6) ht k
  unfold mps
  generalize mpf m t (q 1) (q 2) (q 3) (q 4) (q 5) (q 6) = s at z
  have f : ∀ j, j ≠ 3 → j ≠ 4 → uF (uF s.1 3 1) 4 (nI t) j = s.1 j := fun j h1 h2 => by
    simp only [uF]
    rw [if_neg h2, if_neg h1]
  have f1 := f 1 (by omega) (by omega)
  have fh : ∀ u, u < 2 → uF (uF s.1 3 1) 4 (nI t) (14 + u) = s.1 (14 + u) := fun u hu => f _ (by omega) (by omega)
  generalize uF (uF s.1 3 1) 4 (nI t) = G at f1 fh
  rcases z with ⟨z1, z2, z3, z4⟩ | ⟨q, v, bf, z0, z1, z2, z3, z4, z5, z6⟩ | ⟨R, kd2, z0, z1, z2, z3, z4, z5, z6⟩
  · exact Or.inl ⟨z1, z2, f1.trans z3, fun u hu => by show G (14 + u) = _ ∨ (G (14 + u) = 1 ∧ _); rw [fh u hu]; exact z4 u hu⟩
  · exact Or.inr (Or.inl ⟨q, v, bf, z0, z1, z2, z3, f1.trans z4, fun u hu => (fh u hu).trans (z5 u hu), z6⟩)
  · refine Or.inr (Or.inr ⟨R, kd2, z0, z1, z2, z3, (fh t ht).trans z4, fun u hu hn => (fh u hu).trans (z5 u hu hn), ?_⟩)
    rcases z6 with ⟨y1, y2, y3⟩ | ⟨y1, y2, y3⟩
    · exact Or.inl ⟨y1, f1.trans y2, y3⟩
    · exact Or.inr ⟨y1, f1.trans y2, y3⟩
theorem OC_wl {m s : ms} {t : Nat} (k : SG m) (h : OC m t s) : s.2.2.length ≤ 34 := by
  have := k.1
  rcases h with ⟨-, h, -⟩ | ⟨q, v, bf, -, -, -, h, -⟩ | ⟨R, kd, -, -, hl, -, -, -, h⟩
  · rw [h]; simp
  · rw [h]; simp
  · rcases h with ⟨-, -, h⟩ | ⟨-, -, h⟩ <;> rw [h] <;> simp <;> omega
