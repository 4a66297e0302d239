/-! what a state keeps to -/
def SG (s : ms) : Prop := s.2.1.length + mtr s ≤ 32 ∧ rok s.2.1 (nI 0) ∧ rok s.2.1 (nI 1)
def bz (x : Int32) : Nat := if x = 0 then 0 else 1
theorem mtr_e (m : ms) : mtr m = bz (m.1 14) + bz (m.1 15) := rfl
theorem SG_rok {s : ms} (k : SG s) {t : Nat} (ht : t < 2) : rok s.2.1 (nI t) := by
  have : t = 0 ∨ t = 1 := by omega
  rcases this with rfl | rfl
  · exact k.2.1
  · exact k.2.2
theorem mtr_F {m m2 : ms} (h1 : m2.1 14 = m.1 14) (h2 : m2.1 15 = m.1 15) : mtr m2 = mtr m := by
  unfold mtr
  rw [h1, h2]
theorem frl_o (F : Nat → Int32) (t : Int32) : ∀ n j, j < 32 → frl F t n j = F j := by
  intro n
  induction n with
  | zero => intro j _; rfl
  | succ n ih =>
    intro j hj
    simp only [frl]
    split
    · simp only [uF]
      rw [if_neg (by omega)]
      exact ih j hj
    · exact ih j hj
theorem rok_app {L : List ms_E} {t : Int32} {e : ms_E} (h : rok L t) (he : eWr e t = true → ∃ q, q < 16 ∧ e.2.2.1 = nI q) : rok (L ++ [e]) t := by
  intro i x hi hx
  by_cases c : i < L.length
  · rw [List.getElem?_append_left c] at hi
    exact h i x hi hx
  · have := (List.getElem?_eq_some_iff.mp hi).1
    simp at this
    obtain rfl : i = L.length := by omega
    simp at hi
    subst hi
    exact he hx
theorem bko_k (L : List ms_E) (t : Int32) (f : Nat) : ∀ n (m : ms), (bko L t f n m).2.1 = m.2.1 ∧ ∀ j, j < 16 → (bko L t f n m).1 j = m.1 j := by
  intro n
  induction n with
  | zero => intro m; exact ⟨rfl, fun _ _ => rfl⟩
  | succ n ih =>
    intro m
    simp only [bko]
    split
    · exact ⟨rfl, fun _ _ => rfl⟩
    · split
      · rename_i e _
        split
        · obtain ⟨a, b⟩ := ih (mR m e.2.2.1.toNatClampNeg e.2.2.2)
          refine ⟨a, fun j hj => ?_⟩
          rw [b j hj]
          simp only [mR, uF]
          rw [if_neg (by omega)]
        · exact ih m
      · exact ⟨rfl, fun _ _ => rfl⟩
theorem mX_SG {m : ms} {t : Nat} (ht : t < 2) (hl : m.2.1.length + mtr m ≤ 33) (hh : ¬ m.1 (14 + t) = 0) (r0 : rok m.2.1 (nI 0)) (r1 : rok m.2.1 (nI 1)) : SG (mX m t) := by
  unfold mX
  have e14 : ∀ j, j < 32 → frl (uF m.1 (14 + t) 0) (nI t) 16 j = uF m.1 (14 + t) 0 j := frl_o _ _ 16
  generalize frl (uF m.1 (14 + t) 0) (nI t) 16 = G at e14 ⊢
  have hm : mtr (G, m.2.1, m.2.2) + 1 = mtr m := by
    rw [mtr_e, mtr_e]
    show bz (G 14) + bz (G 15) + 1 = _
    rw [e14 14 (by omega), e14 15 (by omega)]
    have b0 : bz 0 = 0 := rfl
    have b1 : bz (m.1 (14 + t)) = 1 := if_neg hh
    have : t = 0 ∨ t = 1 := by omega
    rcases this with rfl | rfl
    · have g1 : uF m.1 (14 + 0) 0 14 = 0 := by simp [uF]
      have g2 : uF m.1 (14 + 0) 0 15 = m.1 15 := by simp [uF]
      rw [g1, g2]
      have b2 : bz (m.1 14) = 1 := b1
      omega
    · have g1 : uF m.1 (14 + 1) 0 15 = 0 := by simp [uF]
      have g2 : uF m.1 (14 + 1) 0 14 = m.1 14 := by simp [uF]
      rw [g1, g2]
      have b2 : bz (m.1 15) = 1 := b1
      omega
  simp only []
  split
  · rename_i hz
    have z := mtr_le (mG (G, m.2.1, m.2.2))
    refine ⟨?_, fun i e hi => ?_, fun i e hi => ?_⟩
    · show 0 + _ ≤ 32
      omega
    · simp [mG] at hi
    · simp [mG] at hi
  · refine ⟨?_, r0, r1⟩
    show m.2.1.length + _ ≤ 32
    omega
theorem SG_mdo {m : ms} {t : Nat} {q1 q3 kd rc vl : Int32} (ht : t < 2) (k : SG m) (m1 : ms) (rs : Int32) (e : mj m t q1 q3 kd rc = (rs, m1)) : SG (mdo m1 t rs kd rc vl) := by
  have hk := mj_keep m t q1 q3 kd rc
  have hh := @mj_has m t q1 q3 kd rc
  have hr := @mj_rec m t q1 q3 kd rc
  rw [e] at hk hh hr
  simp only [] at hk hh hr
  obtain ⟨a1, a2, a3⟩ := hk
  have emt : mtr m1 = mtr m := mtr_congr a3
  have k1 : SG m1 := by
    obtain ⟨b1, b2, b3⟩ := k
    exact ⟨by rw [a1, emt]; exact b1, by rw [a1]; exact b2, by rw [a1]; exact b3⟩
  have hE : ∀ (kd2 rc2 bf : Int32), ¬ kd2 = 1 → ∀ u : Int32, rok m1.2.1 u → rok (m1.2.1 ++ [(kd2, nI t, rc2, bf)]) u := fun kd2 rc2 bf hn u hu => rok_app hu (fun z => absurd (by simpa [eWr] using z : kd2 = 1 ∧ nI t = u).1 hn)
  have hXB : ¬ m1.1 (14 + t) = 0 → SG (mX (mB m1 (nI t)) t) := by
    intro hn
    obtain ⟨c1, c2⟩ := bko_k m1.2.1 (nI t) (mof m1 (nI t)) m1.2.1.length m1
    have l1 : (mB m1 (nI t)).2.1 = m1.2.1 ++ [(3, nI t, 0, 0)] := by
      unfold mB mE
      rw [c1]
    have f1 : ∀ j, j < 16 → (mB m1 (nI t)).1 j = m1.1 j := c2
    refine mX_SG ht ?_ (by rw [f1 _ (by omega)]; exact hn) (by rw [l1]; exact hE _ _ _ (by decide) _ k1.2.1) (by rw [l1]; exact hE _ _ _ (by decide) _ k1.2.2)
    rw [l1, mtr_F (f1 14 (by omega)) (f1 15 (by omega))]
    have := k1.1
    simp
    omega
  unfold mdo
  split
  · split
    · exact k1
    · rename_i hn
      exact hXB hn
  · split
    · rename_i h0
      split
      · rename_i hk0
        have hj : (mj m t q1 q3 kd rc).1 = 0 := by rw [e]; exact h0
        unfold mj at hj
        by_cases c1 : ¬ q1 = m.1 (6 + t) ∨ ¬ q3 = m.1 0
        · rw [if_pos c1] at hj
          exact absurd (show (-9 : Int32) = 0 from hj) (by decide)
        · rw [if_neg c1, if_pos hk0] at hj
          change mjB m t = 0 at hj
          unfold mjB at hj
          split at hj
          · rename_i hz
            split at hj
            · exact absurd hj (by decide)
            · rename_i hroom
              refine ⟨?_, k1.2.1, k1.2.2⟩
              show m1.2.1.length + mtr (uF m1.1 (14 + t) 1, m1.2.1, m1.2.2) ≤ 32
              have : mtr (uF m1.1 (14 + t) 1, m1.2.1, m1.2.2) ≤ mtr m1 + 1 := by
                have hb : ∀ x : Int32, bz x ≤ 1 := fun x => by unfold bz; split <;> omega
                have : t = 0 ∨ t = 1 := by omega
                rw [mtr_e, mtr_e]
                show bz (uF m1.1 (14 + t) 1 14) + bz (uF m1.1 (14 + t) 1 15) ≤ _
                rcases this with rfl | rfl
                · have g2 : uF m1.1 (14 + 0) 1 15 = m1.1 15 := by simp [uF]
                  rw [g2]
                  have := hb (uF m1.1 (14 + 0) 1 14)
                  omega
                · have g2 : uF m1.1 (14 + 1) 1 14 = m1.1 14 := by simp [uF]
                  rw [g2]
                  have := hb (uF m1.1 (14 + 1) 1 15)
                  omega
              have a1l : m1.2.1.length = m.2.1.length := by rw [a1]
              omega
          · exact absurd hj (by decide)
      · split
        · rename_i hk0 hk2
          have hn := hh h0 hk0
          have hq : ∃ q, q < 16 ∧ rc = nI q := by
            rcases nI_within (x := rc) (n := 16) (by decide) with h | h
            · exact h
            · exact (hr h0 (Or.inr hk2) h).elim
          have hj : (mj m t q1 q3 kd rc).1 = 0 := by rw [e]; exact h0
          have hroom : ¬ 32 - m.2.1.length - 1 < mtr m := by
            unfold mj at hj
            by_cases c1 : ¬ q1 = m.1 (6 + t) ∨ ¬ q3 = m.1 0
            · rw [if_pos c1] at hj
              exact absurd (show (-9 : Int32) = 0 from hj) (by decide)
            · rw [if_neg c1, if_neg hk0] at hj
              by_cases c2 : kd < 0 ∨ 4 < kd
              · rw [if_pos c2] at hj
                exact absurd (show (-5 : Int32) = 0 from hj) (by decide)
              · rw [if_neg c2] at hj
                by_cases c3 : m.1 (14 + t) = 0
                · rw [if_pos c3] at hj
                  exact absurd (show (-2 : Int32) = 0 from hj) (by decide)
                · rw [if_neg c3, if_pos (Or.inr hk2)] at hj
                  unfold mjA at hj
                  by_cases c4 : rc < 0 ∨ 16 ≤ rc
                  · rw [if_pos c4] at hj
                    exact absurd (show (-5 : Int32) = 0 from hj) (by decide)
                  · rw [if_neg c4] at hj
                    by_cases c5 : ¬ m.1 (32 + rc.toNatClampNeg) = -1 ∧ ¬ m.1 (32 + rc.toNatClampNeg) = nI t
                    · rw [if_pos c5] at hj
                      exact absurd (show (-3 : Int32) = 0 from hj) (by decide)
                    · rw [if_neg c5] at hj
                      intro hz
                      have hj2 : (if kd = 2 ∧ 32 - m.2.1.length - 1 < mtr m then (-4 : Int32) else 0) = 0 := hj
                      rw [if_pos ⟨hk2, hz⟩] at hj2
                      exact absurd hj2 (by decide)
          have hpos : 0 < mtr m := by
            have : t = 0 ∨ t = 1 := by omega
            unfold mtr
            rcases this with rfl | rfl
            · rw [if_neg hn]; omega
            · rw [if_neg hn]; omega
          have l1 : (mR (mE m1 1 (nI t) rc (m1.1 (16 + rc.toNatClampNeg))) rc.toNatClampNeg vl).2.1 = m1.2.1 ++ [(1, nI t, rc, m1.1 (16 + rc.toNatClampNeg))] := rfl
          refine ⟨?_, by rw [l1]; exact rok_app k1.2.1 (fun _ => hq), by rw [l1]; exact rok_app k1.2.2 (fun _ => hq)⟩
          rw [l1]
          have : mtr (mR (mE m1 1 (nI t) rc (m1.1 (16 + rc.toNatClampNeg))) rc.toNatClampNeg vl) = mtr m1 := by
            apply mtr_F
            · simp only [mR, mE, uF]; rw [if_neg (by omega)]
            · simp only [mR, mE, uF]; rw [if_neg (by omega)]
          rw [this, emt, a1]
          simp
          omega
        · split
          · rename_i hk0 hk2 hk3
            have hn := hh h0 hk0
            have hn1 : ¬ m1.1 (14 + t) = 0 := by rw [a3 _ (by omega)]; exact hn
            refine mX_SG (m := mE m1 2 (nI t) 0 0) ht ?_ hn1 (hE _ _ _ (by decide) _ k1.2.1) (hE _ _ _ (by decide) _ k1.2.2)
            have := k1.1
            show (m1.2.1 ++ [_]).length + mtr m1 ≤ 33
            simp
            omega
          · split
            · rename_i hk0 hk2 hk3 hk4
              exact hXB (by rw [a3 _ (by omega)]; exact hh h0 hk0)
            · exact k1
    · exact k1
theorem SG_mpf {m : ms} {t : Nat} {q1 q2 q3 kd rc vl : Int32} (ht : t < 2) (k : SG m) : SG (mpf m t q1 q2 q3 kd rc vl) := by
  have k0 : SG (m.1, m.2.1, []) := k
  have := SG_mdo (vl := vl) ht k0 (mj (m.1, m.2.1, []) t q1 q3 kd rc).2 (mj (m.1, m.2.1, []) t q1 q3 kd rc).1 rfl
  unfold mpf
  obtain ⟨b1, b2, b3⟩ := this
  refine ⟨?_, b2, b3⟩
  rw [mtr_F (m := mdo (mj (m.1, m.2.1, []) t q1 q3 kd rc).2 t (mj (m.1, m.2.1, []) t q1 q3 kd rc).1 kd rc vl)]
  · exact b1
  · simp only [mfi, uF]
    rw [if_neg (by omega), if_neg (by omega), if_neg (by omega), if_neg (by omega)]
  · simp only [mfi, uF]
    rw [if_neg (by omega), if_neg (by omega), if_neg (by omega), if_neg (by omega)]
theorem SG_mps {m : ms} {t : Nat} {q : Nat → Int32} (ht : t < 2) (k : SG m) : SG (mps m t q) := by
  have := SG_mpf (q1 := q 1) (q2 := q 2) (q3 := q 3) (kd := q 4) (rc := q 5) (vl := q 6) ht k
  exact this
