/-! what a message brings about -/
def mans (r s : Nat → Int32) : Nat → Int32 := uF (uF (uF (uF (uF (uF (uF r 1 0) 6 1) 7 (s 2)) 8 (s 3)) 9 (s 4)) 10 (s 5)) 5 (s 5)
def mtg (t : Nat) (M : mM) : mM := if M.1 12 (1 + t) = -1 then mgo t (mtl (1 + t) M) else mtl (1 + t) M
def mrdZ (t : Nat) (s : Nat → Int32) (M : mM) : mM := (M.1, M.2.1, uZ M.2.2 (rwi M.1 (1 + t)) (mans (row1 M (1 + t)) s, (M.2.2 (rwi M.1 (1 + t))).2))
def mrd (t p : Nat) (s : Nat → Int32) (M : mM) : mM := if ¬ M.1 11 (1 + t) = nI p ∨ M.1 16 (1 + t) = 1 ∨ ¬ (row1 M (1 + t) 1 = 1 ∧ s 1 = M.1 17 t ∧ s 2 = row1 M (1 + t) 0) then M else mtg t (mrdZ t s M)
def mstw (k : Nat) (M : mM) : mM := if M.1 16 k = 1 then (if k = 0 then (uI M.1 16 0 2, M.2) else mgo (k - 1) M) else M
def mbk (k : Nat) (M : mM) : mM := (uI (uI M.1 13 k 0) 12 k (nI (ohn M.1 k)), M.2)
def mwd (k p : Nat) (td : Int32) (M : mM) : mM := if ¬ M.1 11 k = nI p ∨ ¬ td = M.1 15 k then M else if M.1 13 k = 0 then mstw k M else if M.1 14 k = 0 then mbk k M else msC k M
def mgW (k : Nat) (td : Int32) : mg := (fun i => if i = 0 then 5 else if i = 5 then nI k else if i = 6 then td else 0, mN)
def mkp (k : Nat) (z : ms) (M : mM) : mM := (uI M.1 40 k 1, M.2.1, uZ M.2.2 (rwo M.1 k) z)
def mts (k f p : Nat) (td : Int32) (z : ms) (M : mM) : mM := if ¬ M.1 11 k = nI f ∨ ¬ ohI M.1 k = nI p then M else msnd p f (mgW k td) (mkp k z M)
def mdel (f p : Nat) (m : mg) (M : mM) : mM := if m.1 0 = 1 then (if M.1 11 0 = nI p then mac (fun i => m.1 (5 + i)) M else M) else if m.1 0 = 2 then mrd (m.1 5).toNatClampNeg p (fun i => m.1 (5 + i)) M else if m.1 0 = 5 then mwd (m.1 5).toNatClampNeg p (m.1 6) M else mts (m.1 5).toNatClampNeg f p (m.1 6) m.2 M
theorem lv_of {I : sm_I} {k p : Nat} (h : I 11 k = nI p) (hp : p < 4) (hu : ¬ I 0 p = 0) : lv I k = true := by
  have e : pn I k = p := by
    unfold pn
    rw [h]
    exact nI_clamp (by omega)
  have n : ¬ I 11 k = -1 := by
    rw [h]
    exact nI_nm1 (by omega)
  simp [lv, e, n, hu]
theorem TR_ans {h : am_Hp} {ow : ow_T} {t : Nat} {va vb v : Value} {r s : Nat → Int32} (k : TR h ow t va vb r) (o : r 1 = 1) (a : An h ow v s) (e2 : s 2 = r 0) : TR h ow t va v (mans r s) := by
  rcases k with ⟨-, -, -, k4, -⟩ | ⟨q, k1, -, -, -, -, q0, q1, q2, -⟩ | ⟨q, s9, k1, -, -, -, -, -, -, -, q0, q1, q2, -⟩
  · rw [o] at k4; exact absurd k4 (by decide)
  · refine Or.inr (Or.inr ⟨q, s, k1, a, by simp [mans, uF], by simp [mans, uF], by simp [mans, uF], by simp [mans, uF], by simp [mans, uF], by simp [mans, uF], q0, by simp [mans, uF, q1], by simp [mans, uF, q2], Or.inl ⟨by simp [mans, uF], by simp [mans, uF, e2]⟩⟩)
  · refine Or.inr (Or.inr ⟨q, s, k1, a, by simp [mans, uF], by simp [mans, uF], by simp [mans, uF], by simp [mans, uF], by simp [mans, uF], by simp [mans, uF], q0, by simp [mans, uF, q1], by simp [mans, uF, q2], Or.inl ⟨by simp [mans, uF], by simp [mans, uF, e2]⟩⟩)
theorem rw_lt (I : sm_I) (k : Nat) : 2 * k ≤ rwi I k ∧ rwi I k < 2 * k + 2 ∧ 2 * k ≤ rwo I k ∧ rwo I k < 2 * k + 2 ∧ rwo I k ≠ rwi I k := by
  unfold rwi rwo
  omega
theorem CD_tr {w : Nat → Bool} {e : Nat} {m0 : mg} {h : am_Hp} {I : sm_I} {Q : mQ} {Z : mZ} {X X2 : sm_X} {ow : ow_T} {sb t : Nat} {s : ms} (c : CD w e m0 h I Q Z X ow sb) (ht : t < 2) (h1 : ∀ c, c ≠ 211 → c ≠ 212 → X2 c = X c) (h2 : ∀ c j, j ≠ t → X2 c j = X c j) (htr : TR h ow t (X2 211 t) (X2 212 t) s.1) : CD w e m0 h I Q (uZ Z (rwi I (1 + t)) s) X2 ow sb := by
  obtain ⟨k1, k2, k3, k4, k5, k6, k7⟩ := c
  have b1 := rw_lt I (1 + t)
  have b0 := rw_lt I 0
  refine ⟨k1, fun l hl => LK_c (k2 l hl) (by rw [h1 _ (by omega) (by omega)]) (by rw [h1 _ (by omega) (by omega)]) (by rw [h1 _ (by omega) (by omega)]), fun l hl => ?_, DT_c k4 rfl rfl rfl rfl rfl (h1 _ (by omega) (by omega)) (h1 _ (by omega) (by omega)) (h1 _ (by omega) (by omega)), ?_, fun u hu => ?_, k7⟩
  · have := k3 l hl
    unfold BT at this ⊢
    rw [h1 203 (by omega) (by omega), h1 204 (by omega) (by omega)]
    exact this
  · have := SP_c (Y := X2) k5 rfl rfl rfl rfl rfl (h1 _ (by omega) (by omega)) (h1 _ (by omega) (by omega)) (h1 _ (by omega) (by omega))
    obtain ⟨s1, s2, s3, s4⟩ := this
    refine ⟨s1, ?_, ?_, s4⟩
    · simp only [uZ]; rw [if_neg (by omega)]; exact s2
    · simp only [uZ]; rw [if_neg (by omega)]; exact s3
  · obtain ⟨a1, a2, a3, a4⟩ := k6 u hu
    have bu := rw_lt I (1 + u)
    by_cases eu : u = t
    · subst eu
      refine ⟨fun _ => by simpa [uZ] using htr, ?_, ?_, ?_⟩
      · simp only [uZ]; rw [if_neg (by omega), h1 213 (by omega) (by omega), h1 214 (by omega) (by omega)]; exact a2
      · rw [h1 215 (by omega) (by omega)]; exact a3
      · rw [h1 215 (by omega) (by omega)]; exact a4
    · refine ⟨?_, ?_, ?_, ?_⟩
      · simp only [uZ]; rw [if_neg (by omega), h2 _ _ eu, h2 _ _ eu]; exact a1
      · simp only [uZ]; rw [if_neg (by omega), h2 _ _ eu, h2 _ _ eu]; exact a2
      · rw [h2 _ _ eu]; exact a3
      · rw [h2 _ _ eu]; exact a4
theorem CD_kt {w : Nat → Bool} {e : Nat} {m0 : mg} {h : am_Hp} {I : sm_I} {Q : mQ} {Z : mZ} {X X2 : sm_X} {ow : ow_T} {sb t : Nat} {s : ms} (c : CD w e m0 h I Q Z X ow sb) (ht : t < 2) (h1 : ∀ c, c ≠ 213 → c ≠ 214 → X2 c = X c) (h2 : ∀ c j, j ≠ t → X2 c j = X c j) (htr : TR h ow t (X2 213 t) (X2 214 t) s.1) : CD w e m0 h (uI I 40 (1 + t) 1) Q (uZ Z (rwo I (1 + t)) s) X2 ow sb := by
  obtain ⟨k1, k2, k3, k4, k5, k6, k7⟩ := c
  have b1 := rw_lt I (1 + t)
  have b0 := rw_lt I 0
  refine ⟨k1, fun l hl => LK_c (k2 l hl) (by rw [h1 _ (by omega) (by omega)]) (by rw [h1 _ (by omega) (by omega)]) (by rw [h1 _ (by omega) (by omega)]), fun l hl => ?_, DT_c k4 rfl rfl rfl rfl rfl (h1 _ (by omega) (by omega)) (h1 _ (by omega) (by omega)) (h1 _ (by omega) (by omega)), ?_, fun u hu => ?_, k7⟩
  · have := k3 l hl
    unfold BT at this ⊢
    rw [h1 203 (by omega) (by omega), h1 204 (by omega) (by omega)]
    exact this
  · obtain ⟨s1, s2, s3, s4⟩ := k5
    have e40 : uI I 40 (1 + t) 1 40 0 = I 40 0 := by simp only [uI]; rw [if_neg (by omega)]
    unfold SP
    rw [h1 208 (by omega) (by omega), h1 209 (by omega) (by omega), h1 210 (by omega) (by omega), e40]
    refine ⟨s1, ?_, ?_, s4⟩
    · show lv I 0 = true → St h ow sb (uZ Z (rwo I (1 + t)) s (rwi I 0))
      simp only [uZ]; rw [if_neg (by omega)]; exact s2
    · show I 40 0 = 1 → ∃ b, X 209 0 = .ref b ∧ b ≠ sb ∧ St h ow b (uZ Z (rwo I (1 + t)) s (rwo I 0))
      simp only [uZ]; rw [if_neg (by omega)]; exact s3
  · obtain ⟨a1, a2, a3, a4⟩ := k6 u hu
    have bu := rw_lt I (1 + u)
    by_cases eu : u = t
    · subst eu
      refine ⟨?_, fun _ => ?_, ?_, ?_⟩
      · show lv I (1 + u) = true → TR h ow u (X2 211 u) (X2 212 u) (uZ Z (rwo I (1 + u)) s (rwi I (1 + u))).1
        simp only [uZ]; rw [if_neg (by omega), h1 211 (by omega) (by omega), h1 212 (by omega) (by omega)]; exact a1
      · show TR h ow u (X2 213 u) (X2 214 u) (uZ Z (rwo I (1 + u)) s (rwo I (1 + u))).1
        simpa [uZ] using htr
      · rw [h1 215 (by omega) (by omega)]; exact a3
      · rw [h1 215 (by omega) (by omega)]; exact a4
    · refine ⟨?_, ?_, ?_, ?_⟩
      · show lv I (1 + u) = true → TR h ow u (X2 211 u) (X2 212 u) (uZ Z (rwo I (1 + t)) s (rwi I (1 + u))).1
        simp only [uZ]; rw [if_neg (by omega), h2 _ _ eu, h2 _ _ eu]; exact a1
      · have e40 : uI I 40 (1 + t) 1 40 (1 + u) = I 40 (1 + u) := by simp only [uI]; rw [if_neg (by omega)]
        rw [e40]
        show I 40 (1 + u) = 1 → TR h ow u (X2 213 u) (X2 214 u) (uZ Z (rwo I (1 + t)) s (rwo I (1 + u))).1
        simp only [uZ]; rw [if_neg (by omega), h2 _ _ eu, h2 _ _ eu]; exact a2
      · rw [h2 _ _ eu]; exact a3
      · rw [h2 _ _ eu]; exact a4
theorem CD_ks {w : Nat → Bool} {e : Nat} {m0 : mg} {h : am_Hp} {I : sm_I} {Q : mQ} {Z : mZ} {X : sm_X} {ow : ow_T} {sb b : Nat} {s : ms} (c : CD w e m0 h I Q Z X ow sb) (hb : b ≠ sb) (hst : St h ow b s) : CD w e m0 h (uI I 40 0 1) Q (uZ Z (rwo I 0) s) (uX X 209 0 (.ref b)) ow sb := by
  obtain ⟨k1, k2, k3, k4, k5, k6, k7⟩ := c
  have b0 := rw_lt I 0
  refine ⟨k1, fun l hl => LK_c (k2 l hl) rfl rfl rfl, k3, DT_c k4 rfl rfl rfl rfl rfl rfl rfl rfl, ?_, fun u hu => ?_, k7⟩
  · obtain ⟨s1, s2, s3, s4⟩ := k5
    refine ⟨s1, ?_, fun _ => ⟨b, rfl, hb, ?_⟩, s4⟩
    · show lv I 0 = true → St h ow sb (uZ Z (rwo I 0) s (rwi I 0))
      simp only [uZ]; rw [if_neg (by omega)]; exact s2
    · show St h ow b (uZ Z (rwo I 0) s (rwo I 0))
      simpa [uZ] using hst
  · obtain ⟨a1, a2, a3, a4⟩ := k6 u hu
    have bu := rw_lt I (1 + u)
    refine ⟨?_, ?_, a3, a4⟩
    · show lv I (1 + u) = true → TR h ow u (X 211 u) (X 212 u) (uZ Z (rwo I 0) s (rwi I (1 + u))).1
      simp only [uZ]; rw [if_neg (by omega)]; exact a1
    · have e40 : uI I 40 0 1 40 (1 + u) = I 40 (1 + u) := by simp [uI]
      rw [e40]
      show I 40 (1 + u) = 1 → TR h ow u (X 213 u) (X 214 u) (uZ Z (rwo I 0) s (rwo I (1 + u))).1
      simp only [uZ]; rw [if_neg (by omega)]; exact a2
theorem CD_bk {w : Nat → Bool} {e k : Nat} {m0 : mg} {h : am_Hp} {I : sm_I} {Q : mQ} {Z : mZ} {X : sm_X} {ow : ow_T} {sb : Nat} {v : Int32} {f : Int32} (c : CD w e m0 h I Q Z X ow sb) (hf : f = if v = -1 then 0 else 1) : CD w e m0 h (uI I 12 k v) Q Z (uX X 207 k (.int f)) ow sb := by
  obtain ⟨k1, k2, k3, ⟨d1, d2, d3⟩, k5, k6, k7⟩ := c
  refine ⟨k1, fun l hl => LK_c (k2 l hl) rfl rfl rfl, k3, ⟨d1, d2, fun j hj => ?_⟩, k5, k6, k7⟩
  by_cases e : j = k
  · subst e
    simp [uX, uI, hf]
  · have := d3 j hj
    simp only [uX, uI, e, and_false, if_false]
    exact this
theorem sm_12 {h : am_Hp} {I : sm_I} {X : sm_X} {c k : Nat} {v : Int32} (s : sm tbc h I X) (hc : tbc_h c = true) : sm tbc h (uI I c k v) X := by
  refine sm_hid s (fun c2 j h2 => ?_)
  have : c2 ≠ c := fun e => by subst e; rw [hc] at h2; cases h2
  simp [uI, this]
theorem MF_W {h : am_Hp} {ow : ow_T} {sb k : Nat} {td : Int32} {vq va vs : Value} : MF h ow sb (mgW k td) (nI k) td vq va vs :=
  ⟨fun c => absurd (show (5 : Int32) = 1 from c) (by decide), fun c => absurd (show (5 : Int32) = 2 from c) (by decide), fun _ => ⟨rfl, rfl⟩, fun c => absurd (show (5 : Int32) = 3 ∨ (5 : Int32) = 4 from c) (by decide)⟩
