theorem mwkI_s {I : sm_I} {Q : mQ} {n : Nat} : mwkI I Q (n + 1) = if wkc I Q n = true then uI (uI (mwkI I Q n) 24 n (nxb I (I 25 n))) 25 n (nxb I (I 25 n)) else mwkI I Q n := by
  funext c j
  split
  · rename_i hw
    simp only [mwkI, uI]
    by_cases ej : j = n
    · subst ej
      by_cases e1 : c = 24
      · subst e1; simp [hw]
      · by_cases e2 : c = 25
        · subst e2; simp [hw]
        · simp [e1, e2]
    · have z : (j < n + 1 ↔ j < n) := by omega
      simp [ej, z]
  · rename_i hw
    simp only [mwkI]
    by_cases ej : j = n
    · subst ej
      simp [hw]
    · have z : (j < n + 1 ↔ j < n) := by omega
      simp [z]
theorem mwkI_n {I : sm_I} {Q : mQ} {n c : Nat} : mwkI I Q n c n = I c n := by
  simp [mwkI]
theorem mwkI_0 {I : sm_I} {Q : mQ} : mwkI I Q 0 = I := by
  funext c j
  simp [mwkI]
theorem nxb_c {I J : sm_I} {b : Int32} (e : J 3 = I 3) : nxb J b = nxb I b := by
  unfold nxb fbu
  rw [e]
theorem CD_pb {w : Nat → Bool} {l : Nat} {m0 : mg} {h : am_Hp} {I : sm_I} {Q : mQ} {Z : mZ} {X : sm_X} {ow : ow_T} {sb : Nat} {v : Int32} (c : CD w 32 m0 h I Q Z X ow sb) : CD w 32 m0 h (uI (uI I 24 l v) 25 l v) Q Z (uX (uX X 203 l (.int v)) 204 l (.int v)) ow sb := by
  obtain ⟨k1, k2, k3, k4, k5, k6, k7⟩ := c
  refine ⟨k1, fun j hj => LK_c (k2 j hj) rfl rfl rfl, fun j hj => ?_, DT_c k4 rfl rfl rfl rfl rfl rfl rfl rfl, SP_c k5 rfl rfl rfl rfl rfl rfl rfl rfl, fun t ht => TM_c (k6 t ht) rfl rfl rfl rfl rfl rfl rfl rfl rfl rfl, k7⟩
  obtain ⟨-, -, b3⟩ := k3 j hj
  obtain ⟨y1, y2⟩ := b3 (by omega) (by omega)
  refine ⟨fun z => absurd z (by omega), fun z => absurd z (by omega), fun _ _ => ?_⟩
  by_cases e : j = l
  · subst e
    simp [uI, uX]
  · have h1 : uI (uI I 24 l v) 25 l v 24 j = I 24 j := by simp [uI, e]
    have h2 : uX (uX X 203 l (.int v)) 204 l (.int v) 203 j = X 203 j := by simp [uX, e]
    have h3 : uI (uI I 24 l v) 25 l v 25 j = I 25 j := by simp [uI, e]
    have h4 : uX (uX X 203 l (.int v)) 204 l (.int v) 204 j = X 204 j := by simp [uX, e]
    rw [h1, h2, h3, h4]
    exact ⟨y1, y2⟩
/-! a terminal begins anew -/
def rwT (i : Int32) : ms := (fun j => if j = 11 then i else if j = 5 then -1 else 0, [], [])
def mrT (t hm : Nat) (M : mM) : mM := (uI (uI (uI (uI M.1 17 t (M.1 17 t + 1)) 18 t 0) 11 (1 + t) (nI hm)) 40 (1 + t) 0, M.2.1, uZ M.2.2 (2 * (1 + t) + hm % 2) (rwT (M.1 17 t + 1)))
theorem CD_rsT {w : Nat → Bool} {e t hm : Nat} {m0 : mg} {h : am_Hp} {I : sm_I} {Q : mQ} {Z : mZ} {X : sm_X} {ow : ow_T} {sb : Nat} (c : CD w e m0 h I Q Z X ow sb) (ht : t < 2) (hh : hm = 2 ∨ hm = 3) (hi : ¬ I 17 t + 1 = 0) : CD w e m0 h (mrT t hm (I, Q, Z)).1 Q (mrT t hm (I, Q, Z)).2.2 (uX (uX (uX X 211 t .null) 212 t .null) 215 t .null) ow sb := by
  obtain ⟨k1, k2, k3, k4, ⟨s1, s2, s3, s4⟩, k6, k7⟩ := c
  obtain ⟨J, hJ⟩ : ∃ J, J = (mrT t hm (I, Q, Z)).1 := ⟨_, rfl⟩
  have ec : ∀ c, c ≠ 17 → c ≠ 18 → c ≠ 11 → c ≠ 40 → J c = I c := fun c h1 h2 h3 h4 => by rw [hJ]; funext j; simp [mrT, uI, h1, h2, h3, h4]
  have e11 : ∀ j, j ≠ 1 + t → J 11 j = I 11 j := fun j hj => by rw [hJ]; simp [mrT, uI, hj]
  have e11t : J 11 (1 + t) = nI hm := by rw [hJ]; simp [mrT, uI]
  have e40 : ∀ j, j ≠ 1 + t → J 40 j = I 40 j := fun j hj => by rw [hJ]; simp [mrT, uI, hj]
  have e40t : J 40 (1 + t) = 0 := by rw [hJ]; simp [mrT, uI]
  have e18 : ∀ j, j ≠ t → J 18 j = I 18 j := fun j hj => by rw [hJ]; simp [mrT, uI, hj]
  have e18t : J 18 t = 0 := by rw [hJ]; simp [mrT, uI]
  have lvj : ∀ j, j ≠ 1 + t → lv J j = lv I j ∧ rwi J j = rwi I j ∧ rwo J j = rwo I j := fun j hj => by
    unfold lv rwi rwo pn
    rw [e11 j hj, ec 0 (by omega) (by omega) (by omega) (by omega)]
    exact ⟨rfl, rfl, rfl⟩
  have rt : rwi J (1 + t) = 2 * (1 + t) + hm % 2 := by
    unfold rwi pn
    rw [e11t, nI_clamp (by omega)]
  have b0 := rw_lt I 0
  show CD w e m0 h (mrT t hm (I, Q, Z)).1 Q (uZ Z (2 * (1 + t) + hm % 2) (rwT (I 17 t + 1))) _ ow sb
  rw [← hJ]
  refine ⟨k1, fun l hl => LK_c (k2 l hl) rfl rfl rfl, fun l hl => ?_, DT_c k4 (ec _ (by omega) (by omega) (by omega) (by omega)) (ec _ (by omega) (by omega) (by omega) (by omega)) (ec _ (by omega) (by omega) (by omega) (by omega)) (by rw [ec _ (by omega) (by omega) (by omega) (by omega)]) (ec _ (by omega) (by omega) (by omega) (by omega)) rfl rfl rfl, ?_, fun u hu => ?_, fun j hj => ?_⟩
  · have := k3 l hl
    unfold BT fbu at this ⊢
    rw [ec 3 (by omega) (by omega) (by omega) (by omega), ec 24 (by omega) (by omega) (by omega) (by omega), ec 25 (by omega) (by omega) (by omega) (by omega)]
    exact this
  · obtain ⟨a, b, c⟩ := lvj 0 (by omega)
    unfold SP
    rw [a, b, c, e40 0 (by omega), ec 20 (by omega) (by omega) (by omega) (by omega), ec 21 (by omega) (by omega) (by omega) (by omega)]
    refine ⟨s1, ?_, ?_, s4⟩
    · simp only [uZ]; rw [if_neg (by omega)]; exact s2
    · simp only [uZ]; rw [if_neg (by omega)]; exact s3
  · obtain ⟨a1, a2, a3, a4⟩ := k6 u hu
    by_cases eu : u = t
    · subst eu
      refine ⟨fun _ => ?_, fun z => by rw [e40t] at z; exact absurd z (by decide), fun _ => by simp [uX], fun z => absurd e18t z⟩
      rw [rt]
      simp only [uZ, if_true]
      refine Or.inl ⟨by simp [uX], by simp [uX], rfl, rfl, rfl, ?_⟩
      show (-1 : Int32) = if (I 17 u + 1) = 0 then 1 else -1
      rw [if_neg hi]
    · obtain ⟨a, b, c⟩ := lvj (1 + u) (by omega)
      have bu := rw_lt I (1 + u)
      have x1 : (uX (uX (uX X 211 t .null) 212 t .null) 215 t .null) 211 u = X 211 u := by simp [uX, eu]
      have x2 : (uX (uX (uX X 211 t .null) 212 t .null) 215 t .null) 212 u = X 212 u := by simp [uX, eu]
      have x5 : (uX (uX (uX X 211 t .null) 212 t .null) 215 t .null) 215 u = X 215 u := by simp [uX, eu]
      unfold TM
      rw [a, b, c, e40 _ (by omega), e18 u eu, ec 19 (by omega) (by omega) (by omega) (by omega), x1, x2, x5]
      refine ⟨?_, ?_, a3, a4⟩
      · simp only [uZ]; rw [if_neg (by omega)]; exact a1
      · simp only [uZ]; rw [if_neg (by omega)]; exact a2
  · have := k7 j hj
    unfold prk at this ⊢
    by_cases ej : j = 1 + t
    · subst ej
      rw [e11t, if_neg (by omega), if_neg (by omega)]
      rcases hh with rfl | rfl
      · exact Or.inr (Or.inl rfl)
      · exact Or.inr (Or.inr rfl)
    · rw [e11 j ej]
      exact this
