/-! a message is taken -/
theorem MID_sub {X : Nat} {M N : mM} (k : MID X M) (f : ∀ c, c ≠ 10 → c ≠ 24 → c ≠ 25 → N.1 c = M.1 c) (hZ : N.2.2 = M.2.2) (h6 : ∀ l, l < 16 → K6 X N.1 N.2.1 l) (hs : ∀ l, l < 16 → ∀ (i : Nat) (y : mg), (N.2.1 l)[i]? = some y → ∃ i' : Nat, (M.2.1 l)[i']? = some y) (hu : ∀ k, k < 3 → ∀ i y, US N.1 N.2.1 k i y → ∃ i', US M.1 M.2.1 k i' y) (h1 : ∀ k, k < 3 → ∀ i j y y', US N.1 N.2.1 k i y → US N.1 N.2.1 k j y' → i = j) (hw : ∀ k, k < 3 → ∀ i y, UW N.1 N.2.1 k i y → ∃ i', UW M.1 M.2.1 k i' y) : MID X N := by
  obtain ⟨k1, k2, k3, k4, k5, k6, k7, k8, k9, k10, k11⟩ := k
  have e0 := f 0 (by decide) (by decide) (by decide)
  have e1 := f 1 (by decide) (by decide) (by decide)
  have e5 := f 5 (by decide) (by decide) (by decide)
  have e7 := f 7 (by decide) (by decide) (by decide)
  have e11 := f 11 (by decide) (by decide) (by decide)
  have e12 := f 12 (by decide) (by decide) (by decide)
  have e13 := f 13 (by decide) (by decide) (by decide)
  have e14 := f 14 (by decide) (by decide) (by decide)
  have e15 := f 15 (by decide) (by decide) (by decide)
  have e16 := f 16 (by decide) (by decide) (by decide)
  have e17 := f 17 (by decide) (by decide) (by decide)
  have e22 := f 22 (by decide) (by decide) (by decide)
  have e40 := f 40 (by decide) (by decide) (by decide)
  refine ⟨K1_c e0 e1 (f 2 (by decide) (by decide) (by decide)) k1, K2_c (f 3 (by decide) (by decide) (by decide)) (f 4 (by decide) (by decide) (by decide)) e5 (f 6 (by decide) (by decide) (by decide)) k2, fun k hk => K3_c e0 e1 e11 (congrFun e12 _) (congrFun e13 _) (congrFun e14 _) (congrFun e16 _) (congrFun e40 _) (k3 k hk), fun t ht => K4_c e0 e11 (congrFun e16 _) (congrFun e17 _) (row1_c e11 hZ) (k4 t ht), K5_c e0 e5 e11 (congrFun e16 _) (f 20 (by decide) (by decide) (by decide)) (f 21 (by decide) (by decide) (by decide)) e22 (f 23 (by decide) (by decide) (by decide)) (by rw [hZ]) k5, h6, ?_, fun k hk => ?_, fun d hd h5 => ?_, ?_, K11_c (f 4 (by decide) (by decide) (by decide)) e5 (f 6 (by decide) (by decide) (by decide)) e7 k11⟩
  · obtain ⟨a1, a2, a3, a4, a5⟩ := k7
    unfold K7
    rw [hZ, e17, e40]
    refine ⟨a1, a2, a3, fun l hl i m hi hm => ?_, fun t ht => by rw [rwo_c e11]; exact a5 t ht⟩
    obtain ⟨i', hi'⟩ := hs l hl i m hi
    exact a4 l hl i' m hi' hm
  · obtain ⟨⟨n, a1, a2, a3⟩, a4, a5⟩ := k8 k hk
    refine ⟨⟨n, a1, by rw [e15]; exact a2, fun l hl i m hi h1 h2 => ?_⟩, h1 k hk, fun i m u => ?_⟩
    · obtain ⟨i', hi'⟩ := hs l hl i m hi
      rw [e11, e40, lk_c e11, lb_c e11]
      exact a3 l hl i' m hi' h1 h2
    · obtain ⟨i', u'⟩ := hu k hk i m u
      obtain ⟨b1, b2, b3⟩ := a5 i' m u'
      rw [e13, e15, e16]
      refine ⟨b1, b2, fun j w y => ?_⟩
      obtain ⟨j', y'⟩ := hw k hk j w y
      exact b3 j' w y'
  · rw [e5] at h5
    obtain ⟨a1, a2, a3, a4, a5⟩ := k9 d hd h5
    rw [dsk_c e7, lv_c e0 e11, rwi_c e11, rwo_c e11, e12, e13, e14, e16, e22, hZ]
    refine ⟨a1, a2, a3, fun z i m u => ?_, fun z y i m u => ?_⟩
    · obtain ⟨i', u'⟩ := hu 0 (by omega) i m u
      exact a4 z i' m u'
    · obtain ⟨i', u'⟩ := hw 0 (by omega) i m u
      exact a5 z y i' m u'
  · unfold K10
    rw [rwi_c e11, rwo_c e11, e12, e13, e14, e16, hZ]
    refine ⟨k10.1, fun z => ⟨fun i m u => ?_, fun i m u => ?_⟩⟩
    · obtain ⟨i', u'⟩ := hu 0 (by omega) i m u
      exact (k10.2 z).1 i' m u'
    · obtain ⟨i', u'⟩ := hw 0 (by omega) i m u
      exact (k10.2 z).2 i' m u'
theorem sub_SD {M N : mM} (f : ∀ c, c ≠ 10 → c ≠ 24 → c ≠ 25 → N.1 c = M.1 c) (hZ : N.2.2 = M.2.2) (h : SD2 M) : SD2 N := by
  unfold SD2
  rw [lv_c (f 0 (by decide) (by decide) (by decide)) (f 11 (by decide) (by decide) (by decide)), rwi_c (f 11 (by decide) (by decide) (by decide)), f 5 (by decide) (by decide) (by decide), f 16 (by decide) (by decide) (by decide), f 21 (by decide) (by decide) (by decide), f 22 (by decide) (by decide) (by decide), hZ]
  exact h
/-- the first of a link is taken: sh is 1 if it leaves, n the number that is taken last -/
theorem INV_ar {X l sh T' : Nat} {m : mg} {q : List mg} {M N : mM} (hX : X < 2 ^ 30) (k : INV X M) (hl : l < 16) (hq : M.2.1 l = m :: q) (hsh : sh = 0 ∨ sh = 1) (f : ∀ c, c ≠ 10 → c ≠ 24 → c ≠ 25 → N.1 c = M.1 c) (fl : ∀ c j, j ≠ l → N.1 c j = M.1 c j) (hZ : N.2.2 = M.2.2) (hQ : ∀ j, j ≠ l → N.2.1 j = M.2.1 j) (hQl : N.2.1 l = (m :: q).drop sh) (h24 : tri (N.1 24 l) ∧ tri (N.1 25 l) ∧ (N.2.1 l = [] → N.1 24 l = -1 ∧ N.1 25 l = -1)) (h10 : N.1 10 l = nI T') (hT : ∀ A T, A ≤ X → M.1 9 l = nI A → M.1 10 l = nI T → T ≤ A → A ≤ T + (m :: q).length → T + (m :: q).length ≤ A + 1 → (T' = A + 1 - (m :: q).length)) : INV X N ∧ (∀ k, k < 3 → ∀ i y, US N.1 N.2.1 k i y → ∃ i', US M.1 M.2.1 k i' y ∧ (lk M.1 k = l → 1 ≤ i')) ∧ (∀ k, k < 3 → ∀ i y, UW N.1 N.2.1 k i y → ∃ i', UW M.1 M.2.1 k i' y) := by
  obtain ⟨km, kS⟩ := k
  obtain ⟨a1, a2, a3, a4, a5, A, T, b1, b2, b3, b4, b5, b6, b7⟩ := km.2.2.2.2.2.1 l hl
  rw [hq] at b5 b6 b7 a5
  have hT' := hT A T b1 b2 b3 b4 b5 b6
  have hlen : (m :: q).length = q.length + 1 := rfl
  have e11 := f 11 (by decide) (by decide) (by decide)
  have e15 := f 15 (by decide) (by decide) (by decide)
  have hTA : T ≤ T' := by omega
  have dr : ∀ i, (N.2.1 l)[i]? = (m :: q)[i + sh]? := fun i => by
    rw [hQl, List.getElem?_drop, Nat.add_comm]
  have sub : ∀ j, j < 16 → ∀ (i : Nat) (y : mg), (N.2.1 j)[i]? = some y → (M.2.1 j)[if j = l then i + sh else i]? = some y := fun j hj i y hi => by
    by_cases e : j = l
    · subst e
      rw [if_pos rfl, hq, ← dr i]
      exact hi
    · rw [if_neg e, ← hQ j e]
      exact hi
  -- a number above the one taken last
  have num : ∀ (i : Nat) (y : mg), (m :: q)[i]? = some y → ¬ y.1 1 ≤ nI T' → ¬ y.1 1 ≤ M.1 10 l ∧ 1 ≤ i := fun i y hi hn => by
    have hb := b7 i y hi
    have hlt := (List.getElem?_eq_some_iff.mp hi).1
    rw [hb] at hn ⊢
    rw [b3]
    have h1 : T' < A + 1 + i - (m :: q).length := by
      by_cases c : A + 1 + i - (m :: q).length ≤ T'
      · exact absurd (nI_le c (by omega)) hn
      · omega
    refine ⟨fun z => ?_, by omega⟩
    have : ¬ nI (A + 1 + i - (m :: q).length) ≤ nI T := nI_ge (by omega) (by omega)
    exact this z
  have hUS : ∀ k, k < 3 → ∀ i y, US N.1 N.2.1 k i y → US M.1 M.2.1 k (if lk M.1 k = l then i + sh else i) y ∧ (lk M.1 k = l → 1 ≤ i + sh) := fun k hk i y u => by
    obtain ⟨u1, u2, u3, u4⟩ := u
    rw [lk_c e11] at u1 u4
    have hlk := (lk_16 hk (km.2.2.1 k hk).1).1
    have s1 := sub _ hlk i y u1
    by_cases e : lk M.1 k = l
    · rw [if_pos e] at s1 ⊢
      rw [e, h10] at u4
      have s1' : (m :: q)[i + sh]? = some y := by rw [← hq, ← e]; exact s1
      obtain ⟨n1, n2⟩ := num (i + sh) y s1' u4
      exact ⟨⟨s1, u2, u3, by rw [e]; exact n1⟩, fun _ => n2⟩
    · rw [if_neg e] at s1 ⊢
      rw [fl 10 _ e] at u4
      exact ⟨⟨s1, u2, u3, u4⟩, fun z => absurd z e⟩
  have hUW : ∀ k, k < 3 → ∀ i y, UW N.1 N.2.1 k i y → UW M.1 M.2.1 k (if lb M.1 k = l then i + sh else i) y := fun k hk i y u => by
    obtain ⟨u1, u2, u3, u5, u4⟩ := u
    rw [lb_c e11] at u1 u4
    rw [e15] at u5
    have hlb := (lk_16 hk (km.2.2.1 k hk).1).2
    have s1 := sub _ hlb i y u1
    by_cases e : lb M.1 k = l
    · rw [if_pos e] at s1 ⊢
      rw [e, h10] at u4
      have s1' : (m :: q)[i + sh]? = some y := by rw [← hq, ← e]; exact s1
      exact ⟨s1, u2, u3, u5, by rw [e]; exact (num (i + sh) y s1' u4).1⟩
    · rw [if_neg e] at s1 ⊢
      rw [fl 10 _ e] at u4
      exact ⟨s1, u2, u3, u5, u4⟩
  refine ⟨⟨MID_sub km f hZ (fun j hj => ?_) (fun j hj i y hi => ⟨_, sub j hj i y hi⟩) (fun k hk i y u => ⟨_, (hUS k hk i y u).1⟩) (fun k hk i j y y' u u' => ?_) (fun k hk i y u => ⟨_, hUW k hk i y u⟩), sub_SD f hZ kS⟩, fun k hk i y u => ⟨_, (hUS k hk i y u).1, fun e => by rw [if_pos e]; exact (hUS k hk i y u).2 e⟩, fun k hk i y u => ⟨_, hUW k hk i y u⟩⟩
  · by_cases e : j = l
    · subst e
      have e0 := f 0 (by decide) (by decide) (by decide)
      have e9 := f 9 (by decide) (by decide) (by decide)
      have ll : (N.2.1 j).length + sh = q.length + 1 := by
        rw [hQl, List.length_drop]
        rcases hsh with rfl | rfl
        · rfl
        · show q.length + 1 - 1 + 1 = _
          omega
      unfold K6 KN
      rw [e0, e9, h10]
      refine ⟨fun z => a1 (by rw [hq]; exact List.cons_ne_nil _ _), h24.2.2, h24.1, h24.2.1, fun i y hi => a5 (i + sh) y (by rw [← dr i]; exact hi), A, T', b1, b2, rfl, by omega, by omega, by omega, fun i y hi => ?_⟩
      rw [b7 (i + sh) y (by rw [← dr i]; exact hi)]
      congr 1
      omega
    · exact K6_c (f 0 (by decide) (by decide) (by decide)) (congrFun (f 9 (by decide) (by decide) (by decide)) _) (fl 10 j e) (fl 24 j e) (fl 25 j e) (hQ j e) (km.2.2.2.2.2.1 j hj)
  · have w1 := (hUS k hk i y u).1
    have w2 := (hUS k hk j y' u').1
    have := (km.2.2.2.2.2.2.2.1 k hk).2.1 _ _ _ _ w1 w2
    split at this <;> omega
