theorem mar_f {l : Nat} {lost : Bool} {M : mM} : (∀ c, c ≠ 24 → c ≠ 25 → (mar1 lost l M).1 c = M.1 c) ∧ (∀ c j, j ≠ l → (mar1 lost l M).1 c j = M.1 c j) ∧ (mar1 lost l M).2.2 = M.2.2 ∧ (∀ j, j ≠ l → (mar1 lost l M).2.1 j = M.2.1 j) ∧ (mar1 lost l M).2.1 l = (M.2.1 l).drop (if lost = true then 0 else 1) := by
  unfold mar1
  split
  · refine ⟨fun c h1 _ => uI_f h1, fun c j h => uI_j h, rfl, fun _ _ => rfl, rfl⟩
  · refine ⟨fun c h1 h2 => ?_, fun c j h => ?_, rfl, fun j h => uQn h, ?_⟩
    · show mlvI M.1 l _ c = _
      unfold mlvI
      rw [uI_f h2, uI_f h1]
    · show mlvI M.1 l _ c j = _
      unfold mlvI
      rw [uI_j h, uI_j h]
    · show uQ M.2.1 l (M.2.1 l).tail l = _
      rw [uQs, List.drop_one]
theorem mar_24 {X l : Nat} {lost : Bool} {m : mg} {q : List mg} {M : mM} (k : INV X M) (hl : l < 16) (hq : M.2.1 l = m :: q) : tri ((mar1 lost l M).1 24 l) ∧ tri ((mar1 lost l M).1 25 l) ∧ ((mar1 lost l M).2.1 l = [] → (mar1 lost l M).1 24 l = -1 ∧ (mar1 lost l M).1 25 l = -1) := by
  obtain ⟨a1, a2, a3, a4, a5, a6⟩ := k.1.2.2.2.2.2.1 l hl
  unfold mar1
  split
  · refine ⟨?_, ?_, fun z => ?_⟩
    · show tri (uI M.1 24 l (-1) 24 l)
      rw [uI_s]
      exact Or.inl rfl
    · show tri (uI M.1 24 l (-1) 25 l)
      rw [uI_c (by decide)]
      exact a4
    · change M.2.1 l = [] at z
      rw [hq] at z
      cases z
  · have e24 : ∀ v, mlvI M.1 l v 24 l = v := fun v => by
      unfold mlvI
      rw [uI_c (by decide), uI_s]
    have e25 : ∀ v, mlvI M.1 l v 25 l = v := fun v => uI_s
    have ht : tri (if (M.2.1 l).tail = [] then -1 else fbu M.1) := by
      split
      · exact Or.inl rfl
      · exact fbu_t
    refine ⟨by show tri (mlvI M.1 l _ 24 l); rw [e24]; exact ht, by show tri (mlvI M.1 l _ 25 l); rw [e25]; exact ht, fun z => ?_⟩
    change uQ M.2.1 l (M.2.1 l).tail l = [] at z
    rw [uQs] at z
    show mlvI M.1 l _ 24 l = -1 ∧ mlvI M.1 l _ 25 l = -1
    rw [e24, e25, if_pos z]
    exact ⟨rfl, rfl⟩
/-- not a fresh one -/
theorem INV_m1 {X l : Nat} {lost : Bool} {m : mg} {q : List mg} {M : mM} (hX : X < 2 ^ 30) (k : INV X M) (hl : l < 16) (hq : M.2.1 l = m :: q) (hn : m.1 1 ≤ M.1 10 l) : INV X (mar1 lost l M) := by
  obtain ⟨f1, f2, f3, f4, f5⟩ := mar_f (l := l) (lost := lost) (M := M)
  obtain ⟨-, -, -, -, -, A, T, b1, b2, b3, b4, b5, b6, b7⟩ := k.1.2.2.2.2.2.1 l hl
  rw [hq] at b5 b6 b7
  have hm := b7 0 m rfl
  refine (INV_ar (sh := if lost = true then 0 else 1) (T' := T) hX k hl hq (by cases lost <;> simp) (fun c _ h2 h3 => f1 c h2 h3) f2 f3 f4 (by rw [f5, hq]) (mar_24 k hl hq) (by rw [f1 10 (by decide) (by decide)]; exact b3) (fun A' T1 c1 c2 c3 c4 c5 c6 => ?_)).1
  have e1 : A' = A := (nI_eq (by omega) (by omega)).mp (c2.symm.trans b2)
  have e2 : T1 = T := (nI_eq (by omega) (by omega)).mp (c3.symm.trans b3)
  subst e1 e2
  rw [hm, b3] at hn
  by_cases c : A' + 1 + 0 - (m :: q).length ≤ T1
  · omega
  · exact absurd hn (nI_ge (by omega) (by omega))
/-- a fresh one -/
theorem INV_m2 {X l : Nat} {lost : Bool} {m : mg} {q : List mg} {M : mM} (hX : X < 2 ^ 30) (k : INV X M) (hl : l < 16) (hq : M.2.1 l = m :: q) : INV X (mar2 l (m.1 1) (mar1 lost l M)) ∧ (∀ k, k < 3 → ∀ i y, US (mar2 l (m.1 1) (mar1 lost l M)).1 (mar2 l (m.1 1) (mar1 lost l M)).2.1 k i y → ∃ i', US M.1 M.2.1 k i' y ∧ (lk M.1 k = l → 1 ≤ i')) ∧ (∀ k, k < 3 → ∀ i y, UW (mar2 l (m.1 1) (mar1 lost l M)).1 (mar2 l (m.1 1) (mar1 lost l M)).2.1 k i y → ∃ i', UW M.1 M.2.1 k i' y) := by
  obtain ⟨f1, f2, f3, f4, f5⟩ := mar_f (l := l) (lost := lost) (M := M)
  obtain ⟨-, -, -, -, -, A, T, b1, b2, b3, b4, b5, b6, b7⟩ := k.1.2.2.2.2.2.1 l hl
  rw [hq] at b5 b6 b7
  have hm := b7 0 m rfl
  have h24 := mar_24 (lost := lost) k hl hq
  refine INV_ar (N := mar2 l (m.1 1) (mar1 lost l M)) (sh := if lost = true then 0 else 1) (T' := A + 1 - (m :: q).length) hX k hl hq (by cases lost <;> simp) (fun c h1 h2 h3 => ?_) (fun c j h => ?_) f3 f4 (by show (mar1 lost l M).2.1 l = _; rw [f5, hq]) ?_ ?_ (fun A' T1 c1 c2 c3 c4 c5 c6 => ?_)
  · show uI (mar1 lost l M).1 10 l (m.1 1) c = _
    rw [uI_f h1, f1 c h2 h3]
  · show uI (mar1 lost l M).1 10 l (m.1 1) c j = _
    rw [uI_j h, f2 c j h]
  · show tri (uI (mar1 lost l M).1 10 l (m.1 1) 24 l) ∧ tri (uI (mar1 lost l M).1 10 l (m.1 1) 25 l) ∧ ((mar1 lost l M).2.1 l = [] → uI (mar1 lost l M).1 10 l (m.1 1) 24 l = -1 ∧ uI (mar1 lost l M).1 10 l (m.1 1) 25 l = -1)
    rw [uI_c (by decide), uI_c (by decide)]
    exact h24
  · show uI (mar1 lost l M).1 10 l (m.1 1) 10 l = _
    rw [uI_s, hm]
  · have e1 : A' = A := (nI_eq (by omega) (by omega)).mp (c2.symm.trans b2)
    rw [e1]
/-- the message itself -/
theorem fresh_US {X l : Nat} {m : mg} {q : List mg} {M : mM} (k : INV X M) (hl : l < 16) (hq : M.2.1 l = m :: q) (hn : ¬ m.1 1 ≤ M.1 10 l) {kk : Nat} (hkk : kk < 3) (h5 : m.1 5 = nI kk) : (isS m = true → US M.1 M.2.1 kk 0 m ∧ l = lk M.1 kk ∧ ¬ M.1 11 kk = -1) ∧ (m.1 0 = 5 → m.1 6 = M.1 15 kk → UW M.1 M.2.1 kk 0 m) ∧ (m.1 0 = 5 → l = lb M.1 kk ∧ M.1 40 kk = 1 ∧ ¬ M.1 11 kk = -1) := by
  obtain ⟨⟨n, a1, a2, a3⟩, -⟩ := k.1.2.2.2.2.2.2.2.1 kk hkk
  have h0 : (M.2.1 l)[0]? = some m := by rw [hq]; rfl
  refine ⟨fun hs => ?_, fun hw h6 => ?_, fun hw => ?_⟩
  · obtain ⟨-, b1, b2, -⟩ := a3 l hl 0 m h0 h5 (Or.inl hs)
    have e := b2 hs
    exact ⟨⟨by rw [← e]; exact h0, hs, h5, by rw [← e]; exact hn⟩, e, b1⟩
  · obtain ⟨-, b1, -, b3⟩ := a3 l hl 0 m h0 h5 (Or.inr hw)
    have e := (b3 hw).1
    exact ⟨by rw [← e]; exact h0, hw, h5, h6, by rw [← e]; exact hn⟩
  · obtain ⟨-, b1, -, b3⟩ := a3 l hl 0 m h0 h5 (Or.inr hw)
    exact ⟨(b3 hw).1, (b3 hw).2, b1⟩
/-- a request stands -/
theorem MID_ac {X : Nat} {q : Nat → Int32} {M : mM} (k : MID X M) (hl : lv M.1 0 = true) (hq : ∃ t, t < 2 ∧ q 0 = nI t) : MID X (mac q M) := by
  unfold mac
  split
  · exact k
  · rename_i c
    obtain ⟨k1, k2, k3, k4, k5, k6, k7, k8, k9, k10, k11⟩ := k
    obtain ⟨a1, a2, a3, a4, a5, ⟨n, c1, c2, c3⟩, a7⟩ := k5
    have es : stn M.1 = n := stn_eq c2 c1
    have hn8 : n < 8 := by
      by_cases z : n = 8
      · exact absurd (Or.inl (es.trans z)) c
      · omega
    rw [es]
    have f : ∀ c, c ≠ 20 → c ≠ 21 → mrw M.1 n q c = M.1 c := fun c h1 h2 => by
      funext j
      unfold mrw
      rw [if_neg (fun z => h1 z.1), if_neg (fun z => h2 z.1)]
    have e0 := f 0 (by decide) (by decide)
    have e11 := f 11 (by decide) (by decide)
    refine ⟨K1_c e0 (f 1 (by decide) (by decide)) (f 2 (by decide) (by decide)) k1, K2_c (f 3 (by decide) (by decide)) (f 4 (by decide) (by decide)) (f 5 (by decide) (by decide)) (f 6 (by decide) (by decide)) k2, fun k hk => K3_c e0 (f 1 (by decide) (by decide)) e11 (congrFun (f 12 (by decide) (by decide)) _) (congrFun (f 13 (by decide) (by decide)) _) (congrFun (f 14 (by decide) (by decide)) _) (congrFun (f 16 (by decide) (by decide)) _) (congrFun (f 40 (by decide) (by decide)) _) (k3 k hk), fun t ht => K4_c (N := (mrw M.1 n q, M.2)) e0 e11 (congrFun (f 16 (by decide) (by decide)) _) (congrFun (f 17 (by decide) (by decide)) _) (row1_c (N := (mrw M.1 n q, M.2)) e11 rfl) (k4 t ht), ?_, fun l hl => K6_c e0 (congrFun (f 9 (by decide) (by decide)) _) (congrFun (f 10 (by decide) (by decide)) _) (congrFun (f 24 (by decide) (by decide)) _) (congrFun (f 25 (by decide) (by decide)) _) rfl (k6 l hl), K7_c (N := (mrw M.1 n q, M.2)) e11 (f 17 (by decide) (by decide)) (f 40 (by decide) (by decide)) rfl k7, fun k hk => K8_c (f 10 (by decide) (by decide)) e11 (congrFun (f 13 (by decide) (by decide)) _) (congrFun (f 15 (by decide) (by decide)) _) (congrFun (f 16 (by decide) (by decide)) _) (congrFun (f 40 (by decide) (by decide)) _) (k8 k hk), K9_c (N := (mrw M.1 n q, M.2)) e0 (f 5 (by decide) (by decide)) (f 7 (by decide) (by decide)) (f 10 (by decide) (by decide)) e11 (congrFun (f 12 (by decide) (by decide)) _) (congrFun (f 13 (by decide) (by decide)) _) (congrFun (f 14 (by decide) (by decide)) _) (congrFun (f 15 (by decide) (by decide)) _) (congrFun (f 16 (by decide) (by decide)) _) (f 22 (by decide) (by decide)) rfl (fun _ _ => rfl) k9, K10_c (N := (mrw M.1 n q, M.2)) (f 10 (by decide) (by decide)) e11 (congrFun (f 12 (by decide) (by decide)) _) (congrFun (f 13 (by decide) (by decide)) _) (congrFun (f 14 (by decide) (by decide)) _) (congrFun (f 15 (by decide) (by decide)) _) (congrFun (f 16 (by decide) (by decide)) _) rfl (fun _ _ => rfl) k10, K11_c (f 4 (by decide) (by decide)) (f 5 (by decide) (by decide)) (f 6 (by decide) (by decide)) (f 7 (by decide) (by decide)) k11⟩
    have er : row1 (mrw M.1 n q, M.2) 0 = row1 M 0 := row1_c (N := (mrw M.1 n q, M.2)) e11 rfl
    unfold K5
    rw [er]
    simp only []
    rw [lv_c e0 e11, rwi_c e11, f 5 (by decide) (by decide), f 16 (by decide) (by decide), f 22 (by decide) (by decide), f 23 (by decide) (by decide)]
    refine ⟨a1, a2, a3, a4, fun z => absurd (hl.symm.trans z) (by decide), ⟨n + 1, by omega, ?_, fun k hk => ?_⟩, a7⟩
    · unfold mrw
      rw [if_neg (fun z => absurd z.1 (by decide)), if_pos ⟨rfl, rfl⟩]
    · by_cases e : k = n
      · subst e
        obtain ⟨t, t1, t2⟩ := hq
        refine ⟨t, t1, ?_⟩
        unfold mrw
        rw [if_pos ⟨rfl, by omega⟩, Nat.sub_self]
        exact t2
      · have : mrw M.1 n q 20 (7 * k) = M.1 20 (7 * k) := by
          unfold mrw
          rw [if_neg (by omega), if_neg (fun z => absurd z.1 (by decide))]
        rw [this]
        exact c3 k (by omega)
theorem mac_I {c : Nat} {q : Nat → Int32} {M : mM} (h1 : c ≠ 20) (h2 : c ≠ 21) : (mac q M).1 c = M.1 c ∧ (mac q M).2 = M.2 := by
  unfold mac
  split
  · exact ⟨rfl, rfl⟩
  · refine ⟨?_, rfl⟩
    funext j
    show mrw M.1 _ q c j = _
    unfold mrw
    rw [if_neg (fun z => h1 z.1), if_neg (fun z => h2 z.1)]
