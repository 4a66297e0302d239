def KS (I : sm_I) : Prop := ∀ p, p < 4 → I 0 p = 0 → I 1 p = 0 → ∃ s, s < 5 ∧ I 2 p = nI s
theorem INV_2 {X p s : Nat} {M : mM} (k : INV X M) (hp : p < 4) (hs : s < 6) : INV X (uI M.1 2 p (nI s), M.2) := by
  obtain ⟨⟨k1, k2, k3, k4, k5, k6, k7, k8, k9, k10, k11⟩, kS⟩ := k
  refine ⟨⟨fun q hq => ?_, k2, k3, k4, k5, k6, k7, k8, k9, k10, k11⟩, kS⟩
  obtain ⟨a1, a2, a3, a4⟩ := k1 q hq
  refine ⟨a1, a2, a3, fun z1 z2 => ?_⟩
  show ∃ s', s' < 6 ∧ uI M.1 2 p (nI s) 2 q = nI s'
  by_cases e : q = p
  · subst e
    exact ⟨s, hs, uI_s⟩
  · rw [uI_j e]
    exact a4 z1 z2
theorem INV_8 {X : Nat} {M : mM} {v : Int32} (k : INV X M) : INV X (uI M.1 8 0 v, M.2) := by
  refine ⟨MID_sh (fun c h1 _ _ => uI_f h1) k.1, k.2⟩
theorem nI_5 {s : Nat} (hs : s < 5) : (nI s + 1 = 5 ↔ s = 4) ∧ (5 ≤ nI s + 1 ↔ s = 4) := by
  have : s = 0 ∨ s = 1 ∨ s = 2 ∨ s = 3 ∨ s = 4 := by omega
  rcases this with rfl | rfl | rfl | rfl | rfl <;> decide
/-- a processor is listened to -/
theorem TK {X p : Nat} {M : mM} (hX : X + 60 < 2 ^ 28) (k : INV X M) (hD : KD M.1) (hS : KS M.1) (hp : p < 4) : rtk1 p M = mtk p M ∧ INV (X + 44) (mtk p M) ∧ KD (mtk p M).1 ∧ KS (mtk p M).1 ∧ TKH p (DCH p) M := by
  unfold rtk1 mtk TKH msil
  by_cases c : sil M.1 p = true
  · rw [if_pos c, if_pos c]
    have h01 : M.1 0 p = 0 ∧ M.1 1 p = 0 := by
      unfold sil at c
      simp at c
      exact ⟨c.1.1, c.1.2⟩
    obtain ⟨s, hs, es⟩ := hS p hp h01.1 h01.2
    obtain ⟨n1, n2⟩ := nI_5 hs
    have e1 : nI s + 1 = nI (s + 1) := nI_add s 1
    have kN := INV_2 (s := s + 1) k hp (by omega)
    have dN : KD (uI M.1 2 p (nI (s + 1))) := hD
    rw [es]
    by_cases c5 : s = 4
    · rw [if_pos (n1.mpr c5), if_pos (by rw [c, Bool.true_and]; exact decide_eq_true (n2.mpr c5)), e1]
      obtain ⟨a1, a2, a3, a4, a5⟩ := DC hX kN dN hp h01.1
      rw [← a1]
      refine ⟨rfl, a2, a3, fun q hq q0 q1 => ?_, fun _ => ⟨a4, a5⟩⟩
      rw [rdc_I (Or.inl rfl)] at q0
      rw [rdc_I (Or.inr (Or.inl rfl))] at q1
      rw [rdc_I (Or.inr (Or.inr (Or.inl rfl)))]
      by_cases e : q = p
      · subst e
        rw [uI_s] at q1
        exact absurd q1 (by decide)
      · rw [uI_j e] at q1
        have := hS q hq q0 q1
        show ∃ s', s' < 5 ∧ uI M.1 2 p (nI (s + 1)) 2 q = nI s'
        rw [uI_j e]
        exact this
    · rw [if_neg (fun z => c5 (n1.mp z)), if_neg (fun z => by rw [c, Bool.true_and] at z; exact c5 (n2.mp (of_decide_eq_true z))), e1]
      refine ⟨rfl, INV_X (by omega) kN, dN, fun q hq q0 q1 => ?_, fun z => by rw [c, Bool.true_and] at z; rw [← e1] at z; exact absurd (n2.mp (of_decide_eq_true z)) c5⟩
      show ∃ s', s' < 5 ∧ uI M.1 2 p (nI (s + 1)) 2 q = nI s'
      by_cases e : q = p
      · subst e
        exact ⟨s + 1, by omega, uI_s⟩
      · rw [uI_j e]
        exact hS q hq q0 q1
  · have c' : sil M.1 p = false := by simpa using c
    rw [if_neg c, if_neg c, c', Bool.false_and, if_neg (by decide)]
    exact ⟨rfl, INV_X (by omega) k, hD, hS, fun z => absurd z (by decide)⟩
theorem nxb_t {I : sm_I} {b : Int32} : tri (nxb I b) := by
  unfold nxb
  split
  · exact fbu_t
  · split
    · split
      · split
        · exact Or.inl rfl
        · exact Or.inr (Or.inl rfl)
      · exact Or.inr (Or.inr rfl)
    · split
      · split
        · exact Or.inl rfl
        · exact Or.inr (Or.inr rfl)
      · exact Or.inr (Or.inl rfl)
theorem e_wk {X : Nat} {M : mM} (k : INV X M) : (rwkI M.1 M.2.1 16, M.2) = mwk M := by
  unfold mwk
  congr 1
  funext c j
  unfold rwkI mwkI
  by_cases h : (c = 24 ∨ c = 25) ∧ j < 16
  · have e : rwkc M.1 M.2.1 j = wkc M.1 M.2.1 j := by
      unfold rwkc wkc
      cases hq : (M.2.1 j).isEmpty with
      | true => simp
      | false =>
        have hne : ¬ M.2.1 j = [] := fun z => by rw [z] at hq; cases hq
        obtain ⟨u1, u2, -⟩ := (k.1.2.2.2.2.2.1 j h.2).1 hne
        simp [u1, u2]
    rw [e]
  · rw [if_neg (fun z => h ⟨z.1, z.2.1⟩), if_neg (fun z => h ⟨z.1, z.2.1⟩)]
theorem INV_wk {X : Nat} {M : mM} (k : INV X M) : INV X (mwk M) := by
  refine INV_24 (N := mwkI M.1 M.2.1 16) k (fun c _ h2 h3 => ?_) (fun d hd => ?_) (fun l hl => ?_)
  · funext j
    unfold mwkI
    rw [if_neg (fun z => z.1.elim h2 h3)]
  · unfold mwkI
    rw [if_neg (fun z => z.1.elim (fun y => absurd y (by decide)) (fun y => absurd y (by decide)))]
    exact (k.1.2.1.1 d hd).1
  · obtain ⟨a1, a2, a3, a4, a5, a6⟩ := k.1.2.2.2.2.2.1 l hl
    unfold mwkI
    by_cases c : wkc M.1 M.2.1 l = true
    · rw [if_pos ⟨Or.inl rfl, hl, c⟩, if_pos ⟨Or.inr rfl, hl, c⟩]
      refine ⟨nxb_t, nxb_t, fun z => ?_⟩
      unfold wkc at c
      rw [z] at c
      simp at c
    · rw [if_neg (fun z => c z.2.2), if_neg (fun z => c z.2.2)]
      exact ⟨a3, a4, a2⟩
theorem mwk_c {c : Nat} {M : mM} (h2 : c ≠ 24) (h3 : c ≠ 25) : (mwk M).1 c = M.1 c := by
  funext j
  show mwkI M.1 M.2.1 16 c j = _
  unfold mwkI
  rw [if_neg (fun z => z.1.elim h2 h3)]
/-- a tick -/
theorem INV_tk {X : Nat} {M : mM} (hX : X + 300 < 2 ^ 28) (k : INV X M) (hD : KD M.1) (hS : KS M.1) : rtk M = mtck M ∧ INV (X + 190) (mtck M) ∧ KD (mtck M).1 ∧ KS (mtck M).1 ∧ TKH 0 (DCH 0) (uI M.1 8 0 (M.1 8 0 + 1), M.2) ∧ TKH 1 (DCH 1) (mtk 0 (uI M.1 8 0 (M.1 8 0 + 1), M.2)) ∧ TKH 2 (DCH 2) (mtk 1 (mtk 0 (uI M.1 8 0 (M.1 8 0 + 1), M.2))) ∧ TKH 3 (DCH 3) (mtk 2 (mtk 1 (mtk 0 (uI M.1 8 0 (M.1 8 0 + 1), M.2)))) ∧ (∀ l, l < 16 → tri ((mtk4 M).1 25 l)) ∧ RSH 0 (mwk (mtk4 M)) ∧ RSH 1 (mrst 0 (mwk (mtk4 M))) ∧ RSH 2 (mrst 1 (mrst 0 (mwk (mtk4 M)))) := by
  have k0 : INV X (uI M.1 8 0 (M.1 8 0 + 1), M.2) := INV_8 k
  obtain ⟨M0, eM0⟩ : ∃ N : mM, N = (uI M.1 8 0 (M.1 8 0 + 1), M.2) := ⟨_, rfl⟩
  have d0 : KD M0.1 := by rw [eM0]; exact hD
  have s0 : KS M0.1 := by rw [eM0]; exact hS
  rw [← eM0] at k0
  obtain ⟨a1, a2, a3, a4, a5⟩ := TK (p := 0) (by omega) k0 d0 s0 (by omega)
  obtain ⟨b1, b2, b3, b4, b5⟩ := TK (p := 1) (by omega) a2 a3 a4 (by omega)
  obtain ⟨c1, c2, c3, c4, c5⟩ := TK (p := 2) (by omega) b2 b3 b4 (by omega)
  obtain ⟨e1, e2, e3, e4, e5⟩ := TK (p := 3) (by omega) c2 c3 c4 (by omega)
  have et4 : mtk4 M = mtk 3 (mtk 2 (mtk 1 (mtk 0 M0))) := by rw [eM0]; rfl
  have er : rtk M = rrs 2 (rrs 1 (rrs 0 ((fun N : mM => (rwkI N.1 N.2.1 16, N.2)) (rtk1 3 (rtk1 2 (rtk1 1 (rtk1 0 M0))))))) := by rw [eM0]; rfl
  obtain ⟨T, eT⟩ : ∃ T, T = mtk 3 (mtk 2 (mtk 1 (mtk 0 M0))) := ⟨_, rfl⟩
  rw [← eT] at e2 e3 e4 et4
  have kW := INV_wk e2
  have dW : KD (mwk T).1 := by
    intro k' hk' q hq h1
    rw [mwk_c (by decide) (by decide)] at h1
    have e11 : (mwk T).1 11 = T.1 11 := mwk_c (by decide) (by decide)
    rw [e11, ohI_c e11, mwk_c (by decide) (by decide), mwk_c (by decide) (by decide)]
    exact e3 k' hk' q hq h1
  have sW : KS (mwk T).1 := by
    intro q hq q0 q1
    rw [mwk_c (by decide) (by decide)] at q0 q1
    rw [mwk_c (by decide) (by decide)]
    exact e4 q hq q0 q1
  obtain ⟨f1, f2, f3, f4, f5⟩ := INV_rs (k := 0) (by omega) kW dW (by omega)
  rw [f1] at f2 f3 f5
  obtain ⟨g1, g2, g3, g4, g5⟩ := INV_rs (k := 1) (by omega) f2 f3 (by omega)
  rw [g1] at g2 g3 g5
  obtain ⟨h1, h2, h3, h4, h5⟩ := INV_rs (k := 2) (by omega) g2 g3 (by omega)
  rw [h1] at h2 h3 h5
  have em : mtck M = mrst 2 (mrst 1 (mrst 0 (mwk T))) := by
    rw [← et4]
    rfl
  rw [em, et4]
  refine ⟨?_, INV_X (by omega) h2, h3, fun q hq q0 q1 => ?_, by rw [← eM0]; exact a5, by rw [← eM0]; exact b5, by rw [← eM0]; exact c5, by rw [← eM0]; exact e5, fun l hl => (e2.1.2.2.2.2.2.1 l hl).2.2.2.1, f4, g4, h4⟩
  · rw [er, a1, b1, c1, e1, ← eT]
    show rrs 2 (rrs 1 (rrs 0 (rwkI T.1 T.2.1 16, T.2))) = _
    rw [e_wk e2, f1, g1, h1]
  · rw [h5 0 (Or.inl rfl), g5 0 (Or.inl rfl), f5 0 (Or.inl rfl)] at q0
    rw [h5 1 (Or.inr (Or.inl rfl)), g5 1 (Or.inr (Or.inl rfl)), f5 1 (Or.inr (Or.inl rfl))] at q1
    rw [h5 2 (Or.inr (Or.inr rfl)), g5 2 (Or.inr (Or.inr rfl)), f5 2 (Or.inr (Or.inr rfl))]
    exact sW q hq q0 q1
