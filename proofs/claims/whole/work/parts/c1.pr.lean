/-! one pair changes: what the others look at -/
theorem pn_p {I J : sm_I} {k : Nat} (e : J 11 k = I 11 k) : pn J k = pn I k := by unfold pn; rw [e]
theorem ohI_p {I J : sm_I} {k : Nat} (e : J 11 k = I 11 k) : ohI J k = ohI I k := by
  unfold ohI
  by_cases c : k = 0
  · subst c
    rw [if_pos rfl, if_pos rfl, e]
  · rw [if_neg c, if_neg c, e]
theorem ohn_p {I J : sm_I} {k : Nat} (e : J 11 k = I 11 k) : ohn J k = ohn I k := by
  unfold ohn
  by_cases c : k = 0
  · subst c
    rw [if_pos rfl, if_pos rfl, e]
  · rw [if_neg c, if_neg c, e]
theorem rwi_p {I J : sm_I} {k : Nat} (e : J 11 k = I 11 k) : rwi J k = rwi I k := by unfold rwi; rw [pn_p e]
theorem rwo_p {I J : sm_I} {k : Nat} (e : J 11 k = I 11 k) : rwo J k = rwo I k := by unfold rwo; rw [pn_p e]
theorem lk_p {I J : sm_I} {k : Nat} (e : J 11 k = I 11 k) : lk J k = lk I k := by unfold lk; rw [pn_p e, ohn_p e]
theorem lb_p {I J : sm_I} {k : Nat} (e : J 11 k = I 11 k) : lb J k = lb I k := by unfold lb; rw [pn_p e, ohn_p e]
theorem lv_p {I J : sm_I} {k : Nat} (e0 : J 0 = I 0) (e : J 11 k = I 11 k) : lv J k = lv I k := by unfold lv; rw [pn_p e, e, e0]
theorem prk_p {I J : sm_I} {k : Nat} (e : J 11 k = I 11 k) : prk J k ↔ prk I k := by unfold prk; rw [e]
theorem US_p {I J : sm_I} {Q : mQ} {k i : Nat} {m : mg} (e10 : J 10 = I 10) (e11 : J 11 k = I 11 k) : US J Q k i m ↔ US I Q k i m := by
  unfold US
  rw [lk_p e11, e10]
theorem UW_p {I J : sm_I} {Q : mQ} {k i : Nat} {m : mg} (e10 : J 10 = I 10) (e11 : J 11 k = I 11 k) (e15 : J 15 k = I 15 k) : UW J Q k i m ↔ UW I Q k i m := by
  unfold UW
  rw [lb_p e11, e10, e15]
theorem K3_p {I J : sm_I} {k : Nat} (e0 : J 0 = I 0) (_ : J 1 = I 1) (e11 : J 11 k = I 11 k) (e12 : J 12 k = I 12 k) (e13 : J 13 k = I 13 k) (e14 : J 14 k = I 14 k) (e16 : J 16 k = I 16 k) (e40 : J 40 k = I 40 k) (h : K3 I k) : K3 J k := by
  unfold K3
  rw [prk_p e11, ohI_p e11, lv_p e0 e11, e11, e12, e13, e14, e16, e40]
  exact h
theorem K4_p {M N : mM} {t : Nat} (e0 : N.1 0 = M.1 0) (e11 : N.1 11 (1 + t) = M.1 11 (1 + t)) (e16 : N.1 16 (1 + t) = M.1 16 (1 + t)) (e17 : N.1 17 t = M.1 17 t) (er : row1 N (1 + t) = row1 M (1 + t)) (h : K4 M t) : K4 N t := by
  unfold K4
  rw [lv_p e0 e11, e16, e17, er]
  exact h
theorem K5_p {M N : mM} (e0 : N.1 0 = M.1 0) (e5 : N.1 5 = M.1 5) (e11 : N.1 11 0 = M.1 11 0) (e16 : N.1 16 0 = M.1 16 0) (e20 : N.1 20 = M.1 20) (e21 : N.1 21 = M.1 21) (e22 : N.1 22 = M.1 22) (e23 : N.1 23 = M.1 23) (eZ : N.2.2 (rwi M.1 0) = M.2.2 (rwi M.1 0)) (h : K5 M) : K5 N := by
  have er : row1 N 0 = row1 M 0 := by unfold row1; rw [rwi_p e11, eZ]
  unfold K5
  rw [lv_p e0 e11, e5, e16, e20, e21, e22, e23, er, rwi_p e11, eZ]
  exact h
theorem K8_p {X : Nat} {I J : sm_I} {Q : mQ} {k : Nat} (e10 : J 10 = I 10) (e11 : J 11 k = I 11 k) (e13 : J 13 k = I 13 k) (e15 : J 15 k = I 15 k) (e16 : J 16 k = I 16 k) (e40 : J 40 k = I 40 k) (h : K8 X I Q k) : K8 X J Q k := by
  obtain ⟨⟨n, a1, a2, a3⟩, a4, a5⟩ := h
  refine ⟨⟨n, a1, e15.trans a2, fun l hl i m hi hm hs => ?_⟩, fun i j m m' u u' => a4 i j m m' ((US_p e10 e11).mp u) ((US_p e10 e11).mp u'), fun i m u => ?_⟩
  · rw [lk_p e11, lb_p e11, e11, e40]
    exact a3 l hl i m hi hm hs
  · obtain ⟨b1, b2, b3⟩ := a5 i m ((US_p e10 e11).mp u)
    rw [e13, e15, e16]
    exact ⟨b1, b2, fun j w z => b3 j w ((UW_p e10 e11 e15).mp z)⟩
theorem K9_p {X : Nat} {M N : mM} (e0 : N.1 0 = M.1 0) (e5 : N.1 5 = M.1 5) (e7 : N.1 7 = M.1 7) (e10 : N.1 10 = M.1 10) (e11 : N.1 11 0 = M.1 11 0) (e12 : N.1 12 0 = M.1 12 0) (e13 : N.1 13 0 = M.1 13 0) (e14 : N.1 14 0 = M.1 14 0) (e15 : N.1 15 0 = M.1 15 0) (e16 : N.1 16 0 = M.1 16 0) (e22 : N.1 22 = M.1 22) (eQ : N.2.1 = M.2.1) (eZ : ∀ i, i < 2 → N.2.2 i = M.2.2 i) (h : K9 X M) : K9 X N := by
  intro d hd h5
  rw [e5] at h5
  obtain ⟨a1, a2, a3, a4, a5⟩ := h d hd h5
  rw [dsk_c e7, lv_p e0 e11, rwi_p e11, rwo_p e11, eZ _ rwi_lt0, eZ (rwo M.1 0) (by unfold rwo; omega), e12, e13, e14, e16, e22, eQ]
  exact ⟨a1, a2, a3, fun z i m u => a4 z i m ((US_p e10 e11).mp u), fun z y i m u => a5 z y i m ((UW_p e10 e11 e15).mp u)⟩
theorem K10_p {M N : mM} (e10 : N.1 10 = M.1 10) (e11 : N.1 11 0 = M.1 11 0) (e12 : N.1 12 0 = M.1 12 0) (e13 : N.1 13 0 = M.1 13 0) (e14 : N.1 14 0 = M.1 14 0) (e15 : N.1 15 0 = M.1 15 0) (e16 : N.1 16 0 = M.1 16 0) (eQ : N.2.1 = M.2.1) (eZ : ∀ i, i < 2 → N.2.2 i = M.2.2 i) (h : K10 M) : K10 N := by
  unfold K10
  rw [rwi_p e11, rwo_p e11, eZ _ rwi_lt0, eZ (rwo M.1 0) (by unfold rwo; omega), e12, e13, e14, e16, eQ]
  exact ⟨h.1, fun z => ⟨fun i m u => (h.2 z).1 i m ((US_p e10 e11).mp u), fun i m u => (h.2 z).2 i m ((UW_p e10 e11 e15).mp u)⟩⟩
/-- no message of pair k is on its way -/
def NM (Q : mQ) (k : Nat) : Prop := ∀ l, l < 16 → ∀ (i : Nat) (m : mg), (Q l)[i]? = some m → m.1 5 = nI k → ¬ (isS m = true ∨ m.1 0 = 5)
theorem lk_16 {I : sm_I} {k : Nat} (hk : k < 3) (h : prk I k) : lk I k < 16 ∧ lb I k < 16 := by
  have : k = 0 ∨ k = 1 ∨ k = 2 := by omega
  rcases this with rfl | rfl | rfl <;> rcases h with e | e | e <;> (simp only [lk, lb, pn, ohn, e, if_neg (show ¬ (1 : Nat) = 0 by decide), if_neg (show ¬ (2 : Nat) = 0 by decide)]; decide)
theorem NM_US {I : sm_I} {Q : mQ} {k : Nat} (hk : k < 3) (hp : prk I k) (h : NM Q k) : (∀ i m, ¬ US I Q k i m) ∧ ∀ i m, ¬ UW I Q k i m := by
  obtain ⟨h1, h2⟩ := lk_16 hk hp
  exact ⟨fun i m u => h _ h1 i m u.1 u.2.2.1 (Or.inl u.2.1), fun i m u => h _ h2 i m u.1 u.2.2.1 (Or.inr u.2.1)⟩
/-- a pair is left with one process, or none -/
theorem MID_pr {X k : Nat} {I I' : sm_I} {Q : mQ} {Z : mZ} (hk : k < 3) (k0 : MID X (I, Q, Z)) (hI : ∀ c j, ¬ (j = k ∧ (c = 11 ∨ c = 12 ∨ c = 13 ∨ c = 16 ∨ c = 40)) → (c = 21 ∨ c = 22 ∨ c = 23 → k ≠ 0) → I' c j = I c j) (h12 : I' 12 k = -1) (h13 : I' 13 k = 0) (hn : NM Q k) (k3' : K3 I' k) (k4' : ∀ t, t < 2 → k = 1 + t → K4 (I', Q, Z) t) (k5' : k = 0 → K5 (I', Q, Z)) (k7' : ∀ t, t < 2 → k = 1 + t → I' 40 k = 1 → (Z (rwo I' k)).1 11 = I 17 t)
    (k9' : k = 0 → lv I' 0 = true → ∀ d, d < 2 → I 5 d = 1 → ∃ n, DR X (dsk I d) (Z (rwi I' 0)) n ∧ (I' 16 0 = 2 → I' 22 d = nI n)) : MID X (I', Q, Z) := by
  obtain ⟨k1, k2, k3, k4, k5, k6, k7, k8, k9, k10, k11⟩ := k0
  have f : ∀ c, c ≠ 11 → c ≠ 12 → c ≠ 13 → c ≠ 16 → c ≠ 40 → c ≠ 21 → c ≠ 22 → c ≠ 23 → I' c = I c := fun c h1 h2 h3 h4 h5 h6 h7 h8 => by
    funext j
    exact hI c j (by omega) (by omega)
  have g : ∀ c j, j ≠ k → c ≠ 21 → c ≠ 22 → c ≠ 23 → I' c j = I c j := fun c j h h6 h7 h8 => hI c j (by omega) (by omega)
  have f0 := f 0 (by decide) (by decide) (by decide) (by decide) (by decide) (by decide) (by decide) (by decide)
  have f1 := f 1 (by decide) (by decide) (by decide) (by decide) (by decide) (by decide) (by decide) (by decide)
  have f5 := f 5 (by decide) (by decide) (by decide) (by decide) (by decide) (by decide) (by decide) (by decide)
  have f7 := f 7 (by decide) (by decide) (by decide) (by decide) (by decide) (by decide) (by decide) (by decide)
  have f10 := f 10 (by decide) (by decide) (by decide) (by decide) (by decide) (by decide) (by decide) (by decide)
  have f14 := f 14 (by decide) (by decide) (by decide) (by decide) (by decide) (by decide) (by decide) (by decide)
  have f15 := f 15 (by decide) (by decide) (by decide) (by decide) (by decide) (by decide) (by decide) (by decide)
  have f17 := f 17 (by decide) (by decide) (by decide) (by decide) (by decide) (by decide) (by decide) (by decide)
  have f20 := f 20 (by decide) (by decide) (by decide) (by decide) (by decide) (by decide) (by decide) (by decide)
  obtain ⟨hnu, hnw⟩ := NM_US hk k3'.1 hn
  have gz : k ≠ 0 → I' 21 = I 21 ∧ I' 22 = I 22 ∧ I' 23 = I 23 := fun h => ⟨funext (fun j => hI 21 j (by omega) (fun _ => h)), funext (fun j => hI 22 j (by omega) (fun _ => h)), funext (fun j => hI 23 j (by omega) (fun _ => h))⟩
  refine ⟨K1_c f0 f1 (f 2 (by decide) (by decide) (by decide) (by decide) (by decide) (by decide) (by decide) (by decide)) k1, K2_c (f 3 (by decide) (by decide) (by decide) (by decide) (by decide) (by decide) (by decide) (by decide)) (f 4 (by decide) (by decide) (by decide) (by decide) (by decide) (by decide) (by decide) (by decide)) f5 (f 6 (by decide) (by decide) (by decide) (by decide) (by decide) (by decide) (by decide) (by decide)) k2, fun k' hk' => ?_, fun t ht => ?_, ?_, fun l hl => ?_, ?_, fun k' hk' => ?_, ?_, ?_, K11_c (f 4 (by decide) (by decide) (by decide) (by decide) (by decide) (by decide) (by decide) (by decide)) f5 (f 6 (by decide) (by decide) (by decide) (by decide) (by decide) (by decide) (by decide) (by decide)) f7 k11⟩
  · by_cases e : k' = k
    · subst e; exact k3'
    · exact K3_p f0 f1 (g 11 k' e (by decide) (by decide) (by decide)) (g 12 k' e (by decide) (by decide) (by decide)) (g 13 k' e (by decide) (by decide) (by decide)) (g 14 k' e (by decide) (by decide) (by decide)) (g 16 k' e (by decide) (by decide) (by decide)) (g 40 k' e (by decide) (by decide) (by decide)) (k3 k' hk')
  · by_cases e : k = 1 + t
    · exact k4' t ht e
    · have e11 : I' 11 (1 + t) = I 11 (1 + t) := g 11 _ (fun z => e z.symm) (by decide) (by decide) (by decide)
      refine K4_p (M := (I, Q, Z)) (N := (I', Q, Z)) f0 e11 (g 16 _ (fun z => e z.symm) (by decide) (by decide) (by decide)) (congrFun f17 _) ?_ (k4 t ht)
      show (Z (rwi I' (1 + t))).1 = (Z (rwi I (1 + t))).1
      rw [rwi_p e11]
  · by_cases e : k = 0
    · exact k5' e
    · obtain ⟨z1, z2, z3⟩ := gz e
      exact K5_p (M := (I, Q, Z)) (N := (I', Q, Z)) f0 f5 (g 11 0 (fun z => e z.symm) (by decide) (by decide) (by decide)) (g 16 0 (fun z => e z.symm) (by decide) (by decide) (by decide)) f20 z1 z2 z3 rfl k5
  · exact K6_c f0 (congrFun (f 9 (by decide) (by decide) (by decide) (by decide) (by decide) (by decide) (by decide) (by decide)) _) (congrFun f10 _) (congrFun (f 24 (by decide) (by decide) (by decide) (by decide) (by decide) (by decide) (by decide) (by decide)) _) (congrFun (f 25 (by decide) (by decide) (by decide) (by decide) (by decide) (by decide) (by decide) (by decide)) _) rfl (k6 l hl)
  · obtain ⟨a1, a2, a3, a4, a5⟩ := k7
    unfold K7
    simp only []
    rw [f17]
    refine ⟨a1, a2, a3, a4, fun t ht => ⟨fun z => ?_, (a5 t ht).2⟩⟩
    by_cases e : k = 1 + t
    · subst e
      exact k7' t ht rfl z
    · rw [g 40 _ (fun y => e y.symm) (by decide) (by decide) (by decide)] at z
      rw [rwo_p (g 11 _ (fun y => e y.symm) (by decide) (by decide) (by decide))]
      exact (a5 t ht).1 z
  · by_cases e : k' = k
    · subst e
      show K8 X I' Q k'
      obtain ⟨⟨n, a1, a2, a3⟩, -⟩ := k8 k' hk
      refine ⟨⟨n, a1, by rw [f15]; exact a2, fun l hl i m hi h1 h2 => absurd h2 (hn l hl i m hi h1)⟩, fun i j m m' u _ => absurd u (hnu i m), fun i m u => absurd u (hnu i m)⟩
    · exact K8_p f10 (g 11 k' e (by decide) (by decide) (by decide)) (g 13 k' e (by decide) (by decide) (by decide)) (congrFun f15 _) (g 16 k' e (by decide) (by decide) (by decide)) (g 40 k' e (by decide) (by decide) (by decide)) (k8 k' hk')
  · by_cases e : k = 0
    · subst e
      intro d hd h5
      simp only [] at h5 ⊢
      rw [f5] at h5
      rw [dsk_c f7, h12, h13]
      refine ⟨(k9 d hd h5).1, fun z => k9' rfl z d hd h5, fun z => absurd rfl z, fun z => ?_, fun z => absurd z (by decide)⟩
      rcases z with z | z
      · exact absurd rfl z
      · exact absurd z.1 (by decide)
    · have ne : (0 : Nat) ≠ k := fun z => e z.symm
      exact K9_p (M := (I, Q, Z)) (N := (I', Q, Z)) f0 f5 f7 f10 (g 11 0 ne (by decide) (by decide) (by decide)) (g 12 0 ne (by decide) (by decide) (by decide)) (g 13 0 ne (by decide) (by decide) (by decide)) (congrFun f14 _) (congrFun f15 _) (g 16 0 ne (by decide) (by decide) (by decide)) (gz e).2.1 rfl (fun _ _ => rfl) k9
  · by_cases e : k = 0
    · subst e
      unfold K10
      simp only []
      rw [h12, h13]
      refine ⟨fun _ z => absurd rfl z, fun _ => ⟨fun i m u => absurd u (hnu i m), fun i m u => absurd u (hnw i m)⟩⟩
    · have ne : (0 : Nat) ≠ k := fun z => e z.symm
      exact K10_p (M := (I, Q, Z)) (N := (I', Q, Z)) f10 (g 11 0 ne (by decide) (by decide) (by decide)) (g 12 0 ne (by decide) (by decide) (by decide)) (g 13 0 ne (by decide) (by decide) (by decide)) (congrFun f14 _) (congrFun f15 _) (g 16 0 ne (by decide) (by decide) (by decide)) rfl (fun _ _ => rfl) k10
/-- a home is down: nothing of the pair is on its way -/
theorem NM_of {X k p : Nat} {M : mM} (k0 : MID X M) (hk : k < 3) (hp : p < 4) (h0 : M.1 0 p = 0) (hh : pn M.1 k = p ∨ ohn M.1 k = p) : NM M.2.1 k := by
  intro l hl i m hi h5 hs
  obtain ⟨⟨n, a1, a2, a3⟩, -⟩ := k0.2.2.2.2.2.2.2.1 k hk
  obtain ⟨-, b1, b2, b3⟩ := a3 l hl i m hi h5 hs
  obtain ⟨p1, p2, -⟩ := prk_n hk (k0.2.2.1 k hk).1 b1
  have hne : ¬ M.2.1 l = [] := fun e => by rw [e] at hi; simp at hi
  obtain ⟨u1, u2, -⟩ := (k0.2.2.2.2.2.1 l hl).1 hne
  have key : l / 4 = p ∨ l % 4 = p := by
    rcases hs with z | z
    · have := b2 z
      unfold lk at this
      omega
    · have := (b3 z).1
      unfold lb at this
      omega
  rcases key with z | z
  · rw [z, h0] at u1
    exact absurd u1 (by decide)
  · rw [z, h0] at u2
    exact absurd u2 (by decide)
