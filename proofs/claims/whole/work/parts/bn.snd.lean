/-! bounds may grow -/
theorem LG_X {X Y : Nat} {f : Nat → Int32} (h : X ≤ Y) (k : LG X f) : LG Y f := by
  obtain ⟨g, k1, k2⟩ := k
  exact ⟨g, by omega, k2⟩
theorem DR_X {X Y : Nat} {f : Nat → Int32} {s : ms} {n : Nat} (h : X ≤ Y) (k : DR X f s n) : DR Y f s n := by
  obtain ⟨f0, p, k1, k2, k3, k4, k5⟩ := k
  exact ⟨f0, p, k1, k2, k3, fun j hj => LG_X h (k4 j hj), k5⟩
theorem DR_n {X : Nat} {f : Nat → Int32} {s : ms} {n m : Nat} (h : m ≤ n) (k : DR X f s n) : DR X f s m := by
  obtain ⟨f0, p, k1, k2⟩ := k
  exact ⟨f0, p, by omega, k2⟩
theorem MID_X {X Y : Nat} {M : mM} (h : X ≤ Y) (k : MID X M) : MID Y M := by
  obtain ⟨k1, k2, k3, k4, k5, k6, k7, k8, k9, k10, k11⟩ := k
  refine ⟨k1, k2, k3, k4, k5, fun l hl => ?_, ?_, fun k hk => ?_, fun d hd h5 => ?_, k10, k11⟩
  · obtain ⟨a1, a2, a3, a4, a5, N, T, b1, b2⟩ := k6 l hl
    exact ⟨a1, a2, a3, a4, a5, N, T, by omega, b2⟩
  · obtain ⟨a1, a2, a3, a4, a5⟩ := k7
    refine ⟨a1, a2, a3, a4, fun t ht => ?_⟩
    obtain ⟨b1, n, b2, b3⟩ := a5 t ht
    exact ⟨b1, n, by omega, b3⟩
  · obtain ⟨⟨n, a1, a2⟩, a3⟩ := k8 k hk
    exact ⟨⟨n, by omega, a2⟩, a3⟩
  · obtain ⟨a1, a2, a3, a4, a5⟩ := k9 d hd h5
    refine ⟨LG_X h a1, fun z => ?_, fun z => DR_X h (a3 z), fun z i m u => DR_X h (a4 z i m u), fun z y i m u => DR_X h (a5 z y i m u)⟩
    obtain ⟨n, b1, b2⟩ := a2 z
    exact ⟨n, DR_X h b1, b2⟩
/-! what each part of it looks at -/
theorem K1_c {I J : sm_I} (e0 : J 0 = I 0) (e1 : J 1 = I 1) (e2 : J 2 = I 2) (k : K1 I) : K1 J := by
  unfold K1
  rw [e0, e1, e2]
  exact k
theorem K2_c {I J : sm_I} (e3 : J 3 = I 3) (e4 : J 4 = I 4) (e5 : J 5 = I 5) (e6 : J 6 = I 6) (k : K2 I) : K2 J := by
  unfold K2
  rw [e3, e4, e5, e6]
  exact k
theorem ohI_c {I J : sm_I} {k : Nat} (e : J 11 = I 11) : ohI J k = ohI I k := by unfold ohI; rw [e]
theorem ohn_c {I J : sm_I} {k : Nat} (e : J 11 = I 11) : ohn J k = ohn I k := by unfold ohn; rw [e]
theorem pn_c {I J : sm_I} {k : Nat} (e : J 11 = I 11) : pn J k = pn I k := by unfold pn; rw [e]
theorem rwo_c {I J : sm_I} {k : Nat} (e : J 11 = I 11) : rwo J k = rwo I k := by unfold rwo; rw [pn_c e]
theorem lk_c {I J : sm_I} {k : Nat} (e : J 11 = I 11) : lk J k = lk I k := by unfold lk; rw [pn_c e, ohn_c e]
theorem lb_c {I J : sm_I} {k : Nat} (e : J 11 = I 11) : lb J k = lb I k := by unfold lb; rw [pn_c e, ohn_c e]
theorem K3_c {I J : sm_I} {k : Nat} (e0 : J 0 = I 0) (_ : J 1 = I 1) (e11 : J 11 = I 11) (e12 : J 12 k = I 12 k) (e13 : J 13 k = I 13 k) (e14 : J 14 k = I 14 k) (e16 : J 16 k = I 16 k) (e40 : J 40 k = I 40 k) (h : K3 I k) : K3 J k := by
  unfold K3 prk
  rw [ohI_c e11, lv_c e0 e11, e11, e12, e13, e14, e16, e40]
  exact h
theorem K4_c {M N : mM} {t : Nat} (e0 : N.1 0 = M.1 0) (e11 : N.1 11 = M.1 11) (e16 : N.1 16 (1 + t) = M.1 16 (1 + t)) (e17 : N.1 17 t = M.1 17 t) (er : row1 N (1 + t) = row1 M (1 + t)) (h : K4 M t) : K4 N t := by
  unfold K4
  rw [lv_c e0 e11, e16, e17, er]
  exact h
theorem K5_c {M N : mM} (e0 : N.1 0 = M.1 0) (e5 : N.1 5 = M.1 5) (e11 : N.1 11 = M.1 11) (e16 : N.1 16 0 = M.1 16 0) (e20 : N.1 20 = M.1 20) (e21 : N.1 21 = M.1 21) (e22 : N.1 22 = M.1 22) (e23 : N.1 23 = M.1 23) (eZ : N.2.2 (rwi M.1 0) = M.2.2 (rwi M.1 0)) (h : K5 M) : K5 N := by
  have er : row1 N 0 = row1 M 0 := by unfold row1; rw [rwi_c e11, eZ]
  unfold K5
  rw [lv_c e0 e11, e5, e16, e20, e21, e22, e23, er, rwi_c e11, eZ]
  exact h
theorem US_c {I J : sm_I} {Q : mQ} {k i : Nat} {m : mg} (e10 : J 10 = I 10) (e11 : J 11 = I 11) : US J Q k i m ↔ US I Q k i m := by
  unfold US
  rw [lk_c e11, e10]
theorem UW_c {I J : sm_I} {Q : mQ} {k i : Nat} {m : mg} (e10 : J 10 = I 10) (e11 : J 11 = I 11) (e15 : J 15 k = I 15 k) : UW J Q k i m ↔ UW I Q k i m := by
  unfold UW
  rw [lb_c e11, e10, e15]
theorem K6_c {X : Nat} {I J : sm_I} {Q R : mQ} {l : Nat} (e0 : J 0 = I 0) (e9 : J 9 l = I 9 l) (e10 : J 10 l = I 10 l) (e24 : J 24 l = I 24 l) (e25 : J 25 l = I 25 l) (eQ : R l = Q l) (h : K6 X I Q l) : K6 X J R l := by
  unfold K6 KN
  rw [e0, e9, e10, e24, e25, eQ]
  exact h
theorem K7_c {X : Nat} {M N : mM} (e11 : N.1 11 = M.1 11) (e17 : N.1 17 = M.1 17) (e40 : N.1 40 = M.1 40) (e2 : N.2 = M.2) (h : K7 X M) : K7 X N := by
  unfold K7
  rw [e17, e40, e2]
  obtain ⟨a1, a2, a3, a4, a5⟩ := h
  refine ⟨a1, a2, a3, a4, fun t ht => ?_⟩
  rw [rwo_c e11]
  exact a5 t ht
theorem K8_c {X : Nat} {I J : sm_I} {Q : mQ} {k : Nat} (e10 : J 10 = I 10) (e11 : J 11 = I 11) (e13 : J 13 k = I 13 k) (e15 : J 15 k = I 15 k) (e16 : J 16 k = I 16 k) (e40 : J 40 k = I 40 k) (h : K8 X I Q k) : K8 X J Q k := by
  obtain ⟨⟨n, a1, a2, a3⟩, a4, a5⟩ := h
  refine ⟨⟨n, a1, e15.trans a2, fun l hl i m hi hm hs => ?_⟩, fun i j m m' u u' => a4 i j m m' ((US_c e10 e11).mp u) ((US_c e10 e11).mp u'), fun i m u => ?_⟩
  · rw [lk_c e11, lb_c e11, e11, e40]
    exact a3 l hl i m hi hm hs
  · obtain ⟨b1, b2, b3⟩ := a5 i m ((US_c e10 e11).mp u)
    rw [e13, e15, e16]
    exact ⟨b1, b2, fun j w z => b3 j w ((UW_c e10 e11 e15).mp z)⟩
theorem dsk_c {I J : sm_I} {d : Nat} (e7 : J 7 = I 7) : dsk J d = dsk I d := by unfold dsk; rw [e7]
theorem K9_c {X : Nat} {M N : mM} (e0 : N.1 0 = M.1 0) (e5 : N.1 5 = M.1 5) (e7 : N.1 7 = M.1 7) (e10 : N.1 10 = M.1 10) (e11 : N.1 11 = M.1 11) (e12 : N.1 12 0 = M.1 12 0) (e13 : N.1 13 0 = M.1 13 0) (e14 : N.1 14 0 = M.1 14 0) (e15 : N.1 15 0 = M.1 15 0) (e16 : N.1 16 0 = M.1 16 0) (e22 : N.1 22 = M.1 22) (eQ : N.2.1 = M.2.1) (eZ : ∀ i, i < 2 → N.2.2 i = M.2.2 i) (h : K9 X M) : K9 X N := by
  intro d hd h5
  rw [e5] at h5
  obtain ⟨a1, a2, a3, a4, a5⟩ := h d hd h5
  rw [dsk_c e7, lv_c e0 e11, rwi_c e11, rwo_c e11, eZ _ rwi_lt0, eZ (rwo M.1 0) (by unfold rwo; omega), e12, e13, e14, e16, e22, eQ]
  exact ⟨a1, a2, a3, fun z i m u => a4 z i m ((US_c e10 e11).mp u), fun z y i m u => a5 z y i m ((UW_c e10 e11 e15).mp u)⟩
theorem K10_c {M N : mM} (e10 : N.1 10 = M.1 10) (e11 : N.1 11 = M.1 11) (e12 : N.1 12 0 = M.1 12 0) (e13 : N.1 13 0 = M.1 13 0) (e14 : N.1 14 0 = M.1 14 0) (e15 : N.1 15 0 = M.1 15 0) (e16 : N.1 16 0 = M.1 16 0) (eQ : N.2.1 = M.2.1) (eZ : ∀ i, i < 2 → N.2.2 i = M.2.2 i) (h : K10 M) : K10 N := by
  unfold K10
  rw [rwi_c e11, rwo_c e11, eZ _ rwi_lt0, eZ (rwo M.1 0) (by unfold rwo; omega), e12, e13, e14, e16, eQ]
  exact ⟨h.1, fun z => ⟨fun i m u => (h.2 z).1 i m ((US_c e10 e11).mp u), fun i m u => (h.2 z).2 i m ((UW_c e10 e11 e15).mp u)⟩⟩
theorem K11_c {I J : sm_I} (e4 : J 4 = I 4) (e5 : J 5 = I 5) (e6 : J 6 = I 6) (e7 : J 7 = I 7) (h : K11 I) : K11 J := by
  unfold K11
  rw [e4, e5, e6]
  intro d
  rw [dsk_c e7, dsk_c e7]
  exact h d
/-! a message goes out -/
theorem mapp_I {l c : Nat} {m : mg} {M : mM} (h1 : c ≠ 9) (h2 : c ≠ 24) (h3 : c ≠ 25) : (mapp l m M).1 c = M.1 c := by
  unfold mapp appI
  simp only []
  split
  · rw [uI_f h3, uI_f h2, uI_f h1]
  · rw [uI_f h1]
theorem mapp_l {l c j : Nat} {m : mg} {M : mM} (h : j ≠ l) : (mapp l m M).1 c j = M.1 c j := by
  unfold mapp appI
  simp only []
  split
  · rw [uI_j h, uI_j h, uI_j h]
  · rw [uI_j h]
theorem mapp_9 {l : Nat} {m : mg} {M : mM} : (mapp l m M).1 9 l = M.1 9 l + 1 := by
  unfold mapp appI
  simp only []
  split
  · rw [uI_c (by decide), uI_c (by decide), uI_s]
  · rw [uI_s]
theorem mapp_24 {l : Nat} {m : mg} {M : mM} : ((mapp l m M).1 24 l = M.1 24 l ∨ (mapp l m M).1 24 l = fbu M.1) ∧ ((mapp l m M).1 25 l = M.1 25 l ∨ (mapp l m M).1 25 l = fbu M.1) := by
  unfold mapp appI
  simp only []
  split
  · rw [uI_s, uI_c (by decide), uI_s]
    exact ⟨Or.inr rfl, Or.inr rfl⟩
  · rw [uI_c (by decide), uI_c (by decide)]
    exact ⟨Or.inl rfl, Or.inl rfl⟩
theorem mapp_Z {l : Nat} {m : mg} {M : mM} : (mapp l m M).2.2 = M.2.2 := rfl
theorem mapp_Q {l : Nat} {m : mg} {M : mM} : (mapp l m M).2.1 = uQ M.2.1 l (M.2.1 l ++ [mgn m (M.1 9 l + 1)]) := rfl
theorem uQs {Q : mQ} {l : Nat} {q : List mg} : uQ Q l q l = q := if_pos rfl
theorem uQn {Q : mQ} {l k : Nat} {q : List mg} (h : k ≠ l) : uQ Q l q k = Q k := if_neg h
theorem fbu_t {I : sm_I} : tri (fbu I) := by
  unfold fbu tri
  split
  · split
    · exact Or.inl rfl
    · exact Or.inr (Or.inr rfl)
  · exact Or.inr (Or.inl rfl)
theorem mgn_0 {m : mg} {n : Int32} {j : Nat} (h : j ≠ 1) : (mgn m n).1 j = m.1 j := by
  unfold mgn
  simp only [uF]
  rw [if_neg h]
theorem isS_n {m : mg} {n : Int32} : isS (mgn m n) = isS m := by
  unfold isS
  rw [mgn_0 (by decide)]
theorem get_app {α : Type} {L : List α} {x y : α} {i : Nat} (h : (L ++ [x])[i]? = some y) : L[i]? = some y ∨ (i = L.length ∧ y = x) := by
  by_cases c : i < L.length
  · rw [List.getElem?_append_left c] at h
    exact Or.inl h
  · have := (List.getElem?_eq_some_iff.mp h).1
    simp at this
    obtain rfl : i = L.length := by omega
    simp at h
    exact Or.inr ⟨rfl, h.symm⟩
theorem MK_n {m : mg} {n : Int32} (h : MK m) : MK (mgn m n) := by
  unfold MK
  rw [mgn_0 (by decide), mgn_0 (by decide)]
  exact h
theorem K6_snd {X f t : Nat} {m : mg} {M : mM} (hf : f < 4) (ht : t < 4) (hft : ¬ f = t) (uf : M.1 0 f = 1) (ut : M.1 0 t = 1) (hm : MK m) {l : Nat} (k : K6 X M.1 M.2.1 l) : K6 (X + 1) (mapp (4 * f + t) m M).1 (mapp (4 * f + t) m M).2.1 l := by
  obtain ⟨a1, a2, a3, a4, a5, N, T, b1, b2, b3, b4, b5, b6, b7⟩ := k
  by_cases e : l = 4 * f + t
  · subst e
    refine ⟨fun _ => ?_, fun z => ?_, ?_, ?_, fun i y hi => ?_, ⟨N + 1, T, by omega, ?_, ?_, by omega, ?_, ?_, fun i y hi => ?_⟩⟩
    · rw [mapp_I (by decide) (by decide) (by decide), show (4 * f + t) / 4 = f by omega, show (4 * f + t) % 4 = t by omega]
      exact ⟨uf, ut, hft⟩
    · rw [mapp_Q, uQs] at z
      simp at z
    · rcases (mapp_24 (l := 4 * f + t) (m := m) (M := M)).1 with z | z <;> rw [z]
      · exact a3
      · exact fbu_t
    · rcases (mapp_24 (l := 4 * f + t) (m := m) (M := M)).2 with z | z <;> rw [z]
      · exact a4
      · exact fbu_t
    · rw [mapp_Q, uQs] at hi
      rcases get_app hi with z | ⟨-, z⟩
      · exact a5 i y z
      · rw [z]; exact MK_n hm
    · rw [mapp_9, b2]; exact nI_add N 1
    · rw [mapp_I (by decide) (by decide) (by decide)]; exact b3
    · rw [mapp_Q, uQs]; simp; omega
    · rw [mapp_Q, uQs]; simp; omega
    · rw [mapp_Q, uQs] at hi ⊢
      rcases get_app hi with z | ⟨z1, z2⟩
      · rw [b7 i y z]
        have := (List.getElem?_eq_some_iff.mp z).1
        congr 1
        simp
        omega
      · rw [z2, z1]
        show (uF m.1 1 (M.1 9 (4 * f + t) + 1)) 1 = _
        simp only [uF, if_true]
        rw [b2]
        have : nI N + 1 = nI (N + 1) := nI_add N 1
        rw [this]
        congr 1
        simp
        omega
  · unfold K6 KN
    rw [mapp_I (by decide) (by decide) (by decide), mapp_l e, mapp_l e, mapp_l e, mapp_l e, mapp_Q, uQn e]
    exact ⟨a1, a2, a3, a4, a5, N, T, by omega, b2, b3, b4, b5, b6, b7⟩
theorem US_snd {l : Nat} {m : mg} {M : mM} {k i : Nat} {y : mg} (u : US (mapp l m M).1 (mapp l m M).2.1 k i y) : US M.1 M.2.1 k i y ∨ (l = lk M.1 k ∧ isS m = true ∧ m.1 5 = nI k ∧ y = mgn m (M.1 9 l + 1) ∧ i = (M.2.1 l).length) := by
  obtain ⟨u1, u2, u3, u4⟩ := u
  have e11 : (mapp l m M).1 11 = M.1 11 := mapp_I (by decide) (by decide) (by decide)
  have e10 : (mapp l m M).1 10 = M.1 10 := mapp_I (by decide) (by decide) (by decide)
  rw [lk_c e11] at u1 u4
  rw [e10] at u4
  by_cases e : lk M.1 k = l
  · rw [mapp_Q, e, uQs] at u1
    rcases get_app u1 with z | ⟨z1, z2⟩
    · exact Or.inl ⟨e ▸ z, u2, u3, u4⟩
    · refine Or.inr ⟨e.symm, ?_, ?_, z2, z1⟩
      · rw [z2, isS_n] at u2; exact u2
      · rw [z2, mgn_0 (by decide)] at u3; exact u3
  · rw [mapp_Q, uQn e] at u1
    exact Or.inl ⟨u1, u2, u3, u4⟩
theorem UW_snd {l : Nat} {m : mg} {M : mM} {k i : Nat} {y : mg} (u : UW (mapp l m M).1 (mapp l m M).2.1 k i y) : UW M.1 M.2.1 k i y ∨ (l = lb M.1 k ∧ m.1 0 = 5 ∧ m.1 5 = nI k ∧ m.1 6 = M.1 15 k ∧ y = mgn m (M.1 9 l + 1)) := by
  obtain ⟨u1, u2, u3, u5, u4⟩ := u
  have e11 : (mapp l m M).1 11 = M.1 11 := mapp_I (by decide) (by decide) (by decide)
  have e10 : (mapp l m M).1 10 = M.1 10 := mapp_I (by decide) (by decide) (by decide)
  have e15 : (mapp l m M).1 15 = M.1 15 := mapp_I (by decide) (by decide) (by decide)
  rw [lb_c e11] at u1 u4
  rw [e10] at u4
  rw [e15] at u5
  by_cases e : lb M.1 k = l
  · rw [mapp_Q, e, uQs] at u1
    rcases get_app u1 with z | ⟨z1, z2⟩
    · exact Or.inl ⟨e ▸ z, u2, u3, u5, u4⟩
    · refine Or.inr ⟨e.symm, ?_, ?_, ?_, z2⟩
      · rw [z2, mgn_0 (by decide)] at u2; exact u2
      · rw [z2, mgn_0 (by decide)] at u3; exact u3
      · rw [z2, mgn_0 (by decide)] at u5; exact u5
  · rw [mapp_Q, uQn e] at u1
    exact Or.inl ⟨u1, u2, u3, u5, u4⟩
/-- a request or a reply -/
theorem MID_snd {X f t : Nat} {m : mg} {M : mM} (hf : f < 4) (ht : t < 4) (hft : ¬ f = t) (uf : M.1 0 f = 1) (ut : M.1 0 t = 1) (hm : MK m) (hk : m.1 0 = 1 ∨ m.1 0 = 2) (k : MID X M) : MID (X + 1) (mapp (4 * f + t) m M) := by
  have ec : ∀ c, c ≠ 9 → c ≠ 24 → c ≠ 25 → (mapp (4 * f + t) m M).1 c = M.1 c := fun c h1 h2 h3 => mapp_I h1 h2 h3
  have hS : isS m = false := by
    unfold isS
    rcases hk with e | e <;> rw [e] <;> rfl
  have h5 : ¬ m.1 0 = 5 := by rcases hk with e | e <;> rw [e] <;> decide
  have hus : ∀ k i y, US (mapp (4 * f + t) m M).1 (mapp (4 * f + t) m M).2.1 k i y → US M.1 M.2.1 k i y := fun k i y u => (US_snd u).elim id (fun z => by have := z.2.1; rw [hS] at this; cases this)
  have huw : ∀ k i y, UW (mapp (4 * f + t) m M).1 (mapp (4 * f + t) m M).2.1 k i y → UW M.1 M.2.1 k i y := fun k i y u => (UW_snd u).elim id (fun z => absurd z.2.1 h5)
  obtain ⟨k1, k2, k3, k4, k5, k6, k7, k8, k9, k10, k11⟩ := MID_X (Nat.le_succ X) k
  have k60 := k.2.2.2.2.2.1
  have e0 := ec 0 (by decide) (by decide) (by decide)
  have e5 := ec 5 (by decide) (by decide) (by decide)
  have e10 := ec 10 (by decide) (by decide) (by decide)
  have e11 := ec 11 (by decide) (by decide) (by decide)
  have e12 := ec 12 (by decide) (by decide) (by decide)
  have e13 := ec 13 (by decide) (by decide) (by decide)
  have e14 := ec 14 (by decide) (by decide) (by decide)
  have e15 := ec 15 (by decide) (by decide) (by decide)
  have e16 := ec 16 (by decide) (by decide) (by decide)
  have e17 := ec 17 (by decide) (by decide) (by decide)
  have e40 := ec 40 (by decide) (by decide) (by decide)
  have er : ∀ k, row1 (mapp (4 * f + t) m M) k = row1 M k := fun k => row1_c e11 mapp_Z
  refine ⟨K1_c e0 (ec 1 (by decide) (by decide) (by decide)) (ec 2 (by decide) (by decide) (by decide)) k1, K2_c (ec 3 (by decide) (by decide) (by decide)) (ec 4 (by decide) (by decide) (by decide)) e5 (ec 6 (by decide) (by decide) (by decide)) k2, fun k hk => K3_c e0 (ec 1 (by decide) (by decide) (by decide)) e11 (by rw [e12]) (by rw [e13]) (by rw [e14]) (by rw [e16]) (by rw [e40]) (k3 k hk), fun t ht => K4_c e0 e11 (by rw [e16]) (by rw [e17]) (er _) (k4 t ht), K5_c e0 e5 e11 (by rw [e16]) (ec 20 (by decide) (by decide) (by decide)) (ec 21 (by decide) (by decide) (by decide)) (ec 22 (by decide) (by decide) (by decide)) (ec 23 (by decide) (by decide) (by decide)) rfl k5, fun l hl => K6_snd hf ht hft uf ut hm (k60 l hl), ?_, fun k hk => ?_, fun d hd h5 => ?_, ?_, K11_c (ec 4 (by decide) (by decide) (by decide)) e5 (ec 6 (by decide) (by decide) (by decide)) (ec 7 (by decide) (by decide) (by decide)) k11⟩
  · obtain ⟨a1, a2, a3, a4, a5⟩ := k7
    refine ⟨a1, a2, a3, fun l hl i y hi hy => ?_, fun t ht => ?_⟩
    · rw [e17]
      by_cases e : l = 4 * f + t
      · subst e
        rw [mapp_Q, uQs] at hi
        rcases get_app hi with z | ⟨-, z⟩
        · exact a4 _ hl i y z hy
        · rw [z, isS_n, hS] at hy; cases hy
      · rw [mapp_Q, uQn e] at hi
        exact a4 l hl i y hi hy
    · rw [e17, e40, rwo_c e11]
      exact a5 t ht
  · obtain ⟨⟨n, a1, a2, a3⟩, a4, a5⟩ := k8 k hk
    refine ⟨⟨n, a1, by rw [e15]; exact a2, fun l hl i y hi h1 h2 => ?_⟩, fun i j y y' u u' => a4 i j y y' (hus _ _ _ u) (hus _ _ _ u'), fun i y u => ?_⟩
    · rw [e11, e40, lk_c e11, lb_c e11]
      by_cases e : l = 4 * f + t
      · subst e
        rw [mapp_Q, uQs] at hi
        rcases get_app hi with z | ⟨-, z⟩
        · exact a3 _ hl i y z h1 h2
        · exfalso
          rw [z, isS_n, mgn_0 (by decide)] at h2
          rcases h2 with h2 | h2
          · rw [hS] at h2; cases h2
          · exact h5 h2
      · rw [mapp_Q, uQn e] at hi
        exact a3 l hl i y hi h1 h2
    · rw [e13, e15, e16]
      obtain ⟨b1, b2, b3⟩ := a5 i y (hus _ _ _ u)
      exact ⟨b1, b2, fun j w z => b3 j w (huw _ _ _ z)⟩
  · rw [e5] at h5
    obtain ⟨a1, a2, a3, a4, a5⟩ := k9 d hd h5
    rw [dsk_c (ec 7 (by decide) (by decide) (by decide)), lv_c e0 e11, rwi_c e11, rwo_c e11, e12, e13, e14, e16, ec 22 (by decide) (by decide) (by decide), mapp_Z]
    exact ⟨a1, a2, a3, fun z i y u => a4 z i y (hus _ _ _ u), fun z y i w u => a5 z y i w (huw _ _ _ u)⟩
  · unfold K10
    rw [rwi_c e11, rwo_c e11, e12, e13, e14, e16, mapp_Z]
    exact ⟨k10.1, fun z => ⟨fun i y u => (k10.2 z).1 i y (hus _ _ _ u), fun i y u => (k10.2 z).2 i y (huw _ _ _ u)⟩⟩
