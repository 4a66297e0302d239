/-- a terminal tells its backup -/
theorem MID_tl1 {X t : Nat} {M : mM} (hX : X < 2 ^ 30) (ht : t < 2) (k : MID X M) (hl : lv M.1 (1 + t) = true) (h16 : ¬ M.1 16 (1 + t) = 1) (h12 : ¬ M.1 12 (1 + t) = -1) (hr : row1 M (1 + t) 1 = 0 → row1 M (1 + t) 6 = 1) : MID (X + 1) (rss (1 + t) 3 (M.1 12 (1 + t)).toNatClampNeg (uI M.1 16 (1 + t) 1, M.2)) := by
  obtain ⟨k1, k2, k3, k4, k5, k6, k7, k8, k9, k10, k11⟩ := k
  obtain ⟨I, Q, Z⟩ := M
  obtain ⟨a1, a2, a3, a4, a5, a6, a7, a8⟩ := k3 (1 + t) (by omega)
  obtain ⟨b1, b2, b3, b4⟩ := a5 h12
  have hb : (I 12 (1 + t)).toNatClampNeg = ohn I (1 + t) := bk_oh b4
  have oth : ∀ c j, j ≠ 1 + t → uI (uI I 16 (1 + t) 1) 15 (1 + t) (I 15 (1 + t) + 1) c j = I c j := fun c j h => by rw [uI_j h, uI_j h]
  have e := MID_st (X := X) (k := 1 + t) (kd := 3) (I := I) (I' := uI (uI I 16 (1 + t) 1) 15 (1 + t) (I 15 (1 + t) + 1)) (Q := Q) (Z := Z) hX (by omega) (Or.inl rfl) hl ?_ uI_s (Or.inl ?_) k1 k2 (fun k' hk' => ?_) (fun u hu => ?_) ?_ k6 k7 k8 (fun i m u => ?_) ?_ ?_ k11 (fun z => by omega)
  · unfold rss
    simp only []
    show MID (X + 1) (rsn (pn I (1 + t)) (I 12 (1 + t)).toNatClampNeg (mgS 3 (1 + t) (I 15 (1 + t) + 1) (Z (rwi I (1 + t)))) _)
    rw [hb]
    exact e
  · intro c j h
    by_cases hj : j = 1 + t
    · rw [uI_c (by omega), uI_c (by omega)]
    · exact oth c j hj
  · rw [uI_c (by decide), uI_s]
  · by_cases e : k' = 1 + t
    · subst e
      refine ⟨a1, a2, a3, Or.inr (Or.inl ?_), a5, fun _ => ⟨h12, hl⟩, fun z => ?_, a8⟩
      · rw [uI_c (by decide), uI_s]
      · exact absurd (hl.symm.trans z) (by decide)
    · exact K3_c (I := I) rfl rfl rfl (oth 12 _ e) (oth 13 _ e) (oth 14 _ e) (oth 16 _ e) (oth 40 _ e) (k3 k' hk')
  · by_cases e : u = t
    · subst e
      intro hl'
      obtain ⟨c1, c2, c3, c4⟩ := k4 u hu hl
      have h1 : uI (uI I 16 (1 + u) 1) 15 (1 + u) (I 15 (1 + u) + 1) 16 (1 + u) = 1 := by rw [uI_c (by decide), uI_s]
      refine ⟨fun z => ?_, fun z => ?_, fun _ => hr, c4⟩
      · exact absurd (h1.symm.trans z) (by decide)
      · exact absurd (h1.symm.trans z) (by decide)
    · exact K4_c (M := (I, Q, Z)) rfl rfl (oth 16 (1 + u) (by omega)) rfl rfl (k4 u hu)
  · exact K5_c (M := (I, Q, Z)) rfl rfl rfl (oth 16 0 (by omega)) rfl rfl rfl rfl rfl k5
  · rcases ((k8 (1 + t) (by omega)).2.2 i m u).2.1 with z | z
    · exact h16 z
    · exact absurd (b1.symm.trans z) (by decide)
  · exact K9_c (M := (I, Q, Z)) rfl rfl rfl rfl rfl rfl rfl rfl (oth 15 0 (by omega)) (oth 16 0 (by omega)) rfl rfl (fun _ _ => rfl) k9
  · exact K10_c (M := (I, Q, Z)) rfl rfl rfl rfl rfl (oth 15 0 (by omega)) (oth 16 0 (by omega)) rfl (fun _ _ => rfl) k10
/-- a request goes to the store -/
theorem MID_sr {X t : Nat} {M : mM} (ht : t < 2) (k : MID X M) (hl : lv M.1 (1 + t) = true) : MID (X + 1) (rsr t M) := by
  unfold rsr
  split
  · exact MID_X (Nat.le_succ X) k
  · rename_i h0
    unfold rsn
    split
    · exact MID_X (Nat.le_succ X) k
    · rename_i hu
      obtain ⟨p1, p2, -⟩ := prk_n (by omega) (k.2.2.1 0 (by omega)).1 h0
      obtain ⟨q1, q2, -⟩ := prk_n (by omega) (k.2.2.1 (1 + t) (by omega)).1 (lv_up hl).1
      have hne : ¬ pn M.1 (1 + t) = pn M.1 0 := by
        have a := (k.2.2.1 0 (by omega)).1
        have b := (k.2.2.1 (1 + t) (by omega)).1
        unfold prk at a b
        rw [if_neg (by omega), if_neg (by omega)] at b
        rw [if_pos rfl, if_pos rfl] at a
        unfold pn
        rcases a with a | a | a <;> rcases b with b | b | b <;> first | exact absurd a h0 | exact absurd b (lv_up hl).1 | (rw [a, b]; decide)
      refine MID_snd q1 p1 hne (lv_1 (by omega) k.1 (k.2.2.1 (1 + t) (by omega)).1 hl) (((k.1 _ p1).1).resolve_left hu) (Or.inl ⟨rfl, t, ht, rfl⟩) (Or.inl rfl) k
theorem b01_n {x : Int32} (h : b01 x) (h2 : ¬ x = 1) : x = 0 := h.resolve_right h2
theorem mshw_I {t c : Nat} {r : Nat → Int32} {I : sm_I} (h1 : c ≠ 18) (h2 : c ≠ 19) : mshw t r I c = I c := by
  unfold mshw
  rw [uI_f h2, uI_f h2, uI_f h2, uI_f h2, uI_f h1]
/-- a terminal tells what it is at -/
theorem MID_tl {X t : Nat} {s' : ms} {M : mM} (hX : X < 2 ^ 30) (ht : t < 2) (k : MID X M) (hl : lv M.1 (1 + t) = true) (h16 : ¬ M.1 16 (1 + t) = 1) (hs : TB s') (h11 : s'.1 11 = row1 M (1 + t) 11) (hr : s'.1 1 = 0 → s'.1 6 = 1) : MID (X + 1) (rtl (1 + t) (M.1, M.2.1, uZ M.2.2 (rwi M.1 (1 + t)) s')) := by
  have hus : ∀ i m, US M.1 M.2.1 (1 + t) i m → M.1 13 (1 + t) = 1 := fun i m u => (((k.2.2.2.2.2.2.2.1 (1 + t) (by omega)).2.2 i m u).2.1).resolve_left h16
  have b14 := (k.2.2.1 (1 + t) (by omega)).2.2.1
  have er : ∀ J : sm_I, J 11 = M.1 11 → row1 (J, M.2.1, uZ M.2.2 (rwi M.1 (1 + t)) s') (1 + t) = s'.1 := fun J e => by
    show (uZ M.2.2 (rwi M.1 (1 + t)) s' (rwi J (1 + t))).1 = _
    rw [rwi_c e, uZ_s]
  unfold rtl
  by_cases c : M.1 12 (1 + t) = -1
  · rw [if_pos (show (M.1, M.2.1, uZ M.2.2 (rwi M.1 (1 + t)) s').1 12 (1 + t) = -1 from c)]
    have est : ∃ v, b01 v ∧ rst (1 + t) (M.1, M.2.1, uZ M.2.2 (rwi M.1 (1 + t)) s') = (uI M.1 14 (1 + t) v, M.2.1, uZ M.2.2 (rwi M.1 (1 + t)) s') := by
      unfold rst
      split
      · exact ⟨M.1 14 (1 + t), b14, by rw [uI_id rfl]⟩
      · exact ⟨1, Or.inr rfl, rfl⟩
    obtain ⟨v, hv, ev⟩ := est
    rw [ev]
    unfold rgo
    rw [if_neg (by omega), er (uI M.1 14 (1 + t) v) rfl, show 1 + t - 1 = t by omega]
    by_cases c1 : s'.1 1 = 1
    · rw [if_pos c1]
      have b := MID_tm (v14 := v) (v16 := 2) ht k hl hs h11 hv (Or.inr rfl) hus (fun _ => c1) (fun z => absurd z (by decide))
      exact MID_sr ht b hl
    · rw [if_neg c1]
      have b := MID_tm (v14 := v) (v16 := 0) ht k hl hs h11 hv (Or.inl rfl) hus (fun z => absurd z (by decide)) (fun _ => b01_n hs.1 c1)
      exact MID_X (Nat.le_succ X) (MID_sh (fun c _ h2 h3 => mshw_I h2 h3) b)
  · rw [if_neg (show ¬ (M.1, M.2.1, uZ M.2.2 (rwi M.1 (1 + t)) s').1 12 (1 + t) = -1 from c)]
    have h13 := ((k.2.2.1 (1 + t) (by omega)).2.2.2.2.1 c).1
    have est : rst (1 + t) (M.1, M.2.1, uZ M.2.2 (rwi M.1 (1 + t)) s') = (M.1, M.2.1, uZ M.2.2 (rwi M.1 (1 + t)) s') := by
      unfold rst
      rw [if_pos h13]
    rw [est]
    obtain ⟨v16, hv, c2, c0⟩ : ∃ v16 : Int32, (v16 = 0 ∨ v16 = 2) ∧ (v16 = 2 → s'.1 1 = 1) ∧ (v16 = 0 → s'.1 1 = 0) := by
      by_cases c1 : s'.1 1 = 1
      · exact ⟨2, Or.inr rfl, fun _ => c1, fun z => absurd z (by decide)⟩
      · exact ⟨0, Or.inl rfl, fun z => absurd z (by decide), fun _ => b01_n hs.1 c1⟩
    have b := MID_tm (v14 := M.1 14 (1 + t)) (v16 := v16) ht k hl hs h11 b14 hv hus c2 c0
    rw [uI_id rfl] at b
    have z := MID_tl1 hX ht b hl (by
      show ¬ uI M.1 16 (1 + t) v16 16 (1 + t) = 1
      rw [uI_s]
      rcases hv with e | e <;> rw [e] <;> decide) c (by rw [er (uI M.1 16 (1 + t) v16) rfl]; exact hr)
    show MID (X + 1) (rss (1 + t) 3 (M.1 12 (1 + t)).toNatClampNeg (uI M.1 16 (1 + t) 1, M.2.1, uZ M.2.2 (rwi M.1 (1 + t)) s'))
    have e : uI (uI M.1 16 (1 + t) v16) 16 (1 + t) 1 = uI M.1 16 (1 + t) 1 := uI_r
    rw [← e]
    exact z
theorem MID_req {X t : Nat} {kd rc vl : Int32} {M : mM} (hX : X < 2 ^ 30) (ht : t < 2) (k : MID X M) : MID (X + 1) (rreq t kd rc vl M).2 := by
  unfold rreq
  split
  · rename_i hl
    split
    · exact MID_X (Nat.le_succ X) k
    · rename_i h
      have h16 : ¬ M.1 16 (1 + t) = 1 := fun z => h (Or.inr z)
      have tb : TB (M.2.2 (rwi M.1 (1 + t))) := k.2.2.2.2.2.2.1.2.2.1 _ (rwi_g ht).1 (rwi_g ht).2
      exact MID_tl (s' := (mrqr (row1 M (1 + t)) kd rc vl, (M.2.2 (rwi M.1 (1 + t))).2)) hX ht k hl h16 ⟨Or.inr rfl, tb.2⟩ rfl (fun z => absurd z (by show ¬ (1 : Int32) = 0; decide))
  · exact MID_X (Nat.le_succ X) k
theorem MID_rd {X t : Nat} {s : Nat → Int32} {M : mM} (hX : X < 2 ^ 30) (ht : t < 2) (k : MID X M) (hl : lv M.1 (1 + t) = true) : MID (X + 1) (rrd t s M) := by
  unfold rrd
  split
  · exact MID_X (Nat.le_succ X) k
  · rename_i h
    have h16 : M.1 16 (1 + t) = 2 := Classical.byContradiction (fun z => h (Or.inl z))
    exact MID_tl (s' := (mans (row1 M (1 + t)) s, (M.2.2 (rwi M.1 (1 + t))).2)) hX ht k hl (by rw [h16]; decide) ⟨Or.inl rfl, Or.inr rfl⟩ rfl (fun _ => rfl)
theorem e_req {X t : Nat} {kd rc vl : Int32} {M : mM} (ht : t < 2) (k : MID X M) : rreq t kd rc vl M = mreq t kd rc vl M := by
  unfold rreq mreq
  split
  · rename_i hl
    split
    · rfl
    · have e := e_tl (t := t) (M := mrqZ t kd rc vl M) hl (fun z => ⟨((k.2.2.1 (1 + t) (by omega)).2.2.2.2.1 z).2.2.2, ((k.2.2.1 (1 + t) (by omega)).2.2.2.2.1 z).1⟩) (fun z => by
        exfalso
        apply z
        show (uZ M.2.2 (rwi M.1 (1 + t)) _ (rwi M.1 (1 + t))).1 1 = 1
        rw [uZ_s]
        rfl)
      rw [e]
  · rfl
