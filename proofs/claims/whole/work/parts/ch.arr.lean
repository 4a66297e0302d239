theorem KD_c {I J : sm_I} (e1 : J 1 = I 1) (e11 : J 11 = I 11) (e12 : J 12 = I 12) (e13 : J 13 = I 13) (h : KD I) : KD J := by
  intro k hk p hp h1
  rw [e1] at h1
  rw [e11, e12, e13, ohI_c e11]
  exact h k hk p hp h1
theorem KS_c {I J : sm_I} (e0 : J 0 = I 0) (e1 : J 1 = I 1) (e2 : J 2 = I 2) (h : KS I) : KS J := by
  intro p hp h0 h1
  rw [e0] at h0
  rw [e1] at h1
  rw [e2]
  exact h p hp h0 h1
theorem rtl_I {t c : Nat} {M : mM} (h1 : c ≠ 9) (h2 : c ≠ 24) (h3 : c ≠ 25) (h4 : c ≠ 14) (h5 : c ≠ 15) (h6 : c ≠ 16) (h7 : c ≠ 18) (h8 : c ≠ 19) : (rtl (1 + t) M).1 c = M.1 c ∧ (rtl (1 + t) M).2.2 = M.2.2 := by
  unfold rtl
  split
  · unfold rgo
    rw [if_neg (by omega)]
    split
    · obtain ⟨a, b⟩ := rsr_F (t := 1 + t - 1) (M := (uI (rst (1 + t) M).1 16 (1 + t) 2, (rst (1 + t) M).2)) h1 h2 h3
      rw [a, b]
      refine ⟨?_, by rw [rst_2]⟩
      show uI (rst (1 + t) M).1 16 (1 + t) 2 c = _
      rw [uI_f h6, rst_c h4]
    · unfold rshw
      refine ⟨?_, by show (rst (1 + t) M).2.2 = _; rw [rst_2]⟩
      show mshw _ _ (uI (rst (1 + t) M).1 16 (1 + t) 0) c = _
      rw [mshw_I h7 h8, uI_f h6, rst_c h4]
  · unfold rss
    rw [rsn_I h1 h2 h3, rsn_Z]
    refine ⟨?_, rfl⟩
    show uI (uI (rst (1 + t) M).1 16 (1 + t) 1) 15 (1 + t) _ c = _
    rw [uI_f h5, uI_f h6, rst_c h4]
theorem rtl_16 {t : Nat} {M : mM} : (rtl (1 + t) M).1 16 0 = M.1 16 0 := by
  unfold rtl
  split
  · unfold rgo
    rw [if_neg (by omega)]
    split
    · rw [(rsr_F (by decide) (by decide) (by decide)).1]
      show uI (rst (1 + t) M).1 16 (1 + t) 2 16 0 = _
      rw [uI_j (by omega), rst_c (by decide)]
    · have key : ∀ (u : Nat) (r : Nat → Int32) (J : sm_I), mshw u r J 16 0 = J 16 0 := fun u r J => by rw [mshw_I (by decide) (by decide)]
      unfold rshw
      simp only []
      rw [key, uI_j (by omega), rst_c (by decide)]
  · unfold rss
    rw [rsn_I (by decide) (by decide) (by decide)]
    simp only []
    rw [uI_c (by decide), uI_j (by omega), rst_c (by decide)]
/-- what the store looks at when it settles is as it was -/
theorem SD_c {M N : mM} (e0 : N.1 0 = M.1 0) (e5 : N.1 5 = M.1 5) (e11 : N.1 11 0 = M.1 11 0) (e16 : N.1 16 0 = M.1 16 0) (e21 : N.1 21 = M.1 21) (e22 : N.1 22 = M.1 22) (eZ : N.2.2 (rwi M.1 0) = M.2.2 (rwi M.1 0)) (h : SD2 M) : SD2 N := by
  unfold SD2
  rw [lv_p e0 e11, rwi_p e11, e5, e16, e21, e22, eZ]
  exact h
theorem tl_SD {t : Nat} {s : ms} {M : mM} (ht : t < 2) (h : SD2 M) : SD2 (rtl (1 + t) (M.1, M.2.1, uZ M.2.2 (rwi M.1 (1 + t)) s)) := by
  obtain ⟨N, eN⟩ : ∃ N : mM, N = (M.1, M.2.1, uZ M.2.2 (rwi M.1 (1 + t)) s) := ⟨_, rfl⟩
  have hI : ∀ c, c ≠ 9 → c ≠ 24 → c ≠ 25 → c ≠ 14 → c ≠ 15 → c ≠ 16 → c ≠ 18 → c ≠ 19 → (rtl (1 + t) N).1 c = M.1 c := fun c a1 a2 a3 a4 a5 a6 a7 a8 => by
    rw [(rtl_I a1 a2 a3 a4 a5 a6 a7 a8).1, eN]
  rw [← eN]
  refine SD_c (M := M) (hI 0 (by decide) (by decide) (by decide) (by decide) (by decide) (by decide) (by decide) (by decide)) (hI 5 (by decide) (by decide) (by decide) (by decide) (by decide) (by decide) (by decide) (by decide)) (congrFun (hI 11 (by decide) (by decide) (by decide) (by decide) (by decide) (by decide) (by decide) (by decide)) _) ?_ (hI 21 (by decide) (by decide) (by decide) (by decide) (by decide) (by decide) (by decide) (by decide)) (hI 22 (by decide) (by decide) (by decide) (by decide) (by decide) (by decide) (by decide) (by decide)) ?_ h
  · rw [rtl_16, eN]
  · rw [(rtl_I (c := 0) (by decide) (by decide) (by decide) (by decide) (by decide) (by decide) (by decide) (by decide)).2, eN]
    show uZ M.2.2 (rwi M.1 (1 + t)) s (rwi M.1 0) = _
    exact uZ_n (fun e => rwi_ne e.symm)
theorem MK_5 {m : mg} (h : MK m) : (m.1 0 = 1 → ∃ t, t < 2 ∧ m.1 5 = nI t) ∧ (m.1 0 = 2 → ∃ t, t < 2 ∧ m.1 5 = nI t) ∧ (m.1 0 = 3 ∨ m.1 0 = 4 ∨ m.1 0 = 5 → ∃ k, k < 3 ∧ m.1 5 = nI k) ∧ (m.1 0 = 1 ∨ m.1 0 = 2 ∨ m.1 0 = 3 ∨ m.1 0 = 4 ∨ m.1 0 = 5) := by
  rcases h with ⟨a, t, b, c⟩ | ⟨a, t, b, c⟩ | ⟨a, t, b, c⟩ | ⟨a, t, b, c⟩
  · exact ⟨fun _ => ⟨t, b, c⟩, fun _ => ⟨t, b, c⟩, fun _ => ⟨t, by omega, c⟩, Or.inl a⟩
  · exact ⟨fun _ => ⟨t, b, c⟩, fun _ => ⟨t, b, c⟩, fun _ => ⟨t, by omega, c⟩, Or.inr (Or.inl a)⟩
  · refine ⟨fun z => ?_, fun z => ?_, fun _ => ⟨t, b, c⟩, Or.inr (Or.inr (a.elim Or.inl (fun z => Or.inr (Or.inl z))))⟩ <;> rcases a with y | y <;> rw [y] at z <;> exact absurd z (by decide)
  · exact ⟨fun z => absurd (a.symm.trans z) (by decide), fun z => absurd (a.symm.trans z) (by decide), fun _ => ⟨t, b, c⟩, Or.inr (Or.inr (Or.inr (Or.inr a)))⟩
/-- a request is delivered -/
theorem del_1 {X p : Nat} {m : mg} {N : mM} (hX : X + 60 < 2 ^ 28) (kN : INV X N) (hp : p < 4) (hup : N.1 0 p = 1) (h0 : m.1 0 = 1) (hm : ∃ t, t < 2 ∧ m.1 5 = nI t) {f : Nat} : rbr f p m N = mset 10 (mdel f p m N) ∧ INV (X + 42) (rbr f p m N) ∧ SI (mdel f p m N) ∧ ∀ c, c = 0 ∨ c = 1 ∨ c = 2 ∨ c = 11 ∨ c = 12 ∨ c = 13 → (rbr f p m N).1 c = N.1 c := by
  unfold rbr mdel
  rw [if_pos h0, if_pos h0]
  by_cases c : N.1 11 0 = nI p
  · rw [if_pos c, if_pos c]
    have hn1 : ¬ N.1 11 0 = -1 := fun z => nI_m1 hp (c.symm.trans z)
    obtain ⟨p1, p2, p3, p4, -⟩ := prk_n (by omega) (kN.1.2.2.1 0 (by omega)).1 hn1
    have hpp : pn N.1 0 = p := (nI_eq (by omega) (by omega)).mp (p4.symm.trans c)
    have hl : lv N.1 0 = true := by
      unfold lv
      rw [hpp, hup]
      simp [hn1]
    obtain ⟨A, eA⟩ : ∃ A, A = mac (fun i => m.1 (5 + i)) N := ⟨_, rfl⟩
    have kA : MID X A := by rw [eA]; exact MID_ac kN.1 hl hm
    have hI : ∀ c, c ≠ 20 → c ≠ 21 → A.1 c = N.1 c := fun c h1 h2 => by rw [eA]; exact (mac_I h1 h2).1
    have h2 : A.2 = N.2 := by rw [eA]; exact (mac_I (c := 0) (by decide) (by decide)).2
    have hNU : NU A := by
      intro _ h16 _ _
      rw [hI 16 (by decide) (by decide)] at h16
      obtain ⟨d, hd, h5, hg⟩ := kN.2.1 hl h16
      refine Or.inr ⟨d, hd, ?_, ?_⟩
      · rw [hI 5 (by decide) (by decide)]; exact h5
      · rw [hI 22 (by decide) (by decide), h2, rwi_c (hI 11 (by decide) (by decide))]; exact hg
    rw [← eA]
    obtain ⟨z1, z2⟩ := MID_set30 (by omega) kA hNU
    refine ⟨z2.symm, INV_X (by omega) z1, SI_of kA, fun c hc => ?_⟩
    rw [rset_I (by omega) (by omega) (by omega) (by omega) (by omega) (by omega) (by omega) (by omega) (by omega) (by omega), hI c (by omega) (by omega)]
  · rw [if_neg c, if_neg c]
    refine ⟨?_, INV_X (by omega) kN, SI_of kN.1, fun _ _ => rfl⟩
    rw [(MID_set30 (by omega) kN.1 (NU_of kN.2)).2]
    exact (INV_id kN).symm
/-- a reply is delivered -/
theorem del_2 {X p : Nat} {m : mg} {N : mM} (hX : X + 60 < 2 ^ 28) (kN : INV X N) (hp : p < 4) (hup : N.1 0 p = 1) (h0 : m.1 0 = 2) (hm : ∃ t, t < 2 ∧ m.1 5 = nI t) {f : Nat} : rbr f p m N = mset 10 (mdel f p m N) ∧ INV (X + 42) (rbr f p m N) ∧ SI (mdel f p m N) ∧ ∀ c, c = 0 ∨ c = 1 ∨ c = 2 ∨ c = 11 ∨ c = 12 ∨ c = 13 → (rbr f p m N).1 c = N.1 c := by
  obtain ⟨t, ht, et⟩ := hm
  have ec : (m.1 5).toNatClampNeg = t := by rw [et]; exact nI_clamp (by omega)
  have n1 : ¬ m.1 0 = 1 := by rw [h0]; decide
  obtain ⟨s, es⟩ : ∃ s : Nat → Int32, s = fun i => m.1 (5 + i) := ⟨_, rfl⟩
  have keep : N = mset 10 N ∧ INV (X + 42) N ∧ SI N ∧ ∀ c, c = 0 ∨ c = 1 ∨ c = 2 ∨ c = 11 ∨ c = 12 ∨ c = 13 → N.1 c = N.1 c := by
    refine ⟨?_, INV_X (by omega) kN, SI_of kN.1, fun _ _ => rfl⟩
    rw [(MID_set30 (by omega) kN.1 (NU_of kN.2)).2]
    exact (INV_id kN).symm
  unfold rbr mdel
  rw [if_neg n1, if_neg n1, if_pos h0, if_pos h0, ec, ← es]
  by_cases c : N.1 11 (1 + t) = nI p
  · rw [if_pos c]
    have hn1 : ¬ N.1 11 (1 + t) = -1 := fun z => nI_m1 hp (c.symm.trans z)
    obtain ⟨p1, p2, p3, p4, -⟩ := prk_n (by omega) (kN.1.2.2.1 (1 + t) (by omega)).1 hn1
    have hpp : pn N.1 (1 + t) = p := (nI_eq (by omega) (by omega)).mp (p4.symm.trans c)
    have hl : lv N.1 (1 + t) = true := by
      unfold lv
      rw [hpp, hup]
      simp [hn1]
    obtain ⟨q1, q2, q3, q4⟩ := kN.1.2.2.2.1 t ht hl
    obtain ⟨a1, a2, a3, a4, a5, a6, a7, a8⟩ := kN.1.2.2.1 (1 + t) (by omega)
    unfold mrd rrd
    by_cases c2 : ¬ N.1 16 (1 + t) = 2 ∨ ¬ s 1 = row1 N (1 + t) 11 ∨ ¬ s 2 = row1 N (1 + t) 0
    · have c3 : ¬ N.1 11 (1 + t) = nI p ∨ N.1 16 (1 + t) = 1 ∨ ¬ (row1 N (1 + t) 1 = 1 ∧ s 1 = N.1 17 t ∧ s 2 = row1 N (1 + t) 0) := by
        refine Or.inr ?_
        by_cases y : N.1 16 (1 + t) = 1
        · exact Or.inl y
        · refine Or.inr (fun z => ?_)
          rcases c2 with w | w | w
          · have : N.1 16 (1 + t) = 0 := by
              rcases a4 with v | v | v
              · exact v
              · exact absurd v y
              · exact absurd v w
            have := q2 this
            rw [z.1] at this
            exact absurd this (by decide)
          · exact w (by rw [q4]; exact z.2.1)
          · exact w z.2.2
      rw [if_pos c2, if_pos c3]
      exact keep
    · have h16 : N.1 16 (1 + t) = 2 := Classical.byContradiction (fun z => c2 (Or.inl z))
      have h1 : s 1 = row1 N (1 + t) 11 := Classical.byContradiction (fun z => c2 (Or.inr (Or.inl z)))
      have h2 : s 2 = row1 N (1 + t) 0 := Classical.byContradiction (fun z => c2 (Or.inr (Or.inr z)))
      have c3 : ¬ (¬ N.1 11 (1 + t) = nI p ∨ N.1 16 (1 + t) = 1 ∨ ¬ (row1 N (1 + t) 1 = 1 ∧ s 1 = N.1 17 t ∧ s 2 = row1 N (1 + t) 0)) := fun z => by
        rcases z with z | z | z
        · exact z c
        · rw [h16] at z; exact absurd z (by decide)
        · exact z ⟨q1 h16, by rw [h1, q4], h2⟩
      rw [if_neg c2, if_neg c3]
      have e := e_tl (t := t) (M := mrdZ t s N) hl (fun z => ⟨(a5 z).2.2.2, (a5 z).1⟩) (fun _ => by
        show (uZ N.2.2 (rwi N.1 (1 + t)) _ (rwi N.1 (1 + t))).1 6 = 1
        rw [uZ_s]
        rfl)
      rw [← e]
      have km := MID_tl (X := X) (s' := (mans (row1 N (1 + t)) s, (N.2.2 (rwi N.1 (1 + t))).2)) (by omega) ht kN.1 hl (by rw [h16]; decide) ⟨Or.inl rfl, Or.inr rfl⟩ rfl (fun _ => rfl)
      have ks := tl_SD (s := (mans (row1 N (1 + t)) s, (N.2.2 (rwi N.1 (1 + t))).2)) ht kN.2
      have kk : INV (X + 1) (rtl (1 + t) (mrdZ t s N)) := ⟨km, ks⟩
      refine ⟨?_, INV_X (by omega) kk, SI_of kk.1, fun c hc => ?_⟩
      · rw [(MID_set30 (by omega) kk.1 (NU_of kk.2)).2]
        exact (INV_id kk).symm
      · exact (rtl_I (M := mrdZ t s N) (by omega) (by omega) (by omega) (by omega) (by omega) (by omega) (by omega) (by omega)).1
  · rw [if_neg c]
    unfold mrd
    rw [if_pos (Or.inl c)]
    exact keep
