theorem dr_m {k : Nat} {I : sm_I} {Q : mQ} {Z : mZ} (h16 : I 16 k = 0) (h : k = 0 → I 21 0 = 0 ∧ I 23 0 = 0) : mpri k (-1) (mdrp k (I, Q, Z)) = (drI k I, Q, Z) := by
  show (_, Q, Z) = (_, Q, Z)
  congr 1
  funext a b
  by_cases c : k = 0
  · subst c
    obtain ⟨h1, h2⟩ := h rfl
    simp only [mpri, mdrp, drI, mstI, if_true, uI]
    grind
  · simp only [mpri, mdrp, drI, mstI, if_neg c, uI]
    grind
theorem ls_m {I : sm_I} {Q : mQ} {Z : mZ} : mstw 0 (mdrp 0 (I, Q, Z)) = (lsI 0 (if I 16 0 = 1 then 2 else I 16 0) I, Q, Z) := by
  unfold mstw
  have e : (mdrp 0 (I, Q, Z)).1 16 0 = I 16 0 := rfl
  by_cases c : I 16 0 = 1
  · rw [if_pos (e.trans c), if_pos rfl, if_pos c]
    show (_, Q, Z) = (_, Q, Z)
    congr 1
    funext a b
    simp only [mdrp, lsI, uI]
    grind
  · rw [if_neg (fun z => c (e.symm.trans z)), if_neg c]
    show (_, Q, Z) = (_, Q, Z)
    congr 1
    funext a b
    simp only [mdrp, lsI, uI]
    grind
theorem ls_r {I : sm_I} {Q : mQ} {Z : mZ} (hl : I 16 0 = 1 → lv I 0 = true) : rdB1 0 (uI (uI I 12 0 (-1)) 13 0 0, Q, Z) = (lsI 0 (if I 16 0 = 1 then 2 else I 16 0) I, Q, Z) := by
  unfold rdB1 rgo
  have e : (uI (uI I 12 0 (-1)) 13 0 0) 16 0 = I 16 0 := rfl
  have el : lv (uI (uI I 12 0 (-1)) 13 0 0) 0 = lv I 0 := rfl
  by_cases c : I 16 0 = 1
  · rw [if_pos (show lv (uI (uI I 12 0 (-1)) 13 0 0, Q, Z).1 0 = true ∧ (uI (uI I 12 0 (-1)) 13 0 0, Q, Z).1 16 0 = 1 from ⟨hl c, c⟩), if_pos rfl, if_pos c]
    rfl
  · rw [if_neg (fun z => c (e.symm.trans z.2)), if_neg c]
    show (_, Q, Z) = (_, Q, Z)
    congr 1
    funext a b
    simp only [lsI, uI]
    grind
theorem NU_0 {X : Nat} {M : mM} (k : MID X M) (h : M.1 16 0 = 2 → M.1 22 0 = 0 ∧ M.1 22 1 = 0) : NU M := by
  intro _ h16 _ _
  obtain ⟨z0, z1⟩ := h h16
  by_cases e : (M.2.2 (rwi M.1 0)).2.2 = []
  · exact Or.inl e
  · refine Or.inr ?_
    have hwl := (MID_OK k).2.2.2.2.1
    have hp : 0 < (M.2.2 (rwi M.1 0)).2.2.length := List.length_pos_iff.mpr e
    have key : ∀ d, M.1 22 d = 0 → ¬ M.1 22 d = nI (M.2.2 (rwi M.1 0)).2.2.length := fun d hd z => by
      rw [hd] at z
      have := (nI_eq (a := 0) (by omega) (by omega)).mp z
      omega
    rcases k.2.1.2.2 with y | y
    · exact ⟨0, by omega, y, key 0 z0⟩
    · exact ⟨1, by omega, y, key 1 z1⟩
/-- how a pair may have changed -/
def CHG (I J : sm_I) (k : Nat) : Prop := (J 11 k = I 11 k ∧ J 12 k = I 12 k ∧ J 13 k = I 13 k) ∨ (J 12 k = -1 ∧ J 13 k = 0 ∧ (J 11 k = I 11 k ∨ J 11 k = -1 ∨ ∃ q, q < 4 ∧ J 11 k = nI q ∧ ¬ I 0 q = 0))
theorem CHG_refl {I : sm_I} {k : Nat} : CHG I I k := Or.inl ⟨rfl, rfl, rfl⟩
theorem CHG_trans {I J K : sm_I} {k : Nat} (e0 : J 0 = I 0) (h1 : CHG I J k) (h2 : CHG J K k) : CHG I K k := by
  rcases h2 with ⟨b1, b2, b3⟩ | ⟨b1, b2, b3⟩
  · rcases h1 with ⟨a1, a2, a3⟩ | ⟨a1, a2, a3⟩
    · exact Or.inl ⟨b1.trans a1, b2.trans a2, b3.trans a3⟩
    · refine Or.inr ⟨b2.trans a1, b3.trans a2, ?_⟩
      rw [b1]
      exact a3
  · refine Or.inr ⟨b1, b2, ?_⟩
    rcases b3 with c | c | ⟨q, c1, c2, c3⟩
    · rcases h1 with ⟨a1, -, -⟩ | ⟨-, -, a3⟩
      · exact Or.inl (c.trans a1)
      · rw [c]
        exact a3
    · exact Or.inr (Or.inl c)
    · exact Or.inr (Or.inr ⟨q, c1, c2, by rw [← e0]; exact c3⟩)
/-- what the class wants to know before -/
def DCH (p : Nat) (M : mM) : Prop := RPH 0 p ((uI M.1 1 p 1, M.2) : mM) ∧ RPH 1 p (mdA 0 p ((uI M.1 1 p 1, M.2) : mM)) ∧ RPH 2 p (mdA 1 p (mdA 0 p ((uI M.1 1 p 1, M.2) : mM))) ∧ STH 0 (mdrp 0 (mdA 2 p (mdA 1 p (mdA 0 p ((uI M.1 1 p 1, M.2) : mM))))) ∧ STH 1 (mdrp 1 (mdB 0 p (mdA 2 p (mdA 1 p (mdA 0 p ((uI M.1 1 p 1, M.2) : mM)))))) ∧ STH 2 (mdrp 2 (mdB 1 p (mdB 0 p (mdA 2 p (mdA 1 p (mdA 0 p ((uI M.1 1 p 1, M.2) : mM)))))))
theorem prk_0 {I : sm_I} {t p : Nat} (hp : p < 2) (h : prk I (1 + t)) : ¬ I 11 (1 + t) = nI p ∧ ¬ ohI I (1 + t) = nI p := by
  unfold prk at h
  rw [if_neg (by omega), if_neg (by omega)] at h
  unfold ohI
  rw [if_neg (by omega)]
  have : p = 0 ∨ p = 1 := by omega
  rcases this with rfl | rfl <;> rcases h with e | e | e <;> rw [e] <;> decide
theorem STH_of {X k : Nat} {N : mM} (h : MID X N) (hk : k < 3) : STH k (mdrp k N) := by
  refine ⟨fun e z => ?_, fun e z => ?_⟩
  · subst e
    exact h.2.2.2.2.1.2.1 z
  · exact ((h.2.2.1 k hk).2.2.2.2.2.1 z).2
theorem RPH_of {X k p : Nat} {N : mM} (h : MID X N) (hk : k < 3) (hp : p < 4) (h0 : N.1 0 p = 0) : RPH k p N := by
  intro e
  have hn1 : ¬ N.1 11 k = -1 := fun z => nI_m1 hp (e.symm.trans z)
  obtain ⟨a1, a2, a3, a4, a5, a6, a7, a8⟩ := h.2.2.1 k hk
  obtain ⟨p1, p2, p3, p4, -⟩ := prk_n hk a1 hn1
  have hpp : pn N.1 k = p := (nI_eq (by omega) (by omega)).mp (p4.symm.trans e)
  have hl : lv N.1 k = false := by
    cases z : lv N.1 k with
    | false => rfl
    | true =>
      have := (lv_up z).2
      rw [hpp, h0] at this
      exact absurd rfl this
  refine ⟨fun z => (a5 z).2.2.1, a7 hl, fun e0 => ?_⟩
  subst e0
  refine ⟨fun l hl m hm hk3 z => ?_, fun t ht z => (SI_of h).2.2.2.1 t ht z⟩
  obtain ⟨i, hi⟩ := List.getElem?_of_mem hm
  refine NM_of h hk hp h0 (Or.inl hpp) l hl i m hi z (Or.inl ?_)
  unfold isS
  rcases hk3 with y | y <;> simp [y]
theorem mal_e {X : Nat} {N : mM} (h : MID X N) : mal N = rsa N := (e_sa (fun t ht z => ⟨(SI_of h).2.2.2.1 t ht z, (h.2.2.2.1 t ht ((SI_of h).2.2.2.1 t ht z)).1 z⟩)).symm
/-- a home of the store is declared -/
theorem DC0 {X p : Nat} {M : mM} (hX : X + 60 < 2 ^ 28) (k : INV X M) (hp : p < 2) (h0 : M.1 0 p = 0) : rdc p M = mset 10 (mdc p M) ∧ INV (X + 42) (rdc p M) ∧ DCH p M ∧ SI (mdc p M) ∧ (∀ c, c = 1 ∨ c = 11 ∨ c = 12 ∨ c = 13 → (rdc p M).1 c = (mdc p M).1 c) ∧ (¬ (mdc p M).1 11 0 = nI p ∧ ¬ (mdc p M).1 12 0 = nI p ∧ ((mdc p M).1 13 0 = 1 → ¬ ohI (mdc p M).1 0 = nI p)) ∧ ∀ k, k < 3 → CHG M.1 (mdc p M).1 k := by
  obtain ⟨km, kS⟩ := k
  have km1 := MID_d1 km (by omega : p < 4) h0
  obtain ⟨I, Q, Z⟩ := M
  obtain ⟨J, eJ⟩ : ∃ J, J = uI I 1 p 1 := ⟨_, rfl⟩
  have kmJ : MID X (J, Q, Z) := by rw [eJ]; exact km1
  have kSJ : SD2 (J, Q, Z) := by rw [eJ]; exact kS
  have hJ0 : J 0 p = 0 := by rw [eJ]; exact h0
  obtain ⟨a1, a2, a3, a4, a5, a6, a7, a8⟩ := kmJ.2.2.1 0 (by omega)
  have nT : ∀ (N : sm_I), (∀ t, t < 2 → N 11 (1 + t) = J 11 (1 + t)) → ∀ t, t < 2 → ¬ N 11 (1 + t) = nI p ∧ ¬ ohI N (1 + t) = nI p := fun N h t ht => by
    have := prk_0 (I := J) hp (kmJ.2.2.1 (1 + t) (by omega)).1
    rw [h t ht, ohI_p (h t ht)]
    exact this
  -- what is left of it
  have stepC : ∀ A : mM, (∀ t, t < 2 → A.1 11 (1 + t) = J 11 (1 + t)) → mdA 2 p (mdA 1 p A) = A := fun A h => by
    have e1 : mdA 1 p A = A := if_neg (nT A.1 h 0 (by omega)).1
    rw [e1]
    exact if_neg (nT A.1 h 1 (by omega)).1
  have stepD : ∀ A : mM, (∀ t, t < 2 → A.1 11 (1 + t) = J 11 (1 + t)) → mdB 1 p A = A ∧ mdB 2 p A = A := fun A h => ⟨if_neg (fun z => (nT A.1 h 0 (by omega)).2 z.2), if_neg (fun z => (nT A.1 h 1 (by omega)).2 z.2)⟩
  have stepE : ∀ A : mM, (∀ t, t < 2 → A.1 11 (1 + t) = J 11 (1 + t)) → rdA 2 p (rdA 1 p A) = A := fun A h => by
    have e1 : rdA 1 p A = A := if_neg (nT A.1 h 0 (by omega)).1
    rw [e1]
    exact if_neg (nT A.1 h 1 (by omega)).1
  have ih : ∀ k, k = 1 ∨ k = 2 → ihm k p = false := fun k hk => by
    unfold ihm
    rcases hk with rfl | rfl <;> simp <;> omega
  have stepF : ∀ A : mM, rdB 1 p A = A ∧ rdB 2 p A = A := fun A => ⟨if_pos (Or.inr (Or.inr (Or.inl (ih 1 (Or.inl rfl))))), if_pos (Or.inr (Or.inr (Or.inl (ih 2 (Or.inr rfl)))))⟩
  have eM : mdc p (I, Q, Z) = mdB 2 p (mdB 1 p (mdB 0 p (mdA 2 p (mdA 1 p (mdA 0 p (J, Q, Z)))))) := by rw [eJ]; rfl
  have eR : rdc p (I, Q, Z) = rset 30 (rdB 2 p (rdB 1 p (rdB 0 p (rdA 2 p (rdA 1 p (rdA 0 p (J, Q, Z))))))) := by rw [eJ]; rfl
  have finish : ∀ (A N : mM) (Y : Nat), Y ≤ X + 2 → MID Y A → MID Y N → NU N → mdA 0 p (J, Q, Z) = A → (∀ t, t < 2 → A.1 11 (1 + t) = J 11 (1 + t)) → mdB 0 p A = N → (∀ t, t < 2 → N.1 11 (1 + t) = J 11 (1 + t)) → rdc p (I, Q, Z) = rset 30 N → (¬ N.1 11 0 = nI p ∧ ¬ N.1 12 0 = nI p ∧ (N.1 13 0 = 1 → ¬ ohI N.1 0 = nI p)) → CHG J N.1 0 → (∀ t, t < 2 → N.1 12 (1 + t) = J 12 (1 + t) ∧ N.1 13 (1 + t) = J 13 (1 + t)) → rdc p (I, Q, Z) = mset 10 (mdc p (I, Q, Z)) ∧ INV (X + 42) (rdc p (I, Q, Z)) ∧ DCH p (I, Q, Z) ∧ SI (mdc p (I, Q, Z)) ∧ (∀ c, c = 1 ∨ c = 11 ∨ c = 12 ∨ c = 13 → (rdc p (I, Q, Z)).1 c = (mdc p (I, Q, Z)).1 c) ∧ (¬ (mdc p (I, Q, Z)).1 11 0 = nI p ∧ ¬ (mdc p (I, Q, Z)).1 12 0 = nI p ∧ ((mdc p (I, Q, Z)).1 13 0 = 1 → ¬ ohI (mdc p (I, Q, Z)).1 0 = nI p)) ∧ ∀ k, k < 3 → CHG I (mdc p (I, Q, Z)).1 k := by
    intro A N Y hY kA kN hN eA hA eN hN11 er hcl hch0 hch1
    have em : mdc p (I, Q, Z) = N := by rw [eM, eA, stepC A hA, eN, (stepD N hN11).1, (stepD N hN11).2]
    obtain ⟨z1, z2⟩ := MID_set30 (by omega) kN hN
    refine ⟨by rw [er, em, z2], by rw [er]; exact INV_X (by omega) z1, ?_, by rw [em]; exact SI_of kN, fun c hc => ?_, by rw [em]; exact hcl, fun k hk => ?_⟩
    · unfold DCH
      show RPH 0 p (uI I 1 p 1, Q, Z) ∧ RPH 1 p (mdA 0 p (uI I 1 p 1, Q, Z)) ∧ RPH 2 p (mdA 1 p (mdA 0 p (uI I 1 p 1, Q, Z))) ∧ STH 0 (mdrp 0 (mdA 2 p (mdA 1 p (mdA 0 p (uI I 1 p 1, Q, Z))))) ∧ STH 1 (mdrp 1 (mdB 0 p (mdA 2 p (mdA 1 p (mdA 0 p (uI I 1 p 1, Q, Z)))))) ∧ STH 2 (mdrp 2 (mdB 1 p (mdB 0 p (mdA 2 p (mdA 1 p (mdA 0 p (uI I 1 p 1, Q, Z)))))))
      rw [← eJ, eA, stepC A hA]
      have e1 : mdA 1 p A = A := if_neg (nT A.1 hA 0 (by omega)).1
      rw [e1, eN, (stepD N hN11).1]
      exact ⟨RPH_of kmJ (by omega) (by omega) hJ0, fun z => absurd z (nT A.1 hA 0 (by omega)).1, fun z => absurd z (nT A.1 hA 1 (by omega)).1, STH_of kA (by omega), STH_of kN (by omega), STH_of kN (by omega)⟩
    · rw [er, em]
      rcases hc with rfl | rfl | rfl | rfl <;> exact rset_I (by decide) (by decide) (by decide) (by decide) (by decide) (by decide) (by decide) (by decide) (by decide) (by decide) 30 N
    · rw [em]
      have hIJ : ∀ k, CHG I J k := fun k => by rw [eJ]; exact CHG_refl
      refine CHG_trans (by rw [eJ]; rfl) (hIJ k) ?_
      have : k = 0 ∨ k = 1 ∨ k = 2 := by omega
      rcases this with rfl | rfl | rfl
      · exact hch0
      · exact Or.inl ⟨hN11 0 (by omega), hch1 0 (by omega)⟩
      · exact Or.inl ⟨hN11 1 (by omega), hch1 1 (by omega)⟩
  by_cases c1 : J 11 0 = nI p
  · have hn1 : ¬ J 11 0 = -1 := fun z => nI_m1 (by omega : p < 4) (c1.symm.trans z)
    obtain ⟨p1, p2, p3, p4, p5, -⟩ := prk_n (I := J) (by omega) a1 hn1
    have hpp : pn J 0 = p := (nI_eq (by omega) (by omega)).mp (p4.symm.trans c1)
    have hl : lv J 0 = false := by
      cases z : lv J 0 with
      | false => rfl
      | true =>
        have := (lv_up z).2
        rw [hpp, hJ0] at this
        exact absurd rfl this
    have h16 := a7 hl
    obtain ⟨h21, h23⟩ := kmJ.2.2.2.2.1.2.2.2.2.1 hl
    by_cases c2 : ¬ J 12 0 = -1 ∧ ¬ J 0 (ohn J 0) = 0
    · obtain ⟨b1, b2, b3, b4⟩ := a5 c2.1
      have h12 : J 12 0 = nI (ohn J 0) := b4.trans p5
      obtain ⟨v, hv⟩ : ∃ v : Int32, v = (if (Z (rwo J 0)).1 3 = 0 then 0 else 2) := ⟨_, rfl⟩
      obtain ⟨t1, t2, t3, t4⟩ := MID_to0 kmJ (by omega) hJ0 c1 c2.1 c2.2 hv
      have eto : ∀ c j, c ≠ 22 → ¬ (j = 0 ∧ (c = 11 ∨ c = 12 ∨ c = 13 ∨ c = 16 ∨ c = 40)) → to0 v J c j = J c j := fun c j h h' => by
        unfold to0
        rw [uI_c h, uI_c h]
        exact toI_o h'
      obtain ⟨T, eT⟩ : ∃ T, T = rsa (to0 v J, Q, Z) := ⟨_, rfl⟩
      have kT : MID (X + 2) T := by rw [eT]; exact MID_sa t1
      have hT : ∀ c, c ≠ 9 → c ≠ 24 → c ≠ 25 → T.1 c = to0 v J c := fun c h1 h2 h3 => by rw [eT]; exact rsa_I h1 h2 h3
      have hok : (Z (rwo J 0)).1 3 = 0 ∨ (Z (rwo J 0)).1 3 = 1 ∨ (Z (rwo J 0)).1 3 = 2 := by
        have h01 : rwo J 0 = 0 ∨ rwo J 0 = 1 := by unfold rwo; omega
        rcases h01 with e | e <;> rw [e]
        · exact kmJ.2.2.2.2.2.2.1.1.2.2.2.2.2.1
        · exact kmJ.2.2.2.2.2.2.1.2.1.2.2.2.2.2.1
      have hA : mdA 0 p (J, Q, Z) = T := by
        unfold mdA
        rw [if_pos (show (J, Q, Z).1 11 0 = nI p from c1)]
        unfold mrpl
        rw [if_pos (show ¬ (J, Q, Z).1 12 0 = -1 ∧ ¬ (J, Q, Z).1 0 (ohn (J, Q, Z).1 0) = 0 from c2), if_pos rfl]
        show mal (mtos (mpri 0 (nI (ohn J 0)) (mdrp 0 (J, Q, Z)))) = T
        rw [to0_m h16 a1 hn1 hv, mal_e t1, eT]
      have hT11 : ∀ t, t < 2 → T.1 11 (1 + t) = J 11 (1 + t) := fun t ht => by rw [hT 11 (by decide) (by decide) (by decide)]; exact eto 11 _ (by decide) (by omega)
      obtain ⟨s1, s2, s3, -⟩ := toI_s (k := 0) (v := v) (I := J)
      have T12 : T.1 12 0 = -1 := by rw [hT 12 (by decide) (by decide) (by decide)]; exact s2
      have T13 : T.1 13 0 = 0 := by rw [hT 13 (by decide) (by decide) (by decide)]; exact s3
      have T11 : T.1 11 0 = nI (ohn J 0) := by rw [hT 11 (by decide) (by decide) (by decide)]; exact s1
      have hNU : NU T := NU_0 kT (fun _ => by rw [hT 22 (by decide) (by decide) (by decide)]; exact ⟨rfl, rfl⟩)
      refine finish T T (X + 2) (by omega) kT kT hNU hA hT11 (if_neg (fun z => ?_)) hT11 ?_ ⟨?_, ?_, ?_⟩ (Or.inr ⟨T12, T13, Or.inr (Or.inr ⟨ohn J 0, p2, T11, c2.2⟩)⟩) (fun t ht => ⟨by rw [hT 12 (by decide) (by decide) (by decide)]; exact eto 12 _ (by decide) (by omega), by rw [hT 13 (by decide) (by decide) (by decide)]; exact eto 13 _ (by decide) (by omega)⟩)
      · rcases z.1 with y | y
        · exact y T12
        · exact y T13
      · have hR : rdA 0 p (J, Q, Z) = rset 30 T := by
          unfold rdA
          rw [if_pos (show (J, Q, Z).1 11 0 = nI p from c1)]
          have eb : (J 12 0).toNatClampNeg = ohn J 0 := bk_oh b4
          rw [if_pos (show ¬ (J, Q, Z).1 12 0 = -1 ∧ ¬ (J, Q, Z).1 0 ((J, Q, Z).1 12 0).toNatClampNeg = 0 from ⟨c2.1, by rw [show ((J, Q, Z).1 12 0).toNatClampNeg = ohn J 0 from eb]; exact c2.2⟩)]
          unfold rto
          rw [if_pos rfl, to0_r h16 h21 h23 a1 hn1 h12 hok hv, ← eT]
        have rI : ∀ c, c = 11 ∨ c = 12 ∨ c = 13 → (rset 30 T).1 c = T.1 c := fun c hc => by rcases hc with rfl | rfl | rfl <;> exact rset_I (by decide) (by decide) (by decide) (by decide) (by decide) (by decide) (by decide) (by decide) (by decide) (by decide) 30 T
        rw [eR, hR, stepE _ (fun t ht => by rw [rI 11 (Or.inl rfl)]; exact hT11 t ht)]
        have e0 : rdB 0 p (rset 30 T) = rset 30 T := if_pos (Or.inr (Or.inr (Or.inr ⟨by rw [rI 12 (Or.inr (Or.inl rfl))]; exact T12, by rw [rI 13 (Or.inr (Or.inr rfl))]; exact T13⟩)))
        rw [e0, (stepF _).1, (stepF _).2]
        exact INV_id (MID_set30 (by omega) kT hNU).1
      · rw [T11]
        exact fun z => p3 ((hpp.trans ((nI_eq (by omega) (by omega)).mp z).symm))
      · rw [T12]
        exact fun z => nI_m1 (by omega : p < 4) z.symm
      · rw [T13]
        exact fun z => absurd z (by decide)
    · have kD := MID_dr kmJ (by omega) (by omega : p < 4) hJ0 c1
      obtain ⟨D, eD⟩ : ∃ D : mM, D = (drI 0 J, Q, Z) := ⟨_, rfl⟩
      have kD' : MID X D := by rw [eD]; exact kD
      have v : ∀ c j, c ≠ 16 → c ≠ 21 → c ≠ 23 → D.1 c j = (uI (uI (uI (uI J 11 0 (-1)) 12 0 (-1)) 13 0 0) 40 0 0) c j := fun c j h1 h2 h3 => by
        rw [eD]
        show drI 0 J c j = _
        unfold drI
        exact mstI_o ⟨h1, h2, h3⟩
      have D11 : D.1 11 0 = -1 := by rw [v 11 0 (by decide) (by decide) (by decide)]; rfl
      have D12 : D.1 12 0 = -1 := by rw [v 12 0 (by decide) (by decide) (by decide)]; rfl
      have D13 : D.1 13 0 = 0 := by rw [v 13 0 (by decide) (by decide) (by decide)]; rfl
      have hD11 : ∀ t, t < 2 → D.1 11 (1 + t) = J 11 (1 + t) := fun t ht => by
        rw [v 11 _ (by decide) (by decide) (by decide), uI_j (by omega), uI_j (by omega), uI_j (by omega), uI_j (by omega)]
      have hA : mdA 0 p (J, Q, Z) = D := by
        unfold mdA
        rw [if_pos (show (J, Q, Z).1 11 0 = nI p from c1)]
        unfold mrpl
        rw [if_neg (show ¬ (¬ (J, Q, Z).1 12 0 = -1 ∧ ¬ (J, Q, Z).1 0 (ohn (J, Q, Z).1 0) = 0) from c2), dr_m h16 (fun _ => ⟨h21, h23⟩), eD]
      have hlD : lv D.1 0 = false := by
        unfold lv
        rw [D11]
        rfl
      refine finish D D X (by omega) kD' kD' (fun z => absurd (hlD.symm.trans z) (by decide)) hA hD11 (if_neg (fun z => ?_)) hD11 ?_ ⟨?_, ?_, ?_⟩ (Or.inr ⟨D12, D13, Or.inr (Or.inl D11)⟩) (fun t ht => ⟨by rw [v 12 _ (by decide) (by decide) (by decide), uI_j (by omega), uI_j (by omega), uI_j (by omega), uI_j (by omega)], by rw [v 13 _ (by decide) (by decide) (by decide), uI_j (by omega), uI_j (by omega), uI_j (by omega), uI_j (by omega)]⟩)
      · rcases z.1 with y | y
        · exact y D12
        · exact y D13
      · have hR : rdA 0 p (J, Q, Z) = D := by
          unfold rdA
          rw [if_pos (show (J, Q, Z).1 11 0 = nI p from c1), if_neg, eD]
          · rfl
          · intro z
            have z1 : ¬ J 12 0 = -1 := z.1
            have eb : (J 12 0).toNatClampNeg = ohn J 0 := bk_oh (a5 z1).2.2.2
            exact c2 ⟨z1, by rw [← eb]; exact z.2⟩
        rw [eR, hR, stepE _ hD11]
        have e0 : rdB 0 p D = D := if_pos (Or.inl D11)
        rw [e0, (stepF _).1, (stepF _).2]
      · rw [D11]
        exact fun z => nI_m1 (by omega : p < 4) z.symm
      · rw [D12]
        exact fun z => nI_m1 (by omega : p < 4) z.symm
      · rw [D13]
        exact fun z => absurd z (by decide)
  · have hA : mdA 0 p (J, Q, Z) = (J, Q, Z) := if_neg c1
    have hRA : rdA 0 p (J, Q, Z) = (J, Q, Z) := if_neg c1
    have i0 : ihm 0 p = true := by
      unfold ihm
      rw [if_pos rfl]
      simp
      exact hp
    by_cases c2 : (¬ J 12 0 = -1 ∨ ¬ J 13 0 = 0) ∧ ohI J 0 = nI p
    · obtain ⟨c3, c4⟩ := c2
      have hn1 : ¬ J 11 0 = -1 := fun z => by
        rcases c3 with y | y
        · exact (a5 y).2.1 z
        · exact y (a8 z)
      obtain ⟨p1, p2, p3, p4, p5, -⟩ := prk_n (I := J) (by omega) a1 hn1
      have ho : ohn J 0 = p := (nI_eq (by omega) (by omega)).mp (p5.symm.trans c4)
      obtain ⟨v, hv⟩ : ∃ v : Int32, v = (if J 16 0 = 1 then 2 else J 16 0) := ⟨_, rfl⟩
      have hv2 : v = 0 ∨ v = 2 := by
        rw [hv]
        split
        · exact Or.inr rfl
        · rename_i y
          rcases a4 with z | z | z
          · exact Or.inl z
          · exact absurd z y
          · exact Or.inr z
      have kL := MID_ls (v := v) kmJ (by omega) (by omega : p < 4) hJ0 hn1 ho hv2 (fun z => by
        have y : J 16 0 = 0 := a7 z
        rw [hv, if_neg (by rw [y]; decide)]
        exact y) (fun t _ e => by omega) (fun _ hl => by
        rw [hv]
        show ((if J 16 0 = 1 then 2 else J 16 0) = 0 ↔ J 16 0 = 0) ∧ ((if J 16 0 = 1 then 2 else J 16 0) = 2 → J 16 0 = 2 ∨ J 16 0 = 1)
        by_cases y : J 16 0 = 1
        · rw [if_pos y, y]
          exact ⟨⟨fun z => absurd z (by decide), fun z => absurd z (by decide)⟩, fun _ => Or.inr rfl⟩
        · rw [if_neg y]
          exact ⟨Iff.rfl, fun z => Or.inl z⟩)
      obtain ⟨L, eL⟩ : ∃ L : mM, L = (lsI 0 v J, Q, Z) := ⟨_, rfl⟩
      have kL' : MID X L := by rw [eL]; exact kL
      have oth : ∀ c j, ¬ (j = 0 ∧ (c = 12 ∨ c = 13 ∨ c = 16)) → L.1 c j = J c j := fun c j h => by
        rw [eL]
        unfold lsI
        simp only [uI]
        rw [if_neg (by omega), if_neg (by omega), if_neg (by omega)]
      have L12 : L.1 12 0 = -1 := by rw [eL]; rfl
      have L13 : L.1 13 0 = 0 := by rw [eL]; rfl
      have L16 : L.1 16 0 = v := by rw [eL]; rfl
      have eL11 : L.1 11 = J 11 := funext (fun j => oth 11 j (by omega))
      have eL0 : L.1 0 = J 0 := funext (fun j => oth 0 j (by omega))
      have hB : mdB 0 p (J, Q, Z) = L := by
        unfold mdB
        rw [if_pos (show (¬ (J, Q, Z).1 12 0 = -1 ∨ ¬ (J, Q, Z).1 13 0 = 0) ∧ ohI (J, Q, Z).1 0 = nI p from ⟨c3, c4⟩), ls_m, eL, hv]
      have hNU : NU L := by
        by_cases y : J 16 0 = 1
        · refine NU_0 kL' (fun _ => ?_)
          rw [oth 22 0 (by omega), oth 22 1 (by omega)]
          exact kmJ.2.2.2.2.1.2.1 y
        · intro hl h16 _ _
          rw [L16, hv, if_neg y] at h16
          rw [lv_c eL0 eL11] at hl
          obtain ⟨d, hd, h5, hg⟩ := kSJ.1 hl h16
          refine Or.inr ⟨d, hd, ?_, ?_⟩
          · rw [oth 5 d (by omega)]; exact h5
          · rw [oth 22 d (by omega), rwi_c eL11, eL]
            exact hg
      refine finish (J, Q, Z) L X (by omega) kmJ kL' hNU hA (fun _ _ => rfl) hB (fun t ht => oth 11 _ (by omega)) ?_ ⟨?_, ?_, ?_⟩ (Or.inr ⟨L12, L13, Or.inl (congrFun eL11 0)⟩) (fun t ht => ⟨oth 12 _ (by omega), oth 13 _ (by omega)⟩)
      · rw [eR, hRA, stepE (J, Q, Z) (fun _ _ => rfl)]
        have e0 : rdB 0 p (J, Q, Z) = L := by
          unfold rdB
          rw [if_neg]
          · show rdB1 0 (uI (uI J 12 0 (-1)) 13 0 0, Q, Z) = L
            rw [ls_r (fun z => (a6 z).2), eL, hv]
          · intro z
            rcases z with z | z | z | z
            · exact hn1 z
            · exact c1 z
            · rw [i0] at z; cases z
            · rcases c3 with y | y
              · exact y z.1
              · exact y z.2
        rw [e0, (stepF _).1, (stepF _).2]
      · rw [eL11]; exact c1
      · rw [L12]
        exact fun z => nI_m1 (by omega : p < 4) z.symm
      · rw [L13]
        exact fun z => absurd z (by decide)
    · have hB : mdB 0 p (J, Q, Z) = (J, Q, Z) := if_neg c2
      refine finish (J, Q, Z) (J, Q, Z) X (by omega) kmJ kmJ (NU_of kSJ) hA (fun _ _ => rfl) hB (fun _ _ => rfl) ?_ ⟨c1, fun z => ?_, fun z y => ?_⟩ CHG_refl (fun _ _ => ⟨rfl, rfl⟩)
      · rw [eR, hRA, stepE (J, Q, Z) (fun _ _ => rfl)]
        have e0 : rdB 0 p (J, Q, Z) = (J, Q, Z) := by
          unfold rdB
          by_cases y : J 11 0 = -1
          · exact if_pos (Or.inl y)
          · refine if_pos (Or.inr (Or.inr (Or.inr ?_)))
            have hoh : ohI J 0 = nI p := by
              unfold prk at a1
              unfold ohI
              rw [if_pos rfl] at a1 ⊢
              have : p = 0 ∨ p = 1 := by omega
              rcases this with rfl | rfl <;> rcases a1 with z | z | z
              · exact absurd z y
              · exact absurd z c1
              · rw [show J 11 0 = 1 from z]; rfl
              · exact absurd z y
              · rw [show J 11 0 = 0 from z]; rfl
              · exact absurd z c1
            refine ⟨?_, ?_⟩
            · by_cases w : J 12 0 = -1
              · exact w
              · exact absurd ⟨Or.inl w, hoh⟩ c2
            · by_cases w : J 13 0 = 0
              · exact w
              · exact absurd ⟨Or.inr w, hoh⟩ c2
        rw [e0, (stepF _).1, (stepF _).2]
      · have w : ¬ J 12 0 = -1 := fun w => nI_m1 (by omega : p < 4) (z.symm.trans w)
        exact c2 ⟨Or.inl w, (a5 w).2.2.2.symm.trans z⟩
      · exact c2 ⟨Or.inr (by rw [show J 13 0 = 1 from z]; decide), y⟩
