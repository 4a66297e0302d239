def msil (p : Nat) (I : sm_I) : sm_I := if sil I p = true then uI I 2 p (I 2 p + 1) else I
def mtk (p : Nat) (M : mM) : mM := if (sil M.1 p && decide (5 ≤ M.1 2 p + 1)) = true then mset 10 (mdc p (msil p M.1, M.2)) else (msil p M.1, M.2)
def mtk4 (M : mM) : mM := mtk 3 (mtk 2 (mtk 1 (mtk 0 (uI M.1 8 0 (M.1 8 0 + 1), M.2))))
def mwk (M : mM) : mM := (mwkI M.1 M.2.1 16, M.2)
def mtck (M : mM) : mM := mrst 2 (mrst 1 (mrst 0 (mwk (mtk4 M))))
/-- what each step of a tick wants -/
def TKH (p : Nat) (D : mM → Prop) (M : mM) : Prop := (sil M.1 p && decide (5 ≤ M.1 2 p + 1)) = true → D (msil p M.1, M.2) ∧ SI (mdc p (msil p M.1, M.2))
def RSH (k : Nat) (M : mM) : Prop := M.1 11 k = -1 → (k = 0 → ¬ chs M.1 = -1 → mrk (dsk M.1 (chs M.1).toNatClampNeg)) ∧ (¬ k = 0 → ¬ M.1 17 (k - 1) + 1 = 0)
theorem tk_0 {w : Nat → Bool} {d : Nat} {h : am_Hp} {m0 : mg} {B : Nat} {I : sm_I} {Q : mQ} {Z : mZ} (hC : CA w 32 m0 B h (I, Q, Z)) {P : Option Value → am_Hp → Prop} (hd : 8 ≤ d) (hB2 : B < 2 ^ 24) (hT : TKH 0 DCH0 (I, Q, Z)) (K : ∀ h', CA w 32 m0 (B + 580) h' (mtk 0 (I, Q, Z)) → am_Go (am_prog w) d am_c30 (some .int) 21 [some (.ref 1), some (.int 0)] [] h' P) : am_Go (am_prog w) d am_c30 (some .int) 11 [some (.ref 1), some (.int 0)] [] h P := by
  obtain ⟨X, ow, sb, hS, hD, hB, hQ⟩ := hC
  change sm tbc h I X at hS
  change CD w 32 m0 h I Q Z X ow sb at hD
  change co h I ≤ B at hB
  change ∀ l, l < 16 → (Q l).length ≤ h.length at hQ
  have hW := hD.1.1
  have hWn : ∀ a, List.length h ≤ a → w a = true := fun a ha => (hD.1.2.1 a ha).1
  have hF1 := fr_refl tbc h
  have hln : 62 ≤ List.length h := sm_len hS
  obtain ⟨J, hJ⟩ : ∃ J, J = msil 0 I := ⟨_, rfl⟩
  refine go_s (pc' := 12) rfl rfl rfl rfl ?_
  refine go_sget (pc' := 13) (v := .ref 2) hS rfl rfl rfl (by decide) rfl rfl ?_
  refine go_s (pc' := 14) rfl rfl rfl rfl ?_
  refine go_callV (pc' := 15) rfl rfl rfl (Nat.le_of_ble_eq_true rfl) rfl (sm_o hS rfl) rfl rfl rfl (ct_addSil_0 hS hW (by omega)) (fun r h2 q3 => ?_)
  obtain ⟨J2, hJ2, rfl, hS2, hE2⟩ := q3
  obtain rfl : J2 = J := by rw [hJ2, hJ]; rfl
  have hF4 := fr_trans hF1 (fr_e hE2)
  have ha : agr I J2 := by
    rw [hJ2]
    split
    · exact ⟨rfl, rfl, rfl, rfl, rfl, rfl, rfl, rfl, rfl, rfl, rfl, rfl, rfl, rfl, rfl⟩
    · exact ⟨rfl, rfl, rfl, rfl, rfl, rfl, rfl, rfl, rfl, rfl, rfl, rfl, rfl, rfl, rfl⟩
  have h21 : J2 21 0 = I 21 0 := by rw [ha.2.2.2.2.2.2.2.2.2.2.1]
  have hC1 : CA w 32 m0 B h2 (J2, Q, Z) := ⟨X, ow, sb, hS2, CD_I (CD_fr hD hF4) ha, by have := co_fr (I := I) (J := J2) hF4 h21; show co _ J2 ≤ B; omega, fun l hl => Nat.le_trans (hQ l hl) hF4.1⟩
  cases hu : (sil I 0 && decide (5 ≤ I 2 0 + 1))
  · skip
    show am_Go _ _ _ _ 15 _ [.int 0] _ _
    refine go_ifP (t' := 21) (pc' := 16) rfl rfl rfl (fun _ => ?_) (fun (c : ¬ ((0 : Int32) = 0)) => absurd (by decide) c)
    have hms : mtk 0 (I, Q, Z) = (J2, Q, Z) := by
      unfold mtk
      rw [if_neg (by rw [show (sil (I, Q, Z).1 0 && decide (5 ≤ (I, Q, Z).1 2 0 + 1)) = false from hu]; decide), hJ]
    exact K _ (by rw [hms]; exact CA_le hC1 (by omega))
  · skip
    show am_Go _ _ _ _ 15 _ [.int 1] _ _
    refine go_ifP (t' := 21) (pc' := 16) rfl rfl rfl (fun (c : (1 : Int32) = 0) => absurd c (by decide)) (fun _ => ?_)
    refine go_s (pc' := 17) rfl rfl rfl rfl ?_
    refine go_s (pc' := 18) rfl rfl rfl rfl ?_
    obtain ⟨hdch, hsi⟩ := hT hu
    change DCH0 (msil 0 I, Q, Z) at hdch
    change SI (mdc 0 (msil 0 I, Q, Z)) at hsi
    rw [← hJ] at hdch hsi
    refine go_callV (pc' := 19) rfl rfl rfl (Nat.le_of_ble_eq_true rfl) rfl (sm_o hS2 rfl) rfl rfl rfl (cm_dc_0 hC1 (by omega) hdch (by omega)) (fun r h5 q6 => ?_)
    obtain ⟨rfl, hC2⟩ := q6
    obtain ⟨M5, eM5⟩ : ∃ y, y = mdc 0 (J2, Q, Z) := ⟨_, rfl⟩
    rw [← eM5] at hC2 hsi
    obtain ⟨I5, Q5, Z5⟩ := M5
    obtain ⟨X5, ow5, sb5, hS5, -⟩ := id hC2
    change sm tbc h5 I5 X5 at hS5
    refine go_s (pc' := 20) rfl rfl rfl rfl ?_
    refine go_callV (pc' := 21) rfl rfl rfl (Nat.le_of_ble_eq_true rfl) rfl (sm_o hS5 rfl) rfl rfl rfl (cm_run hC2 (by omega) hsi (by omega)) (fun r h7 q8 => ?_)
    obtain ⟨rfl, hC3⟩ := q8
    have hms : mtk 0 (I, Q, Z) = mset 10 (I5, Q5, Z5) := by
      unfold mtk
      rw [if_pos hu, eM5, hJ]
    exact K _ (by rw [hms]; exact CA_le hC3 (by omega))
theorem tk_1 {w : Nat → Bool} {d : Nat} {h : am_Hp} {m0 : mg} {B : Nat} {I : sm_I} {Q : mQ} {Z : mZ} (hC : CA w 32 m0 B h (I, Q, Z)) {P : Option Value → am_Hp → Prop} (hd : 8 ≤ d) (hB2 : B < 2 ^ 24) (hT : TKH 1 DCH1 (I, Q, Z)) (K : ∀ h', CA w 32 m0 (B + 580) h' (mtk 1 (I, Q, Z)) → am_Go (am_prog w) d am_c30 (some .int) 21 [some (.ref 1), some (.int 1)] [] h' P) : am_Go (am_prog w) d am_c30 (some .int) 11 [some (.ref 1), some (.int 1)] [] h P := by
  obtain ⟨X, ow, sb, hS, hD, hB, hQ⟩ := hC
  change sm tbc h I X at hS
  change CD w 32 m0 h I Q Z X ow sb at hD
  change co h I ≤ B at hB
  change ∀ l, l < 16 → (Q l).length ≤ h.length at hQ
  have hW := hD.1.1
  have hWn : ∀ a, List.length h ≤ a → w a = true := fun a ha => (hD.1.2.1 a ha).1
  have hF1 := fr_refl tbc h
  have hln : 62 ≤ List.length h := sm_len hS
  obtain ⟨J, hJ⟩ : ∃ J, J = msil 1 I := ⟨_, rfl⟩
  refine go_s (pc' := 12) rfl rfl rfl rfl ?_
  refine go_sget (pc' := 13) (v := .ref 2) hS rfl rfl rfl (by decide) rfl rfl ?_
  refine go_s (pc' := 14) rfl rfl rfl rfl ?_
  refine go_callV (pc' := 15) rfl rfl rfl (Nat.le_of_ble_eq_true rfl) rfl (sm_o hS rfl) rfl rfl rfl (ct_addSil_1 hS hW (by omega)) (fun r h2 q3 => ?_)
  obtain ⟨J2, hJ2, rfl, hS2, hE2⟩ := q3
  obtain rfl : J2 = J := by rw [hJ2, hJ]; rfl
  have hF4 := fr_trans hF1 (fr_e hE2)
  have ha : agr I J2 := by
    rw [hJ2]
    split
    · exact ⟨rfl, rfl, rfl, rfl, rfl, rfl, rfl, rfl, rfl, rfl, rfl, rfl, rfl, rfl, rfl⟩
    · exact ⟨rfl, rfl, rfl, rfl, rfl, rfl, rfl, rfl, rfl, rfl, rfl, rfl, rfl, rfl, rfl⟩
  have h21 : J2 21 0 = I 21 0 := by rw [ha.2.2.2.2.2.2.2.2.2.2.1]
  have hC1 : CA w 32 m0 B h2 (J2, Q, Z) := ⟨X, ow, sb, hS2, CD_I (CD_fr hD hF4) ha, by have := co_fr (I := I) (J := J2) hF4 h21; show co _ J2 ≤ B; omega, fun l hl => Nat.le_trans (hQ l hl) hF4.1⟩
  cases hu : (sil I 1 && decide (5 ≤ I 2 1 + 1))
  · skip
    show am_Go _ _ _ _ 15 _ [.int 0] _ _
    refine go_ifP (t' := 21) (pc' := 16) rfl rfl rfl (fun _ => ?_) (fun (c : ¬ ((0 : Int32) = 0)) => absurd (by decide) c)
    have hms : mtk 1 (I, Q, Z) = (J2, Q, Z) := by
      unfold mtk
      rw [if_neg (by rw [show (sil (I, Q, Z).1 1 && decide (5 ≤ (I, Q, Z).1 2 1 + 1)) = false from hu]; decide), hJ]
    exact K _ (by rw [hms]; exact CA_le hC1 (by omega))
  · skip
    show am_Go _ _ _ _ 15 _ [.int 1] _ _
    refine go_ifP (t' := 21) (pc' := 16) rfl rfl rfl (fun (c : (1 : Int32) = 0) => absurd c (by decide)) (fun _ => ?_)
    refine go_s (pc' := 17) rfl rfl rfl rfl ?_
    refine go_s (pc' := 18) rfl rfl rfl rfl ?_
    obtain ⟨hdch, hsi⟩ := hT hu
    change DCH1 (msil 1 I, Q, Z) at hdch
    change SI (mdc 1 (msil 1 I, Q, Z)) at hsi
    rw [← hJ] at hdch hsi
    refine go_callV (pc' := 19) rfl rfl rfl (Nat.le_of_ble_eq_true rfl) rfl (sm_o hS2 rfl) rfl rfl rfl (cm_dc_1 hC1 (by omega) hdch (by omega)) (fun r h5 q6 => ?_)
    obtain ⟨rfl, hC2⟩ := q6
    obtain ⟨M5, eM5⟩ : ∃ y, y = mdc 1 (J2, Q, Z) := ⟨_, rfl⟩
    rw [← eM5] at hC2 hsi
    obtain ⟨I5, Q5, Z5⟩ := M5
    obtain ⟨X5, ow5, sb5, hS5, -⟩ := id hC2
    change sm tbc h5 I5 X5 at hS5
    refine go_s (pc' := 20) rfl rfl rfl rfl ?_
    refine go_callV (pc' := 21) rfl rfl rfl (Nat.le_of_ble_eq_true rfl) rfl (sm_o hS5 rfl) rfl rfl rfl (cm_run hC2 (by omega) hsi (by omega)) (fun r h7 q8 => ?_)
    obtain ⟨rfl, hC3⟩ := q8
    have hms : mtk 1 (I, Q, Z) = mset 10 (I5, Q5, Z5) := by
      unfold mtk
      rw [if_pos hu, eM5, hJ]
    exact K _ (by rw [hms]; exact CA_le hC3 (by omega))
theorem tk_2 {w : Nat → Bool} {d : Nat} {h : am_Hp} {m0 : mg} {B : Nat} {I : sm_I} {Q : mQ} {Z : mZ} (hC : CA w 32 m0 B h (I, Q, Z)) {P : Option Value → am_Hp → Prop} (hd : 8 ≤ d) (hB2 : B < 2 ^ 24) (hT : TKH 2 DCH2 (I, Q, Z)) (K : ∀ h', CA w 32 m0 (B + 580) h' (mtk 2 (I, Q, Z)) → am_Go (am_prog w) d am_c30 (some .int) 21 [some (.ref 1), some (.int 2)] [] h' P) : am_Go (am_prog w) d am_c30 (some .int) 11 [some (.ref 1), some (.int 2)] [] h P := by
  obtain ⟨X, ow, sb, hS, hD, hB, hQ⟩ := hC
  change sm tbc h I X at hS
  change CD w 32 m0 h I Q Z X ow sb at hD
  change co h I ≤ B at hB
  change ∀ l, l < 16 → (Q l).length ≤ h.length at hQ
  have hW := hD.1.1
  have hWn : ∀ a, List.length h ≤ a → w a = true := fun a ha => (hD.1.2.1 a ha).1
  have hF1 := fr_refl tbc h
  have hln : 62 ≤ List.length h := sm_len hS
  obtain ⟨J, hJ⟩ : ∃ J, J = msil 2 I := ⟨_, rfl⟩
  refine go_s (pc' := 12) rfl rfl rfl rfl ?_
  refine go_sget (pc' := 13) (v := .ref 2) hS rfl rfl rfl (by decide) rfl rfl ?_
  refine go_s (pc' := 14) rfl rfl rfl rfl ?_
  refine go_callV (pc' := 15) rfl rfl rfl (Nat.le_of_ble_eq_true rfl) rfl (sm_o hS rfl) rfl rfl rfl (ct_addSil_2 hS hW (by omega)) (fun r h2 q3 => ?_)
  obtain ⟨J2, hJ2, rfl, hS2, hE2⟩ := q3
  obtain rfl : J2 = J := by rw [hJ2, hJ]; rfl
  have hF4 := fr_trans hF1 (fr_e hE2)
  have ha : agr I J2 := by
    rw [hJ2]
    split
    · exact ⟨rfl, rfl, rfl, rfl, rfl, rfl, rfl, rfl, rfl, rfl, rfl, rfl, rfl, rfl, rfl⟩
    · exact ⟨rfl, rfl, rfl, rfl, rfl, rfl, rfl, rfl, rfl, rfl, rfl, rfl, rfl, rfl, rfl⟩
  have h21 : J2 21 0 = I 21 0 := by rw [ha.2.2.2.2.2.2.2.2.2.2.1]
  have hC1 : CA w 32 m0 B h2 (J2, Q, Z) := ⟨X, ow, sb, hS2, CD_I (CD_fr hD hF4) ha, by have := co_fr (I := I) (J := J2) hF4 h21; show co _ J2 ≤ B; omega, fun l hl => Nat.le_trans (hQ l hl) hF4.1⟩
  cases hu : (sil I 2 && decide (5 ≤ I 2 2 + 1))
  · skip
    show am_Go _ _ _ _ 15 _ [.int 0] _ _
    refine go_ifP (t' := 21) (pc' := 16) rfl rfl rfl (fun _ => ?_) (fun (c : ¬ ((0 : Int32) = 0)) => absurd (by decide) c)
    have hms : mtk 2 (I, Q, Z) = (J2, Q, Z) := by
      unfold mtk
      rw [if_neg (by rw [show (sil (I, Q, Z).1 2 && decide (5 ≤ (I, Q, Z).1 2 2 + 1)) = false from hu]; decide), hJ]
    exact K _ (by rw [hms]; exact CA_le hC1 (by omega))
  · skip
    show am_Go _ _ _ _ 15 _ [.int 1] _ _
    refine go_ifP (t' := 21) (pc' := 16) rfl rfl rfl (fun (c : (1 : Int32) = 0) => absurd c (by decide)) (fun _ => ?_)
    refine go_s (pc' := 17) rfl rfl rfl rfl ?_
    refine go_s (pc' := 18) rfl rfl rfl rfl ?_
    obtain ⟨hdch, hsi⟩ := hT hu
    change DCH2 (msil 2 I, Q, Z) at hdch
    change SI (mdc 2 (msil 2 I, Q, Z)) at hsi
    rw [← hJ] at hdch hsi
    refine go_callV (pc' := 19) rfl rfl rfl (Nat.le_of_ble_eq_true rfl) rfl (sm_o hS2 rfl) rfl rfl rfl (cm_dc_2 hC1 (by omega) hdch (by omega)) (fun r h5 q6 => ?_)
    obtain ⟨rfl, hC2⟩ := q6
    obtain ⟨M5, eM5⟩ : ∃ y, y = mdc 2 (J2, Q, Z) := ⟨_, rfl⟩
    rw [← eM5] at hC2 hsi
    obtain ⟨I5, Q5, Z5⟩ := M5
    obtain ⟨X5, ow5, sb5, hS5, -⟩ := id hC2
    change sm tbc h5 I5 X5 at hS5
    refine go_s (pc' := 20) rfl rfl rfl rfl ?_
    refine go_callV (pc' := 21) rfl rfl rfl (Nat.le_of_ble_eq_true rfl) rfl (sm_o hS5 rfl) rfl rfl rfl (cm_run hC2 (by omega) hsi (by omega)) (fun r h7 q8 => ?_)
    obtain ⟨rfl, hC3⟩ := q8
    have hms : mtk 2 (I, Q, Z) = mset 10 (I5, Q5, Z5) := by
      unfold mtk
      rw [if_pos hu, eM5, hJ]
    exact K _ (by rw [hms]; exact CA_le hC3 (by omega))
theorem tk_3 {w : Nat → Bool} {d : Nat} {h : am_Hp} {m0 : mg} {B : Nat} {I : sm_I} {Q : mQ} {Z : mZ} (hC : CA w 32 m0 B h (I, Q, Z)) {P : Option Value → am_Hp → Prop} (hd : 8 ≤ d) (hB2 : B < 2 ^ 24) (hT : TKH 3 DCH3 (I, Q, Z)) (K : ∀ h', CA w 32 m0 (B + 580) h' (mtk 3 (I, Q, Z)) → am_Go (am_prog w) d am_c30 (some .int) 21 [some (.ref 1), some (.int 3)] [] h' P) : am_Go (am_prog w) d am_c30 (some .int) 11 [some (.ref 1), some (.int 3)] [] h P := by
  obtain ⟨X, ow, sb, hS, hD, hB, hQ⟩ := hC
  change sm tbc h I X at hS
  change CD w 32 m0 h I Q Z X ow sb at hD
  change co h I ≤ B at hB
  change ∀ l, l < 16 → (Q l).length ≤ h.length at hQ
  have hW := hD.1.1
  have hWn : ∀ a, List.length h ≤ a → w a = true := fun a ha => (hD.1.2.1 a ha).1
  have hF1 := fr_refl tbc h
  have hln : 62 ≤ List.length h := sm_len hS
  obtain ⟨J, hJ⟩ : ∃ J, J = msil 3 I := ⟨_, rfl⟩
  refine go_s (pc' := 12) rfl rfl rfl rfl ?_
  refine go_sget (pc' := 13) (v := .ref 2) hS rfl rfl rfl (by decide) rfl rfl ?_
  refine go_s (pc' := 14) rfl rfl rfl rfl ?_
  refine go_callV (pc' := 15) rfl rfl rfl (Nat.le_of_ble_eq_true rfl) rfl (sm_o hS rfl) rfl rfl rfl (ct_addSil_3 hS hW (by omega)) (fun r h2 q3 => ?_)
  obtain ⟨J2, hJ2, rfl, hS2, hE2⟩ := q3
  obtain rfl : J2 = J := by rw [hJ2, hJ]; rfl
  have hF4 := fr_trans hF1 (fr_e hE2)
  have ha : agr I J2 := by
    rw [hJ2]
    split
    · exact ⟨rfl, rfl, rfl, rfl, rfl, rfl, rfl, rfl, rfl, rfl, rfl, rfl, rfl, rfl, rfl⟩
    · exact ⟨rfl, rfl, rfl, rfl, rfl, rfl, rfl, rfl, rfl, rfl, rfl, rfl, rfl, rfl, rfl⟩
  have h21 : J2 21 0 = I 21 0 := by rw [ha.2.2.2.2.2.2.2.2.2.2.1]
  have hC1 : CA w 32 m0 B h2 (J2, Q, Z) := ⟨X, ow, sb, hS2, CD_I (CD_fr hD hF4) ha, by have := co_fr (I := I) (J := J2) hF4 h21; show co _ J2 ≤ B; omega, fun l hl => Nat.le_trans (hQ l hl) hF4.1⟩
  cases hu : (sil I 3 && decide (5 ≤ I 2 3 + 1))
  · skip
    show am_Go _ _ _ _ 15 _ [.int 0] _ _
    refine go_ifP (t' := 21) (pc' := 16) rfl rfl rfl (fun _ => ?_) (fun (c : ¬ ((0 : Int32) = 0)) => absurd (by decide) c)
    have hms : mtk 3 (I, Q, Z) = (J2, Q, Z) := by
      unfold mtk
      rw [if_neg (by rw [show (sil (I, Q, Z).1 3 && decide (5 ≤ (I, Q, Z).1 2 3 + 1)) = false from hu]; decide), hJ]
    exact K _ (by rw [hms]; exact CA_le hC1 (by omega))
  · skip
    show am_Go _ _ _ _ 15 _ [.int 1] _ _
    refine go_ifP (t' := 21) (pc' := 16) rfl rfl rfl (fun (c : (1 : Int32) = 0) => absurd c (by decide)) (fun _ => ?_)
    refine go_s (pc' := 17) rfl rfl rfl rfl ?_
    refine go_s (pc' := 18) rfl rfl rfl rfl ?_
    obtain ⟨hdch, hsi⟩ := hT hu
    change DCH3 (msil 3 I, Q, Z) at hdch
    change SI (mdc 3 (msil 3 I, Q, Z)) at hsi
    rw [← hJ] at hdch hsi
    refine go_callV (pc' := 19) rfl rfl rfl (Nat.le_of_ble_eq_true rfl) rfl (sm_o hS2 rfl) rfl rfl rfl (cm_dc_3 hC1 (by omega) hdch (by omega)) (fun r h5 q6 => ?_)
    obtain ⟨rfl, hC2⟩ := q6
    obtain ⟨M5, eM5⟩ : ∃ y, y = mdc 3 (J2, Q, Z) := ⟨_, rfl⟩
    rw [← eM5] at hC2 hsi
    obtain ⟨I5, Q5, Z5⟩ := M5
    obtain ⟨X5, ow5, sb5, hS5, -⟩ := id hC2
    change sm tbc h5 I5 X5 at hS5
    refine go_s (pc' := 20) rfl rfl rfl rfl ?_
    refine go_callV (pc' := 21) rfl rfl rfl (Nat.le_of_ble_eq_true rfl) rfl (sm_o hS5 rfl) rfl rfl rfl (cm_run hC2 (by omega) hsi (by omega)) (fun r h7 q8 => ?_)
    obtain ⟨rfl, hC3⟩ := q8
    have hms : mtk 3 (I, Q, Z) = mset 10 (I5, Q5, Z5) := by
      unfold mtk
      rw [if_pos hu, eM5, hJ]
    exact K _ (by rw [hms]; exact CA_le hC3 (by omega))
theorem tr_0 {w : Nat → Bool} {d : Nat} {h : am_Hp} {m0 : mg} {B : Nat} {I : sm_I} {Q : mQ} {Z : mZ} (hC : CA w 32 m0 B h (I, Q, Z)) {P : Option Value → am_Hp → Prop} (hd : 8 ≤ d) (hB2 : B < 2 ^ 24) (hT : RSH 0 (I, Q, Z)) (K : ∀ h', CA w 32 m0 (B + 920) h' (mrst 0 (I, Q, Z)) → am_Go (am_prog w) d am_c30 (some .int) 46 [some (.ref 1), some (.int 0)] [] h' P) : am_Go (am_prog w) d am_c30 (some .int) 33 [some (.ref 1), some (.int 0)] [] h P := by
  obtain ⟨X, ow, sb, hS, hD, hB, hQ⟩ := hC
  change sm tbc h I X at hS
  change CD w 32 m0 h I Q Z X ow sb at hD
  change co h I ≤ B at hB
  change ∀ l, l < 16 → (Q l).length ≤ h.length at hQ
  have hW := hD.1.1
  have hWn : ∀ a, List.length h ≤ a → w a = true := fun a ha => (hD.1.2.1 a ha).1
  have hF1 := fr_refl tbc h
  have hln : 62 ≤ List.length h := sm_len hS
  refine go_s (pc' := 34) rfl rfl rfl rfl ?_
  refine go_sget (pc' := 35) (v := .ref 61) hS rfl rfl rfl (by decide) rfl rfl ?_
  refine go_s (pc' := 36) rfl rfl rfl rfl ?_
  refine go_sald (pc' := 37) (q := 0) (v := .ref 32) hS rfl rfl rfl rfl (by decide) rfl rfl ?_
  refine go_sget (pc' := 38) (v := .int (I 11 0)) hS rfl rfl rfl (by decide) rfl rfl ?_
  refine go_s (pc' := 39) (st' := [.int (-1), .int (I 11 0)]) rfl rfl rfl rfl ?_
  refine go_icmpP (t' := 46) (pc' := 40) rfl rfl rfl (fun (c2 : ¬ (I 11 0) = (-1)) => ?_) (fun (c2' : ¬ ¬ (I 11 0) = (-1)) => ?_)
  · skip
    have hC3 : CA w 32 m0 B h (I, Q, Z) := ⟨X, ow, sb, hS, hD, hB, hQ⟩
    have hms : mrst 0 (I, Q, Z) = (I, Q, Z) := if_pos (Or.inl c2)
    exact K _ (by rw [hms]; exact CA_le hC3 (by omega))
  · skip
    have c2 : (I 11 0) = (-1) := Decidable.not_not.mp c2'
    refine go_s (pc' := 41) rfl rfl rfl rfl ?_
    refine go_s (pc' := 42) rfl rfl rfl rfl ?_
    refine go_sget (pc' := 43) (v := .ref 61) hS rfl rfl rfl (by decide) rfl rfl ?_
    refine go_s (pc' := 44) rfl rfl rfl rfl ?_
    refine go_sald (pc' := 45) (q := 0) (v := .ref 32) hS rfl rfl rfl rfl (by decide) rfl rfl ?_
    have hC4 : CA w 32 m0 B h (I, Q, Z) := ⟨X, ow, sb, hS, hD, hB, hQ⟩
    obtain ⟨h0, h1⟩ := hT c2
    refine go_callV (pc' := 46) rfl rfl rfl (Nat.le_of_ble_eq_true rfl) rfl (sm_o hS rfl) rfl rfl rfl (cm_rst_0 hC4 (by omega) c2 (h0 rfl) (by omega)) (fun r h5 q6 => ?_)
    obtain ⟨rfl, hC9⟩ := q6
    exact K _ hC9
theorem tr_1 {w : Nat → Bool} {d : Nat} {h : am_Hp} {m0 : mg} {B : Nat} {I : sm_I} {Q : mQ} {Z : mZ} (hC : CA w 32 m0 B h (I, Q, Z)) {P : Option Value → am_Hp → Prop} (hd : 8 ≤ d) (hB2 : B < 2 ^ 24) (hT : RSH 1 (I, Q, Z)) (K : ∀ h', CA w 32 m0 (B + 20) h' (mrst 1 (I, Q, Z)) → am_Go (am_prog w) d am_c30 (some .int) 46 [some (.ref 1), some (.int 1)] [] h' P) : am_Go (am_prog w) d am_c30 (some .int) 33 [some (.ref 1), some (.int 1)] [] h P := by
  obtain ⟨X, ow, sb, hS, hD, hB, hQ⟩ := hC
  change sm tbc h I X at hS
  change CD w 32 m0 h I Q Z X ow sb at hD
  change co h I ≤ B at hB
  change ∀ l, l < 16 → (Q l).length ≤ h.length at hQ
  have hW := hD.1.1
  have hWn : ∀ a, List.length h ≤ a → w a = true := fun a ha => (hD.1.2.1 a ha).1
  have hF1 := fr_refl tbc h
  have hln : 62 ≤ List.length h := sm_len hS
  refine go_s (pc' := 34) rfl rfl rfl rfl ?_
  refine go_sget (pc' := 35) (v := .ref 61) hS rfl rfl rfl (by decide) rfl rfl ?_
  refine go_s (pc' := 36) rfl rfl rfl rfl ?_
  refine go_sald (pc' := 37) (q := 1) (v := .ref 59) hS rfl rfl rfl rfl (by decide) rfl rfl ?_
  refine go_sget (pc' := 38) (v := .int (I 11 1)) hS rfl rfl rfl (by decide) rfl rfl ?_
  refine go_s (pc' := 39) (st' := [.int (-1), .int (I 11 1)]) rfl rfl rfl rfl ?_
  refine go_icmpP (t' := 46) (pc' := 40) rfl rfl rfl (fun (c2 : ¬ (I 11 1) = (-1)) => ?_) (fun (c2' : ¬ ¬ (I 11 1) = (-1)) => ?_)
  · skip
    have hC3 : CA w 32 m0 B h (I, Q, Z) := ⟨X, ow, sb, hS, hD, hB, hQ⟩
    have hms : mrst 1 (I, Q, Z) = (I, Q, Z) := if_pos (Or.inl c2)
    exact K _ (by rw [hms]; exact CA_le hC3 (by omega))
  · skip
    have c2 : (I 11 1) = (-1) := Decidable.not_not.mp c2'
    refine go_s (pc' := 41) rfl rfl rfl rfl ?_
    refine go_s (pc' := 42) rfl rfl rfl rfl ?_
    refine go_sget (pc' := 43) (v := .ref 61) hS rfl rfl rfl (by decide) rfl rfl ?_
    refine go_s (pc' := 44) rfl rfl rfl rfl ?_
    refine go_sald (pc' := 45) (q := 1) (v := .ref 59) hS rfl rfl rfl rfl (by decide) rfl rfl ?_
    have hC4 : CA w 32 m0 B h (I, Q, Z) := ⟨X, ow, sb, hS, hD, hB, hQ⟩
    obtain ⟨h0, h1⟩ := hT c2
    refine go_callV (pc' := 46) rfl rfl rfl (Nat.le_of_ble_eq_true rfl) rfl (sm_o hS rfl) rfl rfl rfl (cm_rst_1 hC4 (by omega) c2 (h1 (by decide)) (by omega)) (fun r h5 q6 => ?_)
    obtain ⟨rfl, hC9⟩ := q6
    exact K _ hC9
theorem tr_2 {w : Nat → Bool} {d : Nat} {h : am_Hp} {m0 : mg} {B : Nat} {I : sm_I} {Q : mQ} {Z : mZ} (hC : CA w 32 m0 B h (I, Q, Z)) {P : Option Value → am_Hp → Prop} (hd : 8 ≤ d) (hB2 : B < 2 ^ 24) (hT : RSH 2 (I, Q, Z)) (K : ∀ h', CA w 32 m0 (B + 20) h' (mrst 2 (I, Q, Z)) → am_Go (am_prog w) d am_c30 (some .int) 46 [some (.ref 1), some (.int 2)] [] h' P) : am_Go (am_prog w) d am_c30 (some .int) 33 [some (.ref 1), some (.int 2)] [] h P := by
  obtain ⟨X, ow, sb, hS, hD, hB, hQ⟩ := hC
  change sm tbc h I X at hS
  change CD w 32 m0 h I Q Z X ow sb at hD
  change co h I ≤ B at hB
  change ∀ l, l < 16 → (Q l).length ≤ h.length at hQ
  have hW := hD.1.1
  have hWn : ∀ a, List.length h ≤ a → w a = true := fun a ha => (hD.1.2.1 a ha).1
  have hF1 := fr_refl tbc h
  have hln : 62 ≤ List.length h := sm_len hS
  refine go_s (pc' := 34) rfl rfl rfl rfl ?_
  refine go_sget (pc' := 35) (v := .ref 61) hS rfl rfl rfl (by decide) rfl rfl ?_
  refine go_s (pc' := 36) rfl rfl rfl rfl ?_
  refine go_sald (pc' := 37) (q := 2) (v := .ref 60) hS rfl rfl rfl rfl (by decide) rfl rfl ?_
  refine go_sget (pc' := 38) (v := .int (I 11 2)) hS rfl rfl rfl (by decide) rfl rfl ?_
  refine go_s (pc' := 39) (st' := [.int (-1), .int (I 11 2)]) rfl rfl rfl rfl ?_
  refine go_icmpP (t' := 46) (pc' := 40) rfl rfl rfl (fun (c2 : ¬ (I 11 2) = (-1)) => ?_) (fun (c2' : ¬ ¬ (I 11 2) = (-1)) => ?_)
  · skip
    have hC3 : CA w 32 m0 B h (I, Q, Z) := ⟨X, ow, sb, hS, hD, hB, hQ⟩
    have hms : mrst 2 (I, Q, Z) = (I, Q, Z) := if_pos (Or.inl c2)
    exact K _ (by rw [hms]; exact CA_le hC3 (by omega))
  · skip
    have c2 : (I 11 2) = (-1) := Decidable.not_not.mp c2'
    refine go_s (pc' := 41) rfl rfl rfl rfl ?_
    refine go_s (pc' := 42) rfl rfl rfl rfl ?_
    refine go_sget (pc' := 43) (v := .ref 61) hS rfl rfl rfl (by decide) rfl rfl ?_
    refine go_s (pc' := 44) rfl rfl rfl rfl ?_
    refine go_sald (pc' := 45) (q := 2) (v := .ref 60) hS rfl rfl rfl rfl (by decide) rfl rfl ?_
    have hC4 : CA w 32 m0 B h (I, Q, Z) := ⟨X, ow, sb, hS, hD, hB, hQ⟩
    obtain ⟨h0, h1⟩ := hT c2
    refine go_callV (pc' := 46) rfl rfl rfl (Nat.le_of_ble_eq_true rfl) rfl (sm_o hS rfl) rfl rfl rfl (cm_rst_2 hC4 (by omega) c2 (h1 (by decide)) (by omega)) (fun r h5 q6 => ?_)
    obtain ⟨rfl, hC9⟩ := q6
    exact K _ hC9
theorem ca_tck {w : Nat → Bool} {d : Nat} {h : am_Hp} {m0 : mg} {B : Nat} {I : sm_I} {Q : mQ} {Z : mZ} (hC : CA w 32 m0 B h (I, Q, Z)) (hB2 : B < 2 ^ 23) (hT0 : TKH 0 DCH0 ((uI I 8 0 (I 8 0 + 1), Q, Z) : mM)) (hT1 : TKH 1 DCH1 (mtk 0 ((uI I 8 0 (I 8 0 + 1), Q, Z) : mM))) (hT2 : TKH 2 DCH2 (mtk 1 (mtk 0 ((uI I 8 0 (I 8 0 + 1), Q, Z) : mM)))) (hT3 : TKH 3 DCH3 (mtk 2 (mtk 1 (mtk 0 ((uI I 8 0 (I 8 0 + 1), Q, Z) : mM))))) (hlb : ∀ l, l < 16 → (mtk4 (I, Q, Z)).1 25 l = -1 ∨ (mtk4 (I, Q, Z)).1 25 l = 0 ∨ (mtk4 (I, Q, Z)).1 25 l = 1) (hR0 : RSH 0 (mwk (mtk4 (I, Q, Z)))) (hR1 : RSH 1 (mrst 0 (mwk (mtk4 (I, Q, Z))))) (hR2 : RSH 2 (mrst 1 (mrst 0 (mwk (mtk4 (I, Q, Z)))))) (hd : 9 ≤ d) : am_Ev (am_prog w) d 30 [.ref 1] h (fun r h' => r = some (.int ((mtck (I, Q, Z)).1 8 0)) ∧ CA w 32 m0 (B + 3300) h' (mtck (I, Q, Z))) := by
  obtain ⟨X, ow, sb, hS, hD, hB, hQ⟩ := hC
  change sm tbc h I X at hS
  change CD w 32 m0 h I Q Z X ow sb at hD
  change co h I ≤ B at hB
  change ∀ l, l < 16 → (Q l).length ≤ h.length at hQ
  have hW := hD.1.1
  have hWn : ∀ a, List.length h ≤ a → w a = true := fun a ha => (hD.1.2.1 a ha).1
  have hF1 := fr_refl tbc h
  have hln : 62 ≤ List.length h := sm_len hS
  obtain ⟨d, rfl⟩ : ∃ e, d = e + 1 := ⟨d - 1, by omega⟩
  refine ev_go rfl (Nat.le_of_ble_eq_true rfl) rfl ?_
  refine go_s (pc' := 1) rfl rfl rfl rfl ?_
  refine go_s (pc' := 2) rfl rfl rfl rfl ?_
  refine go_sget (pc' := 3) (v := .int (I 8 0)) hS rfl rfl rfl (by decide) rfl rfl ?_
  refine go_s (pc' := 4) (st' := [.int 1, .int (I 8 0), .ref 1]) rfl rfl rfl rfl ?_
  refine go_s (pc' := 5) rfl rfl rfl rfl ?_
  refine go_sput (pc' := 6) hS rfl rfl rfl (by decide) tbc_inj (Nat.le_of_ble_eq_true rfl) rfl (hW _ rfl) rfl (fun h2 hS3 hE4 => ?_)
  have hF5 := fr_trans hF1 (fr_e hE4)
  refine go_s (pc' := 7) (st' := [.int 0]) rfl rfl rfl rfl ?_
  refine go_s (pc' := 8) (lo' := [some (.ref 1), some (.int 0)]) rfl rfl rfl rfl ?_
  refine go_s (pc' := 9) rfl rfl rfl rfl ?_
  refine go_s (pc' := 10) (st' := [.int 4, .int 0]) rfl rfl rfl rfl ?_
  refine go_icmpP (t' := 23) (pc' := 11) rfl rfl rfl (fun (c : 4 ≤ (0 : Int32)) => absurd c (by decide)) (fun _ => ?_)
  have hD6 : CD w 32 m0 h2 ((uI I 8 0 (I 8 0 + 1), Q, Z) : mM).1 ((uI I 8 0 (I 8 0 + 1), Q, Z) : mM).2.1 ((uI I 8 0 (I 8 0 + 1), Q, Z) : mM).2.2 (X) ow sb := CD_I (J := uI I 8 0 (I 8 0 + 1)) (CD_fr hD hF5) ⟨rfl, rfl, rfl, rfl, rfl, rfl, rfl, rfl, rfl, rfl, rfl, rfl, rfl, rfl, rfl⟩
  have hS9 : sm tbc h2 ((uI I 8 0 (I 8 0 + 1), Q, Z) : mM).1 (X) := hS3
  have hB7 : co h2 ((uI I 8 0 (I 8 0 + 1), Q, Z) : mM).1 ≤ B := by
    have z1 := co_fr (I := I) (J := ((uI I 8 0 (I 8 0 + 1), Q, Z) : mM).1) hF5 rfl
    have z2 := hB
    omega
  have hQ8 : ∀ l, l < 16 → (((uI I 8 0 (I 8 0 + 1), Q, Z) : mM).2.1 l).length ≤ List.length h2 := fun l hl => Nat.le_trans (hQ l hl) hF5.1
  obtain ⟨X10, eX10⟩ : ∃ y, y = (X) := ⟨_, rfl⟩
  rw [← eX10] at hD6 hS9
  obtain ⟨M11, eM11⟩ : ∃ y : mM, y = ((uI I 8 0 (I 8 0 + 1), Q, Z) : mM) := ⟨_, rfl⟩
  rw [← eM11] at hD6 hS9 hB7 hQ8
  obtain ⟨I11, Q11, Z11⟩ := M11
  change CD w 32 m0 h2 I11 Q11 Z11 X10 ow sb at hD6
  change sm tbc h2 I11 X10 at hS9
  change co h2 I11 ≤ B at hB7
  change ∀ l, l < 16 → (Q11 l).length ≤ List.length h2 at hQ8
  have hW := hD6.1.1
  have hWn : ∀ a, List.length h2 ≤ a → w a = true := fun a ha => (hD6.1.2.1 a ha).1
  have hF12 := fr_refl tbc h2
  have hln : 62 ≤ List.length h2 := sm_len hS9
  have hC13 : CA w 32 m0 B h2 (I11, Q11, Z11) := ⟨X10, ow, sb, hS9, hD6, hB7, hQ8⟩
  refine tk_0 (I := I11) (Q := Q11) (Z := Z11) hC13 (by omega) (by omega) (by rw [eM11]; exact hT0) (fun h15 hC14 => ?_)
  change CA w 32 m0 (B + 580) h15 (mtk 0 (I11, Q11, Z11)) at hC14
  obtain ⟨M16, eM16⟩ : ∃ y : mM, y = (mtk 0 (I11, Q11, Z11)) := ⟨_, rfl⟩
  rw [← eM16] at hC14
  obtain ⟨I16, Q16, Z16⟩ := M16
  obtain ⟨X17, ow17, sb17, hS17, hD17, hB17, hQ17⟩ := hC14
  have hW := hD17.1.1
  have hWn : ∀ a, List.length h15 ≤ a → w a = true := fun a ha => (hD17.1.2.1 a ha).1
  have hF18 := fr_refl tbc h15
  have hln : 62 ≤ List.length h15 := sm_len hS17
  change CD w 32 m0 h15 I16 Q16 Z16 X17 ow17 sb17 at hD17
  change sm tbc h15 I16 X17 at hS17
  change co h15 I16 ≤ (B + 580) at hB17
  change ∀ l, l < 16 → (Q16 l).length ≤ List.length h15 at hQ17
  have hW := hD17.1.1
  have hWn : ∀ a, List.length h15 ≤ a → w a = true := fun a ha => (hD17.1.2.1 a ha).1
  have hF19 := fr_refl tbc h15
  have hln : 62 ≤ List.length h15 := sm_len hS17
  refine go_s (pc' := 22) (lo' := [some (.ref 1), some (.int 1)]) rfl rfl rfl rfl ?_
  refine go_s (pc' := 8) rfl rfl rfl rfl ?_
  refine go_s (pc' := 9) rfl rfl rfl rfl ?_
  refine go_s (pc' := 10) (st' := [.int 4, .int 1]) rfl rfl rfl rfl ?_
  refine go_icmpP (t' := 23) (pc' := 11) rfl rfl rfl (fun (c : 4 ≤ (1 : Int32)) => absurd c (by decide)) (fun _ => ?_)
  have hC20 : CA w 32 m0 (B + 580) h15 (I16, Q16, Z16) := ⟨X17, ow17, sb17, hS17, hD17, hB17, hQ17⟩
  refine tk_1 (I := I16) (Q := Q16) (Z := Z16) hC20 (by omega) (by omega) (by rw [eM16, eM11]; exact hT1) (fun h22 hC21 => ?_)
  change CA w 32 m0 ((B + 580) + 580) h22 (mtk 1 (I16, Q16, Z16)) at hC21
  obtain ⟨M23, eM23⟩ : ∃ y : mM, y = (mtk 1 (I16, Q16, Z16)) := ⟨_, rfl⟩
  rw [← eM23] at hC21
  obtain ⟨I23, Q23, Z23⟩ := M23
  obtain ⟨X24, ow24, sb24, hS24, hD24, hB24, hQ24⟩ := hC21
  have hW := hD24.1.1
  have hWn : ∀ a, List.length h22 ≤ a → w a = true := fun a ha => (hD24.1.2.1 a ha).1
  have hF25 := fr_refl tbc h22
  have hln : 62 ≤ List.length h22 := sm_len hS24
  change CD w 32 m0 h22 I23 Q23 Z23 X24 ow24 sb24 at hD24
  change sm tbc h22 I23 X24 at hS24
  change co h22 I23 ≤ ((B + 580) + 580) at hB24
  change ∀ l, l < 16 → (Q23 l).length ≤ List.length h22 at hQ24
  have hW := hD24.1.1
  have hWn : ∀ a, List.length h22 ≤ a → w a = true := fun a ha => (hD24.1.2.1 a ha).1
  have hF26 := fr_refl tbc h22
  have hln : 62 ≤ List.length h22 := sm_len hS24
  refine go_s (pc' := 22) (lo' := [some (.ref 1), some (.int 2)]) rfl rfl rfl rfl ?_
  refine go_s (pc' := 8) rfl rfl rfl rfl ?_
  refine go_s (pc' := 9) rfl rfl rfl rfl ?_
  refine go_s (pc' := 10) (st' := [.int 4, .int 2]) rfl rfl rfl rfl ?_
  refine go_icmpP (t' := 23) (pc' := 11) rfl rfl rfl (fun (c : 4 ≤ (2 : Int32)) => absurd c (by decide)) (fun _ => ?_)
  have hC27 : CA w 32 m0 ((B + 580) + 580) h22 (I23, Q23, Z23) := ⟨X24, ow24, sb24, hS24, hD24, hB24, hQ24⟩
  refine tk_2 (I := I23) (Q := Q23) (Z := Z23) hC27 (by omega) (by omega) (by rw [eM23, eM16, eM11]; exact hT2) (fun h29 hC28 => ?_)
  change CA w 32 m0 (((B + 580) + 580) + 580) h29 (mtk 2 (I23, Q23, Z23)) at hC28
  obtain ⟨M30, eM30⟩ : ∃ y : mM, y = (mtk 2 (I23, Q23, Z23)) := ⟨_, rfl⟩
  rw [← eM30] at hC28
  obtain ⟨I30, Q30, Z30⟩ := M30
  obtain ⟨X31, ow31, sb31, hS31, hD31, hB31, hQ31⟩ := hC28
  have hW := hD31.1.1
  have hWn : ∀ a, List.length h29 ≤ a → w a = true := fun a ha => (hD31.1.2.1 a ha).1
  have hF32 := fr_refl tbc h29
  have hln : 62 ≤ List.length h29 := sm_len hS31
  change CD w 32 m0 h29 I30 Q30 Z30 X31 ow31 sb31 at hD31
  change sm tbc h29 I30 X31 at hS31
  change co h29 I30 ≤ (((B + 580) + 580) + 580) at hB31
  change ∀ l, l < 16 → (Q30 l).length ≤ List.length h29 at hQ31
  have hW := hD31.1.1
  have hWn : ∀ a, List.length h29 ≤ a → w a = true := fun a ha => (hD31.1.2.1 a ha).1
  have hF33 := fr_refl tbc h29
  have hln : 62 ≤ List.length h29 := sm_len hS31
  refine go_s (pc' := 22) (lo' := [some (.ref 1), some (.int 3)]) rfl rfl rfl rfl ?_
  refine go_s (pc' := 8) rfl rfl rfl rfl ?_
  refine go_s (pc' := 9) rfl rfl rfl rfl ?_
  refine go_s (pc' := 10) (st' := [.int 4, .int 3]) rfl rfl rfl rfl ?_
  refine go_icmpP (t' := 23) (pc' := 11) rfl rfl rfl (fun (c : 4 ≤ (3 : Int32)) => absurd c (by decide)) (fun _ => ?_)
  have hC34 : CA w 32 m0 (((B + 580) + 580) + 580) h29 (I30, Q30, Z30) := ⟨X31, ow31, sb31, hS31, hD31, hB31, hQ31⟩
  refine tk_3 (I := I30) (Q := Q30) (Z := Z30) hC34 (by omega) (by omega) (by rw [eM30, eM23, eM16, eM11]; exact hT3) (fun h36 hC35 => ?_)
  change CA w 32 m0 ((((B + 580) + 580) + 580) + 580) h36 (mtk 3 (I30, Q30, Z30)) at hC35
  obtain ⟨M37, eM37⟩ : ∃ y : mM, y = (mtk 3 (I30, Q30, Z30)) := ⟨_, rfl⟩
  rw [← eM37] at hC35
  obtain ⟨I37, Q37, Z37⟩ := M37
  obtain ⟨X38, ow38, sb38, hS38, hD38, hB38, hQ38⟩ := hC35
  have hW := hD38.1.1
  have hWn : ∀ a, List.length h36 ≤ a → w a = true := fun a ha => (hD38.1.2.1 a ha).1
  have hF39 := fr_refl tbc h36
  have hln : 62 ≤ List.length h36 := sm_len hS38
  change CD w 32 m0 h36 I37 Q37 Z37 X38 ow38 sb38 at hD38
  change sm tbc h36 I37 X38 at hS38
  change co h36 I37 ≤ ((((B + 580) + 580) + 580) + 580) at hB38
  change ∀ l, l < 16 → (Q37 l).length ≤ List.length h36 at hQ38
  have hW := hD38.1.1
  have hWn : ∀ a, List.length h36 ≤ a → w a = true := fun a ha => (hD38.1.2.1 a ha).1
  have hF40 := fr_refl tbc h36
  have hln : 62 ≤ List.length h36 := sm_len hS38
  refine go_s (pc' := 22) (lo' := [some (.ref 1), some (.int 4)]) rfl rfl rfl rfl ?_
  refine go_s (pc' := 8) rfl rfl rfl rfl ?_
  refine go_s (pc' := 9) rfl rfl rfl rfl ?_
  refine go_s (pc' := 10) (st' := [.int 4, .int 4]) rfl rfl rfl rfl ?_
  refine go_icmpP (t' := 23) (pc' := 11) rfl rfl rfl (fun _ => ?_) (fun (c : ¬ (4 ≤ (4 : Int32))) => absurd (by decide) c)
  refine go_s (pc' := 24) rfl rfl rfl rfl ?_
  refine go_sget (pc' := 25) (v := .ref 2) hS38 rfl rfl rfl (by decide) rfl rfl ?_
  have hlb9 : ∀ l, l < 16 → I37 25 l = -1 ∨ I37 25 l = 0 ∨ I37 25 l = 1 := by
    have z := hlb
    unfold mtk4 at z
    rw [← eM11, ← eM16, ← eM23, ← eM30, ← eM37] at z
    exact z
  have hC41 : CA w 32 m0 ((((B + 580) + 580) + 580) + 580) h36 (I37, Q37, Z37) := ⟨X38, ow38, sb38, hS38, hD38, hB38, hQ38⟩
  refine go_callV (pc' := 26) rfl rfl rfl (Nat.le_of_ble_eq_true rfl) rfl (sm_o hS38 rfl) rfl rfl rfl (cm_wk hC41 (by omega) hlb9 (by omega)) (fun r h42 q43 => ?_)
  obtain ⟨rfl, hC44⟩ := q43
  change CA w 32 m0 ((((B + 580) + 580) + 580) + 580) h42 (mwk (I37, Q37, Z37)) at hC44
  obtain ⟨M45, eM45⟩ : ∃ y : mM, y = (mwk (I37, Q37, Z37)) := ⟨_, rfl⟩
  rw [← eM45] at hC44
  obtain ⟨I45, Q45, Z45⟩ := M45
  obtain ⟨X46, ow46, sb46, hS46, hD46, hB46, hQ46⟩ := hC44
  have hW := hD46.1.1
  have hWn : ∀ a, List.length h42 ≤ a → w a = true := fun a ha => (hD46.1.2.1 a ha).1
  have hF47 := fr_refl tbc h42
  have hln : 62 ≤ List.length h42 := sm_len hS46
  change CD w 32 m0 h42 I45 Q45 Z45 X46 ow46 sb46 at hD46
  change sm tbc h42 I45 X46 at hS46
  change co h42 I45 ≤ ((((B + 580) + 580) + 580) + 580) at hB46
  change ∀ l, l < 16 → (Q45 l).length ≤ List.length h42 at hQ46
  have hW := hD46.1.1
  have hWn : ∀ a, List.length h42 ≤ a → w a = true := fun a ha => (hD46.1.2.1 a ha).1
  have hF48 := fr_refl tbc h42
  have hln : 62 ≤ List.length h42 := sm_len hS46
  refine go_s (pc' := 27) (st' := [.int 0]) rfl rfl rfl rfl ?_
  refine go_s (pc' := 28) (lo' := [some (.ref 1), some (.int 0)]) rfl rfl rfl rfl ?_
  refine go_s (pc' := 29) rfl rfl rfl rfl ?_
  refine go_s (pc' := 30) rfl rfl rfl rfl ?_
  refine go_sget (pc' := 31) (v := .ref 61) hS46 rfl rfl rfl (by decide) rfl rfl ?_
  refine go_salen (pc' := 32) (n := 3) hS46 rfl rfl rfl rfl ?_
  refine go_icmpP (t' := 48) (pc' := 33) rfl rfl rfl (fun (c : 3 ≤ (0 : Int32)) => absurd c (by decide)) (fun _ => ?_)
  have hC49 : CA w 32 m0 ((((B + 580) + 580) + 580) + 580) h42 (I45, Q45, Z45) := ⟨X46, ow46, sb46, hS46, hD46, hB46, hQ46⟩
  refine tr_0 (I := I45) (Q := Q45) (Z := Z45) hC49 (by omega) (by omega) (by have z := hR0; unfold mtk4 at z; rw [← eM11, ← eM16, ← eM23, ← eM30, ← eM37, ← eM45] at z; exact z) (fun h51 hC50 => ?_)
  change CA w 32 m0 (((((B + 580) + 580) + 580) + 580) + 920) h51 (mrst 0 (I45, Q45, Z45)) at hC50
  obtain ⟨M52, eM52⟩ : ∃ y : mM, y = (mrst 0 (I45, Q45, Z45)) := ⟨_, rfl⟩
  rw [← eM52] at hC50
  obtain ⟨I52, Q52, Z52⟩ := M52
  obtain ⟨X53, ow53, sb53, hS53, hD53, hB53, hQ53⟩ := hC50
  have hW := hD53.1.1
  have hWn : ∀ a, List.length h51 ≤ a → w a = true := fun a ha => (hD53.1.2.1 a ha).1
  have hF54 := fr_refl tbc h51
  have hln : 62 ≤ List.length h51 := sm_len hS53
  change CD w 32 m0 h51 I52 Q52 Z52 X53 ow53 sb53 at hD53
  change sm tbc h51 I52 X53 at hS53
  change co h51 I52 ≤ (((((B + 580) + 580) + 580) + 580) + 920) at hB53
  change ∀ l, l < 16 → (Q52 l).length ≤ List.length h51 at hQ53
  have hW := hD53.1.1
  have hWn : ∀ a, List.length h51 ≤ a → w a = true := fun a ha => (hD53.1.2.1 a ha).1
  have hF55 := fr_refl tbc h51
  have hln : 62 ≤ List.length h51 := sm_len hS53
  refine go_s (pc' := 47) (lo' := [some (.ref 1), some (.int 1)]) rfl rfl rfl rfl ?_
  refine go_s (pc' := 28) rfl rfl rfl rfl ?_
  refine go_s (pc' := 29) rfl rfl rfl rfl ?_
  refine go_s (pc' := 30) rfl rfl rfl rfl ?_
  refine go_sget (pc' := 31) (v := .ref 61) hS53 rfl rfl rfl (by decide) rfl rfl ?_
  refine go_salen (pc' := 32) (n := 3) hS53 rfl rfl rfl rfl ?_
  refine go_icmpP (t' := 48) (pc' := 33) rfl rfl rfl (fun (c : 3 ≤ (1 : Int32)) => absurd c (by decide)) (fun _ => ?_)
  have hC56 : CA w 32 m0 (((((B + 580) + 580) + 580) + 580) + 920) h51 (I52, Q52, Z52) := ⟨X53, ow53, sb53, hS53, hD53, hB53, hQ53⟩
  refine tr_1 (I := I52) (Q := Q52) (Z := Z52) hC56 (by omega) (by omega) (by have z := hR1; unfold mtk4 at z; rw [← eM11, ← eM16, ← eM23, ← eM30, ← eM37, ← eM45, ← eM52] at z; exact z) (fun h58 hC57 => ?_)
  change CA w 32 m0 ((((((B + 580) + 580) + 580) + 580) + 920) + 20) h58 (mrst 1 (I52, Q52, Z52)) at hC57
  obtain ⟨M59, eM59⟩ : ∃ y : mM, y = (mrst 1 (I52, Q52, Z52)) := ⟨_, rfl⟩
  rw [← eM59] at hC57
  obtain ⟨I59, Q59, Z59⟩ := M59
  obtain ⟨X60, ow60, sb60, hS60, hD60, hB60, hQ60⟩ := hC57
  have hW := hD60.1.1
  have hWn : ∀ a, List.length h58 ≤ a → w a = true := fun a ha => (hD60.1.2.1 a ha).1
  have hF61 := fr_refl tbc h58
  have hln : 62 ≤ List.length h58 := sm_len hS60
  change CD w 32 m0 h58 I59 Q59 Z59 X60 ow60 sb60 at hD60
  change sm tbc h58 I59 X60 at hS60
  change co h58 I59 ≤ ((((((B + 580) + 580) + 580) + 580) + 920) + 20) at hB60
  change ∀ l, l < 16 → (Q59 l).length ≤ List.length h58 at hQ60
  have hW := hD60.1.1
  have hWn : ∀ a, List.length h58 ≤ a → w a = true := fun a ha => (hD60.1.2.1 a ha).1
  have hF62 := fr_refl tbc h58
  have hln : 62 ≤ List.length h58 := sm_len hS60
  refine go_s (pc' := 47) (lo' := [some (.ref 1), some (.int 2)]) rfl rfl rfl rfl ?_
  refine go_s (pc' := 28) rfl rfl rfl rfl ?_
  refine go_s (pc' := 29) rfl rfl rfl rfl ?_
  refine go_s (pc' := 30) rfl rfl rfl rfl ?_
  refine go_sget (pc' := 31) (v := .ref 61) hS60 rfl rfl rfl (by decide) rfl rfl ?_
  refine go_salen (pc' := 32) (n := 3) hS60 rfl rfl rfl rfl ?_
  refine go_icmpP (t' := 48) (pc' := 33) rfl rfl rfl (fun (c : 3 ≤ (2 : Int32)) => absurd c (by decide)) (fun _ => ?_)
  have hC63 : CA w 32 m0 ((((((B + 580) + 580) + 580) + 580) + 920) + 20) h58 (I59, Q59, Z59) := ⟨X60, ow60, sb60, hS60, hD60, hB60, hQ60⟩
  refine tr_2 (I := I59) (Q := Q59) (Z := Z59) hC63 (by omega) (by omega) (by have z := hR2; unfold mtk4 at z; rw [← eM11, ← eM16, ← eM23, ← eM30, ← eM37, ← eM45, ← eM52, ← eM59] at z; exact z) (fun h65 hC64 => ?_)
  change CA w 32 m0 (((((((B + 580) + 580) + 580) + 580) + 920) + 20) + 20) h65 (mrst 2 (I59, Q59, Z59)) at hC64
  obtain ⟨M66, eM66⟩ : ∃ y : mM, y = (mrst 2 (I59, Q59, Z59)) := ⟨_, rfl⟩
  rw [← eM66] at hC64
  obtain ⟨I66, Q66, Z66⟩ := M66
  obtain ⟨X67, ow67, sb67, hS67, hD67, hB67, hQ67⟩ := hC64
  have hW := hD67.1.1
  have hWn : ∀ a, List.length h65 ≤ a → w a = true := fun a ha => (hD67.1.2.1 a ha).1
  have hF68 := fr_refl tbc h65
  have hln : 62 ≤ List.length h65 := sm_len hS67
  change CD w 32 m0 h65 I66 Q66 Z66 X67 ow67 sb67 at hD67
  change sm tbc h65 I66 X67 at hS67
  change co h65 I66 ≤ (((((((B + 580) + 580) + 580) + 580) + 920) + 20) + 20) at hB67
  change ∀ l, l < 16 → (Q66 l).length ≤ List.length h65 at hQ67
  have hW := hD67.1.1
  have hWn : ∀ a, List.length h65 ≤ a → w a = true := fun a ha => (hD67.1.2.1 a ha).1
  have hF69 := fr_refl tbc h65
  have hln : 62 ≤ List.length h65 := sm_len hS67
  refine go_s (pc' := 47) (lo' := [some (.ref 1), some (.int 3)]) rfl rfl rfl rfl ?_
  refine go_s (pc' := 28) rfl rfl rfl rfl ?_
  refine go_s (pc' := 29) rfl rfl rfl rfl ?_
  refine go_s (pc' := 30) rfl rfl rfl rfl ?_
  refine go_sget (pc' := 31) (v := .ref 61) hS67 rfl rfl rfl (by decide) rfl rfl ?_
  refine go_salen (pc' := 32) (n := 3) hS67 rfl rfl rfl rfl ?_
  refine go_icmpP (t' := 48) (pc' := 33) rfl rfl rfl (fun _ => ?_) (fun (c : ¬ (3 ≤ (3 : Int32))) => absurd (by decide) c)
  refine go_s (pc' := 49) rfl rfl rfl rfl ?_
  refine go_sget (pc' := 50) (v := .int (I66 8 0)) hS67 rfl rfl rfl (by decide) rfl rfl ?_
  refine go_ret rfl rfl ?_
  have hms : mtck (I, Q, Z) = (I66, Q66, Z66) := by
    unfold mtck mtk4
    rw [← eM11, ← eM16, ← eM23, ← eM30, ← eM37, ← eM45, ← eM52, ← eM59, ← eM66]
  have hC70 : CA w 32 m0 (((((((B + 580) + 580) + 580) + 580) + 920) + 20) + 20) h65 (I66, Q66, Z66) := ⟨X67, ow67, sb67, hS67, hD67, hB67, hQ67⟩
  rw [hms]
  exact ⟨rfl, CA_le hC70 (by omega)⟩
