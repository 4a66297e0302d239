theorem oh_ne0 {I : sm_I} {p : Int32} (h : p = 2 ∨ p = 3) : ¬ ohI I 0 = p := by
  unfold ohI
  rw [if_pos rfl]
  rcases h with rfl | rfl <;> split <;> decide
theorem oh_ne1 {I : sm_I} {k : Nat} {p : Int32} (hk : ¬ k = 0) (h : p = 0 ∨ p = 1) : ¬ ohI I k = p := by
  unfold ohI
  rw [if_neg hk]
  rcases h with rfl | rfl <;> split <;> decide
theorem pk_ne0 {I : sm_I} {p : Int32} (k : prk I 0) (h : p = 2 ∨ p = 3) : ¬ I 11 0 = p := by
  unfold prk at k
  rw [if_pos rfl, if_pos rfl] at k
  rcases h with rfl | rfl <;> rcases k with k | k | k <;> rw [k] <;> decide
theorem pk_ne1 {I : sm_I} {k : Nat} {p : Int32} (hk : ¬ k = 0) (kk : prk I k) (h : p = 0 ∨ p = 1) : ¬ I 11 k = p := by
  unfold prk at kk
  rw [if_neg hk, if_neg hk] at kk
  rcases h with rfl | rfl <;> rcases kk with kk | kk | kk <;> rw [kk] <;> decide
theorem dA_0_0 {w : Nat → Bool} {d : Nat} {h : am_Hp} {m0 : mg} {B : Nat} {I : sm_I} {Q : mQ} {Z : mZ} (hC : CA w 32 m0 B h (I, Q, Z)) {P : Option Value → am_Hp → Prop} (hd : 6 ≤ d) (hB2 : B < 2 ^ 26) (hR : RPH 0 0 (I, Q, Z)) (K : ∀ h', CA w 32 m0 (B + 40) h' (mdA 0 0 (I, Q, Z)) → am_Go (am_prog w) d am_c32 none 26 [some (.ref 1), some (.int 0), some (.int 0), none] [] h' P) : am_Go (am_prog w) d am_c32 none 13 [some (.ref 1), some (.int 0), some (.int 0), none] [] h P := by
  obtain ⟨X, ow, sb, hS, hD, hB, hQ⟩ := hC
  change sm tbc h I X at hS
  change CD w 32 m0 h I Q Z X ow sb at hD
  change co h I ≤ B at hB
  change ∀ l, l < 16 → (Q l).length ≤ h.length at hQ
  have hW := hD.1.1
  have hWn : ∀ a, List.length h ≤ a → w a = true := fun a ha => (hD.1.2.1 a ha).1
  have hF1 := fr_refl tbc h
  have hln : 62 ≤ List.length h := sm_len hS
  refine go_s (pc' := 14) rfl rfl rfl rfl ?_
  refine go_sget (pc' := 15) (v := .ref 61) hS rfl rfl rfl (by decide) rfl rfl ?_
  refine go_s (pc' := 16) rfl rfl rfl rfl ?_
  refine go_sald (pc' := 17) (q := 0) (v := .ref 32) hS rfl rfl rfl rfl (by decide) rfl rfl ?_
  refine go_sget (pc' := 18) (v := .int (I 11 0)) hS rfl rfl rfl (by decide) rfl rfl ?_
  refine go_s (pc' := 19) rfl rfl rfl rfl ?_
  refine go_icmpP (t' := 26) (pc' := 20) rfl rfl rfl (fun (c2 : ¬ (I 11 0) = 0) => ?_) (fun (c2' : ¬ ¬ (I 11 0) = 0) => ?_)
  · skip
    have hC3 : CA w 32 m0 B h (I, Q, Z) := ⟨X, ow, sb, hS, hD, hB, hQ⟩
    have hms : mdA 0 0 (I, Q, Z) = (I, Q, Z) := if_neg c2
    exact K _ (by rw [hms]; exact CA_le hC3 (by omega))
  · skip
    have c2 : (I 11 0) = 0 := Decidable.not_not.mp c2'
    refine go_s (pc' := 21) rfl rfl rfl rfl ?_
    refine go_s (pc' := 22) rfl rfl rfl rfl ?_
    refine go_sget (pc' := 23) (v := .ref 61) hS rfl rfl rfl (by decide) rfl rfl ?_
    refine go_s (pc' := 24) rfl rfl rfl rfl ?_
    refine go_sald (pc' := 25) (q := 0) (v := .ref 32) hS rfl rfl rfl rfl (by decide) rfl rfl ?_
    have hC4 : CA w 32 m0 B h (I, Q, Z) := ⟨X, ow, sb, hS, hD, hB, hQ⟩
    refine go_callV (pc' := 26) rfl rfl rfl (Nat.le_of_ble_eq_true rfl) rfl (sm_o hS rfl) rfl rfl rfl (cm_rpl_0_0 hC4 (by omega) hR c2 (by omega)) (fun r h5 q6 => ?_)
    obtain ⟨rfl, hC9⟩ := q6
    have hms : mdA 0 0 (I, Q, Z) = mrpl 0 (I, Q, Z) := if_pos c2
    exact K _ (by rw [hms]; exact hC9)
theorem dB_0_0 {w : Nat → Bool} {d : Nat} {h : am_Hp} {m0 : mg} {B : Nat} {I : sm_I} {Q : mQ} {Z : mZ} (hC : CA w 32 m0 B h (I, Q, Z)) {P : Option Value → am_Hp → Prop} (hd : 6 ≤ d) (hB2 : B < 2 ^ 26) (hT : STH 0 (mdrp 0 (I, Q, Z))) (K : ∀ h', CA w 32 m0 (B + 20) h' (mdB 0 0 (I, Q, Z)) → am_Go (am_prog w) d am_c32 none 55 [some (.ref 1), some (.int 0), some (.int 0), some (.ref 32)] [] h' P) : am_Go (am_prog w) d am_c32 none 35 [some (.ref 1), some (.int 0), some (.int 0), none] [] h P := by
  obtain ⟨X, ow, sb, hS, hD, hB, hQ⟩ := hC
  change sm tbc h I X at hS
  change CD w 32 m0 h I Q Z X ow sb at hD
  change co h I ≤ B at hB
  change ∀ l, l < 16 → (Q l).length ≤ h.length at hQ
  have hW := hD.1.1
  have hWn : ∀ a, List.length h ≤ a → w a = true := fun a ha => (hD.1.2.1 a ha).1
  have hF1 := fr_refl tbc h
  have hln : 62 ≤ List.length h := sm_len hS
  have h207 := hD.2.2.2.1.2.2 0 (by decide)
  by_cases b12 : I 12 0 = -1
  · skip
    rw [if_pos b12] at h207
    refine go_s (pc' := 36) rfl rfl rfl rfl ?_
    refine go_sget (pc' := 37) (v := .ref 61) hS rfl rfl rfl (by decide) rfl rfl ?_
    refine go_s (pc' := 38) rfl rfl rfl rfl ?_
    refine go_sald (pc' := 39) (q := 0) (v := .ref 32) hS rfl rfl rfl rfl (by decide) rfl rfl ?_
    refine go_s (pc' := 40) (lo' := [some (.ref 1), some (.int 0), some (.int 0), some (.ref 32)]) rfl rfl rfl rfl ?_
    refine go_s (pc' := 41) rfl rfl rfl rfl ?_
    refine go_sget (pc' := 42) (v := .int 0) hS rfl rfl rfl (by decide) h207 rfl ?_
    refine go_ifP (t' := 46) (pc' := 43) rfl rfl rfl (fun (c : ¬ (0 : Int32) = 0) => absurd c (by decide)) (fun _ => ?_)
    refine go_s (pc' := 44) rfl rfl rfl rfl ?_
    refine go_sget (pc' := 45) (v := .int (I 13 0)) hS rfl rfl rfl (by decide) rfl rfl ?_
    refine go_ifP (t' := 55) (pc' := 46) rfl rfl rfl (fun (c2 : (I 13 0) = 0) => ?_) (fun (c2 : ¬ (I 13 0) = 0) => ?_)
    · skip
      have hC3 : CA w 32 m0 B h (I, Q, Z) := ⟨X, ow, sb, hS, hD, hB, hQ⟩
      have hms : mdB 0 0 (I, Q, Z) = (I, Q, Z) := if_neg (fun z => z.1.elim (fun y => y b12) (fun y => y c2))
      exact K _ (by rw [hms]; exact CA_le hC3 (by omega))
    · skip
      refine go_s (pc' := 47) rfl rfl rfl rfl ?_
      refine go_callV (pc' := 48) rfl rfl rfl (Nat.le_of_ble_eq_true rfl) rfl (sm_o hS rfl) rfl rfl rfl (ct_oh_0 hS (by omega)) (fun r h4 q5 => ?_)
      obtain ⟨rfl, rfl⟩ := q5
      refine go_s (pc' := 49) rfl rfl rfl rfl ?_
      refine go_icmpP (t' := 55) (pc' := 50) rfl rfl rfl (fun (c6 : ¬ (ohI I 0) = 0) => ?_) (fun (c6' : ¬ ¬ (ohI I 0) = 0) => ?_)
      · skip
        have hC7 : CA w 32 m0 B h4 (I, Q, Z) := ⟨X, ow, sb, hS, hD, hB, hQ⟩
        have hms : mdB 0 0 (I, Q, Z) = (I, Q, Z) := if_neg (fun z => c6 z.2)
        exact K _ (by rw [hms]; exact CA_le hC7 (by omega))
      · skip
        have c6 : (ohI I 0) = 0 := Decidable.not_not.mp c6'
        refine go_s (pc' := 51) rfl rfl rfl rfl ?_
        refine go_callV (pc' := 52) rfl rfl rfl (Nat.le_of_ble_eq_true rfl) rfl (sm_o hS rfl) rfl rfl rfl (ct_drop_0 hS hW (by omega)) (fun r h8 q9 => ?_)
        obtain ⟨rfl, hS10, hE11⟩ := q9
        have hF12 := fr_trans hF1 (fr_e hE11)
        refine go_s (pc' := 53) rfl rfl rfl rfl ?_
        refine go_s (pc' := 54) rfl rfl rfl rfl ?_
        have hD9 : CD w 32 m0 h8 (mdrp 0 (I, Q, Z)).1 Q Z (uX X 207 0 (.int 0)) ow sb := CD_bk (k := 0) (v := -1) (f := 0) (CD_I (J := uI I 13 0 0) (CD_fr hD hF12) ⟨rfl, rfl, rfl, rfl, rfl, rfl, rfl, rfl, rfl, rfl, rfl, rfl, rfl, rfl, rfl⟩) rfl
        have hC8 : CA w 32 m0 B h8 (uI (uI I 13 0 0) 12 0 (-1), Q, Z) := ⟨(uX X 207 0 (.int 0)), ow, sb, sm_12 hS10 rfl, hD9, by have := co_fr (I := I) (J := (mdrp 0 (I, Q, Z)).1) hF12 rfl; show co _ (mdrp 0 (I, Q, Z)).1 ≤ B; omega, fun l hl => Nat.le_trans (hQ l hl) hF12.1⟩
        refine go_callV (pc' := 55) rfl rfl rfl (Nat.le_of_ble_eq_true rfl) rfl (sm_o hS10 rfl) rfl rfl rfl (cm_stw_0 hC8 (by omega) (fun z => hT.1 rfl z) (by omega)) (fun r h13 q14 => ?_)
        obtain ⟨rfl, hC9⟩ := q14
        have hms : mdB 0 0 (I, Q, Z) = mstw 0 (mdrp 0 (I, Q, Z)) := if_pos ⟨Or.inr c2, c6⟩
        exact K _ (by rw [hms]; exact hC9)
  · skip
    rw [if_neg b12] at h207
    refine go_s (pc' := 36) rfl rfl rfl rfl ?_
    refine go_sget (pc' := 37) (v := .ref 61) hS rfl rfl rfl (by decide) rfl rfl ?_
    refine go_s (pc' := 38) rfl rfl rfl rfl ?_
    refine go_sald (pc' := 39) (q := 0) (v := .ref 32) hS rfl rfl rfl rfl (by decide) rfl rfl ?_
    refine go_s (pc' := 40) (lo' := [some (.ref 1), some (.int 0), some (.int 0), some (.ref 32)]) rfl rfl rfl rfl ?_
    refine go_s (pc' := 41) rfl rfl rfl rfl ?_
    refine go_sget (pc' := 42) (v := .int 1) hS rfl rfl rfl (by decide) h207 rfl ?_
    refine go_ifP (t' := 46) (pc' := 43) rfl rfl rfl (fun _ => ?_) (fun (c : ¬ (¬ (1 : Int32) = 0)) => absurd (by decide) c)
    refine go_s (pc' := 47) rfl rfl rfl rfl ?_
    refine go_callV (pc' := 48) rfl rfl rfl (Nat.le_of_ble_eq_true rfl) rfl (sm_o hS rfl) rfl rfl rfl (ct_oh_0 hS (by omega)) (fun r h15 q16 => ?_)
    obtain ⟨rfl, rfl⟩ := q16
    refine go_s (pc' := 49) rfl rfl rfl rfl ?_
    refine go_icmpP (t' := 55) (pc' := 50) rfl rfl rfl (fun (c17 : ¬ (ohI I 0) = 0) => ?_) (fun (c17' : ¬ ¬ (ohI I 0) = 0) => ?_)
    · skip
      have hC18 : CA w 32 m0 B h15 (I, Q, Z) := ⟨X, ow, sb, hS, hD, hB, hQ⟩
      have hms : mdB 0 0 (I, Q, Z) = (I, Q, Z) := if_neg (fun z => c17 z.2)
      exact K _ (by rw [hms]; exact CA_le hC18 (by omega))
    · skip
      have c17 : (ohI I 0) = 0 := Decidable.not_not.mp c17'
      refine go_s (pc' := 51) rfl rfl rfl rfl ?_
      refine go_callV (pc' := 52) rfl rfl rfl (Nat.le_of_ble_eq_true rfl) rfl (sm_o hS rfl) rfl rfl rfl (ct_drop_0 hS hW (by omega)) (fun r h19 q20 => ?_)
      obtain ⟨rfl, hS21, hE22⟩ := q20
      have hF23 := fr_trans hF1 (fr_e hE22)
      refine go_s (pc' := 53) rfl rfl rfl rfl ?_
      refine go_s (pc' := 54) rfl rfl rfl rfl ?_
      have hD9 : CD w 32 m0 h19 (mdrp 0 (I, Q, Z)).1 Q Z (uX X 207 0 (.int 0)) ow sb := CD_bk (k := 0) (v := -1) (f := 0) (CD_I (J := uI I 13 0 0) (CD_fr hD hF23) ⟨rfl, rfl, rfl, rfl, rfl, rfl, rfl, rfl, rfl, rfl, rfl, rfl, rfl, rfl, rfl⟩) rfl
      have hC8 : CA w 32 m0 B h19 (uI (uI I 13 0 0) 12 0 (-1), Q, Z) := ⟨(uX X 207 0 (.int 0)), ow, sb, sm_12 hS21 rfl, hD9, by have := co_fr (I := I) (J := (mdrp 0 (I, Q, Z)).1) hF23 rfl; show co _ (mdrp 0 (I, Q, Z)).1 ≤ B; omega, fun l hl => Nat.le_trans (hQ l hl) hF23.1⟩
      refine go_callV (pc' := 55) rfl rfl rfl (Nat.le_of_ble_eq_true rfl) rfl (sm_o hS21 rfl) rfl rfl rfl (cm_stw_0 hC8 (by omega) (fun z => hT.1 rfl z) (by omega)) (fun r h24 q25 => ?_)
      obtain ⟨rfl, hC9⟩ := q25
      have hms : mdB 0 0 (I, Q, Z) = mstw 0 (mdrp 0 (I, Q, Z)) := if_pos ⟨Or.inl b12, c17⟩
      exact K _ (by rw [hms]; exact hC9)
theorem dA_1_0 {w : Nat → Bool} {d : Nat} {h : am_Hp} {m0 : mg} {B : Nat} {I : sm_I} {Q : mQ} {Z : mZ} (hC : CA w 32 m0 B h (I, Q, Z)) {P : Option Value → am_Hp → Prop} (hd : 6 ≤ d) (hB2 : B < 2 ^ 26) (hR : RPH 1 0 (I, Q, Z)) (K : ∀ h', CA w 32 m0 (B + 40) h' (mdA 1 0 (I, Q, Z)) → am_Go (am_prog w) d am_c32 none 26 [some (.ref 1), some (.int 0), some (.int 1), none] [] h' P) : am_Go (am_prog w) d am_c32 none 13 [some (.ref 1), some (.int 0), some (.int 1), none] [] h P := by
  obtain ⟨X, ow, sb, hS, hD, hB, hQ⟩ := hC
  change sm tbc h I X at hS
  change CD w 32 m0 h I Q Z X ow sb at hD
  change co h I ≤ B at hB
  change ∀ l, l < 16 → (Q l).length ≤ h.length at hQ
  have hW := hD.1.1
  have hWn : ∀ a, List.length h ≤ a → w a = true := fun a ha => (hD.1.2.1 a ha).1
  have hF1 := fr_refl tbc h
  have hln : 62 ≤ List.length h := sm_len hS
  refine go_s (pc' := 14) rfl rfl rfl rfl ?_
  refine go_sget (pc' := 15) (v := .ref 61) hS rfl rfl rfl (by decide) rfl rfl ?_
  refine go_s (pc' := 16) rfl rfl rfl rfl ?_
  refine go_sald (pc' := 17) (q := 1) (v := .ref 59) hS rfl rfl rfl rfl (by decide) rfl rfl ?_
  refine go_sget (pc' := 18) (v := .int (I 11 1)) hS rfl rfl rfl (by decide) rfl rfl ?_
  refine go_s (pc' := 19) rfl rfl rfl rfl ?_
  refine go_icmpP (t' := 26) (pc' := 20) rfl rfl rfl (fun _ => ?_) (fun (c : ¬ (¬ (I 11 1) = 0)) => absurd (pk_ne1 (by decide) (hD.2.2.2.2.2.2 1 (by decide)) (by decide)) c)
  have hC2 : CA w 32 m0 B h (I, Q, Z) := ⟨X, ow, sb, hS, hD, hB, hQ⟩
  have hms : mdA 1 0 (I, Q, Z) = (I, Q, Z) := if_neg (pk_ne1 (by decide) (hD.2.2.2.2.2.2 1 (by decide)) (by decide))
  exact K _ (by rw [hms]; exact CA_le hC2 (by omega))
theorem dB_1_0 {w : Nat → Bool} {d : Nat} {h : am_Hp} {m0 : mg} {B : Nat} {I : sm_I} {Q : mQ} {Z : mZ} (hC : CA w 32 m0 B h (I, Q, Z)) {P : Option Value → am_Hp → Prop} (hd : 6 ≤ d) (hB2 : B < 2 ^ 26) (hT : STH 1 (mdrp 1 (I, Q, Z))) (K : ∀ h', CA w 32 m0 (B + 20) h' (mdB 1 0 (I, Q, Z)) → am_Go (am_prog w) d am_c32 none 55 [some (.ref 1), some (.int 0), some (.int 1), some (.ref 59)] [] h' P) : am_Go (am_prog w) d am_c32 none 35 [some (.ref 1), some (.int 0), some (.int 1), some (.ref 32)] [] h P := by
  obtain ⟨X, ow, sb, hS, hD, hB, hQ⟩ := hC
  change sm tbc h I X at hS
  change CD w 32 m0 h I Q Z X ow sb at hD
  change co h I ≤ B at hB
  change ∀ l, l < 16 → (Q l).length ≤ h.length at hQ
  have hW := hD.1.1
  have hWn : ∀ a, List.length h ≤ a → w a = true := fun a ha => (hD.1.2.1 a ha).1
  have hF1 := fr_refl tbc h
  have hln : 62 ≤ List.length h := sm_len hS
  have h207 := hD.2.2.2.1.2.2 1 (by decide)
  by_cases b12 : I 12 1 = -1
  · skip
    rw [if_pos b12] at h207
    refine go_s (pc' := 36) rfl rfl rfl rfl ?_
    refine go_sget (pc' := 37) (v := .ref 61) hS rfl rfl rfl (by decide) rfl rfl ?_
    refine go_s (pc' := 38) rfl rfl rfl rfl ?_
    refine go_sald (pc' := 39) (q := 1) (v := .ref 59) hS rfl rfl rfl rfl (by decide) rfl rfl ?_
    refine go_s (pc' := 40) (lo' := [some (.ref 1), some (.int 0), some (.int 1), some (.ref 59)]) rfl rfl rfl rfl ?_
    refine go_s (pc' := 41) rfl rfl rfl rfl ?_
    refine go_sget (pc' := 42) (v := .int 0) hS rfl rfl rfl (by decide) h207 rfl ?_
    refine go_ifP (t' := 46) (pc' := 43) rfl rfl rfl (fun (c : ¬ (0 : Int32) = 0) => absurd c (by decide)) (fun _ => ?_)
    refine go_s (pc' := 44) rfl rfl rfl rfl ?_
    refine go_sget (pc' := 45) (v := .int (I 13 1)) hS rfl rfl rfl (by decide) rfl rfl ?_
    refine go_ifP (t' := 55) (pc' := 46) rfl rfl rfl (fun (c2 : (I 13 1) = 0) => ?_) (fun (c2 : ¬ (I 13 1) = 0) => ?_)
    · skip
      have hC3 : CA w 32 m0 B h (I, Q, Z) := ⟨X, ow, sb, hS, hD, hB, hQ⟩
      have hms : mdB 1 0 (I, Q, Z) = (I, Q, Z) := if_neg (fun z => z.1.elim (fun y => y b12) (fun y => y c2))
      exact K _ (by rw [hms]; exact CA_le hC3 (by omega))
    · skip
      refine go_s (pc' := 47) rfl rfl rfl rfl ?_
      refine go_callV (pc' := 48) rfl rfl rfl (Nat.le_of_ble_eq_true rfl) rfl (sm_o hS rfl) rfl rfl rfl (ct_oh_1 hS (by omega)) (fun r h4 q5 => ?_)
      obtain ⟨rfl, rfl⟩ := q5
      refine go_s (pc' := 49) rfl rfl rfl rfl ?_
      refine go_icmpP (t' := 55) (pc' := 50) rfl rfl rfl (fun _ => ?_) (fun (c : ¬ (¬ (ohI I 1) = 0)) => absurd (oh_ne1 (by decide) (by decide)) c)
      have hC6 : CA w 32 m0 B h4 (I, Q, Z) := ⟨X, ow, sb, hS, hD, hB, hQ⟩
      have hms : mdB 1 0 (I, Q, Z) = (I, Q, Z) := if_neg (fun z => (oh_ne1 (by decide) (by decide)) z.2)
      exact K _ (by rw [hms]; exact CA_le hC6 (by omega))
  · skip
    rw [if_neg b12] at h207
    refine go_s (pc' := 36) rfl rfl rfl rfl ?_
    refine go_sget (pc' := 37) (v := .ref 61) hS rfl rfl rfl (by decide) rfl rfl ?_
    refine go_s (pc' := 38) rfl rfl rfl rfl ?_
    refine go_sald (pc' := 39) (q := 1) (v := .ref 59) hS rfl rfl rfl rfl (by decide) rfl rfl ?_
    refine go_s (pc' := 40) (lo' := [some (.ref 1), some (.int 0), some (.int 1), some (.ref 59)]) rfl rfl rfl rfl ?_
    refine go_s (pc' := 41) rfl rfl rfl rfl ?_
    refine go_sget (pc' := 42) (v := .int 1) hS rfl rfl rfl (by decide) h207 rfl ?_
    refine go_ifP (t' := 46) (pc' := 43) rfl rfl rfl (fun _ => ?_) (fun (c : ¬ (¬ (1 : Int32) = 0)) => absurd (by decide) c)
    refine go_s (pc' := 47) rfl rfl rfl rfl ?_
    refine go_callV (pc' := 48) rfl rfl rfl (Nat.le_of_ble_eq_true rfl) rfl (sm_o hS rfl) rfl rfl rfl (ct_oh_1 hS (by omega)) (fun r h7 q8 => ?_)
    obtain ⟨rfl, rfl⟩ := q8
    refine go_s (pc' := 49) rfl rfl rfl rfl ?_
    refine go_icmpP (t' := 55) (pc' := 50) rfl rfl rfl (fun _ => ?_) (fun (c : ¬ (¬ (ohI I 1) = 0)) => absurd (oh_ne1 (by decide) (by decide)) c)
    have hC9 : CA w 32 m0 B h7 (I, Q, Z) := ⟨X, ow, sb, hS, hD, hB, hQ⟩
    have hms : mdB 1 0 (I, Q, Z) = (I, Q, Z) := if_neg (fun z => (oh_ne1 (by decide) (by decide)) z.2)
    exact K _ (by rw [hms]; exact CA_le hC9 (by omega))
theorem dA_2_0 {w : Nat → Bool} {d : Nat} {h : am_Hp} {m0 : mg} {B : Nat} {I : sm_I} {Q : mQ} {Z : mZ} (hC : CA w 32 m0 B h (I, Q, Z)) {P : Option Value → am_Hp → Prop} (hd : 6 ≤ d) (hB2 : B < 2 ^ 26) (hR : RPH 2 0 (I, Q, Z)) (K : ∀ h', CA w 32 m0 (B + 40) h' (mdA 2 0 (I, Q, Z)) → am_Go (am_prog w) d am_c32 none 26 [some (.ref 1), some (.int 0), some (.int 2), none] [] h' P) : am_Go (am_prog w) d am_c32 none 13 [some (.ref 1), some (.int 0), some (.int 2), none] [] h P := by
  obtain ⟨X, ow, sb, hS, hD, hB, hQ⟩ := hC
  change sm tbc h I X at hS
  change CD w 32 m0 h I Q Z X ow sb at hD
  change co h I ≤ B at hB
  change ∀ l, l < 16 → (Q l).length ≤ h.length at hQ
  have hW := hD.1.1
  have hWn : ∀ a, List.length h ≤ a → w a = true := fun a ha => (hD.1.2.1 a ha).1
  have hF1 := fr_refl tbc h
  have hln : 62 ≤ List.length h := sm_len hS
  refine go_s (pc' := 14) rfl rfl rfl rfl ?_
  refine go_sget (pc' := 15) (v := .ref 61) hS rfl rfl rfl (by decide) rfl rfl ?_
  refine go_s (pc' := 16) rfl rfl rfl rfl ?_
  refine go_sald (pc' := 17) (q := 2) (v := .ref 60) hS rfl rfl rfl rfl (by decide) rfl rfl ?_
  refine go_sget (pc' := 18) (v := .int (I 11 2)) hS rfl rfl rfl (by decide) rfl rfl ?_
  refine go_s (pc' := 19) rfl rfl rfl rfl ?_
  refine go_icmpP (t' := 26) (pc' := 20) rfl rfl rfl (fun _ => ?_) (fun (c : ¬ (¬ (I 11 2) = 0)) => absurd (pk_ne1 (by decide) (hD.2.2.2.2.2.2 2 (by decide)) (by decide)) c)
  have hC2 : CA w 32 m0 B h (I, Q, Z) := ⟨X, ow, sb, hS, hD, hB, hQ⟩
  have hms : mdA 2 0 (I, Q, Z) = (I, Q, Z) := if_neg (pk_ne1 (by decide) (hD.2.2.2.2.2.2 2 (by decide)) (by decide))
  exact K _ (by rw [hms]; exact CA_le hC2 (by omega))
theorem dB_2_0 {w : Nat → Bool} {d : Nat} {h : am_Hp} {m0 : mg} {B : Nat} {I : sm_I} {Q : mQ} {Z : mZ} (hC : CA w 32 m0 B h (I, Q, Z)) {P : Option Value → am_Hp → Prop} (hd : 6 ≤ d) (hB2 : B < 2 ^ 26) (hT : STH 2 (mdrp 2 (I, Q, Z))) (K : ∀ h', CA w 32 m0 (B + 20) h' (mdB 2 0 (I, Q, Z)) → am_Go (am_prog w) d am_c32 none 55 [some (.ref 1), some (.int 0), some (.int 2), some (.ref 60)] [] h' P) : am_Go (am_prog w) d am_c32 none 35 [some (.ref 1), some (.int 0), some (.int 2), some (.ref 59)] [] h P := by
  obtain ⟨X, ow, sb, hS, hD, hB, hQ⟩ := hC
  change sm tbc h I X at hS
  change CD w 32 m0 h I Q Z X ow sb at hD
  change co h I ≤ B at hB
  change ∀ l, l < 16 → (Q l).length ≤ h.length at hQ
  have hW := hD.1.1
  have hWn : ∀ a, List.length h ≤ a → w a = true := fun a ha => (hD.1.2.1 a ha).1
  have hF1 := fr_refl tbc h
  have hln : 62 ≤ List.length h := sm_len hS
  have h207 := hD.2.2.2.1.2.2 2 (by decide)
  by_cases b12 : I 12 2 = -1
  · skip
    rw [if_pos b12] at h207
    refine go_s (pc' := 36) rfl rfl rfl rfl ?_
    refine go_sget (pc' := 37) (v := .ref 61) hS rfl rfl rfl (by decide) rfl rfl ?_
    refine go_s (pc' := 38) rfl rfl rfl rfl ?_
    refine go_sald (pc' := 39) (q := 2) (v := .ref 60) hS rfl rfl rfl rfl (by decide) rfl rfl ?_
    refine go_s (pc' := 40) (lo' := [some (.ref 1), some (.int 0), some (.int 2), some (.ref 60)]) rfl rfl rfl rfl ?_
    refine go_s (pc' := 41) rfl rfl rfl rfl ?_
    refine go_sget (pc' := 42) (v := .int 0) hS rfl rfl rfl (by decide) h207 rfl ?_
    refine go_ifP (t' := 46) (pc' := 43) rfl rfl rfl (fun (c : ¬ (0 : Int32) = 0) => absurd c (by decide)) (fun _ => ?_)
    refine go_s (pc' := 44) rfl rfl rfl rfl ?_
    refine go_sget (pc' := 45) (v := .int (I 13 2)) hS rfl rfl rfl (by decide) rfl rfl ?_
    refine go_ifP (t' := 55) (pc' := 46) rfl rfl rfl (fun (c2 : (I 13 2) = 0) => ?_) (fun (c2 : ¬ (I 13 2) = 0) => ?_)
    · skip
      have hC3 : CA w 32 m0 B h (I, Q, Z) := ⟨X, ow, sb, hS, hD, hB, hQ⟩
      have hms : mdB 2 0 (I, Q, Z) = (I, Q, Z) := if_neg (fun z => z.1.elim (fun y => y b12) (fun y => y c2))
      exact K _ (by rw [hms]; exact CA_le hC3 (by omega))
    · skip
      refine go_s (pc' := 47) rfl rfl rfl rfl ?_
      refine go_callV (pc' := 48) rfl rfl rfl (Nat.le_of_ble_eq_true rfl) rfl (sm_o hS rfl) rfl rfl rfl (ct_oh_2 hS (by omega)) (fun r h4 q5 => ?_)
      obtain ⟨rfl, rfl⟩ := q5
      refine go_s (pc' := 49) rfl rfl rfl rfl ?_
      refine go_icmpP (t' := 55) (pc' := 50) rfl rfl rfl (fun _ => ?_) (fun (c : ¬ (¬ (ohI I 2) = 0)) => absurd (oh_ne1 (by decide) (by decide)) c)
      have hC6 : CA w 32 m0 B h4 (I, Q, Z) := ⟨X, ow, sb, hS, hD, hB, hQ⟩
      have hms : mdB 2 0 (I, Q, Z) = (I, Q, Z) := if_neg (fun z => (oh_ne1 (by decide) (by decide)) z.2)
      exact K _ (by rw [hms]; exact CA_le hC6 (by omega))
  · skip
    rw [if_neg b12] at h207
    refine go_s (pc' := 36) rfl rfl rfl rfl ?_
    refine go_sget (pc' := 37) (v := .ref 61) hS rfl rfl rfl (by decide) rfl rfl ?_
    refine go_s (pc' := 38) rfl rfl rfl rfl ?_
    refine go_sald (pc' := 39) (q := 2) (v := .ref 60) hS rfl rfl rfl rfl (by decide) rfl rfl ?_
    refine go_s (pc' := 40) (lo' := [some (.ref 1), some (.int 0), some (.int 2), some (.ref 60)]) rfl rfl rfl rfl ?_
    refine go_s (pc' := 41) rfl rfl rfl rfl ?_
    refine go_sget (pc' := 42) (v := .int 1) hS rfl rfl rfl (by decide) h207 rfl ?_
    refine go_ifP (t' := 46) (pc' := 43) rfl rfl rfl (fun _ => ?_) (fun (c : ¬ (¬ (1 : Int32) = 0)) => absurd (by decide) c)
    refine go_s (pc' := 47) rfl rfl rfl rfl ?_
    refine go_callV (pc' := 48) rfl rfl rfl (Nat.le_of_ble_eq_true rfl) rfl (sm_o hS rfl) rfl rfl rfl (ct_oh_2 hS (by omega)) (fun r h7 q8 => ?_)
    obtain ⟨rfl, rfl⟩ := q8
    refine go_s (pc' := 49) rfl rfl rfl rfl ?_
    refine go_icmpP (t' := 55) (pc' := 50) rfl rfl rfl (fun _ => ?_) (fun (c : ¬ (¬ (ohI I 2) = 0)) => absurd (oh_ne1 (by decide) (by decide)) c)
    have hC9 : CA w 32 m0 B h7 (I, Q, Z) := ⟨X, ow, sb, hS, hD, hB, hQ⟩
    have hms : mdB 2 0 (I, Q, Z) = (I, Q, Z) := if_neg (fun z => (oh_ne1 (by decide) (by decide)) z.2)
    exact K _ (by rw [hms]; exact CA_le hC9 (by omega))
def DCH0 (M : mM) : Prop := RPH 0 0 ((uI M.1 1 0 1, M.2) : mM) ∧ RPH 1 0 (mdA 0 0 ((uI M.1 1 0 1, M.2) : mM)) ∧ RPH 2 0 (mdA 1 0 (mdA 0 0 ((uI M.1 1 0 1, M.2) : mM))) ∧ STH 0 (mdrp 0 (mdA 2 0 (mdA 1 0 (mdA 0 0 ((uI M.1 1 0 1, M.2) : mM))))) ∧ STH 1 (mdrp 1 (mdB 0 0 (mdA 2 0 (mdA 1 0 (mdA 0 0 ((uI M.1 1 0 1, M.2) : mM)))))) ∧ STH 2 (mdrp 2 (mdB 1 0 (mdB 0 0 (mdA 2 0 (mdA 1 0 (mdA 0 0 ((uI M.1 1 0 1, M.2) : mM)))))))
theorem cm_dc_0 {w : Nat → Bool} {d : Nat} {h : am_Hp} {m0 : mg} {B : Nat} {I : sm_I} {Q : mQ} {Z : mZ} (hC : CA w 32 m0 B h (I, Q, Z)) (hB2 : B < 2 ^ 25) (hH : DCH0 (I, Q, Z)) (hd : 7 ≤ d) : am_Ev (am_prog w) d 32 [.ref 1, .int 0] h (fun r h' => r = none ∧ CA w 32 m0 (B + 180) h' (mdc 0 (I, Q, Z))) := by
  obtain ⟨hA0, hA1, hA2, hB0, hB1, hB2x⟩ := hH
  obtain ⟨X, ow, sb, hS, hD, hB, hQ⟩ := hC
  change sm tbc h I X at hS
  change CD w 32 m0 h I Q Z X ow sb at hD
  change co h I ≤ B at hB
  change ∀ l, l < 16 → (Q l).length ≤ h.length at hQ
  have hW := hD.1.1
  have hWn : ∀ a, List.length h ≤ a → w a = true := fun a ha => (hD.1.2.1 a ha).1
  have hF1 := fr_refl tbc h
  have hln : 62 ≤ List.length h := sm_len hS
  obtain ⟨d, rfl⟩ : ∃ e, d = e + 1 := ⟨d - 1, by omega⟩
  refine ev_go rfl (Nat.le_of_ble_eq_true rfl) rfl ?_
  refine go_s (pc' := 1) rfl rfl rfl rfl ?_
  refine go_sget (pc' := 2) (v := .ref 2) hS rfl rfl rfl (by decide) rfl rfl ?_
  refine go_sget (pc' := 3) (v := .ref 4) hS rfl rfl rfl (by decide) rfl rfl ?_
  refine go_s (pc' := 4) rfl rfl rfl rfl ?_
  refine go_s (pc' := 5) (st' := [.int 1, .int 0, .ref 4]) rfl rfl rfl rfl ?_
  refine go_szast (pc' := 6) (q := 0) hS rfl rfl tbc_inj (Nat.le_of_ble_eq_true rfl) rfl (by decide) (by decide) rfl (hW _ rfl) rfl (fun h2 hS3 hE4 => ?_)
  have hF5 := fr_trans hF1 (fr_e hE4)
  refine go_s (pc' := 7) (st' := [.int 0]) rfl rfl rfl rfl ?_
  refine go_s (pc' := 8) (lo' := [some (.ref 1), some (.int 0), some (.int 0), none]) rfl rfl rfl rfl ?_
  refine go_s (pc' := 9) rfl rfl rfl rfl ?_
  refine go_s (pc' := 10) rfl rfl rfl rfl ?_
  refine go_sget (pc' := 11) (v := .ref 61) hS3 rfl rfl rfl (by decide) rfl rfl ?_
  refine go_salen (pc' := 12) (n := 3) hS3 rfl rfl rfl rfl ?_
  refine go_icmpP (t' := 28) (pc' := 13) rfl rfl rfl (fun (c : 3 ≤ (0 : Int32)) => absurd c (by decide)) (fun _ => ?_)
  have hD6 : CD w 32 m0 h2 ((uI I 1 0 1, Q, Z) : mM).1 ((uI I 1 0 1, Q, Z) : mM).2.1 ((uI I 1 0 1, Q, Z) : mM).2.2 (X) ow sb := CD_I (J := uI I 1 0 1) (CD_fr hD hF5) ⟨rfl, rfl, rfl, rfl, rfl, rfl, rfl, rfl, rfl, rfl, rfl, rfl, rfl, rfl, rfl⟩
  have hS9 : sm tbc h2 ((uI I 1 0 1, Q, Z) : mM).1 (X) := hS3
  have hB7 : co h2 ((uI I 1 0 1, Q, Z) : mM).1 ≤ B := by
    have z1 := co_fr (I := I) (J := ((uI I 1 0 1, Q, Z) : mM).1) hF5 rfl
    have z2 := hB
    omega
  have hQ8 : ∀ l, l < 16 → (((uI I 1 0 1, Q, Z) : mM).2.1 l).length ≤ List.length h2 := fun l hl => Nat.le_trans (hQ l hl) hF5.1
  obtain ⟨X10, eX10⟩ : ∃ y, y = (X) := ⟨_, rfl⟩
  rw [← eX10] at hD6 hS9
  obtain ⟨M11, eM11⟩ : ∃ y : mM, y = ((uI I 1 0 1, Q, Z) : mM) := ⟨_, rfl⟩
  rw [← eM11] at hD6 hS9 hB7 hQ8
  obtain ⟨I11, Q11, Z11⟩ := M11
  change CD w 32 m0 h2 I11 Q11 Z11 X10 ow sb at hD6
  change sm tbc h2 I11 X10 at hS9
  change co h2 I11 ≤ B at hB7
  change ∀ l, l < 16 → (Q11 l).length ≤ List.length h2 at hQ8
  have hW := hD6.1.1
  have hWn : ∀ a, List.length h2 ≤ a → w a = true := fun a ha => (hD6.1.2.1 a ha).1
  have hF12 := fr_refl tbc h2
  have hln : 62 ≤ List.length h2 := sm_len hS9
  have hC13 : CA w 32 m0 B h2 (I11, Q11, Z11) := ⟨X10, ow, sb, hS9, hD6, hB7, hQ8⟩
  refine dA_0_0 (I := I11) (Q := Q11) (Z := Z11) hC13 (by omega) (by omega) (by rw [eM11]; exact hA0) (fun h15 hC14 => ?_)
  change CA w 32 m0 (B + 40) h15 (mdA 0 0 (I11, Q11, Z11)) at hC14
  obtain ⟨M16, eM16⟩ : ∃ y : mM, y = (mdA 0 0 (I11, Q11, Z11)) := ⟨_, rfl⟩
  rw [← eM16] at hC14
  obtain ⟨I16, Q16, Z16⟩ := M16
  obtain ⟨X17, ow17, sb17, hS17, hD17, hB17, hQ17⟩ := hC14
  have hW := hD17.1.1
  have hWn : ∀ a, List.length h15 ≤ a → w a = true := fun a ha => (hD17.1.2.1 a ha).1
  have hF18 := fr_refl tbc h15
  have hln : 62 ≤ List.length h15 := sm_len hS17
  change CD w 32 m0 h15 I16 Q16 Z16 X17 ow17 sb17 at hD17
  change sm tbc h15 I16 X17 at hS17
  change co h15 I16 ≤ (B + 40) at hB17
  change ∀ l, l < 16 → (Q16 l).length ≤ List.length h15 at hQ17
  have hW := hD17.1.1
  have hWn : ∀ a, List.length h15 ≤ a → w a = true := fun a ha => (hD17.1.2.1 a ha).1
  have hF19 := fr_refl tbc h15
  have hln : 62 ≤ List.length h15 := sm_len hS17
  refine go_s (pc' := 27) (lo' := [some (.ref 1), some (.int 0), some (.int 1), none]) rfl rfl rfl rfl ?_
  refine go_s (pc' := 8) rfl rfl rfl rfl ?_
  refine go_s (pc' := 9) rfl rfl rfl rfl ?_
  refine go_s (pc' := 10) rfl rfl rfl rfl ?_
  refine go_sget (pc' := 11) (v := .ref 61) hS17 rfl rfl rfl (by decide) rfl rfl ?_
  refine go_salen (pc' := 12) (n := 3) hS17 rfl rfl rfl rfl ?_
  refine go_icmpP (t' := 28) (pc' := 13) rfl rfl rfl (fun (c : 3 ≤ (1 : Int32)) => absurd c (by decide)) (fun _ => ?_)
  have hC20 : CA w 32 m0 (B + 40) h15 (I16, Q16, Z16) := ⟨X17, ow17, sb17, hS17, hD17, hB17, hQ17⟩
  refine dA_1_0 (I := I16) (Q := Q16) (Z := Z16) hC20 (by omega) (by omega) (by rw [eM16, eM11]; exact hA1) (fun h22 hC21 => ?_)
  change CA w 32 m0 ((B + 40) + 40) h22 (mdA 1 0 (I16, Q16, Z16)) at hC21
  obtain ⟨M23, eM23⟩ : ∃ y : mM, y = (mdA 1 0 (I16, Q16, Z16)) := ⟨_, rfl⟩
  rw [← eM23] at hC21
  obtain ⟨I23, Q23, Z23⟩ := M23
  obtain ⟨X24, ow24, sb24, hS24, hD24, hB24, hQ24⟩ := hC21
  have hW := hD24.1.1
  have hWn : ∀ a, List.length h22 ≤ a → w a = true := fun a ha => (hD24.1.2.1 a ha).1
  have hF25 := fr_refl tbc h22
  have hln : 62 ≤ List.length h22 := sm_len hS24
  change CD w 32 m0 h22 I23 Q23 Z23 X24 ow24 sb24 at hD24
  change sm tbc h22 I23 X24 at hS24
  change co h22 I23 ≤ ((B + 40) + 40) at hB24
  change ∀ l, l < 16 → (Q23 l).length ≤ List.length h22 at hQ24
  have hW := hD24.1.1
  have hWn : ∀ a, List.length h22 ≤ a → w a = true := fun a ha => (hD24.1.2.1 a ha).1
  have hF26 := fr_refl tbc h22
  have hln : 62 ≤ List.length h22 := sm_len hS24
  refine go_s (pc' := 27) (lo' := [some (.ref 1), some (.int 0), some (.int 2), none]) rfl rfl rfl rfl ?_
  refine go_s (pc' := 8) rfl rfl rfl rfl ?_
  refine go_s (pc' := 9) rfl rfl rfl rfl ?_
  refine go_s (pc' := 10) rfl rfl rfl rfl ?_
  refine go_sget (pc' := 11) (v := .ref 61) hS24 rfl rfl rfl (by decide) rfl rfl ?_
  refine go_salen (pc' := 12) (n := 3) hS24 rfl rfl rfl rfl ?_
  refine go_icmpP (t' := 28) (pc' := 13) rfl rfl rfl (fun (c : 3 ≤ (2 : Int32)) => absurd c (by decide)) (fun _ => ?_)
  have hC27 : CA w 32 m0 ((B + 40) + 40) h22 (I23, Q23, Z23) := ⟨X24, ow24, sb24, hS24, hD24, hB24, hQ24⟩
  refine dA_2_0 (I := I23) (Q := Q23) (Z := Z23) hC27 (by omega) (by omega) (by rw [eM23, eM16, eM11]; exact hA2) (fun h29 hC28 => ?_)
  change CA w 32 m0 (((B + 40) + 40) + 40) h29 (mdA 2 0 (I23, Q23, Z23)) at hC28
  obtain ⟨M30, eM30⟩ : ∃ y : mM, y = (mdA 2 0 (I23, Q23, Z23)) := ⟨_, rfl⟩
  rw [← eM30] at hC28
  obtain ⟨I30, Q30, Z30⟩ := M30
  obtain ⟨X31, ow31, sb31, hS31, hD31, hB31, hQ31⟩ := hC28
  have hW := hD31.1.1
  have hWn : ∀ a, List.length h29 ≤ a → w a = true := fun a ha => (hD31.1.2.1 a ha).1
  have hF32 := fr_refl tbc h29
  have hln : 62 ≤ List.length h29 := sm_len hS31
  change CD w 32 m0 h29 I30 Q30 Z30 X31 ow31 sb31 at hD31
  change sm tbc h29 I30 X31 at hS31
  change co h29 I30 ≤ (((B + 40) + 40) + 40) at hB31
  change ∀ l, l < 16 → (Q30 l).length ≤ List.length h29 at hQ31
  have hW := hD31.1.1
  have hWn : ∀ a, List.length h29 ≤ a → w a = true := fun a ha => (hD31.1.2.1 a ha).1
  have hF33 := fr_refl tbc h29
  have hln : 62 ≤ List.length h29 := sm_len hS31
  refine go_s (pc' := 27) (lo' := [some (.ref 1), some (.int 0), some (.int 3), none]) rfl rfl rfl rfl ?_
  refine go_s (pc' := 8) rfl rfl rfl rfl ?_
  refine go_s (pc' := 9) rfl rfl rfl rfl ?_
  refine go_s (pc' := 10) rfl rfl rfl rfl ?_
  refine go_sget (pc' := 11) (v := .ref 61) hS31 rfl rfl rfl (by decide) rfl rfl ?_
  refine go_salen (pc' := 12) (n := 3) hS31 rfl rfl rfl rfl ?_
  refine go_icmpP (t' := 28) (pc' := 13) rfl rfl rfl (fun _ => ?_) (fun (c : ¬ (3 ≤ (3 : Int32))) => absurd (by decide) c)
  refine go_s (pc' := 29) (st' := [.int 0]) rfl rfl rfl rfl ?_
  refine go_s (pc' := 30) (lo' := [some (.ref 1), some (.int 0), some (.int 0), none]) rfl rfl rfl rfl ?_
  refine go_s (pc' := 31) rfl rfl rfl rfl ?_
  refine go_s (pc' := 32) rfl rfl rfl rfl ?_
  refine go_sget (pc' := 33) (v := .ref 61) hS31 rfl rfl rfl (by decide) rfl rfl ?_
  refine go_salen (pc' := 34) (n := 3) hS31 rfl rfl rfl rfl ?_
  refine go_icmpP (t' := 57) (pc' := 35) rfl rfl rfl (fun (c : 3 ≤ (0 : Int32)) => absurd c (by decide)) (fun _ => ?_)
  have hC34 : CA w 32 m0 (((B + 40) + 40) + 40) h29 (I30, Q30, Z30) := ⟨X31, ow31, sb31, hS31, hD31, hB31, hQ31⟩
  refine dB_0_0 (I := I30) (Q := Q30) (Z := Z30) hC34 (by omega) (by omega) (by rw [eM30, eM23, eM16, eM11]; exact hB0) (fun h36 hC35 => ?_)
  change CA w 32 m0 ((((B + 40) + 40) + 40) + 20) h36 (mdB 0 0 (I30, Q30, Z30)) at hC35
  obtain ⟨M37, eM37⟩ : ∃ y : mM, y = (mdB 0 0 (I30, Q30, Z30)) := ⟨_, rfl⟩
  rw [← eM37] at hC35
  obtain ⟨I37, Q37, Z37⟩ := M37
  obtain ⟨X38, ow38, sb38, hS38, hD38, hB38, hQ38⟩ := hC35
  have hW := hD38.1.1
  have hWn : ∀ a, List.length h36 ≤ a → w a = true := fun a ha => (hD38.1.2.1 a ha).1
  have hF39 := fr_refl tbc h36
  have hln : 62 ≤ List.length h36 := sm_len hS38
  change CD w 32 m0 h36 I37 Q37 Z37 X38 ow38 sb38 at hD38
  change sm tbc h36 I37 X38 at hS38
  change co h36 I37 ≤ ((((B + 40) + 40) + 40) + 20) at hB38
  change ∀ l, l < 16 → (Q37 l).length ≤ List.length h36 at hQ38
  have hW := hD38.1.1
  have hWn : ∀ a, List.length h36 ≤ a → w a = true := fun a ha => (hD38.1.2.1 a ha).1
  have hF40 := fr_refl tbc h36
  have hln : 62 ≤ List.length h36 := sm_len hS38
  refine go_s (pc' := 56) (lo' := [some (.ref 1), some (.int 0), some (.int 1), some (.ref 32)]) rfl rfl rfl rfl ?_
  refine go_s (pc' := 30) rfl rfl rfl rfl ?_
  refine go_s (pc' := 31) rfl rfl rfl rfl ?_
  refine go_s (pc' := 32) rfl rfl rfl rfl ?_
  refine go_sget (pc' := 33) (v := .ref 61) hS38 rfl rfl rfl (by decide) rfl rfl ?_
  refine go_salen (pc' := 34) (n := 3) hS38 rfl rfl rfl rfl ?_
  refine go_icmpP (t' := 57) (pc' := 35) rfl rfl rfl (fun (c : 3 ≤ (1 : Int32)) => absurd c (by decide)) (fun _ => ?_)
  have hC41 : CA w 32 m0 ((((B + 40) + 40) + 40) + 20) h36 (I37, Q37, Z37) := ⟨X38, ow38, sb38, hS38, hD38, hB38, hQ38⟩
  refine dB_1_0 (I := I37) (Q := Q37) (Z := Z37) hC41 (by omega) (by omega) (by rw [eM37, eM30, eM23, eM16, eM11]; exact hB1) (fun h43 hC42 => ?_)
  change CA w 32 m0 (((((B + 40) + 40) + 40) + 20) + 20) h43 (mdB 1 0 (I37, Q37, Z37)) at hC42
  obtain ⟨M44, eM44⟩ : ∃ y : mM, y = (mdB 1 0 (I37, Q37, Z37)) := ⟨_, rfl⟩
  rw [← eM44] at hC42
  obtain ⟨I44, Q44, Z44⟩ := M44
  obtain ⟨X45, ow45, sb45, hS45, hD45, hB45, hQ45⟩ := hC42
  have hW := hD45.1.1
  have hWn : ∀ a, List.length h43 ≤ a → w a = true := fun a ha => (hD45.1.2.1 a ha).1
  have hF46 := fr_refl tbc h43
  have hln : 62 ≤ List.length h43 := sm_len hS45
  change CD w 32 m0 h43 I44 Q44 Z44 X45 ow45 sb45 at hD45
  change sm tbc h43 I44 X45 at hS45
  change co h43 I44 ≤ (((((B + 40) + 40) + 40) + 20) + 20) at hB45
  change ∀ l, l < 16 → (Q44 l).length ≤ List.length h43 at hQ45
  have hW := hD45.1.1
  have hWn : ∀ a, List.length h43 ≤ a → w a = true := fun a ha => (hD45.1.2.1 a ha).1
  have hF47 := fr_refl tbc h43
  have hln : 62 ≤ List.length h43 := sm_len hS45
  refine go_s (pc' := 56) (lo' := [some (.ref 1), some (.int 0), some (.int 2), some (.ref 59)]) rfl rfl rfl rfl ?_
  refine go_s (pc' := 30) rfl rfl rfl rfl ?_
  refine go_s (pc' := 31) rfl rfl rfl rfl ?_
  refine go_s (pc' := 32) rfl rfl rfl rfl ?_
  refine go_sget (pc' := 33) (v := .ref 61) hS45 rfl rfl rfl (by decide) rfl rfl ?_
  refine go_salen (pc' := 34) (n := 3) hS45 rfl rfl rfl rfl ?_
  refine go_icmpP (t' := 57) (pc' := 35) rfl rfl rfl (fun (c : 3 ≤ (2 : Int32)) => absurd c (by decide)) (fun _ => ?_)
  have hC48 : CA w 32 m0 (((((B + 40) + 40) + 40) + 20) + 20) h43 (I44, Q44, Z44) := ⟨X45, ow45, sb45, hS45, hD45, hB45, hQ45⟩
  refine dB_2_0 (I := I44) (Q := Q44) (Z := Z44) hC48 (by omega) (by omega) (by rw [eM44, eM37, eM30, eM23, eM16, eM11]; exact hB2x) (fun h50 hC49 => ?_)
  change CA w 32 m0 ((((((B + 40) + 40) + 40) + 20) + 20) + 20) h50 (mdB 2 0 (I44, Q44, Z44)) at hC49
  obtain ⟨M51, eM51⟩ : ∃ y : mM, y = (mdB 2 0 (I44, Q44, Z44)) := ⟨_, rfl⟩
  rw [← eM51] at hC49
  obtain ⟨I51, Q51, Z51⟩ := M51
  obtain ⟨X52, ow52, sb52, hS52, hD52, hB52, hQ52⟩ := hC49
  have hW := hD52.1.1
  have hWn : ∀ a, List.length h50 ≤ a → w a = true := fun a ha => (hD52.1.2.1 a ha).1
  have hF53 := fr_refl tbc h50
  have hln : 62 ≤ List.length h50 := sm_len hS52
  change CD w 32 m0 h50 I51 Q51 Z51 X52 ow52 sb52 at hD52
  change sm tbc h50 I51 X52 at hS52
  change co h50 I51 ≤ ((((((B + 40) + 40) + 40) + 20) + 20) + 20) at hB52
  change ∀ l, l < 16 → (Q51 l).length ≤ List.length h50 at hQ52
  have hW := hD52.1.1
  have hWn : ∀ a, List.length h50 ≤ a → w a = true := fun a ha => (hD52.1.2.1 a ha).1
  have hF54 := fr_refl tbc h50
  have hln : 62 ≤ List.length h50 := sm_len hS52
  refine go_s (pc' := 56) (lo' := [some (.ref 1), some (.int 0), some (.int 3), some (.ref 60)]) rfl rfl rfl rfl ?_
  refine go_s (pc' := 30) rfl rfl rfl rfl ?_
  refine go_s (pc' := 31) rfl rfl rfl rfl ?_
  refine go_s (pc' := 32) rfl rfl rfl rfl ?_
  refine go_sget (pc' := 33) (v := .ref 61) hS52 rfl rfl rfl (by decide) rfl rfl ?_
  refine go_salen (pc' := 34) (n := 3) hS52 rfl rfl rfl rfl ?_
  refine go_icmpP (t' := 57) (pc' := 35) rfl rfl rfl (fun _ => ?_) (fun (c : ¬ (3 ≤ (3 : Int32))) => absurd (by decide) c)
  refine go_ret rfl rfl ?_
  have hms : mdc 0 (I, Q, Z) = (I51, Q51, Z51) := by
    unfold mdc
    rw [← eM11, ← eM16, ← eM23, ← eM30, ← eM37, ← eM44, ← eM51]
  have hC55 : CA w 32 m0 ((((((B + 40) + 40) + 40) + 20) + 20) + 20) h50 (I51, Q51, Z51) := ⟨X52, ow52, sb52, hS52, hD52, hB52, hQ52⟩
  rw [hms]
  exact ⟨rfl, CA_le hC55 (by omega)⟩
theorem dA_0_1 {w : Nat → Bool} {d : Nat} {h : am_Hp} {m0 : mg} {B : Nat} {I : sm_I} {Q : mQ} {Z : mZ} (hC : CA w 32 m0 B h (I, Q, Z)) {P : Option Value → am_Hp → Prop} (hd : 6 ≤ d) (hB2 : B < 2 ^ 26) (hR : RPH 0 1 (I, Q, Z)) (K : ∀ h', CA w 32 m0 (B + 40) h' (mdA 0 1 (I, Q, Z)) → am_Go (am_prog w) d am_c32 none 26 [some (.ref 1), some (.int 1), some (.int 0), none] [] h' P) : am_Go (am_prog w) d am_c32 none 13 [some (.ref 1), some (.int 1), some (.int 0), none] [] h P := by
  obtain ⟨X, ow, sb, hS, hD, hB, hQ⟩ := hC
  change sm tbc h I X at hS
  change CD w 32 m0 h I Q Z X ow sb at hD
  change co h I ≤ B at hB
  change ∀ l, l < 16 → (Q l).length ≤ h.length at hQ
  have hW := hD.1.1
  have hWn : ∀ a, List.length h ≤ a → w a = true := fun a ha => (hD.1.2.1 a ha).1
  have hF1 := fr_refl tbc h
  have hln : 62 ≤ List.length h := sm_len hS
  refine go_s (pc' := 14) rfl rfl rfl rfl ?_
  refine go_sget (pc' := 15) (v := .ref 61) hS rfl rfl rfl (by decide) rfl rfl ?_
  refine go_s (pc' := 16) rfl rfl rfl rfl ?_
  refine go_sald (pc' := 17) (q := 0) (v := .ref 32) hS rfl rfl rfl rfl (by decide) rfl rfl ?_
  refine go_sget (pc' := 18) (v := .int (I 11 0)) hS rfl rfl rfl (by decide) rfl rfl ?_
  refine go_s (pc' := 19) rfl rfl rfl rfl ?_
  refine go_icmpP (t' := 26) (pc' := 20) rfl rfl rfl (fun (c2 : ¬ (I 11 0) = 1) => ?_) (fun (c2' : ¬ ¬ (I 11 0) = 1) => ?_)
  · skip
    have hC3 : CA w 32 m0 B h (I, Q, Z) := ⟨X, ow, sb, hS, hD, hB, hQ⟩
    have hms : mdA 0 1 (I, Q, Z) = (I, Q, Z) := if_neg c2
    exact K _ (by rw [hms]; exact CA_le hC3 (by omega))
  · skip
    have c2 : (I 11 0) = 1 := Decidable.not_not.mp c2'
    refine go_s (pc' := 21) rfl rfl rfl rfl ?_
    refine go_s (pc' := 22) rfl rfl rfl rfl ?_
    refine go_sget (pc' := 23) (v := .ref 61) hS rfl rfl rfl (by decide) rfl rfl ?_
    refine go_s (pc' := 24) rfl rfl rfl rfl ?_
    refine go_sald (pc' := 25) (q := 0) (v := .ref 32) hS rfl rfl rfl rfl (by decide) rfl rfl ?_
    have hC4 : CA w 32 m0 B h (I, Q, Z) := ⟨X, ow, sb, hS, hD, hB, hQ⟩
    refine go_callV (pc' := 26) rfl rfl rfl (Nat.le_of_ble_eq_true rfl) rfl (sm_o hS rfl) rfl rfl rfl (cm_rpl_0_1 hC4 (by omega) hR c2 (by omega)) (fun r h5 q6 => ?_)
    obtain ⟨rfl, hC9⟩ := q6
    have hms : mdA 0 1 (I, Q, Z) = mrpl 0 (I, Q, Z) := if_pos c2
    exact K _ (by rw [hms]; exact hC9)
theorem dB_0_1 {w : Nat → Bool} {d : Nat} {h : am_Hp} {m0 : mg} {B : Nat} {I : sm_I} {Q : mQ} {Z : mZ} (hC : CA w 32 m0 B h (I, Q, Z)) {P : Option Value → am_Hp → Prop} (hd : 6 ≤ d) (hB2 : B < 2 ^ 26) (hT : STH 0 (mdrp 0 (I, Q, Z))) (K : ∀ h', CA w 32 m0 (B + 20) h' (mdB 0 1 (I, Q, Z)) → am_Go (am_prog w) d am_c32 none 55 [some (.ref 1), some (.int 1), some (.int 0), some (.ref 32)] [] h' P) : am_Go (am_prog w) d am_c32 none 35 [some (.ref 1), some (.int 1), some (.int 0), none] [] h P := by
  obtain ⟨X, ow, sb, hS, hD, hB, hQ⟩ := hC
  change sm tbc h I X at hS
  change CD w 32 m0 h I Q Z X ow sb at hD
  change co h I ≤ B at hB
  change ∀ l, l < 16 → (Q l).length ≤ h.length at hQ
  have hW := hD.1.1
  have hWn : ∀ a, List.length h ≤ a → w a = true := fun a ha => (hD.1.2.1 a ha).1
  have hF1 := fr_refl tbc h
  have hln : 62 ≤ List.length h := sm_len hS
  have h207 := hD.2.2.2.1.2.2 0 (by decide)
  by_cases b12 : I 12 0 = -1
  · skip
    rw [if_pos b12] at h207
    refine go_s (pc' := 36) rfl rfl rfl rfl ?_
    refine go_sget (pc' := 37) (v := .ref 61) hS rfl rfl rfl (by decide) rfl rfl ?_
    refine go_s (pc' := 38) rfl rfl rfl rfl ?_
    refine go_sald (pc' := 39) (q := 0) (v := .ref 32) hS rfl rfl rfl rfl (by decide) rfl rfl ?_
    refine go_s (pc' := 40) (lo' := [some (.ref 1), some (.int 1), some (.int 0), some (.ref 32)]) rfl rfl rfl rfl ?_
    refine go_s (pc' := 41) rfl rfl rfl rfl ?_
    refine go_sget (pc' := 42) (v := .int 0) hS rfl rfl rfl (by decide) h207 rfl ?_
    refine go_ifP (t' := 46) (pc' := 43) rfl rfl rfl (fun (c : ¬ (0 : Int32) = 0) => absurd c (by decide)) (fun _ => ?_)
    refine go_s (pc' := 44) rfl rfl rfl rfl ?_
    refine go_sget (pc' := 45) (v := .int (I 13 0)) hS rfl rfl rfl (by decide) rfl rfl ?_
    refine go_ifP (t' := 55) (pc' := 46) rfl rfl rfl (fun (c2 : (I 13 0) = 0) => ?_) (fun (c2 : ¬ (I 13 0) = 0) => ?_)
    · skip
      have hC3 : CA w 32 m0 B h (I, Q, Z) := ⟨X, ow, sb, hS, hD, hB, hQ⟩
      have hms : mdB 0 1 (I, Q, Z) = (I, Q, Z) := if_neg (fun z => z.1.elim (fun y => y b12) (fun y => y c2))
      exact K _ (by rw [hms]; exact CA_le hC3 (by omega))
    · skip
      refine go_s (pc' := 47) rfl rfl rfl rfl ?_
      refine go_callV (pc' := 48) rfl rfl rfl (Nat.le_of_ble_eq_true rfl) rfl (sm_o hS rfl) rfl rfl rfl (ct_oh_0 hS (by omega)) (fun r h4 q5 => ?_)
      obtain ⟨rfl, rfl⟩ := q5
      refine go_s (pc' := 49) rfl rfl rfl rfl ?_
      refine go_icmpP (t' := 55) (pc' := 50) rfl rfl rfl (fun (c6 : ¬ (ohI I 0) = 1) => ?_) (fun (c6' : ¬ ¬ (ohI I 0) = 1) => ?_)
      · skip
        have hC7 : CA w 32 m0 B h4 (I, Q, Z) := ⟨X, ow, sb, hS, hD, hB, hQ⟩
        have hms : mdB 0 1 (I, Q, Z) = (I, Q, Z) := if_neg (fun z => c6 z.2)
        exact K _ (by rw [hms]; exact CA_le hC7 (by omega))
      · skip
        have c6 : (ohI I 0) = 1 := Decidable.not_not.mp c6'
        refine go_s (pc' := 51) rfl rfl rfl rfl ?_
        refine go_callV (pc' := 52) rfl rfl rfl (Nat.le_of_ble_eq_true rfl) rfl (sm_o hS rfl) rfl rfl rfl (ct_drop_0 hS hW (by omega)) (fun r h8 q9 => ?_)
        obtain ⟨rfl, hS10, hE11⟩ := q9
        have hF12 := fr_trans hF1 (fr_e hE11)
        refine go_s (pc' := 53) rfl rfl rfl rfl ?_
        refine go_s (pc' := 54) rfl rfl rfl rfl ?_
        have hD9 : CD w 32 m0 h8 (mdrp 0 (I, Q, Z)).1 Q Z (uX X 207 0 (.int 0)) ow sb := CD_bk (k := 0) (v := -1) (f := 0) (CD_I (J := uI I 13 0 0) (CD_fr hD hF12) ⟨rfl, rfl, rfl, rfl, rfl, rfl, rfl, rfl, rfl, rfl, rfl, rfl, rfl, rfl, rfl⟩) rfl
        have hC8 : CA w 32 m0 B h8 (uI (uI I 13 0 0) 12 0 (-1), Q, Z) := ⟨(uX X 207 0 (.int 0)), ow, sb, sm_12 hS10 rfl, hD9, by have := co_fr (I := I) (J := (mdrp 0 (I, Q, Z)).1) hF12 rfl; show co _ (mdrp 0 (I, Q, Z)).1 ≤ B; omega, fun l hl => Nat.le_trans (hQ l hl) hF12.1⟩
        refine go_callV (pc' := 55) rfl rfl rfl (Nat.le_of_ble_eq_true rfl) rfl (sm_o hS10 rfl) rfl rfl rfl (cm_stw_0 hC8 (by omega) (fun z => hT.1 rfl z) (by omega)) (fun r h13 q14 => ?_)
        obtain ⟨rfl, hC9⟩ := q14
        have hms : mdB 0 1 (I, Q, Z) = mstw 0 (mdrp 0 (I, Q, Z)) := if_pos ⟨Or.inr c2, c6⟩
        exact K _ (by rw [hms]; exact hC9)
  · skip
    rw [if_neg b12] at h207
    refine go_s (pc' := 36) rfl rfl rfl rfl ?_
    refine go_sget (pc' := 37) (v := .ref 61) hS rfl rfl rfl (by decide) rfl rfl ?_
    refine go_s (pc' := 38) rfl rfl rfl rfl ?_
    refine go_sald (pc' := 39) (q := 0) (v := .ref 32) hS rfl rfl rfl rfl (by decide) rfl rfl ?_
    refine go_s (pc' := 40) (lo' := [some (.ref 1), some (.int 1), some (.int 0), some (.ref 32)]) rfl rfl rfl rfl ?_
    refine go_s (pc' := 41) rfl rfl rfl rfl ?_
    refine go_sget (pc' := 42) (v := .int 1) hS rfl rfl rfl (by decide) h207 rfl ?_
    refine go_ifP (t' := 46) (pc' := 43) rfl rfl rfl (fun _ => ?_) (fun (c : ¬ (¬ (1 : Int32) = 0)) => absurd (by decide) c)
    refine go_s (pc' := 47) rfl rfl rfl rfl ?_
    refine go_callV (pc' := 48) rfl rfl rfl (Nat.le_of_ble_eq_true rfl) rfl (sm_o hS rfl) rfl rfl rfl (ct_oh_0 hS (by omega)) (fun r h15 q16 => ?_)
    obtain ⟨rfl, rfl⟩ := q16
    refine go_s (pc' := 49) rfl rfl rfl rfl ?_
    refine go_icmpP (t' := 55) (pc' := 50) rfl rfl rfl (fun (c17 : ¬ (ohI I 0) = 1) => ?_) (fun (c17' : ¬ ¬ (ohI I 0) = 1) => ?_)
    · skip
      have hC18 : CA w 32 m0 B h15 (I, Q, Z) := ⟨X, ow, sb, hS, hD, hB, hQ⟩
      have hms : mdB 0 1 (I, Q, Z) = (I, Q, Z) := if_neg (fun z => c17 z.2)
      exact K _ (by rw [hms]; exact CA_le hC18 (by omega))
    · skip
      have c17 : (ohI I 0) = 1 := Decidable.not_not.mp c17'
      refine go_s (pc' := 51) rfl rfl rfl rfl ?_
      refine go_callV (pc' := 52) rfl rfl rfl (Nat.le_of_ble_eq_true rfl) rfl (sm_o hS rfl) rfl rfl rfl (ct_drop_0 hS hW (by omega)) (fun r h19 q20 => ?_)
      obtain ⟨rfl, hS21, hE22⟩ := q20
      have hF23 := fr_trans hF1 (fr_e hE22)
      refine go_s (pc' := 53) rfl rfl rfl rfl ?_
      refine go_s (pc' := 54) rfl rfl rfl rfl ?_
      have hD9 : CD w 32 m0 h19 (mdrp 0 (I, Q, Z)).1 Q Z (uX X 207 0 (.int 0)) ow sb := CD_bk (k := 0) (v := -1) (f := 0) (CD_I (J := uI I 13 0 0) (CD_fr hD hF23) ⟨rfl, rfl, rfl, rfl, rfl, rfl, rfl, rfl, rfl, rfl, rfl, rfl, rfl, rfl, rfl⟩) rfl
      have hC8 : CA w 32 m0 B h19 (uI (uI I 13 0 0) 12 0 (-1), Q, Z) := ⟨(uX X 207 0 (.int 0)), ow, sb, sm_12 hS21 rfl, hD9, by have := co_fr (I := I) (J := (mdrp 0 (I, Q, Z)).1) hF23 rfl; show co _ (mdrp 0 (I, Q, Z)).1 ≤ B; omega, fun l hl => Nat.le_trans (hQ l hl) hF23.1⟩
      refine go_callV (pc' := 55) rfl rfl rfl (Nat.le_of_ble_eq_true rfl) rfl (sm_o hS21 rfl) rfl rfl rfl (cm_stw_0 hC8 (by omega) (fun z => hT.1 rfl z) (by omega)) (fun r h24 q25 => ?_)
      obtain ⟨rfl, hC9⟩ := q25
      have hms : mdB 0 1 (I, Q, Z) = mstw 0 (mdrp 0 (I, Q, Z)) := if_pos ⟨Or.inl b12, c17⟩
      exact K _ (by rw [hms]; exact hC9)
theorem dA_1_1 {w : Nat → Bool} {d : Nat} {h : am_Hp} {m0 : mg} {B : Nat} {I : sm_I} {Q : mQ} {Z : mZ} (hC : CA w 32 m0 B h (I, Q, Z)) {P : Option Value → am_Hp → Prop} (hd : 6 ≤ d) (hB2 : B < 2 ^ 26) (hR : RPH 1 1 (I, Q, Z)) (K : ∀ h', CA w 32 m0 (B + 40) h' (mdA 1 1 (I, Q, Z)) → am_Go (am_prog w) d am_c32 none 26 [some (.ref 1), some (.int 1), some (.int 1), none] [] h' P) : am_Go (am_prog w) d am_c32 none 13 [some (.ref 1), some (.int 1), some (.int 1), none] [] h P := by
  obtain ⟨X, ow, sb, hS, hD, hB, hQ⟩ := hC
  change sm tbc h I X at hS
  change CD w 32 m0 h I Q Z X ow sb at hD
  change co h I ≤ B at hB
  change ∀ l, l < 16 → (Q l).length ≤ h.length at hQ
  have hW := hD.1.1
  have hWn : ∀ a, List.length h ≤ a → w a = true := fun a ha => (hD.1.2.1 a ha).1
  have hF1 := fr_refl tbc h
  have hln : 62 ≤ List.length h := sm_len hS
  refine go_s (pc' := 14) rfl rfl rfl rfl ?_
  refine go_sget (pc' := 15) (v := .ref 61) hS rfl rfl rfl (by decide) rfl rfl ?_
  refine go_s (pc' := 16) rfl rfl rfl rfl ?_
  refine go_sald (pc' := 17) (q := 1) (v := .ref 59) hS rfl rfl rfl rfl (by decide) rfl rfl ?_
  refine go_sget (pc' := 18) (v := .int (I 11 1)) hS rfl rfl rfl (by decide) rfl rfl ?_
  refine go_s (pc' := 19) rfl rfl rfl rfl ?_
  refine go_icmpP (t' := 26) (pc' := 20) rfl rfl rfl (fun _ => ?_) (fun (c : ¬ (¬ (I 11 1) = 1)) => absurd (pk_ne1 (by decide) (hD.2.2.2.2.2.2 1 (by decide)) (by decide)) c)
  have hC2 : CA w 32 m0 B h (I, Q, Z) := ⟨X, ow, sb, hS, hD, hB, hQ⟩
  have hms : mdA 1 1 (I, Q, Z) = (I, Q, Z) := if_neg (pk_ne1 (by decide) (hD.2.2.2.2.2.2 1 (by decide)) (by decide))
  exact K _ (by rw [hms]; exact CA_le hC2 (by omega))
theorem dB_1_1 {w : Nat → Bool} {d : Nat} {h : am_Hp} {m0 : mg} {B : Nat} {I : sm_I} {Q : mQ} {Z : mZ} (hC : CA w 32 m0 B h (I, Q, Z)) {P : Option Value → am_Hp → Prop} (hd : 6 ≤ d) (hB2 : B < 2 ^ 26) (hT : STH 1 (mdrp 1 (I, Q, Z))) (K : ∀ h', CA w 32 m0 (B + 20) h' (mdB 1 1 (I, Q, Z)) → am_Go (am_prog w) d am_c32 none 55 [some (.ref 1), some (.int 1), some (.int 1), some (.ref 59)] [] h' P) : am_Go (am_prog w) d am_c32 none 35 [some (.ref 1), some (.int 1), some (.int 1), some (.ref 32)] [] h P := by
  obtain ⟨X, ow, sb, hS, hD, hB, hQ⟩ := hC
  change sm tbc h I X at hS
  change CD w 32 m0 h I Q Z X ow sb at hD
  change co h I ≤ B at hB
  change ∀ l, l < 16 → (Q l).length ≤ h.length at hQ
  have hW := hD.1.1
  have hWn : ∀ a, List.length h ≤ a → w a = true := fun a ha => (hD.1.2.1 a ha).1
  have hF1 := fr_refl tbc h
  have hln : 62 ≤ List.length h := sm_len hS
  have h207 := hD.2.2.2.1.2.2 1 (by decide)
  by_cases b12 : I 12 1 = -1
  · skip
    rw [if_pos b12] at h207
    refine go_s (pc' := 36) rfl rfl rfl rfl ?_
    refine go_sget (pc' := 37) (v := .ref 61) hS rfl rfl rfl (by decide) rfl rfl ?_
    refine go_s (pc' := 38) rfl rfl rfl rfl ?_
    refine go_sald (pc' := 39) (q := 1) (v := .ref 59) hS rfl rfl rfl rfl (by decide) rfl rfl ?_
    refine go_s (pc' := 40) (lo' := [some (.ref 1), some (.int 1), some (.int 1), some (.ref 59)]) rfl rfl rfl rfl ?_
    refine go_s (pc' := 41) rfl rfl rfl rfl ?_
    refine go_sget (pc' := 42) (v := .int 0) hS rfl rfl rfl (by decide) h207 rfl ?_
    refine go_ifP (t' := 46) (pc' := 43) rfl rfl rfl (fun (c : ¬ (0 : Int32) = 0) => absurd c (by decide)) (fun _ => ?_)
    refine go_s (pc' := 44) rfl rfl rfl rfl ?_
    refine go_sget (pc' := 45) (v := .int (I 13 1)) hS rfl rfl rfl (by decide) rfl rfl ?_
    refine go_ifP (t' := 55) (pc' := 46) rfl rfl rfl (fun (c2 : (I 13 1) = 0) => ?_) (fun (c2 : ¬ (I 13 1) = 0) => ?_)
    · skip
      have hC3 : CA w 32 m0 B h (I, Q, Z) := ⟨X, ow, sb, hS, hD, hB, hQ⟩
      have hms : mdB 1 1 (I, Q, Z) = (I, Q, Z) := if_neg (fun z => z.1.elim (fun y => y b12) (fun y => y c2))
      exact K _ (by rw [hms]; exact CA_le hC3 (by omega))
    · skip
      refine go_s (pc' := 47) rfl rfl rfl rfl ?_
      refine go_callV (pc' := 48) rfl rfl rfl (Nat.le_of_ble_eq_true rfl) rfl (sm_o hS rfl) rfl rfl rfl (ct_oh_1 hS (by omega)) (fun r h4 q5 => ?_)
      obtain ⟨rfl, rfl⟩ := q5
      refine go_s (pc' := 49) rfl rfl rfl rfl ?_
      refine go_icmpP (t' := 55) (pc' := 50) rfl rfl rfl (fun _ => ?_) (fun (c : ¬ (¬ (ohI I 1) = 1)) => absurd (oh_ne1 (by decide) (by decide)) c)
      have hC6 : CA w 32 m0 B h4 (I, Q, Z) := ⟨X, ow, sb, hS, hD, hB, hQ⟩
      have hms : mdB 1 1 (I, Q, Z) = (I, Q, Z) := if_neg (fun z => (oh_ne1 (by decide) (by decide)) z.2)
      exact K _ (by rw [hms]; exact CA_le hC6 (by omega))
  · skip
    rw [if_neg b12] at h207
    refine go_s (pc' := 36) rfl rfl rfl rfl ?_
    refine go_sget (pc' := 37) (v := .ref 61) hS rfl rfl rfl (by decide) rfl rfl ?_
    refine go_s (pc' := 38) rfl rfl rfl rfl ?_
    refine go_sald (pc' := 39) (q := 1) (v := .ref 59) hS rfl rfl rfl rfl (by decide) rfl rfl ?_
    refine go_s (pc' := 40) (lo' := [some (.ref 1), some (.int 1), some (.int 1), some (.ref 59)]) rfl rfl rfl rfl ?_
    refine go_s (pc' := 41) rfl rfl rfl rfl ?_
    refine go_sget (pc' := 42) (v := .int 1) hS rfl rfl rfl (by decide) h207 rfl ?_
    refine go_ifP (t' := 46) (pc' := 43) rfl rfl rfl (fun _ => ?_) (fun (c : ¬ (¬ (1 : Int32) = 0)) => absurd (by decide) c)
    refine go_s (pc' := 47) rfl rfl rfl rfl ?_
    refine go_callV (pc' := 48) rfl rfl rfl (Nat.le_of_ble_eq_true rfl) rfl (sm_o hS rfl) rfl rfl rfl (ct_oh_1 hS (by omega)) (fun r h7 q8 => ?_)
    obtain ⟨rfl, rfl⟩ := q8
    refine go_s (pc' := 49) rfl rfl rfl rfl ?_
    refine go_icmpP (t' := 55) (pc' := 50) rfl rfl rfl (fun _ => ?_) (fun (c : ¬ (¬ (ohI I 1) = 1)) => absurd (oh_ne1 (by decide) (by decide)) c)
    have hC9 : CA w 32 m0 B h7 (I, Q, Z) := ⟨X, ow, sb, hS, hD, hB, hQ⟩
    have hms : mdB 1 1 (I, Q, Z) = (I, Q, Z) := if_neg (fun z => (oh_ne1 (by decide) (by decide)) z.2)
    exact K _ (by rw [hms]; exact CA_le hC9 (by omega))
theorem dA_2_1 {w : Nat → Bool} {d : Nat} {h : am_Hp} {m0 : mg} {B : Nat} {I : sm_I} {Q : mQ} {Z : mZ} (hC : CA w 32 m0 B h (I, Q, Z)) {P : Option Value → am_Hp → Prop} (hd : 6 ≤ d) (hB2 : B < 2 ^ 26) (hR : RPH 2 1 (I, Q, Z)) (K : ∀ h', CA w 32 m0 (B + 40) h' (mdA 2 1 (I, Q, Z)) → am_Go (am_prog w) d am_c32 none 26 [some (.ref 1), some (.int 1), some (.int 2), none] [] h' P) : am_Go (am_prog w) d am_c32 none 13 [some (.ref 1), some (.int 1), some (.int 2), none] [] h P := by
  obtain ⟨X, ow, sb, hS, hD, hB, hQ⟩ := hC
  change sm tbc h I X at hS
  change CD w 32 m0 h I Q Z X ow sb at hD
  change co h I ≤ B at hB
  change ∀ l, l < 16 → (Q l).length ≤ h.length at hQ
  have hW := hD.1.1
  have hWn : ∀ a, List.length h ≤ a → w a = true := fun a ha => (hD.1.2.1 a ha).1
  have hF1 := fr_refl tbc h
  have hln : 62 ≤ List.length h := sm_len hS
  refine go_s (pc' := 14) rfl rfl rfl rfl ?_
  refine go_sget (pc' := 15) (v := .ref 61) hS rfl rfl rfl (by decide) rfl rfl ?_
  refine go_s (pc' := 16) rfl rfl rfl rfl ?_
  refine go_sald (pc' := 17) (q := 2) (v := .ref 60) hS rfl rfl rfl rfl (by decide) rfl rfl ?_
  refine go_sget (pc' := 18) (v := .int (I 11 2)) hS rfl rfl rfl (by decide) rfl rfl ?_
  refine go_s (pc' := 19) rfl rfl rfl rfl ?_
  refine go_icmpP (t' := 26) (pc' := 20) rfl rfl rfl (fun _ => ?_) (fun (c : ¬ (¬ (I 11 2) = 1)) => absurd (pk_ne1 (by decide) (hD.2.2.2.2.2.2 2 (by decide)) (by decide)) c)
  have hC2 : CA w 32 m0 B h (I, Q, Z) := ⟨X, ow, sb, hS, hD, hB, hQ⟩
  have hms : mdA 2 1 (I, Q, Z) = (I, Q, Z) := if_neg (pk_ne1 (by decide) (hD.2.2.2.2.2.2 2 (by decide)) (by decide))
  exact K _ (by rw [hms]; exact CA_le hC2 (by omega))
theorem dB_2_1 {w : Nat → Bool} {d : Nat} {h : am_Hp} {m0 : mg} {B : Nat} {I : sm_I} {Q : mQ} {Z : mZ} (hC : CA w 32 m0 B h (I, Q, Z)) {P : Option Value → am_Hp → Prop} (hd : 6 ≤ d) (hB2 : B < 2 ^ 26) (hT : STH 2 (mdrp 2 (I, Q, Z))) (K : ∀ h', CA w 32 m0 (B + 20) h' (mdB 2 1 (I, Q, Z)) → am_Go (am_prog w) d am_c32 none 55 [some (.ref 1), some (.int 1), some (.int 2), some (.ref 60)] [] h' P) : am_Go (am_prog w) d am_c32 none 35 [some (.ref 1), some (.int 1), some (.int 2), some (.ref 59)] [] h P := by
  obtain ⟨X, ow, sb, hS, hD, hB, hQ⟩ := hC
  change sm tbc h I X at hS
  change CD w 32 m0 h I Q Z X ow sb at hD
  change co h I ≤ B at hB
  change ∀ l, l < 16 → (Q l).length ≤ h.length at hQ
  have hW := hD.1.1
  have hWn : ∀ a, List.length h ≤ a → w a = true := fun a ha => (hD.1.2.1 a ha).1
  have hF1 := fr_refl tbc h
  have hln : 62 ≤ List.length h := sm_len hS
  have h207 := hD.2.2.2.1.2.2 2 (by decide)
  by_cases b12 : I 12 2 = -1
  · skip
    rw [if_pos b12] at h207
    refine go_s (pc' := 36) rfl rfl rfl rfl ?_
    refine go_sget (pc' := 37) (v := .ref 61) hS rfl rfl rfl (by decide) rfl rfl ?_
    refine go_s (pc' := 38) rfl rfl rfl rfl ?_
    refine go_sald (pc' := 39) (q := 2) (v := .ref 60) hS rfl rfl rfl rfl (by decide) rfl rfl ?_
    refine go_s (pc' := 40) (lo' := [some (.ref 1), some (.int 1), some (.int 2), some (.ref 60)]) rfl rfl rfl rfl ?_
    refine go_s (pc' := 41) rfl rfl rfl rfl ?_
    refine go_sget (pc' := 42) (v := .int 0) hS rfl rfl rfl (by decide) h207 rfl ?_
    refine go_ifP (t' := 46) (pc' := 43) rfl rfl rfl (fun (c : ¬ (0 : Int32) = 0) => absurd c (by decide)) (fun _ => ?_)
    refine go_s (pc' := 44) rfl rfl rfl rfl ?_
    refine go_sget (pc' := 45) (v := .int (I 13 2)) hS rfl rfl rfl (by decide) rfl rfl ?_
    refine go_ifP (t' := 55) (pc' := 46) rfl rfl rfl (fun (c2 : (I 13 2) = 0) => ?_) (fun (c2 : ¬ (I 13 2) = 0) => ?_)
    · skip
      have hC3 : CA w 32 m0 B h (I, Q, Z) := ⟨X, ow, sb, hS, hD, hB, hQ⟩
      have hms : mdB 2 1 (I, Q, Z) = (I, Q, Z) := if_neg (fun z => z.1.elim (fun y => y b12) (fun y => y c2))
      exact K _ (by rw [hms]; exact CA_le hC3 (by omega))
    · skip
      refine go_s (pc' := 47) rfl rfl rfl rfl ?_
      refine go_callV (pc' := 48) rfl rfl rfl (Nat.le_of_ble_eq_true rfl) rfl (sm_o hS rfl) rfl rfl rfl (ct_oh_2 hS (by omega)) (fun r h4 q5 => ?_)
      obtain ⟨rfl, rfl⟩ := q5
      refine go_s (pc' := 49) rfl rfl rfl rfl ?_
      refine go_icmpP (t' := 55) (pc' := 50) rfl rfl rfl (fun _ => ?_) (fun (c : ¬ (¬ (ohI I 2) = 1)) => absurd (oh_ne1 (by decide) (by decide)) c)
      have hC6 : CA w 32 m0 B h4 (I, Q, Z) := ⟨X, ow, sb, hS, hD, hB, hQ⟩
      have hms : mdB 2 1 (I, Q, Z) = (I, Q, Z) := if_neg (fun z => (oh_ne1 (by decide) (by decide)) z.2)
      exact K _ (by rw [hms]; exact CA_le hC6 (by omega))
  · skip
    rw [if_neg b12] at h207
    refine go_s (pc' := 36) rfl rfl rfl rfl ?_
    refine go_sget (pc' := 37) (v := .ref 61) hS rfl rfl rfl (by decide) rfl rfl ?_
    refine go_s (pc' := 38) rfl rfl rfl rfl ?_
    refine go_sald (pc' := 39) (q := 2) (v := .ref 60) hS rfl rfl rfl rfl (by decide) rfl rfl ?_
    refine go_s (pc' := 40) (lo' := [some (.ref 1), some (.int 1), some (.int 2), some (.ref 60)]) rfl rfl rfl rfl ?_
    refine go_s (pc' := 41) rfl rfl rfl rfl ?_
    refine go_sget (pc' := 42) (v := .int 1) hS rfl rfl rfl (by decide) h207 rfl ?_
    refine go_ifP (t' := 46) (pc' := 43) rfl rfl rfl (fun _ => ?_) (fun (c : ¬ (¬ (1 : Int32) = 0)) => absurd (by decide) c)
    refine go_s (pc' := 47) rfl rfl rfl rfl ?_
    refine go_callV (pc' := 48) rfl rfl rfl (Nat.le_of_ble_eq_true rfl) rfl (sm_o hS rfl) rfl rfl rfl (ct_oh_2 hS (by omega)) (fun r h7 q8 => ?_)
    obtain ⟨rfl, rfl⟩ := q8
    refine go_s (pc' := 49) rfl rfl rfl rfl ?_
    refine go_icmpP (t' := 55) (pc' := 50) rfl rfl rfl (fun _ => ?_) (fun (c : ¬ (¬ (ohI I 2) = 1)) => absurd (oh_ne1 (by decide) (by decide)) c)
    have hC9 : CA w 32 m0 B h7 (I, Q, Z) := ⟨X, ow, sb, hS, hD, hB, hQ⟩
    have hms : mdB 2 1 (I, Q, Z) = (I, Q, Z) := if_neg (fun z => (oh_ne1 (by decide) (by decide)) z.2)
    exact K _ (by rw [hms]; exact CA_le hC9 (by omega))
def DCH1 (M : mM) : Prop := RPH 0 1 ((uI M.1 1 1 1, M.2) : mM) ∧ RPH 1 1 (mdA 0 1 ((uI M.1 1 1 1, M.2) : mM)) ∧ RPH 2 1 (mdA 1 1 (mdA 0 1 ((uI M.1 1 1 1, M.2) : mM))) ∧ STH 0 (mdrp 0 (mdA 2 1 (mdA 1 1 (mdA 0 1 ((uI M.1 1 1 1, M.2) : mM))))) ∧ STH 1 (mdrp 1 (mdB 0 1 (mdA 2 1 (mdA 1 1 (mdA 0 1 ((uI M.1 1 1 1, M.2) : mM)))))) ∧ STH 2 (mdrp 2 (mdB 1 1 (mdB 0 1 (mdA 2 1 (mdA 1 1 (mdA 0 1 ((uI M.1 1 1 1, M.2) : mM)))))))
theorem cm_dc_1 {w : Nat → Bool} {d : Nat} {h : am_Hp} {m0 : mg} {B : Nat} {I : sm_I} {Q : mQ} {Z : mZ} (hC : CA w 32 m0 B h (I, Q, Z)) (hB2 : B < 2 ^ 25) (hH : DCH1 (I, Q, Z)) (hd : 7 ≤ d) : am_Ev (am_prog w) d 32 [.ref 1, .int 1] h (fun r h' => r = none ∧ CA w 32 m0 (B + 180) h' (mdc 1 (I, Q, Z))) := by
  obtain ⟨hA0, hA1, hA2, hB0, hB1, hB2x⟩ := hH
  obtain ⟨X, ow, sb, hS, hD, hB, hQ⟩ := hC
  change sm tbc h I X at hS
  change CD w 32 m0 h I Q Z X ow sb at hD
  change co h I ≤ B at hB
  change ∀ l, l < 16 → (Q l).length ≤ h.length at hQ
  have hW := hD.1.1
  have hWn : ∀ a, List.length h ≤ a → w a = true := fun a ha => (hD.1.2.1 a ha).1
  have hF1 := fr_refl tbc h
  have hln : 62 ≤ List.length h := sm_len hS
  obtain ⟨d, rfl⟩ : ∃ e, d = e + 1 := ⟨d - 1, by omega⟩
  refine ev_go rfl (Nat.le_of_ble_eq_true rfl) rfl ?_
  refine go_s (pc' := 1) rfl rfl rfl rfl ?_
  refine go_sget (pc' := 2) (v := .ref 2) hS rfl rfl rfl (by decide) rfl rfl ?_
  refine go_sget (pc' := 3) (v := .ref 4) hS rfl rfl rfl (by decide) rfl rfl ?_
  refine go_s (pc' := 4) rfl rfl rfl rfl ?_
  refine go_s (pc' := 5) (st' := [.int 1, .int 1, .ref 4]) rfl rfl rfl rfl ?_
  refine go_szast (pc' := 6) (q := 1) hS rfl rfl tbc_inj (Nat.le_of_ble_eq_true rfl) rfl (by decide) (by decide) rfl (hW _ rfl) rfl (fun h2 hS3 hE4 => ?_)
  have hF5 := fr_trans hF1 (fr_e hE4)
  refine go_s (pc' := 7) (st' := [.int 0]) rfl rfl rfl rfl ?_
  refine go_s (pc' := 8) (lo' := [some (.ref 1), some (.int 1), some (.int 0), none]) rfl rfl rfl rfl ?_
  refine go_s (pc' := 9) rfl rfl rfl rfl ?_
  refine go_s (pc' := 10) rfl rfl rfl rfl ?_
  refine go_sget (pc' := 11) (v := .ref 61) hS3 rfl rfl rfl (by decide) rfl rfl ?_
  refine go_salen (pc' := 12) (n := 3) hS3 rfl rfl rfl rfl ?_
  refine go_icmpP (t' := 28) (pc' := 13) rfl rfl rfl (fun (c : 3 ≤ (0 : Int32)) => absurd c (by decide)) (fun _ => ?_)
  have hD6 : CD w 32 m0 h2 ((uI I 1 1 1, Q, Z) : mM).1 ((uI I 1 1 1, Q, Z) : mM).2.1 ((uI I 1 1 1, Q, Z) : mM).2.2 (X) ow sb := CD_I (J := uI I 1 1 1) (CD_fr hD hF5) ⟨rfl, rfl, rfl, rfl, rfl, rfl, rfl, rfl, rfl, rfl, rfl, rfl, rfl, rfl, rfl⟩
  have hS9 : sm tbc h2 ((uI I 1 1 1, Q, Z) : mM).1 (X) := hS3
  have hB7 : co h2 ((uI I 1 1 1, Q, Z) : mM).1 ≤ B := by
    have z1 := co_fr (I := I) (J := ((uI I 1 1 1, Q, Z) : mM).1) hF5 rfl
    have z2 := hB
    omega
  have hQ8 : ∀ l, l < 16 → (((uI I 1 1 1, Q, Z) : mM).2.1 l).length ≤ List.length h2 := fun l hl => Nat.le_trans (hQ l hl) hF5.1
  obtain ⟨X10, eX10⟩ : ∃ y, y = (X) := ⟨_, rfl⟩
  rw [← eX10] at hD6 hS9
  obtain ⟨M11, eM11⟩ : ∃ y : mM, y = ((uI I 1 1 1, Q, Z) : mM) := ⟨_, rfl⟩
  rw [← eM11] at hD6 hS9 hB7 hQ8
  obtain ⟨I11, Q11, Z11⟩ := M11
  change CD w 32 m0 h2 I11 Q11 Z11 X10 ow sb at hD6
  change sm tbc h2 I11 X10 at hS9
  change co h2 I11 ≤ B at hB7
  change ∀ l, l < 16 → (Q11 l).length ≤ List.length h2 at hQ8
  have hW := hD6.1.1
  have hWn : ∀ a, List.length h2 ≤ a → w a = true := fun a ha => (hD6.1.2.1 a ha).1
  have hF12 := fr_refl tbc h2
  have hln : 62 ≤ List.length h2 := sm_len hS9
  have hC13 : CA w 32 m0 B h2 (I11, Q11, Z11) := ⟨X10, ow, sb, hS9, hD6, hB7, hQ8⟩
  refine dA_0_1 (I := I11) (Q := Q11) (Z := Z11) hC13 (by omega) (by omega) (by rw [eM11]; exact hA0) (fun h15 hC14 => ?_)
  change CA w 32 m0 (B + 40) h15 (mdA 0 1 (I11, Q11, Z11)) at hC14
  obtain ⟨M16, eM16⟩ : ∃ y : mM, y = (mdA 0 1 (I11, Q11, Z11)) := ⟨_, rfl⟩
  rw [← eM16] at hC14
  obtain ⟨I16, Q16, Z16⟩ := M16
  obtain ⟨X17, ow17, sb17, hS17, hD17, hB17, hQ17⟩ := hC14
  have hW := hD17.1.1
  have hWn : ∀ a, List.length h15 ≤ a → w a = true := fun a ha => (hD17.1.2.1 a ha).1
  have hF18 := fr_refl tbc h15
  have hln : 62 ≤ List.length h15 := sm_len hS17
  change CD w 32 m0 h15 I16 Q16 Z16 X17 ow17 sb17 at hD17
  change sm tbc h15 I16 X17 at hS17
  change co h15 I16 ≤ (B + 40) at hB17
  change ∀ l, l < 16 → (Q16 l).length ≤ List.length h15 at hQ17
  have hW := hD17.1.1
  have hWn : ∀ a, List.length h15 ≤ a → w a = true := fun a ha => (hD17.1.2.1 a ha).1
  have hF19 := fr_refl tbc h15
  have hln : 62 ≤ List.length h15 := sm_len hS17
  refine go_s (pc' := 27) (lo' := [some (.ref 1), some (.int 1), some (.int 1), none]) rfl rfl rfl rfl ?_
  refine go_s (pc' := 8) rfl rfl rfl rfl ?_
  refine go_s (pc' := 9) rfl rfl rfl rfl ?_
  refine go_s (pc' := 10) rfl rfl rfl rfl ?_
  refine go_sget (pc' := 11) (v := .ref 61) hS17 rfl rfl rfl (by decide) rfl rfl ?_
  refine go_salen (pc' := 12) (n := 3) hS17 rfl rfl rfl rfl ?_
  refine go_icmpP (t' := 28) (pc' := 13) rfl rfl rfl (fun (c : 3 ≤ (1 : Int32)) => absurd c (by decide)) (fun _ => ?_)
  have hC20 : CA w 32 m0 (B + 40) h15 (I16, Q16, Z16) := ⟨X17, ow17, sb17, hS17, hD17, hB17, hQ17⟩
  refine dA_1_1 (I := I16) (Q := Q16) (Z := Z16) hC20 (by omega) (by omega) (by rw [eM16, eM11]; exact hA1) (fun h22 hC21 => ?_)
  change CA w 32 m0 ((B + 40) + 40) h22 (mdA 1 1 (I16, Q16, Z16)) at hC21
  obtain ⟨M23, eM23⟩ : ∃ y : mM, y = (mdA 1 1 (I16, Q16, Z16)) := ⟨_, rfl⟩
  rw [← eM23] at hC21
  obtain ⟨I23, Q23, Z23⟩ := M23
  obtain ⟨X24, ow24, sb24, hS24, hD24, hB24, hQ24⟩ := hC21
  have hW := hD24.1.1
  have hWn : ∀ a, List.length h22 ≤ a → w a = true := fun a ha => (hD24.1.2.1 a ha).1
  have hF25 := fr_refl tbc h22
  have hln : 62 ≤ List.length h22 := sm_len hS24
  change CD w 32 m0 h22 I23 Q23 Z23 X24 ow24 sb24 at hD24
  change sm tbc h22 I23 X24 at hS24
  change co h22 I23 ≤ ((B + 40) + 40) at hB24
  change ∀ l, l < 16 → (Q23 l).length ≤ List.length h22 at hQ24
  have hW := hD24.1.1
  have hWn : ∀ a, List.length h22 ≤ a → w a = true := fun a ha => (hD24.1.2.1 a ha).1
  have hF26 := fr_refl tbc h22
  have hln : 62 ≤ List.length h22 := sm_len hS24
  refine go_s (pc' := 27) (lo' := [some (.ref 1), some (.int 1), some (.int 2), none]) rfl rfl rfl rfl ?_
  refine go_s (pc' := 8) rfl rfl rfl rfl ?_
  refine go_s (pc' := 9) rfl rfl rfl rfl ?_
  refine go_s (pc' := 10) rfl rfl rfl rfl ?_
  refine go_sget (pc' := 11) (v := .ref 61) hS24 rfl rfl rfl (by decide) rfl rfl ?_
  refine go_salen (pc' := 12) (n := 3) hS24 rfl rfl rfl rfl ?_
  refine go_icmpP (t' := 28) (pc' := 13) rfl rfl rfl (fun (c : 3 ≤ (2 : Int32)) => absurd c (by decide)) (fun _ => ?_)
  have hC27 : CA w 32 m0 ((B + 40) + 40) h22 (I23, Q23, Z23) := ⟨X24, ow24, sb24, hS24, hD24, hB24, hQ24⟩
  refine dA_2_1 (I := I23) (Q := Q23) (Z := Z23) hC27 (by omega) (by omega) (by rw [eM23, eM16, eM11]; exact hA2) (fun h29 hC28 => ?_)
  change CA w 32 m0 (((B + 40) + 40) + 40) h29 (mdA 2 1 (I23, Q23, Z23)) at hC28
  obtain ⟨M30, eM30⟩ : ∃ y : mM, y = (mdA 2 1 (I23, Q23, Z23)) := ⟨_, rfl⟩
  rw [← eM30] at hC28
  obtain ⟨I30, Q30, Z30⟩ := M30
  obtain ⟨X31, ow31, sb31, hS31, hD31, hB31, hQ31⟩ := hC28
  have hW := hD31.1.1
  have hWn : ∀ a, List.length h29 ≤ a → w a = true := fun a ha => (hD31.1.2.1 a ha).1
  have hF32 := fr_refl tbc h29
  have hln : 62 ≤ List.length h29 := sm_len hS31
  change CD w 32 m0 h29 I30 Q30 Z30 X31 ow31 sb31 at hD31
  change sm tbc h29 I30 X31 at hS31
  change co h29 I30 ≤ (((B + 40) + 40) + 40) at hB31
  change ∀ l, l < 16 → (Q30 l).length ≤ List.length h29 at hQ31
  have hW := hD31.1.1
  have hWn : ∀ a, List.length h29 ≤ a → w a = true := fun a ha => (hD31.1.2.1 a ha).1
  have hF33 := fr_refl tbc h29
  have hln : 62 ≤ List.length h29 := sm_len hS31
  refine go_s (pc' := 27) (lo' := [some (.ref 1), some (.int 1), some (.int 3), none]) rfl rfl rfl rfl ?_
  refine go_s (pc' := 8) rfl rfl rfl rfl ?_
  refine go_s (pc' := 9) rfl rfl rfl rfl ?_
  refine go_s (pc' := 10) rfl rfl rfl rfl ?_
  refine go_sget (pc' := 11) (v := .ref 61) hS31 rfl rfl rfl (by decide) rfl rfl ?_
  refine go_salen (pc' := 12) (n := 3) hS31 rfl rfl rfl rfl ?_
  refine go_icmpP (t' := 28) (pc' := 13) rfl rfl rfl (fun _ => ?_) (fun (c : ¬ (3 ≤ (3 : Int32))) => absurd (by decide) c)
  refine go_s (pc' := 29) (st' := [.int 0]) rfl rfl rfl rfl ?_
  refine go_s (pc' := 30) (lo' := [some (.ref 1), some (.int 1), some (.int 0), none]) rfl rfl rfl rfl ?_
  refine go_s (pc' := 31) rfl rfl rfl rfl ?_
  refine go_s (pc' := 32) rfl rfl rfl rfl ?_
  refine go_sget (pc' := 33) (v := .ref 61) hS31 rfl rfl rfl (by decide) rfl rfl ?_
  refine go_salen (pc' := 34) (n := 3) hS31 rfl rfl rfl rfl ?_
  refine go_icmpP (t' := 57) (pc' := 35) rfl rfl rfl (fun (c : 3 ≤ (0 : Int32)) => absurd c (by decide)) (fun _ => ?_)
  have hC34 : CA w 32 m0 (((B + 40) + 40) + 40) h29 (I30, Q30, Z30) := ⟨X31, ow31, sb31, hS31, hD31, hB31, hQ31⟩
  refine dB_0_1 (I := I30) (Q := Q30) (Z := Z30) hC34 (by omega) (by omega) (by rw [eM30, eM23, eM16, eM11]; exact hB0) (fun h36 hC35 => ?_)
  change CA w 32 m0 ((((B + 40) + 40) + 40) + 20) h36 (mdB 0 1 (I30, Q30, Z30)) at hC35
  obtain ⟨M37, eM37⟩ : ∃ y : mM, y = (mdB 0 1 (I30, Q30, Z30)) := ⟨_, rfl⟩
  rw [← eM37] at hC35
  obtain ⟨I37, Q37, Z37⟩ := M37
  obtain ⟨X38, ow38, sb38, hS38, hD38, hB38, hQ38⟩ := hC35
  have hW := hD38.1.1
  have hWn : ∀ a, List.length h36 ≤ a → w a = true := fun a ha => (hD38.1.2.1 a ha).1
  have hF39 := fr_refl tbc h36
  have hln : 62 ≤ List.length h36 := sm_len hS38
  change CD w 32 m0 h36 I37 Q37 Z37 X38 ow38 sb38 at hD38
  change sm tbc h36 I37 X38 at hS38
  change co h36 I37 ≤ ((((B + 40) + 40) + 40) + 20) at hB38
  change ∀ l, l < 16 → (Q37 l).length ≤ List.length h36 at hQ38
  have hW := hD38.1.1
  have hWn : ∀ a, List.length h36 ≤ a → w a = true := fun a ha => (hD38.1.2.1 a ha).1
  have hF40 := fr_refl tbc h36
  have hln : 62 ≤ List.length h36 := sm_len hS38
  refine go_s (pc' := 56) (lo' := [some (.ref 1), some (.int 1), some (.int 1), some (.ref 32)]) rfl rfl rfl rfl ?_
  refine go_s (pc' := 30) rfl rfl rfl rfl ?_
  refine go_s (pc' := 31) rfl rfl rfl rfl ?_
  refine go_s (pc' := 32) rfl rfl rfl rfl ?_
  refine go_sget (pc' := 33) (v := .ref 61) hS38 rfl rfl rfl (by decide) rfl rfl ?_
  refine go_salen (pc' := 34) (n := 3) hS38 rfl rfl rfl rfl ?_
  refine go_icmpP (t' := 57) (pc' := 35) rfl rfl rfl (fun (c : 3 ≤ (1 : Int32)) => absurd c (by decide)) (fun _ => ?_)
  have hC41 : CA w 32 m0 ((((B + 40) + 40) + 40) + 20) h36 (I37, Q37, Z37) := ⟨X38, ow38, sb38, hS38, hD38, hB38, hQ38⟩
  refine dB_1_1 (I := I37) (Q := Q37) (Z := Z37) hC41 (by omega) (by omega) (by rw [eM37, eM30, eM23, eM16, eM11]; exact hB1) (fun h43 hC42 => ?_)
  change CA w 32 m0 (((((B + 40) + 40) + 40) + 20) + 20) h43 (mdB 1 1 (I37, Q37, Z37)) at hC42
  obtain ⟨M44, eM44⟩ : ∃ y : mM, y = (mdB 1 1 (I37, Q37, Z37)) := ⟨_, rfl⟩
  rw [← eM44] at hC42
  obtain ⟨I44, Q44, Z44⟩ := M44
  obtain ⟨X45, ow45, sb45, hS45, hD45, hB45, hQ45⟩ := hC42
  have hW := hD45.1.1
  have hWn : ∀ a, List.length h43 ≤ a → w a = true := fun a ha => (hD45.1.2.1 a ha).1
  have hF46 := fr_refl tbc h43
  have hln : 62 ≤ List.length h43 := sm_len hS45
  change CD w 32 m0 h43 I44 Q44 Z44 X45 ow45 sb45 at hD45
  change sm tbc h43 I44 X45 at hS45
  change co h43 I44 ≤ (((((B + 40) + 40) + 40) + 20) + 20) at hB45
  change ∀ l, l < 16 → (Q44 l).length ≤ List.length h43 at hQ45
  have hW := hD45.1.1
  have hWn : ∀ a, List.length h43 ≤ a → w a = true := fun a ha => (hD45.1.2.1 a ha).1
  have hF47 := fr_refl tbc h43
  have hln : 62 ≤ List.length h43 := sm_len hS45
  refine go_s (pc' := 56) (lo' := [some (.ref 1), some (.int 1), some (.int 2), some (.ref 59)]) rfl rfl rfl rfl ?_
  refine go_s (pc' := 30) rfl rfl rfl rfl ?_
  refine go_s (pc' := 31) rfl rfl rfl rfl ?_
  refine go_s (pc' := 32) rfl rfl rfl rfl ?_
  refine go_sget (pc' := 33) (v := .ref 61) hS45 rfl rfl rfl (by decide) rfl rfl ?_
  refine go_salen (pc' := 34) (n := 3) hS45 rfl rfl rfl rfl ?_
  refine go_icmpP (t' := 57) (pc' := 35) rfl rfl rfl (fun (c : 3 ≤ (2 : Int32)) => absurd c (by decide)) (fun _ => ?_)
  have hC48 : CA w 32 m0 (((((B + 40) + 40) + 40) + 20) + 20) h43 (I44, Q44, Z44) := ⟨X45, ow45, sb45, hS45, hD45, hB45, hQ45⟩
  refine dB_2_1 (I := I44) (Q := Q44) (Z := Z44) hC48 (by omega) (by omega) (by rw [eM44, eM37, eM30, eM23, eM16, eM11]; exact hB2x) (fun h50 hC49 => ?_)
  change CA w 32 m0 ((((((B + 40) + 40) + 40) + 20) + 20) + 20) h50 (mdB 2 1 (I44, Q44, Z44)) at hC49
  obtain ⟨M51, eM51⟩ : ∃ y : mM, y = (mdB 2 1 (I44, Q44, Z44)) := ⟨_, rfl⟩
  rw [← eM51] at hC49
  obtain ⟨I51, Q51, Z51⟩ := M51
  obtain ⟨X52, ow52, sb52, hS52, hD52, hB52, hQ52⟩ := hC49
  have hW := hD52.1.1
  have hWn : ∀ a, List.length h50 ≤ a → w a = true := fun a ha => (hD52.1.2.1 a ha).1
  have hF53 := fr_refl tbc h50
  have hln : 62 ≤ List.length h50 := sm_len hS52
  change CD w 32 m0 h50 I51 Q51 Z51 X52 ow52 sb52 at hD52
  change sm tbc h50 I51 X52 at hS52
  change co h50 I51 ≤ ((((((B + 40) + 40) + 40) + 20) + 20) + 20) at hB52
  change ∀ l, l < 16 → (Q51 l).length ≤ List.length h50 at hQ52
  have hW := hD52.1.1
  have hWn : ∀ a, List.length h50 ≤ a → w a = true := fun a ha => (hD52.1.2.1 a ha).1
  have hF54 := fr_refl tbc h50
  have hln : 62 ≤ List.length h50 := sm_len hS52
  refine go_s (pc' := 56) (lo' := [some (.ref 1), some (.int 1), some (.int 3), some (.ref 60)]) rfl rfl rfl rfl ?_
  refine go_s (pc' := 30) rfl rfl rfl rfl ?_
  refine go_s (pc' := 31) rfl rfl rfl rfl ?_
  refine go_s (pc' := 32) rfl rfl rfl rfl ?_
  refine go_sget (pc' := 33) (v := .ref 61) hS52 rfl rfl rfl (by decide) rfl rfl ?_
  refine go_salen (pc' := 34) (n := 3) hS52 rfl rfl rfl rfl ?_
  refine go_icmpP (t' := 57) (pc' := 35) rfl rfl rfl (fun _ => ?_) (fun (c : ¬ (3 ≤ (3 : Int32))) => absurd (by decide) c)
  refine go_ret rfl rfl ?_
  have hms : mdc 1 (I, Q, Z) = (I51, Q51, Z51) := by
    unfold mdc
    rw [← eM11, ← eM16, ← eM23, ← eM30, ← eM37, ← eM44, ← eM51]
  have hC55 : CA w 32 m0 ((((((B + 40) + 40) + 40) + 20) + 20) + 20) h50 (I51, Q51, Z51) := ⟨X52, ow52, sb52, hS52, hD52, hB52, hQ52⟩
  rw [hms]
  exact ⟨rfl, CA_le hC55 (by omega)⟩
theorem dA_0_2 {w : Nat → Bool} {d : Nat} {h : am_Hp} {m0 : mg} {B : Nat} {I : sm_I} {Q : mQ} {Z : mZ} (hC : CA w 32 m0 B h (I, Q, Z)) {P : Option Value → am_Hp → Prop} (hd : 6 ≤ d) (hB2 : B < 2 ^ 26) (hR : RPH 0 2 (I, Q, Z)) (K : ∀ h', CA w 32 m0 (B + 40) h' (mdA 0 2 (I, Q, Z)) → am_Go (am_prog w) d am_c32 none 26 [some (.ref 1), some (.int 2), some (.int 0), none] [] h' P) : am_Go (am_prog w) d am_c32 none 13 [some (.ref 1), some (.int 2), some (.int 0), none] [] h P := by
  obtain ⟨X, ow, sb, hS, hD, hB, hQ⟩ := hC
  change sm tbc h I X at hS
  change CD w 32 m0 h I Q Z X ow sb at hD
  change co h I ≤ B at hB
  change ∀ l, l < 16 → (Q l).length ≤ h.length at hQ
  have hW := hD.1.1
  have hWn : ∀ a, List.length h ≤ a → w a = true := fun a ha => (hD.1.2.1 a ha).1
  have hF1 := fr_refl tbc h
  have hln : 62 ≤ List.length h := sm_len hS
  refine go_s (pc' := 14) rfl rfl rfl rfl ?_
  refine go_sget (pc' := 15) (v := .ref 61) hS rfl rfl rfl (by decide) rfl rfl ?_
  refine go_s (pc' := 16) rfl rfl rfl rfl ?_
  refine go_sald (pc' := 17) (q := 0) (v := .ref 32) hS rfl rfl rfl rfl (by decide) rfl rfl ?_
  refine go_sget (pc' := 18) (v := .int (I 11 0)) hS rfl rfl rfl (by decide) rfl rfl ?_
  refine go_s (pc' := 19) rfl rfl rfl rfl ?_
  refine go_icmpP (t' := 26) (pc' := 20) rfl rfl rfl (fun _ => ?_) (fun (c : ¬ (¬ (I 11 0) = 2)) => absurd (pk_ne0 (hD.2.2.2.2.2.2 0 (by decide)) (by decide)) c)
  have hC2 : CA w 32 m0 B h (I, Q, Z) := ⟨X, ow, sb, hS, hD, hB, hQ⟩
  have hms : mdA 0 2 (I, Q, Z) = (I, Q, Z) := if_neg (pk_ne0 (hD.2.2.2.2.2.2 0 (by decide)) (by decide))
  exact K _ (by rw [hms]; exact CA_le hC2 (by omega))
theorem dB_0_2 {w : Nat → Bool} {d : Nat} {h : am_Hp} {m0 : mg} {B : Nat} {I : sm_I} {Q : mQ} {Z : mZ} (hC : CA w 32 m0 B h (I, Q, Z)) {P : Option Value → am_Hp → Prop} (hd : 6 ≤ d) (hB2 : B < 2 ^ 26) (hT : STH 0 (mdrp 0 (I, Q, Z))) (K : ∀ h', CA w 32 m0 (B + 20) h' (mdB 0 2 (I, Q, Z)) → am_Go (am_prog w) d am_c32 none 55 [some (.ref 1), some (.int 2), some (.int 0), some (.ref 32)] [] h' P) : am_Go (am_prog w) d am_c32 none 35 [some (.ref 1), some (.int 2), some (.int 0), none] [] h P := by
  obtain ⟨X, ow, sb, hS, hD, hB, hQ⟩ := hC
  change sm tbc h I X at hS
  change CD w 32 m0 h I Q Z X ow sb at hD
  change co h I ≤ B at hB
  change ∀ l, l < 16 → (Q l).length ≤ h.length at hQ
  have hW := hD.1.1
  have hWn : ∀ a, List.length h ≤ a → w a = true := fun a ha => (hD.1.2.1 a ha).1
  have hF1 := fr_refl tbc h
  have hln : 62 ≤ List.length h := sm_len hS
  have h207 := hD.2.2.2.1.2.2 0 (by decide)
  by_cases b12 : I 12 0 = -1
  · skip
    rw [if_pos b12] at h207
    refine go_s (pc' := 36) rfl rfl rfl rfl ?_
    refine go_sget (pc' := 37) (v := .ref 61) hS rfl rfl rfl (by decide) rfl rfl ?_
    refine go_s (pc' := 38) rfl rfl rfl rfl ?_
    refine go_sald (pc' := 39) (q := 0) (v := .ref 32) hS rfl rfl rfl rfl (by decide) rfl rfl ?_
    refine go_s (pc' := 40) (lo' := [some (.ref 1), some (.int 2), some (.int 0), some (.ref 32)]) rfl rfl rfl rfl ?_
    refine go_s (pc' := 41) rfl rfl rfl rfl ?_
    refine go_sget (pc' := 42) (v := .int 0) hS rfl rfl rfl (by decide) h207 rfl ?_
    refine go_ifP (t' := 46) (pc' := 43) rfl rfl rfl (fun (c : ¬ (0 : Int32) = 0) => absurd c (by decide)) (fun _ => ?_)
    refine go_s (pc' := 44) rfl rfl rfl rfl ?_
    refine go_sget (pc' := 45) (v := .int (I 13 0)) hS rfl rfl rfl (by decide) rfl rfl ?_
    refine go_ifP (t' := 55) (pc' := 46) rfl rfl rfl (fun (c2 : (I 13 0) = 0) => ?_) (fun (c2 : ¬ (I 13 0) = 0) => ?_)
    · skip
      have hC3 : CA w 32 m0 B h (I, Q, Z) := ⟨X, ow, sb, hS, hD, hB, hQ⟩
      have hms : mdB 0 2 (I, Q, Z) = (I, Q, Z) := if_neg (fun z => z.1.elim (fun y => y b12) (fun y => y c2))
      exact K _ (by rw [hms]; exact CA_le hC3 (by omega))
    · skip
      refine go_s (pc' := 47) rfl rfl rfl rfl ?_
      refine go_callV (pc' := 48) rfl rfl rfl (Nat.le_of_ble_eq_true rfl) rfl (sm_o hS rfl) rfl rfl rfl (ct_oh_0 hS (by omega)) (fun r h4 q5 => ?_)
      obtain ⟨rfl, rfl⟩ := q5
      refine go_s (pc' := 49) rfl rfl rfl rfl ?_
      refine go_icmpP (t' := 55) (pc' := 50) rfl rfl rfl (fun _ => ?_) (fun (c : ¬ (¬ (ohI I 0) = 2)) => absurd (oh_ne0 (by decide)) c)
      have hC6 : CA w 32 m0 B h4 (I, Q, Z) := ⟨X, ow, sb, hS, hD, hB, hQ⟩
      have hms : mdB 0 2 (I, Q, Z) = (I, Q, Z) := if_neg (fun z => (oh_ne0 (by decide)) z.2)
      exact K _ (by rw [hms]; exact CA_le hC6 (by omega))
  · skip
    rw [if_neg b12] at h207
    refine go_s (pc' := 36) rfl rfl rfl rfl ?_
    refine go_sget (pc' := 37) (v := .ref 61) hS rfl rfl rfl (by decide) rfl rfl ?_
    refine go_s (pc' := 38) rfl rfl rfl rfl ?_
    refine go_sald (pc' := 39) (q := 0) (v := .ref 32) hS rfl rfl rfl rfl (by decide) rfl rfl ?_
    refine go_s (pc' := 40) (lo' := [some (.ref 1), some (.int 2), some (.int 0), some (.ref 32)]) rfl rfl rfl rfl ?_
    refine go_s (pc' := 41) rfl rfl rfl rfl ?_
    refine go_sget (pc' := 42) (v := .int 1) hS rfl rfl rfl (by decide) h207 rfl ?_
    refine go_ifP (t' := 46) (pc' := 43) rfl rfl rfl (fun _ => ?_) (fun (c : ¬ (¬ (1 : Int32) = 0)) => absurd (by decide) c)
    refine go_s (pc' := 47) rfl rfl rfl rfl ?_
    refine go_callV (pc' := 48) rfl rfl rfl (Nat.le_of_ble_eq_true rfl) rfl (sm_o hS rfl) rfl rfl rfl (ct_oh_0 hS (by omega)) (fun r h7 q8 => ?_)
    obtain ⟨rfl, rfl⟩ := q8
    refine go_s (pc' := 49) rfl rfl rfl rfl ?_
    refine go_icmpP (t' := 55) (pc' := 50) rfl rfl rfl (fun _ => ?_) (fun (c : ¬ (¬ (ohI I 0) = 2)) => absurd (oh_ne0 (by decide)) c)
    have hC9 : CA w 32 m0 B h7 (I, Q, Z) := ⟨X, ow, sb, hS, hD, hB, hQ⟩
    have hms : mdB 0 2 (I, Q, Z) = (I, Q, Z) := if_neg (fun z => (oh_ne0 (by decide)) z.2)
    exact K _ (by rw [hms]; exact CA_le hC9 (by omega))
theorem dA_1_2 {w : Nat → Bool} {d : Nat} {h : am_Hp} {m0 : mg} {B : Nat} {I : sm_I} {Q : mQ} {Z : mZ} (hC : CA w 32 m0 B h (I, Q, Z)) {P : Option Value → am_Hp → Prop} (hd : 6 ≤ d) (hB2 : B < 2 ^ 26) (hR : RPH 1 2 (I, Q, Z)) (K : ∀ h', CA w 32 m0 (B + 40) h' (mdA 1 2 (I, Q, Z)) → am_Go (am_prog w) d am_c32 none 26 [some (.ref 1), some (.int 2), some (.int 1), none] [] h' P) : am_Go (am_prog w) d am_c32 none 13 [some (.ref 1), some (.int 2), some (.int 1), none] [] h P := by
  obtain ⟨X, ow, sb, hS, hD, hB, hQ⟩ := hC
  change sm tbc h I X at hS
  change CD w 32 m0 h I Q Z X ow sb at hD
  change co h I ≤ B at hB
  change ∀ l, l < 16 → (Q l).length ≤ h.length at hQ
  have hW := hD.1.1
  have hWn : ∀ a, List.length h ≤ a → w a = true := fun a ha => (hD.1.2.1 a ha).1
  have hF1 := fr_refl tbc h
  have hln : 62 ≤ List.length h := sm_len hS
  refine go_s (pc' := 14) rfl rfl rfl rfl ?_
  refine go_sget (pc' := 15) (v := .ref 61) hS rfl rfl rfl (by decide) rfl rfl ?_
  refine go_s (pc' := 16) rfl rfl rfl rfl ?_
  refine go_sald (pc' := 17) (q := 1) (v := .ref 59) hS rfl rfl rfl rfl (by decide) rfl rfl ?_
  refine go_sget (pc' := 18) (v := .int (I 11 1)) hS rfl rfl rfl (by decide) rfl rfl ?_
  refine go_s (pc' := 19) rfl rfl rfl rfl ?_
  refine go_icmpP (t' := 26) (pc' := 20) rfl rfl rfl (fun (c2 : ¬ (I 11 1) = 2) => ?_) (fun (c2' : ¬ ¬ (I 11 1) = 2) => ?_)
  · skip
    have hC3 : CA w 32 m0 B h (I, Q, Z) := ⟨X, ow, sb, hS, hD, hB, hQ⟩
    have hms : mdA 1 2 (I, Q, Z) = (I, Q, Z) := if_neg c2
    exact K _ (by rw [hms]; exact CA_le hC3 (by omega))
  · skip
    have c2 : (I 11 1) = 2 := Decidable.not_not.mp c2'
    refine go_s (pc' := 21) rfl rfl rfl rfl ?_
    refine go_s (pc' := 22) rfl rfl rfl rfl ?_
    refine go_sget (pc' := 23) (v := .ref 61) hS rfl rfl rfl (by decide) rfl rfl ?_
    refine go_s (pc' := 24) rfl rfl rfl rfl ?_
    refine go_sald (pc' := 25) (q := 1) (v := .ref 59) hS rfl rfl rfl rfl (by decide) rfl rfl ?_
    have hC4 : CA w 32 m0 B h (I, Q, Z) := ⟨X, ow, sb, hS, hD, hB, hQ⟩
    refine go_callV (pc' := 26) rfl rfl rfl (Nat.le_of_ble_eq_true rfl) rfl (sm_o hS rfl) rfl rfl rfl (cm_rpl_1_2 hC4 (by omega) hR c2 (by omega)) (fun r h5 q6 => ?_)
    obtain ⟨rfl, hC9⟩ := q6
    have hms : mdA 1 2 (I, Q, Z) = mrpl 1 (I, Q, Z) := if_pos c2
    exact K _ (by rw [hms]; exact hC9)
theorem dB_1_2 {w : Nat → Bool} {d : Nat} {h : am_Hp} {m0 : mg} {B : Nat} {I : sm_I} {Q : mQ} {Z : mZ} (hC : CA w 32 m0 B h (I, Q, Z)) {P : Option Value → am_Hp → Prop} (hd : 6 ≤ d) (hB2 : B < 2 ^ 26) (hT : STH 1 (mdrp 1 (I, Q, Z))) (K : ∀ h', CA w 32 m0 (B + 20) h' (mdB 1 2 (I, Q, Z)) → am_Go (am_prog w) d am_c32 none 55 [some (.ref 1), some (.int 2), some (.int 1), some (.ref 59)] [] h' P) : am_Go (am_prog w) d am_c32 none 35 [some (.ref 1), some (.int 2), some (.int 1), some (.ref 32)] [] h P := by
  obtain ⟨X, ow, sb, hS, hD, hB, hQ⟩ := hC
  change sm tbc h I X at hS
  change CD w 32 m0 h I Q Z X ow sb at hD
  change co h I ≤ B at hB
  change ∀ l, l < 16 → (Q l).length ≤ h.length at hQ
  have hW := hD.1.1
  have hWn : ∀ a, List.length h ≤ a → w a = true := fun a ha => (hD.1.2.1 a ha).1
  have hF1 := fr_refl tbc h
  have hln : 62 ≤ List.length h := sm_len hS
  have h207 := hD.2.2.2.1.2.2 1 (by decide)
  by_cases b12 : I 12 1 = -1
  · skip
    rw [if_pos b12] at h207
    refine go_s (pc' := 36) rfl rfl rfl rfl ?_
    refine go_sget (pc' := 37) (v := .ref 61) hS rfl rfl rfl (by decide) rfl rfl ?_
    refine go_s (pc' := 38) rfl rfl rfl rfl ?_
    refine go_sald (pc' := 39) (q := 1) (v := .ref 59) hS rfl rfl rfl rfl (by decide) rfl rfl ?_
    refine go_s (pc' := 40) (lo' := [some (.ref 1), some (.int 2), some (.int 1), some (.ref 59)]) rfl rfl rfl rfl ?_
    refine go_s (pc' := 41) rfl rfl rfl rfl ?_
    refine go_sget (pc' := 42) (v := .int 0) hS rfl rfl rfl (by decide) h207 rfl ?_
    refine go_ifP (t' := 46) (pc' := 43) rfl rfl rfl (fun (c : ¬ (0 : Int32) = 0) => absurd c (by decide)) (fun _ => ?_)
    refine go_s (pc' := 44) rfl rfl rfl rfl ?_
    refine go_sget (pc' := 45) (v := .int (I 13 1)) hS rfl rfl rfl (by decide) rfl rfl ?_
    refine go_ifP (t' := 55) (pc' := 46) rfl rfl rfl (fun (c2 : (I 13 1) = 0) => ?_) (fun (c2 : ¬ (I 13 1) = 0) => ?_)
    · skip
      have hC3 : CA w 32 m0 B h (I, Q, Z) := ⟨X, ow, sb, hS, hD, hB, hQ⟩
      have hms : mdB 1 2 (I, Q, Z) = (I, Q, Z) := if_neg (fun z => z.1.elim (fun y => y b12) (fun y => y c2))
      exact K _ (by rw [hms]; exact CA_le hC3 (by omega))
    · skip
      refine go_s (pc' := 47) rfl rfl rfl rfl ?_
      refine go_callV (pc' := 48) rfl rfl rfl (Nat.le_of_ble_eq_true rfl) rfl (sm_o hS rfl) rfl rfl rfl (ct_oh_1 hS (by omega)) (fun r h4 q5 => ?_)
      obtain ⟨rfl, rfl⟩ := q5
      refine go_s (pc' := 49) rfl rfl rfl rfl ?_
      refine go_icmpP (t' := 55) (pc' := 50) rfl rfl rfl (fun (c6 : ¬ (ohI I 1) = 2) => ?_) (fun (c6' : ¬ ¬ (ohI I 1) = 2) => ?_)
      · skip
        have hC7 : CA w 32 m0 B h4 (I, Q, Z) := ⟨X, ow, sb, hS, hD, hB, hQ⟩
        have hms : mdB 1 2 (I, Q, Z) = (I, Q, Z) := if_neg (fun z => c6 z.2)
        exact K _ (by rw [hms]; exact CA_le hC7 (by omega))
      · skip
        have c6 : (ohI I 1) = 2 := Decidable.not_not.mp c6'
        refine go_s (pc' := 51) rfl rfl rfl rfl ?_
        refine go_callV (pc' := 52) rfl rfl rfl (Nat.le_of_ble_eq_true rfl) rfl (sm_o hS rfl) rfl rfl rfl (ct_drop_1 hS hW (by omega)) (fun r h8 q9 => ?_)
        obtain ⟨rfl, hS10, hE11⟩ := q9
        have hF12 := fr_trans hF1 (fr_e hE11)
        refine go_s (pc' := 53) rfl rfl rfl rfl ?_
        refine go_s (pc' := 54) rfl rfl rfl rfl ?_
        have hD9 : CD w 32 m0 h8 (mdrp 1 (I, Q, Z)).1 Q Z (uX X 207 1 (.int 0)) ow sb := CD_bk (k := 1) (v := -1) (f := 0) (CD_I (J := uI I 13 1 0) (CD_fr hD hF12) ⟨rfl, rfl, rfl, rfl, rfl, rfl, rfl, rfl, rfl, rfl, rfl, rfl, rfl, rfl, rfl⟩) rfl
        have hC8 : CA w 32 m0 B h8 (uI (uI I 13 1 0) 12 1 (-1), Q, Z) := ⟨(uX X 207 1 (.int 0)), ow, sb, sm_12 hS10 rfl, hD9, by have := co_fr (I := I) (J := (mdrp 1 (I, Q, Z)).1) hF12 rfl; show co _ (mdrp 1 (I, Q, Z)).1 ≤ B; omega, fun l hl => Nat.le_trans (hQ l hl) hF12.1⟩
        refine go_callV (pc' := 55) rfl rfl rfl (Nat.le_of_ble_eq_true rfl) rfl (sm_o hS10 rfl) rfl rfl rfl (cm_stw_1 hC8 (by omega) (fun z => hT.2 (by decide) z) (by omega)) (fun r h13 q14 => ?_)
        obtain ⟨rfl, hC9⟩ := q14
        have hms : mdB 1 2 (I, Q, Z) = mstw 1 (mdrp 1 (I, Q, Z)) := if_pos ⟨Or.inr c2, c6⟩
        exact K _ (by rw [hms]; exact hC9)
  · skip
    rw [if_neg b12] at h207
    refine go_s (pc' := 36) rfl rfl rfl rfl ?_
    refine go_sget (pc' := 37) (v := .ref 61) hS rfl rfl rfl (by decide) rfl rfl ?_
    refine go_s (pc' := 38) rfl rfl rfl rfl ?_
    refine go_sald (pc' := 39) (q := 1) (v := .ref 59) hS rfl rfl rfl rfl (by decide) rfl rfl ?_
    refine go_s (pc' := 40) (lo' := [some (.ref 1), some (.int 2), some (.int 1), some (.ref 59)]) rfl rfl rfl rfl ?_
    refine go_s (pc' := 41) rfl rfl rfl rfl ?_
    refine go_sget (pc' := 42) (v := .int 1) hS rfl rfl rfl (by decide) h207 rfl ?_
    refine go_ifP (t' := 46) (pc' := 43) rfl rfl rfl (fun _ => ?_) (fun (c : ¬ (¬ (1 : Int32) = 0)) => absurd (by decide) c)
    refine go_s (pc' := 47) rfl rfl rfl rfl ?_
    refine go_callV (pc' := 48) rfl rfl rfl (Nat.le_of_ble_eq_true rfl) rfl (sm_o hS rfl) rfl rfl rfl (ct_oh_1 hS (by omega)) (fun r h15 q16 => ?_)
    obtain ⟨rfl, rfl⟩ := q16
    refine go_s (pc' := 49) rfl rfl rfl rfl ?_
    refine go_icmpP (t' := 55) (pc' := 50) rfl rfl rfl (fun (c17 : ¬ (ohI I 1) = 2) => ?_) (fun (c17' : ¬ ¬ (ohI I 1) = 2) => ?_)
    · skip
      have hC18 : CA w 32 m0 B h15 (I, Q, Z) := ⟨X, ow, sb, hS, hD, hB, hQ⟩
      have hms : mdB 1 2 (I, Q, Z) = (I, Q, Z) := if_neg (fun z => c17 z.2)
      exact K _ (by rw [hms]; exact CA_le hC18 (by omega))
    · skip
      have c17 : (ohI I 1) = 2 := Decidable.not_not.mp c17'
      refine go_s (pc' := 51) rfl rfl rfl rfl ?_
      refine go_callV (pc' := 52) rfl rfl rfl (Nat.le_of_ble_eq_true rfl) rfl (sm_o hS rfl) rfl rfl rfl (ct_drop_1 hS hW (by omega)) (fun r h19 q20 => ?_)
      obtain ⟨rfl, hS21, hE22⟩ := q20
      have hF23 := fr_trans hF1 (fr_e hE22)
      refine go_s (pc' := 53) rfl rfl rfl rfl ?_
      refine go_s (pc' := 54) rfl rfl rfl rfl ?_
      have hD9 : CD w 32 m0 h19 (mdrp 1 (I, Q, Z)).1 Q Z (uX X 207 1 (.int 0)) ow sb := CD_bk (k := 1) (v := -1) (f := 0) (CD_I (J := uI I 13 1 0) (CD_fr hD hF23) ⟨rfl, rfl, rfl, rfl, rfl, rfl, rfl, rfl, rfl, rfl, rfl, rfl, rfl, rfl, rfl⟩) rfl
      have hC8 : CA w 32 m0 B h19 (uI (uI I 13 1 0) 12 1 (-1), Q, Z) := ⟨(uX X 207 1 (.int 0)), ow, sb, sm_12 hS21 rfl, hD9, by have := co_fr (I := I) (J := (mdrp 1 (I, Q, Z)).1) hF23 rfl; show co _ (mdrp 1 (I, Q, Z)).1 ≤ B; omega, fun l hl => Nat.le_trans (hQ l hl) hF23.1⟩
      refine go_callV (pc' := 55) rfl rfl rfl (Nat.le_of_ble_eq_true rfl) rfl (sm_o hS21 rfl) rfl rfl rfl (cm_stw_1 hC8 (by omega) (fun z => hT.2 (by decide) z) (by omega)) (fun r h24 q25 => ?_)
      obtain ⟨rfl, hC9⟩ := q25
      have hms : mdB 1 2 (I, Q, Z) = mstw 1 (mdrp 1 (I, Q, Z)) := if_pos ⟨Or.inl b12, c17⟩
      exact K _ (by rw [hms]; exact hC9)
theorem dA_2_2 {w : Nat → Bool} {d : Nat} {h : am_Hp} {m0 : mg} {B : Nat} {I : sm_I} {Q : mQ} {Z : mZ} (hC : CA w 32 m0 B h (I, Q, Z)) {P : Option Value → am_Hp → Prop} (hd : 6 ≤ d) (hB2 : B < 2 ^ 26) (hR : RPH 2 2 (I, Q, Z)) (K : ∀ h', CA w 32 m0 (B + 40) h' (mdA 2 2 (I, Q, Z)) → am_Go (am_prog w) d am_c32 none 26 [some (.ref 1), some (.int 2), some (.int 2), none] [] h' P) : am_Go (am_prog w) d am_c32 none 13 [some (.ref 1), some (.int 2), some (.int 2), none] [] h P := by
  obtain ⟨X, ow, sb, hS, hD, hB, hQ⟩ := hC
  change sm tbc h I X at hS
  change CD w 32 m0 h I Q Z X ow sb at hD
  change co h I ≤ B at hB
  change ∀ l, l < 16 → (Q l).length ≤ h.length at hQ
  have hW := hD.1.1
  have hWn : ∀ a, List.length h ≤ a → w a = true := fun a ha => (hD.1.2.1 a ha).1
  have hF1 := fr_refl tbc h
  have hln : 62 ≤ List.length h := sm_len hS
  refine go_s (pc' := 14) rfl rfl rfl rfl ?_
  refine go_sget (pc' := 15) (v := .ref 61) hS rfl rfl rfl (by decide) rfl rfl ?_
  refine go_s (pc' := 16) rfl rfl rfl rfl ?_
  refine go_sald (pc' := 17) (q := 2) (v := .ref 60) hS rfl rfl rfl rfl (by decide) rfl rfl ?_
  refine go_sget (pc' := 18) (v := .int (I 11 2)) hS rfl rfl rfl (by decide) rfl rfl ?_
  refine go_s (pc' := 19) rfl rfl rfl rfl ?_
  refine go_icmpP (t' := 26) (pc' := 20) rfl rfl rfl (fun (c2 : ¬ (I 11 2) = 2) => ?_) (fun (c2' : ¬ ¬ (I 11 2) = 2) => ?_)
  · skip
    have hC3 : CA w 32 m0 B h (I, Q, Z) := ⟨X, ow, sb, hS, hD, hB, hQ⟩
    have hms : mdA 2 2 (I, Q, Z) = (I, Q, Z) := if_neg c2
    exact K _ (by rw [hms]; exact CA_le hC3 (by omega))
  · skip
    have c2 : (I 11 2) = 2 := Decidable.not_not.mp c2'
    refine go_s (pc' := 21) rfl rfl rfl rfl ?_
    refine go_s (pc' := 22) rfl rfl rfl rfl ?_
    refine go_sget (pc' := 23) (v := .ref 61) hS rfl rfl rfl (by decide) rfl rfl ?_
    refine go_s (pc' := 24) rfl rfl rfl rfl ?_
    refine go_sald (pc' := 25) (q := 2) (v := .ref 60) hS rfl rfl rfl rfl (by decide) rfl rfl ?_
    have hC4 : CA w 32 m0 B h (I, Q, Z) := ⟨X, ow, sb, hS, hD, hB, hQ⟩
    refine go_callV (pc' := 26) rfl rfl rfl (Nat.le_of_ble_eq_true rfl) rfl (sm_o hS rfl) rfl rfl rfl (cm_rpl_2_2 hC4 (by omega) hR c2 (by omega)) (fun r h5 q6 => ?_)
    obtain ⟨rfl, hC9⟩ := q6
    have hms : mdA 2 2 (I, Q, Z) = mrpl 2 (I, Q, Z) := if_pos c2
    exact K _ (by rw [hms]; exact hC9)
theorem dB_2_2 {w : Nat → Bool} {d : Nat} {h : am_Hp} {m0 : mg} {B : Nat} {I : sm_I} {Q : mQ} {Z : mZ} (hC : CA w 32 m0 B h (I, Q, Z)) {P : Option Value → am_Hp → Prop} (hd : 6 ≤ d) (hB2 : B < 2 ^ 26) (hT : STH 2 (mdrp 2 (I, Q, Z))) (K : ∀ h', CA w 32 m0 (B + 20) h' (mdB 2 2 (I, Q, Z)) → am_Go (am_prog w) d am_c32 none 55 [some (.ref 1), some (.int 2), some (.int 2), some (.ref 60)] [] h' P) : am_Go (am_prog w) d am_c32 none 35 [some (.ref 1), some (.int 2), some (.int 2), some (.ref 59)] [] h P := by
  obtain ⟨X, ow, sb, hS, hD, hB, hQ⟩ := hC
  change sm tbc h I X at hS
  change CD w 32 m0 h I Q Z X ow sb at hD
  change co h I ≤ B at hB
  change ∀ l, l < 16 → (Q l).length ≤ h.length at hQ
  have hW := hD.1.1
  have hWn : ∀ a, List.length h ≤ a → w a = true := fun a ha => (hD.1.2.1 a ha).1
  have hF1 := fr_refl tbc h
  have hln : 62 ≤ List.length h := sm_len hS
  have h207 := hD.2.2.2.1.2.2 2 (by decide)
  by_cases b12 : I 12 2 = -1
  · skip
    rw [if_pos b12] at h207
    refine go_s (pc' := 36) rfl rfl rfl rfl ?_
    refine go_sget (pc' := 37) (v := .ref 61) hS rfl rfl rfl (by decide) rfl rfl ?_
    refine go_s (pc' := 38) rfl rfl rfl rfl ?_
    refine go_sald (pc' := 39) (q := 2) (v := .ref 60) hS rfl rfl rfl rfl (by decide) rfl rfl ?_
    refine go_s (pc' := 40) (lo' := [some (.ref 1), some (.int 2), some (.int 2), some (.ref 60)]) rfl rfl rfl rfl ?_
    refine go_s (pc' := 41) rfl rfl rfl rfl ?_
    refine go_sget (pc' := 42) (v := .int 0) hS rfl rfl rfl (by decide) h207 rfl ?_
    refine go_ifP (t' := 46) (pc' := 43) rfl rfl rfl (fun (c : ¬ (0 : Int32) = 0) => absurd c (by decide)) (fun _ => ?_)
    refine go_s (pc' := 44) rfl rfl rfl rfl ?_
    refine go_sget (pc' := 45) (v := .int (I 13 2)) hS rfl rfl rfl (by decide) rfl rfl ?_
    refine go_ifP (t' := 55) (pc' := 46) rfl rfl rfl (fun (c2 : (I 13 2) = 0) => ?_) (fun (c2 : ¬ (I 13 2) = 0) => ?_)
    · skip
      have hC3 : CA w 32 m0 B h (I, Q, Z) := ⟨X, ow, sb, hS, hD, hB, hQ⟩
      have hms : mdB 2 2 (I, Q, Z) = (I, Q, Z) := if_neg (fun z => z.1.elim (fun y => y b12) (fun y => y c2))
      exact K _ (by rw [hms]; exact CA_le hC3 (by omega))
    · skip
      refine go_s (pc' := 47) rfl rfl rfl rfl ?_
      refine go_callV (pc' := 48) rfl rfl rfl (Nat.le_of_ble_eq_true rfl) rfl (sm_o hS rfl) rfl rfl rfl (ct_oh_2 hS (by omega)) (fun r h4 q5 => ?_)
      obtain ⟨rfl, rfl⟩ := q5
      refine go_s (pc' := 49) rfl rfl rfl rfl ?_
      refine go_icmpP (t' := 55) (pc' := 50) rfl rfl rfl (fun (c6 : ¬ (ohI I 2) = 2) => ?_) (fun (c6' : ¬ ¬ (ohI I 2) = 2) => ?_)
      · skip
        have hC7 : CA w 32 m0 B h4 (I, Q, Z) := ⟨X, ow, sb, hS, hD, hB, hQ⟩
        have hms : mdB 2 2 (I, Q, Z) = (I, Q, Z) := if_neg (fun z => c6 z.2)
        exact K _ (by rw [hms]; exact CA_le hC7 (by omega))
      · skip
        have c6 : (ohI I 2) = 2 := Decidable.not_not.mp c6'
        refine go_s (pc' := 51) rfl rfl rfl rfl ?_
        refine go_callV (pc' := 52) rfl rfl rfl (Nat.le_of_ble_eq_true rfl) rfl (sm_o hS rfl) rfl rfl rfl (ct_drop_2 hS hW (by omega)) (fun r h8 q9 => ?_)
        obtain ⟨rfl, hS10, hE11⟩ := q9
        have hF12 := fr_trans hF1 (fr_e hE11)
        refine go_s (pc' := 53) rfl rfl rfl rfl ?_
        refine go_s (pc' := 54) rfl rfl rfl rfl ?_
        have hD9 : CD w 32 m0 h8 (mdrp 2 (I, Q, Z)).1 Q Z (uX X 207 2 (.int 0)) ow sb := CD_bk (k := 2) (v := -1) (f := 0) (CD_I (J := uI I 13 2 0) (CD_fr hD hF12) ⟨rfl, rfl, rfl, rfl, rfl, rfl, rfl, rfl, rfl, rfl, rfl, rfl, rfl, rfl, rfl⟩) rfl
        have hC8 : CA w 32 m0 B h8 (uI (uI I 13 2 0) 12 2 (-1), Q, Z) := ⟨(uX X 207 2 (.int 0)), ow, sb, sm_12 hS10 rfl, hD9, by have := co_fr (I := I) (J := (mdrp 2 (I, Q, Z)).1) hF12 rfl; show co _ (mdrp 2 (I, Q, Z)).1 ≤ B; omega, fun l hl => Nat.le_trans (hQ l hl) hF12.1⟩
        refine go_callV (pc' := 55) rfl rfl rfl (Nat.le_of_ble_eq_true rfl) rfl (sm_o hS10 rfl) rfl rfl rfl (cm_stw_2 hC8 (by omega) (fun z => hT.2 (by decide) z) (by omega)) (fun r h13 q14 => ?_)
        obtain ⟨rfl, hC9⟩ := q14
        have hms : mdB 2 2 (I, Q, Z) = mstw 2 (mdrp 2 (I, Q, Z)) := if_pos ⟨Or.inr c2, c6⟩
        exact K _ (by rw [hms]; exact hC9)
  · skip
    rw [if_neg b12] at h207
    refine go_s (pc' := 36) rfl rfl rfl rfl ?_
    refine go_sget (pc' := 37) (v := .ref 61) hS rfl rfl rfl (by decide) rfl rfl ?_
    refine go_s (pc' := 38) rfl rfl rfl rfl ?_
    refine go_sald (pc' := 39) (q := 2) (v := .ref 60) hS rfl rfl rfl rfl (by decide) rfl rfl ?_
    refine go_s (pc' := 40) (lo' := [some (.ref 1), some (.int 2), some (.int 2), some (.ref 60)]) rfl rfl rfl rfl ?_
    refine go_s (pc' := 41) rfl rfl rfl rfl ?_
    refine go_sget (pc' := 42) (v := .int 1) hS rfl rfl rfl (by decide) h207 rfl ?_
    refine go_ifP (t' := 46) (pc' := 43) rfl rfl rfl (fun _ => ?_) (fun (c : ¬ (¬ (1 : Int32) = 0)) => absurd (by decide) c)
    refine go_s (pc' := 47) rfl rfl rfl rfl ?_
    refine go_callV (pc' := 48) rfl rfl rfl (Nat.le_of_ble_eq_true rfl) rfl (sm_o hS rfl) rfl rfl rfl (ct_oh_2 hS (by omega)) (fun r h15 q16 => ?_)
    obtain ⟨rfl, rfl⟩ := q16
    refine go_s (pc' := 49) rfl rfl rfl rfl ?_
    refine go_icmpP (t' := 55) (pc' := 50) rfl rfl rfl (fun (c17 : ¬ (ohI I 2) = 2) => ?_) (fun (c17' : ¬ ¬ (ohI I 2) = 2) => ?_)
    · skip
      have hC18 : CA w 32 m0 B h15 (I, Q, Z) := ⟨X, ow, sb, hS, hD, hB, hQ⟩
      have hms : mdB 2 2 (I, Q, Z) = (I, Q, Z) := if_neg (fun z => c17 z.2)
      exact K _ (by rw [hms]; exact CA_le hC18 (by omega))
    · skip
      have c17 : (ohI I 2) = 2 := Decidable.not_not.mp c17'
      refine go_s (pc' := 51) rfl rfl rfl rfl ?_
      refine go_callV (pc' := 52) rfl rfl rfl (Nat.le_of_ble_eq_true rfl) rfl (sm_o hS rfl) rfl rfl rfl (ct_drop_2 hS hW (by omega)) (fun r h19 q20 => ?_)
      obtain ⟨rfl, hS21, hE22⟩ := q20
      have hF23 := fr_trans hF1 (fr_e hE22)
      refine go_s (pc' := 53) rfl rfl rfl rfl ?_
      refine go_s (pc' := 54) rfl rfl rfl rfl ?_
      have hD9 : CD w 32 m0 h19 (mdrp 2 (I, Q, Z)).1 Q Z (uX X 207 2 (.int 0)) ow sb := CD_bk (k := 2) (v := -1) (f := 0) (CD_I (J := uI I 13 2 0) (CD_fr hD hF23) ⟨rfl, rfl, rfl, rfl, rfl, rfl, rfl, rfl, rfl, rfl, rfl, rfl, rfl, rfl, rfl⟩) rfl
      have hC8 : CA w 32 m0 B h19 (uI (uI I 13 2 0) 12 2 (-1), Q, Z) := ⟨(uX X 207 2 (.int 0)), ow, sb, sm_12 hS21 rfl, hD9, by have := co_fr (I := I) (J := (mdrp 2 (I, Q, Z)).1) hF23 rfl; show co _ (mdrp 2 (I, Q, Z)).1 ≤ B; omega, fun l hl => Nat.le_trans (hQ l hl) hF23.1⟩
      refine go_callV (pc' := 55) rfl rfl rfl (Nat.le_of_ble_eq_true rfl) rfl (sm_o hS21 rfl) rfl rfl rfl (cm_stw_2 hC8 (by omega) (fun z => hT.2 (by decide) z) (by omega)) (fun r h24 q25 => ?_)
      obtain ⟨rfl, hC9⟩ := q25
      have hms : mdB 2 2 (I, Q, Z) = mstw 2 (mdrp 2 (I, Q, Z)) := if_pos ⟨Or.inl b12, c17⟩
      exact K _ (by rw [hms]; exact hC9)
def DCH2 (M : mM) : Prop := RPH 0 2 ((uI M.1 1 2 1, M.2) : mM) ∧ RPH 1 2 (mdA 0 2 ((uI M.1 1 2 1, M.2) : mM)) ∧ RPH 2 2 (mdA 1 2 (mdA 0 2 ((uI M.1 1 2 1, M.2) : mM))) ∧ STH 0 (mdrp 0 (mdA 2 2 (mdA 1 2 (mdA 0 2 ((uI M.1 1 2 1, M.2) : mM))))) ∧ STH 1 (mdrp 1 (mdB 0 2 (mdA 2 2 (mdA 1 2 (mdA 0 2 ((uI M.1 1 2 1, M.2) : mM)))))) ∧ STH 2 (mdrp 2 (mdB 1 2 (mdB 0 2 (mdA 2 2 (mdA 1 2 (mdA 0 2 ((uI M.1 1 2 1, M.2) : mM)))))))
theorem cm_dc_2 {w : Nat → Bool} {d : Nat} {h : am_Hp} {m0 : mg} {B : Nat} {I : sm_I} {Q : mQ} {Z : mZ} (hC : CA w 32 m0 B h (I, Q, Z)) (hB2 : B < 2 ^ 25) (hH : DCH2 (I, Q, Z)) (hd : 7 ≤ d) : am_Ev (am_prog w) d 32 [.ref 1, .int 2] h (fun r h' => r = none ∧ CA w 32 m0 (B + 180) h' (mdc 2 (I, Q, Z))) := by
  obtain ⟨hA0, hA1, hA2, hB0, hB1, hB2x⟩ := hH
  obtain ⟨X, ow, sb, hS, hD, hB, hQ⟩ := hC
  change sm tbc h I X at hS
  change CD w 32 m0 h I Q Z X ow sb at hD
  change co h I ≤ B at hB
  change ∀ l, l < 16 → (Q l).length ≤ h.length at hQ
  have hW := hD.1.1
  have hWn : ∀ a, List.length h ≤ a → w a = true := fun a ha => (hD.1.2.1 a ha).1
  have hF1 := fr_refl tbc h
  have hln : 62 ≤ List.length h := sm_len hS
  obtain ⟨d, rfl⟩ : ∃ e, d = e + 1 := ⟨d - 1, by omega⟩
  refine ev_go rfl (Nat.le_of_ble_eq_true rfl) rfl ?_
  refine go_s (pc' := 1) rfl rfl rfl rfl ?_
  refine go_sget (pc' := 2) (v := .ref 2) hS rfl rfl rfl (by decide) rfl rfl ?_
  refine go_sget (pc' := 3) (v := .ref 4) hS rfl rfl rfl (by decide) rfl rfl ?_
  refine go_s (pc' := 4) rfl rfl rfl rfl ?_
  refine go_s (pc' := 5) (st' := [.int 1, .int 2, .ref 4]) rfl rfl rfl rfl ?_
  refine go_szast (pc' := 6) (q := 2) hS rfl rfl tbc_inj (Nat.le_of_ble_eq_true rfl) rfl (by decide) (by decide) rfl (hW _ rfl) rfl (fun h2 hS3 hE4 => ?_)
  have hF5 := fr_trans hF1 (fr_e hE4)
  refine go_s (pc' := 7) (st' := [.int 0]) rfl rfl rfl rfl ?_
  refine go_s (pc' := 8) (lo' := [some (.ref 1), some (.int 2), some (.int 0), none]) rfl rfl rfl rfl ?_
  refine go_s (pc' := 9) rfl rfl rfl rfl ?_
  refine go_s (pc' := 10) rfl rfl rfl rfl ?_
  refine go_sget (pc' := 11) (v := .ref 61) hS3 rfl rfl rfl (by decide) rfl rfl ?_
  refine go_salen (pc' := 12) (n := 3) hS3 rfl rfl rfl rfl ?_
  refine go_icmpP (t' := 28) (pc' := 13) rfl rfl rfl (fun (c : 3 ≤ (0 : Int32)) => absurd c (by decide)) (fun _ => ?_)
  have hD6 : CD w 32 m0 h2 ((uI I 1 2 1, Q, Z) : mM).1 ((uI I 1 2 1, Q, Z) : mM).2.1 ((uI I 1 2 1, Q, Z) : mM).2.2 (X) ow sb := CD_I (J := uI I 1 2 1) (CD_fr hD hF5) ⟨rfl, rfl, rfl, rfl, rfl, rfl, rfl, rfl, rfl, rfl, rfl, rfl, rfl, rfl, rfl⟩
  have hS9 : sm tbc h2 ((uI I 1 2 1, Q, Z) : mM).1 (X) := hS3
  have hB7 : co h2 ((uI I 1 2 1, Q, Z) : mM).1 ≤ B := by
    have z1 := co_fr (I := I) (J := ((uI I 1 2 1, Q, Z) : mM).1) hF5 rfl
    have z2 := hB
    omega
  have hQ8 : ∀ l, l < 16 → (((uI I 1 2 1, Q, Z) : mM).2.1 l).length ≤ List.length h2 := fun l hl => Nat.le_trans (hQ l hl) hF5.1
  obtain ⟨X10, eX10⟩ : ∃ y, y = (X) := ⟨_, rfl⟩
  rw [← eX10] at hD6 hS9
  obtain ⟨M11, eM11⟩ : ∃ y : mM, y = ((uI I 1 2 1, Q, Z) : mM) := ⟨_, rfl⟩
  rw [← eM11] at hD6 hS9 hB7 hQ8
  obtain ⟨I11, Q11, Z11⟩ := M11
  change CD w 32 m0 h2 I11 Q11 Z11 X10 ow sb at hD6
  change sm tbc h2 I11 X10 at hS9
  change co h2 I11 ≤ B at hB7
  change ∀ l, l < 16 → (Q11 l).length ≤ List.length h2 at hQ8
  have hW := hD6.1.1
  have hWn : ∀ a, List.length h2 ≤ a → w a = true := fun a ha => (hD6.1.2.1 a ha).1
  have hF12 := fr_refl tbc h2
  have hln : 62 ≤ List.length h2 := sm_len hS9
  have hC13 : CA w 32 m0 B h2 (I11, Q11, Z11) := ⟨X10, ow, sb, hS9, hD6, hB7, hQ8⟩
  refine dA_0_2 (I := I11) (Q := Q11) (Z := Z11) hC13 (by omega) (by omega) (by rw [eM11]; exact hA0) (fun h15 hC14 => ?_)
  change CA w 32 m0 (B + 40) h15 (mdA 0 2 (I11, Q11, Z11)) at hC14
  obtain ⟨M16, eM16⟩ : ∃ y : mM, y = (mdA 0 2 (I11, Q11, Z11)) := ⟨_, rfl⟩
  rw [← eM16] at hC14
  obtain ⟨I16, Q16, Z16⟩ := M16
  obtain ⟨X17, ow17, sb17, hS17, hD17, hB17, hQ17⟩ := hC14
  have hW := hD17.1.1
  have hWn : ∀ a, List.length h15 ≤ a → w a = true := fun a ha => (hD17.1.2.1 a ha).1
  have hF18 := fr_refl tbc h15
  have hln : 62 ≤ List.length h15 := sm_len hS17
  change CD w 32 m0 h15 I16 Q16 Z16 X17 ow17 sb17 at hD17
  change sm tbc h15 I16 X17 at hS17
  change co h15 I16 ≤ (B + 40) at hB17
  change ∀ l, l < 16 → (Q16 l).length ≤ List.length h15 at hQ17
  have hW := hD17.1.1
  have hWn : ∀ a, List.length h15 ≤ a → w a = true := fun a ha => (hD17.1.2.1 a ha).1
  have hF19 := fr_refl tbc h15
  have hln : 62 ≤ List.length h15 := sm_len hS17
  refine go_s (pc' := 27) (lo' := [some (.ref 1), some (.int 2), some (.int 1), none]) rfl rfl rfl rfl ?_
  refine go_s (pc' := 8) rfl rfl rfl rfl ?_
  refine go_s (pc' := 9) rfl rfl rfl rfl ?_
  refine go_s (pc' := 10) rfl rfl rfl rfl ?_
  refine go_sget (pc' := 11) (v := .ref 61) hS17 rfl rfl rfl (by decide) rfl rfl ?_
  refine go_salen (pc' := 12) (n := 3) hS17 rfl rfl rfl rfl ?_
  refine go_icmpP (t' := 28) (pc' := 13) rfl rfl rfl (fun (c : 3 ≤ (1 : Int32)) => absurd c (by decide)) (fun _ => ?_)
  have hC20 : CA w 32 m0 (B + 40) h15 (I16, Q16, Z16) := ⟨X17, ow17, sb17, hS17, hD17, hB17, hQ17⟩
  refine dA_1_2 (I := I16) (Q := Q16) (Z := Z16) hC20 (by omega) (by omega) (by rw [eM16, eM11]; exact hA1) (fun h22 hC21 => ?_)
  change CA w 32 m0 ((B + 40) + 40) h22 (mdA 1 2 (I16, Q16, Z16)) at hC21
  obtain ⟨M23, eM23⟩ : ∃ y : mM, y = (mdA 1 2 (I16, Q16, Z16)) := ⟨_, rfl⟩
  rw [← eM23] at hC21
  obtain ⟨I23, Q23, Z23⟩ := M23
  obtain ⟨X24, ow24, sb24, hS24, hD24, hB24, hQ24⟩ := hC21
  have hW := hD24.1.1
  have hWn : ∀ a, List.length h22 ≤ a → w a = true := fun a ha => (hD24.1.2.1 a ha).1
  have hF25 := fr_refl tbc h22
  have hln : 62 ≤ List.length h22 := sm_len hS24
  change CD w 32 m0 h22 I23 Q23 Z23 X24 ow24 sb24 at hD24
  change sm tbc h22 I23 X24 at hS24
  change co h22 I23 ≤ ((B + 40) + 40) at hB24
  change ∀ l, l < 16 → (Q23 l).length ≤ List.length h22 at hQ24
  have hW := hD24.1.1
  have hWn : ∀ a, List.length h22 ≤ a → w a = true := fun a ha => (hD24.1.2.1 a ha).1
  have hF26 := fr_refl tbc h22
  have hln : 62 ≤ List.length h22 := sm_len hS24
  refine go_s (pc' := 27) (lo' := [some (.ref 1), some (.int 2), some (.int 2), none]) rfl rfl rfl rfl ?_
  refine go_s (pc' := 8) rfl rfl rfl rfl ?_
  refine go_s (pc' := 9) rfl rfl rfl rfl ?_
  refine go_s (pc' := 10) rfl rfl rfl rfl ?_
  refine go_sget (pc' := 11) (v := .ref 61) hS24 rfl rfl rfl (by decide) rfl rfl ?_
  refine go_salen (pc' := 12) (n := 3) hS24 rfl rfl rfl rfl ?_
  refine go_icmpP (t' := 28) (pc' := 13) rfl rfl rfl (fun (c : 3 ≤ (2 : Int32)) => absurd c (by decide)) (fun _ => ?_)
  have hC27 : CA w 32 m0 ((B + 40) + 40) h22 (I23, Q23, Z23) := ⟨X24, ow24, sb24, hS24, hD24, hB24, hQ24⟩
  refine dA_2_2 (I := I23) (Q := Q23) (Z := Z23) hC27 (by omega) (by omega) (by rw [eM23, eM16, eM11]; exact hA2) (fun h29 hC28 => ?_)
  change CA w 32 m0 (((B + 40) + 40) + 40) h29 (mdA 2 2 (I23, Q23, Z23)) at hC28
  obtain ⟨M30, eM30⟩ : ∃ y : mM, y = (mdA 2 2 (I23, Q23, Z23)) := ⟨_, rfl⟩
  rw [← eM30] at hC28
  obtain ⟨I30, Q30, Z30⟩ := M30
  obtain ⟨X31, ow31, sb31, hS31, hD31, hB31, hQ31⟩ := hC28
  have hW := hD31.1.1
  have hWn : ∀ a, List.length h29 ≤ a → w a = true := fun a ha => (hD31.1.2.1 a ha).1
  have hF32 := fr_refl tbc h29
  have hln : 62 ≤ List.length h29 := sm_len hS31
  change CD w 32 m0 h29 I30 Q30 Z30 X31 ow31 sb31 at hD31
  change sm tbc h29 I30 X31 at hS31
  change co h29 I30 ≤ (((B + 40) + 40) + 40) at hB31
  change ∀ l, l < 16 → (Q30 l).length ≤ List.length h29 at hQ31
  have hW := hD31.1.1
  have hWn : ∀ a, List.length h29 ≤ a → w a = true := fun a ha => (hD31.1.2.1 a ha).1
  have hF33 := fr_refl tbc h29
  have hln : 62 ≤ List.length h29 := sm_len hS31
  refine go_s (pc' := 27) (lo' := [some (.ref 1), some (.int 2), some (.int 3), none]) rfl rfl rfl rfl ?_
  refine go_s (pc' := 8) rfl rfl rfl rfl ?_
  refine go_s (pc' := 9) rfl rfl rfl rfl ?_
  refine go_s (pc' := 10) rfl rfl rfl rfl ?_
  refine go_sget (pc' := 11) (v := .ref 61) hS31 rfl rfl rfl (by decide) rfl rfl ?_
  refine go_salen (pc' := 12) (n := 3) hS31 rfl rfl rfl rfl ?_
  refine go_icmpP (t' := 28) (pc' := 13) rfl rfl rfl (fun _ => ?_) (fun (c : ¬ (3 ≤ (3 : Int32))) => absurd (by decide) c)
  refine go_s (pc' := 29) (st' := [.int 0]) rfl rfl rfl rfl ?_
  refine go_s (pc' := 30) (lo' := [some (.ref 1), some (.int 2), some (.int 0), none]) rfl rfl rfl rfl ?_
  refine go_s (pc' := 31) rfl rfl rfl rfl ?_
  refine go_s (pc' := 32) rfl rfl rfl rfl ?_
  refine go_sget (pc' := 33) (v := .ref 61) hS31 rfl rfl rfl (by decide) rfl rfl ?_
  refine go_salen (pc' := 34) (n := 3) hS31 rfl rfl rfl rfl ?_
  refine go_icmpP (t' := 57) (pc' := 35) rfl rfl rfl (fun (c : 3 ≤ (0 : Int32)) => absurd c (by decide)) (fun _ => ?_)
  have hC34 : CA w 32 m0 (((B + 40) + 40) + 40) h29 (I30, Q30, Z30) := ⟨X31, ow31, sb31, hS31, hD31, hB31, hQ31⟩
  refine dB_0_2 (I := I30) (Q := Q30) (Z := Z30) hC34 (by omega) (by omega) (by rw [eM30, eM23, eM16, eM11]; exact hB0) (fun h36 hC35 => ?_)
  change CA w 32 m0 ((((B + 40) + 40) + 40) + 20) h36 (mdB 0 2 (I30, Q30, Z30)) at hC35
  obtain ⟨M37, eM37⟩ : ∃ y : mM, y = (mdB 0 2 (I30, Q30, Z30)) := ⟨_, rfl⟩
  rw [← eM37] at hC35
  obtain ⟨I37, Q37, Z37⟩ := M37
  obtain ⟨X38, ow38, sb38, hS38, hD38, hB38, hQ38⟩ := hC35
  have hW := hD38.1.1
  have hWn : ∀ a, List.length h36 ≤ a → w a = true := fun a ha => (hD38.1.2.1 a ha).1
  have hF39 := fr_refl tbc h36
  have hln : 62 ≤ List.length h36 := sm_len hS38
  change CD w 32 m0 h36 I37 Q37 Z37 X38 ow38 sb38 at hD38
  change sm tbc h36 I37 X38 at hS38
  change co h36 I37 ≤ ((((B + 40) + 40) + 40) + 20) at hB38
  change ∀ l, l < 16 → (Q37 l).length ≤ List.length h36 at hQ38
  have hW := hD38.1.1
  have hWn : ∀ a, List.length h36 ≤ a → w a = true := fun a ha => (hD38.1.2.1 a ha).1
  have hF40 := fr_refl tbc h36
  have hln : 62 ≤ List.length h36 := sm_len hS38
  refine go_s (pc' := 56) (lo' := [some (.ref 1), some (.int 2), some (.int 1), some (.ref 32)]) rfl rfl rfl rfl ?_
  refine go_s (pc' := 30) rfl rfl rfl rfl ?_
  refine go_s (pc' := 31) rfl rfl rfl rfl ?_
  refine go_s (pc' := 32) rfl rfl rfl rfl ?_
  refine go_sget (pc' := 33) (v := .ref 61) hS38 rfl rfl rfl (by decide) rfl rfl ?_
  refine go_salen (pc' := 34) (n := 3) hS38 rfl rfl rfl rfl ?_
  refine go_icmpP (t' := 57) (pc' := 35) rfl rfl rfl (fun (c : 3 ≤ (1 : Int32)) => absurd c (by decide)) (fun _ => ?_)
  have hC41 : CA w 32 m0 ((((B + 40) + 40) + 40) + 20) h36 (I37, Q37, Z37) := ⟨X38, ow38, sb38, hS38, hD38, hB38, hQ38⟩
  refine dB_1_2 (I := I37) (Q := Q37) (Z := Z37) hC41 (by omega) (by omega) (by rw [eM37, eM30, eM23, eM16, eM11]; exact hB1) (fun h43 hC42 => ?_)
  change CA w 32 m0 (((((B + 40) + 40) + 40) + 20) + 20) h43 (mdB 1 2 (I37, Q37, Z37)) at hC42
  obtain ⟨M44, eM44⟩ : ∃ y : mM, y = (mdB 1 2 (I37, Q37, Z37)) := ⟨_, rfl⟩
  rw [← eM44] at hC42
  obtain ⟨I44, Q44, Z44⟩ := M44
  obtain ⟨X45, ow45, sb45, hS45, hD45, hB45, hQ45⟩ := hC42
  have hW := hD45.1.1
  have hWn : ∀ a, List.length h43 ≤ a → w a = true := fun a ha => (hD45.1.2.1 a ha).1
  have hF46 := fr_refl tbc h43
  have hln : 62 ≤ List.length h43 := sm_len hS45
  change CD w 32 m0 h43 I44 Q44 Z44 X45 ow45 sb45 at hD45
  change sm tbc h43 I44 X45 at hS45
  change co h43 I44 ≤ (((((B + 40) + 40) + 40) + 20) + 20) at hB45
  change ∀ l, l < 16 → (Q44 l).length ≤ List.length h43 at hQ45
  have hW := hD45.1.1
  have hWn : ∀ a, List.length h43 ≤ a → w a = true := fun a ha => (hD45.1.2.1 a ha).1
  have hF47 := fr_refl tbc h43
  have hln : 62 ≤ List.length h43 := sm_len hS45
  refine go_s (pc' := 56) (lo' := [some (.ref 1), some (.int 2), some (.int 2), some (.ref 59)]) rfl rfl rfl rfl ?_
  refine go_s (pc' := 30) rfl rfl rfl rfl ?_
  refine go_s (pc' := 31) rfl rfl rfl rfl ?_
  refine go_s (pc' := 32) rfl rfl rfl rfl ?_
  refine go_sget (pc' := 33) (v := .ref 61) hS45 rfl rfl rfl (by decide) rfl rfl ?_
  refine go_salen (pc' := 34) (n := 3) hS45 rfl rfl rfl rfl ?_
  refine go_icmpP (t' := 57) (pc' := 35) rfl rfl rfl (fun (c : 3 ≤ (2 : Int32)) => absurd c (by decide)) (fun _ => ?_)
  have hC48 : CA w 32 m0 (((((B + 40) + 40) + 40) + 20) + 20) h43 (I44, Q44, Z44) := ⟨X45, ow45, sb45, hS45, hD45, hB45, hQ45⟩
  refine dB_2_2 (I := I44) (Q := Q44) (Z := Z44) hC48 (by omega) (by omega) (by rw [eM44, eM37, eM30, eM23, eM16, eM11]; exact hB2x) (fun h50 hC49 => ?_)
  change CA w 32 m0 ((((((B + 40) + 40) + 40) + 20) + 20) + 20) h50 (mdB 2 2 (I44, Q44, Z44)) at hC49
  obtain ⟨M51, eM51⟩ : ∃ y : mM, y = (mdB 2 2 (I44, Q44, Z44)) := ⟨_, rfl⟩
  rw [← eM51] at hC49
  obtain ⟨I51, Q51, Z51⟩ := M51
  obtain ⟨X52, ow52, sb52, hS52, hD52, hB52, hQ52⟩ := hC49
  have hW := hD52.1.1
  have hWn : ∀ a, List.length h50 ≤ a → w a = true := fun a ha => (hD52.1.2.1 a ha).1
  have hF53 := fr_refl tbc h50
  have hln : 62 ≤ List.length h50 := sm_len hS52
  change CD w 32 m0 h50 I51 Q51 Z51 X52 ow52 sb52 at hD52
  change sm tbc h50 I51 X52 at hS52
  change co h50 I51 ≤ ((((((B + 40) + 40) + 40) + 20) + 20) + 20) at hB52
  change ∀ l, l < 16 → (Q51 l).length ≤ List.length h50 at hQ52
  have hW := hD52.1.1
  have hWn : ∀ a, List.length h50 ≤ a → w a = true := fun a ha => (hD52.1.2.1 a ha).1
  have hF54 := fr_refl tbc h50
  have hln : 62 ≤ List.length h50 := sm_len hS52
  refine go_s (pc' := 56) (lo' := [some (.ref 1), some (.int 2), some (.int 3), some (.ref 60)]) rfl rfl rfl rfl ?_
  refine go_s (pc' := 30) rfl rfl rfl rfl ?_
  refine go_s (pc' := 31) rfl rfl rfl rfl ?_
  refine go_s (pc' := 32) rfl rfl rfl rfl ?_
  refine go_sget (pc' := 33) (v := .ref 61) hS52 rfl rfl rfl (by decide) rfl rfl ?_
  refine go_salen (pc' := 34) (n := 3) hS52 rfl rfl rfl rfl ?_
  refine go_icmpP (t' := 57) (pc' := 35) rfl rfl rfl (fun _ => ?_) (fun (c : ¬ (3 ≤ (3 : Int32))) => absurd (by decide) c)
  refine go_ret rfl rfl ?_
  have hms : mdc 2 (I, Q, Z) = (I51, Q51, Z51) := by
    unfold mdc
    rw [← eM11, ← eM16, ← eM23, ← eM30, ← eM37, ← eM44, ← eM51]
  have hC55 : CA w 32 m0 ((((((B + 40) + 40) + 40) + 20) + 20) + 20) h50 (I51, Q51, Z51) := ⟨X52, ow52, sb52, hS52, hD52, hB52, hQ52⟩
  rw [hms]
  exact ⟨rfl, CA_le hC55 (by omega)⟩
theorem dA_0_3 {w : Nat → Bool} {d : Nat} {h : am_Hp} {m0 : mg} {B : Nat} {I : sm_I} {Q : mQ} {Z : mZ} (hC : CA w 32 m0 B h (I, Q, Z)) {P : Option Value → am_Hp → Prop} (hd : 6 ≤ d) (hB2 : B < 2 ^ 26) (hR : RPH 0 3 (I, Q, Z)) (K : ∀ h', CA w 32 m0 (B + 40) h' (mdA 0 3 (I, Q, Z)) → am_Go (am_prog w) d am_c32 none 26 [some (.ref 1), some (.int 3), some (.int 0), none] [] h' P) : am_Go (am_prog w) d am_c32 none 13 [some (.ref 1), some (.int 3), some (.int 0), none] [] h P := by
  obtain ⟨X, ow, sb, hS, hD, hB, hQ⟩ := hC
  change sm tbc h I X at hS
  change CD w 32 m0 h I Q Z X ow sb at hD
  change co h I ≤ B at hB
  change ∀ l, l < 16 → (Q l).length ≤ h.length at hQ
  have hW := hD.1.1
  have hWn : ∀ a, List.length h ≤ a → w a = true := fun a ha => (hD.1.2.1 a ha).1
  have hF1 := fr_refl tbc h
  have hln : 62 ≤ List.length h := sm_len hS
  refine go_s (pc' := 14) rfl rfl rfl rfl ?_
  refine go_sget (pc' := 15) (v := .ref 61) hS rfl rfl rfl (by decide) rfl rfl ?_
  refine go_s (pc' := 16) rfl rfl rfl rfl ?_
  refine go_sald (pc' := 17) (q := 0) (v := .ref 32) hS rfl rfl rfl rfl (by decide) rfl rfl ?_
  refine go_sget (pc' := 18) (v := .int (I 11 0)) hS rfl rfl rfl (by decide) rfl rfl ?_
  refine go_s (pc' := 19) rfl rfl rfl rfl ?_
  refine go_icmpP (t' := 26) (pc' := 20) rfl rfl rfl (fun _ => ?_) (fun (c : ¬ (¬ (I 11 0) = 3)) => absurd (pk_ne0 (hD.2.2.2.2.2.2 0 (by decide)) (by decide)) c)
  have hC2 : CA w 32 m0 B h (I, Q, Z) := ⟨X, ow, sb, hS, hD, hB, hQ⟩
  have hms : mdA 0 3 (I, Q, Z) = (I, Q, Z) := if_neg (pk_ne0 (hD.2.2.2.2.2.2 0 (by decide)) (by decide))
  exact K _ (by rw [hms]; exact CA_le hC2 (by omega))
theorem dB_0_3 {w : Nat → Bool} {d : Nat} {h : am_Hp} {m0 : mg} {B : Nat} {I : sm_I} {Q : mQ} {Z : mZ} (hC : CA w 32 m0 B h (I, Q, Z)) {P : Option Value → am_Hp → Prop} (hd : 6 ≤ d) (hB2 : B < 2 ^ 26) (hT : STH 0 (mdrp 0 (I, Q, Z))) (K : ∀ h', CA w 32 m0 (B + 20) h' (mdB 0 3 (I, Q, Z)) → am_Go (am_prog w) d am_c32 none 55 [some (.ref 1), some (.int 3), some (.int 0), some (.ref 32)] [] h' P) : am_Go (am_prog w) d am_c32 none 35 [some (.ref 1), some (.int 3), some (.int 0), none] [] h P := by
  obtain ⟨X, ow, sb, hS, hD, hB, hQ⟩ := hC
  change sm tbc h I X at hS
  change CD w 32 m0 h I Q Z X ow sb at hD
  change co h I ≤ B at hB
  change ∀ l, l < 16 → (Q l).length ≤ h.length at hQ
  have hW := hD.1.1
  have hWn : ∀ a, List.length h ≤ a → w a = true := fun a ha => (hD.1.2.1 a ha).1
  have hF1 := fr_refl tbc h
  have hln : 62 ≤ List.length h := sm_len hS
  have h207 := hD.2.2.2.1.2.2 0 (by decide)
  by_cases b12 : I 12 0 = -1
  · skip
    rw [if_pos b12] at h207
    refine go_s (pc' := 36) rfl rfl rfl rfl ?_
    refine go_sget (pc' := 37) (v := .ref 61) hS rfl rfl rfl (by decide) rfl rfl ?_
    refine go_s (pc' := 38) rfl rfl rfl rfl ?_
    refine go_sald (pc' := 39) (q := 0) (v := .ref 32) hS rfl rfl rfl rfl (by decide) rfl rfl ?_
    refine go_s (pc' := 40) (lo' := [some (.ref 1), some (.int 3), some (.int 0), some (.ref 32)]) rfl rfl rfl rfl ?_
    refine go_s (pc' := 41) rfl rfl rfl rfl ?_
    refine go_sget (pc' := 42) (v := .int 0) hS rfl rfl rfl (by decide) h207 rfl ?_
    refine go_ifP (t' := 46) (pc' := 43) rfl rfl rfl (fun (c : ¬ (0 : Int32) = 0) => absurd c (by decide)) (fun _ => ?_)
    refine go_s (pc' := 44) rfl rfl rfl rfl ?_
    refine go_sget (pc' := 45) (v := .int (I 13 0)) hS rfl rfl rfl (by decide) rfl rfl ?_
    refine go_ifP (t' := 55) (pc' := 46) rfl rfl rfl (fun (c2 : (I 13 0) = 0) => ?_) (fun (c2 : ¬ (I 13 0) = 0) => ?_)
    · skip
      have hC3 : CA w 32 m0 B h (I, Q, Z) := ⟨X, ow, sb, hS, hD, hB, hQ⟩
      have hms : mdB 0 3 (I, Q, Z) = (I, Q, Z) := if_neg (fun z => z.1.elim (fun y => y b12) (fun y => y c2))
      exact K _ (by rw [hms]; exact CA_le hC3 (by omega))
    · skip
      refine go_s (pc' := 47) rfl rfl rfl rfl ?_
      refine go_callV (pc' := 48) rfl rfl rfl (Nat.le_of_ble_eq_true rfl) rfl (sm_o hS rfl) rfl rfl rfl (ct_oh_0 hS (by omega)) (fun r h4 q5 => ?_)
      obtain ⟨rfl, rfl⟩ := q5
      refine go_s (pc' := 49) rfl rfl rfl rfl ?_
      refine go_icmpP (t' := 55) (pc' := 50) rfl rfl rfl (fun _ => ?_) (fun (c : ¬ (¬ (ohI I 0) = 3)) => absurd (oh_ne0 (by decide)) c)
      have hC6 : CA w 32 m0 B h4 (I, Q, Z) := ⟨X, ow, sb, hS, hD, hB, hQ⟩
      have hms : mdB 0 3 (I, Q, Z) = (I, Q, Z) := if_neg (fun z => (oh_ne0 (by decide)) z.2)
      exact K _ (by rw [hms]; exact CA_le hC6 (by omega))
  · skip
    rw [if_neg b12] at h207
    refine go_s (pc' := 36) rfl rfl rfl rfl ?_
    refine go_sget (pc' := 37) (v := .ref 61) hS rfl rfl rfl (by decide) rfl rfl ?_
    refine go_s (pc' := 38) rfl rfl rfl rfl ?_
    refine go_sald (pc' := 39) (q := 0) (v := .ref 32) hS rfl rfl rfl rfl (by decide) rfl rfl ?_
    refine go_s (pc' := 40) (lo' := [some (.ref 1), some (.int 3), some (.int 0), some (.ref 32)]) rfl rfl rfl rfl ?_
    refine go_s (pc' := 41) rfl rfl rfl rfl ?_
    refine go_sget (pc' := 42) (v := .int 1) hS rfl rfl rfl (by decide) h207 rfl ?_
    refine go_ifP (t' := 46) (pc' := 43) rfl rfl rfl (fun _ => ?_) (fun (c : ¬ (¬ (1 : Int32) = 0)) => absurd (by decide) c)
    refine go_s (pc' := 47) rfl rfl rfl rfl ?_
    refine go_callV (pc' := 48) rfl rfl rfl (Nat.le_of_ble_eq_true rfl) rfl (sm_o hS rfl) rfl rfl rfl (ct_oh_0 hS (by omega)) (fun r h7 q8 => ?_)
    obtain ⟨rfl, rfl⟩ := q8
    refine go_s (pc' := 49) rfl rfl rfl rfl ?_
    refine go_icmpP (t' := 55) (pc' := 50) rfl rfl rfl (fun _ => ?_) (fun (c : ¬ (¬ (ohI I 0) = 3)) => absurd (oh_ne0 (by decide)) c)
    have hC9 : CA w 32 m0 B h7 (I, Q, Z) := ⟨X, ow, sb, hS, hD, hB, hQ⟩
    have hms : mdB 0 3 (I, Q, Z) = (I, Q, Z) := if_neg (fun z => (oh_ne0 (by decide)) z.2)
    exact K _ (by rw [hms]; exact CA_le hC9 (by omega))
theorem dA_1_3 {w : Nat → Bool} {d : Nat} {h : am_Hp} {m0 : mg} {B : Nat} {I : sm_I} {Q : mQ} {Z : mZ} (hC : CA w 32 m0 B h (I, Q, Z)) {P : Option Value → am_Hp → Prop} (hd : 6 ≤ d) (hB2 : B < 2 ^ 26) (hR : RPH 1 3 (I, Q, Z)) (K : ∀ h', CA w 32 m0 (B + 40) h' (mdA 1 3 (I, Q, Z)) → am_Go (am_prog w) d am_c32 none 26 [some (.ref 1), some (.int 3), some (.int 1), none] [] h' P) : am_Go (am_prog w) d am_c32 none 13 [some (.ref 1), some (.int 3), some (.int 1), none] [] h P := by
  obtain ⟨X, ow, sb, hS, hD, hB, hQ⟩ := hC
  change sm tbc h I X at hS
  change CD w 32 m0 h I Q Z X ow sb at hD
  change co h I ≤ B at hB
  change ∀ l, l < 16 → (Q l).length ≤ h.length at hQ
  have hW := hD.1.1
  have hWn : ∀ a, List.length h ≤ a → w a = true := fun a ha => (hD.1.2.1 a ha).1
  have hF1 := fr_refl tbc h
  have hln : 62 ≤ List.length h := sm_len hS
  refine go_s (pc' := 14) rfl rfl rfl rfl ?_
  refine go_sget (pc' := 15) (v := .ref 61) hS rfl rfl rfl (by decide) rfl rfl ?_
  refine go_s (pc' := 16) rfl rfl rfl rfl ?_
  refine go_sald (pc' := 17) (q := 1) (v := .ref 59) hS rfl rfl rfl rfl (by decide) rfl rfl ?_
  refine go_sget (pc' := 18) (v := .int (I 11 1)) hS rfl rfl rfl (by decide) rfl rfl ?_
  refine go_s (pc' := 19) rfl rfl rfl rfl ?_
  refine go_icmpP (t' := 26) (pc' := 20) rfl rfl rfl (fun (c2 : ¬ (I 11 1) = 3) => ?_) (fun (c2' : ¬ ¬ (I 11 1) = 3) => ?_)
  · skip
    have hC3 : CA w 32 m0 B h (I, Q, Z) := ⟨X, ow, sb, hS, hD, hB, hQ⟩
    have hms : mdA 1 3 (I, Q, Z) = (I, Q, Z) := if_neg c2
    exact K _ (by rw [hms]; exact CA_le hC3 (by omega))
  · skip
    have c2 : (I 11 1) = 3 := Decidable.not_not.mp c2'
    refine go_s (pc' := 21) rfl rfl rfl rfl ?_
    refine go_s (pc' := 22) rfl rfl rfl rfl ?_
    refine go_sget (pc' := 23) (v := .ref 61) hS rfl rfl rfl (by decide) rfl rfl ?_
    refine go_s (pc' := 24) rfl rfl rfl rfl ?_
    refine go_sald (pc' := 25) (q := 1) (v := .ref 59) hS rfl rfl rfl rfl (by decide) rfl rfl ?_
    have hC4 : CA w 32 m0 B h (I, Q, Z) := ⟨X, ow, sb, hS, hD, hB, hQ⟩
    refine go_callV (pc' := 26) rfl rfl rfl (Nat.le_of_ble_eq_true rfl) rfl (sm_o hS rfl) rfl rfl rfl (cm_rpl_1_3 hC4 (by omega) hR c2 (by omega)) (fun r h5 q6 => ?_)
    obtain ⟨rfl, hC9⟩ := q6
    have hms : mdA 1 3 (I, Q, Z) = mrpl 1 (I, Q, Z) := if_pos c2
    exact K _ (by rw [hms]; exact hC9)
theorem dB_1_3 {w : Nat → Bool} {d : Nat} {h : am_Hp} {m0 : mg} {B : Nat} {I : sm_I} {Q : mQ} {Z : mZ} (hC : CA w 32 m0 B h (I, Q, Z)) {P : Option Value → am_Hp → Prop} (hd : 6 ≤ d) (hB2 : B < 2 ^ 26) (hT : STH 1 (mdrp 1 (I, Q, Z))) (K : ∀ h', CA w 32 m0 (B + 20) h' (mdB 1 3 (I, Q, Z)) → am_Go (am_prog w) d am_c32 none 55 [some (.ref 1), some (.int 3), some (.int 1), some (.ref 59)] [] h' P) : am_Go (am_prog w) d am_c32 none 35 [some (.ref 1), some (.int 3), some (.int 1), some (.ref 32)] [] h P := by
  obtain ⟨X, ow, sb, hS, hD, hB, hQ⟩ := hC
  change sm tbc h I X at hS
  change CD w 32 m0 h I Q Z X ow sb at hD
  change co h I ≤ B at hB
  change ∀ l, l < 16 → (Q l).length ≤ h.length at hQ
  have hW := hD.1.1
  have hWn : ∀ a, List.length h ≤ a → w a = true := fun a ha => (hD.1.2.1 a ha).1
  have hF1 := fr_refl tbc h
  have hln : 62 ≤ List.length h := sm_len hS
  have h207 := hD.2.2.2.1.2.2 1 (by decide)
  by_cases b12 : I 12 1 = -1
  · skip
    rw [if_pos b12] at h207
    refine go_s (pc' := 36) rfl rfl rfl rfl ?_
    refine go_sget (pc' := 37) (v := .ref 61) hS rfl rfl rfl (by decide) rfl rfl ?_
    refine go_s (pc' := 38) rfl rfl rfl rfl ?_
    refine go_sald (pc' := 39) (q := 1) (v := .ref 59) hS rfl rfl rfl rfl (by decide) rfl rfl ?_
    refine go_s (pc' := 40) (lo' := [some (.ref 1), some (.int 3), some (.int 1), some (.ref 59)]) rfl rfl rfl rfl ?_
    refine go_s (pc' := 41) rfl rfl rfl rfl ?_
    refine go_sget (pc' := 42) (v := .int 0) hS rfl rfl rfl (by decide) h207 rfl ?_
    refine go_ifP (t' := 46) (pc' := 43) rfl rfl rfl (fun (c : ¬ (0 : Int32) = 0) => absurd c (by decide)) (fun _ => ?_)
    refine go_s (pc' := 44) rfl rfl rfl rfl ?_
    refine go_sget (pc' := 45) (v := .int (I 13 1)) hS rfl rfl rfl (by decide) rfl rfl ?_
    refine go_ifP (t' := 55) (pc' := 46) rfl rfl rfl (fun (c2 : (I 13 1) = 0) => ?_) (fun (c2 : ¬ (I 13 1) = 0) => ?_)
    · skip
      have hC3 : CA w 32 m0 B h (I, Q, Z) := ⟨X, ow, sb, hS, hD, hB, hQ⟩
      have hms : mdB 1 3 (I, Q, Z) = (I, Q, Z) := if_neg (fun z => z.1.elim (fun y => y b12) (fun y => y c2))
      exact K _ (by rw [hms]; exact CA_le hC3 (by omega))
    · skip
      refine go_s (pc' := 47) rfl rfl rfl rfl ?_
      refine go_callV (pc' := 48) rfl rfl rfl (Nat.le_of_ble_eq_true rfl) rfl (sm_o hS rfl) rfl rfl rfl (ct_oh_1 hS (by omega)) (fun r h4 q5 => ?_)
      obtain ⟨rfl, rfl⟩ := q5
      refine go_s (pc' := 49) rfl rfl rfl rfl ?_
      refine go_icmpP (t' := 55) (pc' := 50) rfl rfl rfl (fun (c6 : ¬ (ohI I 1) = 3) => ?_) (fun (c6' : ¬ ¬ (ohI I 1) = 3) => ?_)
      · skip
        have hC7 : CA w 32 m0 B h4 (I, Q, Z) := ⟨X, ow, sb, hS, hD, hB, hQ⟩
        have hms : mdB 1 3 (I, Q, Z) = (I, Q, Z) := if_neg (fun z => c6 z.2)
        exact K _ (by rw [hms]; exact CA_le hC7 (by omega))
      · skip
        have c6 : (ohI I 1) = 3 := Decidable.not_not.mp c6'
        refine go_s (pc' := 51) rfl rfl rfl rfl ?_
        refine go_callV (pc' := 52) rfl rfl rfl (Nat.le_of_ble_eq_true rfl) rfl (sm_o hS rfl) rfl rfl rfl (ct_drop_1 hS hW (by omega)) (fun r h8 q9 => ?_)
        obtain ⟨rfl, hS10, hE11⟩ := q9
        have hF12 := fr_trans hF1 (fr_e hE11)
        refine go_s (pc' := 53) rfl rfl rfl rfl ?_
        refine go_s (pc' := 54) rfl rfl rfl rfl ?_
        have hD9 : CD w 32 m0 h8 (mdrp 1 (I, Q, Z)).1 Q Z (uX X 207 1 (.int 0)) ow sb := CD_bk (k := 1) (v := -1) (f := 0) (CD_I (J := uI I 13 1 0) (CD_fr hD hF12) ⟨rfl, rfl, rfl, rfl, rfl, rfl, rfl, rfl, rfl, rfl, rfl, rfl, rfl, rfl, rfl⟩) rfl
        have hC8 : CA w 32 m0 B h8 (uI (uI I 13 1 0) 12 1 (-1), Q, Z) := ⟨(uX X 207 1 (.int 0)), ow, sb, sm_12 hS10 rfl, hD9, by have := co_fr (I := I) (J := (mdrp 1 (I, Q, Z)).1) hF12 rfl; show co _ (mdrp 1 (I, Q, Z)).1 ≤ B; omega, fun l hl => Nat.le_trans (hQ l hl) hF12.1⟩
        refine go_callV (pc' := 55) rfl rfl rfl (Nat.le_of_ble_eq_true rfl) rfl (sm_o hS10 rfl) rfl rfl rfl (cm_stw_1 hC8 (by omega) (fun z => hT.2 (by decide) z) (by omega)) (fun r h13 q14 => ?_)
        obtain ⟨rfl, hC9⟩ := q14
        have hms : mdB 1 3 (I, Q, Z) = mstw 1 (mdrp 1 (I, Q, Z)) := if_pos ⟨Or.inr c2, c6⟩
        exact K _ (by rw [hms]; exact hC9)
  · skip
    rw [if_neg b12] at h207
    refine go_s (pc' := 36) rfl rfl rfl rfl ?_
    refine go_sget (pc' := 37) (v := .ref 61) hS rfl rfl rfl (by decide) rfl rfl ?_
    refine go_s (pc' := 38) rfl rfl rfl rfl ?_
    refine go_sald (pc' := 39) (q := 1) (v := .ref 59) hS rfl rfl rfl rfl (by decide) rfl rfl ?_
    refine go_s (pc' := 40) (lo' := [some (.ref 1), some (.int 3), some (.int 1), some (.ref 59)]) rfl rfl rfl rfl ?_
    refine go_s (pc' := 41) rfl rfl rfl rfl ?_
    refine go_sget (pc' := 42) (v := .int 1) hS rfl rfl rfl (by decide) h207 rfl ?_
    refine go_ifP (t' := 46) (pc' := 43) rfl rfl rfl (fun _ => ?_) (fun (c : ¬ (¬ (1 : Int32) = 0)) => absurd (by decide) c)
    refine go_s (pc' := 47) rfl rfl rfl rfl ?_
    refine go_callV (pc' := 48) rfl rfl rfl (Nat.le_of_ble_eq_true rfl) rfl (sm_o hS rfl) rfl rfl rfl (ct_oh_1 hS (by omega)) (fun r h15 q16 => ?_)
    obtain ⟨rfl, rfl⟩ := q16
    refine go_s (pc' := 49) rfl rfl rfl rfl ?_
    refine go_icmpP (t' := 55) (pc' := 50) rfl rfl rfl (fun (c17 : ¬ (ohI I 1) = 3) => ?_) (fun (c17' : ¬ ¬ (ohI I 1) = 3) => ?_)
    · skip
      have hC18 : CA w 32 m0 B h15 (I, Q, Z) := ⟨X, ow, sb, hS, hD, hB, hQ⟩
      have hms : mdB 1 3 (I, Q, Z) = (I, Q, Z) := if_neg (fun z => c17 z.2)
      exact K _ (by rw [hms]; exact CA_le hC18 (by omega))
    · skip
      have c17 : (ohI I 1) = 3 := Decidable.not_not.mp c17'
      refine go_s (pc' := 51) rfl rfl rfl rfl ?_
      refine go_callV (pc' := 52) rfl rfl rfl (Nat.le_of_ble_eq_true rfl) rfl (sm_o hS rfl) rfl rfl rfl (ct_drop_1 hS hW (by omega)) (fun r h19 q20 => ?_)
      obtain ⟨rfl, hS21, hE22⟩ := q20
      have hF23 := fr_trans hF1 (fr_e hE22)
      refine go_s (pc' := 53) rfl rfl rfl rfl ?_
      refine go_s (pc' := 54) rfl rfl rfl rfl ?_
      have hD9 : CD w 32 m0 h19 (mdrp 1 (I, Q, Z)).1 Q Z (uX X 207 1 (.int 0)) ow sb := CD_bk (k := 1) (v := -1) (f := 0) (CD_I (J := uI I 13 1 0) (CD_fr hD hF23) ⟨rfl, rfl, rfl, rfl, rfl, rfl, rfl, rfl, rfl, rfl, rfl, rfl, rfl, rfl, rfl⟩) rfl
      have hC8 : CA w 32 m0 B h19 (uI (uI I 13 1 0) 12 1 (-1), Q, Z) := ⟨(uX X 207 1 (.int 0)), ow, sb, sm_12 hS21 rfl, hD9, by have := co_fr (I := I) (J := (mdrp 1 (I, Q, Z)).1) hF23 rfl; show co _ (mdrp 1 (I, Q, Z)).1 ≤ B; omega, fun l hl => Nat.le_trans (hQ l hl) hF23.1⟩
      refine go_callV (pc' := 55) rfl rfl rfl (Nat.le_of_ble_eq_true rfl) rfl (sm_o hS21 rfl) rfl rfl rfl (cm_stw_1 hC8 (by omega) (fun z => hT.2 (by decide) z) (by omega)) (fun r h24 q25 => ?_)
      obtain ⟨rfl, hC9⟩ := q25
      have hms : mdB 1 3 (I, Q, Z) = mstw 1 (mdrp 1 (I, Q, Z)) := if_pos ⟨Or.inl b12, c17⟩
      exact K _ (by rw [hms]; exact hC9)
theorem dA_2_3 {w : Nat → Bool} {d : Nat} {h : am_Hp} {m0 : mg} {B : Nat} {I : sm_I} {Q : mQ} {Z : mZ} (hC : CA w 32 m0 B h (I, Q, Z)) {P : Option Value → am_Hp → Prop} (hd : 6 ≤ d) (hB2 : B < 2 ^ 26) (hR : RPH 2 3 (I, Q, Z)) (K : ∀ h', CA w 32 m0 (B + 40) h' (mdA 2 3 (I, Q, Z)) → am_Go (am_prog w) d am_c32 none 26 [some (.ref 1), some (.int 3), some (.int 2), none] [] h' P) : am_Go (am_prog w) d am_c32 none 13 [some (.ref 1), some (.int 3), some (.int 2), none] [] h P := by
  obtain ⟨X, ow, sb, hS, hD, hB, hQ⟩ := hC
  change sm tbc h I X at hS
  change CD w 32 m0 h I Q Z X ow sb at hD
  change co h I ≤ B at hB
  change ∀ l, l < 16 → (Q l).length ≤ h.length at hQ
  have hW := hD.1.1
  have hWn : ∀ a, List.length h ≤ a → w a = true := fun a ha => (hD.1.2.1 a ha).1
  have hF1 := fr_refl tbc h
  have hln : 62 ≤ List.length h := sm_len hS
  refine go_s (pc' := 14) rfl rfl rfl rfl ?_
  refine go_sget (pc' := 15) (v := .ref 61) hS rfl rfl rfl (by decide) rfl rfl ?_
  refine go_s (pc' := 16) rfl rfl rfl rfl ?_
  refine go_sald (pc' := 17) (q := 2) (v := .ref 60) hS rfl rfl rfl rfl (by decide) rfl rfl ?_
  refine go_sget (pc' := 18) (v := .int (I 11 2)) hS rfl rfl rfl (by decide) rfl rfl ?_
  refine go_s (pc' := 19) rfl rfl rfl rfl ?_
  refine go_icmpP (t' := 26) (pc' := 20) rfl rfl rfl (fun (c2 : ¬ (I 11 2) = 3) => ?_) (fun (c2' : ¬ ¬ (I 11 2) = 3) => ?_)
  · skip
    have hC3 : CA w 32 m0 B h (I, Q, Z) := ⟨X, ow, sb, hS, hD, hB, hQ⟩
    have hms : mdA 2 3 (I, Q, Z) = (I, Q, Z) := if_neg c2
    exact K _ (by rw [hms]; exact CA_le hC3 (by omega))
  · skip
    have c2 : (I 11 2) = 3 := Decidable.not_not.mp c2'
    refine go_s (pc' := 21) rfl rfl rfl rfl ?_
    refine go_s (pc' := 22) rfl rfl rfl rfl ?_
    refine go_sget (pc' := 23) (v := .ref 61) hS rfl rfl rfl (by decide) rfl rfl ?_
    refine go_s (pc' := 24) rfl rfl rfl rfl ?_
    refine go_sald (pc' := 25) (q := 2) (v := .ref 60) hS rfl rfl rfl rfl (by decide) rfl rfl ?_
    have hC4 : CA w 32 m0 B h (I, Q, Z) := ⟨X, ow, sb, hS, hD, hB, hQ⟩
    refine go_callV (pc' := 26) rfl rfl rfl (Nat.le_of_ble_eq_true rfl) rfl (sm_o hS rfl) rfl rfl rfl (cm_rpl_2_3 hC4 (by omega) hR c2 (by omega)) (fun r h5 q6 => ?_)
    obtain ⟨rfl, hC9⟩ := q6
    have hms : mdA 2 3 (I, Q, Z) = mrpl 2 (I, Q, Z) := if_pos c2
    exact K _ (by rw [hms]; exact hC9)
theorem dB_2_3 {w : Nat → Bool} {d : Nat} {h : am_Hp} {m0 : mg} {B : Nat} {I : sm_I} {Q : mQ} {Z : mZ} (hC : CA w 32 m0 B h (I, Q, Z)) {P : Option Value → am_Hp → Prop} (hd : 6 ≤ d) (hB2 : B < 2 ^ 26) (hT : STH 2 (mdrp 2 (I, Q, Z))) (K : ∀ h', CA w 32 m0 (B + 20) h' (mdB 2 3 (I, Q, Z)) → am_Go (am_prog w) d am_c32 none 55 [some (.ref 1), some (.int 3), some (.int 2), some (.ref 60)] [] h' P) : am_Go (am_prog w) d am_c32 none 35 [some (.ref 1), some (.int 3), some (.int 2), some (.ref 59)] [] h P := by
  obtain ⟨X, ow, sb, hS, hD, hB, hQ⟩ := hC
  change sm tbc h I X at hS
  change CD w 32 m0 h I Q Z X ow sb at hD
  change co h I ≤ B at hB
  change ∀ l, l < 16 → (Q l).length ≤ h.length at hQ
  have hW := hD.1.1
  have hWn : ∀ a, List.length h ≤ a → w a = true := fun a ha => (hD.1.2.1 a ha).1
  have hF1 := fr_refl tbc h
  have hln : 62 ≤ List.length h := sm_len hS
  have h207 := hD.2.2.2.1.2.2 2 (by decide)
  by_cases b12 : I 12 2 = -1
  · skip
    rw [if_pos b12] at h207
    refine go_s (pc' := 36) rfl rfl rfl rfl ?_
    refine go_sget (pc' := 37) (v := .ref 61) hS rfl rfl rfl (by decide) rfl rfl ?_
    refine go_s (pc' := 38) rfl rfl rfl rfl ?_
    refine go_sald (pc' := 39) (q := 2) (v := .ref 60) hS rfl rfl rfl rfl (by decide) rfl rfl ?_
    refine go_s (pc' := 40) (lo' := [some (.ref 1), some (.int 3), some (.int 2), some (.ref 60)]) rfl rfl rfl rfl ?_
    refine go_s (pc' := 41) rfl rfl rfl rfl ?_
    refine go_sget (pc' := 42) (v := .int 0) hS rfl rfl rfl (by decide) h207 rfl ?_
    refine go_ifP (t' := 46) (pc' := 43) rfl rfl rfl (fun (c : ¬ (0 : Int32) = 0) => absurd c (by decide)) (fun _ => ?_)
    refine go_s (pc' := 44) rfl rfl rfl rfl ?_
    refine go_sget (pc' := 45) (v := .int (I 13 2)) hS rfl rfl rfl (by decide) rfl rfl ?_
    refine go_ifP (t' := 55) (pc' := 46) rfl rfl rfl (fun (c2 : (I 13 2) = 0) => ?_) (fun (c2 : ¬ (I 13 2) = 0) => ?_)
    · skip
      have hC3 : CA w 32 m0 B h (I, Q, Z) := ⟨X, ow, sb, hS, hD, hB, hQ⟩
      have hms : mdB 2 3 (I, Q, Z) = (I, Q, Z) := if_neg (fun z => z.1.elim (fun y => y b12) (fun y => y c2))
      exact K _ (by rw [hms]; exact CA_le hC3 (by omega))
    · skip
      refine go_s (pc' := 47) rfl rfl rfl rfl ?_
      refine go_callV (pc' := 48) rfl rfl rfl (Nat.le_of_ble_eq_true rfl) rfl (sm_o hS rfl) rfl rfl rfl (ct_oh_2 hS (by omega)) (fun r h4 q5 => ?_)
      obtain ⟨rfl, rfl⟩ := q5
      refine go_s (pc' := 49) rfl rfl rfl rfl ?_
      refine go_icmpP (t' := 55) (pc' := 50) rfl rfl rfl (fun (c6 : ¬ (ohI I 2) = 3) => ?_) (fun (c6' : ¬ ¬ (ohI I 2) = 3) => ?_)
      · skip
        have hC7 : CA w 32 m0 B h4 (I, Q, Z) := ⟨X, ow, sb, hS, hD, hB, hQ⟩
        have hms : mdB 2 3 (I, Q, Z) = (I, Q, Z) := if_neg (fun z => c6 z.2)
        exact K _ (by rw [hms]; exact CA_le hC7 (by omega))
      · skip
        have c6 : (ohI I 2) = 3 := Decidable.not_not.mp c6'
        refine go_s (pc' := 51) rfl rfl rfl rfl ?_
        refine go_callV (pc' := 52) rfl rfl rfl (Nat.le_of_ble_eq_true rfl) rfl (sm_o hS rfl) rfl rfl rfl (ct_drop_2 hS hW (by omega)) (fun r h8 q9 => ?_)
        obtain ⟨rfl, hS10, hE11⟩ := q9
        have hF12 := fr_trans hF1 (fr_e hE11)
        refine go_s (pc' := 53) rfl rfl rfl rfl ?_
        refine go_s (pc' := 54) rfl rfl rfl rfl ?_
        have hD9 : CD w 32 m0 h8 (mdrp 2 (I, Q, Z)).1 Q Z (uX X 207 2 (.int 0)) ow sb := CD_bk (k := 2) (v := -1) (f := 0) (CD_I (J := uI I 13 2 0) (CD_fr hD hF12) ⟨rfl, rfl, rfl, rfl, rfl, rfl, rfl, rfl, rfl, rfl, rfl, rfl, rfl, rfl, rfl⟩) rfl
        have hC8 : CA w 32 m0 B h8 (uI (uI I 13 2 0) 12 2 (-1), Q, Z) := ⟨(uX X 207 2 (.int 0)), ow, sb, sm_12 hS10 rfl, hD9, by have := co_fr (I := I) (J := (mdrp 2 (I, Q, Z)).1) hF12 rfl; show co _ (mdrp 2 (I, Q, Z)).1 ≤ B; omega, fun l hl => Nat.le_trans (hQ l hl) hF12.1⟩
        refine go_callV (pc' := 55) rfl rfl rfl (Nat.le_of_ble_eq_true rfl) rfl (sm_o hS10 rfl) rfl rfl rfl (cm_stw_2 hC8 (by omega) (fun z => hT.2 (by decide) z) (by omega)) (fun r h13 q14 => ?_)
        obtain ⟨rfl, hC9⟩ := q14
        have hms : mdB 2 3 (I, Q, Z) = mstw 2 (mdrp 2 (I, Q, Z)) := if_pos ⟨Or.inr c2, c6⟩
        exact K _ (by rw [hms]; exact hC9)
  · skip
    rw [if_neg b12] at h207
    refine go_s (pc' := 36) rfl rfl rfl rfl ?_
    refine go_sget (pc' := 37) (v := .ref 61) hS rfl rfl rfl (by decide) rfl rfl ?_
    refine go_s (pc' := 38) rfl rfl rfl rfl ?_
    refine go_sald (pc' := 39) (q := 2) (v := .ref 60) hS rfl rfl rfl rfl (by decide) rfl rfl ?_
    refine go_s (pc' := 40) (lo' := [some (.ref 1), some (.int 3), some (.int 2), some (.ref 60)]) rfl rfl rfl rfl ?_
    refine go_s (pc' := 41) rfl rfl rfl rfl ?_
    refine go_sget (pc' := 42) (v := .int 1) hS rfl rfl rfl (by decide) h207 rfl ?_
    refine go_ifP (t' := 46) (pc' := 43) rfl rfl rfl (fun _ => ?_) (fun (c : ¬ (¬ (1 : Int32) = 0)) => absurd (by decide) c)
    refine go_s (pc' := 47) rfl rfl rfl rfl ?_
    refine go_callV (pc' := 48) rfl rfl rfl (Nat.le_of_ble_eq_true rfl) rfl (sm_o hS rfl) rfl rfl rfl (ct_oh_2 hS (by omega)) (fun r h15 q16 => ?_)
    obtain ⟨rfl, rfl⟩ := q16
    refine go_s (pc' := 49) rfl rfl rfl rfl ?_
    refine go_icmpP (t' := 55) (pc' := 50) rfl rfl rfl (fun (c17 : ¬ (ohI I 2) = 3) => ?_) (fun (c17' : ¬ ¬ (ohI I 2) = 3) => ?_)
    · skip
      have hC18 : CA w 32 m0 B h15 (I, Q, Z) := ⟨X, ow, sb, hS, hD, hB, hQ⟩
      have hms : mdB 2 3 (I, Q, Z) = (I, Q, Z) := if_neg (fun z => c17 z.2)
      exact K _ (by rw [hms]; exact CA_le hC18 (by omega))
    · skip
      have c17 : (ohI I 2) = 3 := Decidable.not_not.mp c17'
      refine go_s (pc' := 51) rfl rfl rfl rfl ?_
      refine go_callV (pc' := 52) rfl rfl rfl (Nat.le_of_ble_eq_true rfl) rfl (sm_o hS rfl) rfl rfl rfl (ct_drop_2 hS hW (by omega)) (fun r h19 q20 => ?_)
      obtain ⟨rfl, hS21, hE22⟩ := q20
      have hF23 := fr_trans hF1 (fr_e hE22)
      refine go_s (pc' := 53) rfl rfl rfl rfl ?_
      refine go_s (pc' := 54) rfl rfl rfl rfl ?_
      have hD9 : CD w 32 m0 h19 (mdrp 2 (I, Q, Z)).1 Q Z (uX X 207 2 (.int 0)) ow sb := CD_bk (k := 2) (v := -1) (f := 0) (CD_I (J := uI I 13 2 0) (CD_fr hD hF23) ⟨rfl, rfl, rfl, rfl, rfl, rfl, rfl, rfl, rfl, rfl, rfl, rfl, rfl, rfl, rfl⟩) rfl
      have hC8 : CA w 32 m0 B h19 (uI (uI I 13 2 0) 12 2 (-1), Q, Z) := ⟨(uX X 207 2 (.int 0)), ow, sb, sm_12 hS21 rfl, hD9, by have := co_fr (I := I) (J := (mdrp 2 (I, Q, Z)).1) hF23 rfl; show co _ (mdrp 2 (I, Q, Z)).1 ≤ B; omega, fun l hl => Nat.le_trans (hQ l hl) hF23.1⟩
      refine go_callV (pc' := 55) rfl rfl rfl (Nat.le_of_ble_eq_true rfl) rfl (sm_o hS21 rfl) rfl rfl rfl (cm_stw_2 hC8 (by omega) (fun z => hT.2 (by decide) z) (by omega)) (fun r h24 q25 => ?_)
      obtain ⟨rfl, hC9⟩ := q25
      have hms : mdB 2 3 (I, Q, Z) = mstw 2 (mdrp 2 (I, Q, Z)) := if_pos ⟨Or.inl b12, c17⟩
      exact K _ (by rw [hms]; exact hC9)
def DCH3 (M : mM) : Prop := RPH 0 3 ((uI M.1 1 3 1, M.2) : mM) ∧ RPH 1 3 (mdA 0 3 ((uI M.1 1 3 1, M.2) : mM)) ∧ RPH 2 3 (mdA 1 3 (mdA 0 3 ((uI M.1 1 3 1, M.2) : mM))) ∧ STH 0 (mdrp 0 (mdA 2 3 (mdA 1 3 (mdA 0 3 ((uI M.1 1 3 1, M.2) : mM))))) ∧ STH 1 (mdrp 1 (mdB 0 3 (mdA 2 3 (mdA 1 3 (mdA 0 3 ((uI M.1 1 3 1, M.2) : mM)))))) ∧ STH 2 (mdrp 2 (mdB 1 3 (mdB 0 3 (mdA 2 3 (mdA 1 3 (mdA 0 3 ((uI M.1 1 3 1, M.2) : mM)))))))
theorem cm_dc_3 {w : Nat → Bool} {d : Nat} {h : am_Hp} {m0 : mg} {B : Nat} {I : sm_I} {Q : mQ} {Z : mZ} (hC : CA w 32 m0 B h (I, Q, Z)) (hB2 : B < 2 ^ 25) (hH : DCH3 (I, Q, Z)) (hd : 7 ≤ d) : am_Ev (am_prog w) d 32 [.ref 1, .int 3] h (fun r h' => r = none ∧ CA w 32 m0 (B + 180) h' (mdc 3 (I, Q, Z))) := by
  obtain ⟨hA0, hA1, hA2, hB0, hB1, hB2x⟩ := hH
  obtain ⟨X, ow, sb, hS, hD, hB, hQ⟩ := hC
  change sm tbc h I X at hS
  change CD w 32 m0 h I Q Z X ow sb at hD
  change co h I ≤ B at hB
  change ∀ l, l < 16 → (Q l).length ≤ h.length at hQ
  have hW := hD.1.1
  have hWn : ∀ a, List.length h ≤ a → w a = true := fun a ha => (hD.1.2.1 a ha).1
  have hF1 := fr_refl tbc h
  have hln : 62 ≤ List.length h := sm_len hS
  obtain ⟨d, rfl⟩ : ∃ e, d = e + 1 := ⟨d - 1, by omega⟩
  refine ev_go rfl (Nat.le_of_ble_eq_true rfl) rfl ?_
  refine go_s (pc' := 1) rfl rfl rfl rfl ?_
  refine go_sget (pc' := 2) (v := .ref 2) hS rfl rfl rfl (by decide) rfl rfl ?_
  refine go_sget (pc' := 3) (v := .ref 4) hS rfl rfl rfl (by decide) rfl rfl ?_
  refine go_s (pc' := 4) rfl rfl rfl rfl ?_
  refine go_s (pc' := 5) (st' := [.int 1, .int 3, .ref 4]) rfl rfl rfl rfl ?_
  refine go_szast (pc' := 6) (q := 3) hS rfl rfl tbc_inj (Nat.le_of_ble_eq_true rfl) rfl (by decide) (by decide) rfl (hW _ rfl) rfl (fun h2 hS3 hE4 => ?_)
  have hF5 := fr_trans hF1 (fr_e hE4)
  refine go_s (pc' := 7) (st' := [.int 0]) rfl rfl rfl rfl ?_
  refine go_s (pc' := 8) (lo' := [some (.ref 1), some (.int 3), some (.int 0), none]) rfl rfl rfl rfl ?_
  refine go_s (pc' := 9) rfl rfl rfl rfl ?_
  refine go_s (pc' := 10) rfl rfl rfl rfl ?_
  refine go_sget (pc' := 11) (v := .ref 61) hS3 rfl rfl rfl (by decide) rfl rfl ?_
  refine go_salen (pc' := 12) (n := 3) hS3 rfl rfl rfl rfl ?_
  refine go_icmpP (t' := 28) (pc' := 13) rfl rfl rfl (fun (c : 3 ≤ (0 : Int32)) => absurd c (by decide)) (fun _ => ?_)
  have hD6 : CD w 32 m0 h2 ((uI I 1 3 1, Q, Z) : mM).1 ((uI I 1 3 1, Q, Z) : mM).2.1 ((uI I 1 3 1, Q, Z) : mM).2.2 (X) ow sb := CD_I (J := uI I 1 3 1) (CD_fr hD hF5) ⟨rfl, rfl, rfl, rfl, rfl, rfl, rfl, rfl, rfl, rfl, rfl, rfl, rfl, rfl, rfl⟩
  have hS9 : sm tbc h2 ((uI I 1 3 1, Q, Z) : mM).1 (X) := hS3
  have hB7 : co h2 ((uI I 1 3 1, Q, Z) : mM).1 ≤ B := by
    have z1 := co_fr (I := I) (J := ((uI I 1 3 1, Q, Z) : mM).1) hF5 rfl
    have z2 := hB
    omega
  have hQ8 : ∀ l, l < 16 → (((uI I 1 3 1, Q, Z) : mM).2.1 l).length ≤ List.length h2 := fun l hl => Nat.le_trans (hQ l hl) hF5.1
  obtain ⟨X10, eX10⟩ : ∃ y, y = (X) := ⟨_, rfl⟩
  rw [← eX10] at hD6 hS9
  obtain ⟨M11, eM11⟩ : ∃ y : mM, y = ((uI I 1 3 1, Q, Z) : mM) := ⟨_, rfl⟩
  rw [← eM11] at hD6 hS9 hB7 hQ8
  obtain ⟨I11, Q11, Z11⟩ := M11
  change CD w 32 m0 h2 I11 Q11 Z11 X10 ow sb at hD6
  change sm tbc h2 I11 X10 at hS9
  change co h2 I11 ≤ B at hB7
  change ∀ l, l < 16 → (Q11 l).length ≤ List.length h2 at hQ8
  have hW := hD6.1.1
  have hWn : ∀ a, List.length h2 ≤ a → w a = true := fun a ha => (hD6.1.2.1 a ha).1
  have hF12 := fr_refl tbc h2
  have hln : 62 ≤ List.length h2 := sm_len hS9
  have hC13 : CA w 32 m0 B h2 (I11, Q11, Z11) := ⟨X10, ow, sb, hS9, hD6, hB7, hQ8⟩
  refine dA_0_3 (I := I11) (Q := Q11) (Z := Z11) hC13 (by omega) (by omega) (by rw [eM11]; exact hA0) (fun h15 hC14 => ?_)
  change CA w 32 m0 (B + 40) h15 (mdA 0 3 (I11, Q11, Z11)) at hC14
  obtain ⟨M16, eM16⟩ : ∃ y : mM, y = (mdA 0 3 (I11, Q11, Z11)) := ⟨_, rfl⟩
  rw [← eM16] at hC14
  obtain ⟨I16, Q16, Z16⟩ := M16
  obtain ⟨X17, ow17, sb17, hS17, hD17, hB17, hQ17⟩ := hC14
  have hW := hD17.1.1
  have hWn : ∀ a, List.length h15 ≤ a → w a = true := fun a ha => (hD17.1.2.1 a ha).1
  have hF18 := fr_refl tbc h15
  have hln : 62 ≤ List.length h15 := sm_len hS17
  change CD w 32 m0 h15 I16 Q16 Z16 X17 ow17 sb17 at hD17
  change sm tbc h15 I16 X17 at hS17
  change co h15 I16 ≤ (B + 40) at hB17
  change ∀ l, l < 16 → (Q16 l).length ≤ List.length h15 at hQ17
  have hW := hD17.1.1
  have hWn : ∀ a, List.length h15 ≤ a → w a = true := fun a ha => (hD17.1.2.1 a ha).1
  have hF19 := fr_refl tbc h15
  have hln : 62 ≤ List.length h15 := sm_len hS17
  refine go_s (pc' := 27) (lo' := [some (.ref 1), some (.int 3), some (.int 1), none]) rfl rfl rfl rfl ?_
  refine go_s (pc' := 8) rfl rfl rfl rfl ?_
  refine go_s (pc' := 9) rfl rfl rfl rfl ?_
  refine go_s (pc' := 10) rfl rfl rfl rfl ?_
  refine go_sget (pc' := 11) (v := .ref 61) hS17 rfl rfl rfl (by decide) rfl rfl ?_
  refine go_salen (pc' := 12) (n := 3) hS17 rfl rfl rfl rfl ?_
  refine go_icmpP (t' := 28) (pc' := 13) rfl rfl rfl (fun (c : 3 ≤ (1 : Int32)) => absurd c (by decide)) (fun _ => ?_)
  have hC20 : CA w 32 m0 (B + 40) h15 (I16, Q16, Z16) := ⟨X17, ow17, sb17, hS17, hD17, hB17, hQ17⟩
  refine dA_1_3 (I := I16) (Q := Q16) (Z := Z16) hC20 (by omega) (by omega) (by rw [eM16, eM11]; exact hA1) (fun h22 hC21 => ?_)
  change CA w 32 m0 ((B + 40) + 40) h22 (mdA 1 3 (I16, Q16, Z16)) at hC21
  obtain ⟨M23, eM23⟩ : ∃ y : mM, y = (mdA 1 3 (I16, Q16, Z16)) := ⟨_, rfl⟩
  rw [← eM23] at hC21
  obtain ⟨I23, Q23, Z23⟩ := M23
  obtain ⟨X24, ow24, sb24, hS24, hD24, hB24, hQ24⟩ := hC21
  have hW := hD24.1.1
  have hWn : ∀ a, List.length h22 ≤ a → w a = true := fun a ha => (hD24.1.2.1 a ha).1
  have hF25 := fr_refl tbc h22
  have hln : 62 ≤ List.length h22 := sm_len hS24
  change CD w 32 m0 h22 I23 Q23 Z23 X24 ow24 sb24 at hD24
  change sm tbc h22 I23 X24 at hS24
  change co h22 I23 ≤ ((B + 40) + 40) at hB24
  change ∀ l, l < 16 → (Q23 l).length ≤ List.length h22 at hQ24
  have hW := hD24.1.1
  have hWn : ∀ a, List.length h22 ≤ a → w a = true := fun a ha => (hD24.1.2.1 a ha).1
  have hF26 := fr_refl tbc h22
  have hln : 62 ≤ List.length h22 := sm_len hS24
  refine go_s (pc' := 27) (lo' := [some (.ref 1), some (.int 3), some (.int 2), none]) rfl rfl rfl rfl ?_
  refine go_s (pc' := 8) rfl rfl rfl rfl ?_
  refine go_s (pc' := 9) rfl rfl rfl rfl ?_
  refine go_s (pc' := 10) rfl rfl rfl rfl ?_
  refine go_sget (pc' := 11) (v := .ref 61) hS24 rfl rfl rfl (by decide) rfl rfl ?_
  refine go_salen (pc' := 12) (n := 3) hS24 rfl rfl rfl rfl ?_
  refine go_icmpP (t' := 28) (pc' := 13) rfl rfl rfl (fun (c : 3 ≤ (2 : Int32)) => absurd c (by decide)) (fun _ => ?_)
  have hC27 : CA w 32 m0 ((B + 40) + 40) h22 (I23, Q23, Z23) := ⟨X24, ow24, sb24, hS24, hD24, hB24, hQ24⟩
  refine dA_2_3 (I := I23) (Q := Q23) (Z := Z23) hC27 (by omega) (by omega) (by rw [eM23, eM16, eM11]; exact hA2) (fun h29 hC28 => ?_)
  change CA w 32 m0 (((B + 40) + 40) + 40) h29 (mdA 2 3 (I23, Q23, Z23)) at hC28
  obtain ⟨M30, eM30⟩ : ∃ y : mM, y = (mdA 2 3 (I23, Q23, Z23)) := ⟨_, rfl⟩
  rw [← eM30] at hC28
  obtain ⟨I30, Q30, Z30⟩ := M30
  obtain ⟨X31, ow31, sb31, hS31, hD31, hB31, hQ31⟩ := hC28
  have hW := hD31.1.1
  have hWn : ∀ a, List.length h29 ≤ a → w a = true := fun a ha => (hD31.1.2.1 a ha).1
  have hF32 := fr_refl tbc h29
  have hln : 62 ≤ List.length h29 := sm_len hS31
  change CD w 32 m0 h29 I30 Q30 Z30 X31 ow31 sb31 at hD31
  change sm tbc h29 I30 X31 at hS31
  change co h29 I30 ≤ (((B + 40) + 40) + 40) at hB31
  change ∀ l, l < 16 → (Q30 l).length ≤ List.length h29 at hQ31
  have hW := hD31.1.1
  have hWn : ∀ a, List.length h29 ≤ a → w a = true := fun a ha => (hD31.1.2.1 a ha).1
  have hF33 := fr_refl tbc h29
  have hln : 62 ≤ List.length h29 := sm_len hS31
  refine go_s (pc' := 27) (lo' := [some (.ref 1), some (.int 3), some (.int 3), none]) rfl rfl rfl rfl ?_
  refine go_s (pc' := 8) rfl rfl rfl rfl ?_
  refine go_s (pc' := 9) rfl rfl rfl rfl ?_
  refine go_s (pc' := 10) rfl rfl rfl rfl ?_
  refine go_sget (pc' := 11) (v := .ref 61) hS31 rfl rfl rfl (by decide) rfl rfl ?_
  refine go_salen (pc' := 12) (n := 3) hS31 rfl rfl rfl rfl ?_
  refine go_icmpP (t' := 28) (pc' := 13) rfl rfl rfl (fun _ => ?_) (fun (c : ¬ (3 ≤ (3 : Int32))) => absurd (by decide) c)
  refine go_s (pc' := 29) (st' := [.int 0]) rfl rfl rfl rfl ?_
  refine go_s (pc' := 30) (lo' := [some (.ref 1), some (.int 3), some (.int 0), none]) rfl rfl rfl rfl ?_
  refine go_s (pc' := 31) rfl rfl rfl rfl ?_
  refine go_s (pc' := 32) rfl rfl rfl rfl ?_
  refine go_sget (pc' := 33) (v := .ref 61) hS31 rfl rfl rfl (by decide) rfl rfl ?_
  refine go_salen (pc' := 34) (n := 3) hS31 rfl rfl rfl rfl ?_
  refine go_icmpP (t' := 57) (pc' := 35) rfl rfl rfl (fun (c : 3 ≤ (0 : Int32)) => absurd c (by decide)) (fun _ => ?_)
  have hC34 : CA w 32 m0 (((B + 40) + 40) + 40) h29 (I30, Q30, Z30) := ⟨X31, ow31, sb31, hS31, hD31, hB31, hQ31⟩
  refine dB_0_3 (I := I30) (Q := Q30) (Z := Z30) hC34 (by omega) (by omega) (by rw [eM30, eM23, eM16, eM11]; exact hB0) (fun h36 hC35 => ?_)
  change CA w 32 m0 ((((B + 40) + 40) + 40) + 20) h36 (mdB 0 3 (I30, Q30, Z30)) at hC35
  obtain ⟨M37, eM37⟩ : ∃ y : mM, y = (mdB 0 3 (I30, Q30, Z30)) := ⟨_, rfl⟩
  rw [← eM37] at hC35
  obtain ⟨I37, Q37, Z37⟩ := M37
  obtain ⟨X38, ow38, sb38, hS38, hD38, hB38, hQ38⟩ := hC35
  have hW := hD38.1.1
  have hWn : ∀ a, List.length h36 ≤ a → w a = true := fun a ha => (hD38.1.2.1 a ha).1
  have hF39 := fr_refl tbc h36
  have hln : 62 ≤ List.length h36 := sm_len hS38
  change CD w 32 m0 h36 I37 Q37 Z37 X38 ow38 sb38 at hD38
  change sm tbc h36 I37 X38 at hS38
  change co h36 I37 ≤ ((((B + 40) + 40) + 40) + 20) at hB38
  change ∀ l, l < 16 → (Q37 l).length ≤ List.length h36 at hQ38
  have hW := hD38.1.1
  have hWn : ∀ a, List.length h36 ≤ a → w a = true := fun a ha => (hD38.1.2.1 a ha).1
  have hF40 := fr_refl tbc h36
  have hln : 62 ≤ List.length h36 := sm_len hS38
  refine go_s (pc' := 56) (lo' := [some (.ref 1), some (.int 3), some (.int 1), some (.ref 32)]) rfl rfl rfl rfl ?_
  refine go_s (pc' := 30) rfl rfl rfl rfl ?_
  refine go_s (pc' := 31) rfl rfl rfl rfl ?_
  refine go_s (pc' := 32) rfl rfl rfl rfl ?_
  refine go_sget (pc' := 33) (v := .ref 61) hS38 rfl rfl rfl (by decide) rfl rfl ?_
  refine go_salen (pc' := 34) (n := 3) hS38 rfl rfl rfl rfl ?_
  refine go_icmpP (t' := 57) (pc' := 35) rfl rfl rfl (fun (c : 3 ≤ (1 : Int32)) => absurd c (by decide)) (fun _ => ?_)
  have hC41 : CA w 32 m0 ((((B + 40) + 40) + 40) + 20) h36 (I37, Q37, Z37) := ⟨X38, ow38, sb38, hS38, hD38, hB38, hQ38⟩
  refine dB_1_3 (I := I37) (Q := Q37) (Z := Z37) hC41 (by omega) (by omega) (by rw [eM37, eM30, eM23, eM16, eM11]; exact hB1) (fun h43 hC42 => ?_)
  change CA w 32 m0 (((((B + 40) + 40) + 40) + 20) + 20) h43 (mdB 1 3 (I37, Q37, Z37)) at hC42
  obtain ⟨M44, eM44⟩ : ∃ y : mM, y = (mdB 1 3 (I37, Q37, Z37)) := ⟨_, rfl⟩
  rw [← eM44] at hC42
  obtain ⟨I44, Q44, Z44⟩ := M44
  obtain ⟨X45, ow45, sb45, hS45, hD45, hB45, hQ45⟩ := hC42
  have hW := hD45.1.1
  have hWn : ∀ a, List.length h43 ≤ a → w a = true := fun a ha => (hD45.1.2.1 a ha).1
  have hF46 := fr_refl tbc h43
  have hln : 62 ≤ List.length h43 := sm_len hS45
  change CD w 32 m0 h43 I44 Q44 Z44 X45 ow45 sb45 at hD45
  change sm tbc h43 I44 X45 at hS45
  change co h43 I44 ≤ (((((B + 40) + 40) + 40) + 20) + 20) at hB45
  change ∀ l, l < 16 → (Q44 l).length ≤ List.length h43 at hQ45
  have hW := hD45.1.1
  have hWn : ∀ a, List.length h43 ≤ a → w a = true := fun a ha => (hD45.1.2.1 a ha).1
  have hF47 := fr_refl tbc h43
  have hln : 62 ≤ List.length h43 := sm_len hS45
  refine go_s (pc' := 56) (lo' := [some (.ref 1), some (.int 3), some (.int 2), some (.ref 59)]) rfl rfl rfl rfl ?_
  refine go_s (pc' := 30) rfl rfl rfl rfl ?_
  refine go_s (pc' := 31) rfl rfl rfl rfl ?_
  refine go_s (pc' := 32) rfl rfl rfl rfl ?_
  refine go_sget (pc' := 33) (v := .ref 61) hS45 rfl rfl rfl (by decide) rfl rfl ?_
  refine go_salen (pc' := 34) (n := 3) hS45 rfl rfl rfl rfl ?_
  refine go_icmpP (t' := 57) (pc' := 35) rfl rfl rfl (fun (c : 3 ≤ (2 : Int32)) => absurd c (by decide)) (fun _ => ?_)
  have hC48 : CA w 32 m0 (((((B + 40) + 40) + 40) + 20) + 20) h43 (I44, Q44, Z44) := ⟨X45, ow45, sb45, hS45, hD45, hB45, hQ45⟩
  refine dB_2_3 (I := I44) (Q := Q44) (Z := Z44) hC48 (by omega) (by omega) (by rw [eM44, eM37, eM30, eM23, eM16, eM11]; exact hB2x) (fun h50 hC49 => ?_)
  change CA w 32 m0 ((((((B + 40) + 40) + 40) + 20) + 20) + 20) h50 (mdB 2 3 (I44, Q44, Z44)) at hC49
  obtain ⟨M51, eM51⟩ : ∃ y : mM, y = (mdB 2 3 (I44, Q44, Z44)) := ⟨_, rfl⟩
  rw [← eM51] at hC49
  obtain ⟨I51, Q51, Z51⟩ := M51
  obtain ⟨X52, ow52, sb52, hS52, hD52, hB52, hQ52⟩ := hC49
  have hW := hD52.1.1
  have hWn : ∀ a, List.length h50 ≤ a → w a = true := fun a ha => (hD52.1.2.1 a ha).1
  have hF53 := fr_refl tbc h50
  have hln : 62 ≤ List.length h50 := sm_len hS52
  change CD w 32 m0 h50 I51 Q51 Z51 X52 ow52 sb52 at hD52
  change sm tbc h50 I51 X52 at hS52
  change co h50 I51 ≤ ((((((B + 40) + 40) + 40) + 20) + 20) + 20) at hB52
  change ∀ l, l < 16 → (Q51 l).length ≤ List.length h50 at hQ52
  have hW := hD52.1.1
  have hWn : ∀ a, List.length h50 ≤ a → w a = true := fun a ha => (hD52.1.2.1 a ha).1
  have hF54 := fr_refl tbc h50
  have hln : 62 ≤ List.length h50 := sm_len hS52
  refine go_s (pc' := 56) (lo' := [some (.ref 1), some (.int 3), some (.int 3), some (.ref 60)]) rfl rfl rfl rfl ?_
  refine go_s (pc' := 30) rfl rfl rfl rfl ?_
  refine go_s (pc' := 31) rfl rfl rfl rfl ?_
  refine go_s (pc' := 32) rfl rfl rfl rfl ?_
  refine go_sget (pc' := 33) (v := .ref 61) hS52 rfl rfl rfl (by decide) rfl rfl ?_
  refine go_salen (pc' := 34) (n := 3) hS52 rfl rfl rfl rfl ?_
  refine go_icmpP (t' := 57) (pc' := 35) rfl rfl rfl (fun _ => ?_) (fun (c : ¬ (3 ≤ (3 : Int32))) => absurd (by decide) c)
  refine go_ret rfl rfl ?_
  have hms : mdc 3 (I, Q, Z) = (I51, Q51, Z51) := by
    unfold mdc
    rw [← eM11, ← eM16, ← eM23, ← eM30, ← eM37, ← eM44, ← eM51]
  have hC55 : CA w 32 m0 ((((((B + 40) + 40) + 40) + 20) + 20) + 20) h50 (I51, Q51, Z51) := ⟨X52, ow52, sb52, hS52, hD52, hB52, hQ52⟩
  rw [hms]
  exact ⟨rfl, CA_le hC55 (by omega)⟩
