theorem sq_0_0 {w : Nat → Bool} {d : Nat} {h : am_Hp} {m0 : mg} {B : Nat} {I : sm_I} {Q : mQ} {Z : mZ} (hC : CA w 32 m0 B h (I, Q, Z)) {P : Option Value → am_Hp → Prop} (hd : 6 ≤ d) (hB2 : B < 2 ^ 26) (K : ∀ h' v5, CA w 32 m0 (B + 344) h' (msq 0 0 (I, Q, Z)) → am_Go (am_prog w) d am_c107 none 47 [some (.ref 1), some (.int 0), some (.int 0), some (.ref 32), some (.int v5)] [] h' P) : am_Go (am_prog w) d am_c107 none 19 [some (.ref 1), some (.int 0), some (.int 0), none, none] [] h P := by
  obtain ⟨X, ow, sb, hS, hD, hB, hQ⟩ := hC
  change sm tbc h I X at hS
  change CD w 32 m0 h I Q Z X ow sb at hD
  change co h I ≤ B at hB
  change ∀ l, l < 16 → (Q l).length ≤ h.length at hQ
  have hW := hD.1.1
  have hWn : ∀ a, List.length h ≤ a → w a = true := fun a ha => (hD.1.2.1 a ha).1
  have hF1 := fr_refl tbc h
  have hln : 62 ≤ List.length h := sm_len hS
  have h207 := hD.2.2.2.1.2.2 0 (by decide)
  by_cases b12 : I 12 0 = -1
  · skip
    rw [if_pos b12] at h207
    refine go_s (pc' := 20) rfl rfl rfl rfl ?_
    refine go_sget (pc' := 21) (v := .ref 61) hS rfl rfl rfl (by decide) rfl rfl ?_
    refine go_s (pc' := 22) rfl rfl rfl rfl ?_
    refine go_sald (pc' := 23) (q := 0) (v := .ref 32) hS rfl rfl rfl rfl (by decide) rfl rfl ?_
    refine go_s (pc' := 24) (lo' := [some (.ref 1), some (.int 0), some (.int 0), some (.ref 32), none]) rfl rfl rfl rfl ?_
    refine go_s (pc' := 25) rfl rfl rfl rfl ?_
    refine go_s (pc' := 26) rfl rfl rfl rfl ?_
    refine go_callV (pc' := 27) rfl rfl rfl (Nat.le_of_ble_eq_true rfl) rfl (sm_o hS rfl) rfl rfl rfl (ct_works_0 hS (hD.2.2.2.2.2.2 0 (by decide)) (by omega)) (fun r h2 q3 => ?_)
    obtain ⟨rfl, rfl⟩ := q3
    cases u4 : lv I 0
    · skip
      show am_Go _ _ _ _ 27 _ [.int 0] _ _
      refine go_ifP (t' := 36) (pc' := 28) rfl rfl rfl (fun _ => ?_) (fun (c : ¬ ((0 : Int32) = 0)) => absurd (by decide) c)
      refine go_s (pc' := 37) (st' := [.int 0]) rfl rfl rfl rfl ?_
      refine go_s (pc' := 38) (lo' := [some (.ref 1), some (.int 0), some (.int 0), some (.ref 32), some (.int 0)]) rfl rfl rfl rfl ?_
      refine go_s (pc' := 39) rfl rfl rfl rfl ?_
      refine go_ifP (t' := 47) (pc' := 40) rfl rfl rfl (fun _ => ?_) (fun (c : ¬ ((0 : Int32) = 0)) => absurd (by decide) c)
      have hC5 : CA w 32 m0 B h2 (I, Q, Z) := ⟨X, ow, sb, hS, hD, hB, hQ⟩
      have hms : msq 0 0 (I, Q, Z) = (I, Q, Z) := if_neg (fun z => absurd (z.1.1.symm.trans u4) (by decide))
      exact K _ _ (by rw [hms]; exact CA_le hC5 (by omega))
    · skip
      show am_Go _ _ _ _ 27 _ [.int 1] _ _
      refine go_ifP (t' := 36) (pc' := 28) rfl rfl rfl (fun (c : (1 : Int32) = 0) => absurd c (by decide)) (fun _ => ?_)
      refine go_s (pc' := 29) rfl rfl rfl rfl ?_
      refine go_sget (pc' := 30) (v := .int 0) hS rfl rfl rfl (by decide) h207 rfl ?_
      refine go_ifP (t' := 36) (pc' := 31) rfl rfl rfl (fun (c : ¬ (0 : Int32) = 0) => absurd c (by decide)) (fun _ => ?_)
      refine go_s (pc' := 32) rfl rfl rfl rfl ?_
      refine go_sget (pc' := 33) (v := .int (I 13 0)) hS rfl rfl rfl (by decide) rfl rfl ?_
      refine go_ifP (t' := 36) (pc' := 34) rfl rfl rfl (fun (c6 : ¬ (I 13 0) = 0) => ?_) (fun (c6' : ¬ ¬ (I 13 0) = 0) => ?_)
      · skip
        refine go_s (pc' := 37) (st' := [.int 0]) rfl rfl rfl rfl ?_
        refine go_s (pc' := 38) (lo' := [some (.ref 1), some (.int 0), some (.int 0), some (.ref 32), some (.int 0)]) rfl rfl rfl rfl ?_
        refine go_s (pc' := 39) rfl rfl rfl rfl ?_
        refine go_ifP (t' := 47) (pc' := 40) rfl rfl rfl (fun _ => ?_) (fun (c : ¬ ((0 : Int32) = 0)) => absurd (by decide) c)
        have hC7 : CA w 32 m0 B h2 (I, Q, Z) := ⟨X, ow, sb, hS, hD, hB, hQ⟩
        have hms : msq 0 0 (I, Q, Z) = (I, Q, Z) := if_neg (fun z => c6 z.1.2.2)
        exact K _ _ (by rw [hms]; exact CA_le hC7 (by omega))
      · skip
        have c6 : (I 13 0) = 0 := Decidable.not_not.mp c6'
        refine go_s (pc' := 35) (st' := [.int 1]) rfl rfl rfl rfl ?_
        refine go_s (pc' := 37) rfl rfl rfl rfl ?_
        refine go_s (pc' := 38) (lo' := [some (.ref 1), some (.int 0), some (.int 0), some (.ref 32), some (.int 1)]) rfl rfl rfl rfl ?_
        refine go_s (pc' := 39) rfl rfl rfl rfl ?_
        refine go_ifP (t' := 47) (pc' := 40) rfl rfl rfl (fun (c : (1 : Int32) = 0) => absurd c (by decide)) (fun _ => ?_)
        refine go_s (pc' := 41) rfl rfl rfl rfl ?_
        refine go_callV (pc' := 42) rfl rfl rfl (Nat.le_of_ble_eq_true rfl) rfl (sm_o hS rfl) rfl rfl rfl (ct_oh_0 hS (by omega)) (fun r h8 q9 => ?_)
        obtain ⟨rfl, rfl⟩ := q9
        refine go_s (pc' := 43) rfl rfl rfl rfl ?_
        refine go_icmpP (t' := 47) (pc' := 44) rfl rfl rfl (fun (c10 : ¬ (ohI I 0) = 0) => ?_) (fun (c10' : ¬ ¬ (ohI I 0) = 0) => ?_)
        · skip
          have hC11 : CA w 32 m0 B h8 (I, Q, Z) := ⟨X, ow, sb, hS, hD, hB, hQ⟩
          have hms : msq 0 0 (I, Q, Z) = (I, Q, Z) := if_neg (fun z => c10 z.2)
          exact K _ _ (by rw [hms]; exact CA_le hC11 (by omega))
        · skip
          have c10 : (ohI I 0) = 0 := Decidable.not_not.mp c10'
          refine go_s (pc' := 45) rfl rfl rfl rfl ?_
          refine go_s (pc' := 46) rfl rfl rfl rfl ?_
          have hC12 : CA w 32 m0 B h8 (I, Q, Z) := ⟨X, ow, sb, hS, hD, hB, hQ⟩
          refine go_callV (pc' := 47) rfl rfl rfl (Nat.le_of_ble_eq_true rfl) rfl (sm_o hS rfl) rfl rfl rfl (cm_sC_0 hC12 (by omega) u4 (by omega)) (fun r h13 q14 => ?_)
          obtain ⟨rfl, hC9⟩ := q14
          have hms : msq 0 0 (I, Q, Z) = msC 0 (I, Q, Z) := if_pos ⟨⟨u4, b12, c6⟩, c10⟩
          exact K _ _ (by rw [hms]; exact CA_le hC9 (by omega))
  · skip
    rw [if_neg b12] at h207
    refine go_s (pc' := 20) rfl rfl rfl rfl ?_
    refine go_sget (pc' := 21) (v := .ref 61) hS rfl rfl rfl (by decide) rfl rfl ?_
    refine go_s (pc' := 22) rfl rfl rfl rfl ?_
    refine go_sald (pc' := 23) (q := 0) (v := .ref 32) hS rfl rfl rfl rfl (by decide) rfl rfl ?_
    refine go_s (pc' := 24) (lo' := [some (.ref 1), some (.int 0), some (.int 0), some (.ref 32), none]) rfl rfl rfl rfl ?_
    refine go_s (pc' := 25) rfl rfl rfl rfl ?_
    refine go_s (pc' := 26) rfl rfl rfl rfl ?_
    refine go_callV (pc' := 27) rfl rfl rfl (Nat.le_of_ble_eq_true rfl) rfl (sm_o hS rfl) rfl rfl rfl (ct_works_0 hS (hD.2.2.2.2.2.2 0 (by decide)) (by omega)) (fun r h15 q16 => ?_)
    obtain ⟨rfl, rfl⟩ := q16
    cases u17 : lv I 0
    · skip
      show am_Go _ _ _ _ 27 _ [.int 0] _ _
      refine go_ifP (t' := 36) (pc' := 28) rfl rfl rfl (fun _ => ?_) (fun (c : ¬ ((0 : Int32) = 0)) => absurd (by decide) c)
      refine go_s (pc' := 37) (st' := [.int 0]) rfl rfl rfl rfl ?_
      refine go_s (pc' := 38) (lo' := [some (.ref 1), some (.int 0), some (.int 0), some (.ref 32), some (.int 0)]) rfl rfl rfl rfl ?_
      refine go_s (pc' := 39) rfl rfl rfl rfl ?_
      refine go_ifP (t' := 47) (pc' := 40) rfl rfl rfl (fun _ => ?_) (fun (c : ¬ ((0 : Int32) = 0)) => absurd (by decide) c)
      have hC18 : CA w 32 m0 B h15 (I, Q, Z) := ⟨X, ow, sb, hS, hD, hB, hQ⟩
      have hms : msq 0 0 (I, Q, Z) = (I, Q, Z) := if_neg (fun z => absurd (z.1.1.symm.trans u17) (by decide))
      exact K _ _ (by rw [hms]; exact CA_le hC18 (by omega))
    · skip
      show am_Go _ _ _ _ 27 _ [.int 1] _ _
      refine go_ifP (t' := 36) (pc' := 28) rfl rfl rfl (fun (c : (1 : Int32) = 0) => absurd c (by decide)) (fun _ => ?_)
      refine go_s (pc' := 29) rfl rfl rfl rfl ?_
      refine go_sget (pc' := 30) (v := .int 1) hS rfl rfl rfl (by decide) h207 rfl ?_
      refine go_ifP (t' := 36) (pc' := 31) rfl rfl rfl (fun _ => ?_) (fun (c : ¬ (¬ (1 : Int32) = 0)) => absurd (by decide) c)
      refine go_s (pc' := 37) (st' := [.int 0]) rfl rfl rfl rfl ?_
      refine go_s (pc' := 38) (lo' := [some (.ref 1), some (.int 0), some (.int 0), some (.ref 32), some (.int 0)]) rfl rfl rfl rfl ?_
      refine go_s (pc' := 39) rfl rfl rfl rfl ?_
      refine go_ifP (t' := 47) (pc' := 40) rfl rfl rfl (fun _ => ?_) (fun (c : ¬ ((0 : Int32) = 0)) => absurd (by decide) c)
      have hC19 : CA w 32 m0 B h15 (I, Q, Z) := ⟨X, ow, sb, hS, hD, hB, hQ⟩
      have hms : msq 0 0 (I, Q, Z) = (I, Q, Z) := if_neg (fun z => b12 z.1.2.1)
      exact K _ _ (by rw [hms]; exact CA_le hC19 (by omega))
theorem sq_1_0 {w : Nat → Bool} {d : Nat} {h : am_Hp} {m0 : mg} {B : Nat} {I : sm_I} {Q : mQ} {Z : mZ} (hC : CA w 32 m0 B h (I, Q, Z)) {P : Option Value → am_Hp → Prop} (hd : 6 ≤ d) (hB2 : B < 2 ^ 26) {v4 : Int32} (K : ∀ h' v5, CA w 32 m0 (B + 344) h' (msq 1 0 (I, Q, Z)) → am_Go (am_prog w) d am_c107 none 47 [some (.ref 1), some (.int 0), some (.int 1), some (.ref 59), some (.int v5)] [] h' P) : am_Go (am_prog w) d am_c107 none 19 [some (.ref 1), some (.int 0), some (.int 1), some (.ref 32), some (.int v4)] [] h P := by
  obtain ⟨X, ow, sb, hS, hD, hB, hQ⟩ := hC
  change sm tbc h I X at hS
  change CD w 32 m0 h I Q Z X ow sb at hD
  change co h I ≤ B at hB
  change ∀ l, l < 16 → (Q l).length ≤ h.length at hQ
  have hW := hD.1.1
  have hWn : ∀ a, List.length h ≤ a → w a = true := fun a ha => (hD.1.2.1 a ha).1
  have hF1 := fr_refl tbc h
  have hln : 62 ≤ List.length h := sm_len hS
  have h207 := hD.2.2.2.1.2.2 1 (by decide)
  by_cases b12 : I 12 1 = -1
  · skip
    rw [if_pos b12] at h207
    refine go_s (pc' := 20) rfl rfl rfl rfl ?_
    refine go_sget (pc' := 21) (v := .ref 61) hS rfl rfl rfl (by decide) rfl rfl ?_
    refine go_s (pc' := 22) rfl rfl rfl rfl ?_
    refine go_sald (pc' := 23) (q := 1) (v := .ref 59) hS rfl rfl rfl rfl (by decide) rfl rfl ?_
    refine go_s (pc' := 24) (lo' := [some (.ref 1), some (.int 0), some (.int 1), some (.ref 59), some (.int v4)]) rfl rfl rfl rfl ?_
    refine go_s (pc' := 25) rfl rfl rfl rfl ?_
    refine go_s (pc' := 26) rfl rfl rfl rfl ?_
    refine go_callV (pc' := 27) rfl rfl rfl (Nat.le_of_ble_eq_true rfl) rfl (sm_o hS rfl) rfl rfl rfl (ct_works_1 hS (hD.2.2.2.2.2.2 1 (by decide)) (by omega)) (fun r h2 q3 => ?_)
    obtain ⟨rfl, rfl⟩ := q3
    cases u4 : lv I 1
    · skip
      show am_Go _ _ _ _ 27 _ [.int 0] _ _
      refine go_ifP (t' := 36) (pc' := 28) rfl rfl rfl (fun _ => ?_) (fun (c : ¬ ((0 : Int32) = 0)) => absurd (by decide) c)
      refine go_s (pc' := 37) (st' := [.int 0]) rfl rfl rfl rfl ?_
      refine go_s (pc' := 38) (lo' := [some (.ref 1), some (.int 0), some (.int 1), some (.ref 59), some (.int 0)]) rfl rfl rfl rfl ?_
      refine go_s (pc' := 39) rfl rfl rfl rfl ?_
      refine go_ifP (t' := 47) (pc' := 40) rfl rfl rfl (fun _ => ?_) (fun (c : ¬ ((0 : Int32) = 0)) => absurd (by decide) c)
      have hC5 : CA w 32 m0 B h2 (I, Q, Z) := ⟨X, ow, sb, hS, hD, hB, hQ⟩
      have hms : msq 1 0 (I, Q, Z) = (I, Q, Z) := if_neg (fun z => absurd (z.1.1.symm.trans u4) (by decide))
      exact K _ _ (by rw [hms]; exact CA_le hC5 (by omega))
    · skip
      show am_Go _ _ _ _ 27 _ [.int 1] _ _
      refine go_ifP (t' := 36) (pc' := 28) rfl rfl rfl (fun (c : (1 : Int32) = 0) => absurd c (by decide)) (fun _ => ?_)
      refine go_s (pc' := 29) rfl rfl rfl rfl ?_
      refine go_sget (pc' := 30) (v := .int 0) hS rfl rfl rfl (by decide) h207 rfl ?_
      refine go_ifP (t' := 36) (pc' := 31) rfl rfl rfl (fun (c : ¬ (0 : Int32) = 0) => absurd c (by decide)) (fun _ => ?_)
      refine go_s (pc' := 32) rfl rfl rfl rfl ?_
      refine go_sget (pc' := 33) (v := .int (I 13 1)) hS rfl rfl rfl (by decide) rfl rfl ?_
      refine go_ifP (t' := 36) (pc' := 34) rfl rfl rfl (fun (c6 : ¬ (I 13 1) = 0) => ?_) (fun (c6' : ¬ ¬ (I 13 1) = 0) => ?_)
      · skip
        refine go_s (pc' := 37) (st' := [.int 0]) rfl rfl rfl rfl ?_
        refine go_s (pc' := 38) (lo' := [some (.ref 1), some (.int 0), some (.int 1), some (.ref 59), some (.int 0)]) rfl rfl rfl rfl ?_
        refine go_s (pc' := 39) rfl rfl rfl rfl ?_
        refine go_ifP (t' := 47) (pc' := 40) rfl rfl rfl (fun _ => ?_) (fun (c : ¬ ((0 : Int32) = 0)) => absurd (by decide) c)
        have hC7 : CA w 32 m0 B h2 (I, Q, Z) := ⟨X, ow, sb, hS, hD, hB, hQ⟩
        have hms : msq 1 0 (I, Q, Z) = (I, Q, Z) := if_neg (fun z => c6 z.1.2.2)
        exact K _ _ (by rw [hms]; exact CA_le hC7 (by omega))
      · skip
        have c6 : (I 13 1) = 0 := Decidable.not_not.mp c6'
        refine go_s (pc' := 35) (st' := [.int 1]) rfl rfl rfl rfl ?_
        refine go_s (pc' := 37) rfl rfl rfl rfl ?_
        refine go_s (pc' := 38) (lo' := [some (.ref 1), some (.int 0), some (.int 1), some (.ref 59), some (.int 1)]) rfl rfl rfl rfl ?_
        refine go_s (pc' := 39) rfl rfl rfl rfl ?_
        refine go_ifP (t' := 47) (pc' := 40) rfl rfl rfl (fun (c : (1 : Int32) = 0) => absurd c (by decide)) (fun _ => ?_)
        refine go_s (pc' := 41) rfl rfl rfl rfl ?_
        refine go_callV (pc' := 42) rfl rfl rfl (Nat.le_of_ble_eq_true rfl) rfl (sm_o hS rfl) rfl rfl rfl (ct_oh_1 hS (by omega)) (fun r h8 q9 => ?_)
        obtain ⟨rfl, rfl⟩ := q9
        refine go_s (pc' := 43) rfl rfl rfl rfl ?_
        refine go_icmpP (t' := 47) (pc' := 44) rfl rfl rfl (fun (c10 : ¬ (ohI I 1) = 0) => ?_) (fun (c10' : ¬ ¬ (ohI I 1) = 0) => ?_)
        · skip
          have hC11 : CA w 32 m0 B h8 (I, Q, Z) := ⟨X, ow, sb, hS, hD, hB, hQ⟩
          have hms : msq 1 0 (I, Q, Z) = (I, Q, Z) := if_neg (fun z => c10 z.2)
          exact K _ _ (by rw [hms]; exact CA_le hC11 (by omega))
        · skip
          have c10 : (ohI I 1) = 0 := Decidable.not_not.mp c10'
          refine go_s (pc' := 45) rfl rfl rfl rfl ?_
          refine go_s (pc' := 46) rfl rfl rfl rfl ?_
          have hC12 : CA w 32 m0 B h8 (I, Q, Z) := ⟨X, ow, sb, hS, hD, hB, hQ⟩
          refine go_callV (pc' := 47) rfl rfl rfl (Nat.le_of_ble_eq_true rfl) rfl (sm_o hS rfl) rfl rfl rfl (cm_sC_1 hC12 (by omega) u4 (by omega)) (fun r h13 q14 => ?_)
          obtain ⟨rfl, hC9⟩ := q14
          have hms : msq 1 0 (I, Q, Z) = msC 1 (I, Q, Z) := if_pos ⟨⟨u4, b12, c6⟩, c10⟩
          exact K _ _ (by rw [hms]; exact CA_le hC9 (by omega))
  · skip
    rw [if_neg b12] at h207
    refine go_s (pc' := 20) rfl rfl rfl rfl ?_
    refine go_sget (pc' := 21) (v := .ref 61) hS rfl rfl rfl (by decide) rfl rfl ?_
    refine go_s (pc' := 22) rfl rfl rfl rfl ?_
    refine go_sald (pc' := 23) (q := 1) (v := .ref 59) hS rfl rfl rfl rfl (by decide) rfl rfl ?_
    refine go_s (pc' := 24) (lo' := [some (.ref 1), some (.int 0), some (.int 1), some (.ref 59), some (.int v4)]) rfl rfl rfl rfl ?_
    refine go_s (pc' := 25) rfl rfl rfl rfl ?_
    refine go_s (pc' := 26) rfl rfl rfl rfl ?_
    refine go_callV (pc' := 27) rfl rfl rfl (Nat.le_of_ble_eq_true rfl) rfl (sm_o hS rfl) rfl rfl rfl (ct_works_1 hS (hD.2.2.2.2.2.2 1 (by decide)) (by omega)) (fun r h15 q16 => ?_)
    obtain ⟨rfl, rfl⟩ := q16
    cases u17 : lv I 1
    · skip
      show am_Go _ _ _ _ 27 _ [.int 0] _ _
      refine go_ifP (t' := 36) (pc' := 28) rfl rfl rfl (fun _ => ?_) (fun (c : ¬ ((0 : Int32) = 0)) => absurd (by decide) c)
      refine go_s (pc' := 37) (st' := [.int 0]) rfl rfl rfl rfl ?_
      refine go_s (pc' := 38) (lo' := [some (.ref 1), some (.int 0), some (.int 1), some (.ref 59), some (.int 0)]) rfl rfl rfl rfl ?_
      refine go_s (pc' := 39) rfl rfl rfl rfl ?_
      refine go_ifP (t' := 47) (pc' := 40) rfl rfl rfl (fun _ => ?_) (fun (c : ¬ ((0 : Int32) = 0)) => absurd (by decide) c)
      have hC18 : CA w 32 m0 B h15 (I, Q, Z) := ⟨X, ow, sb, hS, hD, hB, hQ⟩
      have hms : msq 1 0 (I, Q, Z) = (I, Q, Z) := if_neg (fun z => absurd (z.1.1.symm.trans u17) (by decide))
      exact K _ _ (by rw [hms]; exact CA_le hC18 (by omega))
    · skip
      show am_Go _ _ _ _ 27 _ [.int 1] _ _
      refine go_ifP (t' := 36) (pc' := 28) rfl rfl rfl (fun (c : (1 : Int32) = 0) => absurd c (by decide)) (fun _ => ?_)
      refine go_s (pc' := 29) rfl rfl rfl rfl ?_
      refine go_sget (pc' := 30) (v := .int 1) hS rfl rfl rfl (by decide) h207 rfl ?_
      refine go_ifP (t' := 36) (pc' := 31) rfl rfl rfl (fun _ => ?_) (fun (c : ¬ (¬ (1 : Int32) = 0)) => absurd (by decide) c)
      refine go_s (pc' := 37) (st' := [.int 0]) rfl rfl rfl rfl ?_
      refine go_s (pc' := 38) (lo' := [some (.ref 1), some (.int 0), some (.int 1), some (.ref 59), some (.int 0)]) rfl rfl rfl rfl ?_
      refine go_s (pc' := 39) rfl rfl rfl rfl ?_
      refine go_ifP (t' := 47) (pc' := 40) rfl rfl rfl (fun _ => ?_) (fun (c : ¬ ((0 : Int32) = 0)) => absurd (by decide) c)
      have hC19 : CA w 32 m0 B h15 (I, Q, Z) := ⟨X, ow, sb, hS, hD, hB, hQ⟩
      have hms : msq 1 0 (I, Q, Z) = (I, Q, Z) := if_neg (fun z => b12 z.1.2.1)
      exact K _ _ (by rw [hms]; exact CA_le hC19 (by omega))
theorem sq_2_0 {w : Nat → Bool} {d : Nat} {h : am_Hp} {m0 : mg} {B : Nat} {I : sm_I} {Q : mQ} {Z : mZ} (hC : CA w 32 m0 B h (I, Q, Z)) {P : Option Value → am_Hp → Prop} (hd : 6 ≤ d) (hB2 : B < 2 ^ 26) {v4 : Int32} (K : ∀ h' v5, CA w 32 m0 (B + 344) h' (msq 2 0 (I, Q, Z)) → am_Go (am_prog w) d am_c107 none 47 [some (.ref 1), some (.int 0), some (.int 2), some (.ref 60), some (.int v5)] [] h' P) : am_Go (am_prog w) d am_c107 none 19 [some (.ref 1), some (.int 0), some (.int 2), some (.ref 59), some (.int v4)] [] h P := by
  obtain ⟨X, ow, sb, hS, hD, hB, hQ⟩ := hC
  change sm tbc h I X at hS
  change CD w 32 m0 h I Q Z X ow sb at hD
  change co h I ≤ B at hB
  change ∀ l, l < 16 → (Q l).length ≤ h.length at hQ
  have hW := hD.1.1
  have hWn : ∀ a, List.length h ≤ a → w a = true := fun a ha => (hD.1.2.1 a ha).1
  have hF1 := fr_refl tbc h
  have hln : 62 ≤ List.length h := sm_len hS
  have h207 := hD.2.2.2.1.2.2 2 (by decide)
  by_cases b12 : I 12 2 = -1
  · skip
    rw [if_pos b12] at h207
    refine go_s (pc' := 20) rfl rfl rfl rfl ?_
    refine go_sget (pc' := 21) (v := .ref 61) hS rfl rfl rfl (by decide) rfl rfl ?_
    refine go_s (pc' := 22) rfl rfl rfl rfl ?_
    refine go_sald (pc' := 23) (q := 2) (v := .ref 60) hS rfl rfl rfl rfl (by decide) rfl rfl ?_
    refine go_s (pc' := 24) (lo' := [some (.ref 1), some (.int 0), some (.int 2), some (.ref 60), some (.int v4)]) rfl rfl rfl rfl ?_
    refine go_s (pc' := 25) rfl rfl rfl rfl ?_
    refine go_s (pc' := 26) rfl rfl rfl rfl ?_
    refine go_callV (pc' := 27) rfl rfl rfl (Nat.le_of_ble_eq_true rfl) rfl (sm_o hS rfl) rfl rfl rfl (ct_works_2 hS (hD.2.2.2.2.2.2 2 (by decide)) (by omega)) (fun r h2 q3 => ?_)
    obtain ⟨rfl, rfl⟩ := q3
    cases u4 : lv I 2
    · skip
      show am_Go _ _ _ _ 27 _ [.int 0] _ _
      refine go_ifP (t' := 36) (pc' := 28) rfl rfl rfl (fun _ => ?_) (fun (c : ¬ ((0 : Int32) = 0)) => absurd (by decide) c)
      refine go_s (pc' := 37) (st' := [.int 0]) rfl rfl rfl rfl ?_
      refine go_s (pc' := 38) (lo' := [some (.ref 1), some (.int 0), some (.int 2), some (.ref 60), some (.int 0)]) rfl rfl rfl rfl ?_
      refine go_s (pc' := 39) rfl rfl rfl rfl ?_
      refine go_ifP (t' := 47) (pc' := 40) rfl rfl rfl (fun _ => ?_) (fun (c : ¬ ((0 : Int32) = 0)) => absurd (by decide) c)
      have hC5 : CA w 32 m0 B h2 (I, Q, Z) := ⟨X, ow, sb, hS, hD, hB, hQ⟩
      have hms : msq 2 0 (I, Q, Z) = (I, Q, Z) := if_neg (fun z => absurd (z.1.1.symm.trans u4) (by decide))
      exact K _ _ (by rw [hms]; exact CA_le hC5 (by omega))
    · skip
      show am_Go _ _ _ _ 27 _ [.int 1] _ _
      refine go_ifP (t' := 36) (pc' := 28) rfl rfl rfl (fun (c : (1 : Int32) = 0) => absurd c (by decide)) (fun _ => ?_)
      refine go_s (pc' := 29) rfl rfl rfl rfl ?_
      refine go_sget (pc' := 30) (v := .int 0) hS rfl rfl rfl (by decide) h207 rfl ?_
      refine go_ifP (t' := 36) (pc' := 31) rfl rfl rfl (fun (c : ¬ (0 : Int32) = 0) => absurd c (by decide)) (fun _ => ?_)
      refine go_s (pc' := 32) rfl rfl rfl rfl ?_
      refine go_sget (pc' := 33) (v := .int (I 13 2)) hS rfl rfl rfl (by decide) rfl rfl ?_
      refine go_ifP (t' := 36) (pc' := 34) rfl rfl rfl (fun (c6 : ¬ (I 13 2) = 0) => ?_) (fun (c6' : ¬ ¬ (I 13 2) = 0) => ?_)
      · skip
        refine go_s (pc' := 37) (st' := [.int 0]) rfl rfl rfl rfl ?_
        refine go_s (pc' := 38) (lo' := [some (.ref 1), some (.int 0), some (.int 2), some (.ref 60), some (.int 0)]) rfl rfl rfl rfl ?_
        refine go_s (pc' := 39) rfl rfl rfl rfl ?_
        refine go_ifP (t' := 47) (pc' := 40) rfl rfl rfl (fun _ => ?_) (fun (c : ¬ ((0 : Int32) = 0)) => absurd (by decide) c)
        have hC7 : CA w 32 m0 B h2 (I, Q, Z) := ⟨X, ow, sb, hS, hD, hB, hQ⟩
        have hms : msq 2 0 (I, Q, Z) = (I, Q, Z) := if_neg (fun z => c6 z.1.2.2)
        exact K _ _ (by rw [hms]; exact CA_le hC7 (by omega))
      · skip
        have c6 : (I 13 2) = 0 := Decidable.not_not.mp c6'
        refine go_s (pc' := 35) (st' := [.int 1]) rfl rfl rfl rfl ?_
        refine go_s (pc' := 37) rfl rfl rfl rfl ?_
        refine go_s (pc' := 38) (lo' := [some (.ref 1), some (.int 0), some (.int 2), some (.ref 60), some (.int 1)]) rfl rfl rfl rfl ?_
        refine go_s (pc' := 39) rfl rfl rfl rfl ?_
        refine go_ifP (t' := 47) (pc' := 40) rfl rfl rfl (fun (c : (1 : Int32) = 0) => absurd c (by decide)) (fun _ => ?_)
        refine go_s (pc' := 41) rfl rfl rfl rfl ?_
        refine go_callV (pc' := 42) rfl rfl rfl (Nat.le_of_ble_eq_true rfl) rfl (sm_o hS rfl) rfl rfl rfl (ct_oh_2 hS (by omega)) (fun r h8 q9 => ?_)
        obtain ⟨rfl, rfl⟩ := q9
        refine go_s (pc' := 43) rfl rfl rfl rfl ?_
        refine go_icmpP (t' := 47) (pc' := 44) rfl rfl rfl (fun (c10 : ¬ (ohI I 2) = 0) => ?_) (fun (c10' : ¬ ¬ (ohI I 2) = 0) => ?_)
        · skip
          have hC11 : CA w 32 m0 B h8 (I, Q, Z) := ⟨X, ow, sb, hS, hD, hB, hQ⟩
          have hms : msq 2 0 (I, Q, Z) = (I, Q, Z) := if_neg (fun z => c10 z.2)
          exact K _ _ (by rw [hms]; exact CA_le hC11 (by omega))
        · skip
          have c10 : (ohI I 2) = 0 := Decidable.not_not.mp c10'
          refine go_s (pc' := 45) rfl rfl rfl rfl ?_
          refine go_s (pc' := 46) rfl rfl rfl rfl ?_
          have hC12 : CA w 32 m0 B h8 (I, Q, Z) := ⟨X, ow, sb, hS, hD, hB, hQ⟩
          refine go_callV (pc' := 47) rfl rfl rfl (Nat.le_of_ble_eq_true rfl) rfl (sm_o hS rfl) rfl rfl rfl (cm_sC_2 hC12 (by omega) u4 (by omega)) (fun r h13 q14 => ?_)
          obtain ⟨rfl, hC9⟩ := q14
          have hms : msq 2 0 (I, Q, Z) = msC 2 (I, Q, Z) := if_pos ⟨⟨u4, b12, c6⟩, c10⟩
          exact K _ _ (by rw [hms]; exact CA_le hC9 (by omega))
  · skip
    rw [if_neg b12] at h207
    refine go_s (pc' := 20) rfl rfl rfl rfl ?_
    refine go_sget (pc' := 21) (v := .ref 61) hS rfl rfl rfl (by decide) rfl rfl ?_
    refine go_s (pc' := 22) rfl rfl rfl rfl ?_
    refine go_sald (pc' := 23) (q := 2) (v := .ref 60) hS rfl rfl rfl rfl (by decide) rfl rfl ?_
    refine go_s (pc' := 24) (lo' := [some (.ref 1), some (.int 0), some (.int 2), some (.ref 60), some (.int v4)]) rfl rfl rfl rfl ?_
    refine go_s (pc' := 25) rfl rfl rfl rfl ?_
    refine go_s (pc' := 26) rfl rfl rfl rfl ?_
    refine go_callV (pc' := 27) rfl rfl rfl (Nat.le_of_ble_eq_true rfl) rfl (sm_o hS rfl) rfl rfl rfl (ct_works_2 hS (hD.2.2.2.2.2.2 2 (by decide)) (by omega)) (fun r h15 q16 => ?_)
    obtain ⟨rfl, rfl⟩ := q16
    cases u17 : lv I 2
    · skip
      show am_Go _ _ _ _ 27 _ [.int 0] _ _
      refine go_ifP (t' := 36) (pc' := 28) rfl rfl rfl (fun _ => ?_) (fun (c : ¬ ((0 : Int32) = 0)) => absurd (by decide) c)
      refine go_s (pc' := 37) (st' := [.int 0]) rfl rfl rfl rfl ?_
      refine go_s (pc' := 38) (lo' := [some (.ref 1), some (.int 0), some (.int 2), some (.ref 60), some (.int 0)]) rfl rfl rfl rfl ?_
      refine go_s (pc' := 39) rfl rfl rfl rfl ?_
      refine go_ifP (t' := 47) (pc' := 40) rfl rfl rfl (fun _ => ?_) (fun (c : ¬ ((0 : Int32) = 0)) => absurd (by decide) c)
      have hC18 : CA w 32 m0 B h15 (I, Q, Z) := ⟨X, ow, sb, hS, hD, hB, hQ⟩
      have hms : msq 2 0 (I, Q, Z) = (I, Q, Z) := if_neg (fun z => absurd (z.1.1.symm.trans u17) (by decide))
      exact K _ _ (by rw [hms]; exact CA_le hC18 (by omega))
    · skip
      show am_Go _ _ _ _ 27 _ [.int 1] _ _
      refine go_ifP (t' := 36) (pc' := 28) rfl rfl rfl (fun (c : (1 : Int32) = 0) => absurd c (by decide)) (fun _ => ?_)
      refine go_s (pc' := 29) rfl rfl rfl rfl ?_
      refine go_sget (pc' := 30) (v := .int 1) hS rfl rfl rfl (by decide) h207 rfl ?_
      refine go_ifP (t' := 36) (pc' := 31) rfl rfl rfl (fun _ => ?_) (fun (c : ¬ (¬ (1 : Int32) = 0)) => absurd (by decide) c)
      refine go_s (pc' := 37) (st' := [.int 0]) rfl rfl rfl rfl ?_
      refine go_s (pc' := 38) (lo' := [some (.ref 1), some (.int 0), some (.int 2), some (.ref 60), some (.int 0)]) rfl rfl rfl rfl ?_
      refine go_s (pc' := 39) rfl rfl rfl rfl ?_
      refine go_ifP (t' := 47) (pc' := 40) rfl rfl rfl (fun _ => ?_) (fun (c : ¬ ((0 : Int32) = 0)) => absurd (by decide) c)
      have hC19 : CA w 32 m0 B h15 (I, Q, Z) := ⟨X, ow, sb, hS, hD, hB, hQ⟩
      have hms : msq 2 0 (I, Q, Z) = (I, Q, Z) := if_neg (fun z => b12 z.1.2.1)
      exact K _ _ (by rw [hms]; exact CA_le hC19 (by omega))
theorem cm_spr_0 {w : Nat → Bool} {d : Nat} {h : am_Hp} {m0 : mg} {B : Nat} {I : sm_I} {Q : mQ} {Z : mZ} (hC : CA w 32 m0 B h (I, Q, Z)) (hB2 : B < 2 ^ 25) (hN : ∀ k, k < 3 → ¬ I 11 k = nI 0) (hd : 7 ≤ d) : am_Ev (am_prog w) d 107 [.ref 1, .int 0] h (fun r h' => r = none ∧ CA w 32 m0 (B + 1032) h' (mspr 0 (I, Q, Z))) := by
  obtain ⟨X, ow, sb, hS, hD, hB, hQ⟩ := hC
  change sm tbc h I X at hS
  change CD w 32 m0 h I Q Z X ow sb at hD
  change co h I ≤ B at hB
  change ∀ l, l < 16 → (Q l).length ≤ h.length at hQ
  have hW := hD.1.1
  have hWn : ∀ a, List.length h ≤ a → w a = true := fun a ha => (hD.1.2.1 a ha).1
  have hF1 := fr_refl tbc h
  have hln : 62 ≤ List.length h := sm_len hS
  obtain ⟨d, rfl⟩ : ∃ e, d = e + 1 := ⟨d - 1, by omega⟩
  refine ev_go rfl (Nat.le_of_ble_eq_true rfl) rfl ?_
  refine go_s (pc' := 1) rfl rfl rfl rfl ?_
  refine go_sget (pc' := 2) (v := .ref 2) hS rfl rfl rfl (by decide) rfl rfl ?_
  refine go_sget (pc' := 3) (v := .ref 3) hS rfl rfl rfl (by decide) rfl rfl ?_
  refine go_s (pc' := 4) rfl rfl rfl rfl ?_
  refine go_s (pc' := 5) (st' := [.int 1, .int 0, .ref 3]) rfl rfl rfl rfl ?_
  refine go_szast (pc' := 6) (q := 0) hS rfl rfl tbc_inj (Nat.le_of_ble_eq_true rfl) rfl (by decide) (by decide) rfl (hW _ rfl) rfl (fun h2 hS3 hE4 => ?_)
  have hF5 := fr_trans hF1 (fr_e hE4)
  refine go_s (pc' := 7) rfl rfl rfl rfl ?_
  refine go_sget (pc' := 8) (v := .ref 2) hS3 rfl rfl rfl (by decide) rfl rfl ?_
  refine go_sget (pc' := 9) (v := .ref 4) hS3 rfl rfl rfl (by decide) rfl rfl ?_
  refine go_s (pc' := 10) rfl rfl rfl rfl ?_
  refine go_s (pc' := 11) (st' := [.int 0, .int 0, .ref 4]) rfl rfl rfl rfl ?_
  refine go_szast (pc' := 12) (q := 0) hS3 rfl rfl tbc_inj (Nat.le_of_ble_eq_true rfl) rfl (by decide) (by decide) rfl (hW _ rfl) rfl (fun h6 hS7 hE8 => ?_)
  have hF9 := fr_trans hF5 (fr_e hE8)
  refine go_s (pc' := 13) (st' := [.int 0]) rfl rfl rfl rfl ?_
  refine go_s (pc' := 14) (lo' := [some (.ref 1), some (.int 0), some (.int 0), none, none]) rfl rfl rfl rfl ?_
  refine go_s (pc' := 15) rfl rfl rfl rfl ?_
  refine go_s (pc' := 16) rfl rfl rfl rfl ?_
  refine go_sget (pc' := 17) (v := .ref 61) hS7 rfl rfl rfl (by decide) rfl rfl ?_
  refine go_salen (pc' := 18) (n := 3) hS7 rfl rfl rfl rfl ?_
  refine go_icmpP (t' := 49) (pc' := 19) rfl rfl rfl (fun (c : 3 ≤ (0 : Int32)) => absurd c (by decide)) (fun _ => ?_)
  have hD10 : CD w 32 m0 h6 ((uI (uI I 0 0 1) 1 0 0, Q, Z) : mM).1 ((uI (uI I 0 0 1) 1 0 0, Q, Z) : mM).2.1 ((uI (uI I 0 0 1) 1 0 0, Q, Z) : mM).2.2 (X) ow sb := CD_I (J := uI (uI I 0 0 1) 1 0 0) (CD_up1 (CD_fr hD hF9) (by decide) hN) ⟨rfl, rfl, rfl, rfl, rfl, rfl, rfl, rfl, rfl, rfl, rfl, rfl, rfl, rfl, rfl⟩
  have hS13 : sm tbc h6 ((uI (uI I 0 0 1) 1 0 0, Q, Z) : mM).1 (X) := hS7
  have hB11 : co h6 ((uI (uI I 0 0 1) 1 0 0, Q, Z) : mM).1 ≤ B := by
    have z1 := co_fr (I := I) (J := ((uI (uI I 0 0 1) 1 0 0, Q, Z) : mM).1) hF9 rfl
    have z2 := hB
    omega
  have hQ12 : ∀ l, l < 16 → (((uI (uI I 0 0 1) 1 0 0, Q, Z) : mM).2.1 l).length ≤ List.length h6 := fun l hl => Nat.le_trans (hQ l hl) hF9.1
  obtain ⟨X14, eX14⟩ : ∃ y, y = (X) := ⟨_, rfl⟩
  rw [← eX14] at hD10 hS13
  obtain ⟨M15, eM15⟩ : ∃ y : mM, y = ((uI (uI I 0 0 1) 1 0 0, Q, Z) : mM) := ⟨_, rfl⟩
  rw [← eM15] at hD10 hS13 hB11 hQ12
  obtain ⟨I15, Q15, Z15⟩ := M15
  change CD w 32 m0 h6 I15 Q15 Z15 X14 ow sb at hD10
  change sm tbc h6 I15 X14 at hS13
  change co h6 I15 ≤ B at hB11
  change ∀ l, l < 16 → (Q15 l).length ≤ List.length h6 at hQ12
  have hW := hD10.1.1
  have hWn : ∀ a, List.length h6 ≤ a → w a = true := fun a ha => (hD10.1.2.1 a ha).1
  have hF16 := fr_refl tbc h6
  have hln : 62 ≤ List.length h6 := sm_len hS13
  have hC17 : CA w 32 m0 B h6 (I15, Q15, Z15) := ⟨X14, ow, sb, hS13, hD10, hB11, hQ12⟩
  refine sq_0_0 (I := I15) (Q := Q15) (Z := Z15) hC17 (by omega) (by omega) (fun h19 v20 hC18 => ?_)
  change CA w 32 m0 (B + 344) h19 (msq 0 0 (I15, Q15, Z15)) at hC18
  obtain ⟨M21, eM21⟩ : ∃ y : mM, y = (msq 0 0 (I15, Q15, Z15)) := ⟨_, rfl⟩
  rw [← eM21] at hC18
  obtain ⟨I21, Q21, Z21⟩ := M21
  obtain ⟨X22, ow22, sb22, hS22, hD22, hB22, hQ22⟩ := hC18
  have hW := hD22.1.1
  have hWn : ∀ a, List.length h19 ≤ a → w a = true := fun a ha => (hD22.1.2.1 a ha).1
  have hF23 := fr_refl tbc h19
  have hln : 62 ≤ List.length h19 := sm_len hS22
  change CD w 32 m0 h19 I21 Q21 Z21 X22 ow22 sb22 at hD22
  change sm tbc h19 I21 X22 at hS22
  change co h19 I21 ≤ (B + 344) at hB22
  change ∀ l, l < 16 → (Q21 l).length ≤ List.length h19 at hQ22
  have hW := hD22.1.1
  have hWn : ∀ a, List.length h19 ≤ a → w a = true := fun a ha => (hD22.1.2.1 a ha).1
  have hF24 := fr_refl tbc h19
  have hln : 62 ≤ List.length h19 := sm_len hS22
  refine go_s (pc' := 48) (lo' := [some (.ref 1), some (.int 0), some (.int 1), some (.ref 32), some (.int v20)]) rfl rfl rfl rfl ?_
  refine go_s (pc' := 14) rfl rfl rfl rfl ?_
  refine go_s (pc' := 15) rfl rfl rfl rfl ?_
  refine go_s (pc' := 16) rfl rfl rfl rfl ?_
  refine go_sget (pc' := 17) (v := .ref 61) hS22 rfl rfl rfl (by decide) rfl rfl ?_
  refine go_salen (pc' := 18) (n := 3) hS22 rfl rfl rfl rfl ?_
  refine go_icmpP (t' := 49) (pc' := 19) rfl rfl rfl (fun (c : 3 ≤ (1 : Int32)) => absurd c (by decide)) (fun _ => ?_)
  have hC25 : CA w 32 m0 (B + 344) h19 (I21, Q21, Z21) := ⟨X22, ow22, sb22, hS22, hD22, hB22, hQ22⟩
  refine sq_1_0 (I := I21) (Q := Q21) (Z := Z21) hC25 (by omega) (by omega) (fun h27 v28 hC26 => ?_)
  change CA w 32 m0 ((B + 344) + 344) h27 (msq 1 0 (I21, Q21, Z21)) at hC26
  obtain ⟨M29, eM29⟩ : ∃ y : mM, y = (msq 1 0 (I21, Q21, Z21)) := ⟨_, rfl⟩
  rw [← eM29] at hC26
  obtain ⟨I29, Q29, Z29⟩ := M29
  obtain ⟨X30, ow30, sb30, hS30, hD30, hB30, hQ30⟩ := hC26
  have hW := hD30.1.1
  have hWn : ∀ a, List.length h27 ≤ a → w a = true := fun a ha => (hD30.1.2.1 a ha).1
  have hF31 := fr_refl tbc h27
  have hln : 62 ≤ List.length h27 := sm_len hS30
  change CD w 32 m0 h27 I29 Q29 Z29 X30 ow30 sb30 at hD30
  change sm tbc h27 I29 X30 at hS30
  change co h27 I29 ≤ ((B + 344) + 344) at hB30
  change ∀ l, l < 16 → (Q29 l).length ≤ List.length h27 at hQ30
  have hW := hD30.1.1
  have hWn : ∀ a, List.length h27 ≤ a → w a = true := fun a ha => (hD30.1.2.1 a ha).1
  have hF32 := fr_refl tbc h27
  have hln : 62 ≤ List.length h27 := sm_len hS30
  refine go_s (pc' := 48) (lo' := [some (.ref 1), some (.int 0), some (.int 2), some (.ref 59), some (.int v28)]) rfl rfl rfl rfl ?_
  refine go_s (pc' := 14) rfl rfl rfl rfl ?_
  refine go_s (pc' := 15) rfl rfl rfl rfl ?_
  refine go_s (pc' := 16) rfl rfl rfl rfl ?_
  refine go_sget (pc' := 17) (v := .ref 61) hS30 rfl rfl rfl (by decide) rfl rfl ?_
  refine go_salen (pc' := 18) (n := 3) hS30 rfl rfl rfl rfl ?_
  refine go_icmpP (t' := 49) (pc' := 19) rfl rfl rfl (fun (c : 3 ≤ (2 : Int32)) => absurd c (by decide)) (fun _ => ?_)
  have hC33 : CA w 32 m0 ((B + 344) + 344) h27 (I29, Q29, Z29) := ⟨X30, ow30, sb30, hS30, hD30, hB30, hQ30⟩
  refine sq_2_0 (I := I29) (Q := Q29) (Z := Z29) hC33 (by omega) (by omega) (fun h35 v36 hC34 => ?_)
  change CA w 32 m0 (((B + 344) + 344) + 344) h35 (msq 2 0 (I29, Q29, Z29)) at hC34
  obtain ⟨M37, eM37⟩ : ∃ y : mM, y = (msq 2 0 (I29, Q29, Z29)) := ⟨_, rfl⟩
  rw [← eM37] at hC34
  obtain ⟨I37, Q37, Z37⟩ := M37
  obtain ⟨X38, ow38, sb38, hS38, hD38, hB38, hQ38⟩ := hC34
  have hW := hD38.1.1
  have hWn : ∀ a, List.length h35 ≤ a → w a = true := fun a ha => (hD38.1.2.1 a ha).1
  have hF39 := fr_refl tbc h35
  have hln : 62 ≤ List.length h35 := sm_len hS38
  change CD w 32 m0 h35 I37 Q37 Z37 X38 ow38 sb38 at hD38
  change sm tbc h35 I37 X38 at hS38
  change co h35 I37 ≤ (((B + 344) + 344) + 344) at hB38
  change ∀ l, l < 16 → (Q37 l).length ≤ List.length h35 at hQ38
  have hW := hD38.1.1
  have hWn : ∀ a, List.length h35 ≤ a → w a = true := fun a ha => (hD38.1.2.1 a ha).1
  have hF40 := fr_refl tbc h35
  have hln : 62 ≤ List.length h35 := sm_len hS38
  refine go_s (pc' := 48) (lo' := [some (.ref 1), some (.int 0), some (.int 3), some (.ref 60), some (.int v36)]) rfl rfl rfl rfl ?_
  refine go_s (pc' := 14) rfl rfl rfl rfl ?_
  refine go_s (pc' := 15) rfl rfl rfl rfl ?_
  refine go_s (pc' := 16) rfl rfl rfl rfl ?_
  refine go_sget (pc' := 17) (v := .ref 61) hS38 rfl rfl rfl (by decide) rfl rfl ?_
  refine go_salen (pc' := 18) (n := 3) hS38 rfl rfl rfl rfl ?_
  refine go_icmpP (t' := 49) (pc' := 19) rfl rfl rfl (fun _ => ?_) (fun (c : ¬ (3 ≤ (3 : Int32))) => absurd (by decide) c)
  refine go_ret rfl rfl ?_
  have hms : mspr 0 (I, Q, Z) = (I37, Q37, Z37) := by
    unfold mspr
    rw [← eM15, ← eM21, ← eM29, ← eM37]
  have hC41 : CA w 32 m0 (((B + 344) + 344) + 344) h35 (I37, Q37, Z37) := ⟨X38, ow38, sb38, hS38, hD38, hB38, hQ38⟩
  rw [hms]
  exact ⟨rfl, CA_le hC41 (by omega)⟩
theorem sq_0_1 {w : Nat → Bool} {d : Nat} {h : am_Hp} {m0 : mg} {B : Nat} {I : sm_I} {Q : mQ} {Z : mZ} (hC : CA w 32 m0 B h (I, Q, Z)) {P : Option Value → am_Hp → Prop} (hd : 6 ≤ d) (hB2 : B < 2 ^ 26) (K : ∀ h' v5, CA w 32 m0 (B + 344) h' (msq 0 1 (I, Q, Z)) → am_Go (am_prog w) d am_c107 none 47 [some (.ref 1), some (.int 1), some (.int 0), some (.ref 32), some (.int v5)] [] h' P) : am_Go (am_prog w) d am_c107 none 19 [some (.ref 1), some (.int 1), some (.int 0), none, none] [] h P := by
  obtain ⟨X, ow, sb, hS, hD, hB, hQ⟩ := hC
  change sm tbc h I X at hS
  change CD w 32 m0 h I Q Z X ow sb at hD
  change co h I ≤ B at hB
  change ∀ l, l < 16 → (Q l).length ≤ h.length at hQ
  have hW := hD.1.1
  have hWn : ∀ a, List.length h ≤ a → w a = true := fun a ha => (hD.1.2.1 a ha).1
  have hF1 := fr_refl tbc h
  have hln : 62 ≤ List.length h := sm_len hS
  have h207 := hD.2.2.2.1.2.2 0 (by decide)
  by_cases b12 : I 12 0 = -1
  · skip
    rw [if_pos b12] at h207
    refine go_s (pc' := 20) rfl rfl rfl rfl ?_
    refine go_sget (pc' := 21) (v := .ref 61) hS rfl rfl rfl (by decide) rfl rfl ?_
    refine go_s (pc' := 22) rfl rfl rfl rfl ?_
    refine go_sald (pc' := 23) (q := 0) (v := .ref 32) hS rfl rfl rfl rfl (by decide) rfl rfl ?_
    refine go_s (pc' := 24) (lo' := [some (.ref 1), some (.int 1), some (.int 0), some (.ref 32), none]) rfl rfl rfl rfl ?_
    refine go_s (pc' := 25) rfl rfl rfl rfl ?_
    refine go_s (pc' := 26) rfl rfl rfl rfl ?_
    refine go_callV (pc' := 27) rfl rfl rfl (Nat.le_of_ble_eq_true rfl) rfl (sm_o hS rfl) rfl rfl rfl (ct_works_0 hS (hD.2.2.2.2.2.2 0 (by decide)) (by omega)) (fun r h2 q3 => ?_)
    obtain ⟨rfl, rfl⟩ := q3
    cases u4 : lv I 0
    · skip
      show am_Go _ _ _ _ 27 _ [.int 0] _ _
      refine go_ifP (t' := 36) (pc' := 28) rfl rfl rfl (fun _ => ?_) (fun (c : ¬ ((0 : Int32) = 0)) => absurd (by decide) c)
      refine go_s (pc' := 37) (st' := [.int 0]) rfl rfl rfl rfl ?_
      refine go_s (pc' := 38) (lo' := [some (.ref 1), some (.int 1), some (.int 0), some (.ref 32), some (.int 0)]) rfl rfl rfl rfl ?_
      refine go_s (pc' := 39) rfl rfl rfl rfl ?_
      refine go_ifP (t' := 47) (pc' := 40) rfl rfl rfl (fun _ => ?_) (fun (c : ¬ ((0 : Int32) = 0)) => absurd (by decide) c)
      have hC5 : CA w 32 m0 B h2 (I, Q, Z) := ⟨X, ow, sb, hS, hD, hB, hQ⟩
      have hms : msq 0 1 (I, Q, Z) = (I, Q, Z) := if_neg (fun z => absurd (z.1.1.symm.trans u4) (by decide))
      exact K _ _ (by rw [hms]; exact CA_le hC5 (by omega))
    · skip
      show am_Go _ _ _ _ 27 _ [.int 1] _ _
      refine go_ifP (t' := 36) (pc' := 28) rfl rfl rfl (fun (c : (1 : Int32) = 0) => absurd c (by decide)) (fun _ => ?_)
      refine go_s (pc' := 29) rfl rfl rfl rfl ?_
      refine go_sget (pc' := 30) (v := .int 0) hS rfl rfl rfl (by decide) h207 rfl ?_
      refine go_ifP (t' := 36) (pc' := 31) rfl rfl rfl (fun (c : ¬ (0 : Int32) = 0) => absurd c (by decide)) (fun _ => ?_)
      refine go_s (pc' := 32) rfl rfl rfl rfl ?_
      refine go_sget (pc' := 33) (v := .int (I 13 0)) hS rfl rfl rfl (by decide) rfl rfl ?_
      refine go_ifP (t' := 36) (pc' := 34) rfl rfl rfl (fun (c6 : ¬ (I 13 0) = 0) => ?_) (fun (c6' : ¬ ¬ (I 13 0) = 0) => ?_)
      · skip
        refine go_s (pc' := 37) (st' := [.int 0]) rfl rfl rfl rfl ?_
        refine go_s (pc' := 38) (lo' := [some (.ref 1), some (.int 1), some (.int 0), some (.ref 32), some (.int 0)]) rfl rfl rfl rfl ?_
        refine go_s (pc' := 39) rfl rfl rfl rfl ?_
        refine go_ifP (t' := 47) (pc' := 40) rfl rfl rfl (fun _ => ?_) (fun (c : ¬ ((0 : Int32) = 0)) => absurd (by decide) c)
        have hC7 : CA w 32 m0 B h2 (I, Q, Z) := ⟨X, ow, sb, hS, hD, hB, hQ⟩
        have hms : msq 0 1 (I, Q, Z) = (I, Q, Z) := if_neg (fun z => c6 z.1.2.2)
        exact K _ _ (by rw [hms]; exact CA_le hC7 (by omega))
      · skip
        have c6 : (I 13 0) = 0 := Decidable.not_not.mp c6'
        refine go_s (pc' := 35) (st' := [.int 1]) rfl rfl rfl rfl ?_
        refine go_s (pc' := 37) rfl rfl rfl rfl ?_
        refine go_s (pc' := 38) (lo' := [some (.ref 1), some (.int 1), some (.int 0), some (.ref 32), some (.int 1)]) rfl rfl rfl rfl ?_
        refine go_s (pc' := 39) rfl rfl rfl rfl ?_
        refine go_ifP (t' := 47) (pc' := 40) rfl rfl rfl (fun (c : (1 : Int32) = 0) => absurd c (by decide)) (fun _ => ?_)
        refine go_s (pc' := 41) rfl rfl rfl rfl ?_
        refine go_callV (pc' := 42) rfl rfl rfl (Nat.le_of_ble_eq_true rfl) rfl (sm_o hS rfl) rfl rfl rfl (ct_oh_0 hS (by omega)) (fun r h8 q9 => ?_)
        obtain ⟨rfl, rfl⟩ := q9
        refine go_s (pc' := 43) rfl rfl rfl rfl ?_
        refine go_icmpP (t' := 47) (pc' := 44) rfl rfl rfl (fun (c10 : ¬ (ohI I 0) = 1) => ?_) (fun (c10' : ¬ ¬ (ohI I 0) = 1) => ?_)
        · skip
          have hC11 : CA w 32 m0 B h8 (I, Q, Z) := ⟨X, ow, sb, hS, hD, hB, hQ⟩
          have hms : msq 0 1 (I, Q, Z) = (I, Q, Z) := if_neg (fun z => c10 z.2)
          exact K _ _ (by rw [hms]; exact CA_le hC11 (by omega))
        · skip
          have c10 : (ohI I 0) = 1 := Decidable.not_not.mp c10'
          refine go_s (pc' := 45) rfl rfl rfl rfl ?_
          refine go_s (pc' := 46) rfl rfl rfl rfl ?_
          have hC12 : CA w 32 m0 B h8 (I, Q, Z) := ⟨X, ow, sb, hS, hD, hB, hQ⟩
          refine go_callV (pc' := 47) rfl rfl rfl (Nat.le_of_ble_eq_true rfl) rfl (sm_o hS rfl) rfl rfl rfl (cm_sC_0 hC12 (by omega) u4 (by omega)) (fun r h13 q14 => ?_)
          obtain ⟨rfl, hC9⟩ := q14
          have hms : msq 0 1 (I, Q, Z) = msC 0 (I, Q, Z) := if_pos ⟨⟨u4, b12, c6⟩, c10⟩
          exact K _ _ (by rw [hms]; exact CA_le hC9 (by omega))
  · skip
    rw [if_neg b12] at h207
    refine go_s (pc' := 20) rfl rfl rfl rfl ?_
    refine go_sget (pc' := 21) (v := .ref 61) hS rfl rfl rfl (by decide) rfl rfl ?_
    refine go_s (pc' := 22) rfl rfl rfl rfl ?_
    refine go_sald (pc' := 23) (q := 0) (v := .ref 32) hS rfl rfl rfl rfl (by decide) rfl rfl ?_
    refine go_s (pc' := 24) (lo' := [some (.ref 1), some (.int 1), some (.int 0), some (.ref 32), none]) rfl rfl rfl rfl ?_
    refine go_s (pc' := 25) rfl rfl rfl rfl ?_
    refine go_s (pc' := 26) rfl rfl rfl rfl ?_
    refine go_callV (pc' := 27) rfl rfl rfl (Nat.le_of_ble_eq_true rfl) rfl (sm_o hS rfl) rfl rfl rfl (ct_works_0 hS (hD.2.2.2.2.2.2 0 (by decide)) (by omega)) (fun r h15 q16 => ?_)
    obtain ⟨rfl, rfl⟩ := q16
    cases u17 : lv I 0
    · skip
      show am_Go _ _ _ _ 27 _ [.int 0] _ _
      refine go_ifP (t' := 36) (pc' := 28) rfl rfl rfl (fun _ => ?_) (fun (c : ¬ ((0 : Int32) = 0)) => absurd (by decide) c)
      refine go_s (pc' := 37) (st' := [.int 0]) rfl rfl rfl rfl ?_
      refine go_s (pc' := 38) (lo' := [some (.ref 1), some (.int 1), some (.int 0), some (.ref 32), some (.int 0)]) rfl rfl rfl rfl ?_
      refine go_s (pc' := 39) rfl rfl rfl rfl ?_
      refine go_ifP (t' := 47) (pc' := 40) rfl rfl rfl (fun _ => ?_) (fun (c : ¬ ((0 : Int32) = 0)) => absurd (by decide) c)
      have hC18 : CA w 32 m0 B h15 (I, Q, Z) := ⟨X, ow, sb, hS, hD, hB, hQ⟩
      have hms : msq 0 1 (I, Q, Z) = (I, Q, Z) := if_neg (fun z => absurd (z.1.1.symm.trans u17) (by decide))
      exact K _ _ (by rw [hms]; exact CA_le hC18 (by omega))
    · skip
      show am_Go _ _ _ _ 27 _ [.int 1] _ _
      refine go_ifP (t' := 36) (pc' := 28) rfl rfl rfl (fun (c : (1 : Int32) = 0) => absurd c (by decide)) (fun _ => ?_)
      refine go_s (pc' := 29) rfl rfl rfl rfl ?_
      refine go_sget (pc' := 30) (v := .int 1) hS rfl rfl rfl (by decide) h207 rfl ?_
      refine go_ifP (t' := 36) (pc' := 31) rfl rfl rfl (fun _ => ?_) (fun (c : ¬ (¬ (1 : Int32) = 0)) => absurd (by decide) c)
      refine go_s (pc' := 37) (st' := [.int 0]) rfl rfl rfl rfl ?_
      refine go_s (pc' := 38) (lo' := [some (.ref 1), some (.int 1), some (.int 0), some (.ref 32), some (.int 0)]) rfl rfl rfl rfl ?_
      refine go_s (pc' := 39) rfl rfl rfl rfl ?_
      refine go_ifP (t' := 47) (pc' := 40) rfl rfl rfl (fun _ => ?_) (fun (c : ¬ ((0 : Int32) = 0)) => absurd (by decide) c)
      have hC19 : CA w 32 m0 B h15 (I, Q, Z) := ⟨X, ow, sb, hS, hD, hB, hQ⟩
      have hms : msq 0 1 (I, Q, Z) = (I, Q, Z) := if_neg (fun z => b12 z.1.2.1)
      exact K _ _ (by rw [hms]; exact CA_le hC19 (by omega))
theorem sq_1_1 {w : Nat → Bool} {d : Nat} {h : am_Hp} {m0 : mg} {B : Nat} {I : sm_I} {Q : mQ} {Z : mZ} (hC : CA w 32 m0 B h (I, Q, Z)) {P : Option Value → am_Hp → Prop} (hd : 6 ≤ d) (hB2 : B < 2 ^ 26) {v4 : Int32} (K : ∀ h' v5, CA w 32 m0 (B + 344) h' (msq 1 1 (I, Q, Z)) → am_Go (am_prog w) d am_c107 none 47 [some (.ref 1), some (.int 1), some (.int 1), some (.ref 59), some (.int v5)] [] h' P) : am_Go (am_prog w) d am_c107 none 19 [some (.ref 1), some (.int 1), some (.int 1), some (.ref 32), some (.int v4)] [] h P := by
  obtain ⟨X, ow, sb, hS, hD, hB, hQ⟩ := hC
  change sm tbc h I X at hS
  change CD w 32 m0 h I Q Z X ow sb at hD
  change co h I ≤ B at hB
  change ∀ l, l < 16 → (Q l).length ≤ h.length at hQ
  have hW := hD.1.1
  have hWn : ∀ a, List.length h ≤ a → w a = true := fun a ha => (hD.1.2.1 a ha).1
  have hF1 := fr_refl tbc h
  have hln : 62 ≤ List.length h := sm_len hS
  have h207 := hD.2.2.2.1.2.2 1 (by decide)
  by_cases b12 : I 12 1 = -1
  · skip
    rw [if_pos b12] at h207
    refine go_s (pc' := 20) rfl rfl rfl rfl ?_
    refine go_sget (pc' := 21) (v := .ref 61) hS rfl rfl rfl (by decide) rfl rfl ?_
    refine go_s (pc' := 22) rfl rfl rfl rfl ?_
    refine go_sald (pc' := 23) (q := 1) (v := .ref 59) hS rfl rfl rfl rfl (by decide) rfl rfl ?_
    refine go_s (pc' := 24) (lo' := [some (.ref 1), some (.int 1), some (.int 1), some (.ref 59), some (.int v4)]) rfl rfl rfl rfl ?_
    refine go_s (pc' := 25) rfl rfl rfl rfl ?_
    refine go_s (pc' := 26) rfl rfl rfl rfl ?_
    refine go_callV (pc' := 27) rfl rfl rfl (Nat.le_of_ble_eq_true rfl) rfl (sm_o hS rfl) rfl rfl rfl (ct_works_1 hS (hD.2.2.2.2.2.2 1 (by decide)) (by omega)) (fun r h2 q3 => ?_)
    obtain ⟨rfl, rfl⟩ := q3
    cases u4 : lv I 1
    · skip
      show am_Go _ _ _ _ 27 _ [.int 0] _ _
      refine go_ifP (t' := 36) (pc' := 28) rfl rfl rfl (fun _ => ?_) (fun (c : ¬ ((0 : Int32) = 0)) => absurd (by decide) c)
      refine go_s (pc' := 37) (st' := [.int 0]) rfl rfl rfl rfl ?_
      refine go_s (pc' := 38) (lo' := [some (.ref 1), some (.int 1), some (.int 1), some (.ref 59), some (.int 0)]) rfl rfl rfl rfl ?_
      refine go_s (pc' := 39) rfl rfl rfl rfl ?_
      refine go_ifP (t' := 47) (pc' := 40) rfl rfl rfl (fun _ => ?_) (fun (c : ¬ ((0 : Int32) = 0)) => absurd (by decide) c)
      have hC5 : CA w 32 m0 B h2 (I, Q, Z) := ⟨X, ow, sb, hS, hD, hB, hQ⟩
      have hms : msq 1 1 (I, Q, Z) = (I, Q, Z) := if_neg (fun z => absurd (z.1.1.symm.trans u4) (by decide))
      exact K _ _ (by rw [hms]; exact CA_le hC5 (by omega))
    · skip
      show am_Go _ _ _ _ 27 _ [.int 1] _ _
      refine go_ifP (t' := 36) (pc' := 28) rfl rfl rfl (fun (c : (1 : Int32) = 0) => absurd c (by decide)) (fun _ => ?_)
      refine go_s (pc' := 29) rfl rfl rfl rfl ?_
      refine go_sget (pc' := 30) (v := .int 0) hS rfl rfl rfl (by decide) h207 rfl ?_
      refine go_ifP (t' := 36) (pc' := 31) rfl rfl rfl (fun (c : ¬ (0 : Int32) = 0) => absurd c (by decide)) (fun _ => ?_)
      refine go_s (pc' := 32) rfl rfl rfl rfl ?_
      refine go_sget (pc' := 33) (v := .int (I 13 1)) hS rfl rfl rfl (by decide) rfl rfl ?_
      refine go_ifP (t' := 36) (pc' := 34) rfl rfl rfl (fun (c6 : ¬ (I 13 1) = 0) => ?_) (fun (c6' : ¬ ¬ (I 13 1) = 0) => ?_)
      · skip
        refine go_s (pc' := 37) (st' := [.int 0]) rfl rfl rfl rfl ?_
        refine go_s (pc' := 38) (lo' := [some (.ref 1), some (.int 1), some (.int 1), some (.ref 59), some (.int 0)]) rfl rfl rfl rfl ?_
        refine go_s (pc' := 39) rfl rfl rfl rfl ?_
        refine go_ifP (t' := 47) (pc' := 40) rfl rfl rfl (fun _ => ?_) (fun (c : ¬ ((0 : Int32) = 0)) => absurd (by decide) c)
        have hC7 : CA w 32 m0 B h2 (I, Q, Z) := ⟨X, ow, sb, hS, hD, hB, hQ⟩
        have hms : msq 1 1 (I, Q, Z) = (I, Q, Z) := if_neg (fun z => c6 z.1.2.2)
        exact K _ _ (by rw [hms]; exact CA_le hC7 (by omega))
      · skip
        have c6 : (I 13 1) = 0 := Decidable.not_not.mp c6'
        refine go_s (pc' := 35) (st' := [.int 1]) rfl rfl rfl rfl ?_
        refine go_s (pc' := 37) rfl rfl rfl rfl ?_
        refine go_s (pc' := 38) (lo' := [some (.ref 1), some (.int 1), some (.int 1), some (.ref 59), some (.int 1)]) rfl rfl rfl rfl ?_
        refine go_s (pc' := 39) rfl rfl rfl rfl ?_
        refine go_ifP (t' := 47) (pc' := 40) rfl rfl rfl (fun (c : (1 : Int32) = 0) => absurd c (by decide)) (fun _ => ?_)
        refine go_s (pc' := 41) rfl rfl rfl rfl ?_
        refine go_callV (pc' := 42) rfl rfl rfl (Nat.le_of_ble_eq_true rfl) rfl (sm_o hS rfl) rfl rfl rfl (ct_oh_1 hS (by omega)) (fun r h8 q9 => ?_)
        obtain ⟨rfl, rfl⟩ := q9
        refine go_s (pc' := 43) rfl rfl rfl rfl ?_
        refine go_icmpP (t' := 47) (pc' := 44) rfl rfl rfl (fun (c10 : ¬ (ohI I 1) = 1) => ?_) (fun (c10' : ¬ ¬ (ohI I 1) = 1) => ?_)
        · skip
          have hC11 : CA w 32 m0 B h8 (I, Q, Z) := ⟨X, ow, sb, hS, hD, hB, hQ⟩
          have hms : msq 1 1 (I, Q, Z) = (I, Q, Z) := if_neg (fun z => c10 z.2)
          exact K _ _ (by rw [hms]; exact CA_le hC11 (by omega))
        · skip
          have c10 : (ohI I 1) = 1 := Decidable.not_not.mp c10'
          refine go_s (pc' := 45) rfl rfl rfl rfl ?_
          refine go_s (pc' := 46) rfl rfl rfl rfl ?_
          have hC12 : CA w 32 m0 B h8 (I, Q, Z) := ⟨X, ow, sb, hS, hD, hB, hQ⟩
          refine go_callV (pc' := 47) rfl rfl rfl (Nat.le_of_ble_eq_true rfl) rfl (sm_o hS rfl) rfl rfl rfl (cm_sC_1 hC12 (by omega) u4 (by omega)) (fun r h13 q14 => ?_)
          obtain ⟨rfl, hC9⟩ := q14
          have hms : msq 1 1 (I, Q, Z) = msC 1 (I, Q, Z) := if_pos ⟨⟨u4, b12, c6⟩, c10⟩
          exact K _ _ (by rw [hms]; exact CA_le hC9 (by omega))
  · skip
    rw [if_neg b12] at h207
    refine go_s (pc' := 20) rfl rfl rfl rfl ?_
    refine go_sget (pc' := 21) (v := .ref 61) hS rfl rfl rfl (by decide) rfl rfl ?_
    refine go_s (pc' := 22) rfl rfl rfl rfl ?_
    refine go_sald (pc' := 23) (q := 1) (v := .ref 59) hS rfl rfl rfl rfl (by decide) rfl rfl ?_
    refine go_s (pc' := 24) (lo' := [some (.ref 1), some (.int 1), some (.int 1), some (.ref 59), some (.int v4)]) rfl rfl rfl rfl ?_
    refine go_s (pc' := 25) rfl rfl rfl rfl ?_
    refine go_s (pc' := 26) rfl rfl rfl rfl ?_
    refine go_callV (pc' := 27) rfl rfl rfl (Nat.le_of_ble_eq_true rfl) rfl (sm_o hS rfl) rfl rfl rfl (ct_works_1 hS (hD.2.2.2.2.2.2 1 (by decide)) (by omega)) (fun r h15 q16 => ?_)
    obtain ⟨rfl, rfl⟩ := q16
    cases u17 : lv I 1
    · skip
      show am_Go _ _ _ _ 27 _ [.int 0] _ _
      refine go_ifP (t' := 36) (pc' := 28) rfl rfl rfl (fun _ => ?_) (fun (c : ¬ ((0 : Int32) = 0)) => absurd (by decide) c)
      refine go_s (pc' := 37) (st' := [.int 0]) rfl rfl rfl rfl ?_
      refine go_s (pc' := 38) (lo' := [some (.ref 1), some (.int 1), some (.int 1), some (.ref 59), some (.int 0)]) rfl rfl rfl rfl ?_
      refine go_s (pc' := 39) rfl rfl rfl rfl ?_
      refine go_ifP (t' := 47) (pc' := 40) rfl rfl rfl (fun _ => ?_) (fun (c : ¬ ((0 : Int32) = 0)) => absurd (by decide) c)
      have hC18 : CA w 32 m0 B h15 (I, Q, Z) := ⟨X, ow, sb, hS, hD, hB, hQ⟩
      have hms : msq 1 1 (I, Q, Z) = (I, Q, Z) := if_neg (fun z => absurd (z.1.1.symm.trans u17) (by decide))
      exact K _ _ (by rw [hms]; exact CA_le hC18 (by omega))
    · skip
      show am_Go _ _ _ _ 27 _ [.int 1] _ _
      refine go_ifP (t' := 36) (pc' := 28) rfl rfl rfl (fun (c : (1 : Int32) = 0) => absurd c (by decide)) (fun _ => ?_)
      refine go_s (pc' := 29) rfl rfl rfl rfl ?_
      refine go_sget (pc' := 30) (v := .int 1) hS rfl rfl rfl (by decide) h207 rfl ?_
      refine go_ifP (t' := 36) (pc' := 31) rfl rfl rfl (fun _ => ?_) (fun (c : ¬ (¬ (1 : Int32) = 0)) => absurd (by decide) c)
      refine go_s (pc' := 37) (st' := [.int 0]) rfl rfl rfl rfl ?_
      refine go_s (pc' := 38) (lo' := [some (.ref 1), some (.int 1), some (.int 1), some (.ref 59), some (.int 0)]) rfl rfl rfl rfl ?_
      refine go_s (pc' := 39) rfl rfl rfl rfl ?_
      refine go_ifP (t' := 47) (pc' := 40) rfl rfl rfl (fun _ => ?_) (fun (c : ¬ ((0 : Int32) = 0)) => absurd (by decide) c)
      have hC19 : CA w 32 m0 B h15 (I, Q, Z) := ⟨X, ow, sb, hS, hD, hB, hQ⟩
      have hms : msq 1 1 (I, Q, Z) = (I, Q, Z) := if_neg (fun z => b12 z.1.2.1)
      exact K _ _ (by rw [hms]; exact CA_le hC19 (by omega))
theorem sq_2_1 {w : Nat → Bool} {d : Nat} {h : am_Hp} {m0 : mg} {B : Nat} {I : sm_I} {Q : mQ} {Z : mZ} (hC : CA w 32 m0 B h (I, Q, Z)) {P : Option Value → am_Hp → Prop} (hd : 6 ≤ d) (hB2 : B < 2 ^ 26) {v4 : Int32} (K : ∀ h' v5, CA w 32 m0 (B + 344) h' (msq 2 1 (I, Q, Z)) → am_Go (am_prog w) d am_c107 none 47 [some (.ref 1), some (.int 1), some (.int 2), some (.ref 60), some (.int v5)] [] h' P) : am_Go (am_prog w) d am_c107 none 19 [some (.ref 1), some (.int 1), some (.int 2), some (.ref 59), some (.int v4)] [] h P := by
  obtain ⟨X, ow, sb, hS, hD, hB, hQ⟩ := hC
  change sm tbc h I X at hS
  change CD w 32 m0 h I Q Z X ow sb at hD
  change co h I ≤ B at hB
  change ∀ l, l < 16 → (Q l).length ≤ h.length at hQ
  have hW := hD.1.1
  have hWn : ∀ a, List.length h ≤ a → w a = true := fun a ha => (hD.1.2.1 a ha).1
  have hF1 := fr_refl tbc h
  have hln : 62 ≤ List.length h := sm_len hS
  have h207 := hD.2.2.2.1.2.2 2 (by decide)
  by_cases b12 : I 12 2 = -1
  · skip
    rw [if_pos b12] at h207
    refine go_s (pc' := 20) rfl rfl rfl rfl ?_
    refine go_sget (pc' := 21) (v := .ref 61) hS rfl rfl rfl (by decide) rfl rfl ?_
    refine go_s (pc' := 22) rfl rfl rfl rfl ?_
    refine go_sald (pc' := 23) (q := 2) (v := .ref 60) hS rfl rfl rfl rfl (by decide) rfl rfl ?_
    refine go_s (pc' := 24) (lo' := [some (.ref 1), some (.int 1), some (.int 2), some (.ref 60), some (.int v4)]) rfl rfl rfl rfl ?_
    refine go_s (pc' := 25) rfl rfl rfl rfl ?_
    refine go_s (pc' := 26) rfl rfl rfl rfl ?_
    refine go_callV (pc' := 27) rfl rfl rfl (Nat.le_of_ble_eq_true rfl) rfl (sm_o hS rfl) rfl rfl rfl (ct_works_2 hS (hD.2.2.2.2.2.2 2 (by decide)) (by omega)) (fun r h2 q3 => ?_)
    obtain ⟨rfl, rfl⟩ := q3
    cases u4 : lv I 2
    · skip
      show am_Go _ _ _ _ 27 _ [.int 0] _ _
      refine go_ifP (t' := 36) (pc' := 28) rfl rfl rfl (fun _ => ?_) (fun (c : ¬ ((0 : Int32) = 0)) => absurd (by decide) c)
      refine go_s (pc' := 37) (st' := [.int 0]) rfl rfl rfl rfl ?_
      refine go_s (pc' := 38) (lo' := [some (.ref 1), some (.int 1), some (.int 2), some (.ref 60), some (.int 0)]) rfl rfl rfl rfl ?_
      refine go_s (pc' := 39) rfl rfl rfl rfl ?_
      refine go_ifP (t' := 47) (pc' := 40) rfl rfl rfl (fun _ => ?_) (fun (c : ¬ ((0 : Int32) = 0)) => absurd (by decide) c)
      have hC5 : CA w 32 m0 B h2 (I, Q, Z) := ⟨X, ow, sb, hS, hD, hB, hQ⟩
      have hms : msq 2 1 (I, Q, Z) = (I, Q, Z) := if_neg (fun z => absurd (z.1.1.symm.trans u4) (by decide))
      exact K _ _ (by rw [hms]; exact CA_le hC5 (by omega))
    · skip
      show am_Go _ _ _ _ 27 _ [.int 1] _ _
      refine go_ifP (t' := 36) (pc' := 28) rfl rfl rfl (fun (c : (1 : Int32) = 0) => absurd c (by decide)) (fun _ => ?_)
      refine go_s (pc' := 29) rfl rfl rfl rfl ?_
      refine go_sget (pc' := 30) (v := .int 0) hS rfl rfl rfl (by decide) h207 rfl ?_
      refine go_ifP (t' := 36) (pc' := 31) rfl rfl rfl (fun (c : ¬ (0 : Int32) = 0) => absurd c (by decide)) (fun _ => ?_)
      refine go_s (pc' := 32) rfl rfl rfl rfl ?_
      refine go_sget (pc' := 33) (v := .int (I 13 2)) hS rfl rfl rfl (by decide) rfl rfl ?_
      refine go_ifP (t' := 36) (pc' := 34) rfl rfl rfl (fun (c6 : ¬ (I 13 2) = 0) => ?_) (fun (c6' : ¬ ¬ (I 13 2) = 0) => ?_)
      · skip
        refine go_s (pc' := 37) (st' := [.int 0]) rfl rfl rfl rfl ?_
        refine go_s (pc' := 38) (lo' := [some (.ref 1), some (.int 1), some (.int 2), some (.ref 60), some (.int 0)]) rfl rfl rfl rfl ?_
        refine go_s (pc' := 39) rfl rfl rfl rfl ?_
        refine go_ifP (t' := 47) (pc' := 40) rfl rfl rfl (fun _ => ?_) (fun (c : ¬ ((0 : Int32) = 0)) => absurd (by decide) c)
        have hC7 : CA w 32 m0 B h2 (I, Q, Z) := ⟨X, ow, sb, hS, hD, hB, hQ⟩
        have hms : msq 2 1 (I, Q, Z) = (I, Q, Z) := if_neg (fun z => c6 z.1.2.2)
        exact K _ _ (by rw [hms]; exact CA_le hC7 (by omega))
      · skip
        have c6 : (I 13 2) = 0 := Decidable.not_not.mp c6'
        refine go_s (pc' := 35) (st' := [.int 1]) rfl rfl rfl rfl ?_
        refine go_s (pc' := 37) rfl rfl rfl rfl ?_
        refine go_s (pc' := 38) (lo' := [some (.ref 1), some (.int 1), some (.int 2), some (.ref 60), some (.int 1)]) rfl rfl rfl rfl ?_
        refine go_s (pc' := 39) rfl rfl rfl rfl ?_
        refine go_ifP (t' := 47) (pc' := 40) rfl rfl rfl (fun (c : (1 : Int32) = 0) => absurd c (by decide)) (fun _ => ?_)
        refine go_s (pc' := 41) rfl rfl rfl rfl ?_
        refine go_callV (pc' := 42) rfl rfl rfl (Nat.le_of_ble_eq_true rfl) rfl (sm_o hS rfl) rfl rfl rfl (ct_oh_2 hS (by omega)) (fun r h8 q9 => ?_)
        obtain ⟨rfl, rfl⟩ := q9
        refine go_s (pc' := 43) rfl rfl rfl rfl ?_
        refine go_icmpP (t' := 47) (pc' := 44) rfl rfl rfl (fun (c10 : ¬ (ohI I 2) = 1) => ?_) (fun (c10' : ¬ ¬ (ohI I 2) = 1) => ?_)
        · skip
          have hC11 : CA w 32 m0 B h8 (I, Q, Z) := ⟨X, ow, sb, hS, hD, hB, hQ⟩
          have hms : msq 2 1 (I, Q, Z) = (I, Q, Z) := if_neg (fun z => c10 z.2)
          exact K _ _ (by rw [hms]; exact CA_le hC11 (by omega))
        · skip
          have c10 : (ohI I 2) = 1 := Decidable.not_not.mp c10'
          refine go_s (pc' := 45) rfl rfl rfl rfl ?_
          refine go_s (pc' := 46) rfl rfl rfl rfl ?_
          have hC12 : CA w 32 m0 B h8 (I, Q, Z) := ⟨X, ow, sb, hS, hD, hB, hQ⟩
          refine go_callV (pc' := 47) rfl rfl rfl (Nat.le_of_ble_eq_true rfl) rfl (sm_o hS rfl) rfl rfl rfl (cm_sC_2 hC12 (by omega) u4 (by omega)) (fun r h13 q14 => ?_)
          obtain ⟨rfl, hC9⟩ := q14
          have hms : msq 2 1 (I, Q, Z) = msC 2 (I, Q, Z) := if_pos ⟨⟨u4, b12, c6⟩, c10⟩
          exact K _ _ (by rw [hms]; exact CA_le hC9 (by omega))
  · skip
    rw [if_neg b12] at h207
    refine go_s (pc' := 20) rfl rfl rfl rfl ?_
    refine go_sget (pc' := 21) (v := .ref 61) hS rfl rfl rfl (by decide) rfl rfl ?_
    refine go_s (pc' := 22) rfl rfl rfl rfl ?_
    refine go_sald (pc' := 23) (q := 2) (v := .ref 60) hS rfl rfl rfl rfl (by decide) rfl rfl ?_
    refine go_s (pc' := 24) (lo' := [some (.ref 1), some (.int 1), some (.int 2), some (.ref 60), some (.int v4)]) rfl rfl rfl rfl ?_
    refine go_s (pc' := 25) rfl rfl rfl rfl ?_
    refine go_s (pc' := 26) rfl rfl rfl rfl ?_
    refine go_callV (pc' := 27) rfl rfl rfl (Nat.le_of_ble_eq_true rfl) rfl (sm_o hS rfl) rfl rfl rfl (ct_works_2 hS (hD.2.2.2.2.2.2 2 (by decide)) (by omega)) (fun r h15 q16 => ?_)
    obtain ⟨rfl, rfl⟩ := q16
    cases u17 : lv I 2
    · skip
      show am_Go _ _ _ _ 27 _ [.int 0] _ _
      refine go_ifP (t' := 36) (pc' := 28) rfl rfl rfl (fun _ => ?_) (fun (c : ¬ ((0 : Int32) = 0)) => absurd (by decide) c)
      refine go_s (pc' := 37) (st' := [.int 0]) rfl rfl rfl rfl ?_
      refine go_s (pc' := 38) (lo' := [some (.ref 1), some (.int 1), some (.int 2), some (.ref 60), some (.int 0)]) rfl rfl rfl rfl ?_
      refine go_s (pc' := 39) rfl rfl rfl rfl ?_
      refine go_ifP (t' := 47) (pc' := 40) rfl rfl rfl (fun _ => ?_) (fun (c : ¬ ((0 : Int32) = 0)) => absurd (by decide) c)
      have hC18 : CA w 32 m0 B h15 (I, Q, Z) := ⟨X, ow, sb, hS, hD, hB, hQ⟩
      have hms : msq 2 1 (I, Q, Z) = (I, Q, Z) := if_neg (fun z => absurd (z.1.1.symm.trans u17) (by decide))
      exact K _ _ (by rw [hms]; exact CA_le hC18 (by omega))
    · skip
      show am_Go _ _ _ _ 27 _ [.int 1] _ _
      refine go_ifP (t' := 36) (pc' := 28) rfl rfl rfl (fun (c : (1 : Int32) = 0) => absurd c (by decide)) (fun _ => ?_)
      refine go_s (pc' := 29) rfl rfl rfl rfl ?_
      refine go_sget (pc' := 30) (v := .int 1) hS rfl rfl rfl (by decide) h207 rfl ?_
      refine go_ifP (t' := 36) (pc' := 31) rfl rfl rfl (fun _ => ?_) (fun (c : ¬ (¬ (1 : Int32) = 0)) => absurd (by decide) c)
      refine go_s (pc' := 37) (st' := [.int 0]) rfl rfl rfl rfl ?_
      refine go_s (pc' := 38) (lo' := [some (.ref 1), some (.int 1), some (.int 2), some (.ref 60), some (.int 0)]) rfl rfl rfl rfl ?_
      refine go_s (pc' := 39) rfl rfl rfl rfl ?_
      refine go_ifP (t' := 47) (pc' := 40) rfl rfl rfl (fun _ => ?_) (fun (c : ¬ ((0 : Int32) = 0)) => absurd (by decide) c)
      have hC19 : CA w 32 m0 B h15 (I, Q, Z) := ⟨X, ow, sb, hS, hD, hB, hQ⟩
      have hms : msq 2 1 (I, Q, Z) = (I, Q, Z) := if_neg (fun z => b12 z.1.2.1)
      exact K _ _ (by rw [hms]; exact CA_le hC19 (by omega))
theorem cm_spr_1 {w : Nat → Bool} {d : Nat} {h : am_Hp} {m0 : mg} {B : Nat} {I : sm_I} {Q : mQ} {Z : mZ} (hC : CA w 32 m0 B h (I, Q, Z)) (hB2 : B < 2 ^ 25) (hN : ∀ k, k < 3 → ¬ I 11 k = nI 1) (hd : 7 ≤ d) : am_Ev (am_prog w) d 107 [.ref 1, .int 1] h (fun r h' => r = none ∧ CA w 32 m0 (B + 1032) h' (mspr 1 (I, Q, Z))) := by
  obtain ⟨X, ow, sb, hS, hD, hB, hQ⟩ := hC
  change sm tbc h I X at hS
  change CD w 32 m0 h I Q Z X ow sb at hD
  change co h I ≤ B at hB
  change ∀ l, l < 16 → (Q l).length ≤ h.length at hQ
  have hW := hD.1.1
  have hWn : ∀ a, List.length h ≤ a → w a = true := fun a ha => (hD.1.2.1 a ha).1
  have hF1 := fr_refl tbc h
  have hln : 62 ≤ List.length h := sm_len hS
  obtain ⟨d, rfl⟩ : ∃ e, d = e + 1 := ⟨d - 1, by omega⟩
  refine ev_go rfl (Nat.le_of_ble_eq_true rfl) rfl ?_
  refine go_s (pc' := 1) rfl rfl rfl rfl ?_
  refine go_sget (pc' := 2) (v := .ref 2) hS rfl rfl rfl (by decide) rfl rfl ?_
  refine go_sget (pc' := 3) (v := .ref 3) hS rfl rfl rfl (by decide) rfl rfl ?_
  refine go_s (pc' := 4) rfl rfl rfl rfl ?_
  refine go_s (pc' := 5) (st' := [.int 1, .int 1, .ref 3]) rfl rfl rfl rfl ?_
  refine go_szast (pc' := 6) (q := 1) hS rfl rfl tbc_inj (Nat.le_of_ble_eq_true rfl) rfl (by decide) (by decide) rfl (hW _ rfl) rfl (fun h2 hS3 hE4 => ?_)
  have hF5 := fr_trans hF1 (fr_e hE4)
  refine go_s (pc' := 7) rfl rfl rfl rfl ?_
  refine go_sget (pc' := 8) (v := .ref 2) hS3 rfl rfl rfl (by decide) rfl rfl ?_
  refine go_sget (pc' := 9) (v := .ref 4) hS3 rfl rfl rfl (by decide) rfl rfl ?_
  refine go_s (pc' := 10) rfl rfl rfl rfl ?_
  refine go_s (pc' := 11) (st' := [.int 0, .int 1, .ref 4]) rfl rfl rfl rfl ?_
  refine go_szast (pc' := 12) (q := 1) hS3 rfl rfl tbc_inj (Nat.le_of_ble_eq_true rfl) rfl (by decide) (by decide) rfl (hW _ rfl) rfl (fun h6 hS7 hE8 => ?_)
  have hF9 := fr_trans hF5 (fr_e hE8)
  refine go_s (pc' := 13) (st' := [.int 0]) rfl rfl rfl rfl ?_
  refine go_s (pc' := 14) (lo' := [some (.ref 1), some (.int 1), some (.int 0), none, none]) rfl rfl rfl rfl ?_
  refine go_s (pc' := 15) rfl rfl rfl rfl ?_
  refine go_s (pc' := 16) rfl rfl rfl rfl ?_
  refine go_sget (pc' := 17) (v := .ref 61) hS7 rfl rfl rfl (by decide) rfl rfl ?_
  refine go_salen (pc' := 18) (n := 3) hS7 rfl rfl rfl rfl ?_
  refine go_icmpP (t' := 49) (pc' := 19) rfl rfl rfl (fun (c : 3 ≤ (0 : Int32)) => absurd c (by decide)) (fun _ => ?_)
  have hD10 : CD w 32 m0 h6 ((uI (uI I 0 1 1) 1 1 0, Q, Z) : mM).1 ((uI (uI I 0 1 1) 1 1 0, Q, Z) : mM).2.1 ((uI (uI I 0 1 1) 1 1 0, Q, Z) : mM).2.2 (X) ow sb := CD_I (J := uI (uI I 0 1 1) 1 1 0) (CD_up1 (CD_fr hD hF9) (by decide) hN) ⟨rfl, rfl, rfl, rfl, rfl, rfl, rfl, rfl, rfl, rfl, rfl, rfl, rfl, rfl, rfl⟩
  have hS13 : sm tbc h6 ((uI (uI I 0 1 1) 1 1 0, Q, Z) : mM).1 (X) := hS7
  have hB11 : co h6 ((uI (uI I 0 1 1) 1 1 0, Q, Z) : mM).1 ≤ B := by
    have z1 := co_fr (I := I) (J := ((uI (uI I 0 1 1) 1 1 0, Q, Z) : mM).1) hF9 rfl
    have z2 := hB
    omega
  have hQ12 : ∀ l, l < 16 → (((uI (uI I 0 1 1) 1 1 0, Q, Z) : mM).2.1 l).length ≤ List.length h6 := fun l hl => Nat.le_trans (hQ l hl) hF9.1
  obtain ⟨X14, eX14⟩ : ∃ y, y = (X) := ⟨_, rfl⟩
  rw [← eX14] at hD10 hS13
  obtain ⟨M15, eM15⟩ : ∃ y : mM, y = ((uI (uI I 0 1 1) 1 1 0, Q, Z) : mM) := ⟨_, rfl⟩
  rw [← eM15] at hD10 hS13 hB11 hQ12
  obtain ⟨I15, Q15, Z15⟩ := M15
  change CD w 32 m0 h6 I15 Q15 Z15 X14 ow sb at hD10
  change sm tbc h6 I15 X14 at hS13
  change co h6 I15 ≤ B at hB11
  change ∀ l, l < 16 → (Q15 l).length ≤ List.length h6 at hQ12
  have hW := hD10.1.1
  have hWn : ∀ a, List.length h6 ≤ a → w a = true := fun a ha => (hD10.1.2.1 a ha).1
  have hF16 := fr_refl tbc h6
  have hln : 62 ≤ List.length h6 := sm_len hS13
  have hC17 : CA w 32 m0 B h6 (I15, Q15, Z15) := ⟨X14, ow, sb, hS13, hD10, hB11, hQ12⟩
  refine sq_0_1 (I := I15) (Q := Q15) (Z := Z15) hC17 (by omega) (by omega) (fun h19 v20 hC18 => ?_)
  change CA w 32 m0 (B + 344) h19 (msq 0 1 (I15, Q15, Z15)) at hC18
  obtain ⟨M21, eM21⟩ : ∃ y : mM, y = (msq 0 1 (I15, Q15, Z15)) := ⟨_, rfl⟩
  rw [← eM21] at hC18
  obtain ⟨I21, Q21, Z21⟩ := M21
  obtain ⟨X22, ow22, sb22, hS22, hD22, hB22, hQ22⟩ := hC18
  have hW := hD22.1.1
  have hWn : ∀ a, List.length h19 ≤ a → w a = true := fun a ha => (hD22.1.2.1 a ha).1
  have hF23 := fr_refl tbc h19
  have hln : 62 ≤ List.length h19 := sm_len hS22
  change CD w 32 m0 h19 I21 Q21 Z21 X22 ow22 sb22 at hD22
  change sm tbc h19 I21 X22 at hS22
  change co h19 I21 ≤ (B + 344) at hB22
  change ∀ l, l < 16 → (Q21 l).length ≤ List.length h19 at hQ22
  have hW := hD22.1.1
  have hWn : ∀ a, List.length h19 ≤ a → w a = true := fun a ha => (hD22.1.2.1 a ha).1
  have hF24 := fr_refl tbc h19
  have hln : 62 ≤ List.length h19 := sm_len hS22
  refine go_s (pc' := 48) (lo' := [some (.ref 1), some (.int 1), some (.int 1), some (.ref 32), some (.int v20)]) rfl rfl rfl rfl ?_
  refine go_s (pc' := 14) rfl rfl rfl rfl ?_
  refine go_s (pc' := 15) rfl rfl rfl rfl ?_
  refine go_s (pc' := 16) rfl rfl rfl rfl ?_
  refine go_sget (pc' := 17) (v := .ref 61) hS22 rfl rfl rfl (by decide) rfl rfl ?_
  refine go_salen (pc' := 18) (n := 3) hS22 rfl rfl rfl rfl ?_
  refine go_icmpP (t' := 49) (pc' := 19) rfl rfl rfl (fun (c : 3 ≤ (1 : Int32)) => absurd c (by decide)) (fun _ => ?_)
  have hC25 : CA w 32 m0 (B + 344) h19 (I21, Q21, Z21) := ⟨X22, ow22, sb22, hS22, hD22, hB22, hQ22⟩
  refine sq_1_1 (I := I21) (Q := Q21) (Z := Z21) hC25 (by omega) (by omega) (fun h27 v28 hC26 => ?_)
  change CA w 32 m0 ((B + 344) + 344) h27 (msq 1 1 (I21, Q21, Z21)) at hC26
  obtain ⟨M29, eM29⟩ : ∃ y : mM, y = (msq 1 1 (I21, Q21, Z21)) := ⟨_, rfl⟩
  rw [← eM29] at hC26
  obtain ⟨I29, Q29, Z29⟩ := M29
  obtain ⟨X30, ow30, sb30, hS30, hD30, hB30, hQ30⟩ := hC26
  have hW := hD30.1.1
  have hWn : ∀ a, List.length h27 ≤ a → w a = true := fun a ha => (hD30.1.2.1 a ha).1
  have hF31 := fr_refl tbc h27
  have hln : 62 ≤ List.length h27 := sm_len hS30
  change CD w 32 m0 h27 I29 Q29 Z29 X30 ow30 sb30 at hD30
  change sm tbc h27 I29 X30 at hS30
  change co h27 I29 ≤ ((B + 344) + 344) at hB30
  change ∀ l, l < 16 → (Q29 l).length ≤ List.length h27 at hQ30
  have hW := hD30.1.1
  have hWn : ∀ a, List.length h27 ≤ a → w a = true := fun a ha => (hD30.1.2.1 a ha).1
  have hF32 := fr_refl tbc h27
  have hln : 62 ≤ List.length h27 := sm_len hS30
  refine go_s (pc' := 48) (lo' := [some (.ref 1), some (.int 1), some (.int 2), some (.ref 59), some (.int v28)]) rfl rfl rfl rfl ?_
  refine go_s (pc' := 14) rfl rfl rfl rfl ?_
  refine go_s (pc' := 15) rfl rfl rfl rfl ?_
  refine go_s (pc' := 16) rfl rfl rfl rfl ?_
  refine go_sget (pc' := 17) (v := .ref 61) hS30 rfl rfl rfl (by decide) rfl rfl ?_
  refine go_salen (pc' := 18) (n := 3) hS30 rfl rfl rfl rfl ?_
  refine go_icmpP (t' := 49) (pc' := 19) rfl rfl rfl (fun (c : 3 ≤ (2 : Int32)) => absurd c (by decide)) (fun _ => ?_)
  have hC33 : CA w 32 m0 ((B + 344) + 344) h27 (I29, Q29, Z29) := ⟨X30, ow30, sb30, hS30, hD30, hB30, hQ30⟩
  refine sq_2_1 (I := I29) (Q := Q29) (Z := Z29) hC33 (by omega) (by omega) (fun h35 v36 hC34 => ?_)
  change CA w 32 m0 (((B + 344) + 344) + 344) h35 (msq 2 1 (I29, Q29, Z29)) at hC34
  obtain ⟨M37, eM37⟩ : ∃ y : mM, y = (msq 2 1 (I29, Q29, Z29)) := ⟨_, rfl⟩
  rw [← eM37] at hC34
  obtain ⟨I37, Q37, Z37⟩ := M37
  obtain ⟨X38, ow38, sb38, hS38, hD38, hB38, hQ38⟩ := hC34
  have hW := hD38.1.1
  have hWn : ∀ a, List.length h35 ≤ a → w a = true := fun a ha => (hD38.1.2.1 a ha).1
  have hF39 := fr_refl tbc h35
  have hln : 62 ≤ List.length h35 := sm_len hS38
  change CD w 32 m0 h35 I37 Q37 Z37 X38 ow38 sb38 at hD38
  change sm tbc h35 I37 X38 at hS38
  change co h35 I37 ≤ (((B + 344) + 344) + 344) at hB38
  change ∀ l, l < 16 → (Q37 l).length ≤ List.length h35 at hQ38
  have hW := hD38.1.1
  have hWn : ∀ a, List.length h35 ≤ a → w a = true := fun a ha => (hD38.1.2.1 a ha).1
  have hF40 := fr_refl tbc h35
  have hln : 62 ≤ List.length h35 := sm_len hS38
  refine go_s (pc' := 48) (lo' := [some (.ref 1), some (.int 1), some (.int 3), some (.ref 60), some (.int v36)]) rfl rfl rfl rfl ?_
  refine go_s (pc' := 14) rfl rfl rfl rfl ?_
  refine go_s (pc' := 15) rfl rfl rfl rfl ?_
  refine go_s (pc' := 16) rfl rfl rfl rfl ?_
  refine go_sget (pc' := 17) (v := .ref 61) hS38 rfl rfl rfl (by decide) rfl rfl ?_
  refine go_salen (pc' := 18) (n := 3) hS38 rfl rfl rfl rfl ?_
  refine go_icmpP (t' := 49) (pc' := 19) rfl rfl rfl (fun _ => ?_) (fun (c : ¬ (3 ≤ (3 : Int32))) => absurd (by decide) c)
  refine go_ret rfl rfl ?_
  have hms : mspr 1 (I, Q, Z) = (I37, Q37, Z37) := by
    unfold mspr
    rw [← eM15, ← eM21, ← eM29, ← eM37]
  have hC41 : CA w 32 m0 (((B + 344) + 344) + 344) h35 (I37, Q37, Z37) := ⟨X38, ow38, sb38, hS38, hD38, hB38, hQ38⟩
  rw [hms]
  exact ⟨rfl, CA_le hC41 (by omega)⟩
theorem sq_0_2 {w : Nat → Bool} {d : Nat} {h : am_Hp} {m0 : mg} {B : Nat} {I : sm_I} {Q : mQ} {Z : mZ} (hC : CA w 32 m0 B h (I, Q, Z)) {P : Option Value → am_Hp → Prop} (hd : 6 ≤ d) (hB2 : B < 2 ^ 26) (K : ∀ h' v5, CA w 32 m0 (B + 344) h' (msq 0 2 (I, Q, Z)) → am_Go (am_prog w) d am_c107 none 47 [some (.ref 1), some (.int 2), some (.int 0), some (.ref 32), some (.int v5)] [] h' P) : am_Go (am_prog w) d am_c107 none 19 [some (.ref 1), some (.int 2), some (.int 0), none, none] [] h P := by
  obtain ⟨X, ow, sb, hS, hD, hB, hQ⟩ := hC
  change sm tbc h I X at hS
  change CD w 32 m0 h I Q Z X ow sb at hD
  change co h I ≤ B at hB
  change ∀ l, l < 16 → (Q l).length ≤ h.length at hQ
  have hW := hD.1.1
  have hWn : ∀ a, List.length h ≤ a → w a = true := fun a ha => (hD.1.2.1 a ha).1
  have hF1 := fr_refl tbc h
  have hln : 62 ≤ List.length h := sm_len hS
  have h207 := hD.2.2.2.1.2.2 0 (by decide)
  by_cases b12 : I 12 0 = -1
  · skip
    rw [if_pos b12] at h207
    refine go_s (pc' := 20) rfl rfl rfl rfl ?_
    refine go_sget (pc' := 21) (v := .ref 61) hS rfl rfl rfl (by decide) rfl rfl ?_
    refine go_s (pc' := 22) rfl rfl rfl rfl ?_
    refine go_sald (pc' := 23) (q := 0) (v := .ref 32) hS rfl rfl rfl rfl (by decide) rfl rfl ?_
    refine go_s (pc' := 24) (lo' := [some (.ref 1), some (.int 2), some (.int 0), some (.ref 32), none]) rfl rfl rfl rfl ?_
    refine go_s (pc' := 25) rfl rfl rfl rfl ?_
    refine go_s (pc' := 26) rfl rfl rfl rfl ?_
    refine go_callV (pc' := 27) rfl rfl rfl (Nat.le_of_ble_eq_true rfl) rfl (sm_o hS rfl) rfl rfl rfl (ct_works_0 hS (hD.2.2.2.2.2.2 0 (by decide)) (by omega)) (fun r h2 q3 => ?_)
    obtain ⟨rfl, rfl⟩ := q3
    cases u4 : lv I 0
    · skip
      show am_Go _ _ _ _ 27 _ [.int 0] _ _
      refine go_ifP (t' := 36) (pc' := 28) rfl rfl rfl (fun _ => ?_) (fun (c : ¬ ((0 : Int32) = 0)) => absurd (by decide) c)
      refine go_s (pc' := 37) (st' := [.int 0]) rfl rfl rfl rfl ?_
      refine go_s (pc' := 38) (lo' := [some (.ref 1), some (.int 2), some (.int 0), some (.ref 32), some (.int 0)]) rfl rfl rfl rfl ?_
      refine go_s (pc' := 39) rfl rfl rfl rfl ?_
      refine go_ifP (t' := 47) (pc' := 40) rfl rfl rfl (fun _ => ?_) (fun (c : ¬ ((0 : Int32) = 0)) => absurd (by decide) c)
      have hC5 : CA w 32 m0 B h2 (I, Q, Z) := ⟨X, ow, sb, hS, hD, hB, hQ⟩
      have hms : msq 0 2 (I, Q, Z) = (I, Q, Z) := if_neg (fun z => absurd (z.1.1.symm.trans u4) (by decide))
      exact K _ _ (by rw [hms]; exact CA_le hC5 (by omega))
    · skip
      show am_Go _ _ _ _ 27 _ [.int 1] _ _
      refine go_ifP (t' := 36) (pc' := 28) rfl rfl rfl (fun (c : (1 : Int32) = 0) => absurd c (by decide)) (fun _ => ?_)
      refine go_s (pc' := 29) rfl rfl rfl rfl ?_
      refine go_sget (pc' := 30) (v := .int 0) hS rfl rfl rfl (by decide) h207 rfl ?_
      refine go_ifP (t' := 36) (pc' := 31) rfl rfl rfl (fun (c : ¬ (0 : Int32) = 0) => absurd c (by decide)) (fun _ => ?_)
      refine go_s (pc' := 32) rfl rfl rfl rfl ?_
      refine go_sget (pc' := 33) (v := .int (I 13 0)) hS rfl rfl rfl (by decide) rfl rfl ?_
      refine go_ifP (t' := 36) (pc' := 34) rfl rfl rfl (fun (c6 : ¬ (I 13 0) = 0) => ?_) (fun (c6' : ¬ ¬ (I 13 0) = 0) => ?_)
      · skip
        refine go_s (pc' := 37) (st' := [.int 0]) rfl rfl rfl rfl ?_
        refine go_s (pc' := 38) (lo' := [some (.ref 1), some (.int 2), some (.int 0), some (.ref 32), some (.int 0)]) rfl rfl rfl rfl ?_
        refine go_s (pc' := 39) rfl rfl rfl rfl ?_
        refine go_ifP (t' := 47) (pc' := 40) rfl rfl rfl (fun _ => ?_) (fun (c : ¬ ((0 : Int32) = 0)) => absurd (by decide) c)
        have hC7 : CA w 32 m0 B h2 (I, Q, Z) := ⟨X, ow, sb, hS, hD, hB, hQ⟩
        have hms : msq 0 2 (I, Q, Z) = (I, Q, Z) := if_neg (fun z => c6 z.1.2.2)
        exact K _ _ (by rw [hms]; exact CA_le hC7 (by omega))
      · skip
        have c6 : (I 13 0) = 0 := Decidable.not_not.mp c6'
        refine go_s (pc' := 35) (st' := [.int 1]) rfl rfl rfl rfl ?_
        refine go_s (pc' := 37) rfl rfl rfl rfl ?_
        refine go_s (pc' := 38) (lo' := [some (.ref 1), some (.int 2), some (.int 0), some (.ref 32), some (.int 1)]) rfl rfl rfl rfl ?_
        refine go_s (pc' := 39) rfl rfl rfl rfl ?_
        refine go_ifP (t' := 47) (pc' := 40) rfl rfl rfl (fun (c : (1 : Int32) = 0) => absurd c (by decide)) (fun _ => ?_)
        refine go_s (pc' := 41) rfl rfl rfl rfl ?_
        refine go_callV (pc' := 42) rfl rfl rfl (Nat.le_of_ble_eq_true rfl) rfl (sm_o hS rfl) rfl rfl rfl (ct_oh_0 hS (by omega)) (fun r h8 q9 => ?_)
        obtain ⟨rfl, rfl⟩ := q9
        refine go_s (pc' := 43) rfl rfl rfl rfl ?_
        refine go_icmpP (t' := 47) (pc' := 44) rfl rfl rfl (fun (c10 : ¬ (ohI I 0) = 2) => ?_) (fun (c10' : ¬ ¬ (ohI I 0) = 2) => ?_)
        · skip
          have hC11 : CA w 32 m0 B h8 (I, Q, Z) := ⟨X, ow, sb, hS, hD, hB, hQ⟩
          have hms : msq 0 2 (I, Q, Z) = (I, Q, Z) := if_neg (fun z => c10 z.2)
          exact K _ _ (by rw [hms]; exact CA_le hC11 (by omega))
        · skip
          have c10 : (ohI I 0) = 2 := Decidable.not_not.mp c10'
          refine go_s (pc' := 45) rfl rfl rfl rfl ?_
          refine go_s (pc' := 46) rfl rfl rfl rfl ?_
          have hC12 : CA w 32 m0 B h8 (I, Q, Z) := ⟨X, ow, sb, hS, hD, hB, hQ⟩
          refine go_callV (pc' := 47) rfl rfl rfl (Nat.le_of_ble_eq_true rfl) rfl (sm_o hS rfl) rfl rfl rfl (cm_sC_0 hC12 (by omega) u4 (by omega)) (fun r h13 q14 => ?_)
          obtain ⟨rfl, hC9⟩ := q14
          have hms : msq 0 2 (I, Q, Z) = msC 0 (I, Q, Z) := if_pos ⟨⟨u4, b12, c6⟩, c10⟩
          exact K _ _ (by rw [hms]; exact CA_le hC9 (by omega))
  · skip
    rw [if_neg b12] at h207
    refine go_s (pc' := 20) rfl rfl rfl rfl ?_
    refine go_sget (pc' := 21) (v := .ref 61) hS rfl rfl rfl (by decide) rfl rfl ?_
    refine go_s (pc' := 22) rfl rfl rfl rfl ?_
    refine go_sald (pc' := 23) (q := 0) (v := .ref 32) hS rfl rfl rfl rfl (by decide) rfl rfl ?_
    refine go_s (pc' := 24) (lo' := [some (.ref 1), some (.int 2), some (.int 0), some (.ref 32), none]) rfl rfl rfl rfl ?_
    refine go_s (pc' := 25) rfl rfl rfl rfl ?_
    refine go_s (pc' := 26) rfl rfl rfl rfl ?_
    refine go_callV (pc' := 27) rfl rfl rfl (Nat.le_of_ble_eq_true rfl) rfl (sm_o hS rfl) rfl rfl rfl (ct_works_0 hS (hD.2.2.2.2.2.2 0 (by decide)) (by omega)) (fun r h15 q16 => ?_)
    obtain ⟨rfl, rfl⟩ := q16
    cases u17 : lv I 0
    · skip
      show am_Go _ _ _ _ 27 _ [.int 0] _ _
      refine go_ifP (t' := 36) (pc' := 28) rfl rfl rfl (fun _ => ?_) (fun (c : ¬ ((0 : Int32) = 0)) => absurd (by decide) c)
      refine go_s (pc' := 37) (st' := [.int 0]) rfl rfl rfl rfl ?_
      refine go_s (pc' := 38) (lo' := [some (.ref 1), some (.int 2), some (.int 0), some (.ref 32), some (.int 0)]) rfl rfl rfl rfl ?_
      refine go_s (pc' := 39) rfl rfl rfl rfl ?_
      refine go_ifP (t' := 47) (pc' := 40) rfl rfl rfl (fun _ => ?_) (fun (c : ¬ ((0 : Int32) = 0)) => absurd (by decide) c)
      have hC18 : CA w 32 m0 B h15 (I, Q, Z) := ⟨X, ow, sb, hS, hD, hB, hQ⟩
      have hms : msq 0 2 (I, Q, Z) = (I, Q, Z) := if_neg (fun z => absurd (z.1.1.symm.trans u17) (by decide))
      exact K _ _ (by rw [hms]; exact CA_le hC18 (by omega))
    · skip
      show am_Go _ _ _ _ 27 _ [.int 1] _ _
      refine go_ifP (t' := 36) (pc' := 28) rfl rfl rfl (fun (c : (1 : Int32) = 0) => absurd c (by decide)) (fun _ => ?_)
      refine go_s (pc' := 29) rfl rfl rfl rfl ?_
      refine go_sget (pc' := 30) (v := .int 1) hS rfl rfl rfl (by decide) h207 rfl ?_
      refine go_ifP (t' := 36) (pc' := 31) rfl rfl rfl (fun _ => ?_) (fun (c : ¬ (¬ (1 : Int32) = 0)) => absurd (by decide) c)
      refine go_s (pc' := 37) (st' := [.int 0]) rfl rfl rfl rfl ?_
      refine go_s (pc' := 38) (lo' := [some (.ref 1), some (.int 2), some (.int 0), some (.ref 32), some (.int 0)]) rfl rfl rfl rfl ?_
      refine go_s (pc' := 39) rfl rfl rfl rfl ?_
      refine go_ifP (t' := 47) (pc' := 40) rfl rfl rfl (fun _ => ?_) (fun (c : ¬ ((0 : Int32) = 0)) => absurd (by decide) c)
      have hC19 : CA w 32 m0 B h15 (I, Q, Z) := ⟨X, ow, sb, hS, hD, hB, hQ⟩
      have hms : msq 0 2 (I, Q, Z) = (I, Q, Z) := if_neg (fun z => b12 z.1.2.1)
      exact K _ _ (by rw [hms]; exact CA_le hC19 (by omega))
theorem sq_1_2 {w : Nat → Bool} {d : Nat} {h : am_Hp} {m0 : mg} {B : Nat} {I : sm_I} {Q : mQ} {Z : mZ} (hC : CA w 32 m0 B h (I, Q, Z)) {P : Option Value → am_Hp → Prop} (hd : 6 ≤ d) (hB2 : B < 2 ^ 26) {v4 : Int32} (K : ∀ h' v5, CA w 32 m0 (B + 344) h' (msq 1 2 (I, Q, Z)) → am_Go (am_prog w) d am_c107 none 47 [some (.ref 1), some (.int 2), some (.int 1), some (.ref 59), some (.int v5)] [] h' P) : am_Go (am_prog w) d am_c107 none 19 [some (.ref 1), some (.int 2), some (.int 1), some (.ref 32), some (.int v4)] [] h P := by
  obtain ⟨X, ow, sb, hS, hD, hB, hQ⟩ := hC
  change sm tbc h I X at hS
  change CD w 32 m0 h I Q Z X ow sb at hD
  change co h I ≤ B at hB
  change ∀ l, l < 16 → (Q l).length ≤ h.length at hQ
  have hW := hD.1.1
  have hWn : ∀ a, List.length h ≤ a → w a = true := fun a ha => (hD.1.2.1 a ha).1
  have hF1 := fr_refl tbc h
  have hln : 62 ≤ List.length h := sm_len hS
  have h207 := hD.2.2.2.1.2.2 1 (by decide)
  by_cases b12 : I 12 1 = -1
  · skip
    rw [if_pos b12] at h207
    refine go_s (pc' := 20) rfl rfl rfl rfl ?_
    refine go_sget (pc' := 21) (v := .ref 61) hS rfl rfl rfl (by decide) rfl rfl ?_
    refine go_s (pc' := 22) rfl rfl rfl rfl ?_
    refine go_sald (pc' := 23) (q := 1) (v := .ref 59) hS rfl rfl rfl rfl (by decide) rfl rfl ?_
    refine go_s (pc' := 24) (lo' := [some (.ref 1), some (.int 2), some (.int 1), some (.ref 59), some (.int v4)]) rfl rfl rfl rfl ?_
    refine go_s (pc' := 25) rfl rfl rfl rfl ?_
    refine go_s (pc' := 26) rfl rfl rfl rfl ?_
    refine go_callV (pc' := 27) rfl rfl rfl (Nat.le_of_ble_eq_true rfl) rfl (sm_o hS rfl) rfl rfl rfl (ct_works_1 hS (hD.2.2.2.2.2.2 1 (by decide)) (by omega)) (fun r h2 q3 => ?_)
    obtain ⟨rfl, rfl⟩ := q3
    cases u4 : lv I 1
    · skip
      show am_Go _ _ _ _ 27 _ [.int 0] _ _
      refine go_ifP (t' := 36) (pc' := 28) rfl rfl rfl (fun _ => ?_) (fun (c : ¬ ((0 : Int32) = 0)) => absurd (by decide) c)
      refine go_s (pc' := 37) (st' := [.int 0]) rfl rfl rfl rfl ?_
      refine go_s (pc' := 38) (lo' := [some (.ref 1), some (.int 2), some (.int 1), some (.ref 59), some (.int 0)]) rfl rfl rfl rfl ?_
      refine go_s (pc' := 39) rfl rfl rfl rfl ?_
      refine go_ifP (t' := 47) (pc' := 40) rfl rfl rfl (fun _ => ?_) (fun (c : ¬ ((0 : Int32) = 0)) => absurd (by decide) c)
      have hC5 : CA w 32 m0 B h2 (I, Q, Z) := ⟨X, ow, sb, hS, hD, hB, hQ⟩
      have hms : msq 1 2 (I, Q, Z) = (I, Q, Z) := if_neg (fun z => absurd (z.1.1.symm.trans u4) (by decide))
      exact K _ _ (by rw [hms]; exact CA_le hC5 (by omega))
    · skip
      show am_Go _ _ _ _ 27 _ [.int 1] _ _
      refine go_ifP (t' := 36) (pc' := 28) rfl rfl rfl (fun (c : (1 : Int32) = 0) => absurd c (by decide)) (fun _ => ?_)
      refine go_s (pc' := 29) rfl rfl rfl rfl ?_
      refine go_sget (pc' := 30) (v := .int 0) hS rfl rfl rfl (by decide) h207 rfl ?_
      refine go_ifP (t' := 36) (pc' := 31) rfl rfl rfl (fun (c : ¬ (0 : Int32) = 0) => absurd c (by decide)) (fun _ => ?_)
      refine go_s (pc' := 32) rfl rfl rfl rfl ?_
      refine go_sget (pc' := 33) (v := .int (I 13 1)) hS rfl rfl rfl (by decide) rfl rfl ?_
      refine go_ifP (t' := 36) (pc' := 34) rfl rfl rfl (fun (c6 : ¬ (I 13 1) = 0) => ?_) (fun (c6' : ¬ ¬ (I 13 1) = 0) => ?_)
      · skip
        refine go_s (pc' := 37) (st' := [.int 0]) rfl rfl rfl rfl ?_
        refine go_s (pc' := 38) (lo' := [some (.ref 1), some (.int 2), some (.int 1), some (.ref 59), some (.int 0)]) rfl rfl rfl rfl ?_
        refine go_s (pc' := 39) rfl rfl rfl rfl ?_
        refine go_ifP (t' := 47) (pc' := 40) rfl rfl rfl (fun _ => ?_) (fun (c : ¬ ((0 : Int32) = 0)) => absurd (by decide) c)
        have hC7 : CA w 32 m0 B h2 (I, Q, Z) := ⟨X, ow, sb, hS, hD, hB, hQ⟩
        have hms : msq 1 2 (I, Q, Z) = (I, Q, Z) := if_neg (fun z => c6 z.1.2.2)
        exact K _ _ (by rw [hms]; exact CA_le hC7 (by omega))
      · skip
        have c6 : (I 13 1) = 0 := Decidable.not_not.mp c6'
        refine go_s (pc' := 35) (st' := [.int 1]) rfl rfl rfl rfl ?_
        refine go_s (pc' := 37) rfl rfl rfl rfl ?_
        refine go_s (pc' := 38) (lo' := [some (.ref 1), some (.int 2), some (.int 1), some (.ref 59), some (.int 1)]) rfl rfl rfl rfl ?_
        refine go_s (pc' := 39) rfl rfl rfl rfl ?_
        refine go_ifP (t' := 47) (pc' := 40) rfl rfl rfl (fun (c : (1 : Int32) = 0) => absurd c (by decide)) (fun _ => ?_)
        refine go_s (pc' := 41) rfl rfl rfl rfl ?_
        refine go_callV (pc' := 42) rfl rfl rfl (Nat.le_of_ble_eq_true rfl) rfl (sm_o hS rfl) rfl rfl rfl (ct_oh_1 hS (by omega)) (fun r h8 q9 => ?_)
        obtain ⟨rfl, rfl⟩ := q9
        refine go_s (pc' := 43) rfl rfl rfl rfl ?_
        refine go_icmpP (t' := 47) (pc' := 44) rfl rfl rfl (fun (c10 : ¬ (ohI I 1) = 2) => ?_) (fun (c10' : ¬ ¬ (ohI I 1) = 2) => ?_)
        · skip
          have hC11 : CA w 32 m0 B h8 (I, Q, Z) := ⟨X, ow, sb, hS, hD, hB, hQ⟩
          have hms : msq 1 2 (I, Q, Z) = (I, Q, Z) := if_neg (fun z => c10 z.2)
          exact K _ _ (by rw [hms]; exact CA_le hC11 (by omega))
        · skip
          have c10 : (ohI I 1) = 2 := Decidable.not_not.mp c10'
          refine go_s (pc' := 45) rfl rfl rfl rfl ?_
          refine go_s (pc' := 46) rfl rfl rfl rfl ?_
          have hC12 : CA w 32 m0 B h8 (I, Q, Z) := ⟨X, ow, sb, hS, hD, hB, hQ⟩
          refine go_callV (pc' := 47) rfl rfl rfl (Nat.le_of_ble_eq_true rfl) rfl (sm_o hS rfl) rfl rfl rfl (cm_sC_1 hC12 (by omega) u4 (by omega)) (fun r h13 q14 => ?_)
          obtain ⟨rfl, hC9⟩ := q14
          have hms : msq 1 2 (I, Q, Z) = msC 1 (I, Q, Z) := if_pos ⟨⟨u4, b12, c6⟩, c10⟩
          exact K _ _ (by rw [hms]; exact CA_le hC9 (by omega))
  · skip
    rw [if_neg b12] at h207
    refine go_s (pc' := 20) rfl rfl rfl rfl ?_
    refine go_sget (pc' := 21) (v := .ref 61) hS rfl rfl rfl (by decide) rfl rfl ?_
    refine go_s (pc' := 22) rfl rfl rfl rfl ?_
    refine go_sald (pc' := 23) (q := 1) (v := .ref 59) hS rfl rfl rfl rfl (by decide) rfl rfl ?_
    refine go_s (pc' := 24) (lo' := [some (.ref 1), some (.int 2), some (.int 1), some (.ref 59), some (.int v4)]) rfl rfl rfl rfl ?_
    refine go_s (pc' := 25) rfl rfl rfl rfl ?_
    refine go_s (pc' := 26) rfl rfl rfl rfl ?_
    refine go_callV (pc' := 27) rfl rfl rfl (Nat.le_of_ble_eq_true rfl) rfl (sm_o hS rfl) rfl rfl rfl (ct_works_1 hS (hD.2.2.2.2.2.2 1 (by decide)) (by omega)) (fun r h15 q16 => ?_)
    obtain ⟨rfl, rfl⟩ := q16
    cases u17 : lv I 1
    · skip
      show am_Go _ _ _ _ 27 _ [.int 0] _ _
      refine go_ifP (t' := 36) (pc' := 28) rfl rfl rfl (fun _ => ?_) (fun (c : ¬ ((0 : Int32) = 0)) => absurd (by decide) c)
      refine go_s (pc' := 37) (st' := [.int 0]) rfl rfl rfl rfl ?_
      refine go_s (pc' := 38) (lo' := [some (.ref 1), some (.int 2), some (.int 1), some (.ref 59), some (.int 0)]) rfl rfl rfl rfl ?_
      refine go_s (pc' := 39) rfl rfl rfl rfl ?_
      refine go_ifP (t' := 47) (pc' := 40) rfl rfl rfl (fun _ => ?_) (fun (c : ¬ ((0 : Int32) = 0)) => absurd (by decide) c)
      have hC18 : CA w 32 m0 B h15 (I, Q, Z) := ⟨X, ow, sb, hS, hD, hB, hQ⟩
      have hms : msq 1 2 (I, Q, Z) = (I, Q, Z) := if_neg (fun z => absurd (z.1.1.symm.trans u17) (by decide))
      exact K _ _ (by rw [hms]; exact CA_le hC18 (by omega))
    · skip
      show am_Go _ _ _ _ 27 _ [.int 1] _ _
      refine go_ifP (t' := 36) (pc' := 28) rfl rfl rfl (fun (c : (1 : Int32) = 0) => absurd c (by decide)) (fun _ => ?_)
      refine go_s (pc' := 29) rfl rfl rfl rfl ?_
      refine go_sget (pc' := 30) (v := .int 1) hS rfl rfl rfl (by decide) h207 rfl ?_
      refine go_ifP (t' := 36) (pc' := 31) rfl rfl rfl (fun _ => ?_) (fun (c : ¬ (¬ (1 : Int32) = 0)) => absurd (by decide) c)
      refine go_s (pc' := 37) (st' := [.int 0]) rfl rfl rfl rfl ?_
      refine go_s (pc' := 38) (lo' := [some (.ref 1), some (.int 2), some (.int 1), some (.ref 59), some (.int 0)]) rfl rfl rfl rfl ?_
      refine go_s (pc' := 39) rfl rfl rfl rfl ?_
      refine go_ifP (t' := 47) (pc' := 40) rfl rfl rfl (fun _ => ?_) (fun (c : ¬ ((0 : Int32) = 0)) => absurd (by decide) c)
      have hC19 : CA w 32 m0 B h15 (I, Q, Z) := ⟨X, ow, sb, hS, hD, hB, hQ⟩
      have hms : msq 1 2 (I, Q, Z) = (I, Q, Z) := if_neg (fun z => b12 z.1.2.1)
      exact K _ _ (by rw [hms]; exact CA_le hC19 (by omega))
theorem sq_2_2 {w : Nat → Bool} {d : Nat} {h : am_Hp} {m0 : mg} {B : Nat} {I : sm_I} {Q : mQ} {Z : mZ} (hC : CA w 32 m0 B h (I, Q, Z)) {P : Option Value → am_Hp → Prop} (hd : 6 ≤ d) (hB2 : B < 2 ^ 26) {v4 : Int32} (K : ∀ h' v5, CA w 32 m0 (B + 344) h' (msq 2 2 (I, Q, Z)) → am_Go (am_prog w) d am_c107 none 47 [some (.ref 1), some (.int 2), some (.int 2), some (.ref 60), some (.int v5)] [] h' P) : am_Go (am_prog w) d am_c107 none 19 [some (.ref 1), some (.int 2), some (.int 2), some (.ref 59), some (.int v4)] [] h P := by
  obtain ⟨X, ow, sb, hS, hD, hB, hQ⟩ := hC
  change sm tbc h I X at hS
  change CD w 32 m0 h I Q Z X ow sb at hD
  change co h I ≤ B at hB
  change ∀ l, l < 16 → (Q l).length ≤ h.length at hQ
  have hW := hD.1.1
  have hWn : ∀ a, List.length h ≤ a → w a = true := fun a ha => (hD.1.2.1 a ha).1
  have hF1 := fr_refl tbc h
  have hln : 62 ≤ List.length h := sm_len hS
  have h207 := hD.2.2.2.1.2.2 2 (by decide)
  by_cases b12 : I 12 2 = -1
  · skip
    rw [if_pos b12] at h207
    refine go_s (pc' := 20) rfl rfl rfl rfl ?_
    refine go_sget (pc' := 21) (v := .ref 61) hS rfl rfl rfl (by decide) rfl rfl ?_
    refine go_s (pc' := 22) rfl rfl rfl rfl ?_
    refine go_sald (pc' := 23) (q := 2) (v := .ref 60) hS rfl rfl rfl rfl (by decide) rfl rfl ?_
    refine go_s (pc' := 24) (lo' := [some (.ref 1), some (.int 2), some (.int 2), some (.ref 60), some (.int v4)]) rfl rfl rfl rfl ?_
    refine go_s (pc' := 25) rfl rfl rfl rfl ?_
    refine go_s (pc' := 26) rfl rfl rfl rfl ?_
    refine go_callV (pc' := 27) rfl rfl rfl (Nat.le_of_ble_eq_true rfl) rfl (sm_o hS rfl) rfl rfl rfl (ct_works_2 hS (hD.2.2.2.2.2.2 2 (by decide)) (by omega)) (fun r h2 q3 => ?_)
    obtain ⟨rfl, rfl⟩ := q3
    cases u4 : lv I 2
    · skip
      show am_Go _ _ _ _ 27 _ [.int 0] _ _
      refine go_ifP (t' := 36) (pc' := 28) rfl rfl rfl (fun _ => ?_) (fun (c : ¬ ((0 : Int32) = 0)) => absurd (by decide) c)
      refine go_s (pc' := 37) (st' := [.int 0]) rfl rfl rfl rfl ?_
      refine go_s (pc' := 38) (lo' := [some (.ref 1), some (.int 2), some (.int 2), some (.ref 60), some (.int 0)]) rfl rfl rfl rfl ?_
      refine go_s (pc' := 39) rfl rfl rfl rfl ?_
      refine go_ifP (t' := 47) (pc' := 40) rfl rfl rfl (fun _ => ?_) (fun (c : ¬ ((0 : Int32) = 0)) => absurd (by decide) c)
      have hC5 : CA w 32 m0 B h2 (I, Q, Z) := ⟨X, ow, sb, hS, hD, hB, hQ⟩
      have hms : msq 2 2 (I, Q, Z) = (I, Q, Z) := if_neg (fun z => absurd (z.1.1.symm.trans u4) (by decide))
      exact K _ _ (by rw [hms]; exact CA_le hC5 (by omega))
    · skip
      show am_Go _ _ _ _ 27 _ [.int 1] _ _
      refine go_ifP (t' := 36) (pc' := 28) rfl rfl rfl (fun (c : (1 : Int32) = 0) => absurd c (by decide)) (fun _ => ?_)
      refine go_s (pc' := 29) rfl rfl rfl rfl ?_
      refine go_sget (pc' := 30) (v := .int 0) hS rfl rfl rfl (by decide) h207 rfl ?_
      refine go_ifP (t' := 36) (pc' := 31) rfl rfl rfl (fun (c : ¬ (0 : Int32) = 0) => absurd c (by decide)) (fun _ => ?_)
      refine go_s (pc' := 32) rfl rfl rfl rfl ?_
      refine go_sget (pc' := 33) (v := .int (I 13 2)) hS rfl rfl rfl (by decide) rfl rfl ?_
      refine go_ifP (t' := 36) (pc' := 34) rfl rfl rfl (fun (c6 : ¬ (I 13 2) = 0) => ?_) (fun (c6' : ¬ ¬ (I 13 2) = 0) => ?_)
      · skip
        refine go_s (pc' := 37) (st' := [.int 0]) rfl rfl rfl rfl ?_
        refine go_s (pc' := 38) (lo' := [some (.ref 1), some (.int 2), some (.int 2), some (.ref 60), some (.int 0)]) rfl rfl rfl rfl ?_
        refine go_s (pc' := 39) rfl rfl rfl rfl ?_
        refine go_ifP (t' := 47) (pc' := 40) rfl rfl rfl (fun _ => ?_) (fun (c : ¬ ((0 : Int32) = 0)) => absurd (by decide) c)
        have hC7 : CA w 32 m0 B h2 (I, Q, Z) := ⟨X, ow, sb, hS, hD, hB, hQ⟩
        have hms : msq 2 2 (I, Q, Z) = (I, Q, Z) := if_neg (fun z => c6 z.1.2.2)
        exact K _ _ (by rw [hms]; exact CA_le hC7 (by omega))
      · skip
        have c6 : (I 13 2) = 0 := Decidable.not_not.mp c6'
        refine go_s (pc' := 35) (st' := [.int 1]) rfl rfl rfl rfl ?_
        refine go_s (pc' := 37) rfl rfl rfl rfl ?_
        refine go_s (pc' := 38) (lo' := [some (.ref 1), some (.int 2), some (.int 2), some (.ref 60), some (.int 1)]) rfl rfl rfl rfl ?_
        refine go_s (pc' := 39) rfl rfl rfl rfl ?_
        refine go_ifP (t' := 47) (pc' := 40) rfl rfl rfl (fun (c : (1 : Int32) = 0) => absurd c (by decide)) (fun _ => ?_)
        refine go_s (pc' := 41) rfl rfl rfl rfl ?_
        refine go_callV (pc' := 42) rfl rfl rfl (Nat.le_of_ble_eq_true rfl) rfl (sm_o hS rfl) rfl rfl rfl (ct_oh_2 hS (by omega)) (fun r h8 q9 => ?_)
        obtain ⟨rfl, rfl⟩ := q9
        refine go_s (pc' := 43) rfl rfl rfl rfl ?_
        refine go_icmpP (t' := 47) (pc' := 44) rfl rfl rfl (fun (c10 : ¬ (ohI I 2) = 2) => ?_) (fun (c10' : ¬ ¬ (ohI I 2) = 2) => ?_)
        · skip
          have hC11 : CA w 32 m0 B h8 (I, Q, Z) := ⟨X, ow, sb, hS, hD, hB, hQ⟩
          have hms : msq 2 2 (I, Q, Z) = (I, Q, Z) := if_neg (fun z => c10 z.2)
          exact K _ _ (by rw [hms]; exact CA_le hC11 (by omega))
        · skip
          have c10 : (ohI I 2) = 2 := Decidable.not_not.mp c10'
          refine go_s (pc' := 45) rfl rfl rfl rfl ?_
          refine go_s (pc' := 46) rfl rfl rfl rfl ?_
          have hC12 : CA w 32 m0 B h8 (I, Q, Z) := ⟨X, ow, sb, hS, hD, hB, hQ⟩
          refine go_callV (pc' := 47) rfl rfl rfl (Nat.le_of_ble_eq_true rfl) rfl (sm_o hS rfl) rfl rfl rfl (cm_sC_2 hC12 (by omega) u4 (by omega)) (fun r h13 q14 => ?_)
          obtain ⟨rfl, hC9⟩ := q14
          have hms : msq 2 2 (I, Q, Z) = msC 2 (I, Q, Z) := if_pos ⟨⟨u4, b12, c6⟩, c10⟩
          exact K _ _ (by rw [hms]; exact CA_le hC9 (by omega))
  · skip
    rw [if_neg b12] at h207
    refine go_s (pc' := 20) rfl rfl rfl rfl ?_
    refine go_sget (pc' := 21) (v := .ref 61) hS rfl rfl rfl (by decide) rfl rfl ?_
    refine go_s (pc' := 22) rfl rfl rfl rfl ?_
    refine go_sald (pc' := 23) (q := 2) (v := .ref 60) hS rfl rfl rfl rfl (by decide) rfl rfl ?_
    refine go_s (pc' := 24) (lo' := [some (.ref 1), some (.int 2), some (.int 2), some (.ref 60), some (.int v4)]) rfl rfl rfl rfl ?_
    refine go_s (pc' := 25) rfl rfl rfl rfl ?_
    refine go_s (pc' := 26) rfl rfl rfl rfl ?_
    refine go_callV (pc' := 27) rfl rfl rfl (Nat.le_of_ble_eq_true rfl) rfl (sm_o hS rfl) rfl rfl rfl (ct_works_2 hS (hD.2.2.2.2.2.2 2 (by decide)) (by omega)) (fun r h15 q16 => ?_)
    obtain ⟨rfl, rfl⟩ := q16
    cases u17 : lv I 2
    · skip
      show am_Go _ _ _ _ 27 _ [.int 0] _ _
      refine go_ifP (t' := 36) (pc' := 28) rfl rfl rfl (fun _ => ?_) (fun (c : ¬ ((0 : Int32) = 0)) => absurd (by decide) c)
      refine go_s (pc' := 37) (st' := [.int 0]) rfl rfl rfl rfl ?_
      refine go_s (pc' := 38) (lo' := [some (.ref 1), some (.int 2), some (.int 2), some (.ref 60), some (.int 0)]) rfl rfl rfl rfl ?_
      refine go_s (pc' := 39) rfl rfl rfl rfl ?_
      refine go_ifP (t' := 47) (pc' := 40) rfl rfl rfl (fun _ => ?_) (fun (c : ¬ ((0 : Int32) = 0)) => absurd (by decide) c)
      have hC18 : CA w 32 m0 B h15 (I, Q, Z) := ⟨X, ow, sb, hS, hD, hB, hQ⟩
      have hms : msq 2 2 (I, Q, Z) = (I, Q, Z) := if_neg (fun z => absurd (z.1.1.symm.trans u17) (by decide))
      exact K _ _ (by rw [hms]; exact CA_le hC18 (by omega))
    · skip
      show am_Go _ _ _ _ 27 _ [.int 1] _ _
      refine go_ifP (t' := 36) (pc' := 28) rfl rfl rfl (fun (c : (1 : Int32) = 0) => absurd c (by decide)) (fun _ => ?_)
      refine go_s (pc' := 29) rfl rfl rfl rfl ?_
      refine go_sget (pc' := 30) (v := .int 1) hS rfl rfl rfl (by decide) h207 rfl ?_
      refine go_ifP (t' := 36) (pc' := 31) rfl rfl rfl (fun _ => ?_) (fun (c : ¬ (¬ (1 : Int32) = 0)) => absurd (by decide) c)
      refine go_s (pc' := 37) (st' := [.int 0]) rfl rfl rfl rfl ?_
      refine go_s (pc' := 38) (lo' := [some (.ref 1), some (.int 2), some (.int 2), some (.ref 60), some (.int 0)]) rfl rfl rfl rfl ?_
      refine go_s (pc' := 39) rfl rfl rfl rfl ?_
      refine go_ifP (t' := 47) (pc' := 40) rfl rfl rfl (fun _ => ?_) (fun (c : ¬ ((0 : Int32) = 0)) => absurd (by decide) c)
      have hC19 : CA w 32 m0 B h15 (I, Q, Z) := ⟨X, ow, sb, hS, hD, hB, hQ⟩
      have hms : msq 2 2 (I, Q, Z) = (I, Q, Z) := if_neg (fun z => b12 z.1.2.1)
      exact K _ _ (by rw [hms]; exact CA_le hC19 (by omega))
theorem cm_spr_2 {w : Nat → Bool} {d : Nat} {h : am_Hp} {m0 : mg} {B : Nat} {I : sm_I} {Q : mQ} {Z : mZ} (hC : CA w 32 m0 B h (I, Q, Z)) (hB2 : B < 2 ^ 25) (hN : ∀ k, k < 3 → ¬ I 11 k = nI 2) (hd : 7 ≤ d) : am_Ev (am_prog w) d 107 [.ref 1, .int 2] h (fun r h' => r = none ∧ CA w 32 m0 (B + 1032) h' (mspr 2 (I, Q, Z))) := by
  obtain ⟨X, ow, sb, hS, hD, hB, hQ⟩ := hC
  change sm tbc h I X at hS
  change CD w 32 m0 h I Q Z X ow sb at hD
  change co h I ≤ B at hB
  change ∀ l, l < 16 → (Q l).length ≤ h.length at hQ
  have hW := hD.1.1
  have hWn : ∀ a, List.length h ≤ a → w a = true := fun a ha => (hD.1.2.1 a ha).1
  have hF1 := fr_refl tbc h
  have hln : 62 ≤ List.length h := sm_len hS
  obtain ⟨d, rfl⟩ : ∃ e, d = e + 1 := ⟨d - 1, by omega⟩
  refine ev_go rfl (Nat.le_of_ble_eq_true rfl) rfl ?_
  refine go_s (pc' := 1) rfl rfl rfl rfl ?_
  refine go_sget (pc' := 2) (v := .ref 2) hS rfl rfl rfl (by decide) rfl rfl ?_
  refine go_sget (pc' := 3) (v := .ref 3) hS rfl rfl rfl (by decide) rfl rfl ?_
  refine go_s (pc' := 4) rfl rfl rfl rfl ?_
  refine go_s (pc' := 5) (st' := [.int 1, .int 2, .ref 3]) rfl rfl rfl rfl ?_
  refine go_szast (pc' := 6) (q := 2) hS rfl rfl tbc_inj (Nat.le_of_ble_eq_true rfl) rfl (by decide) (by decide) rfl (hW _ rfl) rfl (fun h2 hS3 hE4 => ?_)
  have hF5 := fr_trans hF1 (fr_e hE4)
  refine go_s (pc' := 7) rfl rfl rfl rfl ?_
  refine go_sget (pc' := 8) (v := .ref 2) hS3 rfl rfl rfl (by decide) rfl rfl ?_
  refine go_sget (pc' := 9) (v := .ref 4) hS3 rfl rfl rfl (by decide) rfl rfl ?_
  refine go_s (pc' := 10) rfl rfl rfl rfl ?_
  refine go_s (pc' := 11) (st' := [.int 0, .int 2, .ref 4]) rfl rfl rfl rfl ?_
  refine go_szast (pc' := 12) (q := 2) hS3 rfl rfl tbc_inj (Nat.le_of_ble_eq_true rfl) rfl (by decide) (by decide) rfl (hW _ rfl) rfl (fun h6 hS7 hE8 => ?_)
  have hF9 := fr_trans hF5 (fr_e hE8)
  refine go_s (pc' := 13) (st' := [.int 0]) rfl rfl rfl rfl ?_
  refine go_s (pc' := 14) (lo' := [some (.ref 1), some (.int 2), some (.int 0), none, none]) rfl rfl rfl rfl ?_
  refine go_s (pc' := 15) rfl rfl rfl rfl ?_
  refine go_s (pc' := 16) rfl rfl rfl rfl ?_
  refine go_sget (pc' := 17) (v := .ref 61) hS7 rfl rfl rfl (by decide) rfl rfl ?_
  refine go_salen (pc' := 18) (n := 3) hS7 rfl rfl rfl rfl ?_
  refine go_icmpP (t' := 49) (pc' := 19) rfl rfl rfl (fun (c : 3 ≤ (0 : Int32)) => absurd c (by decide)) (fun _ => ?_)
  have hD10 : CD w 32 m0 h6 ((uI (uI I 0 2 1) 1 2 0, Q, Z) : mM).1 ((uI (uI I 0 2 1) 1 2 0, Q, Z) : mM).2.1 ((uI (uI I 0 2 1) 1 2 0, Q, Z) : mM).2.2 (X) ow sb := CD_I (J := uI (uI I 0 2 1) 1 2 0) (CD_up1 (CD_fr hD hF9) (by decide) hN) ⟨rfl, rfl, rfl, rfl, rfl, rfl, rfl, rfl, rfl, rfl, rfl, rfl, rfl, rfl, rfl⟩
  have hS13 : sm tbc h6 ((uI (uI I 0 2 1) 1 2 0, Q, Z) : mM).1 (X) := hS7
  have hB11 : co h6 ((uI (uI I 0 2 1) 1 2 0, Q, Z) : mM).1 ≤ B := by
    have z1 := co_fr (I := I) (J := ((uI (uI I 0 2 1) 1 2 0, Q, Z) : mM).1) hF9 rfl
    have z2 := hB
    omega
  have hQ12 : ∀ l, l < 16 → (((uI (uI I 0 2 1) 1 2 0, Q, Z) : mM).2.1 l).length ≤ List.length h6 := fun l hl => Nat.le_trans (hQ l hl) hF9.1
  obtain ⟨X14, eX14⟩ : ∃ y, y = (X) := ⟨_, rfl⟩
  rw [← eX14] at hD10 hS13
  obtain ⟨M15, eM15⟩ : ∃ y : mM, y = ((uI (uI I 0 2 1) 1 2 0, Q, Z) : mM) := ⟨_, rfl⟩
  rw [← eM15] at hD10 hS13 hB11 hQ12
  obtain ⟨I15, Q15, Z15⟩ := M15
  change CD w 32 m0 h6 I15 Q15 Z15 X14 ow sb at hD10
  change sm tbc h6 I15 X14 at hS13
  change co h6 I15 ≤ B at hB11
  change ∀ l, l < 16 → (Q15 l).length ≤ List.length h6 at hQ12
  have hW := hD10.1.1
  have hWn : ∀ a, List.length h6 ≤ a → w a = true := fun a ha => (hD10.1.2.1 a ha).1
  have hF16 := fr_refl tbc h6
  have hln : 62 ≤ List.length h6 := sm_len hS13
  have hC17 : CA w 32 m0 B h6 (I15, Q15, Z15) := ⟨X14, ow, sb, hS13, hD10, hB11, hQ12⟩
  refine sq_0_2 (I := I15) (Q := Q15) (Z := Z15) hC17 (by omega) (by omega) (fun h19 v20 hC18 => ?_)
  change CA w 32 m0 (B + 344) h19 (msq 0 2 (I15, Q15, Z15)) at hC18
  obtain ⟨M21, eM21⟩ : ∃ y : mM, y = (msq 0 2 (I15, Q15, Z15)) := ⟨_, rfl⟩
  rw [← eM21] at hC18
  obtain ⟨I21, Q21, Z21⟩ := M21
  obtain ⟨X22, ow22, sb22, hS22, hD22, hB22, hQ22⟩ := hC18
  have hW := hD22.1.1
  have hWn : ∀ a, List.length h19 ≤ a → w a = true := fun a ha => (hD22.1.2.1 a ha).1
  have hF23 := fr_refl tbc h19
  have hln : 62 ≤ List.length h19 := sm_len hS22
  change CD w 32 m0 h19 I21 Q21 Z21 X22 ow22 sb22 at hD22
  change sm tbc h19 I21 X22 at hS22
  change co h19 I21 ≤ (B + 344) at hB22
  change ∀ l, l < 16 → (Q21 l).length ≤ List.length h19 at hQ22
  have hW := hD22.1.1
  have hWn : ∀ a, List.length h19 ≤ a → w a = true := fun a ha => (hD22.1.2.1 a ha).1
  have hF24 := fr_refl tbc h19
  have hln : 62 ≤ List.length h19 := sm_len hS22
  refine go_s (pc' := 48) (lo' := [some (.ref 1), some (.int 2), some (.int 1), some (.ref 32), some (.int v20)]) rfl rfl rfl rfl ?_
  refine go_s (pc' := 14) rfl rfl rfl rfl ?_
  refine go_s (pc' := 15) rfl rfl rfl rfl ?_
  refine go_s (pc' := 16) rfl rfl rfl rfl ?_
  refine go_sget (pc' := 17) (v := .ref 61) hS22 rfl rfl rfl (by decide) rfl rfl ?_
  refine go_salen (pc' := 18) (n := 3) hS22 rfl rfl rfl rfl ?_
  refine go_icmpP (t' := 49) (pc' := 19) rfl rfl rfl (fun (c : 3 ≤ (1 : Int32)) => absurd c (by decide)) (fun _ => ?_)
  have hC25 : CA w 32 m0 (B + 344) h19 (I21, Q21, Z21) := ⟨X22, ow22, sb22, hS22, hD22, hB22, hQ22⟩
  refine sq_1_2 (I := I21) (Q := Q21) (Z := Z21) hC25 (by omega) (by omega) (fun h27 v28 hC26 => ?_)
  change CA w 32 m0 ((B + 344) + 344) h27 (msq 1 2 (I21, Q21, Z21)) at hC26
  obtain ⟨M29, eM29⟩ : ∃ y : mM, y = (msq 1 2 (I21, Q21, Z21)) := ⟨_, rfl⟩
  rw [← eM29] at hC26
  obtain ⟨I29, Q29, Z29⟩ := M29
  obtain ⟨X30, ow30, sb30, hS30, hD30, hB30, hQ30⟩ := hC26
  have hW := hD30.1.1
  have hWn : ∀ a, List.length h27 ≤ a → w a = true := fun a ha => (hD30.1.2.1 a ha).1
  have hF31 := fr_refl tbc h27
  have hln : 62 ≤ List.length h27 := sm_len hS30
  change CD w 32 m0 h27 I29 Q29 Z29 X30 ow30 sb30 at hD30
  change sm tbc h27 I29 X30 at hS30
  change co h27 I29 ≤ ((B + 344) + 344) at hB30
  change ∀ l, l < 16 → (Q29 l).length ≤ List.length h27 at hQ30
  have hW := hD30.1.1
  have hWn : ∀ a, List.length h27 ≤ a → w a = true := fun a ha => (hD30.1.2.1 a ha).1
  have hF32 := fr_refl tbc h27
  have hln : 62 ≤ List.length h27 := sm_len hS30
  refine go_s (pc' := 48) (lo' := [some (.ref 1), some (.int 2), some (.int 2), some (.ref 59), some (.int v28)]) rfl rfl rfl rfl ?_
  refine go_s (pc' := 14) rfl rfl rfl rfl ?_
  refine go_s (pc' := 15) rfl rfl rfl rfl ?_
  refine go_s (pc' := 16) rfl rfl rfl rfl ?_
  refine go_sget (pc' := 17) (v := .ref 61) hS30 rfl rfl rfl (by decide) rfl rfl ?_
  refine go_salen (pc' := 18) (n := 3) hS30 rfl rfl rfl rfl ?_
  refine go_icmpP (t' := 49) (pc' := 19) rfl rfl rfl (fun (c : 3 ≤ (2 : Int32)) => absurd c (by decide)) (fun _ => ?_)
  have hC33 : CA w 32 m0 ((B + 344) + 344) h27 (I29, Q29, Z29) := ⟨X30, ow30, sb30, hS30, hD30, hB30, hQ30⟩
  refine sq_2_2 (I := I29) (Q := Q29) (Z := Z29) hC33 (by omega) (by omega) (fun h35 v36 hC34 => ?_)
  change CA w 32 m0 (((B + 344) + 344) + 344) h35 (msq 2 2 (I29, Q29, Z29)) at hC34
  obtain ⟨M37, eM37⟩ : ∃ y : mM, y = (msq 2 2 (I29, Q29, Z29)) := ⟨_, rfl⟩
  rw [← eM37] at hC34
  obtain ⟨I37, Q37, Z37⟩ := M37
  obtain ⟨X38, ow38, sb38, hS38, hD38, hB38, hQ38⟩ := hC34
  have hW := hD38.1.1
  have hWn : ∀ a, List.length h35 ≤ a → w a = true := fun a ha => (hD38.1.2.1 a ha).1
  have hF39 := fr_refl tbc h35
  have hln : 62 ≤ List.length h35 := sm_len hS38
  change CD w 32 m0 h35 I37 Q37 Z37 X38 ow38 sb38 at hD38
  change sm tbc h35 I37 X38 at hS38
  change co h35 I37 ≤ (((B + 344) + 344) + 344) at hB38
  change ∀ l, l < 16 → (Q37 l).length ≤ List.length h35 at hQ38
  have hW := hD38.1.1
  have hWn : ∀ a, List.length h35 ≤ a → w a = true := fun a ha => (hD38.1.2.1 a ha).1
  have hF40 := fr_refl tbc h35
  have hln : 62 ≤ List.length h35 := sm_len hS38
  refine go_s (pc' := 48) (lo' := [some (.ref 1), some (.int 2), some (.int 3), some (.ref 60), some (.int v36)]) rfl rfl rfl rfl ?_
  refine go_s (pc' := 14) rfl rfl rfl rfl ?_
  refine go_s (pc' := 15) rfl rfl rfl rfl ?_
  refine go_s (pc' := 16) rfl rfl rfl rfl ?_
  refine go_sget (pc' := 17) (v := .ref 61) hS38 rfl rfl rfl (by decide) rfl rfl ?_
  refine go_salen (pc' := 18) (n := 3) hS38 rfl rfl rfl rfl ?_
  refine go_icmpP (t' := 49) (pc' := 19) rfl rfl rfl (fun _ => ?_) (fun (c : ¬ (3 ≤ (3 : Int32))) => absurd (by decide) c)
  refine go_ret rfl rfl ?_
  have hms : mspr 2 (I, Q, Z) = (I37, Q37, Z37) := by
    unfold mspr
    rw [← eM15, ← eM21, ← eM29, ← eM37]
  have hC41 : CA w 32 m0 (((B + 344) + 344) + 344) h35 (I37, Q37, Z37) := ⟨X38, ow38, sb38, hS38, hD38, hB38, hQ38⟩
  rw [hms]
  exact ⟨rfl, CA_le hC41 (by omega)⟩
theorem sq_0_3 {w : Nat → Bool} {d : Nat} {h : am_Hp} {m0 : mg} {B : Nat} {I : sm_I} {Q : mQ} {Z : mZ} (hC : CA w 32 m0 B h (I, Q, Z)) {P : Option Value → am_Hp → Prop} (hd : 6 ≤ d) (hB2 : B < 2 ^ 26) (K : ∀ h' v5, CA w 32 m0 (B + 344) h' (msq 0 3 (I, Q, Z)) → am_Go (am_prog w) d am_c107 none 47 [some (.ref 1), some (.int 3), some (.int 0), some (.ref 32), some (.int v5)] [] h' P) : am_Go (am_prog w) d am_c107 none 19 [some (.ref 1), some (.int 3), some (.int 0), none, none] [] h P := by
  obtain ⟨X, ow, sb, hS, hD, hB, hQ⟩ := hC
  change sm tbc h I X at hS
  change CD w 32 m0 h I Q Z X ow sb at hD
  change co h I ≤ B at hB
  change ∀ l, l < 16 → (Q l).length ≤ h.length at hQ
  have hW := hD.1.1
  have hWn : ∀ a, List.length h ≤ a → w a = true := fun a ha => (hD.1.2.1 a ha).1
  have hF1 := fr_refl tbc h
  have hln : 62 ≤ List.length h := sm_len hS
  have h207 := hD.2.2.2.1.2.2 0 (by decide)
  by_cases b12 : I 12 0 = -1
  · skip
    rw [if_pos b12] at h207
    refine go_s (pc' := 20) rfl rfl rfl rfl ?_
    refine go_sget (pc' := 21) (v := .ref 61) hS rfl rfl rfl (by decide) rfl rfl ?_
    refine go_s (pc' := 22) rfl rfl rfl rfl ?_
    refine go_sald (pc' := 23) (q := 0) (v := .ref 32) hS rfl rfl rfl rfl (by decide) rfl rfl ?_
    refine go_s (pc' := 24) (lo' := [some (.ref 1), some (.int 3), some (.int 0), some (.ref 32), none]) rfl rfl rfl rfl ?_
    refine go_s (pc' := 25) rfl rfl rfl rfl ?_
    refine go_s (pc' := 26) rfl rfl rfl rfl ?_
    refine go_callV (pc' := 27) rfl rfl rfl (Nat.le_of_ble_eq_true rfl) rfl (sm_o hS rfl) rfl rfl rfl (ct_works_0 hS (hD.2.2.2.2.2.2 0 (by decide)) (by omega)) (fun r h2 q3 => ?_)
    obtain ⟨rfl, rfl⟩ := q3
    cases u4 : lv I 0
    · skip
      show am_Go _ _ _ _ 27 _ [.int 0] _ _
      refine go_ifP (t' := 36) (pc' := 28) rfl rfl rfl (fun _ => ?_) (fun (c : ¬ ((0 : Int32) = 0)) => absurd (by decide) c)
      refine go_s (pc' := 37) (st' := [.int 0]) rfl rfl rfl rfl ?_
      refine go_s (pc' := 38) (lo' := [some (.ref 1), some (.int 3), some (.int 0), some (.ref 32), some (.int 0)]) rfl rfl rfl rfl ?_
      refine go_s (pc' := 39) rfl rfl rfl rfl ?_
      refine go_ifP (t' := 47) (pc' := 40) rfl rfl rfl (fun _ => ?_) (fun (c : ¬ ((0 : Int32) = 0)) => absurd (by decide) c)
      have hC5 : CA w 32 m0 B h2 (I, Q, Z) := ⟨X, ow, sb, hS, hD, hB, hQ⟩
      have hms : msq 0 3 (I, Q, Z) = (I, Q, Z) := if_neg (fun z => absurd (z.1.1.symm.trans u4) (by decide))
      exact K _ _ (by rw [hms]; exact CA_le hC5 (by omega))
    · skip
      show am_Go _ _ _ _ 27 _ [.int 1] _ _
      refine go_ifP (t' := 36) (pc' := 28) rfl rfl rfl (fun (c : (1 : Int32) = 0) => absurd c (by decide)) (fun _ => ?_)
      refine go_s (pc' := 29) rfl rfl rfl rfl ?_
      refine go_sget (pc' := 30) (v := .int 0) hS rfl rfl rfl (by decide) h207 rfl ?_
      refine go_ifP (t' := 36) (pc' := 31) rfl rfl rfl (fun (c : ¬ (0 : Int32) = 0) => absurd c (by decide)) (fun _ => ?_)
      refine go_s (pc' := 32) rfl rfl rfl rfl ?_
      refine go_sget (pc' := 33) (v := .int (I 13 0)) hS rfl rfl rfl (by decide) rfl rfl ?_
      refine go_ifP (t' := 36) (pc' := 34) rfl rfl rfl (fun (c6 : ¬ (I 13 0) = 0) => ?_) (fun (c6' : ¬ ¬ (I 13 0) = 0) => ?_)
      · skip
        refine go_s (pc' := 37) (st' := [.int 0]) rfl rfl rfl rfl ?_
        refine go_s (pc' := 38) (lo' := [some (.ref 1), some (.int 3), some (.int 0), some (.ref 32), some (.int 0)]) rfl rfl rfl rfl ?_
        refine go_s (pc' := 39) rfl rfl rfl rfl ?_
        refine go_ifP (t' := 47) (pc' := 40) rfl rfl rfl (fun _ => ?_) (fun (c : ¬ ((0 : Int32) = 0)) => absurd (by decide) c)
        have hC7 : CA w 32 m0 B h2 (I, Q, Z) := ⟨X, ow, sb, hS, hD, hB, hQ⟩
        have hms : msq 0 3 (I, Q, Z) = (I, Q, Z) := if_neg (fun z => c6 z.1.2.2)
        exact K _ _ (by rw [hms]; exact CA_le hC7 (by omega))
      · skip
        have c6 : (I 13 0) = 0 := Decidable.not_not.mp c6'
        refine go_s (pc' := 35) (st' := [.int 1]) rfl rfl rfl rfl ?_
        refine go_s (pc' := 37) rfl rfl rfl rfl ?_
        refine go_s (pc' := 38) (lo' := [some (.ref 1), some (.int 3), some (.int 0), some (.ref 32), some (.int 1)]) rfl rfl rfl rfl ?_
        refine go_s (pc' := 39) rfl rfl rfl rfl ?_
        refine go_ifP (t' := 47) (pc' := 40) rfl rfl rfl (fun (c : (1 : Int32) = 0) => absurd c (by decide)) (fun _ => ?_)
        refine go_s (pc' := 41) rfl rfl rfl rfl ?_
        refine go_callV (pc' := 42) rfl rfl rfl (Nat.le_of_ble_eq_true rfl) rfl (sm_o hS rfl) rfl rfl rfl (ct_oh_0 hS (by omega)) (fun r h8 q9 => ?_)
        obtain ⟨rfl, rfl⟩ := q9
        refine go_s (pc' := 43) rfl rfl rfl rfl ?_
        refine go_icmpP (t' := 47) (pc' := 44) rfl rfl rfl (fun (c10 : ¬ (ohI I 0) = 3) => ?_) (fun (c10' : ¬ ¬ (ohI I 0) = 3) => ?_)
        · skip
          have hC11 : CA w 32 m0 B h8 (I, Q, Z) := ⟨X, ow, sb, hS, hD, hB, hQ⟩
          have hms : msq 0 3 (I, Q, Z) = (I, Q, Z) := if_neg (fun z => c10 z.2)
          exact K _ _ (by rw [hms]; exact CA_le hC11 (by omega))
        · skip
          have c10 : (ohI I 0) = 3 := Decidable.not_not.mp c10'
          refine go_s (pc' := 45) rfl rfl rfl rfl ?_
          refine go_s (pc' := 46) rfl rfl rfl rfl ?_
          have hC12 : CA w 32 m0 B h8 (I, Q, Z) := ⟨X, ow, sb, hS, hD, hB, hQ⟩
          refine go_callV (pc' := 47) rfl rfl rfl (Nat.le_of_ble_eq_true rfl) rfl (sm_o hS rfl) rfl rfl rfl (cm_sC_0 hC12 (by omega) u4 (by omega)) (fun r h13 q14 => ?_)
          obtain ⟨rfl, hC9⟩ := q14
          have hms : msq 0 3 (I, Q, Z) = msC 0 (I, Q, Z) := if_pos ⟨⟨u4, b12, c6⟩, c10⟩
          exact K _ _ (by rw [hms]; exact CA_le hC9 (by omega))
  · skip
    rw [if_neg b12] at h207
    refine go_s (pc' := 20) rfl rfl rfl rfl ?_
    refine go_sget (pc' := 21) (v := .ref 61) hS rfl rfl rfl (by decide) rfl rfl ?_
    refine go_s (pc' := 22) rfl rfl rfl rfl ?_
    refine go_sald (pc' := 23) (q := 0) (v := .ref 32) hS rfl rfl rfl rfl (by decide) rfl rfl ?_
    refine go_s (pc' := 24) (lo' := [some (.ref 1), some (.int 3), some (.int 0), some (.ref 32), none]) rfl rfl rfl rfl ?_
    refine go_s (pc' := 25) rfl rfl rfl rfl ?_
    refine go_s (pc' := 26) rfl rfl rfl rfl ?_
    refine go_callV (pc' := 27) rfl rfl rfl (Nat.le_of_ble_eq_true rfl) rfl (sm_o hS rfl) rfl rfl rfl (ct_works_0 hS (hD.2.2.2.2.2.2 0 (by decide)) (by omega)) (fun r h15 q16 => ?_)
    obtain ⟨rfl, rfl⟩ := q16
    cases u17 : lv I 0
    · skip
      show am_Go _ _ _ _ 27 _ [.int 0] _ _
      refine go_ifP (t' := 36) (pc' := 28) rfl rfl rfl (fun _ => ?_) (fun (c : ¬ ((0 : Int32) = 0)) => absurd (by decide) c)
      refine go_s (pc' := 37) (st' := [.int 0]) rfl rfl rfl rfl ?_
      refine go_s (pc' := 38) (lo' := [some (.ref 1), some (.int 3), some (.int 0), some (.ref 32), some (.int 0)]) rfl rfl rfl rfl ?_
      refine go_s (pc' := 39) rfl rfl rfl rfl ?_
      refine go_ifP (t' := 47) (pc' := 40) rfl rfl rfl (fun _ => ?_) (fun (c : ¬ ((0 : Int32) = 0)) => absurd (by decide) c)
      have hC18 : CA w 32 m0 B h15 (I, Q, Z) := ⟨X, ow, sb, hS, hD, hB, hQ⟩
      have hms : msq 0 3 (I, Q, Z) = (I, Q, Z) := if_neg (fun z => absurd (z.1.1.symm.trans u17) (by decide))
      exact K _ _ (by rw [hms]; exact CA_le hC18 (by omega))
    · skip
      show am_Go _ _ _ _ 27 _ [.int 1] _ _
      refine go_ifP (t' := 36) (pc' := 28) rfl rfl rfl (fun (c : (1 : Int32) = 0) => absurd c (by decide)) (fun _ => ?_)
      refine go_s (pc' := 29) rfl rfl rfl rfl ?_
      refine go_sget (pc' := 30) (v := .int 1) hS rfl rfl rfl (by decide) h207 rfl ?_
      refine go_ifP (t' := 36) (pc' := 31) rfl rfl rfl (fun _ => ?_) (fun (c : ¬ (¬ (1 : Int32) = 0)) => absurd (by decide) c)
      refine go_s (pc' := 37) (st' := [.int 0]) rfl rfl rfl rfl ?_
      refine go_s (pc' := 38) (lo' := [some (.ref 1), some (.int 3), some (.int 0), some (.ref 32), some (.int 0)]) rfl rfl rfl rfl ?_
      refine go_s (pc' := 39) rfl rfl rfl rfl ?_
      refine go_ifP (t' := 47) (pc' := 40) rfl rfl rfl (fun _ => ?_) (fun (c : ¬ ((0 : Int32) = 0)) => absurd (by decide) c)
      have hC19 : CA w 32 m0 B h15 (I, Q, Z) := ⟨X, ow, sb, hS, hD, hB, hQ⟩
      have hms : msq 0 3 (I, Q, Z) = (I, Q, Z) := if_neg (fun z => b12 z.1.2.1)
      exact K _ _ (by rw [hms]; exact CA_le hC19 (by omega))
theorem sq_1_3 {w : Nat → Bool} {d : Nat} {h : am_Hp} {m0 : mg} {B : Nat} {I : sm_I} {Q : mQ} {Z : mZ} (hC : CA w 32 m0 B h (I, Q, Z)) {P : Option Value → am_Hp → Prop} (hd : 6 ≤ d) (hB2 : B < 2 ^ 26) {v4 : Int32} (K : ∀ h' v5, CA w 32 m0 (B + 344) h' (msq 1 3 (I, Q, Z)) → am_Go (am_prog w) d am_c107 none 47 [some (.ref 1), some (.int 3), some (.int 1), some (.ref 59), some (.int v5)] [] h' P) : am_Go (am_prog w) d am_c107 none 19 [some (.ref 1), some (.int 3), some (.int 1), some (.ref 32), some (.int v4)] [] h P := by
  obtain ⟨X, ow, sb, hS, hD, hB, hQ⟩ := hC
  change sm tbc h I X at hS
  change CD w 32 m0 h I Q Z X ow sb at hD
  change co h I ≤ B at hB
  change ∀ l, l < 16 → (Q l).length ≤ h.length at hQ
  have hW := hD.1.1
  have hWn : ∀ a, List.length h ≤ a → w a = true := fun a ha => (hD.1.2.1 a ha).1
  have hF1 := fr_refl tbc h
  have hln : 62 ≤ List.length h := sm_len hS
  have h207 := hD.2.2.2.1.2.2 1 (by decide)
  by_cases b12 : I 12 1 = -1
  · skip
    rw [if_pos b12] at h207
    refine go_s (pc' := 20) rfl rfl rfl rfl ?_
    refine go_sget (pc' := 21) (v := .ref 61) hS rfl rfl rfl (by decide) rfl rfl ?_
    refine go_s (pc' := 22) rfl rfl rfl rfl ?_
    refine go_sald (pc' := 23) (q := 1) (v := .ref 59) hS rfl rfl rfl rfl (by decide) rfl rfl ?_
    refine go_s (pc' := 24) (lo' := [some (.ref 1), some (.int 3), some (.int 1), some (.ref 59), some (.int v4)]) rfl rfl rfl rfl ?_
    refine go_s (pc' := 25) rfl rfl rfl rfl ?_
    refine go_s (pc' := 26) rfl rfl rfl rfl ?_
    refine go_callV (pc' := 27) rfl rfl rfl (Nat.le_of_ble_eq_true rfl) rfl (sm_o hS rfl) rfl rfl rfl (ct_works_1 hS (hD.2.2.2.2.2.2 1 (by decide)) (by omega)) (fun r h2 q3 => ?_)
    obtain ⟨rfl, rfl⟩ := q3
    cases u4 : lv I 1
    · skip
      show am_Go _ _ _ _ 27 _ [.int 0] _ _
      refine go_ifP (t' := 36) (pc' := 28) rfl rfl rfl (fun _ => ?_) (fun (c : ¬ ((0 : Int32) = 0)) => absurd (by decide) c)
      refine go_s (pc' := 37) (st' := [.int 0]) rfl rfl rfl rfl ?_
      refine go_s (pc' := 38) (lo' := [some (.ref 1), some (.int 3), some (.int 1), some (.ref 59), some (.int 0)]) rfl rfl rfl rfl ?_
      refine go_s (pc' := 39) rfl rfl rfl rfl ?_
      refine go_ifP (t' := 47) (pc' := 40) rfl rfl rfl (fun _ => ?_) (fun (c : ¬ ((0 : Int32) = 0)) => absurd (by decide) c)
      have hC5 : CA w 32 m0 B h2 (I, Q, Z) := ⟨X, ow, sb, hS, hD, hB, hQ⟩
      have hms : msq 1 3 (I, Q, Z) = (I, Q, Z) := if_neg (fun z => absurd (z.1.1.symm.trans u4) (by decide))
      exact K _ _ (by rw [hms]; exact CA_le hC5 (by omega))
    · skip
      show am_Go _ _ _ _ 27 _ [.int 1] _ _
      refine go_ifP (t' := 36) (pc' := 28) rfl rfl rfl (fun (c : (1 : Int32) = 0) => absurd c (by decide)) (fun _ => ?_)
      refine go_s (pc' := 29) rfl rfl rfl rfl ?_
      refine go_sget (pc' := 30) (v := .int 0) hS rfl rfl rfl (by decide) h207 rfl ?_
      refine go_ifP (t' := 36) (pc' := 31) rfl rfl rfl (fun (c : ¬ (0 : Int32) = 0) => absurd c (by decide)) (fun _ => ?_)
      refine go_s (pc' := 32) rfl rfl rfl rfl ?_
      refine go_sget (pc' := 33) (v := .int (I 13 1)) hS rfl rfl rfl (by decide) rfl rfl ?_
      refine go_ifP (t' := 36) (pc' := 34) rfl rfl rfl (fun (c6 : ¬ (I 13 1) = 0) => ?_) (fun (c6' : ¬ ¬ (I 13 1) = 0) => ?_)
      · skip
        refine go_s (pc' := 37) (st' := [.int 0]) rfl rfl rfl rfl ?_
        refine go_s (pc' := 38) (lo' := [some (.ref 1), some (.int 3), some (.int 1), some (.ref 59), some (.int 0)]) rfl rfl rfl rfl ?_
        refine go_s (pc' := 39) rfl rfl rfl rfl ?_
        refine go_ifP (t' := 47) (pc' := 40) rfl rfl rfl (fun _ => ?_) (fun (c : ¬ ((0 : Int32) = 0)) => absurd (by decide) c)
        have hC7 : CA w 32 m0 B h2 (I, Q, Z) := ⟨X, ow, sb, hS, hD, hB, hQ⟩
        have hms : msq 1 3 (I, Q, Z) = (I, Q, Z) := if_neg (fun z => c6 z.1.2.2)
        exact K _ _ (by rw [hms]; exact CA_le hC7 (by omega))
      · skip
        have c6 : (I 13 1) = 0 := Decidable.not_not.mp c6'
        refine go_s (pc' := 35) (st' := [.int 1]) rfl rfl rfl rfl ?_
        refine go_s (pc' := 37) rfl rfl rfl rfl ?_
        refine go_s (pc' := 38) (lo' := [some (.ref 1), some (.int 3), some (.int 1), some (.ref 59), some (.int 1)]) rfl rfl rfl rfl ?_
        refine go_s (pc' := 39) rfl rfl rfl rfl ?_
        refine go_ifP (t' := 47) (pc' := 40) rfl rfl rfl (fun (c : (1 : Int32) = 0) => absurd c (by decide)) (fun _ => ?_)
        refine go_s (pc' := 41) rfl rfl rfl rfl ?_
        refine go_callV (pc' := 42) rfl rfl rfl (Nat.le_of_ble_eq_true rfl) rfl (sm_o hS rfl) rfl rfl rfl (ct_oh_1 hS (by omega)) (fun r h8 q9 => ?_)
        obtain ⟨rfl, rfl⟩ := q9
        refine go_s (pc' := 43) rfl rfl rfl rfl ?_
        refine go_icmpP (t' := 47) (pc' := 44) rfl rfl rfl (fun (c10 : ¬ (ohI I 1) = 3) => ?_) (fun (c10' : ¬ ¬ (ohI I 1) = 3) => ?_)
        · skip
          have hC11 : CA w 32 m0 B h8 (I, Q, Z) := ⟨X, ow, sb, hS, hD, hB, hQ⟩
          have hms : msq 1 3 (I, Q, Z) = (I, Q, Z) := if_neg (fun z => c10 z.2)
          exact K _ _ (by rw [hms]; exact CA_le hC11 (by omega))
        · skip
          have c10 : (ohI I 1) = 3 := Decidable.not_not.mp c10'
          refine go_s (pc' := 45) rfl rfl rfl rfl ?_
          refine go_s (pc' := 46) rfl rfl rfl rfl ?_
          have hC12 : CA w 32 m0 B h8 (I, Q, Z) := ⟨X, ow, sb, hS, hD, hB, hQ⟩
          refine go_callV (pc' := 47) rfl rfl rfl (Nat.le_of_ble_eq_true rfl) rfl (sm_o hS rfl) rfl rfl rfl (cm_sC_1 hC12 (by omega) u4 (by omega)) (fun r h13 q14 => ?_)
          obtain ⟨rfl, hC9⟩ := q14
          have hms : msq 1 3 (I, Q, Z) = msC 1 (I, Q, Z) := if_pos ⟨⟨u4, b12, c6⟩, c10⟩
          exact K _ _ (by rw [hms]; exact CA_le hC9 (by omega))
  · skip
    rw [if_neg b12] at h207
    refine go_s (pc' := 20) rfl rfl rfl rfl ?_
    refine go_sget (pc' := 21) (v := .ref 61) hS rfl rfl rfl (by decide) rfl rfl ?_
    refine go_s (pc' := 22) rfl rfl rfl rfl ?_
    refine go_sald (pc' := 23) (q := 1) (v := .ref 59) hS rfl rfl rfl rfl (by decide) rfl rfl ?_
    refine go_s (pc' := 24) (lo' := [some (.ref 1), some (.int 3), some (.int 1), some (.ref 59), some (.int v4)]) rfl rfl rfl rfl ?_
    refine go_s (pc' := 25) rfl rfl rfl rfl ?_
    refine go_s (pc' := 26) rfl rfl rfl rfl ?_
    refine go_callV (pc' := 27) rfl rfl rfl (Nat.le_of_ble_eq_true rfl) rfl (sm_o hS rfl) rfl rfl rfl (ct_works_1 hS (hD.2.2.2.2.2.2 1 (by decide)) (by omega)) (fun r h15 q16 => ?_)
    obtain ⟨rfl, rfl⟩ := q16
    cases u17 : lv I 1
    · skip
      show am_Go _ _ _ _ 27 _ [.int 0] _ _
      refine go_ifP (t' := 36) (pc' := 28) rfl rfl rfl (fun _ => ?_) (fun (c : ¬ ((0 : Int32) = 0)) => absurd (by decide) c)
      refine go_s (pc' := 37) (st' := [.int 0]) rfl rfl rfl rfl ?_
      refine go_s (pc' := 38) (lo' := [some (.ref 1), some (.int 3), some (.int 1), some (.ref 59), some (.int 0)]) rfl rfl rfl rfl ?_
      refine go_s (pc' := 39) rfl rfl rfl rfl ?_
      refine go_ifP (t' := 47) (pc' := 40) rfl rfl rfl (fun _ => ?_) (fun (c : ¬ ((0 : Int32) = 0)) => absurd (by decide) c)
      have hC18 : CA w 32 m0 B h15 (I, Q, Z) := ⟨X, ow, sb, hS, hD, hB, hQ⟩
      have hms : msq 1 3 (I, Q, Z) = (I, Q, Z) := if_neg (fun z => absurd (z.1.1.symm.trans u17) (by decide))
      exact K _ _ (by rw [hms]; exact CA_le hC18 (by omega))
    · skip
      show am_Go _ _ _ _ 27 _ [.int 1] _ _
      refine go_ifP (t' := 36) (pc' := 28) rfl rfl rfl (fun (c : (1 : Int32) = 0) => absurd c (by decide)) (fun _ => ?_)
      refine go_s (pc' := 29) rfl rfl rfl rfl ?_
      refine go_sget (pc' := 30) (v := .int 1) hS rfl rfl rfl (by decide) h207 rfl ?_
      refine go_ifP (t' := 36) (pc' := 31) rfl rfl rfl (fun _ => ?_) (fun (c : ¬ (¬ (1 : Int32) = 0)) => absurd (by decide) c)
      refine go_s (pc' := 37) (st' := [.int 0]) rfl rfl rfl rfl ?_
      refine go_s (pc' := 38) (lo' := [some (.ref 1), some (.int 3), some (.int 1), some (.ref 59), some (.int 0)]) rfl rfl rfl rfl ?_
      refine go_s (pc' := 39) rfl rfl rfl rfl ?_
      refine go_ifP (t' := 47) (pc' := 40) rfl rfl rfl (fun _ => ?_) (fun (c : ¬ ((0 : Int32) = 0)) => absurd (by decide) c)
      have hC19 : CA w 32 m0 B h15 (I, Q, Z) := ⟨X, ow, sb, hS, hD, hB, hQ⟩
      have hms : msq 1 3 (I, Q, Z) = (I, Q, Z) := if_neg (fun z => b12 z.1.2.1)
      exact K _ _ (by rw [hms]; exact CA_le hC19 (by omega))
theorem sq_2_3 {w : Nat → Bool} {d : Nat} {h : am_Hp} {m0 : mg} {B : Nat} {I : sm_I} {Q : mQ} {Z : mZ} (hC : CA w 32 m0 B h (I, Q, Z)) {P : Option Value → am_Hp → Prop} (hd : 6 ≤ d) (hB2 : B < 2 ^ 26) {v4 : Int32} (K : ∀ h' v5, CA w 32 m0 (B + 344) h' (msq 2 3 (I, Q, Z)) → am_Go (am_prog w) d am_c107 none 47 [some (.ref 1), some (.int 3), some (.int 2), some (.ref 60), some (.int v5)] [] h' P) : am_Go (am_prog w) d am_c107 none 19 [some (.ref 1), some (.int 3), some (.int 2), some (.ref 59), some (.int v4)] [] h P := by
  obtain ⟨X, ow, sb, hS, hD, hB, hQ⟩ := hC
  change sm tbc h I X at hS
  change CD w 32 m0 h I Q Z X ow sb at hD
  change co h I ≤ B at hB
  change ∀ l, l < 16 → (Q l).length ≤ h.length at hQ
  have hW := hD.1.1
  have hWn : ∀ a, List.length h ≤ a → w a = true := fun a ha => (hD.1.2.1 a ha).1
  have hF1 := fr_refl tbc h
  have hln : 62 ≤ List.length h := sm_len hS
  have h207 := hD.2.2.2.1.2.2 2 (by decide)
  by_cases b12 : I 12 2 = -1
  · skip
    rw [if_pos b12] at h207
    refine go_s (pc' := 20) rfl rfl rfl rfl ?_
    refine go_sget (pc' := 21) (v := .ref 61) hS rfl rfl rfl (by decide) rfl rfl ?_
    refine go_s (pc' := 22) rfl rfl rfl rfl ?_
    refine go_sald (pc' := 23) (q := 2) (v := .ref 60) hS rfl rfl rfl rfl (by decide) rfl rfl ?_
    refine go_s (pc' := 24) (lo' := [some (.ref 1), some (.int 3), some (.int 2), some (.ref 60), some (.int v4)]) rfl rfl rfl rfl ?_
    refine go_s (pc' := 25) rfl rfl rfl rfl ?_
    refine go_s (pc' := 26) rfl rfl rfl rfl ?_
    refine go_callV (pc' := 27) rfl rfl rfl (Nat.le_of_ble_eq_true rfl) rfl (sm_o hS rfl) rfl rfl rfl (ct_works_2 hS (hD.2.2.2.2.2.2 2 (by decide)) (by omega)) (fun r h2 q3 => ?_)
    obtain ⟨rfl, rfl⟩ := q3
    cases u4 : lv I 2
    · skip
      show am_Go _ _ _ _ 27 _ [.int 0] _ _
      refine go_ifP (t' := 36) (pc' := 28) rfl rfl rfl (fun _ => ?_) (fun (c : ¬ ((0 : Int32) = 0)) => absurd (by decide) c)
      refine go_s (pc' := 37) (st' := [.int 0]) rfl rfl rfl rfl ?_
      refine go_s (pc' := 38) (lo' := [some (.ref 1), some (.int 3), some (.int 2), some (.ref 60), some (.int 0)]) rfl rfl rfl rfl ?_
      refine go_s (pc' := 39) rfl rfl rfl rfl ?_
      refine go_ifP (t' := 47) (pc' := 40) rfl rfl rfl (fun _ => ?_) (fun (c : ¬ ((0 : Int32) = 0)) => absurd (by decide) c)
      have hC5 : CA w 32 m0 B h2 (I, Q, Z) := ⟨X, ow, sb, hS, hD, hB, hQ⟩
      have hms : msq 2 3 (I, Q, Z) = (I, Q, Z) := if_neg (fun z => absurd (z.1.1.symm.trans u4) (by decide))
      exact K _ _ (by rw [hms]; exact CA_le hC5 (by omega))
    · skip
      show am_Go _ _ _ _ 27 _ [.int 1] _ _
      refine go_ifP (t' := 36) (pc' := 28) rfl rfl rfl (fun (c : (1 : Int32) = 0) => absurd c (by decide)) (fun _ => ?_)
      refine go_s (pc' := 29) rfl rfl rfl rfl ?_
      refine go_sget (pc' := 30) (v := .int 0) hS rfl rfl rfl (by decide) h207 rfl ?_
      refine go_ifP (t' := 36) (pc' := 31) rfl rfl rfl (fun (c : ¬ (0 : Int32) = 0) => absurd c (by decide)) (fun _ => ?_)
      refine go_s (pc' := 32) rfl rfl rfl rfl ?_
      refine go_sget (pc' := 33) (v := .int (I 13 2)) hS rfl rfl rfl (by decide) rfl rfl ?_
      refine go_ifP (t' := 36) (pc' := 34) rfl rfl rfl (fun (c6 : ¬ (I 13 2) = 0) => ?_) (fun (c6' : ¬ ¬ (I 13 2) = 0) => ?_)
      · skip
        refine go_s (pc' := 37) (st' := [.int 0]) rfl rfl rfl rfl ?_
        refine go_s (pc' := 38) (lo' := [some (.ref 1), some (.int 3), some (.int 2), some (.ref 60), some (.int 0)]) rfl rfl rfl rfl ?_
        refine go_s (pc' := 39) rfl rfl rfl rfl ?_
        refine go_ifP (t' := 47) (pc' := 40) rfl rfl rfl (fun _ => ?_) (fun (c : ¬ ((0 : Int32) = 0)) => absurd (by decide) c)
        have hC7 : CA w 32 m0 B h2 (I, Q, Z) := ⟨X, ow, sb, hS, hD, hB, hQ⟩
        have hms : msq 2 3 (I, Q, Z) = (I, Q, Z) := if_neg (fun z => c6 z.1.2.2)
        exact K _ _ (by rw [hms]; exact CA_le hC7 (by omega))
      · skip
        have c6 : (I 13 2) = 0 := Decidable.not_not.mp c6'
        refine go_s (pc' := 35) (st' := [.int 1]) rfl rfl rfl rfl ?_
        refine go_s (pc' := 37) rfl rfl rfl rfl ?_
        refine go_s (pc' := 38) (lo' := [some (.ref 1), some (.int 3), some (.int 2), some (.ref 60), some (.int 1)]) rfl rfl rfl rfl ?_
        refine go_s (pc' := 39) rfl rfl rfl rfl ?_
        refine go_ifP (t' := 47) (pc' := 40) rfl rfl rfl (fun (c : (1 : Int32) = 0) => absurd c (by decide)) (fun _ => ?_)
        refine go_s (pc' := 41) rfl rfl rfl rfl ?_
        refine go_callV (pc' := 42) rfl rfl rfl (Nat.le_of_ble_eq_true rfl) rfl (sm_o hS rfl) rfl rfl rfl (ct_oh_2 hS (by omega)) (fun r h8 q9 => ?_)
        obtain ⟨rfl, rfl⟩ := q9
        refine go_s (pc' := 43) rfl rfl rfl rfl ?_
        refine go_icmpP (t' := 47) (pc' := 44) rfl rfl rfl (fun (c10 : ¬ (ohI I 2) = 3) => ?_) (fun (c10' : ¬ ¬ (ohI I 2) = 3) => ?_)
        · skip
          have hC11 : CA w 32 m0 B h8 (I, Q, Z) := ⟨X, ow, sb, hS, hD, hB, hQ⟩
          have hms : msq 2 3 (I, Q, Z) = (I, Q, Z) := if_neg (fun z => c10 z.2)
          exact K _ _ (by rw [hms]; exact CA_le hC11 (by omega))
        · skip
          have c10 : (ohI I 2) = 3 := Decidable.not_not.mp c10'
          refine go_s (pc' := 45) rfl rfl rfl rfl ?_
          refine go_s (pc' := 46) rfl rfl rfl rfl ?_
          have hC12 : CA w 32 m0 B h8 (I, Q, Z) := ⟨X, ow, sb, hS, hD, hB, hQ⟩
          refine go_callV (pc' := 47) rfl rfl rfl (Nat.le_of_ble_eq_true rfl) rfl (sm_o hS rfl) rfl rfl rfl (cm_sC_2 hC12 (by omega) u4 (by omega)) (fun r h13 q14 => ?_)
          obtain ⟨rfl, hC9⟩ := q14
          have hms : msq 2 3 (I, Q, Z) = msC 2 (I, Q, Z) := if_pos ⟨⟨u4, b12, c6⟩, c10⟩
          exact K _ _ (by rw [hms]; exact CA_le hC9 (by omega))
  · skip
    rw [if_neg b12] at h207
    refine go_s (pc' := 20) rfl rfl rfl rfl ?_
    refine go_sget (pc' := 21) (v := .ref 61) hS rfl rfl rfl (by decide) rfl rfl ?_
    refine go_s (pc' := 22) rfl rfl rfl rfl ?_
    refine go_sald (pc' := 23) (q := 2) (v := .ref 60) hS rfl rfl rfl rfl (by decide) rfl rfl ?_
    refine go_s (pc' := 24) (lo' := [some (.ref 1), some (.int 3), some (.int 2), some (.ref 60), some (.int v4)]) rfl rfl rfl rfl ?_
    refine go_s (pc' := 25) rfl rfl rfl rfl ?_
    refine go_s (pc' := 26) rfl rfl rfl rfl ?_
    refine go_callV (pc' := 27) rfl rfl rfl (Nat.le_of_ble_eq_true rfl) rfl (sm_o hS rfl) rfl rfl rfl (ct_works_2 hS (hD.2.2.2.2.2.2 2 (by decide)) (by omega)) (fun r h15 q16 => ?_)
    obtain ⟨rfl, rfl⟩ := q16
    cases u17 : lv I 2
    · skip
      show am_Go _ _ _ _ 27 _ [.int 0] _ _
      refine go_ifP (t' := 36) (pc' := 28) rfl rfl rfl (fun _ => ?_) (fun (c : ¬ ((0 : Int32) = 0)) => absurd (by decide) c)
      refine go_s (pc' := 37) (st' := [.int 0]) rfl rfl rfl rfl ?_
      refine go_s (pc' := 38) (lo' := [some (.ref 1), some (.int 3), some (.int 2), some (.ref 60), some (.int 0)]) rfl rfl rfl rfl ?_
      refine go_s (pc' := 39) rfl rfl rfl rfl ?_
      refine go_ifP (t' := 47) (pc' := 40) rfl rfl rfl (fun _ => ?_) (fun (c : ¬ ((0 : Int32) = 0)) => absurd (by decide) c)
      have hC18 : CA w 32 m0 B h15 (I, Q, Z) := ⟨X, ow, sb, hS, hD, hB, hQ⟩
      have hms : msq 2 3 (I, Q, Z) = (I, Q, Z) := if_neg (fun z => absurd (z.1.1.symm.trans u17) (by decide))
      exact K _ _ (by rw [hms]; exact CA_le hC18 (by omega))
    · skip
      show am_Go _ _ _ _ 27 _ [.int 1] _ _
      refine go_ifP (t' := 36) (pc' := 28) rfl rfl rfl (fun (c : (1 : Int32) = 0) => absurd c (by decide)) (fun _ => ?_)
      refine go_s (pc' := 29) rfl rfl rfl rfl ?_
      refine go_sget (pc' := 30) (v := .int 1) hS rfl rfl rfl (by decide) h207 rfl ?_
      refine go_ifP (t' := 36) (pc' := 31) rfl rfl rfl (fun _ => ?_) (fun (c : ¬ (¬ (1 : Int32) = 0)) => absurd (by decide) c)
      refine go_s (pc' := 37) (st' := [.int 0]) rfl rfl rfl rfl ?_
      refine go_s (pc' := 38) (lo' := [some (.ref 1), some (.int 3), some (.int 2), some (.ref 60), some (.int 0)]) rfl rfl rfl rfl ?_
      refine go_s (pc' := 39) rfl rfl rfl rfl ?_
      refine go_ifP (t' := 47) (pc' := 40) rfl rfl rfl (fun _ => ?_) (fun (c : ¬ ((0 : Int32) = 0)) => absurd (by decide) c)
      have hC19 : CA w 32 m0 B h15 (I, Q, Z) := ⟨X, ow, sb, hS, hD, hB, hQ⟩
      have hms : msq 2 3 (I, Q, Z) = (I, Q, Z) := if_neg (fun z => b12 z.1.2.1)
      exact K _ _ (by rw [hms]; exact CA_le hC19 (by omega))
theorem cm_spr_3 {w : Nat → Bool} {d : Nat} {h : am_Hp} {m0 : mg} {B : Nat} {I : sm_I} {Q : mQ} {Z : mZ} (hC : CA w 32 m0 B h (I, Q, Z)) (hB2 : B < 2 ^ 25) (hN : ∀ k, k < 3 → ¬ I 11 k = nI 3) (hd : 7 ≤ d) : am_Ev (am_prog w) d 107 [.ref 1, .int 3] h (fun r h' => r = none ∧ CA w 32 m0 (B + 1032) h' (mspr 3 (I, Q, Z))) := by
  obtain ⟨X, ow, sb, hS, hD, hB, hQ⟩ := hC
  change sm tbc h I X at hS
  change CD w 32 m0 h I Q Z X ow sb at hD
  change co h I ≤ B at hB
  change ∀ l, l < 16 → (Q l).length ≤ h.length at hQ
  have hW := hD.1.1
  have hWn : ∀ a, List.length h ≤ a → w a = true := fun a ha => (hD.1.2.1 a ha).1
  have hF1 := fr_refl tbc h
  have hln : 62 ≤ List.length h := sm_len hS
  obtain ⟨d, rfl⟩ : ∃ e, d = e + 1 := ⟨d - 1, by omega⟩
  refine ev_go rfl (Nat.le_of_ble_eq_true rfl) rfl ?_
  refine go_s (pc' := 1) rfl rfl rfl rfl ?_
  refine go_sget (pc' := 2) (v := .ref 2) hS rfl rfl rfl (by decide) rfl rfl ?_
  refine go_sget (pc' := 3) (v := .ref 3) hS rfl rfl rfl (by decide) rfl rfl ?_
  refine go_s (pc' := 4) rfl rfl rfl rfl ?_
  refine go_s (pc' := 5) (st' := [.int 1, .int 3, .ref 3]) rfl rfl rfl rfl ?_
  refine go_szast (pc' := 6) (q := 3) hS rfl rfl tbc_inj (Nat.le_of_ble_eq_true rfl) rfl (by decide) (by decide) rfl (hW _ rfl) rfl (fun h2 hS3 hE4 => ?_)
  have hF5 := fr_trans hF1 (fr_e hE4)
  refine go_s (pc' := 7) rfl rfl rfl rfl ?_
  refine go_sget (pc' := 8) (v := .ref 2) hS3 rfl rfl rfl (by decide) rfl rfl ?_
  refine go_sget (pc' := 9) (v := .ref 4) hS3 rfl rfl rfl (by decide) rfl rfl ?_
  refine go_s (pc' := 10) rfl rfl rfl rfl ?_
  refine go_s (pc' := 11) (st' := [.int 0, .int 3, .ref 4]) rfl rfl rfl rfl ?_
  refine go_szast (pc' := 12) (q := 3) hS3 rfl rfl tbc_inj (Nat.le_of_ble_eq_true rfl) rfl (by decide) (by decide) rfl (hW _ rfl) rfl (fun h6 hS7 hE8 => ?_)
  have hF9 := fr_trans hF5 (fr_e hE8)
  refine go_s (pc' := 13) (st' := [.int 0]) rfl rfl rfl rfl ?_
  refine go_s (pc' := 14) (lo' := [some (.ref 1), some (.int 3), some (.int 0), none, none]) rfl rfl rfl rfl ?_
  refine go_s (pc' := 15) rfl rfl rfl rfl ?_
  refine go_s (pc' := 16) rfl rfl rfl rfl ?_
  refine go_sget (pc' := 17) (v := .ref 61) hS7 rfl rfl rfl (by decide) rfl rfl ?_
  refine go_salen (pc' := 18) (n := 3) hS7 rfl rfl rfl rfl ?_
  refine go_icmpP (t' := 49) (pc' := 19) rfl rfl rfl (fun (c : 3 ≤ (0 : Int32)) => absurd c (by decide)) (fun _ => ?_)
  have hD10 : CD w 32 m0 h6 ((uI (uI I 0 3 1) 1 3 0, Q, Z) : mM).1 ((uI (uI I 0 3 1) 1 3 0, Q, Z) : mM).2.1 ((uI (uI I 0 3 1) 1 3 0, Q, Z) : mM).2.2 (X) ow sb := CD_I (J := uI (uI I 0 3 1) 1 3 0) (CD_up1 (CD_fr hD hF9) (by decide) hN) ⟨rfl, rfl, rfl, rfl, rfl, rfl, rfl, rfl, rfl, rfl, rfl, rfl, rfl, rfl, rfl⟩
  have hS13 : sm tbc h6 ((uI (uI I 0 3 1) 1 3 0, Q, Z) : mM).1 (X) := hS7
  have hB11 : co h6 ((uI (uI I 0 3 1) 1 3 0, Q, Z) : mM).1 ≤ B := by
    have z1 := co_fr (I := I) (J := ((uI (uI I 0 3 1) 1 3 0, Q, Z) : mM).1) hF9 rfl
    have z2 := hB
    omega
  have hQ12 : ∀ l, l < 16 → (((uI (uI I 0 3 1) 1 3 0, Q, Z) : mM).2.1 l).length ≤ List.length h6 := fun l hl => Nat.le_trans (hQ l hl) hF9.1
  obtain ⟨X14, eX14⟩ : ∃ y, y = (X) := ⟨_, rfl⟩
  rw [← eX14] at hD10 hS13
  obtain ⟨M15, eM15⟩ : ∃ y : mM, y = ((uI (uI I 0 3 1) 1 3 0, Q, Z) : mM) := ⟨_, rfl⟩
  rw [← eM15] at hD10 hS13 hB11 hQ12
  obtain ⟨I15, Q15, Z15⟩ := M15
  change CD w 32 m0 h6 I15 Q15 Z15 X14 ow sb at hD10
  change sm tbc h6 I15 X14 at hS13
  change co h6 I15 ≤ B at hB11
  change ∀ l, l < 16 → (Q15 l).length ≤ List.length h6 at hQ12
  have hW := hD10.1.1
  have hWn : ∀ a, List.length h6 ≤ a → w a = true := fun a ha => (hD10.1.2.1 a ha).1
  have hF16 := fr_refl tbc h6
  have hln : 62 ≤ List.length h6 := sm_len hS13
  have hC17 : CA w 32 m0 B h6 (I15, Q15, Z15) := ⟨X14, ow, sb, hS13, hD10, hB11, hQ12⟩
  refine sq_0_3 (I := I15) (Q := Q15) (Z := Z15) hC17 (by omega) (by omega) (fun h19 v20 hC18 => ?_)
  change CA w 32 m0 (B + 344) h19 (msq 0 3 (I15, Q15, Z15)) at hC18
  obtain ⟨M21, eM21⟩ : ∃ y : mM, y = (msq 0 3 (I15, Q15, Z15)) := ⟨_, rfl⟩
  rw [← eM21] at hC18
  obtain ⟨I21, Q21, Z21⟩ := M21
  obtain ⟨X22, ow22, sb22, hS22, hD22, hB22, hQ22⟩ := hC18
  have hW := hD22.1.1
  have hWn : ∀ a, List.length h19 ≤ a → w a = true := fun a ha => (hD22.1.2.1 a ha).1
  have hF23 := fr_refl tbc h19
  have hln : 62 ≤ List.length h19 := sm_len hS22
  change CD w 32 m0 h19 I21 Q21 Z21 X22 ow22 sb22 at hD22
  change sm tbc h19 I21 X22 at hS22
  change co h19 I21 ≤ (B + 344) at hB22
  change ∀ l, l < 16 → (Q21 l).length ≤ List.length h19 at hQ22
  have hW := hD22.1.1
  have hWn : ∀ a, List.length h19 ≤ a → w a = true := fun a ha => (hD22.1.2.1 a ha).1
  have hF24 := fr_refl tbc h19
  have hln : 62 ≤ List.length h19 := sm_len hS22
  refine go_s (pc' := 48) (lo' := [some (.ref 1), some (.int 3), some (.int 1), some (.ref 32), some (.int v20)]) rfl rfl rfl rfl ?_
  refine go_s (pc' := 14) rfl rfl rfl rfl ?_
  refine go_s (pc' := 15) rfl rfl rfl rfl ?_
  refine go_s (pc' := 16) rfl rfl rfl rfl ?_
  refine go_sget (pc' := 17) (v := .ref 61) hS22 rfl rfl rfl (by decide) rfl rfl ?_
  refine go_salen (pc' := 18) (n := 3) hS22 rfl rfl rfl rfl ?_
  refine go_icmpP (t' := 49) (pc' := 19) rfl rfl rfl (fun (c : 3 ≤ (1 : Int32)) => absurd c (by decide)) (fun _ => ?_)
  have hC25 : CA w 32 m0 (B + 344) h19 (I21, Q21, Z21) := ⟨X22, ow22, sb22, hS22, hD22, hB22, hQ22⟩
  refine sq_1_3 (I := I21) (Q := Q21) (Z := Z21) hC25 (by omega) (by omega) (fun h27 v28 hC26 => ?_)
  change CA w 32 m0 ((B + 344) + 344) h27 (msq 1 3 (I21, Q21, Z21)) at hC26
  obtain ⟨M29, eM29⟩ : ∃ y : mM, y = (msq 1 3 (I21, Q21, Z21)) := ⟨_, rfl⟩
  rw [← eM29] at hC26
  obtain ⟨I29, Q29, Z29⟩ := M29
  obtain ⟨X30, ow30, sb30, hS30, hD30, hB30, hQ30⟩ := hC26
  have hW := hD30.1.1
  have hWn : ∀ a, List.length h27 ≤ a → w a = true := fun a ha => (hD30.1.2.1 a ha).1
  have hF31 := fr_refl tbc h27
  have hln : 62 ≤ List.length h27 := sm_len hS30
  change CD w 32 m0 h27 I29 Q29 Z29 X30 ow30 sb30 at hD30
  change sm tbc h27 I29 X30 at hS30
  change co h27 I29 ≤ ((B + 344) + 344) at hB30
  change ∀ l, l < 16 → (Q29 l).length ≤ List.length h27 at hQ30
  have hW := hD30.1.1
  have hWn : ∀ a, List.length h27 ≤ a → w a = true := fun a ha => (hD30.1.2.1 a ha).1
  have hF32 := fr_refl tbc h27
  have hln : 62 ≤ List.length h27 := sm_len hS30
  refine go_s (pc' := 48) (lo' := [some (.ref 1), some (.int 3), some (.int 2), some (.ref 59), some (.int v28)]) rfl rfl rfl rfl ?_
  refine go_s (pc' := 14) rfl rfl rfl rfl ?_
  refine go_s (pc' := 15) rfl rfl rfl rfl ?_
  refine go_s (pc' := 16) rfl rfl rfl rfl ?_
  refine go_sget (pc' := 17) (v := .ref 61) hS30 rfl rfl rfl (by decide) rfl rfl ?_
  refine go_salen (pc' := 18) (n := 3) hS30 rfl rfl rfl rfl ?_
  refine go_icmpP (t' := 49) (pc' := 19) rfl rfl rfl (fun (c : 3 ≤ (2 : Int32)) => absurd c (by decide)) (fun _ => ?_)
  have hC33 : CA w 32 m0 ((B + 344) + 344) h27 (I29, Q29, Z29) := ⟨X30, ow30, sb30, hS30, hD30, hB30, hQ30⟩
  refine sq_2_3 (I := I29) (Q := Q29) (Z := Z29) hC33 (by omega) (by omega) (fun h35 v36 hC34 => ?_)
  change CA w 32 m0 (((B + 344) + 344) + 344) h35 (msq 2 3 (I29, Q29, Z29)) at hC34
  obtain ⟨M37, eM37⟩ : ∃ y : mM, y = (msq 2 3 (I29, Q29, Z29)) := ⟨_, rfl⟩
  rw [← eM37] at hC34
  obtain ⟨I37, Q37, Z37⟩ := M37
  obtain ⟨X38, ow38, sb38, hS38, hD38, hB38, hQ38⟩ := hC34
  have hW := hD38.1.1
  have hWn : ∀ a, List.length h35 ≤ a → w a = true := fun a ha => (hD38.1.2.1 a ha).1
  have hF39 := fr_refl tbc h35
  have hln : 62 ≤ List.length h35 := sm_len hS38
  change CD w 32 m0 h35 I37 Q37 Z37 X38 ow38 sb38 at hD38
  change sm tbc h35 I37 X38 at hS38
  change co h35 I37 ≤ (((B + 344) + 344) + 344) at hB38
  change ∀ l, l < 16 → (Q37 l).length ≤ List.length h35 at hQ38
  have hW := hD38.1.1
  have hWn : ∀ a, List.length h35 ≤ a → w a = true := fun a ha => (hD38.1.2.1 a ha).1
  have hF40 := fr_refl tbc h35
  have hln : 62 ≤ List.length h35 := sm_len hS38
  refine go_s (pc' := 48) (lo' := [some (.ref 1), some (.int 3), some (.int 3), some (.ref 60), some (.int v36)]) rfl rfl rfl rfl ?_
  refine go_s (pc' := 14) rfl rfl rfl rfl ?_
  refine go_s (pc' := 15) rfl rfl rfl rfl ?_
  refine go_s (pc' := 16) rfl rfl rfl rfl ?_
  refine go_sget (pc' := 17) (v := .ref 61) hS38 rfl rfl rfl (by decide) rfl rfl ?_
  refine go_salen (pc' := 18) (n := 3) hS38 rfl rfl rfl rfl ?_
  refine go_icmpP (t' := 49) (pc' := 19) rfl rfl rfl (fun _ => ?_) (fun (c : ¬ (3 ≤ (3 : Int32))) => absurd (by decide) c)
  refine go_ret rfl rfl ?_
  have hms : mspr 3 (I, Q, Z) = (I37, Q37, Z37) := by
    unfold mspr
    rw [← eM15, ← eM21, ← eM29, ← eM37]
  have hC41 : CA w 32 m0 (((B + 344) + 344) + 344) h35 (I37, Q37, Z37) := ⟨X38, ow38, sb38, hS38, hD38, hB38, hQ38⟩
  rw [hms]
  exact ⟨rfl, CA_le hC41 (by omega)⟩
def mrr0 (p : Nat) (M : mM) : Int32 × mM := if M.1 0 p = 0 then (1, mspr p (if M.1 1 p = 0 then mset 10 (mdc p M) else M)) else (0, M)
theorem ca_rr_0_0 {w : Nat → Bool} {d : Nat} {h : am_Hp} {m0 : mg} {B : Nat} {I : sm_I} {Q : mQ} {Z : mZ} (hC : CA w 32 m0 B h (I, Q, Z)) (hB2 : B < 2 ^ 24) (hbl : I 0 0 = 0 ∨ I 0 0 = 1) (hH : I 0 0 = 0 → I 1 0 = 0 → DCH0 (I, Q, Z)) (hsi : I 0 0 = 0 → I 1 0 = 0 → SI (mdc 0 (I, Q, Z))) (hN : I 0 0 = 0 → ∀ k, k < 3 → ¬ (if I 1 0 = 0 then mset 10 (mdc 0 (I, Q, Z)) else (I, Q, Z)).1 11 k = nI 0) (hd : 8 ≤ d) : am_Ev (am_prog w) d 106 [.ref 1, .int 0, .int 0] h (fun r h' => r = some (.int (mrr0 0 (I, Q, Z)).1) ∧ CA w 32 m0 (B + 1612) h' (mrr0 0 (I, Q, Z)).2) := by
  obtain ⟨X, ow, sb, hS, hD, hB, hQ⟩ := hC
  change sm tbc h I X at hS
  change CD w 32 m0 h I Q Z X ow sb at hD
  change co h I ≤ B at hB
  change ∀ l, l < 16 → (Q l).length ≤ h.length at hQ
  have hW := hD.1.1
  have hWn : ∀ a, List.length h ≤ a → w a = true := fun a ha => (hD.1.2.1 a ha).1
  have hF1 := fr_refl tbc h
  have hln : 62 ≤ List.length h := sm_len hS
  have hB3 : B < 2 ^ 24 := hB2
  obtain ⟨d, rfl⟩ : ∃ e, d = e + 1 := ⟨d - 1, by omega⟩
  refine ev_go rfl (Nat.le_of_ble_eq_true rfl) rfl ?_
  refine go_s (pc' := 1) rfl rfl rfl rfl ?_
  refine go_s (pc' := 2) rfl rfl rfl rfl ?_
  refine go_callS (pc' := 3) rfl rfl rfl (Nat.le_of_ble_eq_true rfl) rfl rfl rfl (ct_ip_0_0 (by omega)) (fun r h2 q3 => ?_)
  obtain ⟨rfl, rfl⟩ := q3
  refine go_ifP (t' := 9) (pc' := 4) rfl rfl rfl (fun (c : (1 : Int32) = 0) => absurd c (by decide)) (fun _ => ?_)
  refine go_s (pc' := 5) rfl rfl rfl rfl ?_
  refine go_s (pc' := 6) rfl rfl rfl rfl ?_
  refine go_s (pc' := 7) rfl rfl rfl rfl ?_
  refine go_callV (pc' := 8) rfl rfl rfl (Nat.le_of_ble_eq_true rfl) rfl (sm_o hS rfl) rfl rfl rfl (ct_iu_0_0 hS hbl (by omega)) (fun r h4 q5 => ?_)
  obtain ⟨rfl, rfl⟩ := q5
  refine go_ifP (t' := 11) (pc' := 9) rfl rfl rfl (fun (c6 : (I 0 0) = 0) => ?_) (fun (c6 : ¬ (I 0 0) = 0) => ?_)
  · skip
    refine go_s (pc' := 12) rfl rfl rfl rfl ?_
    refine go_ifP (t' := 28) (pc' := 13) rfl rfl rfl (fun (c : ¬ (0 : Int32) = 0) => absurd c (by decide)) (fun _ => ?_)
    refine go_s (pc' := 14) rfl rfl rfl rfl ?_
    refine go_sget (pc' := 15) (v := .ref 2) hS rfl rfl rfl (by decide) rfl rfl ?_
    refine go_sget (pc' := 16) (v := .ref 4) hS rfl rfl rfl (by decide) rfl rfl ?_
    refine go_s (pc' := 17) rfl rfl rfl rfl ?_
    refine go_sald (pc' := 18) (q := 0) (v := .int (I 1 0)) hS rfl rfl rfl rfl (by decide) rfl rfl ?_
    refine go_ifP (t' := 24) (pc' := 19) rfl rfl rfl (fun (c7 : ¬ (I 1 0) = 0) => ?_) (fun (c7' : ¬ ¬ (I 1 0) = 0) => ?_)
    · skip
      refine go_s (pc' := 25) rfl rfl rfl rfl ?_
      refine go_s (pc' := 26) rfl rfl rfl rfl ?_
      have hN9 : ∀ k, k < 3 → ¬ I 11 k = nI 0 := by
        have z := hN c6
        rw [if_neg c7] at z
        exact z
      have hC8 : CA w 32 m0 B h4 (I, Q, Z) := ⟨X, ow, sb, hS, hD, hB, hQ⟩
      refine go_callV (pc' := 27) rfl rfl rfl (Nat.le_of_ble_eq_true rfl) rfl (sm_o hS rfl) rfl rfl rfl (cm_spr_0 hC8 (by omega) hN9 (by omega)) (fun r h9 q10 => ?_)
      obtain ⟨rfl, hC11⟩ := q10
      change CA w 32 m0 (B + 1032) h9 (mspr 0 (I, Q, Z)) at hC11
      obtain ⟨M12, eM12⟩ : ∃ y : mM, y = (mspr 0 (I, Q, Z)) := ⟨_, rfl⟩
      rw [← eM12] at hC11
      obtain ⟨I12, Q12, Z12⟩ := M12
      obtain ⟨X13, ow13, sb13, hS13, hD13, hB13, hQ13⟩ := hC11
      have hW := hD13.1.1
      have hWn : ∀ a, List.length h9 ≤ a → w a = true := fun a ha => (hD13.1.2.1 a ha).1
      have hF14 := fr_refl tbc h9
      have hln : 62 ≤ List.length h9 := sm_len hS13
      change CD w 32 m0 h9 I12 Q12 Z12 X13 ow13 sb13 at hD13
      change sm tbc h9 I12 X13 at hS13
      change co h9 I12 ≤ (B + 1032) at hB13
      change ∀ l, l < 16 → (Q12 l).length ≤ List.length h9 at hQ13
      have hW := hD13.1.1
      have hWn : ∀ a, List.length h9 ≤ a → w a = true := fun a ha => (hD13.1.2.1 a ha).1
      have hF15 := fr_refl tbc h9
      have hln : 62 ≤ List.length h9 := sm_len hS13
      refine go_s (pc' := 42) rfl rfl rfl rfl ?_
      refine go_s (pc' := 43) (st' := [.int 1]) rfl rfl rfl rfl ?_
      refine go_ret rfl rfl ?_
      have hms : mrr0 0 (I, Q, Z) = (1, (I12, Q12, Z12)) := by
        unfold mrr0
        rw [if_pos (show I 0 0 = 0 from c6), if_neg (show ¬ I 1 0 = 0 from c7), ← eM12]
      have hC16 : CA w 32 m0 (B + 1032) h9 (I12, Q12, Z12) := ⟨X13, ow13, sb13, hS13, hD13, hB13, hQ13⟩
      rw [hms]
      exact ⟨rfl, CA_le hC16 (by omega)⟩
    · skip
      have c7 : (I 1 0) = 0 := Decidable.not_not.mp c7'
      refine go_s (pc' := 20) rfl rfl rfl rfl ?_
      refine go_s (pc' := 21) rfl rfl rfl rfl ?_
      have hC17 : CA w 32 m0 B h4 (I, Q, Z) := ⟨X, ow, sb, hS, hD, hB, hQ⟩
      refine go_callV (pc' := 22) rfl rfl rfl (Nat.le_of_ble_eq_true rfl) rfl (sm_o hS rfl) rfl rfl rfl (cm_dc_0 hC17 (by omega) (hH c6 c7) (by omega)) (fun r h18 q19 => ?_)
      obtain ⟨rfl, hC20⟩ := q19
      change CA w 32 m0 (B + 180) h18 (mdc 0 (I, Q, Z)) at hC20
      obtain ⟨M21, eM21⟩ : ∃ y : mM, y = (mdc 0 (I, Q, Z)) := ⟨_, rfl⟩
      rw [← eM21] at hC20
      obtain ⟨I21, Q21, Z21⟩ := M21
      obtain ⟨X22, ow22, sb22, hS22, hD22, hB22, hQ22⟩ := hC20
      have hW := hD22.1.1
      have hWn : ∀ a, List.length h18 ≤ a → w a = true := fun a ha => (hD22.1.2.1 a ha).1
      have hF23 := fr_refl tbc h18
      have hln : 62 ≤ List.length h18 := sm_len hS22
      change CD w 32 m0 h18 I21 Q21 Z21 X22 ow22 sb22 at hD22
      change sm tbc h18 I21 X22 at hS22
      change co h18 I21 ≤ (B + 180) at hB22
      change ∀ l, l < 16 → (Q21 l).length ≤ List.length h18 at hQ22
      have hW := hD22.1.1
      have hWn : ∀ a, List.length h18 ≤ a → w a = true := fun a ha => (hD22.1.2.1 a ha).1
      have hF24 := fr_refl tbc h18
      have hln : 62 ≤ List.length h18 := sm_len hS22
      refine go_s (pc' := 23) rfl rfl rfl rfl ?_
      have hI9 : SI (I21, Q21, Z21) := by rw [eM21]; exact hsi c6 c7
      have hC25 : CA w 32 m0 (B + 180) h18 (I21, Q21, Z21) := ⟨X22, ow22, sb22, hS22, hD22, hB22, hQ22⟩
      refine go_callV (pc' := 24) rfl rfl rfl (Nat.le_of_ble_eq_true rfl) rfl (sm_o hS22 rfl) rfl rfl rfl (cm_run hC25 (by omega) hI9 (by omega)) (fun r h26 q27 => ?_)
      obtain ⟨rfl, hC28⟩ := q27
      change CA w 32 m0 ((B + 180) + 400) h26 (mset 10 (I21, Q21, Z21)) at hC28
      obtain ⟨M29, eM29⟩ : ∃ y : mM, y = (mset 10 (I21, Q21, Z21)) := ⟨_, rfl⟩
      rw [← eM29] at hC28
      obtain ⟨I29, Q29, Z29⟩ := M29
      obtain ⟨X30, ow30, sb30, hS30, hD30, hB30, hQ30⟩ := hC28
      have hW := hD30.1.1
      have hWn : ∀ a, List.length h26 ≤ a → w a = true := fun a ha => (hD30.1.2.1 a ha).1
      have hF31 := fr_refl tbc h26
      have hln : 62 ≤ List.length h26 := sm_len hS30
      change CD w 32 m0 h26 I29 Q29 Z29 X30 ow30 sb30 at hD30
      change sm tbc h26 I29 X30 at hS30
      change co h26 I29 ≤ ((B + 180) + 400) at hB30
      change ∀ l, l < 16 → (Q29 l).length ≤ List.length h26 at hQ30
      have hW := hD30.1.1
      have hWn : ∀ a, List.length h26 ≤ a → w a = true := fun a ha => (hD30.1.2.1 a ha).1
      have hF32 := fr_refl tbc h26
      have hln : 62 ≤ List.length h26 := sm_len hS30
      refine go_s (pc' := 25) rfl rfl rfl rfl ?_
      refine go_s (pc' := 26) rfl rfl rfl rfl ?_
      have hN9 : ∀ k, k < 3 → ¬ I29 11 k = nI 0 := by
        have z := hN c6
        rw [if_pos c7] at z
        rw [← eM21, ← eM29] at z
        exact z
      have hC33 : CA w 32 m0 ((B + 180) + 400) h26 (I29, Q29, Z29) := ⟨X30, ow30, sb30, hS30, hD30, hB30, hQ30⟩
      refine go_callV (pc' := 27) rfl rfl rfl (Nat.le_of_ble_eq_true rfl) rfl (sm_o hS30 rfl) rfl rfl rfl (cm_spr_0 hC33 (by omega) hN9 (by omega)) (fun r h34 q35 => ?_)
      obtain ⟨rfl, hC36⟩ := q35
      change CA w 32 m0 (((B + 180) + 400) + 1032) h34 (mspr 0 (I29, Q29, Z29)) at hC36
      obtain ⟨M37, eM37⟩ : ∃ y : mM, y = (mspr 0 (I29, Q29, Z29)) := ⟨_, rfl⟩
      rw [← eM37] at hC36
      obtain ⟨I37, Q37, Z37⟩ := M37
      obtain ⟨X38, ow38, sb38, hS38, hD38, hB38, hQ38⟩ := hC36
      have hW := hD38.1.1
      have hWn : ∀ a, List.length h34 ≤ a → w a = true := fun a ha => (hD38.1.2.1 a ha).1
      have hF39 := fr_refl tbc h34
      have hln : 62 ≤ List.length h34 := sm_len hS38
      change CD w 32 m0 h34 I37 Q37 Z37 X38 ow38 sb38 at hD38
      change sm tbc h34 I37 X38 at hS38
      change co h34 I37 ≤ (((B + 180) + 400) + 1032) at hB38
      change ∀ l, l < 16 → (Q37 l).length ≤ List.length h34 at hQ38
      have hW := hD38.1.1
      have hWn : ∀ a, List.length h34 ≤ a → w a = true := fun a ha => (hD38.1.2.1 a ha).1
      have hF40 := fr_refl tbc h34
      have hln : 62 ≤ List.length h34 := sm_len hS38
      refine go_s (pc' := 42) rfl rfl rfl rfl ?_
      refine go_s (pc' := 43) (st' := [.int 1]) rfl rfl rfl rfl ?_
      refine go_ret rfl rfl ?_
      have hms : mrr0 0 (I, Q, Z) = (1, (I37, Q37, Z37)) := by
        unfold mrr0
        rw [if_pos (show I 0 0 = 0 from c6), if_pos (show I 1 0 = 0 from c7), ← eM21, ← eM29, ← eM37]
      have hC41 : CA w 32 m0 (((B + 180) + 400) + 1032) h34 (I37, Q37, Z37) := ⟨X38, ow38, sb38, hS38, hD38, hB38, hQ38⟩
      rw [hms]
      exact ⟨rfl, CA_le hC41 (by omega)⟩
  · skip
    refine go_s (pc' := 10) (st' := [.int 0]) rfl rfl rfl rfl ?_
    refine go_ret rfl rfl ?_
    have hms : mrr0 0 (I, Q, Z) = (0, (I, Q, Z)) := if_neg c6
    rw [hms]
    exact ⟨rfl, X, ow, sb, hS, hD, Nat.le_trans hB (by omega), hQ⟩
theorem ca_rr_0_1 {w : Nat → Bool} {d : Nat} {h : am_Hp} {m0 : mg} {B : Nat} {I : sm_I} {Q : mQ} {Z : mZ} (hC : CA w 32 m0 B h (I, Q, Z)) (hB2 : B < 2 ^ 24) (hbl : I 0 1 = 0 ∨ I 0 1 = 1) (hH : I 0 1 = 0 → I 1 1 = 0 → DCH1 (I, Q, Z)) (hsi : I 0 1 = 0 → I 1 1 = 0 → SI (mdc 1 (I, Q, Z))) (hN : I 0 1 = 0 → ∀ k, k < 3 → ¬ (if I 1 1 = 0 then mset 10 (mdc 1 (I, Q, Z)) else (I, Q, Z)).1 11 k = nI 1) (hd : 8 ≤ d) : am_Ev (am_prog w) d 106 [.ref 1, .int 0, .int 1] h (fun r h' => r = some (.int (mrr0 1 (I, Q, Z)).1) ∧ CA w 32 m0 (B + 1612) h' (mrr0 1 (I, Q, Z)).2) := by
  obtain ⟨X, ow, sb, hS, hD, hB, hQ⟩ := hC
  change sm tbc h I X at hS
  change CD w 32 m0 h I Q Z X ow sb at hD
  change co h I ≤ B at hB
  change ∀ l, l < 16 → (Q l).length ≤ h.length at hQ
  have hW := hD.1.1
  have hWn : ∀ a, List.length h ≤ a → w a = true := fun a ha => (hD.1.2.1 a ha).1
  have hF1 := fr_refl tbc h
  have hln : 62 ≤ List.length h := sm_len hS
  have hB3 : B < 2 ^ 24 := hB2
  obtain ⟨d, rfl⟩ : ∃ e, d = e + 1 := ⟨d - 1, by omega⟩
  refine ev_go rfl (Nat.le_of_ble_eq_true rfl) rfl ?_
  refine go_s (pc' := 1) rfl rfl rfl rfl ?_
  refine go_s (pc' := 2) rfl rfl rfl rfl ?_
  refine go_callS (pc' := 3) rfl rfl rfl (Nat.le_of_ble_eq_true rfl) rfl rfl rfl (ct_ip_0_1 (by omega)) (fun r h2 q3 => ?_)
  obtain ⟨rfl, rfl⟩ := q3
  refine go_ifP (t' := 9) (pc' := 4) rfl rfl rfl (fun (c : (1 : Int32) = 0) => absurd c (by decide)) (fun _ => ?_)
  refine go_s (pc' := 5) rfl rfl rfl rfl ?_
  refine go_s (pc' := 6) rfl rfl rfl rfl ?_
  refine go_s (pc' := 7) rfl rfl rfl rfl ?_
  refine go_callV (pc' := 8) rfl rfl rfl (Nat.le_of_ble_eq_true rfl) rfl (sm_o hS rfl) rfl rfl rfl (ct_iu_0_1 hS hbl (by omega)) (fun r h4 q5 => ?_)
  obtain ⟨rfl, rfl⟩ := q5
  refine go_ifP (t' := 11) (pc' := 9) rfl rfl rfl (fun (c6 : (I 0 1) = 0) => ?_) (fun (c6 : ¬ (I 0 1) = 0) => ?_)
  · skip
    refine go_s (pc' := 12) rfl rfl rfl rfl ?_
    refine go_ifP (t' := 28) (pc' := 13) rfl rfl rfl (fun (c : ¬ (0 : Int32) = 0) => absurd c (by decide)) (fun _ => ?_)
    refine go_s (pc' := 14) rfl rfl rfl rfl ?_
    refine go_sget (pc' := 15) (v := .ref 2) hS rfl rfl rfl (by decide) rfl rfl ?_
    refine go_sget (pc' := 16) (v := .ref 4) hS rfl rfl rfl (by decide) rfl rfl ?_
    refine go_s (pc' := 17) rfl rfl rfl rfl ?_
    refine go_sald (pc' := 18) (q := 1) (v := .int (I 1 1)) hS rfl rfl rfl rfl (by decide) rfl rfl ?_
    refine go_ifP (t' := 24) (pc' := 19) rfl rfl rfl (fun (c7 : ¬ (I 1 1) = 0) => ?_) (fun (c7' : ¬ ¬ (I 1 1) = 0) => ?_)
    · skip
      refine go_s (pc' := 25) rfl rfl rfl rfl ?_
      refine go_s (pc' := 26) rfl rfl rfl rfl ?_
      have hN9 : ∀ k, k < 3 → ¬ I 11 k = nI 1 := by
        have z := hN c6
        rw [if_neg c7] at z
        exact z
      have hC8 : CA w 32 m0 B h4 (I, Q, Z) := ⟨X, ow, sb, hS, hD, hB, hQ⟩
      refine go_callV (pc' := 27) rfl rfl rfl (Nat.le_of_ble_eq_true rfl) rfl (sm_o hS rfl) rfl rfl rfl (cm_spr_1 hC8 (by omega) hN9 (by omega)) (fun r h9 q10 => ?_)
      obtain ⟨rfl, hC11⟩ := q10
      change CA w 32 m0 (B + 1032) h9 (mspr 1 (I, Q, Z)) at hC11
      obtain ⟨M12, eM12⟩ : ∃ y : mM, y = (mspr 1 (I, Q, Z)) := ⟨_, rfl⟩
      rw [← eM12] at hC11
      obtain ⟨I12, Q12, Z12⟩ := M12
      obtain ⟨X13, ow13, sb13, hS13, hD13, hB13, hQ13⟩ := hC11
      have hW := hD13.1.1
      have hWn : ∀ a, List.length h9 ≤ a → w a = true := fun a ha => (hD13.1.2.1 a ha).1
      have hF14 := fr_refl tbc h9
      have hln : 62 ≤ List.length h9 := sm_len hS13
      change CD w 32 m0 h9 I12 Q12 Z12 X13 ow13 sb13 at hD13
      change sm tbc h9 I12 X13 at hS13
      change co h9 I12 ≤ (B + 1032) at hB13
      change ∀ l, l < 16 → (Q12 l).length ≤ List.length h9 at hQ13
      have hW := hD13.1.1
      have hWn : ∀ a, List.length h9 ≤ a → w a = true := fun a ha => (hD13.1.2.1 a ha).1
      have hF15 := fr_refl tbc h9
      have hln : 62 ≤ List.length h9 := sm_len hS13
      refine go_s (pc' := 42) rfl rfl rfl rfl ?_
      refine go_s (pc' := 43) (st' := [.int 1]) rfl rfl rfl rfl ?_
      refine go_ret rfl rfl ?_
      have hms : mrr0 1 (I, Q, Z) = (1, (I12, Q12, Z12)) := by
        unfold mrr0
        rw [if_pos (show I 0 1 = 0 from c6), if_neg (show ¬ I 1 1 = 0 from c7), ← eM12]
      have hC16 : CA w 32 m0 (B + 1032) h9 (I12, Q12, Z12) := ⟨X13, ow13, sb13, hS13, hD13, hB13, hQ13⟩
      rw [hms]
      exact ⟨rfl, CA_le hC16 (by omega)⟩
    · skip
      have c7 : (I 1 1) = 0 := Decidable.not_not.mp c7'
      refine go_s (pc' := 20) rfl rfl rfl rfl ?_
      refine go_s (pc' := 21) rfl rfl rfl rfl ?_
      have hC17 : CA w 32 m0 B h4 (I, Q, Z) := ⟨X, ow, sb, hS, hD, hB, hQ⟩
      refine go_callV (pc' := 22) rfl rfl rfl (Nat.le_of_ble_eq_true rfl) rfl (sm_o hS rfl) rfl rfl rfl (cm_dc_1 hC17 (by omega) (hH c6 c7) (by omega)) (fun r h18 q19 => ?_)
      obtain ⟨rfl, hC20⟩ := q19
      change CA w 32 m0 (B + 180) h18 (mdc 1 (I, Q, Z)) at hC20
      obtain ⟨M21, eM21⟩ : ∃ y : mM, y = (mdc 1 (I, Q, Z)) := ⟨_, rfl⟩
      rw [← eM21] at hC20
      obtain ⟨I21, Q21, Z21⟩ := M21
      obtain ⟨X22, ow22, sb22, hS22, hD22, hB22, hQ22⟩ := hC20
      have hW := hD22.1.1
      have hWn : ∀ a, List.length h18 ≤ a → w a = true := fun a ha => (hD22.1.2.1 a ha).1
      have hF23 := fr_refl tbc h18
      have hln : 62 ≤ List.length h18 := sm_len hS22
      change CD w 32 m0 h18 I21 Q21 Z21 X22 ow22 sb22 at hD22
      change sm tbc h18 I21 X22 at hS22
      change co h18 I21 ≤ (B + 180) at hB22
      change ∀ l, l < 16 → (Q21 l).length ≤ List.length h18 at hQ22
      have hW := hD22.1.1
      have hWn : ∀ a, List.length h18 ≤ a → w a = true := fun a ha => (hD22.1.2.1 a ha).1
      have hF24 := fr_refl tbc h18
      have hln : 62 ≤ List.length h18 := sm_len hS22
      refine go_s (pc' := 23) rfl rfl rfl rfl ?_
      have hI9 : SI (I21, Q21, Z21) := by rw [eM21]; exact hsi c6 c7
      have hC25 : CA w 32 m0 (B + 180) h18 (I21, Q21, Z21) := ⟨X22, ow22, sb22, hS22, hD22, hB22, hQ22⟩
      refine go_callV (pc' := 24) rfl rfl rfl (Nat.le_of_ble_eq_true rfl) rfl (sm_o hS22 rfl) rfl rfl rfl (cm_run hC25 (by omega) hI9 (by omega)) (fun r h26 q27 => ?_)
      obtain ⟨rfl, hC28⟩ := q27
      change CA w 32 m0 ((B + 180) + 400) h26 (mset 10 (I21, Q21, Z21)) at hC28
      obtain ⟨M29, eM29⟩ : ∃ y : mM, y = (mset 10 (I21, Q21, Z21)) := ⟨_, rfl⟩
      rw [← eM29] at hC28
      obtain ⟨I29, Q29, Z29⟩ := M29
      obtain ⟨X30, ow30, sb30, hS30, hD30, hB30, hQ30⟩ := hC28
      have hW := hD30.1.1
      have hWn : ∀ a, List.length h26 ≤ a → w a = true := fun a ha => (hD30.1.2.1 a ha).1
      have hF31 := fr_refl tbc h26
      have hln : 62 ≤ List.length h26 := sm_len hS30
      change CD w 32 m0 h26 I29 Q29 Z29 X30 ow30 sb30 at hD30
      change sm tbc h26 I29 X30 at hS30
      change co h26 I29 ≤ ((B + 180) + 400) at hB30
      change ∀ l, l < 16 → (Q29 l).length ≤ List.length h26 at hQ30
      have hW := hD30.1.1
      have hWn : ∀ a, List.length h26 ≤ a → w a = true := fun a ha => (hD30.1.2.1 a ha).1
      have hF32 := fr_refl tbc h26
      have hln : 62 ≤ List.length h26 := sm_len hS30
      refine go_s (pc' := 25) rfl rfl rfl rfl ?_
      refine go_s (pc' := 26) rfl rfl rfl rfl ?_
      have hN9 : ∀ k, k < 3 → ¬ I29 11 k = nI 1 := by
        have z := hN c6
        rw [if_pos c7] at z
        rw [← eM21, ← eM29] at z
        exact z
      have hC33 : CA w 32 m0 ((B + 180) + 400) h26 (I29, Q29, Z29) := ⟨X30, ow30, sb30, hS30, hD30, hB30, hQ30⟩
      refine go_callV (pc' := 27) rfl rfl rfl (Nat.le_of_ble_eq_true rfl) rfl (sm_o hS30 rfl) rfl rfl rfl (cm_spr_1 hC33 (by omega) hN9 (by omega)) (fun r h34 q35 => ?_)
      obtain ⟨rfl, hC36⟩ := q35
      change CA w 32 m0 (((B + 180) + 400) + 1032) h34 (mspr 1 (I29, Q29, Z29)) at hC36
      obtain ⟨M37, eM37⟩ : ∃ y : mM, y = (mspr 1 (I29, Q29, Z29)) := ⟨_, rfl⟩
      rw [← eM37] at hC36
      obtain ⟨I37, Q37, Z37⟩ := M37
      obtain ⟨X38, ow38, sb38, hS38, hD38, hB38, hQ38⟩ := hC36
      have hW := hD38.1.1
      have hWn : ∀ a, List.length h34 ≤ a → w a = true := fun a ha => (hD38.1.2.1 a ha).1
      have hF39 := fr_refl tbc h34
      have hln : 62 ≤ List.length h34 := sm_len hS38
      change CD w 32 m0 h34 I37 Q37 Z37 X38 ow38 sb38 at hD38
      change sm tbc h34 I37 X38 at hS38
      change co h34 I37 ≤ (((B + 180) + 400) + 1032) at hB38
      change ∀ l, l < 16 → (Q37 l).length ≤ List.length h34 at hQ38
      have hW := hD38.1.1
      have hWn : ∀ a, List.length h34 ≤ a → w a = true := fun a ha => (hD38.1.2.1 a ha).1
      have hF40 := fr_refl tbc h34
      have hln : 62 ≤ List.length h34 := sm_len hS38
      refine go_s (pc' := 42) rfl rfl rfl rfl ?_
      refine go_s (pc' := 43) (st' := [.int 1]) rfl rfl rfl rfl ?_
      refine go_ret rfl rfl ?_
      have hms : mrr0 1 (I, Q, Z) = (1, (I37, Q37, Z37)) := by
        unfold mrr0
        rw [if_pos (show I 0 1 = 0 from c6), if_pos (show I 1 1 = 0 from c7), ← eM21, ← eM29, ← eM37]
      have hC41 : CA w 32 m0 (((B + 180) + 400) + 1032) h34 (I37, Q37, Z37) := ⟨X38, ow38, sb38, hS38, hD38, hB38, hQ38⟩
      rw [hms]
      exact ⟨rfl, CA_le hC41 (by omega)⟩
  · skip
    refine go_s (pc' := 10) (st' := [.int 0]) rfl rfl rfl rfl ?_
    refine go_ret rfl rfl ?_
    have hms : mrr0 1 (I, Q, Z) = (0, (I, Q, Z)) := if_neg c6
    rw [hms]
    exact ⟨rfl, X, ow, sb, hS, hD, Nat.le_trans hB (by omega), hQ⟩
theorem ca_rr_0_2 {w : Nat → Bool} {d : Nat} {h : am_Hp} {m0 : mg} {B : Nat} {I : sm_I} {Q : mQ} {Z : mZ} (hC : CA w 32 m0 B h (I, Q, Z)) (hB2 : B < 2 ^ 24) (hbl : I 0 2 = 0 ∨ I 0 2 = 1) (hH : I 0 2 = 0 → I 1 2 = 0 → DCH2 (I, Q, Z)) (hsi : I 0 2 = 0 → I 1 2 = 0 → SI (mdc 2 (I, Q, Z))) (hN : I 0 2 = 0 → ∀ k, k < 3 → ¬ (if I 1 2 = 0 then mset 10 (mdc 2 (I, Q, Z)) else (I, Q, Z)).1 11 k = nI 2) (hd : 8 ≤ d) : am_Ev (am_prog w) d 106 [.ref 1, .int 0, .int 2] h (fun r h' => r = some (.int (mrr0 2 (I, Q, Z)).1) ∧ CA w 32 m0 (B + 1612) h' (mrr0 2 (I, Q, Z)).2) := by
  obtain ⟨X, ow, sb, hS, hD, hB, hQ⟩ := hC
  change sm tbc h I X at hS
  change CD w 32 m0 h I Q Z X ow sb at hD
  change co h I ≤ B at hB
  change ∀ l, l < 16 → (Q l).length ≤ h.length at hQ
  have hW := hD.1.1
  have hWn : ∀ a, List.length h ≤ a → w a = true := fun a ha => (hD.1.2.1 a ha).1
  have hF1 := fr_refl tbc h
  have hln : 62 ≤ List.length h := sm_len hS
  have hB3 : B < 2 ^ 24 := hB2
  obtain ⟨d, rfl⟩ : ∃ e, d = e + 1 := ⟨d - 1, by omega⟩
  refine ev_go rfl (Nat.le_of_ble_eq_true rfl) rfl ?_
  refine go_s (pc' := 1) rfl rfl rfl rfl ?_
  refine go_s (pc' := 2) rfl rfl rfl rfl ?_
  refine go_callS (pc' := 3) rfl rfl rfl (Nat.le_of_ble_eq_true rfl) rfl rfl rfl (ct_ip_0_2 (by omega)) (fun r h2 q3 => ?_)
  obtain ⟨rfl, rfl⟩ := q3
  refine go_ifP (t' := 9) (pc' := 4) rfl rfl rfl (fun (c : (1 : Int32) = 0) => absurd c (by decide)) (fun _ => ?_)
  refine go_s (pc' := 5) rfl rfl rfl rfl ?_
  refine go_s (pc' := 6) rfl rfl rfl rfl ?_
  refine go_s (pc' := 7) rfl rfl rfl rfl ?_
  refine go_callV (pc' := 8) rfl rfl rfl (Nat.le_of_ble_eq_true rfl) rfl (sm_o hS rfl) rfl rfl rfl (ct_iu_0_2 hS hbl (by omega)) (fun r h4 q5 => ?_)
  obtain ⟨rfl, rfl⟩ := q5
  refine go_ifP (t' := 11) (pc' := 9) rfl rfl rfl (fun (c6 : (I 0 2) = 0) => ?_) (fun (c6 : ¬ (I 0 2) = 0) => ?_)
  · skip
    refine go_s (pc' := 12) rfl rfl rfl rfl ?_
    refine go_ifP (t' := 28) (pc' := 13) rfl rfl rfl (fun (c : ¬ (0 : Int32) = 0) => absurd c (by decide)) (fun _ => ?_)
    refine go_s (pc' := 14) rfl rfl rfl rfl ?_
    refine go_sget (pc' := 15) (v := .ref 2) hS rfl rfl rfl (by decide) rfl rfl ?_
    refine go_sget (pc' := 16) (v := .ref 4) hS rfl rfl rfl (by decide) rfl rfl ?_
    refine go_s (pc' := 17) rfl rfl rfl rfl ?_
    refine go_sald (pc' := 18) (q := 2) (v := .int (I 1 2)) hS rfl rfl rfl rfl (by decide) rfl rfl ?_
    refine go_ifP (t' := 24) (pc' := 19) rfl rfl rfl (fun (c7 : ¬ (I 1 2) = 0) => ?_) (fun (c7' : ¬ ¬ (I 1 2) = 0) => ?_)
    · skip
      refine go_s (pc' := 25) rfl rfl rfl rfl ?_
      refine go_s (pc' := 26) rfl rfl rfl rfl ?_
      have hN9 : ∀ k, k < 3 → ¬ I 11 k = nI 2 := by
        have z := hN c6
        rw [if_neg c7] at z
        exact z
      have hC8 : CA w 32 m0 B h4 (I, Q, Z) := ⟨X, ow, sb, hS, hD, hB, hQ⟩
      refine go_callV (pc' := 27) rfl rfl rfl (Nat.le_of_ble_eq_true rfl) rfl (sm_o hS rfl) rfl rfl rfl (cm_spr_2 hC8 (by omega) hN9 (by omega)) (fun r h9 q10 => ?_)
      obtain ⟨rfl, hC11⟩ := q10
      change CA w 32 m0 (B + 1032) h9 (mspr 2 (I, Q, Z)) at hC11
      obtain ⟨M12, eM12⟩ : ∃ y : mM, y = (mspr 2 (I, Q, Z)) := ⟨_, rfl⟩
      rw [← eM12] at hC11
      obtain ⟨I12, Q12, Z12⟩ := M12
      obtain ⟨X13, ow13, sb13, hS13, hD13, hB13, hQ13⟩ := hC11
      have hW := hD13.1.1
      have hWn : ∀ a, List.length h9 ≤ a → w a = true := fun a ha => (hD13.1.2.1 a ha).1
      have hF14 := fr_refl tbc h9
      have hln : 62 ≤ List.length h9 := sm_len hS13
      change CD w 32 m0 h9 I12 Q12 Z12 X13 ow13 sb13 at hD13
      change sm tbc h9 I12 X13 at hS13
      change co h9 I12 ≤ (B + 1032) at hB13
      change ∀ l, l < 16 → (Q12 l).length ≤ List.length h9 at hQ13
      have hW := hD13.1.1
      have hWn : ∀ a, List.length h9 ≤ a → w a = true := fun a ha => (hD13.1.2.1 a ha).1
      have hF15 := fr_refl tbc h9
      have hln : 62 ≤ List.length h9 := sm_len hS13
      refine go_s (pc' := 42) rfl rfl rfl rfl ?_
      refine go_s (pc' := 43) (st' := [.int 1]) rfl rfl rfl rfl ?_
      refine go_ret rfl rfl ?_
      have hms : mrr0 2 (I, Q, Z) = (1, (I12, Q12, Z12)) := by
        unfold mrr0
        rw [if_pos (show I 0 2 = 0 from c6), if_neg (show ¬ I 1 2 = 0 from c7), ← eM12]
      have hC16 : CA w 32 m0 (B + 1032) h9 (I12, Q12, Z12) := ⟨X13, ow13, sb13, hS13, hD13, hB13, hQ13⟩
      rw [hms]
      exact ⟨rfl, CA_le hC16 (by omega)⟩
    · skip
      have c7 : (I 1 2) = 0 := Decidable.not_not.mp c7'
      refine go_s (pc' := 20) rfl rfl rfl rfl ?_
      refine go_s (pc' := 21) rfl rfl rfl rfl ?_
      have hC17 : CA w 32 m0 B h4 (I, Q, Z) := ⟨X, ow, sb, hS, hD, hB, hQ⟩
      refine go_callV (pc' := 22) rfl rfl rfl (Nat.le_of_ble_eq_true rfl) rfl (sm_o hS rfl) rfl rfl rfl (cm_dc_2 hC17 (by omega) (hH c6 c7) (by omega)) (fun r h18 q19 => ?_)
      obtain ⟨rfl, hC20⟩ := q19
      change CA w 32 m0 (B + 180) h18 (mdc 2 (I, Q, Z)) at hC20
      obtain ⟨M21, eM21⟩ : ∃ y : mM, y = (mdc 2 (I, Q, Z)) := ⟨_, rfl⟩
      rw [← eM21] at hC20
      obtain ⟨I21, Q21, Z21⟩ := M21
      obtain ⟨X22, ow22, sb22, hS22, hD22, hB22, hQ22⟩ := hC20
      have hW := hD22.1.1
      have hWn : ∀ a, List.length h18 ≤ a → w a = true := fun a ha => (hD22.1.2.1 a ha).1
      have hF23 := fr_refl tbc h18
      have hln : 62 ≤ List.length h18 := sm_len hS22
      change CD w 32 m0 h18 I21 Q21 Z21 X22 ow22 sb22 at hD22
      change sm tbc h18 I21 X22 at hS22
      change co h18 I21 ≤ (B + 180) at hB22
      change ∀ l, l < 16 → (Q21 l).length ≤ List.length h18 at hQ22
      have hW := hD22.1.1
      have hWn : ∀ a, List.length h18 ≤ a → w a = true := fun a ha => (hD22.1.2.1 a ha).1
      have hF24 := fr_refl tbc h18
      have hln : 62 ≤ List.length h18 := sm_len hS22
      refine go_s (pc' := 23) rfl rfl rfl rfl ?_
      have hI9 : SI (I21, Q21, Z21) := by rw [eM21]; exact hsi c6 c7
      have hC25 : CA w 32 m0 (B + 180) h18 (I21, Q21, Z21) := ⟨X22, ow22, sb22, hS22, hD22, hB22, hQ22⟩
      refine go_callV (pc' := 24) rfl rfl rfl (Nat.le_of_ble_eq_true rfl) rfl (sm_o hS22 rfl) rfl rfl rfl (cm_run hC25 (by omega) hI9 (by omega)) (fun r h26 q27 => ?_)
      obtain ⟨rfl, hC28⟩ := q27
      change CA w 32 m0 ((B + 180) + 400) h26 (mset 10 (I21, Q21, Z21)) at hC28
      obtain ⟨M29, eM29⟩ : ∃ y : mM, y = (mset 10 (I21, Q21, Z21)) := ⟨_, rfl⟩
      rw [← eM29] at hC28
      obtain ⟨I29, Q29, Z29⟩ := M29
      obtain ⟨X30, ow30, sb30, hS30, hD30, hB30, hQ30⟩ := hC28
      have hW := hD30.1.1
      have hWn : ∀ a, List.length h26 ≤ a → w a = true := fun a ha => (hD30.1.2.1 a ha).1
      have hF31 := fr_refl tbc h26
      have hln : 62 ≤ List.length h26 := sm_len hS30
      change CD w 32 m0 h26 I29 Q29 Z29 X30 ow30 sb30 at hD30
      change sm tbc h26 I29 X30 at hS30
      change co h26 I29 ≤ ((B + 180) + 400) at hB30
      change ∀ l, l < 16 → (Q29 l).length ≤ List.length h26 at hQ30
      have hW := hD30.1.1
      have hWn : ∀ a, List.length h26 ≤ a → w a = true := fun a ha => (hD30.1.2.1 a ha).1
      have hF32 := fr_refl tbc h26
      have hln : 62 ≤ List.length h26 := sm_len hS30
      refine go_s (pc' := 25) rfl rfl rfl rfl ?_
      refine go_s (pc' := 26) rfl rfl rfl rfl ?_
      have hN9 : ∀ k, k < 3 → ¬ I29 11 k = nI 2 := by
        have z := hN c6
        rw [if_pos c7] at z
        rw [← eM21, ← eM29] at z
        exact z
      have hC33 : CA w 32 m0 ((B + 180) + 400) h26 (I29, Q29, Z29) := ⟨X30, ow30, sb30, hS30, hD30, hB30, hQ30⟩
      refine go_callV (pc' := 27) rfl rfl rfl (Nat.le_of_ble_eq_true rfl) rfl (sm_o hS30 rfl) rfl rfl rfl (cm_spr_2 hC33 (by omega) hN9 (by omega)) (fun r h34 q35 => ?_)
      obtain ⟨rfl, hC36⟩ := q35
      change CA w 32 m0 (((B + 180) + 400) + 1032) h34 (mspr 2 (I29, Q29, Z29)) at hC36
      obtain ⟨M37, eM37⟩ : ∃ y : mM, y = (mspr 2 (I29, Q29, Z29)) := ⟨_, rfl⟩
      rw [← eM37] at hC36
      obtain ⟨I37, Q37, Z37⟩ := M37
      obtain ⟨X38, ow38, sb38, hS38, hD38, hB38, hQ38⟩ := hC36
      have hW := hD38.1.1
      have hWn : ∀ a, List.length h34 ≤ a → w a = true := fun a ha => (hD38.1.2.1 a ha).1
      have hF39 := fr_refl tbc h34
      have hln : 62 ≤ List.length h34 := sm_len hS38
      change CD w 32 m0 h34 I37 Q37 Z37 X38 ow38 sb38 at hD38
      change sm tbc h34 I37 X38 at hS38
      change co h34 I37 ≤ (((B + 180) + 400) + 1032) at hB38
      change ∀ l, l < 16 → (Q37 l).length ≤ List.length h34 at hQ38
      have hW := hD38.1.1
      have hWn : ∀ a, List.length h34 ≤ a → w a = true := fun a ha => (hD38.1.2.1 a ha).1
      have hF40 := fr_refl tbc h34
      have hln : 62 ≤ List.length h34 := sm_len hS38
      refine go_s (pc' := 42) rfl rfl rfl rfl ?_
      refine go_s (pc' := 43) (st' := [.int 1]) rfl rfl rfl rfl ?_
      refine go_ret rfl rfl ?_
      have hms : mrr0 2 (I, Q, Z) = (1, (I37, Q37, Z37)) := by
        unfold mrr0
        rw [if_pos (show I 0 2 = 0 from c6), if_pos (show I 1 2 = 0 from c7), ← eM21, ← eM29, ← eM37]
      have hC41 : CA w 32 m0 (((B + 180) + 400) + 1032) h34 (I37, Q37, Z37) := ⟨X38, ow38, sb38, hS38, hD38, hB38, hQ38⟩
      rw [hms]
      exact ⟨rfl, CA_le hC41 (by omega)⟩
  · skip
    refine go_s (pc' := 10) (st' := [.int 0]) rfl rfl rfl rfl ?_
    refine go_ret rfl rfl ?_
    have hms : mrr0 2 (I, Q, Z) = (0, (I, Q, Z)) := if_neg c6
    rw [hms]
    exact ⟨rfl, X, ow, sb, hS, hD, Nat.le_trans hB (by omega), hQ⟩
theorem ca_rr_0_3 {w : Nat → Bool} {d : Nat} {h : am_Hp} {m0 : mg} {B : Nat} {I : sm_I} {Q : mQ} {Z : mZ} (hC : CA w 32 m0 B h (I, Q, Z)) (hB2 : B < 2 ^ 24) (hbl : I 0 3 = 0 ∨ I 0 3 = 1) (hH : I 0 3 = 0 → I 1 3 = 0 → DCH3 (I, Q, Z)) (hsi : I 0 3 = 0 → I 1 3 = 0 → SI (mdc 3 (I, Q, Z))) (hN : I 0 3 = 0 → ∀ k, k < 3 → ¬ (if I 1 3 = 0 then mset 10 (mdc 3 (I, Q, Z)) else (I, Q, Z)).1 11 k = nI 3) (hd : 8 ≤ d) : am_Ev (am_prog w) d 106 [.ref 1, .int 0, .int 3] h (fun r h' => r = some (.int (mrr0 3 (I, Q, Z)).1) ∧ CA w 32 m0 (B + 1612) h' (mrr0 3 (I, Q, Z)).2) := by
  obtain ⟨X, ow, sb, hS, hD, hB, hQ⟩ := hC
  change sm tbc h I X at hS
  change CD w 32 m0 h I Q Z X ow sb at hD
  change co h I ≤ B at hB
  change ∀ l, l < 16 → (Q l).length ≤ h.length at hQ
  have hW := hD.1.1
  have hWn : ∀ a, List.length h ≤ a → w a = true := fun a ha => (hD.1.2.1 a ha).1
  have hF1 := fr_refl tbc h
  have hln : 62 ≤ List.length h := sm_len hS
  have hB3 : B < 2 ^ 24 := hB2
  obtain ⟨d, rfl⟩ : ∃ e, d = e + 1 := ⟨d - 1, by omega⟩
  refine ev_go rfl (Nat.le_of_ble_eq_true rfl) rfl ?_
  refine go_s (pc' := 1) rfl rfl rfl rfl ?_
  refine go_s (pc' := 2) rfl rfl rfl rfl ?_
  refine go_callS (pc' := 3) rfl rfl rfl (Nat.le_of_ble_eq_true rfl) rfl rfl rfl (ct_ip_0_3 (by omega)) (fun r h2 q3 => ?_)
  obtain ⟨rfl, rfl⟩ := q3
  refine go_ifP (t' := 9) (pc' := 4) rfl rfl rfl (fun (c : (1 : Int32) = 0) => absurd c (by decide)) (fun _ => ?_)
  refine go_s (pc' := 5) rfl rfl rfl rfl ?_
  refine go_s (pc' := 6) rfl rfl rfl rfl ?_
  refine go_s (pc' := 7) rfl rfl rfl rfl ?_
  refine go_callV (pc' := 8) rfl rfl rfl (Nat.le_of_ble_eq_true rfl) rfl (sm_o hS rfl) rfl rfl rfl (ct_iu_0_3 hS hbl (by omega)) (fun r h4 q5 => ?_)
  obtain ⟨rfl, rfl⟩ := q5
  refine go_ifP (t' := 11) (pc' := 9) rfl rfl rfl (fun (c6 : (I 0 3) = 0) => ?_) (fun (c6 : ¬ (I 0 3) = 0) => ?_)
  · skip
    refine go_s (pc' := 12) rfl rfl rfl rfl ?_
    refine go_ifP (t' := 28) (pc' := 13) rfl rfl rfl (fun (c : ¬ (0 : Int32) = 0) => absurd c (by decide)) (fun _ => ?_)
    refine go_s (pc' := 14) rfl rfl rfl rfl ?_
    refine go_sget (pc' := 15) (v := .ref 2) hS rfl rfl rfl (by decide) rfl rfl ?_
    refine go_sget (pc' := 16) (v := .ref 4) hS rfl rfl rfl (by decide) rfl rfl ?_
    refine go_s (pc' := 17) rfl rfl rfl rfl ?_
    refine go_sald (pc' := 18) (q := 3) (v := .int (I 1 3)) hS rfl rfl rfl rfl (by decide) rfl rfl ?_
    refine go_ifP (t' := 24) (pc' := 19) rfl rfl rfl (fun (c7 : ¬ (I 1 3) = 0) => ?_) (fun (c7' : ¬ ¬ (I 1 3) = 0) => ?_)
    · skip
      refine go_s (pc' := 25) rfl rfl rfl rfl ?_
      refine go_s (pc' := 26) rfl rfl rfl rfl ?_
      have hN9 : ∀ k, k < 3 → ¬ I 11 k = nI 3 := by
        have z := hN c6
        rw [if_neg c7] at z
        exact z
      have hC8 : CA w 32 m0 B h4 (I, Q, Z) := ⟨X, ow, sb, hS, hD, hB, hQ⟩
      refine go_callV (pc' := 27) rfl rfl rfl (Nat.le_of_ble_eq_true rfl) rfl (sm_o hS rfl) rfl rfl rfl (cm_spr_3 hC8 (by omega) hN9 (by omega)) (fun r h9 q10 => ?_)
      obtain ⟨rfl, hC11⟩ := q10
      change CA w 32 m0 (B + 1032) h9 (mspr 3 (I, Q, Z)) at hC11
      obtain ⟨M12, eM12⟩ : ∃ y : mM, y = (mspr 3 (I, Q, Z)) := ⟨_, rfl⟩
      rw [← eM12] at hC11
      obtain ⟨I12, Q12, Z12⟩ := M12
      obtain ⟨X13, ow13, sb13, hS13, hD13, hB13, hQ13⟩ := hC11
      have hW := hD13.1.1
      have hWn : ∀ a, List.length h9 ≤ a → w a = true := fun a ha => (hD13.1.2.1 a ha).1
      have hF14 := fr_refl tbc h9
      have hln : 62 ≤ List.length h9 := sm_len hS13
      change CD w 32 m0 h9 I12 Q12 Z12 X13 ow13 sb13 at hD13
      change sm tbc h9 I12 X13 at hS13
      change co h9 I12 ≤ (B + 1032) at hB13
      change ∀ l, l < 16 → (Q12 l).length ≤ List.length h9 at hQ13
      have hW := hD13.1.1
      have hWn : ∀ a, List.length h9 ≤ a → w a = true := fun a ha => (hD13.1.2.1 a ha).1
      have hF15 := fr_refl tbc h9
      have hln : 62 ≤ List.length h9 := sm_len hS13
      refine go_s (pc' := 42) rfl rfl rfl rfl ?_
      refine go_s (pc' := 43) (st' := [.int 1]) rfl rfl rfl rfl ?_
      refine go_ret rfl rfl ?_
      have hms : mrr0 3 (I, Q, Z) = (1, (I12, Q12, Z12)) := by
        unfold mrr0
        rw [if_pos (show I 0 3 = 0 from c6), if_neg (show ¬ I 1 3 = 0 from c7), ← eM12]
      have hC16 : CA w 32 m0 (B + 1032) h9 (I12, Q12, Z12) := ⟨X13, ow13, sb13, hS13, hD13, hB13, hQ13⟩
      rw [hms]
      exact ⟨rfl, CA_le hC16 (by omega)⟩
    · skip
      have c7 : (I 1 3) = 0 := Decidable.not_not.mp c7'
      refine go_s (pc' := 20) rfl rfl rfl rfl ?_
      refine go_s (pc' := 21) rfl rfl rfl rfl ?_
      have hC17 : CA w 32 m0 B h4 (I, Q, Z) := ⟨X, ow, sb, hS, hD, hB, hQ⟩
      refine go_callV (pc' := 22) rfl rfl rfl (Nat.le_of_ble_eq_true rfl) rfl (sm_o hS rfl) rfl rfl rfl (cm_dc_3 hC17 (by omega) (hH c6 c7) (by omega)) (fun r h18 q19 => ?_)
      obtain ⟨rfl, hC20⟩ := q19
      change CA w 32 m0 (B + 180) h18 (mdc 3 (I, Q, Z)) at hC20
      obtain ⟨M21, eM21⟩ : ∃ y : mM, y = (mdc 3 (I, Q, Z)) := ⟨_, rfl⟩
      rw [← eM21] at hC20
      obtain ⟨I21, Q21, Z21⟩ := M21
      obtain ⟨X22, ow22, sb22, hS22, hD22, hB22, hQ22⟩ := hC20
      have hW := hD22.1.1
      have hWn : ∀ a, List.length h18 ≤ a → w a = true := fun a ha => (hD22.1.2.1 a ha).1
      have hF23 := fr_refl tbc h18
      have hln : 62 ≤ List.length h18 := sm_len hS22
      change CD w 32 m0 h18 I21 Q21 Z21 X22 ow22 sb22 at hD22
      change sm tbc h18 I21 X22 at hS22
      change co h18 I21 ≤ (B + 180) at hB22
      change ∀ l, l < 16 → (Q21 l).length ≤ List.length h18 at hQ22
      have hW := hD22.1.1
      have hWn : ∀ a, List.length h18 ≤ a → w a = true := fun a ha => (hD22.1.2.1 a ha).1
      have hF24 := fr_refl tbc h18
      have hln : 62 ≤ List.length h18 := sm_len hS22
      refine go_s (pc' := 23) rfl rfl rfl rfl ?_
      have hI9 : SI (I21, Q21, Z21) := by rw [eM21]; exact hsi c6 c7
      have hC25 : CA w 32 m0 (B + 180) h18 (I21, Q21, Z21) := ⟨X22, ow22, sb22, hS22, hD22, hB22, hQ22⟩
      refine go_callV (pc' := 24) rfl rfl rfl (Nat.le_of_ble_eq_true rfl) rfl (sm_o hS22 rfl) rfl rfl rfl (cm_run hC25 (by omega) hI9 (by omega)) (fun r h26 q27 => ?_)
      obtain ⟨rfl, hC28⟩ := q27
      change CA w 32 m0 ((B + 180) + 400) h26 (mset 10 (I21, Q21, Z21)) at hC28
      obtain ⟨M29, eM29⟩ : ∃ y : mM, y = (mset 10 (I21, Q21, Z21)) := ⟨_, rfl⟩
      rw [← eM29] at hC28
      obtain ⟨I29, Q29, Z29⟩ := M29
      obtain ⟨X30, ow30, sb30, hS30, hD30, hB30, hQ30⟩ := hC28
      have hW := hD30.1.1
      have hWn : ∀ a, List.length h26 ≤ a → w a = true := fun a ha => (hD30.1.2.1 a ha).1
      have hF31 := fr_refl tbc h26
      have hln : 62 ≤ List.length h26 := sm_len hS30
      change CD w 32 m0 h26 I29 Q29 Z29 X30 ow30 sb30 at hD30
      change sm tbc h26 I29 X30 at hS30
      change co h26 I29 ≤ ((B + 180) + 400) at hB30
      change ∀ l, l < 16 → (Q29 l).length ≤ List.length h26 at hQ30
      have hW := hD30.1.1
      have hWn : ∀ a, List.length h26 ≤ a → w a = true := fun a ha => (hD30.1.2.1 a ha).1
      have hF32 := fr_refl tbc h26
      have hln : 62 ≤ List.length h26 := sm_len hS30
      refine go_s (pc' := 25) rfl rfl rfl rfl ?_
      refine go_s (pc' := 26) rfl rfl rfl rfl ?_
      have hN9 : ∀ k, k < 3 → ¬ I29 11 k = nI 3 := by
        have z := hN c6
        rw [if_pos c7] at z
        rw [← eM21, ← eM29] at z
        exact z
      have hC33 : CA w 32 m0 ((B + 180) + 400) h26 (I29, Q29, Z29) := ⟨X30, ow30, sb30, hS30, hD30, hB30, hQ30⟩
      refine go_callV (pc' := 27) rfl rfl rfl (Nat.le_of_ble_eq_true rfl) rfl (sm_o hS30 rfl) rfl rfl rfl (cm_spr_3 hC33 (by omega) hN9 (by omega)) (fun r h34 q35 => ?_)
      obtain ⟨rfl, hC36⟩ := q35
      change CA w 32 m0 (((B + 180) + 400) + 1032) h34 (mspr 3 (I29, Q29, Z29)) at hC36
      obtain ⟨M37, eM37⟩ : ∃ y : mM, y = (mspr 3 (I29, Q29, Z29)) := ⟨_, rfl⟩
      rw [← eM37] at hC36
      obtain ⟨I37, Q37, Z37⟩ := M37
      obtain ⟨X38, ow38, sb38, hS38, hD38, hB38, hQ38⟩ := hC36
      have hW := hD38.1.1
      have hWn : ∀ a, List.length h34 ≤ a → w a = true := fun a ha => (hD38.1.2.1 a ha).1
      have hF39 := fr_refl tbc h34
      have hln : 62 ≤ List.length h34 := sm_len hS38
      change CD w 32 m0 h34 I37 Q37 Z37 X38 ow38 sb38 at hD38
      change sm tbc h34 I37 X38 at hS38
      change co h34 I37 ≤ (((B + 180) + 400) + 1032) at hB38
      change ∀ l, l < 16 → (Q37 l).length ≤ List.length h34 at hQ38
      have hW := hD38.1.1
      have hWn : ∀ a, List.length h34 ≤ a → w a = true := fun a ha => (hD38.1.2.1 a ha).1
      have hF40 := fr_refl tbc h34
      have hln : 62 ≤ List.length h34 := sm_len hS38
      refine go_s (pc' := 42) rfl rfl rfl rfl ?_
      refine go_s (pc' := 43) (st' := [.int 1]) rfl rfl rfl rfl ?_
      refine go_ret rfl rfl ?_
      have hms : mrr0 3 (I, Q, Z) = (1, (I37, Q37, Z37)) := by
        unfold mrr0
        rw [if_pos (show I 0 3 = 0 from c6), if_pos (show I 1 3 = 0 from c7), ← eM21, ← eM29, ← eM37]
      have hC41 : CA w 32 m0 (((B + 180) + 400) + 1032) h34 (I37, Q37, Z37) := ⟨X38, ow38, sb38, hS38, hD38, hB38, hQ38⟩
      rw [hms]
      exact ⟨rfl, CA_le hC41 (by omega)⟩
  · skip
    refine go_s (pc' := 10) (st' := [.int 0]) rfl rfl rfl rfl ?_
    refine go_ret rfl rfl ?_
    have hms : mrr0 3 (I, Q, Z) = (0, (I, Q, Z)) := if_neg c6
    rw [hms]
    exact ⟨rfl, X, ow, sb, hS, hD, Nat.le_trans hB (by omega), hQ⟩
