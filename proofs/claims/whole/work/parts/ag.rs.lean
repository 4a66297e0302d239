theorem ct_ba_0 {w : Nat → Bool} {d : Nat} {h : am_Hp} {I : sm_I} {X : sm_X} (hS : sm tbc h I X) (hW : ∀ a, (tbc a).isSome = true → w a = true) (hd : 1 ≤ d) : am_Ev (am_prog w) d 71 [.ref 59] h (fun r h' => r = none ∧ sm tbc h' (uI I 17 0 (I 17 0 + 1)) (uX (uX (uX X 211 0 .null) 212 0 .null) 215 0 .null) ∧ sm_e tbc h h') := by
  obtain ⟨d, rfl⟩ : ∃ e, d = e + 1 := ⟨d - 1, by omega⟩
  refine ev_go rfl (Nat.le_of_ble_eq_true rfl) rfl ?_
  refine go_s (pc' := 1) rfl rfl rfl rfl ?_
  refine go_s (pc' := 2) rfl rfl rfl rfl ?_
  refine go_sget (pc' := 3) (v := .int (I 17 0)) hS rfl rfl rfl (by decide) rfl rfl ?_
  refine go_s (pc' := 4) (st' := [.int 1, .int (I 17 0), .ref 59]) rfl rfl rfl rfl ?_
  refine go_s (pc' := 5) rfl rfl rfl rfl ?_
  refine go_sput (pc' := 6) hS rfl rfl rfl (by decide) tbc_inj (Nat.le_of_ble_eq_true rfl) rfl (hW _ rfl) rfl (fun h1 hS2 hE3 => ?_)
  refine go_s (pc' := 7) rfl rfl rfl rfl ?_
  refine go_s (pc' := 8) rfl rfl rfl rfl ?_
  refine go_sputX (pc' := 9) hS2 rfl rfl rfl (by decide) tbc_inj (Nat.le_of_ble_eq_true rfl) (Nat.le_of_ble_eq_true rfl) rfl (hW _ rfl) rfl (fun h4 hS5 hE6 => ?_)
  have hE7 := sm_e_trans hE3 hE6
  refine go_s (pc' := 10) rfl rfl rfl rfl ?_
  refine go_s (pc' := 11) rfl rfl rfl rfl ?_
  refine go_sputX (pc' := 12) hS5 rfl rfl rfl (by decide) tbc_inj (Nat.le_of_ble_eq_true rfl) (Nat.le_of_ble_eq_true rfl) rfl (hW _ rfl) rfl (fun h8 hS9 hE10 => ?_)
  have hE11 := sm_e_trans hE7 hE10
  refine go_s (pc' := 13) rfl rfl rfl rfl ?_
  refine go_s (pc' := 14) rfl rfl rfl rfl ?_
  refine go_sputX (pc' := 15) hS9 rfl rfl rfl (by decide) tbc_inj (Nat.le_of_ble_eq_true rfl) (Nat.le_of_ble_eq_true rfl) rfl (hW _ rfl) rfl (fun h12 hS13 hE14 => ?_)
  have hE15 := sm_e_trans hE11 hE14
  refine go_ret rfl rfl ?_
  exact ⟨rfl, hS13, hE15⟩
theorem ct_ba_1 {w : Nat → Bool} {d : Nat} {h : am_Hp} {I : sm_I} {X : sm_X} (hS : sm tbc h I X) (hW : ∀ a, (tbc a).isSome = true → w a = true) (hd : 1 ≤ d) : am_Ev (am_prog w) d 71 [.ref 60] h (fun r h' => r = none ∧ sm tbc h' (uI I 17 1 (I 17 1 + 1)) (uX (uX (uX X 211 1 .null) 212 1 .null) 215 1 .null) ∧ sm_e tbc h h') := by
  obtain ⟨d, rfl⟩ : ∃ e, d = e + 1 := ⟨d - 1, by omega⟩
  refine ev_go rfl (Nat.le_of_ble_eq_true rfl) rfl ?_
  refine go_s (pc' := 1) rfl rfl rfl rfl ?_
  refine go_s (pc' := 2) rfl rfl rfl rfl ?_
  refine go_sget (pc' := 3) (v := .int (I 17 1)) hS rfl rfl rfl (by decide) rfl rfl ?_
  refine go_s (pc' := 4) (st' := [.int 1, .int (I 17 1), .ref 60]) rfl rfl rfl rfl ?_
  refine go_s (pc' := 5) rfl rfl rfl rfl ?_
  refine go_sput (pc' := 6) hS rfl rfl rfl (by decide) tbc_inj (Nat.le_of_ble_eq_true rfl) rfl (hW _ rfl) rfl (fun h1 hS2 hE3 => ?_)
  refine go_s (pc' := 7) rfl rfl rfl rfl ?_
  refine go_s (pc' := 8) rfl rfl rfl rfl ?_
  refine go_sputX (pc' := 9) hS2 rfl rfl rfl (by decide) tbc_inj (Nat.le_of_ble_eq_true rfl) (Nat.le_of_ble_eq_true rfl) rfl (hW _ rfl) rfl (fun h4 hS5 hE6 => ?_)
  have hE7 := sm_e_trans hE3 hE6
  refine go_s (pc' := 10) rfl rfl rfl rfl ?_
  refine go_s (pc' := 11) rfl rfl rfl rfl ?_
  refine go_sputX (pc' := 12) hS5 rfl rfl rfl (by decide) tbc_inj (Nat.le_of_ble_eq_true rfl) (Nat.le_of_ble_eq_true rfl) rfl (hW _ rfl) rfl (fun h8 hS9 hE10 => ?_)
  have hE11 := sm_e_trans hE7 hE10
  refine go_s (pc' := 13) rfl rfl rfl rfl ?_
  refine go_s (pc' := 14) rfl rfl rfl rfl ?_
  refine go_sputX (pc' := 15) hS9 rfl rfl rfl (by decide) tbc_inj (Nat.le_of_ble_eq_true rfl) (Nat.le_of_ble_eq_true rfl) rfl (hW _ rfl) rfl (fun h12 hS13 hE14 => ?_)
  have hE15 := sm_e_trans hE11 hE14
  refine go_ret rfl rfl ?_
  exact ⟨rfl, hS13, hE15⟩
theorem cm_rst_1 {w : Nat → Bool} {d : Nat} {h : am_Hp} {m0 : mg} {B : Nat} {I : sm_I} {Q : mQ} {Z : mZ} (hC : CA w 32 m0 B h (I, Q, Z)) (hB2 : B < 2 ^ 25) (e0 : I 11 1 = -1) (hinc : ¬ I 17 0 + 1 = 0) (hd : 6 ≤ d) : am_Ev (am_prog w) d 69 [.ref 1, .ref 59] h (fun r h' => r = none ∧ CA w 32 m0 (B + 20) h' (mrst 1 (I, Q, Z))) := by
  obtain ⟨X, ow, sb, hS, hD, hB, hQ⟩ := hC
  change sm tbc h I X at hS
  change CD w 32 m0 h I Q Z X ow sb at hD
  change co h I ≤ B at hB
  change ∀ l, l < 16 → (Q l).length ≤ h.length at hQ
  have hW := hD.1.1
  have hWn : ∀ a, List.length h ≤ a → w a = true := fun a ha => (hD.1.2.1 a ha).1
  have hF1 := fr_refl tbc h
  have hln : 62 ≤ List.length h := sm_len hS
  obtain ⟨d, rfl⟩ : ∃ e, d = e + 1 := ⟨d - 1, by omega⟩
  refine ev_go rfl (Nat.le_of_ble_eq_true rfl) rfl ?_
  by_cases u1 : I 0 2 = 0
  · skip
    by_cases u2 : I 0 3 = 0
    · skip
      have hfu : fup I 2 = -1 := by simp [fup, u1, u2]
      refine go_s (pc' := 1) rfl rfl rfl rfl ?_
      refine go_sget (pc' := 2) (v := .ref 2) hS rfl rfl rfl (by decide) rfl rfl ?_
      refine go_s (pc' := 3) rfl rfl rfl rfl ?_
      refine go_sget (pc' := 4) (v := .int 2) hS rfl rfl rfl (by decide) rfl rfl ?_
      refine go_callV (pc' := 5) rfl rfl rfl (Nat.le_of_ble_eq_true rfl) rfl (sm_o hS rfl) rfl rfl rfl (ct_fup_2 hS (by omega)) (fun r h2 q3 => ?_)
      obtain ⟨rfl, rfl⟩ := q3
      rw [hfu]
      refine go_s (pc' := 6) (lo' := [some (.ref 1), some (.ref 59), some (.int (-1)), none]) rfl rfl rfl rfl ?_
      refine go_s (pc' := 7) rfl rfl rfl rfl ?_
      refine go_s (pc' := 8) (st' := [.int (-1), .int (-1)]) rfl rfl rfl rfl ?_
      refine go_icmpP (t' := 10) (pc' := 9) rfl rfl rfl (fun (c : ¬ ((-1) : Int32) = (-1)) => absurd c (by decide)) (fun _ => ?_)
      refine go_ret rfl rfl ?_
      have hms : mrst 1 (I, Q, Z) = (I, Q, Z) := if_pos (Or.inr (Or.inl hfu))
      rw [hms]
      exact ⟨rfl, X, ow, sb, hS, hD, Nat.le_trans hB (by omega), hQ⟩
    · skip
      have hfu : fup I 2 = 3 := by simp [fup, u1, u2] <;> rfl
      refine go_s (pc' := 1) rfl rfl rfl rfl ?_
      refine go_sget (pc' := 2) (v := .ref 2) hS rfl rfl rfl (by decide) rfl rfl ?_
      refine go_s (pc' := 3) rfl rfl rfl rfl ?_
      refine go_sget (pc' := 4) (v := .int 2) hS rfl rfl rfl (by decide) rfl rfl ?_
      refine go_callV (pc' := 5) rfl rfl rfl (Nat.le_of_ble_eq_true rfl) rfl (sm_o hS rfl) rfl rfl rfl (ct_fup_2 hS (by omega)) (fun r h4 q5 => ?_)
      obtain ⟨rfl, rfl⟩ := q5
      rw [hfu]
      refine go_s (pc' := 6) (lo' := [some (.ref 1), some (.ref 59), some (.int 3), none]) rfl rfl rfl rfl ?_
      refine go_s (pc' := 7) rfl rfl rfl rfl ?_
      refine go_s (pc' := 8) (st' := [.int (-1), .int 3]) rfl rfl rfl rfl ?_
      refine go_icmpP (t' := 10) (pc' := 9) rfl rfl rfl (fun _ => ?_) (fun (c : ¬ (¬ (3 : Int32) = (-1))) => absurd (by decide) c)
      refine go_s (pc' := 11) rfl rfl rfl rfl ?_
      refine go_instT (pc' := 12) rfl (sm_o hS rfl) rfl (by decide) rfl ?_
      refine go_ifP (t' := 19) (pc' := 13) rfl rfl rfl (fun (c : (1 : Int32) = 0) => absurd c (by decide)) (fun _ => ?_)
      refine go_s (pc' := 14) rfl rfl rfl rfl ?_
      refine go_castO (pc' := 15) rfl (sm_o hS rfl) rfl (by decide) rfl ?_
      refine go_s (pc' := 16) (lo' := [some (.ref 1), some (.ref 59), some (.int 3), some (.ref 59)]) rfl rfl rfl rfl ?_
      refine go_s (pc' := 17) rfl rfl rfl rfl ?_
      refine go_callV (pc' := 18) rfl rfl rfl (Nat.le_of_ble_eq_true rfl) rfl (sm_o hS rfl) rfl rfl rfl (ct_ba_0 hS hW (by omega)) (fun r h6 q7 => ?_)
      obtain ⟨rfl, hS8, hE9⟩ := q7
      have hF10 := fr_trans hF1 (fr_e hE9)
      refine go_s (pc' := 23) rfl rfl rfl rfl ?_
      refine go_s (pc' := 24) rfl rfl rfl rfl ?_
      refine go_s (pc' := 25) rfl rfl rfl rfl ?_
      refine go_sput (pc' := 26) hS8 rfl rfl rfl (by decide) tbc_inj (Nat.le_of_ble_eq_true rfl) rfl (hW _ rfl) rfl (fun h11 hS12 hE13 => ?_)
      have hF14 := fr_trans hF10 (fr_e hE13)
      have hlv : lv (mrT 0 3 (I, Q, Z)).1 1 = true := lv_of (p := 3) (by simp [mrT, uI]) (by decide) (by show ¬ I 0 3 = 0; exact u2)
      have e11 : (mrT 0 3 (I, Q, Z)).1 11 1 = 3 := by simp [mrT, uI] <;> rfl
      have e0o : (mrT 0 3 (I, Q, Z)).1 0 2 = I 0 2 := rfl
      have hD15 : CD w 32 m0 h11 (mrT 0 3 (I, Q, Z)).1 (mrT 0 3 (I, Q, Z)).2.1 (mrT 0 3 (I, Q, Z)).2.2 ((uX (uX (uX X 211 0 (.null)) 212 0 (.null)) 215 0 (.null))) ow sb := CD_rsT (CD_fr hD hF14) (by decide) (by decide) hinc
      have hS18 : sm tbc h11 (mrT 0 3 (I, Q, Z)).1 ((uX (uX (uX X 211 0 (.null)) 212 0 (.null)) 215 0 (.null))) := sm_hid hS12 (fun c j hc => by
          have h1 : c ≠ 18 := fun e => by subst e; cases hc
          have h2 : c ≠ 40 := fun e => by subst e; cases hc
          simp [mrT, uI, h1, h2] <;> rfl)
      have hB16 : co h11 (mrT 0 3 (I, Q, Z)).1 ≤ B := by
        have z1 := co_fr (I := I) (J := (mrT 0 3 (I, Q, Z)).1) hF14 rfl
        have z2 := hB
        omega
      have hQ17 : ∀ l, l < 16 → ((mrT 0 3 (I, Q, Z)).2.1 l).length ≤ List.length h11 := fun l hl => Nat.le_trans (hQ l hl) hF14.1
      obtain ⟨X19, eX19⟩ : ∃ y, y = ((uX (uX (uX X 211 0 (.null)) 212 0 (.null)) 215 0 (.null))) := ⟨_, rfl⟩
      rw [← eX19] at hD15 hS18
      obtain ⟨M20, eM20⟩ : ∃ y : mM, y = (mrT 0 3 (I, Q, Z)) := ⟨_, rfl⟩
      rw [← eM20] at hD15 hS18 hB16 hQ17
      obtain ⟨I20, Q20, Z20⟩ := M20
      change CD w 32 m0 h11 I20 Q20 Z20 X19 ow sb at hD15
      change sm tbc h11 I20 X19 at hS18
      change co h11 I20 ≤ B at hB16
      change ∀ l, l < 16 → (Q20 l).length ≤ List.length h11 at hQ17
      have hW := hD15.1.1
      have hWn : ∀ a, List.length h11 ≤ a → w a = true := fun a ha => (hD15.1.2.1 a ha).1
      have hF21 := fr_refl tbc h11
      have hln : 62 ≤ List.length h11 := sm_len hS18
      rw [← eM20] at hlv e11 e0o
      change I20 11 1 = 3 at e11
      change I20 0 2 = I 0 2 at e0o
      refine go_s (pc' := 27) rfl rfl rfl rfl ?_
      refine go_sget (pc' := 28) (v := .ref 2) hS18 rfl rfl rfl (by decide) rfl rfl ?_
      refine go_sget (pc' := 29) (v := .ref 3) hS18 rfl rfl rfl (by decide) rfl rfl ?_
      refine go_s (pc' := 30) rfl rfl rfl rfl ?_
      refine go_callV (pc' := 31) rfl rfl rfl (Nat.le_of_ble_eq_true rfl) rfl (sm_o hS18 rfl) rfl rfl rfl (ct_oh_1 hS18 (by omega)) (fun r h22 q23 => ?_)
      obtain ⟨rfl, rfl⟩ := q23
      have hoh : ohI I20 1 = 2 := by simp [ohI, e11]
      rw [hoh]
      refine go_sald (pc' := 32) (q := 2) (v := .int (I20 0 2)) hS18 rfl rfl rfl rfl (by decide) rfl rfl ?_
      refine go_ifP (t' := 36) (pc' := 33) rfl rfl rfl (fun (c24 : (I20 0 2) = 0) => ?_) (fun (c24 : ¬ (I20 0 2) = 0) => ?_)
      · skip
        refine go_ret rfl rfl ?_
        have hN : mrsN 1 (I, Q, Z) = (I20, Q20, Z20) := by
          unfold mrsN
          rw [if_neg (by decide), show fup (I, Q, Z).1 2 = 3 from hfu]
          exact eM20.symm
        have hms : mrst 1 (I, Q, Z) = (I20, Q20, Z20) := by
          unfold mrst
          rw [if_neg (fun z => z.elim (fun z => z e0) (fun z => z.elim (fun z => absurd (hfu.symm.trans z) (by decide)) (fun z => absurd z.1 (by decide)))), hN, show ohn ((I20, Q20, Z20)).1 1 = 2 by simp [ohn, e11], if_pos (show I 0 2 = 0 from e0o.symm.trans c24)]
        have hC25 : CA w 32 m0 B h22 (I20, Q20, Z20) := ⟨X19, ow, sb, hS18, hD15, hB16, hQ17⟩
        rw [hms]
        exact ⟨rfl, CA_le hC25 (by omega)⟩
      · skip
        refine go_s (pc' := 34) rfl rfl rfl rfl ?_
        refine go_s (pc' := 35) rfl rfl rfl rfl ?_
        have hC26 : CA w 32 m0 B h22 (I20, Q20, Z20) := ⟨X19, ow, sb, hS18, hD15, hB16, hQ17⟩
        refine go_callV (pc' := 36) rfl rfl rfl (Nat.le_of_ble_eq_true rfl) rfl (sm_o hS18 rfl) rfl rfl rfl (cm_sC_1 hC26 (by omega) hlv (by omega)) (fun r h27 q28 => ?_)
        obtain ⟨rfl, hC29⟩ := q28
        change CA w 32 m0 (B + 20) h27 (msC 1 (I20, Q20, Z20)) at hC29
        obtain ⟨M30, eM30⟩ : ∃ y : mM, y = (msC 1 (I20, Q20, Z20)) := ⟨_, rfl⟩
        rw [← eM30] at hC29
        obtain ⟨I30, Q30, Z30⟩ := M30
        obtain ⟨X31, ow31, sb31, hS31, hD31, hB31, hQ31⟩ := hC29
        have hW := hD31.1.1
        have hWn : ∀ a, List.length h27 ≤ a → w a = true := fun a ha => (hD31.1.2.1 a ha).1
        have hF32 := fr_refl tbc h27
        have hln : 62 ≤ List.length h27 := sm_len hS31
        change CD w 32 m0 h27 I30 Q30 Z30 X31 ow31 sb31 at hD31
        change sm tbc h27 I30 X31 at hS31
        change co h27 I30 ≤ (B + 20) at hB31
        change ∀ l, l < 16 → (Q30 l).length ≤ List.length h27 at hQ31
        have hW := hD31.1.1
        have hWn : ∀ a, List.length h27 ≤ a → w a = true := fun a ha => (hD31.1.2.1 a ha).1
        have hF33 := fr_refl tbc h27
        have hln : 62 ≤ List.length h27 := sm_len hS31
        refine go_ret rfl rfl ?_
        have hN : mrsN 1 (I, Q, Z) = (I20, Q20, Z20) := by
          unfold mrsN
          rw [if_neg (by decide), show fup (I, Q, Z).1 2 = 3 from hfu]
          exact eM20.symm
        have hms : mrst 1 (I, Q, Z) = (I30, Q30, Z30) := by
          unfold mrst
          rw [if_neg (fun z => z.elim (fun z => z e0) (fun z => z.elim (fun z => absurd (hfu.symm.trans z) (by decide)) (fun z => absurd z.1 (by decide)))), hN, show ohn ((I20, Q20, Z20)).1 1 = 2 by simp [ohn, e11], if_neg (show ¬ I 0 2 = 0 from fun z => c24 (e0o.trans z))]
          rw [← eM30]
        have hC34 : CA w 32 m0 (B + 20) h27 (I30, Q30, Z30) := ⟨X31, ow31, sb31, hS31, hD31, hB31, hQ31⟩
        rw [hms]
        exact ⟨rfl, CA_le hC34 (by omega)⟩
  · skip
    have hfu : fup I 2 = 2 := by simp [fup, u1] <;> rfl
    refine go_s (pc' := 1) rfl rfl rfl rfl ?_
    refine go_sget (pc' := 2) (v := .ref 2) hS rfl rfl rfl (by decide) rfl rfl ?_
    refine go_s (pc' := 3) rfl rfl rfl rfl ?_
    refine go_sget (pc' := 4) (v := .int 2) hS rfl rfl rfl (by decide) rfl rfl ?_
    refine go_callV (pc' := 5) rfl rfl rfl (Nat.le_of_ble_eq_true rfl) rfl (sm_o hS rfl) rfl rfl rfl (ct_fup_2 hS (by omega)) (fun r h35 q36 => ?_)
    obtain ⟨rfl, rfl⟩ := q36
    rw [hfu]
    refine go_s (pc' := 6) (lo' := [some (.ref 1), some (.ref 59), some (.int 2), none]) rfl rfl rfl rfl ?_
    refine go_s (pc' := 7) rfl rfl rfl rfl ?_
    refine go_s (pc' := 8) (st' := [.int (-1), .int 2]) rfl rfl rfl rfl ?_
    refine go_icmpP (t' := 10) (pc' := 9) rfl rfl rfl (fun _ => ?_) (fun (c : ¬ (¬ (2 : Int32) = (-1))) => absurd (by decide) c)
    refine go_s (pc' := 11) rfl rfl rfl rfl ?_
    refine go_instT (pc' := 12) rfl (sm_o hS rfl) rfl (by decide) rfl ?_
    refine go_ifP (t' := 19) (pc' := 13) rfl rfl rfl (fun (c : (1 : Int32) = 0) => absurd c (by decide)) (fun _ => ?_)
    refine go_s (pc' := 14) rfl rfl rfl rfl ?_
    refine go_castO (pc' := 15) rfl (sm_o hS rfl) rfl (by decide) rfl ?_
    refine go_s (pc' := 16) (lo' := [some (.ref 1), some (.ref 59), some (.int 2), some (.ref 59)]) rfl rfl rfl rfl ?_
    refine go_s (pc' := 17) rfl rfl rfl rfl ?_
    refine go_callV (pc' := 18) rfl rfl rfl (Nat.le_of_ble_eq_true rfl) rfl (sm_o hS rfl) rfl rfl rfl (ct_ba_0 hS hW (by omega)) (fun r h37 q38 => ?_)
    obtain ⟨rfl, hS39, hE40⟩ := q38
    have hF41 := fr_trans hF1 (fr_e hE40)
    refine go_s (pc' := 23) rfl rfl rfl rfl ?_
    refine go_s (pc' := 24) rfl rfl rfl rfl ?_
    refine go_s (pc' := 25) rfl rfl rfl rfl ?_
    refine go_sput (pc' := 26) hS39 rfl rfl rfl (by decide) tbc_inj (Nat.le_of_ble_eq_true rfl) rfl (hW _ rfl) rfl (fun h42 hS43 hE44 => ?_)
    have hF45 := fr_trans hF41 (fr_e hE44)
    have hlv : lv (mrT 0 2 (I, Q, Z)).1 1 = true := lv_of (p := 2) (by simp [mrT, uI]) (by decide) (by show ¬ I 0 2 = 0; exact u1)
    have e11 : (mrT 0 2 (I, Q, Z)).1 11 1 = 2 := by simp [mrT, uI] <;> rfl
    have e0o : (mrT 0 2 (I, Q, Z)).1 0 3 = I 0 3 := rfl
    have hD46 : CD w 32 m0 h42 (mrT 0 2 (I, Q, Z)).1 (mrT 0 2 (I, Q, Z)).2.1 (mrT 0 2 (I, Q, Z)).2.2 ((uX (uX (uX X 211 0 (.null)) 212 0 (.null)) 215 0 (.null))) ow sb := CD_rsT (CD_fr hD hF45) (by decide) (by decide) hinc
    have hS49 : sm tbc h42 (mrT 0 2 (I, Q, Z)).1 ((uX (uX (uX X 211 0 (.null)) 212 0 (.null)) 215 0 (.null))) := sm_hid hS43 (fun c j hc => by
        have h1 : c ≠ 18 := fun e => by subst e; cases hc
        have h2 : c ≠ 40 := fun e => by subst e; cases hc
        simp [mrT, uI, h1, h2] <;> rfl)
    have hB47 : co h42 (mrT 0 2 (I, Q, Z)).1 ≤ B := by
      have z1 := co_fr (I := I) (J := (mrT 0 2 (I, Q, Z)).1) hF45 rfl
      have z2 := hB
      omega
    have hQ48 : ∀ l, l < 16 → ((mrT 0 2 (I, Q, Z)).2.1 l).length ≤ List.length h42 := fun l hl => Nat.le_trans (hQ l hl) hF45.1
    obtain ⟨X50, eX50⟩ : ∃ y, y = ((uX (uX (uX X 211 0 (.null)) 212 0 (.null)) 215 0 (.null))) := ⟨_, rfl⟩
    rw [← eX50] at hD46 hS49
    obtain ⟨M51, eM51⟩ : ∃ y : mM, y = (mrT 0 2 (I, Q, Z)) := ⟨_, rfl⟩
    rw [← eM51] at hD46 hS49 hB47 hQ48
    obtain ⟨I51, Q51, Z51⟩ := M51
    change CD w 32 m0 h42 I51 Q51 Z51 X50 ow sb at hD46
    change sm tbc h42 I51 X50 at hS49
    change co h42 I51 ≤ B at hB47
    change ∀ l, l < 16 → (Q51 l).length ≤ List.length h42 at hQ48
    have hW := hD46.1.1
    have hWn : ∀ a, List.length h42 ≤ a → w a = true := fun a ha => (hD46.1.2.1 a ha).1
    have hF52 := fr_refl tbc h42
    have hln : 62 ≤ List.length h42 := sm_len hS49
    rw [← eM51] at hlv e11 e0o
    change I51 11 1 = 2 at e11
    change I51 0 3 = I 0 3 at e0o
    refine go_s (pc' := 27) rfl rfl rfl rfl ?_
    refine go_sget (pc' := 28) (v := .ref 2) hS49 rfl rfl rfl (by decide) rfl rfl ?_
    refine go_sget (pc' := 29) (v := .ref 3) hS49 rfl rfl rfl (by decide) rfl rfl ?_
    refine go_s (pc' := 30) rfl rfl rfl rfl ?_
    refine go_callV (pc' := 31) rfl rfl rfl (Nat.le_of_ble_eq_true rfl) rfl (sm_o hS49 rfl) rfl rfl rfl (ct_oh_1 hS49 (by omega)) (fun r h53 q54 => ?_)
    obtain ⟨rfl, rfl⟩ := q54
    have hoh : ohI I51 1 = 3 := by simp [ohI, e11]
    rw [hoh]
    refine go_sald (pc' := 32) (q := 3) (v := .int (I51 0 3)) hS49 rfl rfl rfl rfl (by decide) rfl rfl ?_
    refine go_ifP (t' := 36) (pc' := 33) rfl rfl rfl (fun (c55 : (I51 0 3) = 0) => ?_) (fun (c55 : ¬ (I51 0 3) = 0) => ?_)
    · skip
      refine go_ret rfl rfl ?_
      have hN : mrsN 1 (I, Q, Z) = (I51, Q51, Z51) := by
        unfold mrsN
        rw [if_neg (by decide), show fup (I, Q, Z).1 2 = 2 from hfu]
        exact eM51.symm
      have hms : mrst 1 (I, Q, Z) = (I51, Q51, Z51) := by
        unfold mrst
        rw [if_neg (fun z => z.elim (fun z => z e0) (fun z => z.elim (fun z => absurd (hfu.symm.trans z) (by decide)) (fun z => absurd z.1 (by decide)))), hN, show ohn ((I51, Q51, Z51)).1 1 = 3 by simp [ohn, e11], if_pos (show I 0 3 = 0 from e0o.symm.trans c55)]
      have hC56 : CA w 32 m0 B h53 (I51, Q51, Z51) := ⟨X50, ow, sb, hS49, hD46, hB47, hQ48⟩
      rw [hms]
      exact ⟨rfl, CA_le hC56 (by omega)⟩
    · skip
      refine go_s (pc' := 34) rfl rfl rfl rfl ?_
      refine go_s (pc' := 35) rfl rfl rfl rfl ?_
      have hC57 : CA w 32 m0 B h53 (I51, Q51, Z51) := ⟨X50, ow, sb, hS49, hD46, hB47, hQ48⟩
      refine go_callV (pc' := 36) rfl rfl rfl (Nat.le_of_ble_eq_true rfl) rfl (sm_o hS49 rfl) rfl rfl rfl (cm_sC_1 hC57 (by omega) hlv (by omega)) (fun r h58 q59 => ?_)
      obtain ⟨rfl, hC60⟩ := q59
      change CA w 32 m0 (B + 20) h58 (msC 1 (I51, Q51, Z51)) at hC60
      obtain ⟨M61, eM61⟩ : ∃ y : mM, y = (msC 1 (I51, Q51, Z51)) := ⟨_, rfl⟩
      rw [← eM61] at hC60
      obtain ⟨I61, Q61, Z61⟩ := M61
      obtain ⟨X62, ow62, sb62, hS62, hD62, hB62, hQ62⟩ := hC60
      have hW := hD62.1.1
      have hWn : ∀ a, List.length h58 ≤ a → w a = true := fun a ha => (hD62.1.2.1 a ha).1
      have hF63 := fr_refl tbc h58
      have hln : 62 ≤ List.length h58 := sm_len hS62
      change CD w 32 m0 h58 I61 Q61 Z61 X62 ow62 sb62 at hD62
      change sm tbc h58 I61 X62 at hS62
      change co h58 I61 ≤ (B + 20) at hB62
      change ∀ l, l < 16 → (Q61 l).length ≤ List.length h58 at hQ62
      have hW := hD62.1.1
      have hWn : ∀ a, List.length h58 ≤ a → w a = true := fun a ha => (hD62.1.2.1 a ha).1
      have hF64 := fr_refl tbc h58
      have hln : 62 ≤ List.length h58 := sm_len hS62
      refine go_ret rfl rfl ?_
      have hN : mrsN 1 (I, Q, Z) = (I51, Q51, Z51) := by
        unfold mrsN
        rw [if_neg (by decide), show fup (I, Q, Z).1 2 = 2 from hfu]
        exact eM51.symm
      have hms : mrst 1 (I, Q, Z) = (I61, Q61, Z61) := by
        unfold mrst
        rw [if_neg (fun z => z.elim (fun z => z e0) (fun z => z.elim (fun z => absurd (hfu.symm.trans z) (by decide)) (fun z => absurd z.1 (by decide)))), hN, show ohn ((I51, Q51, Z51)).1 1 = 3 by simp [ohn, e11], if_neg (show ¬ I 0 3 = 0 from fun z => c55 (e0o.trans z))]
        rw [← eM61]
      have hC65 : CA w 32 m0 (B + 20) h58 (I61, Q61, Z61) := ⟨X62, ow62, sb62, hS62, hD62, hB62, hQ62⟩
      rw [hms]
      exact ⟨rfl, CA_le hC65 (by omega)⟩
theorem cm_rst_2 {w : Nat → Bool} {d : Nat} {h : am_Hp} {m0 : mg} {B : Nat} {I : sm_I} {Q : mQ} {Z : mZ} (hC : CA w 32 m0 B h (I, Q, Z)) (hB2 : B < 2 ^ 25) (e0 : I 11 2 = -1) (hinc : ¬ I 17 1 + 1 = 0) (hd : 6 ≤ d) : am_Ev (am_prog w) d 69 [.ref 1, .ref 60] h (fun r h' => r = none ∧ CA w 32 m0 (B + 20) h' (mrst 2 (I, Q, Z))) := by
  obtain ⟨X, ow, sb, hS, hD, hB, hQ⟩ := hC
  change sm tbc h I X at hS
  change CD w 32 m0 h I Q Z X ow sb at hD
  change co h I ≤ B at hB
  change ∀ l, l < 16 → (Q l).length ≤ h.length at hQ
  have hW := hD.1.1
  have hWn : ∀ a, List.length h ≤ a → w a = true := fun a ha => (hD.1.2.1 a ha).1
  have hF1 := fr_refl tbc h
  have hln : 62 ≤ List.length h := sm_len hS
  obtain ⟨d, rfl⟩ : ∃ e, d = e + 1 := ⟨d - 1, by omega⟩
  refine ev_go rfl (Nat.le_of_ble_eq_true rfl) rfl ?_
  by_cases u1 : I 0 2 = 0
  · skip
    by_cases u2 : I 0 3 = 0
    · skip
      have hfu : fup I 2 = -1 := by simp [fup, u1, u2]
      refine go_s (pc' := 1) rfl rfl rfl rfl ?_
      refine go_sget (pc' := 2) (v := .ref 2) hS rfl rfl rfl (by decide) rfl rfl ?_
      refine go_s (pc' := 3) rfl rfl rfl rfl ?_
      refine go_sget (pc' := 4) (v := .int 2) hS rfl rfl rfl (by decide) rfl rfl ?_
      refine go_callV (pc' := 5) rfl rfl rfl (Nat.le_of_ble_eq_true rfl) rfl (sm_o hS rfl) rfl rfl rfl (ct_fup_2 hS (by omega)) (fun r h2 q3 => ?_)
      obtain ⟨rfl, rfl⟩ := q3
      rw [hfu]
      refine go_s (pc' := 6) (lo' := [some (.ref 1), some (.ref 60), some (.int (-1)), none]) rfl rfl rfl rfl ?_
      refine go_s (pc' := 7) rfl rfl rfl rfl ?_
      refine go_s (pc' := 8) (st' := [.int (-1), .int (-1)]) rfl rfl rfl rfl ?_
      refine go_icmpP (t' := 10) (pc' := 9) rfl rfl rfl (fun (c : ¬ ((-1) : Int32) = (-1)) => absurd c (by decide)) (fun _ => ?_)
      refine go_ret rfl rfl ?_
      have hms : mrst 2 (I, Q, Z) = (I, Q, Z) := if_pos (Or.inr (Or.inl hfu))
      rw [hms]
      exact ⟨rfl, X, ow, sb, hS, hD, Nat.le_trans hB (by omega), hQ⟩
    · skip
      have hfu : fup I 2 = 3 := by simp [fup, u1, u2] <;> rfl
      refine go_s (pc' := 1) rfl rfl rfl rfl ?_
      refine go_sget (pc' := 2) (v := .ref 2) hS rfl rfl rfl (by decide) rfl rfl ?_
      refine go_s (pc' := 3) rfl rfl rfl rfl ?_
      refine go_sget (pc' := 4) (v := .int 2) hS rfl rfl rfl (by decide) rfl rfl ?_
      refine go_callV (pc' := 5) rfl rfl rfl (Nat.le_of_ble_eq_true rfl) rfl (sm_o hS rfl) rfl rfl rfl (ct_fup_2 hS (by omega)) (fun r h4 q5 => ?_)
      obtain ⟨rfl, rfl⟩ := q5
      rw [hfu]
      refine go_s (pc' := 6) (lo' := [some (.ref 1), some (.ref 60), some (.int 3), none]) rfl rfl rfl rfl ?_
      refine go_s (pc' := 7) rfl rfl rfl rfl ?_
      refine go_s (pc' := 8) (st' := [.int (-1), .int 3]) rfl rfl rfl rfl ?_
      refine go_icmpP (t' := 10) (pc' := 9) rfl rfl rfl (fun _ => ?_) (fun (c : ¬ (¬ (3 : Int32) = (-1))) => absurd (by decide) c)
      refine go_s (pc' := 11) rfl rfl rfl rfl ?_
      refine go_instT (pc' := 12) rfl (sm_o hS rfl) rfl (by decide) rfl ?_
      refine go_ifP (t' := 19) (pc' := 13) rfl rfl rfl (fun (c : (1 : Int32) = 0) => absurd c (by decide)) (fun _ => ?_)
      refine go_s (pc' := 14) rfl rfl rfl rfl ?_
      refine go_castO (pc' := 15) rfl (sm_o hS rfl) rfl (by decide) rfl ?_
      refine go_s (pc' := 16) (lo' := [some (.ref 1), some (.ref 60), some (.int 3), some (.ref 60)]) rfl rfl rfl rfl ?_
      refine go_s (pc' := 17) rfl rfl rfl rfl ?_
      refine go_callV (pc' := 18) rfl rfl rfl (Nat.le_of_ble_eq_true rfl) rfl (sm_o hS rfl) rfl rfl rfl (ct_ba_1 hS hW (by omega)) (fun r h6 q7 => ?_)
      obtain ⟨rfl, hS8, hE9⟩ := q7
      have hF10 := fr_trans hF1 (fr_e hE9)
      refine go_s (pc' := 23) rfl rfl rfl rfl ?_
      refine go_s (pc' := 24) rfl rfl rfl rfl ?_
      refine go_s (pc' := 25) rfl rfl rfl rfl ?_
      refine go_sput (pc' := 26) hS8 rfl rfl rfl (by decide) tbc_inj (Nat.le_of_ble_eq_true rfl) rfl (hW _ rfl) rfl (fun h11 hS12 hE13 => ?_)
      have hF14 := fr_trans hF10 (fr_e hE13)
      have hlv : lv (mrT 1 3 (I, Q, Z)).1 2 = true := lv_of (p := 3) (by simp [mrT, uI]) (by decide) (by show ¬ I 0 3 = 0; exact u2)
      have e11 : (mrT 1 3 (I, Q, Z)).1 11 2 = 3 := by simp [mrT, uI] <;> rfl
      have e0o : (mrT 1 3 (I, Q, Z)).1 0 2 = I 0 2 := rfl
      have hD15 : CD w 32 m0 h11 (mrT 1 3 (I, Q, Z)).1 (mrT 1 3 (I, Q, Z)).2.1 (mrT 1 3 (I, Q, Z)).2.2 ((uX (uX (uX X 211 1 (.null)) 212 1 (.null)) 215 1 (.null))) ow sb := CD_rsT (CD_fr hD hF14) (by decide) (by decide) hinc
      have hS18 : sm tbc h11 (mrT 1 3 (I, Q, Z)).1 ((uX (uX (uX X 211 1 (.null)) 212 1 (.null)) 215 1 (.null))) := sm_hid hS12 (fun c j hc => by
          have h1 : c ≠ 18 := fun e => by subst e; cases hc
          have h2 : c ≠ 40 := fun e => by subst e; cases hc
          simp [mrT, uI, h1, h2] <;> rfl)
      have hB16 : co h11 (mrT 1 3 (I, Q, Z)).1 ≤ B := by
        have z1 := co_fr (I := I) (J := (mrT 1 3 (I, Q, Z)).1) hF14 rfl
        have z2 := hB
        omega
      have hQ17 : ∀ l, l < 16 → ((mrT 1 3 (I, Q, Z)).2.1 l).length ≤ List.length h11 := fun l hl => Nat.le_trans (hQ l hl) hF14.1
      obtain ⟨X19, eX19⟩ : ∃ y, y = ((uX (uX (uX X 211 1 (.null)) 212 1 (.null)) 215 1 (.null))) := ⟨_, rfl⟩
      rw [← eX19] at hD15 hS18
      obtain ⟨M20, eM20⟩ : ∃ y : mM, y = (mrT 1 3 (I, Q, Z)) := ⟨_, rfl⟩
      rw [← eM20] at hD15 hS18 hB16 hQ17
      obtain ⟨I20, Q20, Z20⟩ := M20
      change CD w 32 m0 h11 I20 Q20 Z20 X19 ow sb at hD15
      change sm tbc h11 I20 X19 at hS18
      change co h11 I20 ≤ B at hB16
      change ∀ l, l < 16 → (Q20 l).length ≤ List.length h11 at hQ17
      have hW := hD15.1.1
      have hWn : ∀ a, List.length h11 ≤ a → w a = true := fun a ha => (hD15.1.2.1 a ha).1
      have hF21 := fr_refl tbc h11
      have hln : 62 ≤ List.length h11 := sm_len hS18
      rw [← eM20] at hlv e11 e0o
      change I20 11 2 = 3 at e11
      change I20 0 2 = I 0 2 at e0o
      refine go_s (pc' := 27) rfl rfl rfl rfl ?_
      refine go_sget (pc' := 28) (v := .ref 2) hS18 rfl rfl rfl (by decide) rfl rfl ?_
      refine go_sget (pc' := 29) (v := .ref 3) hS18 rfl rfl rfl (by decide) rfl rfl ?_
      refine go_s (pc' := 30) rfl rfl rfl rfl ?_
      refine go_callV (pc' := 31) rfl rfl rfl (Nat.le_of_ble_eq_true rfl) rfl (sm_o hS18 rfl) rfl rfl rfl (ct_oh_2 hS18 (by omega)) (fun r h22 q23 => ?_)
      obtain ⟨rfl, rfl⟩ := q23
      have hoh : ohI I20 2 = 2 := by simp [ohI, e11]
      rw [hoh]
      refine go_sald (pc' := 32) (q := 2) (v := .int (I20 0 2)) hS18 rfl rfl rfl rfl (by decide) rfl rfl ?_
      refine go_ifP (t' := 36) (pc' := 33) rfl rfl rfl (fun (c24 : (I20 0 2) = 0) => ?_) (fun (c24 : ¬ (I20 0 2) = 0) => ?_)
      · skip
        refine go_ret rfl rfl ?_
        have hN : mrsN 2 (I, Q, Z) = (I20, Q20, Z20) := by
          unfold mrsN
          rw [if_neg (by decide), show fup (I, Q, Z).1 2 = 3 from hfu]
          exact eM20.symm
        have hms : mrst 2 (I, Q, Z) = (I20, Q20, Z20) := by
          unfold mrst
          rw [if_neg (fun z => z.elim (fun z => z e0) (fun z => z.elim (fun z => absurd (hfu.symm.trans z) (by decide)) (fun z => absurd z.1 (by decide)))), hN, show ohn ((I20, Q20, Z20)).1 2 = 2 by simp [ohn, e11], if_pos (show I 0 2 = 0 from e0o.symm.trans c24)]
        have hC25 : CA w 32 m0 B h22 (I20, Q20, Z20) := ⟨X19, ow, sb, hS18, hD15, hB16, hQ17⟩
        rw [hms]
        exact ⟨rfl, CA_le hC25 (by omega)⟩
      · skip
        refine go_s (pc' := 34) rfl rfl rfl rfl ?_
        refine go_s (pc' := 35) rfl rfl rfl rfl ?_
        have hC26 : CA w 32 m0 B h22 (I20, Q20, Z20) := ⟨X19, ow, sb, hS18, hD15, hB16, hQ17⟩
        refine go_callV (pc' := 36) rfl rfl rfl (Nat.le_of_ble_eq_true rfl) rfl (sm_o hS18 rfl) rfl rfl rfl (cm_sC_2 hC26 (by omega) hlv (by omega)) (fun r h27 q28 => ?_)
        obtain ⟨rfl, hC29⟩ := q28
        change CA w 32 m0 (B + 20) h27 (msC 2 (I20, Q20, Z20)) at hC29
        obtain ⟨M30, eM30⟩ : ∃ y : mM, y = (msC 2 (I20, Q20, Z20)) := ⟨_, rfl⟩
        rw [← eM30] at hC29
        obtain ⟨I30, Q30, Z30⟩ := M30
        obtain ⟨X31, ow31, sb31, hS31, hD31, hB31, hQ31⟩ := hC29
        have hW := hD31.1.1
        have hWn : ∀ a, List.length h27 ≤ a → w a = true := fun a ha => (hD31.1.2.1 a ha).1
        have hF32 := fr_refl tbc h27
        have hln : 62 ≤ List.length h27 := sm_len hS31
        change CD w 32 m0 h27 I30 Q30 Z30 X31 ow31 sb31 at hD31
        change sm tbc h27 I30 X31 at hS31
        change co h27 I30 ≤ (B + 20) at hB31
        change ∀ l, l < 16 → (Q30 l).length ≤ List.length h27 at hQ31
        have hW := hD31.1.1
        have hWn : ∀ a, List.length h27 ≤ a → w a = true := fun a ha => (hD31.1.2.1 a ha).1
        have hF33 := fr_refl tbc h27
        have hln : 62 ≤ List.length h27 := sm_len hS31
        refine go_ret rfl rfl ?_
        have hN : mrsN 2 (I, Q, Z) = (I20, Q20, Z20) := by
          unfold mrsN
          rw [if_neg (by decide), show fup (I, Q, Z).1 2 = 3 from hfu]
          exact eM20.symm
        have hms : mrst 2 (I, Q, Z) = (I30, Q30, Z30) := by
          unfold mrst
          rw [if_neg (fun z => z.elim (fun z => z e0) (fun z => z.elim (fun z => absurd (hfu.symm.trans z) (by decide)) (fun z => absurd z.1 (by decide)))), hN, show ohn ((I20, Q20, Z20)).1 2 = 2 by simp [ohn, e11], if_neg (show ¬ I 0 2 = 0 from fun z => c24 (e0o.trans z))]
          rw [← eM30]
        have hC34 : CA w 32 m0 (B + 20) h27 (I30, Q30, Z30) := ⟨X31, ow31, sb31, hS31, hD31, hB31, hQ31⟩
        rw [hms]
        exact ⟨rfl, CA_le hC34 (by omega)⟩
  · skip
    have hfu : fup I 2 = 2 := by simp [fup, u1] <;> rfl
    refine go_s (pc' := 1) rfl rfl rfl rfl ?_
    refine go_sget (pc' := 2) (v := .ref 2) hS rfl rfl rfl (by decide) rfl rfl ?_
    refine go_s (pc' := 3) rfl rfl rfl rfl ?_
    refine go_sget (pc' := 4) (v := .int 2) hS rfl rfl rfl (by decide) rfl rfl ?_
    refine go_callV (pc' := 5) rfl rfl rfl (Nat.le_of_ble_eq_true rfl) rfl (sm_o hS rfl) rfl rfl rfl (ct_fup_2 hS (by omega)) (fun r h35 q36 => ?_)
    obtain ⟨rfl, rfl⟩ := q36
    rw [hfu]
    refine go_s (pc' := 6) (lo' := [some (.ref 1), some (.ref 60), some (.int 2), none]) rfl rfl rfl rfl ?_
    refine go_s (pc' := 7) rfl rfl rfl rfl ?_
    refine go_s (pc' := 8) (st' := [.int (-1), .int 2]) rfl rfl rfl rfl ?_
    refine go_icmpP (t' := 10) (pc' := 9) rfl rfl rfl (fun _ => ?_) (fun (c : ¬ (¬ (2 : Int32) = (-1))) => absurd (by decide) c)
    refine go_s (pc' := 11) rfl rfl rfl rfl ?_
    refine go_instT (pc' := 12) rfl (sm_o hS rfl) rfl (by decide) rfl ?_
    refine go_ifP (t' := 19) (pc' := 13) rfl rfl rfl (fun (c : (1 : Int32) = 0) => absurd c (by decide)) (fun _ => ?_)
    refine go_s (pc' := 14) rfl rfl rfl rfl ?_
    refine go_castO (pc' := 15) rfl (sm_o hS rfl) rfl (by decide) rfl ?_
    refine go_s (pc' := 16) (lo' := [some (.ref 1), some (.ref 60), some (.int 2), some (.ref 60)]) rfl rfl rfl rfl ?_
    refine go_s (pc' := 17) rfl rfl rfl rfl ?_
    refine go_callV (pc' := 18) rfl rfl rfl (Nat.le_of_ble_eq_true rfl) rfl (sm_o hS rfl) rfl rfl rfl (ct_ba_1 hS hW (by omega)) (fun r h37 q38 => ?_)
    obtain ⟨rfl, hS39, hE40⟩ := q38
    have hF41 := fr_trans hF1 (fr_e hE40)
    refine go_s (pc' := 23) rfl rfl rfl rfl ?_
    refine go_s (pc' := 24) rfl rfl rfl rfl ?_
    refine go_s (pc' := 25) rfl rfl rfl rfl ?_
    refine go_sput (pc' := 26) hS39 rfl rfl rfl (by decide) tbc_inj (Nat.le_of_ble_eq_true rfl) rfl (hW _ rfl) rfl (fun h42 hS43 hE44 => ?_)
    have hF45 := fr_trans hF41 (fr_e hE44)
    have hlv : lv (mrT 1 2 (I, Q, Z)).1 2 = true := lv_of (p := 2) (by simp [mrT, uI]) (by decide) (by show ¬ I 0 2 = 0; exact u1)
    have e11 : (mrT 1 2 (I, Q, Z)).1 11 2 = 2 := by simp [mrT, uI] <;> rfl
    have e0o : (mrT 1 2 (I, Q, Z)).1 0 3 = I 0 3 := rfl
    have hD46 : CD w 32 m0 h42 (mrT 1 2 (I, Q, Z)).1 (mrT 1 2 (I, Q, Z)).2.1 (mrT 1 2 (I, Q, Z)).2.2 ((uX (uX (uX X 211 1 (.null)) 212 1 (.null)) 215 1 (.null))) ow sb := CD_rsT (CD_fr hD hF45) (by decide) (by decide) hinc
    have hS49 : sm tbc h42 (mrT 1 2 (I, Q, Z)).1 ((uX (uX (uX X 211 1 (.null)) 212 1 (.null)) 215 1 (.null))) := sm_hid hS43 (fun c j hc => by
        have h1 : c ≠ 18 := fun e => by subst e; cases hc
        have h2 : c ≠ 40 := fun e => by subst e; cases hc
        simp [mrT, uI, h1, h2] <;> rfl)
    have hB47 : co h42 (mrT 1 2 (I, Q, Z)).1 ≤ B := by
      have z1 := co_fr (I := I) (J := (mrT 1 2 (I, Q, Z)).1) hF45 rfl
      have z2 := hB
      omega
    have hQ48 : ∀ l, l < 16 → ((mrT 1 2 (I, Q, Z)).2.1 l).length ≤ List.length h42 := fun l hl => Nat.le_trans (hQ l hl) hF45.1
    obtain ⟨X50, eX50⟩ : ∃ y, y = ((uX (uX (uX X 211 1 (.null)) 212 1 (.null)) 215 1 (.null))) := ⟨_, rfl⟩
    rw [← eX50] at hD46 hS49
    obtain ⟨M51, eM51⟩ : ∃ y : mM, y = (mrT 1 2 (I, Q, Z)) := ⟨_, rfl⟩
    rw [← eM51] at hD46 hS49 hB47 hQ48
    obtain ⟨I51, Q51, Z51⟩ := M51
    change CD w 32 m0 h42 I51 Q51 Z51 X50 ow sb at hD46
    change sm tbc h42 I51 X50 at hS49
    change co h42 I51 ≤ B at hB47
    change ∀ l, l < 16 → (Q51 l).length ≤ List.length h42 at hQ48
    have hW := hD46.1.1
    have hWn : ∀ a, List.length h42 ≤ a → w a = true := fun a ha => (hD46.1.2.1 a ha).1
    have hF52 := fr_refl tbc h42
    have hln : 62 ≤ List.length h42 := sm_len hS49
    rw [← eM51] at hlv e11 e0o
    change I51 11 2 = 2 at e11
    change I51 0 3 = I 0 3 at e0o
    refine go_s (pc' := 27) rfl rfl rfl rfl ?_
    refine go_sget (pc' := 28) (v := .ref 2) hS49 rfl rfl rfl (by decide) rfl rfl ?_
    refine go_sget (pc' := 29) (v := .ref 3) hS49 rfl rfl rfl (by decide) rfl rfl ?_
    refine go_s (pc' := 30) rfl rfl rfl rfl ?_
    refine go_callV (pc' := 31) rfl rfl rfl (Nat.le_of_ble_eq_true rfl) rfl (sm_o hS49 rfl) rfl rfl rfl (ct_oh_2 hS49 (by omega)) (fun r h53 q54 => ?_)
    obtain ⟨rfl, rfl⟩ := q54
    have hoh : ohI I51 2 = 3 := by simp [ohI, e11]
    rw [hoh]
    refine go_sald (pc' := 32) (q := 3) (v := .int (I51 0 3)) hS49 rfl rfl rfl rfl (by decide) rfl rfl ?_
    refine go_ifP (t' := 36) (pc' := 33) rfl rfl rfl (fun (c55 : (I51 0 3) = 0) => ?_) (fun (c55 : ¬ (I51 0 3) = 0) => ?_)
    · skip
      refine go_ret rfl rfl ?_
      have hN : mrsN 2 (I, Q, Z) = (I51, Q51, Z51) := by
        unfold mrsN
        rw [if_neg (by decide), show fup (I, Q, Z).1 2 = 2 from hfu]
        exact eM51.symm
      have hms : mrst 2 (I, Q, Z) = (I51, Q51, Z51) := by
        unfold mrst
        rw [if_neg (fun z => z.elim (fun z => z e0) (fun z => z.elim (fun z => absurd (hfu.symm.trans z) (by decide)) (fun z => absurd z.1 (by decide)))), hN, show ohn ((I51, Q51, Z51)).1 2 = 3 by simp [ohn, e11], if_pos (show I 0 3 = 0 from e0o.symm.trans c55)]
      have hC56 : CA w 32 m0 B h53 (I51, Q51, Z51) := ⟨X50, ow, sb, hS49, hD46, hB47, hQ48⟩
      rw [hms]
      exact ⟨rfl, CA_le hC56 (by omega)⟩
    · skip
      refine go_s (pc' := 34) rfl rfl rfl rfl ?_
      refine go_s (pc' := 35) rfl rfl rfl rfl ?_
      have hC57 : CA w 32 m0 B h53 (I51, Q51, Z51) := ⟨X50, ow, sb, hS49, hD46, hB47, hQ48⟩
      refine go_callV (pc' := 36) rfl rfl rfl (Nat.le_of_ble_eq_true rfl) rfl (sm_o hS49 rfl) rfl rfl rfl (cm_sC_2 hC57 (by omega) hlv (by omega)) (fun r h58 q59 => ?_)
      obtain ⟨rfl, hC60⟩ := q59
      change CA w 32 m0 (B + 20) h58 (msC 2 (I51, Q51, Z51)) at hC60
      obtain ⟨M61, eM61⟩ : ∃ y : mM, y = (msC 2 (I51, Q51, Z51)) := ⟨_, rfl⟩
      rw [← eM61] at hC60
      obtain ⟨I61, Q61, Z61⟩ := M61
      obtain ⟨X62, ow62, sb62, hS62, hD62, hB62, hQ62⟩ := hC60
      have hW := hD62.1.1
      have hWn : ∀ a, List.length h58 ≤ a → w a = true := fun a ha => (hD62.1.2.1 a ha).1
      have hF63 := fr_refl tbc h58
      have hln : 62 ≤ List.length h58 := sm_len hS62
      change CD w 32 m0 h58 I61 Q61 Z61 X62 ow62 sb62 at hD62
      change sm tbc h58 I61 X62 at hS62
      change co h58 I61 ≤ (B + 20) at hB62
      change ∀ l, l < 16 → (Q61 l).length ≤ List.length h58 at hQ62
      have hW := hD62.1.1
      have hWn : ∀ a, List.length h58 ≤ a → w a = true := fun a ha => (hD62.1.2.1 a ha).1
      have hF64 := fr_refl tbc h58
      have hln : 62 ≤ List.length h58 := sm_len hS62
      refine go_ret rfl rfl ?_
      have hN : mrsN 2 (I, Q, Z) = (I51, Q51, Z51) := by
        unfold mrsN
        rw [if_neg (by decide), show fup (I, Q, Z).1 2 = 2 from hfu]
        exact eM51.symm
      have hms : mrst 2 (I, Q, Z) = (I61, Q61, Z61) := by
        unfold mrst
        rw [if_neg (fun z => z.elim (fun z => z e0) (fun z => z.elim (fun z => absurd (hfu.symm.trans z) (by decide)) (fun z => absurd z.1 (by decide)))), hN, show ohn ((I51, Q51, Z51)).1 2 = 3 by simp [ohn, e11], if_neg (show ¬ I 0 3 = 0 from fun z => c55 (e0o.trans z))]
        rw [← eM61]
      have hC65 : CA w 32 m0 (B + 20) h58 (I61, Q61, Z61) := ⟨X62, ow62, sb62, hS62, hD62, hB62, hQ62⟩
      rw [hms]
      exact ⟨rfl, CA_le hC65 (by omega)⟩
