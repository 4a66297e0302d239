theorem cm_tl_0 {w : Nat → Bool} {d : Nat} {h : am_Hp} {e : Nat} {m0 : mg} {B : Nat} {I : sm_I} {Q : mQ} {Z : mZ} (hC : CA w e m0 B h (I, Q, Z)) (hB2 : B < 2 ^ 29) (hv : lv I 0 = true) (hd : 5 ≤ d) : am_Ev (am_prog w) d 17 [.ref 1, .ref 32] h (fun r h' => r = some (.int (if I 12 0 = -1 then 1 else 0)) ∧ CA w e m0 (B + 344) h' (mtl 0 (I, Q, Z))) := by
  obtain ⟨X, ow, sb, hS, hD, hB, hQ⟩ := hC
  change sm tbc h I X at hS
  change CD w e m0 h I Q Z X ow sb at hD
  change co h I ≤ B at hB
  change ∀ l, l < 16 → (Q l).length ≤ h.length at hQ
  have hW := hD.1.1
  have hWn : ∀ a, List.length h ≤ a → w a = true := fun a ha => (hD.1.2.1 a ha).1
  have hF1 := fr_refl tbc h
  have hln : 62 ≤ List.length h := sm_len hS
  obtain ⟨d, rfl⟩ : ∃ e, d = e + 1 := ⟨d - 1, by omega⟩
  refine ev_go rfl (Nat.le_of_ble_eq_true rfl) rfl ?_
  have h207 := hD.2.2.2.1.2.2 0 (by decide)
  by_cases b12 : I 12 0 = -1
  · skip
    rw [if_pos b12] at h207
    refine go_s (pc' := 1) rfl rfl rfl rfl ?_
    refine go_sget (pc' := 2) (v := .int 0) hS rfl rfl rfl (by decide) h207 rfl ?_
    refine go_ifP (t' := 12) (pc' := 3) rfl rfl rfl (fun _ => ?_) (fun (c : ¬ ((0 : Int32) = 0)) => absurd (by decide) c)
    refine go_s (pc' := 13) rfl rfl rfl rfl ?_
    refine go_sget (pc' := 14) (v := .int (I 13 0)) hS rfl rfl rfl (by decide) rfl rfl ?_
    refine go_ifP (t' := 18) (pc' := 15) rfl rfl rfl (fun (c2 : (I 13 0) = 0) => ?_) (fun (c2 : ¬ (I 13 0) = 0) => ?_)
    · skip
      refine go_s (pc' := 19) (st' := [.int 1]) rfl rfl rfl rfl ?_
      refine go_ret rfl rfl ?_
      have hD3 : CD w e m0 h I Q Z X ow sb := CD_I (CD_fr hD hF1) ⟨rfl, rfl, rfl, rfl, rfl, rfl, rfl, rfl, rfl, rfl, rfl, rfl, rfl, rfl, rfl⟩
      have hB4 : co h I ≤ B + 0 := by
        have := co_fr (I := I) (J := I) hF1 rfl
        have := hB
        omega
      have hC5 : CA w e m0 (B + 0) h (I, Q, Z) := ⟨X, ow, sb, hS, hD3, hB4, fun l hl => Nat.le_trans (hQ l hl) hF1.1⟩
      exact ⟨by rw [if_pos b12], by unfold mtl; rw [if_pos b12, if_pos c2]; exact CA_le hC5 (by omega)⟩
    · skip
      refine go_s (pc' := 16) rfl rfl rfl rfl ?_
      refine go_s (pc' := 17) (st' := [.int 1, .ref 32]) rfl rfl rfl rfl ?_
      refine go_sput (pc' := 18) hS rfl rfl rfl (by decide) tbc_inj (Nat.le_of_ble_eq_true rfl) rfl (hW _ rfl) rfl (fun h6 hS7 hE8 => ?_)
      have hF9 := fr_trans hF1 (fr_e hE8)
      refine go_s (pc' := 19) (st' := [.int 1]) rfl rfl rfl rfl ?_
      refine go_ret rfl rfl ?_
      have hD10 : CD w e m0 h6 (uI I 14 0 1) Q Z X ow sb := CD_I (CD_fr hD hF9) ⟨rfl, rfl, rfl, rfl, rfl, rfl, rfl, rfl, rfl, rfl, rfl, rfl, rfl, rfl, rfl⟩
      have hB11 : co h6 (uI I 14 0 1) ≤ B + 0 := by
        have := co_fr (I := I) (J := (uI I 14 0 1)) hF9 rfl
        have := hB
        omega
      have hC12 : CA w e m0 (B + 0) h6 ((uI I 14 0 1), Q, Z) := ⟨X, ow, sb, hS7, hD10, hB11, fun l hl => Nat.le_trans (hQ l hl) hF9.1⟩
      exact ⟨by rw [if_pos b12], by unfold mtl; rw [if_pos b12, if_neg c2]; exact CA_le hC12 (by omega)⟩
  · skip
    rw [if_neg b12] at h207
    refine go_s (pc' := 1) rfl rfl rfl rfl ?_
    refine go_sget (pc' := 2) (v := .int 1) hS rfl rfl rfl (by decide) h207 rfl ?_
    refine go_ifP (t' := 12) (pc' := 3) rfl rfl rfl (fun (c : (1 : Int32) = 0) => absurd c (by decide)) (fun _ => ?_)
    refine go_s (pc' := 4) rfl rfl rfl rfl ?_
    refine go_s (pc' := 5) rfl rfl rfl rfl ?_
    refine go_s (pc' := 6) (st' := [.int 3, .ref 32, .ref 1]) rfl rfl rfl rfl ?_
    have hD13 : CD w e m0 h I Q Z X ow sb := CD_I (CD_fr hD hF1) ⟨rfl, rfl, rfl, rfl, rfl, rfl, rfl, rfl, rfl, rfl, rfl, rfl, rfl, rfl, rfl⟩
    have hB14 : co h I ≤ B + 0 := by
      have := co_fr (I := I) (J := I) hF1 rfl
      have := hB
      omega
    have hC15 : CA w e m0 (B + 0) h (I, Q, Z) := ⟨X, ow, sb, hS, hD13, hB14, fun l hl => Nat.le_trans (hQ l hl) hF1.1⟩
    refine go_callV (pc' := 7) rfl rfl rfl (Nat.le_of_ble_eq_true rfl) rfl (sm_o hS rfl) rfl rfl rfl (cm_sS_0 hC15 (by omega) hv (kd := 3) (by decide) (by omega)) (fun r h16 q17 => ?_)
    obtain ⟨rfl, hC18⟩ := q17
    change CA w e m0 (B + 0 + 344) h16 (msS 0 3 (I, Q, Z)) at hC18
    obtain ⟨X19, ow19, sb19, hS19, hD19, hB19, hQ19⟩ := hC18
    have hW := hD19.1.1
    have hWn : ∀ a, List.length h16 ≤ a → w a = true := fun a ha => (hD19.1.2.1 a ha).1
    have hF20 := fr_refl tbc h16
    have hln : 62 ≤ List.length h16 := sm_len hS19
    refine go_s (pc' := 8) rfl rfl rfl rfl ?_
    refine go_s (pc' := 9) (st' := [.int 1, .ref 32]) rfl rfl rfl rfl ?_
    refine go_sput (pc' := 10) hS19 rfl rfl rfl (by decide) tbc_inj (Nat.le_of_ble_eq_true rfl) rfl (hW _ rfl) rfl (fun h21 hS22 hE23 => ?_)
    have hF24 := fr_trans hF20 (fr_e hE23)
    refine go_s (pc' := 11) (st' := [.int 0]) rfl rfl rfl rfl ?_
    refine go_ret rfl rfl ?_
    have hD25 := CD_t0 (v := 1) (CD_fr hD19 hF24) (by decide)
    have hB9 : co h21 (uI ((msS 0 3 (I, Q, Z))).1 16 0 1) ≤ B + 344 := by
      have := co_fr (I := ((msS 0 3 (I, Q, Z))).1) (J := (uI ((msS 0 3 (I, Q, Z))).1 16 0 1)) hF24 rfl
      have : co _ ((msS 0 3 (I, Q, Z))).1 ≤ B + 0 + 344 := hB19
      omega
    refine ⟨by rw [if_neg b12], ?_⟩
    unfold mtl
    rw [if_neg b12]
    exact ⟨X19, ow19, sb19, hS22, hD25, hB9, fun l hl => Nat.le_trans (hQ19 l hl) hF24.1⟩
theorem cm_sC_0 {w : Nat → Bool} {d : Nat} {h : am_Hp} {e : Nat} {m0 : mg} {B : Nat} {I : sm_I} {Q : mQ} {Z : mZ} (hC : CA w e m0 B h (I, Q, Z)) (hB2 : B < 2 ^ 29) (hv : lv I 0 = true) (hd : 5 ≤ d) : am_Ev (am_prog w) d 77 [.ref 1, .ref 32] h (fun r h' => r = none ∧ CA w e m0 (B + 0 + 344) h' (msC 0 (I, Q, Z))) := by
  obtain ⟨X, ow, sb, hS, hD, hB, hQ⟩ := hC
  change sm tbc h I X at hS
  change CD w e m0 h I Q Z X ow sb at hD
  change co h I ≤ B at hB
  change ∀ l, l < 16 → (Q l).length ≤ h.length at hQ
  have hW := hD.1.1
  have hWn : ∀ a, List.length h ≤ a → w a = true := fun a ha => (hD.1.2.1 a ha).1
  have hF1 := fr_refl tbc h
  have hln : 62 ≤ List.length h := sm_len hS
  obtain ⟨d, rfl⟩ : ∃ e, d = e + 1 := ⟨d - 1, by omega⟩
  refine ev_go rfl (Nat.le_of_ble_eq_true rfl) rfl ?_
  refine go_s (pc' := 1) rfl rfl rfl rfl ?_
  refine go_s (pc' := 2) (st' := [.int 1, .ref 32]) rfl rfl rfl rfl ?_
  refine go_sput (pc' := 3) hS rfl rfl rfl (by decide) tbc_inj (Nat.le_of_ble_eq_true rfl) rfl (hW _ rfl) rfl (fun h2 hS3 hE4 => ?_)
  have hF5 := fr_trans hF1 (fr_e hE4)
  refine go_s (pc' := 4) rfl rfl rfl rfl ?_
  refine go_s (pc' := 5) (st' := [.int 0, .ref 32]) rfl rfl rfl rfl ?_
  refine go_sput (pc' := 6) hS3 rfl rfl rfl (by decide) tbc_inj (Nat.le_of_ble_eq_true rfl) rfl (hW _ rfl) rfl (fun h6 hS7 hE8 => ?_)
  have hF9 := fr_trans hF5 (fr_e hE8)
  refine go_s (pc' := 7) rfl rfl rfl rfl ?_
  refine go_s (pc' := 8) rfl rfl rfl rfl ?_
  refine go_s (pc' := 9) (st' := [.int 4, .ref 32, .ref 1]) rfl rfl rfl rfl ?_
  have hD10 : CD w e m0 h6 (uI (uI I 13 0 1) 14 0 0) Q Z X ow sb := CD_I (CD_fr hD hF9) ⟨rfl, rfl, rfl, rfl, rfl, rfl, rfl, rfl, rfl, rfl, rfl, rfl, rfl, rfl, rfl⟩
  have hB11 : co h6 (uI (uI I 13 0 1) 14 0 0) ≤ B + 0 := by
    have := co_fr (I := I) (J := (uI (uI I 13 0 1) 14 0 0)) hF9 rfl
    have := hB
    omega
  have hC12 : CA w e m0 (B + 0) h6 ((uI (uI I 13 0 1) 14 0 0), Q, Z) := ⟨X, ow, sb, hS7, hD10, hB11, fun l hl => Nat.le_trans (hQ l hl) hF9.1⟩
  refine go_callV (pc' := 10) rfl rfl rfl (Nat.le_of_ble_eq_true rfl) rfl (sm_o hS7 rfl) rfl rfl rfl (cm_sS_0 hC12 (by omega) hv (kd := 4) (by decide) (by omega)) (fun r h13 q14 => ?_)
  obtain ⟨rfl, hC15⟩ := q14
  change CA w e m0 (B + 0 + 344) h13 (msS 0 4 ((uI (uI I 13 0 1) 14 0 0), Q, Z)) at hC15
  obtain ⟨X16, ow16, sb16, hS16, hD16, hB16, hQ16⟩ := hC15
  have hW := hD16.1.1
  have hWn : ∀ a, List.length h13 ≤ a → w a = true := fun a ha => (hD16.1.2.1 a ha).1
  have hF17 := fr_refl tbc h13
  have hln : 62 ≤ List.length h13 := sm_len hS16
  refine go_ret rfl rfl ?_
  exact ⟨rfl, ⟨X16, ow16, sb16, hS16, hD16, hB16, hQ16⟩⟩
theorem cm_tl_1 {w : Nat → Bool} {d : Nat} {h : am_Hp} {e : Nat} {m0 : mg} {B : Nat} {I : sm_I} {Q : mQ} {Z : mZ} (hC : CA w e m0 B h (I, Q, Z)) (hB2 : B < 2 ^ 29) (hv : lv I 1 = true) (hd : 5 ≤ d) : am_Ev (am_prog w) d 17 [.ref 1, .ref 59] h (fun r h' => r = some (.int (if I 12 1 = -1 then 1 else 0)) ∧ CA w e m0 (B + 20) h' (mtl 1 (I, Q, Z))) := by
  obtain ⟨X, ow, sb, hS, hD, hB, hQ⟩ := hC
  change sm tbc h I X at hS
  change CD w e m0 h I Q Z X ow sb at hD
  change co h I ≤ B at hB
  change ∀ l, l < 16 → (Q l).length ≤ h.length at hQ
  have hW := hD.1.1
  have hWn : ∀ a, List.length h ≤ a → w a = true := fun a ha => (hD.1.2.1 a ha).1
  have hF1 := fr_refl tbc h
  have hln : 62 ≤ List.length h := sm_len hS
  obtain ⟨d, rfl⟩ : ∃ e, d = e + 1 := ⟨d - 1, by omega⟩
  refine ev_go rfl (Nat.le_of_ble_eq_true rfl) rfl ?_
  have h207 := hD.2.2.2.1.2.2 1 (by decide)
  by_cases b12 : I 12 1 = -1
  · skip
    rw [if_pos b12] at h207
    refine go_s (pc' := 1) rfl rfl rfl rfl ?_
    refine go_sget (pc' := 2) (v := .int 0) hS rfl rfl rfl (by decide) h207 rfl ?_
    refine go_ifP (t' := 12) (pc' := 3) rfl rfl rfl (fun _ => ?_) (fun (c : ¬ ((0 : Int32) = 0)) => absurd (by decide) c)
    refine go_s (pc' := 13) rfl rfl rfl rfl ?_
    refine go_sget (pc' := 14) (v := .int (I 13 1)) hS rfl rfl rfl (by decide) rfl rfl ?_
    refine go_ifP (t' := 18) (pc' := 15) rfl rfl rfl (fun (c2 : (I 13 1) = 0) => ?_) (fun (c2 : ¬ (I 13 1) = 0) => ?_)
    · skip
      refine go_s (pc' := 19) (st' := [.int 1]) rfl rfl rfl rfl ?_
      refine go_ret rfl rfl ?_
      have hD3 : CD w e m0 h I Q Z X ow sb := CD_I (CD_fr hD hF1) ⟨rfl, rfl, rfl, rfl, rfl, rfl, rfl, rfl, rfl, rfl, rfl, rfl, rfl, rfl, rfl⟩
      have hB4 : co h I ≤ B + 0 := by
        have := co_fr (I := I) (J := I) hF1 rfl
        have := hB
        omega
      have hC5 : CA w e m0 (B + 0) h (I, Q, Z) := ⟨X, ow, sb, hS, hD3, hB4, fun l hl => Nat.le_trans (hQ l hl) hF1.1⟩
      exact ⟨by rw [if_pos b12], by unfold mtl; rw [if_pos b12, if_pos c2]; exact CA_le hC5 (by omega)⟩
    · skip
      refine go_s (pc' := 16) rfl rfl rfl rfl ?_
      refine go_s (pc' := 17) (st' := [.int 1, .ref 59]) rfl rfl rfl rfl ?_
      refine go_sput (pc' := 18) hS rfl rfl rfl (by decide) tbc_inj (Nat.le_of_ble_eq_true rfl) rfl (hW _ rfl) rfl (fun h6 hS7 hE8 => ?_)
      have hF9 := fr_trans hF1 (fr_e hE8)
      refine go_s (pc' := 19) (st' := [.int 1]) rfl rfl rfl rfl ?_
      refine go_ret rfl rfl ?_
      have hD10 : CD w e m0 h6 (uI I 14 1 1) Q Z X ow sb := CD_I (CD_fr hD hF9) ⟨rfl, rfl, rfl, rfl, rfl, rfl, rfl, rfl, rfl, rfl, rfl, rfl, rfl, rfl, rfl⟩
      have hB11 : co h6 (uI I 14 1 1) ≤ B + 0 := by
        have := co_fr (I := I) (J := (uI I 14 1 1)) hF9 rfl
        have := hB
        omega
      have hC12 : CA w e m0 (B + 0) h6 ((uI I 14 1 1), Q, Z) := ⟨X, ow, sb, hS7, hD10, hB11, fun l hl => Nat.le_trans (hQ l hl) hF9.1⟩
      exact ⟨by rw [if_pos b12], by unfold mtl; rw [if_pos b12, if_neg c2]; exact CA_le hC12 (by omega)⟩
  · skip
    rw [if_neg b12] at h207
    refine go_s (pc' := 1) rfl rfl rfl rfl ?_
    refine go_sget (pc' := 2) (v := .int 1) hS rfl rfl rfl (by decide) h207 rfl ?_
    refine go_ifP (t' := 12) (pc' := 3) rfl rfl rfl (fun (c : (1 : Int32) = 0) => absurd c (by decide)) (fun _ => ?_)
    refine go_s (pc' := 4) rfl rfl rfl rfl ?_
    refine go_s (pc' := 5) rfl rfl rfl rfl ?_
    refine go_s (pc' := 6) (st' := [.int 3, .ref 59, .ref 1]) rfl rfl rfl rfl ?_
    have hD13 : CD w e m0 h I Q Z X ow sb := CD_I (CD_fr hD hF1) ⟨rfl, rfl, rfl, rfl, rfl, rfl, rfl, rfl, rfl, rfl, rfl, rfl, rfl, rfl, rfl⟩
    have hB14 : co h I ≤ B + 0 := by
      have := co_fr (I := I) (J := I) hF1 rfl
      have := hB
      omega
    have hC15 : CA w e m0 (B + 0) h (I, Q, Z) := ⟨X, ow, sb, hS, hD13, hB14, fun l hl => Nat.le_trans (hQ l hl) hF1.1⟩
    refine go_callV (pc' := 7) rfl rfl rfl (Nat.le_of_ble_eq_true rfl) rfl (sm_o hS rfl) rfl rfl rfl (cm_sS_1 hC15 (by omega) hv (kd := 3) (by decide) (by omega)) (fun r h16 q17 => ?_)
    obtain ⟨rfl, hC18⟩ := q17
    change CA w e m0 (B + 0 + 20) h16 (msS 1 3 (I, Q, Z)) at hC18
    obtain ⟨X19, ow19, sb19, hS19, hD19, hB19, hQ19⟩ := hC18
    have hW := hD19.1.1
    have hWn : ∀ a, List.length h16 ≤ a → w a = true := fun a ha => (hD19.1.2.1 a ha).1
    have hF20 := fr_refl tbc h16
    have hln : 62 ≤ List.length h16 := sm_len hS19
    refine go_s (pc' := 8) rfl rfl rfl rfl ?_
    refine go_s (pc' := 9) (st' := [.int 1, .ref 59]) rfl rfl rfl rfl ?_
    refine go_sput (pc' := 10) hS19 rfl rfl rfl (by decide) tbc_inj (Nat.le_of_ble_eq_true rfl) rfl (hW _ rfl) rfl (fun h21 hS22 hE23 => ?_)
    have hF24 := fr_trans hF20 (fr_e hE23)
    refine go_s (pc' := 11) (st' := [.int 0]) rfl rfl rfl rfl ?_
    refine go_ret rfl rfl ?_
    have hD25 : CD w e m0 h21 (uI ((msS 1 3 (I, Q, Z))).1 16 1 1) ((msS 1 3 (I, Q, Z))).2.1 ((msS 1 3 (I, Q, Z))).2.2 X19 ow19 sb19 := CD_I (CD_fr hD19 hF24) ⟨rfl, rfl, rfl, rfl, rfl, rfl, rfl, rfl, rfl, rfl, rfl, rfl, rfl, rfl, rfl⟩
    have hB9 : co h21 (uI ((msS 1 3 (I, Q, Z))).1 16 1 1) ≤ B + 20 := by
      have := co_fr (I := ((msS 1 3 (I, Q, Z))).1) (J := (uI ((msS 1 3 (I, Q, Z))).1 16 1 1)) hF24 rfl
      have : co _ ((msS 1 3 (I, Q, Z))).1 ≤ B + 0 + 20 := hB19
      omega
    refine ⟨by rw [if_neg b12], ?_⟩
    unfold mtl
    rw [if_neg b12]
    exact ⟨X19, ow19, sb19, hS22, hD25, hB9, fun l hl => Nat.le_trans (hQ19 l hl) hF24.1⟩
theorem cm_sC_1 {w : Nat → Bool} {d : Nat} {h : am_Hp} {e : Nat} {m0 : mg} {B : Nat} {I : sm_I} {Q : mQ} {Z : mZ} (hC : CA w e m0 B h (I, Q, Z)) (hB2 : B < 2 ^ 29) (hv : lv I 1 = true) (hd : 5 ≤ d) : am_Ev (am_prog w) d 77 [.ref 1, .ref 59] h (fun r h' => r = none ∧ CA w e m0 (B + 0 + 20) h' (msC 1 (I, Q, Z))) := by
  obtain ⟨X, ow, sb, hS, hD, hB, hQ⟩ := hC
  change sm tbc h I X at hS
  change CD w e m0 h I Q Z X ow sb at hD
  change co h I ≤ B at hB
  change ∀ l, l < 16 → (Q l).length ≤ h.length at hQ
  have hW := hD.1.1
  have hWn : ∀ a, List.length h ≤ a → w a = true := fun a ha => (hD.1.2.1 a ha).1
  have hF1 := fr_refl tbc h
  have hln : 62 ≤ List.length h := sm_len hS
  obtain ⟨d, rfl⟩ : ∃ e, d = e + 1 := ⟨d - 1, by omega⟩
  refine ev_go rfl (Nat.le_of_ble_eq_true rfl) rfl ?_
  refine go_s (pc' := 1) rfl rfl rfl rfl ?_
  refine go_s (pc' := 2) (st' := [.int 1, .ref 59]) rfl rfl rfl rfl ?_
  refine go_sput (pc' := 3) hS rfl rfl rfl (by decide) tbc_inj (Nat.le_of_ble_eq_true rfl) rfl (hW _ rfl) rfl (fun h2 hS3 hE4 => ?_)
  have hF5 := fr_trans hF1 (fr_e hE4)
  refine go_s (pc' := 4) rfl rfl rfl rfl ?_
  refine go_s (pc' := 5) (st' := [.int 0, .ref 59]) rfl rfl rfl rfl ?_
  refine go_sput (pc' := 6) hS3 rfl rfl rfl (by decide) tbc_inj (Nat.le_of_ble_eq_true rfl) rfl (hW _ rfl) rfl (fun h6 hS7 hE8 => ?_)
  have hF9 := fr_trans hF5 (fr_e hE8)
  refine go_s (pc' := 7) rfl rfl rfl rfl ?_
  refine go_s (pc' := 8) rfl rfl rfl rfl ?_
  refine go_s (pc' := 9) (st' := [.int 4, .ref 59, .ref 1]) rfl rfl rfl rfl ?_
  have hD10 : CD w e m0 h6 (uI (uI I 13 1 1) 14 1 0) Q Z X ow sb := CD_I (CD_fr hD hF9) ⟨rfl, rfl, rfl, rfl, rfl, rfl, rfl, rfl, rfl, rfl, rfl, rfl, rfl, rfl, rfl⟩
  have hB11 : co h6 (uI (uI I 13 1 1) 14 1 0) ≤ B + 0 := by
    have := co_fr (I := I) (J := (uI (uI I 13 1 1) 14 1 0)) hF9 rfl
    have := hB
    omega
  have hC12 : CA w e m0 (B + 0) h6 ((uI (uI I 13 1 1) 14 1 0), Q, Z) := ⟨X, ow, sb, hS7, hD10, hB11, fun l hl => Nat.le_trans (hQ l hl) hF9.1⟩
  refine go_callV (pc' := 10) rfl rfl rfl (Nat.le_of_ble_eq_true rfl) rfl (sm_o hS7 rfl) rfl rfl rfl (cm_sS_1 hC12 (by omega) hv (kd := 4) (by decide) (by omega)) (fun r h13 q14 => ?_)
  obtain ⟨rfl, hC15⟩ := q14
  change CA w e m0 (B + 0 + 20) h13 (msS 1 4 ((uI (uI I 13 1 1) 14 1 0), Q, Z)) at hC15
  obtain ⟨X16, ow16, sb16, hS16, hD16, hB16, hQ16⟩ := hC15
  have hW := hD16.1.1
  have hWn : ∀ a, List.length h13 ≤ a → w a = true := fun a ha => (hD16.1.2.1 a ha).1
  have hF17 := fr_refl tbc h13
  have hln : 62 ≤ List.length h13 := sm_len hS16
  refine go_ret rfl rfl ?_
  exact ⟨rfl, ⟨X16, ow16, sb16, hS16, hD16, hB16, hQ16⟩⟩
theorem cm_tl_2 {w : Nat → Bool} {d : Nat} {h : am_Hp} {e : Nat} {m0 : mg} {B : Nat} {I : sm_I} {Q : mQ} {Z : mZ} (hC : CA w e m0 B h (I, Q, Z)) (hB2 : B < 2 ^ 29) (hv : lv I 2 = true) (hd : 5 ≤ d) : am_Ev (am_prog w) d 17 [.ref 1, .ref 60] h (fun r h' => r = some (.int (if I 12 2 = -1 then 1 else 0)) ∧ CA w e m0 (B + 20) h' (mtl 2 (I, Q, Z))) := by
  obtain ⟨X, ow, sb, hS, hD, hB, hQ⟩ := hC
  change sm tbc h I X at hS
  change CD w e m0 h I Q Z X ow sb at hD
  change co h I ≤ B at hB
  change ∀ l, l < 16 → (Q l).length ≤ h.length at hQ
  have hW := hD.1.1
  have hWn : ∀ a, List.length h ≤ a → w a = true := fun a ha => (hD.1.2.1 a ha).1
  have hF1 := fr_refl tbc h
  have hln : 62 ≤ List.length h := sm_len hS
  obtain ⟨d, rfl⟩ : ∃ e, d = e + 1 := ⟨d - 1, by omega⟩
  refine ev_go rfl (Nat.le_of_ble_eq_true rfl) rfl ?_
  have h207 := hD.2.2.2.1.2.2 2 (by decide)
  by_cases b12 : I 12 2 = -1
  · skip
    rw [if_pos b12] at h207
    refine go_s (pc' := 1) rfl rfl rfl rfl ?_
    refine go_sget (pc' := 2) (v := .int 0) hS rfl rfl rfl (by decide) h207 rfl ?_
    refine go_ifP (t' := 12) (pc' := 3) rfl rfl rfl (fun _ => ?_) (fun (c : ¬ ((0 : Int32) = 0)) => absurd (by decide) c)
    refine go_s (pc' := 13) rfl rfl rfl rfl ?_
    refine go_sget (pc' := 14) (v := .int (I 13 2)) hS rfl rfl rfl (by decide) rfl rfl ?_
    refine go_ifP (t' := 18) (pc' := 15) rfl rfl rfl (fun (c2 : (I 13 2) = 0) => ?_) (fun (c2 : ¬ (I 13 2) = 0) => ?_)
    · skip
      refine go_s (pc' := 19) (st' := [.int 1]) rfl rfl rfl rfl ?_
      refine go_ret rfl rfl ?_
      have hD3 : CD w e m0 h I Q Z X ow sb := CD_I (CD_fr hD hF1) ⟨rfl, rfl, rfl, rfl, rfl, rfl, rfl, rfl, rfl, rfl, rfl, rfl, rfl, rfl, rfl⟩
      have hB4 : co h I ≤ B + 0 := by
        have := co_fr (I := I) (J := I) hF1 rfl
        have := hB
        omega
      have hC5 : CA w e m0 (B + 0) h (I, Q, Z) := ⟨X, ow, sb, hS, hD3, hB4, fun l hl => Nat.le_trans (hQ l hl) hF1.1⟩
      exact ⟨by rw [if_pos b12], by unfold mtl; rw [if_pos b12, if_pos c2]; exact CA_le hC5 (by omega)⟩
    · skip
      refine go_s (pc' := 16) rfl rfl rfl rfl ?_
      refine go_s (pc' := 17) (st' := [.int 1, .ref 60]) rfl rfl rfl rfl ?_
      refine go_sput (pc' := 18) hS rfl rfl rfl (by decide) tbc_inj (Nat.le_of_ble_eq_true rfl) rfl (hW _ rfl) rfl (fun h6 hS7 hE8 => ?_)
      have hF9 := fr_trans hF1 (fr_e hE8)
      refine go_s (pc' := 19) (st' := [.int 1]) rfl rfl rfl rfl ?_
      refine go_ret rfl rfl ?_
      have hD10 : CD w e m0 h6 (uI I 14 2 1) Q Z X ow sb := CD_I (CD_fr hD hF9) ⟨rfl, rfl, rfl, rfl, rfl, rfl, rfl, rfl, rfl, rfl, rfl, rfl, rfl, rfl, rfl⟩
      have hB11 : co h6 (uI I 14 2 1) ≤ B + 0 := by
        have := co_fr (I := I) (J := (uI I 14 2 1)) hF9 rfl
        have := hB
        omega
      have hC12 : CA w e m0 (B + 0) h6 ((uI I 14 2 1), Q, Z) := ⟨X, ow, sb, hS7, hD10, hB11, fun l hl => Nat.le_trans (hQ l hl) hF9.1⟩
      exact ⟨by rw [if_pos b12], by unfold mtl; rw [if_pos b12, if_neg c2]; exact CA_le hC12 (by omega)⟩
  · skip
    rw [if_neg b12] at h207
    refine go_s (pc' := 1) rfl rfl rfl rfl ?_
    refine go_sget (pc' := 2) (v := .int 1) hS rfl rfl rfl (by decide) h207 rfl ?_
    refine go_ifP (t' := 12) (pc' := 3) rfl rfl rfl (fun (c : (1 : Int32) = 0) => absurd c (by decide)) (fun _ => ?_)
    refine go_s (pc' := 4) rfl rfl rfl rfl ?_
    refine go_s (pc' := 5) rfl rfl rfl rfl ?_
    refine go_s (pc' := 6) (st' := [.int 3, .ref 60, .ref 1]) rfl rfl rfl rfl ?_
    have hD13 : CD w e m0 h I Q Z X ow sb := CD_I (CD_fr hD hF1) ⟨rfl, rfl, rfl, rfl, rfl, rfl, rfl, rfl, rfl, rfl, rfl, rfl, rfl, rfl, rfl⟩
    have hB14 : co h I ≤ B + 0 := by
      have := co_fr (I := I) (J := I) hF1 rfl
      have := hB
      omega
    have hC15 : CA w e m0 (B + 0) h (I, Q, Z) := ⟨X, ow, sb, hS, hD13, hB14, fun l hl => Nat.le_trans (hQ l hl) hF1.1⟩
    refine go_callV (pc' := 7) rfl rfl rfl (Nat.le_of_ble_eq_true rfl) rfl (sm_o hS rfl) rfl rfl rfl (cm_sS_2 hC15 (by omega) hv (kd := 3) (by decide) (by omega)) (fun r h16 q17 => ?_)
    obtain ⟨rfl, hC18⟩ := q17
    change CA w e m0 (B + 0 + 20) h16 (msS 2 3 (I, Q, Z)) at hC18
    obtain ⟨X19, ow19, sb19, hS19, hD19, hB19, hQ19⟩ := hC18
    have hW := hD19.1.1
    have hWn : ∀ a, List.length h16 ≤ a → w a = true := fun a ha => (hD19.1.2.1 a ha).1
    have hF20 := fr_refl tbc h16
    have hln : 62 ≤ List.length h16 := sm_len hS19
    refine go_s (pc' := 8) rfl rfl rfl rfl ?_
    refine go_s (pc' := 9) (st' := [.int 1, .ref 60]) rfl rfl rfl rfl ?_
    refine go_sput (pc' := 10) hS19 rfl rfl rfl (by decide) tbc_inj (Nat.le_of_ble_eq_true rfl) rfl (hW _ rfl) rfl (fun h21 hS22 hE23 => ?_)
    have hF24 := fr_trans hF20 (fr_e hE23)
    refine go_s (pc' := 11) (st' := [.int 0]) rfl rfl rfl rfl ?_
    refine go_ret rfl rfl ?_
    have hD25 : CD w e m0 h21 (uI ((msS 2 3 (I, Q, Z))).1 16 2 1) ((msS 2 3 (I, Q, Z))).2.1 ((msS 2 3 (I, Q, Z))).2.2 X19 ow19 sb19 := CD_I (CD_fr hD19 hF24) ⟨rfl, rfl, rfl, rfl, rfl, rfl, rfl, rfl, rfl, rfl, rfl, rfl, rfl, rfl, rfl⟩
    have hB9 : co h21 (uI ((msS 2 3 (I, Q, Z))).1 16 2 1) ≤ B + 20 := by
      have := co_fr (I := ((msS 2 3 (I, Q, Z))).1) (J := (uI ((msS 2 3 (I, Q, Z))).1 16 2 1)) hF24 rfl
      have : co _ ((msS 2 3 (I, Q, Z))).1 ≤ B + 0 + 20 := hB19
      omega
    refine ⟨by rw [if_neg b12], ?_⟩
    unfold mtl
    rw [if_neg b12]
    exact ⟨X19, ow19, sb19, hS22, hD25, hB9, fun l hl => Nat.le_trans (hQ19 l hl) hF24.1⟩
theorem cm_sC_2 {w : Nat → Bool} {d : Nat} {h : am_Hp} {e : Nat} {m0 : mg} {B : Nat} {I : sm_I} {Q : mQ} {Z : mZ} (hC : CA w e m0 B h (I, Q, Z)) (hB2 : B < 2 ^ 29) (hv : lv I 2 = true) (hd : 5 ≤ d) : am_Ev (am_prog w) d 77 [.ref 1, .ref 60] h (fun r h' => r = none ∧ CA w e m0 (B + 0 + 20) h' (msC 2 (I, Q, Z))) := by
  obtain ⟨X, ow, sb, hS, hD, hB, hQ⟩ := hC
  change sm tbc h I X at hS
  change CD w e m0 h I Q Z X ow sb at hD
  change co h I ≤ B at hB
  change ∀ l, l < 16 → (Q l).length ≤ h.length at hQ
  have hW := hD.1.1
  have hWn : ∀ a, List.length h ≤ a → w a = true := fun a ha => (hD.1.2.1 a ha).1
  have hF1 := fr_refl tbc h
  have hln : 62 ≤ List.length h := sm_len hS
  obtain ⟨d, rfl⟩ : ∃ e, d = e + 1 := ⟨d - 1, by omega⟩
  refine ev_go rfl (Nat.le_of_ble_eq_true rfl) rfl ?_
  refine go_s (pc' := 1) rfl rfl rfl rfl ?_
  refine go_s (pc' := 2) (st' := [.int 1, .ref 60]) rfl rfl rfl rfl ?_
  refine go_sput (pc' := 3) hS rfl rfl rfl (by decide) tbc_inj (Nat.le_of_ble_eq_true rfl) rfl (hW _ rfl) rfl (fun h2 hS3 hE4 => ?_)
  have hF5 := fr_trans hF1 (fr_e hE4)
  refine go_s (pc' := 4) rfl rfl rfl rfl ?_
  refine go_s (pc' := 5) (st' := [.int 0, .ref 60]) rfl rfl rfl rfl ?_
  refine go_sput (pc' := 6) hS3 rfl rfl rfl (by decide) tbc_inj (Nat.le_of_ble_eq_true rfl) rfl (hW _ rfl) rfl (fun h6 hS7 hE8 => ?_)
  have hF9 := fr_trans hF5 (fr_e hE8)
  refine go_s (pc' := 7) rfl rfl rfl rfl ?_
  refine go_s (pc' := 8) rfl rfl rfl rfl ?_
  refine go_s (pc' := 9) (st' := [.int 4, .ref 60, .ref 1]) rfl rfl rfl rfl ?_
  have hD10 : CD w e m0 h6 (uI (uI I 13 2 1) 14 2 0) Q Z X ow sb := CD_I (CD_fr hD hF9) ⟨rfl, rfl, rfl, rfl, rfl, rfl, rfl, rfl, rfl, rfl, rfl, rfl, rfl, rfl, rfl⟩
  have hB11 : co h6 (uI (uI I 13 2 1) 14 2 0) ≤ B + 0 := by
    have := co_fr (I := I) (J := (uI (uI I 13 2 1) 14 2 0)) hF9 rfl
    have := hB
    omega
  have hC12 : CA w e m0 (B + 0) h6 ((uI (uI I 13 2 1) 14 2 0), Q, Z) := ⟨X, ow, sb, hS7, hD10, hB11, fun l hl => Nat.le_trans (hQ l hl) hF9.1⟩
  refine go_callV (pc' := 10) rfl rfl rfl (Nat.le_of_ble_eq_true rfl) rfl (sm_o hS7 rfl) rfl rfl rfl (cm_sS_2 hC12 (by omega) hv (kd := 4) (by decide) (by omega)) (fun r h13 q14 => ?_)
  obtain ⟨rfl, hC15⟩ := q14
  change CA w e m0 (B + 0 + 20) h13 (msS 2 4 ((uI (uI I 13 2 1) 14 2 0), Q, Z)) at hC15
  obtain ⟨X16, ow16, sb16, hS16, hD16, hB16, hQ16⟩ := hC15
  have hW := hD16.1.1
  have hWn : ∀ a, List.length h13 ≤ a → w a = true := fun a ha => (hD16.1.2.1 a ha).1
  have hF17 := fr_refl tbc h13
  have hln : 62 ≤ List.length h13 := sm_len hS16
  refine go_ret rfl rfl ?_
  exact ⟨rfl, ⟨X16, ow16, sb16, hS16, hD16, hB16, hQ16⟩⟩
theorem ct_isOpen_0 {w : Nat → Bool} {d : Nat} {h : am_Hp} {I : sm_I} {X : sm_X} (hS : sm tbc h I X) {ow : ow_T} {r9 : Nat → Int32} (htr : TR h ow 0 (X 211 0) (X 212 0) r9) (hd : 1 ≤ d) : am_Ev (am_prog w) d 13 [.ref 59] h (fun r h' => r = some (.int (if r9 1 = 1 then 1 else 0)) ∧ h' = h) := by
  obtain ⟨d, rfl⟩ : ∃ e, d = e + 1 := ⟨d - 1, by omega⟩
  refine ev_go rfl (Nat.le_of_ble_eq_true rfl) rfl ?_
  rcases htr with ⟨t1, t2, t3, t4, t5, t6⟩ | ⟨q, kq, t2, t4, t5, t6, q0, q1, q2, q3, q4, q5, q6⟩ | ⟨q, s, kq, ks, t5, t6, s2, s3, s4, s5, q0, q1, q2, t7⟩
  · skip
    refine go_s (pc' := 1) rfl rfl rfl rfl ?_
    refine go_sget (pc' := 2) (v := .null) hS rfl rfl rfl (by decide) t1 rfl ?_
    refine go_s (pc' := 15) rfl rfl rfl rfl ?_
    refine go_s (pc' := 16) (st' := [.int 0]) rfl rfl rfl rfl ?_
    refine go_ret rfl rfl ?_
    exact ⟨by rw [if_neg (by rw [t4]; decide)], rfl⟩
  · skip
    obtain ⟨a, e211, oa, ha⟩ := id kq
    refine go_s (pc' := 1) rfl rfl rfl rfl ?_
    refine go_sget (pc' := 2) (v := .ref a) hS rfl rfl rfl (by decide) e211 rfl ?_
    refine go_s (pc' := 3) rfl rfl rfl rfl ?_
    refine go_s (pc' := 4) rfl rfl rfl rfl ?_
    refine go_sget (pc' := 5) (v := .null) hS rfl rfl rfl (by decide) t2 rfl ?_
    refine go_s (pc' := 13) rfl rfl rfl rfl ?_
    refine go_s (pc' := 14) (st' := [.int 1]) rfl rfl rfl rfl ?_
    refine go_s (pc' := 16) rfl rfl rfl rfl ?_
    refine go_ret rfl rfl ?_
    exact ⟨by rw [if_pos t4], rfl⟩
  · skip
    rcases t7 with ⟨t4, t7⟩ | ⟨t4, t7, q3, q4, q5, q6⟩
    · skip
      obtain ⟨a, e211, oa, ha⟩ := id kq
      obtain ⟨b, e212, ob, hb⟩ := id ks
      refine go_s (pc' := 1) rfl rfl rfl rfl ?_
      refine go_sget (pc' := 2) (v := .ref a) hS rfl rfl rfl (by decide) e211 rfl ?_
      refine go_s (pc' := 3) rfl rfl rfl rfl ?_
      refine go_s (pc' := 4) rfl rfl rfl rfl ?_
      refine go_sget (pc' := 5) (v := .ref b) hS rfl rfl rfl (by decide) e212 rfl ?_
      refine go_s (pc' := 6) rfl rfl rfl rfl ?_
      refine go_s (pc' := 7) rfl rfl rfl rfl ?_
      refine go_sget (pc' := 8) (v := .ref b) hS rfl rfl rfl (by decide) e212 rfl ?_
      refine go_get (pc' := 9) rfl hb rfl (by decide) rfl rfl ?_
      refine go_s (pc' := 10) rfl rfl rfl rfl ?_
      refine go_sget (pc' := 11) (v := .ref a) hS rfl rfl rfl (by decide) e211 rfl ?_
      refine go_get (pc' := 12) rfl ha rfl (by decide) rfl rfl ?_
      refine go_icmpP (t' := 15) (pc' := 13) rfl rfl rfl (fun _ => ?_) (fun (c : ¬ ((s 2) = (q 2))) => absurd (by rw [s2, q2]; exact t7) c)
      refine go_s (pc' := 16) (st' := [.int 0]) rfl rfl rfl rfl ?_
      refine go_ret rfl rfl ?_
      exact ⟨by rw [if_neg (by rw [t4]; decide)], rfl⟩
    · skip
      obtain ⟨a, e211, oa, ha⟩ := id kq
      obtain ⟨b, e212, ob, hb⟩ := id ks
      refine go_s (pc' := 1) rfl rfl rfl rfl ?_
      refine go_sget (pc' := 2) (v := .ref a) hS rfl rfl rfl (by decide) e211 rfl ?_
      refine go_s (pc' := 3) rfl rfl rfl rfl ?_
      refine go_s (pc' := 4) rfl rfl rfl rfl ?_
      refine go_sget (pc' := 5) (v := .ref b) hS rfl rfl rfl (by decide) e212 rfl ?_
      refine go_s (pc' := 6) rfl rfl rfl rfl ?_
      refine go_s (pc' := 7) rfl rfl rfl rfl ?_
      refine go_sget (pc' := 8) (v := .ref b) hS rfl rfl rfl (by decide) e212 rfl ?_
      refine go_get (pc' := 9) rfl hb rfl (by decide) rfl rfl ?_
      refine go_s (pc' := 10) rfl rfl rfl rfl ?_
      refine go_sget (pc' := 11) (v := .ref a) hS rfl rfl rfl (by decide) e211 rfl ?_
      refine go_get (pc' := 12) rfl ha rfl (by decide) rfl rfl ?_
      refine go_icmpP (t' := 15) (pc' := 13) rfl rfl rfl (fun (c : (s 2) = (q 2)) => absurd c (by rw [s2, q2]; exact t7)) (fun _ => ?_)
      refine go_s (pc' := 14) (st' := [.int 1]) rfl rfl rfl rfl ?_
      refine go_s (pc' := 16) rfl rfl rfl rfl ?_
      refine go_ret rfl rfl ?_
      exact ⟨by rw [if_pos t4], rfl⟩
theorem ct_latest_0 {w : Nat → Bool} {d : Nat} {h : am_Hp} {I : sm_I} {X : sm_X} (hS : sm tbc h I X) {ow : ow_T} {r9 : Nat → Int32} (htr : TR h ow 0 (X 211 0) (X 212 0) r9) (hd : 1 ≤ d) : am_Ev (am_prog w) d 14 [.ref 59] h (fun r h' => r = some (.int (r9 0)) ∧ h' = h) := by
  obtain ⟨d, rfl⟩ : ∃ e, d = e + 1 := ⟨d - 1, by omega⟩
  refine ev_go rfl (Nat.le_of_ble_eq_true rfl) rfl ?_
  rcases htr with ⟨t1, t2, t3, t4, t5, t6⟩ | ⟨q, kq, t2, t4, t5, t6, q0, q1, q2, q3, q4, q5, q6⟩ | ⟨q, s, kq, ks, t5, t6, s2, s3, s4, s5, q0, q1, q2, t7⟩
  · skip
    refine go_s (pc' := 1) rfl rfl rfl rfl ?_
    refine go_sget (pc' := 2) (v := .null) hS rfl rfl rfl (by decide) t1 rfl ?_
    refine go_s (pc' := 3) rfl rfl rfl rfl ?_
    refine go_s (pc' := 4) (st' := [.int 0]) rfl rfl rfl rfl ?_
    refine go_s (pc' := 8) rfl rfl rfl rfl ?_
    refine go_ret rfl rfl ?_
    exact ⟨by rw [t3], rfl⟩
  · skip
    obtain ⟨a, e211, oa, ha⟩ := id kq
    refine go_s (pc' := 1) rfl rfl rfl rfl ?_
    refine go_sget (pc' := 2) (v := .ref a) hS rfl rfl rfl (by decide) e211 rfl ?_
    refine go_s (pc' := 5) rfl rfl rfl rfl ?_
    refine go_s (pc' := 6) rfl rfl rfl rfl ?_
    refine go_sget (pc' := 7) (v := .ref a) hS rfl rfl rfl (by decide) e211 rfl ?_
    refine go_get (pc' := 8) rfl ha rfl (by decide) rfl rfl ?_
    refine go_ret rfl rfl ?_
    exact ⟨by rw [← q2], rfl⟩
  · skip
    rcases t7 with ⟨t4, t7⟩ | ⟨t4, t7, q3, q4, q5, q6⟩
    · skip
      obtain ⟨a, e211, oa, ha⟩ := id kq
      obtain ⟨b, e212, ob, hb⟩ := id ks
      refine go_s (pc' := 1) rfl rfl rfl rfl ?_
      refine go_sget (pc' := 2) (v := .ref a) hS rfl rfl rfl (by decide) e211 rfl ?_
      refine go_s (pc' := 5) rfl rfl rfl rfl ?_
      refine go_s (pc' := 6) rfl rfl rfl rfl ?_
      refine go_sget (pc' := 7) (v := .ref a) hS rfl rfl rfl (by decide) e211 rfl ?_
      refine go_get (pc' := 8) rfl ha rfl (by decide) rfl rfl ?_
      refine go_ret rfl rfl ?_
      exact ⟨by rw [← q2], rfl⟩
    · skip
      obtain ⟨a, e211, oa, ha⟩ := id kq
      obtain ⟨b, e212, ob, hb⟩ := id ks
      refine go_s (pc' := 1) rfl rfl rfl rfl ?_
      refine go_sget (pc' := 2) (v := .ref a) hS rfl rfl rfl (by decide) e211 rfl ?_
      refine go_s (pc' := 5) rfl rfl rfl rfl ?_
      refine go_s (pc' := 6) rfl rfl rfl rfl ?_
      refine go_sget (pc' := 7) (v := .ref a) hS rfl rfl rfl (by decide) e211 rfl ?_
      refine go_get (pc' := 8) rfl ha rfl (by decide) rfl rfl ?_
      refine go_ret rfl rfl ?_
      exact ⟨by rw [← q2], rfl⟩
theorem ct_epoch_0 {w : Nat → Bool} {d : Nat} {h : am_Hp} {I : sm_I} {X : sm_X} (hS : sm tbc h I X) {ow : ow_T} {r9 : Nat → Int32} (htr : TR h ow 0 (X 211 0) (X 212 0) r9) (hinc : r9 11 = I 17 0) (hd : 1 ≤ d) : am_Ev (am_prog w) d 15 [.ref 59] h (fun r h' => r = some (.int (r9 5)) ∧ h' = h) := by
  obtain ⟨d, rfl⟩ : ∃ e, d = e + 1 := ⟨d - 1, by omega⟩
  refine ev_go rfl (Nat.le_of_ble_eq_true rfl) rfl ?_
  rcases htr with ⟨t1, t2, t3, t4, t5, t6⟩ | ⟨q, kq, t2, t4, t5, t6, q0, q1, q2, q3, q4, q5, q6⟩ | ⟨q, s, kq, ks, t5, t6, s2, s3, s4, s5, q0, q1, q2, t7⟩
  · skip
    refine go_s (pc' := 1) rfl rfl rfl rfl ?_
    refine go_sget (pc' := 2) (v := .null) hS rfl rfl rfl (by decide) t2 rfl ?_
    refine go_s (pc' := 7) rfl rfl rfl rfl ?_
    refine go_s (pc' := 8) rfl rfl rfl rfl ?_
    refine go_sget (pc' := 9) (v := .int (I 17 0)) hS rfl rfl rfl (by decide) rfl rfl ?_
    refine go_ifP (t' := 12) (pc' := 10) rfl rfl rfl (fun (c1 : ¬ (I 17 0) = 0) => ?_) (fun (c1' : ¬ ¬ (I 17 0) = 0) => ?_)
    · skip
      refine go_s (pc' := 13) (st' := [.int (-1)]) rfl rfl rfl rfl ?_
      refine go_ret rfl rfl ?_
      exact ⟨by rw [t6, hinc, if_neg c1], rfl⟩
    · skip
      have c1 : (I 17 0) = 0 := Decidable.not_not.mp c1'
      refine go_s (pc' := 11) (st' := [.int 1]) rfl rfl rfl rfl ?_
      refine go_s (pc' := 13) rfl rfl rfl rfl ?_
      refine go_ret rfl rfl ?_
      exact ⟨by rw [t6, hinc, if_pos c1], rfl⟩
  · skip
    obtain ⟨a, e211, oa, ha⟩ := id kq
    refine go_s (pc' := 1) rfl rfl rfl rfl ?_
    refine go_sget (pc' := 2) (v := .null) hS rfl rfl rfl (by decide) t2 rfl ?_
    refine go_s (pc' := 7) rfl rfl rfl rfl ?_
    refine go_s (pc' := 8) rfl rfl rfl rfl ?_
    refine go_sget (pc' := 9) (v := .int (I 17 0)) hS rfl rfl rfl (by decide) rfl rfl ?_
    refine go_ifP (t' := 12) (pc' := 10) rfl rfl rfl (fun (c2 : ¬ (I 17 0) = 0) => ?_) (fun (c2' : ¬ ¬ (I 17 0) = 0) => ?_)
    · skip
      refine go_s (pc' := 13) (st' := [.int (-1)]) rfl rfl rfl rfl ?_
      refine go_ret rfl rfl ?_
      exact ⟨by rw [t6, hinc, if_neg c2], rfl⟩
    · skip
      have c2 : (I 17 0) = 0 := Decidable.not_not.mp c2'
      refine go_s (pc' := 11) (st' := [.int 1]) rfl rfl rfl rfl ?_
      refine go_s (pc' := 13) rfl rfl rfl rfl ?_
      refine go_ret rfl rfl ?_
      exact ⟨by rw [t6, hinc, if_pos c2], rfl⟩
  · skip
    rcases t7 with ⟨t4, t7⟩ | ⟨t4, t7, q3, q4, q5, q6⟩
    · skip
      obtain ⟨a, e211, oa, ha⟩ := id kq
      obtain ⟨b, e212, ob, hb⟩ := id ks
      refine go_s (pc' := 1) rfl rfl rfl rfl ?_
      refine go_sget (pc' := 2) (v := .ref b) hS rfl rfl rfl (by decide) e212 rfl ?_
      refine go_s (pc' := 3) rfl rfl rfl rfl ?_
      refine go_s (pc' := 4) rfl rfl rfl rfl ?_
      refine go_sget (pc' := 5) (v := .ref b) hS rfl rfl rfl (by decide) e212 rfl ?_
      refine go_get (pc' := 6) rfl hb rfl (by decide) rfl rfl ?_
      refine go_ret rfl rfl ?_
      exact ⟨by rw [t6, ← s5], rfl⟩
    · skip
      obtain ⟨a, e211, oa, ha⟩ := id kq
      obtain ⟨b, e212, ob, hb⟩ := id ks
      refine go_s (pc' := 1) rfl rfl rfl rfl ?_
      refine go_sget (pc' := 2) (v := .ref b) hS rfl rfl rfl (by decide) e212 rfl ?_
      refine go_s (pc' := 3) rfl rfl rfl rfl ?_
      refine go_s (pc' := 4) rfl rfl rfl rfl ?_
      refine go_sget (pc' := 5) (v := .ref b) hS rfl rfl rfl (by decide) e212 rfl ?_
      refine go_get (pc' := 6) rfl hb rfl (by decide) rfl rfl ?_
      refine go_ret rfl rfl ?_
      exact ⟨by rw [t6, ← s5], rfl⟩
theorem ct_isOpen_1 {w : Nat → Bool} {d : Nat} {h : am_Hp} {I : sm_I} {X : sm_X} (hS : sm tbc h I X) {ow : ow_T} {r9 : Nat → Int32} (htr : TR h ow 1 (X 211 1) (X 212 1) r9) (hd : 1 ≤ d) : am_Ev (am_prog w) d 13 [.ref 60] h (fun r h' => r = some (.int (if r9 1 = 1 then 1 else 0)) ∧ h' = h) := by
  obtain ⟨d, rfl⟩ : ∃ e, d = e + 1 := ⟨d - 1, by omega⟩
  refine ev_go rfl (Nat.le_of_ble_eq_true rfl) rfl ?_
  rcases htr with ⟨t1, t2, t3, t4, t5, t6⟩ | ⟨q, kq, t2, t4, t5, t6, q0, q1, q2, q3, q4, q5, q6⟩ | ⟨q, s, kq, ks, t5, t6, s2, s3, s4, s5, q0, q1, q2, t7⟩
  · skip
    refine go_s (pc' := 1) rfl rfl rfl rfl ?_
    refine go_sget (pc' := 2) (v := .null) hS rfl rfl rfl (by decide) t1 rfl ?_
    refine go_s (pc' := 15) rfl rfl rfl rfl ?_
    refine go_s (pc' := 16) (st' := [.int 0]) rfl rfl rfl rfl ?_
    refine go_ret rfl rfl ?_
    exact ⟨by rw [if_neg (by rw [t4]; decide)], rfl⟩
  · skip
    obtain ⟨a, e211, oa, ha⟩ := id kq
    refine go_s (pc' := 1) rfl rfl rfl rfl ?_
    refine go_sget (pc' := 2) (v := .ref a) hS rfl rfl rfl (by decide) e211 rfl ?_
    refine go_s (pc' := 3) rfl rfl rfl rfl ?_
    refine go_s (pc' := 4) rfl rfl rfl rfl ?_
    refine go_sget (pc' := 5) (v := .null) hS rfl rfl rfl (by decide) t2 rfl ?_
    refine go_s (pc' := 13) rfl rfl rfl rfl ?_
    refine go_s (pc' := 14) (st' := [.int 1]) rfl rfl rfl rfl ?_
    refine go_s (pc' := 16) rfl rfl rfl rfl ?_
    refine go_ret rfl rfl ?_
    exact ⟨by rw [if_pos t4], rfl⟩
  · skip
    rcases t7 with ⟨t4, t7⟩ | ⟨t4, t7, q3, q4, q5, q6⟩
    · skip
      obtain ⟨a, e211, oa, ha⟩ := id kq
      obtain ⟨b, e212, ob, hb⟩ := id ks
      refine go_s (pc' := 1) rfl rfl rfl rfl ?_
      refine go_sget (pc' := 2) (v := .ref a) hS rfl rfl rfl (by decide) e211 rfl ?_
      refine go_s (pc' := 3) rfl rfl rfl rfl ?_
      refine go_s (pc' := 4) rfl rfl rfl rfl ?_
      refine go_sget (pc' := 5) (v := .ref b) hS rfl rfl rfl (by decide) e212 rfl ?_
      refine go_s (pc' := 6) rfl rfl rfl rfl ?_
      refine go_s (pc' := 7) rfl rfl rfl rfl ?_
      refine go_sget (pc' := 8) (v := .ref b) hS rfl rfl rfl (by decide) e212 rfl ?_
      refine go_get (pc' := 9) rfl hb rfl (by decide) rfl rfl ?_
      refine go_s (pc' := 10) rfl rfl rfl rfl ?_
      refine go_sget (pc' := 11) (v := .ref a) hS rfl rfl rfl (by decide) e211 rfl ?_
      refine go_get (pc' := 12) rfl ha rfl (by decide) rfl rfl ?_
      refine go_icmpP (t' := 15) (pc' := 13) rfl rfl rfl (fun _ => ?_) (fun (c : ¬ ((s 2) = (q 2))) => absurd (by rw [s2, q2]; exact t7) c)
      refine go_s (pc' := 16) (st' := [.int 0]) rfl rfl rfl rfl ?_
      refine go_ret rfl rfl ?_
      exact ⟨by rw [if_neg (by rw [t4]; decide)], rfl⟩
    · skip
      obtain ⟨a, e211, oa, ha⟩ := id kq
      obtain ⟨b, e212, ob, hb⟩ := id ks
      refine go_s (pc' := 1) rfl rfl rfl rfl ?_
      refine go_sget (pc' := 2) (v := .ref a) hS rfl rfl rfl (by decide) e211 rfl ?_
      refine go_s (pc' := 3) rfl rfl rfl rfl ?_
      refine go_s (pc' := 4) rfl rfl rfl rfl ?_
      refine go_sget (pc' := 5) (v := .ref b) hS rfl rfl rfl (by decide) e212 rfl ?_
      refine go_s (pc' := 6) rfl rfl rfl rfl ?_
      refine go_s (pc' := 7) rfl rfl rfl rfl ?_
      refine go_sget (pc' := 8) (v := .ref b) hS rfl rfl rfl (by decide) e212 rfl ?_
      refine go_get (pc' := 9) rfl hb rfl (by decide) rfl rfl ?_
      refine go_s (pc' := 10) rfl rfl rfl rfl ?_
      refine go_sget (pc' := 11) (v := .ref a) hS rfl rfl rfl (by decide) e211 rfl ?_
      refine go_get (pc' := 12) rfl ha rfl (by decide) rfl rfl ?_
      refine go_icmpP (t' := 15) (pc' := 13) rfl rfl rfl (fun (c : (s 2) = (q 2)) => absurd c (by rw [s2, q2]; exact t7)) (fun _ => ?_)
      refine go_s (pc' := 14) (st' := [.int 1]) rfl rfl rfl rfl ?_
      refine go_s (pc' := 16) rfl rfl rfl rfl ?_
      refine go_ret rfl rfl ?_
      exact ⟨by rw [if_pos t4], rfl⟩
theorem ct_latest_1 {w : Nat → Bool} {d : Nat} {h : am_Hp} {I : sm_I} {X : sm_X} (hS : sm tbc h I X) {ow : ow_T} {r9 : Nat → Int32} (htr : TR h ow 1 (X 211 1) (X 212 1) r9) (hd : 1 ≤ d) : am_Ev (am_prog w) d 14 [.ref 60] h (fun r h' => r = some (.int (r9 0)) ∧ h' = h) := by
  obtain ⟨d, rfl⟩ : ∃ e, d = e + 1 := ⟨d - 1, by omega⟩
  refine ev_go rfl (Nat.le_of_ble_eq_true rfl) rfl ?_
  rcases htr with ⟨t1, t2, t3, t4, t5, t6⟩ | ⟨q, kq, t2, t4, t5, t6, q0, q1, q2, q3, q4, q5, q6⟩ | ⟨q, s, kq, ks, t5, t6, s2, s3, s4, s5, q0, q1, q2, t7⟩
  · skip
    refine go_s (pc' := 1) rfl rfl rfl rfl ?_
    refine go_sget (pc' := 2) (v := .null) hS rfl rfl rfl (by decide) t1 rfl ?_
    refine go_s (pc' := 3) rfl rfl rfl rfl ?_
    refine go_s (pc' := 4) (st' := [.int 0]) rfl rfl rfl rfl ?_
    refine go_s (pc' := 8) rfl rfl rfl rfl ?_
    refine go_ret rfl rfl ?_
    exact ⟨by rw [t3], rfl⟩
  · skip
    obtain ⟨a, e211, oa, ha⟩ := id kq
    refine go_s (pc' := 1) rfl rfl rfl rfl ?_
    refine go_sget (pc' := 2) (v := .ref a) hS rfl rfl rfl (by decide) e211 rfl ?_
    refine go_s (pc' := 5) rfl rfl rfl rfl ?_
    refine go_s (pc' := 6) rfl rfl rfl rfl ?_
    refine go_sget (pc' := 7) (v := .ref a) hS rfl rfl rfl (by decide) e211 rfl ?_
    refine go_get (pc' := 8) rfl ha rfl (by decide) rfl rfl ?_
    refine go_ret rfl rfl ?_
    exact ⟨by rw [← q2], rfl⟩
  · skip
    rcases t7 with ⟨t4, t7⟩ | ⟨t4, t7, q3, q4, q5, q6⟩
    · skip
      obtain ⟨a, e211, oa, ha⟩ := id kq
      obtain ⟨b, e212, ob, hb⟩ := id ks
      refine go_s (pc' := 1) rfl rfl rfl rfl ?_
      refine go_sget (pc' := 2) (v := .ref a) hS rfl rfl rfl (by decide) e211 rfl ?_
      refine go_s (pc' := 5) rfl rfl rfl rfl ?_
      refine go_s (pc' := 6) rfl rfl rfl rfl ?_
      refine go_sget (pc' := 7) (v := .ref a) hS rfl rfl rfl (by decide) e211 rfl ?_
      refine go_get (pc' := 8) rfl ha rfl (by decide) rfl rfl ?_
      refine go_ret rfl rfl ?_
      exact ⟨by rw [← q2], rfl⟩
    · skip
      obtain ⟨a, e211, oa, ha⟩ := id kq
      obtain ⟨b, e212, ob, hb⟩ := id ks
      refine go_s (pc' := 1) rfl rfl rfl rfl ?_
      refine go_sget (pc' := 2) (v := .ref a) hS rfl rfl rfl (by decide) e211 rfl ?_
      refine go_s (pc' := 5) rfl rfl rfl rfl ?_
      refine go_s (pc' := 6) rfl rfl rfl rfl ?_
      refine go_sget (pc' := 7) (v := .ref a) hS rfl rfl rfl (by decide) e211 rfl ?_
      refine go_get (pc' := 8) rfl ha rfl (by decide) rfl rfl ?_
      refine go_ret rfl rfl ?_
      exact ⟨by rw [← q2], rfl⟩
theorem ct_epoch_1 {w : Nat → Bool} {d : Nat} {h : am_Hp} {I : sm_I} {X : sm_X} (hS : sm tbc h I X) {ow : ow_T} {r9 : Nat → Int32} (htr : TR h ow 1 (X 211 1) (X 212 1) r9) (hinc : r9 11 = I 17 1) (hd : 1 ≤ d) : am_Ev (am_prog w) d 15 [.ref 60] h (fun r h' => r = some (.int (r9 5)) ∧ h' = h) := by
  obtain ⟨d, rfl⟩ : ∃ e, d = e + 1 := ⟨d - 1, by omega⟩
  refine ev_go rfl (Nat.le_of_ble_eq_true rfl) rfl ?_
  rcases htr with ⟨t1, t2, t3, t4, t5, t6⟩ | ⟨q, kq, t2, t4, t5, t6, q0, q1, q2, q3, q4, q5, q6⟩ | ⟨q, s, kq, ks, t5, t6, s2, s3, s4, s5, q0, q1, q2, t7⟩
  · skip
    refine go_s (pc' := 1) rfl rfl rfl rfl ?_
    refine go_sget (pc' := 2) (v := .null) hS rfl rfl rfl (by decide) t2 rfl ?_
    refine go_s (pc' := 7) rfl rfl rfl rfl ?_
    refine go_s (pc' := 8) rfl rfl rfl rfl ?_
    refine go_sget (pc' := 9) (v := .int (I 17 1)) hS rfl rfl rfl (by decide) rfl rfl ?_
    refine go_ifP (t' := 12) (pc' := 10) rfl rfl rfl (fun (c1 : ¬ (I 17 1) = 0) => ?_) (fun (c1' : ¬ ¬ (I 17 1) = 0) => ?_)
    · skip
      refine go_s (pc' := 13) (st' := [.int (-1)]) rfl rfl rfl rfl ?_
      refine go_ret rfl rfl ?_
      exact ⟨by rw [t6, hinc, if_neg c1], rfl⟩
    · skip
      have c1 : (I 17 1) = 0 := Decidable.not_not.mp c1'
      refine go_s (pc' := 11) (st' := [.int 1]) rfl rfl rfl rfl ?_
      refine go_s (pc' := 13) rfl rfl rfl rfl ?_
      refine go_ret rfl rfl ?_
      exact ⟨by rw [t6, hinc, if_pos c1], rfl⟩
  · skip
    obtain ⟨a, e211, oa, ha⟩ := id kq
    refine go_s (pc' := 1) rfl rfl rfl rfl ?_
    refine go_sget (pc' := 2) (v := .null) hS rfl rfl rfl (by decide) t2 rfl ?_
    refine go_s (pc' := 7) rfl rfl rfl rfl ?_
    refine go_s (pc' := 8) rfl rfl rfl rfl ?_
    refine go_sget (pc' := 9) (v := .int (I 17 1)) hS rfl rfl rfl (by decide) rfl rfl ?_
    refine go_ifP (t' := 12) (pc' := 10) rfl rfl rfl (fun (c2 : ¬ (I 17 1) = 0) => ?_) (fun (c2' : ¬ ¬ (I 17 1) = 0) => ?_)
    · skip
      refine go_s (pc' := 13) (st' := [.int (-1)]) rfl rfl rfl rfl ?_
      refine go_ret rfl rfl ?_
      exact ⟨by rw [t6, hinc, if_neg c2], rfl⟩
    · skip
      have c2 : (I 17 1) = 0 := Decidable.not_not.mp c2'
      refine go_s (pc' := 11) (st' := [.int 1]) rfl rfl rfl rfl ?_
      refine go_s (pc' := 13) rfl rfl rfl rfl ?_
      refine go_ret rfl rfl ?_
      exact ⟨by rw [t6, hinc, if_pos c2], rfl⟩
  · skip
    rcases t7 with ⟨t4, t7⟩ | ⟨t4, t7, q3, q4, q5, q6⟩
    · skip
      obtain ⟨a, e211, oa, ha⟩ := id kq
      obtain ⟨b, e212, ob, hb⟩ := id ks
      refine go_s (pc' := 1) rfl rfl rfl rfl ?_
      refine go_sget (pc' := 2) (v := .ref b) hS rfl rfl rfl (by decide) e212 rfl ?_
      refine go_s (pc' := 3) rfl rfl rfl rfl ?_
      refine go_s (pc' := 4) rfl rfl rfl rfl ?_
      refine go_sget (pc' := 5) (v := .ref b) hS rfl rfl rfl (by decide) e212 rfl ?_
      refine go_get (pc' := 6) rfl hb rfl (by decide) rfl rfl ?_
      refine go_ret rfl rfl ?_
      exact ⟨by rw [t6, ← s5], rfl⟩
    · skip
      obtain ⟨a, e211, oa, ha⟩ := id kq
      obtain ⟨b, e212, ob, hb⟩ := id ks
      refine go_s (pc' := 1) rfl rfl rfl rfl ?_
      refine go_sget (pc' := 2) (v := .ref b) hS rfl rfl rfl (by decide) e212 rfl ?_
      refine go_s (pc' := 3) rfl rfl rfl rfl ?_
      refine go_s (pc' := 4) rfl rfl rfl rfl ?_
      refine go_sget (pc' := 5) (v := .ref b) hS rfl rfl rfl (by decide) e212 rfl ?_
      refine go_get (pc' := 6) rfl hb rfl (by decide) rfl rfl ?_
      refine go_ret rfl rfl ?_
      exact ⟨by rw [t6, ← s5], rfl⟩
theorem cm_go_0 {w : Nat → Bool} {d : Nat} {h : am_Hp} {e : Nat} {m0 : mg} {B : Nat} {I : sm_I} {Q : mQ} {Z : mZ} (hC : CA w e m0 B h (I, Q, Z)) (hB2 : B < 2 ^ 29) (hv : lv I 1 = true) (hd : 4 ≤ d) : am_Ev (am_prog w) d 29 [.ref 1, .ref 59] h (fun r h' => r = none ∧ CA w e m0 (B + 20) h' (mgo 0 (I, Q, Z))) := by
  obtain ⟨X, ow, sb, hS, hD, hB, hQ⟩ := hC
  change sm tbc h I X at hS
  change CD w e m0 h I Q Z X ow sb at hD
  change co h I ≤ B at hB
  change ∀ l, l < 16 → (Q l).length ≤ h.length at hQ
  have hW := hD.1.1
  have hWn : ∀ a, List.length h ≤ a → w a = true := fun a ha => (hD.1.2.1 a ha).1
  have hF1 := fr_refl tbc h
  have hln : 62 ≤ List.length h := sm_len hS
  obtain ⟨d, rfl⟩ : ∃ e, d = e + 1 := ⟨d - 1, by omega⟩
  refine ev_go rfl (Nat.le_of_ble_eq_true rfl) rfl ?_
  have htr := (hD.2.2.2.2.2.1 0 (by decide)).1 hv
  change TR h ow 0 (X 211 0) (X 212 0) (row1 (I, Q, Z) (1 + 0)) at htr
  have hD0 := hD
  rcases id htr with ⟨t1, t2, t3, t4, t5, t6⟩ | ⟨q, kq, t2, t4, t5, t6, q0, q1, q2, q3, q4, q5, q6⟩ | ⟨q, s, kq, ks, t5, t6, s2, s3, s4, s5, q0, q1, q2, t7⟩
  · skip
    refine go_s (pc' := 1) rfl rfl rfl rfl ?_
    refine go_callV (pc' := 2) rfl rfl rfl (Nat.le_of_ble_eq_true rfl) rfl (sm_o hS rfl) rfl rfl rfl (ct_isOpen_0 hS htr (by omega)) (fun r h2 q3 => ?_)
    obtain ⟨rfl, rfl⟩ := q3
    rw [if_neg (by rw [t4]; decide)]
    refine go_ifP (t' := 14) (pc' := 3) rfl rfl rfl (fun (c : ¬ (0 : Int32) = 0) => absurd c (by decide)) (fun _ => ?_)
    refine go_s (pc' := 4) rfl rfl rfl rfl ?_
    refine go_s (pc' := 5) (st' := [.int 0, .ref 59]) rfl rfl rfl rfl ?_
    refine go_sput (pc' := 6) hS rfl rfl rfl (by decide) tbc_inj (Nat.le_of_ble_eq_true rfl) rfl (hW _ rfl) rfl (fun h4 hS5 hE6 => ?_)
    have hF7 := fr_trans hF1 (fr_e hE6)
    refine go_s (pc' := 7) rfl rfl rfl rfl ?_
    refine go_sget (pc' := 8) (v := .null) hS5 rfl rfl rfl (by decide) t2 rfl ?_
    refine go_s (pc' := 13) rfl rfl rfl rfl ?_
    refine go_ret rfl rfl ?_
    have hD8 : CD w e m0 h4 (uI I 16 1 0) Q Z X ow sb := CD_I (CD_fr hD hF7) ⟨rfl, rfl, rfl, rfl, rfl, rfl, rfl, rfl, rfl, rfl, rfl, rfl, rfl, rfl, rfl⟩
    have hB9 : co h4 (uI I 16 1 0) ≤ B + 0 := by
      have := co_fr (I := I) (J := (uI I 16 1 0)) hF7 rfl
      have := hB
      omega
    have hC10 : CA w e m0 (B + 0) h4 ((uI I 16 1 0), Q, Z) := ⟨X, ow, sb, hS5, hD8, hB9, fun l hl => Nat.le_trans (hQ l hl) hF7.1⟩
    have hms : mgo 0 (I, Q, Z) = ((uI I 16 1 0), Q, Z) := by
      unfold mgo
      rw [if_neg (by rw [t4]; decide), if_neg (by rw [t5]; decide)]
    rw [hms]
    exact ⟨rfl, CA_le hC10 (by omega)⟩
  · skip
    obtain ⟨a, e211, oa, ha⟩ := id kq
    refine go_s (pc' := 1) rfl rfl rfl rfl ?_
    refine go_callV (pc' := 2) rfl rfl rfl (Nat.le_of_ble_eq_true rfl) rfl (sm_o hS rfl) rfl rfl rfl (ct_isOpen_0 hS htr (by omega)) (fun r h11 q12 => ?_)
    obtain ⟨rfl, rfl⟩ := q12
    rw [if_pos t4]
    refine go_ifP (t' := 14) (pc' := 3) rfl rfl rfl (fun _ => ?_) (fun (c : ¬ (¬ (1 : Int32) = 0)) => absurd (by decide) c)
    refine go_s (pc' := 15) rfl rfl rfl rfl ?_
    refine go_s (pc' := 16) (st' := [.int 2, .ref 59]) rfl rfl rfl rfl ?_
    refine go_sput (pc' := 17) hS rfl rfl rfl (by decide) tbc_inj (Nat.le_of_ble_eq_true rfl) rfl (hW _ rfl) rfl (fun h13 hS14 hE15 => ?_)
    have hF16 := fr_trans hF1 (fr_e hE15)
    rcases hD0.2.2.2.2.2.2 0 (by decide) with e0 | e0 | e0
    · skip
      change I 11 0 = -1 at e0
      refine go_s (pc' := 18) rfl rfl rfl rfl ?_
      refine go_sget (pc' := 19) (v := .ref 32) hS14 rfl rfl rfl (by decide) rfl rfl ?_
      refine go_sget (pc' := 20) (v := .int (-1)) hS14 rfl rfl rfl (by decide) (congrArg Value.int e0) rfl ?_
      refine go_s (pc' := 21) (st' := [.int (-1), .int (-1)]) rfl rfl rfl rfl ?_
      refine go_icmpP (t' := 40) (pc' := 22) rfl rfl rfl (fun _ => ?_) (fun (c : ¬ (((-1) : Int32) = (-1))) => absurd (by decide) c)
      refine go_ret rfl rfl ?_
      have hD17 : CD w e m0 h13 (uI I 16 1 2) Q Z X ow sb := CD_I (CD_fr hD hF16) ⟨rfl, rfl, rfl, rfl, rfl, rfl, rfl, rfl, rfl, rfl, rfl, rfl, rfl, rfl, rfl⟩
      have hB18 : co h13 (uI I 16 1 2) ≤ B + 0 := by
        have := co_fr (I := I) (J := (uI I 16 1 2)) hF16 rfl
        have := hB
        omega
      have hC19 : CA w e m0 (B + 0) h13 ((uI I 16 1 2), Q, Z) := ⟨X, ow, sb, hS14, hD17, hB18, fun l hl => Nat.le_trans (hQ l hl) hF16.1⟩
      have hms : mgo 0 (I, Q, Z) = ((uI I 16 1 2), Q, Z) := by
        unfold mgo
        rw [if_pos t4, if_pos (show I 11 0 = -1 from e0)]
      rw [hms]
      exact ⟨rfl, CA_le hC19 (by omega)⟩
    · skip
      change I 11 0 = 0 at e0
      rcases hD0.2.2.2.2.2.2 1 (by decide) with e11 | e11 | e11
      · exact absurd hv (by simp [lv, e11])
      · skip
        change I 11 1 = 2 at e11
        refine go_s (pc' := 18) rfl rfl rfl rfl ?_
        refine go_sget (pc' := 19) (v := .ref 32) hS14 rfl rfl rfl (by decide) rfl rfl ?_
        refine go_sget (pc' := 20) (v := .int 0) hS14 rfl rfl rfl (by decide) (congrArg Value.int e0) rfl ?_
        refine go_s (pc' := 21) (st' := [.int (-1), .int 0]) rfl rfl rfl rfl ?_
        refine go_icmpP (t' := 40) (pc' := 22) rfl rfl rfl (fun (c : (0 : Int32) = (-1)) => absurd c (by decide)) (fun _ => ?_)
        refine go_newF (pc' := 23) (n := 8) rfl rfl rfl rfl (fun L20 h21 hL22 hc23 hg24 => ?_)
        have ge_L20 : _ ≤ L20 := hL22 ▸ hF16.1
        have nb_L20 := tbc_out L20 (by have := sm_len hS14; omega)
        have hS25 := sm_gq hS14 hg24
        have hF26 := fr_gq hF16 hg24
        refine go_s (pc' := 24) rfl rfl rfl rfl ?_
        refine go_s (pc' := 25) (st' := [.int 1, .ref L20, .ref L20]) rfl rfl rfl rfl ?_
        refine go_callI (pc' := 26) rfl rfl rfl (Nat.le_of_ble_eq_true rfl) rfl hc23 rfl rfl rfl (ci_msg hc23 (hWn _ (by omega)) (by omega)) (fun r h27 q28 => ?_)
        obtain ⟨rfl, hc29, hp30⟩ := q28
        have hS31 := sm_pq hS25 hp30 nb_L20
        have hF32 := fr_pq hF26 hp30 (by omega)
        refine go_s (pc' := 27) (lo' := [some (.ref 1), some (.ref 59), some (.ref L20)]) rfl rfl rfl rfl ?_
        refine go_s (pc' := 28) rfl rfl rfl rfl ?_
        refine go_s (pc' := 29) rfl rfl rfl rfl ?_
        refine go_sget (pc' := 30) (v := .ref a) hS31 rfl rfl rfl (by decide) e211 rfl ?_
        refine go_putF (pc' := 31) rfl hc29 rfl (by decide) (Nat.le_of_ble_eq_true rfl) rfl (hWn _ (by omega)) rfl (fun h33 hc34 hp35 => ?_)
        have hS36 := sm_pq hS31 hp35 nb_L20
        have hF37 := fr_pq hF32 hp35 (by omega)
        refine go_s (pc' := 32) rfl rfl rfl rfl ?_
        refine go_sget (pc' := 33) (v := .ref 2) hS36 rfl rfl rfl (by decide) rfl rfl ?_
        refine go_s (pc' := 34) rfl rfl rfl rfl ?_
        refine go_sget (pc' := 35) (v := .int 2) hS36 rfl rfl rfl (by decide) (congrArg Value.int e11) rfl ?_
        refine go_s (pc' := 36) rfl rfl rfl rfl ?_
        refine go_sget (pc' := 37) (v := .ref 32) hS36 rfl rfl rfl (by decide) rfl rfl ?_
        refine go_sget (pc' := 38) (v := .int 0) hS36 rfl rfl rfl (by decide) (congrArg Value.int e0) rfl ?_
        refine go_s (pc' := 39) rfl rfl rfl rfl ?_
        have hms : mgo 0 (I, Q, Z) = msnd 2 0 (mgR 0 (row1 (I, Q, Z) (1 + 0))) ((uI I 16 1 2), Q, Z) := by
          unfold mgo
          rw [if_pos t4, if_neg (show ¬ I 11 0 = -1 by rw [e0]; decide), show pn (I, Q, Z).1 (1 + 0) = 2 by simp [pn, e11], show pn (I, Q, Z).1 0 = 0 by simp [pn, e0]]
        have hD9 : CD w e m0 h33 (uI I 16 1 2) Q Z X ow sb := CD_I (CD_fr hD hF37) ⟨rfl, rfl, rfl, rfl, rfl, rfl, rfl, rfl, rfl, rfl, rfl, rfl, rfl, rfl, rfl⟩
        have hox : ow L20 = 0 := (hD.1.2.1 _ (by omega)).2
        have hmf : Rq h33 ow (.ref a) (fun i => (mgR 0 (row1 (I, Q, Z) (1 + 0))).1 (5 + i)) := Rq_eq (Rq_fr hD.1 hF37 (e211 ▸ kq)) (fun i hi => by
          match i, hi with
          | 0, _ => exact q0.symm
          | 1, _ => exact q1.symm
          | 2, _ => exact q2.symm
          | 3, _ => exact q3.symm
          | 4, _ => exact q4.symm
          | 5, _ => exact q5.symm
          | 6, _ => exact q6.symm)
        have hB9 : co h33 (uI I 16 1 2) ≤ B + 20 := by
          have := co_fr (I := I) (J := (uI I 16 1 2)) hF37 rfl
          omega
        refine go_callV (pc' := 40) rfl rfl rfl (Nat.le_of_ble_eq_true rfl) rfl (sm_o hS36 rfl) rfl rfl rfl (ct_send hS36 hD9 hB9 (fun l hl => by have := hQ l hl; have := lt_of hc34; omega) (by omega) (f := 2) (t := 0) (by decide) (by decide) (by decide) (m := mgR 0 (row1 (I, Q, Z) (1 + 0))) hc34 hox (hWn _ (by omega)) nb_L20 (by omega) (MF_R hmf) (by omega)) (fun r h38 q39 => ?_)
        rw [← hms] at q39
        obtain ⟨rfl, hC9⟩ := q39
        refine go_ret rfl rfl ?_
        exact ⟨rfl, hC9⟩
      · skip
        change I 11 1 = 3 at e11
        refine go_s (pc' := 18) rfl rfl rfl rfl ?_
        refine go_sget (pc' := 19) (v := .ref 32) hS14 rfl rfl rfl (by decide) rfl rfl ?_
        refine go_sget (pc' := 20) (v := .int 0) hS14 rfl rfl rfl (by decide) (congrArg Value.int e0) rfl ?_
        refine go_s (pc' := 21) (st' := [.int (-1), .int 0]) rfl rfl rfl rfl ?_
        refine go_icmpP (t' := 40) (pc' := 22) rfl rfl rfl (fun (c : (0 : Int32) = (-1)) => absurd c (by decide)) (fun _ => ?_)
        refine go_newF (pc' := 23) (n := 8) rfl rfl rfl rfl (fun L40 h41 hL42 hc43 hg44 => ?_)
        have ge_L40 : _ ≤ L40 := hL42 ▸ hF16.1
        have nb_L40 := tbc_out L40 (by have := sm_len hS14; omega)
        have hS45 := sm_gq hS14 hg44
        have hF46 := fr_gq hF16 hg44
        refine go_s (pc' := 24) rfl rfl rfl rfl ?_
        refine go_s (pc' := 25) (st' := [.int 1, .ref L40, .ref L40]) rfl rfl rfl rfl ?_
        refine go_callI (pc' := 26) rfl rfl rfl (Nat.le_of_ble_eq_true rfl) rfl hc43 rfl rfl rfl (ci_msg hc43 (hWn _ (by omega)) (by omega)) (fun r h47 q48 => ?_)
        obtain ⟨rfl, hc49, hp50⟩ := q48
        have hS51 := sm_pq hS45 hp50 nb_L40
        have hF52 := fr_pq hF46 hp50 (by omega)
        refine go_s (pc' := 27) (lo' := [some (.ref 1), some (.ref 59), some (.ref L40)]) rfl rfl rfl rfl ?_
        refine go_s (pc' := 28) rfl rfl rfl rfl ?_
        refine go_s (pc' := 29) rfl rfl rfl rfl ?_
        refine go_sget (pc' := 30) (v := .ref a) hS51 rfl rfl rfl (by decide) e211 rfl ?_
        refine go_putF (pc' := 31) rfl hc49 rfl (by decide) (Nat.le_of_ble_eq_true rfl) rfl (hWn _ (by omega)) rfl (fun h53 hc54 hp55 => ?_)
        have hS56 := sm_pq hS51 hp55 nb_L40
        have hF57 := fr_pq hF52 hp55 (by omega)
        refine go_s (pc' := 32) rfl rfl rfl rfl ?_
        refine go_sget (pc' := 33) (v := .ref 2) hS56 rfl rfl rfl (by decide) rfl rfl ?_
        refine go_s (pc' := 34) rfl rfl rfl rfl ?_
        refine go_sget (pc' := 35) (v := .int 3) hS56 rfl rfl rfl (by decide) (congrArg Value.int e11) rfl ?_
        refine go_s (pc' := 36) rfl rfl rfl rfl ?_
        refine go_sget (pc' := 37) (v := .ref 32) hS56 rfl rfl rfl (by decide) rfl rfl ?_
        refine go_sget (pc' := 38) (v := .int 0) hS56 rfl rfl rfl (by decide) (congrArg Value.int e0) rfl ?_
        refine go_s (pc' := 39) rfl rfl rfl rfl ?_
        have hms : mgo 0 (I, Q, Z) = msnd 3 0 (mgR 0 (row1 (I, Q, Z) (1 + 0))) ((uI I 16 1 2), Q, Z) := by
          unfold mgo
          rw [if_pos t4, if_neg (show ¬ I 11 0 = -1 by rw [e0]; decide), show pn (I, Q, Z).1 (1 + 0) = 3 by simp [pn, e11], show pn (I, Q, Z).1 0 = 0 by simp [pn, e0]]
        have hD9 : CD w e m0 h53 (uI I 16 1 2) Q Z X ow sb := CD_I (CD_fr hD hF57) ⟨rfl, rfl, rfl, rfl, rfl, rfl, rfl, rfl, rfl, rfl, rfl, rfl, rfl, rfl, rfl⟩
        have hox : ow L40 = 0 := (hD.1.2.1 _ (by omega)).2
        have hmf : Rq h53 ow (.ref a) (fun i => (mgR 0 (row1 (I, Q, Z) (1 + 0))).1 (5 + i)) := Rq_eq (Rq_fr hD.1 hF57 (e211 ▸ kq)) (fun i hi => by
          match i, hi with
          | 0, _ => exact q0.symm
          | 1, _ => exact q1.symm
          | 2, _ => exact q2.symm
          | 3, _ => exact q3.symm
          | 4, _ => exact q4.symm
          | 5, _ => exact q5.symm
          | 6, _ => exact q6.symm)
        have hB9 : co h53 (uI I 16 1 2) ≤ B + 20 := by
          have := co_fr (I := I) (J := (uI I 16 1 2)) hF57 rfl
          omega
        refine go_callV (pc' := 40) rfl rfl rfl (Nat.le_of_ble_eq_true rfl) rfl (sm_o hS56 rfl) rfl rfl rfl (ct_send hS56 hD9 hB9 (fun l hl => by have := hQ l hl; have := lt_of hc54; omega) (by omega) (f := 3) (t := 0) (by decide) (by decide) (by decide) (m := mgR 0 (row1 (I, Q, Z) (1 + 0))) hc54 hox (hWn _ (by omega)) nb_L40 (by omega) (MF_R hmf) (by omega)) (fun r h58 q59 => ?_)
        rw [← hms] at q59
        obtain ⟨rfl, hC9⟩ := q59
        refine go_ret rfl rfl ?_
        exact ⟨rfl, hC9⟩
    · skip
      change I 11 0 = 1 at e0
      rcases hD0.2.2.2.2.2.2 1 (by decide) with e11 | e11 | e11
      · exact absurd hv (by simp [lv, e11])
      · skip
        change I 11 1 = 2 at e11
        refine go_s (pc' := 18) rfl rfl rfl rfl ?_
        refine go_sget (pc' := 19) (v := .ref 32) hS14 rfl rfl rfl (by decide) rfl rfl ?_
        refine go_sget (pc' := 20) (v := .int 1) hS14 rfl rfl rfl (by decide) (congrArg Value.int e0) rfl ?_
        refine go_s (pc' := 21) (st' := [.int (-1), .int 1]) rfl rfl rfl rfl ?_
        refine go_icmpP (t' := 40) (pc' := 22) rfl rfl rfl (fun (c : (1 : Int32) = (-1)) => absurd c (by decide)) (fun _ => ?_)
        refine go_newF (pc' := 23) (n := 8) rfl rfl rfl rfl (fun L60 h61 hL62 hc63 hg64 => ?_)
        have ge_L60 : _ ≤ L60 := hL62 ▸ hF16.1
        have nb_L60 := tbc_out L60 (by have := sm_len hS14; omega)
        have hS65 := sm_gq hS14 hg64
        have hF66 := fr_gq hF16 hg64
        refine go_s (pc' := 24) rfl rfl rfl rfl ?_
        refine go_s (pc' := 25) (st' := [.int 1, .ref L60, .ref L60]) rfl rfl rfl rfl ?_
        refine go_callI (pc' := 26) rfl rfl rfl (Nat.le_of_ble_eq_true rfl) rfl hc63 rfl rfl rfl (ci_msg hc63 (hWn _ (by omega)) (by omega)) (fun r h67 q68 => ?_)
        obtain ⟨rfl, hc69, hp70⟩ := q68
        have hS71 := sm_pq hS65 hp70 nb_L60
        have hF72 := fr_pq hF66 hp70 (by omega)
        refine go_s (pc' := 27) (lo' := [some (.ref 1), some (.ref 59), some (.ref L60)]) rfl rfl rfl rfl ?_
        refine go_s (pc' := 28) rfl rfl rfl rfl ?_
        refine go_s (pc' := 29) rfl rfl rfl rfl ?_
        refine go_sget (pc' := 30) (v := .ref a) hS71 rfl rfl rfl (by decide) e211 rfl ?_
        refine go_putF (pc' := 31) rfl hc69 rfl (by decide) (Nat.le_of_ble_eq_true rfl) rfl (hWn _ (by omega)) rfl (fun h73 hc74 hp75 => ?_)
        have hS76 := sm_pq hS71 hp75 nb_L60
        have hF77 := fr_pq hF72 hp75 (by omega)
        refine go_s (pc' := 32) rfl rfl rfl rfl ?_
        refine go_sget (pc' := 33) (v := .ref 2) hS76 rfl rfl rfl (by decide) rfl rfl ?_
        refine go_s (pc' := 34) rfl rfl rfl rfl ?_
        refine go_sget (pc' := 35) (v := .int 2) hS76 rfl rfl rfl (by decide) (congrArg Value.int e11) rfl ?_
        refine go_s (pc' := 36) rfl rfl rfl rfl ?_
        refine go_sget (pc' := 37) (v := .ref 32) hS76 rfl rfl rfl (by decide) rfl rfl ?_
        refine go_sget (pc' := 38) (v := .int 1) hS76 rfl rfl rfl (by decide) (congrArg Value.int e0) rfl ?_
        refine go_s (pc' := 39) rfl rfl rfl rfl ?_
        have hms : mgo 0 (I, Q, Z) = msnd 2 1 (mgR 0 (row1 (I, Q, Z) (1 + 0))) ((uI I 16 1 2), Q, Z) := by
          unfold mgo
          rw [if_pos t4, if_neg (show ¬ I 11 0 = -1 by rw [e0]; decide), show pn (I, Q, Z).1 (1 + 0) = 2 by simp [pn, e11], show pn (I, Q, Z).1 0 = 1 by simp [pn, e0]]
        have hD9 : CD w e m0 h73 (uI I 16 1 2) Q Z X ow sb := CD_I (CD_fr hD hF77) ⟨rfl, rfl, rfl, rfl, rfl, rfl, rfl, rfl, rfl, rfl, rfl, rfl, rfl, rfl, rfl⟩
        have hox : ow L60 = 0 := (hD.1.2.1 _ (by omega)).2
        have hmf : Rq h73 ow (.ref a) (fun i => (mgR 0 (row1 (I, Q, Z) (1 + 0))).1 (5 + i)) := Rq_eq (Rq_fr hD.1 hF77 (e211 ▸ kq)) (fun i hi => by
          match i, hi with
          | 0, _ => exact q0.symm
          | 1, _ => exact q1.symm
          | 2, _ => exact q2.symm
          | 3, _ => exact q3.symm
          | 4, _ => exact q4.symm
          | 5, _ => exact q5.symm
          | 6, _ => exact q6.symm)
        have hB9 : co h73 (uI I 16 1 2) ≤ B + 20 := by
          have := co_fr (I := I) (J := (uI I 16 1 2)) hF77 rfl
          omega
        refine go_callV (pc' := 40) rfl rfl rfl (Nat.le_of_ble_eq_true rfl) rfl (sm_o hS76 rfl) rfl rfl rfl (ct_send hS76 hD9 hB9 (fun l hl => by have := hQ l hl; have := lt_of hc74; omega) (by omega) (f := 2) (t := 1) (by decide) (by decide) (by decide) (m := mgR 0 (row1 (I, Q, Z) (1 + 0))) hc74 hox (hWn _ (by omega)) nb_L60 (by omega) (MF_R hmf) (by omega)) (fun r h78 q79 => ?_)
        rw [← hms] at q79
        obtain ⟨rfl, hC9⟩ := q79
        refine go_ret rfl rfl ?_
        exact ⟨rfl, hC9⟩
      · skip
        change I 11 1 = 3 at e11
        refine go_s (pc' := 18) rfl rfl rfl rfl ?_
        refine go_sget (pc' := 19) (v := .ref 32) hS14 rfl rfl rfl (by decide) rfl rfl ?_
        refine go_sget (pc' := 20) (v := .int 1) hS14 rfl rfl rfl (by decide) (congrArg Value.int e0) rfl ?_
        refine go_s (pc' := 21) (st' := [.int (-1), .int 1]) rfl rfl rfl rfl ?_
        refine go_icmpP (t' := 40) (pc' := 22) rfl rfl rfl (fun (c : (1 : Int32) = (-1)) => absurd c (by decide)) (fun _ => ?_)
        refine go_newF (pc' := 23) (n := 8) rfl rfl rfl rfl (fun L80 h81 hL82 hc83 hg84 => ?_)
        have ge_L80 : _ ≤ L80 := hL82 ▸ hF16.1
        have nb_L80 := tbc_out L80 (by have := sm_len hS14; omega)
        have hS85 := sm_gq hS14 hg84
        have hF86 := fr_gq hF16 hg84
        refine go_s (pc' := 24) rfl rfl rfl rfl ?_
        refine go_s (pc' := 25) (st' := [.int 1, .ref L80, .ref L80]) rfl rfl rfl rfl ?_
        refine go_callI (pc' := 26) rfl rfl rfl (Nat.le_of_ble_eq_true rfl) rfl hc83 rfl rfl rfl (ci_msg hc83 (hWn _ (by omega)) (by omega)) (fun r h87 q88 => ?_)
        obtain ⟨rfl, hc89, hp90⟩ := q88
        have hS91 := sm_pq hS85 hp90 nb_L80
        have hF92 := fr_pq hF86 hp90 (by omega)
        refine go_s (pc' := 27) (lo' := [some (.ref 1), some (.ref 59), some (.ref L80)]) rfl rfl rfl rfl ?_
        refine go_s (pc' := 28) rfl rfl rfl rfl ?_
        refine go_s (pc' := 29) rfl rfl rfl rfl ?_
        refine go_sget (pc' := 30) (v := .ref a) hS91 rfl rfl rfl (by decide) e211 rfl ?_
        refine go_putF (pc' := 31) rfl hc89 rfl (by decide) (Nat.le_of_ble_eq_true rfl) rfl (hWn _ (by omega)) rfl (fun h93 hc94 hp95 => ?_)
        have hS96 := sm_pq hS91 hp95 nb_L80
        have hF97 := fr_pq hF92 hp95 (by omega)
        refine go_s (pc' := 32) rfl rfl rfl rfl ?_
        refine go_sget (pc' := 33) (v := .ref 2) hS96 rfl rfl rfl (by decide) rfl rfl ?_
        refine go_s (pc' := 34) rfl rfl rfl rfl ?_
        refine go_sget (pc' := 35) (v := .int 3) hS96 rfl rfl rfl (by decide) (congrArg Value.int e11) rfl ?_
        refine go_s (pc' := 36) rfl rfl rfl rfl ?_
        refine go_sget (pc' := 37) (v := .ref 32) hS96 rfl rfl rfl (by decide) rfl rfl ?_
        refine go_sget (pc' := 38) (v := .int 1) hS96 rfl rfl rfl (by decide) (congrArg Value.int e0) rfl ?_
        refine go_s (pc' := 39) rfl rfl rfl rfl ?_
        have hms : mgo 0 (I, Q, Z) = msnd 3 1 (mgR 0 (row1 (I, Q, Z) (1 + 0))) ((uI I 16 1 2), Q, Z) := by
          unfold mgo
          rw [if_pos t4, if_neg (show ¬ I 11 0 = -1 by rw [e0]; decide), show pn (I, Q, Z).1 (1 + 0) = 3 by simp [pn, e11], show pn (I, Q, Z).1 0 = 1 by simp [pn, e0]]
        have hD9 : CD w e m0 h93 (uI I 16 1 2) Q Z X ow sb := CD_I (CD_fr hD hF97) ⟨rfl, rfl, rfl, rfl, rfl, rfl, rfl, rfl, rfl, rfl, rfl, rfl, rfl, rfl, rfl⟩
        have hox : ow L80 = 0 := (hD.1.2.1 _ (by omega)).2
        have hmf : Rq h93 ow (.ref a) (fun i => (mgR 0 (row1 (I, Q, Z) (1 + 0))).1 (5 + i)) := Rq_eq (Rq_fr hD.1 hF97 (e211 ▸ kq)) (fun i hi => by
          match i, hi with
          | 0, _ => exact q0.symm
          | 1, _ => exact q1.symm
          | 2, _ => exact q2.symm
          | 3, _ => exact q3.symm
          | 4, _ => exact q4.symm
          | 5, _ => exact q5.symm
          | 6, _ => exact q6.symm)
        have hB9 : co h93 (uI I 16 1 2) ≤ B + 20 := by
          have := co_fr (I := I) (J := (uI I 16 1 2)) hF97 rfl
          omega
        refine go_callV (pc' := 40) rfl rfl rfl (Nat.le_of_ble_eq_true rfl) rfl (sm_o hS96 rfl) rfl rfl rfl (ct_send hS96 hD9 hB9 (fun l hl => by have := hQ l hl; have := lt_of hc94; omega) (by omega) (f := 3) (t := 1) (by decide) (by decide) (by decide) (m := mgR 0 (row1 (I, Q, Z) (1 + 0))) hc94 hox (hWn _ (by omega)) nb_L80 (by omega) (MF_R hmf) (by omega)) (fun r h98 q99 => ?_)
        rw [← hms] at q99
        obtain ⟨rfl, hC9⟩ := q99
        refine go_ret rfl rfl ?_
        exact ⟨rfl, hC9⟩
  · skip
    rcases t7 with ⟨t4, t7⟩ | ⟨t4, t7, q3, q4, q5, q6⟩
    · skip
      obtain ⟨a, e211, oa, ha⟩ := id kq
      obtain ⟨b, e212, ob, hb⟩ := id ks
      refine go_s (pc' := 1) rfl rfl rfl rfl ?_
      refine go_callV (pc' := 2) rfl rfl rfl (Nat.le_of_ble_eq_true rfl) rfl (sm_o hS rfl) rfl rfl rfl (ct_isOpen_0 hS htr (by omega)) (fun r h100 q101 => ?_)
      obtain ⟨rfl, rfl⟩ := q101
      rw [if_neg (by rw [t4]; decide)]
      refine go_ifP (t' := 14) (pc' := 3) rfl rfl rfl (fun (c : ¬ (0 : Int32) = 0) => absurd c (by decide)) (fun _ => ?_)
      refine go_s (pc' := 4) rfl rfl rfl rfl ?_
      refine go_s (pc' := 5) (st' := [.int 0, .ref 59]) rfl rfl rfl rfl ?_
      refine go_sput (pc' := 6) hS rfl rfl rfl (by decide) tbc_inj (Nat.le_of_ble_eq_true rfl) rfl (hW _ rfl) rfl (fun h102 hS103 hE104 => ?_)
      have hF105 := fr_trans hF1 (fr_e hE104)
      refine go_s (pc' := 7) rfl rfl rfl rfl ?_
      refine go_sget (pc' := 8) (v := .ref b) hS103 rfl rfl rfl (by decide) e212 rfl ?_
      refine go_s (pc' := 9) rfl rfl rfl rfl ?_
      refine go_s (pc' := 10) rfl rfl rfl rfl ?_
      refine go_s (pc' := 11) rfl rfl rfl rfl ?_
      refine go_sget (pc' := 12) (v := .ref b) hS103 rfl rfl rfl (by decide) e212 rfl ?_
      refine go_sputX (pc' := 13) hS103 rfl rfl rfl (by decide) tbc_inj (Nat.le_of_ble_eq_true rfl) (Nat.le_of_ble_eq_true rfl) rfl (hW _ rfl) rfl (fun h106 hS107 hE108 => ?_)
      have hF109 := fr_trans hF105 (fr_e hE108)
      refine go_ret rfl rfl ?_
      have hms : mgo 0 (I, Q, Z) = (mshw 0 (row1 (I, Q, Z) (1 + 0)) (uI I 16 1 0), Q, Z) := by
        unfold mgo
        rw [if_neg (by rw [t4]; decide), if_pos t5]
      have hD110 : CD w e m0 h106 (uI I 16 1 0) Q Z X ow sb := CD_I (CD_fr hD hF109) ⟨rfl, rfl, rfl, rfl, rfl, rfl, rfl, rfl, rfl, rfl, rfl, rfl, rfl, rfl, rfl⟩
      have hB111 : co h106 (uI I 16 1 0) ≤ B + 0 := by
        have := co_fr (I := I) (J := (uI I 16 1 0)) hF109 rfl
        have := hB
        omega
      rw [hms]
      refine ⟨rfl, ⟨(uX X 215 0 (.ref b)), ow, sb, mshw_sm hS107, CD_shw hD110 (by decide) (An_fr hD.1 hF109 (e212 ▸ ks)) s2 s3 s4 s5, ?_, fun l hl => Nat.le_trans (hQ l hl) hF109.1⟩⟩
      show co _ (mshw _ _ _) ≤ _
      unfold co at hB111 ⊢
      rw [mshw_o (by omega) (by omega)]
      omega
    · skip
      obtain ⟨a, e211, oa, ha⟩ := id kq
      obtain ⟨b, e212, ob, hb⟩ := id ks
      refine go_s (pc' := 1) rfl rfl rfl rfl ?_
      refine go_callV (pc' := 2) rfl rfl rfl (Nat.le_of_ble_eq_true rfl) rfl (sm_o hS rfl) rfl rfl rfl (ct_isOpen_0 hS htr (by omega)) (fun r h112 q113 => ?_)
      obtain ⟨rfl, rfl⟩ := q113
      rw [if_pos t4]
      refine go_ifP (t' := 14) (pc' := 3) rfl rfl rfl (fun _ => ?_) (fun (c : ¬ (¬ (1 : Int32) = 0)) => absurd (by decide) c)
      refine go_s (pc' := 15) rfl rfl rfl rfl ?_
      refine go_s (pc' := 16) (st' := [.int 2, .ref 59]) rfl rfl rfl rfl ?_
      refine go_sput (pc' := 17) hS rfl rfl rfl (by decide) tbc_inj (Nat.le_of_ble_eq_true rfl) rfl (hW _ rfl) rfl (fun h114 hS115 hE116 => ?_)
      have hF117 := fr_trans hF1 (fr_e hE116)
      rcases hD0.2.2.2.2.2.2 0 (by decide) with e0 | e0 | e0
      · skip
        change I 11 0 = -1 at e0
        refine go_s (pc' := 18) rfl rfl rfl rfl ?_
        refine go_sget (pc' := 19) (v := .ref 32) hS115 rfl rfl rfl (by decide) rfl rfl ?_
        refine go_sget (pc' := 20) (v := .int (-1)) hS115 rfl rfl rfl (by decide) (congrArg Value.int e0) rfl ?_
        refine go_s (pc' := 21) (st' := [.int (-1), .int (-1)]) rfl rfl rfl rfl ?_
        refine go_icmpP (t' := 40) (pc' := 22) rfl rfl rfl (fun _ => ?_) (fun (c : ¬ (((-1) : Int32) = (-1))) => absurd (by decide) c)
        refine go_ret rfl rfl ?_
        have hD118 : CD w e m0 h114 (uI I 16 1 2) Q Z X ow sb := CD_I (CD_fr hD hF117) ⟨rfl, rfl, rfl, rfl, rfl, rfl, rfl, rfl, rfl, rfl, rfl, rfl, rfl, rfl, rfl⟩
        have hB119 : co h114 (uI I 16 1 2) ≤ B + 0 := by
          have := co_fr (I := I) (J := (uI I 16 1 2)) hF117 rfl
          have := hB
          omega
        have hC120 : CA w e m0 (B + 0) h114 ((uI I 16 1 2), Q, Z) := ⟨X, ow, sb, hS115, hD118, hB119, fun l hl => Nat.le_trans (hQ l hl) hF117.1⟩
        have hms : mgo 0 (I, Q, Z) = ((uI I 16 1 2), Q, Z) := by
          unfold mgo
          rw [if_pos t4, if_pos (show I 11 0 = -1 from e0)]
        rw [hms]
        exact ⟨rfl, CA_le hC120 (by omega)⟩
      · skip
        change I 11 0 = 0 at e0
        rcases hD0.2.2.2.2.2.2 1 (by decide) with e11 | e11 | e11
        · exact absurd hv (by simp [lv, e11])
        · skip
          change I 11 1 = 2 at e11
          refine go_s (pc' := 18) rfl rfl rfl rfl ?_
          refine go_sget (pc' := 19) (v := .ref 32) hS115 rfl rfl rfl (by decide) rfl rfl ?_
          refine go_sget (pc' := 20) (v := .int 0) hS115 rfl rfl rfl (by decide) (congrArg Value.int e0) rfl ?_
          refine go_s (pc' := 21) (st' := [.int (-1), .int 0]) rfl rfl rfl rfl ?_
          refine go_icmpP (t' := 40) (pc' := 22) rfl rfl rfl (fun (c : (0 : Int32) = (-1)) => absurd c (by decide)) (fun _ => ?_)
          refine go_newF (pc' := 23) (n := 8) rfl rfl rfl rfl (fun L121 h122 hL123 hc124 hg125 => ?_)
          have ge_L121 : _ ≤ L121 := hL123 ▸ hF117.1
          have nb_L121 := tbc_out L121 (by have := sm_len hS115; omega)
          have hS126 := sm_gq hS115 hg125
          have hF127 := fr_gq hF117 hg125
          refine go_s (pc' := 24) rfl rfl rfl rfl ?_
          refine go_s (pc' := 25) (st' := [.int 1, .ref L121, .ref L121]) rfl rfl rfl rfl ?_
          refine go_callI (pc' := 26) rfl rfl rfl (Nat.le_of_ble_eq_true rfl) rfl hc124 rfl rfl rfl (ci_msg hc124 (hWn _ (by omega)) (by omega)) (fun r h128 q129 => ?_)
          obtain ⟨rfl, hc130, hp131⟩ := q129
          have hS132 := sm_pq hS126 hp131 nb_L121
          have hF133 := fr_pq hF127 hp131 (by omega)
          refine go_s (pc' := 27) (lo' := [some (.ref 1), some (.ref 59), some (.ref L121)]) rfl rfl rfl rfl ?_
          refine go_s (pc' := 28) rfl rfl rfl rfl ?_
          refine go_s (pc' := 29) rfl rfl rfl rfl ?_
          refine go_sget (pc' := 30) (v := .ref a) hS132 rfl rfl rfl (by decide) e211 rfl ?_
          refine go_putF (pc' := 31) rfl hc130 rfl (by decide) (Nat.le_of_ble_eq_true rfl) rfl (hWn _ (by omega)) rfl (fun h134 hc135 hp136 => ?_)
          have hS137 := sm_pq hS132 hp136 nb_L121
          have hF138 := fr_pq hF133 hp136 (by omega)
          refine go_s (pc' := 32) rfl rfl rfl rfl ?_
          refine go_sget (pc' := 33) (v := .ref 2) hS137 rfl rfl rfl (by decide) rfl rfl ?_
          refine go_s (pc' := 34) rfl rfl rfl rfl ?_
          refine go_sget (pc' := 35) (v := .int 2) hS137 rfl rfl rfl (by decide) (congrArg Value.int e11) rfl ?_
          refine go_s (pc' := 36) rfl rfl rfl rfl ?_
          refine go_sget (pc' := 37) (v := .ref 32) hS137 rfl rfl rfl (by decide) rfl rfl ?_
          refine go_sget (pc' := 38) (v := .int 0) hS137 rfl rfl rfl (by decide) (congrArg Value.int e0) rfl ?_
          refine go_s (pc' := 39) rfl rfl rfl rfl ?_
          have hms : mgo 0 (I, Q, Z) = msnd 2 0 (mgR 0 (row1 (I, Q, Z) (1 + 0))) ((uI I 16 1 2), Q, Z) := by
            unfold mgo
            rw [if_pos t4, if_neg (show ¬ I 11 0 = -1 by rw [e0]; decide), show pn (I, Q, Z).1 (1 + 0) = 2 by simp [pn, e11], show pn (I, Q, Z).1 0 = 0 by simp [pn, e0]]
          have hD9 : CD w e m0 h134 (uI I 16 1 2) Q Z X ow sb := CD_I (CD_fr hD hF138) ⟨rfl, rfl, rfl, rfl, rfl, rfl, rfl, rfl, rfl, rfl, rfl, rfl, rfl, rfl, rfl⟩
          have hox : ow L121 = 0 := (hD.1.2.1 _ (by omega)).2
          have hmf : Rq h134 ow (.ref a) (fun i => (mgR 0 (row1 (I, Q, Z) (1 + 0))).1 (5 + i)) := Rq_eq (Rq_fr hD.1 hF138 (e211 ▸ kq)) (fun i hi => by
            match i, hi with
            | 0, _ => exact q0.symm
            | 1, _ => exact q1.symm
            | 2, _ => exact q2.symm
            | 3, _ => exact q3.symm
            | 4, _ => exact q4.symm
            | 5, _ => exact q5.symm
            | 6, _ => exact q6.symm)
          have hB9 : co h134 (uI I 16 1 2) ≤ B + 20 := by
            have := co_fr (I := I) (J := (uI I 16 1 2)) hF138 rfl
            omega
          refine go_callV (pc' := 40) rfl rfl rfl (Nat.le_of_ble_eq_true rfl) rfl (sm_o hS137 rfl) rfl rfl rfl (ct_send hS137 hD9 hB9 (fun l hl => by have := hQ l hl; have := lt_of hc135; omega) (by omega) (f := 2) (t := 0) (by decide) (by decide) (by decide) (m := mgR 0 (row1 (I, Q, Z) (1 + 0))) hc135 hox (hWn _ (by omega)) nb_L121 (by omega) (MF_R hmf) (by omega)) (fun r h139 q140 => ?_)
          rw [← hms] at q140
          obtain ⟨rfl, hC9⟩ := q140
          refine go_ret rfl rfl ?_
          exact ⟨rfl, hC9⟩
        · skip
          change I 11 1 = 3 at e11
          refine go_s (pc' := 18) rfl rfl rfl rfl ?_
          refine go_sget (pc' := 19) (v := .ref 32) hS115 rfl rfl rfl (by decide) rfl rfl ?_
          refine go_sget (pc' := 20) (v := .int 0) hS115 rfl rfl rfl (by decide) (congrArg Value.int e0) rfl ?_
          refine go_s (pc' := 21) (st' := [.int (-1), .int 0]) rfl rfl rfl rfl ?_
          refine go_icmpP (t' := 40) (pc' := 22) rfl rfl rfl (fun (c : (0 : Int32) = (-1)) => absurd c (by decide)) (fun _ => ?_)
          refine go_newF (pc' := 23) (n := 8) rfl rfl rfl rfl (fun L141 h142 hL143 hc144 hg145 => ?_)
          have ge_L141 : _ ≤ L141 := hL143 ▸ hF117.1
          have nb_L141 := tbc_out L141 (by have := sm_len hS115; omega)
          have hS146 := sm_gq hS115 hg145
          have hF147 := fr_gq hF117 hg145
          refine go_s (pc' := 24) rfl rfl rfl rfl ?_
          refine go_s (pc' := 25) (st' := [.int 1, .ref L141, .ref L141]) rfl rfl rfl rfl ?_
          refine go_callI (pc' := 26) rfl rfl rfl (Nat.le_of_ble_eq_true rfl) rfl hc144 rfl rfl rfl (ci_msg hc144 (hWn _ (by omega)) (by omega)) (fun r h148 q149 => ?_)
          obtain ⟨rfl, hc150, hp151⟩ := q149
          have hS152 := sm_pq hS146 hp151 nb_L141
          have hF153 := fr_pq hF147 hp151 (by omega)
          refine go_s (pc' := 27) (lo' := [some (.ref 1), some (.ref 59), some (.ref L141)]) rfl rfl rfl rfl ?_
          refine go_s (pc' := 28) rfl rfl rfl rfl ?_
          refine go_s (pc' := 29) rfl rfl rfl rfl ?_
          refine go_sget (pc' := 30) (v := .ref a) hS152 rfl rfl rfl (by decide) e211 rfl ?_
          refine go_putF (pc' := 31) rfl hc150 rfl (by decide) (Nat.le_of_ble_eq_true rfl) rfl (hWn _ (by omega)) rfl (fun h154 hc155 hp156 => ?_)
          have hS157 := sm_pq hS152 hp156 nb_L141
          have hF158 := fr_pq hF153 hp156 (by omega)
          refine go_s (pc' := 32) rfl rfl rfl rfl ?_
          refine go_sget (pc' := 33) (v := .ref 2) hS157 rfl rfl rfl (by decide) rfl rfl ?_
          refine go_s (pc' := 34) rfl rfl rfl rfl ?_
          refine go_sget (pc' := 35) (v := .int 3) hS157 rfl rfl rfl (by decide) (congrArg Value.int e11) rfl ?_
          refine go_s (pc' := 36) rfl rfl rfl rfl ?_
          refine go_sget (pc' := 37) (v := .ref 32) hS157 rfl rfl rfl (by decide) rfl rfl ?_
          refine go_sget (pc' := 38) (v := .int 0) hS157 rfl rfl rfl (by decide) (congrArg Value.int e0) rfl ?_
          refine go_s (pc' := 39) rfl rfl rfl rfl ?_
          have hms : mgo 0 (I, Q, Z) = msnd 3 0 (mgR 0 (row1 (I, Q, Z) (1 + 0))) ((uI I 16 1 2), Q, Z) := by
            unfold mgo
            rw [if_pos t4, if_neg (show ¬ I 11 0 = -1 by rw [e0]; decide), show pn (I, Q, Z).1 (1 + 0) = 3 by simp [pn, e11], show pn (I, Q, Z).1 0 = 0 by simp [pn, e0]]
          have hD9 : CD w e m0 h154 (uI I 16 1 2) Q Z X ow sb := CD_I (CD_fr hD hF158) ⟨rfl, rfl, rfl, rfl, rfl, rfl, rfl, rfl, rfl, rfl, rfl, rfl, rfl, rfl, rfl⟩
          have hox : ow L141 = 0 := (hD.1.2.1 _ (by omega)).2
          have hmf : Rq h154 ow (.ref a) (fun i => (mgR 0 (row1 (I, Q, Z) (1 + 0))).1 (5 + i)) := Rq_eq (Rq_fr hD.1 hF158 (e211 ▸ kq)) (fun i hi => by
            match i, hi with
            | 0, _ => exact q0.symm
            | 1, _ => exact q1.symm
            | 2, _ => exact q2.symm
            | 3, _ => exact q3.symm
            | 4, _ => exact q4.symm
            | 5, _ => exact q5.symm
            | 6, _ => exact q6.symm)
          have hB9 : co h154 (uI I 16 1 2) ≤ B + 20 := by
            have := co_fr (I := I) (J := (uI I 16 1 2)) hF158 rfl
            omega
          refine go_callV (pc' := 40) rfl rfl rfl (Nat.le_of_ble_eq_true rfl) rfl (sm_o hS157 rfl) rfl rfl rfl (ct_send hS157 hD9 hB9 (fun l hl => by have := hQ l hl; have := lt_of hc155; omega) (by omega) (f := 3) (t := 0) (by decide) (by decide) (by decide) (m := mgR 0 (row1 (I, Q, Z) (1 + 0))) hc155 hox (hWn _ (by omega)) nb_L141 (by omega) (MF_R hmf) (by omega)) (fun r h159 q160 => ?_)
          rw [← hms] at q160
          obtain ⟨rfl, hC9⟩ := q160
          refine go_ret rfl rfl ?_
          exact ⟨rfl, hC9⟩
      · skip
        change I 11 0 = 1 at e0
        rcases hD0.2.2.2.2.2.2 1 (by decide) with e11 | e11 | e11
        · exact absurd hv (by simp [lv, e11])
        · skip
          change I 11 1 = 2 at e11
          refine go_s (pc' := 18) rfl rfl rfl rfl ?_
          refine go_sget (pc' := 19) (v := .ref 32) hS115 rfl rfl rfl (by decide) rfl rfl ?_
          refine go_sget (pc' := 20) (v := .int 1) hS115 rfl rfl rfl (by decide) (congrArg Value.int e0) rfl ?_
          refine go_s (pc' := 21) (st' := [.int (-1), .int 1]) rfl rfl rfl rfl ?_
          refine go_icmpP (t' := 40) (pc' := 22) rfl rfl rfl (fun (c : (1 : Int32) = (-1)) => absurd c (by decide)) (fun _ => ?_)
          refine go_newF (pc' := 23) (n := 8) rfl rfl rfl rfl (fun L161 h162 hL163 hc164 hg165 => ?_)
          have ge_L161 : _ ≤ L161 := hL163 ▸ hF117.1
          have nb_L161 := tbc_out L161 (by have := sm_len hS115; omega)
          have hS166 := sm_gq hS115 hg165
          have hF167 := fr_gq hF117 hg165
          refine go_s (pc' := 24) rfl rfl rfl rfl ?_
          refine go_s (pc' := 25) (st' := [.int 1, .ref L161, .ref L161]) rfl rfl rfl rfl ?_
          refine go_callI (pc' := 26) rfl rfl rfl (Nat.le_of_ble_eq_true rfl) rfl hc164 rfl rfl rfl (ci_msg hc164 (hWn _ (by omega)) (by omega)) (fun r h168 q169 => ?_)
          obtain ⟨rfl, hc170, hp171⟩ := q169
          have hS172 := sm_pq hS166 hp171 nb_L161
          have hF173 := fr_pq hF167 hp171 (by omega)
          refine go_s (pc' := 27) (lo' := [some (.ref 1), some (.ref 59), some (.ref L161)]) rfl rfl rfl rfl ?_
          refine go_s (pc' := 28) rfl rfl rfl rfl ?_
          refine go_s (pc' := 29) rfl rfl rfl rfl ?_
          refine go_sget (pc' := 30) (v := .ref a) hS172 rfl rfl rfl (by decide) e211 rfl ?_
          refine go_putF (pc' := 31) rfl hc170 rfl (by decide) (Nat.le_of_ble_eq_true rfl) rfl (hWn _ (by omega)) rfl (fun h174 hc175 hp176 => ?_)
          have hS177 := sm_pq hS172 hp176 nb_L161
          have hF178 := fr_pq hF173 hp176 (by omega)
          refine go_s (pc' := 32) rfl rfl rfl rfl ?_
          refine go_sget (pc' := 33) (v := .ref 2) hS177 rfl rfl rfl (by decide) rfl rfl ?_
          refine go_s (pc' := 34) rfl rfl rfl rfl ?_
          refine go_sget (pc' := 35) (v := .int 2) hS177 rfl rfl rfl (by decide) (congrArg Value.int e11) rfl ?_
          refine go_s (pc' := 36) rfl rfl rfl rfl ?_
          refine go_sget (pc' := 37) (v := .ref 32) hS177 rfl rfl rfl (by decide) rfl rfl ?_
          refine go_sget (pc' := 38) (v := .int 1) hS177 rfl rfl rfl (by decide) (congrArg Value.int e0) rfl ?_
          refine go_s (pc' := 39) rfl rfl rfl rfl ?_
          have hms : mgo 0 (I, Q, Z) = msnd 2 1 (mgR 0 (row1 (I, Q, Z) (1 + 0))) ((uI I 16 1 2), Q, Z) := by
            unfold mgo
            rw [if_pos t4, if_neg (show ¬ I 11 0 = -1 by rw [e0]; decide), show pn (I, Q, Z).1 (1 + 0) = 2 by simp [pn, e11], show pn (I, Q, Z).1 0 = 1 by simp [pn, e0]]
          have hD9 : CD w e m0 h174 (uI I 16 1 2) Q Z X ow sb := CD_I (CD_fr hD hF178) ⟨rfl, rfl, rfl, rfl, rfl, rfl, rfl, rfl, rfl, rfl, rfl, rfl, rfl, rfl, rfl⟩
          have hox : ow L161 = 0 := (hD.1.2.1 _ (by omega)).2
          have hmf : Rq h174 ow (.ref a) (fun i => (mgR 0 (row1 (I, Q, Z) (1 + 0))).1 (5 + i)) := Rq_eq (Rq_fr hD.1 hF178 (e211 ▸ kq)) (fun i hi => by
            match i, hi with
            | 0, _ => exact q0.symm
            | 1, _ => exact q1.symm
            | 2, _ => exact q2.symm
            | 3, _ => exact q3.symm
            | 4, _ => exact q4.symm
            | 5, _ => exact q5.symm
            | 6, _ => exact q6.symm)
          have hB9 : co h174 (uI I 16 1 2) ≤ B + 20 := by
            have := co_fr (I := I) (J := (uI I 16 1 2)) hF178 rfl
            omega
          refine go_callV (pc' := 40) rfl rfl rfl (Nat.le_of_ble_eq_true rfl) rfl (sm_o hS177 rfl) rfl rfl rfl (ct_send hS177 hD9 hB9 (fun l hl => by have := hQ l hl; have := lt_of hc175; omega) (by omega) (f := 2) (t := 1) (by decide) (by decide) (by decide) (m := mgR 0 (row1 (I, Q, Z) (1 + 0))) hc175 hox (hWn _ (by omega)) nb_L161 (by omega) (MF_R hmf) (by omega)) (fun r h179 q180 => ?_)
          rw [← hms] at q180
          obtain ⟨rfl, hC9⟩ := q180
          refine go_ret rfl rfl ?_
          exact ⟨rfl, hC9⟩
        · skip
          change I 11 1 = 3 at e11
          refine go_s (pc' := 18) rfl rfl rfl rfl ?_
          refine go_sget (pc' := 19) (v := .ref 32) hS115 rfl rfl rfl (by decide) rfl rfl ?_
          refine go_sget (pc' := 20) (v := .int 1) hS115 rfl rfl rfl (by decide) (congrArg Value.int e0) rfl ?_
          refine go_s (pc' := 21) (st' := [.int (-1), .int 1]) rfl rfl rfl rfl ?_
          refine go_icmpP (t' := 40) (pc' := 22) rfl rfl rfl (fun (c : (1 : Int32) = (-1)) => absurd c (by decide)) (fun _ => ?_)
          refine go_newF (pc' := 23) (n := 8) rfl rfl rfl rfl (fun L181 h182 hL183 hc184 hg185 => ?_)
          have ge_L181 : _ ≤ L181 := hL183 ▸ hF117.1
          have nb_L181 := tbc_out L181 (by have := sm_len hS115; omega)
          have hS186 := sm_gq hS115 hg185
          have hF187 := fr_gq hF117 hg185
          refine go_s (pc' := 24) rfl rfl rfl rfl ?_
          refine go_s (pc' := 25) (st' := [.int 1, .ref L181, .ref L181]) rfl rfl rfl rfl ?_
          refine go_callI (pc' := 26) rfl rfl rfl (Nat.le_of_ble_eq_true rfl) rfl hc184 rfl rfl rfl (ci_msg hc184 (hWn _ (by omega)) (by omega)) (fun r h188 q189 => ?_)
          obtain ⟨rfl, hc190, hp191⟩ := q189
          have hS192 := sm_pq hS186 hp191 nb_L181
          have hF193 := fr_pq hF187 hp191 (by omega)
          refine go_s (pc' := 27) (lo' := [some (.ref 1), some (.ref 59), some (.ref L181)]) rfl rfl rfl rfl ?_
          refine go_s (pc' := 28) rfl rfl rfl rfl ?_
          refine go_s (pc' := 29) rfl rfl rfl rfl ?_
          refine go_sget (pc' := 30) (v := .ref a) hS192 rfl rfl rfl (by decide) e211 rfl ?_
          refine go_putF (pc' := 31) rfl hc190 rfl (by decide) (Nat.le_of_ble_eq_true rfl) rfl (hWn _ (by omega)) rfl (fun h194 hc195 hp196 => ?_)
          have hS197 := sm_pq hS192 hp196 nb_L181
          have hF198 := fr_pq hF193 hp196 (by omega)
          refine go_s (pc' := 32) rfl rfl rfl rfl ?_
          refine go_sget (pc' := 33) (v := .ref 2) hS197 rfl rfl rfl (by decide) rfl rfl ?_
          refine go_s (pc' := 34) rfl rfl rfl rfl ?_
          refine go_sget (pc' := 35) (v := .int 3) hS197 rfl rfl rfl (by decide) (congrArg Value.int e11) rfl ?_
          refine go_s (pc' := 36) rfl rfl rfl rfl ?_
          refine go_sget (pc' := 37) (v := .ref 32) hS197 rfl rfl rfl (by decide) rfl rfl ?_
          refine go_sget (pc' := 38) (v := .int 1) hS197 rfl rfl rfl (by decide) (congrArg Value.int e0) rfl ?_
          refine go_s (pc' := 39) rfl rfl rfl rfl ?_
          have hms : mgo 0 (I, Q, Z) = msnd 3 1 (mgR 0 (row1 (I, Q, Z) (1 + 0))) ((uI I 16 1 2), Q, Z) := by
            unfold mgo
            rw [if_pos t4, if_neg (show ¬ I 11 0 = -1 by rw [e0]; decide), show pn (I, Q, Z).1 (1 + 0) = 3 by simp [pn, e11], show pn (I, Q, Z).1 0 = 1 by simp [pn, e0]]
          have hD9 : CD w e m0 h194 (uI I 16 1 2) Q Z X ow sb := CD_I (CD_fr hD hF198) ⟨rfl, rfl, rfl, rfl, rfl, rfl, rfl, rfl, rfl, rfl, rfl, rfl, rfl, rfl, rfl⟩
          have hox : ow L181 = 0 := (hD.1.2.1 _ (by omega)).2
          have hmf : Rq h194 ow (.ref a) (fun i => (mgR 0 (row1 (I, Q, Z) (1 + 0))).1 (5 + i)) := Rq_eq (Rq_fr hD.1 hF198 (e211 ▸ kq)) (fun i hi => by
            match i, hi with
            | 0, _ => exact q0.symm
            | 1, _ => exact q1.symm
            | 2, _ => exact q2.symm
            | 3, _ => exact q3.symm
            | 4, _ => exact q4.symm
            | 5, _ => exact q5.symm
            | 6, _ => exact q6.symm)
          have hB9 : co h194 (uI I 16 1 2) ≤ B + 20 := by
            have := co_fr (I := I) (J := (uI I 16 1 2)) hF198 rfl
            omega
          refine go_callV (pc' := 40) rfl rfl rfl (Nat.le_of_ble_eq_true rfl) rfl (sm_o hS197 rfl) rfl rfl rfl (ct_send hS197 hD9 hB9 (fun l hl => by have := hQ l hl; have := lt_of hc195; omega) (by omega) (f := 3) (t := 1) (by decide) (by decide) (by decide) (m := mgR 0 (row1 (I, Q, Z) (1 + 0))) hc195 hox (hWn _ (by omega)) nb_L181 (by omega) (MF_R hmf) (by omega)) (fun r h199 q200 => ?_)
          rw [← hms] at q200
          obtain ⟨rfl, hC9⟩ := q200
          refine go_ret rfl rfl ?_
          exact ⟨rfl, hC9⟩
theorem cm_go_1 {w : Nat → Bool} {d : Nat} {h : am_Hp} {e : Nat} {m0 : mg} {B : Nat} {I : sm_I} {Q : mQ} {Z : mZ} (hC : CA w e m0 B h (I, Q, Z)) (hB2 : B < 2 ^ 29) (hv : lv I 2 = true) (hd : 4 ≤ d) : am_Ev (am_prog w) d 29 [.ref 1, .ref 60] h (fun r h' => r = none ∧ CA w e m0 (B + 20) h' (mgo 1 (I, Q, Z))) := by
  obtain ⟨X, ow, sb, hS, hD, hB, hQ⟩ := hC
  change sm tbc h I X at hS
  change CD w e m0 h I Q Z X ow sb at hD
  change co h I ≤ B at hB
  change ∀ l, l < 16 → (Q l).length ≤ h.length at hQ
  have hW := hD.1.1
  have hWn : ∀ a, List.length h ≤ a → w a = true := fun a ha => (hD.1.2.1 a ha).1
  have hF1 := fr_refl tbc h
  have hln : 62 ≤ List.length h := sm_len hS
  obtain ⟨d, rfl⟩ : ∃ e, d = e + 1 := ⟨d - 1, by omega⟩
  refine ev_go rfl (Nat.le_of_ble_eq_true rfl) rfl ?_
  have htr := (hD.2.2.2.2.2.1 1 (by decide)).1 hv
  change TR h ow 1 (X 211 1) (X 212 1) (row1 (I, Q, Z) (1 + 1)) at htr
  have hD0 := hD
  rcases id htr with ⟨t1, t2, t3, t4, t5, t6⟩ | ⟨q, kq, t2, t4, t5, t6, q0, q1, q2, q3, q4, q5, q6⟩ | ⟨q, s, kq, ks, t5, t6, s2, s3, s4, s5, q0, q1, q2, t7⟩
  · skip
    refine go_s (pc' := 1) rfl rfl rfl rfl ?_
    refine go_callV (pc' := 2) rfl rfl rfl (Nat.le_of_ble_eq_true rfl) rfl (sm_o hS rfl) rfl rfl rfl (ct_isOpen_1 hS htr (by omega)) (fun r h2 q3 => ?_)
    obtain ⟨rfl, rfl⟩ := q3
    rw [if_neg (by rw [t4]; decide)]
    refine go_ifP (t' := 14) (pc' := 3) rfl rfl rfl (fun (c : ¬ (0 : Int32) = 0) => absurd c (by decide)) (fun _ => ?_)
    refine go_s (pc' := 4) rfl rfl rfl rfl ?_
    refine go_s (pc' := 5) (st' := [.int 0, .ref 60]) rfl rfl rfl rfl ?_
    refine go_sput (pc' := 6) hS rfl rfl rfl (by decide) tbc_inj (Nat.le_of_ble_eq_true rfl) rfl (hW _ rfl) rfl (fun h4 hS5 hE6 => ?_)
    have hF7 := fr_trans hF1 (fr_e hE6)
    refine go_s (pc' := 7) rfl rfl rfl rfl ?_
    refine go_sget (pc' := 8) (v := .null) hS5 rfl rfl rfl (by decide) t2 rfl ?_
    refine go_s (pc' := 13) rfl rfl rfl rfl ?_
    refine go_ret rfl rfl ?_
    have hD8 : CD w e m0 h4 (uI I 16 2 0) Q Z X ow sb := CD_I (CD_fr hD hF7) ⟨rfl, rfl, rfl, rfl, rfl, rfl, rfl, rfl, rfl, rfl, rfl, rfl, rfl, rfl, rfl⟩
    have hB9 : co h4 (uI I 16 2 0) ≤ B + 0 := by
      have := co_fr (I := I) (J := (uI I 16 2 0)) hF7 rfl
      have := hB
      omega
    have hC10 : CA w e m0 (B + 0) h4 ((uI I 16 2 0), Q, Z) := ⟨X, ow, sb, hS5, hD8, hB9, fun l hl => Nat.le_trans (hQ l hl) hF7.1⟩
    have hms : mgo 1 (I, Q, Z) = ((uI I 16 2 0), Q, Z) := by
      unfold mgo
      rw [if_neg (by rw [t4]; decide), if_neg (by rw [t5]; decide)]
    rw [hms]
    exact ⟨rfl, CA_le hC10 (by omega)⟩
  · skip
    obtain ⟨a, e211, oa, ha⟩ := id kq
    refine go_s (pc' := 1) rfl rfl rfl rfl ?_
    refine go_callV (pc' := 2) rfl rfl rfl (Nat.le_of_ble_eq_true rfl) rfl (sm_o hS rfl) rfl rfl rfl (ct_isOpen_1 hS htr (by omega)) (fun r h11 q12 => ?_)
    obtain ⟨rfl, rfl⟩ := q12
    rw [if_pos t4]
    refine go_ifP (t' := 14) (pc' := 3) rfl rfl rfl (fun _ => ?_) (fun (c : ¬ (¬ (1 : Int32) = 0)) => absurd (by decide) c)
    refine go_s (pc' := 15) rfl rfl rfl rfl ?_
    refine go_s (pc' := 16) (st' := [.int 2, .ref 60]) rfl rfl rfl rfl ?_
    refine go_sput (pc' := 17) hS rfl rfl rfl (by decide) tbc_inj (Nat.le_of_ble_eq_true rfl) rfl (hW _ rfl) rfl (fun h13 hS14 hE15 => ?_)
    have hF16 := fr_trans hF1 (fr_e hE15)
    rcases hD0.2.2.2.2.2.2 0 (by decide) with e0 | e0 | e0
    · skip
      change I 11 0 = -1 at e0
      refine go_s (pc' := 18) rfl rfl rfl rfl ?_
      refine go_sget (pc' := 19) (v := .ref 32) hS14 rfl rfl rfl (by decide) rfl rfl ?_
      refine go_sget (pc' := 20) (v := .int (-1)) hS14 rfl rfl rfl (by decide) (congrArg Value.int e0) rfl ?_
      refine go_s (pc' := 21) (st' := [.int (-1), .int (-1)]) rfl rfl rfl rfl ?_
      refine go_icmpP (t' := 40) (pc' := 22) rfl rfl rfl (fun _ => ?_) (fun (c : ¬ (((-1) : Int32) = (-1))) => absurd (by decide) c)
      refine go_ret rfl rfl ?_
      have hD17 : CD w e m0 h13 (uI I 16 2 2) Q Z X ow sb := CD_I (CD_fr hD hF16) ⟨rfl, rfl, rfl, rfl, rfl, rfl, rfl, rfl, rfl, rfl, rfl, rfl, rfl, rfl, rfl⟩
      have hB18 : co h13 (uI I 16 2 2) ≤ B + 0 := by
        have := co_fr (I := I) (J := (uI I 16 2 2)) hF16 rfl
        have := hB
        omega
      have hC19 : CA w e m0 (B + 0) h13 ((uI I 16 2 2), Q, Z) := ⟨X, ow, sb, hS14, hD17, hB18, fun l hl => Nat.le_trans (hQ l hl) hF16.1⟩
      have hms : mgo 1 (I, Q, Z) = ((uI I 16 2 2), Q, Z) := by
        unfold mgo
        rw [if_pos t4, if_pos (show I 11 0 = -1 from e0)]
      rw [hms]
      exact ⟨rfl, CA_le hC19 (by omega)⟩
    · skip
      change I 11 0 = 0 at e0
      rcases hD0.2.2.2.2.2.2 2 (by decide) with e11 | e11 | e11
      · exact absurd hv (by simp [lv, e11])
      · skip
        change I 11 2 = 2 at e11
        refine go_s (pc' := 18) rfl rfl rfl rfl ?_
        refine go_sget (pc' := 19) (v := .ref 32) hS14 rfl rfl rfl (by decide) rfl rfl ?_
        refine go_sget (pc' := 20) (v := .int 0) hS14 rfl rfl rfl (by decide) (congrArg Value.int e0) rfl ?_
        refine go_s (pc' := 21) (st' := [.int (-1), .int 0]) rfl rfl rfl rfl ?_
        refine go_icmpP (t' := 40) (pc' := 22) rfl rfl rfl (fun (c : (0 : Int32) = (-1)) => absurd c (by decide)) (fun _ => ?_)
        refine go_newF (pc' := 23) (n := 8) rfl rfl rfl rfl (fun L20 h21 hL22 hc23 hg24 => ?_)
        have ge_L20 : _ ≤ L20 := hL22 ▸ hF16.1
        have nb_L20 := tbc_out L20 (by have := sm_len hS14; omega)
        have hS25 := sm_gq hS14 hg24
        have hF26 := fr_gq hF16 hg24
        refine go_s (pc' := 24) rfl rfl rfl rfl ?_
        refine go_s (pc' := 25) (st' := [.int 1, .ref L20, .ref L20]) rfl rfl rfl rfl ?_
        refine go_callI (pc' := 26) rfl rfl rfl (Nat.le_of_ble_eq_true rfl) rfl hc23 rfl rfl rfl (ci_msg hc23 (hWn _ (by omega)) (by omega)) (fun r h27 q28 => ?_)
        obtain ⟨rfl, hc29, hp30⟩ := q28
        have hS31 := sm_pq hS25 hp30 nb_L20
        have hF32 := fr_pq hF26 hp30 (by omega)
        refine go_s (pc' := 27) (lo' := [some (.ref 1), some (.ref 60), some (.ref L20)]) rfl rfl rfl rfl ?_
        refine go_s (pc' := 28) rfl rfl rfl rfl ?_
        refine go_s (pc' := 29) rfl rfl rfl rfl ?_
        refine go_sget (pc' := 30) (v := .ref a) hS31 rfl rfl rfl (by decide) e211 rfl ?_
        refine go_putF (pc' := 31) rfl hc29 rfl (by decide) (Nat.le_of_ble_eq_true rfl) rfl (hWn _ (by omega)) rfl (fun h33 hc34 hp35 => ?_)
        have hS36 := sm_pq hS31 hp35 nb_L20
        have hF37 := fr_pq hF32 hp35 (by omega)
        refine go_s (pc' := 32) rfl rfl rfl rfl ?_
        refine go_sget (pc' := 33) (v := .ref 2) hS36 rfl rfl rfl (by decide) rfl rfl ?_
        refine go_s (pc' := 34) rfl rfl rfl rfl ?_
        refine go_sget (pc' := 35) (v := .int 2) hS36 rfl rfl rfl (by decide) (congrArg Value.int e11) rfl ?_
        refine go_s (pc' := 36) rfl rfl rfl rfl ?_
        refine go_sget (pc' := 37) (v := .ref 32) hS36 rfl rfl rfl (by decide) rfl rfl ?_
        refine go_sget (pc' := 38) (v := .int 0) hS36 rfl rfl rfl (by decide) (congrArg Value.int e0) rfl ?_
        refine go_s (pc' := 39) rfl rfl rfl rfl ?_
        have hms : mgo 1 (I, Q, Z) = msnd 2 0 (mgR 1 (row1 (I, Q, Z) (1 + 1))) ((uI I 16 2 2), Q, Z) := by
          unfold mgo
          rw [if_pos t4, if_neg (show ¬ I 11 0 = -1 by rw [e0]; decide), show pn (I, Q, Z).1 (1 + 1) = 2 by simp [pn, e11], show pn (I, Q, Z).1 0 = 0 by simp [pn, e0]]
        have hD9 : CD w e m0 h33 (uI I 16 2 2) Q Z X ow sb := CD_I (CD_fr hD hF37) ⟨rfl, rfl, rfl, rfl, rfl, rfl, rfl, rfl, rfl, rfl, rfl, rfl, rfl, rfl, rfl⟩
        have hox : ow L20 = 0 := (hD.1.2.1 _ (by omega)).2
        have hmf : Rq h33 ow (.ref a) (fun i => (mgR 1 (row1 (I, Q, Z) (1 + 1))).1 (5 + i)) := Rq_eq (Rq_fr hD.1 hF37 (e211 ▸ kq)) (fun i hi => by
          match i, hi with
          | 0, _ => exact q0.symm
          | 1, _ => exact q1.symm
          | 2, _ => exact q2.symm
          | 3, _ => exact q3.symm
          | 4, _ => exact q4.symm
          | 5, _ => exact q5.symm
          | 6, _ => exact q6.symm)
        have hB9 : co h33 (uI I 16 2 2) ≤ B + 20 := by
          have := co_fr (I := I) (J := (uI I 16 2 2)) hF37 rfl
          omega
        refine go_callV (pc' := 40) rfl rfl rfl (Nat.le_of_ble_eq_true rfl) rfl (sm_o hS36 rfl) rfl rfl rfl (ct_send hS36 hD9 hB9 (fun l hl => by have := hQ l hl; have := lt_of hc34; omega) (by omega) (f := 2) (t := 0) (by decide) (by decide) (by decide) (m := mgR 1 (row1 (I, Q, Z) (1 + 1))) hc34 hox (hWn _ (by omega)) nb_L20 (by omega) (MF_R hmf) (by omega)) (fun r h38 q39 => ?_)
        rw [← hms] at q39
        obtain ⟨rfl, hC9⟩ := q39
        refine go_ret rfl rfl ?_
        exact ⟨rfl, hC9⟩
      · skip
        change I 11 2 = 3 at e11
        refine go_s (pc' := 18) rfl rfl rfl rfl ?_
        refine go_sget (pc' := 19) (v := .ref 32) hS14 rfl rfl rfl (by decide) rfl rfl ?_
        refine go_sget (pc' := 20) (v := .int 0) hS14 rfl rfl rfl (by decide) (congrArg Value.int e0) rfl ?_
        refine go_s (pc' := 21) (st' := [.int (-1), .int 0]) rfl rfl rfl rfl ?_
        refine go_icmpP (t' := 40) (pc' := 22) rfl rfl rfl (fun (c : (0 : Int32) = (-1)) => absurd c (by decide)) (fun _ => ?_)
        refine go_newF (pc' := 23) (n := 8) rfl rfl rfl rfl (fun L40 h41 hL42 hc43 hg44 => ?_)
        have ge_L40 : _ ≤ L40 := hL42 ▸ hF16.1
        have nb_L40 := tbc_out L40 (by have := sm_len hS14; omega)
        have hS45 := sm_gq hS14 hg44
        have hF46 := fr_gq hF16 hg44
        refine go_s (pc' := 24) rfl rfl rfl rfl ?_
        refine go_s (pc' := 25) (st' := [.int 1, .ref L40, .ref L40]) rfl rfl rfl rfl ?_
        refine go_callI (pc' := 26) rfl rfl rfl (Nat.le_of_ble_eq_true rfl) rfl hc43 rfl rfl rfl (ci_msg hc43 (hWn _ (by omega)) (by omega)) (fun r h47 q48 => ?_)
        obtain ⟨rfl, hc49, hp50⟩ := q48
        have hS51 := sm_pq hS45 hp50 nb_L40
        have hF52 := fr_pq hF46 hp50 (by omega)
        refine go_s (pc' := 27) (lo' := [some (.ref 1), some (.ref 60), some (.ref L40)]) rfl rfl rfl rfl ?_
        refine go_s (pc' := 28) rfl rfl rfl rfl ?_
        refine go_s (pc' := 29) rfl rfl rfl rfl ?_
        refine go_sget (pc' := 30) (v := .ref a) hS51 rfl rfl rfl (by decide) e211 rfl ?_
        refine go_putF (pc' := 31) rfl hc49 rfl (by decide) (Nat.le_of_ble_eq_true rfl) rfl (hWn _ (by omega)) rfl (fun h53 hc54 hp55 => ?_)
        have hS56 := sm_pq hS51 hp55 nb_L40
        have hF57 := fr_pq hF52 hp55 (by omega)
        refine go_s (pc' := 32) rfl rfl rfl rfl ?_
        refine go_sget (pc' := 33) (v := .ref 2) hS56 rfl rfl rfl (by decide) rfl rfl ?_
        refine go_s (pc' := 34) rfl rfl rfl rfl ?_
        refine go_sget (pc' := 35) (v := .int 3) hS56 rfl rfl rfl (by decide) (congrArg Value.int e11) rfl ?_
        refine go_s (pc' := 36) rfl rfl rfl rfl ?_
        refine go_sget (pc' := 37) (v := .ref 32) hS56 rfl rfl rfl (by decide) rfl rfl ?_
        refine go_sget (pc' := 38) (v := .int 0) hS56 rfl rfl rfl (by decide) (congrArg Value.int e0) rfl ?_
        refine go_s (pc' := 39) rfl rfl rfl rfl ?_
        have hms : mgo 1 (I, Q, Z) = msnd 3 0 (mgR 1 (row1 (I, Q, Z) (1 + 1))) ((uI I 16 2 2), Q, Z) := by
          unfold mgo
          rw [if_pos t4, if_neg (show ¬ I 11 0 = -1 by rw [e0]; decide), show pn (I, Q, Z).1 (1 + 1) = 3 by simp [pn, e11], show pn (I, Q, Z).1 0 = 0 by simp [pn, e0]]
        have hD9 : CD w e m0 h53 (uI I 16 2 2) Q Z X ow sb := CD_I (CD_fr hD hF57) ⟨rfl, rfl, rfl, rfl, rfl, rfl, rfl, rfl, rfl, rfl, rfl, rfl, rfl, rfl, rfl⟩
        have hox : ow L40 = 0 := (hD.1.2.1 _ (by omega)).2
        have hmf : Rq h53 ow (.ref a) (fun i => (mgR 1 (row1 (I, Q, Z) (1 + 1))).1 (5 + i)) := Rq_eq (Rq_fr hD.1 hF57 (e211 ▸ kq)) (fun i hi => by
          match i, hi with
          | 0, _ => exact q0.symm
          | 1, _ => exact q1.symm
          | 2, _ => exact q2.symm
          | 3, _ => exact q3.symm
          | 4, _ => exact q4.symm
          | 5, _ => exact q5.symm
          | 6, _ => exact q6.symm)
        have hB9 : co h53 (uI I 16 2 2) ≤ B + 20 := by
          have := co_fr (I := I) (J := (uI I 16 2 2)) hF57 rfl
          omega
        refine go_callV (pc' := 40) rfl rfl rfl (Nat.le_of_ble_eq_true rfl) rfl (sm_o hS56 rfl) rfl rfl rfl (ct_send hS56 hD9 hB9 (fun l hl => by have := hQ l hl; have := lt_of hc54; omega) (by omega) (f := 3) (t := 0) (by decide) (by decide) (by decide) (m := mgR 1 (row1 (I, Q, Z) (1 + 1))) hc54 hox (hWn _ (by omega)) nb_L40 (by omega) (MF_R hmf) (by omega)) (fun r h58 q59 => ?_)
        rw [← hms] at q59
        obtain ⟨rfl, hC9⟩ := q59
        refine go_ret rfl rfl ?_
        exact ⟨rfl, hC9⟩
    · skip
      change I 11 0 = 1 at e0
      rcases hD0.2.2.2.2.2.2 2 (by decide) with e11 | e11 | e11
      · exact absurd hv (by simp [lv, e11])
      · skip
        change I 11 2 = 2 at e11
        refine go_s (pc' := 18) rfl rfl rfl rfl ?_
        refine go_sget (pc' := 19) (v := .ref 32) hS14 rfl rfl rfl (by decide) rfl rfl ?_
        refine go_sget (pc' := 20) (v := .int 1) hS14 rfl rfl rfl (by decide) (congrArg Value.int e0) rfl ?_
        refine go_s (pc' := 21) (st' := [.int (-1), .int 1]) rfl rfl rfl rfl ?_
        refine go_icmpP (t' := 40) (pc' := 22) rfl rfl rfl (fun (c : (1 : Int32) = (-1)) => absurd c (by decide)) (fun _ => ?_)
        refine go_newF (pc' := 23) (n := 8) rfl rfl rfl rfl (fun L60 h61 hL62 hc63 hg64 => ?_)
        have ge_L60 : _ ≤ L60 := hL62 ▸ hF16.1
        have nb_L60 := tbc_out L60 (by have := sm_len hS14; omega)
        have hS65 := sm_gq hS14 hg64
        have hF66 := fr_gq hF16 hg64
        refine go_s (pc' := 24) rfl rfl rfl rfl ?_
        refine go_s (pc' := 25) (st' := [.int 1, .ref L60, .ref L60]) rfl rfl rfl rfl ?_
        refine go_callI (pc' := 26) rfl rfl rfl (Nat.le_of_ble_eq_true rfl) rfl hc63 rfl rfl rfl (ci_msg hc63 (hWn _ (by omega)) (by omega)) (fun r h67 q68 => ?_)
        obtain ⟨rfl, hc69, hp70⟩ := q68
        have hS71 := sm_pq hS65 hp70 nb_L60
        have hF72 := fr_pq hF66 hp70 (by omega)
        refine go_s (pc' := 27) (lo' := [some (.ref 1), some (.ref 60), some (.ref L60)]) rfl rfl rfl rfl ?_
        refine go_s (pc' := 28) rfl rfl rfl rfl ?_
        refine go_s (pc' := 29) rfl rfl rfl rfl ?_
        refine go_sget (pc' := 30) (v := .ref a) hS71 rfl rfl rfl (by decide) e211 rfl ?_
        refine go_putF (pc' := 31) rfl hc69 rfl (by decide) (Nat.le_of_ble_eq_true rfl) rfl (hWn _ (by omega)) rfl (fun h73 hc74 hp75 => ?_)
        have hS76 := sm_pq hS71 hp75 nb_L60
        have hF77 := fr_pq hF72 hp75 (by omega)
        refine go_s (pc' := 32) rfl rfl rfl rfl ?_
        refine go_sget (pc' := 33) (v := .ref 2) hS76 rfl rfl rfl (by decide) rfl rfl ?_
        refine go_s (pc' := 34) rfl rfl rfl rfl ?_
        refine go_sget (pc' := 35) (v := .int 2) hS76 rfl rfl rfl (by decide) (congrArg Value.int e11) rfl ?_
        refine go_s (pc' := 36) rfl rfl rfl rfl ?_
        refine go_sget (pc' := 37) (v := .ref 32) hS76 rfl rfl rfl (by decide) rfl rfl ?_
        refine go_sget (pc' := 38) (v := .int 1) hS76 rfl rfl rfl (by decide) (congrArg Value.int e0) rfl ?_
        refine go_s (pc' := 39) rfl rfl rfl rfl ?_
        have hms : mgo 1 (I, Q, Z) = msnd 2 1 (mgR 1 (row1 (I, Q, Z) (1 + 1))) ((uI I 16 2 2), Q, Z) := by
          unfold mgo
          rw [if_pos t4, if_neg (show ¬ I 11 0 = -1 by rw [e0]; decide), show pn (I, Q, Z).1 (1 + 1) = 2 by simp [pn, e11], show pn (I, Q, Z).1 0 = 1 by simp [pn, e0]]
        have hD9 : CD w e m0 h73 (uI I 16 2 2) Q Z X ow sb := CD_I (CD_fr hD hF77) ⟨rfl, rfl, rfl, rfl, rfl, rfl, rfl, rfl, rfl, rfl, rfl, rfl, rfl, rfl, rfl⟩
        have hox : ow L60 = 0 := (hD.1.2.1 _ (by omega)).2
        have hmf : Rq h73 ow (.ref a) (fun i => (mgR 1 (row1 (I, Q, Z) (1 + 1))).1 (5 + i)) := Rq_eq (Rq_fr hD.1 hF77 (e211 ▸ kq)) (fun i hi => by
          match i, hi with
          | 0, _ => exact q0.symm
          | 1, _ => exact q1.symm
          | 2, _ => exact q2.symm
          | 3, _ => exact q3.symm
          | 4, _ => exact q4.symm
          | 5, _ => exact q5.symm
          | 6, _ => exact q6.symm)
        have hB9 : co h73 (uI I 16 2 2) ≤ B + 20 := by
          have := co_fr (I := I) (J := (uI I 16 2 2)) hF77 rfl
          omega
        refine go_callV (pc' := 40) rfl rfl rfl (Nat.le_of_ble_eq_true rfl) rfl (sm_o hS76 rfl) rfl rfl rfl (ct_send hS76 hD9 hB9 (fun l hl => by have := hQ l hl; have := lt_of hc74; omega) (by omega) (f := 2) (t := 1) (by decide) (by decide) (by decide) (m := mgR 1 (row1 (I, Q, Z) (1 + 1))) hc74 hox (hWn _ (by omega)) nb_L60 (by omega) (MF_R hmf) (by omega)) (fun r h78 q79 => ?_)
        rw [← hms] at q79
        obtain ⟨rfl, hC9⟩ := q79
        refine go_ret rfl rfl ?_
        exact ⟨rfl, hC9⟩
      · skip
        change I 11 2 = 3 at e11
        refine go_s (pc' := 18) rfl rfl rfl rfl ?_
        refine go_sget (pc' := 19) (v := .ref 32) hS14 rfl rfl rfl (by decide) rfl rfl ?_
        refine go_sget (pc' := 20) (v := .int 1) hS14 rfl rfl rfl (by decide) (congrArg Value.int e0) rfl ?_
        refine go_s (pc' := 21) (st' := [.int (-1), .int 1]) rfl rfl rfl rfl ?_
        refine go_icmpP (t' := 40) (pc' := 22) rfl rfl rfl (fun (c : (1 : Int32) = (-1)) => absurd c (by decide)) (fun _ => ?_)
        refine go_newF (pc' := 23) (n := 8) rfl rfl rfl rfl (fun L80 h81 hL82 hc83 hg84 => ?_)
        have ge_L80 : _ ≤ L80 := hL82 ▸ hF16.1
        have nb_L80 := tbc_out L80 (by have := sm_len hS14; omega)
        have hS85 := sm_gq hS14 hg84
        have hF86 := fr_gq hF16 hg84
        refine go_s (pc' := 24) rfl rfl rfl rfl ?_
        refine go_s (pc' := 25) (st' := [.int 1, .ref L80, .ref L80]) rfl rfl rfl rfl ?_
        refine go_callI (pc' := 26) rfl rfl rfl (Nat.le_of_ble_eq_true rfl) rfl hc83 rfl rfl rfl (ci_msg hc83 (hWn _ (by omega)) (by omega)) (fun r h87 q88 => ?_)
        obtain ⟨rfl, hc89, hp90⟩ := q88
        have hS91 := sm_pq hS85 hp90 nb_L80
        have hF92 := fr_pq hF86 hp90 (by omega)
        refine go_s (pc' := 27) (lo' := [some (.ref 1), some (.ref 60), some (.ref L80)]) rfl rfl rfl rfl ?_
        refine go_s (pc' := 28) rfl rfl rfl rfl ?_
        refine go_s (pc' := 29) rfl rfl rfl rfl ?_
        refine go_sget (pc' := 30) (v := .ref a) hS91 rfl rfl rfl (by decide) e211 rfl ?_
        refine go_putF (pc' := 31) rfl hc89 rfl (by decide) (Nat.le_of_ble_eq_true rfl) rfl (hWn _ (by omega)) rfl (fun h93 hc94 hp95 => ?_)
        have hS96 := sm_pq hS91 hp95 nb_L80
        have hF97 := fr_pq hF92 hp95 (by omega)
        refine go_s (pc' := 32) rfl rfl rfl rfl ?_
        refine go_sget (pc' := 33) (v := .ref 2) hS96 rfl rfl rfl (by decide) rfl rfl ?_
        refine go_s (pc' := 34) rfl rfl rfl rfl ?_
        refine go_sget (pc' := 35) (v := .int 3) hS96 rfl rfl rfl (by decide) (congrArg Value.int e11) rfl ?_
        refine go_s (pc' := 36) rfl rfl rfl rfl ?_
        refine go_sget (pc' := 37) (v := .ref 32) hS96 rfl rfl rfl (by decide) rfl rfl ?_
        refine go_sget (pc' := 38) (v := .int 1) hS96 rfl rfl rfl (by decide) (congrArg Value.int e0) rfl ?_
        refine go_s (pc' := 39) rfl rfl rfl rfl ?_
        have hms : mgo 1 (I, Q, Z) = msnd 3 1 (mgR 1 (row1 (I, Q, Z) (1 + 1))) ((uI I 16 2 2), Q, Z) := by
          unfold mgo
          rw [if_pos t4, if_neg (show ¬ I 11 0 = -1 by rw [e0]; decide), show pn (I, Q, Z).1 (1 + 1) = 3 by simp [pn, e11], show pn (I, Q, Z).1 0 = 1 by simp [pn, e0]]
        have hD9 : CD w e m0 h93 (uI I 16 2 2) Q Z X ow sb := CD_I (CD_fr hD hF97) ⟨rfl, rfl, rfl, rfl, rfl, rfl, rfl, rfl, rfl, rfl, rfl, rfl, rfl, rfl, rfl⟩
        have hox : ow L80 = 0 := (hD.1.2.1 _ (by omega)).2
        have hmf : Rq h93 ow (.ref a) (fun i => (mgR 1 (row1 (I, Q, Z) (1 + 1))).1 (5 + i)) := Rq_eq (Rq_fr hD.1 hF97 (e211 ▸ kq)) (fun i hi => by
          match i, hi with
          | 0, _ => exact q0.symm
          | 1, _ => exact q1.symm
          | 2, _ => exact q2.symm
          | 3, _ => exact q3.symm
          | 4, _ => exact q4.symm
          | 5, _ => exact q5.symm
          | 6, _ => exact q6.symm)
        have hB9 : co h93 (uI I 16 2 2) ≤ B + 20 := by
          have := co_fr (I := I) (J := (uI I 16 2 2)) hF97 rfl
          omega
        refine go_callV (pc' := 40) rfl rfl rfl (Nat.le_of_ble_eq_true rfl) rfl (sm_o hS96 rfl) rfl rfl rfl (ct_send hS96 hD9 hB9 (fun l hl => by have := hQ l hl; have := lt_of hc94; omega) (by omega) (f := 3) (t := 1) (by decide) (by decide) (by decide) (m := mgR 1 (row1 (I, Q, Z) (1 + 1))) hc94 hox (hWn _ (by omega)) nb_L80 (by omega) (MF_R hmf) (by omega)) (fun r h98 q99 => ?_)
        rw [← hms] at q99
        obtain ⟨rfl, hC9⟩ := q99
        refine go_ret rfl rfl ?_
        exact ⟨rfl, hC9⟩
  · skip
    rcases t7 with ⟨t4, t7⟩ | ⟨t4, t7, q3, q4, q5, q6⟩
    · skip
      obtain ⟨a, e211, oa, ha⟩ := id kq
      obtain ⟨b, e212, ob, hb⟩ := id ks
      refine go_s (pc' := 1) rfl rfl rfl rfl ?_
      refine go_callV (pc' := 2) rfl rfl rfl (Nat.le_of_ble_eq_true rfl) rfl (sm_o hS rfl) rfl rfl rfl (ct_isOpen_1 hS htr (by omega)) (fun r h100 q101 => ?_)
      obtain ⟨rfl, rfl⟩ := q101
      rw [if_neg (by rw [t4]; decide)]
      refine go_ifP (t' := 14) (pc' := 3) rfl rfl rfl (fun (c : ¬ (0 : Int32) = 0) => absurd c (by decide)) (fun _ => ?_)
      refine go_s (pc' := 4) rfl rfl rfl rfl ?_
      refine go_s (pc' := 5) (st' := [.int 0, .ref 60]) rfl rfl rfl rfl ?_
      refine go_sput (pc' := 6) hS rfl rfl rfl (by decide) tbc_inj (Nat.le_of_ble_eq_true rfl) rfl (hW _ rfl) rfl (fun h102 hS103 hE104 => ?_)
      have hF105 := fr_trans hF1 (fr_e hE104)
      refine go_s (pc' := 7) rfl rfl rfl rfl ?_
      refine go_sget (pc' := 8) (v := .ref b) hS103 rfl rfl rfl (by decide) e212 rfl ?_
      refine go_s (pc' := 9) rfl rfl rfl rfl ?_
      refine go_s (pc' := 10) rfl rfl rfl rfl ?_
      refine go_s (pc' := 11) rfl rfl rfl rfl ?_
      refine go_sget (pc' := 12) (v := .ref b) hS103 rfl rfl rfl (by decide) e212 rfl ?_
      refine go_sputX (pc' := 13) hS103 rfl rfl rfl (by decide) tbc_inj (Nat.le_of_ble_eq_true rfl) (Nat.le_of_ble_eq_true rfl) rfl (hW _ rfl) rfl (fun h106 hS107 hE108 => ?_)
      have hF109 := fr_trans hF105 (fr_e hE108)
      refine go_ret rfl rfl ?_
      have hms : mgo 1 (I, Q, Z) = (mshw 1 (row1 (I, Q, Z) (1 + 1)) (uI I 16 2 0), Q, Z) := by
        unfold mgo
        rw [if_neg (by rw [t4]; decide), if_pos t5]
      have hD110 : CD w e m0 h106 (uI I 16 2 0) Q Z X ow sb := CD_I (CD_fr hD hF109) ⟨rfl, rfl, rfl, rfl, rfl, rfl, rfl, rfl, rfl, rfl, rfl, rfl, rfl, rfl, rfl⟩
      have hB111 : co h106 (uI I 16 2 0) ≤ B + 0 := by
        have := co_fr (I := I) (J := (uI I 16 2 0)) hF109 rfl
        have := hB
        omega
      rw [hms]
      refine ⟨rfl, ⟨(uX X 215 1 (.ref b)), ow, sb, mshw_sm hS107, CD_shw hD110 (by decide) (An_fr hD.1 hF109 (e212 ▸ ks)) s2 s3 s4 s5, ?_, fun l hl => Nat.le_trans (hQ l hl) hF109.1⟩⟩
      show co _ (mshw _ _ _) ≤ _
      unfold co at hB111 ⊢
      rw [mshw_o (by omega) (by omega)]
      omega
    · skip
      obtain ⟨a, e211, oa, ha⟩ := id kq
      obtain ⟨b, e212, ob, hb⟩ := id ks
      refine go_s (pc' := 1) rfl rfl rfl rfl ?_
      refine go_callV (pc' := 2) rfl rfl rfl (Nat.le_of_ble_eq_true rfl) rfl (sm_o hS rfl) rfl rfl rfl (ct_isOpen_1 hS htr (by omega)) (fun r h112 q113 => ?_)
      obtain ⟨rfl, rfl⟩ := q113
      rw [if_pos t4]
      refine go_ifP (t' := 14) (pc' := 3) rfl rfl rfl (fun _ => ?_) (fun (c : ¬ (¬ (1 : Int32) = 0)) => absurd (by decide) c)
      refine go_s (pc' := 15) rfl rfl rfl rfl ?_
      refine go_s (pc' := 16) (st' := [.int 2, .ref 60]) rfl rfl rfl rfl ?_
      refine go_sput (pc' := 17) hS rfl rfl rfl (by decide) tbc_inj (Nat.le_of_ble_eq_true rfl) rfl (hW _ rfl) rfl (fun h114 hS115 hE116 => ?_)
      have hF117 := fr_trans hF1 (fr_e hE116)
      rcases hD0.2.2.2.2.2.2 0 (by decide) with e0 | e0 | e0
      · skip
        change I 11 0 = -1 at e0
        refine go_s (pc' := 18) rfl rfl rfl rfl ?_
        refine go_sget (pc' := 19) (v := .ref 32) hS115 rfl rfl rfl (by decide) rfl rfl ?_
        refine go_sget (pc' := 20) (v := .int (-1)) hS115 rfl rfl rfl (by decide) (congrArg Value.int e0) rfl ?_
        refine go_s (pc' := 21) (st' := [.int (-1), .int (-1)]) rfl rfl rfl rfl ?_
        refine go_icmpP (t' := 40) (pc' := 22) rfl rfl rfl (fun _ => ?_) (fun (c : ¬ (((-1) : Int32) = (-1))) => absurd (by decide) c)
        refine go_ret rfl rfl ?_
        have hD118 : CD w e m0 h114 (uI I 16 2 2) Q Z X ow sb := CD_I (CD_fr hD hF117) ⟨rfl, rfl, rfl, rfl, rfl, rfl, rfl, rfl, rfl, rfl, rfl, rfl, rfl, rfl, rfl⟩
        have hB119 : co h114 (uI I 16 2 2) ≤ B + 0 := by
          have := co_fr (I := I) (J := (uI I 16 2 2)) hF117 rfl
          have := hB
          omega
        have hC120 : CA w e m0 (B + 0) h114 ((uI I 16 2 2), Q, Z) := ⟨X, ow, sb, hS115, hD118, hB119, fun l hl => Nat.le_trans (hQ l hl) hF117.1⟩
        have hms : mgo 1 (I, Q, Z) = ((uI I 16 2 2), Q, Z) := by
          unfold mgo
          rw [if_pos t4, if_pos (show I 11 0 = -1 from e0)]
        rw [hms]
        exact ⟨rfl, CA_le hC120 (by omega)⟩
      · skip
        change I 11 0 = 0 at e0
        rcases hD0.2.2.2.2.2.2 2 (by decide) with e11 | e11 | e11
        · exact absurd hv (by simp [lv, e11])
        · skip
          change I 11 2 = 2 at e11
          refine go_s (pc' := 18) rfl rfl rfl rfl ?_
          refine go_sget (pc' := 19) (v := .ref 32) hS115 rfl rfl rfl (by decide) rfl rfl ?_
          refine go_sget (pc' := 20) (v := .int 0) hS115 rfl rfl rfl (by decide) (congrArg Value.int e0) rfl ?_
          refine go_s (pc' := 21) (st' := [.int (-1), .int 0]) rfl rfl rfl rfl ?_
          refine go_icmpP (t' := 40) (pc' := 22) rfl rfl rfl (fun (c : (0 : Int32) = (-1)) => absurd c (by decide)) (fun _ => ?_)
          refine go_newF (pc' := 23) (n := 8) rfl rfl rfl rfl (fun L121 h122 hL123 hc124 hg125 => ?_)
          have ge_L121 : _ ≤ L121 := hL123 ▸ hF117.1
          have nb_L121 := tbc_out L121 (by have := sm_len hS115; omega)
          have hS126 := sm_gq hS115 hg125
          have hF127 := fr_gq hF117 hg125
          refine go_s (pc' := 24) rfl rfl rfl rfl ?_
          refine go_s (pc' := 25) (st' := [.int 1, .ref L121, .ref L121]) rfl rfl rfl rfl ?_
          refine go_callI (pc' := 26) rfl rfl rfl (Nat.le_of_ble_eq_true rfl) rfl hc124 rfl rfl rfl (ci_msg hc124 (hWn _ (by omega)) (by omega)) (fun r h128 q129 => ?_)
          obtain ⟨rfl, hc130, hp131⟩ := q129
          have hS132 := sm_pq hS126 hp131 nb_L121
          have hF133 := fr_pq hF127 hp131 (by omega)
          refine go_s (pc' := 27) (lo' := [some (.ref 1), some (.ref 60), some (.ref L121)]) rfl rfl rfl rfl ?_
          refine go_s (pc' := 28) rfl rfl rfl rfl ?_
          refine go_s (pc' := 29) rfl rfl rfl rfl ?_
          refine go_sget (pc' := 30) (v := .ref a) hS132 rfl rfl rfl (by decide) e211 rfl ?_
          refine go_putF (pc' := 31) rfl hc130 rfl (by decide) (Nat.le_of_ble_eq_true rfl) rfl (hWn _ (by omega)) rfl (fun h134 hc135 hp136 => ?_)
          have hS137 := sm_pq hS132 hp136 nb_L121
          have hF138 := fr_pq hF133 hp136 (by omega)
          refine go_s (pc' := 32) rfl rfl rfl rfl ?_
          refine go_sget (pc' := 33) (v := .ref 2) hS137 rfl rfl rfl (by decide) rfl rfl ?_
          refine go_s (pc' := 34) rfl rfl rfl rfl ?_
          refine go_sget (pc' := 35) (v := .int 2) hS137 rfl rfl rfl (by decide) (congrArg Value.int e11) rfl ?_
          refine go_s (pc' := 36) rfl rfl rfl rfl ?_
          refine go_sget (pc' := 37) (v := .ref 32) hS137 rfl rfl rfl (by decide) rfl rfl ?_
          refine go_sget (pc' := 38) (v := .int 0) hS137 rfl rfl rfl (by decide) (congrArg Value.int e0) rfl ?_
          refine go_s (pc' := 39) rfl rfl rfl rfl ?_
          have hms : mgo 1 (I, Q, Z) = msnd 2 0 (mgR 1 (row1 (I, Q, Z) (1 + 1))) ((uI I 16 2 2), Q, Z) := by
            unfold mgo
            rw [if_pos t4, if_neg (show ¬ I 11 0 = -1 by rw [e0]; decide), show pn (I, Q, Z).1 (1 + 1) = 2 by simp [pn, e11], show pn (I, Q, Z).1 0 = 0 by simp [pn, e0]]
          have hD9 : CD w e m0 h134 (uI I 16 2 2) Q Z X ow sb := CD_I (CD_fr hD hF138) ⟨rfl, rfl, rfl, rfl, rfl, rfl, rfl, rfl, rfl, rfl, rfl, rfl, rfl, rfl, rfl⟩
          have hox : ow L121 = 0 := (hD.1.2.1 _ (by omega)).2
          have hmf : Rq h134 ow (.ref a) (fun i => (mgR 1 (row1 (I, Q, Z) (1 + 1))).1 (5 + i)) := Rq_eq (Rq_fr hD.1 hF138 (e211 ▸ kq)) (fun i hi => by
            match i, hi with
            | 0, _ => exact q0.symm
            | 1, _ => exact q1.symm
            | 2, _ => exact q2.symm
            | 3, _ => exact q3.symm
            | 4, _ => exact q4.symm
            | 5, _ => exact q5.symm
            | 6, _ => exact q6.symm)
          have hB9 : co h134 (uI I 16 2 2) ≤ B + 20 := by
            have := co_fr (I := I) (J := (uI I 16 2 2)) hF138 rfl
            omega
          refine go_callV (pc' := 40) rfl rfl rfl (Nat.le_of_ble_eq_true rfl) rfl (sm_o hS137 rfl) rfl rfl rfl (ct_send hS137 hD9 hB9 (fun l hl => by have := hQ l hl; have := lt_of hc135; omega) (by omega) (f := 2) (t := 0) (by decide) (by decide) (by decide) (m := mgR 1 (row1 (I, Q, Z) (1 + 1))) hc135 hox (hWn _ (by omega)) nb_L121 (by omega) (MF_R hmf) (by omega)) (fun r h139 q140 => ?_)
          rw [← hms] at q140
          obtain ⟨rfl, hC9⟩ := q140
          refine go_ret rfl rfl ?_
          exact ⟨rfl, hC9⟩
        · skip
          change I 11 2 = 3 at e11
          refine go_s (pc' := 18) rfl rfl rfl rfl ?_
          refine go_sget (pc' := 19) (v := .ref 32) hS115 rfl rfl rfl (by decide) rfl rfl ?_
          refine go_sget (pc' := 20) (v := .int 0) hS115 rfl rfl rfl (by decide) (congrArg Value.int e0) rfl ?_
          refine go_s (pc' := 21) (st' := [.int (-1), .int 0]) rfl rfl rfl rfl ?_
          refine go_icmpP (t' := 40) (pc' := 22) rfl rfl rfl (fun (c : (0 : Int32) = (-1)) => absurd c (by decide)) (fun _ => ?_)
          refine go_newF (pc' := 23) (n := 8) rfl rfl rfl rfl (fun L141 h142 hL143 hc144 hg145 => ?_)
          have ge_L141 : _ ≤ L141 := hL143 ▸ hF117.1
          have nb_L141 := tbc_out L141 (by have := sm_len hS115; omega)
          have hS146 := sm_gq hS115 hg145
          have hF147 := fr_gq hF117 hg145
          refine go_s (pc' := 24) rfl rfl rfl rfl ?_
          refine go_s (pc' := 25) (st' := [.int 1, .ref L141, .ref L141]) rfl rfl rfl rfl ?_
          refine go_callI (pc' := 26) rfl rfl rfl (Nat.le_of_ble_eq_true rfl) rfl hc144 rfl rfl rfl (ci_msg hc144 (hWn _ (by omega)) (by omega)) (fun r h148 q149 => ?_)
          obtain ⟨rfl, hc150, hp151⟩ := q149
          have hS152 := sm_pq hS146 hp151 nb_L141
          have hF153 := fr_pq hF147 hp151 (by omega)
          refine go_s (pc' := 27) (lo' := [some (.ref 1), some (.ref 60), some (.ref L141)]) rfl rfl rfl rfl ?_
          refine go_s (pc' := 28) rfl rfl rfl rfl ?_
          refine go_s (pc' := 29) rfl rfl rfl rfl ?_
          refine go_sget (pc' := 30) (v := .ref a) hS152 rfl rfl rfl (by decide) e211 rfl ?_
          refine go_putF (pc' := 31) rfl hc150 rfl (by decide) (Nat.le_of_ble_eq_true rfl) rfl (hWn _ (by omega)) rfl (fun h154 hc155 hp156 => ?_)
          have hS157 := sm_pq hS152 hp156 nb_L141
          have hF158 := fr_pq hF153 hp156 (by omega)
          refine go_s (pc' := 32) rfl rfl rfl rfl ?_
          refine go_sget (pc' := 33) (v := .ref 2) hS157 rfl rfl rfl (by decide) rfl rfl ?_
          refine go_s (pc' := 34) rfl rfl rfl rfl ?_
          refine go_sget (pc' := 35) (v := .int 3) hS157 rfl rfl rfl (by decide) (congrArg Value.int e11) rfl ?_
          refine go_s (pc' := 36) rfl rfl rfl rfl ?_
          refine go_sget (pc' := 37) (v := .ref 32) hS157 rfl rfl rfl (by decide) rfl rfl ?_
          refine go_sget (pc' := 38) (v := .int 0) hS157 rfl rfl rfl (by decide) (congrArg Value.int e0) rfl ?_
          refine go_s (pc' := 39) rfl rfl rfl rfl ?_
          have hms : mgo 1 (I, Q, Z) = msnd 3 0 (mgR 1 (row1 (I, Q, Z) (1 + 1))) ((uI I 16 2 2), Q, Z) := by
            unfold mgo
            rw [if_pos t4, if_neg (show ¬ I 11 0 = -1 by rw [e0]; decide), show pn (I, Q, Z).1 (1 + 1) = 3 by simp [pn, e11], show pn (I, Q, Z).1 0 = 0 by simp [pn, e0]]
          have hD9 : CD w e m0 h154 (uI I 16 2 2) Q Z X ow sb := CD_I (CD_fr hD hF158) ⟨rfl, rfl, rfl, rfl, rfl, rfl, rfl, rfl, rfl, rfl, rfl, rfl, rfl, rfl, rfl⟩
          have hox : ow L141 = 0 := (hD.1.2.1 _ (by omega)).2
          have hmf : Rq h154 ow (.ref a) (fun i => (mgR 1 (row1 (I, Q, Z) (1 + 1))).1 (5 + i)) := Rq_eq (Rq_fr hD.1 hF158 (e211 ▸ kq)) (fun i hi => by
            match i, hi with
            | 0, _ => exact q0.symm
            | 1, _ => exact q1.symm
            | 2, _ => exact q2.symm
            | 3, _ => exact q3.symm
            | 4, _ => exact q4.symm
            | 5, _ => exact q5.symm
            | 6, _ => exact q6.symm)
          have hB9 : co h154 (uI I 16 2 2) ≤ B + 20 := by
            have := co_fr (I := I) (J := (uI I 16 2 2)) hF158 rfl
            omega
          refine go_callV (pc' := 40) rfl rfl rfl (Nat.le_of_ble_eq_true rfl) rfl (sm_o hS157 rfl) rfl rfl rfl (ct_send hS157 hD9 hB9 (fun l hl => by have := hQ l hl; have := lt_of hc155; omega) (by omega) (f := 3) (t := 0) (by decide) (by decide) (by decide) (m := mgR 1 (row1 (I, Q, Z) (1 + 1))) hc155 hox (hWn _ (by omega)) nb_L141 (by omega) (MF_R hmf) (by omega)) (fun r h159 q160 => ?_)
          rw [← hms] at q160
          obtain ⟨rfl, hC9⟩ := q160
          refine go_ret rfl rfl ?_
          exact ⟨rfl, hC9⟩
      · skip
        change I 11 0 = 1 at e0
        rcases hD0.2.2.2.2.2.2 2 (by decide) with e11 | e11 | e11
        · exact absurd hv (by simp [lv, e11])
        · skip
          change I 11 2 = 2 at e11
          refine go_s (pc' := 18) rfl rfl rfl rfl ?_
          refine go_sget (pc' := 19) (v := .ref 32) hS115 rfl rfl rfl (by decide) rfl rfl ?_
          refine go_sget (pc' := 20) (v := .int 1) hS115 rfl rfl rfl (by decide) (congrArg Value.int e0) rfl ?_
          refine go_s (pc' := 21) (st' := [.int (-1), .int 1]) rfl rfl rfl rfl ?_
          refine go_icmpP (t' := 40) (pc' := 22) rfl rfl rfl (fun (c : (1 : Int32) = (-1)) => absurd c (by decide)) (fun _ => ?_)
          refine go_newF (pc' := 23) (n := 8) rfl rfl rfl rfl (fun L161 h162 hL163 hc164 hg165 => ?_)
          have ge_L161 : _ ≤ L161 := hL163 ▸ hF117.1
          have nb_L161 := tbc_out L161 (by have := sm_len hS115; omega)
          have hS166 := sm_gq hS115 hg165
          have hF167 := fr_gq hF117 hg165
          refine go_s (pc' := 24) rfl rfl rfl rfl ?_
          refine go_s (pc' := 25) (st' := [.int 1, .ref L161, .ref L161]) rfl rfl rfl rfl ?_
          refine go_callI (pc' := 26) rfl rfl rfl (Nat.le_of_ble_eq_true rfl) rfl hc164 rfl rfl rfl (ci_msg hc164 (hWn _ (by omega)) (by omega)) (fun r h168 q169 => ?_)
          obtain ⟨rfl, hc170, hp171⟩ := q169
          have hS172 := sm_pq hS166 hp171 nb_L161
          have hF173 := fr_pq hF167 hp171 (by omega)
          refine go_s (pc' := 27) (lo' := [some (.ref 1), some (.ref 60), some (.ref L161)]) rfl rfl rfl rfl ?_
          refine go_s (pc' := 28) rfl rfl rfl rfl ?_
          refine go_s (pc' := 29) rfl rfl rfl rfl ?_
          refine go_sget (pc' := 30) (v := .ref a) hS172 rfl rfl rfl (by decide) e211 rfl ?_
          refine go_putF (pc' := 31) rfl hc170 rfl (by decide) (Nat.le_of_ble_eq_true rfl) rfl (hWn _ (by omega)) rfl (fun h174 hc175 hp176 => ?_)
          have hS177 := sm_pq hS172 hp176 nb_L161
          have hF178 := fr_pq hF173 hp176 (by omega)
          refine go_s (pc' := 32) rfl rfl rfl rfl ?_
          refine go_sget (pc' := 33) (v := .ref 2) hS177 rfl rfl rfl (by decide) rfl rfl ?_
          refine go_s (pc' := 34) rfl rfl rfl rfl ?_
          refine go_sget (pc' := 35) (v := .int 2) hS177 rfl rfl rfl (by decide) (congrArg Value.int e11) rfl ?_
          refine go_s (pc' := 36) rfl rfl rfl rfl ?_
          refine go_sget (pc' := 37) (v := .ref 32) hS177 rfl rfl rfl (by decide) rfl rfl ?_
          refine go_sget (pc' := 38) (v := .int 1) hS177 rfl rfl rfl (by decide) (congrArg Value.int e0) rfl ?_
          refine go_s (pc' := 39) rfl rfl rfl rfl ?_
          have hms : mgo 1 (I, Q, Z) = msnd 2 1 (mgR 1 (row1 (I, Q, Z) (1 + 1))) ((uI I 16 2 2), Q, Z) := by
            unfold mgo
            rw [if_pos t4, if_neg (show ¬ I 11 0 = -1 by rw [e0]; decide), show pn (I, Q, Z).1 (1 + 1) = 2 by simp [pn, e11], show pn (I, Q, Z).1 0 = 1 by simp [pn, e0]]
          have hD9 : CD w e m0 h174 (uI I 16 2 2) Q Z X ow sb := CD_I (CD_fr hD hF178) ⟨rfl, rfl, rfl, rfl, rfl, rfl, rfl, rfl, rfl, rfl, rfl, rfl, rfl, rfl, rfl⟩
          have hox : ow L161 = 0 := (hD.1.2.1 _ (by omega)).2
          have hmf : Rq h174 ow (.ref a) (fun i => (mgR 1 (row1 (I, Q, Z) (1 + 1))).1 (5 + i)) := Rq_eq (Rq_fr hD.1 hF178 (e211 ▸ kq)) (fun i hi => by
            match i, hi with
            | 0, _ => exact q0.symm
            | 1, _ => exact q1.symm
            | 2, _ => exact q2.symm
            | 3, _ => exact q3.symm
            | 4, _ => exact q4.symm
            | 5, _ => exact q5.symm
            | 6, _ => exact q6.symm)
          have hB9 : co h174 (uI I 16 2 2) ≤ B + 20 := by
            have := co_fr (I := I) (J := (uI I 16 2 2)) hF178 rfl
            omega
          refine go_callV (pc' := 40) rfl rfl rfl (Nat.le_of_ble_eq_true rfl) rfl (sm_o hS177 rfl) rfl rfl rfl (ct_send hS177 hD9 hB9 (fun l hl => by have := hQ l hl; have := lt_of hc175; omega) (by omega) (f := 2) (t := 1) (by decide) (by decide) (by decide) (m := mgR 1 (row1 (I, Q, Z) (1 + 1))) hc175 hox (hWn _ (by omega)) nb_L161 (by omega) (MF_R hmf) (by omega)) (fun r h179 q180 => ?_)
          rw [← hms] at q180
          obtain ⟨rfl, hC9⟩ := q180
          refine go_ret rfl rfl ?_
          exact ⟨rfl, hC9⟩
        · skip
          change I 11 2 = 3 at e11
          refine go_s (pc' := 18) rfl rfl rfl rfl ?_
          refine go_sget (pc' := 19) (v := .ref 32) hS115 rfl rfl rfl (by decide) rfl rfl ?_
          refine go_sget (pc' := 20) (v := .int 1) hS115 rfl rfl rfl (by decide) (congrArg Value.int e0) rfl ?_
          refine go_s (pc' := 21) (st' := [.int (-1), .int 1]) rfl rfl rfl rfl ?_
          refine go_icmpP (t' := 40) (pc' := 22) rfl rfl rfl (fun (c : (1 : Int32) = (-1)) => absurd c (by decide)) (fun _ => ?_)
          refine go_newF (pc' := 23) (n := 8) rfl rfl rfl rfl (fun L181 h182 hL183 hc184 hg185 => ?_)
          have ge_L181 : _ ≤ L181 := hL183 ▸ hF117.1
          have nb_L181 := tbc_out L181 (by have := sm_len hS115; omega)
          have hS186 := sm_gq hS115 hg185
          have hF187 := fr_gq hF117 hg185
          refine go_s (pc' := 24) rfl rfl rfl rfl ?_
          refine go_s (pc' := 25) (st' := [.int 1, .ref L181, .ref L181]) rfl rfl rfl rfl ?_
          refine go_callI (pc' := 26) rfl rfl rfl (Nat.le_of_ble_eq_true rfl) rfl hc184 rfl rfl rfl (ci_msg hc184 (hWn _ (by omega)) (by omega)) (fun r h188 q189 => ?_)
          obtain ⟨rfl, hc190, hp191⟩ := q189
          have hS192 := sm_pq hS186 hp191 nb_L181
          have hF193 := fr_pq hF187 hp191 (by omega)
          refine go_s (pc' := 27) (lo' := [some (.ref 1), some (.ref 60), some (.ref L181)]) rfl rfl rfl rfl ?_
          refine go_s (pc' := 28) rfl rfl rfl rfl ?_
          refine go_s (pc' := 29) rfl rfl rfl rfl ?_
          refine go_sget (pc' := 30) (v := .ref a) hS192 rfl rfl rfl (by decide) e211 rfl ?_
          refine go_putF (pc' := 31) rfl hc190 rfl (by decide) (Nat.le_of_ble_eq_true rfl) rfl (hWn _ (by omega)) rfl (fun h194 hc195 hp196 => ?_)
          have hS197 := sm_pq hS192 hp196 nb_L181
          have hF198 := fr_pq hF193 hp196 (by omega)
          refine go_s (pc' := 32) rfl rfl rfl rfl ?_
          refine go_sget (pc' := 33) (v := .ref 2) hS197 rfl rfl rfl (by decide) rfl rfl ?_
          refine go_s (pc' := 34) rfl rfl rfl rfl ?_
          refine go_sget (pc' := 35) (v := .int 3) hS197 rfl rfl rfl (by decide) (congrArg Value.int e11) rfl ?_
          refine go_s (pc' := 36) rfl rfl rfl rfl ?_
          refine go_sget (pc' := 37) (v := .ref 32) hS197 rfl rfl rfl (by decide) rfl rfl ?_
          refine go_sget (pc' := 38) (v := .int 1) hS197 rfl rfl rfl (by decide) (congrArg Value.int e0) rfl ?_
          refine go_s (pc' := 39) rfl rfl rfl rfl ?_
          have hms : mgo 1 (I, Q, Z) = msnd 3 1 (mgR 1 (row1 (I, Q, Z) (1 + 1))) ((uI I 16 2 2), Q, Z) := by
            unfold mgo
            rw [if_pos t4, if_neg (show ¬ I 11 0 = -1 by rw [e0]; decide), show pn (I, Q, Z).1 (1 + 1) = 3 by simp [pn, e11], show pn (I, Q, Z).1 0 = 1 by simp [pn, e0]]
          have hD9 : CD w e m0 h194 (uI I 16 2 2) Q Z X ow sb := CD_I (CD_fr hD hF198) ⟨rfl, rfl, rfl, rfl, rfl, rfl, rfl, rfl, rfl, rfl, rfl, rfl, rfl, rfl, rfl⟩
          have hox : ow L181 = 0 := (hD.1.2.1 _ (by omega)).2
          have hmf : Rq h194 ow (.ref a) (fun i => (mgR 1 (row1 (I, Q, Z) (1 + 1))).1 (5 + i)) := Rq_eq (Rq_fr hD.1 hF198 (e211 ▸ kq)) (fun i hi => by
            match i, hi with
            | 0, _ => exact q0.symm
            | 1, _ => exact q1.symm
            | 2, _ => exact q2.symm
            | 3, _ => exact q3.symm
            | 4, _ => exact q4.symm
            | 5, _ => exact q5.symm
            | 6, _ => exact q6.symm)
          have hB9 : co h194 (uI I 16 2 2) ≤ B + 20 := by
            have := co_fr (I := I) (J := (uI I 16 2 2)) hF198 rfl
            omega
          refine go_callV (pc' := 40) rfl rfl rfl (Nat.le_of_ble_eq_true rfl) rfl (sm_o hS197 rfl) rfl rfl rfl (ct_send hS197 hD9 hB9 (fun l hl => by have := hQ l hl; have := lt_of hc195; omega) (by omega) (f := 3) (t := 1) (by decide) (by decide) (by decide) (m := mgR 1 (row1 (I, Q, Z) (1 + 1))) hc195 hox (hWn _ (by omega)) nb_L181 (by omega) (MF_R hmf) (by omega)) (fun r h199 q200 => ?_)
          rw [← hms] at q200
          obtain ⟨rfl, hC9⟩ := q200
          refine go_ret rfl rfl ?_
          exact ⟨rfl, hC9⟩
