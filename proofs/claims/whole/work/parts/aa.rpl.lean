theorem ct_to_s {w : Nat → Bool} {d : Nat} {h : am_Hp} {I : sm_I} {X : sm_X} (hS : sm tbc h I X) (hW : ∀ a, (tbc a).isSome = true → w a = true) {b : Nat} (h209 : X 209 0 = .ref b) (hd : 1 ≤ d) : am_Ev (am_prog w) d 35 [.ref 32] h (fun r h' => r = none ∧ sm tbc h' I (uX X 208 0 (.ref b)) ∧ sm_e tbc h h') := by
  obtain ⟨d, rfl⟩ : ∃ e, d = e + 1 := ⟨d - 1, by omega⟩
  refine ev_go rfl (Nat.le_of_ble_eq_true rfl) rfl ?_
  refine go_s (pc' := 1) rfl rfl rfl rfl ?_
  refine go_s (pc' := 2) rfl rfl rfl rfl ?_
  refine go_sget (pc' := 3) (v := .ref b) hS rfl rfl rfl (by decide) h209 rfl ?_
  refine go_sputX (pc' := 4) hS rfl rfl rfl (by decide) tbc_inj (Nat.le_of_ble_eq_true rfl) (Nat.le_of_ble_eq_true rfl) rfl (hW _ rfl) rfl (fun h1 hS2 hE3 => ?_)
  refine go_ret rfl rfl ?_
  exact ⟨rfl, hS2, hE3⟩
theorem ct_to_0 {w : Nat → Bool} {d : Nat} {h : am_Hp} {I : sm_I} {X : sm_X} (hS : sm tbc h I X) (hW : ∀ a, (tbc a).isSome = true → w a = true) (hf1 : am_fit (.object "MirrorPairs$Request") (X 213 0) = true) (hf2 : am_fit (.object "MirrorPairs$Answer") (X 214 0) = true) (hd : 1 ≤ d) : am_Ev (am_prog w) d 36 [.ref 59] h (fun r h' => r = none ∧ sm tbc h' I (uX (uX X 211 0 (X 213 0)) 212 0 (X 214 0)) ∧ sm_e tbc h h') := by
  obtain ⟨d, rfl⟩ : ∃ e, d = e + 1 := ⟨d - 1, by omega⟩
  refine ev_go rfl (Nat.le_of_ble_eq_true rfl) rfl ?_
  refine go_s (pc' := 1) rfl rfl rfl rfl ?_
  refine go_s (pc' := 2) rfl rfl rfl rfl ?_
  refine go_sget (pc' := 3) (v := (X 213 0)) hS rfl rfl rfl (by decide) rfl rfl ?_
  refine go_sputX (pc' := 4) hS rfl rfl rfl (by decide) tbc_inj (Nat.le_of_ble_eq_true rfl) (Nat.le_of_ble_eq_true rfl) hf1 (hW _ rfl) rfl (fun h1 hS2 hE3 => ?_)
  refine go_s (pc' := 5) rfl rfl rfl rfl ?_
  refine go_s (pc' := 6) rfl rfl rfl rfl ?_
  refine go_sget (pc' := 7) (v := (X 214 0)) hS2 rfl rfl rfl (by decide) rfl rfl ?_
  refine go_sputX (pc' := 8) hS2 rfl rfl rfl (by decide) tbc_inj (Nat.le_of_ble_eq_true rfl) (Nat.le_of_ble_eq_true rfl) hf2 (hW _ rfl) rfl (fun h4 hS5 hE6 => ?_)
  have hE7 := sm_e_trans hE3 hE6
  refine go_ret rfl rfl ?_
  exact ⟨rfl, hS5, hE7⟩
theorem ct_to_1 {w : Nat → Bool} {d : Nat} {h : am_Hp} {I : sm_I} {X : sm_X} (hS : sm tbc h I X) (hW : ∀ a, (tbc a).isSome = true → w a = true) (hf1 : am_fit (.object "MirrorPairs$Request") (X 213 1) = true) (hf2 : am_fit (.object "MirrorPairs$Answer") (X 214 1) = true) (hd : 1 ≤ d) : am_Ev (am_prog w) d 36 [.ref 60] h (fun r h' => r = none ∧ sm tbc h' I (uX (uX X 211 1 (X 213 1)) 212 1 (X 214 1)) ∧ sm_e tbc h h') := by
  obtain ⟨d, rfl⟩ : ∃ e, d = e + 1 := ⟨d - 1, by omega⟩
  refine ev_go rfl (Nat.le_of_ble_eq_true rfl) rfl ?_
  refine go_s (pc' := 1) rfl rfl rfl rfl ?_
  refine go_s (pc' := 2) rfl rfl rfl rfl ?_
  refine go_sget (pc' := 3) (v := (X 213 1)) hS rfl rfl rfl (by decide) rfl rfl ?_
  refine go_sputX (pc' := 4) hS rfl rfl rfl (by decide) tbc_inj (Nat.le_of_ble_eq_true rfl) (Nat.le_of_ble_eq_true rfl) hf1 (hW _ rfl) rfl (fun h1 hS2 hE3 => ?_)
  refine go_s (pc' := 5) rfl rfl rfl rfl ?_
  refine go_s (pc' := 6) rfl rfl rfl rfl ?_
  refine go_sget (pc' := 7) (v := (X 214 1)) hS2 rfl rfl rfl (by decide) rfl rfl ?_
  refine go_sputX (pc' := 8) hS2 rfl rfl rfl (by decide) tbc_inj (Nat.le_of_ble_eq_true rfl) (Nat.le_of_ble_eq_true rfl) hf2 (hW _ rfl) rfl (fun h4 hS5 hE6 => ?_)
  have hE7 := sm_e_trans hE3 hE6
  refine go_ret rfl rfl ?_
  exact ⟨rfl, hS5, hE7⟩
theorem cm_rpl_0_0 {w : Nat → Bool} {d : Nat} {h : am_Hp} {m0 : mg} {B : Nat} {I : sm_I} {Q : mQ} {Z : mZ} (hC : CA w 32 m0 B h (I, Q, Z)) (hB2 : B < 2 ^ 26) (hR : RPH 0 0 (I, Q, Z)) (e11 : I 11 0 = 0) (hd : 6 ≤ d) : am_Ev (am_prog w) d 33 [.ref 1, .ref 32] h (fun r h' => r = none ∧ CA w 32 m0 (B + 40) h' (mrpl 0 (I, Q, Z))) := by
  obtain ⟨X, ow, sb, hS, hD, hB, hQ⟩ := hC
  change sm tbc h I X at hS
  change CD w 32 m0 h I Q Z X ow sb at hD
  change co h I ≤ B at hB
  change ∀ l, l < 16 → (Q l).length ≤ h.length at hQ
  have hW := hD.1.1
  have hWn : ∀ a, List.length h ≤ a → w a = true := fun a ha => (hD.1.2.1 a ha).1
  have hF1 := fr_refl tbc h
  have hln : 62 ≤ List.length h := sm_len hS
  obtain ⟨d, rfl⟩ : ∃ e, d = e + 1 := ⟨d - 1, by omega⟩
  refine ev_go rfl (Nat.le_of_ble_eq_true rfl) rfl ?_
  obtain ⟨h40i, t0, hk0⟩ := hR e11
  have h207 := hD.2.2.2.1.2.2 0 (by decide)
  have hon : ohn I 0 = 1 := by simp [ohn, e11]
  by_cases b12 : I 12 0 = -1
  · skip
    rw [if_pos b12] at h207
    refine go_s (pc' := 1) rfl rfl rfl rfl ?_
    refine go_callV (pc' := 2) rfl rfl rfl (Nat.le_of_ble_eq_true rfl) rfl (sm_o hS rfl) rfl rfl rfl (ct_oh_0 hS (by omega)) (fun r h2 q3 => ?_)
    obtain ⟨rfl, rfl⟩ := q3
    have hoh : ohI I 0 = 1 := by simp [ohI, uI, e11]
    rw [hoh]
    refine go_s (pc' := 3) (lo' := [some (.ref 1), some (.ref 32), some (.int 1), none, none]) rfl rfl rfl rfl ?_
    refine go_s (pc' := 4) rfl rfl rfl rfl ?_
    refine go_sget (pc' := 5) (v := .int 0) hS rfl rfl rfl (by decide) h207 rfl ?_
    refine go_ifP (t' := 14) (pc' := 6) rfl rfl rfl (fun _ => ?_) (fun (c : ¬ ((0 : Int32) = 0)) => absurd (by decide) c)
    refine go_s (pc' := 15) (st' := [.int 0]) rfl rfl rfl rfl ?_
    refine go_s (pc' := 16) (lo' := [some (.ref 1), some (.ref 32), some (.int 1), some (.int 0), none]) rfl rfl rfl rfl ?_
    refine go_s (pc' := 17) rfl rfl rfl rfl ?_
    refine go_callV (pc' := 18) rfl rfl rfl (Nat.le_of_ble_eq_true rfl) rfl (sm_o hS rfl) rfl rfl rfl (ct_drop_0 hS hW (by omega)) (fun r h4 q5 => ?_)
    obtain ⟨rfl, hS6, hE7⟩ := q5
    have hF8 := fr_trans hF1 (fr_e hE7)
    refine go_s (pc' := 19) rfl rfl rfl rfl ?_
    refine go_ifP (t' := 24) (pc' := 20) rfl rfl rfl (fun (c : ¬ (0 : Int32) = 0) => absurd c (by decide)) (fun _ => ?_)
    refine go_s (pc' := 21) rfl rfl rfl rfl ?_
    refine go_s (pc' := 22) (st' := [.int (-1), .ref 32]) rfl rfl rfl rfl ?_
    refine go_sput (pc' := 23) hS6 rfl rfl rfl (by decide) tbc_inj (Nat.le_of_ble_eq_true rfl) rfl (hW _ rfl) rfl (fun h9 hS10 hE11 => ?_)
    have hF12 := fr_trans hF8 (fr_e hE11)
    refine go_ret rfl rfl ?_
    have hD9 : CD w 32 m0 h9 (mpri 0 (-1) (mdrp 0 (I, Q, Z))).1 Q Z (uX X 207 0 (.int 0)) ow sb := CD_no (CD_bk (k := 0) (v := -1) (f := 0) (CD_I (J := uI I 13 0 0) (CD_fr hD hF12) ⟨rfl, rfl, rfl, rfl, rfl, rfl, rfl, rfl, rfl, rfl, rfl, rfl, rfl, rfl, rfl⟩) rfl) (by decide)
    have hms : mrpl 0 (I, Q, Z) = (mpri 0 (-1) (mdrp 0 (I, Q, Z))) := if_neg (fun z => z.1 b12)
    rw [hms]
    exact ⟨rfl, (uX X 207 0 (.int 0)), ow, sb, sm_hid hS10 (fun c j hc => by
        have h1 : c ≠ 12 := fun e => by subst e; cases hc
        have h2 : c ≠ 40 := fun e => by subst e; cases hc
        simp [mpri, mdrp, uI, h1, h2] <;> rfl), hD9, by have := co_fr (I := I) (J := (mpri 0 (-1) (mdrp 0 (I, Q, Z))).1) hF12 rfl; omega, fun l hl => Nat.le_trans (hQ l hl) hF12.1⟩
  · skip
    rw [if_neg b12] at h207
    have h40 := h40i b12
    refine go_s (pc' := 1) rfl rfl rfl rfl ?_
    refine go_callV (pc' := 2) rfl rfl rfl (Nat.le_of_ble_eq_true rfl) rfl (sm_o hS rfl) rfl rfl rfl (ct_oh_0 hS (by omega)) (fun r h13 q14 => ?_)
    obtain ⟨rfl, rfl⟩ := q14
    have hoh : ohI I 0 = 1 := by simp [ohI, uI, e11]
    rw [hoh]
    refine go_s (pc' := 3) (lo' := [some (.ref 1), some (.ref 32), some (.int 1), none, none]) rfl rfl rfl rfl ?_
    refine go_s (pc' := 4) rfl rfl rfl rfl ?_
    refine go_sget (pc' := 5) (v := .int 1) hS rfl rfl rfl (by decide) h207 rfl ?_
    refine go_ifP (t' := 14) (pc' := 6) rfl rfl rfl (fun (c : (1 : Int32) = 0) => absurd c (by decide)) (fun _ => ?_)
    refine go_s (pc' := 7) rfl rfl rfl rfl ?_
    refine go_sget (pc' := 8) (v := .ref 2) hS rfl rfl rfl (by decide) rfl rfl ?_
    refine go_sget (pc' := 9) (v := .ref 3) hS rfl rfl rfl (by decide) rfl rfl ?_
    refine go_s (pc' := 10) rfl rfl rfl rfl ?_
    refine go_sald (pc' := 11) (q := 1) (v := .int (I 0 1)) hS rfl rfl rfl rfl (by decide) rfl rfl ?_
    refine go_ifP (t' := 14) (pc' := 12) rfl rfl rfl (fun (c15 : (I 0 1) = 0) => ?_) (fun (c15 : ¬ (I 0 1) = 0) => ?_)
    · skip
      refine go_s (pc' := 15) (st' := [.int 0]) rfl rfl rfl rfl ?_
      refine go_s (pc' := 16) (lo' := [some (.ref 1), some (.ref 32), some (.int 1), some (.int 0), none]) rfl rfl rfl rfl ?_
      refine go_s (pc' := 17) rfl rfl rfl rfl ?_
      refine go_callV (pc' := 18) rfl rfl rfl (Nat.le_of_ble_eq_true rfl) rfl (sm_o hS rfl) rfl rfl rfl (ct_drop_0 hS hW (by omega)) (fun r h16 q17 => ?_)
      obtain ⟨rfl, hS18, hE19⟩ := q17
      have hF20 := fr_trans hF1 (fr_e hE19)
      refine go_s (pc' := 19) rfl rfl rfl rfl ?_
      refine go_ifP (t' := 24) (pc' := 20) rfl rfl rfl (fun (c : ¬ (0 : Int32) = 0) => absurd c (by decide)) (fun _ => ?_)
      refine go_s (pc' := 21) rfl rfl rfl rfl ?_
      refine go_s (pc' := 22) (st' := [.int (-1), .ref 32]) rfl rfl rfl rfl ?_
      refine go_sput (pc' := 23) hS18 rfl rfl rfl (by decide) tbc_inj (Nat.le_of_ble_eq_true rfl) rfl (hW _ rfl) rfl (fun h21 hS22 hE23 => ?_)
      have hF24 := fr_trans hF20 (fr_e hE23)
      refine go_ret rfl rfl ?_
      have hD9 : CD w 32 m0 h21 (mpri 0 (-1) (mdrp 0 (I, Q, Z))).1 Q Z (uX X 207 0 (.int 0)) ow sb := CD_no (CD_bk (k := 0) (v := -1) (f := 0) (CD_I (J := uI I 13 0 0) (CD_fr hD hF24) ⟨rfl, rfl, rfl, rfl, rfl, rfl, rfl, rfl, rfl, rfl, rfl, rfl, rfl, rfl, rfl⟩) rfl) (by decide)
      have hms : mrpl 0 (I, Q, Z) = (mpri 0 (-1) (mdrp 0 (I, Q, Z))) := if_neg (fun z => z.2 (by rw [hon]; exact c15))
      rw [hms]
      exact ⟨rfl, (uX X 207 0 (.int 0)), ow, sb, sm_hid hS22 (fun c j hc => by
          have h1 : c ≠ 12 := fun e => by subst e; cases hc
          have h2 : c ≠ 40 := fun e => by subst e; cases hc
          simp [mpri, mdrp, uI, h1, h2] <;> rfl), hD9, by have := co_fr (I := I) (J := (mpri 0 (-1) (mdrp 0 (I, Q, Z))).1) hF24 rfl; omega, fun l hl => Nat.le_trans (hQ l hl) hF24.1⟩
    · skip
      refine go_s (pc' := 13) (st' := [.int 1]) rfl rfl rfl rfl ?_
      refine go_s (pc' := 15) rfl rfl rfl rfl ?_
      refine go_s (pc' := 16) (lo' := [some (.ref 1), some (.ref 32), some (.int 1), some (.int 1), none]) rfl rfl rfl rfl ?_
      refine go_s (pc' := 17) rfl rfl rfl rfl ?_
      refine go_callV (pc' := 18) rfl rfl rfl (Nat.le_of_ble_eq_true rfl) rfl (sm_o hS rfl) rfl rfl rfl (ct_drop_0 hS hW (by omega)) (fun r h25 q26 => ?_)
      obtain ⟨rfl, hS27, hE28⟩ := q26
      have hF29 := fr_trans hF1 (fr_e hE28)
      refine go_s (pc' := 19) rfl rfl rfl rfl ?_
      refine go_ifP (t' := 24) (pc' := 20) rfl rfl rfl (fun _ => ?_) (fun (c : ¬ (¬ (1 : Int32) = 0)) => absurd (by decide) c)
      refine go_s (pc' := 25) rfl rfl rfl rfl ?_
      refine go_s (pc' := 26) rfl rfl rfl rfl ?_
      refine go_sput (pc' := 27) hS27 rfl rfl rfl (by decide) tbc_inj (Nat.le_of_ble_eq_true rfl) rfl (hW _ rfl) rfl (fun h30 hS31 hE32 => ?_)
      have hF33 := fr_trans hF29 (fr_e hE32)
      refine go_s (pc' := 28) rfl rfl rfl rfl ?_
      obtain ⟨b, h209, hbs, hst⟩ := hD.2.2.2.2.1.2.2.1 h40
      refine go_callV (pc' := 29) rfl rfl rfl (Nat.le_of_ble_eq_true rfl) rfl (sm_o hS31 rfl) rfl rfl rfl (ct_to_s hS31 hW (b := b) h209 (by omega)) (fun r h34 q35 => ?_)
      obtain ⟨rfl, hS36, hE37⟩ := q35
      have hF38 := fr_trans hF33 (fr_e hE37)
      have hrw : rwi (uI (uI (uI I 13 0 0) 12 0 (-1)) 11 0 (nI 1)) 0 = rwo (uI (uI I 13 0 0) 12 0 (-1)) 0 := by simp [rwi, rwo, pn, uI, e11] <;> rfl
      have hlv : lv (mpri 0 (nI 1) (mdrp 0 (I, Q, Z))).1 0 = true := lv_of (p := 1) (by simp [mpri, uI]) (by decide) (by show ¬ (uI (uI (uI (uI I 13 0 0) 12 0 (-1)) 11 0 (nI 1)) 40 0 0) 0 1 = 0; exact c15)
      have hal0 : ∀ t, t < 2 → (mpri 0 (nI 1) (mdrp 0 (I, Q, Z))).1 16 (1 + t) = 2 → lv (mpri 0 (nI 1) (mdrp 0 (I, Q, Z))).1 (1 + t) = true := fun t ht z => by
        have y := (hk0 rfl).2 t ht z
        have e := (lv_11 (I := uI (uI I 13 0 0) 12 0 (-1)) (k := 0) (j := 1 + t) (v := nI 1) (by omega)).1
        exact e.trans y
      have hD39 : CD w 32 m0 h34 (mpri 0 (nI 1) (mdrp 0 (I, Q, Z))).1 (mpri 0 (nI 1) (mdrp 0 (I, Q, Z))).2.1 (mpri 0 (nI 1) (mdrp 0 (I, Q, Z))).2.2 ((uX (uX X 207 0 (.int 0)) 208 0 (.ref b))) ow b := CD_tos (CD_bk (k := 0) (v := -1) (f := 0) (CD_I (J := uI I 13 0 0) (CD_fr hD hF38) ⟨rfl, rfl, rfl, rfl, rfl, rfl, rfl, rfl, rfl, rfl, rfl, rfl, rfl, rfl, rfl⟩) rfl) h209 (St_ex (ex_fr hD.1 hF38) (by omega) (by omega) hst) (by decide) hrw (hk0 rfl).1
      have hS42 : sm tbc h34 (mpri 0 (nI 1) (mdrp 0 (I, Q, Z))).1 ((uX (uX X 207 0 (.int 0)) 208 0 (.ref b))) := sm_hid hS36 (fun c j hc => by
          have h1 : c ≠ 12 := fun e => by subst e; cases hc
          have h2 : c ≠ 40 := fun e => by subst e; cases hc
          simp [mpri, mdrp, uI, h1, h2] <;> rfl)
      have hB40 : co h34 (mpri 0 (nI 1) (mdrp 0 (I, Q, Z))).1 ≤ B := by
        have z1 := co_fr (I := I) (J := (mpri 0 (nI 1) (mdrp 0 (I, Q, Z))).1) hF38 rfl
        have z2 := hB
        omega
      have hQ41 : ∀ l, l < 16 → ((mpri 0 (nI 1) (mdrp 0 (I, Q, Z))).2.1 l).length ≤ List.length h34 := fun l hl => Nat.le_trans (hQ l hl) hF38.1
      obtain ⟨X43, eX43⟩ : ∃ y, y = ((uX (uX X 207 0 (.int 0)) 208 0 (.ref b))) := ⟨_, rfl⟩
      rw [← eX43] at hD39 hS42
      obtain ⟨M44, eM44⟩ : ∃ y : mM, y = (mpri 0 (nI 1) (mdrp 0 (I, Q, Z))) := ⟨_, rfl⟩
      rw [← eM44] at hD39 hS42 hB40 hQ41
      obtain ⟨I44, Q44, Z44⟩ := M44
      change CD w 32 m0 h34 I44 Q44 Z44 X43 ow b at hD39
      change sm tbc h34 I44 X43 at hS42
      change co h34 I44 ≤ B at hB40
      change ∀ l, l < 16 → (Q44 l).length ≤ List.length h34 at hQ41
      have hW := hD39.1.1
      have hWn : ∀ a, List.length h34 ≤ a → w a = true := fun a ha => (hD39.1.2.1 a ha).1
      have hF45 := fr_refl tbc h34
      have hln : 62 ≤ List.length h34 := sm_len hS42
      rw [← eM44] at hlv hal0
      have ht0 : I44 16 0 = 0 := by have z : (mpri 0 (nI 1) (mdrp 0 (I, Q, Z))).1 16 0 = I 16 0 := rfl; rw [← eM44] at z; exact z.trans t0
      refine go_s (pc' := 30) rfl rfl rfl rfl ?_
      refine go_instF (pc' := 31) rfl (sm_o hS42 rfl) rfl (by decide) (by decide) rfl ?_
      refine go_ifP (t' := 39) (pc' := 32) rfl rfl rfl (fun _ => ?_) (fun (c : ¬ ((0 : Int32) = 0)) => absurd (by decide) c)
      refine go_s (pc' := 40) rfl rfl rfl rfl ?_
      refine go_sget (pc' := 41) (v := .ref 32) hS42 rfl rfl rfl (by decide) rfl rfl ?_
      obtain ⟨k208, kst, -⟩ := hD39.2.2.2.2.1
      obtain ⟨ad, S, Y, k0, hA, k2, k3, k4, k5, hoa, hZ0, hWa, htc⟩ := St_open hD39.1 (kst hlv)
      rw [← k0] at k208
      have hbz := k5.2.1
      have hsd := k4 (ad 0) _ _ (tbs_at hA (i := 0) (by decide))
      by_cases f3 : row1 (I44, Q44, Z44) 0 3 = 0
      · skip
        have hb3 : S 0 3 = 0 := hbz.trans (if_pos f3)
        have hse : h34[ad 0]? = some (.inl (5, [.int (S 0 0), .ref (ad 1), .ref (ad 2), .ref (ad 3), .ref (ad 4), .ref (ad 5), .ref (ad 6), .ref (ad 7), .int (S 0 1), .int (S 0 2), .ref (ad 8), .int 0, (Y 200 0), .ref (ad 9)])) := by rw [hsd, ← hb3]; rfl
        refine go_sget (pc' := 42) (v := .ref (ad 0)) hS42 rfl rfl rfl (by decide) k208 rfl ?_
        refine go_get (pc' := 43) rfl hse rfl (by decide) rfl rfl ?_
        refine go_ifP (t' := 46) (pc' := 44) rfl rfl rfl (fun _ => ?_) (fun (c : ¬ ((0 : Int32) = 0)) => absurd (by decide) c)
        have hmt : mtos (I44, Q44, Z44) = (uI (uI I44 22 0 0) 22 1 0, Q44, Z44) := if_pos f3
        have hal1 : ∀ t, t < 2 → (mtos (I44, Q44, Z44)).1 16 (1 + t) = 2 → lv (mtos (I44, Q44, Z44)).1 (1 + t) = true := by
          rw [hmt]
          intro t ht z
          refine hal0 t ht ?_
          simpa [uI] using z
        have hD46 : CD w 32 m0 h34 (mtos (I44, Q44, Z44)).1 (mtos (I44, Q44, Z44)).2.1 (mtos (I44, Q44, Z44)).2.2 (X43) ow b := by rw [hmt]; exact CD_22 (CD_fr hD39 hF45) (by rw [ht0]; decide)
        have hS49 : sm tbc h34 (mtos (I44, Q44, Z44)).1 (X43) := by rw [hmt]; exact sm_22 hS42
        have hB47 : co h34 (mtos (I44, Q44, Z44)).1 ≤ B := by
          have z1 := co_fr (I := I44) (J := (mtos (I44, Q44, Z44)).1) hF45 (by rw [hmt]; rfl)
          have z2 := hB40
          omega
        have hQ48 : ∀ l, l < 16 → ((mtos (I44, Q44, Z44)).2.1 l).length ≤ List.length h34 := by rw [hmt]; exact fun l hl => Nat.le_trans (hQ41 l hl) hF45.1
        obtain ⟨X50, eX50⟩ : ∃ y, y = (X43) := ⟨_, rfl⟩
        rw [← eX50] at hD46 hS49
        obtain ⟨M51, eM51⟩ : ∃ y : mM, y = (mtos (I44, Q44, Z44)) := ⟨_, rfl⟩
        rw [← eM51] at hD46 hS49 hB47 hQ48
        obtain ⟨I51, Q51, Z51⟩ := M51
        change CD w 32 m0 h34 I51 Q51 Z51 X50 ow b at hD46
        change sm tbc h34 I51 X50 at hS49
        change co h34 I51 ≤ B at hB47
        change ∀ l, l < 16 → (Q51 l).length ≤ List.length h34 at hQ48
        have hW := hD46.1.1
        have hWn : ∀ a, List.length h34 ≤ a → w a = true := fun a ha => (hD46.1.2.1 a ha).1
        have hF52 := fr_refl tbc h34
        have hln : 62 ≤ List.length h34 := sm_len hS49
        rw [← eM51] at hal1
        refine go_s (pc' := 47) rfl rfl rfl rfl ?_
        have hC53 : CA w 32 m0 B h34 (I51, Q51, Z51) := ⟨X50, ow, b, hS49, hD46, hB47, hQ48⟩
        refine go_callV (pc' := 48) rfl rfl rfl (Nat.le_of_ble_eq_true rfl) rfl (sm_o hS49 rfl) rfl rfl rfl (cm_al hC53 (by omega) hal1 (by omega)) (fun r h54 q55 => ?_)
        obtain ⟨rfl, hC56⟩ := q55
        change CA w 32 m0 (B + 40) h54 (mal (I51, Q51, Z51)) at hC56
        obtain ⟨M57, eM57⟩ : ∃ y : mM, y = (mal (I51, Q51, Z51)) := ⟨_, rfl⟩
        rw [← eM57] at hC56
        obtain ⟨I57, Q57, Z57⟩ := M57
        obtain ⟨X58, ow58, sb58, hS58, hD58, hB58, hQ58⟩ := hC56
        have hW := hD58.1.1
        have hWn : ∀ a, List.length h54 ≤ a → w a = true := fun a ha => (hD58.1.2.1 a ha).1
        have hF59 := fr_refl tbc h54
        have hln : 62 ≤ List.length h54 := sm_len hS58
        change CD w 32 m0 h54 I57 Q57 Z57 X58 ow58 sb58 at hD58
        change sm tbc h54 I57 X58 at hS58
        change co h54 I57 ≤ (B + 40) at hB58
        change ∀ l, l < 16 → (Q57 l).length ≤ List.length h54 at hQ58
        have hW := hD58.1.1
        have hWn : ∀ a, List.length h54 ≤ a → w a = true := fun a ha => (hD58.1.2.1 a ha).1
        have hF60 := fr_refl tbc h54
        have hln : 62 ≤ List.length h54 := sm_len hS58
        refine go_ret rfl rfl ?_
        have hms : mrpl 0 (I, Q, Z) = (I57, Q57, Z57) := by
          unfold mrpl
          rw [if_pos (show ¬ I 12 0 = -1 ∧ ¬ I 0 (ohn I 0) = 0 from ⟨b12, by rw [hon]; exact c15⟩), if_pos rfl, show ohn (I, Q, Z).1 0 = 1 from hon, ← eM44, ← eM51, ← eM57]
        have hC61 : CA w 32 m0 (B + 40) h54 (I57, Q57, Z57) := ⟨X58, ow58, sb58, hS58, hD58, hB58, hQ58⟩
        rw [hms]
        exact ⟨rfl, CA_le hC61 (by omega)⟩
      · skip
        have hb3 : S 0 3 = 1 := hbz.trans (if_neg f3)
        have hse : h34[ad 0]? = some (.inl (5, [.int (S 0 0), .ref (ad 1), .ref (ad 2), .ref (ad 3), .ref (ad 4), .ref (ad 5), .ref (ad 6), .ref (ad 7), .int (S 0 1), .int (S 0 2), .ref (ad 8), .int 1, (Y 200 0), .ref (ad 9)])) := by rw [hsd, ← hb3]; rfl
        refine go_sget (pc' := 42) (v := .ref (ad 0)) hS42 rfl rfl rfl (by decide) k208 rfl ?_
        refine go_get (pc' := 43) rfl hse rfl (by decide) rfl rfl ?_
        refine go_ifP (t' := 46) (pc' := 44) rfl rfl rfl (fun (c : (1 : Int32) = 0) => absurd c (by decide)) (fun _ => ?_)
        refine go_s (pc' := 45) rfl rfl rfl rfl ?_
        refine go_callV (pc' := 46) rfl rfl rfl (Nat.le_of_ble_eq_true rfl) rfl (sm_o hS42 rfl) rfl rfl rfl (ct_startWriting hS42 hW (by omega)) (fun r h62 q63 => ?_)
        obtain ⟨rfl, hS64, hE65⟩ := q63
        have hF66 := fr_trans hF45 (fr_e hE65)
        have hmt : mtos (I44, Q44, Z44) = (uI (uI (uI I44 22 0 0) 22 1 0) 16 0 2, Q44, Z44) := if_neg f3
        have hal1 : ∀ t, t < 2 → (mtos (I44, Q44, Z44)).1 16 (1 + t) = 2 → lv (mtos (I44, Q44, Z44)).1 (1 + t) = true := by
          rw [hmt]
          intro t ht z
          refine hal0 t ht ?_
          simpa [uI] using z
        have hD67 : CD w 32 m0 h62 (mtos (I44, Q44, Z44)).1 (mtos (I44, Q44, Z44)).2.1 (mtos (I44, Q44, Z44)).2.2 ((uX (uX X43 206 0 (.int 0)) 206 1 (.int 0))) ow b := by rw [hmt]; exact CD_w2 (CD_22 (CD_fr hD39 hF66) (by rw [ht0]; decide)) rfl rfl
        have hS70 : sm tbc h62 (mtos (I44, Q44, Z44)).1 ((uX (uX X43 206 0 (.int 0)) 206 1 (.int 0))) := by
          rw [hmt]
          refine sm_hid hS64 (fun c j hc => ?_)
          have h1 : c ≠ 22 := fun e => by subst e; cases hc
          simp [uI, h1]
        have hB68 : co h62 (mtos (I44, Q44, Z44)).1 ≤ B := by
          have z1 := co_fr (I := I44) (J := (mtos (I44, Q44, Z44)).1) hF66 (by rw [hmt]; rfl)
          have z2 := hB40
          omega
        have hQ69 : ∀ l, l < 16 → ((mtos (I44, Q44, Z44)).2.1 l).length ≤ List.length h62 := by rw [hmt]; exact fun l hl => Nat.le_trans (hQ41 l hl) hF66.1
        obtain ⟨X71, eX71⟩ : ∃ y, y = ((uX (uX X43 206 0 (.int 0)) 206 1 (.int 0))) := ⟨_, rfl⟩
        rw [← eX71] at hD67 hS70
        obtain ⟨M72, eM72⟩ : ∃ y : mM, y = (mtos (I44, Q44, Z44)) := ⟨_, rfl⟩
        rw [← eM72] at hD67 hS70 hB68 hQ69
        obtain ⟨I72, Q72, Z72⟩ := M72
        change CD w 32 m0 h62 I72 Q72 Z72 X71 ow b at hD67
        change sm tbc h62 I72 X71 at hS70
        change co h62 I72 ≤ B at hB68
        change ∀ l, l < 16 → (Q72 l).length ≤ List.length h62 at hQ69
        have hW := hD67.1.1
        have hWn : ∀ a, List.length h62 ≤ a → w a = true := fun a ha => (hD67.1.2.1 a ha).1
        have hF73 := fr_refl tbc h62
        have hln : 62 ≤ List.length h62 := sm_len hS70
        rw [← eM72] at hal1
        refine go_s (pc' := 47) rfl rfl rfl rfl ?_
        have hC74 : CA w 32 m0 B h62 (I72, Q72, Z72) := ⟨X71, ow, b, hS70, hD67, hB68, hQ69⟩
        refine go_callV (pc' := 48) rfl rfl rfl (Nat.le_of_ble_eq_true rfl) rfl (sm_o hS70 rfl) rfl rfl rfl (cm_al hC74 (by omega) hal1 (by omega)) (fun r h75 q76 => ?_)
        obtain ⟨rfl, hC77⟩ := q76
        change CA w 32 m0 (B + 40) h75 (mal (I72, Q72, Z72)) at hC77
        obtain ⟨M78, eM78⟩ : ∃ y : mM, y = (mal (I72, Q72, Z72)) := ⟨_, rfl⟩
        rw [← eM78] at hC77
        obtain ⟨I78, Q78, Z78⟩ := M78
        obtain ⟨X79, ow79, sb79, hS79, hD79, hB79, hQ79⟩ := hC77
        have hW := hD79.1.1
        have hWn : ∀ a, List.length h75 ≤ a → w a = true := fun a ha => (hD79.1.2.1 a ha).1
        have hF80 := fr_refl tbc h75
        have hln : 62 ≤ List.length h75 := sm_len hS79
        change CD w 32 m0 h75 I78 Q78 Z78 X79 ow79 sb79 at hD79
        change sm tbc h75 I78 X79 at hS79
        change co h75 I78 ≤ (B + 40) at hB79
        change ∀ l, l < 16 → (Q78 l).length ≤ List.length h75 at hQ79
        have hW := hD79.1.1
        have hWn : ∀ a, List.length h75 ≤ a → w a = true := fun a ha => (hD79.1.2.1 a ha).1
        have hF81 := fr_refl tbc h75
        have hln : 62 ≤ List.length h75 := sm_len hS79
        refine go_ret rfl rfl ?_
        have hms : mrpl 0 (I, Q, Z) = (I78, Q78, Z78) := by
          unfold mrpl
          rw [if_pos (show ¬ I 12 0 = -1 ∧ ¬ I 0 (ohn I 0) = 0 from ⟨b12, by rw [hon]; exact c15⟩), if_pos rfl, show ohn (I, Q, Z).1 0 = 1 from hon, ← eM44, ← eM72, ← eM78]
        have hC82 : CA w 32 m0 (B + 40) h75 (I78, Q78, Z78) := ⟨X79, ow79, sb79, hS79, hD79, hB79, hQ79⟩
        rw [hms]
        exact ⟨rfl, CA_le hC82 (by omega)⟩
theorem cm_rpl_0_1 {w : Nat → Bool} {d : Nat} {h : am_Hp} {m0 : mg} {B : Nat} {I : sm_I} {Q : mQ} {Z : mZ} (hC : CA w 32 m0 B h (I, Q, Z)) (hB2 : B < 2 ^ 26) (hR : RPH 0 1 (I, Q, Z)) (e11 : I 11 0 = 1) (hd : 6 ≤ d) : am_Ev (am_prog w) d 33 [.ref 1, .ref 32] h (fun r h' => r = none ∧ CA w 32 m0 (B + 40) h' (mrpl 0 (I, Q, Z))) := by
  obtain ⟨X, ow, sb, hS, hD, hB, hQ⟩ := hC
  change sm tbc h I X at hS
  change CD w 32 m0 h I Q Z X ow sb at hD
  change co h I ≤ B at hB
  change ∀ l, l < 16 → (Q l).length ≤ h.length at hQ
  have hW := hD.1.1
  have hWn : ∀ a, List.length h ≤ a → w a = true := fun a ha => (hD.1.2.1 a ha).1
  have hF1 := fr_refl tbc h
  have hln : 62 ≤ List.length h := sm_len hS
  obtain ⟨d, rfl⟩ : ∃ e, d = e + 1 := ⟨d - 1, by omega⟩
  refine ev_go rfl (Nat.le_of_ble_eq_true rfl) rfl ?_
  obtain ⟨h40i, t0, hk0⟩ := hR e11
  have h207 := hD.2.2.2.1.2.2 0 (by decide)
  have hon : ohn I 0 = 0 := by simp [ohn, e11]
  by_cases b12 : I 12 0 = -1
  · skip
    rw [if_pos b12] at h207
    refine go_s (pc' := 1) rfl rfl rfl rfl ?_
    refine go_callV (pc' := 2) rfl rfl rfl (Nat.le_of_ble_eq_true rfl) rfl (sm_o hS rfl) rfl rfl rfl (ct_oh_0 hS (by omega)) (fun r h2 q3 => ?_)
    obtain ⟨rfl, rfl⟩ := q3
    have hoh : ohI I 0 = 0 := by simp [ohI, uI, e11]
    rw [hoh]
    refine go_s (pc' := 3) (lo' := [some (.ref 1), some (.ref 32), some (.int 0), none, none]) rfl rfl rfl rfl ?_
    refine go_s (pc' := 4) rfl rfl rfl rfl ?_
    refine go_sget (pc' := 5) (v := .int 0) hS rfl rfl rfl (by decide) h207 rfl ?_
    refine go_ifP (t' := 14) (pc' := 6) rfl rfl rfl (fun _ => ?_) (fun (c : ¬ ((0 : Int32) = 0)) => absurd (by decide) c)
    refine go_s (pc' := 15) (st' := [.int 0]) rfl rfl rfl rfl ?_
    refine go_s (pc' := 16) (lo' := [some (.ref 1), some (.ref 32), some (.int 0), some (.int 0), none]) rfl rfl rfl rfl ?_
    refine go_s (pc' := 17) rfl rfl rfl rfl ?_
    refine go_callV (pc' := 18) rfl rfl rfl (Nat.le_of_ble_eq_true rfl) rfl (sm_o hS rfl) rfl rfl rfl (ct_drop_0 hS hW (by omega)) (fun r h4 q5 => ?_)
    obtain ⟨rfl, hS6, hE7⟩ := q5
    have hF8 := fr_trans hF1 (fr_e hE7)
    refine go_s (pc' := 19) rfl rfl rfl rfl ?_
    refine go_ifP (t' := 24) (pc' := 20) rfl rfl rfl (fun (c : ¬ (0 : Int32) = 0) => absurd c (by decide)) (fun _ => ?_)
    refine go_s (pc' := 21) rfl rfl rfl rfl ?_
    refine go_s (pc' := 22) (st' := [.int (-1), .ref 32]) rfl rfl rfl rfl ?_
    refine go_sput (pc' := 23) hS6 rfl rfl rfl (by decide) tbc_inj (Nat.le_of_ble_eq_true rfl) rfl (hW _ rfl) rfl (fun h9 hS10 hE11 => ?_)
    have hF12 := fr_trans hF8 (fr_e hE11)
    refine go_ret rfl rfl ?_
    have hD9 : CD w 32 m0 h9 (mpri 0 (-1) (mdrp 0 (I, Q, Z))).1 Q Z (uX X 207 0 (.int 0)) ow sb := CD_no (CD_bk (k := 0) (v := -1) (f := 0) (CD_I (J := uI I 13 0 0) (CD_fr hD hF12) ⟨rfl, rfl, rfl, rfl, rfl, rfl, rfl, rfl, rfl, rfl, rfl, rfl, rfl, rfl, rfl⟩) rfl) (by decide)
    have hms : mrpl 0 (I, Q, Z) = (mpri 0 (-1) (mdrp 0 (I, Q, Z))) := if_neg (fun z => z.1 b12)
    rw [hms]
    exact ⟨rfl, (uX X 207 0 (.int 0)), ow, sb, sm_hid hS10 (fun c j hc => by
        have h1 : c ≠ 12 := fun e => by subst e; cases hc
        have h2 : c ≠ 40 := fun e => by subst e; cases hc
        simp [mpri, mdrp, uI, h1, h2] <;> rfl), hD9, by have := co_fr (I := I) (J := (mpri 0 (-1) (mdrp 0 (I, Q, Z))).1) hF12 rfl; omega, fun l hl => Nat.le_trans (hQ l hl) hF12.1⟩
  · skip
    rw [if_neg b12] at h207
    have h40 := h40i b12
    refine go_s (pc' := 1) rfl rfl rfl rfl ?_
    refine go_callV (pc' := 2) rfl rfl rfl (Nat.le_of_ble_eq_true rfl) rfl (sm_o hS rfl) rfl rfl rfl (ct_oh_0 hS (by omega)) (fun r h13 q14 => ?_)
    obtain ⟨rfl, rfl⟩ := q14
    have hoh : ohI I 0 = 0 := by simp [ohI, uI, e11]
    rw [hoh]
    refine go_s (pc' := 3) (lo' := [some (.ref 1), some (.ref 32), some (.int 0), none, none]) rfl rfl rfl rfl ?_
    refine go_s (pc' := 4) rfl rfl rfl rfl ?_
    refine go_sget (pc' := 5) (v := .int 1) hS rfl rfl rfl (by decide) h207 rfl ?_
    refine go_ifP (t' := 14) (pc' := 6) rfl rfl rfl (fun (c : (1 : Int32) = 0) => absurd c (by decide)) (fun _ => ?_)
    refine go_s (pc' := 7) rfl rfl rfl rfl ?_
    refine go_sget (pc' := 8) (v := .ref 2) hS rfl rfl rfl (by decide) rfl rfl ?_
    refine go_sget (pc' := 9) (v := .ref 3) hS rfl rfl rfl (by decide) rfl rfl ?_
    refine go_s (pc' := 10) rfl rfl rfl rfl ?_
    refine go_sald (pc' := 11) (q := 0) (v := .int (I 0 0)) hS rfl rfl rfl rfl (by decide) rfl rfl ?_
    refine go_ifP (t' := 14) (pc' := 12) rfl rfl rfl (fun (c15 : (I 0 0) = 0) => ?_) (fun (c15 : ¬ (I 0 0) = 0) => ?_)
    · skip
      refine go_s (pc' := 15) (st' := [.int 0]) rfl rfl rfl rfl ?_
      refine go_s (pc' := 16) (lo' := [some (.ref 1), some (.ref 32), some (.int 0), some (.int 0), none]) rfl rfl rfl rfl ?_
      refine go_s (pc' := 17) rfl rfl rfl rfl ?_
      refine go_callV (pc' := 18) rfl rfl rfl (Nat.le_of_ble_eq_true rfl) rfl (sm_o hS rfl) rfl rfl rfl (ct_drop_0 hS hW (by omega)) (fun r h16 q17 => ?_)
      obtain ⟨rfl, hS18, hE19⟩ := q17
      have hF20 := fr_trans hF1 (fr_e hE19)
      refine go_s (pc' := 19) rfl rfl rfl rfl ?_
      refine go_ifP (t' := 24) (pc' := 20) rfl rfl rfl (fun (c : ¬ (0 : Int32) = 0) => absurd c (by decide)) (fun _ => ?_)
      refine go_s (pc' := 21) rfl rfl rfl rfl ?_
      refine go_s (pc' := 22) (st' := [.int (-1), .ref 32]) rfl rfl rfl rfl ?_
      refine go_sput (pc' := 23) hS18 rfl rfl rfl (by decide) tbc_inj (Nat.le_of_ble_eq_true rfl) rfl (hW _ rfl) rfl (fun h21 hS22 hE23 => ?_)
      have hF24 := fr_trans hF20 (fr_e hE23)
      refine go_ret rfl rfl ?_
      have hD9 : CD w 32 m0 h21 (mpri 0 (-1) (mdrp 0 (I, Q, Z))).1 Q Z (uX X 207 0 (.int 0)) ow sb := CD_no (CD_bk (k := 0) (v := -1) (f := 0) (CD_I (J := uI I 13 0 0) (CD_fr hD hF24) ⟨rfl, rfl, rfl, rfl, rfl, rfl, rfl, rfl, rfl, rfl, rfl, rfl, rfl, rfl, rfl⟩) rfl) (by decide)
      have hms : mrpl 0 (I, Q, Z) = (mpri 0 (-1) (mdrp 0 (I, Q, Z))) := if_neg (fun z => z.2 (by rw [hon]; exact c15))
      rw [hms]
      exact ⟨rfl, (uX X 207 0 (.int 0)), ow, sb, sm_hid hS22 (fun c j hc => by
          have h1 : c ≠ 12 := fun e => by subst e; cases hc
          have h2 : c ≠ 40 := fun e => by subst e; cases hc
          simp [mpri, mdrp, uI, h1, h2] <;> rfl), hD9, by have := co_fr (I := I) (J := (mpri 0 (-1) (mdrp 0 (I, Q, Z))).1) hF24 rfl; omega, fun l hl => Nat.le_trans (hQ l hl) hF24.1⟩
    · skip
      refine go_s (pc' := 13) (st' := [.int 1]) rfl rfl rfl rfl ?_
      refine go_s (pc' := 15) rfl rfl rfl rfl ?_
      refine go_s (pc' := 16) (lo' := [some (.ref 1), some (.ref 32), some (.int 0), some (.int 1), none]) rfl rfl rfl rfl ?_
      refine go_s (pc' := 17) rfl rfl rfl rfl ?_
      refine go_callV (pc' := 18) rfl rfl rfl (Nat.le_of_ble_eq_true rfl) rfl (sm_o hS rfl) rfl rfl rfl (ct_drop_0 hS hW (by omega)) (fun r h25 q26 => ?_)
      obtain ⟨rfl, hS27, hE28⟩ := q26
      have hF29 := fr_trans hF1 (fr_e hE28)
      refine go_s (pc' := 19) rfl rfl rfl rfl ?_
      refine go_ifP (t' := 24) (pc' := 20) rfl rfl rfl (fun _ => ?_) (fun (c : ¬ (¬ (1 : Int32) = 0)) => absurd (by decide) c)
      refine go_s (pc' := 25) rfl rfl rfl rfl ?_
      refine go_s (pc' := 26) rfl rfl rfl rfl ?_
      refine go_sput (pc' := 27) hS27 rfl rfl rfl (by decide) tbc_inj (Nat.le_of_ble_eq_true rfl) rfl (hW _ rfl) rfl (fun h30 hS31 hE32 => ?_)
      have hF33 := fr_trans hF29 (fr_e hE32)
      refine go_s (pc' := 28) rfl rfl rfl rfl ?_
      obtain ⟨b, h209, hbs, hst⟩ := hD.2.2.2.2.1.2.2.1 h40
      refine go_callV (pc' := 29) rfl rfl rfl (Nat.le_of_ble_eq_true rfl) rfl (sm_o hS31 rfl) rfl rfl rfl (ct_to_s hS31 hW (b := b) h209 (by omega)) (fun r h34 q35 => ?_)
      obtain ⟨rfl, hS36, hE37⟩ := q35
      have hF38 := fr_trans hF33 (fr_e hE37)
      have hrw : rwi (uI (uI (uI I 13 0 0) 12 0 (-1)) 11 0 (nI 0)) 0 = rwo (uI (uI I 13 0 0) 12 0 (-1)) 0 := by simp [rwi, rwo, pn, uI, e11] <;> rfl
      have hlv : lv (mpri 0 (nI 0) (mdrp 0 (I, Q, Z))).1 0 = true := lv_of (p := 0) (by simp [mpri, uI]) (by decide) (by show ¬ (uI (uI (uI (uI I 13 0 0) 12 0 (-1)) 11 0 (nI 0)) 40 0 0) 0 0 = 0; exact c15)
      have hal0 : ∀ t, t < 2 → (mpri 0 (nI 0) (mdrp 0 (I, Q, Z))).1 16 (1 + t) = 2 → lv (mpri 0 (nI 0) (mdrp 0 (I, Q, Z))).1 (1 + t) = true := fun t ht z => by
        have y := (hk0 rfl).2 t ht z
        have e := (lv_11 (I := uI (uI I 13 0 0) 12 0 (-1)) (k := 0) (j := 1 + t) (v := nI 0) (by omega)).1
        exact e.trans y
      have hD39 : CD w 32 m0 h34 (mpri 0 (nI 0) (mdrp 0 (I, Q, Z))).1 (mpri 0 (nI 0) (mdrp 0 (I, Q, Z))).2.1 (mpri 0 (nI 0) (mdrp 0 (I, Q, Z))).2.2 ((uX (uX X 207 0 (.int 0)) 208 0 (.ref b))) ow b := CD_tos (CD_bk (k := 0) (v := -1) (f := 0) (CD_I (J := uI I 13 0 0) (CD_fr hD hF38) ⟨rfl, rfl, rfl, rfl, rfl, rfl, rfl, rfl, rfl, rfl, rfl, rfl, rfl, rfl, rfl⟩) rfl) h209 (St_ex (ex_fr hD.1 hF38) (by omega) (by omega) hst) (by decide) hrw (hk0 rfl).1
      have hS42 : sm tbc h34 (mpri 0 (nI 0) (mdrp 0 (I, Q, Z))).1 ((uX (uX X 207 0 (.int 0)) 208 0 (.ref b))) := sm_hid hS36 (fun c j hc => by
          have h1 : c ≠ 12 := fun e => by subst e; cases hc
          have h2 : c ≠ 40 := fun e => by subst e; cases hc
          simp [mpri, mdrp, uI, h1, h2] <;> rfl)
      have hB40 : co h34 (mpri 0 (nI 0) (mdrp 0 (I, Q, Z))).1 ≤ B := by
        have z1 := co_fr (I := I) (J := (mpri 0 (nI 0) (mdrp 0 (I, Q, Z))).1) hF38 rfl
        have z2 := hB
        omega
      have hQ41 : ∀ l, l < 16 → ((mpri 0 (nI 0) (mdrp 0 (I, Q, Z))).2.1 l).length ≤ List.length h34 := fun l hl => Nat.le_trans (hQ l hl) hF38.1
      obtain ⟨X43, eX43⟩ : ∃ y, y = ((uX (uX X 207 0 (.int 0)) 208 0 (.ref b))) := ⟨_, rfl⟩
      rw [← eX43] at hD39 hS42
      obtain ⟨M44, eM44⟩ : ∃ y : mM, y = (mpri 0 (nI 0) (mdrp 0 (I, Q, Z))) := ⟨_, rfl⟩
      rw [← eM44] at hD39 hS42 hB40 hQ41
      obtain ⟨I44, Q44, Z44⟩ := M44
      change CD w 32 m0 h34 I44 Q44 Z44 X43 ow b at hD39
      change sm tbc h34 I44 X43 at hS42
      change co h34 I44 ≤ B at hB40
      change ∀ l, l < 16 → (Q44 l).length ≤ List.length h34 at hQ41
      have hW := hD39.1.1
      have hWn : ∀ a, List.length h34 ≤ a → w a = true := fun a ha => (hD39.1.2.1 a ha).1
      have hF45 := fr_refl tbc h34
      have hln : 62 ≤ List.length h34 := sm_len hS42
      rw [← eM44] at hlv hal0
      have ht0 : I44 16 0 = 0 := by have z : (mpri 0 (nI 0) (mdrp 0 (I, Q, Z))).1 16 0 = I 16 0 := rfl; rw [← eM44] at z; exact z.trans t0
      refine go_s (pc' := 30) rfl rfl rfl rfl ?_
      refine go_instF (pc' := 31) rfl (sm_o hS42 rfl) rfl (by decide) (by decide) rfl ?_
      refine go_ifP (t' := 39) (pc' := 32) rfl rfl rfl (fun _ => ?_) (fun (c : ¬ ((0 : Int32) = 0)) => absurd (by decide) c)
      refine go_s (pc' := 40) rfl rfl rfl rfl ?_
      refine go_sget (pc' := 41) (v := .ref 32) hS42 rfl rfl rfl (by decide) rfl rfl ?_
      obtain ⟨k208, kst, -⟩ := hD39.2.2.2.2.1
      obtain ⟨ad, S, Y, k0, hA, k2, k3, k4, k5, hoa, hZ0, hWa, htc⟩ := St_open hD39.1 (kst hlv)
      rw [← k0] at k208
      have hbz := k5.2.1
      have hsd := k4 (ad 0) _ _ (tbs_at hA (i := 0) (by decide))
      by_cases f3 : row1 (I44, Q44, Z44) 0 3 = 0
      · skip
        have hb3 : S 0 3 = 0 := hbz.trans (if_pos f3)
        have hse : h34[ad 0]? = some (.inl (5, [.int (S 0 0), .ref (ad 1), .ref (ad 2), .ref (ad 3), .ref (ad 4), .ref (ad 5), .ref (ad 6), .ref (ad 7), .int (S 0 1), .int (S 0 2), .ref (ad 8), .int 0, (Y 200 0), .ref (ad 9)])) := by rw [hsd, ← hb3]; rfl
        refine go_sget (pc' := 42) (v := .ref (ad 0)) hS42 rfl rfl rfl (by decide) k208 rfl ?_
        refine go_get (pc' := 43) rfl hse rfl (by decide) rfl rfl ?_
        refine go_ifP (t' := 46) (pc' := 44) rfl rfl rfl (fun _ => ?_) (fun (c : ¬ ((0 : Int32) = 0)) => absurd (by decide) c)
        have hmt : mtos (I44, Q44, Z44) = (uI (uI I44 22 0 0) 22 1 0, Q44, Z44) := if_pos f3
        have hal1 : ∀ t, t < 2 → (mtos (I44, Q44, Z44)).1 16 (1 + t) = 2 → lv (mtos (I44, Q44, Z44)).1 (1 + t) = true := by
          rw [hmt]
          intro t ht z
          refine hal0 t ht ?_
          simpa [uI] using z
        have hD46 : CD w 32 m0 h34 (mtos (I44, Q44, Z44)).1 (mtos (I44, Q44, Z44)).2.1 (mtos (I44, Q44, Z44)).2.2 (X43) ow b := by rw [hmt]; exact CD_22 (CD_fr hD39 hF45) (by rw [ht0]; decide)
        have hS49 : sm tbc h34 (mtos (I44, Q44, Z44)).1 (X43) := by rw [hmt]; exact sm_22 hS42
        have hB47 : co h34 (mtos (I44, Q44, Z44)).1 ≤ B := by
          have z1 := co_fr (I := I44) (J := (mtos (I44, Q44, Z44)).1) hF45 (by rw [hmt]; rfl)
          have z2 := hB40
          omega
        have hQ48 : ∀ l, l < 16 → ((mtos (I44, Q44, Z44)).2.1 l).length ≤ List.length h34 := by rw [hmt]; exact fun l hl => Nat.le_trans (hQ41 l hl) hF45.1
        obtain ⟨X50, eX50⟩ : ∃ y, y = (X43) := ⟨_, rfl⟩
        rw [← eX50] at hD46 hS49
        obtain ⟨M51, eM51⟩ : ∃ y : mM, y = (mtos (I44, Q44, Z44)) := ⟨_, rfl⟩
        rw [← eM51] at hD46 hS49 hB47 hQ48
        obtain ⟨I51, Q51, Z51⟩ := M51
        change CD w 32 m0 h34 I51 Q51 Z51 X50 ow b at hD46
        change sm tbc h34 I51 X50 at hS49
        change co h34 I51 ≤ B at hB47
        change ∀ l, l < 16 → (Q51 l).length ≤ List.length h34 at hQ48
        have hW := hD46.1.1
        have hWn : ∀ a, List.length h34 ≤ a → w a = true := fun a ha => (hD46.1.2.1 a ha).1
        have hF52 := fr_refl tbc h34
        have hln : 62 ≤ List.length h34 := sm_len hS49
        rw [← eM51] at hal1
        refine go_s (pc' := 47) rfl rfl rfl rfl ?_
        have hC53 : CA w 32 m0 B h34 (I51, Q51, Z51) := ⟨X50, ow, b, hS49, hD46, hB47, hQ48⟩
        refine go_callV (pc' := 48) rfl rfl rfl (Nat.le_of_ble_eq_true rfl) rfl (sm_o hS49 rfl) rfl rfl rfl (cm_al hC53 (by omega) hal1 (by omega)) (fun r h54 q55 => ?_)
        obtain ⟨rfl, hC56⟩ := q55
        change CA w 32 m0 (B + 40) h54 (mal (I51, Q51, Z51)) at hC56
        obtain ⟨M57, eM57⟩ : ∃ y : mM, y = (mal (I51, Q51, Z51)) := ⟨_, rfl⟩
        rw [← eM57] at hC56
        obtain ⟨I57, Q57, Z57⟩ := M57
        obtain ⟨X58, ow58, sb58, hS58, hD58, hB58, hQ58⟩ := hC56
        have hW := hD58.1.1
        have hWn : ∀ a, List.length h54 ≤ a → w a = true := fun a ha => (hD58.1.2.1 a ha).1
        have hF59 := fr_refl tbc h54
        have hln : 62 ≤ List.length h54 := sm_len hS58
        change CD w 32 m0 h54 I57 Q57 Z57 X58 ow58 sb58 at hD58
        change sm tbc h54 I57 X58 at hS58
        change co h54 I57 ≤ (B + 40) at hB58
        change ∀ l, l < 16 → (Q57 l).length ≤ List.length h54 at hQ58
        have hW := hD58.1.1
        have hWn : ∀ a, List.length h54 ≤ a → w a = true := fun a ha => (hD58.1.2.1 a ha).1
        have hF60 := fr_refl tbc h54
        have hln : 62 ≤ List.length h54 := sm_len hS58
        refine go_ret rfl rfl ?_
        have hms : mrpl 0 (I, Q, Z) = (I57, Q57, Z57) := by
          unfold mrpl
          rw [if_pos (show ¬ I 12 0 = -1 ∧ ¬ I 0 (ohn I 0) = 0 from ⟨b12, by rw [hon]; exact c15⟩), if_pos rfl, show ohn (I, Q, Z).1 0 = 0 from hon, ← eM44, ← eM51, ← eM57]
        have hC61 : CA w 32 m0 (B + 40) h54 (I57, Q57, Z57) := ⟨X58, ow58, sb58, hS58, hD58, hB58, hQ58⟩
        rw [hms]
        exact ⟨rfl, CA_le hC61 (by omega)⟩
      · skip
        have hb3 : S 0 3 = 1 := hbz.trans (if_neg f3)
        have hse : h34[ad 0]? = some (.inl (5, [.int (S 0 0), .ref (ad 1), .ref (ad 2), .ref (ad 3), .ref (ad 4), .ref (ad 5), .ref (ad 6), .ref (ad 7), .int (S 0 1), .int (S 0 2), .ref (ad 8), .int 1, (Y 200 0), .ref (ad 9)])) := by rw [hsd, ← hb3]; rfl
        refine go_sget (pc' := 42) (v := .ref (ad 0)) hS42 rfl rfl rfl (by decide) k208 rfl ?_
        refine go_get (pc' := 43) rfl hse rfl (by decide) rfl rfl ?_
        refine go_ifP (t' := 46) (pc' := 44) rfl rfl rfl (fun (c : (1 : Int32) = 0) => absurd c (by decide)) (fun _ => ?_)
        refine go_s (pc' := 45) rfl rfl rfl rfl ?_
        refine go_callV (pc' := 46) rfl rfl rfl (Nat.le_of_ble_eq_true rfl) rfl (sm_o hS42 rfl) rfl rfl rfl (ct_startWriting hS42 hW (by omega)) (fun r h62 q63 => ?_)
        obtain ⟨rfl, hS64, hE65⟩ := q63
        have hF66 := fr_trans hF45 (fr_e hE65)
        have hmt : mtos (I44, Q44, Z44) = (uI (uI (uI I44 22 0 0) 22 1 0) 16 0 2, Q44, Z44) := if_neg f3
        have hal1 : ∀ t, t < 2 → (mtos (I44, Q44, Z44)).1 16 (1 + t) = 2 → lv (mtos (I44, Q44, Z44)).1 (1 + t) = true := by
          rw [hmt]
          intro t ht z
          refine hal0 t ht ?_
          simpa [uI] using z
        have hD67 : CD w 32 m0 h62 (mtos (I44, Q44, Z44)).1 (mtos (I44, Q44, Z44)).2.1 (mtos (I44, Q44, Z44)).2.2 ((uX (uX X43 206 0 (.int 0)) 206 1 (.int 0))) ow b := by rw [hmt]; exact CD_w2 (CD_22 (CD_fr hD39 hF66) (by rw [ht0]; decide)) rfl rfl
        have hS70 : sm tbc h62 (mtos (I44, Q44, Z44)).1 ((uX (uX X43 206 0 (.int 0)) 206 1 (.int 0))) := by
          rw [hmt]
          refine sm_hid hS64 (fun c j hc => ?_)
          have h1 : c ≠ 22 := fun e => by subst e; cases hc
          simp [uI, h1]
        have hB68 : co h62 (mtos (I44, Q44, Z44)).1 ≤ B := by
          have z1 := co_fr (I := I44) (J := (mtos (I44, Q44, Z44)).1) hF66 (by rw [hmt]; rfl)
          have z2 := hB40
          omega
        have hQ69 : ∀ l, l < 16 → ((mtos (I44, Q44, Z44)).2.1 l).length ≤ List.length h62 := by rw [hmt]; exact fun l hl => Nat.le_trans (hQ41 l hl) hF66.1
        obtain ⟨X71, eX71⟩ : ∃ y, y = ((uX (uX X43 206 0 (.int 0)) 206 1 (.int 0))) := ⟨_, rfl⟩
        rw [← eX71] at hD67 hS70
        obtain ⟨M72, eM72⟩ : ∃ y : mM, y = (mtos (I44, Q44, Z44)) := ⟨_, rfl⟩
        rw [← eM72] at hD67 hS70 hB68 hQ69
        obtain ⟨I72, Q72, Z72⟩ := M72
        change CD w 32 m0 h62 I72 Q72 Z72 X71 ow b at hD67
        change sm tbc h62 I72 X71 at hS70
        change co h62 I72 ≤ B at hB68
        change ∀ l, l < 16 → (Q72 l).length ≤ List.length h62 at hQ69
        have hW := hD67.1.1
        have hWn : ∀ a, List.length h62 ≤ a → w a = true := fun a ha => (hD67.1.2.1 a ha).1
        have hF73 := fr_refl tbc h62
        have hln : 62 ≤ List.length h62 := sm_len hS70
        rw [← eM72] at hal1
        refine go_s (pc' := 47) rfl rfl rfl rfl ?_
        have hC74 : CA w 32 m0 B h62 (I72, Q72, Z72) := ⟨X71, ow, b, hS70, hD67, hB68, hQ69⟩
        refine go_callV (pc' := 48) rfl rfl rfl (Nat.le_of_ble_eq_true rfl) rfl (sm_o hS70 rfl) rfl rfl rfl (cm_al hC74 (by omega) hal1 (by omega)) (fun r h75 q76 => ?_)
        obtain ⟨rfl, hC77⟩ := q76
        change CA w 32 m0 (B + 40) h75 (mal (I72, Q72, Z72)) at hC77
        obtain ⟨M78, eM78⟩ : ∃ y : mM, y = (mal (I72, Q72, Z72)) := ⟨_, rfl⟩
        rw [← eM78] at hC77
        obtain ⟨I78, Q78, Z78⟩ := M78
        obtain ⟨X79, ow79, sb79, hS79, hD79, hB79, hQ79⟩ := hC77
        have hW := hD79.1.1
        have hWn : ∀ a, List.length h75 ≤ a → w a = true := fun a ha => (hD79.1.2.1 a ha).1
        have hF80 := fr_refl tbc h75
        have hln : 62 ≤ List.length h75 := sm_len hS79
        change CD w 32 m0 h75 I78 Q78 Z78 X79 ow79 sb79 at hD79
        change sm tbc h75 I78 X79 at hS79
        change co h75 I78 ≤ (B + 40) at hB79
        change ∀ l, l < 16 → (Q78 l).length ≤ List.length h75 at hQ79
        have hW := hD79.1.1
        have hWn : ∀ a, List.length h75 ≤ a → w a = true := fun a ha => (hD79.1.2.1 a ha).1
        have hF81 := fr_refl tbc h75
        have hln : 62 ≤ List.length h75 := sm_len hS79
        refine go_ret rfl rfl ?_
        have hms : mrpl 0 (I, Q, Z) = (I78, Q78, Z78) := by
          unfold mrpl
          rw [if_pos (show ¬ I 12 0 = -1 ∧ ¬ I 0 (ohn I 0) = 0 from ⟨b12, by rw [hon]; exact c15⟩), if_pos rfl, show ohn (I, Q, Z).1 0 = 0 from hon, ← eM44, ← eM72, ← eM78]
        have hC82 : CA w 32 m0 (B + 40) h75 (I78, Q78, Z78) := ⟨X79, ow79, sb79, hS79, hD79, hB79, hQ79⟩
        rw [hms]
        exact ⟨rfl, CA_le hC82 (by omega)⟩
theorem cm_rpl_1_2 {w : Nat → Bool} {d : Nat} {h : am_Hp} {m0 : mg} {B : Nat} {I : sm_I} {Q : mQ} {Z : mZ} (hC : CA w 32 m0 B h (I, Q, Z)) (hB2 : B < 2 ^ 26) (hR : RPH 1 2 (I, Q, Z)) (e11 : I 11 1 = 2) (hd : 6 ≤ d) : am_Ev (am_prog w) d 33 [.ref 1, .ref 59] h (fun r h' => r = none ∧ CA w 32 m0 (B + 40) h' (mrpl 1 (I, Q, Z))) := by
  obtain ⟨X, ow, sb, hS, hD, hB, hQ⟩ := hC
  change sm tbc h I X at hS
  change CD w 32 m0 h I Q Z X ow sb at hD
  change co h I ≤ B at hB
  change ∀ l, l < 16 → (Q l).length ≤ h.length at hQ
  have hW := hD.1.1
  have hWn : ∀ a, List.length h ≤ a → w a = true := fun a ha => (hD.1.2.1 a ha).1
  have hF1 := fr_refl tbc h
  have hln : 62 ≤ List.length h := sm_len hS
  obtain ⟨d, rfl⟩ : ∃ e, d = e + 1 := ⟨d - 1, by omega⟩
  refine ev_go rfl (Nat.le_of_ble_eq_true rfl) rfl ?_
  obtain ⟨h40i, t0, hk0⟩ := hR e11
  have h207 := hD.2.2.2.1.2.2 1 (by decide)
  have hon : ohn I 1 = 3 := by simp [ohn, e11]
  by_cases b12 : I 12 1 = -1
  · skip
    rw [if_pos b12] at h207
    refine go_s (pc' := 1) rfl rfl rfl rfl ?_
    refine go_callV (pc' := 2) rfl rfl rfl (Nat.le_of_ble_eq_true rfl) rfl (sm_o hS rfl) rfl rfl rfl (ct_oh_1 hS (by omega)) (fun r h2 q3 => ?_)
    obtain ⟨rfl, rfl⟩ := q3
    have hoh : ohI I 1 = 3 := by simp [ohI, uI, e11]
    rw [hoh]
    refine go_s (pc' := 3) (lo' := [some (.ref 1), some (.ref 59), some (.int 3), none, none]) rfl rfl rfl rfl ?_
    refine go_s (pc' := 4) rfl rfl rfl rfl ?_
    refine go_sget (pc' := 5) (v := .int 0) hS rfl rfl rfl (by decide) h207 rfl ?_
    refine go_ifP (t' := 14) (pc' := 6) rfl rfl rfl (fun _ => ?_) (fun (c : ¬ ((0 : Int32) = 0)) => absurd (by decide) c)
    refine go_s (pc' := 15) (st' := [.int 0]) rfl rfl rfl rfl ?_
    refine go_s (pc' := 16) (lo' := [some (.ref 1), some (.ref 59), some (.int 3), some (.int 0), none]) rfl rfl rfl rfl ?_
    refine go_s (pc' := 17) rfl rfl rfl rfl ?_
    refine go_callV (pc' := 18) rfl rfl rfl (Nat.le_of_ble_eq_true rfl) rfl (sm_o hS rfl) rfl rfl rfl (ct_drop_1 hS hW (by omega)) (fun r h4 q5 => ?_)
    obtain ⟨rfl, hS6, hE7⟩ := q5
    have hF8 := fr_trans hF1 (fr_e hE7)
    refine go_s (pc' := 19) rfl rfl rfl rfl ?_
    refine go_ifP (t' := 24) (pc' := 20) rfl rfl rfl (fun (c : ¬ (0 : Int32) = 0) => absurd c (by decide)) (fun _ => ?_)
    refine go_s (pc' := 21) rfl rfl rfl rfl ?_
    refine go_s (pc' := 22) (st' := [.int (-1), .ref 59]) rfl rfl rfl rfl ?_
    refine go_sput (pc' := 23) hS6 rfl rfl rfl (by decide) tbc_inj (Nat.le_of_ble_eq_true rfl) rfl (hW _ rfl) rfl (fun h9 hS10 hE11 => ?_)
    have hF12 := fr_trans hF8 (fr_e hE11)
    refine go_ret rfl rfl ?_
    have hD9 : CD w 32 m0 h9 (mpri 1 (-1) (mdrp 1 (I, Q, Z))).1 Q Z (uX X 207 1 (.int 0)) ow sb := CD_no (CD_bk (k := 1) (v := -1) (f := 0) (CD_I (J := uI I 13 1 0) (CD_fr hD hF12) ⟨rfl, rfl, rfl, rfl, rfl, rfl, rfl, rfl, rfl, rfl, rfl, rfl, rfl, rfl, rfl⟩) rfl) (by decide)
    have hms : mrpl 1 (I, Q, Z) = (mpri 1 (-1) (mdrp 1 (I, Q, Z))) := if_neg (fun z => z.1 b12)
    rw [hms]
    exact ⟨rfl, (uX X 207 1 (.int 0)), ow, sb, sm_hid hS10 (fun c j hc => by
        have h1 : c ≠ 12 := fun e => by subst e; cases hc
        have h2 : c ≠ 40 := fun e => by subst e; cases hc
        simp [mpri, mdrp, uI, h1, h2] <;> rfl), hD9, by have := co_fr (I := I) (J := (mpri 1 (-1) (mdrp 1 (I, Q, Z))).1) hF12 rfl; omega, fun l hl => Nat.le_trans (hQ l hl) hF12.1⟩
  · skip
    rw [if_neg b12] at h207
    have h40 := h40i b12
    refine go_s (pc' := 1) rfl rfl rfl rfl ?_
    refine go_callV (pc' := 2) rfl rfl rfl (Nat.le_of_ble_eq_true rfl) rfl (sm_o hS rfl) rfl rfl rfl (ct_oh_1 hS (by omega)) (fun r h13 q14 => ?_)
    obtain ⟨rfl, rfl⟩ := q14
    have hoh : ohI I 1 = 3 := by simp [ohI, uI, e11]
    rw [hoh]
    refine go_s (pc' := 3) (lo' := [some (.ref 1), some (.ref 59), some (.int 3), none, none]) rfl rfl rfl rfl ?_
    refine go_s (pc' := 4) rfl rfl rfl rfl ?_
    refine go_sget (pc' := 5) (v := .int 1) hS rfl rfl rfl (by decide) h207 rfl ?_
    refine go_ifP (t' := 14) (pc' := 6) rfl rfl rfl (fun (c : (1 : Int32) = 0) => absurd c (by decide)) (fun _ => ?_)
    refine go_s (pc' := 7) rfl rfl rfl rfl ?_
    refine go_sget (pc' := 8) (v := .ref 2) hS rfl rfl rfl (by decide) rfl rfl ?_
    refine go_sget (pc' := 9) (v := .ref 3) hS rfl rfl rfl (by decide) rfl rfl ?_
    refine go_s (pc' := 10) rfl rfl rfl rfl ?_
    refine go_sald (pc' := 11) (q := 3) (v := .int (I 0 3)) hS rfl rfl rfl rfl (by decide) rfl rfl ?_
    refine go_ifP (t' := 14) (pc' := 12) rfl rfl rfl (fun (c15 : (I 0 3) = 0) => ?_) (fun (c15 : ¬ (I 0 3) = 0) => ?_)
    · skip
      refine go_s (pc' := 15) (st' := [.int 0]) rfl rfl rfl rfl ?_
      refine go_s (pc' := 16) (lo' := [some (.ref 1), some (.ref 59), some (.int 3), some (.int 0), none]) rfl rfl rfl rfl ?_
      refine go_s (pc' := 17) rfl rfl rfl rfl ?_
      refine go_callV (pc' := 18) rfl rfl rfl (Nat.le_of_ble_eq_true rfl) rfl (sm_o hS rfl) rfl rfl rfl (ct_drop_1 hS hW (by omega)) (fun r h16 q17 => ?_)
      obtain ⟨rfl, hS18, hE19⟩ := q17
      have hF20 := fr_trans hF1 (fr_e hE19)
      refine go_s (pc' := 19) rfl rfl rfl rfl ?_
      refine go_ifP (t' := 24) (pc' := 20) rfl rfl rfl (fun (c : ¬ (0 : Int32) = 0) => absurd c (by decide)) (fun _ => ?_)
      refine go_s (pc' := 21) rfl rfl rfl rfl ?_
      refine go_s (pc' := 22) (st' := [.int (-1), .ref 59]) rfl rfl rfl rfl ?_
      refine go_sput (pc' := 23) hS18 rfl rfl rfl (by decide) tbc_inj (Nat.le_of_ble_eq_true rfl) rfl (hW _ rfl) rfl (fun h21 hS22 hE23 => ?_)
      have hF24 := fr_trans hF20 (fr_e hE23)
      refine go_ret rfl rfl ?_
      have hD9 : CD w 32 m0 h21 (mpri 1 (-1) (mdrp 1 (I, Q, Z))).1 Q Z (uX X 207 1 (.int 0)) ow sb := CD_no (CD_bk (k := 1) (v := -1) (f := 0) (CD_I (J := uI I 13 1 0) (CD_fr hD hF24) ⟨rfl, rfl, rfl, rfl, rfl, rfl, rfl, rfl, rfl, rfl, rfl, rfl, rfl, rfl, rfl⟩) rfl) (by decide)
      have hms : mrpl 1 (I, Q, Z) = (mpri 1 (-1) (mdrp 1 (I, Q, Z))) := if_neg (fun z => z.2 (by rw [hon]; exact c15))
      rw [hms]
      exact ⟨rfl, (uX X 207 1 (.int 0)), ow, sb, sm_hid hS22 (fun c j hc => by
          have h1 : c ≠ 12 := fun e => by subst e; cases hc
          have h2 : c ≠ 40 := fun e => by subst e; cases hc
          simp [mpri, mdrp, uI, h1, h2] <;> rfl), hD9, by have := co_fr (I := I) (J := (mpri 1 (-1) (mdrp 1 (I, Q, Z))).1) hF24 rfl; omega, fun l hl => Nat.le_trans (hQ l hl) hF24.1⟩
    · skip
      refine go_s (pc' := 13) (st' := [.int 1]) rfl rfl rfl rfl ?_
      refine go_s (pc' := 15) rfl rfl rfl rfl ?_
      refine go_s (pc' := 16) (lo' := [some (.ref 1), some (.ref 59), some (.int 3), some (.int 1), none]) rfl rfl rfl rfl ?_
      refine go_s (pc' := 17) rfl rfl rfl rfl ?_
      refine go_callV (pc' := 18) rfl rfl rfl (Nat.le_of_ble_eq_true rfl) rfl (sm_o hS rfl) rfl rfl rfl (ct_drop_1 hS hW (by omega)) (fun r h25 q26 => ?_)
      obtain ⟨rfl, hS27, hE28⟩ := q26
      have hF29 := fr_trans hF1 (fr_e hE28)
      refine go_s (pc' := 19) rfl rfl rfl rfl ?_
      refine go_ifP (t' := 24) (pc' := 20) rfl rfl rfl (fun _ => ?_) (fun (c : ¬ (¬ (1 : Int32) = 0)) => absurd (by decide) c)
      refine go_s (pc' := 25) rfl rfl rfl rfl ?_
      refine go_s (pc' := 26) rfl rfl rfl rfl ?_
      refine go_sput (pc' := 27) hS27 rfl rfl rfl (by decide) tbc_inj (Nat.le_of_ble_eq_true rfl) rfl (hW _ rfl) rfl (fun h30 hS31 hE32 => ?_)
      have hF33 := fr_trans hF29 (fr_e hE32)
      refine go_s (pc' := 28) rfl rfl rfl rfl ?_
      have htr40 := TR_fit ((hD.2.2.2.2.2.1 0 (by decide)).2.1 h40)
      refine go_callV (pc' := 29) rfl rfl rfl (Nat.le_of_ble_eq_true rfl) rfl (sm_o hS31 rfl) rfl rfl rfl (ct_to_0 hS31 hW htr40.1 htr40.2 (by omega)) (fun r h34 q35 => ?_)
      obtain ⟨rfl, hS36, hE37⟩ := q35
      have hF38 := fr_trans hF33 (fr_e hE37)
      have hrw : rwi (uI (uI (uI I 13 1 0) 12 1 (-1)) 11 1 (nI 3)) 1 = rwo (uI (uI I 13 1 0) 12 1 (-1)) 1 := by simp [rwi, rwo, pn, uI, e11] <;> rfl
      have hlv : lv (mpri 1 (nI 3) (mdrp 1 (I, Q, Z))).1 1 = true := lv_of (p := 3) (by simp [mpri, uI]) (by decide) (by show ¬ (uI (uI (uI (uI I 13 1 0) 12 1 (-1)) 11 1 (nI 3)) 40 1 0) 0 3 = 0; exact c15)
      have hD39 : CD w 32 m0 h34 (mpri 1 (nI 3) (mdrp 1 (I, Q, Z))).1 (mpri 1 (nI 3) (mdrp 1 (I, Q, Z))).2.1 (mpri 1 (nI 3) (mdrp 1 (I, Q, Z))).2.2 ((uX (uX (uX X 207 1 (.int 0)) 211 0 ((X 213 0))) 212 0 ((X 214 0)))) ow sb := CD_to (CD_bk (k := 1) (v := -1) (f := 0) (CD_I (J := uI I 13 1 0) (CD_fr hD hF38) ⟨rfl, rfl, rfl, rfl, rfl, rfl, rfl, rfl, rfl, rfl, rfl, rfl, rfl, rfl, rfl⟩) rfl) (by decide) h40 (by decide) hrw
      have hS42 : sm tbc h34 (mpri 1 (nI 3) (mdrp 1 (I, Q, Z))).1 ((uX (uX (uX X 207 1 (.int 0)) 211 0 ((X 213 0))) 212 0 ((X 214 0)))) := sm_hid hS36 (fun c j hc => by
          have h1 : c ≠ 12 := fun e => by subst e; cases hc
          have h2 : c ≠ 40 := fun e => by subst e; cases hc
          simp [mpri, mdrp, uI, h1, h2] <;> rfl)
      have hB40 : co h34 (mpri 1 (nI 3) (mdrp 1 (I, Q, Z))).1 ≤ B := by
        have z1 := co_fr (I := I) (J := (mpri 1 (nI 3) (mdrp 1 (I, Q, Z))).1) hF38 rfl
        have z2 := hB
        omega
      have hQ41 : ∀ l, l < 16 → ((mpri 1 (nI 3) (mdrp 1 (I, Q, Z))).2.1 l).length ≤ List.length h34 := fun l hl => Nat.le_trans (hQ l hl) hF38.1
      obtain ⟨X43, eX43⟩ : ∃ y, y = ((uX (uX (uX X 207 1 (.int 0)) 211 0 ((X 213 0))) 212 0 ((X 214 0)))) := ⟨_, rfl⟩
      rw [← eX43] at hD39 hS42
      obtain ⟨M44, eM44⟩ : ∃ y : mM, y = (mpri 1 (nI 3) (mdrp 1 (I, Q, Z))) := ⟨_, rfl⟩
      rw [← eM44] at hD39 hS42 hB40 hQ41
      obtain ⟨I44, Q44, Z44⟩ := M44
      change CD w 32 m0 h34 I44 Q44 Z44 X43 ow sb at hD39
      change sm tbc h34 I44 X43 at hS42
      change co h34 I44 ≤ B at hB40
      change ∀ l, l < 16 → (Q44 l).length ≤ List.length h34 at hQ41
      have hW := hD39.1.1
      have hWn : ∀ a, List.length h34 ≤ a → w a = true := fun a ha => (hD39.1.2.1 a ha).1
      have hF45 := fr_refl tbc h34
      have hln : 62 ≤ List.length h34 := sm_len hS42
      rw [← eM44] at hlv
      refine go_s (pc' := 30) rfl rfl rfl rfl ?_
      refine go_instT (pc' := 31) rfl (sm_o hS42 rfl) rfl (by decide) rfl ?_
      refine go_ifP (t' := 39) (pc' := 32) rfl rfl rfl (fun (c : (1 : Int32) = 0) => absurd c (by decide)) (fun _ => ?_)
      refine go_s (pc' := 33) rfl rfl rfl rfl ?_
      refine go_castO (pc' := 34) rfl (sm_o hS42 rfl) rfl (by decide) rfl ?_
      refine go_s (pc' := 35) (lo' := [some (.ref 1), some (.ref 59), some (.int 3), some (.int 1), some (.ref 59)]) rfl rfl rfl rfl ?_
      refine go_s (pc' := 36) rfl rfl rfl rfl ?_
      refine go_s (pc' := 37) rfl rfl rfl rfl ?_
      have hC46 : CA w 32 m0 B h34 (I44, Q44, Z44) := ⟨X43, ow, sb, hS42, hD39, hB40, hQ41⟩
      refine go_callV (pc' := 38) rfl rfl rfl (Nat.le_of_ble_eq_true rfl) rfl (sm_o hS42 rfl) rfl rfl rfl (cm_go_0 hC46 (by omega) hlv (by omega)) (fun r h47 q48 => ?_)
      obtain ⟨rfl, hC49⟩ := q48
      change CA w 32 m0 (B + 20) h47 (mgo 0 (I44, Q44, Z44)) at hC49
      obtain ⟨M50, eM50⟩ : ∃ y : mM, y = (mgo 0 (I44, Q44, Z44)) := ⟨_, rfl⟩
      rw [← eM50] at hC49
      obtain ⟨I50, Q50, Z50⟩ := M50
      obtain ⟨X51, ow51, sb51, hS51, hD51, hB51, hQ51⟩ := hC49
      have hW := hD51.1.1
      have hWn : ∀ a, List.length h47 ≤ a → w a = true := fun a ha => (hD51.1.2.1 a ha).1
      have hF52 := fr_refl tbc h47
      have hln : 62 ≤ List.length h47 := sm_len hS51
      change CD w 32 m0 h47 I50 Q50 Z50 X51 ow51 sb51 at hD51
      change sm tbc h47 I50 X51 at hS51
      change co h47 I50 ≤ (B + 20) at hB51
      change ∀ l, l < 16 → (Q50 l).length ≤ List.length h47 at hQ51
      have hW := hD51.1.1
      have hWn : ∀ a, List.length h47 ≤ a → w a = true := fun a ha => (hD51.1.2.1 a ha).1
      have hF53 := fr_refl tbc h47
      have hln : 62 ≤ List.length h47 := sm_len hS51
      refine go_ret rfl rfl ?_
      have hms : mrpl 1 (I, Q, Z) = (I50, Q50, Z50) := by
        unfold mrpl
        rw [if_pos (show ¬ I 12 1 = -1 ∧ ¬ I 0 (ohn I 1) = 0 from ⟨b12, by rw [hon]; exact c15⟩), if_neg (by decide), show ohn (I, Q, Z).1 1 = 3 from hon, ← eM44, ← eM50]
      have hC54 : CA w 32 m0 (B + 20) h47 (I50, Q50, Z50) := ⟨X51, ow51, sb51, hS51, hD51, hB51, hQ51⟩
      rw [hms]
      exact ⟨rfl, CA_le hC54 (by omega)⟩
theorem cm_rpl_1_3 {w : Nat → Bool} {d : Nat} {h : am_Hp} {m0 : mg} {B : Nat} {I : sm_I} {Q : mQ} {Z : mZ} (hC : CA w 32 m0 B h (I, Q, Z)) (hB2 : B < 2 ^ 26) (hR : RPH 1 3 (I, Q, Z)) (e11 : I 11 1 = 3) (hd : 6 ≤ d) : am_Ev (am_prog w) d 33 [.ref 1, .ref 59] h (fun r h' => r = none ∧ CA w 32 m0 (B + 40) h' (mrpl 1 (I, Q, Z))) := by
  obtain ⟨X, ow, sb, hS, hD, hB, hQ⟩ := hC
  change sm tbc h I X at hS
  change CD w 32 m0 h I Q Z X ow sb at hD
  change co h I ≤ B at hB
  change ∀ l, l < 16 → (Q l).length ≤ h.length at hQ
  have hW := hD.1.1
  have hWn : ∀ a, List.length h ≤ a → w a = true := fun a ha => (hD.1.2.1 a ha).1
  have hF1 := fr_refl tbc h
  have hln : 62 ≤ List.length h := sm_len hS
  obtain ⟨d, rfl⟩ : ∃ e, d = e + 1 := ⟨d - 1, by omega⟩
  refine ev_go rfl (Nat.le_of_ble_eq_true rfl) rfl ?_
  obtain ⟨h40i, t0, hk0⟩ := hR e11
  have h207 := hD.2.2.2.1.2.2 1 (by decide)
  have hon : ohn I 1 = 2 := by simp [ohn, e11]
  by_cases b12 : I 12 1 = -1
  · skip
    rw [if_pos b12] at h207
    refine go_s (pc' := 1) rfl rfl rfl rfl ?_
    refine go_callV (pc' := 2) rfl rfl rfl (Nat.le_of_ble_eq_true rfl) rfl (sm_o hS rfl) rfl rfl rfl (ct_oh_1 hS (by omega)) (fun r h2 q3 => ?_)
    obtain ⟨rfl, rfl⟩ := q3
    have hoh : ohI I 1 = 2 := by simp [ohI, uI, e11]
    rw [hoh]
    refine go_s (pc' := 3) (lo' := [some (.ref 1), some (.ref 59), some (.int 2), none, none]) rfl rfl rfl rfl ?_
    refine go_s (pc' := 4) rfl rfl rfl rfl ?_
    refine go_sget (pc' := 5) (v := .int 0) hS rfl rfl rfl (by decide) h207 rfl ?_
    refine go_ifP (t' := 14) (pc' := 6) rfl rfl rfl (fun _ => ?_) (fun (c : ¬ ((0 : Int32) = 0)) => absurd (by decide) c)
    refine go_s (pc' := 15) (st' := [.int 0]) rfl rfl rfl rfl ?_
    refine go_s (pc' := 16) (lo' := [some (.ref 1), some (.ref 59), some (.int 2), some (.int 0), none]) rfl rfl rfl rfl ?_
    refine go_s (pc' := 17) rfl rfl rfl rfl ?_
    refine go_callV (pc' := 18) rfl rfl rfl (Nat.le_of_ble_eq_true rfl) rfl (sm_o hS rfl) rfl rfl rfl (ct_drop_1 hS hW (by omega)) (fun r h4 q5 => ?_)
    obtain ⟨rfl, hS6, hE7⟩ := q5
    have hF8 := fr_trans hF1 (fr_e hE7)
    refine go_s (pc' := 19) rfl rfl rfl rfl ?_
    refine go_ifP (t' := 24) (pc' := 20) rfl rfl rfl (fun (c : ¬ (0 : Int32) = 0) => absurd c (by decide)) (fun _ => ?_)
    refine go_s (pc' := 21) rfl rfl rfl rfl ?_
    refine go_s (pc' := 22) (st' := [.int (-1), .ref 59]) rfl rfl rfl rfl ?_
    refine go_sput (pc' := 23) hS6 rfl rfl rfl (by decide) tbc_inj (Nat.le_of_ble_eq_true rfl) rfl (hW _ rfl) rfl (fun h9 hS10 hE11 => ?_)
    have hF12 := fr_trans hF8 (fr_e hE11)
    refine go_ret rfl rfl ?_
    have hD9 : CD w 32 m0 h9 (mpri 1 (-1) (mdrp 1 (I, Q, Z))).1 Q Z (uX X 207 1 (.int 0)) ow sb := CD_no (CD_bk (k := 1) (v := -1) (f := 0) (CD_I (J := uI I 13 1 0) (CD_fr hD hF12) ⟨rfl, rfl, rfl, rfl, rfl, rfl, rfl, rfl, rfl, rfl, rfl, rfl, rfl, rfl, rfl⟩) rfl) (by decide)
    have hms : mrpl 1 (I, Q, Z) = (mpri 1 (-1) (mdrp 1 (I, Q, Z))) := if_neg (fun z => z.1 b12)
    rw [hms]
    exact ⟨rfl, (uX X 207 1 (.int 0)), ow, sb, sm_hid hS10 (fun c j hc => by
        have h1 : c ≠ 12 := fun e => by subst e; cases hc
        have h2 : c ≠ 40 := fun e => by subst e; cases hc
        simp [mpri, mdrp, uI, h1, h2] <;> rfl), hD9, by have := co_fr (I := I) (J := (mpri 1 (-1) (mdrp 1 (I, Q, Z))).1) hF12 rfl; omega, fun l hl => Nat.le_trans (hQ l hl) hF12.1⟩
  · skip
    rw [if_neg b12] at h207
    have h40 := h40i b12
    refine go_s (pc' := 1) rfl rfl rfl rfl ?_
    refine go_callV (pc' := 2) rfl rfl rfl (Nat.le_of_ble_eq_true rfl) rfl (sm_o hS rfl) rfl rfl rfl (ct_oh_1 hS (by omega)) (fun r h13 q14 => ?_)
    obtain ⟨rfl, rfl⟩ := q14
    have hoh : ohI I 1 = 2 := by simp [ohI, uI, e11]
    rw [hoh]
    refine go_s (pc' := 3) (lo' := [some (.ref 1), some (.ref 59), some (.int 2), none, none]) rfl rfl rfl rfl ?_
    refine go_s (pc' := 4) rfl rfl rfl rfl ?_
    refine go_sget (pc' := 5) (v := .int 1) hS rfl rfl rfl (by decide) h207 rfl ?_
    refine go_ifP (t' := 14) (pc' := 6) rfl rfl rfl (fun (c : (1 : Int32) = 0) => absurd c (by decide)) (fun _ => ?_)
    refine go_s (pc' := 7) rfl rfl rfl rfl ?_
    refine go_sget (pc' := 8) (v := .ref 2) hS rfl rfl rfl (by decide) rfl rfl ?_
    refine go_sget (pc' := 9) (v := .ref 3) hS rfl rfl rfl (by decide) rfl rfl ?_
    refine go_s (pc' := 10) rfl rfl rfl rfl ?_
    refine go_sald (pc' := 11) (q := 2) (v := .int (I 0 2)) hS rfl rfl rfl rfl (by decide) rfl rfl ?_
    refine go_ifP (t' := 14) (pc' := 12) rfl rfl rfl (fun (c15 : (I 0 2) = 0) => ?_) (fun (c15 : ¬ (I 0 2) = 0) => ?_)
    · skip
      refine go_s (pc' := 15) (st' := [.int 0]) rfl rfl rfl rfl ?_
      refine go_s (pc' := 16) (lo' := [some (.ref 1), some (.ref 59), some (.int 2), some (.int 0), none]) rfl rfl rfl rfl ?_
      refine go_s (pc' := 17) rfl rfl rfl rfl ?_
      refine go_callV (pc' := 18) rfl rfl rfl (Nat.le_of_ble_eq_true rfl) rfl (sm_o hS rfl) rfl rfl rfl (ct_drop_1 hS hW (by omega)) (fun r h16 q17 => ?_)
      obtain ⟨rfl, hS18, hE19⟩ := q17
      have hF20 := fr_trans hF1 (fr_e hE19)
      refine go_s (pc' := 19) rfl rfl rfl rfl ?_
      refine go_ifP (t' := 24) (pc' := 20) rfl rfl rfl (fun (c : ¬ (0 : Int32) = 0) => absurd c (by decide)) (fun _ => ?_)
      refine go_s (pc' := 21) rfl rfl rfl rfl ?_
      refine go_s (pc' := 22) (st' := [.int (-1), .ref 59]) rfl rfl rfl rfl ?_
      refine go_sput (pc' := 23) hS18 rfl rfl rfl (by decide) tbc_inj (Nat.le_of_ble_eq_true rfl) rfl (hW _ rfl) rfl (fun h21 hS22 hE23 => ?_)
      have hF24 := fr_trans hF20 (fr_e hE23)
      refine go_ret rfl rfl ?_
      have hD9 : CD w 32 m0 h21 (mpri 1 (-1) (mdrp 1 (I, Q, Z))).1 Q Z (uX X 207 1 (.int 0)) ow sb := CD_no (CD_bk (k := 1) (v := -1) (f := 0) (CD_I (J := uI I 13 1 0) (CD_fr hD hF24) ⟨rfl, rfl, rfl, rfl, rfl, rfl, rfl, rfl, rfl, rfl, rfl, rfl, rfl, rfl, rfl⟩) rfl) (by decide)
      have hms : mrpl 1 (I, Q, Z) = (mpri 1 (-1) (mdrp 1 (I, Q, Z))) := if_neg (fun z => z.2 (by rw [hon]; exact c15))
      rw [hms]
      exact ⟨rfl, (uX X 207 1 (.int 0)), ow, sb, sm_hid hS22 (fun c j hc => by
          have h1 : c ≠ 12 := fun e => by subst e; cases hc
          have h2 : c ≠ 40 := fun e => by subst e; cases hc
          simp [mpri, mdrp, uI, h1, h2] <;> rfl), hD9, by have := co_fr (I := I) (J := (mpri 1 (-1) (mdrp 1 (I, Q, Z))).1) hF24 rfl; omega, fun l hl => Nat.le_trans (hQ l hl) hF24.1⟩
    · skip
      refine go_s (pc' := 13) (st' := [.int 1]) rfl rfl rfl rfl ?_
      refine go_s (pc' := 15) rfl rfl rfl rfl ?_
      refine go_s (pc' := 16) (lo' := [some (.ref 1), some (.ref 59), some (.int 2), some (.int 1), none]) rfl rfl rfl rfl ?_
      refine go_s (pc' := 17) rfl rfl rfl rfl ?_
      refine go_callV (pc' := 18) rfl rfl rfl (Nat.le_of_ble_eq_true rfl) rfl (sm_o hS rfl) rfl rfl rfl (ct_drop_1 hS hW (by omega)) (fun r h25 q26 => ?_)
      obtain ⟨rfl, hS27, hE28⟩ := q26
      have hF29 := fr_trans hF1 (fr_e hE28)
      refine go_s (pc' := 19) rfl rfl rfl rfl ?_
      refine go_ifP (t' := 24) (pc' := 20) rfl rfl rfl (fun _ => ?_) (fun (c : ¬ (¬ (1 : Int32) = 0)) => absurd (by decide) c)
      refine go_s (pc' := 25) rfl rfl rfl rfl ?_
      refine go_s (pc' := 26) rfl rfl rfl rfl ?_
      refine go_sput (pc' := 27) hS27 rfl rfl rfl (by decide) tbc_inj (Nat.le_of_ble_eq_true rfl) rfl (hW _ rfl) rfl (fun h30 hS31 hE32 => ?_)
      have hF33 := fr_trans hF29 (fr_e hE32)
      refine go_s (pc' := 28) rfl rfl rfl rfl ?_
      have htr40 := TR_fit ((hD.2.2.2.2.2.1 0 (by decide)).2.1 h40)
      refine go_callV (pc' := 29) rfl rfl rfl (Nat.le_of_ble_eq_true rfl) rfl (sm_o hS31 rfl) rfl rfl rfl (ct_to_0 hS31 hW htr40.1 htr40.2 (by omega)) (fun r h34 q35 => ?_)
      obtain ⟨rfl, hS36, hE37⟩ := q35
      have hF38 := fr_trans hF33 (fr_e hE37)
      have hrw : rwi (uI (uI (uI I 13 1 0) 12 1 (-1)) 11 1 (nI 2)) 1 = rwo (uI (uI I 13 1 0) 12 1 (-1)) 1 := by simp [rwi, rwo, pn, uI, e11] <;> rfl
      have hlv : lv (mpri 1 (nI 2) (mdrp 1 (I, Q, Z))).1 1 = true := lv_of (p := 2) (by simp [mpri, uI]) (by decide) (by show ¬ (uI (uI (uI (uI I 13 1 0) 12 1 (-1)) 11 1 (nI 2)) 40 1 0) 0 2 = 0; exact c15)
      have hD39 : CD w 32 m0 h34 (mpri 1 (nI 2) (mdrp 1 (I, Q, Z))).1 (mpri 1 (nI 2) (mdrp 1 (I, Q, Z))).2.1 (mpri 1 (nI 2) (mdrp 1 (I, Q, Z))).2.2 ((uX (uX (uX X 207 1 (.int 0)) 211 0 ((X 213 0))) 212 0 ((X 214 0)))) ow sb := CD_to (CD_bk (k := 1) (v := -1) (f := 0) (CD_I (J := uI I 13 1 0) (CD_fr hD hF38) ⟨rfl, rfl, rfl, rfl, rfl, rfl, rfl, rfl, rfl, rfl, rfl, rfl, rfl, rfl, rfl⟩) rfl) (by decide) h40 (by decide) hrw
      have hS42 : sm tbc h34 (mpri 1 (nI 2) (mdrp 1 (I, Q, Z))).1 ((uX (uX (uX X 207 1 (.int 0)) 211 0 ((X 213 0))) 212 0 ((X 214 0)))) := sm_hid hS36 (fun c j hc => by
          have h1 : c ≠ 12 := fun e => by subst e; cases hc
          have h2 : c ≠ 40 := fun e => by subst e; cases hc
          simp [mpri, mdrp, uI, h1, h2] <;> rfl)
      have hB40 : co h34 (mpri 1 (nI 2) (mdrp 1 (I, Q, Z))).1 ≤ B := by
        have z1 := co_fr (I := I) (J := (mpri 1 (nI 2) (mdrp 1 (I, Q, Z))).1) hF38 rfl
        have z2 := hB
        omega
      have hQ41 : ∀ l, l < 16 → ((mpri 1 (nI 2) (mdrp 1 (I, Q, Z))).2.1 l).length ≤ List.length h34 := fun l hl => Nat.le_trans (hQ l hl) hF38.1
      obtain ⟨X43, eX43⟩ : ∃ y, y = ((uX (uX (uX X 207 1 (.int 0)) 211 0 ((X 213 0))) 212 0 ((X 214 0)))) := ⟨_, rfl⟩
      rw [← eX43] at hD39 hS42
      obtain ⟨M44, eM44⟩ : ∃ y : mM, y = (mpri 1 (nI 2) (mdrp 1 (I, Q, Z))) := ⟨_, rfl⟩
      rw [← eM44] at hD39 hS42 hB40 hQ41
      obtain ⟨I44, Q44, Z44⟩ := M44
      change CD w 32 m0 h34 I44 Q44 Z44 X43 ow sb at hD39
      change sm tbc h34 I44 X43 at hS42
      change co h34 I44 ≤ B at hB40
      change ∀ l, l < 16 → (Q44 l).length ≤ List.length h34 at hQ41
      have hW := hD39.1.1
      have hWn : ∀ a, List.length h34 ≤ a → w a = true := fun a ha => (hD39.1.2.1 a ha).1
      have hF45 := fr_refl tbc h34
      have hln : 62 ≤ List.length h34 := sm_len hS42
      rw [← eM44] at hlv
      refine go_s (pc' := 30) rfl rfl rfl rfl ?_
      refine go_instT (pc' := 31) rfl (sm_o hS42 rfl) rfl (by decide) rfl ?_
      refine go_ifP (t' := 39) (pc' := 32) rfl rfl rfl (fun (c : (1 : Int32) = 0) => absurd c (by decide)) (fun _ => ?_)
      refine go_s (pc' := 33) rfl rfl rfl rfl ?_
      refine go_castO (pc' := 34) rfl (sm_o hS42 rfl) rfl (by decide) rfl ?_
      refine go_s (pc' := 35) (lo' := [some (.ref 1), some (.ref 59), some (.int 2), some (.int 1), some (.ref 59)]) rfl rfl rfl rfl ?_
      refine go_s (pc' := 36) rfl rfl rfl rfl ?_
      refine go_s (pc' := 37) rfl rfl rfl rfl ?_
      have hC46 : CA w 32 m0 B h34 (I44, Q44, Z44) := ⟨X43, ow, sb, hS42, hD39, hB40, hQ41⟩
      refine go_callV (pc' := 38) rfl rfl rfl (Nat.le_of_ble_eq_true rfl) rfl (sm_o hS42 rfl) rfl rfl rfl (cm_go_0 hC46 (by omega) hlv (by omega)) (fun r h47 q48 => ?_)
      obtain ⟨rfl, hC49⟩ := q48
      change CA w 32 m0 (B + 20) h47 (mgo 0 (I44, Q44, Z44)) at hC49
      obtain ⟨M50, eM50⟩ : ∃ y : mM, y = (mgo 0 (I44, Q44, Z44)) := ⟨_, rfl⟩
      rw [← eM50] at hC49
      obtain ⟨I50, Q50, Z50⟩ := M50
      obtain ⟨X51, ow51, sb51, hS51, hD51, hB51, hQ51⟩ := hC49
      have hW := hD51.1.1
      have hWn : ∀ a, List.length h47 ≤ a → w a = true := fun a ha => (hD51.1.2.1 a ha).1
      have hF52 := fr_refl tbc h47
      have hln : 62 ≤ List.length h47 := sm_len hS51
      change CD w 32 m0 h47 I50 Q50 Z50 X51 ow51 sb51 at hD51
      change sm tbc h47 I50 X51 at hS51
      change co h47 I50 ≤ (B + 20) at hB51
      change ∀ l, l < 16 → (Q50 l).length ≤ List.length h47 at hQ51
      have hW := hD51.1.1
      have hWn : ∀ a, List.length h47 ≤ a → w a = true := fun a ha => (hD51.1.2.1 a ha).1
      have hF53 := fr_refl tbc h47
      have hln : 62 ≤ List.length h47 := sm_len hS51
      refine go_ret rfl rfl ?_
      have hms : mrpl 1 (I, Q, Z) = (I50, Q50, Z50) := by
        unfold mrpl
        rw [if_pos (show ¬ I 12 1 = -1 ∧ ¬ I 0 (ohn I 1) = 0 from ⟨b12, by rw [hon]; exact c15⟩), if_neg (by decide), show ohn (I, Q, Z).1 1 = 2 from hon, ← eM44, ← eM50]
      have hC54 : CA w 32 m0 (B + 20) h47 (I50, Q50, Z50) := ⟨X51, ow51, sb51, hS51, hD51, hB51, hQ51⟩
      rw [hms]
      exact ⟨rfl, CA_le hC54 (by omega)⟩
theorem cm_rpl_2_2 {w : Nat → Bool} {d : Nat} {h : am_Hp} {m0 : mg} {B : Nat} {I : sm_I} {Q : mQ} {Z : mZ} (hC : CA w 32 m0 B h (I, Q, Z)) (hB2 : B < 2 ^ 26) (hR : RPH 2 2 (I, Q, Z)) (e11 : I 11 2 = 2) (hd : 6 ≤ d) : am_Ev (am_prog w) d 33 [.ref 1, .ref 60] h (fun r h' => r = none ∧ CA w 32 m0 (B + 40) h' (mrpl 2 (I, Q, Z))) := by
  obtain ⟨X, ow, sb, hS, hD, hB, hQ⟩ := hC
  change sm tbc h I X at hS
  change CD w 32 m0 h I Q Z X ow sb at hD
  change co h I ≤ B at hB
  change ∀ l, l < 16 → (Q l).length ≤ h.length at hQ
  have hW := hD.1.1
  have hWn : ∀ a, List.length h ≤ a → w a = true := fun a ha => (hD.1.2.1 a ha).1
  have hF1 := fr_refl tbc h
  have hln : 62 ≤ List.length h := sm_len hS
  obtain ⟨d, rfl⟩ : ∃ e, d = e + 1 := ⟨d - 1, by omega⟩
  refine ev_go rfl (Nat.le_of_ble_eq_true rfl) rfl ?_
  obtain ⟨h40i, t0, hk0⟩ := hR e11
  have h207 := hD.2.2.2.1.2.2 2 (by decide)
  have hon : ohn I 2 = 3 := by simp [ohn, e11]
  by_cases b12 : I 12 2 = -1
  · skip
    rw [if_pos b12] at h207
    refine go_s (pc' := 1) rfl rfl rfl rfl ?_
    refine go_callV (pc' := 2) rfl rfl rfl (Nat.le_of_ble_eq_true rfl) rfl (sm_o hS rfl) rfl rfl rfl (ct_oh_2 hS (by omega)) (fun r h2 q3 => ?_)
    obtain ⟨rfl, rfl⟩ := q3
    have hoh : ohI I 2 = 3 := by simp [ohI, uI, e11]
    rw [hoh]
    refine go_s (pc' := 3) (lo' := [some (.ref 1), some (.ref 60), some (.int 3), none, none]) rfl rfl rfl rfl ?_
    refine go_s (pc' := 4) rfl rfl rfl rfl ?_
    refine go_sget (pc' := 5) (v := .int 0) hS rfl rfl rfl (by decide) h207 rfl ?_
    refine go_ifP (t' := 14) (pc' := 6) rfl rfl rfl (fun _ => ?_) (fun (c : ¬ ((0 : Int32) = 0)) => absurd (by decide) c)
    refine go_s (pc' := 15) (st' := [.int 0]) rfl rfl rfl rfl ?_
    refine go_s (pc' := 16) (lo' := [some (.ref 1), some (.ref 60), some (.int 3), some (.int 0), none]) rfl rfl rfl rfl ?_
    refine go_s (pc' := 17) rfl rfl rfl rfl ?_
    refine go_callV (pc' := 18) rfl rfl rfl (Nat.le_of_ble_eq_true rfl) rfl (sm_o hS rfl) rfl rfl rfl (ct_drop_2 hS hW (by omega)) (fun r h4 q5 => ?_)
    obtain ⟨rfl, hS6, hE7⟩ := q5
    have hF8 := fr_trans hF1 (fr_e hE7)
    refine go_s (pc' := 19) rfl rfl rfl rfl ?_
    refine go_ifP (t' := 24) (pc' := 20) rfl rfl rfl (fun (c : ¬ (0 : Int32) = 0) => absurd c (by decide)) (fun _ => ?_)
    refine go_s (pc' := 21) rfl rfl rfl rfl ?_
    refine go_s (pc' := 22) (st' := [.int (-1), .ref 60]) rfl rfl rfl rfl ?_
    refine go_sput (pc' := 23) hS6 rfl rfl rfl (by decide) tbc_inj (Nat.le_of_ble_eq_true rfl) rfl (hW _ rfl) rfl (fun h9 hS10 hE11 => ?_)
    have hF12 := fr_trans hF8 (fr_e hE11)
    refine go_ret rfl rfl ?_
    have hD9 : CD w 32 m0 h9 (mpri 2 (-1) (mdrp 2 (I, Q, Z))).1 Q Z (uX X 207 2 (.int 0)) ow sb := CD_no (CD_bk (k := 2) (v := -1) (f := 0) (CD_I (J := uI I 13 2 0) (CD_fr hD hF12) ⟨rfl, rfl, rfl, rfl, rfl, rfl, rfl, rfl, rfl, rfl, rfl, rfl, rfl, rfl, rfl⟩) rfl) (by decide)
    have hms : mrpl 2 (I, Q, Z) = (mpri 2 (-1) (mdrp 2 (I, Q, Z))) := if_neg (fun z => z.1 b12)
    rw [hms]
    exact ⟨rfl, (uX X 207 2 (.int 0)), ow, sb, sm_hid hS10 (fun c j hc => by
        have h1 : c ≠ 12 := fun e => by subst e; cases hc
        have h2 : c ≠ 40 := fun e => by subst e; cases hc
        simp [mpri, mdrp, uI, h1, h2] <;> rfl), hD9, by have := co_fr (I := I) (J := (mpri 2 (-1) (mdrp 2 (I, Q, Z))).1) hF12 rfl; omega, fun l hl => Nat.le_trans (hQ l hl) hF12.1⟩
  · skip
    rw [if_neg b12] at h207
    have h40 := h40i b12
    refine go_s (pc' := 1) rfl rfl rfl rfl ?_
    refine go_callV (pc' := 2) rfl rfl rfl (Nat.le_of_ble_eq_true rfl) rfl (sm_o hS rfl) rfl rfl rfl (ct_oh_2 hS (by omega)) (fun r h13 q14 => ?_)
    obtain ⟨rfl, rfl⟩ := q14
    have hoh : ohI I 2 = 3 := by simp [ohI, uI, e11]
    rw [hoh]
    refine go_s (pc' := 3) (lo' := [some (.ref 1), some (.ref 60), some (.int 3), none, none]) rfl rfl rfl rfl ?_
    refine go_s (pc' := 4) rfl rfl rfl rfl ?_
    refine go_sget (pc' := 5) (v := .int 1) hS rfl rfl rfl (by decide) h207 rfl ?_
    refine go_ifP (t' := 14) (pc' := 6) rfl rfl rfl (fun (c : (1 : Int32) = 0) => absurd c (by decide)) (fun _ => ?_)
    refine go_s (pc' := 7) rfl rfl rfl rfl ?_
    refine go_sget (pc' := 8) (v := .ref 2) hS rfl rfl rfl (by decide) rfl rfl ?_
    refine go_sget (pc' := 9) (v := .ref 3) hS rfl rfl rfl (by decide) rfl rfl ?_
    refine go_s (pc' := 10) rfl rfl rfl rfl ?_
    refine go_sald (pc' := 11) (q := 3) (v := .int (I 0 3)) hS rfl rfl rfl rfl (by decide) rfl rfl ?_
    refine go_ifP (t' := 14) (pc' := 12) rfl rfl rfl (fun (c15 : (I 0 3) = 0) => ?_) (fun (c15 : ¬ (I 0 3) = 0) => ?_)
    · skip
      refine go_s (pc' := 15) (st' := [.int 0]) rfl rfl rfl rfl ?_
      refine go_s (pc' := 16) (lo' := [some (.ref 1), some (.ref 60), some (.int 3), some (.int 0), none]) rfl rfl rfl rfl ?_
      refine go_s (pc' := 17) rfl rfl rfl rfl ?_
      refine go_callV (pc' := 18) rfl rfl rfl (Nat.le_of_ble_eq_true rfl) rfl (sm_o hS rfl) rfl rfl rfl (ct_drop_2 hS hW (by omega)) (fun r h16 q17 => ?_)
      obtain ⟨rfl, hS18, hE19⟩ := q17
      have hF20 := fr_trans hF1 (fr_e hE19)
      refine go_s (pc' := 19) rfl rfl rfl rfl ?_
      refine go_ifP (t' := 24) (pc' := 20) rfl rfl rfl (fun (c : ¬ (0 : Int32) = 0) => absurd c (by decide)) (fun _ => ?_)
      refine go_s (pc' := 21) rfl rfl rfl rfl ?_
      refine go_s (pc' := 22) (st' := [.int (-1), .ref 60]) rfl rfl rfl rfl ?_
      refine go_sput (pc' := 23) hS18 rfl rfl rfl (by decide) tbc_inj (Nat.le_of_ble_eq_true rfl) rfl (hW _ rfl) rfl (fun h21 hS22 hE23 => ?_)
      have hF24 := fr_trans hF20 (fr_e hE23)
      refine go_ret rfl rfl ?_
      have hD9 : CD w 32 m0 h21 (mpri 2 (-1) (mdrp 2 (I, Q, Z))).1 Q Z (uX X 207 2 (.int 0)) ow sb := CD_no (CD_bk (k := 2) (v := -1) (f := 0) (CD_I (J := uI I 13 2 0) (CD_fr hD hF24) ⟨rfl, rfl, rfl, rfl, rfl, rfl, rfl, rfl, rfl, rfl, rfl, rfl, rfl, rfl, rfl⟩) rfl) (by decide)
      have hms : mrpl 2 (I, Q, Z) = (mpri 2 (-1) (mdrp 2 (I, Q, Z))) := if_neg (fun z => z.2 (by rw [hon]; exact c15))
      rw [hms]
      exact ⟨rfl, (uX X 207 2 (.int 0)), ow, sb, sm_hid hS22 (fun c j hc => by
          have h1 : c ≠ 12 := fun e => by subst e; cases hc
          have h2 : c ≠ 40 := fun e => by subst e; cases hc
          simp [mpri, mdrp, uI, h1, h2] <;> rfl), hD9, by have := co_fr (I := I) (J := (mpri 2 (-1) (mdrp 2 (I, Q, Z))).1) hF24 rfl; omega, fun l hl => Nat.le_trans (hQ l hl) hF24.1⟩
    · skip
      refine go_s (pc' := 13) (st' := [.int 1]) rfl rfl rfl rfl ?_
      refine go_s (pc' := 15) rfl rfl rfl rfl ?_
      refine go_s (pc' := 16) (lo' := [some (.ref 1), some (.ref 60), some (.int 3), some (.int 1), none]) rfl rfl rfl rfl ?_
      refine go_s (pc' := 17) rfl rfl rfl rfl ?_
      refine go_callV (pc' := 18) rfl rfl rfl (Nat.le_of_ble_eq_true rfl) rfl (sm_o hS rfl) rfl rfl rfl (ct_drop_2 hS hW (by omega)) (fun r h25 q26 => ?_)
      obtain ⟨rfl, hS27, hE28⟩ := q26
      have hF29 := fr_trans hF1 (fr_e hE28)
      refine go_s (pc' := 19) rfl rfl rfl rfl ?_
      refine go_ifP (t' := 24) (pc' := 20) rfl rfl rfl (fun _ => ?_) (fun (c : ¬ (¬ (1 : Int32) = 0)) => absurd (by decide) c)
      refine go_s (pc' := 25) rfl rfl rfl rfl ?_
      refine go_s (pc' := 26) rfl rfl rfl rfl ?_
      refine go_sput (pc' := 27) hS27 rfl rfl rfl (by decide) tbc_inj (Nat.le_of_ble_eq_true rfl) rfl (hW _ rfl) rfl (fun h30 hS31 hE32 => ?_)
      have hF33 := fr_trans hF29 (fr_e hE32)
      refine go_s (pc' := 28) rfl rfl rfl rfl ?_
      have htr40 := TR_fit ((hD.2.2.2.2.2.1 1 (by decide)).2.1 h40)
      refine go_callV (pc' := 29) rfl rfl rfl (Nat.le_of_ble_eq_true rfl) rfl (sm_o hS31 rfl) rfl rfl rfl (ct_to_1 hS31 hW htr40.1 htr40.2 (by omega)) (fun r h34 q35 => ?_)
      obtain ⟨rfl, hS36, hE37⟩ := q35
      have hF38 := fr_trans hF33 (fr_e hE37)
      have hrw : rwi (uI (uI (uI I 13 2 0) 12 2 (-1)) 11 2 (nI 3)) 2 = rwo (uI (uI I 13 2 0) 12 2 (-1)) 2 := by simp [rwi, rwo, pn, uI, e11] <;> rfl
      have hlv : lv (mpri 2 (nI 3) (mdrp 2 (I, Q, Z))).1 2 = true := lv_of (p := 3) (by simp [mpri, uI]) (by decide) (by show ¬ (uI (uI (uI (uI I 13 2 0) 12 2 (-1)) 11 2 (nI 3)) 40 2 0) 0 3 = 0; exact c15)
      have hD39 : CD w 32 m0 h34 (mpri 2 (nI 3) (mdrp 2 (I, Q, Z))).1 (mpri 2 (nI 3) (mdrp 2 (I, Q, Z))).2.1 (mpri 2 (nI 3) (mdrp 2 (I, Q, Z))).2.2 ((uX (uX (uX X 207 2 (.int 0)) 211 1 ((X 213 1))) 212 1 ((X 214 1)))) ow sb := CD_to (CD_bk (k := 2) (v := -1) (f := 0) (CD_I (J := uI I 13 2 0) (CD_fr hD hF38) ⟨rfl, rfl, rfl, rfl, rfl, rfl, rfl, rfl, rfl, rfl, rfl, rfl, rfl, rfl, rfl⟩) rfl) (by decide) h40 (by decide) hrw
      have hS42 : sm tbc h34 (mpri 2 (nI 3) (mdrp 2 (I, Q, Z))).1 ((uX (uX (uX X 207 2 (.int 0)) 211 1 ((X 213 1))) 212 1 ((X 214 1)))) := sm_hid hS36 (fun c j hc => by
          have h1 : c ≠ 12 := fun e => by subst e; cases hc
          have h2 : c ≠ 40 := fun e => by subst e; cases hc
          simp [mpri, mdrp, uI, h1, h2] <;> rfl)
      have hB40 : co h34 (mpri 2 (nI 3) (mdrp 2 (I, Q, Z))).1 ≤ B := by
        have z1 := co_fr (I := I) (J := (mpri 2 (nI 3) (mdrp 2 (I, Q, Z))).1) hF38 rfl
        have z2 := hB
        omega
      have hQ41 : ∀ l, l < 16 → ((mpri 2 (nI 3) (mdrp 2 (I, Q, Z))).2.1 l).length ≤ List.length h34 := fun l hl => Nat.le_trans (hQ l hl) hF38.1
      obtain ⟨X43, eX43⟩ : ∃ y, y = ((uX (uX (uX X 207 2 (.int 0)) 211 1 ((X 213 1))) 212 1 ((X 214 1)))) := ⟨_, rfl⟩
      rw [← eX43] at hD39 hS42
      obtain ⟨M44, eM44⟩ : ∃ y : mM, y = (mpri 2 (nI 3) (mdrp 2 (I, Q, Z))) := ⟨_, rfl⟩
      rw [← eM44] at hD39 hS42 hB40 hQ41
      obtain ⟨I44, Q44, Z44⟩ := M44
      change CD w 32 m0 h34 I44 Q44 Z44 X43 ow sb at hD39
      change sm tbc h34 I44 X43 at hS42
      change co h34 I44 ≤ B at hB40
      change ∀ l, l < 16 → (Q44 l).length ≤ List.length h34 at hQ41
      have hW := hD39.1.1
      have hWn : ∀ a, List.length h34 ≤ a → w a = true := fun a ha => (hD39.1.2.1 a ha).1
      have hF45 := fr_refl tbc h34
      have hln : 62 ≤ List.length h34 := sm_len hS42
      rw [← eM44] at hlv
      refine go_s (pc' := 30) rfl rfl rfl rfl ?_
      refine go_instT (pc' := 31) rfl (sm_o hS42 rfl) rfl (by decide) rfl ?_
      refine go_ifP (t' := 39) (pc' := 32) rfl rfl rfl (fun (c : (1 : Int32) = 0) => absurd c (by decide)) (fun _ => ?_)
      refine go_s (pc' := 33) rfl rfl rfl rfl ?_
      refine go_castO (pc' := 34) rfl (sm_o hS42 rfl) rfl (by decide) rfl ?_
      refine go_s (pc' := 35) (lo' := [some (.ref 1), some (.ref 60), some (.int 3), some (.int 1), some (.ref 60)]) rfl rfl rfl rfl ?_
      refine go_s (pc' := 36) rfl rfl rfl rfl ?_
      refine go_s (pc' := 37) rfl rfl rfl rfl ?_
      have hC46 : CA w 32 m0 B h34 (I44, Q44, Z44) := ⟨X43, ow, sb, hS42, hD39, hB40, hQ41⟩
      refine go_callV (pc' := 38) rfl rfl rfl (Nat.le_of_ble_eq_true rfl) rfl (sm_o hS42 rfl) rfl rfl rfl (cm_go_1 hC46 (by omega) hlv (by omega)) (fun r h47 q48 => ?_)
      obtain ⟨rfl, hC49⟩ := q48
      change CA w 32 m0 (B + 20) h47 (mgo 1 (I44, Q44, Z44)) at hC49
      obtain ⟨M50, eM50⟩ : ∃ y : mM, y = (mgo 1 (I44, Q44, Z44)) := ⟨_, rfl⟩
      rw [← eM50] at hC49
      obtain ⟨I50, Q50, Z50⟩ := M50
      obtain ⟨X51, ow51, sb51, hS51, hD51, hB51, hQ51⟩ := hC49
      have hW := hD51.1.1
      have hWn : ∀ a, List.length h47 ≤ a → w a = true := fun a ha => (hD51.1.2.1 a ha).1
      have hF52 := fr_refl tbc h47
      have hln : 62 ≤ List.length h47 := sm_len hS51
      change CD w 32 m0 h47 I50 Q50 Z50 X51 ow51 sb51 at hD51
      change sm tbc h47 I50 X51 at hS51
      change co h47 I50 ≤ (B + 20) at hB51
      change ∀ l, l < 16 → (Q50 l).length ≤ List.length h47 at hQ51
      have hW := hD51.1.1
      have hWn : ∀ a, List.length h47 ≤ a → w a = true := fun a ha => (hD51.1.2.1 a ha).1
      have hF53 := fr_refl tbc h47
      have hln : 62 ≤ List.length h47 := sm_len hS51
      refine go_ret rfl rfl ?_
      have hms : mrpl 2 (I, Q, Z) = (I50, Q50, Z50) := by
        unfold mrpl
        rw [if_pos (show ¬ I 12 2 = -1 ∧ ¬ I 0 (ohn I 2) = 0 from ⟨b12, by rw [hon]; exact c15⟩), if_neg (by decide), show ohn (I, Q, Z).1 2 = 3 from hon, ← eM44, ← eM50]
      have hC54 : CA w 32 m0 (B + 20) h47 (I50, Q50, Z50) := ⟨X51, ow51, sb51, hS51, hD51, hB51, hQ51⟩
      rw [hms]
      exact ⟨rfl, CA_le hC54 (by omega)⟩
theorem cm_rpl_2_3 {w : Nat → Bool} {d : Nat} {h : am_Hp} {m0 : mg} {B : Nat} {I : sm_I} {Q : mQ} {Z : mZ} (hC : CA w 32 m0 B h (I, Q, Z)) (hB2 : B < 2 ^ 26) (hR : RPH 2 3 (I, Q, Z)) (e11 : I 11 2 = 3) (hd : 6 ≤ d) : am_Ev (am_prog w) d 33 [.ref 1, .ref 60] h (fun r h' => r = none ∧ CA w 32 m0 (B + 40) h' (mrpl 2 (I, Q, Z))) := by
  obtain ⟨X, ow, sb, hS, hD, hB, hQ⟩ := hC
  change sm tbc h I X at hS
  change CD w 32 m0 h I Q Z X ow sb at hD
  change co h I ≤ B at hB
  change ∀ l, l < 16 → (Q l).length ≤ h.length at hQ
  have hW := hD.1.1
  have hWn : ∀ a, List.length h ≤ a → w a = true := fun a ha => (hD.1.2.1 a ha).1
  have hF1 := fr_refl tbc h
  have hln : 62 ≤ List.length h := sm_len hS
  obtain ⟨d, rfl⟩ : ∃ e, d = e + 1 := ⟨d - 1, by omega⟩
  refine ev_go rfl (Nat.le_of_ble_eq_true rfl) rfl ?_
  obtain ⟨h40i, t0, hk0⟩ := hR e11
  have h207 := hD.2.2.2.1.2.2 2 (by decide)
  have hon : ohn I 2 = 2 := by simp [ohn, e11]
  by_cases b12 : I 12 2 = -1
  · skip
    rw [if_pos b12] at h207
    refine go_s (pc' := 1) rfl rfl rfl rfl ?_
    refine go_callV (pc' := 2) rfl rfl rfl (Nat.le_of_ble_eq_true rfl) rfl (sm_o hS rfl) rfl rfl rfl (ct_oh_2 hS (by omega)) (fun r h2 q3 => ?_)
    obtain ⟨rfl, rfl⟩ := q3
    have hoh : ohI I 2 = 2 := by simp [ohI, uI, e11]
    rw [hoh]
    refine go_s (pc' := 3) (lo' := [some (.ref 1), some (.ref 60), some (.int 2), none, none]) rfl rfl rfl rfl ?_
    refine go_s (pc' := 4) rfl rfl rfl rfl ?_
    refine go_sget (pc' := 5) (v := .int 0) hS rfl rfl rfl (by decide) h207 rfl ?_
    refine go_ifP (t' := 14) (pc' := 6) rfl rfl rfl (fun _ => ?_) (fun (c : ¬ ((0 : Int32) = 0)) => absurd (by decide) c)
    refine go_s (pc' := 15) (st' := [.int 0]) rfl rfl rfl rfl ?_
    refine go_s (pc' := 16) (lo' := [some (.ref 1), some (.ref 60), some (.int 2), some (.int 0), none]) rfl rfl rfl rfl ?_
    refine go_s (pc' := 17) rfl rfl rfl rfl ?_
    refine go_callV (pc' := 18) rfl rfl rfl (Nat.le_of_ble_eq_true rfl) rfl (sm_o hS rfl) rfl rfl rfl (ct_drop_2 hS hW (by omega)) (fun r h4 q5 => ?_)
    obtain ⟨rfl, hS6, hE7⟩ := q5
    have hF8 := fr_trans hF1 (fr_e hE7)
    refine go_s (pc' := 19) rfl rfl rfl rfl ?_
    refine go_ifP (t' := 24) (pc' := 20) rfl rfl rfl (fun (c : ¬ (0 : Int32) = 0) => absurd c (by decide)) (fun _ => ?_)
    refine go_s (pc' := 21) rfl rfl rfl rfl ?_
    refine go_s (pc' := 22) (st' := [.int (-1), .ref 60]) rfl rfl rfl rfl ?_
    refine go_sput (pc' := 23) hS6 rfl rfl rfl (by decide) tbc_inj (Nat.le_of_ble_eq_true rfl) rfl (hW _ rfl) rfl (fun h9 hS10 hE11 => ?_)
    have hF12 := fr_trans hF8 (fr_e hE11)
    refine go_ret rfl rfl ?_
    have hD9 : CD w 32 m0 h9 (mpri 2 (-1) (mdrp 2 (I, Q, Z))).1 Q Z (uX X 207 2 (.int 0)) ow sb := CD_no (CD_bk (k := 2) (v := -1) (f := 0) (CD_I (J := uI I 13 2 0) (CD_fr hD hF12) ⟨rfl, rfl, rfl, rfl, rfl, rfl, rfl, rfl, rfl, rfl, rfl, rfl, rfl, rfl, rfl⟩) rfl) (by decide)
    have hms : mrpl 2 (I, Q, Z) = (mpri 2 (-1) (mdrp 2 (I, Q, Z))) := if_neg (fun z => z.1 b12)
    rw [hms]
    exact ⟨rfl, (uX X 207 2 (.int 0)), ow, sb, sm_hid hS10 (fun c j hc => by
        have h1 : c ≠ 12 := fun e => by subst e; cases hc
        have h2 : c ≠ 40 := fun e => by subst e; cases hc
        simp [mpri, mdrp, uI, h1, h2] <;> rfl), hD9, by have := co_fr (I := I) (J := (mpri 2 (-1) (mdrp 2 (I, Q, Z))).1) hF12 rfl; omega, fun l hl => Nat.le_trans (hQ l hl) hF12.1⟩
  · skip
    rw [if_neg b12] at h207
    have h40 := h40i b12
    refine go_s (pc' := 1) rfl rfl rfl rfl ?_
    refine go_callV (pc' := 2) rfl rfl rfl (Nat.le_of_ble_eq_true rfl) rfl (sm_o hS rfl) rfl rfl rfl (ct_oh_2 hS (by omega)) (fun r h13 q14 => ?_)
    obtain ⟨rfl, rfl⟩ := q14
    have hoh : ohI I 2 = 2 := by simp [ohI, uI, e11]
    rw [hoh]
    refine go_s (pc' := 3) (lo' := [some (.ref 1), some (.ref 60), some (.int 2), none, none]) rfl rfl rfl rfl ?_
    refine go_s (pc' := 4) rfl rfl rfl rfl ?_
    refine go_sget (pc' := 5) (v := .int 1) hS rfl rfl rfl (by decide) h207 rfl ?_
    refine go_ifP (t' := 14) (pc' := 6) rfl rfl rfl (fun (c : (1 : Int32) = 0) => absurd c (by decide)) (fun _ => ?_)
    refine go_s (pc' := 7) rfl rfl rfl rfl ?_
    refine go_sget (pc' := 8) (v := .ref 2) hS rfl rfl rfl (by decide) rfl rfl ?_
    refine go_sget (pc' := 9) (v := .ref 3) hS rfl rfl rfl (by decide) rfl rfl ?_
    refine go_s (pc' := 10) rfl rfl rfl rfl ?_
    refine go_sald (pc' := 11) (q := 2) (v := .int (I 0 2)) hS rfl rfl rfl rfl (by decide) rfl rfl ?_
    refine go_ifP (t' := 14) (pc' := 12) rfl rfl rfl (fun (c15 : (I 0 2) = 0) => ?_) (fun (c15 : ¬ (I 0 2) = 0) => ?_)
    · skip
      refine go_s (pc' := 15) (st' := [.int 0]) rfl rfl rfl rfl ?_
      refine go_s (pc' := 16) (lo' := [some (.ref 1), some (.ref 60), some (.int 2), some (.int 0), none]) rfl rfl rfl rfl ?_
      refine go_s (pc' := 17) rfl rfl rfl rfl ?_
      refine go_callV (pc' := 18) rfl rfl rfl (Nat.le_of_ble_eq_true rfl) rfl (sm_o hS rfl) rfl rfl rfl (ct_drop_2 hS hW (by omega)) (fun r h16 q17 => ?_)
      obtain ⟨rfl, hS18, hE19⟩ := q17
      have hF20 := fr_trans hF1 (fr_e hE19)
      refine go_s (pc' := 19) rfl rfl rfl rfl ?_
      refine go_ifP (t' := 24) (pc' := 20) rfl rfl rfl (fun (c : ¬ (0 : Int32) = 0) => absurd c (by decide)) (fun _ => ?_)
      refine go_s (pc' := 21) rfl rfl rfl rfl ?_
      refine go_s (pc' := 22) (st' := [.int (-1), .ref 60]) rfl rfl rfl rfl ?_
      refine go_sput (pc' := 23) hS18 rfl rfl rfl (by decide) tbc_inj (Nat.le_of_ble_eq_true rfl) rfl (hW _ rfl) rfl (fun h21 hS22 hE23 => ?_)
      have hF24 := fr_trans hF20 (fr_e hE23)
      refine go_ret rfl rfl ?_
      have hD9 : CD w 32 m0 h21 (mpri 2 (-1) (mdrp 2 (I, Q, Z))).1 Q Z (uX X 207 2 (.int 0)) ow sb := CD_no (CD_bk (k := 2) (v := -1) (f := 0) (CD_I (J := uI I 13 2 0) (CD_fr hD hF24) ⟨rfl, rfl, rfl, rfl, rfl, rfl, rfl, rfl, rfl, rfl, rfl, rfl, rfl, rfl, rfl⟩) rfl) (by decide)
      have hms : mrpl 2 (I, Q, Z) = (mpri 2 (-1) (mdrp 2 (I, Q, Z))) := if_neg (fun z => z.2 (by rw [hon]; exact c15))
      rw [hms]
      exact ⟨rfl, (uX X 207 2 (.int 0)), ow, sb, sm_hid hS22 (fun c j hc => by
          have h1 : c ≠ 12 := fun e => by subst e; cases hc
          have h2 : c ≠ 40 := fun e => by subst e; cases hc
          simp [mpri, mdrp, uI, h1, h2] <;> rfl), hD9, by have := co_fr (I := I) (J := (mpri 2 (-1) (mdrp 2 (I, Q, Z))).1) hF24 rfl; omega, fun l hl => Nat.le_trans (hQ l hl) hF24.1⟩
    · skip
      refine go_s (pc' := 13) (st' := [.int 1]) rfl rfl rfl rfl ?_
      refine go_s (pc' := 15) rfl rfl rfl rfl ?_
      refine go_s (pc' := 16) (lo' := [some (.ref 1), some (.ref 60), some (.int 2), some (.int 1), none]) rfl rfl rfl rfl ?_
      refine go_s (pc' := 17) rfl rfl rfl rfl ?_
      refine go_callV (pc' := 18) rfl rfl rfl (Nat.le_of_ble_eq_true rfl) rfl (sm_o hS rfl) rfl rfl rfl (ct_drop_2 hS hW (by omega)) (fun r h25 q26 => ?_)
      obtain ⟨rfl, hS27, hE28⟩ := q26
      have hF29 := fr_trans hF1 (fr_e hE28)
      refine go_s (pc' := 19) rfl rfl rfl rfl ?_
      refine go_ifP (t' := 24) (pc' := 20) rfl rfl rfl (fun _ => ?_) (fun (c : ¬ (¬ (1 : Int32) = 0)) => absurd (by decide) c)
      refine go_s (pc' := 25) rfl rfl rfl rfl ?_
      refine go_s (pc' := 26) rfl rfl rfl rfl ?_
      refine go_sput (pc' := 27) hS27 rfl rfl rfl (by decide) tbc_inj (Nat.le_of_ble_eq_true rfl) rfl (hW _ rfl) rfl (fun h30 hS31 hE32 => ?_)
      have hF33 := fr_trans hF29 (fr_e hE32)
      refine go_s (pc' := 28) rfl rfl rfl rfl ?_
      have htr40 := TR_fit ((hD.2.2.2.2.2.1 1 (by decide)).2.1 h40)
      refine go_callV (pc' := 29) rfl rfl rfl (Nat.le_of_ble_eq_true rfl) rfl (sm_o hS31 rfl) rfl rfl rfl (ct_to_1 hS31 hW htr40.1 htr40.2 (by omega)) (fun r h34 q35 => ?_)
      obtain ⟨rfl, hS36, hE37⟩ := q35
      have hF38 := fr_trans hF33 (fr_e hE37)
      have hrw : rwi (uI (uI (uI I 13 2 0) 12 2 (-1)) 11 2 (nI 2)) 2 = rwo (uI (uI I 13 2 0) 12 2 (-1)) 2 := by simp [rwi, rwo, pn, uI, e11] <;> rfl
      have hlv : lv (mpri 2 (nI 2) (mdrp 2 (I, Q, Z))).1 2 = true := lv_of (p := 2) (by simp [mpri, uI]) (by decide) (by show ¬ (uI (uI (uI (uI I 13 2 0) 12 2 (-1)) 11 2 (nI 2)) 40 2 0) 0 2 = 0; exact c15)
      have hD39 : CD w 32 m0 h34 (mpri 2 (nI 2) (mdrp 2 (I, Q, Z))).1 (mpri 2 (nI 2) (mdrp 2 (I, Q, Z))).2.1 (mpri 2 (nI 2) (mdrp 2 (I, Q, Z))).2.2 ((uX (uX (uX X 207 2 (.int 0)) 211 1 ((X 213 1))) 212 1 ((X 214 1)))) ow sb := CD_to (CD_bk (k := 2) (v := -1) (f := 0) (CD_I (J := uI I 13 2 0) (CD_fr hD hF38) ⟨rfl, rfl, rfl, rfl, rfl, rfl, rfl, rfl, rfl, rfl, rfl, rfl, rfl, rfl, rfl⟩) rfl) (by decide) h40 (by decide) hrw
      have hS42 : sm tbc h34 (mpri 2 (nI 2) (mdrp 2 (I, Q, Z))).1 ((uX (uX (uX X 207 2 (.int 0)) 211 1 ((X 213 1))) 212 1 ((X 214 1)))) := sm_hid hS36 (fun c j hc => by
          have h1 : c ≠ 12 := fun e => by subst e; cases hc
          have h2 : c ≠ 40 := fun e => by subst e; cases hc
          simp [mpri, mdrp, uI, h1, h2] <;> rfl)
      have hB40 : co h34 (mpri 2 (nI 2) (mdrp 2 (I, Q, Z))).1 ≤ B := by
        have z1 := co_fr (I := I) (J := (mpri 2 (nI 2) (mdrp 2 (I, Q, Z))).1) hF38 rfl
        have z2 := hB
        omega
      have hQ41 : ∀ l, l < 16 → ((mpri 2 (nI 2) (mdrp 2 (I, Q, Z))).2.1 l).length ≤ List.length h34 := fun l hl => Nat.le_trans (hQ l hl) hF38.1
      obtain ⟨X43, eX43⟩ : ∃ y, y = ((uX (uX (uX X 207 2 (.int 0)) 211 1 ((X 213 1))) 212 1 ((X 214 1)))) := ⟨_, rfl⟩
      rw [← eX43] at hD39 hS42
      obtain ⟨M44, eM44⟩ : ∃ y : mM, y = (mpri 2 (nI 2) (mdrp 2 (I, Q, Z))) := ⟨_, rfl⟩
      rw [← eM44] at hD39 hS42 hB40 hQ41
      obtain ⟨I44, Q44, Z44⟩ := M44
      change CD w 32 m0 h34 I44 Q44 Z44 X43 ow sb at hD39
      change sm tbc h34 I44 X43 at hS42
      change co h34 I44 ≤ B at hB40
      change ∀ l, l < 16 → (Q44 l).length ≤ List.length h34 at hQ41
      have hW := hD39.1.1
      have hWn : ∀ a, List.length h34 ≤ a → w a = true := fun a ha => (hD39.1.2.1 a ha).1
      have hF45 := fr_refl tbc h34
      have hln : 62 ≤ List.length h34 := sm_len hS42
      rw [← eM44] at hlv
      refine go_s (pc' := 30) rfl rfl rfl rfl ?_
      refine go_instT (pc' := 31) rfl (sm_o hS42 rfl) rfl (by decide) rfl ?_
      refine go_ifP (t' := 39) (pc' := 32) rfl rfl rfl (fun (c : (1 : Int32) = 0) => absurd c (by decide)) (fun _ => ?_)
      refine go_s (pc' := 33) rfl rfl rfl rfl ?_
      refine go_castO (pc' := 34) rfl (sm_o hS42 rfl) rfl (by decide) rfl ?_
      refine go_s (pc' := 35) (lo' := [some (.ref 1), some (.ref 60), some (.int 2), some (.int 1), some (.ref 60)]) rfl rfl rfl rfl ?_
      refine go_s (pc' := 36) rfl rfl rfl rfl ?_
      refine go_s (pc' := 37) rfl rfl rfl rfl ?_
      have hC46 : CA w 32 m0 B h34 (I44, Q44, Z44) := ⟨X43, ow, sb, hS42, hD39, hB40, hQ41⟩
      refine go_callV (pc' := 38) rfl rfl rfl (Nat.le_of_ble_eq_true rfl) rfl (sm_o hS42 rfl) rfl rfl rfl (cm_go_1 hC46 (by omega) hlv (by omega)) (fun r h47 q48 => ?_)
      obtain ⟨rfl, hC49⟩ := q48
      change CA w 32 m0 (B + 20) h47 (mgo 1 (I44, Q44, Z44)) at hC49
      obtain ⟨M50, eM50⟩ : ∃ y : mM, y = (mgo 1 (I44, Q44, Z44)) := ⟨_, rfl⟩
      rw [← eM50] at hC49
      obtain ⟨I50, Q50, Z50⟩ := M50
      obtain ⟨X51, ow51, sb51, hS51, hD51, hB51, hQ51⟩ := hC49
      have hW := hD51.1.1
      have hWn : ∀ a, List.length h47 ≤ a → w a = true := fun a ha => (hD51.1.2.1 a ha).1
      have hF52 := fr_refl tbc h47
      have hln : 62 ≤ List.length h47 := sm_len hS51
      change CD w 32 m0 h47 I50 Q50 Z50 X51 ow51 sb51 at hD51
      change sm tbc h47 I50 X51 at hS51
      change co h47 I50 ≤ (B + 20) at hB51
      change ∀ l, l < 16 → (Q50 l).length ≤ List.length h47 at hQ51
      have hW := hD51.1.1
      have hWn : ∀ a, List.length h47 ≤ a → w a = true := fun a ha => (hD51.1.2.1 a ha).1
      have hF53 := fr_refl tbc h47
      have hln : 62 ≤ List.length h47 := sm_len hS51
      refine go_ret rfl rfl ?_
      have hms : mrpl 2 (I, Q, Z) = (I50, Q50, Z50) := by
        unfold mrpl
        rw [if_pos (show ¬ I 12 2 = -1 ∧ ¬ I 0 (ohn I 2) = 0 from ⟨b12, by rw [hon]; exact c15⟩), if_neg (by decide), show ohn (I, Q, Z).1 2 = 2 from hon, ← eM44, ← eM50]
      have hC54 : CA w 32 m0 (B + 20) h47 (I50, Q50, Z50) := ⟨X51, ow51, sb51, hS51, hD51, hB51, hQ51⟩
      rw [hms]
      exact ⟨rfl, CA_le hC54 (by omega)⟩
