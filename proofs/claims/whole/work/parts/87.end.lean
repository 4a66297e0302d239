theorem cm_end {w : Nat → Bool} {d : Nat} {h : am_Hp} {e : Nat} {m0 : mg} {B : Nat} {I : sm_I} {Q : mQ} {Z : mZ} (hC : CA w e m0 B h (I, Q, Z)) (hB2 : B < 2 ^ 28) (hv : lv I 0 = true) (hal : ∀ t, t < 2 → I 16 (1 + t) = 2 → lv I (1 + t) = true) (hd : 6 ≤ d) : am_Ev (am_prog w) d 44 [.ref 1] h (fun r h' => r = none ∧ CA w e m0 (B + 40) h' (mfin (I, Q, Z))) := by
  obtain ⟨X, ow, sb, hS, hD, hB, hQ⟩ := hC
  change sm tbc h I X at hS
  change CD w e m0 h I Q Z X ow sb at hD
  change co h I ≤ B at hB
  change ∀ l, l < 16 → (Q l).length ≤ h.length at hQ
  have hW := hD.1.1
  have hWn : ∀ a, List.length h ≤ a → w a = true := fun a ha => (hD.1.2.1 a ha).1
  have hF1 := fr_refl tbc h
  have hln : 62 ≤ List.length h := sm_len hS
  obtain ⟨d, rfl⟩ : ∃ e, d = e + 1 := ⟨d - 1, by omega⟩
  refine ev_go rfl (Nat.le_of_ble_eq_true rfl) rfl ?_
  obtain ⟨k208, kst, -⟩ := hD.2.2.2.2.1
  obtain ⟨ad, S, Y, k0, hA, k2, k3, k4, k5, hoa, hZ0, hWa, htc⟩ := St_open hD.1 (kst hv)
  change SQ h ow S Y (Z (rwi I 0)) at k5
  rw [← k0] at k208
  have hsc := k4 (ad 0) _ _ (tbs_at hA (i := 0) (by decide))
  by_cases f3 : (Z (rwi I 0)).1 3 = 1
  · skip
    obtain ⟨q, t, hrq, ht, f4, q0, q1, q2⟩ := k5.2.2.1 f3
    obtain ⟨aq, e200, oq, haq⟩ := id hrq
    have ht2 : t = 0 ∨ t = 1 := by omega
    have hsd : h[ad 0]? = some (.inl (5, [.int (S 0 0), .ref (ad 1), .ref (ad 2), .ref (ad 3), .ref (ad 4), .ref (ad 5), .ref (ad 6), .ref (ad 7), .int (S 0 1), .int (S 0 2), .ref (ad 8), .int (S 0 3), .ref aq, .ref (ad 9)])) := by
      rw [← e200]
      exact hsc
    rcases ht2 with rfl | rfl
    · skip
      refine go_s (pc' := 1) rfl rfl rfl rfl ?_
      refine go_sget (pc' := 2) (v := .ref 32) hS rfl rfl rfl (by decide) rfl rfl ?_
      refine go_sget (pc' := 3) (v := .ref (ad 0)) hS rfl rfl rfl (by decide) k208 rfl ?_
      refine go_get (pc' := 4) rfl hsd rfl (by decide) rfl rfl ?_
      refine go_s (pc' := 5) (lo' := [some (.ref 1), some (.ref aq)]) rfl rfl rfl rfl ?_
      refine go_s (pc' := 6) rfl rfl rfl rfl ?_
      refine go_sget (pc' := 7) (v := .ref 32) hS rfl rfl rfl (by decide) rfl rfl ?_
      refine go_s (pc' := 8) (st' := [.int 0, .ref 32]) rfl rfl rfl rfl ?_
      refine go_sput (pc' := 9) hS rfl rfl rfl (by decide) tbc_inj (Nat.le_of_ble_eq_true rfl) rfl (hW _ rfl) rfl (fun h2 hS3 hE4 => ?_)
      have hF5 := fr_trans hF1 (fr_e hE4)
      have hq6 := (hE4.2.2 _ (htc 0 (by decide))).trans hsd
      refine go_s (pc' := 10) rfl rfl rfl rfl ?_
      refine go_sget (pc' := 11) (v := .ref 32) hS3 rfl rfl rfl (by decide) rfl rfl ?_
      refine go_sget (pc' := 12) (v := .ref (ad 0)) hS3 rfl rfl rfl (by decide) k208 rfl ?_
      refine go_s (pc' := 13) (st' := [.int 0, .ref (ad 0)]) rfl rfl rfl rfl ?_
      have hne : aq ≠ ad 0 := fun e => by
        have z := k2 0 (by omega)
        rw [← e, oq] at z
        omega
      have haq5 := ((hF5.2.2.2 _ (hD.1.2.2 _ (by omega)).2.1 (OW_lt hD.1 (by omega))).trans haq)
      refine go_putF (pc' := 14) rfl hq6 rfl (by decide) (Nat.le_of_ble_eq_true rfl) rfl (hWa 0 (by decide)) rfl (fun hzA hcA hpA => ?_)
      have hSA := sm_pq hS3 hpA (htc 0 (by decide))
      have haqA := (hpA.2.2 aq hne).trans haq5
      refine go_s (pc' := 15) rfl rfl rfl rfl ?_
      refine go_sget (pc' := 16) (v := .ref 32) hSA rfl rfl rfl (by decide) rfl rfl ?_
      refine go_sget (pc' := 17) (v := .ref (ad 0)) hSA rfl rfl rfl (by decide) k208 rfl ?_
      refine go_s (pc' := 18) rfl rfl rfl rfl ?_
      refine go_putF (pc' := 19) rfl hcA rfl (by decide) (Nat.le_of_ble_eq_true rfl) rfl (hWa 0 (by decide)) rfl (fun hzB hcB hpB => ?_)
      have hSB := sm_pq hSA hpB (htc 0 (by decide))
      have haqB := (hpB.2.2 aq hne).trans haqA
      have hpC := pq_trans hpA hpB
      have hk5 := SQ_ex (ex_fr hD.1 hF5) (by omega) k5
      have hD9 : CD w e m0 hzB (uI I 16 0 0) Q (uZ Z (rwi I 0) (mfs (Z (rwi I 0)))) X ow sb := CD_end (CD_t0 (v := 0) (CD_fr hD hF5) (by decide)) k0 hA k2 k3 (St_fr hD.1 hoa k4 hF5) hk5 (k0 ▸ hpC) (k0 ▸ hcB)
      have hB9 : co hzB (uI I 16 0 0) ≤ B := by
        have z1 := co_fr (I := I) (J := uI I 16 0 0) hF5 rfl
        have z2 := hpC.1
        have z3 := hpC.2.1
        unfold co at z1 hB ⊢
        omega
      have hC9 : CA w e m0 B hzB (mfin0 (I, Q, Z)) := ⟨X, ow, sb, hSB, hD9, hB9, fun l hl => by have z1 := hQ l hl; have z2 := hpC.1; have z3 := hF5.1; show (Q l).length ≤ _; omega⟩
      have hB0 := hB
      obtain ⟨X7, ow7, sb7, hS7, hD7, hB7, hQ7⟩ := hC9
      have hW := hD7.1.1
      have hWn : ∀ a, List.length hzB ≤ a → w a = true := fun a ha => (hD7.1.2.1 a ha).1
      have hF8 := fr_refl tbc hzB
      have hln : 62 ≤ List.length hzB := sm_len hS7
      have haq7 : hzB[aq]? = some (.inl (8, [.int 0, .int (q 1), .int (q 2), .int (q 3), .int (q 4), .int (q 5), .int (q 6)])) := haqB.trans (by unfold rqf; rw [q0]; rfl)
      refine go_s (pc' := 20) rfl rfl rfl rfl ?_
      refine go_s (pc' := 21) rfl rfl rfl rfl ?_
      refine go_s (pc' := 22) rfl rfl rfl rfl ?_
      refine go_s (pc' := 23) rfl rfl rfl rfl ?_
      refine go_get (pc' := 24) rfl haq7 rfl (by decide) rfl rfl ?_
      have hD9 : CD w e m0 hzB ((mfin0 (I, Q, Z))).1 ((mfin0 (I, Q, Z))).2.1 ((mfin0 (I, Q, Z))).2.2 X7 ow7 sb7 := CD_I (CD_fr hD7 hF8) ⟨rfl, rfl, rfl, rfl, rfl, rfl, rfl, rfl, rfl, rfl, rfl, rfl, rfl, rfl, rfl⟩
      have hB10 : co hzB ((mfin0 (I, Q, Z))).1 ≤ B + 0 := by
        have := co_fr (I := ((mfin0 (I, Q, Z))).1) (J := ((mfin0 (I, Q, Z))).1) hF8 rfl
        have := hB7
        omega
      have hC11 : CA w e m0 (B + 0) hzB (((mfin0 (I, Q, Z))).1, ((mfin0 (I, Q, Z))).2.1, ((mfin0 (I, Q, Z))).2.2) := ⟨X7, ow7, sb7, hS7, hD9, hB10, fun l hl => Nat.le_trans (hQ7 l hl) hF8.1⟩
      refine go_callV (pc' := 25) rfl rfl rfl (Nat.le_of_ble_eq_true rfl) rfl (sm_o hS7 rfl) rfl rfl rfl (cm_rp_0 hC11 (by omega) hv (by omega)) (fun r h12 q13 => ?_)
      obtain ⟨rfl, hC14⟩ := q13
      change CA w e m0 (B + 0 + 38) h12 (mrp 0 (mfin0 (I, Q, Z))) at hC14
      obtain ⟨X15, ow15, sb15, hS15, hD15, hB15, hQ15⟩ := hC14
      have hW := hD15.1.1
      have hWn : ∀ a, List.length h12 ≤ a → w a = true := fun a ha => (hD15.1.2.1 a ha).1
      have hF16 := fr_refl tbc h12
      have hln : 62 ≤ List.length h12 := sm_len hS15
      refine go_s (pc' := 32) rfl rfl rfl rfl ?_
      refine go_s (pc' := 33) rfl rfl rfl rfl ?_
      refine go_sget (pc' := 34) (v := .ref 32) hS15 rfl rfl rfl (by decide) rfl rfl ?_
      refine go_s (pc' := 35) (st' := [.int 0, .ref 32]) rfl rfl rfl rfl ?_
      refine go_sput (pc' := 36) hS15 rfl rfl rfl (by decide) tbc_inj (Nat.le_of_ble_eq_true rfl) rfl (hW _ rfl) rfl (fun h17 hS18 hE19 => ?_)
      have hF20 := fr_trans hF16 (fr_e hE19)
      refine go_ret rfl rfl ?_
      have hD21 : CD w e m0 h17 (uI ((mrp 0 (mfin0 (I, Q, Z)))).1 23 0 0) ((mrp 0 (mfin0 (I, Q, Z)))).2.1 ((mrp 0 (mfin0 (I, Q, Z)))).2.2 X15 ow15 sb15 := CD_I (CD_fr hD15 hF20) ⟨rfl, rfl, rfl, rfl, rfl, rfl, rfl, rfl, rfl, rfl, rfl, rfl, rfl, rfl, rfl⟩
      have hB22 : co h17 (uI ((mrp 0 (mfin0 (I, Q, Z)))).1 23 0 0) ≤ (B + 0 + 38) + 0 := by
        have := co_fr (I := ((mrp 0 (mfin0 (I, Q, Z)))).1) (J := (uI ((mrp 0 (mfin0 (I, Q, Z)))).1 23 0 0)) hF20 rfl
        have := hB15
        omega
      have hC23 : CA w e m0 ((B + 0 + 38) + 0) h17 ((uI ((mrp 0 (mfin0 (I, Q, Z)))).1 23 0 0), ((mrp 0 (mfin0 (I, Q, Z)))).2.1, ((mrp 0 (mfin0 (I, Q, Z)))).2.2) := ⟨X15, ow15, sb15, hS18, hD21, hB22, fun l hl => Nat.le_trans (hQ15 l hl) hF20.1⟩
      have hms : mfin (I, Q, Z) = ((uI ((mrp 0 (mfin0 (I, Q, Z)))).1 23 0 0), (mrp 0 (mfin0 (I, Q, Z))).2) := by
        unfold mfin mfin1
        rw [if_pos (show row1 (I, Q, Z) 0 3 = 1 from f3), show (row1 (I, Q, Z) 0 4).toNatClampNeg = 0 from (congrArg Int32.toNatClampNeg f4).trans rfl]
      rw [hms]
      exact ⟨rfl, CA_le hC23 (by omega)⟩
    · skip
      refine go_s (pc' := 1) rfl rfl rfl rfl ?_
      refine go_sget (pc' := 2) (v := .ref 32) hS rfl rfl rfl (by decide) rfl rfl ?_
      refine go_sget (pc' := 3) (v := .ref (ad 0)) hS rfl rfl rfl (by decide) k208 rfl ?_
      refine go_get (pc' := 4) rfl hsd rfl (by decide) rfl rfl ?_
      refine go_s (pc' := 5) (lo' := [some (.ref 1), some (.ref aq)]) rfl rfl rfl rfl ?_
      refine go_s (pc' := 6) rfl rfl rfl rfl ?_
      refine go_sget (pc' := 7) (v := .ref 32) hS rfl rfl rfl (by decide) rfl rfl ?_
      refine go_s (pc' := 8) (st' := [.int 0, .ref 32]) rfl rfl rfl rfl ?_
      refine go_sput (pc' := 9) hS rfl rfl rfl (by decide) tbc_inj (Nat.le_of_ble_eq_true rfl) rfl (hW _ rfl) rfl (fun h24 hS25 hE26 => ?_)
      have hF27 := fr_trans hF1 (fr_e hE26)
      have hq28 := (hE26.2.2 _ (htc 0 (by decide))).trans hsd
      refine go_s (pc' := 10) rfl rfl rfl rfl ?_
      refine go_sget (pc' := 11) (v := .ref 32) hS25 rfl rfl rfl (by decide) rfl rfl ?_
      refine go_sget (pc' := 12) (v := .ref (ad 0)) hS25 rfl rfl rfl (by decide) k208 rfl ?_
      refine go_s (pc' := 13) (st' := [.int 0, .ref (ad 0)]) rfl rfl rfl rfl ?_
      have hne : aq ≠ ad 0 := fun e => by
        have z := k2 0 (by omega)
        rw [← e, oq] at z
        omega
      have haq5 := ((hF27.2.2.2 _ (hD.1.2.2 _ (by omega)).2.1 (OW_lt hD.1 (by omega))).trans haq)
      refine go_putF (pc' := 14) rfl hq28 rfl (by decide) (Nat.le_of_ble_eq_true rfl) rfl (hWa 0 (by decide)) rfl (fun hzA hcA hpA => ?_)
      have hSA := sm_pq hS25 hpA (htc 0 (by decide))
      have haqA := (hpA.2.2 aq hne).trans haq5
      refine go_s (pc' := 15) rfl rfl rfl rfl ?_
      refine go_sget (pc' := 16) (v := .ref 32) hSA rfl rfl rfl (by decide) rfl rfl ?_
      refine go_sget (pc' := 17) (v := .ref (ad 0)) hSA rfl rfl rfl (by decide) k208 rfl ?_
      refine go_s (pc' := 18) rfl rfl rfl rfl ?_
      refine go_putF (pc' := 19) rfl hcA rfl (by decide) (Nat.le_of_ble_eq_true rfl) rfl (hWa 0 (by decide)) rfl (fun hzB hcB hpB => ?_)
      have hSB := sm_pq hSA hpB (htc 0 (by decide))
      have haqB := (hpB.2.2 aq hne).trans haqA
      have hpC := pq_trans hpA hpB
      have hk5 := SQ_ex (ex_fr hD.1 hF27) (by omega) k5
      have hD9 : CD w e m0 hzB (uI I 16 0 0) Q (uZ Z (rwi I 0) (mfs (Z (rwi I 0)))) X ow sb := CD_end (CD_t0 (v := 0) (CD_fr hD hF27) (by decide)) k0 hA k2 k3 (St_fr hD.1 hoa k4 hF27) hk5 (k0 ▸ hpC) (k0 ▸ hcB)
      have hB9 : co hzB (uI I 16 0 0) ≤ B := by
        have z1 := co_fr (I := I) (J := uI I 16 0 0) hF27 rfl
        have z2 := hpC.1
        have z3 := hpC.2.1
        unfold co at z1 hB ⊢
        omega
      have hC9 : CA w e m0 B hzB (mfin0 (I, Q, Z)) := ⟨X, ow, sb, hSB, hD9, hB9, fun l hl => by have z1 := hQ l hl; have z2 := hpC.1; have z3 := hF27.1; show (Q l).length ≤ _; omega⟩
      have hB0 := hB
      obtain ⟨X29, ow29, sb29, hS29, hD29, hB29, hQ29⟩ := hC9
      have hW := hD29.1.1
      have hWn : ∀ a, List.length hzB ≤ a → w a = true := fun a ha => (hD29.1.2.1 a ha).1
      have hF30 := fr_refl tbc hzB
      have hln : 62 ≤ List.length hzB := sm_len hS29
      have haq7 : hzB[aq]? = some (.inl (8, [.int 1, .int (q 1), .int (q 2), .int (q 3), .int (q 4), .int (q 5), .int (q 6)])) := haqB.trans (by unfold rqf; rw [q0]; rfl)
      refine go_s (pc' := 20) rfl rfl rfl rfl ?_
      refine go_s (pc' := 21) rfl rfl rfl rfl ?_
      refine go_s (pc' := 22) rfl rfl rfl rfl ?_
      refine go_s (pc' := 23) rfl rfl rfl rfl ?_
      refine go_get (pc' := 24) rfl haq7 rfl (by decide) rfl rfl ?_
      have hD31 : CD w e m0 hzB ((mfin0 (I, Q, Z))).1 ((mfin0 (I, Q, Z))).2.1 ((mfin0 (I, Q, Z))).2.2 X29 ow29 sb29 := CD_I (CD_fr hD29 hF30) ⟨rfl, rfl, rfl, rfl, rfl, rfl, rfl, rfl, rfl, rfl, rfl, rfl, rfl, rfl, rfl⟩
      have hB32 : co hzB ((mfin0 (I, Q, Z))).1 ≤ B + 0 := by
        have := co_fr (I := ((mfin0 (I, Q, Z))).1) (J := ((mfin0 (I, Q, Z))).1) hF30 rfl
        have := hB29
        omega
      have hC33 : CA w e m0 (B + 0) hzB (((mfin0 (I, Q, Z))).1, ((mfin0 (I, Q, Z))).2.1, ((mfin0 (I, Q, Z))).2.2) := ⟨X29, ow29, sb29, hS29, hD31, hB32, fun l hl => Nat.le_trans (hQ29 l hl) hF30.1⟩
      refine go_callV (pc' := 25) rfl rfl rfl (Nat.le_of_ble_eq_true rfl) rfl (sm_o hS29 rfl) rfl rfl rfl (cm_rp_1 hC33 (by omega) hv (by omega)) (fun r h34 q35 => ?_)
      obtain ⟨rfl, hC36⟩ := q35
      change CA w e m0 (B + 0 + 38) h34 (mrp 1 (mfin0 (I, Q, Z))) at hC36
      obtain ⟨X37, ow37, sb37, hS37, hD37, hB37, hQ37⟩ := hC36
      have hW := hD37.1.1
      have hWn : ∀ a, List.length h34 ≤ a → w a = true := fun a ha => (hD37.1.2.1 a ha).1
      have hF38 := fr_refl tbc h34
      have hln : 62 ≤ List.length h34 := sm_len hS37
      refine go_s (pc' := 32) rfl rfl rfl rfl ?_
      refine go_s (pc' := 33) rfl rfl rfl rfl ?_
      refine go_sget (pc' := 34) (v := .ref 32) hS37 rfl rfl rfl (by decide) rfl rfl ?_
      refine go_s (pc' := 35) (st' := [.int 0, .ref 32]) rfl rfl rfl rfl ?_
      refine go_sput (pc' := 36) hS37 rfl rfl rfl (by decide) tbc_inj (Nat.le_of_ble_eq_true rfl) rfl (hW _ rfl) rfl (fun h39 hS40 hE41 => ?_)
      have hF42 := fr_trans hF38 (fr_e hE41)
      refine go_ret rfl rfl ?_
      have hD43 : CD w e m0 h39 (uI ((mrp 1 (mfin0 (I, Q, Z)))).1 23 0 0) ((mrp 1 (mfin0 (I, Q, Z)))).2.1 ((mrp 1 (mfin0 (I, Q, Z)))).2.2 X37 ow37 sb37 := CD_I (CD_fr hD37 hF42) ⟨rfl, rfl, rfl, rfl, rfl, rfl, rfl, rfl, rfl, rfl, rfl, rfl, rfl, rfl, rfl⟩
      have hB44 : co h39 (uI ((mrp 1 (mfin0 (I, Q, Z)))).1 23 0 0) ≤ (B + 0 + 38) + 0 := by
        have := co_fr (I := ((mrp 1 (mfin0 (I, Q, Z)))).1) (J := (uI ((mrp 1 (mfin0 (I, Q, Z)))).1 23 0 0)) hF42 rfl
        have := hB37
        omega
      have hC45 : CA w e m0 ((B + 0 + 38) + 0) h39 ((uI ((mrp 1 (mfin0 (I, Q, Z)))).1 23 0 0), ((mrp 1 (mfin0 (I, Q, Z)))).2.1, ((mrp 1 (mfin0 (I, Q, Z)))).2.2) := ⟨X37, ow37, sb37, hS40, hD43, hB44, fun l hl => Nat.le_trans (hQ37 l hl) hF42.1⟩
      have hms : mfin (I, Q, Z) = ((uI ((mrp 1 (mfin0 (I, Q, Z)))).1 23 0 0), (mrp 1 (mfin0 (I, Q, Z))).2) := by
        unfold mfin mfin1
        rw [if_pos (show row1 (I, Q, Z) 0 3 = 1 from f3), show (row1 (I, Q, Z) 0 4).toNatClampNeg = 1 from (congrArg Int32.toNatClampNeg f4).trans rfl]
      rw [hms]
      exact ⟨rfl, CA_le hC45 (by omega)⟩
  · skip
    have e200 := k5.2.2.2 f3
    have hsd : h[ad 0]? = some (.inl (5, [.int (S 0 0), .ref (ad 1), .ref (ad 2), .ref (ad 3), .ref (ad 4), .ref (ad 5), .ref (ad 6), .ref (ad 7), .int (S 0 1), .int (S 0 2), .ref (ad 8), .int (S 0 3), .null, .ref (ad 9)])) := by
      rw [← e200]
      exact hsc
    refine go_s (pc' := 1) rfl rfl rfl rfl ?_
    refine go_sget (pc' := 2) (v := .ref 32) hS rfl rfl rfl (by decide) rfl rfl ?_
    refine go_sget (pc' := 3) (v := .ref (ad 0)) hS rfl rfl rfl (by decide) k208 rfl ?_
    refine go_get (pc' := 4) rfl hsd rfl (by decide) rfl rfl ?_
    refine go_s (pc' := 5) (lo' := [some (.ref 1), some (.null)]) rfl rfl rfl rfl ?_
    refine go_s (pc' := 6) rfl rfl rfl rfl ?_
    refine go_sget (pc' := 7) (v := .ref 32) hS rfl rfl rfl (by decide) rfl rfl ?_
    refine go_s (pc' := 8) (st' := [.int 0, .ref 32]) rfl rfl rfl rfl ?_
    refine go_sput (pc' := 9) hS rfl rfl rfl (by decide) tbc_inj (Nat.le_of_ble_eq_true rfl) rfl (hW _ rfl) rfl (fun h46 hS47 hE48 => ?_)
    have hF49 := fr_trans hF1 (fr_e hE48)
    have hq50 := (hE48.2.2 _ (htc 0 (by decide))).trans hsd
    refine go_s (pc' := 10) rfl rfl rfl rfl ?_
    refine go_sget (pc' := 11) (v := .ref 32) hS47 rfl rfl rfl (by decide) rfl rfl ?_
    refine go_sget (pc' := 12) (v := .ref (ad 0)) hS47 rfl rfl rfl (by decide) k208 rfl ?_
    refine go_s (pc' := 13) (st' := [.int 0, .ref (ad 0)]) rfl rfl rfl rfl ?_
    refine go_putF (pc' := 14) rfl hq50 rfl (by decide) (Nat.le_of_ble_eq_true rfl) rfl (hWa 0 (by decide)) rfl (fun hzA hcA hpA => ?_)
    have hSA := sm_pq hS47 hpA (htc 0 (by decide))
    refine go_s (pc' := 15) rfl rfl rfl rfl ?_
    refine go_sget (pc' := 16) (v := .ref 32) hSA rfl rfl rfl (by decide) rfl rfl ?_
    refine go_sget (pc' := 17) (v := .ref (ad 0)) hSA rfl rfl rfl (by decide) k208 rfl ?_
    refine go_s (pc' := 18) rfl rfl rfl rfl ?_
    refine go_putF (pc' := 19) rfl hcA rfl (by decide) (Nat.le_of_ble_eq_true rfl) rfl (hWa 0 (by decide)) rfl (fun hzB hcB hpB => ?_)
    have hSB := sm_pq hSA hpB (htc 0 (by decide))
    have hpC := pq_trans hpA hpB
    have hk5 := SQ_ex (ex_fr hD.1 hF49) (by omega) k5
    have hD9 : CD w e m0 hzB (uI I 16 0 0) Q (uZ Z (rwi I 0) (mfs (Z (rwi I 0)))) X ow sb := CD_end (CD_t0 (v := 0) (CD_fr hD hF49) (by decide)) k0 hA k2 k3 (St_fr hD.1 hoa k4 hF49) hk5 (k0 ▸ hpC) (k0 ▸ hcB)
    have hB9 : co hzB (uI I 16 0 0) ≤ B := by
      have z1 := co_fr (I := I) (J := uI I 16 0 0) hF49 rfl
      have z2 := hpC.1
      have z3 := hpC.2.1
      unfold co at z1 hB ⊢
      omega
    have hC9 : CA w e m0 B hzB (mfin0 (I, Q, Z)) := ⟨X, ow, sb, hSB, hD9, hB9, fun l hl => by have z1 := hQ l hl; have z2 := hpC.1; have z3 := hF49.1; show (Q l).length ≤ _; omega⟩
    have hB0 := hB
    obtain ⟨X51, ow51, sb51, hS51, hD51, hB51, hQ51⟩ := hC9
    have hW := hD51.1.1
    have hWn : ∀ a, List.length hzB ≤ a → w a = true := fun a ha => (hD51.1.2.1 a ha).1
    have hF52 := fr_refl tbc hzB
    have hln : 62 ≤ List.length hzB := sm_len hS51
    refine go_s (pc' := 20) rfl rfl rfl rfl ?_
    refine go_s (pc' := 26) rfl rfl rfl rfl ?_
    refine go_s (pc' := 27) rfl rfl rfl rfl ?_
    refine go_sget (pc' := 28) (v := .ref 32) hS51 rfl rfl rfl (by decide) rfl rfl ?_
    refine go_sget (pc' := 29) (v := .int (((mfin0 (I, Q, Z))).1 23 0)) hS51 rfl rfl rfl (by decide) rfl rfl ?_
    refine go_ifP (t' := 32) (pc' := 30) rfl rfl rfl (fun (c53 : (((mfin0 (I, Q, Z))).1 23 0) = 0) => ?_) (fun (c53 : ¬ (((mfin0 (I, Q, Z))).1 23 0) = 0) => ?_)
    · skip
      refine go_s (pc' := 33) rfl rfl rfl rfl ?_
      refine go_sget (pc' := 34) (v := .ref 32) hS51 rfl rfl rfl (by decide) rfl rfl ?_
      refine go_s (pc' := 35) (st' := [.int 0, .ref 32]) rfl rfl rfl rfl ?_
      refine go_sput (pc' := 36) hS51 rfl rfl rfl (by decide) tbc_inj (Nat.le_of_ble_eq_true rfl) rfl (hW _ rfl) rfl (fun h54 hS55 hE56 => ?_)
      have hF57 := fr_trans hF52 (fr_e hE56)
      refine go_ret rfl rfl ?_
      have hD58 : CD w e m0 h54 (uI ((mfin0 (I, Q, Z))).1 23 0 0) ((mfin0 (I, Q, Z))).2.1 ((mfin0 (I, Q, Z))).2.2 X51 ow51 sb51 := CD_I (CD_fr hD51 hF57) ⟨rfl, rfl, rfl, rfl, rfl, rfl, rfl, rfl, rfl, rfl, rfl, rfl, rfl, rfl, rfl⟩
      have hB59 : co h54 (uI ((mfin0 (I, Q, Z))).1 23 0 0) ≤ B + 0 := by
        have := co_fr (I := ((mfin0 (I, Q, Z))).1) (J := (uI ((mfin0 (I, Q, Z))).1 23 0 0)) hF57 rfl
        have := hB51
        omega
      have hC60 : CA w e m0 (B + 0) h54 ((uI ((mfin0 (I, Q, Z))).1 23 0 0), ((mfin0 (I, Q, Z))).2.1, ((mfin0 (I, Q, Z))).2.2) := ⟨X51, ow51, sb51, hS55, hD58, hB59, fun l hl => Nat.le_trans (hQ51 l hl) hF57.1⟩
      have hms : mfin (I, Q, Z) = ((uI ((mfin0 (I, Q, Z))).1 23 0 0), (mfin0 (I, Q, Z)).2) := by
        unfold mfin mfin1
        rw [if_neg (show ¬ row1 (I, Q, Z) 0 3 = 1 from f3), if_pos (show I 23 0 = 0 from c53)]
      rw [hms]
      exact ⟨rfl, CA_le hC60 (by omega)⟩
    · skip
      refine go_s (pc' := 31) rfl rfl rfl rfl ?_
      have hD61 : CD w e m0 hzB ((mfin0 (I, Q, Z))).1 ((mfin0 (I, Q, Z))).2.1 ((mfin0 (I, Q, Z))).2.2 X51 ow51 sb51 := CD_I (CD_fr hD51 hF52) ⟨rfl, rfl, rfl, rfl, rfl, rfl, rfl, rfl, rfl, rfl, rfl, rfl, rfl, rfl, rfl⟩
      have hB62 : co hzB ((mfin0 (I, Q, Z))).1 ≤ B + 0 := by
        have := co_fr (I := ((mfin0 (I, Q, Z))).1) (J := ((mfin0 (I, Q, Z))).1) hF52 rfl
        have := hB51
        omega
      have hC63 : CA w e m0 (B + 0) hzB (((mfin0 (I, Q, Z))).1, ((mfin0 (I, Q, Z))).2.1, ((mfin0 (I, Q, Z))).2.2) := ⟨X51, ow51, sb51, hS51, hD61, hB62, fun l hl => Nat.le_trans (hQ51 l hl) hF52.1⟩
      refine go_callV (pc' := 32) rfl rfl rfl (Nat.le_of_ble_eq_true rfl) rfl (sm_o hS51 rfl) rfl rfl rfl (cm_al hC63 (by omega) (fun t ht c => hal t ht ((show (uI I 16 0 0) 16 (1 + t) = I 16 (1 + t) by simp [uI]).symm.trans c)) (by omega)) (fun r h64 q65 => ?_)
      obtain ⟨rfl, hC66⟩ := q65
      change CA w e m0 (B + 0 + 40) h64 (mal (mfin0 (I, Q, Z))) at hC66
      obtain ⟨X67, ow67, sb67, hS67, hD67, hB67, hQ67⟩ := hC66
      have hW := hD67.1.1
      have hWn : ∀ a, List.length h64 ≤ a → w a = true := fun a ha => (hD67.1.2.1 a ha).1
      have hF68 := fr_refl tbc h64
      have hln : 62 ≤ List.length h64 := sm_len hS67
      refine go_s (pc' := 33) rfl rfl rfl rfl ?_
      refine go_sget (pc' := 34) (v := .ref 32) hS67 rfl rfl rfl (by decide) rfl rfl ?_
      refine go_s (pc' := 35) (st' := [.int 0, .ref 32]) rfl rfl rfl rfl ?_
      refine go_sput (pc' := 36) hS67 rfl rfl rfl (by decide) tbc_inj (Nat.le_of_ble_eq_true rfl) rfl (hW _ rfl) rfl (fun h69 hS70 hE71 => ?_)
      have hF72 := fr_trans hF68 (fr_e hE71)
      refine go_ret rfl rfl ?_
      have hD73 : CD w e m0 h69 (uI ((mal (mfin0 (I, Q, Z)))).1 23 0 0) ((mal (mfin0 (I, Q, Z)))).2.1 ((mal (mfin0 (I, Q, Z)))).2.2 X67 ow67 sb67 := CD_I (CD_fr hD67 hF72) ⟨rfl, rfl, rfl, rfl, rfl, rfl, rfl, rfl, rfl, rfl, rfl, rfl, rfl, rfl, rfl⟩
      have hB74 : co h69 (uI ((mal (mfin0 (I, Q, Z)))).1 23 0 0) ≤ (B + 0 + 40) + 0 := by
        have := co_fr (I := ((mal (mfin0 (I, Q, Z)))).1) (J := (uI ((mal (mfin0 (I, Q, Z)))).1 23 0 0)) hF72 rfl
        have := hB67
        omega
      have hC75 : CA w e m0 ((B + 0 + 40) + 0) h69 ((uI ((mal (mfin0 (I, Q, Z)))).1 23 0 0), ((mal (mfin0 (I, Q, Z)))).2.1, ((mal (mfin0 (I, Q, Z)))).2.2) := ⟨X67, ow67, sb67, hS70, hD73, hB74, fun l hl => Nat.le_trans (hQ67 l hl) hF72.1⟩
      have hms : mfin (I, Q, Z) = ((uI ((mal (mfin0 (I, Q, Z)))).1 23 0 0), (mal (mfin0 (I, Q, Z))).2) := by
        unfold mfin mfin1
        rw [if_neg (show ¬ row1 (I, Q, Z) 0 3 = 1 from f3), if_neg (show ¬ I 23 0 = 0 from c53)]
      rw [hms]
      exact ⟨rfl, CA_le hC75 (by omega)⟩
