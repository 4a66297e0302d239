theorem cm_al {w : Nat → Bool} {d : Nat} {h : am_Hp} {e : Nat} {m0 : mg} {B : Nat} {I : sm_I} {Q : mQ} {Z : mZ} (hC : CA w e m0 B h (I, Q, Z)) (hB2 : B < 2 ^ 28) (hal : ∀ t, t < 2 → I 16 (1 + t) = 2 → lv I (1 + t) = true) (hd : 5 ≤ d) : am_Ev (am_prog w) d 39 [.ref 1] h (fun r h' => r = none ∧ CA w e m0 (B + 40) h' (mal (I, Q, Z))) := by
  obtain ⟨X, ow, sb, hS, hD, hB, hQ⟩ := hC
  change sm tbc h I X at hS
  change CD w e m0 h I Q Z X ow sb at hD
  change co h I ≤ B at hB
  change ∀ l, l < 16 → (Q l).length ≤ h.length at hQ
  have hW := hD.1.1
  have hWn : ∀ a, List.length h ≤ a → w a = true := fun a ha => (hD.1.2.1 a ha).1
  have hF1 := fr_refl tbc h
  have hln : 62 ≤ List.length h := sm_len hS
  obtain ⟨d, rfl⟩ : ∃ e, d = e + 1 := ⟨d - 1, by omega⟩
  refine ev_go rfl (Nat.le_of_ble_eq_true rfl) rfl ?_
  refine go_s (pc' := 1) (st' := [.int 0]) rfl rfl rfl rfl ?_
  refine go_s (pc' := 2) (lo' := [some (.ref 1), some (.int 0)]) rfl rfl rfl rfl ?_
  refine go_s (pc' := 3) rfl rfl rfl rfl ?_
  refine go_s (pc' := 4) (st' := [.int 2, .int 0]) rfl rfl rfl rfl ?_
  refine go_icmpP (t' := 20) (pc' := 5) rfl rfl rfl (fun (c : 2 ≤ (0 : Int32)) => absurd c (by decide)) (fun _ => ?_)
  refine go_s (pc' := 6) rfl rfl rfl rfl ?_
  refine go_sget (pc' := 7) (v := .ref 58) hS rfl rfl rfl (by decide) rfl rfl ?_
  refine go_s (pc' := 8) rfl rfl rfl rfl ?_
  refine go_sald (pc' := 9) (q := 0) (v := .ref 59) hS rfl rfl rfl rfl (by decide) rfl rfl ?_
  refine go_sget (pc' := 10) (v := .int (I 16 1)) hS rfl rfl rfl (by decide) rfl rfl ?_
  refine go_s (pc' := 11) (st' := [.int 2, .int (I 16 1)]) rfl rfl rfl rfl ?_
  refine go_icmpP (t' := 18) (pc' := 12) rfl rfl rfl (fun (c2 : ¬ (I 16 1) = 2) => ?_) (fun (c2' : ¬ ¬ (I 16 1) = 2) => ?_)
  · skip
    refine go_s (pc' := 19) (lo' := [some (.ref 1), some (.int 1)]) rfl rfl rfl rfl ?_
    refine go_s (pc' := 2) rfl rfl rfl rfl ?_
    refine go_s (pc' := 3) rfl rfl rfl rfl ?_
    refine go_s (pc' := 4) (st' := [.int 2, .int 1]) rfl rfl rfl rfl ?_
    refine go_icmpP (t' := 20) (pc' := 5) rfl rfl rfl (fun (c : 2 ≤ (1 : Int32)) => absurd c (by decide)) (fun _ => ?_)
    refine go_s (pc' := 6) rfl rfl rfl rfl ?_
    refine go_sget (pc' := 7) (v := .ref 58) hS rfl rfl rfl (by decide) rfl rfl ?_
    refine go_s (pc' := 8) rfl rfl rfl rfl ?_
    refine go_sald (pc' := 9) (q := 1) (v := .ref 60) hS rfl rfl rfl rfl (by decide) rfl rfl ?_
    refine go_sget (pc' := 10) (v := .int (I 16 2)) hS rfl rfl rfl (by decide) rfl rfl ?_
    refine go_s (pc' := 11) (st' := [.int 2, .int (I 16 2)]) rfl rfl rfl rfl ?_
    refine go_icmpP (t' := 18) (pc' := 12) rfl rfl rfl (fun (c3 : ¬ (I 16 2) = 2) => ?_) (fun (c3' : ¬ ¬ (I 16 2) = 2) => ?_)
    · skip
      refine go_s (pc' := 19) (lo' := [some (.ref 1), some (.int 2)]) rfl rfl rfl rfl ?_
      refine go_s (pc' := 2) rfl rfl rfl rfl ?_
      refine go_s (pc' := 3) rfl rfl rfl rfl ?_
      refine go_s (pc' := 4) (st' := [.int 2, .int 2]) rfl rfl rfl rfl ?_
      refine go_icmpP (t' := 20) (pc' := 5) rfl rfl rfl (fun _ => ?_) (fun (c : ¬ (2 ≤ (2 : Int32))) => absurd (by decide) c)
      refine go_ret rfl rfl ?_
      have hD4 : CD w e m0 h I Q Z X ow sb := CD_I (CD_fr hD hF1) ⟨rfl, rfl, rfl, rfl, rfl, rfl, rfl, rfl, rfl, rfl, rfl, rfl, rfl, rfl, rfl⟩
      have hB5 : co h I ≤ B + 0 := by
        have := co_fr (I := I) (J := I) hF1 rfl
        have := hB
        omega
      have hC6 : CA w e m0 (B + 0) h (I, Q, Z) := ⟨X, ow, sb, hS, hD4, hB5, fun l hl => Nat.le_trans (hQ l hl) hF1.1⟩
      have e1 : mal1 0 (I, Q, Z) = (I, Q, Z) := if_neg c2
      have e2 : mal (I, Q, Z) = (I, Q, Z) := by
        unfold mal
        rw [e1]
        exact if_neg c3
      rw [e2]
      exact ⟨rfl, CA_le hC6 (by omega)⟩
    · skip
      have c3 : (I 16 2) = 2 := Decidable.not_not.mp c3'
      refine go_s (pc' := 13) rfl rfl rfl rfl ?_
      refine go_s (pc' := 14) rfl rfl rfl rfl ?_
      refine go_sget (pc' := 15) (v := .ref 58) hS rfl rfl rfl (by decide) rfl rfl ?_
      refine go_s (pc' := 16) rfl rfl rfl rfl ?_
      refine go_sald (pc' := 17) (q := 1) (v := .ref 60) hS rfl rfl rfl rfl (by decide) rfl rfl ?_
      have hD7 : CD w e m0 h I Q Z X ow sb := CD_I (CD_fr hD hF1) ⟨rfl, rfl, rfl, rfl, rfl, rfl, rfl, rfl, rfl, rfl, rfl, rfl, rfl, rfl, rfl⟩
      have hB8 : co h I ≤ B + 0 := by
        have := co_fr (I := I) (J := I) hF1 rfl
        have := hB
        omega
      have hC9 : CA w e m0 (B + 0) h (I, Q, Z) := ⟨X, ow, sb, hS, hD7, hB8, fun l hl => Nat.le_trans (hQ l hl) hF1.1⟩
      refine go_callV (pc' := 18) rfl rfl rfl (Nat.le_of_ble_eq_true rfl) rfl (sm_o hS rfl) rfl rfl rfl (cm_go_1 hC9 (by omega) (hal 1 (by decide) c3) (by omega)) (fun r h10 q11 => ?_)
      obtain ⟨rfl, hC12⟩ := q11
      change CA w e m0 (B + 0 + 20) h10 (mgo 1 (I, Q, Z)) at hC12
      obtain ⟨X13, ow13, sb13, hS13, hD13, hB13, hQ13⟩ := hC12
      have hW := hD13.1.1
      have hWn : ∀ a, List.length h10 ≤ a → w a = true := fun a ha => (hD13.1.2.1 a ha).1
      have hF14 := fr_refl tbc h10
      have hln : 62 ≤ List.length h10 := sm_len hS13
      refine go_s (pc' := 19) (lo' := [some (.ref 1), some (.int 2)]) rfl rfl rfl rfl ?_
      refine go_s (pc' := 2) rfl rfl rfl rfl ?_
      refine go_s (pc' := 3) rfl rfl rfl rfl ?_
      refine go_s (pc' := 4) (st' := [.int 2, .int 2]) rfl rfl rfl rfl ?_
      refine go_icmpP (t' := 20) (pc' := 5) rfl rfl rfl (fun _ => ?_) (fun (c : ¬ (2 ≤ (2 : Int32))) => absurd (by decide) c)
      refine go_ret rfl rfl ?_
      have hD15 : CD w e m0 h10 ((mgo 1 (I, Q, Z))).1 ((mgo 1 (I, Q, Z))).2.1 ((mgo 1 (I, Q, Z))).2.2 X13 ow13 sb13 := CD_I (CD_fr hD13 hF14) ⟨rfl, rfl, rfl, rfl, rfl, rfl, rfl, rfl, rfl, rfl, rfl, rfl, rfl, rfl, rfl⟩
      have hB16 : co h10 ((mgo 1 (I, Q, Z))).1 ≤ (B + 0 + 20) + 0 := by
        have := co_fr (I := ((mgo 1 (I, Q, Z))).1) (J := ((mgo 1 (I, Q, Z))).1) hF14 rfl
        have := hB13
        omega
      have hC17 : CA w e m0 ((B + 0 + 20) + 0) h10 (((mgo 1 (I, Q, Z))).1, ((mgo 1 (I, Q, Z))).2.1, ((mgo 1 (I, Q, Z))).2.2) := ⟨X13, ow13, sb13, hS13, hD15, hB16, fun l hl => Nat.le_trans (hQ13 l hl) hF14.1⟩
      have e1 : mal1 0 (I, Q, Z) = (I, Q, Z) := if_neg c2
      have e2 : mal (I, Q, Z) = mgo 1 (I, Q, Z) := by
        unfold mal
        rw [e1]
        exact if_pos c3
      rw [e2]
      exact ⟨rfl, CA_le hC17 (by omega)⟩
  · skip
    have c2 : (I 16 1) = 2 := Decidable.not_not.mp c2'
    refine go_s (pc' := 13) rfl rfl rfl rfl ?_
    refine go_s (pc' := 14) rfl rfl rfl rfl ?_
    refine go_sget (pc' := 15) (v := .ref 58) hS rfl rfl rfl (by decide) rfl rfl ?_
    refine go_s (pc' := 16) rfl rfl rfl rfl ?_
    refine go_sald (pc' := 17) (q := 0) (v := .ref 59) hS rfl rfl rfl rfl (by decide) rfl rfl ?_
    have hD18 : CD w e m0 h I Q Z X ow sb := CD_I (CD_fr hD hF1) ⟨rfl, rfl, rfl, rfl, rfl, rfl, rfl, rfl, rfl, rfl, rfl, rfl, rfl, rfl, rfl⟩
    have hB19 : co h I ≤ B + 0 := by
      have := co_fr (I := I) (J := I) hF1 rfl
      have := hB
      omega
    have hC20 : CA w e m0 (B + 0) h (I, Q, Z) := ⟨X, ow, sb, hS, hD18, hB19, fun l hl => Nat.le_trans (hQ l hl) hF1.1⟩
    refine go_callV (pc' := 18) rfl rfl rfl (Nat.le_of_ble_eq_true rfl) rfl (sm_o hS rfl) rfl rfl rfl (cm_go_0 hC20 (by omega) (hal 0 (by decide) c2) (by omega)) (fun r h21 q22 => ?_)
    obtain ⟨rfl, hC23⟩ := q22
    change CA w e m0 (B + 0 + 20) h21 (mgo 0 (I, Q, Z)) at hC23
    obtain ⟨X24, ow24, sb24, hS24, hD24, hB24, hQ24⟩ := hC23
    have hW := hD24.1.1
    have hWn : ∀ a, List.length h21 ≤ a → w a = true := fun a ha => (hD24.1.2.1 a ha).1
    have hF25 := fr_refl tbc h21
    have hln : 62 ≤ List.length h21 := sm_len hS24
    refine go_s (pc' := 19) (lo' := [some (.ref 1), some (.int 1)]) rfl rfl rfl rfl ?_
    refine go_s (pc' := 2) rfl rfl rfl rfl ?_
    refine go_s (pc' := 3) rfl rfl rfl rfl ?_
    refine go_s (pc' := 4) (st' := [.int 2, .int 1]) rfl rfl rfl rfl ?_
    refine go_icmpP (t' := 20) (pc' := 5) rfl rfl rfl (fun (c : 2 ≤ (1 : Int32)) => absurd c (by decide)) (fun _ => ?_)
    refine go_s (pc' := 6) rfl rfl rfl rfl ?_
    refine go_sget (pc' := 7) (v := .ref 58) hS24 rfl rfl rfl (by decide) rfl rfl ?_
    refine go_s (pc' := 8) rfl rfl rfl rfl ?_
    refine go_sald (pc' := 9) (q := 1) (v := .ref 60) hS24 rfl rfl rfl rfl (by decide) rfl rfl ?_
    refine go_sget (pc' := 10) (v := .int (((mgo 0 (I, Q, Z))).1 16 2)) hS24 rfl rfl rfl (by decide) rfl rfl ?_
    refine go_s (pc' := 11) (st' := [.int 2, .int (((mgo 0 (I, Q, Z))).1 16 2)]) rfl rfl rfl rfl ?_
    refine go_icmpP (t' := 18) (pc' := 12) rfl rfl rfl (fun (c26 : ¬ (((mgo 0 (I, Q, Z))).1 16 2) = 2) => ?_) (fun (c26' : ¬ ¬ (((mgo 0 (I, Q, Z))).1 16 2) = 2) => ?_)
    · skip
      refine go_s (pc' := 19) (lo' := [some (.ref 1), some (.int 2)]) rfl rfl rfl rfl ?_
      refine go_s (pc' := 2) rfl rfl rfl rfl ?_
      refine go_s (pc' := 3) rfl rfl rfl rfl ?_
      refine go_s (pc' := 4) (st' := [.int 2, .int 2]) rfl rfl rfl rfl ?_
      refine go_icmpP (t' := 20) (pc' := 5) rfl rfl rfl (fun _ => ?_) (fun (c : ¬ (2 ≤ (2 : Int32))) => absurd (by decide) c)
      refine go_ret rfl rfl ?_
      have hD27 : CD w e m0 h21 ((mgo 0 (I, Q, Z))).1 ((mgo 0 (I, Q, Z))).2.1 ((mgo 0 (I, Q, Z))).2.2 X24 ow24 sb24 := CD_I (CD_fr hD24 hF25) ⟨rfl, rfl, rfl, rfl, rfl, rfl, rfl, rfl, rfl, rfl, rfl, rfl, rfl, rfl, rfl⟩
      have hB28 : co h21 ((mgo 0 (I, Q, Z))).1 ≤ (B + 0 + 20) + 0 := by
        have := co_fr (I := ((mgo 0 (I, Q, Z))).1) (J := ((mgo 0 (I, Q, Z))).1) hF25 rfl
        have := hB24
        omega
      have hC29 : CA w e m0 ((B + 0 + 20) + 0) h21 (((mgo 0 (I, Q, Z))).1, ((mgo 0 (I, Q, Z))).2.1, ((mgo 0 (I, Q, Z))).2.2) := ⟨X24, ow24, sb24, hS24, hD27, hB28, fun l hl => Nat.le_trans (hQ24 l hl) hF25.1⟩
      have e1 : mal1 0 (I, Q, Z) = (mgo 0 (I, Q, Z)) := if_pos c2
      have e2 : mal (I, Q, Z) = (mgo 0 (I, Q, Z)) := by
        unfold mal
        rw [e1]
        exact if_neg c26
      rw [e2]
      exact ⟨rfl, CA_le hC29 (by omega)⟩
    · skip
      have c26 : (((mgo 0 (I, Q, Z))).1 16 2) = 2 := Decidable.not_not.mp c26'
      refine go_s (pc' := 13) rfl rfl rfl rfl ?_
      refine go_s (pc' := 14) rfl rfl rfl rfl ?_
      refine go_sget (pc' := 15) (v := .ref 58) hS24 rfl rfl rfl (by decide) rfl rfl ?_
      refine go_s (pc' := 16) rfl rfl rfl rfl ?_
      refine go_sald (pc' := 17) (q := 1) (v := .ref 60) hS24 rfl rfl rfl rfl (by decide) rfl rfl ?_
      have hD30 : CD w e m0 h21 ((mgo 0 (I, Q, Z))).1 ((mgo 0 (I, Q, Z))).2.1 ((mgo 0 (I, Q, Z))).2.2 X24 ow24 sb24 := CD_I (CD_fr hD24 hF25) ⟨rfl, rfl, rfl, rfl, rfl, rfl, rfl, rfl, rfl, rfl, rfl, rfl, rfl, rfl, rfl⟩
      have hB31 : co h21 ((mgo 0 (I, Q, Z))).1 ≤ (B + 0 + 20) + 0 := by
        have := co_fr (I := ((mgo 0 (I, Q, Z))).1) (J := ((mgo 0 (I, Q, Z))).1) hF25 rfl
        have := hB24
        omega
      have hC32 : CA w e m0 ((B + 0 + 20) + 0) h21 (((mgo 0 (I, Q, Z))).1, ((mgo 0 (I, Q, Z))).2.1, ((mgo 0 (I, Q, Z))).2.2) := ⟨X24, ow24, sb24, hS24, hD30, hB31, fun l hl => Nat.le_trans (hQ24 l hl) hF25.1⟩
      refine go_callV (pc' := 18) rfl rfl rfl (Nat.le_of_ble_eq_true rfl) rfl (sm_o hS24 rfl) rfl rfl rfl (cm_go_1 hC32 (by omega) (by rw [lv_c (I := I) (mgo_I (by omega) (by omega) (by omega) (by omega) (by omega) (by omega)) (mgo_I (by omega) (by omega) (by omega) (by omega) (by omega) (by omega))]; exact hal 1 (by decide) (by have z := mgo_16 (t := 0) (j := 2) (M := (I, Q, Z)) (by omega); exact z.symm.trans c26)) (by omega)) (fun r h33 q34 => ?_)
      obtain ⟨rfl, hC35⟩ := q34
      change CA w e m0 ((B + 0 + 20) + 0 + 20) h33 (mgo 1 (mgo 0 (I, Q, Z))) at hC35
      obtain ⟨X36, ow36, sb36, hS36, hD36, hB36, hQ36⟩ := hC35
      have hW := hD36.1.1
      have hWn : ∀ a, List.length h33 ≤ a → w a = true := fun a ha => (hD36.1.2.1 a ha).1
      have hF37 := fr_refl tbc h33
      have hln : 62 ≤ List.length h33 := sm_len hS36
      refine go_s (pc' := 19) (lo' := [some (.ref 1), some (.int 2)]) rfl rfl rfl rfl ?_
      refine go_s (pc' := 2) rfl rfl rfl rfl ?_
      refine go_s (pc' := 3) rfl rfl rfl rfl ?_
      refine go_s (pc' := 4) (st' := [.int 2, .int 2]) rfl rfl rfl rfl ?_
      refine go_icmpP (t' := 20) (pc' := 5) rfl rfl rfl (fun _ => ?_) (fun (c : ¬ (2 ≤ (2 : Int32))) => absurd (by decide) c)
      refine go_ret rfl rfl ?_
      have hD38 : CD w e m0 h33 ((mgo 1 (mgo 0 (I, Q, Z)))).1 ((mgo 1 (mgo 0 (I, Q, Z)))).2.1 ((mgo 1 (mgo 0 (I, Q, Z)))).2.2 X36 ow36 sb36 := CD_I (CD_fr hD36 hF37) ⟨rfl, rfl, rfl, rfl, rfl, rfl, rfl, rfl, rfl, rfl, rfl, rfl, rfl, rfl, rfl⟩
      have hB39 : co h33 ((mgo 1 (mgo 0 (I, Q, Z)))).1 ≤ ((B + 0 + 20) + 0 + 20) + 0 := by
        have := co_fr (I := ((mgo 1 (mgo 0 (I, Q, Z)))).1) (J := ((mgo 1 (mgo 0 (I, Q, Z)))).1) hF37 rfl
        have := hB36
        omega
      have hC40 : CA w e m0 (((B + 0 + 20) + 0 + 20) + 0) h33 (((mgo 1 (mgo 0 (I, Q, Z)))).1, ((mgo 1 (mgo 0 (I, Q, Z)))).2.1, ((mgo 1 (mgo 0 (I, Q, Z)))).2.2) := ⟨X36, ow36, sb36, hS36, hD38, hB39, fun l hl => Nat.le_trans (hQ36 l hl) hF37.1⟩
      have e1 : mal1 0 (I, Q, Z) = (mgo 0 (I, Q, Z)) := if_pos c2
      have e2 : mal (I, Q, Z) = mgo 1 (mgo 0 (I, Q, Z)) := by
        unfold mal
        rw [e1]
        exact if_pos c26
      rw [e2]
      exact ⟨rfl, CA_le hC40 (by omega)⟩
theorem row1_sc {S : sm_I} {m : ms} (h : sc S m) (t : Nat) (ht : t < 2) : S 1 t = m.1 (6 + t) ∧ S 2 t = m.1 (8 + t) ∧ S 3 t = m.1 (10 + t) ∧ S 4 t = m.1 (12 + t) ∧ S 0 0 = m.1 0 := ⟨(h.2.2.2.2.1 t ht).1, (h.2.2.2.2.1 t ht).2.1, (h.2.2.2.2.1 t ht).2.2.1, (h.2.2.2.2.1 t ht).2.2.2.1, h.1⟩
theorem cm_rp_0 {w : Nat → Bool} {d : Nat} {h : am_Hp} {e : Nat} {m0 : mg} {B : Nat} {I : sm_I} {Q : mQ} {Z : mZ} (hC : CA w e m0 B h (I, Q, Z)) (hB2 : B < 2 ^ 29) (hv : lv I 0 = true) (hd : 4 ≤ d) : am_Ev (am_prog w) d 45 [.ref 1, .int 0] h (fun r h' => r = none ∧ CA w e m0 (B + 38) h' (mrp 0 (I, Q, Z))) := by
  obtain ⟨X, ow, sb, hS, hD, hB, hQ⟩ := hC
  change sm tbc h I X at hS
  change CD w e m0 h I Q Z X ow sb at hD
  change co h I ≤ B at hB
  change ∀ l, l < 16 → (Q l).length ≤ h.length at hQ
  have hW := hD.1.1
  have hWn : ∀ a, List.length h ≤ a → w a = true := fun a ha => (hD.1.2.1 a ha).1
  have hF1 := fr_refl tbc h
  have hln : 62 ≤ List.length h := sm_len hS
  obtain ⟨d, rfl⟩ : ∃ e, d = e + 1 := ⟨d - 1, by omega⟩
  refine ev_go rfl (Nat.le_of_ble_eq_true rfl) rfl ?_
  obtain ⟨k208, kst, -⟩ := hD.2.2.2.2.1
  obtain ⟨ad, S, Y, k0, hA, k2, k3, k4, k5, hoa, hZ0, hWa, htc⟩ := St_open hD.1 (kst hv)
  change SQ h ow S Y (Z (rwi I 0)) at k5
  rw [← k0] at k208
  have hD0 := hD
  rcases hD0.2.2.2.2.2.2 0 (by decide) with e0 | e0 | e0
  · exact absurd hv (by simp [lv, e0])
  · skip
    change I 11 0 = 0 at e0
    rcases hD0.2.2.2.2.2.2 1 (by decide) with e11 | e11 | e11
    · skip
      change I 11 1 = -1 at e11
      refine go_s (pc' := 1) rfl rfl rfl rfl ?_
      refine go_s (pc' := 2) rfl rfl rfl rfl ?_
      refine go_callV (pc' := 3) rfl rfl rfl (Nat.le_of_ble_eq_true rfl) rfl (sm_o hS rfl) rfl rfl rfl (ct_termAt_0 hS (by omega)) (fun r h2 q3 => ?_)
      obtain ⟨rfl, rfl⟩ := q3
      refine go_s (pc' := 4) (lo' := [some (.ref 1), some (.int 0), some (.ref 59), none]) rfl rfl rfl rfl ?_
      refine go_s (pc' := 5) rfl rfl rfl rfl ?_
      refine go_s (pc' := 6) rfl rfl rfl rfl ?_
      refine go_s (pc' := 7) rfl rfl rfl rfl ?_
      refine go_sget (pc' := 8) (v := .int (-1)) hS rfl rfl rfl (by decide) (congrArg Value.int e11) rfl ?_
      refine go_s (pc' := 9) (st' := [.int (-1), .int (-1)]) rfl rfl rfl rfl ?_
      refine go_icmpP (t' := 11) (pc' := 10) rfl rfl rfl (fun (c : ¬ ((-1) : Int32) = (-1)) => absurd c (by decide)) (fun _ => ?_)
      refine go_ret rfl rfl ?_
      have hD4 : CD w e m0 h2 I Q Z X ow sb := CD_I (CD_fr hD hF1) ⟨rfl, rfl, rfl, rfl, rfl, rfl, rfl, rfl, rfl, rfl, rfl, rfl, rfl, rfl, rfl⟩
      have hB5 : co h2 I ≤ B + 0 := by
        have := co_fr (I := I) (J := I) hF1 rfl
        have := hB
        omega
      have hC6 : CA w e m0 (B + 0) h2 (I, Q, Z) := ⟨X, ow, sb, hS, hD4, hB5, fun l hl => Nat.le_trans (hQ l hl) hF1.1⟩
      have hms : mrp 0 (I, Q, Z) = (I, Q, Z) := by
        unfold mrp
        rw [if_pos (show I 11 (1 + 0) = -1 from e11)]
      rw [hms]
      exact ⟨rfl, CA_le hC6 (by omega)⟩
    · skip
      change I 11 1 = 2 at e11
      refine go_s (pc' := 1) rfl rfl rfl rfl ?_
      refine go_s (pc' := 2) rfl rfl rfl rfl ?_
      refine go_callV (pc' := 3) rfl rfl rfl (Nat.le_of_ble_eq_true rfl) rfl (sm_o hS rfl) rfl rfl rfl (ct_termAt_0 hS (by omega)) (fun r h7 q8 => ?_)
      obtain ⟨rfl, rfl⟩ := q8
      refine go_s (pc' := 4) (lo' := [some (.ref 1), some (.int 0), some (.ref 59), none]) rfl rfl rfl rfl ?_
      refine go_s (pc' := 5) rfl rfl rfl rfl ?_
      refine go_s (pc' := 6) rfl rfl rfl rfl ?_
      refine go_s (pc' := 7) rfl rfl rfl rfl ?_
      refine go_sget (pc' := 8) (v := .int 2) hS rfl rfl rfl (by decide) (congrArg Value.int e11) rfl ?_
      refine go_s (pc' := 9) (st' := [.int (-1), .int 2]) rfl rfl rfl rfl ?_
      refine go_icmpP (t' := 11) (pc' := 10) rfl rfl rfl (fun _ => ?_) (fun (c : ¬ (¬ (2 : Int32) = (-1))) => absurd (by decide) c)
      refine go_newF (pc' := 12) (n := 8) rfl rfl rfl rfl (fun L9 h10 hL11 hc12 hg13 => ?_)
      have ge_L9 : _ ≤ L9 := hL11 ▸ hF1.1
      have nb_L9 := tbc_out L9 (by have := sm_len hS; omega)
      have hS14 := sm_gq hS hg13
      have hF15 := fr_gq hF1 hg13
      refine go_s (pc' := 13) rfl rfl rfl rfl ?_
      refine go_s (pc' := 14) (st' := [.int 2, .ref L9, .ref L9]) rfl rfl rfl rfl ?_
      refine go_callI (pc' := 15) rfl rfl rfl (Nat.le_of_ble_eq_true rfl) rfl hc12 rfl rfl rfl (ci_msg hc12 (hWn _ (by omega)) (by omega)) (fun r h16 q17 => ?_)
      obtain ⟨rfl, hc18, hp19⟩ := q17
      have hS20 := sm_pq hS14 hp19 nb_L9
      have hF21 := fr_pq hF15 hp19 (by omega)
      refine go_s (pc' := 16) (lo' := [some (.ref 1), some (.int 0), some (.ref 59), some (.ref L9)]) rfl rfl rfl rfl ?_
      refine go_s (pc' := 17) rfl rfl rfl rfl ?_
      refine go_s (pc' := 18) rfl rfl rfl rfl ?_
      refine go_sget (pc' := 19) (v := .ref 32) hS20 rfl rfl rfl (by decide) rfl rfl ?_
      refine go_sget (pc' := 20) (v := .ref (ad 0)) hS20 rfl rfl rfl (by decide) k208 rfl ?_
      refine go_s (pc' := 21) rfl rfl rfl rfl ?_
      have hSs2 := St_fr hD.1 hoa k4 hF21
      refine go_callV (pc' := 22) rfl rfl rfl (Nat.le_of_ble_eq_true rfl) rfl (sm_o (St_fr hD.1 hoa k4 hF21) (tbs_at hA (i := 0) (by decide))) rfl rfl rfl (cs_ans_0 hA hSs2 (fun a ha => hWn a (Nat.le_trans hF21.1 ha)) (by omega)) (fun r h22 q23 => ?_)
      obtain ⟨LA, rfl, hLA, hcA, hSs3, hfr3⟩ := q23
      have hLA2 : LA = List.length h16 := hLA
      have hg3 := gle_ss hSs2 hSs3 hfr3
      have hS3 := sm_gl hS20 hg3
      have hF3 := fr_gl hF21 hg3
      have hq_L9 := (hg3.2.2.2 _ (lt_of hc18)).trans hc18
      have lt_L9_A : L9 < LA := by have := lt_of hc18; omega
      have ge_LA : List.length h7 ≤ LA := by have := hF21.1; omega
      have nb_LA := tbc_out LA (by omega)
      refine go_putF (pc' := 23) rfl hq_L9 rfl (by decide) (Nat.le_of_ble_eq_true rfl) rfl (hWn _ (by omega)) rfl (fun h24 hc25 hp26 => ?_)
      have hq27 := (hp26.2.2 _ (by omega)).trans hcA
      have hS28 := sm_pq hS3 hp26 nb_L9
      have hF29 := fr_pq hF3 hp26 (by omega)
      refine go_s (pc' := 24) rfl rfl rfl rfl ?_
      refine go_sget (pc' := 25) (v := .ref 2) hS28 rfl rfl rfl (by decide) rfl rfl ?_
      refine go_s (pc' := 26) rfl rfl rfl rfl ?_
      refine go_sget (pc' := 27) (v := .ref 32) hS28 rfl rfl rfl (by decide) rfl rfl ?_
      refine go_sget (pc' := 28) (v := .int 0) hS28 rfl rfl rfl (by decide) (congrArg Value.int e0) rfl ?_
      refine go_s (pc' := 29) rfl rfl rfl rfl ?_
      refine go_sget (pc' := 30) (v := .int 2) hS28 rfl rfl rfl (by decide) (congrArg Value.int e11) rfl ?_
      refine go_s (pc' := 31) rfl rfl rfl rfl ?_
      have hms : mrp 0 (I, Q, Z) = msnd 0 2 (mgA 0 (row1 (I, Q, Z) 0)) (I, Q, Z) := by
        unfold mrp
        rw [if_neg (show ¬ I 11 (1 + 0) = -1 by rw [e11]; decide), show pn (I, Q, Z).1 0 = 0 by simp [pn, e0], show pn (I, Q, Z).1 (1 + 0) = 2 by simp [pn, e11]]
      have hD9 : CD w e m0 h24 I Q Z X (owx ow LA 1) sb := CD_nw hD hF29 ge_LA (lt_of hq27) hln
      have hox : owx ow LA 1 L9 = 0 := by
        unfold owx
        rw [if_neg (by omega)]
        exact (hD.1.2.1 _ (by omega)).2
      obtain ⟨⟨Wl, w1, -⟩, -⟩ := k5
      obtain ⟨z1, z2, z3, z4, z5⟩ := row1_sc w1 0 (by decide)
      have hmf : An h24 (owx ow LA 1) (.ref LA) (fun i => (mgA 0 (row1 (I, Q, Z) 0)).1 (5 + i)) := by
        refine ⟨LA, rfl, by simp [owx], ?_⟩
        rw [hq27, z1, z2, z3, z4, z5]
        rfl
      have hB9 : co h24 I ≤ B + 38 := by
        have := co_fr (I := I) (J := I) hF29 rfl
        omega
      refine go_callV (pc' := 32) rfl rfl rfl (Nat.le_of_ble_eq_true rfl) rfl (sm_o hS28 rfl) rfl rfl rfl (ct_send hS28 hD9 hB9 (fun l hl => by have := hQ l hl; have := lt_of hc25; omega) (by omega) (f := 0) (t := 2) (by decide) (by decide) (by decide) (m := (mgA 0 (row1 (I, Q, Z) 0))) hc25 hox (hWn _ (by omega)) nb_L9 (by omega) (MF_A hmf) (by omega)) (fun r h30 q31 => ?_)
      rw [← hms] at q31
      obtain ⟨rfl, hC9⟩ := q31
      refine go_ret rfl rfl ?_
      exact ⟨rfl, hC9⟩
    · skip
      change I 11 1 = 3 at e11
      refine go_s (pc' := 1) rfl rfl rfl rfl ?_
      refine go_s (pc' := 2) rfl rfl rfl rfl ?_
      refine go_callV (pc' := 3) rfl rfl rfl (Nat.le_of_ble_eq_true rfl) rfl (sm_o hS rfl) rfl rfl rfl (ct_termAt_0 hS (by omega)) (fun r h32 q33 => ?_)
      obtain ⟨rfl, rfl⟩ := q33
      refine go_s (pc' := 4) (lo' := [some (.ref 1), some (.int 0), some (.ref 59), none]) rfl rfl rfl rfl ?_
      refine go_s (pc' := 5) rfl rfl rfl rfl ?_
      refine go_s (pc' := 6) rfl rfl rfl rfl ?_
      refine go_s (pc' := 7) rfl rfl rfl rfl ?_
      refine go_sget (pc' := 8) (v := .int 3) hS rfl rfl rfl (by decide) (congrArg Value.int e11) rfl ?_
      refine go_s (pc' := 9) (st' := [.int (-1), .int 3]) rfl rfl rfl rfl ?_
      refine go_icmpP (t' := 11) (pc' := 10) rfl rfl rfl (fun _ => ?_) (fun (c : ¬ (¬ (3 : Int32) = (-1))) => absurd (by decide) c)
      refine go_newF (pc' := 12) (n := 8) rfl rfl rfl rfl (fun L34 h35 hL36 hc37 hg38 => ?_)
      have ge_L34 : _ ≤ L34 := hL36 ▸ hF1.1
      have nb_L34 := tbc_out L34 (by have := sm_len hS; omega)
      have hS39 := sm_gq hS hg38
      have hF40 := fr_gq hF1 hg38
      refine go_s (pc' := 13) rfl rfl rfl rfl ?_
      refine go_s (pc' := 14) (st' := [.int 2, .ref L34, .ref L34]) rfl rfl rfl rfl ?_
      refine go_callI (pc' := 15) rfl rfl rfl (Nat.le_of_ble_eq_true rfl) rfl hc37 rfl rfl rfl (ci_msg hc37 (hWn _ (by omega)) (by omega)) (fun r h41 q42 => ?_)
      obtain ⟨rfl, hc43, hp44⟩ := q42
      have hS45 := sm_pq hS39 hp44 nb_L34
      have hF46 := fr_pq hF40 hp44 (by omega)
      refine go_s (pc' := 16) (lo' := [some (.ref 1), some (.int 0), some (.ref 59), some (.ref L34)]) rfl rfl rfl rfl ?_
      refine go_s (pc' := 17) rfl rfl rfl rfl ?_
      refine go_s (pc' := 18) rfl rfl rfl rfl ?_
      refine go_sget (pc' := 19) (v := .ref 32) hS45 rfl rfl rfl (by decide) rfl rfl ?_
      refine go_sget (pc' := 20) (v := .ref (ad 0)) hS45 rfl rfl rfl (by decide) k208 rfl ?_
      refine go_s (pc' := 21) rfl rfl rfl rfl ?_
      have hSs2 := St_fr hD.1 hoa k4 hF46
      refine go_callV (pc' := 22) rfl rfl rfl (Nat.le_of_ble_eq_true rfl) rfl (sm_o (St_fr hD.1 hoa k4 hF46) (tbs_at hA (i := 0) (by decide))) rfl rfl rfl (cs_ans_0 hA hSs2 (fun a ha => hWn a (Nat.le_trans hF46.1 ha)) (by omega)) (fun r h47 q48 => ?_)
      obtain ⟨LA, rfl, hLA, hcA, hSs3, hfr3⟩ := q48
      have hLA2 : LA = List.length h41 := hLA
      have hg3 := gle_ss hSs2 hSs3 hfr3
      have hS3 := sm_gl hS45 hg3
      have hF3 := fr_gl hF46 hg3
      have hq_L34 := (hg3.2.2.2 _ (lt_of hc43)).trans hc43
      have lt_L34_A : L34 < LA := by have := lt_of hc43; omega
      have ge_LA : List.length h32 ≤ LA := by have := hF46.1; omega
      have nb_LA := tbc_out LA (by omega)
      refine go_putF (pc' := 23) rfl hq_L34 rfl (by decide) (Nat.le_of_ble_eq_true rfl) rfl (hWn _ (by omega)) rfl (fun h49 hc50 hp51 => ?_)
      have hq52 := (hp51.2.2 _ (by omega)).trans hcA
      have hS53 := sm_pq hS3 hp51 nb_L34
      have hF54 := fr_pq hF3 hp51 (by omega)
      refine go_s (pc' := 24) rfl rfl rfl rfl ?_
      refine go_sget (pc' := 25) (v := .ref 2) hS53 rfl rfl rfl (by decide) rfl rfl ?_
      refine go_s (pc' := 26) rfl rfl rfl rfl ?_
      refine go_sget (pc' := 27) (v := .ref 32) hS53 rfl rfl rfl (by decide) rfl rfl ?_
      refine go_sget (pc' := 28) (v := .int 0) hS53 rfl rfl rfl (by decide) (congrArg Value.int e0) rfl ?_
      refine go_s (pc' := 29) rfl rfl rfl rfl ?_
      refine go_sget (pc' := 30) (v := .int 3) hS53 rfl rfl rfl (by decide) (congrArg Value.int e11) rfl ?_
      refine go_s (pc' := 31) rfl rfl rfl rfl ?_
      have hms : mrp 0 (I, Q, Z) = msnd 0 3 (mgA 0 (row1 (I, Q, Z) 0)) (I, Q, Z) := by
        unfold mrp
        rw [if_neg (show ¬ I 11 (1 + 0) = -1 by rw [e11]; decide), show pn (I, Q, Z).1 0 = 0 by simp [pn, e0], show pn (I, Q, Z).1 (1 + 0) = 3 by simp [pn, e11]]
      have hD9 : CD w e m0 h49 I Q Z X (owx ow LA 1) sb := CD_nw hD hF54 ge_LA (lt_of hq52) hln
      have hox : owx ow LA 1 L34 = 0 := by
        unfold owx
        rw [if_neg (by omega)]
        exact (hD.1.2.1 _ (by omega)).2
      obtain ⟨⟨Wl, w1, -⟩, -⟩ := k5
      obtain ⟨z1, z2, z3, z4, z5⟩ := row1_sc w1 0 (by decide)
      have hmf : An h49 (owx ow LA 1) (.ref LA) (fun i => (mgA 0 (row1 (I, Q, Z) 0)).1 (5 + i)) := by
        refine ⟨LA, rfl, by simp [owx], ?_⟩
        rw [hq52, z1, z2, z3, z4, z5]
        rfl
      have hB9 : co h49 I ≤ B + 38 := by
        have := co_fr (I := I) (J := I) hF54 rfl
        omega
      refine go_callV (pc' := 32) rfl rfl rfl (Nat.le_of_ble_eq_true rfl) rfl (sm_o hS53 rfl) rfl rfl rfl (ct_send hS53 hD9 hB9 (fun l hl => by have := hQ l hl; have := lt_of hc50; omega) (by omega) (f := 0) (t := 3) (by decide) (by decide) (by decide) (m := (mgA 0 (row1 (I, Q, Z) 0))) hc50 hox (hWn _ (by omega)) nb_L34 (by omega) (MF_A hmf) (by omega)) (fun r h55 q56 => ?_)
      rw [← hms] at q56
      obtain ⟨rfl, hC9⟩ := q56
      refine go_ret rfl rfl ?_
      exact ⟨rfl, hC9⟩
  · skip
    change I 11 0 = 1 at e0
    rcases hD0.2.2.2.2.2.2 1 (by decide) with e11 | e11 | e11
    · skip
      change I 11 1 = -1 at e11
      refine go_s (pc' := 1) rfl rfl rfl rfl ?_
      refine go_s (pc' := 2) rfl rfl rfl rfl ?_
      refine go_callV (pc' := 3) rfl rfl rfl (Nat.le_of_ble_eq_true rfl) rfl (sm_o hS rfl) rfl rfl rfl (ct_termAt_0 hS (by omega)) (fun r h57 q58 => ?_)
      obtain ⟨rfl, rfl⟩ := q58
      refine go_s (pc' := 4) (lo' := [some (.ref 1), some (.int 0), some (.ref 59), none]) rfl rfl rfl rfl ?_
      refine go_s (pc' := 5) rfl rfl rfl rfl ?_
      refine go_s (pc' := 6) rfl rfl rfl rfl ?_
      refine go_s (pc' := 7) rfl rfl rfl rfl ?_
      refine go_sget (pc' := 8) (v := .int (-1)) hS rfl rfl rfl (by decide) (congrArg Value.int e11) rfl ?_
      refine go_s (pc' := 9) (st' := [.int (-1), .int (-1)]) rfl rfl rfl rfl ?_
      refine go_icmpP (t' := 11) (pc' := 10) rfl rfl rfl (fun (c : ¬ ((-1) : Int32) = (-1)) => absurd c (by decide)) (fun _ => ?_)
      refine go_ret rfl rfl ?_
      have hD59 : CD w e m0 h57 I Q Z X ow sb := CD_I (CD_fr hD hF1) ⟨rfl, rfl, rfl, rfl, rfl, rfl, rfl, rfl, rfl, rfl, rfl, rfl, rfl, rfl, rfl⟩
      have hB60 : co h57 I ≤ B + 0 := by
        have := co_fr (I := I) (J := I) hF1 rfl
        have := hB
        omega
      have hC61 : CA w e m0 (B + 0) h57 (I, Q, Z) := ⟨X, ow, sb, hS, hD59, hB60, fun l hl => Nat.le_trans (hQ l hl) hF1.1⟩
      have hms : mrp 0 (I, Q, Z) = (I, Q, Z) := by
        unfold mrp
        rw [if_pos (show I 11 (1 + 0) = -1 from e11)]
      rw [hms]
      exact ⟨rfl, CA_le hC61 (by omega)⟩
    · skip
      change I 11 1 = 2 at e11
      refine go_s (pc' := 1) rfl rfl rfl rfl ?_
      refine go_s (pc' := 2) rfl rfl rfl rfl ?_
      refine go_callV (pc' := 3) rfl rfl rfl (Nat.le_of_ble_eq_true rfl) rfl (sm_o hS rfl) rfl rfl rfl (ct_termAt_0 hS (by omega)) (fun r h62 q63 => ?_)
      obtain ⟨rfl, rfl⟩ := q63
      refine go_s (pc' := 4) (lo' := [some (.ref 1), some (.int 0), some (.ref 59), none]) rfl rfl rfl rfl ?_
      refine go_s (pc' := 5) rfl rfl rfl rfl ?_
      refine go_s (pc' := 6) rfl rfl rfl rfl ?_
      refine go_s (pc' := 7) rfl rfl rfl rfl ?_
      refine go_sget (pc' := 8) (v := .int 2) hS rfl rfl rfl (by decide) (congrArg Value.int e11) rfl ?_
      refine go_s (pc' := 9) (st' := [.int (-1), .int 2]) rfl rfl rfl rfl ?_
      refine go_icmpP (t' := 11) (pc' := 10) rfl rfl rfl (fun _ => ?_) (fun (c : ¬ (¬ (2 : Int32) = (-1))) => absurd (by decide) c)
      refine go_newF (pc' := 12) (n := 8) rfl rfl rfl rfl (fun L64 h65 hL66 hc67 hg68 => ?_)
      have ge_L64 : _ ≤ L64 := hL66 ▸ hF1.1
      have nb_L64 := tbc_out L64 (by have := sm_len hS; omega)
      have hS69 := sm_gq hS hg68
      have hF70 := fr_gq hF1 hg68
      refine go_s (pc' := 13) rfl rfl rfl rfl ?_
      refine go_s (pc' := 14) (st' := [.int 2, .ref L64, .ref L64]) rfl rfl rfl rfl ?_
      refine go_callI (pc' := 15) rfl rfl rfl (Nat.le_of_ble_eq_true rfl) rfl hc67 rfl rfl rfl (ci_msg hc67 (hWn _ (by omega)) (by omega)) (fun r h71 q72 => ?_)
      obtain ⟨rfl, hc73, hp74⟩ := q72
      have hS75 := sm_pq hS69 hp74 nb_L64
      have hF76 := fr_pq hF70 hp74 (by omega)
      refine go_s (pc' := 16) (lo' := [some (.ref 1), some (.int 0), some (.ref 59), some (.ref L64)]) rfl rfl rfl rfl ?_
      refine go_s (pc' := 17) rfl rfl rfl rfl ?_
      refine go_s (pc' := 18) rfl rfl rfl rfl ?_
      refine go_sget (pc' := 19) (v := .ref 32) hS75 rfl rfl rfl (by decide) rfl rfl ?_
      refine go_sget (pc' := 20) (v := .ref (ad 0)) hS75 rfl rfl rfl (by decide) k208 rfl ?_
      refine go_s (pc' := 21) rfl rfl rfl rfl ?_
      have hSs2 := St_fr hD.1 hoa k4 hF76
      refine go_callV (pc' := 22) rfl rfl rfl (Nat.le_of_ble_eq_true rfl) rfl (sm_o (St_fr hD.1 hoa k4 hF76) (tbs_at hA (i := 0) (by decide))) rfl rfl rfl (cs_ans_0 hA hSs2 (fun a ha => hWn a (Nat.le_trans hF76.1 ha)) (by omega)) (fun r h77 q78 => ?_)
      obtain ⟨LA, rfl, hLA, hcA, hSs3, hfr3⟩ := q78
      have hLA2 : LA = List.length h71 := hLA
      have hg3 := gle_ss hSs2 hSs3 hfr3
      have hS3 := sm_gl hS75 hg3
      have hF3 := fr_gl hF76 hg3
      have hq_L64 := (hg3.2.2.2 _ (lt_of hc73)).trans hc73
      have lt_L64_A : L64 < LA := by have := lt_of hc73; omega
      have ge_LA : List.length h62 ≤ LA := by have := hF76.1; omega
      have nb_LA := tbc_out LA (by omega)
      refine go_putF (pc' := 23) rfl hq_L64 rfl (by decide) (Nat.le_of_ble_eq_true rfl) rfl (hWn _ (by omega)) rfl (fun h79 hc80 hp81 => ?_)
      have hq82 := (hp81.2.2 _ (by omega)).trans hcA
      have hS83 := sm_pq hS3 hp81 nb_L64
      have hF84 := fr_pq hF3 hp81 (by omega)
      refine go_s (pc' := 24) rfl rfl rfl rfl ?_
      refine go_sget (pc' := 25) (v := .ref 2) hS83 rfl rfl rfl (by decide) rfl rfl ?_
      refine go_s (pc' := 26) rfl rfl rfl rfl ?_
      refine go_sget (pc' := 27) (v := .ref 32) hS83 rfl rfl rfl (by decide) rfl rfl ?_
      refine go_sget (pc' := 28) (v := .int 1) hS83 rfl rfl rfl (by decide) (congrArg Value.int e0) rfl ?_
      refine go_s (pc' := 29) rfl rfl rfl rfl ?_
      refine go_sget (pc' := 30) (v := .int 2) hS83 rfl rfl rfl (by decide) (congrArg Value.int e11) rfl ?_
      refine go_s (pc' := 31) rfl rfl rfl rfl ?_
      have hms : mrp 0 (I, Q, Z) = msnd 1 2 (mgA 0 (row1 (I, Q, Z) 0)) (I, Q, Z) := by
        unfold mrp
        rw [if_neg (show ¬ I 11 (1 + 0) = -1 by rw [e11]; decide), show pn (I, Q, Z).1 0 = 1 by simp [pn, e0], show pn (I, Q, Z).1 (1 + 0) = 2 by simp [pn, e11]]
      have hD9 : CD w e m0 h79 I Q Z X (owx ow LA 1) sb := CD_nw hD hF84 ge_LA (lt_of hq82) hln
      have hox : owx ow LA 1 L64 = 0 := by
        unfold owx
        rw [if_neg (by omega)]
        exact (hD.1.2.1 _ (by omega)).2
      obtain ⟨⟨Wl, w1, -⟩, -⟩ := k5
      obtain ⟨z1, z2, z3, z4, z5⟩ := row1_sc w1 0 (by decide)
      have hmf : An h79 (owx ow LA 1) (.ref LA) (fun i => (mgA 0 (row1 (I, Q, Z) 0)).1 (5 + i)) := by
        refine ⟨LA, rfl, by simp [owx], ?_⟩
        rw [hq82, z1, z2, z3, z4, z5]
        rfl
      have hB9 : co h79 I ≤ B + 38 := by
        have := co_fr (I := I) (J := I) hF84 rfl
        omega
      refine go_callV (pc' := 32) rfl rfl rfl (Nat.le_of_ble_eq_true rfl) rfl (sm_o hS83 rfl) rfl rfl rfl (ct_send hS83 hD9 hB9 (fun l hl => by have := hQ l hl; have := lt_of hc80; omega) (by omega) (f := 1) (t := 2) (by decide) (by decide) (by decide) (m := (mgA 0 (row1 (I, Q, Z) 0))) hc80 hox (hWn _ (by omega)) nb_L64 (by omega) (MF_A hmf) (by omega)) (fun r h85 q86 => ?_)
      rw [← hms] at q86
      obtain ⟨rfl, hC9⟩ := q86
      refine go_ret rfl rfl ?_
      exact ⟨rfl, hC9⟩
    · skip
      change I 11 1 = 3 at e11
      refine go_s (pc' := 1) rfl rfl rfl rfl ?_
      refine go_s (pc' := 2) rfl rfl rfl rfl ?_
      refine go_callV (pc' := 3) rfl rfl rfl (Nat.le_of_ble_eq_true rfl) rfl (sm_o hS rfl) rfl rfl rfl (ct_termAt_0 hS (by omega)) (fun r h87 q88 => ?_)
      obtain ⟨rfl, rfl⟩ := q88
      refine go_s (pc' := 4) (lo' := [some (.ref 1), some (.int 0), some (.ref 59), none]) rfl rfl rfl rfl ?_
      refine go_s (pc' := 5) rfl rfl rfl rfl ?_
      refine go_s (pc' := 6) rfl rfl rfl rfl ?_
      refine go_s (pc' := 7) rfl rfl rfl rfl ?_
      refine go_sget (pc' := 8) (v := .int 3) hS rfl rfl rfl (by decide) (congrArg Value.int e11) rfl ?_
      refine go_s (pc' := 9) (st' := [.int (-1), .int 3]) rfl rfl rfl rfl ?_
      refine go_icmpP (t' := 11) (pc' := 10) rfl rfl rfl (fun _ => ?_) (fun (c : ¬ (¬ (3 : Int32) = (-1))) => absurd (by decide) c)
      refine go_newF (pc' := 12) (n := 8) rfl rfl rfl rfl (fun L89 h90 hL91 hc92 hg93 => ?_)
      have ge_L89 : _ ≤ L89 := hL91 ▸ hF1.1
      have nb_L89 := tbc_out L89 (by have := sm_len hS; omega)
      have hS94 := sm_gq hS hg93
      have hF95 := fr_gq hF1 hg93
      refine go_s (pc' := 13) rfl rfl rfl rfl ?_
      refine go_s (pc' := 14) (st' := [.int 2, .ref L89, .ref L89]) rfl rfl rfl rfl ?_
      refine go_callI (pc' := 15) rfl rfl rfl (Nat.le_of_ble_eq_true rfl) rfl hc92 rfl rfl rfl (ci_msg hc92 (hWn _ (by omega)) (by omega)) (fun r h96 q97 => ?_)
      obtain ⟨rfl, hc98, hp99⟩ := q97
      have hS100 := sm_pq hS94 hp99 nb_L89
      have hF101 := fr_pq hF95 hp99 (by omega)
      refine go_s (pc' := 16) (lo' := [some (.ref 1), some (.int 0), some (.ref 59), some (.ref L89)]) rfl rfl rfl rfl ?_
      refine go_s (pc' := 17) rfl rfl rfl rfl ?_
      refine go_s (pc' := 18) rfl rfl rfl rfl ?_
      refine go_sget (pc' := 19) (v := .ref 32) hS100 rfl rfl rfl (by decide) rfl rfl ?_
      refine go_sget (pc' := 20) (v := .ref (ad 0)) hS100 rfl rfl rfl (by decide) k208 rfl ?_
      refine go_s (pc' := 21) rfl rfl rfl rfl ?_
      have hSs2 := St_fr hD.1 hoa k4 hF101
      refine go_callV (pc' := 22) rfl rfl rfl (Nat.le_of_ble_eq_true rfl) rfl (sm_o (St_fr hD.1 hoa k4 hF101) (tbs_at hA (i := 0) (by decide))) rfl rfl rfl (cs_ans_0 hA hSs2 (fun a ha => hWn a (Nat.le_trans hF101.1 ha)) (by omega)) (fun r h102 q103 => ?_)
      obtain ⟨LA, rfl, hLA, hcA, hSs3, hfr3⟩ := q103
      have hLA2 : LA = List.length h96 := hLA
      have hg3 := gle_ss hSs2 hSs3 hfr3
      have hS3 := sm_gl hS100 hg3
      have hF3 := fr_gl hF101 hg3
      have hq_L89 := (hg3.2.2.2 _ (lt_of hc98)).trans hc98
      have lt_L89_A : L89 < LA := by have := lt_of hc98; omega
      have ge_LA : List.length h87 ≤ LA := by have := hF101.1; omega
      have nb_LA := tbc_out LA (by omega)
      refine go_putF (pc' := 23) rfl hq_L89 rfl (by decide) (Nat.le_of_ble_eq_true rfl) rfl (hWn _ (by omega)) rfl (fun h104 hc105 hp106 => ?_)
      have hq107 := (hp106.2.2 _ (by omega)).trans hcA
      have hS108 := sm_pq hS3 hp106 nb_L89
      have hF109 := fr_pq hF3 hp106 (by omega)
      refine go_s (pc' := 24) rfl rfl rfl rfl ?_
      refine go_sget (pc' := 25) (v := .ref 2) hS108 rfl rfl rfl (by decide) rfl rfl ?_
      refine go_s (pc' := 26) rfl rfl rfl rfl ?_
      refine go_sget (pc' := 27) (v := .ref 32) hS108 rfl rfl rfl (by decide) rfl rfl ?_
      refine go_sget (pc' := 28) (v := .int 1) hS108 rfl rfl rfl (by decide) (congrArg Value.int e0) rfl ?_
      refine go_s (pc' := 29) rfl rfl rfl rfl ?_
      refine go_sget (pc' := 30) (v := .int 3) hS108 rfl rfl rfl (by decide) (congrArg Value.int e11) rfl ?_
      refine go_s (pc' := 31) rfl rfl rfl rfl ?_
      have hms : mrp 0 (I, Q, Z) = msnd 1 3 (mgA 0 (row1 (I, Q, Z) 0)) (I, Q, Z) := by
        unfold mrp
        rw [if_neg (show ¬ I 11 (1 + 0) = -1 by rw [e11]; decide), show pn (I, Q, Z).1 0 = 1 by simp [pn, e0], show pn (I, Q, Z).1 (1 + 0) = 3 by simp [pn, e11]]
      have hD9 : CD w e m0 h104 I Q Z X (owx ow LA 1) sb := CD_nw hD hF109 ge_LA (lt_of hq107) hln
      have hox : owx ow LA 1 L89 = 0 := by
        unfold owx
        rw [if_neg (by omega)]
        exact (hD.1.2.1 _ (by omega)).2
      obtain ⟨⟨Wl, w1, -⟩, -⟩ := k5
      obtain ⟨z1, z2, z3, z4, z5⟩ := row1_sc w1 0 (by decide)
      have hmf : An h104 (owx ow LA 1) (.ref LA) (fun i => (mgA 0 (row1 (I, Q, Z) 0)).1 (5 + i)) := by
        refine ⟨LA, rfl, by simp [owx], ?_⟩
        rw [hq107, z1, z2, z3, z4, z5]
        rfl
      have hB9 : co h104 I ≤ B + 38 := by
        have := co_fr (I := I) (J := I) hF109 rfl
        omega
      refine go_callV (pc' := 32) rfl rfl rfl (Nat.le_of_ble_eq_true rfl) rfl (sm_o hS108 rfl) rfl rfl rfl (ct_send hS108 hD9 hB9 (fun l hl => by have := hQ l hl; have := lt_of hc105; omega) (by omega) (f := 1) (t := 3) (by decide) (by decide) (by decide) (m := (mgA 0 (row1 (I, Q, Z) 0))) hc105 hox (hWn _ (by omega)) nb_L89 (by omega) (MF_A hmf) (by omega)) (fun r h110 q111 => ?_)
      rw [← hms] at q111
      obtain ⟨rfl, hC9⟩ := q111
      refine go_ret rfl rfl ?_
      exact ⟨rfl, hC9⟩
theorem cm_rp_1 {w : Nat → Bool} {d : Nat} {h : am_Hp} {e : Nat} {m0 : mg} {B : Nat} {I : sm_I} {Q : mQ} {Z : mZ} (hC : CA w e m0 B h (I, Q, Z)) (hB2 : B < 2 ^ 29) (hv : lv I 0 = true) (hd : 4 ≤ d) : am_Ev (am_prog w) d 45 [.ref 1, .int 1] h (fun r h' => r = none ∧ CA w e m0 (B + 38) h' (mrp 1 (I, Q, Z))) := by
  obtain ⟨X, ow, sb, hS, hD, hB, hQ⟩ := hC
  change sm tbc h I X at hS
  change CD w e m0 h I Q Z X ow sb at hD
  change co h I ≤ B at hB
  change ∀ l, l < 16 → (Q l).length ≤ h.length at hQ
  have hW := hD.1.1
  have hWn : ∀ a, List.length h ≤ a → w a = true := fun a ha => (hD.1.2.1 a ha).1
  have hF1 := fr_refl tbc h
  have hln : 62 ≤ List.length h := sm_len hS
  obtain ⟨d, rfl⟩ : ∃ e, d = e + 1 := ⟨d - 1, by omega⟩
  refine ev_go rfl (Nat.le_of_ble_eq_true rfl) rfl ?_
  obtain ⟨k208, kst, -⟩ := hD.2.2.2.2.1
  obtain ⟨ad, S, Y, k0, hA, k2, k3, k4, k5, hoa, hZ0, hWa, htc⟩ := St_open hD.1 (kst hv)
  change SQ h ow S Y (Z (rwi I 0)) at k5
  rw [← k0] at k208
  have hD0 := hD
  rcases hD0.2.2.2.2.2.2 0 (by decide) with e0 | e0 | e0
  · exact absurd hv (by simp [lv, e0])
  · skip
    change I 11 0 = 0 at e0
    rcases hD0.2.2.2.2.2.2 2 (by decide) with e11 | e11 | e11
    · skip
      change I 11 2 = -1 at e11
      refine go_s (pc' := 1) rfl rfl rfl rfl ?_
      refine go_s (pc' := 2) rfl rfl rfl rfl ?_
      refine go_callV (pc' := 3) rfl rfl rfl (Nat.le_of_ble_eq_true rfl) rfl (sm_o hS rfl) rfl rfl rfl (ct_termAt_1 hS (by omega)) (fun r h2 q3 => ?_)
      obtain ⟨rfl, rfl⟩ := q3
      refine go_s (pc' := 4) (lo' := [some (.ref 1), some (.int 1), some (.ref 60), none]) rfl rfl rfl rfl ?_
      refine go_s (pc' := 5) rfl rfl rfl rfl ?_
      refine go_s (pc' := 6) rfl rfl rfl rfl ?_
      refine go_s (pc' := 7) rfl rfl rfl rfl ?_
      refine go_sget (pc' := 8) (v := .int (-1)) hS rfl rfl rfl (by decide) (congrArg Value.int e11) rfl ?_
      refine go_s (pc' := 9) (st' := [.int (-1), .int (-1)]) rfl rfl rfl rfl ?_
      refine go_icmpP (t' := 11) (pc' := 10) rfl rfl rfl (fun (c : ¬ ((-1) : Int32) = (-1)) => absurd c (by decide)) (fun _ => ?_)
      refine go_ret rfl rfl ?_
      have hD4 : CD w e m0 h2 I Q Z X ow sb := CD_I (CD_fr hD hF1) ⟨rfl, rfl, rfl, rfl, rfl, rfl, rfl, rfl, rfl, rfl, rfl, rfl, rfl, rfl, rfl⟩
      have hB5 : co h2 I ≤ B + 0 := by
        have := co_fr (I := I) (J := I) hF1 rfl
        have := hB
        omega
      have hC6 : CA w e m0 (B + 0) h2 (I, Q, Z) := ⟨X, ow, sb, hS, hD4, hB5, fun l hl => Nat.le_trans (hQ l hl) hF1.1⟩
      have hms : mrp 1 (I, Q, Z) = (I, Q, Z) := by
        unfold mrp
        rw [if_pos (show I 11 (1 + 1) = -1 from e11)]
      rw [hms]
      exact ⟨rfl, CA_le hC6 (by omega)⟩
    · skip
      change I 11 2 = 2 at e11
      refine go_s (pc' := 1) rfl rfl rfl rfl ?_
      refine go_s (pc' := 2) rfl rfl rfl rfl ?_
      refine go_callV (pc' := 3) rfl rfl rfl (Nat.le_of_ble_eq_true rfl) rfl (sm_o hS rfl) rfl rfl rfl (ct_termAt_1 hS (by omega)) (fun r h7 q8 => ?_)
      obtain ⟨rfl, rfl⟩ := q8
      refine go_s (pc' := 4) (lo' := [some (.ref 1), some (.int 1), some (.ref 60), none]) rfl rfl rfl rfl ?_
      refine go_s (pc' := 5) rfl rfl rfl rfl ?_
      refine go_s (pc' := 6) rfl rfl rfl rfl ?_
      refine go_s (pc' := 7) rfl rfl rfl rfl ?_
      refine go_sget (pc' := 8) (v := .int 2) hS rfl rfl rfl (by decide) (congrArg Value.int e11) rfl ?_
      refine go_s (pc' := 9) (st' := [.int (-1), .int 2]) rfl rfl rfl rfl ?_
      refine go_icmpP (t' := 11) (pc' := 10) rfl rfl rfl (fun _ => ?_) (fun (c : ¬ (¬ (2 : Int32) = (-1))) => absurd (by decide) c)
      refine go_newF (pc' := 12) (n := 8) rfl rfl rfl rfl (fun L9 h10 hL11 hc12 hg13 => ?_)
      have ge_L9 : _ ≤ L9 := hL11 ▸ hF1.1
      have nb_L9 := tbc_out L9 (by have := sm_len hS; omega)
      have hS14 := sm_gq hS hg13
      have hF15 := fr_gq hF1 hg13
      refine go_s (pc' := 13) rfl rfl rfl rfl ?_
      refine go_s (pc' := 14) (st' := [.int 2, .ref L9, .ref L9]) rfl rfl rfl rfl ?_
      refine go_callI (pc' := 15) rfl rfl rfl (Nat.le_of_ble_eq_true rfl) rfl hc12 rfl rfl rfl (ci_msg hc12 (hWn _ (by omega)) (by omega)) (fun r h16 q17 => ?_)
      obtain ⟨rfl, hc18, hp19⟩ := q17
      have hS20 := sm_pq hS14 hp19 nb_L9
      have hF21 := fr_pq hF15 hp19 (by omega)
      refine go_s (pc' := 16) (lo' := [some (.ref 1), some (.int 1), some (.ref 60), some (.ref L9)]) rfl rfl rfl rfl ?_
      refine go_s (pc' := 17) rfl rfl rfl rfl ?_
      refine go_s (pc' := 18) rfl rfl rfl rfl ?_
      refine go_sget (pc' := 19) (v := .ref 32) hS20 rfl rfl rfl (by decide) rfl rfl ?_
      refine go_sget (pc' := 20) (v := .ref (ad 0)) hS20 rfl rfl rfl (by decide) k208 rfl ?_
      refine go_s (pc' := 21) rfl rfl rfl rfl ?_
      have hSs2 := St_fr hD.1 hoa k4 hF21
      refine go_callV (pc' := 22) rfl rfl rfl (Nat.le_of_ble_eq_true rfl) rfl (sm_o (St_fr hD.1 hoa k4 hF21) (tbs_at hA (i := 0) (by decide))) rfl rfl rfl (cs_ans_1 hA hSs2 (fun a ha => hWn a (Nat.le_trans hF21.1 ha)) (by omega)) (fun r h22 q23 => ?_)
      obtain ⟨LA, rfl, hLA, hcA, hSs3, hfr3⟩ := q23
      have hLA2 : LA = List.length h16 := hLA
      have hg3 := gle_ss hSs2 hSs3 hfr3
      have hS3 := sm_gl hS20 hg3
      have hF3 := fr_gl hF21 hg3
      have hq_L9 := (hg3.2.2.2 _ (lt_of hc18)).trans hc18
      have lt_L9_A : L9 < LA := by have := lt_of hc18; omega
      have ge_LA : List.length h7 ≤ LA := by have := hF21.1; omega
      have nb_LA := tbc_out LA (by omega)
      refine go_putF (pc' := 23) rfl hq_L9 rfl (by decide) (Nat.le_of_ble_eq_true rfl) rfl (hWn _ (by omega)) rfl (fun h24 hc25 hp26 => ?_)
      have hq27 := (hp26.2.2 _ (by omega)).trans hcA
      have hS28 := sm_pq hS3 hp26 nb_L9
      have hF29 := fr_pq hF3 hp26 (by omega)
      refine go_s (pc' := 24) rfl rfl rfl rfl ?_
      refine go_sget (pc' := 25) (v := .ref 2) hS28 rfl rfl rfl (by decide) rfl rfl ?_
      refine go_s (pc' := 26) rfl rfl rfl rfl ?_
      refine go_sget (pc' := 27) (v := .ref 32) hS28 rfl rfl rfl (by decide) rfl rfl ?_
      refine go_sget (pc' := 28) (v := .int 0) hS28 rfl rfl rfl (by decide) (congrArg Value.int e0) rfl ?_
      refine go_s (pc' := 29) rfl rfl rfl rfl ?_
      refine go_sget (pc' := 30) (v := .int 2) hS28 rfl rfl rfl (by decide) (congrArg Value.int e11) rfl ?_
      refine go_s (pc' := 31) rfl rfl rfl rfl ?_
      have hms : mrp 1 (I, Q, Z) = msnd 0 2 (mgA 1 (row1 (I, Q, Z) 0)) (I, Q, Z) := by
        unfold mrp
        rw [if_neg (show ¬ I 11 (1 + 1) = -1 by rw [e11]; decide), show pn (I, Q, Z).1 0 = 0 by simp [pn, e0], show pn (I, Q, Z).1 (1 + 1) = 2 by simp [pn, e11]]
      have hD9 : CD w e m0 h24 I Q Z X (owx ow LA 1) sb := CD_nw hD hF29 ge_LA (lt_of hq27) hln
      have hox : owx ow LA 1 L9 = 0 := by
        unfold owx
        rw [if_neg (by omega)]
        exact (hD.1.2.1 _ (by omega)).2
      obtain ⟨⟨Wl, w1, -⟩, -⟩ := k5
      obtain ⟨z1, z2, z3, z4, z5⟩ := row1_sc w1 1 (by decide)
      have hmf : An h24 (owx ow LA 1) (.ref LA) (fun i => (mgA 1 (row1 (I, Q, Z) 0)).1 (5 + i)) := by
        refine ⟨LA, rfl, by simp [owx], ?_⟩
        rw [hq27, z1, z2, z3, z4, z5]
        rfl
      have hB9 : co h24 I ≤ B + 38 := by
        have := co_fr (I := I) (J := I) hF29 rfl
        omega
      refine go_callV (pc' := 32) rfl rfl rfl (Nat.le_of_ble_eq_true rfl) rfl (sm_o hS28 rfl) rfl rfl rfl (ct_send hS28 hD9 hB9 (fun l hl => by have := hQ l hl; have := lt_of hc25; omega) (by omega) (f := 0) (t := 2) (by decide) (by decide) (by decide) (m := (mgA 1 (row1 (I, Q, Z) 0))) hc25 hox (hWn _ (by omega)) nb_L9 (by omega) (MF_A hmf) (by omega)) (fun r h30 q31 => ?_)
      rw [← hms] at q31
      obtain ⟨rfl, hC9⟩ := q31
      refine go_ret rfl rfl ?_
      exact ⟨rfl, hC9⟩
    · skip
      change I 11 2 = 3 at e11
      refine go_s (pc' := 1) rfl rfl rfl rfl ?_
      refine go_s (pc' := 2) rfl rfl rfl rfl ?_
      refine go_callV (pc' := 3) rfl rfl rfl (Nat.le_of_ble_eq_true rfl) rfl (sm_o hS rfl) rfl rfl rfl (ct_termAt_1 hS (by omega)) (fun r h32 q33 => ?_)
      obtain ⟨rfl, rfl⟩ := q33
      refine go_s (pc' := 4) (lo' := [some (.ref 1), some (.int 1), some (.ref 60), none]) rfl rfl rfl rfl ?_
      refine go_s (pc' := 5) rfl rfl rfl rfl ?_
      refine go_s (pc' := 6) rfl rfl rfl rfl ?_
      refine go_s (pc' := 7) rfl rfl rfl rfl ?_
      refine go_sget (pc' := 8) (v := .int 3) hS rfl rfl rfl (by decide) (congrArg Value.int e11) rfl ?_
      refine go_s (pc' := 9) (st' := [.int (-1), .int 3]) rfl rfl rfl rfl ?_
      refine go_icmpP (t' := 11) (pc' := 10) rfl rfl rfl (fun _ => ?_) (fun (c : ¬ (¬ (3 : Int32) = (-1))) => absurd (by decide) c)
      refine go_newF (pc' := 12) (n := 8) rfl rfl rfl rfl (fun L34 h35 hL36 hc37 hg38 => ?_)
      have ge_L34 : _ ≤ L34 := hL36 ▸ hF1.1
      have nb_L34 := tbc_out L34 (by have := sm_len hS; omega)
      have hS39 := sm_gq hS hg38
      have hF40 := fr_gq hF1 hg38
      refine go_s (pc' := 13) rfl rfl rfl rfl ?_
      refine go_s (pc' := 14) (st' := [.int 2, .ref L34, .ref L34]) rfl rfl rfl rfl ?_
      refine go_callI (pc' := 15) rfl rfl rfl (Nat.le_of_ble_eq_true rfl) rfl hc37 rfl rfl rfl (ci_msg hc37 (hWn _ (by omega)) (by omega)) (fun r h41 q42 => ?_)
      obtain ⟨rfl, hc43, hp44⟩ := q42
      have hS45 := sm_pq hS39 hp44 nb_L34
      have hF46 := fr_pq hF40 hp44 (by omega)
      refine go_s (pc' := 16) (lo' := [some (.ref 1), some (.int 1), some (.ref 60), some (.ref L34)]) rfl rfl rfl rfl ?_
      refine go_s (pc' := 17) rfl rfl rfl rfl ?_
      refine go_s (pc' := 18) rfl rfl rfl rfl ?_
      refine go_sget (pc' := 19) (v := .ref 32) hS45 rfl rfl rfl (by decide) rfl rfl ?_
      refine go_sget (pc' := 20) (v := .ref (ad 0)) hS45 rfl rfl rfl (by decide) k208 rfl ?_
      refine go_s (pc' := 21) rfl rfl rfl rfl ?_
      have hSs2 := St_fr hD.1 hoa k4 hF46
      refine go_callV (pc' := 22) rfl rfl rfl (Nat.le_of_ble_eq_true rfl) rfl (sm_o (St_fr hD.1 hoa k4 hF46) (tbs_at hA (i := 0) (by decide))) rfl rfl rfl (cs_ans_1 hA hSs2 (fun a ha => hWn a (Nat.le_trans hF46.1 ha)) (by omega)) (fun r h47 q48 => ?_)
      obtain ⟨LA, rfl, hLA, hcA, hSs3, hfr3⟩ := q48
      have hLA2 : LA = List.length h41 := hLA
      have hg3 := gle_ss hSs2 hSs3 hfr3
      have hS3 := sm_gl hS45 hg3
      have hF3 := fr_gl hF46 hg3
      have hq_L34 := (hg3.2.2.2 _ (lt_of hc43)).trans hc43
      have lt_L34_A : L34 < LA := by have := lt_of hc43; omega
      have ge_LA : List.length h32 ≤ LA := by have := hF46.1; omega
      have nb_LA := tbc_out LA (by omega)
      refine go_putF (pc' := 23) rfl hq_L34 rfl (by decide) (Nat.le_of_ble_eq_true rfl) rfl (hWn _ (by omega)) rfl (fun h49 hc50 hp51 => ?_)
      have hq52 := (hp51.2.2 _ (by omega)).trans hcA
      have hS53 := sm_pq hS3 hp51 nb_L34
      have hF54 := fr_pq hF3 hp51 (by omega)
      refine go_s (pc' := 24) rfl rfl rfl rfl ?_
      refine go_sget (pc' := 25) (v := .ref 2) hS53 rfl rfl rfl (by decide) rfl rfl ?_
      refine go_s (pc' := 26) rfl rfl rfl rfl ?_
      refine go_sget (pc' := 27) (v := .ref 32) hS53 rfl rfl rfl (by decide) rfl rfl ?_
      refine go_sget (pc' := 28) (v := .int 0) hS53 rfl rfl rfl (by decide) (congrArg Value.int e0) rfl ?_
      refine go_s (pc' := 29) rfl rfl rfl rfl ?_
      refine go_sget (pc' := 30) (v := .int 3) hS53 rfl rfl rfl (by decide) (congrArg Value.int e11) rfl ?_
      refine go_s (pc' := 31) rfl rfl rfl rfl ?_
      have hms : mrp 1 (I, Q, Z) = msnd 0 3 (mgA 1 (row1 (I, Q, Z) 0)) (I, Q, Z) := by
        unfold mrp
        rw [if_neg (show ¬ I 11 (1 + 1) = -1 by rw [e11]; decide), show pn (I, Q, Z).1 0 = 0 by simp [pn, e0], show pn (I, Q, Z).1 (1 + 1) = 3 by simp [pn, e11]]
      have hD9 : CD w e m0 h49 I Q Z X (owx ow LA 1) sb := CD_nw hD hF54 ge_LA (lt_of hq52) hln
      have hox : owx ow LA 1 L34 = 0 := by
        unfold owx
        rw [if_neg (by omega)]
        exact (hD.1.2.1 _ (by omega)).2
      obtain ⟨⟨Wl, w1, -⟩, -⟩ := k5
      obtain ⟨z1, z2, z3, z4, z5⟩ := row1_sc w1 1 (by decide)
      have hmf : An h49 (owx ow LA 1) (.ref LA) (fun i => (mgA 1 (row1 (I, Q, Z) 0)).1 (5 + i)) := by
        refine ⟨LA, rfl, by simp [owx], ?_⟩
        rw [hq52, z1, z2, z3, z4, z5]
        rfl
      have hB9 : co h49 I ≤ B + 38 := by
        have := co_fr (I := I) (J := I) hF54 rfl
        omega
      refine go_callV (pc' := 32) rfl rfl rfl (Nat.le_of_ble_eq_true rfl) rfl (sm_o hS53 rfl) rfl rfl rfl (ct_send hS53 hD9 hB9 (fun l hl => by have := hQ l hl; have := lt_of hc50; omega) (by omega) (f := 0) (t := 3) (by decide) (by decide) (by decide) (m := (mgA 1 (row1 (I, Q, Z) 0))) hc50 hox (hWn _ (by omega)) nb_L34 (by omega) (MF_A hmf) (by omega)) (fun r h55 q56 => ?_)
      rw [← hms] at q56
      obtain ⟨rfl, hC9⟩ := q56
      refine go_ret rfl rfl ?_
      exact ⟨rfl, hC9⟩
  · skip
    change I 11 0 = 1 at e0
    rcases hD0.2.2.2.2.2.2 2 (by decide) with e11 | e11 | e11
    · skip
      change I 11 2 = -1 at e11
      refine go_s (pc' := 1) rfl rfl rfl rfl ?_
      refine go_s (pc' := 2) rfl rfl rfl rfl ?_
      refine go_callV (pc' := 3) rfl rfl rfl (Nat.le_of_ble_eq_true rfl) rfl (sm_o hS rfl) rfl rfl rfl (ct_termAt_1 hS (by omega)) (fun r h57 q58 => ?_)
      obtain ⟨rfl, rfl⟩ := q58
      refine go_s (pc' := 4) (lo' := [some (.ref 1), some (.int 1), some (.ref 60), none]) rfl rfl rfl rfl ?_
      refine go_s (pc' := 5) rfl rfl rfl rfl ?_
      refine go_s (pc' := 6) rfl rfl rfl rfl ?_
      refine go_s (pc' := 7) rfl rfl rfl rfl ?_
      refine go_sget (pc' := 8) (v := .int (-1)) hS rfl rfl rfl (by decide) (congrArg Value.int e11) rfl ?_
      refine go_s (pc' := 9) (st' := [.int (-1), .int (-1)]) rfl rfl rfl rfl ?_
      refine go_icmpP (t' := 11) (pc' := 10) rfl rfl rfl (fun (c : ¬ ((-1) : Int32) = (-1)) => absurd c (by decide)) (fun _ => ?_)
      refine go_ret rfl rfl ?_
      have hD59 : CD w e m0 h57 I Q Z X ow sb := CD_I (CD_fr hD hF1) ⟨rfl, rfl, rfl, rfl, rfl, rfl, rfl, rfl, rfl, rfl, rfl, rfl, rfl, rfl, rfl⟩
      have hB60 : co h57 I ≤ B + 0 := by
        have := co_fr (I := I) (J := I) hF1 rfl
        have := hB
        omega
      have hC61 : CA w e m0 (B + 0) h57 (I, Q, Z) := ⟨X, ow, sb, hS, hD59, hB60, fun l hl => Nat.le_trans (hQ l hl) hF1.1⟩
      have hms : mrp 1 (I, Q, Z) = (I, Q, Z) := by
        unfold mrp
        rw [if_pos (show I 11 (1 + 1) = -1 from e11)]
      rw [hms]
      exact ⟨rfl, CA_le hC61 (by omega)⟩
    · skip
      change I 11 2 = 2 at e11
      refine go_s (pc' := 1) rfl rfl rfl rfl ?_
      refine go_s (pc' := 2) rfl rfl rfl rfl ?_
      refine go_callV (pc' := 3) rfl rfl rfl (Nat.le_of_ble_eq_true rfl) rfl (sm_o hS rfl) rfl rfl rfl (ct_termAt_1 hS (by omega)) (fun r h62 q63 => ?_)
      obtain ⟨rfl, rfl⟩ := q63
      refine go_s (pc' := 4) (lo' := [some (.ref 1), some (.int 1), some (.ref 60), none]) rfl rfl rfl rfl ?_
      refine go_s (pc' := 5) rfl rfl rfl rfl ?_
      refine go_s (pc' := 6) rfl rfl rfl rfl ?_
      refine go_s (pc' := 7) rfl rfl rfl rfl ?_
      refine go_sget (pc' := 8) (v := .int 2) hS rfl rfl rfl (by decide) (congrArg Value.int e11) rfl ?_
      refine go_s (pc' := 9) (st' := [.int (-1), .int 2]) rfl rfl rfl rfl ?_
      refine go_icmpP (t' := 11) (pc' := 10) rfl rfl rfl (fun _ => ?_) (fun (c : ¬ (¬ (2 : Int32) = (-1))) => absurd (by decide) c)
      refine go_newF (pc' := 12) (n := 8) rfl rfl rfl rfl (fun L64 h65 hL66 hc67 hg68 => ?_)
      have ge_L64 : _ ≤ L64 := hL66 ▸ hF1.1
      have nb_L64 := tbc_out L64 (by have := sm_len hS; omega)
      have hS69 := sm_gq hS hg68
      have hF70 := fr_gq hF1 hg68
      refine go_s (pc' := 13) rfl rfl rfl rfl ?_
      refine go_s (pc' := 14) (st' := [.int 2, .ref L64, .ref L64]) rfl rfl rfl rfl ?_
      refine go_callI (pc' := 15) rfl rfl rfl (Nat.le_of_ble_eq_true rfl) rfl hc67 rfl rfl rfl (ci_msg hc67 (hWn _ (by omega)) (by omega)) (fun r h71 q72 => ?_)
      obtain ⟨rfl, hc73, hp74⟩ := q72
      have hS75 := sm_pq hS69 hp74 nb_L64
      have hF76 := fr_pq hF70 hp74 (by omega)
      refine go_s (pc' := 16) (lo' := [some (.ref 1), some (.int 1), some (.ref 60), some (.ref L64)]) rfl rfl rfl rfl ?_
      refine go_s (pc' := 17) rfl rfl rfl rfl ?_
      refine go_s (pc' := 18) rfl rfl rfl rfl ?_
      refine go_sget (pc' := 19) (v := .ref 32) hS75 rfl rfl rfl (by decide) rfl rfl ?_
      refine go_sget (pc' := 20) (v := .ref (ad 0)) hS75 rfl rfl rfl (by decide) k208 rfl ?_
      refine go_s (pc' := 21) rfl rfl rfl rfl ?_
      have hSs2 := St_fr hD.1 hoa k4 hF76
      refine go_callV (pc' := 22) rfl rfl rfl (Nat.le_of_ble_eq_true rfl) rfl (sm_o (St_fr hD.1 hoa k4 hF76) (tbs_at hA (i := 0) (by decide))) rfl rfl rfl (cs_ans_1 hA hSs2 (fun a ha => hWn a (Nat.le_trans hF76.1 ha)) (by omega)) (fun r h77 q78 => ?_)
      obtain ⟨LA, rfl, hLA, hcA, hSs3, hfr3⟩ := q78
      have hLA2 : LA = List.length h71 := hLA
      have hg3 := gle_ss hSs2 hSs3 hfr3
      have hS3 := sm_gl hS75 hg3
      have hF3 := fr_gl hF76 hg3
      have hq_L64 := (hg3.2.2.2 _ (lt_of hc73)).trans hc73
      have lt_L64_A : L64 < LA := by have := lt_of hc73; omega
      have ge_LA : List.length h62 ≤ LA := by have := hF76.1; omega
      have nb_LA := tbc_out LA (by omega)
      refine go_putF (pc' := 23) rfl hq_L64 rfl (by decide) (Nat.le_of_ble_eq_true rfl) rfl (hWn _ (by omega)) rfl (fun h79 hc80 hp81 => ?_)
      have hq82 := (hp81.2.2 _ (by omega)).trans hcA
      have hS83 := sm_pq hS3 hp81 nb_L64
      have hF84 := fr_pq hF3 hp81 (by omega)
      refine go_s (pc' := 24) rfl rfl rfl rfl ?_
      refine go_sget (pc' := 25) (v := .ref 2) hS83 rfl rfl rfl (by decide) rfl rfl ?_
      refine go_s (pc' := 26) rfl rfl rfl rfl ?_
      refine go_sget (pc' := 27) (v := .ref 32) hS83 rfl rfl rfl (by decide) rfl rfl ?_
      refine go_sget (pc' := 28) (v := .int 1) hS83 rfl rfl rfl (by decide) (congrArg Value.int e0) rfl ?_
      refine go_s (pc' := 29) rfl rfl rfl rfl ?_
      refine go_sget (pc' := 30) (v := .int 2) hS83 rfl rfl rfl (by decide) (congrArg Value.int e11) rfl ?_
      refine go_s (pc' := 31) rfl rfl rfl rfl ?_
      have hms : mrp 1 (I, Q, Z) = msnd 1 2 (mgA 1 (row1 (I, Q, Z) 0)) (I, Q, Z) := by
        unfold mrp
        rw [if_neg (show ¬ I 11 (1 + 1) = -1 by rw [e11]; decide), show pn (I, Q, Z).1 0 = 1 by simp [pn, e0], show pn (I, Q, Z).1 (1 + 1) = 2 by simp [pn, e11]]
      have hD9 : CD w e m0 h79 I Q Z X (owx ow LA 1) sb := CD_nw hD hF84 ge_LA (lt_of hq82) hln
      have hox : owx ow LA 1 L64 = 0 := by
        unfold owx
        rw [if_neg (by omega)]
        exact (hD.1.2.1 _ (by omega)).2
      obtain ⟨⟨Wl, w1, -⟩, -⟩ := k5
      obtain ⟨z1, z2, z3, z4, z5⟩ := row1_sc w1 1 (by decide)
      have hmf : An h79 (owx ow LA 1) (.ref LA) (fun i => (mgA 1 (row1 (I, Q, Z) 0)).1 (5 + i)) := by
        refine ⟨LA, rfl, by simp [owx], ?_⟩
        rw [hq82, z1, z2, z3, z4, z5]
        rfl
      have hB9 : co h79 I ≤ B + 38 := by
        have := co_fr (I := I) (J := I) hF84 rfl
        omega
      refine go_callV (pc' := 32) rfl rfl rfl (Nat.le_of_ble_eq_true rfl) rfl (sm_o hS83 rfl) rfl rfl rfl (ct_send hS83 hD9 hB9 (fun l hl => by have := hQ l hl; have := lt_of hc80; omega) (by omega) (f := 1) (t := 2) (by decide) (by decide) (by decide) (m := (mgA 1 (row1 (I, Q, Z) 0))) hc80 hox (hWn _ (by omega)) nb_L64 (by omega) (MF_A hmf) (by omega)) (fun r h85 q86 => ?_)
      rw [← hms] at q86
      obtain ⟨rfl, hC9⟩ := q86
      refine go_ret rfl rfl ?_
      exact ⟨rfl, hC9⟩
    · skip
      change I 11 2 = 3 at e11
      refine go_s (pc' := 1) rfl rfl rfl rfl ?_
      refine go_s (pc' := 2) rfl rfl rfl rfl ?_
      refine go_callV (pc' := 3) rfl rfl rfl (Nat.le_of_ble_eq_true rfl) rfl (sm_o hS rfl) rfl rfl rfl (ct_termAt_1 hS (by omega)) (fun r h87 q88 => ?_)
      obtain ⟨rfl, rfl⟩ := q88
      refine go_s (pc' := 4) (lo' := [some (.ref 1), some (.int 1), some (.ref 60), none]) rfl rfl rfl rfl ?_
      refine go_s (pc' := 5) rfl rfl rfl rfl ?_
      refine go_s (pc' := 6) rfl rfl rfl rfl ?_
      refine go_s (pc' := 7) rfl rfl rfl rfl ?_
      refine go_sget (pc' := 8) (v := .int 3) hS rfl rfl rfl (by decide) (congrArg Value.int e11) rfl ?_
      refine go_s (pc' := 9) (st' := [.int (-1), .int 3]) rfl rfl rfl rfl ?_
      refine go_icmpP (t' := 11) (pc' := 10) rfl rfl rfl (fun _ => ?_) (fun (c : ¬ (¬ (3 : Int32) = (-1))) => absurd (by decide) c)
      refine go_newF (pc' := 12) (n := 8) rfl rfl rfl rfl (fun L89 h90 hL91 hc92 hg93 => ?_)
      have ge_L89 : _ ≤ L89 := hL91 ▸ hF1.1
      have nb_L89 := tbc_out L89 (by have := sm_len hS; omega)
      have hS94 := sm_gq hS hg93
      have hF95 := fr_gq hF1 hg93
      refine go_s (pc' := 13) rfl rfl rfl rfl ?_
      refine go_s (pc' := 14) (st' := [.int 2, .ref L89, .ref L89]) rfl rfl rfl rfl ?_
      refine go_callI (pc' := 15) rfl rfl rfl (Nat.le_of_ble_eq_true rfl) rfl hc92 rfl rfl rfl (ci_msg hc92 (hWn _ (by omega)) (by omega)) (fun r h96 q97 => ?_)
      obtain ⟨rfl, hc98, hp99⟩ := q97
      have hS100 := sm_pq hS94 hp99 nb_L89
      have hF101 := fr_pq hF95 hp99 (by omega)
      refine go_s (pc' := 16) (lo' := [some (.ref 1), some (.int 1), some (.ref 60), some (.ref L89)]) rfl rfl rfl rfl ?_
      refine go_s (pc' := 17) rfl rfl rfl rfl ?_
      refine go_s (pc' := 18) rfl rfl rfl rfl ?_
      refine go_sget (pc' := 19) (v := .ref 32) hS100 rfl rfl rfl (by decide) rfl rfl ?_
      refine go_sget (pc' := 20) (v := .ref (ad 0)) hS100 rfl rfl rfl (by decide) k208 rfl ?_
      refine go_s (pc' := 21) rfl rfl rfl rfl ?_
      have hSs2 := St_fr hD.1 hoa k4 hF101
      refine go_callV (pc' := 22) rfl rfl rfl (Nat.le_of_ble_eq_true rfl) rfl (sm_o (St_fr hD.1 hoa k4 hF101) (tbs_at hA (i := 0) (by decide))) rfl rfl rfl (cs_ans_1 hA hSs2 (fun a ha => hWn a (Nat.le_trans hF101.1 ha)) (by omega)) (fun r h102 q103 => ?_)
      obtain ⟨LA, rfl, hLA, hcA, hSs3, hfr3⟩ := q103
      have hLA2 : LA = List.length h96 := hLA
      have hg3 := gle_ss hSs2 hSs3 hfr3
      have hS3 := sm_gl hS100 hg3
      have hF3 := fr_gl hF101 hg3
      have hq_L89 := (hg3.2.2.2 _ (lt_of hc98)).trans hc98
      have lt_L89_A : L89 < LA := by have := lt_of hc98; omega
      have ge_LA : List.length h87 ≤ LA := by have := hF101.1; omega
      have nb_LA := tbc_out LA (by omega)
      refine go_putF (pc' := 23) rfl hq_L89 rfl (by decide) (Nat.le_of_ble_eq_true rfl) rfl (hWn _ (by omega)) rfl (fun h104 hc105 hp106 => ?_)
      have hq107 := (hp106.2.2 _ (by omega)).trans hcA
      have hS108 := sm_pq hS3 hp106 nb_L89
      have hF109 := fr_pq hF3 hp106 (by omega)
      refine go_s (pc' := 24) rfl rfl rfl rfl ?_
      refine go_sget (pc' := 25) (v := .ref 2) hS108 rfl rfl rfl (by decide) rfl rfl ?_
      refine go_s (pc' := 26) rfl rfl rfl rfl ?_
      refine go_sget (pc' := 27) (v := .ref 32) hS108 rfl rfl rfl (by decide) rfl rfl ?_
      refine go_sget (pc' := 28) (v := .int 1) hS108 rfl rfl rfl (by decide) (congrArg Value.int e0) rfl ?_
      refine go_s (pc' := 29) rfl rfl rfl rfl ?_
      refine go_sget (pc' := 30) (v := .int 3) hS108 rfl rfl rfl (by decide) (congrArg Value.int e11) rfl ?_
      refine go_s (pc' := 31) rfl rfl rfl rfl ?_
      have hms : mrp 1 (I, Q, Z) = msnd 1 3 (mgA 1 (row1 (I, Q, Z) 0)) (I, Q, Z) := by
        unfold mrp
        rw [if_neg (show ¬ I 11 (1 + 1) = -1 by rw [e11]; decide), show pn (I, Q, Z).1 0 = 1 by simp [pn, e0], show pn (I, Q, Z).1 (1 + 1) = 3 by simp [pn, e11]]
      have hD9 : CD w e m0 h104 I Q Z X (owx ow LA 1) sb := CD_nw hD hF109 ge_LA (lt_of hq107) hln
      have hox : owx ow LA 1 L89 = 0 := by
        unfold owx
        rw [if_neg (by omega)]
        exact (hD.1.2.1 _ (by omega)).2
      obtain ⟨⟨Wl, w1, -⟩, -⟩ := k5
      obtain ⟨z1, z2, z3, z4, z5⟩ := row1_sc w1 1 (by decide)
      have hmf : An h104 (owx ow LA 1) (.ref LA) (fun i => (mgA 1 (row1 (I, Q, Z) 0)).1 (5 + i)) := by
        refine ⟨LA, rfl, by simp [owx], ?_⟩
        rw [hq107, z1, z2, z3, z4, z5]
        rfl
      have hB9 : co h104 I ≤ B + 38 := by
        have := co_fr (I := I) (J := I) hF109 rfl
        omega
      refine go_callV (pc' := 32) rfl rfl rfl (Nat.le_of_ble_eq_true rfl) rfl (sm_o hS108 rfl) rfl rfl rfl (ct_send hS108 hD9 hB9 (fun l hl => by have := hQ l hl; have := lt_of hc105; omega) (by omega) (f := 1) (t := 3) (by decide) (by decide) (by decide) (m := (mgA 1 (row1 (I, Q, Z) 0))) hc105 hox (hWn _ (by omega)) nb_L89 (by omega) (MF_A hmf) (by omega)) (fun r h110 q111 => ?_)
      rw [← hms] at q111
      obtain ⟨rfl, hC9⟩ := q111
      refine go_ret rfl rfl ?_
      exact ⟨rfl, hC9⟩
