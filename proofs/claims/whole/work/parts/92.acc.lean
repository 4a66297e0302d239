theorem mbd_sm {F q p : Nat → Int32} {t : Nat} (h3 : F 3 = 1) (ht : t < 2) (h4 : F 4 = nI t) (p0 : p 0 = nI t) (p1 : p 1 = F (6 + t)) (p2 : p 2 = F (8 + t)) : mbd F q = smr q p := by
  have e : (F 4).toNatClampNeg = t := by rw [h4]; exact nI_clamp (by omega)
  unfold mbd smr
  rw [e, h4, p0, p1, p2]
  simp [h3]
theorem mbd_f {F q : Nat → Int32} (h3 : ¬ F 3 = 1) : mbd F q = false := by
  unfold mbd
  simp [h3]
theorem cx_ac_0 {w : Nat → Bool} {d : Nat} {h : am_Hp} {e : Nat} {m0 : mg} {B : Nat} {I : sm_I} {Q : mQ} {Z : mZ} {X : sm_X} {ow : ow_T} {sb : Nat} (hS : sm tbc h I X) (hD : CD w e m0 h I Q Z X ow sb) (hB : co h I ≤ B) (hQ : ∀ l, l < 16 → (Q l).length ≤ h.length) (hB2 : B < 2 ^ 28) (hv : lv I 0 = true) (en : I 21 0 = 0) {a t : Nat} {q : Nat → Int32} (ht : t < 2) (q0 : q 0 = nI t) (oa : ow a = 1) (ha : h[a]? = some (.inl (8, rqf q))) (hd : 2 ≤ d) : am_Ev (am_prog w) d 80 [.ref 32, .ref a] h (fun r h' => r = none ∧ CA w e m0 (B + 700) h' (mac q (I, Q, Z))) := by
  have hW := hD.1.1
  have hWn : ∀ a, List.length h ≤ a → w a = true := fun a ha => (hD.1.2.1 a ha).1
  have hF1 := fr_refl tbc h
  have hln : 62 ≤ List.length h := sm_len hS
  obtain ⟨d, rfl⟩ : ∃ e, d = e + 1 := ⟨d - 1, by omega⟩
  refine ev_go rfl (Nat.le_of_ble_eq_true rfl) rfl ?_
  have hD0 := hD
  have es : stn I = 0 := stn_eq (n := 0) en (by decide)
  obtain ⟨k208, kst, -⟩ := hD.2.2.2.2.1
  obtain ⟨ad, S, Y, k0, hA, k2, k3, k4, k5, hoa, hZ0, hWa, htc⟩ := St_open hD.1 (kst hv)
  change SQ h ow S Y (Z (rwi I 0)) at k5
  rw [← k0] at k208
  have hrw := SP_rw hD.2.2.2.2.1 (n := 0) en (by decide)
  have hsc := k4 (ad 0) _ _ (tbs_at hA (i := 0) (by decide))
  by_cases f3 : (Z (rwi I 0)).1 3 = 1
  · skip
    obtain ⟨p, t9, hrq, ht9, f4, p0, p1, p2⟩ := k5.2.2.1 f3
    obtain ⟨bq, e200, oq, hbq⟩ := id hrq
    have hsd : h[ad 0]? = some (.inl (5, [.int (S 0 0), .ref (ad 1), .ref (ad 2), .ref (ad 3), .ref (ad 4), .ref (ad 5), .ref (ad 6), .ref (ad 7), .int (S 0 1), .int (S 0 2), .ref (ad 8), .int (S 0 3), .ref bq, .ref (ad 9)])) := by
      rw [← e200]
      exact hsc
    refine go_s (pc' := 1) rfl rfl rfl rfl ?_
    refine go_get (pc' := 2) rfl ((hF1.2.2.2 _ (hD.1.2.2 _ (by omega)).2.1 (OW_lt hD.1 (by omega))).trans ha) rfl (by decide) rfl rfl ?_
    rw [q0]
    refine go_s (pc' := 3) (st' := [.int 2, .int (nI t)]) rfl rfl rfl rfl ?_
    refine go_callS (pc' := 4) rfl rfl rfl (Nat.le_of_ble_eq_true rfl) rfl rfl rfl (ct_within_t (n := 2) ht (by decide) (by omega)) (fun r h2 q3 => ?_)
    obtain ⟨rfl, rfl⟩ := q3
    refine go_s (pc' := 5) (lo' := [some (.ref 32), some (.ref a), some (.int 1), none]) rfl rfl rfl rfl ?_
    refine go_s (pc' := 6) rfl rfl rfl rfl ?_
    refine go_ifP (t' := 17) (pc' := 7) rfl rfl rfl (fun (c : (1 : Int32) = 0) => absurd c (by decide)) (fun _ => ?_)
    refine go_s (pc' := 8) rfl rfl rfl rfl ?_
    refine go_sget (pc' := 9) (v := .int 0) hS rfl rfl rfl (by decide) (congrArg Value.int en) rfl ?_
    refine go_s (pc' := 10) (st' := [.int 8, .int 0]) rfl rfl rfl rfl ?_
    refine go_icmpP (t' := 17) (pc' := 11) rfl rfl rfl (fun (c : 8 ≤ (0 : Int32)) => absurd c (by decide)) (fun _ => ?_)
    refine go_s (pc' := 12) rfl rfl rfl rfl ?_
    refine go_s (pc' := 13) rfl rfl rfl rfl ?_
    refine go_sget (pc' := 14) (v := .ref (ad 0)) hS rfl rfl rfl (by decide) k208 rfl ?_
    refine go_get (pc' := 15) rfl hsd rfl (by decide) rfl rfl ?_
    have hbd : mbd (row1 (I, Q, Z) 0) q = smr q p := mbd_sm f3 ht9 f4 p0 p1 p2
    refine go_callV (pc' := 16) rfl rfl rfl (Nat.le_of_ble_eq_true rfl) rfl ((hF1.2.2.2 _ (hD.1.2.2 _ (by omega)).2.1 (OW_lt hD.1 (by omega))).trans ha) rfl rfl rfl (ct_same (q := q) (p := p) ((hF1.2.2.2 _ (hD.1.2.2 _ (by omega)).2.1 (OW_lt hD.1 (by omega))).trans ha) ((hF1.2.2.2 _ (hD.1.2.2 _ (by omega)).2.1 (OW_lt hD.1 (by omega))).trans hbq) (by omega)) (fun r h4 q5 => ?_)
    obtain ⟨rfl, rfl⟩ := q5
    cases u6 : smr q p
    · skip
      show am_Go _ _ _ _ 16 _ [.int 0] _ _
      refine go_ifP (t' := 18) (pc' := 17) rfl rfl rfl (fun _ => ?_) (fun (c : ¬ ((0 : Int32) = 0)) => absurd (by decide) c)
      refine go_s (pc' := 19) (st' := [.int 0]) rfl rfl rfl rfl ?_
      refine go_s (pc' := 20) (lo' := [some (.ref 32), some (.ref a), some (.int 1), some (.int 0)]) rfl rfl rfl rfl ?_
      refine go_s (pc' := 21) rfl rfl rfl rfl ?_
      refine go_s (pc' := 22) rfl rfl rfl rfl ?_
      refine go_sget (pc' := 23) (v := .int 0) hS rfl rfl rfl (by decide) (congrArg Value.int en) rfl ?_
      refine go_icmpP (t' := 34) (pc' := 24) rfl rfl rfl (fun _ => ?_) (fun (c : ¬ (0 ≤ (0 : Int32))) => absurd (by decide) c)
      refine go_s (pc' := 35) rfl rfl rfl rfl ?_
      refine go_sget (pc' := 36) (v := .ref 57) hS rfl rfl rfl (by decide) rfl rfl ?_
      refine go_s (pc' := 37) rfl rfl rfl rfl ?_
      refine go_sget (pc' := 38) (v := .int 0) hS rfl rfl rfl (by decide) (congrArg Value.int en) rfl ?_
      refine go_s (pc' := 39) rfl rfl rfl rfl ?_
      refine go_saast (pc' := 40) (q := 0) hS rfl rfl tbc_inj (Nat.le_of_ble_eq_true rfl) (Nat.le_of_ble_eq_true rfl) ((hF1.2.2.2 _ (hD.1.2.2 _ (by omega)).2.1 (OW_lt hD.1 (by omega))).trans ha) (am_S_rq w) rfl (by decide) (by decide) (hW _ rfl) rfl (fun h7 hS8 hE9 => ?_)
      have hF10 := fr_trans hF1 (fr_e hE9)
      have hq11 := (hE9.2.2 _ (htc 0 (by decide))).trans hsd
      refine go_s (pc' := 41) rfl rfl rfl rfl ?_
      refine go_s (pc' := 42) rfl rfl rfl rfl ?_
      refine go_sget (pc' := 43) (v := .int 0) hS8 rfl rfl rfl (by decide) (congrArg Value.int en) rfl ?_
      refine go_s (pc' := 44) (st' := [.int 1, .int 0, .ref 32]) rfl rfl rfl rfl ?_
      refine go_s (pc' := 45) (st' := [.int 1, .ref 32]) rfl rfl rfl rfl ?_
      refine go_sput (pc' := 46) hS8 rfl rfl rfl (by decide) tbc_inj (Nat.le_of_ble_eq_true rfl) rfl (hW _ rfl) rfl (fun h12 hS13 hE14 => ?_)
      have hF15 := fr_trans hF10 (fr_e hE14)
      have hq16 := (hE14.2.2 _ (htc 0 (by decide))).trans hq11
      refine go_ret rfl rfl ?_
      have hms : mac q (I, Q, Z) = (mrw I 0 q, Q, Z) := by
        unfold mac
        rw [show stn (I, Q, Z).1 = 0 from es, if_neg]
        rw [hbd]
        intro z
        rcases z with z | z
        · exact absurd z (by decide)
        · simp only [mdup, u6, Bool.or_false, Bool.false_or, Bool.or_self, Bool.false_eq_true] at z
      have hD17 := CD_mrw (n := 0) (q := q) (X2 := (uX X 210 0 (.ref a))) (CD_fr hD hF15) en (by decide) (by show Rq _ ow (.ref a) q; exact Rq_fr hD.1 hF15 ⟨a, rfl, oa, ha⟩) (fun k hk => by simp [uX]; omega) (fun c hc => by funext j; simp [uX, hc])
      rw [hms]
      refine ⟨rfl, ⟨(uX X 210 0 (.ref a)), ow, sb, mrw_sm hS13, hD17, ?_, fun l hl => Nat.le_trans (hQ l hl) hF15.1⟩⟩
      have z := co_fr (I := I) (J := I) hF15 rfl
      show co _ (mrw I 0 q) ≤ _
      have e9 : mrw I 0 q 21 0 = nI 1 := by simp [mrw]
      have e8 : I 21 0 = nI 0 := en
      unfold co at hB z ⊢
      rw [e9]
      rw [e8] at hB z
      rw [nI_clamp (by decide)] at hB z ⊢
      omega
    · skip
      show am_Go _ _ _ _ 16 _ [.int 1] _ _
      refine go_ifP (t' := 18) (pc' := 17) rfl rfl rfl (fun (c : (1 : Int32) = 0) => absurd c (by decide)) (fun _ => ?_)
      refine go_ret rfl rfl ?_
      have hms : mac q (I, Q, Z) = (I, Q, Z) := if_pos (Or.inr (by rw [show stn (I, Q, Z).1 = 0 from es, hbd]; simp only [mdup, u6, Bool.or_true, Bool.true_or, Bool.or_false, Bool.false_or]))
      have hD18 : CD w e m0 h4 I Q Z X ow sb := CD_I (CD_fr hD hF1) ⟨rfl, rfl, rfl, rfl, rfl, rfl, rfl, rfl, rfl, rfl, rfl, rfl, rfl, rfl, rfl⟩
      have hB19 : co h4 I ≤ B + 0 := by
        have := co_fr (I := I) (J := I) hF1 rfl
        have := hB
        omega
      have hC20 : CA w e m0 (B + 0) h4 (I, Q, Z) := ⟨X, ow, sb, hS, hD18, hB19, fun l hl => Nat.le_trans (hQ l hl) hF1.1⟩
      rw [hms]
      exact ⟨rfl, CA_le hC20 (by omega)⟩
  · skip
    have e200 := k5.2.2.2 f3
    have hsd : h[ad 0]? = some (.inl (5, [.int (S 0 0), .ref (ad 1), .ref (ad 2), .ref (ad 3), .ref (ad 4), .ref (ad 5), .ref (ad 6), .ref (ad 7), .int (S 0 1), .int (S 0 2), .ref (ad 8), .int (S 0 3), .null, .ref (ad 9)])) := by
      rw [← e200]
      exact hsc
    refine go_s (pc' := 1) rfl rfl rfl rfl ?_
    refine go_get (pc' := 2) rfl ((hF1.2.2.2 _ (hD.1.2.2 _ (by omega)).2.1 (OW_lt hD.1 (by omega))).trans ha) rfl (by decide) rfl rfl ?_
    rw [q0]
    refine go_s (pc' := 3) (st' := [.int 2, .int (nI t)]) rfl rfl rfl rfl ?_
    refine go_callS (pc' := 4) rfl rfl rfl (Nat.le_of_ble_eq_true rfl) rfl rfl rfl (ct_within_t (n := 2) ht (by decide) (by omega)) (fun r h21 q22 => ?_)
    obtain ⟨rfl, rfl⟩ := q22
    refine go_s (pc' := 5) (lo' := [some (.ref 32), some (.ref a), some (.int 1), none]) rfl rfl rfl rfl ?_
    refine go_s (pc' := 6) rfl rfl rfl rfl ?_
    refine go_ifP (t' := 17) (pc' := 7) rfl rfl rfl (fun (c : (1 : Int32) = 0) => absurd c (by decide)) (fun _ => ?_)
    refine go_s (pc' := 8) rfl rfl rfl rfl ?_
    refine go_sget (pc' := 9) (v := .int 0) hS rfl rfl rfl (by decide) (congrArg Value.int en) rfl ?_
    refine go_s (pc' := 10) (st' := [.int 8, .int 0]) rfl rfl rfl rfl ?_
    refine go_icmpP (t' := 17) (pc' := 11) rfl rfl rfl (fun (c : 8 ≤ (0 : Int32)) => absurd c (by decide)) (fun _ => ?_)
    refine go_s (pc' := 12) rfl rfl rfl rfl ?_
    refine go_s (pc' := 13) rfl rfl rfl rfl ?_
    refine go_sget (pc' := 14) (v := .ref (ad 0)) hS rfl rfl rfl (by decide) k208 rfl ?_
    refine go_get (pc' := 15) rfl hsd rfl (by decide) rfl rfl ?_
    have hbd : mbd (row1 (I, Q, Z) 0) q = false := mbd_f f3
    refine go_callV (pc' := 16) rfl rfl rfl (Nat.le_of_ble_eq_true rfl) rfl ((hF1.2.2.2 _ (hD.1.2.2 _ (by omega)).2.1 (OW_lt hD.1 (by omega))).trans ha) rfl rfl rfl (ct_same_n (by omega)) (fun r h23 q24 => ?_)
    obtain ⟨rfl, rfl⟩ := q24
    refine go_ifP (t' := 18) (pc' := 17) rfl rfl rfl (fun _ => ?_) (fun (c : ¬ ((0 : Int32) = 0)) => absurd (by decide) c)
    refine go_s (pc' := 19) (st' := [.int 0]) rfl rfl rfl rfl ?_
    refine go_s (pc' := 20) (lo' := [some (.ref 32), some (.ref a), some (.int 1), some (.int 0)]) rfl rfl rfl rfl ?_
    refine go_s (pc' := 21) rfl rfl rfl rfl ?_
    refine go_s (pc' := 22) rfl rfl rfl rfl ?_
    refine go_sget (pc' := 23) (v := .int 0) hS rfl rfl rfl (by decide) (congrArg Value.int en) rfl ?_
    refine go_icmpP (t' := 34) (pc' := 24) rfl rfl rfl (fun _ => ?_) (fun (c : ¬ (0 ≤ (0 : Int32))) => absurd (by decide) c)
    refine go_s (pc' := 35) rfl rfl rfl rfl ?_
    refine go_sget (pc' := 36) (v := .ref 57) hS rfl rfl rfl (by decide) rfl rfl ?_
    refine go_s (pc' := 37) rfl rfl rfl rfl ?_
    refine go_sget (pc' := 38) (v := .int 0) hS rfl rfl rfl (by decide) (congrArg Value.int en) rfl ?_
    refine go_s (pc' := 39) rfl rfl rfl rfl ?_
    refine go_saast (pc' := 40) (q := 0) hS rfl rfl tbc_inj (Nat.le_of_ble_eq_true rfl) (Nat.le_of_ble_eq_true rfl) ((hF1.2.2.2 _ (hD.1.2.2 _ (by omega)).2.1 (OW_lt hD.1 (by omega))).trans ha) (am_S_rq w) rfl (by decide) (by decide) (hW _ rfl) rfl (fun h25 hS26 hE27 => ?_)
    have hF28 := fr_trans hF1 (fr_e hE27)
    have hq29 := (hE27.2.2 _ (htc 0 (by decide))).trans hsd
    refine go_s (pc' := 41) rfl rfl rfl rfl ?_
    refine go_s (pc' := 42) rfl rfl rfl rfl ?_
    refine go_sget (pc' := 43) (v := .int 0) hS26 rfl rfl rfl (by decide) (congrArg Value.int en) rfl ?_
    refine go_s (pc' := 44) (st' := [.int 1, .int 0, .ref 32]) rfl rfl rfl rfl ?_
    refine go_s (pc' := 45) (st' := [.int 1, .ref 32]) rfl rfl rfl rfl ?_
    refine go_sput (pc' := 46) hS26 rfl rfl rfl (by decide) tbc_inj (Nat.le_of_ble_eq_true rfl) rfl (hW _ rfl) rfl (fun h30 hS31 hE32 => ?_)
    have hF33 := fr_trans hF28 (fr_e hE32)
    have hq34 := (hE32.2.2 _ (htc 0 (by decide))).trans hq29
    refine go_ret rfl rfl ?_
    have hms : mac q (I, Q, Z) = (mrw I 0 q, Q, Z) := by
      unfold mac
      rw [show stn (I, Q, Z).1 = 0 from es, if_neg]
      rw [hbd]
      intro z
      rcases z with z | z
      · exact absurd z (by decide)
      · simp only [mdup, Bool.or_false, Bool.false_or, Bool.or_self, Bool.false_eq_true] at z
    have hD35 := CD_mrw (n := 0) (q := q) (X2 := (uX X 210 0 (.ref a))) (CD_fr hD hF33) en (by decide) (by show Rq _ ow (.ref a) q; exact Rq_fr hD.1 hF33 ⟨a, rfl, oa, ha⟩) (fun k hk => by simp [uX]; omega) (fun c hc => by funext j; simp [uX, hc])
    rw [hms]
    refine ⟨rfl, ⟨(uX X 210 0 (.ref a)), ow, sb, mrw_sm hS31, hD35, ?_, fun l hl => Nat.le_trans (hQ l hl) hF33.1⟩⟩
    have z := co_fr (I := I) (J := I) hF33 rfl
    show co _ (mrw I 0 q) ≤ _
    have e9 : mrw I 0 q 21 0 = nI 1 := by simp [mrw]
    have e8 : I 21 0 = nI 0 := en
    unfold co at hB z ⊢
    rw [e9]
    rw [e8] at hB z
    rw [nI_clamp (by decide)] at hB z ⊢
    omega
theorem cx_ac_1 {w : Nat → Bool} {d : Nat} {h : am_Hp} {e : Nat} {m0 : mg} {B : Nat} {I : sm_I} {Q : mQ} {Z : mZ} {X : sm_X} {ow : ow_T} {sb : Nat} (hS : sm tbc h I X) (hD : CD w e m0 h I Q Z X ow sb) (hB : co h I ≤ B) (hQ : ∀ l, l < 16 → (Q l).length ≤ h.length) (hB2 : B < 2 ^ 28) (hv : lv I 0 = true) (en : I 21 0 = 1) {a t : Nat} {q : Nat → Int32} (ht : t < 2) (q0 : q 0 = nI t) (oa : ow a = 1) (ha : h[a]? = some (.inl (8, rqf q))) (hd : 2 ≤ d) : am_Ev (am_prog w) d 80 [.ref 32, .ref a] h (fun r h' => r = none ∧ CA w e m0 (B + 700) h' (mac q (I, Q, Z))) := by
  have hW := hD.1.1
  have hWn : ∀ a, List.length h ≤ a → w a = true := fun a ha => (hD.1.2.1 a ha).1
  have hF1 := fr_refl tbc h
  have hln : 62 ≤ List.length h := sm_len hS
  obtain ⟨d, rfl⟩ : ∃ e, d = e + 1 := ⟨d - 1, by omega⟩
  refine ev_go rfl (Nat.le_of_ble_eq_true rfl) rfl ?_
  have hD0 := hD
  have es : stn I = 1 := stn_eq (n := 1) en (by decide)
  obtain ⟨k208, kst, -⟩ := hD.2.2.2.2.1
  obtain ⟨ad, S, Y, k0, hA, k2, k3, k4, k5, hoa, hZ0, hWa, htc⟩ := St_open hD.1 (kst hv)
  change SQ h ow S Y (Z (rwi I 0)) at k5
  rw [← k0] at k208
  have hrw := SP_rw hD.2.2.2.2.1 (n := 1) en (by decide)
  obtain ⟨b0, x0, o0, hb0⟩ := hrw 0 (by decide)
  have hsc := k4 (ad 0) _ _ (tbs_at hA (i := 0) (by decide))
  by_cases f3 : (Z (rwi I 0)).1 3 = 1
  · skip
    obtain ⟨p, t9, hrq, ht9, f4, p0, p1, p2⟩ := k5.2.2.1 f3
    obtain ⟨bq, e200, oq, hbq⟩ := id hrq
    have hsd : h[ad 0]? = some (.inl (5, [.int (S 0 0), .ref (ad 1), .ref (ad 2), .ref (ad 3), .ref (ad 4), .ref (ad 5), .ref (ad 6), .ref (ad 7), .int (S 0 1), .int (S 0 2), .ref (ad 8), .int (S 0 3), .ref bq, .ref (ad 9)])) := by
      rw [← e200]
      exact hsc
    refine go_s (pc' := 1) rfl rfl rfl rfl ?_
    refine go_get (pc' := 2) rfl ((hF1.2.2.2 _ (hD.1.2.2 _ (by omega)).2.1 (OW_lt hD.1 (by omega))).trans ha) rfl (by decide) rfl rfl ?_
    rw [q0]
    refine go_s (pc' := 3) (st' := [.int 2, .int (nI t)]) rfl rfl rfl rfl ?_
    refine go_callS (pc' := 4) rfl rfl rfl (Nat.le_of_ble_eq_true rfl) rfl rfl rfl (ct_within_t (n := 2) ht (by decide) (by omega)) (fun r h2 q3 => ?_)
    obtain ⟨rfl, rfl⟩ := q3
    refine go_s (pc' := 5) (lo' := [some (.ref 32), some (.ref a), some (.int 1), none]) rfl rfl rfl rfl ?_
    refine go_s (pc' := 6) rfl rfl rfl rfl ?_
    refine go_ifP (t' := 17) (pc' := 7) rfl rfl rfl (fun (c : (1 : Int32) = 0) => absurd c (by decide)) (fun _ => ?_)
    refine go_s (pc' := 8) rfl rfl rfl rfl ?_
    refine go_sget (pc' := 9) (v := .int 1) hS rfl rfl rfl (by decide) (congrArg Value.int en) rfl ?_
    refine go_s (pc' := 10) (st' := [.int 8, .int 1]) rfl rfl rfl rfl ?_
    refine go_icmpP (t' := 17) (pc' := 11) rfl rfl rfl (fun (c : 8 ≤ (1 : Int32)) => absurd c (by decide)) (fun _ => ?_)
    refine go_s (pc' := 12) rfl rfl rfl rfl ?_
    refine go_s (pc' := 13) rfl rfl rfl rfl ?_
    refine go_sget (pc' := 14) (v := .ref (ad 0)) hS rfl rfl rfl (by decide) k208 rfl ?_
    refine go_get (pc' := 15) rfl hsd rfl (by decide) rfl rfl ?_
    have hbd : mbd (row1 (I, Q, Z) 0) q = smr q p := mbd_sm f3 ht9 f4 p0 p1 p2
    refine go_callV (pc' := 16) rfl rfl rfl (Nat.le_of_ble_eq_true rfl) rfl ((hF1.2.2.2 _ (hD.1.2.2 _ (by omega)).2.1 (OW_lt hD.1 (by omega))).trans ha) rfl rfl rfl (ct_same (q := q) (p := p) ((hF1.2.2.2 _ (hD.1.2.2 _ (by omega)).2.1 (OW_lt hD.1 (by omega))).trans ha) ((hF1.2.2.2 _ (hD.1.2.2 _ (by omega)).2.1 (OW_lt hD.1 (by omega))).trans hbq) (by omega)) (fun r h4 q5 => ?_)
    obtain ⟨rfl, rfl⟩ := q5
    cases u6 : smr q p
    · skip
      show am_Go _ _ _ _ 16 _ [.int 0] _ _
      refine go_ifP (t' := 18) (pc' := 17) rfl rfl rfl (fun _ => ?_) (fun (c : ¬ ((0 : Int32) = 0)) => absurd (by decide) c)
      refine go_s (pc' := 19) (st' := [.int 0]) rfl rfl rfl rfl ?_
      refine go_s (pc' := 20) (lo' := [some (.ref 32), some (.ref a), some (.int 1), some (.int 0)]) rfl rfl rfl rfl ?_
      refine go_s (pc' := 21) rfl rfl rfl rfl ?_
      refine go_s (pc' := 22) rfl rfl rfl rfl ?_
      refine go_sget (pc' := 23) (v := .int 1) hS rfl rfl rfl (by decide) (congrArg Value.int en) rfl ?_
      refine go_icmpP (t' := 34) (pc' := 24) rfl rfl rfl (fun (c : 1 ≤ (0 : Int32)) => absurd c (by decide)) (fun _ => ?_)
      refine go_s (pc' := 25) rfl rfl rfl rfl ?_
      refine go_s (pc' := 26) rfl rfl rfl rfl ?_
      refine go_sget (pc' := 27) (v := .ref 57) hS rfl rfl rfl (by decide) rfl rfl ?_
      refine go_s (pc' := 28) rfl rfl rfl rfl ?_
      refine go_sald (pc' := 29) (q := 0) (v := .ref b0) hS rfl rfl rfl rfl (by decide) x0 rfl ?_
      refine go_callV (pc' := 30) rfl rfl rfl (Nat.le_of_ble_eq_true rfl) rfl ((hF1.2.2.2 _ (hD.1.2.2 _ (by omega)).2.1 (OW_lt hD.1 (by omega))).trans ha) rfl rfl rfl (ct_same (q := q) (p := (fun i => I 20 (7 * 0 + i))) ((hF1.2.2.2 _ (hD.1.2.2 _ (by omega)).2.1 (OW_lt hD.1 (by omega))).trans ha) ((hF1.2.2.2 _ (hD.1.2.2 _ (by omega)).2.1 (OW_lt hD.1 (by omega))).trans hb0) (by omega)) (fun r h7 q8 => ?_)
      obtain ⟨rfl, rfl⟩ := q8
      cases u9 : smr q (fun i => I 20 (7 * 0 + i))
      · skip
        show am_Go _ _ _ _ 30 _ [.int 0] _ _
        refine go_ifP (t' := 32) (pc' := 31) rfl rfl rfl (fun _ => ?_) (fun (c : ¬ ((0 : Int32) = 0)) => absurd (by decide) c)
        refine go_s (pc' := 33) (lo' := [some (.ref 32), some (.ref a), some (.int 1), some (.int 1)]) rfl rfl rfl rfl ?_
        refine go_s (pc' := 20) rfl rfl rfl rfl ?_
        refine go_s (pc' := 21) rfl rfl rfl rfl ?_
        refine go_s (pc' := 22) rfl rfl rfl rfl ?_
        refine go_sget (pc' := 23) (v := .int 1) hS rfl rfl rfl (by decide) (congrArg Value.int en) rfl ?_
        refine go_icmpP (t' := 34) (pc' := 24) rfl rfl rfl (fun _ => ?_) (fun (c : ¬ (1 ≤ (1 : Int32))) => absurd (by decide) c)
        refine go_s (pc' := 35) rfl rfl rfl rfl ?_
        refine go_sget (pc' := 36) (v := .ref 57) hS rfl rfl rfl (by decide) rfl rfl ?_
        refine go_s (pc' := 37) rfl rfl rfl rfl ?_
        refine go_sget (pc' := 38) (v := .int 1) hS rfl rfl rfl (by decide) (congrArg Value.int en) rfl ?_
        refine go_s (pc' := 39) rfl rfl rfl rfl ?_
        refine go_saast (pc' := 40) (q := 1) hS rfl rfl tbc_inj (Nat.le_of_ble_eq_true rfl) (Nat.le_of_ble_eq_true rfl) ((hF1.2.2.2 _ (hD.1.2.2 _ (by omega)).2.1 (OW_lt hD.1 (by omega))).trans ha) (am_S_rq w) rfl (by decide) (by decide) (hW _ rfl) rfl (fun h10 hS11 hE12 => ?_)
        have hF13 := fr_trans hF1 (fr_e hE12)
        have hq14 := (hE12.2.2 _ (htc 0 (by decide))).trans hsd
        refine go_s (pc' := 41) rfl rfl rfl rfl ?_
        refine go_s (pc' := 42) rfl rfl rfl rfl ?_
        refine go_sget (pc' := 43) (v := .int 1) hS11 rfl rfl rfl (by decide) (congrArg Value.int en) rfl ?_
        refine go_s (pc' := 44) (st' := [.int 1, .int 1, .ref 32]) rfl rfl rfl rfl ?_
        refine go_s (pc' := 45) (st' := [.int 2, .ref 32]) rfl rfl rfl rfl ?_
        refine go_sput (pc' := 46) hS11 rfl rfl rfl (by decide) tbc_inj (Nat.le_of_ble_eq_true rfl) rfl (hW _ rfl) rfl (fun h15 hS16 hE17 => ?_)
        have hF18 := fr_trans hF13 (fr_e hE17)
        have hq19 := (hE17.2.2 _ (htc 0 (by decide))).trans hq14
        refine go_ret rfl rfl ?_
        have hms : mac q (I, Q, Z) = (mrw I 1 q, Q, Z) := by
          unfold mac
          rw [show stn (I, Q, Z).1 = 1 from es, if_neg]
          rw [hbd]
          intro z
          rcases z with z | z
          · exact absurd z (by decide)
          · simp only [mdup, u6, u9, Bool.or_false, Bool.false_or, Bool.or_self, Bool.false_eq_true] at z
        have hD20 := CD_mrw (n := 1) (q := q) (X2 := (uX X 210 1 (.ref a))) (CD_fr hD hF18) en (by decide) (by show Rq _ ow (.ref a) q; exact Rq_fr hD.1 hF18 ⟨a, rfl, oa, ha⟩) (fun k hk => by simp [uX]; omega) (fun c hc => by funext j; simp [uX, hc])
        rw [hms]
        refine ⟨rfl, ⟨(uX X 210 1 (.ref a)), ow, sb, mrw_sm hS16, hD20, ?_, fun l hl => Nat.le_trans (hQ l hl) hF18.1⟩⟩
        have z := co_fr (I := I) (J := I) hF18 rfl
        show co _ (mrw I 1 q) ≤ _
        have e9 : mrw I 1 q 21 0 = nI 2 := by simp [mrw]
        have e8 : I 21 0 = nI 1 := en
        unfold co at hB z ⊢
        rw [e9]
        rw [e8] at hB z
        rw [nI_clamp (by decide)] at hB z ⊢
        omega
      · skip
        show am_Go _ _ _ _ 30 _ [.int 1] _ _
        refine go_ifP (t' := 32) (pc' := 31) rfl rfl rfl (fun (c : (1 : Int32) = 0) => absurd c (by decide)) (fun _ => ?_)
        refine go_ret rfl rfl ?_
        have hms : mac q (I, Q, Z) = (I, Q, Z) := if_pos (Or.inr (by rw [show stn (I, Q, Z).1 = 1 from es, hbd]; simp only [mdup, u6, u9, Bool.or_true, Bool.true_or, Bool.or_false, Bool.false_or]))
        have hD21 : CD w e m0 h7 I Q Z X ow sb := CD_I (CD_fr hD hF1) ⟨rfl, rfl, rfl, rfl, rfl, rfl, rfl, rfl, rfl, rfl, rfl, rfl, rfl, rfl, rfl⟩
        have hB22 : co h7 I ≤ B + 0 := by
          have := co_fr (I := I) (J := I) hF1 rfl
          have := hB
          omega
        have hC23 : CA w e m0 (B + 0) h7 (I, Q, Z) := ⟨X, ow, sb, hS, hD21, hB22, fun l hl => Nat.le_trans (hQ l hl) hF1.1⟩
        rw [hms]
        exact ⟨rfl, CA_le hC23 (by omega)⟩
    · skip
      show am_Go _ _ _ _ 16 _ [.int 1] _ _
      refine go_ifP (t' := 18) (pc' := 17) rfl rfl rfl (fun (c : (1 : Int32) = 0) => absurd c (by decide)) (fun _ => ?_)
      refine go_ret rfl rfl ?_
      have hms : mac q (I, Q, Z) = (I, Q, Z) := if_pos (Or.inr (by rw [show stn (I, Q, Z).1 = 1 from es, hbd]; simp only [mdup, u6, Bool.or_true, Bool.true_or, Bool.or_false, Bool.false_or]))
      have hD24 : CD w e m0 h4 I Q Z X ow sb := CD_I (CD_fr hD hF1) ⟨rfl, rfl, rfl, rfl, rfl, rfl, rfl, rfl, rfl, rfl, rfl, rfl, rfl, rfl, rfl⟩
      have hB25 : co h4 I ≤ B + 0 := by
        have := co_fr (I := I) (J := I) hF1 rfl
        have := hB
        omega
      have hC26 : CA w e m0 (B + 0) h4 (I, Q, Z) := ⟨X, ow, sb, hS, hD24, hB25, fun l hl => Nat.le_trans (hQ l hl) hF1.1⟩
      rw [hms]
      exact ⟨rfl, CA_le hC26 (by omega)⟩
  · skip
    have e200 := k5.2.2.2 f3
    have hsd : h[ad 0]? = some (.inl (5, [.int (S 0 0), .ref (ad 1), .ref (ad 2), .ref (ad 3), .ref (ad 4), .ref (ad 5), .ref (ad 6), .ref (ad 7), .int (S 0 1), .int (S 0 2), .ref (ad 8), .int (S 0 3), .null, .ref (ad 9)])) := by
      rw [← e200]
      exact hsc
    refine go_s (pc' := 1) rfl rfl rfl rfl ?_
    refine go_get (pc' := 2) rfl ((hF1.2.2.2 _ (hD.1.2.2 _ (by omega)).2.1 (OW_lt hD.1 (by omega))).trans ha) rfl (by decide) rfl rfl ?_
    rw [q0]
    refine go_s (pc' := 3) (st' := [.int 2, .int (nI t)]) rfl rfl rfl rfl ?_
    refine go_callS (pc' := 4) rfl rfl rfl (Nat.le_of_ble_eq_true rfl) rfl rfl rfl (ct_within_t (n := 2) ht (by decide) (by omega)) (fun r h27 q28 => ?_)
    obtain ⟨rfl, rfl⟩ := q28
    refine go_s (pc' := 5) (lo' := [some (.ref 32), some (.ref a), some (.int 1), none]) rfl rfl rfl rfl ?_
    refine go_s (pc' := 6) rfl rfl rfl rfl ?_
    refine go_ifP (t' := 17) (pc' := 7) rfl rfl rfl (fun (c : (1 : Int32) = 0) => absurd c (by decide)) (fun _ => ?_)
    refine go_s (pc' := 8) rfl rfl rfl rfl ?_
    refine go_sget (pc' := 9) (v := .int 1) hS rfl rfl rfl (by decide) (congrArg Value.int en) rfl ?_
    refine go_s (pc' := 10) (st' := [.int 8, .int 1]) rfl rfl rfl rfl ?_
    refine go_icmpP (t' := 17) (pc' := 11) rfl rfl rfl (fun (c : 8 ≤ (1 : Int32)) => absurd c (by decide)) (fun _ => ?_)
    refine go_s (pc' := 12) rfl rfl rfl rfl ?_
    refine go_s (pc' := 13) rfl rfl rfl rfl ?_
    refine go_sget (pc' := 14) (v := .ref (ad 0)) hS rfl rfl rfl (by decide) k208 rfl ?_
    refine go_get (pc' := 15) rfl hsd rfl (by decide) rfl rfl ?_
    have hbd : mbd (row1 (I, Q, Z) 0) q = false := mbd_f f3
    refine go_callV (pc' := 16) rfl rfl rfl (Nat.le_of_ble_eq_true rfl) rfl ((hF1.2.2.2 _ (hD.1.2.2 _ (by omega)).2.1 (OW_lt hD.1 (by omega))).trans ha) rfl rfl rfl (ct_same_n (by omega)) (fun r h29 q30 => ?_)
    obtain ⟨rfl, rfl⟩ := q30
    refine go_ifP (t' := 18) (pc' := 17) rfl rfl rfl (fun _ => ?_) (fun (c : ¬ ((0 : Int32) = 0)) => absurd (by decide) c)
    refine go_s (pc' := 19) (st' := [.int 0]) rfl rfl rfl rfl ?_
    refine go_s (pc' := 20) (lo' := [some (.ref 32), some (.ref a), some (.int 1), some (.int 0)]) rfl rfl rfl rfl ?_
    refine go_s (pc' := 21) rfl rfl rfl rfl ?_
    refine go_s (pc' := 22) rfl rfl rfl rfl ?_
    refine go_sget (pc' := 23) (v := .int 1) hS rfl rfl rfl (by decide) (congrArg Value.int en) rfl ?_
    refine go_icmpP (t' := 34) (pc' := 24) rfl rfl rfl (fun (c : 1 ≤ (0 : Int32)) => absurd c (by decide)) (fun _ => ?_)
    refine go_s (pc' := 25) rfl rfl rfl rfl ?_
    refine go_s (pc' := 26) rfl rfl rfl rfl ?_
    refine go_sget (pc' := 27) (v := .ref 57) hS rfl rfl rfl (by decide) rfl rfl ?_
    refine go_s (pc' := 28) rfl rfl rfl rfl ?_
    refine go_sald (pc' := 29) (q := 0) (v := .ref b0) hS rfl rfl rfl rfl (by decide) x0 rfl ?_
    refine go_callV (pc' := 30) rfl rfl rfl (Nat.le_of_ble_eq_true rfl) rfl ((hF1.2.2.2 _ (hD.1.2.2 _ (by omega)).2.1 (OW_lt hD.1 (by omega))).trans ha) rfl rfl rfl (ct_same (q := q) (p := (fun i => I 20 (7 * 0 + i))) ((hF1.2.2.2 _ (hD.1.2.2 _ (by omega)).2.1 (OW_lt hD.1 (by omega))).trans ha) ((hF1.2.2.2 _ (hD.1.2.2 _ (by omega)).2.1 (OW_lt hD.1 (by omega))).trans hb0) (by omega)) (fun r h31 q32 => ?_)
    obtain ⟨rfl, rfl⟩ := q32
    cases u33 : smr q (fun i => I 20 (7 * 0 + i))
    · skip
      show am_Go _ _ _ _ 30 _ [.int 0] _ _
      refine go_ifP (t' := 32) (pc' := 31) rfl rfl rfl (fun _ => ?_) (fun (c : ¬ ((0 : Int32) = 0)) => absurd (by decide) c)
      refine go_s (pc' := 33) (lo' := [some (.ref 32), some (.ref a), some (.int 1), some (.int 1)]) rfl rfl rfl rfl ?_
      refine go_s (pc' := 20) rfl rfl rfl rfl ?_
      refine go_s (pc' := 21) rfl rfl rfl rfl ?_
      refine go_s (pc' := 22) rfl rfl rfl rfl ?_
      refine go_sget (pc' := 23) (v := .int 1) hS rfl rfl rfl (by decide) (congrArg Value.int en) rfl ?_
      refine go_icmpP (t' := 34) (pc' := 24) rfl rfl rfl (fun _ => ?_) (fun (c : ¬ (1 ≤ (1 : Int32))) => absurd (by decide) c)
      refine go_s (pc' := 35) rfl rfl rfl rfl ?_
      refine go_sget (pc' := 36) (v := .ref 57) hS rfl rfl rfl (by decide) rfl rfl ?_
      refine go_s (pc' := 37) rfl rfl rfl rfl ?_
      refine go_sget (pc' := 38) (v := .int 1) hS rfl rfl rfl (by decide) (congrArg Value.int en) rfl ?_
      refine go_s (pc' := 39) rfl rfl rfl rfl ?_
      refine go_saast (pc' := 40) (q := 1) hS rfl rfl tbc_inj (Nat.le_of_ble_eq_true rfl) (Nat.le_of_ble_eq_true rfl) ((hF1.2.2.2 _ (hD.1.2.2 _ (by omega)).2.1 (OW_lt hD.1 (by omega))).trans ha) (am_S_rq w) rfl (by decide) (by decide) (hW _ rfl) rfl (fun h34 hS35 hE36 => ?_)
      have hF37 := fr_trans hF1 (fr_e hE36)
      have hq38 := (hE36.2.2 _ (htc 0 (by decide))).trans hsd
      refine go_s (pc' := 41) rfl rfl rfl rfl ?_
      refine go_s (pc' := 42) rfl rfl rfl rfl ?_
      refine go_sget (pc' := 43) (v := .int 1) hS35 rfl rfl rfl (by decide) (congrArg Value.int en) rfl ?_
      refine go_s (pc' := 44) (st' := [.int 1, .int 1, .ref 32]) rfl rfl rfl rfl ?_
      refine go_s (pc' := 45) (st' := [.int 2, .ref 32]) rfl rfl rfl rfl ?_
      refine go_sput (pc' := 46) hS35 rfl rfl rfl (by decide) tbc_inj (Nat.le_of_ble_eq_true rfl) rfl (hW _ rfl) rfl (fun h39 hS40 hE41 => ?_)
      have hF42 := fr_trans hF37 (fr_e hE41)
      have hq43 := (hE41.2.2 _ (htc 0 (by decide))).trans hq38
      refine go_ret rfl rfl ?_
      have hms : mac q (I, Q, Z) = (mrw I 1 q, Q, Z) := by
        unfold mac
        rw [show stn (I, Q, Z).1 = 1 from es, if_neg]
        rw [hbd]
        intro z
        rcases z with z | z
        · exact absurd z (by decide)
        · simp only [mdup, u33, Bool.or_false, Bool.false_or, Bool.or_self, Bool.false_eq_true] at z
      have hD44 := CD_mrw (n := 1) (q := q) (X2 := (uX X 210 1 (.ref a))) (CD_fr hD hF42) en (by decide) (by show Rq _ ow (.ref a) q; exact Rq_fr hD.1 hF42 ⟨a, rfl, oa, ha⟩) (fun k hk => by simp [uX]; omega) (fun c hc => by funext j; simp [uX, hc])
      rw [hms]
      refine ⟨rfl, ⟨(uX X 210 1 (.ref a)), ow, sb, mrw_sm hS40, hD44, ?_, fun l hl => Nat.le_trans (hQ l hl) hF42.1⟩⟩
      have z := co_fr (I := I) (J := I) hF42 rfl
      show co _ (mrw I 1 q) ≤ _
      have e9 : mrw I 1 q 21 0 = nI 2 := by simp [mrw]
      have e8 : I 21 0 = nI 1 := en
      unfold co at hB z ⊢
      rw [e9]
      rw [e8] at hB z
      rw [nI_clamp (by decide)] at hB z ⊢
      omega
    · skip
      show am_Go _ _ _ _ 30 _ [.int 1] _ _
      refine go_ifP (t' := 32) (pc' := 31) rfl rfl rfl (fun (c : (1 : Int32) = 0) => absurd c (by decide)) (fun _ => ?_)
      refine go_ret rfl rfl ?_
      have hms : mac q (I, Q, Z) = (I, Q, Z) := if_pos (Or.inr (by rw [show stn (I, Q, Z).1 = 1 from es, hbd]; simp only [mdup, u33, Bool.or_true, Bool.true_or, Bool.or_false, Bool.false_or]))
      have hD45 : CD w e m0 h31 I Q Z X ow sb := CD_I (CD_fr hD hF1) ⟨rfl, rfl, rfl, rfl, rfl, rfl, rfl, rfl, rfl, rfl, rfl, rfl, rfl, rfl, rfl⟩
      have hB46 : co h31 I ≤ B + 0 := by
        have := co_fr (I := I) (J := I) hF1 rfl
        have := hB
        omega
      have hC47 : CA w e m0 (B + 0) h31 (I, Q, Z) := ⟨X, ow, sb, hS, hD45, hB46, fun l hl => Nat.le_trans (hQ l hl) hF1.1⟩
      rw [hms]
      exact ⟨rfl, CA_le hC47 (by omega)⟩
theorem cx_ac_2 {w : Nat → Bool} {d : Nat} {h : am_Hp} {e : Nat} {m0 : mg} {B : Nat} {I : sm_I} {Q : mQ} {Z : mZ} {X : sm_X} {ow : ow_T} {sb : Nat} (hS : sm tbc h I X) (hD : CD w e m0 h I Q Z X ow sb) (hB : co h I ≤ B) (hQ : ∀ l, l < 16 → (Q l).length ≤ h.length) (hB2 : B < 2 ^ 28) (hv : lv I 0 = true) (en : I 21 0 = 2) {a t : Nat} {q : Nat → Int32} (ht : t < 2) (q0 : q 0 = nI t) (oa : ow a = 1) (ha : h[a]? = some (.inl (8, rqf q))) (hd : 2 ≤ d) : am_Ev (am_prog w) d 80 [.ref 32, .ref a] h (fun r h' => r = none ∧ CA w e m0 (B + 700) h' (mac q (I, Q, Z))) := by
  have hW := hD.1.1
  have hWn : ∀ a, List.length h ≤ a → w a = true := fun a ha => (hD.1.2.1 a ha).1
  have hF1 := fr_refl tbc h
  have hln : 62 ≤ List.length h := sm_len hS
  obtain ⟨d, rfl⟩ : ∃ e, d = e + 1 := ⟨d - 1, by omega⟩
  refine ev_go rfl (Nat.le_of_ble_eq_true rfl) rfl ?_
  have hD0 := hD
  have es : stn I = 2 := stn_eq (n := 2) en (by decide)
  obtain ⟨k208, kst, -⟩ := hD.2.2.2.2.1
  obtain ⟨ad, S, Y, k0, hA, k2, k3, k4, k5, hoa, hZ0, hWa, htc⟩ := St_open hD.1 (kst hv)
  change SQ h ow S Y (Z (rwi I 0)) at k5
  rw [← k0] at k208
  have hrw := SP_rw hD.2.2.2.2.1 (n := 2) en (by decide)
  obtain ⟨b0, x0, o0, hb0⟩ := hrw 0 (by decide)
  obtain ⟨b1, x1, o1, hb1⟩ := hrw 1 (by decide)
  have hsc := k4 (ad 0) _ _ (tbs_at hA (i := 0) (by decide))
  by_cases f3 : (Z (rwi I 0)).1 3 = 1
  · skip
    obtain ⟨p, t9, hrq, ht9, f4, p0, p1, p2⟩ := k5.2.2.1 f3
    obtain ⟨bq, e200, oq, hbq⟩ := id hrq
    have hsd : h[ad 0]? = some (.inl (5, [.int (S 0 0), .ref (ad 1), .ref (ad 2), .ref (ad 3), .ref (ad 4), .ref (ad 5), .ref (ad 6), .ref (ad 7), .int (S 0 1), .int (S 0 2), .ref (ad 8), .int (S 0 3), .ref bq, .ref (ad 9)])) := by
      rw [← e200]
      exact hsc
    refine go_s (pc' := 1) rfl rfl rfl rfl ?_
    refine go_get (pc' := 2) rfl ((hF1.2.2.2 _ (hD.1.2.2 _ (by omega)).2.1 (OW_lt hD.1 (by omega))).trans ha) rfl (by decide) rfl rfl ?_
    rw [q0]
    refine go_s (pc' := 3) (st' := [.int 2, .int (nI t)]) rfl rfl rfl rfl ?_
    refine go_callS (pc' := 4) rfl rfl rfl (Nat.le_of_ble_eq_true rfl) rfl rfl rfl (ct_within_t (n := 2) ht (by decide) (by omega)) (fun r h2 q3 => ?_)
    obtain ⟨rfl, rfl⟩ := q3
    refine go_s (pc' := 5) (lo' := [some (.ref 32), some (.ref a), some (.int 1), none]) rfl rfl rfl rfl ?_
    refine go_s (pc' := 6) rfl rfl rfl rfl ?_
    refine go_ifP (t' := 17) (pc' := 7) rfl rfl rfl (fun (c : (1 : Int32) = 0) => absurd c (by decide)) (fun _ => ?_)
    refine go_s (pc' := 8) rfl rfl rfl rfl ?_
    refine go_sget (pc' := 9) (v := .int 2) hS rfl rfl rfl (by decide) (congrArg Value.int en) rfl ?_
    refine go_s (pc' := 10) (st' := [.int 8, .int 2]) rfl rfl rfl rfl ?_
    refine go_icmpP (t' := 17) (pc' := 11) rfl rfl rfl (fun (c : 8 ≤ (2 : Int32)) => absurd c (by decide)) (fun _ => ?_)
    refine go_s (pc' := 12) rfl rfl rfl rfl ?_
    refine go_s (pc' := 13) rfl rfl rfl rfl ?_
    refine go_sget (pc' := 14) (v := .ref (ad 0)) hS rfl rfl rfl (by decide) k208 rfl ?_
    refine go_get (pc' := 15) rfl hsd rfl (by decide) rfl rfl ?_
    have hbd : mbd (row1 (I, Q, Z) 0) q = smr q p := mbd_sm f3 ht9 f4 p0 p1 p2
    refine go_callV (pc' := 16) rfl rfl rfl (Nat.le_of_ble_eq_true rfl) rfl ((hF1.2.2.2 _ (hD.1.2.2 _ (by omega)).2.1 (OW_lt hD.1 (by omega))).trans ha) rfl rfl rfl (ct_same (q := q) (p := p) ((hF1.2.2.2 _ (hD.1.2.2 _ (by omega)).2.1 (OW_lt hD.1 (by omega))).trans ha) ((hF1.2.2.2 _ (hD.1.2.2 _ (by omega)).2.1 (OW_lt hD.1 (by omega))).trans hbq) (by omega)) (fun r h4 q5 => ?_)
    obtain ⟨rfl, rfl⟩ := q5
    cases u6 : smr q p
    · skip
      show am_Go _ _ _ _ 16 _ [.int 0] _ _
      refine go_ifP (t' := 18) (pc' := 17) rfl rfl rfl (fun _ => ?_) (fun (c : ¬ ((0 : Int32) = 0)) => absurd (by decide) c)
      refine go_s (pc' := 19) (st' := [.int 0]) rfl rfl rfl rfl ?_
      refine go_s (pc' := 20) (lo' := [some (.ref 32), some (.ref a), some (.int 1), some (.int 0)]) rfl rfl rfl rfl ?_
      refine go_s (pc' := 21) rfl rfl rfl rfl ?_
      refine go_s (pc' := 22) rfl rfl rfl rfl ?_
      refine go_sget (pc' := 23) (v := .int 2) hS rfl rfl rfl (by decide) (congrArg Value.int en) rfl ?_
      refine go_icmpP (t' := 34) (pc' := 24) rfl rfl rfl (fun (c : 2 ≤ (0 : Int32)) => absurd c (by decide)) (fun _ => ?_)
      refine go_s (pc' := 25) rfl rfl rfl rfl ?_
      refine go_s (pc' := 26) rfl rfl rfl rfl ?_
      refine go_sget (pc' := 27) (v := .ref 57) hS rfl rfl rfl (by decide) rfl rfl ?_
      refine go_s (pc' := 28) rfl rfl rfl rfl ?_
      refine go_sald (pc' := 29) (q := 0) (v := .ref b0) hS rfl rfl rfl rfl (by decide) x0 rfl ?_
      refine go_callV (pc' := 30) rfl rfl rfl (Nat.le_of_ble_eq_true rfl) rfl ((hF1.2.2.2 _ (hD.1.2.2 _ (by omega)).2.1 (OW_lt hD.1 (by omega))).trans ha) rfl rfl rfl (ct_same (q := q) (p := (fun i => I 20 (7 * 0 + i))) ((hF1.2.2.2 _ (hD.1.2.2 _ (by omega)).2.1 (OW_lt hD.1 (by omega))).trans ha) ((hF1.2.2.2 _ (hD.1.2.2 _ (by omega)).2.1 (OW_lt hD.1 (by omega))).trans hb0) (by omega)) (fun r h7 q8 => ?_)
      obtain ⟨rfl, rfl⟩ := q8
      cases u9 : smr q (fun i => I 20 (7 * 0 + i))
      · skip
        show am_Go _ _ _ _ 30 _ [.int 0] _ _
        refine go_ifP (t' := 32) (pc' := 31) rfl rfl rfl (fun _ => ?_) (fun (c : ¬ ((0 : Int32) = 0)) => absurd (by decide) c)
        refine go_s (pc' := 33) (lo' := [some (.ref 32), some (.ref a), some (.int 1), some (.int 1)]) rfl rfl rfl rfl ?_
        refine go_s (pc' := 20) rfl rfl rfl rfl ?_
        refine go_s (pc' := 21) rfl rfl rfl rfl ?_
        refine go_s (pc' := 22) rfl rfl rfl rfl ?_
        refine go_sget (pc' := 23) (v := .int 2) hS rfl rfl rfl (by decide) (congrArg Value.int en) rfl ?_
        refine go_icmpP (t' := 34) (pc' := 24) rfl rfl rfl (fun (c : 2 ≤ (1 : Int32)) => absurd c (by decide)) (fun _ => ?_)
        refine go_s (pc' := 25) rfl rfl rfl rfl ?_
        refine go_s (pc' := 26) rfl rfl rfl rfl ?_
        refine go_sget (pc' := 27) (v := .ref 57) hS rfl rfl rfl (by decide) rfl rfl ?_
        refine go_s (pc' := 28) rfl rfl rfl rfl ?_
        refine go_sald (pc' := 29) (q := 1) (v := .ref b1) hS rfl rfl rfl rfl (by decide) x1 rfl ?_
        refine go_callV (pc' := 30) rfl rfl rfl (Nat.le_of_ble_eq_true rfl) rfl ((hF1.2.2.2 _ (hD.1.2.2 _ (by omega)).2.1 (OW_lt hD.1 (by omega))).trans ha) rfl rfl rfl (ct_same (q := q) (p := (fun i => I 20 (7 * 1 + i))) ((hF1.2.2.2 _ (hD.1.2.2 _ (by omega)).2.1 (OW_lt hD.1 (by omega))).trans ha) ((hF1.2.2.2 _ (hD.1.2.2 _ (by omega)).2.1 (OW_lt hD.1 (by omega))).trans hb1) (by omega)) (fun r h10 q11 => ?_)
        obtain ⟨rfl, rfl⟩ := q11
        cases u12 : smr q (fun i => I 20 (7 * 1 + i))
        · skip
          show am_Go _ _ _ _ 30 _ [.int 0] _ _
          refine go_ifP (t' := 32) (pc' := 31) rfl rfl rfl (fun _ => ?_) (fun (c : ¬ ((0 : Int32) = 0)) => absurd (by decide) c)
          refine go_s (pc' := 33) (lo' := [some (.ref 32), some (.ref a), some (.int 1), some (.int 2)]) rfl rfl rfl rfl ?_
          refine go_s (pc' := 20) rfl rfl rfl rfl ?_
          refine go_s (pc' := 21) rfl rfl rfl rfl ?_
          refine go_s (pc' := 22) rfl rfl rfl rfl ?_
          refine go_sget (pc' := 23) (v := .int 2) hS rfl rfl rfl (by decide) (congrArg Value.int en) rfl ?_
          refine go_icmpP (t' := 34) (pc' := 24) rfl rfl rfl (fun _ => ?_) (fun (c : ¬ (2 ≤ (2 : Int32))) => absurd (by decide) c)
          refine go_s (pc' := 35) rfl rfl rfl rfl ?_
          refine go_sget (pc' := 36) (v := .ref 57) hS rfl rfl rfl (by decide) rfl rfl ?_
          refine go_s (pc' := 37) rfl rfl rfl rfl ?_
          refine go_sget (pc' := 38) (v := .int 2) hS rfl rfl rfl (by decide) (congrArg Value.int en) rfl ?_
          refine go_s (pc' := 39) rfl rfl rfl rfl ?_
          refine go_saast (pc' := 40) (q := 2) hS rfl rfl tbc_inj (Nat.le_of_ble_eq_true rfl) (Nat.le_of_ble_eq_true rfl) ((hF1.2.2.2 _ (hD.1.2.2 _ (by omega)).2.1 (OW_lt hD.1 (by omega))).trans ha) (am_S_rq w) rfl (by decide) (by decide) (hW _ rfl) rfl (fun h13 hS14 hE15 => ?_)
          have hF16 := fr_trans hF1 (fr_e hE15)
          have hq17 := (hE15.2.2 _ (htc 0 (by decide))).trans hsd
          refine go_s (pc' := 41) rfl rfl rfl rfl ?_
          refine go_s (pc' := 42) rfl rfl rfl rfl ?_
          refine go_sget (pc' := 43) (v := .int 2) hS14 rfl rfl rfl (by decide) (congrArg Value.int en) rfl ?_
          refine go_s (pc' := 44) (st' := [.int 1, .int 2, .ref 32]) rfl rfl rfl rfl ?_
          refine go_s (pc' := 45) (st' := [.int 3, .ref 32]) rfl rfl rfl rfl ?_
          refine go_sput (pc' := 46) hS14 rfl rfl rfl (by decide) tbc_inj (Nat.le_of_ble_eq_true rfl) rfl (hW _ rfl) rfl (fun h18 hS19 hE20 => ?_)
          have hF21 := fr_trans hF16 (fr_e hE20)
          have hq22 := (hE20.2.2 _ (htc 0 (by decide))).trans hq17
          refine go_ret rfl rfl ?_
          have hms : mac q (I, Q, Z) = (mrw I 2 q, Q, Z) := by
            unfold mac
            rw [show stn (I, Q, Z).1 = 2 from es, if_neg]
            rw [hbd]
            intro z
            rcases z with z | z
            · exact absurd z (by decide)
            · simp only [mdup, u6, u9, u12, Bool.or_false, Bool.false_or, Bool.or_self, Bool.false_eq_true] at z
          have hD23 := CD_mrw (n := 2) (q := q) (X2 := (uX X 210 2 (.ref a))) (CD_fr hD hF21) en (by decide) (by show Rq _ ow (.ref a) q; exact Rq_fr hD.1 hF21 ⟨a, rfl, oa, ha⟩) (fun k hk => by simp [uX]; omega) (fun c hc => by funext j; simp [uX, hc])
          rw [hms]
          refine ⟨rfl, ⟨(uX X 210 2 (.ref a)), ow, sb, mrw_sm hS19, hD23, ?_, fun l hl => Nat.le_trans (hQ l hl) hF21.1⟩⟩
          have z := co_fr (I := I) (J := I) hF21 rfl
          show co _ (mrw I 2 q) ≤ _
          have e9 : mrw I 2 q 21 0 = nI 3 := by simp [mrw]
          have e8 : I 21 0 = nI 2 := en
          unfold co at hB z ⊢
          rw [e9]
          rw [e8] at hB z
          rw [nI_clamp (by decide)] at hB z ⊢
          omega
        · skip
          show am_Go _ _ _ _ 30 _ [.int 1] _ _
          refine go_ifP (t' := 32) (pc' := 31) rfl rfl rfl (fun (c : (1 : Int32) = 0) => absurd c (by decide)) (fun _ => ?_)
          refine go_ret rfl rfl ?_
          have hms : mac q (I, Q, Z) = (I, Q, Z) := if_pos (Or.inr (by rw [show stn (I, Q, Z).1 = 2 from es, hbd]; simp only [mdup, u6, u9, u12, Bool.or_true, Bool.true_or, Bool.or_false, Bool.false_or]))
          have hD24 : CD w e m0 h10 I Q Z X ow sb := CD_I (CD_fr hD hF1) ⟨rfl, rfl, rfl, rfl, rfl, rfl, rfl, rfl, rfl, rfl, rfl, rfl, rfl, rfl, rfl⟩
          have hB25 : co h10 I ≤ B + 0 := by
            have := co_fr (I := I) (J := I) hF1 rfl
            have := hB
            omega
          have hC26 : CA w e m0 (B + 0) h10 (I, Q, Z) := ⟨X, ow, sb, hS, hD24, hB25, fun l hl => Nat.le_trans (hQ l hl) hF1.1⟩
          rw [hms]
          exact ⟨rfl, CA_le hC26 (by omega)⟩
      · skip
        show am_Go _ _ _ _ 30 _ [.int 1] _ _
        refine go_ifP (t' := 32) (pc' := 31) rfl rfl rfl (fun (c : (1 : Int32) = 0) => absurd c (by decide)) (fun _ => ?_)
        refine go_ret rfl rfl ?_
        have hms : mac q (I, Q, Z) = (I, Q, Z) := if_pos (Or.inr (by rw [show stn (I, Q, Z).1 = 2 from es, hbd]; simp only [mdup, u6, u9, Bool.or_true, Bool.true_or, Bool.or_false, Bool.false_or]))
        have hD27 : CD w e m0 h7 I Q Z X ow sb := CD_I (CD_fr hD hF1) ⟨rfl, rfl, rfl, rfl, rfl, rfl, rfl, rfl, rfl, rfl, rfl, rfl, rfl, rfl, rfl⟩
        have hB28 : co h7 I ≤ B + 0 := by
          have := co_fr (I := I) (J := I) hF1 rfl
          have := hB
          omega
        have hC29 : CA w e m0 (B + 0) h7 (I, Q, Z) := ⟨X, ow, sb, hS, hD27, hB28, fun l hl => Nat.le_trans (hQ l hl) hF1.1⟩
        rw [hms]
        exact ⟨rfl, CA_le hC29 (by omega)⟩
    · skip
      show am_Go _ _ _ _ 16 _ [.int 1] _ _
      refine go_ifP (t' := 18) (pc' := 17) rfl rfl rfl (fun (c : (1 : Int32) = 0) => absurd c (by decide)) (fun _ => ?_)
      refine go_ret rfl rfl ?_
      have hms : mac q (I, Q, Z) = (I, Q, Z) := if_pos (Or.inr (by rw [show stn (I, Q, Z).1 = 2 from es, hbd]; simp only [mdup, u6, Bool.or_true, Bool.true_or, Bool.or_false, Bool.false_or]))
      have hD30 : CD w e m0 h4 I Q Z X ow sb := CD_I (CD_fr hD hF1) ⟨rfl, rfl, rfl, rfl, rfl, rfl, rfl, rfl, rfl, rfl, rfl, rfl, rfl, rfl, rfl⟩
      have hB31 : co h4 I ≤ B + 0 := by
        have := co_fr (I := I) (J := I) hF1 rfl
        have := hB
        omega
      have hC32 : CA w e m0 (B + 0) h4 (I, Q, Z) := ⟨X, ow, sb, hS, hD30, hB31, fun l hl => Nat.le_trans (hQ l hl) hF1.1⟩
      rw [hms]
      exact ⟨rfl, CA_le hC32 (by omega)⟩
  · skip
    have e200 := k5.2.2.2 f3
    have hsd : h[ad 0]? = some (.inl (5, [.int (S 0 0), .ref (ad 1), .ref (ad 2), .ref (ad 3), .ref (ad 4), .ref (ad 5), .ref (ad 6), .ref (ad 7), .int (S 0 1), .int (S 0 2), .ref (ad 8), .int (S 0 3), .null, .ref (ad 9)])) := by
      rw [← e200]
      exact hsc
    refine go_s (pc' := 1) rfl rfl rfl rfl ?_
    refine go_get (pc' := 2) rfl ((hF1.2.2.2 _ (hD.1.2.2 _ (by omega)).2.1 (OW_lt hD.1 (by omega))).trans ha) rfl (by decide) rfl rfl ?_
    rw [q0]
    refine go_s (pc' := 3) (st' := [.int 2, .int (nI t)]) rfl rfl rfl rfl ?_
    refine go_callS (pc' := 4) rfl rfl rfl (Nat.le_of_ble_eq_true rfl) rfl rfl rfl (ct_within_t (n := 2) ht (by decide) (by omega)) (fun r h33 q34 => ?_)
    obtain ⟨rfl, rfl⟩ := q34
    refine go_s (pc' := 5) (lo' := [some (.ref 32), some (.ref a), some (.int 1), none]) rfl rfl rfl rfl ?_
    refine go_s (pc' := 6) rfl rfl rfl rfl ?_
    refine go_ifP (t' := 17) (pc' := 7) rfl rfl rfl (fun (c : (1 : Int32) = 0) => absurd c (by decide)) (fun _ => ?_)
    refine go_s (pc' := 8) rfl rfl rfl rfl ?_
    refine go_sget (pc' := 9) (v := .int 2) hS rfl rfl rfl (by decide) (congrArg Value.int en) rfl ?_
    refine go_s (pc' := 10) (st' := [.int 8, .int 2]) rfl rfl rfl rfl ?_
    refine go_icmpP (t' := 17) (pc' := 11) rfl rfl rfl (fun (c : 8 ≤ (2 : Int32)) => absurd c (by decide)) (fun _ => ?_)
    refine go_s (pc' := 12) rfl rfl rfl rfl ?_
    refine go_s (pc' := 13) rfl rfl rfl rfl ?_
    refine go_sget (pc' := 14) (v := .ref (ad 0)) hS rfl rfl rfl (by decide) k208 rfl ?_
    refine go_get (pc' := 15) rfl hsd rfl (by decide) rfl rfl ?_
    have hbd : mbd (row1 (I, Q, Z) 0) q = false := mbd_f f3
    refine go_callV (pc' := 16) rfl rfl rfl (Nat.le_of_ble_eq_true rfl) rfl ((hF1.2.2.2 _ (hD.1.2.2 _ (by omega)).2.1 (OW_lt hD.1 (by omega))).trans ha) rfl rfl rfl (ct_same_n (by omega)) (fun r h35 q36 => ?_)
    obtain ⟨rfl, rfl⟩ := q36
    refine go_ifP (t' := 18) (pc' := 17) rfl rfl rfl (fun _ => ?_) (fun (c : ¬ ((0 : Int32) = 0)) => absurd (by decide) c)
    refine go_s (pc' := 19) (st' := [.int 0]) rfl rfl rfl rfl ?_
    refine go_s (pc' := 20) (lo' := [some (.ref 32), some (.ref a), some (.int 1), some (.int 0)]) rfl rfl rfl rfl ?_
    refine go_s (pc' := 21) rfl rfl rfl rfl ?_
    refine go_s (pc' := 22) rfl rfl rfl rfl ?_
    refine go_sget (pc' := 23) (v := .int 2) hS rfl rfl rfl (by decide) (congrArg Value.int en) rfl ?_
    refine go_icmpP (t' := 34) (pc' := 24) rfl rfl rfl (fun (c : 2 ≤ (0 : Int32)) => absurd c (by decide)) (fun _ => ?_)
    refine go_s (pc' := 25) rfl rfl rfl rfl ?_
    refine go_s (pc' := 26) rfl rfl rfl rfl ?_
    refine go_sget (pc' := 27) (v := .ref 57) hS rfl rfl rfl (by decide) rfl rfl ?_
    refine go_s (pc' := 28) rfl rfl rfl rfl ?_
    refine go_sald (pc' := 29) (q := 0) (v := .ref b0) hS rfl rfl rfl rfl (by decide) x0 rfl ?_
    refine go_callV (pc' := 30) rfl rfl rfl (Nat.le_of_ble_eq_true rfl) rfl ((hF1.2.2.2 _ (hD.1.2.2 _ (by omega)).2.1 (OW_lt hD.1 (by omega))).trans ha) rfl rfl rfl (ct_same (q := q) (p := (fun i => I 20 (7 * 0 + i))) ((hF1.2.2.2 _ (hD.1.2.2 _ (by omega)).2.1 (OW_lt hD.1 (by omega))).trans ha) ((hF1.2.2.2 _ (hD.1.2.2 _ (by omega)).2.1 (OW_lt hD.1 (by omega))).trans hb0) (by omega)) (fun r h37 q38 => ?_)
    obtain ⟨rfl, rfl⟩ := q38
    cases u39 : smr q (fun i => I 20 (7 * 0 + i))
    · skip
      show am_Go _ _ _ _ 30 _ [.int 0] _ _
      refine go_ifP (t' := 32) (pc' := 31) rfl rfl rfl (fun _ => ?_) (fun (c : ¬ ((0 : Int32) = 0)) => absurd (by decide) c)
      refine go_s (pc' := 33) (lo' := [some (.ref 32), some (.ref a), some (.int 1), some (.int 1)]) rfl rfl rfl rfl ?_
      refine go_s (pc' := 20) rfl rfl rfl rfl ?_
      refine go_s (pc' := 21) rfl rfl rfl rfl ?_
      refine go_s (pc' := 22) rfl rfl rfl rfl ?_
      refine go_sget (pc' := 23) (v := .int 2) hS rfl rfl rfl (by decide) (congrArg Value.int en) rfl ?_
      refine go_icmpP (t' := 34) (pc' := 24) rfl rfl rfl (fun (c : 2 ≤ (1 : Int32)) => absurd c (by decide)) (fun _ => ?_)
      refine go_s (pc' := 25) rfl rfl rfl rfl ?_
      refine go_s (pc' := 26) rfl rfl rfl rfl ?_
      refine go_sget (pc' := 27) (v := .ref 57) hS rfl rfl rfl (by decide) rfl rfl ?_
      refine go_s (pc' := 28) rfl rfl rfl rfl ?_
      refine go_sald (pc' := 29) (q := 1) (v := .ref b1) hS rfl rfl rfl rfl (by decide) x1 rfl ?_
      refine go_callV (pc' := 30) rfl rfl rfl (Nat.le_of_ble_eq_true rfl) rfl ((hF1.2.2.2 _ (hD.1.2.2 _ (by omega)).2.1 (OW_lt hD.1 (by omega))).trans ha) rfl rfl rfl (ct_same (q := q) (p := (fun i => I 20 (7 * 1 + i))) ((hF1.2.2.2 _ (hD.1.2.2 _ (by omega)).2.1 (OW_lt hD.1 (by omega))).trans ha) ((hF1.2.2.2 _ (hD.1.2.2 _ (by omega)).2.1 (OW_lt hD.1 (by omega))).trans hb1) (by omega)) (fun r h40 q41 => ?_)
      obtain ⟨rfl, rfl⟩ := q41
      cases u42 : smr q (fun i => I 20 (7 * 1 + i))
      · skip
        show am_Go _ _ _ _ 30 _ [.int 0] _ _
        refine go_ifP (t' := 32) (pc' := 31) rfl rfl rfl (fun _ => ?_) (fun (c : ¬ ((0 : Int32) = 0)) => absurd (by decide) c)
        refine go_s (pc' := 33) (lo' := [some (.ref 32), some (.ref a), some (.int 1), some (.int 2)]) rfl rfl rfl rfl ?_
        refine go_s (pc' := 20) rfl rfl rfl rfl ?_
        refine go_s (pc' := 21) rfl rfl rfl rfl ?_
        refine go_s (pc' := 22) rfl rfl rfl rfl ?_
        refine go_sget (pc' := 23) (v := .int 2) hS rfl rfl rfl (by decide) (congrArg Value.int en) rfl ?_
        refine go_icmpP (t' := 34) (pc' := 24) rfl rfl rfl (fun _ => ?_) (fun (c : ¬ (2 ≤ (2 : Int32))) => absurd (by decide) c)
        refine go_s (pc' := 35) rfl rfl rfl rfl ?_
        refine go_sget (pc' := 36) (v := .ref 57) hS rfl rfl rfl (by decide) rfl rfl ?_
        refine go_s (pc' := 37) rfl rfl rfl rfl ?_
        refine go_sget (pc' := 38) (v := .int 2) hS rfl rfl rfl (by decide) (congrArg Value.int en) rfl ?_
        refine go_s (pc' := 39) rfl rfl rfl rfl ?_
        refine go_saast (pc' := 40) (q := 2) hS rfl rfl tbc_inj (Nat.le_of_ble_eq_true rfl) (Nat.le_of_ble_eq_true rfl) ((hF1.2.2.2 _ (hD.1.2.2 _ (by omega)).2.1 (OW_lt hD.1 (by omega))).trans ha) (am_S_rq w) rfl (by decide) (by decide) (hW _ rfl) rfl (fun h43 hS44 hE45 => ?_)
        have hF46 := fr_trans hF1 (fr_e hE45)
        have hq47 := (hE45.2.2 _ (htc 0 (by decide))).trans hsd
        refine go_s (pc' := 41) rfl rfl rfl rfl ?_
        refine go_s (pc' := 42) rfl rfl rfl rfl ?_
        refine go_sget (pc' := 43) (v := .int 2) hS44 rfl rfl rfl (by decide) (congrArg Value.int en) rfl ?_
        refine go_s (pc' := 44) (st' := [.int 1, .int 2, .ref 32]) rfl rfl rfl rfl ?_
        refine go_s (pc' := 45) (st' := [.int 3, .ref 32]) rfl rfl rfl rfl ?_
        refine go_sput (pc' := 46) hS44 rfl rfl rfl (by decide) tbc_inj (Nat.le_of_ble_eq_true rfl) rfl (hW _ rfl) rfl (fun h48 hS49 hE50 => ?_)
        have hF51 := fr_trans hF46 (fr_e hE50)
        have hq52 := (hE50.2.2 _ (htc 0 (by decide))).trans hq47
        refine go_ret rfl rfl ?_
        have hms : mac q (I, Q, Z) = (mrw I 2 q, Q, Z) := by
          unfold mac
          rw [show stn (I, Q, Z).1 = 2 from es, if_neg]
          rw [hbd]
          intro z
          rcases z with z | z
          · exact absurd z (by decide)
          · simp only [mdup, u39, u42, Bool.or_false, Bool.false_or, Bool.or_self, Bool.false_eq_true] at z
        have hD53 := CD_mrw (n := 2) (q := q) (X2 := (uX X 210 2 (.ref a))) (CD_fr hD hF51) en (by decide) (by show Rq _ ow (.ref a) q; exact Rq_fr hD.1 hF51 ⟨a, rfl, oa, ha⟩) (fun k hk => by simp [uX]; omega) (fun c hc => by funext j; simp [uX, hc])
        rw [hms]
        refine ⟨rfl, ⟨(uX X 210 2 (.ref a)), ow, sb, mrw_sm hS49, hD53, ?_, fun l hl => Nat.le_trans (hQ l hl) hF51.1⟩⟩
        have z := co_fr (I := I) (J := I) hF51 rfl
        show co _ (mrw I 2 q) ≤ _
        have e9 : mrw I 2 q 21 0 = nI 3 := by simp [mrw]
        have e8 : I 21 0 = nI 2 := en
        unfold co at hB z ⊢
        rw [e9]
        rw [e8] at hB z
        rw [nI_clamp (by decide)] at hB z ⊢
        omega
      · skip
        show am_Go _ _ _ _ 30 _ [.int 1] _ _
        refine go_ifP (t' := 32) (pc' := 31) rfl rfl rfl (fun (c : (1 : Int32) = 0) => absurd c (by decide)) (fun _ => ?_)
        refine go_ret rfl rfl ?_
        have hms : mac q (I, Q, Z) = (I, Q, Z) := if_pos (Or.inr (by rw [show stn (I, Q, Z).1 = 2 from es, hbd]; simp only [mdup, u39, u42, Bool.or_true, Bool.true_or, Bool.or_false, Bool.false_or]))
        have hD54 : CD w e m0 h40 I Q Z X ow sb := CD_I (CD_fr hD hF1) ⟨rfl, rfl, rfl, rfl, rfl, rfl, rfl, rfl, rfl, rfl, rfl, rfl, rfl, rfl, rfl⟩
        have hB55 : co h40 I ≤ B + 0 := by
          have := co_fr (I := I) (J := I) hF1 rfl
          have := hB
          omega
        have hC56 : CA w e m0 (B + 0) h40 (I, Q, Z) := ⟨X, ow, sb, hS, hD54, hB55, fun l hl => Nat.le_trans (hQ l hl) hF1.1⟩
        rw [hms]
        exact ⟨rfl, CA_le hC56 (by omega)⟩
    · skip
      show am_Go _ _ _ _ 30 _ [.int 1] _ _
      refine go_ifP (t' := 32) (pc' := 31) rfl rfl rfl (fun (c : (1 : Int32) = 0) => absurd c (by decide)) (fun _ => ?_)
      refine go_ret rfl rfl ?_
      have hms : mac q (I, Q, Z) = (I, Q, Z) := if_pos (Or.inr (by rw [show stn (I, Q, Z).1 = 2 from es, hbd]; simp only [mdup, u39, Bool.or_true, Bool.true_or, Bool.or_false, Bool.false_or]))
      have hD57 : CD w e m0 h37 I Q Z X ow sb := CD_I (CD_fr hD hF1) ⟨rfl, rfl, rfl, rfl, rfl, rfl, rfl, rfl, rfl, rfl, rfl, rfl, rfl, rfl, rfl⟩
      have hB58 : co h37 I ≤ B + 0 := by
        have := co_fr (I := I) (J := I) hF1 rfl
        have := hB
        omega
      have hC59 : CA w e m0 (B + 0) h37 (I, Q, Z) := ⟨X, ow, sb, hS, hD57, hB58, fun l hl => Nat.le_trans (hQ l hl) hF1.1⟩
      rw [hms]
      exact ⟨rfl, CA_le hC59 (by omega)⟩
theorem cx_ac_3 {w : Nat → Bool} {d : Nat} {h : am_Hp} {e : Nat} {m0 : mg} {B : Nat} {I : sm_I} {Q : mQ} {Z : mZ} {X : sm_X} {ow : ow_T} {sb : Nat} (hS : sm tbc h I X) (hD : CD w e m0 h I Q Z X ow sb) (hB : co h I ≤ B) (hQ : ∀ l, l < 16 → (Q l).length ≤ h.length) (hB2 : B < 2 ^ 28) (hv : lv I 0 = true) (en : I 21 0 = 3) {a t : Nat} {q : Nat → Int32} (ht : t < 2) (q0 : q 0 = nI t) (oa : ow a = 1) (ha : h[a]? = some (.inl (8, rqf q))) (hd : 2 ≤ d) : am_Ev (am_prog w) d 80 [.ref 32, .ref a] h (fun r h' => r = none ∧ CA w e m0 (B + 700) h' (mac q (I, Q, Z))) := by
  have hW := hD.1.1
  have hWn : ∀ a, List.length h ≤ a → w a = true := fun a ha => (hD.1.2.1 a ha).1
  have hF1 := fr_refl tbc h
  have hln : 62 ≤ List.length h := sm_len hS
  obtain ⟨d, rfl⟩ : ∃ e, d = e + 1 := ⟨d - 1, by omega⟩
  refine ev_go rfl (Nat.le_of_ble_eq_true rfl) rfl ?_
  have hD0 := hD
  have es : stn I = 3 := stn_eq (n := 3) en (by decide)
  obtain ⟨k208, kst, -⟩ := hD.2.2.2.2.1
  obtain ⟨ad, S, Y, k0, hA, k2, k3, k4, k5, hoa, hZ0, hWa, htc⟩ := St_open hD.1 (kst hv)
  change SQ h ow S Y (Z (rwi I 0)) at k5
  rw [← k0] at k208
  have hrw := SP_rw hD.2.2.2.2.1 (n := 3) en (by decide)
  obtain ⟨b0, x0, o0, hb0⟩ := hrw 0 (by decide)
  obtain ⟨b1, x1, o1, hb1⟩ := hrw 1 (by decide)
  obtain ⟨b2, x2, o2, hb2⟩ := hrw 2 (by decide)
  have hsc := k4 (ad 0) _ _ (tbs_at hA (i := 0) (by decide))
  by_cases f3 : (Z (rwi I 0)).1 3 = 1
  · skip
    obtain ⟨p, t9, hrq, ht9, f4, p0, p1, p2⟩ := k5.2.2.1 f3
    obtain ⟨bq, e200, oq, hbq⟩ := id hrq
    have hsd : h[ad 0]? = some (.inl (5, [.int (S 0 0), .ref (ad 1), .ref (ad 2), .ref (ad 3), .ref (ad 4), .ref (ad 5), .ref (ad 6), .ref (ad 7), .int (S 0 1), .int (S 0 2), .ref (ad 8), .int (S 0 3), .ref bq, .ref (ad 9)])) := by
      rw [← e200]
      exact hsc
    refine go_s (pc' := 1) rfl rfl rfl rfl ?_
    refine go_get (pc' := 2) rfl ((hF1.2.2.2 _ (hD.1.2.2 _ (by omega)).2.1 (OW_lt hD.1 (by omega))).trans ha) rfl (by decide) rfl rfl ?_
    rw [q0]
    refine go_s (pc' := 3) (st' := [.int 2, .int (nI t)]) rfl rfl rfl rfl ?_
    refine go_callS (pc' := 4) rfl rfl rfl (Nat.le_of_ble_eq_true rfl) rfl rfl rfl (ct_within_t (n := 2) ht (by decide) (by omega)) (fun r h2 q3 => ?_)
    obtain ⟨rfl, rfl⟩ := q3
    refine go_s (pc' := 5) (lo' := [some (.ref 32), some (.ref a), some (.int 1), none]) rfl rfl rfl rfl ?_
    refine go_s (pc' := 6) rfl rfl rfl rfl ?_
    refine go_ifP (t' := 17) (pc' := 7) rfl rfl rfl (fun (c : (1 : Int32) = 0) => absurd c (by decide)) (fun _ => ?_)
    refine go_s (pc' := 8) rfl rfl rfl rfl ?_
    refine go_sget (pc' := 9) (v := .int 3) hS rfl rfl rfl (by decide) (congrArg Value.int en) rfl ?_
    refine go_s (pc' := 10) (st' := [.int 8, .int 3]) rfl rfl rfl rfl ?_
    refine go_icmpP (t' := 17) (pc' := 11) rfl rfl rfl (fun (c : 8 ≤ (3 : Int32)) => absurd c (by decide)) (fun _ => ?_)
    refine go_s (pc' := 12) rfl rfl rfl rfl ?_
    refine go_s (pc' := 13) rfl rfl rfl rfl ?_
    refine go_sget (pc' := 14) (v := .ref (ad 0)) hS rfl rfl rfl (by decide) k208 rfl ?_
    refine go_get (pc' := 15) rfl hsd rfl (by decide) rfl rfl ?_
    have hbd : mbd (row1 (I, Q, Z) 0) q = smr q p := mbd_sm f3 ht9 f4 p0 p1 p2
    refine go_callV (pc' := 16) rfl rfl rfl (Nat.le_of_ble_eq_true rfl) rfl ((hF1.2.2.2 _ (hD.1.2.2 _ (by omega)).2.1 (OW_lt hD.1 (by omega))).trans ha) rfl rfl rfl (ct_same (q := q) (p := p) ((hF1.2.2.2 _ (hD.1.2.2 _ (by omega)).2.1 (OW_lt hD.1 (by omega))).trans ha) ((hF1.2.2.2 _ (hD.1.2.2 _ (by omega)).2.1 (OW_lt hD.1 (by omega))).trans hbq) (by omega)) (fun r h4 q5 => ?_)
    obtain ⟨rfl, rfl⟩ := q5
    cases u6 : smr q p
    · skip
      show am_Go _ _ _ _ 16 _ [.int 0] _ _
      refine go_ifP (t' := 18) (pc' := 17) rfl rfl rfl (fun _ => ?_) (fun (c : ¬ ((0 : Int32) = 0)) => absurd (by decide) c)
      refine go_s (pc' := 19) (st' := [.int 0]) rfl rfl rfl rfl ?_
      refine go_s (pc' := 20) (lo' := [some (.ref 32), some (.ref a), some (.int 1), some (.int 0)]) rfl rfl rfl rfl ?_
      refine go_s (pc' := 21) rfl rfl rfl rfl ?_
      refine go_s (pc' := 22) rfl rfl rfl rfl ?_
      refine go_sget (pc' := 23) (v := .int 3) hS rfl rfl rfl (by decide) (congrArg Value.int en) rfl ?_
      refine go_icmpP (t' := 34) (pc' := 24) rfl rfl rfl (fun (c : 3 ≤ (0 : Int32)) => absurd c (by decide)) (fun _ => ?_)
      refine go_s (pc' := 25) rfl rfl rfl rfl ?_
      refine go_s (pc' := 26) rfl rfl rfl rfl ?_
      refine go_sget (pc' := 27) (v := .ref 57) hS rfl rfl rfl (by decide) rfl rfl ?_
      refine go_s (pc' := 28) rfl rfl rfl rfl ?_
      refine go_sald (pc' := 29) (q := 0) (v := .ref b0) hS rfl rfl rfl rfl (by decide) x0 rfl ?_
      refine go_callV (pc' := 30) rfl rfl rfl (Nat.le_of_ble_eq_true rfl) rfl ((hF1.2.2.2 _ (hD.1.2.2 _ (by omega)).2.1 (OW_lt hD.1 (by omega))).trans ha) rfl rfl rfl (ct_same (q := q) (p := (fun i => I 20 (7 * 0 + i))) ((hF1.2.2.2 _ (hD.1.2.2 _ (by omega)).2.1 (OW_lt hD.1 (by omega))).trans ha) ((hF1.2.2.2 _ (hD.1.2.2 _ (by omega)).2.1 (OW_lt hD.1 (by omega))).trans hb0) (by omega)) (fun r h7 q8 => ?_)
      obtain ⟨rfl, rfl⟩ := q8
      cases u9 : smr q (fun i => I 20 (7 * 0 + i))
      · skip
        show am_Go _ _ _ _ 30 _ [.int 0] _ _
        refine go_ifP (t' := 32) (pc' := 31) rfl rfl rfl (fun _ => ?_) (fun (c : ¬ ((0 : Int32) = 0)) => absurd (by decide) c)
        refine go_s (pc' := 33) (lo' := [some (.ref 32), some (.ref a), some (.int 1), some (.int 1)]) rfl rfl rfl rfl ?_
        refine go_s (pc' := 20) rfl rfl rfl rfl ?_
        refine go_s (pc' := 21) rfl rfl rfl rfl ?_
        refine go_s (pc' := 22) rfl rfl rfl rfl ?_
        refine go_sget (pc' := 23) (v := .int 3) hS rfl rfl rfl (by decide) (congrArg Value.int en) rfl ?_
        refine go_icmpP (t' := 34) (pc' := 24) rfl rfl rfl (fun (c : 3 ≤ (1 : Int32)) => absurd c (by decide)) (fun _ => ?_)
        refine go_s (pc' := 25) rfl rfl rfl rfl ?_
        refine go_s (pc' := 26) rfl rfl rfl rfl ?_
        refine go_sget (pc' := 27) (v := .ref 57) hS rfl rfl rfl (by decide) rfl rfl ?_
        refine go_s (pc' := 28) rfl rfl rfl rfl ?_
        refine go_sald (pc' := 29) (q := 1) (v := .ref b1) hS rfl rfl rfl rfl (by decide) x1 rfl ?_
        refine go_callV (pc' := 30) rfl rfl rfl (Nat.le_of_ble_eq_true rfl) rfl ((hF1.2.2.2 _ (hD.1.2.2 _ (by omega)).2.1 (OW_lt hD.1 (by omega))).trans ha) rfl rfl rfl (ct_same (q := q) (p := (fun i => I 20 (7 * 1 + i))) ((hF1.2.2.2 _ (hD.1.2.2 _ (by omega)).2.1 (OW_lt hD.1 (by omega))).trans ha) ((hF1.2.2.2 _ (hD.1.2.2 _ (by omega)).2.1 (OW_lt hD.1 (by omega))).trans hb1) (by omega)) (fun r h10 q11 => ?_)
        obtain ⟨rfl, rfl⟩ := q11
        cases u12 : smr q (fun i => I 20 (7 * 1 + i))
        · skip
          show am_Go _ _ _ _ 30 _ [.int 0] _ _
          refine go_ifP (t' := 32) (pc' := 31) rfl rfl rfl (fun _ => ?_) (fun (c : ¬ ((0 : Int32) = 0)) => absurd (by decide) c)
          refine go_s (pc' := 33) (lo' := [some (.ref 32), some (.ref a), some (.int 1), some (.int 2)]) rfl rfl rfl rfl ?_
          refine go_s (pc' := 20) rfl rfl rfl rfl ?_
          refine go_s (pc' := 21) rfl rfl rfl rfl ?_
          refine go_s (pc' := 22) rfl rfl rfl rfl ?_
          refine go_sget (pc' := 23) (v := .int 3) hS rfl rfl rfl (by decide) (congrArg Value.int en) rfl ?_
          refine go_icmpP (t' := 34) (pc' := 24) rfl rfl rfl (fun (c : 3 ≤ (2 : Int32)) => absurd c (by decide)) (fun _ => ?_)
          refine go_s (pc' := 25) rfl rfl rfl rfl ?_
          refine go_s (pc' := 26) rfl rfl rfl rfl ?_
          refine go_sget (pc' := 27) (v := .ref 57) hS rfl rfl rfl (by decide) rfl rfl ?_
          refine go_s (pc' := 28) rfl rfl rfl rfl ?_
          refine go_sald (pc' := 29) (q := 2) (v := .ref b2) hS rfl rfl rfl rfl (by decide) x2 rfl ?_
          refine go_callV (pc' := 30) rfl rfl rfl (Nat.le_of_ble_eq_true rfl) rfl ((hF1.2.2.2 _ (hD.1.2.2 _ (by omega)).2.1 (OW_lt hD.1 (by omega))).trans ha) rfl rfl rfl (ct_same (q := q) (p := (fun i => I 20 (7 * 2 + i))) ((hF1.2.2.2 _ (hD.1.2.2 _ (by omega)).2.1 (OW_lt hD.1 (by omega))).trans ha) ((hF1.2.2.2 _ (hD.1.2.2 _ (by omega)).2.1 (OW_lt hD.1 (by omega))).trans hb2) (by omega)) (fun r h13 q14 => ?_)
          obtain ⟨rfl, rfl⟩ := q14
          cases u15 : smr q (fun i => I 20 (7 * 2 + i))
          · skip
            show am_Go _ _ _ _ 30 _ [.int 0] _ _
            refine go_ifP (t' := 32) (pc' := 31) rfl rfl rfl (fun _ => ?_) (fun (c : ¬ ((0 : Int32) = 0)) => absurd (by decide) c)
            refine go_s (pc' := 33) (lo' := [some (.ref 32), some (.ref a), some (.int 1), some (.int 3)]) rfl rfl rfl rfl ?_
            refine go_s (pc' := 20) rfl rfl rfl rfl ?_
            refine go_s (pc' := 21) rfl rfl rfl rfl ?_
            refine go_s (pc' := 22) rfl rfl rfl rfl ?_
            refine go_sget (pc' := 23) (v := .int 3) hS rfl rfl rfl (by decide) (congrArg Value.int en) rfl ?_
            refine go_icmpP (t' := 34) (pc' := 24) rfl rfl rfl (fun _ => ?_) (fun (c : ¬ (3 ≤ (3 : Int32))) => absurd (by decide) c)
            refine go_s (pc' := 35) rfl rfl rfl rfl ?_
            refine go_sget (pc' := 36) (v := .ref 57) hS rfl rfl rfl (by decide) rfl rfl ?_
            refine go_s (pc' := 37) rfl rfl rfl rfl ?_
            refine go_sget (pc' := 38) (v := .int 3) hS rfl rfl rfl (by decide) (congrArg Value.int en) rfl ?_
            refine go_s (pc' := 39) rfl rfl rfl rfl ?_
            refine go_saast (pc' := 40) (q := 3) hS rfl rfl tbc_inj (Nat.le_of_ble_eq_true rfl) (Nat.le_of_ble_eq_true rfl) ((hF1.2.2.2 _ (hD.1.2.2 _ (by omega)).2.1 (OW_lt hD.1 (by omega))).trans ha) (am_S_rq w) rfl (by decide) (by decide) (hW _ rfl) rfl (fun h16 hS17 hE18 => ?_)
            have hF19 := fr_trans hF1 (fr_e hE18)
            have hq20 := (hE18.2.2 _ (htc 0 (by decide))).trans hsd
            refine go_s (pc' := 41) rfl rfl rfl rfl ?_
            refine go_s (pc' := 42) rfl rfl rfl rfl ?_
            refine go_sget (pc' := 43) (v := .int 3) hS17 rfl rfl rfl (by decide) (congrArg Value.int en) rfl ?_
            refine go_s (pc' := 44) (st' := [.int 1, .int 3, .ref 32]) rfl rfl rfl rfl ?_
            refine go_s (pc' := 45) (st' := [.int 4, .ref 32]) rfl rfl rfl rfl ?_
            refine go_sput (pc' := 46) hS17 rfl rfl rfl (by decide) tbc_inj (Nat.le_of_ble_eq_true rfl) rfl (hW _ rfl) rfl (fun h21 hS22 hE23 => ?_)
            have hF24 := fr_trans hF19 (fr_e hE23)
            have hq25 := (hE23.2.2 _ (htc 0 (by decide))).trans hq20
            refine go_ret rfl rfl ?_
            have hms : mac q (I, Q, Z) = (mrw I 3 q, Q, Z) := by
              unfold mac
              rw [show stn (I, Q, Z).1 = 3 from es, if_neg]
              rw [hbd]
              intro z
              rcases z with z | z
              · exact absurd z (by decide)
              · simp only [mdup, u6, u9, u12, u15, Bool.or_false, Bool.false_or, Bool.or_self, Bool.false_eq_true] at z
            have hD26 := CD_mrw (n := 3) (q := q) (X2 := (uX X 210 3 (.ref a))) (CD_fr hD hF24) en (by decide) (by show Rq _ ow (.ref a) q; exact Rq_fr hD.1 hF24 ⟨a, rfl, oa, ha⟩) (fun k hk => by simp [uX]; omega) (fun c hc => by funext j; simp [uX, hc])
            rw [hms]
            refine ⟨rfl, ⟨(uX X 210 3 (.ref a)), ow, sb, mrw_sm hS22, hD26, ?_, fun l hl => Nat.le_trans (hQ l hl) hF24.1⟩⟩
            have z := co_fr (I := I) (J := I) hF24 rfl
            show co _ (mrw I 3 q) ≤ _
            have e9 : mrw I 3 q 21 0 = nI 4 := by simp [mrw]
            have e8 : I 21 0 = nI 3 := en
            unfold co at hB z ⊢
            rw [e9]
            rw [e8] at hB z
            rw [nI_clamp (by decide)] at hB z ⊢
            omega
          · skip
            show am_Go _ _ _ _ 30 _ [.int 1] _ _
            refine go_ifP (t' := 32) (pc' := 31) rfl rfl rfl (fun (c : (1 : Int32) = 0) => absurd c (by decide)) (fun _ => ?_)
            refine go_ret rfl rfl ?_
            have hms : mac q (I, Q, Z) = (I, Q, Z) := if_pos (Or.inr (by rw [show stn (I, Q, Z).1 = 3 from es, hbd]; simp only [mdup, u6, u9, u12, u15, Bool.or_true, Bool.true_or, Bool.or_false, Bool.false_or]))
            have hD27 : CD w e m0 h13 I Q Z X ow sb := CD_I (CD_fr hD hF1) ⟨rfl, rfl, rfl, rfl, rfl, rfl, rfl, rfl, rfl, rfl, rfl, rfl, rfl, rfl, rfl⟩
            have hB28 : co h13 I ≤ B + 0 := by
              have := co_fr (I := I) (J := I) hF1 rfl
              have := hB
              omega
            have hC29 : CA w e m0 (B + 0) h13 (I, Q, Z) := ⟨X, ow, sb, hS, hD27, hB28, fun l hl => Nat.le_trans (hQ l hl) hF1.1⟩
            rw [hms]
            exact ⟨rfl, CA_le hC29 (by omega)⟩
        · skip
          show am_Go _ _ _ _ 30 _ [.int 1] _ _
          refine go_ifP (t' := 32) (pc' := 31) rfl rfl rfl (fun (c : (1 : Int32) = 0) => absurd c (by decide)) (fun _ => ?_)
          refine go_ret rfl rfl ?_
          have hms : mac q (I, Q, Z) = (I, Q, Z) := if_pos (Or.inr (by rw [show stn (I, Q, Z).1 = 3 from es, hbd]; simp only [mdup, u6, u9, u12, Bool.or_true, Bool.true_or, Bool.or_false, Bool.false_or]))
          have hD30 : CD w e m0 h10 I Q Z X ow sb := CD_I (CD_fr hD hF1) ⟨rfl, rfl, rfl, rfl, rfl, rfl, rfl, rfl, rfl, rfl, rfl, rfl, rfl, rfl, rfl⟩
          have hB31 : co h10 I ≤ B + 0 := by
            have := co_fr (I := I) (J := I) hF1 rfl
            have := hB
            omega
          have hC32 : CA w e m0 (B + 0) h10 (I, Q, Z) := ⟨X, ow, sb, hS, hD30, hB31, fun l hl => Nat.le_trans (hQ l hl) hF1.1⟩
          rw [hms]
          exact ⟨rfl, CA_le hC32 (by omega)⟩
      · skip
        show am_Go _ _ _ _ 30 _ [.int 1] _ _
        refine go_ifP (t' := 32) (pc' := 31) rfl rfl rfl (fun (c : (1 : Int32) = 0) => absurd c (by decide)) (fun _ => ?_)
        refine go_ret rfl rfl ?_
        have hms : mac q (I, Q, Z) = (I, Q, Z) := if_pos (Or.inr (by rw [show stn (I, Q, Z).1 = 3 from es, hbd]; simp only [mdup, u6, u9, Bool.or_true, Bool.true_or, Bool.or_false, Bool.false_or]))
        have hD33 : CD w e m0 h7 I Q Z X ow sb := CD_I (CD_fr hD hF1) ⟨rfl, rfl, rfl, rfl, rfl, rfl, rfl, rfl, rfl, rfl, rfl, rfl, rfl, rfl, rfl⟩
        have hB34 : co h7 I ≤ B + 0 := by
          have := co_fr (I := I) (J := I) hF1 rfl
          have := hB
          omega
        have hC35 : CA w e m0 (B + 0) h7 (I, Q, Z) := ⟨X, ow, sb, hS, hD33, hB34, fun l hl => Nat.le_trans (hQ l hl) hF1.1⟩
        rw [hms]
        exact ⟨rfl, CA_le hC35 (by omega)⟩
    · skip
      show am_Go _ _ _ _ 16 _ [.int 1] _ _
      refine go_ifP (t' := 18) (pc' := 17) rfl rfl rfl (fun (c : (1 : Int32) = 0) => absurd c (by decide)) (fun _ => ?_)
      refine go_ret rfl rfl ?_
      have hms : mac q (I, Q, Z) = (I, Q, Z) := if_pos (Or.inr (by rw [show stn (I, Q, Z).1 = 3 from es, hbd]; simp only [mdup, u6, Bool.or_true, Bool.true_or, Bool.or_false, Bool.false_or]))
      have hD36 : CD w e m0 h4 I Q Z X ow sb := CD_I (CD_fr hD hF1) ⟨rfl, rfl, rfl, rfl, rfl, rfl, rfl, rfl, rfl, rfl, rfl, rfl, rfl, rfl, rfl⟩
      have hB37 : co h4 I ≤ B + 0 := by
        have := co_fr (I := I) (J := I) hF1 rfl
        have := hB
        omega
      have hC38 : CA w e m0 (B + 0) h4 (I, Q, Z) := ⟨X, ow, sb, hS, hD36, hB37, fun l hl => Nat.le_trans (hQ l hl) hF1.1⟩
      rw [hms]
      exact ⟨rfl, CA_le hC38 (by omega)⟩
  · skip
    have e200 := k5.2.2.2 f3
    have hsd : h[ad 0]? = some (.inl (5, [.int (S 0 0), .ref (ad 1), .ref (ad 2), .ref (ad 3), .ref (ad 4), .ref (ad 5), .ref (ad 6), .ref (ad 7), .int (S 0 1), .int (S 0 2), .ref (ad 8), .int (S 0 3), .null, .ref (ad 9)])) := by
      rw [← e200]
      exact hsc
    refine go_s (pc' := 1) rfl rfl rfl rfl ?_
    refine go_get (pc' := 2) rfl ((hF1.2.2.2 _ (hD.1.2.2 _ (by omega)).2.1 (OW_lt hD.1 (by omega))).trans ha) rfl (by decide) rfl rfl ?_
    rw [q0]
    refine go_s (pc' := 3) (st' := [.int 2, .int (nI t)]) rfl rfl rfl rfl ?_
    refine go_callS (pc' := 4) rfl rfl rfl (Nat.le_of_ble_eq_true rfl) rfl rfl rfl (ct_within_t (n := 2) ht (by decide) (by omega)) (fun r h39 q40 => ?_)
    obtain ⟨rfl, rfl⟩ := q40
    refine go_s (pc' := 5) (lo' := [some (.ref 32), some (.ref a), some (.int 1), none]) rfl rfl rfl rfl ?_
    refine go_s (pc' := 6) rfl rfl rfl rfl ?_
    refine go_ifP (t' := 17) (pc' := 7) rfl rfl rfl (fun (c : (1 : Int32) = 0) => absurd c (by decide)) (fun _ => ?_)
    refine go_s (pc' := 8) rfl rfl rfl rfl ?_
    refine go_sget (pc' := 9) (v := .int 3) hS rfl rfl rfl (by decide) (congrArg Value.int en) rfl ?_
    refine go_s (pc' := 10) (st' := [.int 8, .int 3]) rfl rfl rfl rfl ?_
    refine go_icmpP (t' := 17) (pc' := 11) rfl rfl rfl (fun (c : 8 ≤ (3 : Int32)) => absurd c (by decide)) (fun _ => ?_)
    refine go_s (pc' := 12) rfl rfl rfl rfl ?_
    refine go_s (pc' := 13) rfl rfl rfl rfl ?_
    refine go_sget (pc' := 14) (v := .ref (ad 0)) hS rfl rfl rfl (by decide) k208 rfl ?_
    refine go_get (pc' := 15) rfl hsd rfl (by decide) rfl rfl ?_
    have hbd : mbd (row1 (I, Q, Z) 0) q = false := mbd_f f3
    refine go_callV (pc' := 16) rfl rfl rfl (Nat.le_of_ble_eq_true rfl) rfl ((hF1.2.2.2 _ (hD.1.2.2 _ (by omega)).2.1 (OW_lt hD.1 (by omega))).trans ha) rfl rfl rfl (ct_same_n (by omega)) (fun r h41 q42 => ?_)
    obtain ⟨rfl, rfl⟩ := q42
    refine go_ifP (t' := 18) (pc' := 17) rfl rfl rfl (fun _ => ?_) (fun (c : ¬ ((0 : Int32) = 0)) => absurd (by decide) c)
    refine go_s (pc' := 19) (st' := [.int 0]) rfl rfl rfl rfl ?_
    refine go_s (pc' := 20) (lo' := [some (.ref 32), some (.ref a), some (.int 1), some (.int 0)]) rfl rfl rfl rfl ?_
    refine go_s (pc' := 21) rfl rfl rfl rfl ?_
    refine go_s (pc' := 22) rfl rfl rfl rfl ?_
    refine go_sget (pc' := 23) (v := .int 3) hS rfl rfl rfl (by decide) (congrArg Value.int en) rfl ?_
    refine go_icmpP (t' := 34) (pc' := 24) rfl rfl rfl (fun (c : 3 ≤ (0 : Int32)) => absurd c (by decide)) (fun _ => ?_)
    refine go_s (pc' := 25) rfl rfl rfl rfl ?_
    refine go_s (pc' := 26) rfl rfl rfl rfl ?_
    refine go_sget (pc' := 27) (v := .ref 57) hS rfl rfl rfl (by decide) rfl rfl ?_
    refine go_s (pc' := 28) rfl rfl rfl rfl ?_
    refine go_sald (pc' := 29) (q := 0) (v := .ref b0) hS rfl rfl rfl rfl (by decide) x0 rfl ?_
    refine go_callV (pc' := 30) rfl rfl rfl (Nat.le_of_ble_eq_true rfl) rfl ((hF1.2.2.2 _ (hD.1.2.2 _ (by omega)).2.1 (OW_lt hD.1 (by omega))).trans ha) rfl rfl rfl (ct_same (q := q) (p := (fun i => I 20 (7 * 0 + i))) ((hF1.2.2.2 _ (hD.1.2.2 _ (by omega)).2.1 (OW_lt hD.1 (by omega))).trans ha) ((hF1.2.2.2 _ (hD.1.2.2 _ (by omega)).2.1 (OW_lt hD.1 (by omega))).trans hb0) (by omega)) (fun r h43 q44 => ?_)
    obtain ⟨rfl, rfl⟩ := q44
    cases u45 : smr q (fun i => I 20 (7 * 0 + i))
    · skip
      show am_Go _ _ _ _ 30 _ [.int 0] _ _
      refine go_ifP (t' := 32) (pc' := 31) rfl rfl rfl (fun _ => ?_) (fun (c : ¬ ((0 : Int32) = 0)) => absurd (by decide) c)
      refine go_s (pc' := 33) (lo' := [some (.ref 32), some (.ref a), some (.int 1), some (.int 1)]) rfl rfl rfl rfl ?_
      refine go_s (pc' := 20) rfl rfl rfl rfl ?_
      refine go_s (pc' := 21) rfl rfl rfl rfl ?_
      refine go_s (pc' := 22) rfl rfl rfl rfl ?_
      refine go_sget (pc' := 23) (v := .int 3) hS rfl rfl rfl (by decide) (congrArg Value.int en) rfl ?_
      refine go_icmpP (t' := 34) (pc' := 24) rfl rfl rfl (fun (c : 3 ≤ (1 : Int32)) => absurd c (by decide)) (fun _ => ?_)
      refine go_s (pc' := 25) rfl rfl rfl rfl ?_
      refine go_s (pc' := 26) rfl rfl rfl rfl ?_
      refine go_sget (pc' := 27) (v := .ref 57) hS rfl rfl rfl (by decide) rfl rfl ?_
      refine go_s (pc' := 28) rfl rfl rfl rfl ?_
      refine go_sald (pc' := 29) (q := 1) (v := .ref b1) hS rfl rfl rfl rfl (by decide) x1 rfl ?_
      refine go_callV (pc' := 30) rfl rfl rfl (Nat.le_of_ble_eq_true rfl) rfl ((hF1.2.2.2 _ (hD.1.2.2 _ (by omega)).2.1 (OW_lt hD.1 (by omega))).trans ha) rfl rfl rfl (ct_same (q := q) (p := (fun i => I 20 (7 * 1 + i))) ((hF1.2.2.2 _ (hD.1.2.2 _ (by omega)).2.1 (OW_lt hD.1 (by omega))).trans ha) ((hF1.2.2.2 _ (hD.1.2.2 _ (by omega)).2.1 (OW_lt hD.1 (by omega))).trans hb1) (by omega)) (fun r h46 q47 => ?_)
      obtain ⟨rfl, rfl⟩ := q47
      cases u48 : smr q (fun i => I 20 (7 * 1 + i))
      · skip
        show am_Go _ _ _ _ 30 _ [.int 0] _ _
        refine go_ifP (t' := 32) (pc' := 31) rfl rfl rfl (fun _ => ?_) (fun (c : ¬ ((0 : Int32) = 0)) => absurd (by decide) c)
        refine go_s (pc' := 33) (lo' := [some (.ref 32), some (.ref a), some (.int 1), some (.int 2)]) rfl rfl rfl rfl ?_
        refine go_s (pc' := 20) rfl rfl rfl rfl ?_
        refine go_s (pc' := 21) rfl rfl rfl rfl ?_
        refine go_s (pc' := 22) rfl rfl rfl rfl ?_
        refine go_sget (pc' := 23) (v := .int 3) hS rfl rfl rfl (by decide) (congrArg Value.int en) rfl ?_
        refine go_icmpP (t' := 34) (pc' := 24) rfl rfl rfl (fun (c : 3 ≤ (2 : Int32)) => absurd c (by decide)) (fun _ => ?_)
        refine go_s (pc' := 25) rfl rfl rfl rfl ?_
        refine go_s (pc' := 26) rfl rfl rfl rfl ?_
        refine go_sget (pc' := 27) (v := .ref 57) hS rfl rfl rfl (by decide) rfl rfl ?_
        refine go_s (pc' := 28) rfl rfl rfl rfl ?_
        refine go_sald (pc' := 29) (q := 2) (v := .ref b2) hS rfl rfl rfl rfl (by decide) x2 rfl ?_
        refine go_callV (pc' := 30) rfl rfl rfl (Nat.le_of_ble_eq_true rfl) rfl ((hF1.2.2.2 _ (hD.1.2.2 _ (by omega)).2.1 (OW_lt hD.1 (by omega))).trans ha) rfl rfl rfl (ct_same (q := q) (p := (fun i => I 20 (7 * 2 + i))) ((hF1.2.2.2 _ (hD.1.2.2 _ (by omega)).2.1 (OW_lt hD.1 (by omega))).trans ha) ((hF1.2.2.2 _ (hD.1.2.2 _ (by omega)).2.1 (OW_lt hD.1 (by omega))).trans hb2) (by omega)) (fun r h49 q50 => ?_)
        obtain ⟨rfl, rfl⟩ := q50
        cases u51 : smr q (fun i => I 20 (7 * 2 + i))
        · skip
          show am_Go _ _ _ _ 30 _ [.int 0] _ _
          refine go_ifP (t' := 32) (pc' := 31) rfl rfl rfl (fun _ => ?_) (fun (c : ¬ ((0 : Int32) = 0)) => absurd (by decide) c)
          refine go_s (pc' := 33) (lo' := [some (.ref 32), some (.ref a), some (.int 1), some (.int 3)]) rfl rfl rfl rfl ?_
          refine go_s (pc' := 20) rfl rfl rfl rfl ?_
          refine go_s (pc' := 21) rfl rfl rfl rfl ?_
          refine go_s (pc' := 22) rfl rfl rfl rfl ?_
          refine go_sget (pc' := 23) (v := .int 3) hS rfl rfl rfl (by decide) (congrArg Value.int en) rfl ?_
          refine go_icmpP (t' := 34) (pc' := 24) rfl rfl rfl (fun _ => ?_) (fun (c : ¬ (3 ≤ (3 : Int32))) => absurd (by decide) c)
          refine go_s (pc' := 35) rfl rfl rfl rfl ?_
          refine go_sget (pc' := 36) (v := .ref 57) hS rfl rfl rfl (by decide) rfl rfl ?_
          refine go_s (pc' := 37) rfl rfl rfl rfl ?_
          refine go_sget (pc' := 38) (v := .int 3) hS rfl rfl rfl (by decide) (congrArg Value.int en) rfl ?_
          refine go_s (pc' := 39) rfl rfl rfl rfl ?_
          refine go_saast (pc' := 40) (q := 3) hS rfl rfl tbc_inj (Nat.le_of_ble_eq_true rfl) (Nat.le_of_ble_eq_true rfl) ((hF1.2.2.2 _ (hD.1.2.2 _ (by omega)).2.1 (OW_lt hD.1 (by omega))).trans ha) (am_S_rq w) rfl (by decide) (by decide) (hW _ rfl) rfl (fun h52 hS53 hE54 => ?_)
          have hF55 := fr_trans hF1 (fr_e hE54)
          have hq56 := (hE54.2.2 _ (htc 0 (by decide))).trans hsd
          refine go_s (pc' := 41) rfl rfl rfl rfl ?_
          refine go_s (pc' := 42) rfl rfl rfl rfl ?_
          refine go_sget (pc' := 43) (v := .int 3) hS53 rfl rfl rfl (by decide) (congrArg Value.int en) rfl ?_
          refine go_s (pc' := 44) (st' := [.int 1, .int 3, .ref 32]) rfl rfl rfl rfl ?_
          refine go_s (pc' := 45) (st' := [.int 4, .ref 32]) rfl rfl rfl rfl ?_
          refine go_sput (pc' := 46) hS53 rfl rfl rfl (by decide) tbc_inj (Nat.le_of_ble_eq_true rfl) rfl (hW _ rfl) rfl (fun h57 hS58 hE59 => ?_)
          have hF60 := fr_trans hF55 (fr_e hE59)
          have hq61 := (hE59.2.2 _ (htc 0 (by decide))).trans hq56
          refine go_ret rfl rfl ?_
          have hms : mac q (I, Q, Z) = (mrw I 3 q, Q, Z) := by
            unfold mac
            rw [show stn (I, Q, Z).1 = 3 from es, if_neg]
            rw [hbd]
            intro z
            rcases z with z | z
            · exact absurd z (by decide)
            · simp only [mdup, u45, u48, u51, Bool.or_false, Bool.false_or, Bool.or_self, Bool.false_eq_true] at z
          have hD62 := CD_mrw (n := 3) (q := q) (X2 := (uX X 210 3 (.ref a))) (CD_fr hD hF60) en (by decide) (by show Rq _ ow (.ref a) q; exact Rq_fr hD.1 hF60 ⟨a, rfl, oa, ha⟩) (fun k hk => by simp [uX]; omega) (fun c hc => by funext j; simp [uX, hc])
          rw [hms]
          refine ⟨rfl, ⟨(uX X 210 3 (.ref a)), ow, sb, mrw_sm hS58, hD62, ?_, fun l hl => Nat.le_trans (hQ l hl) hF60.1⟩⟩
          have z := co_fr (I := I) (J := I) hF60 rfl
          show co _ (mrw I 3 q) ≤ _
          have e9 : mrw I 3 q 21 0 = nI 4 := by simp [mrw]
          have e8 : I 21 0 = nI 3 := en
          unfold co at hB z ⊢
          rw [e9]
          rw [e8] at hB z
          rw [nI_clamp (by decide)] at hB z ⊢
          omega
        · skip
          show am_Go _ _ _ _ 30 _ [.int 1] _ _
          refine go_ifP (t' := 32) (pc' := 31) rfl rfl rfl (fun (c : (1 : Int32) = 0) => absurd c (by decide)) (fun _ => ?_)
          refine go_ret rfl rfl ?_
          have hms : mac q (I, Q, Z) = (I, Q, Z) := if_pos (Or.inr (by rw [show stn (I, Q, Z).1 = 3 from es, hbd]; simp only [mdup, u45, u48, u51, Bool.or_true, Bool.true_or, Bool.or_false, Bool.false_or]))
          have hD63 : CD w e m0 h49 I Q Z X ow sb := CD_I (CD_fr hD hF1) ⟨rfl, rfl, rfl, rfl, rfl, rfl, rfl, rfl, rfl, rfl, rfl, rfl, rfl, rfl, rfl⟩
          have hB64 : co h49 I ≤ B + 0 := by
            have := co_fr (I := I) (J := I) hF1 rfl
            have := hB
            omega
          have hC65 : CA w e m0 (B + 0) h49 (I, Q, Z) := ⟨X, ow, sb, hS, hD63, hB64, fun l hl => Nat.le_trans (hQ l hl) hF1.1⟩
          rw [hms]
          exact ⟨rfl, CA_le hC65 (by omega)⟩
      · skip
        show am_Go _ _ _ _ 30 _ [.int 1] _ _
        refine go_ifP (t' := 32) (pc' := 31) rfl rfl rfl (fun (c : (1 : Int32) = 0) => absurd c (by decide)) (fun _ => ?_)
        refine go_ret rfl rfl ?_
        have hms : mac q (I, Q, Z) = (I, Q, Z) := if_pos (Or.inr (by rw [show stn (I, Q, Z).1 = 3 from es, hbd]; simp only [mdup, u45, u48, Bool.or_true, Bool.true_or, Bool.or_false, Bool.false_or]))
        have hD66 : CD w e m0 h46 I Q Z X ow sb := CD_I (CD_fr hD hF1) ⟨rfl, rfl, rfl, rfl, rfl, rfl, rfl, rfl, rfl, rfl, rfl, rfl, rfl, rfl, rfl⟩
        have hB67 : co h46 I ≤ B + 0 := by
          have := co_fr (I := I) (J := I) hF1 rfl
          have := hB
          omega
        have hC68 : CA w e m0 (B + 0) h46 (I, Q, Z) := ⟨X, ow, sb, hS, hD66, hB67, fun l hl => Nat.le_trans (hQ l hl) hF1.1⟩
        rw [hms]
        exact ⟨rfl, CA_le hC68 (by omega)⟩
    · skip
      show am_Go _ _ _ _ 30 _ [.int 1] _ _
      refine go_ifP (t' := 32) (pc' := 31) rfl rfl rfl (fun (c : (1 : Int32) = 0) => absurd c (by decide)) (fun _ => ?_)
      refine go_ret rfl rfl ?_
      have hms : mac q (I, Q, Z) = (I, Q, Z) := if_pos (Or.inr (by rw [show stn (I, Q, Z).1 = 3 from es, hbd]; simp only [mdup, u45, Bool.or_true, Bool.true_or, Bool.or_false, Bool.false_or]))
      have hD69 : CD w e m0 h43 I Q Z X ow sb := CD_I (CD_fr hD hF1) ⟨rfl, rfl, rfl, rfl, rfl, rfl, rfl, rfl, rfl, rfl, rfl, rfl, rfl, rfl, rfl⟩
      have hB70 : co h43 I ≤ B + 0 := by
        have := co_fr (I := I) (J := I) hF1 rfl
        have := hB
        omega
      have hC71 : CA w e m0 (B + 0) h43 (I, Q, Z) := ⟨X, ow, sb, hS, hD69, hB70, fun l hl => Nat.le_trans (hQ l hl) hF1.1⟩
      rw [hms]
      exact ⟨rfl, CA_le hC71 (by omega)⟩
theorem cx_ac_4 {w : Nat → Bool} {d : Nat} {h : am_Hp} {e : Nat} {m0 : mg} {B : Nat} {I : sm_I} {Q : mQ} {Z : mZ} {X : sm_X} {ow : ow_T} {sb : Nat} (hS : sm tbc h I X) (hD : CD w e m0 h I Q Z X ow sb) (hB : co h I ≤ B) (hQ : ∀ l, l < 16 → (Q l).length ≤ h.length) (hB2 : B < 2 ^ 28) (hv : lv I 0 = true) (en : I 21 0 = 4) {a t : Nat} {q : Nat → Int32} (ht : t < 2) (q0 : q 0 = nI t) (oa : ow a = 1) (ha : h[a]? = some (.inl (8, rqf q))) (hd : 2 ≤ d) : am_Ev (am_prog w) d 80 [.ref 32, .ref a] h (fun r h' => r = none ∧ CA w e m0 (B + 700) h' (mac q (I, Q, Z))) := by
  have hW := hD.1.1
  have hWn : ∀ a, List.length h ≤ a → w a = true := fun a ha => (hD.1.2.1 a ha).1
  have hF1 := fr_refl tbc h
  have hln : 62 ≤ List.length h := sm_len hS
  obtain ⟨d, rfl⟩ : ∃ e, d = e + 1 := ⟨d - 1, by omega⟩
  refine ev_go rfl (Nat.le_of_ble_eq_true rfl) rfl ?_
  have hD0 := hD
  have es : stn I = 4 := stn_eq (n := 4) en (by decide)
  obtain ⟨k208, kst, -⟩ := hD.2.2.2.2.1
  obtain ⟨ad, S, Y, k0, hA, k2, k3, k4, k5, hoa, hZ0, hWa, htc⟩ := St_open hD.1 (kst hv)
  change SQ h ow S Y (Z (rwi I 0)) at k5
  rw [← k0] at k208
  have hrw := SP_rw hD.2.2.2.2.1 (n := 4) en (by decide)
  obtain ⟨b0, x0, o0, hb0⟩ := hrw 0 (by decide)
  obtain ⟨b1, x1, o1, hb1⟩ := hrw 1 (by decide)
  obtain ⟨b2, x2, o2, hb2⟩ := hrw 2 (by decide)
  obtain ⟨b3, x3, o3, hb3⟩ := hrw 3 (by decide)
  have hsc := k4 (ad 0) _ _ (tbs_at hA (i := 0) (by decide))
  by_cases f3 : (Z (rwi I 0)).1 3 = 1
  · skip
    obtain ⟨p, t9, hrq, ht9, f4, p0, p1, p2⟩ := k5.2.2.1 f3
    obtain ⟨bq, e200, oq, hbq⟩ := id hrq
    have hsd : h[ad 0]? = some (.inl (5, [.int (S 0 0), .ref (ad 1), .ref (ad 2), .ref (ad 3), .ref (ad 4), .ref (ad 5), .ref (ad 6), .ref (ad 7), .int (S 0 1), .int (S 0 2), .ref (ad 8), .int (S 0 3), .ref bq, .ref (ad 9)])) := by
      rw [← e200]
      exact hsc
    refine go_s (pc' := 1) rfl rfl rfl rfl ?_
    refine go_get (pc' := 2) rfl ((hF1.2.2.2 _ (hD.1.2.2 _ (by omega)).2.1 (OW_lt hD.1 (by omega))).trans ha) rfl (by decide) rfl rfl ?_
    rw [q0]
    refine go_s (pc' := 3) (st' := [.int 2, .int (nI t)]) rfl rfl rfl rfl ?_
    refine go_callS (pc' := 4) rfl rfl rfl (Nat.le_of_ble_eq_true rfl) rfl rfl rfl (ct_within_t (n := 2) ht (by decide) (by omega)) (fun r h2 q3 => ?_)
    obtain ⟨rfl, rfl⟩ := q3
    refine go_s (pc' := 5) (lo' := [some (.ref 32), some (.ref a), some (.int 1), none]) rfl rfl rfl rfl ?_
    refine go_s (pc' := 6) rfl rfl rfl rfl ?_
    refine go_ifP (t' := 17) (pc' := 7) rfl rfl rfl (fun (c : (1 : Int32) = 0) => absurd c (by decide)) (fun _ => ?_)
    refine go_s (pc' := 8) rfl rfl rfl rfl ?_
    refine go_sget (pc' := 9) (v := .int 4) hS rfl rfl rfl (by decide) (congrArg Value.int en) rfl ?_
    refine go_s (pc' := 10) (st' := [.int 8, .int 4]) rfl rfl rfl rfl ?_
    refine go_icmpP (t' := 17) (pc' := 11) rfl rfl rfl (fun (c : 8 ≤ (4 : Int32)) => absurd c (by decide)) (fun _ => ?_)
    refine go_s (pc' := 12) rfl rfl rfl rfl ?_
    refine go_s (pc' := 13) rfl rfl rfl rfl ?_
    refine go_sget (pc' := 14) (v := .ref (ad 0)) hS rfl rfl rfl (by decide) k208 rfl ?_
    refine go_get (pc' := 15) rfl hsd rfl (by decide) rfl rfl ?_
    have hbd : mbd (row1 (I, Q, Z) 0) q = smr q p := mbd_sm f3 ht9 f4 p0 p1 p2
    refine go_callV (pc' := 16) rfl rfl rfl (Nat.le_of_ble_eq_true rfl) rfl ((hF1.2.2.2 _ (hD.1.2.2 _ (by omega)).2.1 (OW_lt hD.1 (by omega))).trans ha) rfl rfl rfl (ct_same (q := q) (p := p) ((hF1.2.2.2 _ (hD.1.2.2 _ (by omega)).2.1 (OW_lt hD.1 (by omega))).trans ha) ((hF1.2.2.2 _ (hD.1.2.2 _ (by omega)).2.1 (OW_lt hD.1 (by omega))).trans hbq) (by omega)) (fun r h4 q5 => ?_)
    obtain ⟨rfl, rfl⟩ := q5
    cases u6 : smr q p
    · skip
      show am_Go _ _ _ _ 16 _ [.int 0] _ _
      refine go_ifP (t' := 18) (pc' := 17) rfl rfl rfl (fun _ => ?_) (fun (c : ¬ ((0 : Int32) = 0)) => absurd (by decide) c)
      refine go_s (pc' := 19) (st' := [.int 0]) rfl rfl rfl rfl ?_
      refine go_s (pc' := 20) (lo' := [some (.ref 32), some (.ref a), some (.int 1), some (.int 0)]) rfl rfl rfl rfl ?_
      refine go_s (pc' := 21) rfl rfl rfl rfl ?_
      refine go_s (pc' := 22) rfl rfl rfl rfl ?_
      refine go_sget (pc' := 23) (v := .int 4) hS rfl rfl rfl (by decide) (congrArg Value.int en) rfl ?_
      refine go_icmpP (t' := 34) (pc' := 24) rfl rfl rfl (fun (c : 4 ≤ (0 : Int32)) => absurd c (by decide)) (fun _ => ?_)
      refine go_s (pc' := 25) rfl rfl rfl rfl ?_
      refine go_s (pc' := 26) rfl rfl rfl rfl ?_
      refine go_sget (pc' := 27) (v := .ref 57) hS rfl rfl rfl (by decide) rfl rfl ?_
      refine go_s (pc' := 28) rfl rfl rfl rfl ?_
      refine go_sald (pc' := 29) (q := 0) (v := .ref b0) hS rfl rfl rfl rfl (by decide) x0 rfl ?_
      refine go_callV (pc' := 30) rfl rfl rfl (Nat.le_of_ble_eq_true rfl) rfl ((hF1.2.2.2 _ (hD.1.2.2 _ (by omega)).2.1 (OW_lt hD.1 (by omega))).trans ha) rfl rfl rfl (ct_same (q := q) (p := (fun i => I 20 (7 * 0 + i))) ((hF1.2.2.2 _ (hD.1.2.2 _ (by omega)).2.1 (OW_lt hD.1 (by omega))).trans ha) ((hF1.2.2.2 _ (hD.1.2.2 _ (by omega)).2.1 (OW_lt hD.1 (by omega))).trans hb0) (by omega)) (fun r h7 q8 => ?_)
      obtain ⟨rfl, rfl⟩ := q8
      cases u9 : smr q (fun i => I 20 (7 * 0 + i))
      · skip
        show am_Go _ _ _ _ 30 _ [.int 0] _ _
        refine go_ifP (t' := 32) (pc' := 31) rfl rfl rfl (fun _ => ?_) (fun (c : ¬ ((0 : Int32) = 0)) => absurd (by decide) c)
        refine go_s (pc' := 33) (lo' := [some (.ref 32), some (.ref a), some (.int 1), some (.int 1)]) rfl rfl rfl rfl ?_
        refine go_s (pc' := 20) rfl rfl rfl rfl ?_
        refine go_s (pc' := 21) rfl rfl rfl rfl ?_
        refine go_s (pc' := 22) rfl rfl rfl rfl ?_
        refine go_sget (pc' := 23) (v := .int 4) hS rfl rfl rfl (by decide) (congrArg Value.int en) rfl ?_
        refine go_icmpP (t' := 34) (pc' := 24) rfl rfl rfl (fun (c : 4 ≤ (1 : Int32)) => absurd c (by decide)) (fun _ => ?_)
        refine go_s (pc' := 25) rfl rfl rfl rfl ?_
        refine go_s (pc' := 26) rfl rfl rfl rfl ?_
        refine go_sget (pc' := 27) (v := .ref 57) hS rfl rfl rfl (by decide) rfl rfl ?_
        refine go_s (pc' := 28) rfl rfl rfl rfl ?_
        refine go_sald (pc' := 29) (q := 1) (v := .ref b1) hS rfl rfl rfl rfl (by decide) x1 rfl ?_
        refine go_callV (pc' := 30) rfl rfl rfl (Nat.le_of_ble_eq_true rfl) rfl ((hF1.2.2.2 _ (hD.1.2.2 _ (by omega)).2.1 (OW_lt hD.1 (by omega))).trans ha) rfl rfl rfl (ct_same (q := q) (p := (fun i => I 20 (7 * 1 + i))) ((hF1.2.2.2 _ (hD.1.2.2 _ (by omega)).2.1 (OW_lt hD.1 (by omega))).trans ha) ((hF1.2.2.2 _ (hD.1.2.2 _ (by omega)).2.1 (OW_lt hD.1 (by omega))).trans hb1) (by omega)) (fun r h10 q11 => ?_)
        obtain ⟨rfl, rfl⟩ := q11
        cases u12 : smr q (fun i => I 20 (7 * 1 + i))
        · skip
          show am_Go _ _ _ _ 30 _ [.int 0] _ _
          refine go_ifP (t' := 32) (pc' := 31) rfl rfl rfl (fun _ => ?_) (fun (c : ¬ ((0 : Int32) = 0)) => absurd (by decide) c)
          refine go_s (pc' := 33) (lo' := [some (.ref 32), some (.ref a), some (.int 1), some (.int 2)]) rfl rfl rfl rfl ?_
          refine go_s (pc' := 20) rfl rfl rfl rfl ?_
          refine go_s (pc' := 21) rfl rfl rfl rfl ?_
          refine go_s (pc' := 22) rfl rfl rfl rfl ?_
          refine go_sget (pc' := 23) (v := .int 4) hS rfl rfl rfl (by decide) (congrArg Value.int en) rfl ?_
          refine go_icmpP (t' := 34) (pc' := 24) rfl rfl rfl (fun (c : 4 ≤ (2 : Int32)) => absurd c (by decide)) (fun _ => ?_)
          refine go_s (pc' := 25) rfl rfl rfl rfl ?_
          refine go_s (pc' := 26) rfl rfl rfl rfl ?_
          refine go_sget (pc' := 27) (v := .ref 57) hS rfl rfl rfl (by decide) rfl rfl ?_
          refine go_s (pc' := 28) rfl rfl rfl rfl ?_
          refine go_sald (pc' := 29) (q := 2) (v := .ref b2) hS rfl rfl rfl rfl (by decide) x2 rfl ?_
          refine go_callV (pc' := 30) rfl rfl rfl (Nat.le_of_ble_eq_true rfl) rfl ((hF1.2.2.2 _ (hD.1.2.2 _ (by omega)).2.1 (OW_lt hD.1 (by omega))).trans ha) rfl rfl rfl (ct_same (q := q) (p := (fun i => I 20 (7 * 2 + i))) ((hF1.2.2.2 _ (hD.1.2.2 _ (by omega)).2.1 (OW_lt hD.1 (by omega))).trans ha) ((hF1.2.2.2 _ (hD.1.2.2 _ (by omega)).2.1 (OW_lt hD.1 (by omega))).trans hb2) (by omega)) (fun r h13 q14 => ?_)
          obtain ⟨rfl, rfl⟩ := q14
          cases u15 : smr q (fun i => I 20 (7 * 2 + i))
          · skip
            show am_Go _ _ _ _ 30 _ [.int 0] _ _
            refine go_ifP (t' := 32) (pc' := 31) rfl rfl rfl (fun _ => ?_) (fun (c : ¬ ((0 : Int32) = 0)) => absurd (by decide) c)
            refine go_s (pc' := 33) (lo' := [some (.ref 32), some (.ref a), some (.int 1), some (.int 3)]) rfl rfl rfl rfl ?_
            refine go_s (pc' := 20) rfl rfl rfl rfl ?_
            refine go_s (pc' := 21) rfl rfl rfl rfl ?_
            refine go_s (pc' := 22) rfl rfl rfl rfl ?_
            refine go_sget (pc' := 23) (v := .int 4) hS rfl rfl rfl (by decide) (congrArg Value.int en) rfl ?_
            refine go_icmpP (t' := 34) (pc' := 24) rfl rfl rfl (fun (c : 4 ≤ (3 : Int32)) => absurd c (by decide)) (fun _ => ?_)
            refine go_s (pc' := 25) rfl rfl rfl rfl ?_
            refine go_s (pc' := 26) rfl rfl rfl rfl ?_
            refine go_sget (pc' := 27) (v := .ref 57) hS rfl rfl rfl (by decide) rfl rfl ?_
            refine go_s (pc' := 28) rfl rfl rfl rfl ?_
            refine go_sald (pc' := 29) (q := 3) (v := .ref b3) hS rfl rfl rfl rfl (by decide) x3 rfl ?_
            refine go_callV (pc' := 30) rfl rfl rfl (Nat.le_of_ble_eq_true rfl) rfl ((hF1.2.2.2 _ (hD.1.2.2 _ (by omega)).2.1 (OW_lt hD.1 (by omega))).trans ha) rfl rfl rfl (ct_same (q := q) (p := (fun i => I 20 (7 * 3 + i))) ((hF1.2.2.2 _ (hD.1.2.2 _ (by omega)).2.1 (OW_lt hD.1 (by omega))).trans ha) ((hF1.2.2.2 _ (hD.1.2.2 _ (by omega)).2.1 (OW_lt hD.1 (by omega))).trans hb3) (by omega)) (fun r h16 q17 => ?_)
            obtain ⟨rfl, rfl⟩ := q17
            cases u18 : smr q (fun i => I 20 (7 * 3 + i))
            · skip
              show am_Go _ _ _ _ 30 _ [.int 0] _ _
              refine go_ifP (t' := 32) (pc' := 31) rfl rfl rfl (fun _ => ?_) (fun (c : ¬ ((0 : Int32) = 0)) => absurd (by decide) c)
              refine go_s (pc' := 33) (lo' := [some (.ref 32), some (.ref a), some (.int 1), some (.int 4)]) rfl rfl rfl rfl ?_
              refine go_s (pc' := 20) rfl rfl rfl rfl ?_
              refine go_s (pc' := 21) rfl rfl rfl rfl ?_
              refine go_s (pc' := 22) rfl rfl rfl rfl ?_
              refine go_sget (pc' := 23) (v := .int 4) hS rfl rfl rfl (by decide) (congrArg Value.int en) rfl ?_
              refine go_icmpP (t' := 34) (pc' := 24) rfl rfl rfl (fun _ => ?_) (fun (c : ¬ (4 ≤ (4 : Int32))) => absurd (by decide) c)
              refine go_s (pc' := 35) rfl rfl rfl rfl ?_
              refine go_sget (pc' := 36) (v := .ref 57) hS rfl rfl rfl (by decide) rfl rfl ?_
              refine go_s (pc' := 37) rfl rfl rfl rfl ?_
              refine go_sget (pc' := 38) (v := .int 4) hS rfl rfl rfl (by decide) (congrArg Value.int en) rfl ?_
              refine go_s (pc' := 39) rfl rfl rfl rfl ?_
              refine go_saast (pc' := 40) (q := 4) hS rfl rfl tbc_inj (Nat.le_of_ble_eq_true rfl) (Nat.le_of_ble_eq_true rfl) ((hF1.2.2.2 _ (hD.1.2.2 _ (by omega)).2.1 (OW_lt hD.1 (by omega))).trans ha) (am_S_rq w) rfl (by decide) (by decide) (hW _ rfl) rfl (fun h19 hS20 hE21 => ?_)
              have hF22 := fr_trans hF1 (fr_e hE21)
              have hq23 := (hE21.2.2 _ (htc 0 (by decide))).trans hsd
              refine go_s (pc' := 41) rfl rfl rfl rfl ?_
              refine go_s (pc' := 42) rfl rfl rfl rfl ?_
              refine go_sget (pc' := 43) (v := .int 4) hS20 rfl rfl rfl (by decide) (congrArg Value.int en) rfl ?_
              refine go_s (pc' := 44) (st' := [.int 1, .int 4, .ref 32]) rfl rfl rfl rfl ?_
              refine go_s (pc' := 45) (st' := [.int 5, .ref 32]) rfl rfl rfl rfl ?_
              refine go_sput (pc' := 46) hS20 rfl rfl rfl (by decide) tbc_inj (Nat.le_of_ble_eq_true rfl) rfl (hW _ rfl) rfl (fun h24 hS25 hE26 => ?_)
              have hF27 := fr_trans hF22 (fr_e hE26)
              have hq28 := (hE26.2.2 _ (htc 0 (by decide))).trans hq23
              refine go_ret rfl rfl ?_
              have hms : mac q (I, Q, Z) = (mrw I 4 q, Q, Z) := by
                unfold mac
                rw [show stn (I, Q, Z).1 = 4 from es, if_neg]
                rw [hbd]
                intro z
                rcases z with z | z
                · exact absurd z (by decide)
                · simp only [mdup, u6, u9, u12, u15, u18, Bool.or_false, Bool.false_or, Bool.or_self, Bool.false_eq_true] at z
              have hD29 := CD_mrw (n := 4) (q := q) (X2 := (uX X 210 4 (.ref a))) (CD_fr hD hF27) en (by decide) (by show Rq _ ow (.ref a) q; exact Rq_fr hD.1 hF27 ⟨a, rfl, oa, ha⟩) (fun k hk => by simp [uX]; omega) (fun c hc => by funext j; simp [uX, hc])
              rw [hms]
              refine ⟨rfl, ⟨(uX X 210 4 (.ref a)), ow, sb, mrw_sm hS25, hD29, ?_, fun l hl => Nat.le_trans (hQ l hl) hF27.1⟩⟩
              have z := co_fr (I := I) (J := I) hF27 rfl
              show co _ (mrw I 4 q) ≤ _
              have e9 : mrw I 4 q 21 0 = nI 5 := by simp [mrw]
              have e8 : I 21 0 = nI 4 := en
              unfold co at hB z ⊢
              rw [e9]
              rw [e8] at hB z
              rw [nI_clamp (by decide)] at hB z ⊢
              omega
            · skip
              show am_Go _ _ _ _ 30 _ [.int 1] _ _
              refine go_ifP (t' := 32) (pc' := 31) rfl rfl rfl (fun (c : (1 : Int32) = 0) => absurd c (by decide)) (fun _ => ?_)
              refine go_ret rfl rfl ?_
              have hms : mac q (I, Q, Z) = (I, Q, Z) := if_pos (Or.inr (by rw [show stn (I, Q, Z).1 = 4 from es, hbd]; simp only [mdup, u6, u9, u12, u15, u18, Bool.or_true, Bool.true_or, Bool.or_false, Bool.false_or]))
              have hD30 : CD w e m0 h16 I Q Z X ow sb := CD_I (CD_fr hD hF1) ⟨rfl, rfl, rfl, rfl, rfl, rfl, rfl, rfl, rfl, rfl, rfl, rfl, rfl, rfl, rfl⟩
              have hB31 : co h16 I ≤ B + 0 := by
                have := co_fr (I := I) (J := I) hF1 rfl
                have := hB
                omega
              have hC32 : CA w e m0 (B + 0) h16 (I, Q, Z) := ⟨X, ow, sb, hS, hD30, hB31, fun l hl => Nat.le_trans (hQ l hl) hF1.1⟩
              rw [hms]
              exact ⟨rfl, CA_le hC32 (by omega)⟩
          · skip
            show am_Go _ _ _ _ 30 _ [.int 1] _ _
            refine go_ifP (t' := 32) (pc' := 31) rfl rfl rfl (fun (c : (1 : Int32) = 0) => absurd c (by decide)) (fun _ => ?_)
            refine go_ret rfl rfl ?_
            have hms : mac q (I, Q, Z) = (I, Q, Z) := if_pos (Or.inr (by rw [show stn (I, Q, Z).1 = 4 from es, hbd]; simp only [mdup, u6, u9, u12, u15, Bool.or_true, Bool.true_or, Bool.or_false, Bool.false_or]))
            have hD33 : CD w e m0 h13 I Q Z X ow sb := CD_I (CD_fr hD hF1) ⟨rfl, rfl, rfl, rfl, rfl, rfl, rfl, rfl, rfl, rfl, rfl, rfl, rfl, rfl, rfl⟩
            have hB34 : co h13 I ≤ B + 0 := by
              have := co_fr (I := I) (J := I) hF1 rfl
              have := hB
              omega
            have hC35 : CA w e m0 (B + 0) h13 (I, Q, Z) := ⟨X, ow, sb, hS, hD33, hB34, fun l hl => Nat.le_trans (hQ l hl) hF1.1⟩
            rw [hms]
            exact ⟨rfl, CA_le hC35 (by omega)⟩
        · skip
          show am_Go _ _ _ _ 30 _ [.int 1] _ _
          refine go_ifP (t' := 32) (pc' := 31) rfl rfl rfl (fun (c : (1 : Int32) = 0) => absurd c (by decide)) (fun _ => ?_)
          refine go_ret rfl rfl ?_
          have hms : mac q (I, Q, Z) = (I, Q, Z) := if_pos (Or.inr (by rw [show stn (I, Q, Z).1 = 4 from es, hbd]; simp only [mdup, u6, u9, u12, Bool.or_true, Bool.true_or, Bool.or_false, Bool.false_or]))
          have hD36 : CD w e m0 h10 I Q Z X ow sb := CD_I (CD_fr hD hF1) ⟨rfl, rfl, rfl, rfl, rfl, rfl, rfl, rfl, rfl, rfl, rfl, rfl, rfl, rfl, rfl⟩
          have hB37 : co h10 I ≤ B + 0 := by
            have := co_fr (I := I) (J := I) hF1 rfl
            have := hB
            omega
          have hC38 : CA w e m0 (B + 0) h10 (I, Q, Z) := ⟨X, ow, sb, hS, hD36, hB37, fun l hl => Nat.le_trans (hQ l hl) hF1.1⟩
          rw [hms]
          exact ⟨rfl, CA_le hC38 (by omega)⟩
      · skip
        show am_Go _ _ _ _ 30 _ [.int 1] _ _
        refine go_ifP (t' := 32) (pc' := 31) rfl rfl rfl (fun (c : (1 : Int32) = 0) => absurd c (by decide)) (fun _ => ?_)
        refine go_ret rfl rfl ?_
        have hms : mac q (I, Q, Z) = (I, Q, Z) := if_pos (Or.inr (by rw [show stn (I, Q, Z).1 = 4 from es, hbd]; simp only [mdup, u6, u9, Bool.or_true, Bool.true_or, Bool.or_false, Bool.false_or]))
        have hD39 : CD w e m0 h7 I Q Z X ow sb := CD_I (CD_fr hD hF1) ⟨rfl, rfl, rfl, rfl, rfl, rfl, rfl, rfl, rfl, rfl, rfl, rfl, rfl, rfl, rfl⟩
        have hB40 : co h7 I ≤ B + 0 := by
          have := co_fr (I := I) (J := I) hF1 rfl
          have := hB
          omega
        have hC41 : CA w e m0 (B + 0) h7 (I, Q, Z) := ⟨X, ow, sb, hS, hD39, hB40, fun l hl => Nat.le_trans (hQ l hl) hF1.1⟩
        rw [hms]
        exact ⟨rfl, CA_le hC41 (by omega)⟩
    · skip
      show am_Go _ _ _ _ 16 _ [.int 1] _ _
      refine go_ifP (t' := 18) (pc' := 17) rfl rfl rfl (fun (c : (1 : Int32) = 0) => absurd c (by decide)) (fun _ => ?_)
      refine go_ret rfl rfl ?_
      have hms : mac q (I, Q, Z) = (I, Q, Z) := if_pos (Or.inr (by rw [show stn (I, Q, Z).1 = 4 from es, hbd]; simp only [mdup, u6, Bool.or_true, Bool.true_or, Bool.or_false, Bool.false_or]))
      have hD42 : CD w e m0 h4 I Q Z X ow sb := CD_I (CD_fr hD hF1) ⟨rfl, rfl, rfl, rfl, rfl, rfl, rfl, rfl, rfl, rfl, rfl, rfl, rfl, rfl, rfl⟩
      have hB43 : co h4 I ≤ B + 0 := by
        have := co_fr (I := I) (J := I) hF1 rfl
        have := hB
        omega
      have hC44 : CA w e m0 (B + 0) h4 (I, Q, Z) := ⟨X, ow, sb, hS, hD42, hB43, fun l hl => Nat.le_trans (hQ l hl) hF1.1⟩
      rw [hms]
      exact ⟨rfl, CA_le hC44 (by omega)⟩
  · skip
    have e200 := k5.2.2.2 f3
    have hsd : h[ad 0]? = some (.inl (5, [.int (S 0 0), .ref (ad 1), .ref (ad 2), .ref (ad 3), .ref (ad 4), .ref (ad 5), .ref (ad 6), .ref (ad 7), .int (S 0 1), .int (S 0 2), .ref (ad 8), .int (S 0 3), .null, .ref (ad 9)])) := by
      rw [← e200]
      exact hsc
    refine go_s (pc' := 1) rfl rfl rfl rfl ?_
    refine go_get (pc' := 2) rfl ((hF1.2.2.2 _ (hD.1.2.2 _ (by omega)).2.1 (OW_lt hD.1 (by omega))).trans ha) rfl (by decide) rfl rfl ?_
    rw [q0]
    refine go_s (pc' := 3) (st' := [.int 2, .int (nI t)]) rfl rfl rfl rfl ?_
    refine go_callS (pc' := 4) rfl rfl rfl (Nat.le_of_ble_eq_true rfl) rfl rfl rfl (ct_within_t (n := 2) ht (by decide) (by omega)) (fun r h45 q46 => ?_)
    obtain ⟨rfl, rfl⟩ := q46
    refine go_s (pc' := 5) (lo' := [some (.ref 32), some (.ref a), some (.int 1), none]) rfl rfl rfl rfl ?_
    refine go_s (pc' := 6) rfl rfl rfl rfl ?_
    refine go_ifP (t' := 17) (pc' := 7) rfl rfl rfl (fun (c : (1 : Int32) = 0) => absurd c (by decide)) (fun _ => ?_)
    refine go_s (pc' := 8) rfl rfl rfl rfl ?_
    refine go_sget (pc' := 9) (v := .int 4) hS rfl rfl rfl (by decide) (congrArg Value.int en) rfl ?_
    refine go_s (pc' := 10) (st' := [.int 8, .int 4]) rfl rfl rfl rfl ?_
    refine go_icmpP (t' := 17) (pc' := 11) rfl rfl rfl (fun (c : 8 ≤ (4 : Int32)) => absurd c (by decide)) (fun _ => ?_)
    refine go_s (pc' := 12) rfl rfl rfl rfl ?_
    refine go_s (pc' := 13) rfl rfl rfl rfl ?_
    refine go_sget (pc' := 14) (v := .ref (ad 0)) hS rfl rfl rfl (by decide) k208 rfl ?_
    refine go_get (pc' := 15) rfl hsd rfl (by decide) rfl rfl ?_
    have hbd : mbd (row1 (I, Q, Z) 0) q = false := mbd_f f3
    refine go_callV (pc' := 16) rfl rfl rfl (Nat.le_of_ble_eq_true rfl) rfl ((hF1.2.2.2 _ (hD.1.2.2 _ (by omega)).2.1 (OW_lt hD.1 (by omega))).trans ha) rfl rfl rfl (ct_same_n (by omega)) (fun r h47 q48 => ?_)
    obtain ⟨rfl, rfl⟩ := q48
    refine go_ifP (t' := 18) (pc' := 17) rfl rfl rfl (fun _ => ?_) (fun (c : ¬ ((0 : Int32) = 0)) => absurd (by decide) c)
    refine go_s (pc' := 19) (st' := [.int 0]) rfl rfl rfl rfl ?_
    refine go_s (pc' := 20) (lo' := [some (.ref 32), some (.ref a), some (.int 1), some (.int 0)]) rfl rfl rfl rfl ?_
    refine go_s (pc' := 21) rfl rfl rfl rfl ?_
    refine go_s (pc' := 22) rfl rfl rfl rfl ?_
    refine go_sget (pc' := 23) (v := .int 4) hS rfl rfl rfl (by decide) (congrArg Value.int en) rfl ?_
    refine go_icmpP (t' := 34) (pc' := 24) rfl rfl rfl (fun (c : 4 ≤ (0 : Int32)) => absurd c (by decide)) (fun _ => ?_)
    refine go_s (pc' := 25) rfl rfl rfl rfl ?_
    refine go_s (pc' := 26) rfl rfl rfl rfl ?_
    refine go_sget (pc' := 27) (v := .ref 57) hS rfl rfl rfl (by decide) rfl rfl ?_
    refine go_s (pc' := 28) rfl rfl rfl rfl ?_
    refine go_sald (pc' := 29) (q := 0) (v := .ref b0) hS rfl rfl rfl rfl (by decide) x0 rfl ?_
    refine go_callV (pc' := 30) rfl rfl rfl (Nat.le_of_ble_eq_true rfl) rfl ((hF1.2.2.2 _ (hD.1.2.2 _ (by omega)).2.1 (OW_lt hD.1 (by omega))).trans ha) rfl rfl rfl (ct_same (q := q) (p := (fun i => I 20 (7 * 0 + i))) ((hF1.2.2.2 _ (hD.1.2.2 _ (by omega)).2.1 (OW_lt hD.1 (by omega))).trans ha) ((hF1.2.2.2 _ (hD.1.2.2 _ (by omega)).2.1 (OW_lt hD.1 (by omega))).trans hb0) (by omega)) (fun r h49 q50 => ?_)
    obtain ⟨rfl, rfl⟩ := q50
    cases u51 : smr q (fun i => I 20 (7 * 0 + i))
    · skip
      show am_Go _ _ _ _ 30 _ [.int 0] _ _
      refine go_ifP (t' := 32) (pc' := 31) rfl rfl rfl (fun _ => ?_) (fun (c : ¬ ((0 : Int32) = 0)) => absurd (by decide) c)
      refine go_s (pc' := 33) (lo' := [some (.ref 32), some (.ref a), some (.int 1), some (.int 1)]) rfl rfl rfl rfl ?_
      refine go_s (pc' := 20) rfl rfl rfl rfl ?_
      refine go_s (pc' := 21) rfl rfl rfl rfl ?_
      refine go_s (pc' := 22) rfl rfl rfl rfl ?_
      refine go_sget (pc' := 23) (v := .int 4) hS rfl rfl rfl (by decide) (congrArg Value.int en) rfl ?_
      refine go_icmpP (t' := 34) (pc' := 24) rfl rfl rfl (fun (c : 4 ≤ (1 : Int32)) => absurd c (by decide)) (fun _ => ?_)
      refine go_s (pc' := 25) rfl rfl rfl rfl ?_
      refine go_s (pc' := 26) rfl rfl rfl rfl ?_
      refine go_sget (pc' := 27) (v := .ref 57) hS rfl rfl rfl (by decide) rfl rfl ?_
      refine go_s (pc' := 28) rfl rfl rfl rfl ?_
      refine go_sald (pc' := 29) (q := 1) (v := .ref b1) hS rfl rfl rfl rfl (by decide) x1 rfl ?_
      refine go_callV (pc' := 30) rfl rfl rfl (Nat.le_of_ble_eq_true rfl) rfl ((hF1.2.2.2 _ (hD.1.2.2 _ (by omega)).2.1 (OW_lt hD.1 (by omega))).trans ha) rfl rfl rfl (ct_same (q := q) (p := (fun i => I 20 (7 * 1 + i))) ((hF1.2.2.2 _ (hD.1.2.2 _ (by omega)).2.1 (OW_lt hD.1 (by omega))).trans ha) ((hF1.2.2.2 _ (hD.1.2.2 _ (by omega)).2.1 (OW_lt hD.1 (by omega))).trans hb1) (by omega)) (fun r h52 q53 => ?_)
      obtain ⟨rfl, rfl⟩ := q53
      cases u54 : smr q (fun i => I 20 (7 * 1 + i))
      · skip
        show am_Go _ _ _ _ 30 _ [.int 0] _ _
        refine go_ifP (t' := 32) (pc' := 31) rfl rfl rfl (fun _ => ?_) (fun (c : ¬ ((0 : Int32) = 0)) => absurd (by decide) c)
        refine go_s (pc' := 33) (lo' := [some (.ref 32), some (.ref a), some (.int 1), some (.int 2)]) rfl rfl rfl rfl ?_
        refine go_s (pc' := 20) rfl rfl rfl rfl ?_
        refine go_s (pc' := 21) rfl rfl rfl rfl ?_
        refine go_s (pc' := 22) rfl rfl rfl rfl ?_
        refine go_sget (pc' := 23) (v := .int 4) hS rfl rfl rfl (by decide) (congrArg Value.int en) rfl ?_
        refine go_icmpP (t' := 34) (pc' := 24) rfl rfl rfl (fun (c : 4 ≤ (2 : Int32)) => absurd c (by decide)) (fun _ => ?_)
        refine go_s (pc' := 25) rfl rfl rfl rfl ?_
        refine go_s (pc' := 26) rfl rfl rfl rfl ?_
        refine go_sget (pc' := 27) (v := .ref 57) hS rfl rfl rfl (by decide) rfl rfl ?_
        refine go_s (pc' := 28) rfl rfl rfl rfl ?_
        refine go_sald (pc' := 29) (q := 2) (v := .ref b2) hS rfl rfl rfl rfl (by decide) x2 rfl ?_
        refine go_callV (pc' := 30) rfl rfl rfl (Nat.le_of_ble_eq_true rfl) rfl ((hF1.2.2.2 _ (hD.1.2.2 _ (by omega)).2.1 (OW_lt hD.1 (by omega))).trans ha) rfl rfl rfl (ct_same (q := q) (p := (fun i => I 20 (7 * 2 + i))) ((hF1.2.2.2 _ (hD.1.2.2 _ (by omega)).2.1 (OW_lt hD.1 (by omega))).trans ha) ((hF1.2.2.2 _ (hD.1.2.2 _ (by omega)).2.1 (OW_lt hD.1 (by omega))).trans hb2) (by omega)) (fun r h55 q56 => ?_)
        obtain ⟨rfl, rfl⟩ := q56
        cases u57 : smr q (fun i => I 20 (7 * 2 + i))
        · skip
          show am_Go _ _ _ _ 30 _ [.int 0] _ _
          refine go_ifP (t' := 32) (pc' := 31) rfl rfl rfl (fun _ => ?_) (fun (c : ¬ ((0 : Int32) = 0)) => absurd (by decide) c)
          refine go_s (pc' := 33) (lo' := [some (.ref 32), some (.ref a), some (.int 1), some (.int 3)]) rfl rfl rfl rfl ?_
          refine go_s (pc' := 20) rfl rfl rfl rfl ?_
          refine go_s (pc' := 21) rfl rfl rfl rfl ?_
          refine go_s (pc' := 22) rfl rfl rfl rfl ?_
          refine go_sget (pc' := 23) (v := .int 4) hS rfl rfl rfl (by decide) (congrArg Value.int en) rfl ?_
          refine go_icmpP (t' := 34) (pc' := 24) rfl rfl rfl (fun (c : 4 ≤ (3 : Int32)) => absurd c (by decide)) (fun _ => ?_)
          refine go_s (pc' := 25) rfl rfl rfl rfl ?_
          refine go_s (pc' := 26) rfl rfl rfl rfl ?_
          refine go_sget (pc' := 27) (v := .ref 57) hS rfl rfl rfl (by decide) rfl rfl ?_
          refine go_s (pc' := 28) rfl rfl rfl rfl ?_
          refine go_sald (pc' := 29) (q := 3) (v := .ref b3) hS rfl rfl rfl rfl (by decide) x3 rfl ?_
          refine go_callV (pc' := 30) rfl rfl rfl (Nat.le_of_ble_eq_true rfl) rfl ((hF1.2.2.2 _ (hD.1.2.2 _ (by omega)).2.1 (OW_lt hD.1 (by omega))).trans ha) rfl rfl rfl (ct_same (q := q) (p := (fun i => I 20 (7 * 3 + i))) ((hF1.2.2.2 _ (hD.1.2.2 _ (by omega)).2.1 (OW_lt hD.1 (by omega))).trans ha) ((hF1.2.2.2 _ (hD.1.2.2 _ (by omega)).2.1 (OW_lt hD.1 (by omega))).trans hb3) (by omega)) (fun r h58 q59 => ?_)
          obtain ⟨rfl, rfl⟩ := q59
          cases u60 : smr q (fun i => I 20 (7 * 3 + i))
          · skip
            show am_Go _ _ _ _ 30 _ [.int 0] _ _
            refine go_ifP (t' := 32) (pc' := 31) rfl rfl rfl (fun _ => ?_) (fun (c : ¬ ((0 : Int32) = 0)) => absurd (by decide) c)
            refine go_s (pc' := 33) (lo' := [some (.ref 32), some (.ref a), some (.int 1), some (.int 4)]) rfl rfl rfl rfl ?_
            refine go_s (pc' := 20) rfl rfl rfl rfl ?_
            refine go_s (pc' := 21) rfl rfl rfl rfl ?_
            refine go_s (pc' := 22) rfl rfl rfl rfl ?_
            refine go_sget (pc' := 23) (v := .int 4) hS rfl rfl rfl (by decide) (congrArg Value.int en) rfl ?_
            refine go_icmpP (t' := 34) (pc' := 24) rfl rfl rfl (fun _ => ?_) (fun (c : ¬ (4 ≤ (4 : Int32))) => absurd (by decide) c)
            refine go_s (pc' := 35) rfl rfl rfl rfl ?_
            refine go_sget (pc' := 36) (v := .ref 57) hS rfl rfl rfl (by decide) rfl rfl ?_
            refine go_s (pc' := 37) rfl rfl rfl rfl ?_
            refine go_sget (pc' := 38) (v := .int 4) hS rfl rfl rfl (by decide) (congrArg Value.int en) rfl ?_
            refine go_s (pc' := 39) rfl rfl rfl rfl ?_
            refine go_saast (pc' := 40) (q := 4) hS rfl rfl tbc_inj (Nat.le_of_ble_eq_true rfl) (Nat.le_of_ble_eq_true rfl) ((hF1.2.2.2 _ (hD.1.2.2 _ (by omega)).2.1 (OW_lt hD.1 (by omega))).trans ha) (am_S_rq w) rfl (by decide) (by decide) (hW _ rfl) rfl (fun h61 hS62 hE63 => ?_)
            have hF64 := fr_trans hF1 (fr_e hE63)
            have hq65 := (hE63.2.2 _ (htc 0 (by decide))).trans hsd
            refine go_s (pc' := 41) rfl rfl rfl rfl ?_
            refine go_s (pc' := 42) rfl rfl rfl rfl ?_
            refine go_sget (pc' := 43) (v := .int 4) hS62 rfl rfl rfl (by decide) (congrArg Value.int en) rfl ?_
            refine go_s (pc' := 44) (st' := [.int 1, .int 4, .ref 32]) rfl rfl rfl rfl ?_
            refine go_s (pc' := 45) (st' := [.int 5, .ref 32]) rfl rfl rfl rfl ?_
            refine go_sput (pc' := 46) hS62 rfl rfl rfl (by decide) tbc_inj (Nat.le_of_ble_eq_true rfl) rfl (hW _ rfl) rfl (fun h66 hS67 hE68 => ?_)
            have hF69 := fr_trans hF64 (fr_e hE68)
            have hq70 := (hE68.2.2 _ (htc 0 (by decide))).trans hq65
            refine go_ret rfl rfl ?_
            have hms : mac q (I, Q, Z) = (mrw I 4 q, Q, Z) := by
              unfold mac
              rw [show stn (I, Q, Z).1 = 4 from es, if_neg]
              rw [hbd]
              intro z
              rcases z with z | z
              · exact absurd z (by decide)
              · simp only [mdup, u51, u54, u57, u60, Bool.or_false, Bool.false_or, Bool.or_self, Bool.false_eq_true] at z
            have hD71 := CD_mrw (n := 4) (q := q) (X2 := (uX X 210 4 (.ref a))) (CD_fr hD hF69) en (by decide) (by show Rq _ ow (.ref a) q; exact Rq_fr hD.1 hF69 ⟨a, rfl, oa, ha⟩) (fun k hk => by simp [uX]; omega) (fun c hc => by funext j; simp [uX, hc])
            rw [hms]
            refine ⟨rfl, ⟨(uX X 210 4 (.ref a)), ow, sb, mrw_sm hS67, hD71, ?_, fun l hl => Nat.le_trans (hQ l hl) hF69.1⟩⟩
            have z := co_fr (I := I) (J := I) hF69 rfl
            show co _ (mrw I 4 q) ≤ _
            have e9 : mrw I 4 q 21 0 = nI 5 := by simp [mrw]
            have e8 : I 21 0 = nI 4 := en
            unfold co at hB z ⊢
            rw [e9]
            rw [e8] at hB z
            rw [nI_clamp (by decide)] at hB z ⊢
            omega
          · skip
            show am_Go _ _ _ _ 30 _ [.int 1] _ _
            refine go_ifP (t' := 32) (pc' := 31) rfl rfl rfl (fun (c : (1 : Int32) = 0) => absurd c (by decide)) (fun _ => ?_)
            refine go_ret rfl rfl ?_
            have hms : mac q (I, Q, Z) = (I, Q, Z) := if_pos (Or.inr (by rw [show stn (I, Q, Z).1 = 4 from es, hbd]; simp only [mdup, u51, u54, u57, u60, Bool.or_true, Bool.true_or, Bool.or_false, Bool.false_or]))
            have hD72 : CD w e m0 h58 I Q Z X ow sb := CD_I (CD_fr hD hF1) ⟨rfl, rfl, rfl, rfl, rfl, rfl, rfl, rfl, rfl, rfl, rfl, rfl, rfl, rfl, rfl⟩
            have hB73 : co h58 I ≤ B + 0 := by
              have := co_fr (I := I) (J := I) hF1 rfl
              have := hB
              omega
            have hC74 : CA w e m0 (B + 0) h58 (I, Q, Z) := ⟨X, ow, sb, hS, hD72, hB73, fun l hl => Nat.le_trans (hQ l hl) hF1.1⟩
            rw [hms]
            exact ⟨rfl, CA_le hC74 (by omega)⟩
        · skip
          show am_Go _ _ _ _ 30 _ [.int 1] _ _
          refine go_ifP (t' := 32) (pc' := 31) rfl rfl rfl (fun (c : (1 : Int32) = 0) => absurd c (by decide)) (fun _ => ?_)
          refine go_ret rfl rfl ?_
          have hms : mac q (I, Q, Z) = (I, Q, Z) := if_pos (Or.inr (by rw [show stn (I, Q, Z).1 = 4 from es, hbd]; simp only [mdup, u51, u54, u57, Bool.or_true, Bool.true_or, Bool.or_false, Bool.false_or]))
          have hD75 : CD w e m0 h55 I Q Z X ow sb := CD_I (CD_fr hD hF1) ⟨rfl, rfl, rfl, rfl, rfl, rfl, rfl, rfl, rfl, rfl, rfl, rfl, rfl, rfl, rfl⟩
          have hB76 : co h55 I ≤ B + 0 := by
            have := co_fr (I := I) (J := I) hF1 rfl
            have := hB
            omega
          have hC77 : CA w e m0 (B + 0) h55 (I, Q, Z) := ⟨X, ow, sb, hS, hD75, hB76, fun l hl => Nat.le_trans (hQ l hl) hF1.1⟩
          rw [hms]
          exact ⟨rfl, CA_le hC77 (by omega)⟩
      · skip
        show am_Go _ _ _ _ 30 _ [.int 1] _ _
        refine go_ifP (t' := 32) (pc' := 31) rfl rfl rfl (fun (c : (1 : Int32) = 0) => absurd c (by decide)) (fun _ => ?_)
        refine go_ret rfl rfl ?_
        have hms : mac q (I, Q, Z) = (I, Q, Z) := if_pos (Or.inr (by rw [show stn (I, Q, Z).1 = 4 from es, hbd]; simp only [mdup, u51, u54, Bool.or_true, Bool.true_or, Bool.or_false, Bool.false_or]))
        have hD78 : CD w e m0 h52 I Q Z X ow sb := CD_I (CD_fr hD hF1) ⟨rfl, rfl, rfl, rfl, rfl, rfl, rfl, rfl, rfl, rfl, rfl, rfl, rfl, rfl, rfl⟩
        have hB79 : co h52 I ≤ B + 0 := by
          have := co_fr (I := I) (J := I) hF1 rfl
          have := hB
          omega
        have hC80 : CA w e m0 (B + 0) h52 (I, Q, Z) := ⟨X, ow, sb, hS, hD78, hB79, fun l hl => Nat.le_trans (hQ l hl) hF1.1⟩
        rw [hms]
        exact ⟨rfl, CA_le hC80 (by omega)⟩
    · skip
      show am_Go _ _ _ _ 30 _ [.int 1] _ _
      refine go_ifP (t' := 32) (pc' := 31) rfl rfl rfl (fun (c : (1 : Int32) = 0) => absurd c (by decide)) (fun _ => ?_)
      refine go_ret rfl rfl ?_
      have hms : mac q (I, Q, Z) = (I, Q, Z) := if_pos (Or.inr (by rw [show stn (I, Q, Z).1 = 4 from es, hbd]; simp only [mdup, u51, Bool.or_true, Bool.true_or, Bool.or_false, Bool.false_or]))
      have hD81 : CD w e m0 h49 I Q Z X ow sb := CD_I (CD_fr hD hF1) ⟨rfl, rfl, rfl, rfl, rfl, rfl, rfl, rfl, rfl, rfl, rfl, rfl, rfl, rfl, rfl⟩
      have hB82 : co h49 I ≤ B + 0 := by
        have := co_fr (I := I) (J := I) hF1 rfl
        have := hB
        omega
      have hC83 : CA w e m0 (B + 0) h49 (I, Q, Z) := ⟨X, ow, sb, hS, hD81, hB82, fun l hl => Nat.le_trans (hQ l hl) hF1.1⟩
      rw [hms]
      exact ⟨rfl, CA_le hC83 (by omega)⟩
theorem cx_ac_5 {w : Nat → Bool} {d : Nat} {h : am_Hp} {e : Nat} {m0 : mg} {B : Nat} {I : sm_I} {Q : mQ} {Z : mZ} {X : sm_X} {ow : ow_T} {sb : Nat} (hS : sm tbc h I X) (hD : CD w e m0 h I Q Z X ow sb) (hB : co h I ≤ B) (hQ : ∀ l, l < 16 → (Q l).length ≤ h.length) (hB2 : B < 2 ^ 28) (hv : lv I 0 = true) (en : I 21 0 = 5) {a t : Nat} {q : Nat → Int32} (ht : t < 2) (q0 : q 0 = nI t) (oa : ow a = 1) (ha : h[a]? = some (.inl (8, rqf q))) (hd : 2 ≤ d) : am_Ev (am_prog w) d 80 [.ref 32, .ref a] h (fun r h' => r = none ∧ CA w e m0 (B + 700) h' (mac q (I, Q, Z))) := by
  have hW := hD.1.1
  have hWn : ∀ a, List.length h ≤ a → w a = true := fun a ha => (hD.1.2.1 a ha).1
  have hF1 := fr_refl tbc h
  have hln : 62 ≤ List.length h := sm_len hS
  obtain ⟨d, rfl⟩ : ∃ e, d = e + 1 := ⟨d - 1, by omega⟩
  refine ev_go rfl (Nat.le_of_ble_eq_true rfl) rfl ?_
  have hD0 := hD
  have es : stn I = 5 := stn_eq (n := 5) en (by decide)
  obtain ⟨k208, kst, -⟩ := hD.2.2.2.2.1
  obtain ⟨ad, S, Y, k0, hA, k2, k3, k4, k5, hoa, hZ0, hWa, htc⟩ := St_open hD.1 (kst hv)
  change SQ h ow S Y (Z (rwi I 0)) at k5
  rw [← k0] at k208
  have hrw := SP_rw hD.2.2.2.2.1 (n := 5) en (by decide)
  obtain ⟨b0, x0, o0, hb0⟩ := hrw 0 (by decide)
  obtain ⟨b1, x1, o1, hb1⟩ := hrw 1 (by decide)
  obtain ⟨b2, x2, o2, hb2⟩ := hrw 2 (by decide)
  obtain ⟨b3, x3, o3, hb3⟩ := hrw 3 (by decide)
  obtain ⟨b4, x4, o4, hb4⟩ := hrw 4 (by decide)
  have hsc := k4 (ad 0) _ _ (tbs_at hA (i := 0) (by decide))
  by_cases f3 : (Z (rwi I 0)).1 3 = 1
  · skip
    obtain ⟨p, t9, hrq, ht9, f4, p0, p1, p2⟩ := k5.2.2.1 f3
    obtain ⟨bq, e200, oq, hbq⟩ := id hrq
    have hsd : h[ad 0]? = some (.inl (5, [.int (S 0 0), .ref (ad 1), .ref (ad 2), .ref (ad 3), .ref (ad 4), .ref (ad 5), .ref (ad 6), .ref (ad 7), .int (S 0 1), .int (S 0 2), .ref (ad 8), .int (S 0 3), .ref bq, .ref (ad 9)])) := by
      rw [← e200]
      exact hsc
    refine go_s (pc' := 1) rfl rfl rfl rfl ?_
    refine go_get (pc' := 2) rfl ((hF1.2.2.2 _ (hD.1.2.2 _ (by omega)).2.1 (OW_lt hD.1 (by omega))).trans ha) rfl (by decide) rfl rfl ?_
    rw [q0]
    refine go_s (pc' := 3) (st' := [.int 2, .int (nI t)]) rfl rfl rfl rfl ?_
    refine go_callS (pc' := 4) rfl rfl rfl (Nat.le_of_ble_eq_true rfl) rfl rfl rfl (ct_within_t (n := 2) ht (by decide) (by omega)) (fun r h2 q3 => ?_)
    obtain ⟨rfl, rfl⟩ := q3
    refine go_s (pc' := 5) (lo' := [some (.ref 32), some (.ref a), some (.int 1), none]) rfl rfl rfl rfl ?_
    refine go_s (pc' := 6) rfl rfl rfl rfl ?_
    refine go_ifP (t' := 17) (pc' := 7) rfl rfl rfl (fun (c : (1 : Int32) = 0) => absurd c (by decide)) (fun _ => ?_)
    refine go_s (pc' := 8) rfl rfl rfl rfl ?_
    refine go_sget (pc' := 9) (v := .int 5) hS rfl rfl rfl (by decide) (congrArg Value.int en) rfl ?_
    refine go_s (pc' := 10) (st' := [.int 8, .int 5]) rfl rfl rfl rfl ?_
    refine go_icmpP (t' := 17) (pc' := 11) rfl rfl rfl (fun (c : 8 ≤ (5 : Int32)) => absurd c (by decide)) (fun _ => ?_)
    refine go_s (pc' := 12) rfl rfl rfl rfl ?_
    refine go_s (pc' := 13) rfl rfl rfl rfl ?_
    refine go_sget (pc' := 14) (v := .ref (ad 0)) hS rfl rfl rfl (by decide) k208 rfl ?_
    refine go_get (pc' := 15) rfl hsd rfl (by decide) rfl rfl ?_
    have hbd : mbd (row1 (I, Q, Z) 0) q = smr q p := mbd_sm f3 ht9 f4 p0 p1 p2
    refine go_callV (pc' := 16) rfl rfl rfl (Nat.le_of_ble_eq_true rfl) rfl ((hF1.2.2.2 _ (hD.1.2.2 _ (by omega)).2.1 (OW_lt hD.1 (by omega))).trans ha) rfl rfl rfl (ct_same (q := q) (p := p) ((hF1.2.2.2 _ (hD.1.2.2 _ (by omega)).2.1 (OW_lt hD.1 (by omega))).trans ha) ((hF1.2.2.2 _ (hD.1.2.2 _ (by omega)).2.1 (OW_lt hD.1 (by omega))).trans hbq) (by omega)) (fun r h4 q5 => ?_)
    obtain ⟨rfl, rfl⟩ := q5
    cases u6 : smr q p
    · skip
      show am_Go _ _ _ _ 16 _ [.int 0] _ _
      refine go_ifP (t' := 18) (pc' := 17) rfl rfl rfl (fun _ => ?_) (fun (c : ¬ ((0 : Int32) = 0)) => absurd (by decide) c)
      refine go_s (pc' := 19) (st' := [.int 0]) rfl rfl rfl rfl ?_
      refine go_s (pc' := 20) (lo' := [some (.ref 32), some (.ref a), some (.int 1), some (.int 0)]) rfl rfl rfl rfl ?_
      refine go_s (pc' := 21) rfl rfl rfl rfl ?_
      refine go_s (pc' := 22) rfl rfl rfl rfl ?_
      refine go_sget (pc' := 23) (v := .int 5) hS rfl rfl rfl (by decide) (congrArg Value.int en) rfl ?_
      refine go_icmpP (t' := 34) (pc' := 24) rfl rfl rfl (fun (c : 5 ≤ (0 : Int32)) => absurd c (by decide)) (fun _ => ?_)
      refine go_s (pc' := 25) rfl rfl rfl rfl ?_
      refine go_s (pc' := 26) rfl rfl rfl rfl ?_
      refine go_sget (pc' := 27) (v := .ref 57) hS rfl rfl rfl (by decide) rfl rfl ?_
      refine go_s (pc' := 28) rfl rfl rfl rfl ?_
      refine go_sald (pc' := 29) (q := 0) (v := .ref b0) hS rfl rfl rfl rfl (by decide) x0 rfl ?_
      refine go_callV (pc' := 30) rfl rfl rfl (Nat.le_of_ble_eq_true rfl) rfl ((hF1.2.2.2 _ (hD.1.2.2 _ (by omega)).2.1 (OW_lt hD.1 (by omega))).trans ha) rfl rfl rfl (ct_same (q := q) (p := (fun i => I 20 (7 * 0 + i))) ((hF1.2.2.2 _ (hD.1.2.2 _ (by omega)).2.1 (OW_lt hD.1 (by omega))).trans ha) ((hF1.2.2.2 _ (hD.1.2.2 _ (by omega)).2.1 (OW_lt hD.1 (by omega))).trans hb0) (by omega)) (fun r h7 q8 => ?_)
      obtain ⟨rfl, rfl⟩ := q8
      cases u9 : smr q (fun i => I 20 (7 * 0 + i))
      · skip
        show am_Go _ _ _ _ 30 _ [.int 0] _ _
        refine go_ifP (t' := 32) (pc' := 31) rfl rfl rfl (fun _ => ?_) (fun (c : ¬ ((0 : Int32) = 0)) => absurd (by decide) c)
        refine go_s (pc' := 33) (lo' := [some (.ref 32), some (.ref a), some (.int 1), some (.int 1)]) rfl rfl rfl rfl ?_
        refine go_s (pc' := 20) rfl rfl rfl rfl ?_
        refine go_s (pc' := 21) rfl rfl rfl rfl ?_
        refine go_s (pc' := 22) rfl rfl rfl rfl ?_
        refine go_sget (pc' := 23) (v := .int 5) hS rfl rfl rfl (by decide) (congrArg Value.int en) rfl ?_
        refine go_icmpP (t' := 34) (pc' := 24) rfl rfl rfl (fun (c : 5 ≤ (1 : Int32)) => absurd c (by decide)) (fun _ => ?_)
        refine go_s (pc' := 25) rfl rfl rfl rfl ?_
        refine go_s (pc' := 26) rfl rfl rfl rfl ?_
        refine go_sget (pc' := 27) (v := .ref 57) hS rfl rfl rfl (by decide) rfl rfl ?_
        refine go_s (pc' := 28) rfl rfl rfl rfl ?_
        refine go_sald (pc' := 29) (q := 1) (v := .ref b1) hS rfl rfl rfl rfl (by decide) x1 rfl ?_
        refine go_callV (pc' := 30) rfl rfl rfl (Nat.le_of_ble_eq_true rfl) rfl ((hF1.2.2.2 _ (hD.1.2.2 _ (by omega)).2.1 (OW_lt hD.1 (by omega))).trans ha) rfl rfl rfl (ct_same (q := q) (p := (fun i => I 20 (7 * 1 + i))) ((hF1.2.2.2 _ (hD.1.2.2 _ (by omega)).2.1 (OW_lt hD.1 (by omega))).trans ha) ((hF1.2.2.2 _ (hD.1.2.2 _ (by omega)).2.1 (OW_lt hD.1 (by omega))).trans hb1) (by omega)) (fun r h10 q11 => ?_)
        obtain ⟨rfl, rfl⟩ := q11
        cases u12 : smr q (fun i => I 20 (7 * 1 + i))
        · skip
          show am_Go _ _ _ _ 30 _ [.int 0] _ _
          refine go_ifP (t' := 32) (pc' := 31) rfl rfl rfl (fun _ => ?_) (fun (c : ¬ ((0 : Int32) = 0)) => absurd (by decide) c)
          refine go_s (pc' := 33) (lo' := [some (.ref 32), some (.ref a), some (.int 1), some (.int 2)]) rfl rfl rfl rfl ?_
          refine go_s (pc' := 20) rfl rfl rfl rfl ?_
          refine go_s (pc' := 21) rfl rfl rfl rfl ?_
          refine go_s (pc' := 22) rfl rfl rfl rfl ?_
          refine go_sget (pc' := 23) (v := .int 5) hS rfl rfl rfl (by decide) (congrArg Value.int en) rfl ?_
          refine go_icmpP (t' := 34) (pc' := 24) rfl rfl rfl (fun (c : 5 ≤ (2 : Int32)) => absurd c (by decide)) (fun _ => ?_)
          refine go_s (pc' := 25) rfl rfl rfl rfl ?_
          refine go_s (pc' := 26) rfl rfl rfl rfl ?_
          refine go_sget (pc' := 27) (v := .ref 57) hS rfl rfl rfl (by decide) rfl rfl ?_
          refine go_s (pc' := 28) rfl rfl rfl rfl ?_
          refine go_sald (pc' := 29) (q := 2) (v := .ref b2) hS rfl rfl rfl rfl (by decide) x2 rfl ?_
          refine go_callV (pc' := 30) rfl rfl rfl (Nat.le_of_ble_eq_true rfl) rfl ((hF1.2.2.2 _ (hD.1.2.2 _ (by omega)).2.1 (OW_lt hD.1 (by omega))).trans ha) rfl rfl rfl (ct_same (q := q) (p := (fun i => I 20 (7 * 2 + i))) ((hF1.2.2.2 _ (hD.1.2.2 _ (by omega)).2.1 (OW_lt hD.1 (by omega))).trans ha) ((hF1.2.2.2 _ (hD.1.2.2 _ (by omega)).2.1 (OW_lt hD.1 (by omega))).trans hb2) (by omega)) (fun r h13 q14 => ?_)
          obtain ⟨rfl, rfl⟩ := q14
          cases u15 : smr q (fun i => I 20 (7 * 2 + i))
          · skip
            show am_Go _ _ _ _ 30 _ [.int 0] _ _
            refine go_ifP (t' := 32) (pc' := 31) rfl rfl rfl (fun _ => ?_) (fun (c : ¬ ((0 : Int32) = 0)) => absurd (by decide) c)
            refine go_s (pc' := 33) (lo' := [some (.ref 32), some (.ref a), some (.int 1), some (.int 3)]) rfl rfl rfl rfl ?_
            refine go_s (pc' := 20) rfl rfl rfl rfl ?_
            refine go_s (pc' := 21) rfl rfl rfl rfl ?_
            refine go_s (pc' := 22) rfl rfl rfl rfl ?_
            refine go_sget (pc' := 23) (v := .int 5) hS rfl rfl rfl (by decide) (congrArg Value.int en) rfl ?_
            refine go_icmpP (t' := 34) (pc' := 24) rfl rfl rfl (fun (c : 5 ≤ (3 : Int32)) => absurd c (by decide)) (fun _ => ?_)
            refine go_s (pc' := 25) rfl rfl rfl rfl ?_
            refine go_s (pc' := 26) rfl rfl rfl rfl ?_
            refine go_sget (pc' := 27) (v := .ref 57) hS rfl rfl rfl (by decide) rfl rfl ?_
            refine go_s (pc' := 28) rfl rfl rfl rfl ?_
            refine go_sald (pc' := 29) (q := 3) (v := .ref b3) hS rfl rfl rfl rfl (by decide) x3 rfl ?_
            refine go_callV (pc' := 30) rfl rfl rfl (Nat.le_of_ble_eq_true rfl) rfl ((hF1.2.2.2 _ (hD.1.2.2 _ (by omega)).2.1 (OW_lt hD.1 (by omega))).trans ha) rfl rfl rfl (ct_same (q := q) (p := (fun i => I 20 (7 * 3 + i))) ((hF1.2.2.2 _ (hD.1.2.2 _ (by omega)).2.1 (OW_lt hD.1 (by omega))).trans ha) ((hF1.2.2.2 _ (hD.1.2.2 _ (by omega)).2.1 (OW_lt hD.1 (by omega))).trans hb3) (by omega)) (fun r h16 q17 => ?_)
            obtain ⟨rfl, rfl⟩ := q17
            cases u18 : smr q (fun i => I 20 (7 * 3 + i))
            · skip
              show am_Go _ _ _ _ 30 _ [.int 0] _ _
              refine go_ifP (t' := 32) (pc' := 31) rfl rfl rfl (fun _ => ?_) (fun (c : ¬ ((0 : Int32) = 0)) => absurd (by decide) c)
              refine go_s (pc' := 33) (lo' := [some (.ref 32), some (.ref a), some (.int 1), some (.int 4)]) rfl rfl rfl rfl ?_
              refine go_s (pc' := 20) rfl rfl rfl rfl ?_
              refine go_s (pc' := 21) rfl rfl rfl rfl ?_
              refine go_s (pc' := 22) rfl rfl rfl rfl ?_
              refine go_sget (pc' := 23) (v := .int 5) hS rfl rfl rfl (by decide) (congrArg Value.int en) rfl ?_
              refine go_icmpP (t' := 34) (pc' := 24) rfl rfl rfl (fun (c : 5 ≤ (4 : Int32)) => absurd c (by decide)) (fun _ => ?_)
              refine go_s (pc' := 25) rfl rfl rfl rfl ?_
              refine go_s (pc' := 26) rfl rfl rfl rfl ?_
              refine go_sget (pc' := 27) (v := .ref 57) hS rfl rfl rfl (by decide) rfl rfl ?_
              refine go_s (pc' := 28) rfl rfl rfl rfl ?_
              refine go_sald (pc' := 29) (q := 4) (v := .ref b4) hS rfl rfl rfl rfl (by decide) x4 rfl ?_
              refine go_callV (pc' := 30) rfl rfl rfl (Nat.le_of_ble_eq_true rfl) rfl ((hF1.2.2.2 _ (hD.1.2.2 _ (by omega)).2.1 (OW_lt hD.1 (by omega))).trans ha) rfl rfl rfl (ct_same (q := q) (p := (fun i => I 20 (7 * 4 + i))) ((hF1.2.2.2 _ (hD.1.2.2 _ (by omega)).2.1 (OW_lt hD.1 (by omega))).trans ha) ((hF1.2.2.2 _ (hD.1.2.2 _ (by omega)).2.1 (OW_lt hD.1 (by omega))).trans hb4) (by omega)) (fun r h19 q20 => ?_)
              obtain ⟨rfl, rfl⟩ := q20
              cases u21 : smr q (fun i => I 20 (7 * 4 + i))
              · skip
                show am_Go _ _ _ _ 30 _ [.int 0] _ _
                refine go_ifP (t' := 32) (pc' := 31) rfl rfl rfl (fun _ => ?_) (fun (c : ¬ ((0 : Int32) = 0)) => absurd (by decide) c)
                refine go_s (pc' := 33) (lo' := [some (.ref 32), some (.ref a), some (.int 1), some (.int 5)]) rfl rfl rfl rfl ?_
                refine go_s (pc' := 20) rfl rfl rfl rfl ?_
                refine go_s (pc' := 21) rfl rfl rfl rfl ?_
                refine go_s (pc' := 22) rfl rfl rfl rfl ?_
                refine go_sget (pc' := 23) (v := .int 5) hS rfl rfl rfl (by decide) (congrArg Value.int en) rfl ?_
                refine go_icmpP (t' := 34) (pc' := 24) rfl rfl rfl (fun _ => ?_) (fun (c : ¬ (5 ≤ (5 : Int32))) => absurd (by decide) c)
                refine go_s (pc' := 35) rfl rfl rfl rfl ?_
                refine go_sget (pc' := 36) (v := .ref 57) hS rfl rfl rfl (by decide) rfl rfl ?_
                refine go_s (pc' := 37) rfl rfl rfl rfl ?_
                refine go_sget (pc' := 38) (v := .int 5) hS rfl rfl rfl (by decide) (congrArg Value.int en) rfl ?_
                refine go_s (pc' := 39) rfl rfl rfl rfl ?_
                refine go_saast (pc' := 40) (q := 5) hS rfl rfl tbc_inj (Nat.le_of_ble_eq_true rfl) (Nat.le_of_ble_eq_true rfl) ((hF1.2.2.2 _ (hD.1.2.2 _ (by omega)).2.1 (OW_lt hD.1 (by omega))).trans ha) (am_S_rq w) rfl (by decide) (by decide) (hW _ rfl) rfl (fun h22 hS23 hE24 => ?_)
                have hF25 := fr_trans hF1 (fr_e hE24)
                have hq26 := (hE24.2.2 _ (htc 0 (by decide))).trans hsd
                refine go_s (pc' := 41) rfl rfl rfl rfl ?_
                refine go_s (pc' := 42) rfl rfl rfl rfl ?_
                refine go_sget (pc' := 43) (v := .int 5) hS23 rfl rfl rfl (by decide) (congrArg Value.int en) rfl ?_
                refine go_s (pc' := 44) (st' := [.int 1, .int 5, .ref 32]) rfl rfl rfl rfl ?_
                refine go_s (pc' := 45) (st' := [.int 6, .ref 32]) rfl rfl rfl rfl ?_
                refine go_sput (pc' := 46) hS23 rfl rfl rfl (by decide) tbc_inj (Nat.le_of_ble_eq_true rfl) rfl (hW _ rfl) rfl (fun h27 hS28 hE29 => ?_)
                have hF30 := fr_trans hF25 (fr_e hE29)
                have hq31 := (hE29.2.2 _ (htc 0 (by decide))).trans hq26
                refine go_ret rfl rfl ?_
                have hms : mac q (I, Q, Z) = (mrw I 5 q, Q, Z) := by
                  unfold mac
                  rw [show stn (I, Q, Z).1 = 5 from es, if_neg]
                  rw [hbd]
                  intro z
                  rcases z with z | z
                  · exact absurd z (by decide)
                  · simp only [mdup, u6, u9, u12, u15, u18, u21, Bool.or_false, Bool.false_or, Bool.or_self, Bool.false_eq_true] at z
                have hD32 := CD_mrw (n := 5) (q := q) (X2 := (uX X 210 5 (.ref a))) (CD_fr hD hF30) en (by decide) (by show Rq _ ow (.ref a) q; exact Rq_fr hD.1 hF30 ⟨a, rfl, oa, ha⟩) (fun k hk => by simp [uX]; omega) (fun c hc => by funext j; simp [uX, hc])
                rw [hms]
                refine ⟨rfl, ⟨(uX X 210 5 (.ref a)), ow, sb, mrw_sm hS28, hD32, ?_, fun l hl => Nat.le_trans (hQ l hl) hF30.1⟩⟩
                have z := co_fr (I := I) (J := I) hF30 rfl
                show co _ (mrw I 5 q) ≤ _
                have e9 : mrw I 5 q 21 0 = nI 6 := by simp [mrw]
                have e8 : I 21 0 = nI 5 := en
                unfold co at hB z ⊢
                rw [e9]
                rw [e8] at hB z
                rw [nI_clamp (by decide)] at hB z ⊢
                omega
              · skip
                show am_Go _ _ _ _ 30 _ [.int 1] _ _
                refine go_ifP (t' := 32) (pc' := 31) rfl rfl rfl (fun (c : (1 : Int32) = 0) => absurd c (by decide)) (fun _ => ?_)
                refine go_ret rfl rfl ?_
                have hms : mac q (I, Q, Z) = (I, Q, Z) := if_pos (Or.inr (by rw [show stn (I, Q, Z).1 = 5 from es, hbd]; simp only [mdup, u6, u9, u12, u15, u18, u21, Bool.or_true, Bool.true_or, Bool.or_false, Bool.false_or]))
                have hD33 : CD w e m0 h19 I Q Z X ow sb := CD_I (CD_fr hD hF1) ⟨rfl, rfl, rfl, rfl, rfl, rfl, rfl, rfl, rfl, rfl, rfl, rfl, rfl, rfl, rfl⟩
                have hB34 : co h19 I ≤ B + 0 := by
                  have := co_fr (I := I) (J := I) hF1 rfl
                  have := hB
                  omega
                have hC35 : CA w e m0 (B + 0) h19 (I, Q, Z) := ⟨X, ow, sb, hS, hD33, hB34, fun l hl => Nat.le_trans (hQ l hl) hF1.1⟩
                rw [hms]
                exact ⟨rfl, CA_le hC35 (by omega)⟩
            · skip
              show am_Go _ _ _ _ 30 _ [.int 1] _ _
              refine go_ifP (t' := 32) (pc' := 31) rfl rfl rfl (fun (c : (1 : Int32) = 0) => absurd c (by decide)) (fun _ => ?_)
              refine go_ret rfl rfl ?_
              have hms : mac q (I, Q, Z) = (I, Q, Z) := if_pos (Or.inr (by rw [show stn (I, Q, Z).1 = 5 from es, hbd]; simp only [mdup, u6, u9, u12, u15, u18, Bool.or_true, Bool.true_or, Bool.or_false, Bool.false_or]))
              have hD36 : CD w e m0 h16 I Q Z X ow sb := CD_I (CD_fr hD hF1) ⟨rfl, rfl, rfl, rfl, rfl, rfl, rfl, rfl, rfl, rfl, rfl, rfl, rfl, rfl, rfl⟩
              have hB37 : co h16 I ≤ B + 0 := by
                have := co_fr (I := I) (J := I) hF1 rfl
                have := hB
                omega
              have hC38 : CA w e m0 (B + 0) h16 (I, Q, Z) := ⟨X, ow, sb, hS, hD36, hB37, fun l hl => Nat.le_trans (hQ l hl) hF1.1⟩
              rw [hms]
              exact ⟨rfl, CA_le hC38 (by omega)⟩
          · skip
            show am_Go _ _ _ _ 30 _ [.int 1] _ _
            refine go_ifP (t' := 32) (pc' := 31) rfl rfl rfl (fun (c : (1 : Int32) = 0) => absurd c (by decide)) (fun _ => ?_)
            refine go_ret rfl rfl ?_
            have hms : mac q (I, Q, Z) = (I, Q, Z) := if_pos (Or.inr (by rw [show stn (I, Q, Z).1 = 5 from es, hbd]; simp only [mdup, u6, u9, u12, u15, Bool.or_true, Bool.true_or, Bool.or_false, Bool.false_or]))
            have hD39 : CD w e m0 h13 I Q Z X ow sb := CD_I (CD_fr hD hF1) ⟨rfl, rfl, rfl, rfl, rfl, rfl, rfl, rfl, rfl, rfl, rfl, rfl, rfl, rfl, rfl⟩
            have hB40 : co h13 I ≤ B + 0 := by
              have := co_fr (I := I) (J := I) hF1 rfl
              have := hB
              omega
            have hC41 : CA w e m0 (B + 0) h13 (I, Q, Z) := ⟨X, ow, sb, hS, hD39, hB40, fun l hl => Nat.le_trans (hQ l hl) hF1.1⟩
            rw [hms]
            exact ⟨rfl, CA_le hC41 (by omega)⟩
        · skip
          show am_Go _ _ _ _ 30 _ [.int 1] _ _
          refine go_ifP (t' := 32) (pc' := 31) rfl rfl rfl (fun (c : (1 : Int32) = 0) => absurd c (by decide)) (fun _ => ?_)
          refine go_ret rfl rfl ?_
          have hms : mac q (I, Q, Z) = (I, Q, Z) := if_pos (Or.inr (by rw [show stn (I, Q, Z).1 = 5 from es, hbd]; simp only [mdup, u6, u9, u12, Bool.or_true, Bool.true_or, Bool.or_false, Bool.false_or]))
          have hD42 : CD w e m0 h10 I Q Z X ow sb := CD_I (CD_fr hD hF1) ⟨rfl, rfl, rfl, rfl, rfl, rfl, rfl, rfl, rfl, rfl, rfl, rfl, rfl, rfl, rfl⟩
          have hB43 : co h10 I ≤ B + 0 := by
            have := co_fr (I := I) (J := I) hF1 rfl
            have := hB
            omega
          have hC44 : CA w e m0 (B + 0) h10 (I, Q, Z) := ⟨X, ow, sb, hS, hD42, hB43, fun l hl => Nat.le_trans (hQ l hl) hF1.1⟩
          rw [hms]
          exact ⟨rfl, CA_le hC44 (by omega)⟩
      · skip
        show am_Go _ _ _ _ 30 _ [.int 1] _ _
        refine go_ifP (t' := 32) (pc' := 31) rfl rfl rfl (fun (c : (1 : Int32) = 0) => absurd c (by decide)) (fun _ => ?_)
        refine go_ret rfl rfl ?_
        have hms : mac q (I, Q, Z) = (I, Q, Z) := if_pos (Or.inr (by rw [show stn (I, Q, Z).1 = 5 from es, hbd]; simp only [mdup, u6, u9, Bool.or_true, Bool.true_or, Bool.or_false, Bool.false_or]))
        have hD45 : CD w e m0 h7 I Q Z X ow sb := CD_I (CD_fr hD hF1) ⟨rfl, rfl, rfl, rfl, rfl, rfl, rfl, rfl, rfl, rfl, rfl, rfl, rfl, rfl, rfl⟩
        have hB46 : co h7 I ≤ B + 0 := by
          have := co_fr (I := I) (J := I) hF1 rfl
          have := hB
          omega
        have hC47 : CA w e m0 (B + 0) h7 (I, Q, Z) := ⟨X, ow, sb, hS, hD45, hB46, fun l hl => Nat.le_trans (hQ l hl) hF1.1⟩
        rw [hms]
        exact ⟨rfl, CA_le hC47 (by omega)⟩
    · skip
      show am_Go _ _ _ _ 16 _ [.int 1] _ _
      refine go_ifP (t' := 18) (pc' := 17) rfl rfl rfl (fun (c : (1 : Int32) = 0) => absurd c (by decide)) (fun _ => ?_)
      refine go_ret rfl rfl ?_
      have hms : mac q (I, Q, Z) = (I, Q, Z) := if_pos (Or.inr (by rw [show stn (I, Q, Z).1 = 5 from es, hbd]; simp only [mdup, u6, Bool.or_true, Bool.true_or, Bool.or_false, Bool.false_or]))
      have hD48 : CD w e m0 h4 I Q Z X ow sb := CD_I (CD_fr hD hF1) ⟨rfl, rfl, rfl, rfl, rfl, rfl, rfl, rfl, rfl, rfl, rfl, rfl, rfl, rfl, rfl⟩
      have hB49 : co h4 I ≤ B + 0 := by
        have := co_fr (I := I) (J := I) hF1 rfl
        have := hB
        omega
      have hC50 : CA w e m0 (B + 0) h4 (I, Q, Z) := ⟨X, ow, sb, hS, hD48, hB49, fun l hl => Nat.le_trans (hQ l hl) hF1.1⟩
      rw [hms]
      exact ⟨rfl, CA_le hC50 (by omega)⟩
  · skip
    have e200 := k5.2.2.2 f3
    have hsd : h[ad 0]? = some (.inl (5, [.int (S 0 0), .ref (ad 1), .ref (ad 2), .ref (ad 3), .ref (ad 4), .ref (ad 5), .ref (ad 6), .ref (ad 7), .int (S 0 1), .int (S 0 2), .ref (ad 8), .int (S 0 3), .null, .ref (ad 9)])) := by
      rw [← e200]
      exact hsc
    refine go_s (pc' := 1) rfl rfl rfl rfl ?_
    refine go_get (pc' := 2) rfl ((hF1.2.2.2 _ (hD.1.2.2 _ (by omega)).2.1 (OW_lt hD.1 (by omega))).trans ha) rfl (by decide) rfl rfl ?_
    rw [q0]
    refine go_s (pc' := 3) (st' := [.int 2, .int (nI t)]) rfl rfl rfl rfl ?_
    refine go_callS (pc' := 4) rfl rfl rfl (Nat.le_of_ble_eq_true rfl) rfl rfl rfl (ct_within_t (n := 2) ht (by decide) (by omega)) (fun r h51 q52 => ?_)
    obtain ⟨rfl, rfl⟩ := q52
    refine go_s (pc' := 5) (lo' := [some (.ref 32), some (.ref a), some (.int 1), none]) rfl rfl rfl rfl ?_
    refine go_s (pc' := 6) rfl rfl rfl rfl ?_
    refine go_ifP (t' := 17) (pc' := 7) rfl rfl rfl (fun (c : (1 : Int32) = 0) => absurd c (by decide)) (fun _ => ?_)
    refine go_s (pc' := 8) rfl rfl rfl rfl ?_
    refine go_sget (pc' := 9) (v := .int 5) hS rfl rfl rfl (by decide) (congrArg Value.int en) rfl ?_
    refine go_s (pc' := 10) (st' := [.int 8, .int 5]) rfl rfl rfl rfl ?_
    refine go_icmpP (t' := 17) (pc' := 11) rfl rfl rfl (fun (c : 8 ≤ (5 : Int32)) => absurd c (by decide)) (fun _ => ?_)
    refine go_s (pc' := 12) rfl rfl rfl rfl ?_
    refine go_s (pc' := 13) rfl rfl rfl rfl ?_
    refine go_sget (pc' := 14) (v := .ref (ad 0)) hS rfl rfl rfl (by decide) k208 rfl ?_
    refine go_get (pc' := 15) rfl hsd rfl (by decide) rfl rfl ?_
    have hbd : mbd (row1 (I, Q, Z) 0) q = false := mbd_f f3
    refine go_callV (pc' := 16) rfl rfl rfl (Nat.le_of_ble_eq_true rfl) rfl ((hF1.2.2.2 _ (hD.1.2.2 _ (by omega)).2.1 (OW_lt hD.1 (by omega))).trans ha) rfl rfl rfl (ct_same_n (by omega)) (fun r h53 q54 => ?_)
    obtain ⟨rfl, rfl⟩ := q54
    refine go_ifP (t' := 18) (pc' := 17) rfl rfl rfl (fun _ => ?_) (fun (c : ¬ ((0 : Int32) = 0)) => absurd (by decide) c)
    refine go_s (pc' := 19) (st' := [.int 0]) rfl rfl rfl rfl ?_
    refine go_s (pc' := 20) (lo' := [some (.ref 32), some (.ref a), some (.int 1), some (.int 0)]) rfl rfl rfl rfl ?_
    refine go_s (pc' := 21) rfl rfl rfl rfl ?_
    refine go_s (pc' := 22) rfl rfl rfl rfl ?_
    refine go_sget (pc' := 23) (v := .int 5) hS rfl rfl rfl (by decide) (congrArg Value.int en) rfl ?_
    refine go_icmpP (t' := 34) (pc' := 24) rfl rfl rfl (fun (c : 5 ≤ (0 : Int32)) => absurd c (by decide)) (fun _ => ?_)
    refine go_s (pc' := 25) rfl rfl rfl rfl ?_
    refine go_s (pc' := 26) rfl rfl rfl rfl ?_
    refine go_sget (pc' := 27) (v := .ref 57) hS rfl rfl rfl (by decide) rfl rfl ?_
    refine go_s (pc' := 28) rfl rfl rfl rfl ?_
    refine go_sald (pc' := 29) (q := 0) (v := .ref b0) hS rfl rfl rfl rfl (by decide) x0 rfl ?_
    refine go_callV (pc' := 30) rfl rfl rfl (Nat.le_of_ble_eq_true rfl) rfl ((hF1.2.2.2 _ (hD.1.2.2 _ (by omega)).2.1 (OW_lt hD.1 (by omega))).trans ha) rfl rfl rfl (ct_same (q := q) (p := (fun i => I 20 (7 * 0 + i))) ((hF1.2.2.2 _ (hD.1.2.2 _ (by omega)).2.1 (OW_lt hD.1 (by omega))).trans ha) ((hF1.2.2.2 _ (hD.1.2.2 _ (by omega)).2.1 (OW_lt hD.1 (by omega))).trans hb0) (by omega)) (fun r h55 q56 => ?_)
    obtain ⟨rfl, rfl⟩ := q56
    cases u57 : smr q (fun i => I 20 (7 * 0 + i))
    · skip
      show am_Go _ _ _ _ 30 _ [.int 0] _ _
      refine go_ifP (t' := 32) (pc' := 31) rfl rfl rfl (fun _ => ?_) (fun (c : ¬ ((0 : Int32) = 0)) => absurd (by decide) c)
      refine go_s (pc' := 33) (lo' := [some (.ref 32), some (.ref a), some (.int 1), some (.int 1)]) rfl rfl rfl rfl ?_
      refine go_s (pc' := 20) rfl rfl rfl rfl ?_
      refine go_s (pc' := 21) rfl rfl rfl rfl ?_
      refine go_s (pc' := 22) rfl rfl rfl rfl ?_
      refine go_sget (pc' := 23) (v := .int 5) hS rfl rfl rfl (by decide) (congrArg Value.int en) rfl ?_
      refine go_icmpP (t' := 34) (pc' := 24) rfl rfl rfl (fun (c : 5 ≤ (1 : Int32)) => absurd c (by decide)) (fun _ => ?_)
      refine go_s (pc' := 25) rfl rfl rfl rfl ?_
      refine go_s (pc' := 26) rfl rfl rfl rfl ?_
      refine go_sget (pc' := 27) (v := .ref 57) hS rfl rfl rfl (by decide) rfl rfl ?_
      refine go_s (pc' := 28) rfl rfl rfl rfl ?_
      refine go_sald (pc' := 29) (q := 1) (v := .ref b1) hS rfl rfl rfl rfl (by decide) x1 rfl ?_
      refine go_callV (pc' := 30) rfl rfl rfl (Nat.le_of_ble_eq_true rfl) rfl ((hF1.2.2.2 _ (hD.1.2.2 _ (by omega)).2.1 (OW_lt hD.1 (by omega))).trans ha) rfl rfl rfl (ct_same (q := q) (p := (fun i => I 20 (7 * 1 + i))) ((hF1.2.2.2 _ (hD.1.2.2 _ (by omega)).2.1 (OW_lt hD.1 (by omega))).trans ha) ((hF1.2.2.2 _ (hD.1.2.2 _ (by omega)).2.1 (OW_lt hD.1 (by omega))).trans hb1) (by omega)) (fun r h58 q59 => ?_)
      obtain ⟨rfl, rfl⟩ := q59
      cases u60 : smr q (fun i => I 20 (7 * 1 + i))
      · skip
        show am_Go _ _ _ _ 30 _ [.int 0] _ _
        refine go_ifP (t' := 32) (pc' := 31) rfl rfl rfl (fun _ => ?_) (fun (c : ¬ ((0 : Int32) = 0)) => absurd (by decide) c)
        refine go_s (pc' := 33) (lo' := [some (.ref 32), some (.ref a), some (.int 1), some (.int 2)]) rfl rfl rfl rfl ?_
        refine go_s (pc' := 20) rfl rfl rfl rfl ?_
        refine go_s (pc' := 21) rfl rfl rfl rfl ?_
        refine go_s (pc' := 22) rfl rfl rfl rfl ?_
        refine go_sget (pc' := 23) (v := .int 5) hS rfl rfl rfl (by decide) (congrArg Value.int en) rfl ?_
        refine go_icmpP (t' := 34) (pc' := 24) rfl rfl rfl (fun (c : 5 ≤ (2 : Int32)) => absurd c (by decide)) (fun _ => ?_)
        refine go_s (pc' := 25) rfl rfl rfl rfl ?_
        refine go_s (pc' := 26) rfl rfl rfl rfl ?_
        refine go_sget (pc' := 27) (v := .ref 57) hS rfl rfl rfl (by decide) rfl rfl ?_
        refine go_s (pc' := 28) rfl rfl rfl rfl ?_
        refine go_sald (pc' := 29) (q := 2) (v := .ref b2) hS rfl rfl rfl rfl (by decide) x2 rfl ?_
        refine go_callV (pc' := 30) rfl rfl rfl (Nat.le_of_ble_eq_true rfl) rfl ((hF1.2.2.2 _ (hD.1.2.2 _ (by omega)).2.1 (OW_lt hD.1 (by omega))).trans ha) rfl rfl rfl (ct_same (q := q) (p := (fun i => I 20 (7 * 2 + i))) ((hF1.2.2.2 _ (hD.1.2.2 _ (by omega)).2.1 (OW_lt hD.1 (by omega))).trans ha) ((hF1.2.2.2 _ (hD.1.2.2 _ (by omega)).2.1 (OW_lt hD.1 (by omega))).trans hb2) (by omega)) (fun r h61 q62 => ?_)
        obtain ⟨rfl, rfl⟩ := q62
        cases u63 : smr q (fun i => I 20 (7 * 2 + i))
        · skip
          show am_Go _ _ _ _ 30 _ [.int 0] _ _
          refine go_ifP (t' := 32) (pc' := 31) rfl rfl rfl (fun _ => ?_) (fun (c : ¬ ((0 : Int32) = 0)) => absurd (by decide) c)
          refine go_s (pc' := 33) (lo' := [some (.ref 32), some (.ref a), some (.int 1), some (.int 3)]) rfl rfl rfl rfl ?_
          refine go_s (pc' := 20) rfl rfl rfl rfl ?_
          refine go_s (pc' := 21) rfl rfl rfl rfl ?_
          refine go_s (pc' := 22) rfl rfl rfl rfl ?_
          refine go_sget (pc' := 23) (v := .int 5) hS rfl rfl rfl (by decide) (congrArg Value.int en) rfl ?_
          refine go_icmpP (t' := 34) (pc' := 24) rfl rfl rfl (fun (c : 5 ≤ (3 : Int32)) => absurd c (by decide)) (fun _ => ?_)
          refine go_s (pc' := 25) rfl rfl rfl rfl ?_
          refine go_s (pc' := 26) rfl rfl rfl rfl ?_
          refine go_sget (pc' := 27) (v := .ref 57) hS rfl rfl rfl (by decide) rfl rfl ?_
          refine go_s (pc' := 28) rfl rfl rfl rfl ?_
          refine go_sald (pc' := 29) (q := 3) (v := .ref b3) hS rfl rfl rfl rfl (by decide) x3 rfl ?_
          refine go_callV (pc' := 30) rfl rfl rfl (Nat.le_of_ble_eq_true rfl) rfl ((hF1.2.2.2 _ (hD.1.2.2 _ (by omega)).2.1 (OW_lt hD.1 (by omega))).trans ha) rfl rfl rfl (ct_same (q := q) (p := (fun i => I 20 (7 * 3 + i))) ((hF1.2.2.2 _ (hD.1.2.2 _ (by omega)).2.1 (OW_lt hD.1 (by omega))).trans ha) ((hF1.2.2.2 _ (hD.1.2.2 _ (by omega)).2.1 (OW_lt hD.1 (by omega))).trans hb3) (by omega)) (fun r h64 q65 => ?_)
          obtain ⟨rfl, rfl⟩ := q65
          cases u66 : smr q (fun i => I 20 (7 * 3 + i))
          · skip
            show am_Go _ _ _ _ 30 _ [.int 0] _ _
            refine go_ifP (t' := 32) (pc' := 31) rfl rfl rfl (fun _ => ?_) (fun (c : ¬ ((0 : Int32) = 0)) => absurd (by decide) c)
            refine go_s (pc' := 33) (lo' := [some (.ref 32), some (.ref a), some (.int 1), some (.int 4)]) rfl rfl rfl rfl ?_
            refine go_s (pc' := 20) rfl rfl rfl rfl ?_
            refine go_s (pc' := 21) rfl rfl rfl rfl ?_
            refine go_s (pc' := 22) rfl rfl rfl rfl ?_
            refine go_sget (pc' := 23) (v := .int 5) hS rfl rfl rfl (by decide) (congrArg Value.int en) rfl ?_
            refine go_icmpP (t' := 34) (pc' := 24) rfl rfl rfl (fun (c : 5 ≤ (4 : Int32)) => absurd c (by decide)) (fun _ => ?_)
            refine go_s (pc' := 25) rfl rfl rfl rfl ?_
            refine go_s (pc' := 26) rfl rfl rfl rfl ?_
            refine go_sget (pc' := 27) (v := .ref 57) hS rfl rfl rfl (by decide) rfl rfl ?_
            refine go_s (pc' := 28) rfl rfl rfl rfl ?_
            refine go_sald (pc' := 29) (q := 4) (v := .ref b4) hS rfl rfl rfl rfl (by decide) x4 rfl ?_
            refine go_callV (pc' := 30) rfl rfl rfl (Nat.le_of_ble_eq_true rfl) rfl ((hF1.2.2.2 _ (hD.1.2.2 _ (by omega)).2.1 (OW_lt hD.1 (by omega))).trans ha) rfl rfl rfl (ct_same (q := q) (p := (fun i => I 20 (7 * 4 + i))) ((hF1.2.2.2 _ (hD.1.2.2 _ (by omega)).2.1 (OW_lt hD.1 (by omega))).trans ha) ((hF1.2.2.2 _ (hD.1.2.2 _ (by omega)).2.1 (OW_lt hD.1 (by omega))).trans hb4) (by omega)) (fun r h67 q68 => ?_)
            obtain ⟨rfl, rfl⟩ := q68
            cases u69 : smr q (fun i => I 20 (7 * 4 + i))
            · skip
              show am_Go _ _ _ _ 30 _ [.int 0] _ _
              refine go_ifP (t' := 32) (pc' := 31) rfl rfl rfl (fun _ => ?_) (fun (c : ¬ ((0 : Int32) = 0)) => absurd (by decide) c)
              refine go_s (pc' := 33) (lo' := [some (.ref 32), some (.ref a), some (.int 1), some (.int 5)]) rfl rfl rfl rfl ?_
              refine go_s (pc' := 20) rfl rfl rfl rfl ?_
              refine go_s (pc' := 21) rfl rfl rfl rfl ?_
              refine go_s (pc' := 22) rfl rfl rfl rfl ?_
              refine go_sget (pc' := 23) (v := .int 5) hS rfl rfl rfl (by decide) (congrArg Value.int en) rfl ?_
              refine go_icmpP (t' := 34) (pc' := 24) rfl rfl rfl (fun _ => ?_) (fun (c : ¬ (5 ≤ (5 : Int32))) => absurd (by decide) c)
              refine go_s (pc' := 35) rfl rfl rfl rfl ?_
              refine go_sget (pc' := 36) (v := .ref 57) hS rfl rfl rfl (by decide) rfl rfl ?_
              refine go_s (pc' := 37) rfl rfl rfl rfl ?_
              refine go_sget (pc' := 38) (v := .int 5) hS rfl rfl rfl (by decide) (congrArg Value.int en) rfl ?_
              refine go_s (pc' := 39) rfl rfl rfl rfl ?_
              refine go_saast (pc' := 40) (q := 5) hS rfl rfl tbc_inj (Nat.le_of_ble_eq_true rfl) (Nat.le_of_ble_eq_true rfl) ((hF1.2.2.2 _ (hD.1.2.2 _ (by omega)).2.1 (OW_lt hD.1 (by omega))).trans ha) (am_S_rq w) rfl (by decide) (by decide) (hW _ rfl) rfl (fun h70 hS71 hE72 => ?_)
              have hF73 := fr_trans hF1 (fr_e hE72)
              have hq74 := (hE72.2.2 _ (htc 0 (by decide))).trans hsd
              refine go_s (pc' := 41) rfl rfl rfl rfl ?_
              refine go_s (pc' := 42) rfl rfl rfl rfl ?_
              refine go_sget (pc' := 43) (v := .int 5) hS71 rfl rfl rfl (by decide) (congrArg Value.int en) rfl ?_
              refine go_s (pc' := 44) (st' := [.int 1, .int 5, .ref 32]) rfl rfl rfl rfl ?_
              refine go_s (pc' := 45) (st' := [.int 6, .ref 32]) rfl rfl rfl rfl ?_
              refine go_sput (pc' := 46) hS71 rfl rfl rfl (by decide) tbc_inj (Nat.le_of_ble_eq_true rfl) rfl (hW _ rfl) rfl (fun h75 hS76 hE77 => ?_)
              have hF78 := fr_trans hF73 (fr_e hE77)
              have hq79 := (hE77.2.2 _ (htc 0 (by decide))).trans hq74
              refine go_ret rfl rfl ?_
              have hms : mac q (I, Q, Z) = (mrw I 5 q, Q, Z) := by
                unfold mac
                rw [show stn (I, Q, Z).1 = 5 from es, if_neg]
                rw [hbd]
                intro z
                rcases z with z | z
                · exact absurd z (by decide)
                · simp only [mdup, u57, u60, u63, u66, u69, Bool.or_false, Bool.false_or, Bool.or_self, Bool.false_eq_true] at z
              have hD80 := CD_mrw (n := 5) (q := q) (X2 := (uX X 210 5 (.ref a))) (CD_fr hD hF78) en (by decide) (by show Rq _ ow (.ref a) q; exact Rq_fr hD.1 hF78 ⟨a, rfl, oa, ha⟩) (fun k hk => by simp [uX]; omega) (fun c hc => by funext j; simp [uX, hc])
              rw [hms]
              refine ⟨rfl, ⟨(uX X 210 5 (.ref a)), ow, sb, mrw_sm hS76, hD80, ?_, fun l hl => Nat.le_trans (hQ l hl) hF78.1⟩⟩
              have z := co_fr (I := I) (J := I) hF78 rfl
              show co _ (mrw I 5 q) ≤ _
              have e9 : mrw I 5 q 21 0 = nI 6 := by simp [mrw]
              have e8 : I 21 0 = nI 5 := en
              unfold co at hB z ⊢
              rw [e9]
              rw [e8] at hB z
              rw [nI_clamp (by decide)] at hB z ⊢
              omega
            · skip
              show am_Go _ _ _ _ 30 _ [.int 1] _ _
              refine go_ifP (t' := 32) (pc' := 31) rfl rfl rfl (fun (c : (1 : Int32) = 0) => absurd c (by decide)) (fun _ => ?_)
              refine go_ret rfl rfl ?_
              have hms : mac q (I, Q, Z) = (I, Q, Z) := if_pos (Or.inr (by rw [show stn (I, Q, Z).1 = 5 from es, hbd]; simp only [mdup, u57, u60, u63, u66, u69, Bool.or_true, Bool.true_or, Bool.or_false, Bool.false_or]))
              have hD81 : CD w e m0 h67 I Q Z X ow sb := CD_I (CD_fr hD hF1) ⟨rfl, rfl, rfl, rfl, rfl, rfl, rfl, rfl, rfl, rfl, rfl, rfl, rfl, rfl, rfl⟩
              have hB82 : co h67 I ≤ B + 0 := by
                have := co_fr (I := I) (J := I) hF1 rfl
                have := hB
                omega
              have hC83 : CA w e m0 (B + 0) h67 (I, Q, Z) := ⟨X, ow, sb, hS, hD81, hB82, fun l hl => Nat.le_trans (hQ l hl) hF1.1⟩
              rw [hms]
              exact ⟨rfl, CA_le hC83 (by omega)⟩
          · skip
            show am_Go _ _ _ _ 30 _ [.int 1] _ _
            refine go_ifP (t' := 32) (pc' := 31) rfl rfl rfl (fun (c : (1 : Int32) = 0) => absurd c (by decide)) (fun _ => ?_)
            refine go_ret rfl rfl ?_
            have hms : mac q (I, Q, Z) = (I, Q, Z) := if_pos (Or.inr (by rw [show stn (I, Q, Z).1 = 5 from es, hbd]; simp only [mdup, u57, u60, u63, u66, Bool.or_true, Bool.true_or, Bool.or_false, Bool.false_or]))
            have hD84 : CD w e m0 h64 I Q Z X ow sb := CD_I (CD_fr hD hF1) ⟨rfl, rfl, rfl, rfl, rfl, rfl, rfl, rfl, rfl, rfl, rfl, rfl, rfl, rfl, rfl⟩
            have hB85 : co h64 I ≤ B + 0 := by
              have := co_fr (I := I) (J := I) hF1 rfl
              have := hB
              omega
            have hC86 : CA w e m0 (B + 0) h64 (I, Q, Z) := ⟨X, ow, sb, hS, hD84, hB85, fun l hl => Nat.le_trans (hQ l hl) hF1.1⟩
            rw [hms]
            exact ⟨rfl, CA_le hC86 (by omega)⟩
        · skip
          show am_Go _ _ _ _ 30 _ [.int 1] _ _
          refine go_ifP (t' := 32) (pc' := 31) rfl rfl rfl (fun (c : (1 : Int32) = 0) => absurd c (by decide)) (fun _ => ?_)
          refine go_ret rfl rfl ?_
          have hms : mac q (I, Q, Z) = (I, Q, Z) := if_pos (Or.inr (by rw [show stn (I, Q, Z).1 = 5 from es, hbd]; simp only [mdup, u57, u60, u63, Bool.or_true, Bool.true_or, Bool.or_false, Bool.false_or]))
          have hD87 : CD w e m0 h61 I Q Z X ow sb := CD_I (CD_fr hD hF1) ⟨rfl, rfl, rfl, rfl, rfl, rfl, rfl, rfl, rfl, rfl, rfl, rfl, rfl, rfl, rfl⟩
          have hB88 : co h61 I ≤ B + 0 := by
            have := co_fr (I := I) (J := I) hF1 rfl
            have := hB
            omega
          have hC89 : CA w e m0 (B + 0) h61 (I, Q, Z) := ⟨X, ow, sb, hS, hD87, hB88, fun l hl => Nat.le_trans (hQ l hl) hF1.1⟩
          rw [hms]
          exact ⟨rfl, CA_le hC89 (by omega)⟩
      · skip
        show am_Go _ _ _ _ 30 _ [.int 1] _ _
        refine go_ifP (t' := 32) (pc' := 31) rfl rfl rfl (fun (c : (1 : Int32) = 0) => absurd c (by decide)) (fun _ => ?_)
        refine go_ret rfl rfl ?_
        have hms : mac q (I, Q, Z) = (I, Q, Z) := if_pos (Or.inr (by rw [show stn (I, Q, Z).1 = 5 from es, hbd]; simp only [mdup, u57, u60, Bool.or_true, Bool.true_or, Bool.or_false, Bool.false_or]))
        have hD90 : CD w e m0 h58 I Q Z X ow sb := CD_I (CD_fr hD hF1) ⟨rfl, rfl, rfl, rfl, rfl, rfl, rfl, rfl, rfl, rfl, rfl, rfl, rfl, rfl, rfl⟩
        have hB91 : co h58 I ≤ B + 0 := by
          have := co_fr (I := I) (J := I) hF1 rfl
          have := hB
          omega
        have hC92 : CA w e m0 (B + 0) h58 (I, Q, Z) := ⟨X, ow, sb, hS, hD90, hB91, fun l hl => Nat.le_trans (hQ l hl) hF1.1⟩
        rw [hms]
        exact ⟨rfl, CA_le hC92 (by omega)⟩
    · skip
      show am_Go _ _ _ _ 30 _ [.int 1] _ _
      refine go_ifP (t' := 32) (pc' := 31) rfl rfl rfl (fun (c : (1 : Int32) = 0) => absurd c (by decide)) (fun _ => ?_)
      refine go_ret rfl rfl ?_
      have hms : mac q (I, Q, Z) = (I, Q, Z) := if_pos (Or.inr (by rw [show stn (I, Q, Z).1 = 5 from es, hbd]; simp only [mdup, u57, Bool.or_true, Bool.true_or, Bool.or_false, Bool.false_or]))
      have hD93 : CD w e m0 h55 I Q Z X ow sb := CD_I (CD_fr hD hF1) ⟨rfl, rfl, rfl, rfl, rfl, rfl, rfl, rfl, rfl, rfl, rfl, rfl, rfl, rfl, rfl⟩
      have hB94 : co h55 I ≤ B + 0 := by
        have := co_fr (I := I) (J := I) hF1 rfl
        have := hB
        omega
      have hC95 : CA w e m0 (B + 0) h55 (I, Q, Z) := ⟨X, ow, sb, hS, hD93, hB94, fun l hl => Nat.le_trans (hQ l hl) hF1.1⟩
      rw [hms]
      exact ⟨rfl, CA_le hC95 (by omega)⟩
theorem cx_ac_6 {w : Nat → Bool} {d : Nat} {h : am_Hp} {e : Nat} {m0 : mg} {B : Nat} {I : sm_I} {Q : mQ} {Z : mZ} {X : sm_X} {ow : ow_T} {sb : Nat} (hS : sm tbc h I X) (hD : CD w e m0 h I Q Z X ow sb) (hB : co h I ≤ B) (hQ : ∀ l, l < 16 → (Q l).length ≤ h.length) (hB2 : B < 2 ^ 28) (hv : lv I 0 = true) (en : I 21 0 = 6) {a t : Nat} {q : Nat → Int32} (ht : t < 2) (q0 : q 0 = nI t) (oa : ow a = 1) (ha : h[a]? = some (.inl (8, rqf q))) (hd : 2 ≤ d) : am_Ev (am_prog w) d 80 [.ref 32, .ref a] h (fun r h' => r = none ∧ CA w e m0 (B + 700) h' (mac q (I, Q, Z))) := by
  have hW := hD.1.1
  have hWn : ∀ a, List.length h ≤ a → w a = true := fun a ha => (hD.1.2.1 a ha).1
  have hF1 := fr_refl tbc h
  have hln : 62 ≤ List.length h := sm_len hS
  obtain ⟨d, rfl⟩ : ∃ e, d = e + 1 := ⟨d - 1, by omega⟩
  refine ev_go rfl (Nat.le_of_ble_eq_true rfl) rfl ?_
  have hD0 := hD
  have es : stn I = 6 := stn_eq (n := 6) en (by decide)
  obtain ⟨k208, kst, -⟩ := hD.2.2.2.2.1
  obtain ⟨ad, S, Y, k0, hA, k2, k3, k4, k5, hoa, hZ0, hWa, htc⟩ := St_open hD.1 (kst hv)
  change SQ h ow S Y (Z (rwi I 0)) at k5
  rw [← k0] at k208
  have hrw := SP_rw hD.2.2.2.2.1 (n := 6) en (by decide)
  obtain ⟨b0, x0, o0, hb0⟩ := hrw 0 (by decide)
  obtain ⟨b1, x1, o1, hb1⟩ := hrw 1 (by decide)
  obtain ⟨b2, x2, o2, hb2⟩ := hrw 2 (by decide)
  obtain ⟨b3, x3, o3, hb3⟩ := hrw 3 (by decide)
  obtain ⟨b4, x4, o4, hb4⟩ := hrw 4 (by decide)
  obtain ⟨b5, x5, o5, hb5⟩ := hrw 5 (by decide)
  have hsc := k4 (ad 0) _ _ (tbs_at hA (i := 0) (by decide))
  by_cases f3 : (Z (rwi I 0)).1 3 = 1
  · skip
    obtain ⟨p, t9, hrq, ht9, f4, p0, p1, p2⟩ := k5.2.2.1 f3
    obtain ⟨bq, e200, oq, hbq⟩ := id hrq
    have hsd : h[ad 0]? = some (.inl (5, [.int (S 0 0), .ref (ad 1), .ref (ad 2), .ref (ad 3), .ref (ad 4), .ref (ad 5), .ref (ad 6), .ref (ad 7), .int (S 0 1), .int (S 0 2), .ref (ad 8), .int (S 0 3), .ref bq, .ref (ad 9)])) := by
      rw [← e200]
      exact hsc
    refine go_s (pc' := 1) rfl rfl rfl rfl ?_
    refine go_get (pc' := 2) rfl ((hF1.2.2.2 _ (hD.1.2.2 _ (by omega)).2.1 (OW_lt hD.1 (by omega))).trans ha) rfl (by decide) rfl rfl ?_
    rw [q0]
    refine go_s (pc' := 3) (st' := [.int 2, .int (nI t)]) rfl rfl rfl rfl ?_
    refine go_callS (pc' := 4) rfl rfl rfl (Nat.le_of_ble_eq_true rfl) rfl rfl rfl (ct_within_t (n := 2) ht (by decide) (by omega)) (fun r h2 q3 => ?_)
    obtain ⟨rfl, rfl⟩ := q3
    refine go_s (pc' := 5) (lo' := [some (.ref 32), some (.ref a), some (.int 1), none]) rfl rfl rfl rfl ?_
    refine go_s (pc' := 6) rfl rfl rfl rfl ?_
    refine go_ifP (t' := 17) (pc' := 7) rfl rfl rfl (fun (c : (1 : Int32) = 0) => absurd c (by decide)) (fun _ => ?_)
    refine go_s (pc' := 8) rfl rfl rfl rfl ?_
    refine go_sget (pc' := 9) (v := .int 6) hS rfl rfl rfl (by decide) (congrArg Value.int en) rfl ?_
    refine go_s (pc' := 10) (st' := [.int 8, .int 6]) rfl rfl rfl rfl ?_
    refine go_icmpP (t' := 17) (pc' := 11) rfl rfl rfl (fun (c : 8 ≤ (6 : Int32)) => absurd c (by decide)) (fun _ => ?_)
    refine go_s (pc' := 12) rfl rfl rfl rfl ?_
    refine go_s (pc' := 13) rfl rfl rfl rfl ?_
    refine go_sget (pc' := 14) (v := .ref (ad 0)) hS rfl rfl rfl (by decide) k208 rfl ?_
    refine go_get (pc' := 15) rfl hsd rfl (by decide) rfl rfl ?_
    have hbd : mbd (row1 (I, Q, Z) 0) q = smr q p := mbd_sm f3 ht9 f4 p0 p1 p2
    refine go_callV (pc' := 16) rfl rfl rfl (Nat.le_of_ble_eq_true rfl) rfl ((hF1.2.2.2 _ (hD.1.2.2 _ (by omega)).2.1 (OW_lt hD.1 (by omega))).trans ha) rfl rfl rfl (ct_same (q := q) (p := p) ((hF1.2.2.2 _ (hD.1.2.2 _ (by omega)).2.1 (OW_lt hD.1 (by omega))).trans ha) ((hF1.2.2.2 _ (hD.1.2.2 _ (by omega)).2.1 (OW_lt hD.1 (by omega))).trans hbq) (by omega)) (fun r h4 q5 => ?_)
    obtain ⟨rfl, rfl⟩ := q5
    cases u6 : smr q p
    · skip
      show am_Go _ _ _ _ 16 _ [.int 0] _ _
      refine go_ifP (t' := 18) (pc' := 17) rfl rfl rfl (fun _ => ?_) (fun (c : ¬ ((0 : Int32) = 0)) => absurd (by decide) c)
      refine go_s (pc' := 19) (st' := [.int 0]) rfl rfl rfl rfl ?_
      refine go_s (pc' := 20) (lo' := [some (.ref 32), some (.ref a), some (.int 1), some (.int 0)]) rfl rfl rfl rfl ?_
      refine go_s (pc' := 21) rfl rfl rfl rfl ?_
      refine go_s (pc' := 22) rfl rfl rfl rfl ?_
      refine go_sget (pc' := 23) (v := .int 6) hS rfl rfl rfl (by decide) (congrArg Value.int en) rfl ?_
      refine go_icmpP (t' := 34) (pc' := 24) rfl rfl rfl (fun (c : 6 ≤ (0 : Int32)) => absurd c (by decide)) (fun _ => ?_)
      refine go_s (pc' := 25) rfl rfl rfl rfl ?_
      refine go_s (pc' := 26) rfl rfl rfl rfl ?_
      refine go_sget (pc' := 27) (v := .ref 57) hS rfl rfl rfl (by decide) rfl rfl ?_
      refine go_s (pc' := 28) rfl rfl rfl rfl ?_
      refine go_sald (pc' := 29) (q := 0) (v := .ref b0) hS rfl rfl rfl rfl (by decide) x0 rfl ?_
      refine go_callV (pc' := 30) rfl rfl rfl (Nat.le_of_ble_eq_true rfl) rfl ((hF1.2.2.2 _ (hD.1.2.2 _ (by omega)).2.1 (OW_lt hD.1 (by omega))).trans ha) rfl rfl rfl (ct_same (q := q) (p := (fun i => I 20 (7 * 0 + i))) ((hF1.2.2.2 _ (hD.1.2.2 _ (by omega)).2.1 (OW_lt hD.1 (by omega))).trans ha) ((hF1.2.2.2 _ (hD.1.2.2 _ (by omega)).2.1 (OW_lt hD.1 (by omega))).trans hb0) (by omega)) (fun r h7 q8 => ?_)
      obtain ⟨rfl, rfl⟩ := q8
      cases u9 : smr q (fun i => I 20 (7 * 0 + i))
      · skip
        show am_Go _ _ _ _ 30 _ [.int 0] _ _
        refine go_ifP (t' := 32) (pc' := 31) rfl rfl rfl (fun _ => ?_) (fun (c : ¬ ((0 : Int32) = 0)) => absurd (by decide) c)
        refine go_s (pc' := 33) (lo' := [some (.ref 32), some (.ref a), some (.int 1), some (.int 1)]) rfl rfl rfl rfl ?_
        refine go_s (pc' := 20) rfl rfl rfl rfl ?_
        refine go_s (pc' := 21) rfl rfl rfl rfl ?_
        refine go_s (pc' := 22) rfl rfl rfl rfl ?_
        refine go_sget (pc' := 23) (v := .int 6) hS rfl rfl rfl (by decide) (congrArg Value.int en) rfl ?_
        refine go_icmpP (t' := 34) (pc' := 24) rfl rfl rfl (fun (c : 6 ≤ (1 : Int32)) => absurd c (by decide)) (fun _ => ?_)
        refine go_s (pc' := 25) rfl rfl rfl rfl ?_
        refine go_s (pc' := 26) rfl rfl rfl rfl ?_
        refine go_sget (pc' := 27) (v := .ref 57) hS rfl rfl rfl (by decide) rfl rfl ?_
        refine go_s (pc' := 28) rfl rfl rfl rfl ?_
        refine go_sald (pc' := 29) (q := 1) (v := .ref b1) hS rfl rfl rfl rfl (by decide) x1 rfl ?_
        refine go_callV (pc' := 30) rfl rfl rfl (Nat.le_of_ble_eq_true rfl) rfl ((hF1.2.2.2 _ (hD.1.2.2 _ (by omega)).2.1 (OW_lt hD.1 (by omega))).trans ha) rfl rfl rfl (ct_same (q := q) (p := (fun i => I 20 (7 * 1 + i))) ((hF1.2.2.2 _ (hD.1.2.2 _ (by omega)).2.1 (OW_lt hD.1 (by omega))).trans ha) ((hF1.2.2.2 _ (hD.1.2.2 _ (by omega)).2.1 (OW_lt hD.1 (by omega))).trans hb1) (by omega)) (fun r h10 q11 => ?_)
        obtain ⟨rfl, rfl⟩ := q11
        cases u12 : smr q (fun i => I 20 (7 * 1 + i))
        · skip
          show am_Go _ _ _ _ 30 _ [.int 0] _ _
          refine go_ifP (t' := 32) (pc' := 31) rfl rfl rfl (fun _ => ?_) (fun (c : ¬ ((0 : Int32) = 0)) => absurd (by decide) c)
          refine go_s (pc' := 33) (lo' := [some (.ref 32), some (.ref a), some (.int 1), some (.int 2)]) rfl rfl rfl rfl ?_
          refine go_s (pc' := 20) rfl rfl rfl rfl ?_
          refine go_s (pc' := 21) rfl rfl rfl rfl ?_
          refine go_s (pc' := 22) rfl rfl rfl rfl ?_
          refine go_sget (pc' := 23) (v := .int 6) hS rfl rfl rfl (by decide) (congrArg Value.int en) rfl ?_
          refine go_icmpP (t' := 34) (pc' := 24) rfl rfl rfl (fun (c : 6 ≤ (2 : Int32)) => absurd c (by decide)) (fun _ => ?_)
          refine go_s (pc' := 25) rfl rfl rfl rfl ?_
          refine go_s (pc' := 26) rfl rfl rfl rfl ?_
          refine go_sget (pc' := 27) (v := .ref 57) hS rfl rfl rfl (by decide) rfl rfl ?_
          refine go_s (pc' := 28) rfl rfl rfl rfl ?_
          refine go_sald (pc' := 29) (q := 2) (v := .ref b2) hS rfl rfl rfl rfl (by decide) x2 rfl ?_
          refine go_callV (pc' := 30) rfl rfl rfl (Nat.le_of_ble_eq_true rfl) rfl ((hF1.2.2.2 _ (hD.1.2.2 _ (by omega)).2.1 (OW_lt hD.1 (by omega))).trans ha) rfl rfl rfl (ct_same (q := q) (p := (fun i => I 20 (7 * 2 + i))) ((hF1.2.2.2 _ (hD.1.2.2 _ (by omega)).2.1 (OW_lt hD.1 (by omega))).trans ha) ((hF1.2.2.2 _ (hD.1.2.2 _ (by omega)).2.1 (OW_lt hD.1 (by omega))).trans hb2) (by omega)) (fun r h13 q14 => ?_)
          obtain ⟨rfl, rfl⟩ := q14
          cases u15 : smr q (fun i => I 20 (7 * 2 + i))
          · skip
            show am_Go _ _ _ _ 30 _ [.int 0] _ _
            refine go_ifP (t' := 32) (pc' := 31) rfl rfl rfl (fun _ => ?_) (fun (c : ¬ ((0 : Int32) = 0)) => absurd (by decide) c)
            refine go_s (pc' := 33) (lo' := [some (.ref 32), some (.ref a), some (.int 1), some (.int 3)]) rfl rfl rfl rfl ?_
            refine go_s (pc' := 20) rfl rfl rfl rfl ?_
            refine go_s (pc' := 21) rfl rfl rfl rfl ?_
            refine go_s (pc' := 22) rfl rfl rfl rfl ?_
            refine go_sget (pc' := 23) (v := .int 6) hS rfl rfl rfl (by decide) (congrArg Value.int en) rfl ?_
            refine go_icmpP (t' := 34) (pc' := 24) rfl rfl rfl (fun (c : 6 ≤ (3 : Int32)) => absurd c (by decide)) (fun _ => ?_)
            refine go_s (pc' := 25) rfl rfl rfl rfl ?_
            refine go_s (pc' := 26) rfl rfl rfl rfl ?_
            refine go_sget (pc' := 27) (v := .ref 57) hS rfl rfl rfl (by decide) rfl rfl ?_
            refine go_s (pc' := 28) rfl rfl rfl rfl ?_
            refine go_sald (pc' := 29) (q := 3) (v := .ref b3) hS rfl rfl rfl rfl (by decide) x3 rfl ?_
            refine go_callV (pc' := 30) rfl rfl rfl (Nat.le_of_ble_eq_true rfl) rfl ((hF1.2.2.2 _ (hD.1.2.2 _ (by omega)).2.1 (OW_lt hD.1 (by omega))).trans ha) rfl rfl rfl (ct_same (q := q) (p := (fun i => I 20 (7 * 3 + i))) ((hF1.2.2.2 _ (hD.1.2.2 _ (by omega)).2.1 (OW_lt hD.1 (by omega))).trans ha) ((hF1.2.2.2 _ (hD.1.2.2 _ (by omega)).2.1 (OW_lt hD.1 (by omega))).trans hb3) (by omega)) (fun r h16 q17 => ?_)
            obtain ⟨rfl, rfl⟩ := q17
            cases u18 : smr q (fun i => I 20 (7 * 3 + i))
            · skip
              show am_Go _ _ _ _ 30 _ [.int 0] _ _
              refine go_ifP (t' := 32) (pc' := 31) rfl rfl rfl (fun _ => ?_) (fun (c : ¬ ((0 : Int32) = 0)) => absurd (by decide) c)
              refine go_s (pc' := 33) (lo' := [some (.ref 32), some (.ref a), some (.int 1), some (.int 4)]) rfl rfl rfl rfl ?_
              refine go_s (pc' := 20) rfl rfl rfl rfl ?_
              refine go_s (pc' := 21) rfl rfl rfl rfl ?_
              refine go_s (pc' := 22) rfl rfl rfl rfl ?_
              refine go_sget (pc' := 23) (v := .int 6) hS rfl rfl rfl (by decide) (congrArg Value.int en) rfl ?_
              refine go_icmpP (t' := 34) (pc' := 24) rfl rfl rfl (fun (c : 6 ≤ (4 : Int32)) => absurd c (by decide)) (fun _ => ?_)
              refine go_s (pc' := 25) rfl rfl rfl rfl ?_
              refine go_s (pc' := 26) rfl rfl rfl rfl ?_
              refine go_sget (pc' := 27) (v := .ref 57) hS rfl rfl rfl (by decide) rfl rfl ?_
              refine go_s (pc' := 28) rfl rfl rfl rfl ?_
              refine go_sald (pc' := 29) (q := 4) (v := .ref b4) hS rfl rfl rfl rfl (by decide) x4 rfl ?_
              refine go_callV (pc' := 30) rfl rfl rfl (Nat.le_of_ble_eq_true rfl) rfl ((hF1.2.2.2 _ (hD.1.2.2 _ (by omega)).2.1 (OW_lt hD.1 (by omega))).trans ha) rfl rfl rfl (ct_same (q := q) (p := (fun i => I 20 (7 * 4 + i))) ((hF1.2.2.2 _ (hD.1.2.2 _ (by omega)).2.1 (OW_lt hD.1 (by omega))).trans ha) ((hF1.2.2.2 _ (hD.1.2.2 _ (by omega)).2.1 (OW_lt hD.1 (by omega))).trans hb4) (by omega)) (fun r h19 q20 => ?_)
              obtain ⟨rfl, rfl⟩ := q20
              cases u21 : smr q (fun i => I 20 (7 * 4 + i))
              · skip
                show am_Go _ _ _ _ 30 _ [.int 0] _ _
                refine go_ifP (t' := 32) (pc' := 31) rfl rfl rfl (fun _ => ?_) (fun (c : ¬ ((0 : Int32) = 0)) => absurd (by decide) c)
                refine go_s (pc' := 33) (lo' := [some (.ref 32), some (.ref a), some (.int 1), some (.int 5)]) rfl rfl rfl rfl ?_
                refine go_s (pc' := 20) rfl rfl rfl rfl ?_
                refine go_s (pc' := 21) rfl rfl rfl rfl ?_
                refine go_s (pc' := 22) rfl rfl rfl rfl ?_
                refine go_sget (pc' := 23) (v := .int 6) hS rfl rfl rfl (by decide) (congrArg Value.int en) rfl ?_
                refine go_icmpP (t' := 34) (pc' := 24) rfl rfl rfl (fun (c : 6 ≤ (5 : Int32)) => absurd c (by decide)) (fun _ => ?_)
                refine go_s (pc' := 25) rfl rfl rfl rfl ?_
                refine go_s (pc' := 26) rfl rfl rfl rfl ?_
                refine go_sget (pc' := 27) (v := .ref 57) hS rfl rfl rfl (by decide) rfl rfl ?_
                refine go_s (pc' := 28) rfl rfl rfl rfl ?_
                refine go_sald (pc' := 29) (q := 5) (v := .ref b5) hS rfl rfl rfl rfl (by decide) x5 rfl ?_
                refine go_callV (pc' := 30) rfl rfl rfl (Nat.le_of_ble_eq_true rfl) rfl ((hF1.2.2.2 _ (hD.1.2.2 _ (by omega)).2.1 (OW_lt hD.1 (by omega))).trans ha) rfl rfl rfl (ct_same (q := q) (p := (fun i => I 20 (7 * 5 + i))) ((hF1.2.2.2 _ (hD.1.2.2 _ (by omega)).2.1 (OW_lt hD.1 (by omega))).trans ha) ((hF1.2.2.2 _ (hD.1.2.2 _ (by omega)).2.1 (OW_lt hD.1 (by omega))).trans hb5) (by omega)) (fun r h22 q23 => ?_)
                obtain ⟨rfl, rfl⟩ := q23
                cases u24 : smr q (fun i => I 20 (7 * 5 + i))
                · skip
                  show am_Go _ _ _ _ 30 _ [.int 0] _ _
                  refine go_ifP (t' := 32) (pc' := 31) rfl rfl rfl (fun _ => ?_) (fun (c : ¬ ((0 : Int32) = 0)) => absurd (by decide) c)
                  refine go_s (pc' := 33) (lo' := [some (.ref 32), some (.ref a), some (.int 1), some (.int 6)]) rfl rfl rfl rfl ?_
                  refine go_s (pc' := 20) rfl rfl rfl rfl ?_
                  refine go_s (pc' := 21) rfl rfl rfl rfl ?_
                  refine go_s (pc' := 22) rfl rfl rfl rfl ?_
                  refine go_sget (pc' := 23) (v := .int 6) hS rfl rfl rfl (by decide) (congrArg Value.int en) rfl ?_
                  refine go_icmpP (t' := 34) (pc' := 24) rfl rfl rfl (fun _ => ?_) (fun (c : ¬ (6 ≤ (6 : Int32))) => absurd (by decide) c)
                  refine go_s (pc' := 35) rfl rfl rfl rfl ?_
                  refine go_sget (pc' := 36) (v := .ref 57) hS rfl rfl rfl (by decide) rfl rfl ?_
                  refine go_s (pc' := 37) rfl rfl rfl rfl ?_
                  refine go_sget (pc' := 38) (v := .int 6) hS rfl rfl rfl (by decide) (congrArg Value.int en) rfl ?_
                  refine go_s (pc' := 39) rfl rfl rfl rfl ?_
                  refine go_saast (pc' := 40) (q := 6) hS rfl rfl tbc_inj (Nat.le_of_ble_eq_true rfl) (Nat.le_of_ble_eq_true rfl) ((hF1.2.2.2 _ (hD.1.2.2 _ (by omega)).2.1 (OW_lt hD.1 (by omega))).trans ha) (am_S_rq w) rfl (by decide) (by decide) (hW _ rfl) rfl (fun h25 hS26 hE27 => ?_)
                  have hF28 := fr_trans hF1 (fr_e hE27)
                  have hq29 := (hE27.2.2 _ (htc 0 (by decide))).trans hsd
                  refine go_s (pc' := 41) rfl rfl rfl rfl ?_
                  refine go_s (pc' := 42) rfl rfl rfl rfl ?_
                  refine go_sget (pc' := 43) (v := .int 6) hS26 rfl rfl rfl (by decide) (congrArg Value.int en) rfl ?_
                  refine go_s (pc' := 44) (st' := [.int 1, .int 6, .ref 32]) rfl rfl rfl rfl ?_
                  refine go_s (pc' := 45) (st' := [.int 7, .ref 32]) rfl rfl rfl rfl ?_
                  refine go_sput (pc' := 46) hS26 rfl rfl rfl (by decide) tbc_inj (Nat.le_of_ble_eq_true rfl) rfl (hW _ rfl) rfl (fun h30 hS31 hE32 => ?_)
                  have hF33 := fr_trans hF28 (fr_e hE32)
                  have hq34 := (hE32.2.2 _ (htc 0 (by decide))).trans hq29
                  refine go_ret rfl rfl ?_
                  have hms : mac q (I, Q, Z) = (mrw I 6 q, Q, Z) := by
                    unfold mac
                    rw [show stn (I, Q, Z).1 = 6 from es, if_neg]
                    rw [hbd]
                    intro z
                    rcases z with z | z
                    · exact absurd z (by decide)
                    · simp only [mdup, u6, u9, u12, u15, u18, u21, u24, Bool.or_false, Bool.false_or, Bool.or_self, Bool.false_eq_true] at z
                  have hD35 := CD_mrw (n := 6) (q := q) (X2 := (uX X 210 6 (.ref a))) (CD_fr hD hF33) en (by decide) (by show Rq _ ow (.ref a) q; exact Rq_fr hD.1 hF33 ⟨a, rfl, oa, ha⟩) (fun k hk => by simp [uX]; omega) (fun c hc => by funext j; simp [uX, hc])
                  rw [hms]
                  refine ⟨rfl, ⟨(uX X 210 6 (.ref a)), ow, sb, mrw_sm hS31, hD35, ?_, fun l hl => Nat.le_trans (hQ l hl) hF33.1⟩⟩
                  have z := co_fr (I := I) (J := I) hF33 rfl
                  show co _ (mrw I 6 q) ≤ _
                  have e9 : mrw I 6 q 21 0 = nI 7 := by simp [mrw]
                  have e8 : I 21 0 = nI 6 := en
                  unfold co at hB z ⊢
                  rw [e9]
                  rw [e8] at hB z
                  rw [nI_clamp (by decide)] at hB z ⊢
                  omega
                · skip
                  show am_Go _ _ _ _ 30 _ [.int 1] _ _
                  refine go_ifP (t' := 32) (pc' := 31) rfl rfl rfl (fun (c : (1 : Int32) = 0) => absurd c (by decide)) (fun _ => ?_)
                  refine go_ret rfl rfl ?_
                  have hms : mac q (I, Q, Z) = (I, Q, Z) := if_pos (Or.inr (by rw [show stn (I, Q, Z).1 = 6 from es, hbd]; simp only [mdup, u6, u9, u12, u15, u18, u21, u24, Bool.or_true, Bool.true_or, Bool.or_false, Bool.false_or]))
                  have hD36 : CD w e m0 h22 I Q Z X ow sb := CD_I (CD_fr hD hF1) ⟨rfl, rfl, rfl, rfl, rfl, rfl, rfl, rfl, rfl, rfl, rfl, rfl, rfl, rfl, rfl⟩
                  have hB37 : co h22 I ≤ B + 0 := by
                    have := co_fr (I := I) (J := I) hF1 rfl
                    have := hB
                    omega
                  have hC38 : CA w e m0 (B + 0) h22 (I, Q, Z) := ⟨X, ow, sb, hS, hD36, hB37, fun l hl => Nat.le_trans (hQ l hl) hF1.1⟩
                  rw [hms]
                  exact ⟨rfl, CA_le hC38 (by omega)⟩
              · skip
                show am_Go _ _ _ _ 30 _ [.int 1] _ _
                refine go_ifP (t' := 32) (pc' := 31) rfl rfl rfl (fun (c : (1 : Int32) = 0) => absurd c (by decide)) (fun _ => ?_)
                refine go_ret rfl rfl ?_
                have hms : mac q (I, Q, Z) = (I, Q, Z) := if_pos (Or.inr (by rw [show stn (I, Q, Z).1 = 6 from es, hbd]; simp only [mdup, u6, u9, u12, u15, u18, u21, Bool.or_true, Bool.true_or, Bool.or_false, Bool.false_or]))
                have hD39 : CD w e m0 h19 I Q Z X ow sb := CD_I (CD_fr hD hF1) ⟨rfl, rfl, rfl, rfl, rfl, rfl, rfl, rfl, rfl, rfl, rfl, rfl, rfl, rfl, rfl⟩
                have hB40 : co h19 I ≤ B + 0 := by
                  have := co_fr (I := I) (J := I) hF1 rfl
                  have := hB
                  omega
                have hC41 : CA w e m0 (B + 0) h19 (I, Q, Z) := ⟨X, ow, sb, hS, hD39, hB40, fun l hl => Nat.le_trans (hQ l hl) hF1.1⟩
                rw [hms]
                exact ⟨rfl, CA_le hC41 (by omega)⟩
            · skip
              show am_Go _ _ _ _ 30 _ [.int 1] _ _
              refine go_ifP (t' := 32) (pc' := 31) rfl rfl rfl (fun (c : (1 : Int32) = 0) => absurd c (by decide)) (fun _ => ?_)
              refine go_ret rfl rfl ?_
              have hms : mac q (I, Q, Z) = (I, Q, Z) := if_pos (Or.inr (by rw [show stn (I, Q, Z).1 = 6 from es, hbd]; simp only [mdup, u6, u9, u12, u15, u18, Bool.or_true, Bool.true_or, Bool.or_false, Bool.false_or]))
              have hD42 : CD w e m0 h16 I Q Z X ow sb := CD_I (CD_fr hD hF1) ⟨rfl, rfl, rfl, rfl, rfl, rfl, rfl, rfl, rfl, rfl, rfl, rfl, rfl, rfl, rfl⟩
              have hB43 : co h16 I ≤ B + 0 := by
                have := co_fr (I := I) (J := I) hF1 rfl
                have := hB
                omega
              have hC44 : CA w e m0 (B + 0) h16 (I, Q, Z) := ⟨X, ow, sb, hS, hD42, hB43, fun l hl => Nat.le_trans (hQ l hl) hF1.1⟩
              rw [hms]
              exact ⟨rfl, CA_le hC44 (by omega)⟩
          · skip
            show am_Go _ _ _ _ 30 _ [.int 1] _ _
            refine go_ifP (t' := 32) (pc' := 31) rfl rfl rfl (fun (c : (1 : Int32) = 0) => absurd c (by decide)) (fun _ => ?_)
            refine go_ret rfl rfl ?_
            have hms : mac q (I, Q, Z) = (I, Q, Z) := if_pos (Or.inr (by rw [show stn (I, Q, Z).1 = 6 from es, hbd]; simp only [mdup, u6, u9, u12, u15, Bool.or_true, Bool.true_or, Bool.or_false, Bool.false_or]))
            have hD45 : CD w e m0 h13 I Q Z X ow sb := CD_I (CD_fr hD hF1) ⟨rfl, rfl, rfl, rfl, rfl, rfl, rfl, rfl, rfl, rfl, rfl, rfl, rfl, rfl, rfl⟩
            have hB46 : co h13 I ≤ B + 0 := by
              have := co_fr (I := I) (J := I) hF1 rfl
              have := hB
              omega
            have hC47 : CA w e m0 (B + 0) h13 (I, Q, Z) := ⟨X, ow, sb, hS, hD45, hB46, fun l hl => Nat.le_trans (hQ l hl) hF1.1⟩
            rw [hms]
            exact ⟨rfl, CA_le hC47 (by omega)⟩
        · skip
          show am_Go _ _ _ _ 30 _ [.int 1] _ _
          refine go_ifP (t' := 32) (pc' := 31) rfl rfl rfl (fun (c : (1 : Int32) = 0) => absurd c (by decide)) (fun _ => ?_)
          refine go_ret rfl rfl ?_
          have hms : mac q (I, Q, Z) = (I, Q, Z) := if_pos (Or.inr (by rw [show stn (I, Q, Z).1 = 6 from es, hbd]; simp only [mdup, u6, u9, u12, Bool.or_true, Bool.true_or, Bool.or_false, Bool.false_or]))
          have hD48 : CD w e m0 h10 I Q Z X ow sb := CD_I (CD_fr hD hF1) ⟨rfl, rfl, rfl, rfl, rfl, rfl, rfl, rfl, rfl, rfl, rfl, rfl, rfl, rfl, rfl⟩
          have hB49 : co h10 I ≤ B + 0 := by
            have := co_fr (I := I) (J := I) hF1 rfl
            have := hB
            omega
          have hC50 : CA w e m0 (B + 0) h10 (I, Q, Z) := ⟨X, ow, sb, hS, hD48, hB49, fun l hl => Nat.le_trans (hQ l hl) hF1.1⟩
          rw [hms]
          exact ⟨rfl, CA_le hC50 (by omega)⟩
      · skip
        show am_Go _ _ _ _ 30 _ [.int 1] _ _
        refine go_ifP (t' := 32) (pc' := 31) rfl rfl rfl (fun (c : (1 : Int32) = 0) => absurd c (by decide)) (fun _ => ?_)
        refine go_ret rfl rfl ?_
        have hms : mac q (I, Q, Z) = (I, Q, Z) := if_pos (Or.inr (by rw [show stn (I, Q, Z).1 = 6 from es, hbd]; simp only [mdup, u6, u9, Bool.or_true, Bool.true_or, Bool.or_false, Bool.false_or]))
        have hD51 : CD w e m0 h7 I Q Z X ow sb := CD_I (CD_fr hD hF1) ⟨rfl, rfl, rfl, rfl, rfl, rfl, rfl, rfl, rfl, rfl, rfl, rfl, rfl, rfl, rfl⟩
        have hB52 : co h7 I ≤ B + 0 := by
          have := co_fr (I := I) (J := I) hF1 rfl
          have := hB
          omega
        have hC53 : CA w e m0 (B + 0) h7 (I, Q, Z) := ⟨X, ow, sb, hS, hD51, hB52, fun l hl => Nat.le_trans (hQ l hl) hF1.1⟩
        rw [hms]
        exact ⟨rfl, CA_le hC53 (by omega)⟩
    · skip
      show am_Go _ _ _ _ 16 _ [.int 1] _ _
      refine go_ifP (t' := 18) (pc' := 17) rfl rfl rfl (fun (c : (1 : Int32) = 0) => absurd c (by decide)) (fun _ => ?_)
      refine go_ret rfl rfl ?_
      have hms : mac q (I, Q, Z) = (I, Q, Z) := if_pos (Or.inr (by rw [show stn (I, Q, Z).1 = 6 from es, hbd]; simp only [mdup, u6, Bool.or_true, Bool.true_or, Bool.or_false, Bool.false_or]))
      have hD54 : CD w e m0 h4 I Q Z X ow sb := CD_I (CD_fr hD hF1) ⟨rfl, rfl, rfl, rfl, rfl, rfl, rfl, rfl, rfl, rfl, rfl, rfl, rfl, rfl, rfl⟩
      have hB55 : co h4 I ≤ B + 0 := by
        have := co_fr (I := I) (J := I) hF1 rfl
        have := hB
        omega
      have hC56 : CA w e m0 (B + 0) h4 (I, Q, Z) := ⟨X, ow, sb, hS, hD54, hB55, fun l hl => Nat.le_trans (hQ l hl) hF1.1⟩
      rw [hms]
      exact ⟨rfl, CA_le hC56 (by omega)⟩
  · skip
    have e200 := k5.2.2.2 f3
    have hsd : h[ad 0]? = some (.inl (5, [.int (S 0 0), .ref (ad 1), .ref (ad 2), .ref (ad 3), .ref (ad 4), .ref (ad 5), .ref (ad 6), .ref (ad 7), .int (S 0 1), .int (S 0 2), .ref (ad 8), .int (S 0 3), .null, .ref (ad 9)])) := by
      rw [← e200]
      exact hsc
    refine go_s (pc' := 1) rfl rfl rfl rfl ?_
    refine go_get (pc' := 2) rfl ((hF1.2.2.2 _ (hD.1.2.2 _ (by omega)).2.1 (OW_lt hD.1 (by omega))).trans ha) rfl (by decide) rfl rfl ?_
    rw [q0]
    refine go_s (pc' := 3) (st' := [.int 2, .int (nI t)]) rfl rfl rfl rfl ?_
    refine go_callS (pc' := 4) rfl rfl rfl (Nat.le_of_ble_eq_true rfl) rfl rfl rfl (ct_within_t (n := 2) ht (by decide) (by omega)) (fun r h57 q58 => ?_)
    obtain ⟨rfl, rfl⟩ := q58
    refine go_s (pc' := 5) (lo' := [some (.ref 32), some (.ref a), some (.int 1), none]) rfl rfl rfl rfl ?_
    refine go_s (pc' := 6) rfl rfl rfl rfl ?_
    refine go_ifP (t' := 17) (pc' := 7) rfl rfl rfl (fun (c : (1 : Int32) = 0) => absurd c (by decide)) (fun _ => ?_)
    refine go_s (pc' := 8) rfl rfl rfl rfl ?_
    refine go_sget (pc' := 9) (v := .int 6) hS rfl rfl rfl (by decide) (congrArg Value.int en) rfl ?_
    refine go_s (pc' := 10) (st' := [.int 8, .int 6]) rfl rfl rfl rfl ?_
    refine go_icmpP (t' := 17) (pc' := 11) rfl rfl rfl (fun (c : 8 ≤ (6 : Int32)) => absurd c (by decide)) (fun _ => ?_)
    refine go_s (pc' := 12) rfl rfl rfl rfl ?_
    refine go_s (pc' := 13) rfl rfl rfl rfl ?_
    refine go_sget (pc' := 14) (v := .ref (ad 0)) hS rfl rfl rfl (by decide) k208 rfl ?_
    refine go_get (pc' := 15) rfl hsd rfl (by decide) rfl rfl ?_
    have hbd : mbd (row1 (I, Q, Z) 0) q = false := mbd_f f3
    refine go_callV (pc' := 16) rfl rfl rfl (Nat.le_of_ble_eq_true rfl) rfl ((hF1.2.2.2 _ (hD.1.2.2 _ (by omega)).2.1 (OW_lt hD.1 (by omega))).trans ha) rfl rfl rfl (ct_same_n (by omega)) (fun r h59 q60 => ?_)
    obtain ⟨rfl, rfl⟩ := q60
    refine go_ifP (t' := 18) (pc' := 17) rfl rfl rfl (fun _ => ?_) (fun (c : ¬ ((0 : Int32) = 0)) => absurd (by decide) c)
    refine go_s (pc' := 19) (st' := [.int 0]) rfl rfl rfl rfl ?_
    refine go_s (pc' := 20) (lo' := [some (.ref 32), some (.ref a), some (.int 1), some (.int 0)]) rfl rfl rfl rfl ?_
    refine go_s (pc' := 21) rfl rfl rfl rfl ?_
    refine go_s (pc' := 22) rfl rfl rfl rfl ?_
    refine go_sget (pc' := 23) (v := .int 6) hS rfl rfl rfl (by decide) (congrArg Value.int en) rfl ?_
    refine go_icmpP (t' := 34) (pc' := 24) rfl rfl rfl (fun (c : 6 ≤ (0 : Int32)) => absurd c (by decide)) (fun _ => ?_)
    refine go_s (pc' := 25) rfl rfl rfl rfl ?_
    refine go_s (pc' := 26) rfl rfl rfl rfl ?_
    refine go_sget (pc' := 27) (v := .ref 57) hS rfl rfl rfl (by decide) rfl rfl ?_
    refine go_s (pc' := 28) rfl rfl rfl rfl ?_
    refine go_sald (pc' := 29) (q := 0) (v := .ref b0) hS rfl rfl rfl rfl (by decide) x0 rfl ?_
    refine go_callV (pc' := 30) rfl rfl rfl (Nat.le_of_ble_eq_true rfl) rfl ((hF1.2.2.2 _ (hD.1.2.2 _ (by omega)).2.1 (OW_lt hD.1 (by omega))).trans ha) rfl rfl rfl (ct_same (q := q) (p := (fun i => I 20 (7 * 0 + i))) ((hF1.2.2.2 _ (hD.1.2.2 _ (by omega)).2.1 (OW_lt hD.1 (by omega))).trans ha) ((hF1.2.2.2 _ (hD.1.2.2 _ (by omega)).2.1 (OW_lt hD.1 (by omega))).trans hb0) (by omega)) (fun r h61 q62 => ?_)
    obtain ⟨rfl, rfl⟩ := q62
    cases u63 : smr q (fun i => I 20 (7 * 0 + i))
    · skip
      show am_Go _ _ _ _ 30 _ [.int 0] _ _
      refine go_ifP (t' := 32) (pc' := 31) rfl rfl rfl (fun _ => ?_) (fun (c : ¬ ((0 : Int32) = 0)) => absurd (by decide) c)
      refine go_s (pc' := 33) (lo' := [some (.ref 32), some (.ref a), some (.int 1), some (.int 1)]) rfl rfl rfl rfl ?_
      refine go_s (pc' := 20) rfl rfl rfl rfl ?_
      refine go_s (pc' := 21) rfl rfl rfl rfl ?_
      refine go_s (pc' := 22) rfl rfl rfl rfl ?_
      refine go_sget (pc' := 23) (v := .int 6) hS rfl rfl rfl (by decide) (congrArg Value.int en) rfl ?_
      refine go_icmpP (t' := 34) (pc' := 24) rfl rfl rfl (fun (c : 6 ≤ (1 : Int32)) => absurd c (by decide)) (fun _ => ?_)
      refine go_s (pc' := 25) rfl rfl rfl rfl ?_
      refine go_s (pc' := 26) rfl rfl rfl rfl ?_
      refine go_sget (pc' := 27) (v := .ref 57) hS rfl rfl rfl (by decide) rfl rfl ?_
      refine go_s (pc' := 28) rfl rfl rfl rfl ?_
      refine go_sald (pc' := 29) (q := 1) (v := .ref b1) hS rfl rfl rfl rfl (by decide) x1 rfl ?_
      refine go_callV (pc' := 30) rfl rfl rfl (Nat.le_of_ble_eq_true rfl) rfl ((hF1.2.2.2 _ (hD.1.2.2 _ (by omega)).2.1 (OW_lt hD.1 (by omega))).trans ha) rfl rfl rfl (ct_same (q := q) (p := (fun i => I 20 (7 * 1 + i))) ((hF1.2.2.2 _ (hD.1.2.2 _ (by omega)).2.1 (OW_lt hD.1 (by omega))).trans ha) ((hF1.2.2.2 _ (hD.1.2.2 _ (by omega)).2.1 (OW_lt hD.1 (by omega))).trans hb1) (by omega)) (fun r h64 q65 => ?_)
      obtain ⟨rfl, rfl⟩ := q65
      cases u66 : smr q (fun i => I 20 (7 * 1 + i))
      · skip
        show am_Go _ _ _ _ 30 _ [.int 0] _ _
        refine go_ifP (t' := 32) (pc' := 31) rfl rfl rfl (fun _ => ?_) (fun (c : ¬ ((0 : Int32) = 0)) => absurd (by decide) c)
        refine go_s (pc' := 33) (lo' := [some (.ref 32), some (.ref a), some (.int 1), some (.int 2)]) rfl rfl rfl rfl ?_
        refine go_s (pc' := 20) rfl rfl rfl rfl ?_
        refine go_s (pc' := 21) rfl rfl rfl rfl ?_
        refine go_s (pc' := 22) rfl rfl rfl rfl ?_
        refine go_sget (pc' := 23) (v := .int 6) hS rfl rfl rfl (by decide) (congrArg Value.int en) rfl ?_
        refine go_icmpP (t' := 34) (pc' := 24) rfl rfl rfl (fun (c : 6 ≤ (2 : Int32)) => absurd c (by decide)) (fun _ => ?_)
        refine go_s (pc' := 25) rfl rfl rfl rfl ?_
        refine go_s (pc' := 26) rfl rfl rfl rfl ?_
        refine go_sget (pc' := 27) (v := .ref 57) hS rfl rfl rfl (by decide) rfl rfl ?_
        refine go_s (pc' := 28) rfl rfl rfl rfl ?_
        refine go_sald (pc' := 29) (q := 2) (v := .ref b2) hS rfl rfl rfl rfl (by decide) x2 rfl ?_
        refine go_callV (pc' := 30) rfl rfl rfl (Nat.le_of_ble_eq_true rfl) rfl ((hF1.2.2.2 _ (hD.1.2.2 _ (by omega)).2.1 (OW_lt hD.1 (by omega))).trans ha) rfl rfl rfl (ct_same (q := q) (p := (fun i => I 20 (7 * 2 + i))) ((hF1.2.2.2 _ (hD.1.2.2 _ (by omega)).2.1 (OW_lt hD.1 (by omega))).trans ha) ((hF1.2.2.2 _ (hD.1.2.2 _ (by omega)).2.1 (OW_lt hD.1 (by omega))).trans hb2) (by omega)) (fun r h67 q68 => ?_)
        obtain ⟨rfl, rfl⟩ := q68
        cases u69 : smr q (fun i => I 20 (7 * 2 + i))
        · skip
          show am_Go _ _ _ _ 30 _ [.int 0] _ _
          refine go_ifP (t' := 32) (pc' := 31) rfl rfl rfl (fun _ => ?_) (fun (c : ¬ ((0 : Int32) = 0)) => absurd (by decide) c)
          refine go_s (pc' := 33) (lo' := [some (.ref 32), some (.ref a), some (.int 1), some (.int 3)]) rfl rfl rfl rfl ?_
          refine go_s (pc' := 20) rfl rfl rfl rfl ?_
          refine go_s (pc' := 21) rfl rfl rfl rfl ?_
          refine go_s (pc' := 22) rfl rfl rfl rfl ?_
          refine go_sget (pc' := 23) (v := .int 6) hS rfl rfl rfl (by decide) (congrArg Value.int en) rfl ?_
          refine go_icmpP (t' := 34) (pc' := 24) rfl rfl rfl (fun (c : 6 ≤ (3 : Int32)) => absurd c (by decide)) (fun _ => ?_)
          refine go_s (pc' := 25) rfl rfl rfl rfl ?_
          refine go_s (pc' := 26) rfl rfl rfl rfl ?_
          refine go_sget (pc' := 27) (v := .ref 57) hS rfl rfl rfl (by decide) rfl rfl ?_
          refine go_s (pc' := 28) rfl rfl rfl rfl ?_
          refine go_sald (pc' := 29) (q := 3) (v := .ref b3) hS rfl rfl rfl rfl (by decide) x3 rfl ?_
          refine go_callV (pc' := 30) rfl rfl rfl (Nat.le_of_ble_eq_true rfl) rfl ((hF1.2.2.2 _ (hD.1.2.2 _ (by omega)).2.1 (OW_lt hD.1 (by omega))).trans ha) rfl rfl rfl (ct_same (q := q) (p := (fun i => I 20 (7 * 3 + i))) ((hF1.2.2.2 _ (hD.1.2.2 _ (by omega)).2.1 (OW_lt hD.1 (by omega))).trans ha) ((hF1.2.2.2 _ (hD.1.2.2 _ (by omega)).2.1 (OW_lt hD.1 (by omega))).trans hb3) (by omega)) (fun r h70 q71 => ?_)
          obtain ⟨rfl, rfl⟩ := q71
          cases u72 : smr q (fun i => I 20 (7 * 3 + i))
          · skip
            show am_Go _ _ _ _ 30 _ [.int 0] _ _
            refine go_ifP (t' := 32) (pc' := 31) rfl rfl rfl (fun _ => ?_) (fun (c : ¬ ((0 : Int32) = 0)) => absurd (by decide) c)
            refine go_s (pc' := 33) (lo' := [some (.ref 32), some (.ref a), some (.int 1), some (.int 4)]) rfl rfl rfl rfl ?_
            refine go_s (pc' := 20) rfl rfl rfl rfl ?_
            refine go_s (pc' := 21) rfl rfl rfl rfl ?_
            refine go_s (pc' := 22) rfl rfl rfl rfl ?_
            refine go_sget (pc' := 23) (v := .int 6) hS rfl rfl rfl (by decide) (congrArg Value.int en) rfl ?_
            refine go_icmpP (t' := 34) (pc' := 24) rfl rfl rfl (fun (c : 6 ≤ (4 : Int32)) => absurd c (by decide)) (fun _ => ?_)
            refine go_s (pc' := 25) rfl rfl rfl rfl ?_
            refine go_s (pc' := 26) rfl rfl rfl rfl ?_
            refine go_sget (pc' := 27) (v := .ref 57) hS rfl rfl rfl (by decide) rfl rfl ?_
            refine go_s (pc' := 28) rfl rfl rfl rfl ?_
            refine go_sald (pc' := 29) (q := 4) (v := .ref b4) hS rfl rfl rfl rfl (by decide) x4 rfl ?_
            refine go_callV (pc' := 30) rfl rfl rfl (Nat.le_of_ble_eq_true rfl) rfl ((hF1.2.2.2 _ (hD.1.2.2 _ (by omega)).2.1 (OW_lt hD.1 (by omega))).trans ha) rfl rfl rfl (ct_same (q := q) (p := (fun i => I 20 (7 * 4 + i))) ((hF1.2.2.2 _ (hD.1.2.2 _ (by omega)).2.1 (OW_lt hD.1 (by omega))).trans ha) ((hF1.2.2.2 _ (hD.1.2.2 _ (by omega)).2.1 (OW_lt hD.1 (by omega))).trans hb4) (by omega)) (fun r h73 q74 => ?_)
            obtain ⟨rfl, rfl⟩ := q74
            cases u75 : smr q (fun i => I 20 (7 * 4 + i))
            · skip
              show am_Go _ _ _ _ 30 _ [.int 0] _ _
              refine go_ifP (t' := 32) (pc' := 31) rfl rfl rfl (fun _ => ?_) (fun (c : ¬ ((0 : Int32) = 0)) => absurd (by decide) c)
              refine go_s (pc' := 33) (lo' := [some (.ref 32), some (.ref a), some (.int 1), some (.int 5)]) rfl rfl rfl rfl ?_
              refine go_s (pc' := 20) rfl rfl rfl rfl ?_
              refine go_s (pc' := 21) rfl rfl rfl rfl ?_
              refine go_s (pc' := 22) rfl rfl rfl rfl ?_
              refine go_sget (pc' := 23) (v := .int 6) hS rfl rfl rfl (by decide) (congrArg Value.int en) rfl ?_
              refine go_icmpP (t' := 34) (pc' := 24) rfl rfl rfl (fun (c : 6 ≤ (5 : Int32)) => absurd c (by decide)) (fun _ => ?_)
              refine go_s (pc' := 25) rfl rfl rfl rfl ?_
              refine go_s (pc' := 26) rfl rfl rfl rfl ?_
              refine go_sget (pc' := 27) (v := .ref 57) hS rfl rfl rfl (by decide) rfl rfl ?_
              refine go_s (pc' := 28) rfl rfl rfl rfl ?_
              refine go_sald (pc' := 29) (q := 5) (v := .ref b5) hS rfl rfl rfl rfl (by decide) x5 rfl ?_
              refine go_callV (pc' := 30) rfl rfl rfl (Nat.le_of_ble_eq_true rfl) rfl ((hF1.2.2.2 _ (hD.1.2.2 _ (by omega)).2.1 (OW_lt hD.1 (by omega))).trans ha) rfl rfl rfl (ct_same (q := q) (p := (fun i => I 20 (7 * 5 + i))) ((hF1.2.2.2 _ (hD.1.2.2 _ (by omega)).2.1 (OW_lt hD.1 (by omega))).trans ha) ((hF1.2.2.2 _ (hD.1.2.2 _ (by omega)).2.1 (OW_lt hD.1 (by omega))).trans hb5) (by omega)) (fun r h76 q77 => ?_)
              obtain ⟨rfl, rfl⟩ := q77
              cases u78 : smr q (fun i => I 20 (7 * 5 + i))
              · skip
                show am_Go _ _ _ _ 30 _ [.int 0] _ _
                refine go_ifP (t' := 32) (pc' := 31) rfl rfl rfl (fun _ => ?_) (fun (c : ¬ ((0 : Int32) = 0)) => absurd (by decide) c)
                refine go_s (pc' := 33) (lo' := [some (.ref 32), some (.ref a), some (.int 1), some (.int 6)]) rfl rfl rfl rfl ?_
                refine go_s (pc' := 20) rfl rfl rfl rfl ?_
                refine go_s (pc' := 21) rfl rfl rfl rfl ?_
                refine go_s (pc' := 22) rfl rfl rfl rfl ?_
                refine go_sget (pc' := 23) (v := .int 6) hS rfl rfl rfl (by decide) (congrArg Value.int en) rfl ?_
                refine go_icmpP (t' := 34) (pc' := 24) rfl rfl rfl (fun _ => ?_) (fun (c : ¬ (6 ≤ (6 : Int32))) => absurd (by decide) c)
                refine go_s (pc' := 35) rfl rfl rfl rfl ?_
                refine go_sget (pc' := 36) (v := .ref 57) hS rfl rfl rfl (by decide) rfl rfl ?_
                refine go_s (pc' := 37) rfl rfl rfl rfl ?_
                refine go_sget (pc' := 38) (v := .int 6) hS rfl rfl rfl (by decide) (congrArg Value.int en) rfl ?_
                refine go_s (pc' := 39) rfl rfl rfl rfl ?_
                refine go_saast (pc' := 40) (q := 6) hS rfl rfl tbc_inj (Nat.le_of_ble_eq_true rfl) (Nat.le_of_ble_eq_true rfl) ((hF1.2.2.2 _ (hD.1.2.2 _ (by omega)).2.1 (OW_lt hD.1 (by omega))).trans ha) (am_S_rq w) rfl (by decide) (by decide) (hW _ rfl) rfl (fun h79 hS80 hE81 => ?_)
                have hF82 := fr_trans hF1 (fr_e hE81)
                have hq83 := (hE81.2.2 _ (htc 0 (by decide))).trans hsd
                refine go_s (pc' := 41) rfl rfl rfl rfl ?_
                refine go_s (pc' := 42) rfl rfl rfl rfl ?_
                refine go_sget (pc' := 43) (v := .int 6) hS80 rfl rfl rfl (by decide) (congrArg Value.int en) rfl ?_
                refine go_s (pc' := 44) (st' := [.int 1, .int 6, .ref 32]) rfl rfl rfl rfl ?_
                refine go_s (pc' := 45) (st' := [.int 7, .ref 32]) rfl rfl rfl rfl ?_
                refine go_sput (pc' := 46) hS80 rfl rfl rfl (by decide) tbc_inj (Nat.le_of_ble_eq_true rfl) rfl (hW _ rfl) rfl (fun h84 hS85 hE86 => ?_)
                have hF87 := fr_trans hF82 (fr_e hE86)
                have hq88 := (hE86.2.2 _ (htc 0 (by decide))).trans hq83
                refine go_ret rfl rfl ?_
                have hms : mac q (I, Q, Z) = (mrw I 6 q, Q, Z) := by
                  unfold mac
                  rw [show stn (I, Q, Z).1 = 6 from es, if_neg]
                  rw [hbd]
                  intro z
                  rcases z with z | z
                  · exact absurd z (by decide)
                  · simp only [mdup, u63, u66, u69, u72, u75, u78, Bool.or_false, Bool.false_or, Bool.or_self, Bool.false_eq_true] at z
                have hD89 := CD_mrw (n := 6) (q := q) (X2 := (uX X 210 6 (.ref a))) (CD_fr hD hF87) en (by decide) (by show Rq _ ow (.ref a) q; exact Rq_fr hD.1 hF87 ⟨a, rfl, oa, ha⟩) (fun k hk => by simp [uX]; omega) (fun c hc => by funext j; simp [uX, hc])
                rw [hms]
                refine ⟨rfl, ⟨(uX X 210 6 (.ref a)), ow, sb, mrw_sm hS85, hD89, ?_, fun l hl => Nat.le_trans (hQ l hl) hF87.1⟩⟩
                have z := co_fr (I := I) (J := I) hF87 rfl
                show co _ (mrw I 6 q) ≤ _
                have e9 : mrw I 6 q 21 0 = nI 7 := by simp [mrw]
                have e8 : I 21 0 = nI 6 := en
                unfold co at hB z ⊢
                rw [e9]
                rw [e8] at hB z
                rw [nI_clamp (by decide)] at hB z ⊢
                omega
              · skip
                show am_Go _ _ _ _ 30 _ [.int 1] _ _
                refine go_ifP (t' := 32) (pc' := 31) rfl rfl rfl (fun (c : (1 : Int32) = 0) => absurd c (by decide)) (fun _ => ?_)
                refine go_ret rfl rfl ?_
                have hms : mac q (I, Q, Z) = (I, Q, Z) := if_pos (Or.inr (by rw [show stn (I, Q, Z).1 = 6 from es, hbd]; simp only [mdup, u63, u66, u69, u72, u75, u78, Bool.or_true, Bool.true_or, Bool.or_false, Bool.false_or]))
                have hD90 : CD w e m0 h76 I Q Z X ow sb := CD_I (CD_fr hD hF1) ⟨rfl, rfl, rfl, rfl, rfl, rfl, rfl, rfl, rfl, rfl, rfl, rfl, rfl, rfl, rfl⟩
                have hB91 : co h76 I ≤ B + 0 := by
                  have := co_fr (I := I) (J := I) hF1 rfl
                  have := hB
                  omega
                have hC92 : CA w e m0 (B + 0) h76 (I, Q, Z) := ⟨X, ow, sb, hS, hD90, hB91, fun l hl => Nat.le_trans (hQ l hl) hF1.1⟩
                rw [hms]
                exact ⟨rfl, CA_le hC92 (by omega)⟩
            · skip
              show am_Go _ _ _ _ 30 _ [.int 1] _ _
              refine go_ifP (t' := 32) (pc' := 31) rfl rfl rfl (fun (c : (1 : Int32) = 0) => absurd c (by decide)) (fun _ => ?_)
              refine go_ret rfl rfl ?_
              have hms : mac q (I, Q, Z) = (I, Q, Z) := if_pos (Or.inr (by rw [show stn (I, Q, Z).1 = 6 from es, hbd]; simp only [mdup, u63, u66, u69, u72, u75, Bool.or_true, Bool.true_or, Bool.or_false, Bool.false_or]))
              have hD93 : CD w e m0 h73 I Q Z X ow sb := CD_I (CD_fr hD hF1) ⟨rfl, rfl, rfl, rfl, rfl, rfl, rfl, rfl, rfl, rfl, rfl, rfl, rfl, rfl, rfl⟩
              have hB94 : co h73 I ≤ B + 0 := by
                have := co_fr (I := I) (J := I) hF1 rfl
                have := hB
                omega
              have hC95 : CA w e m0 (B + 0) h73 (I, Q, Z) := ⟨X, ow, sb, hS, hD93, hB94, fun l hl => Nat.le_trans (hQ l hl) hF1.1⟩
              rw [hms]
              exact ⟨rfl, CA_le hC95 (by omega)⟩
          · skip
            show am_Go _ _ _ _ 30 _ [.int 1] _ _
            refine go_ifP (t' := 32) (pc' := 31) rfl rfl rfl (fun (c : (1 : Int32) = 0) => absurd c (by decide)) (fun _ => ?_)
            refine go_ret rfl rfl ?_
            have hms : mac q (I, Q, Z) = (I, Q, Z) := if_pos (Or.inr (by rw [show stn (I, Q, Z).1 = 6 from es, hbd]; simp only [mdup, u63, u66, u69, u72, Bool.or_true, Bool.true_or, Bool.or_false, Bool.false_or]))
            have hD96 : CD w e m0 h70 I Q Z X ow sb := CD_I (CD_fr hD hF1) ⟨rfl, rfl, rfl, rfl, rfl, rfl, rfl, rfl, rfl, rfl, rfl, rfl, rfl, rfl, rfl⟩
            have hB97 : co h70 I ≤ B + 0 := by
              have := co_fr (I := I) (J := I) hF1 rfl
              have := hB
              omega
            have hC98 : CA w e m0 (B + 0) h70 (I, Q, Z) := ⟨X, ow, sb, hS, hD96, hB97, fun l hl => Nat.le_trans (hQ l hl) hF1.1⟩
            rw [hms]
            exact ⟨rfl, CA_le hC98 (by omega)⟩
        · skip
          show am_Go _ _ _ _ 30 _ [.int 1] _ _
          refine go_ifP (t' := 32) (pc' := 31) rfl rfl rfl (fun (c : (1 : Int32) = 0) => absurd c (by decide)) (fun _ => ?_)
          refine go_ret rfl rfl ?_
          have hms : mac q (I, Q, Z) = (I, Q, Z) := if_pos (Or.inr (by rw [show stn (I, Q, Z).1 = 6 from es, hbd]; simp only [mdup, u63, u66, u69, Bool.or_true, Bool.true_or, Bool.or_false, Bool.false_or]))
          have hD99 : CD w e m0 h67 I Q Z X ow sb := CD_I (CD_fr hD hF1) ⟨rfl, rfl, rfl, rfl, rfl, rfl, rfl, rfl, rfl, rfl, rfl, rfl, rfl, rfl, rfl⟩
          have hB100 : co h67 I ≤ B + 0 := by
            have := co_fr (I := I) (J := I) hF1 rfl
            have := hB
            omega
          have hC101 : CA w e m0 (B + 0) h67 (I, Q, Z) := ⟨X, ow, sb, hS, hD99, hB100, fun l hl => Nat.le_trans (hQ l hl) hF1.1⟩
          rw [hms]
          exact ⟨rfl, CA_le hC101 (by omega)⟩
      · skip
        show am_Go _ _ _ _ 30 _ [.int 1] _ _
        refine go_ifP (t' := 32) (pc' := 31) rfl rfl rfl (fun (c : (1 : Int32) = 0) => absurd c (by decide)) (fun _ => ?_)
        refine go_ret rfl rfl ?_
        have hms : mac q (I, Q, Z) = (I, Q, Z) := if_pos (Or.inr (by rw [show stn (I, Q, Z).1 = 6 from es, hbd]; simp only [mdup, u63, u66, Bool.or_true, Bool.true_or, Bool.or_false, Bool.false_or]))
        have hD102 : CD w e m0 h64 I Q Z X ow sb := CD_I (CD_fr hD hF1) ⟨rfl, rfl, rfl, rfl, rfl, rfl, rfl, rfl, rfl, rfl, rfl, rfl, rfl, rfl, rfl⟩
        have hB103 : co h64 I ≤ B + 0 := by
          have := co_fr (I := I) (J := I) hF1 rfl
          have := hB
          omega
        have hC104 : CA w e m0 (B + 0) h64 (I, Q, Z) := ⟨X, ow, sb, hS, hD102, hB103, fun l hl => Nat.le_trans (hQ l hl) hF1.1⟩
        rw [hms]
        exact ⟨rfl, CA_le hC104 (by omega)⟩
    · skip
      show am_Go _ _ _ _ 30 _ [.int 1] _ _
      refine go_ifP (t' := 32) (pc' := 31) rfl rfl rfl (fun (c : (1 : Int32) = 0) => absurd c (by decide)) (fun _ => ?_)
      refine go_ret rfl rfl ?_
      have hms : mac q (I, Q, Z) = (I, Q, Z) := if_pos (Or.inr (by rw [show stn (I, Q, Z).1 = 6 from es, hbd]; simp only [mdup, u63, Bool.or_true, Bool.true_or, Bool.or_false, Bool.false_or]))
      have hD105 : CD w e m0 h61 I Q Z X ow sb := CD_I (CD_fr hD hF1) ⟨rfl, rfl, rfl, rfl, rfl, rfl, rfl, rfl, rfl, rfl, rfl, rfl, rfl, rfl, rfl⟩
      have hB106 : co h61 I ≤ B + 0 := by
        have := co_fr (I := I) (J := I) hF1 rfl
        have := hB
        omega
      have hC107 : CA w e m0 (B + 0) h61 (I, Q, Z) := ⟨X, ow, sb, hS, hD105, hB106, fun l hl => Nat.le_trans (hQ l hl) hF1.1⟩
      rw [hms]
      exact ⟨rfl, CA_le hC107 (by omega)⟩
theorem cx_ac_7 {w : Nat → Bool} {d : Nat} {h : am_Hp} {e : Nat} {m0 : mg} {B : Nat} {I : sm_I} {Q : mQ} {Z : mZ} {X : sm_X} {ow : ow_T} {sb : Nat} (hS : sm tbc h I X) (hD : CD w e m0 h I Q Z X ow sb) (hB : co h I ≤ B) (hQ : ∀ l, l < 16 → (Q l).length ≤ h.length) (hB2 : B < 2 ^ 28) (hv : lv I 0 = true) (en : I 21 0 = 7) {a t : Nat} {q : Nat → Int32} (ht : t < 2) (q0 : q 0 = nI t) (oa : ow a = 1) (ha : h[a]? = some (.inl (8, rqf q))) (hd : 2 ≤ d) : am_Ev (am_prog w) d 80 [.ref 32, .ref a] h (fun r h' => r = none ∧ CA w e m0 (B + 700) h' (mac q (I, Q, Z))) := by
  have hW := hD.1.1
  have hWn : ∀ a, List.length h ≤ a → w a = true := fun a ha => (hD.1.2.1 a ha).1
  have hF1 := fr_refl tbc h
  have hln : 62 ≤ List.length h := sm_len hS
  obtain ⟨d, rfl⟩ : ∃ e, d = e + 1 := ⟨d - 1, by omega⟩
  refine ev_go rfl (Nat.le_of_ble_eq_true rfl) rfl ?_
  have hD0 := hD
  have es : stn I = 7 := stn_eq (n := 7) en (by decide)
  obtain ⟨k208, kst, -⟩ := hD.2.2.2.2.1
  obtain ⟨ad, S, Y, k0, hA, k2, k3, k4, k5, hoa, hZ0, hWa, htc⟩ := St_open hD.1 (kst hv)
  change SQ h ow S Y (Z (rwi I 0)) at k5
  rw [← k0] at k208
  have hrw := SP_rw hD.2.2.2.2.1 (n := 7) en (by decide)
  obtain ⟨b0, x0, o0, hb0⟩ := hrw 0 (by decide)
  obtain ⟨b1, x1, o1, hb1⟩ := hrw 1 (by decide)
  obtain ⟨b2, x2, o2, hb2⟩ := hrw 2 (by decide)
  obtain ⟨b3, x3, o3, hb3⟩ := hrw 3 (by decide)
  obtain ⟨b4, x4, o4, hb4⟩ := hrw 4 (by decide)
  obtain ⟨b5, x5, o5, hb5⟩ := hrw 5 (by decide)
  obtain ⟨b6, x6, o6, hb6⟩ := hrw 6 (by decide)
  have hsc := k4 (ad 0) _ _ (tbs_at hA (i := 0) (by decide))
  by_cases f3 : (Z (rwi I 0)).1 3 = 1
  · skip
    obtain ⟨p, t9, hrq, ht9, f4, p0, p1, p2⟩ := k5.2.2.1 f3
    obtain ⟨bq, e200, oq, hbq⟩ := id hrq
    have hsd : h[ad 0]? = some (.inl (5, [.int (S 0 0), .ref (ad 1), .ref (ad 2), .ref (ad 3), .ref (ad 4), .ref (ad 5), .ref (ad 6), .ref (ad 7), .int (S 0 1), .int (S 0 2), .ref (ad 8), .int (S 0 3), .ref bq, .ref (ad 9)])) := by
      rw [← e200]
      exact hsc
    refine go_s (pc' := 1) rfl rfl rfl rfl ?_
    refine go_get (pc' := 2) rfl ((hF1.2.2.2 _ (hD.1.2.2 _ (by omega)).2.1 (OW_lt hD.1 (by omega))).trans ha) rfl (by decide) rfl rfl ?_
    rw [q0]
    refine go_s (pc' := 3) (st' := [.int 2, .int (nI t)]) rfl rfl rfl rfl ?_
    refine go_callS (pc' := 4) rfl rfl rfl (Nat.le_of_ble_eq_true rfl) rfl rfl rfl (ct_within_t (n := 2) ht (by decide) (by omega)) (fun r h2 q3 => ?_)
    obtain ⟨rfl, rfl⟩ := q3
    refine go_s (pc' := 5) (lo' := [some (.ref 32), some (.ref a), some (.int 1), none]) rfl rfl rfl rfl ?_
    refine go_s (pc' := 6) rfl rfl rfl rfl ?_
    refine go_ifP (t' := 17) (pc' := 7) rfl rfl rfl (fun (c : (1 : Int32) = 0) => absurd c (by decide)) (fun _ => ?_)
    refine go_s (pc' := 8) rfl rfl rfl rfl ?_
    refine go_sget (pc' := 9) (v := .int 7) hS rfl rfl rfl (by decide) (congrArg Value.int en) rfl ?_
    refine go_s (pc' := 10) (st' := [.int 8, .int 7]) rfl rfl rfl rfl ?_
    refine go_icmpP (t' := 17) (pc' := 11) rfl rfl rfl (fun (c : 8 ≤ (7 : Int32)) => absurd c (by decide)) (fun _ => ?_)
    refine go_s (pc' := 12) rfl rfl rfl rfl ?_
    refine go_s (pc' := 13) rfl rfl rfl rfl ?_
    refine go_sget (pc' := 14) (v := .ref (ad 0)) hS rfl rfl rfl (by decide) k208 rfl ?_
    refine go_get (pc' := 15) rfl hsd rfl (by decide) rfl rfl ?_
    have hbd : mbd (row1 (I, Q, Z) 0) q = smr q p := mbd_sm f3 ht9 f4 p0 p1 p2
    refine go_callV (pc' := 16) rfl rfl rfl (Nat.le_of_ble_eq_true rfl) rfl ((hF1.2.2.2 _ (hD.1.2.2 _ (by omega)).2.1 (OW_lt hD.1 (by omega))).trans ha) rfl rfl rfl (ct_same (q := q) (p := p) ((hF1.2.2.2 _ (hD.1.2.2 _ (by omega)).2.1 (OW_lt hD.1 (by omega))).trans ha) ((hF1.2.2.2 _ (hD.1.2.2 _ (by omega)).2.1 (OW_lt hD.1 (by omega))).trans hbq) (by omega)) (fun r h4 q5 => ?_)
    obtain ⟨rfl, rfl⟩ := q5
    cases u6 : smr q p
    · skip
      show am_Go _ _ _ _ 16 _ [.int 0] _ _
      refine go_ifP (t' := 18) (pc' := 17) rfl rfl rfl (fun _ => ?_) (fun (c : ¬ ((0 : Int32) = 0)) => absurd (by decide) c)
      refine go_s (pc' := 19) (st' := [.int 0]) rfl rfl rfl rfl ?_
      refine go_s (pc' := 20) (lo' := [some (.ref 32), some (.ref a), some (.int 1), some (.int 0)]) rfl rfl rfl rfl ?_
      refine go_s (pc' := 21) rfl rfl rfl rfl ?_
      refine go_s (pc' := 22) rfl rfl rfl rfl ?_
      refine go_sget (pc' := 23) (v := .int 7) hS rfl rfl rfl (by decide) (congrArg Value.int en) rfl ?_
      refine go_icmpP (t' := 34) (pc' := 24) rfl rfl rfl (fun (c : 7 ≤ (0 : Int32)) => absurd c (by decide)) (fun _ => ?_)
      refine go_s (pc' := 25) rfl rfl rfl rfl ?_
      refine go_s (pc' := 26) rfl rfl rfl rfl ?_
      refine go_sget (pc' := 27) (v := .ref 57) hS rfl rfl rfl (by decide) rfl rfl ?_
      refine go_s (pc' := 28) rfl rfl rfl rfl ?_
      refine go_sald (pc' := 29) (q := 0) (v := .ref b0) hS rfl rfl rfl rfl (by decide) x0 rfl ?_
      refine go_callV (pc' := 30) rfl rfl rfl (Nat.le_of_ble_eq_true rfl) rfl ((hF1.2.2.2 _ (hD.1.2.2 _ (by omega)).2.1 (OW_lt hD.1 (by omega))).trans ha) rfl rfl rfl (ct_same (q := q) (p := (fun i => I 20 (7 * 0 + i))) ((hF1.2.2.2 _ (hD.1.2.2 _ (by omega)).2.1 (OW_lt hD.1 (by omega))).trans ha) ((hF1.2.2.2 _ (hD.1.2.2 _ (by omega)).2.1 (OW_lt hD.1 (by omega))).trans hb0) (by omega)) (fun r h7 q8 => ?_)
      obtain ⟨rfl, rfl⟩ := q8
      cases u9 : smr q (fun i => I 20 (7 * 0 + i))
      · skip
        show am_Go _ _ _ _ 30 _ [.int 0] _ _
        refine go_ifP (t' := 32) (pc' := 31) rfl rfl rfl (fun _ => ?_) (fun (c : ¬ ((0 : Int32) = 0)) => absurd (by decide) c)
        refine go_s (pc' := 33) (lo' := [some (.ref 32), some (.ref a), some (.int 1), some (.int 1)]) rfl rfl rfl rfl ?_
        refine go_s (pc' := 20) rfl rfl rfl rfl ?_
        refine go_s (pc' := 21) rfl rfl rfl rfl ?_
        refine go_s (pc' := 22) rfl rfl rfl rfl ?_
        refine go_sget (pc' := 23) (v := .int 7) hS rfl rfl rfl (by decide) (congrArg Value.int en) rfl ?_
        refine go_icmpP (t' := 34) (pc' := 24) rfl rfl rfl (fun (c : 7 ≤ (1 : Int32)) => absurd c (by decide)) (fun _ => ?_)
        refine go_s (pc' := 25) rfl rfl rfl rfl ?_
        refine go_s (pc' := 26) rfl rfl rfl rfl ?_
        refine go_sget (pc' := 27) (v := .ref 57) hS rfl rfl rfl (by decide) rfl rfl ?_
        refine go_s (pc' := 28) rfl rfl rfl rfl ?_
        refine go_sald (pc' := 29) (q := 1) (v := .ref b1) hS rfl rfl rfl rfl (by decide) x1 rfl ?_
        refine go_callV (pc' := 30) rfl rfl rfl (Nat.le_of_ble_eq_true rfl) rfl ((hF1.2.2.2 _ (hD.1.2.2 _ (by omega)).2.1 (OW_lt hD.1 (by omega))).trans ha) rfl rfl rfl (ct_same (q := q) (p := (fun i => I 20 (7 * 1 + i))) ((hF1.2.2.2 _ (hD.1.2.2 _ (by omega)).2.1 (OW_lt hD.1 (by omega))).trans ha) ((hF1.2.2.2 _ (hD.1.2.2 _ (by omega)).2.1 (OW_lt hD.1 (by omega))).trans hb1) (by omega)) (fun r h10 q11 => ?_)
        obtain ⟨rfl, rfl⟩ := q11
        cases u12 : smr q (fun i => I 20 (7 * 1 + i))
        · skip
          show am_Go _ _ _ _ 30 _ [.int 0] _ _
          refine go_ifP (t' := 32) (pc' := 31) rfl rfl rfl (fun _ => ?_) (fun (c : ¬ ((0 : Int32) = 0)) => absurd (by decide) c)
          refine go_s (pc' := 33) (lo' := [some (.ref 32), some (.ref a), some (.int 1), some (.int 2)]) rfl rfl rfl rfl ?_
          refine go_s (pc' := 20) rfl rfl rfl rfl ?_
          refine go_s (pc' := 21) rfl rfl rfl rfl ?_
          refine go_s (pc' := 22) rfl rfl rfl rfl ?_
          refine go_sget (pc' := 23) (v := .int 7) hS rfl rfl rfl (by decide) (congrArg Value.int en) rfl ?_
          refine go_icmpP (t' := 34) (pc' := 24) rfl rfl rfl (fun (c : 7 ≤ (2 : Int32)) => absurd c (by decide)) (fun _ => ?_)
          refine go_s (pc' := 25) rfl rfl rfl rfl ?_
          refine go_s (pc' := 26) rfl rfl rfl rfl ?_
          refine go_sget (pc' := 27) (v := .ref 57) hS rfl rfl rfl (by decide) rfl rfl ?_
          refine go_s (pc' := 28) rfl rfl rfl rfl ?_
          refine go_sald (pc' := 29) (q := 2) (v := .ref b2) hS rfl rfl rfl rfl (by decide) x2 rfl ?_
          refine go_callV (pc' := 30) rfl rfl rfl (Nat.le_of_ble_eq_true rfl) rfl ((hF1.2.2.2 _ (hD.1.2.2 _ (by omega)).2.1 (OW_lt hD.1 (by omega))).trans ha) rfl rfl rfl (ct_same (q := q) (p := (fun i => I 20 (7 * 2 + i))) ((hF1.2.2.2 _ (hD.1.2.2 _ (by omega)).2.1 (OW_lt hD.1 (by omega))).trans ha) ((hF1.2.2.2 _ (hD.1.2.2 _ (by omega)).2.1 (OW_lt hD.1 (by omega))).trans hb2) (by omega)) (fun r h13 q14 => ?_)
          obtain ⟨rfl, rfl⟩ := q14
          cases u15 : smr q (fun i => I 20 (7 * 2 + i))
          · skip
            show am_Go _ _ _ _ 30 _ [.int 0] _ _
            refine go_ifP (t' := 32) (pc' := 31) rfl rfl rfl (fun _ => ?_) (fun (c : ¬ ((0 : Int32) = 0)) => absurd (by decide) c)
            refine go_s (pc' := 33) (lo' := [some (.ref 32), some (.ref a), some (.int 1), some (.int 3)]) rfl rfl rfl rfl ?_
            refine go_s (pc' := 20) rfl rfl rfl rfl ?_
            refine go_s (pc' := 21) rfl rfl rfl rfl ?_
            refine go_s (pc' := 22) rfl rfl rfl rfl ?_
            refine go_sget (pc' := 23) (v := .int 7) hS rfl rfl rfl (by decide) (congrArg Value.int en) rfl ?_
            refine go_icmpP (t' := 34) (pc' := 24) rfl rfl rfl (fun (c : 7 ≤ (3 : Int32)) => absurd c (by decide)) (fun _ => ?_)
            refine go_s (pc' := 25) rfl rfl rfl rfl ?_
            refine go_s (pc' := 26) rfl rfl rfl rfl ?_
            refine go_sget (pc' := 27) (v := .ref 57) hS rfl rfl rfl (by decide) rfl rfl ?_
            refine go_s (pc' := 28) rfl rfl rfl rfl ?_
            refine go_sald (pc' := 29) (q := 3) (v := .ref b3) hS rfl rfl rfl rfl (by decide) x3 rfl ?_
            refine go_callV (pc' := 30) rfl rfl rfl (Nat.le_of_ble_eq_true rfl) rfl ((hF1.2.2.2 _ (hD.1.2.2 _ (by omega)).2.1 (OW_lt hD.1 (by omega))).trans ha) rfl rfl rfl (ct_same (q := q) (p := (fun i => I 20 (7 * 3 + i))) ((hF1.2.2.2 _ (hD.1.2.2 _ (by omega)).2.1 (OW_lt hD.1 (by omega))).trans ha) ((hF1.2.2.2 _ (hD.1.2.2 _ (by omega)).2.1 (OW_lt hD.1 (by omega))).trans hb3) (by omega)) (fun r h16 q17 => ?_)
            obtain ⟨rfl, rfl⟩ := q17
            cases u18 : smr q (fun i => I 20 (7 * 3 + i))
            · skip
              show am_Go _ _ _ _ 30 _ [.int 0] _ _
              refine go_ifP (t' := 32) (pc' := 31) rfl rfl rfl (fun _ => ?_) (fun (c : ¬ ((0 : Int32) = 0)) => absurd (by decide) c)
              refine go_s (pc' := 33) (lo' := [some (.ref 32), some (.ref a), some (.int 1), some (.int 4)]) rfl rfl rfl rfl ?_
              refine go_s (pc' := 20) rfl rfl rfl rfl ?_
              refine go_s (pc' := 21) rfl rfl rfl rfl ?_
              refine go_s (pc' := 22) rfl rfl rfl rfl ?_
              refine go_sget (pc' := 23) (v := .int 7) hS rfl rfl rfl (by decide) (congrArg Value.int en) rfl ?_
              refine go_icmpP (t' := 34) (pc' := 24) rfl rfl rfl (fun (c : 7 ≤ (4 : Int32)) => absurd c (by decide)) (fun _ => ?_)
              refine go_s (pc' := 25) rfl rfl rfl rfl ?_
              refine go_s (pc' := 26) rfl rfl rfl rfl ?_
              refine go_sget (pc' := 27) (v := .ref 57) hS rfl rfl rfl (by decide) rfl rfl ?_
              refine go_s (pc' := 28) rfl rfl rfl rfl ?_
              refine go_sald (pc' := 29) (q := 4) (v := .ref b4) hS rfl rfl rfl rfl (by decide) x4 rfl ?_
              refine go_callV (pc' := 30) rfl rfl rfl (Nat.le_of_ble_eq_true rfl) rfl ((hF1.2.2.2 _ (hD.1.2.2 _ (by omega)).2.1 (OW_lt hD.1 (by omega))).trans ha) rfl rfl rfl (ct_same (q := q) (p := (fun i => I 20 (7 * 4 + i))) ((hF1.2.2.2 _ (hD.1.2.2 _ (by omega)).2.1 (OW_lt hD.1 (by omega))).trans ha) ((hF1.2.2.2 _ (hD.1.2.2 _ (by omega)).2.1 (OW_lt hD.1 (by omega))).trans hb4) (by omega)) (fun r h19 q20 => ?_)
              obtain ⟨rfl, rfl⟩ := q20
              cases u21 : smr q (fun i => I 20 (7 * 4 + i))
              · skip
                show am_Go _ _ _ _ 30 _ [.int 0] _ _
                refine go_ifP (t' := 32) (pc' := 31) rfl rfl rfl (fun _ => ?_) (fun (c : ¬ ((0 : Int32) = 0)) => absurd (by decide) c)
                refine go_s (pc' := 33) (lo' := [some (.ref 32), some (.ref a), some (.int 1), some (.int 5)]) rfl rfl rfl rfl ?_
                refine go_s (pc' := 20) rfl rfl rfl rfl ?_
                refine go_s (pc' := 21) rfl rfl rfl rfl ?_
                refine go_s (pc' := 22) rfl rfl rfl rfl ?_
                refine go_sget (pc' := 23) (v := .int 7) hS rfl rfl rfl (by decide) (congrArg Value.int en) rfl ?_
                refine go_icmpP (t' := 34) (pc' := 24) rfl rfl rfl (fun (c : 7 ≤ (5 : Int32)) => absurd c (by decide)) (fun _ => ?_)
                refine go_s (pc' := 25) rfl rfl rfl rfl ?_
                refine go_s (pc' := 26) rfl rfl rfl rfl ?_
                refine go_sget (pc' := 27) (v := .ref 57) hS rfl rfl rfl (by decide) rfl rfl ?_
                refine go_s (pc' := 28) rfl rfl rfl rfl ?_
                refine go_sald (pc' := 29) (q := 5) (v := .ref b5) hS rfl rfl rfl rfl (by decide) x5 rfl ?_
                refine go_callV (pc' := 30) rfl rfl rfl (Nat.le_of_ble_eq_true rfl) rfl ((hF1.2.2.2 _ (hD.1.2.2 _ (by omega)).2.1 (OW_lt hD.1 (by omega))).trans ha) rfl rfl rfl (ct_same (q := q) (p := (fun i => I 20 (7 * 5 + i))) ((hF1.2.2.2 _ (hD.1.2.2 _ (by omega)).2.1 (OW_lt hD.1 (by omega))).trans ha) ((hF1.2.2.2 _ (hD.1.2.2 _ (by omega)).2.1 (OW_lt hD.1 (by omega))).trans hb5) (by omega)) (fun r h22 q23 => ?_)
                obtain ⟨rfl, rfl⟩ := q23
                cases u24 : smr q (fun i => I 20 (7 * 5 + i))
                · skip
                  show am_Go _ _ _ _ 30 _ [.int 0] _ _
                  refine go_ifP (t' := 32) (pc' := 31) rfl rfl rfl (fun _ => ?_) (fun (c : ¬ ((0 : Int32) = 0)) => absurd (by decide) c)
                  refine go_s (pc' := 33) (lo' := [some (.ref 32), some (.ref a), some (.int 1), some (.int 6)]) rfl rfl rfl rfl ?_
                  refine go_s (pc' := 20) rfl rfl rfl rfl ?_
                  refine go_s (pc' := 21) rfl rfl rfl rfl ?_
                  refine go_s (pc' := 22) rfl rfl rfl rfl ?_
                  refine go_sget (pc' := 23) (v := .int 7) hS rfl rfl rfl (by decide) (congrArg Value.int en) rfl ?_
                  refine go_icmpP (t' := 34) (pc' := 24) rfl rfl rfl (fun (c : 7 ≤ (6 : Int32)) => absurd c (by decide)) (fun _ => ?_)
                  refine go_s (pc' := 25) rfl rfl rfl rfl ?_
                  refine go_s (pc' := 26) rfl rfl rfl rfl ?_
                  refine go_sget (pc' := 27) (v := .ref 57) hS rfl rfl rfl (by decide) rfl rfl ?_
                  refine go_s (pc' := 28) rfl rfl rfl rfl ?_
                  refine go_sald (pc' := 29) (q := 6) (v := .ref b6) hS rfl rfl rfl rfl (by decide) x6 rfl ?_
                  refine go_callV (pc' := 30) rfl rfl rfl (Nat.le_of_ble_eq_true rfl) rfl ((hF1.2.2.2 _ (hD.1.2.2 _ (by omega)).2.1 (OW_lt hD.1 (by omega))).trans ha) rfl rfl rfl (ct_same (q := q) (p := (fun i => I 20 (7 * 6 + i))) ((hF1.2.2.2 _ (hD.1.2.2 _ (by omega)).2.1 (OW_lt hD.1 (by omega))).trans ha) ((hF1.2.2.2 _ (hD.1.2.2 _ (by omega)).2.1 (OW_lt hD.1 (by omega))).trans hb6) (by omega)) (fun r h25 q26 => ?_)
                  obtain ⟨rfl, rfl⟩ := q26
                  cases u27 : smr q (fun i => I 20 (7 * 6 + i))
                  · skip
                    show am_Go _ _ _ _ 30 _ [.int 0] _ _
                    refine go_ifP (t' := 32) (pc' := 31) rfl rfl rfl (fun _ => ?_) (fun (c : ¬ ((0 : Int32) = 0)) => absurd (by decide) c)
                    refine go_s (pc' := 33) (lo' := [some (.ref 32), some (.ref a), some (.int 1), some (.int 7)]) rfl rfl rfl rfl ?_
                    refine go_s (pc' := 20) rfl rfl rfl rfl ?_
                    refine go_s (pc' := 21) rfl rfl rfl rfl ?_
                    refine go_s (pc' := 22) rfl rfl rfl rfl ?_
                    refine go_sget (pc' := 23) (v := .int 7) hS rfl rfl rfl (by decide) (congrArg Value.int en) rfl ?_
                    refine go_icmpP (t' := 34) (pc' := 24) rfl rfl rfl (fun _ => ?_) (fun (c : ¬ (7 ≤ (7 : Int32))) => absurd (by decide) c)
                    refine go_s (pc' := 35) rfl rfl rfl rfl ?_
                    refine go_sget (pc' := 36) (v := .ref 57) hS rfl rfl rfl (by decide) rfl rfl ?_
                    refine go_s (pc' := 37) rfl rfl rfl rfl ?_
                    refine go_sget (pc' := 38) (v := .int 7) hS rfl rfl rfl (by decide) (congrArg Value.int en) rfl ?_
                    refine go_s (pc' := 39) rfl rfl rfl rfl ?_
                    refine go_saast (pc' := 40) (q := 7) hS rfl rfl tbc_inj (Nat.le_of_ble_eq_true rfl) (Nat.le_of_ble_eq_true rfl) ((hF1.2.2.2 _ (hD.1.2.2 _ (by omega)).2.1 (OW_lt hD.1 (by omega))).trans ha) (am_S_rq w) rfl (by decide) (by decide) (hW _ rfl) rfl (fun h28 hS29 hE30 => ?_)
                    have hF31 := fr_trans hF1 (fr_e hE30)
                    have hq32 := (hE30.2.2 _ (htc 0 (by decide))).trans hsd
                    refine go_s (pc' := 41) rfl rfl rfl rfl ?_
                    refine go_s (pc' := 42) rfl rfl rfl rfl ?_
                    refine go_sget (pc' := 43) (v := .int 7) hS29 rfl rfl rfl (by decide) (congrArg Value.int en) rfl ?_
                    refine go_s (pc' := 44) (st' := [.int 1, .int 7, .ref 32]) rfl rfl rfl rfl ?_
                    refine go_s (pc' := 45) (st' := [.int 8, .ref 32]) rfl rfl rfl rfl ?_
                    refine go_sput (pc' := 46) hS29 rfl rfl rfl (by decide) tbc_inj (Nat.le_of_ble_eq_true rfl) rfl (hW _ rfl) rfl (fun h33 hS34 hE35 => ?_)
                    have hF36 := fr_trans hF31 (fr_e hE35)
                    have hq37 := (hE35.2.2 _ (htc 0 (by decide))).trans hq32
                    refine go_ret rfl rfl ?_
                    have hms : mac q (I, Q, Z) = (mrw I 7 q, Q, Z) := by
                      unfold mac
                      rw [show stn (I, Q, Z).1 = 7 from es, if_neg]
                      rw [hbd]
                      intro z
                      rcases z with z | z
                      · exact absurd z (by decide)
                      · simp only [mdup, u6, u9, u12, u15, u18, u21, u24, u27, Bool.or_false, Bool.false_or, Bool.or_self, Bool.false_eq_true] at z
                    have hD38 := CD_mrw (n := 7) (q := q) (X2 := (uX X 210 7 (.ref a))) (CD_fr hD hF36) en (by decide) (by show Rq _ ow (.ref a) q; exact Rq_fr hD.1 hF36 ⟨a, rfl, oa, ha⟩) (fun k hk => by simp [uX]; omega) (fun c hc => by funext j; simp [uX, hc])
                    rw [hms]
                    refine ⟨rfl, ⟨(uX X 210 7 (.ref a)), ow, sb, mrw_sm hS34, hD38, ?_, fun l hl => Nat.le_trans (hQ l hl) hF36.1⟩⟩
                    have z := co_fr (I := I) (J := I) hF36 rfl
                    show co _ (mrw I 7 q) ≤ _
                    have e9 : mrw I 7 q 21 0 = nI 8 := by simp [mrw]
                    have e8 : I 21 0 = nI 7 := en
                    unfold co at hB z ⊢
                    rw [e9]
                    rw [e8] at hB z
                    rw [nI_clamp (by decide)] at hB z ⊢
                    omega
                  · skip
                    show am_Go _ _ _ _ 30 _ [.int 1] _ _
                    refine go_ifP (t' := 32) (pc' := 31) rfl rfl rfl (fun (c : (1 : Int32) = 0) => absurd c (by decide)) (fun _ => ?_)
                    refine go_ret rfl rfl ?_
                    have hms : mac q (I, Q, Z) = (I, Q, Z) := if_pos (Or.inr (by rw [show stn (I, Q, Z).1 = 7 from es, hbd]; simp only [mdup, u6, u9, u12, u15, u18, u21, u24, u27, Bool.or_true, Bool.true_or, Bool.or_false, Bool.false_or]))
                    have hD39 : CD w e m0 h25 I Q Z X ow sb := CD_I (CD_fr hD hF1) ⟨rfl, rfl, rfl, rfl, rfl, rfl, rfl, rfl, rfl, rfl, rfl, rfl, rfl, rfl, rfl⟩
                    have hB40 : co h25 I ≤ B + 0 := by
                      have := co_fr (I := I) (J := I) hF1 rfl
                      have := hB
                      omega
                    have hC41 : CA w e m0 (B + 0) h25 (I, Q, Z) := ⟨X, ow, sb, hS, hD39, hB40, fun l hl => Nat.le_trans (hQ l hl) hF1.1⟩
                    rw [hms]
                    exact ⟨rfl, CA_le hC41 (by omega)⟩
                · skip
                  show am_Go _ _ _ _ 30 _ [.int 1] _ _
                  refine go_ifP (t' := 32) (pc' := 31) rfl rfl rfl (fun (c : (1 : Int32) = 0) => absurd c (by decide)) (fun _ => ?_)
                  refine go_ret rfl rfl ?_
                  have hms : mac q (I, Q, Z) = (I, Q, Z) := if_pos (Or.inr (by rw [show stn (I, Q, Z).1 = 7 from es, hbd]; simp only [mdup, u6, u9, u12, u15, u18, u21, u24, Bool.or_true, Bool.true_or, Bool.or_false, Bool.false_or]))
                  have hD42 : CD w e m0 h22 I Q Z X ow sb := CD_I (CD_fr hD hF1) ⟨rfl, rfl, rfl, rfl, rfl, rfl, rfl, rfl, rfl, rfl, rfl, rfl, rfl, rfl, rfl⟩
                  have hB43 : co h22 I ≤ B + 0 := by
                    have := co_fr (I := I) (J := I) hF1 rfl
                    have := hB
                    omega
                  have hC44 : CA w e m0 (B + 0) h22 (I, Q, Z) := ⟨X, ow, sb, hS, hD42, hB43, fun l hl => Nat.le_trans (hQ l hl) hF1.1⟩
                  rw [hms]
                  exact ⟨rfl, CA_le hC44 (by omega)⟩
              · skip
                show am_Go _ _ _ _ 30 _ [.int 1] _ _
                refine go_ifP (t' := 32) (pc' := 31) rfl rfl rfl (fun (c : (1 : Int32) = 0) => absurd c (by decide)) (fun _ => ?_)
                refine go_ret rfl rfl ?_
                have hms : mac q (I, Q, Z) = (I, Q, Z) := if_pos (Or.inr (by rw [show stn (I, Q, Z).1 = 7 from es, hbd]; simp only [mdup, u6, u9, u12, u15, u18, u21, Bool.or_true, Bool.true_or, Bool.or_false, Bool.false_or]))
                have hD45 : CD w e m0 h19 I Q Z X ow sb := CD_I (CD_fr hD hF1) ⟨rfl, rfl, rfl, rfl, rfl, rfl, rfl, rfl, rfl, rfl, rfl, rfl, rfl, rfl, rfl⟩
                have hB46 : co h19 I ≤ B + 0 := by
                  have := co_fr (I := I) (J := I) hF1 rfl
                  have := hB
                  omega
                have hC47 : CA w e m0 (B + 0) h19 (I, Q, Z) := ⟨X, ow, sb, hS, hD45, hB46, fun l hl => Nat.le_trans (hQ l hl) hF1.1⟩
                rw [hms]
                exact ⟨rfl, CA_le hC47 (by omega)⟩
            · skip
              show am_Go _ _ _ _ 30 _ [.int 1] _ _
              refine go_ifP (t' := 32) (pc' := 31) rfl rfl rfl (fun (c : (1 : Int32) = 0) => absurd c (by decide)) (fun _ => ?_)
              refine go_ret rfl rfl ?_
              have hms : mac q (I, Q, Z) = (I, Q, Z) := if_pos (Or.inr (by rw [show stn (I, Q, Z).1 = 7 from es, hbd]; simp only [mdup, u6, u9, u12, u15, u18, Bool.or_true, Bool.true_or, Bool.or_false, Bool.false_or]))
              have hD48 : CD w e m0 h16 I Q Z X ow sb := CD_I (CD_fr hD hF1) ⟨rfl, rfl, rfl, rfl, rfl, rfl, rfl, rfl, rfl, rfl, rfl, rfl, rfl, rfl, rfl⟩
              have hB49 : co h16 I ≤ B + 0 := by
                have := co_fr (I := I) (J := I) hF1 rfl
                have := hB
                omega
              have hC50 : CA w e m0 (B + 0) h16 (I, Q, Z) := ⟨X, ow, sb, hS, hD48, hB49, fun l hl => Nat.le_trans (hQ l hl) hF1.1⟩
              rw [hms]
              exact ⟨rfl, CA_le hC50 (by omega)⟩
          · skip
            show am_Go _ _ _ _ 30 _ [.int 1] _ _
            refine go_ifP (t' := 32) (pc' := 31) rfl rfl rfl (fun (c : (1 : Int32) = 0) => absurd c (by decide)) (fun _ => ?_)
            refine go_ret rfl rfl ?_
            have hms : mac q (I, Q, Z) = (I, Q, Z) := if_pos (Or.inr (by rw [show stn (I, Q, Z).1 = 7 from es, hbd]; simp only [mdup, u6, u9, u12, u15, Bool.or_true, Bool.true_or, Bool.or_false, Bool.false_or]))
            have hD51 : CD w e m0 h13 I Q Z X ow sb := CD_I (CD_fr hD hF1) ⟨rfl, rfl, rfl, rfl, rfl, rfl, rfl, rfl, rfl, rfl, rfl, rfl, rfl, rfl, rfl⟩
            have hB52 : co h13 I ≤ B + 0 := by
              have := co_fr (I := I) (J := I) hF1 rfl
              have := hB
              omega
            have hC53 : CA w e m0 (B + 0) h13 (I, Q, Z) := ⟨X, ow, sb, hS, hD51, hB52, fun l hl => Nat.le_trans (hQ l hl) hF1.1⟩
            rw [hms]
            exact ⟨rfl, CA_le hC53 (by omega)⟩
        · skip
          show am_Go _ _ _ _ 30 _ [.int 1] _ _
          refine go_ifP (t' := 32) (pc' := 31) rfl rfl rfl (fun (c : (1 : Int32) = 0) => absurd c (by decide)) (fun _ => ?_)
          refine go_ret rfl rfl ?_
          have hms : mac q (I, Q, Z) = (I, Q, Z) := if_pos (Or.inr (by rw [show stn (I, Q, Z).1 = 7 from es, hbd]; simp only [mdup, u6, u9, u12, Bool.or_true, Bool.true_or, Bool.or_false, Bool.false_or]))
          have hD54 : CD w e m0 h10 I Q Z X ow sb := CD_I (CD_fr hD hF1) ⟨rfl, rfl, rfl, rfl, rfl, rfl, rfl, rfl, rfl, rfl, rfl, rfl, rfl, rfl, rfl⟩
          have hB55 : co h10 I ≤ B + 0 := by
            have := co_fr (I := I) (J := I) hF1 rfl
            have := hB
            omega
          have hC56 : CA w e m0 (B + 0) h10 (I, Q, Z) := ⟨X, ow, sb, hS, hD54, hB55, fun l hl => Nat.le_trans (hQ l hl) hF1.1⟩
          rw [hms]
          exact ⟨rfl, CA_le hC56 (by omega)⟩
      · skip
        show am_Go _ _ _ _ 30 _ [.int 1] _ _
        refine go_ifP (t' := 32) (pc' := 31) rfl rfl rfl (fun (c : (1 : Int32) = 0) => absurd c (by decide)) (fun _ => ?_)
        refine go_ret rfl rfl ?_
        have hms : mac q (I, Q, Z) = (I, Q, Z) := if_pos (Or.inr (by rw [show stn (I, Q, Z).1 = 7 from es, hbd]; simp only [mdup, u6, u9, Bool.or_true, Bool.true_or, Bool.or_false, Bool.false_or]))
        have hD57 : CD w e m0 h7 I Q Z X ow sb := CD_I (CD_fr hD hF1) ⟨rfl, rfl, rfl, rfl, rfl, rfl, rfl, rfl, rfl, rfl, rfl, rfl, rfl, rfl, rfl⟩
        have hB58 : co h7 I ≤ B + 0 := by
          have := co_fr (I := I) (J := I) hF1 rfl
          have := hB
          omega
        have hC59 : CA w e m0 (B + 0) h7 (I, Q, Z) := ⟨X, ow, sb, hS, hD57, hB58, fun l hl => Nat.le_trans (hQ l hl) hF1.1⟩
        rw [hms]
        exact ⟨rfl, CA_le hC59 (by omega)⟩
    · skip
      show am_Go _ _ _ _ 16 _ [.int 1] _ _
      refine go_ifP (t' := 18) (pc' := 17) rfl rfl rfl (fun (c : (1 : Int32) = 0) => absurd c (by decide)) (fun _ => ?_)
      refine go_ret rfl rfl ?_
      have hms : mac q (I, Q, Z) = (I, Q, Z) := if_pos (Or.inr (by rw [show stn (I, Q, Z).1 = 7 from es, hbd]; simp only [mdup, u6, Bool.or_true, Bool.true_or, Bool.or_false, Bool.false_or]))
      have hD60 : CD w e m0 h4 I Q Z X ow sb := CD_I (CD_fr hD hF1) ⟨rfl, rfl, rfl, rfl, rfl, rfl, rfl, rfl, rfl, rfl, rfl, rfl, rfl, rfl, rfl⟩
      have hB61 : co h4 I ≤ B + 0 := by
        have := co_fr (I := I) (J := I) hF1 rfl
        have := hB
        omega
      have hC62 : CA w e m0 (B + 0) h4 (I, Q, Z) := ⟨X, ow, sb, hS, hD60, hB61, fun l hl => Nat.le_trans (hQ l hl) hF1.1⟩
      rw [hms]
      exact ⟨rfl, CA_le hC62 (by omega)⟩
  · skip
    have e200 := k5.2.2.2 f3
    have hsd : h[ad 0]? = some (.inl (5, [.int (S 0 0), .ref (ad 1), .ref (ad 2), .ref (ad 3), .ref (ad 4), .ref (ad 5), .ref (ad 6), .ref (ad 7), .int (S 0 1), .int (S 0 2), .ref (ad 8), .int (S 0 3), .null, .ref (ad 9)])) := by
      rw [← e200]
      exact hsc
    refine go_s (pc' := 1) rfl rfl rfl rfl ?_
    refine go_get (pc' := 2) rfl ((hF1.2.2.2 _ (hD.1.2.2 _ (by omega)).2.1 (OW_lt hD.1 (by omega))).trans ha) rfl (by decide) rfl rfl ?_
    rw [q0]
    refine go_s (pc' := 3) (st' := [.int 2, .int (nI t)]) rfl rfl rfl rfl ?_
    refine go_callS (pc' := 4) rfl rfl rfl (Nat.le_of_ble_eq_true rfl) rfl rfl rfl (ct_within_t (n := 2) ht (by decide) (by omega)) (fun r h63 q64 => ?_)
    obtain ⟨rfl, rfl⟩ := q64
    refine go_s (pc' := 5) (lo' := [some (.ref 32), some (.ref a), some (.int 1), none]) rfl rfl rfl rfl ?_
    refine go_s (pc' := 6) rfl rfl rfl rfl ?_
    refine go_ifP (t' := 17) (pc' := 7) rfl rfl rfl (fun (c : (1 : Int32) = 0) => absurd c (by decide)) (fun _ => ?_)
    refine go_s (pc' := 8) rfl rfl rfl rfl ?_
    refine go_sget (pc' := 9) (v := .int 7) hS rfl rfl rfl (by decide) (congrArg Value.int en) rfl ?_
    refine go_s (pc' := 10) (st' := [.int 8, .int 7]) rfl rfl rfl rfl ?_
    refine go_icmpP (t' := 17) (pc' := 11) rfl rfl rfl (fun (c : 8 ≤ (7 : Int32)) => absurd c (by decide)) (fun _ => ?_)
    refine go_s (pc' := 12) rfl rfl rfl rfl ?_
    refine go_s (pc' := 13) rfl rfl rfl rfl ?_
    refine go_sget (pc' := 14) (v := .ref (ad 0)) hS rfl rfl rfl (by decide) k208 rfl ?_
    refine go_get (pc' := 15) rfl hsd rfl (by decide) rfl rfl ?_
    have hbd : mbd (row1 (I, Q, Z) 0) q = false := mbd_f f3
    refine go_callV (pc' := 16) rfl rfl rfl (Nat.le_of_ble_eq_true rfl) rfl ((hF1.2.2.2 _ (hD.1.2.2 _ (by omega)).2.1 (OW_lt hD.1 (by omega))).trans ha) rfl rfl rfl (ct_same_n (by omega)) (fun r h65 q66 => ?_)
    obtain ⟨rfl, rfl⟩ := q66
    refine go_ifP (t' := 18) (pc' := 17) rfl rfl rfl (fun _ => ?_) (fun (c : ¬ ((0 : Int32) = 0)) => absurd (by decide) c)
    refine go_s (pc' := 19) (st' := [.int 0]) rfl rfl rfl rfl ?_
    refine go_s (pc' := 20) (lo' := [some (.ref 32), some (.ref a), some (.int 1), some (.int 0)]) rfl rfl rfl rfl ?_
    refine go_s (pc' := 21) rfl rfl rfl rfl ?_
    refine go_s (pc' := 22) rfl rfl rfl rfl ?_
    refine go_sget (pc' := 23) (v := .int 7) hS rfl rfl rfl (by decide) (congrArg Value.int en) rfl ?_
    refine go_icmpP (t' := 34) (pc' := 24) rfl rfl rfl (fun (c : 7 ≤ (0 : Int32)) => absurd c (by decide)) (fun _ => ?_)
    refine go_s (pc' := 25) rfl rfl rfl rfl ?_
    refine go_s (pc' := 26) rfl rfl rfl rfl ?_
    refine go_sget (pc' := 27) (v := .ref 57) hS rfl rfl rfl (by decide) rfl rfl ?_
    refine go_s (pc' := 28) rfl rfl rfl rfl ?_
    refine go_sald (pc' := 29) (q := 0) (v := .ref b0) hS rfl rfl rfl rfl (by decide) x0 rfl ?_
    refine go_callV (pc' := 30) rfl rfl rfl (Nat.le_of_ble_eq_true rfl) rfl ((hF1.2.2.2 _ (hD.1.2.2 _ (by omega)).2.1 (OW_lt hD.1 (by omega))).trans ha) rfl rfl rfl (ct_same (q := q) (p := (fun i => I 20 (7 * 0 + i))) ((hF1.2.2.2 _ (hD.1.2.2 _ (by omega)).2.1 (OW_lt hD.1 (by omega))).trans ha) ((hF1.2.2.2 _ (hD.1.2.2 _ (by omega)).2.1 (OW_lt hD.1 (by omega))).trans hb0) (by omega)) (fun r h67 q68 => ?_)
    obtain ⟨rfl, rfl⟩ := q68
    cases u69 : smr q (fun i => I 20 (7 * 0 + i))
    · skip
      show am_Go _ _ _ _ 30 _ [.int 0] _ _
      refine go_ifP (t' := 32) (pc' := 31) rfl rfl rfl (fun _ => ?_) (fun (c : ¬ ((0 : Int32) = 0)) => absurd (by decide) c)
      refine go_s (pc' := 33) (lo' := [some (.ref 32), some (.ref a), some (.int 1), some (.int 1)]) rfl rfl rfl rfl ?_
      refine go_s (pc' := 20) rfl rfl rfl rfl ?_
      refine go_s (pc' := 21) rfl rfl rfl rfl ?_
      refine go_s (pc' := 22) rfl rfl rfl rfl ?_
      refine go_sget (pc' := 23) (v := .int 7) hS rfl rfl rfl (by decide) (congrArg Value.int en) rfl ?_
      refine go_icmpP (t' := 34) (pc' := 24) rfl rfl rfl (fun (c : 7 ≤ (1 : Int32)) => absurd c (by decide)) (fun _ => ?_)
      refine go_s (pc' := 25) rfl rfl rfl rfl ?_
      refine go_s (pc' := 26) rfl rfl rfl rfl ?_
      refine go_sget (pc' := 27) (v := .ref 57) hS rfl rfl rfl (by decide) rfl rfl ?_
      refine go_s (pc' := 28) rfl rfl rfl rfl ?_
      refine go_sald (pc' := 29) (q := 1) (v := .ref b1) hS rfl rfl rfl rfl (by decide) x1 rfl ?_
      refine go_callV (pc' := 30) rfl rfl rfl (Nat.le_of_ble_eq_true rfl) rfl ((hF1.2.2.2 _ (hD.1.2.2 _ (by omega)).2.1 (OW_lt hD.1 (by omega))).trans ha) rfl rfl rfl (ct_same (q := q) (p := (fun i => I 20 (7 * 1 + i))) ((hF1.2.2.2 _ (hD.1.2.2 _ (by omega)).2.1 (OW_lt hD.1 (by omega))).trans ha) ((hF1.2.2.2 _ (hD.1.2.2 _ (by omega)).2.1 (OW_lt hD.1 (by omega))).trans hb1) (by omega)) (fun r h70 q71 => ?_)
      obtain ⟨rfl, rfl⟩ := q71
      cases u72 : smr q (fun i => I 20 (7 * 1 + i))
      · skip
        show am_Go _ _ _ _ 30 _ [.int 0] _ _
        refine go_ifP (t' := 32) (pc' := 31) rfl rfl rfl (fun _ => ?_) (fun (c : ¬ ((0 : Int32) = 0)) => absurd (by decide) c)
        refine go_s (pc' := 33) (lo' := [some (.ref 32), some (.ref a), some (.int 1), some (.int 2)]) rfl rfl rfl rfl ?_
        refine go_s (pc' := 20) rfl rfl rfl rfl ?_
        refine go_s (pc' := 21) rfl rfl rfl rfl ?_
        refine go_s (pc' := 22) rfl rfl rfl rfl ?_
        refine go_sget (pc' := 23) (v := .int 7) hS rfl rfl rfl (by decide) (congrArg Value.int en) rfl ?_
        refine go_icmpP (t' := 34) (pc' := 24) rfl rfl rfl (fun (c : 7 ≤ (2 : Int32)) => absurd c (by decide)) (fun _ => ?_)
        refine go_s (pc' := 25) rfl rfl rfl rfl ?_
        refine go_s (pc' := 26) rfl rfl rfl rfl ?_
        refine go_sget (pc' := 27) (v := .ref 57) hS rfl rfl rfl (by decide) rfl rfl ?_
        refine go_s (pc' := 28) rfl rfl rfl rfl ?_
        refine go_sald (pc' := 29) (q := 2) (v := .ref b2) hS rfl rfl rfl rfl (by decide) x2 rfl ?_
        refine go_callV (pc' := 30) rfl rfl rfl (Nat.le_of_ble_eq_true rfl) rfl ((hF1.2.2.2 _ (hD.1.2.2 _ (by omega)).2.1 (OW_lt hD.1 (by omega))).trans ha) rfl rfl rfl (ct_same (q := q) (p := (fun i => I 20 (7 * 2 + i))) ((hF1.2.2.2 _ (hD.1.2.2 _ (by omega)).2.1 (OW_lt hD.1 (by omega))).trans ha) ((hF1.2.2.2 _ (hD.1.2.2 _ (by omega)).2.1 (OW_lt hD.1 (by omega))).trans hb2) (by omega)) (fun r h73 q74 => ?_)
        obtain ⟨rfl, rfl⟩ := q74
        cases u75 : smr q (fun i => I 20 (7 * 2 + i))
        · skip
          show am_Go _ _ _ _ 30 _ [.int 0] _ _
          refine go_ifP (t' := 32) (pc' := 31) rfl rfl rfl (fun _ => ?_) (fun (c : ¬ ((0 : Int32) = 0)) => absurd (by decide) c)
          refine go_s (pc' := 33) (lo' := [some (.ref 32), some (.ref a), some (.int 1), some (.int 3)]) rfl rfl rfl rfl ?_
          refine go_s (pc' := 20) rfl rfl rfl rfl ?_
          refine go_s (pc' := 21) rfl rfl rfl rfl ?_
          refine go_s (pc' := 22) rfl rfl rfl rfl ?_
          refine go_sget (pc' := 23) (v := .int 7) hS rfl rfl rfl (by decide) (congrArg Value.int en) rfl ?_
          refine go_icmpP (t' := 34) (pc' := 24) rfl rfl rfl (fun (c : 7 ≤ (3 : Int32)) => absurd c (by decide)) (fun _ => ?_)
          refine go_s (pc' := 25) rfl rfl rfl rfl ?_
          refine go_s (pc' := 26) rfl rfl rfl rfl ?_
          refine go_sget (pc' := 27) (v := .ref 57) hS rfl rfl rfl (by decide) rfl rfl ?_
          refine go_s (pc' := 28) rfl rfl rfl rfl ?_
          refine go_sald (pc' := 29) (q := 3) (v := .ref b3) hS rfl rfl rfl rfl (by decide) x3 rfl ?_
          refine go_callV (pc' := 30) rfl rfl rfl (Nat.le_of_ble_eq_true rfl) rfl ((hF1.2.2.2 _ (hD.1.2.2 _ (by omega)).2.1 (OW_lt hD.1 (by omega))).trans ha) rfl rfl rfl (ct_same (q := q) (p := (fun i => I 20 (7 * 3 + i))) ((hF1.2.2.2 _ (hD.1.2.2 _ (by omega)).2.1 (OW_lt hD.1 (by omega))).trans ha) ((hF1.2.2.2 _ (hD.1.2.2 _ (by omega)).2.1 (OW_lt hD.1 (by omega))).trans hb3) (by omega)) (fun r h76 q77 => ?_)
          obtain ⟨rfl, rfl⟩ := q77
          cases u78 : smr q (fun i => I 20 (7 * 3 + i))
          · skip
            show am_Go _ _ _ _ 30 _ [.int 0] _ _
            refine go_ifP (t' := 32) (pc' := 31) rfl rfl rfl (fun _ => ?_) (fun (c : ¬ ((0 : Int32) = 0)) => absurd (by decide) c)
            refine go_s (pc' := 33) (lo' := [some (.ref 32), some (.ref a), some (.int 1), some (.int 4)]) rfl rfl rfl rfl ?_
            refine go_s (pc' := 20) rfl rfl rfl rfl ?_
            refine go_s (pc' := 21) rfl rfl rfl rfl ?_
            refine go_s (pc' := 22) rfl rfl rfl rfl ?_
            refine go_sget (pc' := 23) (v := .int 7) hS rfl rfl rfl (by decide) (congrArg Value.int en) rfl ?_
            refine go_icmpP (t' := 34) (pc' := 24) rfl rfl rfl (fun (c : 7 ≤ (4 : Int32)) => absurd c (by decide)) (fun _ => ?_)
            refine go_s (pc' := 25) rfl rfl rfl rfl ?_
            refine go_s (pc' := 26) rfl rfl rfl rfl ?_
            refine go_sget (pc' := 27) (v := .ref 57) hS rfl rfl rfl (by decide) rfl rfl ?_
            refine go_s (pc' := 28) rfl rfl rfl rfl ?_
            refine go_sald (pc' := 29) (q := 4) (v := .ref b4) hS rfl rfl rfl rfl (by decide) x4 rfl ?_
            refine go_callV (pc' := 30) rfl rfl rfl (Nat.le_of_ble_eq_true rfl) rfl ((hF1.2.2.2 _ (hD.1.2.2 _ (by omega)).2.1 (OW_lt hD.1 (by omega))).trans ha) rfl rfl rfl (ct_same (q := q) (p := (fun i => I 20 (7 * 4 + i))) ((hF1.2.2.2 _ (hD.1.2.2 _ (by omega)).2.1 (OW_lt hD.1 (by omega))).trans ha) ((hF1.2.2.2 _ (hD.1.2.2 _ (by omega)).2.1 (OW_lt hD.1 (by omega))).trans hb4) (by omega)) (fun r h79 q80 => ?_)
            obtain ⟨rfl, rfl⟩ := q80
            cases u81 : smr q (fun i => I 20 (7 * 4 + i))
            · skip
              show am_Go _ _ _ _ 30 _ [.int 0] _ _
              refine go_ifP (t' := 32) (pc' := 31) rfl rfl rfl (fun _ => ?_) (fun (c : ¬ ((0 : Int32) = 0)) => absurd (by decide) c)
              refine go_s (pc' := 33) (lo' := [some (.ref 32), some (.ref a), some (.int 1), some (.int 5)]) rfl rfl rfl rfl ?_
              refine go_s (pc' := 20) rfl rfl rfl rfl ?_
              refine go_s (pc' := 21) rfl rfl rfl rfl ?_
              refine go_s (pc' := 22) rfl rfl rfl rfl ?_
              refine go_sget (pc' := 23) (v := .int 7) hS rfl rfl rfl (by decide) (congrArg Value.int en) rfl ?_
              refine go_icmpP (t' := 34) (pc' := 24) rfl rfl rfl (fun (c : 7 ≤ (5 : Int32)) => absurd c (by decide)) (fun _ => ?_)
              refine go_s (pc' := 25) rfl rfl rfl rfl ?_
              refine go_s (pc' := 26) rfl rfl rfl rfl ?_
              refine go_sget (pc' := 27) (v := .ref 57) hS rfl rfl rfl (by decide) rfl rfl ?_
              refine go_s (pc' := 28) rfl rfl rfl rfl ?_
              refine go_sald (pc' := 29) (q := 5) (v := .ref b5) hS rfl rfl rfl rfl (by decide) x5 rfl ?_
              refine go_callV (pc' := 30) rfl rfl rfl (Nat.le_of_ble_eq_true rfl) rfl ((hF1.2.2.2 _ (hD.1.2.2 _ (by omega)).2.1 (OW_lt hD.1 (by omega))).trans ha) rfl rfl rfl (ct_same (q := q) (p := (fun i => I 20 (7 * 5 + i))) ((hF1.2.2.2 _ (hD.1.2.2 _ (by omega)).2.1 (OW_lt hD.1 (by omega))).trans ha) ((hF1.2.2.2 _ (hD.1.2.2 _ (by omega)).2.1 (OW_lt hD.1 (by omega))).trans hb5) (by omega)) (fun r h82 q83 => ?_)
              obtain ⟨rfl, rfl⟩ := q83
              cases u84 : smr q (fun i => I 20 (7 * 5 + i))
              · skip
                show am_Go _ _ _ _ 30 _ [.int 0] _ _
                refine go_ifP (t' := 32) (pc' := 31) rfl rfl rfl (fun _ => ?_) (fun (c : ¬ ((0 : Int32) = 0)) => absurd (by decide) c)
                refine go_s (pc' := 33) (lo' := [some (.ref 32), some (.ref a), some (.int 1), some (.int 6)]) rfl rfl rfl rfl ?_
                refine go_s (pc' := 20) rfl rfl rfl rfl ?_
                refine go_s (pc' := 21) rfl rfl rfl rfl ?_
                refine go_s (pc' := 22) rfl rfl rfl rfl ?_
                refine go_sget (pc' := 23) (v := .int 7) hS rfl rfl rfl (by decide) (congrArg Value.int en) rfl ?_
                refine go_icmpP (t' := 34) (pc' := 24) rfl rfl rfl (fun (c : 7 ≤ (6 : Int32)) => absurd c (by decide)) (fun _ => ?_)
                refine go_s (pc' := 25) rfl rfl rfl rfl ?_
                refine go_s (pc' := 26) rfl rfl rfl rfl ?_
                refine go_sget (pc' := 27) (v := .ref 57) hS rfl rfl rfl (by decide) rfl rfl ?_
                refine go_s (pc' := 28) rfl rfl rfl rfl ?_
                refine go_sald (pc' := 29) (q := 6) (v := .ref b6) hS rfl rfl rfl rfl (by decide) x6 rfl ?_
                refine go_callV (pc' := 30) rfl rfl rfl (Nat.le_of_ble_eq_true rfl) rfl ((hF1.2.2.2 _ (hD.1.2.2 _ (by omega)).2.1 (OW_lt hD.1 (by omega))).trans ha) rfl rfl rfl (ct_same (q := q) (p := (fun i => I 20 (7 * 6 + i))) ((hF1.2.2.2 _ (hD.1.2.2 _ (by omega)).2.1 (OW_lt hD.1 (by omega))).trans ha) ((hF1.2.2.2 _ (hD.1.2.2 _ (by omega)).2.1 (OW_lt hD.1 (by omega))).trans hb6) (by omega)) (fun r h85 q86 => ?_)
                obtain ⟨rfl, rfl⟩ := q86
                cases u87 : smr q (fun i => I 20 (7 * 6 + i))
                · skip
                  show am_Go _ _ _ _ 30 _ [.int 0] _ _
                  refine go_ifP (t' := 32) (pc' := 31) rfl rfl rfl (fun _ => ?_) (fun (c : ¬ ((0 : Int32) = 0)) => absurd (by decide) c)
                  refine go_s (pc' := 33) (lo' := [some (.ref 32), some (.ref a), some (.int 1), some (.int 7)]) rfl rfl rfl rfl ?_
                  refine go_s (pc' := 20) rfl rfl rfl rfl ?_
                  refine go_s (pc' := 21) rfl rfl rfl rfl ?_
                  refine go_s (pc' := 22) rfl rfl rfl rfl ?_
                  refine go_sget (pc' := 23) (v := .int 7) hS rfl rfl rfl (by decide) (congrArg Value.int en) rfl ?_
                  refine go_icmpP (t' := 34) (pc' := 24) rfl rfl rfl (fun _ => ?_) (fun (c : ¬ (7 ≤ (7 : Int32))) => absurd (by decide) c)
                  refine go_s (pc' := 35) rfl rfl rfl rfl ?_
                  refine go_sget (pc' := 36) (v := .ref 57) hS rfl rfl rfl (by decide) rfl rfl ?_
                  refine go_s (pc' := 37) rfl rfl rfl rfl ?_
                  refine go_sget (pc' := 38) (v := .int 7) hS rfl rfl rfl (by decide) (congrArg Value.int en) rfl ?_
                  refine go_s (pc' := 39) rfl rfl rfl rfl ?_
                  refine go_saast (pc' := 40) (q := 7) hS rfl rfl tbc_inj (Nat.le_of_ble_eq_true rfl) (Nat.le_of_ble_eq_true rfl) ((hF1.2.2.2 _ (hD.1.2.2 _ (by omega)).2.1 (OW_lt hD.1 (by omega))).trans ha) (am_S_rq w) rfl (by decide) (by decide) (hW _ rfl) rfl (fun h88 hS89 hE90 => ?_)
                  have hF91 := fr_trans hF1 (fr_e hE90)
                  have hq92 := (hE90.2.2 _ (htc 0 (by decide))).trans hsd
                  refine go_s (pc' := 41) rfl rfl rfl rfl ?_
                  refine go_s (pc' := 42) rfl rfl rfl rfl ?_
                  refine go_sget (pc' := 43) (v := .int 7) hS89 rfl rfl rfl (by decide) (congrArg Value.int en) rfl ?_
                  refine go_s (pc' := 44) (st' := [.int 1, .int 7, .ref 32]) rfl rfl rfl rfl ?_
                  refine go_s (pc' := 45) (st' := [.int 8, .ref 32]) rfl rfl rfl rfl ?_
                  refine go_sput (pc' := 46) hS89 rfl rfl rfl (by decide) tbc_inj (Nat.le_of_ble_eq_true rfl) rfl (hW _ rfl) rfl (fun h93 hS94 hE95 => ?_)
                  have hF96 := fr_trans hF91 (fr_e hE95)
                  have hq97 := (hE95.2.2 _ (htc 0 (by decide))).trans hq92
                  refine go_ret rfl rfl ?_
                  have hms : mac q (I, Q, Z) = (mrw I 7 q, Q, Z) := by
                    unfold mac
                    rw [show stn (I, Q, Z).1 = 7 from es, if_neg]
                    rw [hbd]
                    intro z
                    rcases z with z | z
                    · exact absurd z (by decide)
                    · simp only [mdup, u69, u72, u75, u78, u81, u84, u87, Bool.or_false, Bool.false_or, Bool.or_self, Bool.false_eq_true] at z
                  have hD98 := CD_mrw (n := 7) (q := q) (X2 := (uX X 210 7 (.ref a))) (CD_fr hD hF96) en (by decide) (by show Rq _ ow (.ref a) q; exact Rq_fr hD.1 hF96 ⟨a, rfl, oa, ha⟩) (fun k hk => by simp [uX]; omega) (fun c hc => by funext j; simp [uX, hc])
                  rw [hms]
                  refine ⟨rfl, ⟨(uX X 210 7 (.ref a)), ow, sb, mrw_sm hS94, hD98, ?_, fun l hl => Nat.le_trans (hQ l hl) hF96.1⟩⟩
                  have z := co_fr (I := I) (J := I) hF96 rfl
                  show co _ (mrw I 7 q) ≤ _
                  have e9 : mrw I 7 q 21 0 = nI 8 := by simp [mrw]
                  have e8 : I 21 0 = nI 7 := en
                  unfold co at hB z ⊢
                  rw [e9]
                  rw [e8] at hB z
                  rw [nI_clamp (by decide)] at hB z ⊢
                  omega
                · skip
                  show am_Go _ _ _ _ 30 _ [.int 1] _ _
                  refine go_ifP (t' := 32) (pc' := 31) rfl rfl rfl (fun (c : (1 : Int32) = 0) => absurd c (by decide)) (fun _ => ?_)
                  refine go_ret rfl rfl ?_
                  have hms : mac q (I, Q, Z) = (I, Q, Z) := if_pos (Or.inr (by rw [show stn (I, Q, Z).1 = 7 from es, hbd]; simp only [mdup, u69, u72, u75, u78, u81, u84, u87, Bool.or_true, Bool.true_or, Bool.or_false, Bool.false_or]))
                  have hD99 : CD w e m0 h85 I Q Z X ow sb := CD_I (CD_fr hD hF1) ⟨rfl, rfl, rfl, rfl, rfl, rfl, rfl, rfl, rfl, rfl, rfl, rfl, rfl, rfl, rfl⟩
                  have hB100 : co h85 I ≤ B + 0 := by
                    have := co_fr (I := I) (J := I) hF1 rfl
                    have := hB
                    omega
                  have hC101 : CA w e m0 (B + 0) h85 (I, Q, Z) := ⟨X, ow, sb, hS, hD99, hB100, fun l hl => Nat.le_trans (hQ l hl) hF1.1⟩
                  rw [hms]
                  exact ⟨rfl, CA_le hC101 (by omega)⟩
              · skip
                show am_Go _ _ _ _ 30 _ [.int 1] _ _
                refine go_ifP (t' := 32) (pc' := 31) rfl rfl rfl (fun (c : (1 : Int32) = 0) => absurd c (by decide)) (fun _ => ?_)
                refine go_ret rfl rfl ?_
                have hms : mac q (I, Q, Z) = (I, Q, Z) := if_pos (Or.inr (by rw [show stn (I, Q, Z).1 = 7 from es, hbd]; simp only [mdup, u69, u72, u75, u78, u81, u84, Bool.or_true, Bool.true_or, Bool.or_false, Bool.false_or]))
                have hD102 : CD w e m0 h82 I Q Z X ow sb := CD_I (CD_fr hD hF1) ⟨rfl, rfl, rfl, rfl, rfl, rfl, rfl, rfl, rfl, rfl, rfl, rfl, rfl, rfl, rfl⟩
                have hB103 : co h82 I ≤ B + 0 := by
                  have := co_fr (I := I) (J := I) hF1 rfl
                  have := hB
                  omega
                have hC104 : CA w e m0 (B + 0) h82 (I, Q, Z) := ⟨X, ow, sb, hS, hD102, hB103, fun l hl => Nat.le_trans (hQ l hl) hF1.1⟩
                rw [hms]
                exact ⟨rfl, CA_le hC104 (by omega)⟩
            · skip
              show am_Go _ _ _ _ 30 _ [.int 1] _ _
              refine go_ifP (t' := 32) (pc' := 31) rfl rfl rfl (fun (c : (1 : Int32) = 0) => absurd c (by decide)) (fun _ => ?_)
              refine go_ret rfl rfl ?_
              have hms : mac q (I, Q, Z) = (I, Q, Z) := if_pos (Or.inr (by rw [show stn (I, Q, Z).1 = 7 from es, hbd]; simp only [mdup, u69, u72, u75, u78, u81, Bool.or_true, Bool.true_or, Bool.or_false, Bool.false_or]))
              have hD105 : CD w e m0 h79 I Q Z X ow sb := CD_I (CD_fr hD hF1) ⟨rfl, rfl, rfl, rfl, rfl, rfl, rfl, rfl, rfl, rfl, rfl, rfl, rfl, rfl, rfl⟩
              have hB106 : co h79 I ≤ B + 0 := by
                have := co_fr (I := I) (J := I) hF1 rfl
                have := hB
                omega
              have hC107 : CA w e m0 (B + 0) h79 (I, Q, Z) := ⟨X, ow, sb, hS, hD105, hB106, fun l hl => Nat.le_trans (hQ l hl) hF1.1⟩
              rw [hms]
              exact ⟨rfl, CA_le hC107 (by omega)⟩
          · skip
            show am_Go _ _ _ _ 30 _ [.int 1] _ _
            refine go_ifP (t' := 32) (pc' := 31) rfl rfl rfl (fun (c : (1 : Int32) = 0) => absurd c (by decide)) (fun _ => ?_)
            refine go_ret rfl rfl ?_
            have hms : mac q (I, Q, Z) = (I, Q, Z) := if_pos (Or.inr (by rw [show stn (I, Q, Z).1 = 7 from es, hbd]; simp only [mdup, u69, u72, u75, u78, Bool.or_true, Bool.true_or, Bool.or_false, Bool.false_or]))
            have hD108 : CD w e m0 h76 I Q Z X ow sb := CD_I (CD_fr hD hF1) ⟨rfl, rfl, rfl, rfl, rfl, rfl, rfl, rfl, rfl, rfl, rfl, rfl, rfl, rfl, rfl⟩
            have hB109 : co h76 I ≤ B + 0 := by
              have := co_fr (I := I) (J := I) hF1 rfl
              have := hB
              omega
            have hC110 : CA w e m0 (B + 0) h76 (I, Q, Z) := ⟨X, ow, sb, hS, hD108, hB109, fun l hl => Nat.le_trans (hQ l hl) hF1.1⟩
            rw [hms]
            exact ⟨rfl, CA_le hC110 (by omega)⟩
        · skip
          show am_Go _ _ _ _ 30 _ [.int 1] _ _
          refine go_ifP (t' := 32) (pc' := 31) rfl rfl rfl (fun (c : (1 : Int32) = 0) => absurd c (by decide)) (fun _ => ?_)
          refine go_ret rfl rfl ?_
          have hms : mac q (I, Q, Z) = (I, Q, Z) := if_pos (Or.inr (by rw [show stn (I, Q, Z).1 = 7 from es, hbd]; simp only [mdup, u69, u72, u75, Bool.or_true, Bool.true_or, Bool.or_false, Bool.false_or]))
          have hD111 : CD w e m0 h73 I Q Z X ow sb := CD_I (CD_fr hD hF1) ⟨rfl, rfl, rfl, rfl, rfl, rfl, rfl, rfl, rfl, rfl, rfl, rfl, rfl, rfl, rfl⟩
          have hB112 : co h73 I ≤ B + 0 := by
            have := co_fr (I := I) (J := I) hF1 rfl
            have := hB
            omega
          have hC113 : CA w e m0 (B + 0) h73 (I, Q, Z) := ⟨X, ow, sb, hS, hD111, hB112, fun l hl => Nat.le_trans (hQ l hl) hF1.1⟩
          rw [hms]
          exact ⟨rfl, CA_le hC113 (by omega)⟩
      · skip
        show am_Go _ _ _ _ 30 _ [.int 1] _ _
        refine go_ifP (t' := 32) (pc' := 31) rfl rfl rfl (fun (c : (1 : Int32) = 0) => absurd c (by decide)) (fun _ => ?_)
        refine go_ret rfl rfl ?_
        have hms : mac q (I, Q, Z) = (I, Q, Z) := if_pos (Or.inr (by rw [show stn (I, Q, Z).1 = 7 from es, hbd]; simp only [mdup, u69, u72, Bool.or_true, Bool.true_or, Bool.or_false, Bool.false_or]))
        have hD114 : CD w e m0 h70 I Q Z X ow sb := CD_I (CD_fr hD hF1) ⟨rfl, rfl, rfl, rfl, rfl, rfl, rfl, rfl, rfl, rfl, rfl, rfl, rfl, rfl, rfl⟩
        have hB115 : co h70 I ≤ B + 0 := by
          have := co_fr (I := I) (J := I) hF1 rfl
          have := hB
          omega
        have hC116 : CA w e m0 (B + 0) h70 (I, Q, Z) := ⟨X, ow, sb, hS, hD114, hB115, fun l hl => Nat.le_trans (hQ l hl) hF1.1⟩
        rw [hms]
        exact ⟨rfl, CA_le hC116 (by omega)⟩
    · skip
      show am_Go _ _ _ _ 30 _ [.int 1] _ _
      refine go_ifP (t' := 32) (pc' := 31) rfl rfl rfl (fun (c : (1 : Int32) = 0) => absurd c (by decide)) (fun _ => ?_)
      refine go_ret rfl rfl ?_
      have hms : mac q (I, Q, Z) = (I, Q, Z) := if_pos (Or.inr (by rw [show stn (I, Q, Z).1 = 7 from es, hbd]; simp only [mdup, u69, Bool.or_true, Bool.true_or, Bool.or_false, Bool.false_or]))
      have hD117 : CD w e m0 h67 I Q Z X ow sb := CD_I (CD_fr hD hF1) ⟨rfl, rfl, rfl, rfl, rfl, rfl, rfl, rfl, rfl, rfl, rfl, rfl, rfl, rfl, rfl⟩
      have hB118 : co h67 I ≤ B + 0 := by
        have := co_fr (I := I) (J := I) hF1 rfl
        have := hB
        omega
      have hC119 : CA w e m0 (B + 0) h67 (I, Q, Z) := ⟨X, ow, sb, hS, hD117, hB118, fun l hl => Nat.le_trans (hQ l hl) hF1.1⟩
      rw [hms]
      exact ⟨rfl, CA_le hC119 (by omega)⟩
theorem cx_ac_8 {w : Nat → Bool} {d : Nat} {h : am_Hp} {e : Nat} {m0 : mg} {B : Nat} {I : sm_I} {Q : mQ} {Z : mZ} {X : sm_X} {ow : ow_T} {sb : Nat} (hS : sm tbc h I X) (hD : CD w e m0 h I Q Z X ow sb) (hB : co h I ≤ B) (hQ : ∀ l, l < 16 → (Q l).length ≤ h.length) (hB2 : B < 2 ^ 28) (hv : lv I 0 = true) (en : I 21 0 = 8) {a t : Nat} {q : Nat → Int32} (ht : t < 2) (q0 : q 0 = nI t) (oa : ow a = 1) (ha : h[a]? = some (.inl (8, rqf q))) (hd : 2 ≤ d) : am_Ev (am_prog w) d 80 [.ref 32, .ref a] h (fun r h' => r = none ∧ CA w e m0 (B + 700) h' (mac q (I, Q, Z))) := by
  have hW := hD.1.1
  have hWn : ∀ a, List.length h ≤ a → w a = true := fun a ha => (hD.1.2.1 a ha).1
  have hF1 := fr_refl tbc h
  have hln : 62 ≤ List.length h := sm_len hS
  obtain ⟨d, rfl⟩ : ∃ e, d = e + 1 := ⟨d - 1, by omega⟩
  refine ev_go rfl (Nat.le_of_ble_eq_true rfl) rfl ?_
  have hD0 := hD
  have es : stn I = 8 := stn_eq (n := 8) en (by decide)
  obtain ⟨k208, kst, -⟩ := hD.2.2.2.2.1
  obtain ⟨ad, S, Y, k0, hA, k2, k3, k4, k5, hoa, hZ0, hWa, htc⟩ := St_open hD.1 (kst hv)
  change SQ h ow S Y (Z (rwi I 0)) at k5
  rw [← k0] at k208
  have hrw := SP_rw hD.2.2.2.2.1 (n := 8) en (by decide)
  obtain ⟨b0, x0, o0, hb0⟩ := hrw 0 (by decide)
  obtain ⟨b1, x1, o1, hb1⟩ := hrw 1 (by decide)
  obtain ⟨b2, x2, o2, hb2⟩ := hrw 2 (by decide)
  obtain ⟨b3, x3, o3, hb3⟩ := hrw 3 (by decide)
  obtain ⟨b4, x4, o4, hb4⟩ := hrw 4 (by decide)
  obtain ⟨b5, x5, o5, hb5⟩ := hrw 5 (by decide)
  obtain ⟨b6, x6, o6, hb6⟩ := hrw 6 (by decide)
  obtain ⟨b7, x7, o7, hb7⟩ := hrw 7 (by decide)
  have hsc := k4 (ad 0) _ _ (tbs_at hA (i := 0) (by decide))
  refine go_s (pc' := 1) rfl rfl rfl rfl ?_
  refine go_get (pc' := 2) rfl ((hF1.2.2.2 _ (hD.1.2.2 _ (by omega)).2.1 (OW_lt hD.1 (by omega))).trans ha) rfl (by decide) rfl rfl ?_
  rw [q0]
  refine go_s (pc' := 3) (st' := [.int 2, .int (nI t)]) rfl rfl rfl rfl ?_
  refine go_callS (pc' := 4) rfl rfl rfl (Nat.le_of_ble_eq_true rfl) rfl rfl rfl (ct_within_t (n := 2) ht (by decide) (by omega)) (fun r h2 q3 => ?_)
  obtain ⟨rfl, rfl⟩ := q3
  refine go_s (pc' := 5) (lo' := [some (.ref 32), some (.ref a), some (.int 1), none]) rfl rfl rfl rfl ?_
  refine go_s (pc' := 6) rfl rfl rfl rfl ?_
  refine go_ifP (t' := 17) (pc' := 7) rfl rfl rfl (fun (c : (1 : Int32) = 0) => absurd c (by decide)) (fun _ => ?_)
  refine go_s (pc' := 8) rfl rfl rfl rfl ?_
  refine go_sget (pc' := 9) (v := .int 8) hS rfl rfl rfl (by decide) (congrArg Value.int en) rfl ?_
  refine go_s (pc' := 10) (st' := [.int 8, .int 8]) rfl rfl rfl rfl ?_
  refine go_icmpP (t' := 17) (pc' := 11) rfl rfl rfl (fun _ => ?_) (fun (c : ¬ (8 ≤ (8 : Int32))) => absurd (by decide) c)
  refine go_ret rfl rfl ?_
  have hms : mac q (I, Q, Z) = (I, Q, Z) := if_pos (Or.inl es)
  have hD4 : CD w e m0 h2 I Q Z X ow sb := CD_I (CD_fr hD hF1) ⟨rfl, rfl, rfl, rfl, rfl, rfl, rfl, rfl, rfl, rfl, rfl, rfl, rfl, rfl, rfl⟩
  have hB5 : co h2 I ≤ B + 0 := by
    have := co_fr (I := I) (J := I) hF1 rfl
    have := hB
    omega
  have hC6 : CA w e m0 (B + 0) h2 (I, Q, Z) := ⟨X, ow, sb, hS, hD4, hB5, fun l hl => Nat.le_trans (hQ l hl) hF1.1⟩
  rw [hms]
  exact ⟨rfl, CA_le hC6 (by omega)⟩
theorem cx_ac {w : Nat → Bool} {d : Nat} {h : am_Hp} {e : Nat} {m0 : mg} {B : Nat} {I : sm_I} {Q : mQ} {Z : mZ} {X : sm_X} {ow : ow_T} {sb : Nat} (hS : sm tbc h I X) (hD : CD w e m0 h I Q Z X ow sb) (hB : co h I ≤ B) (hQ : ∀ l, l < 16 → (Q l).length ≤ h.length) (hB2 : B < 2 ^ 28) (hv : lv I 0 = true) {a t : Nat} {q : Nat → Int32} (ht : t < 2) (q0 : q 0 = nI t) (oa : ow a = 1) (ha : h[a]? = some (.inl (8, rqf q))) (hd : 2 ≤ d) : am_Ev (am_prog w) d 80 [.ref 32, .ref a] h (fun r h' => r = none ∧ CA w e m0 (B + 700) h' (mac q (I, Q, Z))) := by
  obtain ⟨-, -, -, n, hn8, en, -⟩ := id hD.2.2.2.2.1
  match n, hn8, en with
  | 0, _, en => exact cx_ac_0 hS hD hB hQ hB2 hv en ht q0 oa ha hd
  | 1, _, en => exact cx_ac_1 hS hD hB hQ hB2 hv en ht q0 oa ha hd
  | 2, _, en => exact cx_ac_2 hS hD hB hQ hB2 hv en ht q0 oa ha hd
  | 3, _, en => exact cx_ac_3 hS hD hB hQ hB2 hv en ht q0 oa ha hd
  | 4, _, en => exact cx_ac_4 hS hD hB hQ hB2 hv en ht q0 oa ha hd
  | 5, _, en => exact cx_ac_5 hS hD hB hQ hB2 hv en ht q0 oa ha hd
  | 6, _, en => exact cx_ac_6 hS hD hB hQ hB2 hv en ht q0 oa ha hd
  | 7, _, en => exact cx_ac_7 hS hD hB hQ hB2 hv en ht q0 oa ha hd
  | 8, _, en => exact cx_ac_8 hS hD hB hQ hB2 hv en ht q0 oa ha hd
