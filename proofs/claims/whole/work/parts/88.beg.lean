theorem cm_beg_0 {w : Nat → Bool} {d : Nat} {h : am_Hp} {e : Nat} {m0 : mg} {B : Nat} {I : sm_I} {Q : mQ} {Z : mZ} (hC : CA w e m0 B h (I, Q, Z)) (hB2 : B < 2 ^ 28) {n : Nat} (en : I 21 0 = nI n) (hn1 : 1 ≤ n) (hn8 : n ≤ 8) (hv0 : lv I 0 = true) (t0 : I 16 0 = 0) (q0 : I 20 0 = nI 0) (hH : (Z (rwi I 0)).2.1.length + mtr (Z (rwi I 0)) ≤ 32) (hrk : rok (Z (rwi I 0)).2.1 (nI 0)) (hd : 6 ≤ d) : am_Ev (am_prog w) d 48 [.ref 1] h (fun r h' => r = none ∧ CA w e m0 B h' (mbeg (I, Q, Z))) := by
  obtain ⟨X0, ow0, sb0, hS0, hD0, hB0, hQ0⟩ := id hC
  obtain ⟨d, rfl⟩ : ∃ e, d = e + 1 := ⟨d - 1, by omega⟩
  refine ev_go rfl (Nat.le_of_ble_eq_true rfl) rfl ?_
  refine go_s (pc' := 1) rfl rfl rfl rfl ?_
  refine go_sget (pc' := 2) (v := .ref 32) hS0 rfl rfl rfl (by decide) rfl rfl ?_
  refine go_callV (pc' := 3) rfl rfl rfl (Nat.le_of_ble_eq_true rfl) rfl (sm_o hS0 rfl) rfl rfl rfl (cm_tf hC (by omega) en hn1 hn8 (by omega)) (fun r h1 q2 => ?_)
  obtain ⟨a, X, ow, sb, rfl, oa, ha0, hS, hD, hB7, hl7⟩ := q2
  have hB : co h1 (msh I) ≤ B - 700 := by omega
  have hQ : ∀ l, l < 16 → (Q l).length ≤ List.length h1 := fun l hl => by
    rw [hl7]
    exact hQ0 l hl
  have hB77 : 700 ≤ B := by omega
  have hW := hD.1.1
  have hWn : ∀ a, List.length h1 ≤ a → w a = true := fun a ha => (hD.1.2.1 a ha).1
  have hF3 := fr_refl tbc h1
  have hln : 62 ≤ List.length h1 := sm_len hS
  have ha : h1[a]? = some (.inl (8, [.int 0, .int (I 20 1), .int (I 20 2), .int (I 20 3), .int (I 20 4), .int (I 20 5), .int (I 20 6)])) := ha0.trans (by simp only [rqf, q0]; rfl)
  have hv : lv (msh I) 0 = true := hv0
  obtain ⟨k208, kst, -⟩ := hD.2.2.2.2.1
  obtain ⟨ad, S, Y, k0, hA, k2, k3, k4, k5, hoa, hZ0, hWa, htc⟩ := St_open hD.1 (kst hv)
  change SQ h1 ow S Y (Z (rwi I 0)) at k5
  rw [← k0] at k208
  obtain ⟨⟨Wl, w1, w2⟩, -⟩ := id k5
  obtain ⟨z1, z2, z3, z4, z5⟩ := row1_sc w1 0 (by decide)
  refine go_s (pc' := 4) (lo' := [some (.ref 1), some (.ref a), none]) rfl rfl rfl rfl ?_
  refine go_s (pc' := 5) rfl rfl rfl rfl ?_
  refine go_s (pc' := 7) rfl rfl rfl rfl ?_
  refine go_s (pc' := 8) rfl rfl rfl rfl ?_
  refine go_sget (pc' := 9) (v := .ref 32) hS rfl rfl rfl (by decide) rfl rfl ?_
  refine go_sget (pc' := 10) (v := .ref (ad 0)) hS rfl rfl rfl (by decide) k208 rfl ?_
  refine go_s (pc' := 11) rfl rfl rfl rfl ?_
  refine go_callV (pc' := 12) rfl rfl rfl (Nat.le_of_ble_eq_true rfl) rfl (sm_o (St_fr hD.1 hoa k4 hF3) (tbs_at hA (i := 0) (by decide))) rfl rfl rfl (cs_ord_0 (q := mbq (I, Q, Z)) (F := row1 (I, Q, Z) 0) hA k4 ha z1 z2 (by omega)) (fun r h4 q5 => ?_)
  obtain ⟨rfl, rfl⟩ := q5
  refine go_s (pc' := 13) (lo' := [some (.ref 1), some (.ref a), some (.int (mord (row1 (I, Q, Z) 0) (mbq (I, Q, Z)) 0))]) rfl rfl rfl rfl ?_
  refine go_s (pc' := 14) rfl rfl rfl rfl ?_
  refine go_ifP (t' := 19) (pc' := 15) rfl rfl rfl (fun (c6 : ¬ (mord (row1 (I, Q, Z) 0) (mbq (I, Q, Z)) 0) = 0) => ?_) (fun (c6' : ¬ ¬ (mord (row1 (I, Q, Z) 0) (mbq (I, Q, Z)) 0) = 0) => ?_)
  · skip
    refine go_s (pc' := 20) rfl rfl rfl rfl ?_
    refine go_ifP (t' := 22) (pc' := 21) rfl rfl rfl (fun (c7 : 0 < (mord (row1 (I, Q, Z) 0) (mbq (I, Q, Z)) 0)) => ?_) (fun (c7 : ¬ 0 < (mord (row1 (I, Q, Z) 0) (mbq (I, Q, Z)) 0)) => ?_)
    · skip
      refine go_s (pc' := 23) rfl rfl rfl rfl ?_
      refine go_sget (pc' := 24) (v := .ref 32) hS rfl rfl rfl (by decide) rfl rfl ?_
      refine go_sget (pc' := 25) (v := .ref (ad 0)) hS rfl rfl rfl (by decide) k208 rfl ?_
      refine go_s (pc' := 26) rfl rfl rfl rfl ?_
      have hqn := Rq_ntb (w := w) hA k2 k4 oa ha0
      have hrq : Rq h4 ow (.ref a) (mbq (I, Q, Z)) := ⟨a, rfl, oa, ha0⟩
      rcases nI_within (x := I 20 5) (n := 16) (by decide) with ⟨k, hk, ek⟩ | hk
      · skip
        rw [ek] at ha
        refine go_callV (pc' := 27) rfl rfl rfl (Nat.le_of_ble_eq_true rfl) rfl (sm_o (St_fr hD.1 hoa k4 hF3) (tbs_at hA (i := 0) (by decide))) rfl rfl rfl (cs_pf hA k4 w1 hZ0 hWa hWn (t := 0) (k := k) (by decide) hk ha hqn hH hrk (by omega)) (fun r h8 q9 => ?_)
        obtain ⟨rfl, ad2, hA2, h9, hn9, S2, hS2, hm2, hb2, hf2⟩ := q9
        rw [← ek] at hm2
        change sc S2 (mpf (Z (rwi I 0)) 0 (mbq (I, Q, Z) 1) (mbq (I, Q, Z) 2) (mbq (I, Q, Z) 3) (mbq (I, Q, Z) 4) (mbq (I, Q, Z) 5) (mbq (I, Q, Z) 6)) at hm2
        obtain ⟨ow2, hDp⟩ := CD_perf hD hln k0 k2 hrq (t := 0) (by decide) q0 hA2 h9 hn9 hS2 hm2 hb2 hf2 mpf_6.1 mpf_6.2
        have hDq := CD_22 hDp (show ¬ I 16 0 = 2 by rw [t0]; decide)
        have hSq := sm_22 (sm_f9 hS hf2 htc)
        have ebt : mbt (I, Q, Z) = 0 := (congrArg Int32.toNatClampNeg q0).trans rfl
        have hCq : CA w e m0 (B - 700 + 249) h8 (mbp (I, Q, Z)) := by
          refine ⟨X, ow2, sb, hSq, ?_, ?_, fun l hl => Nat.le_trans (hQ l hl) hf2.1⟩
          · unfold mbp
            rw [ebt]
            exact hDq
          · have y1 := hf2.2.1
            have y2 := hf2.2.2.1
            show co _ (uI (uI (msh I) 22 0 0) 22 1 0) ≤ _
            have y3 : (uI (uI (msh I) 22 0 0) 22 1 0) 21 0 = (msh I) 21 0 := rfl
            unfold co at hB ⊢
            rw [y3]
            omega
        obtain ⟨X10, ow10, sb10, hS10, hD10, hB10, hQ10⟩ := hCq
        have hW := hD10.1.1
        have hWn : ∀ a, List.length h8 ≤ a → w a = true := fun a ha => (hD10.1.2.1 a ha).1
        have hF11 := fr_refl tbc h8
        have hln : 62 ≤ List.length h8 := sm_len hS10
        refine go_s (pc' := 28) rfl rfl rfl rfl ?_
        refine go_s (pc' := 29) rfl rfl rfl rfl ?_
        refine go_sget (pc' := 30) (v := .ref 32) hS10 rfl rfl rfl (by decide) rfl rfl ?_
        by_cases b12 : I 12 0 = -1
        · skip
          have hD12 : CD w e m0 h8 ((mbp (I, Q, Z))).1 ((mbp (I, Q, Z))).2.1 ((mbp (I, Q, Z))).2.2 X10 ow10 sb10 := CD_I (CD_fr hD10 hF11) ⟨rfl, rfl, rfl, rfl, rfl, rfl, rfl, rfl, rfl, rfl, rfl, rfl, rfl, rfl, rfl⟩
          have hB13 : co h8 ((mbp (I, Q, Z))).1 ≤ (B - 700 + 249) + 0 := by
            have := co_fr (I := ((mbp (I, Q, Z))).1) (J := ((mbp (I, Q, Z))).1) hF11 rfl
            have := hB10
            omega
          have hC14 : CA w e m0 ((B - 700 + 249) + 0) h8 (((mbp (I, Q, Z))).1, ((mbp (I, Q, Z))).2.1, ((mbp (I, Q, Z))).2.2) := ⟨X10, ow10, sb10, hS10, hD12, hB13, fun l hl => Nat.le_trans (hQ10 l hl) hF11.1⟩
          refine go_callV (pc' := 31) rfl rfl rfl (Nat.le_of_ble_eq_true rfl) rfl (sm_o hS10 rfl) rfl rfl rfl (cm_tl_0 hC14 (by omega) hv0 (by omega)) (fun r h15 q16 => ?_)
          obtain ⟨rfl, hC17⟩ := q16
          change CA w e m0 ((B - 700 + 249) + 0 + 344) h15 (mtl 0 (mbp (I, Q, Z))) at hC17
          obtain ⟨X18, ow18, sb18, hS18, hD18, hB18, hQ18⟩ := hC17
          have hW := hD18.1.1
          have hWn : ∀ a, List.length h15 ≤ a → w a = true := fun a ha => (hD18.1.2.1 a ha).1
          have hF19 := fr_refl tbc h15
          have hln : 62 ≤ List.length h15 := sm_len hS18
          rw [show (if (mbp (I, Q, Z)).1 12 0 = -1 then (1 : Int32) else 0) = 1 from if_pos b12]
          refine go_ifP (t' := 34) (pc' := 32) rfl rfl rfl (fun (c : (1 : Int32) = 0) => absurd c (by decide)) (fun _ => ?_)
          refine go_s (pc' := 33) rfl rfl rfl rfl ?_
          refine go_callV (pc' := 34) rfl rfl rfl (Nat.le_of_ble_eq_true rfl) rfl (sm_o hS18 rfl) rfl rfl rfl (ct_startWriting hS18 hW (by omega)) (fun r h20 q21 => ?_)
          obtain ⟨rfl, hS22, hE23⟩ := q21
          have hF24 := fr_trans hF19 (fr_e hE23)
          refine go_ret rfl rfl ?_
          have ebt2 : mbt (I, Q, Z) = 0 := (congrArg Int32.toNatClampNeg q0).trans rfl
          have hms : mbeg (I, Q, Z) = ((uI ((mtl 0 (mbp (I, Q, Z)))).1 16 0 2), (mtl 0 (mbp (I, Q, Z))).2) := by
            unfold mbeg
            rw [ebt2, if_neg c6, if_neg (Int32.not_le.mpr c7), if_pos (show I 12 0 = -1 from b12)]
          have e22 : ((mtl 0 (mbp (I, Q, Z)))).1 22 = (mbp (I, Q, Z)).1 22 := by
            unfold mtl
            rw [if_pos (show (mbp (I, Q, Z)).1 12 0 = -1 from b12)]
            split <;> rfl
          have hD9 := CD_w2 (CD_fr hD18 hF24) (by rw [e22]; rfl) (by rw [e22]; rfl)
          have hB9 : co h20 (uI ((mtl 0 (mbp (I, Q, Z)))).1 16 0 2) ≤ B := by
            have := co_fr (I := ((mtl 0 (mbp (I, Q, Z)))).1) (J := (uI ((mtl 0 (mbp (I, Q, Z)))).1 16 0 2)) hF24 rfl
            have := hB18
            omega
          rw [hms]
          exact ⟨rfl, ⟨(uX (uX X18 206 0 (.int 0)) 206 1 (.int 0)), ow18, sb18, hS22, hD9, hB9, fun l hl => Nat.le_trans (hQ18 l hl) hF24.1⟩⟩
        · skip
          have hD25 : CD w e m0 h8 ((mbp (I, Q, Z))).1 ((mbp (I, Q, Z))).2.1 ((mbp (I, Q, Z))).2.2 X10 ow10 sb10 := CD_I (CD_fr hD10 hF11) ⟨rfl, rfl, rfl, rfl, rfl, rfl, rfl, rfl, rfl, rfl, rfl, rfl, rfl, rfl, rfl⟩
          have hB26 : co h8 ((mbp (I, Q, Z))).1 ≤ (B - 700 + 249) + 0 := by
            have := co_fr (I := ((mbp (I, Q, Z))).1) (J := ((mbp (I, Q, Z))).1) hF11 rfl
            have := hB10
            omega
          have hC27 : CA w e m0 ((B - 700 + 249) + 0) h8 (((mbp (I, Q, Z))).1, ((mbp (I, Q, Z))).2.1, ((mbp (I, Q, Z))).2.2) := ⟨X10, ow10, sb10, hS10, hD25, hB26, fun l hl => Nat.le_trans (hQ10 l hl) hF11.1⟩
          refine go_callV (pc' := 31) rfl rfl rfl (Nat.le_of_ble_eq_true rfl) rfl (sm_o hS10 rfl) rfl rfl rfl (cm_tl_0 hC27 (by omega) hv0 (by omega)) (fun r h28 q29 => ?_)
          obtain ⟨rfl, hC30⟩ := q29
          change CA w e m0 ((B - 700 + 249) + 0 + 344) h28 (mtl 0 (mbp (I, Q, Z))) at hC30
          obtain ⟨X31, ow31, sb31, hS31, hD31, hB31, hQ31⟩ := hC30
          have hW := hD31.1.1
          have hWn : ∀ a, List.length h28 ≤ a → w a = true := fun a ha => (hD31.1.2.1 a ha).1
          have hF32 := fr_refl tbc h28
          have hln : 62 ≤ List.length h28 := sm_len hS31
          rw [show (if (mbp (I, Q, Z)).1 12 0 = -1 then (1 : Int32) else 0) = 0 from if_neg b12]
          refine go_ifP (t' := 34) (pc' := 32) rfl rfl rfl (fun _ => ?_) (fun (c : ¬ ((0 : Int32) = 0)) => absurd (by decide) c)
          refine go_ret rfl rfl ?_
          have ebt2 : mbt (I, Q, Z) = 0 := (congrArg Int32.toNatClampNeg q0).trans rfl
          have hD33 : CD w e m0 h28 ((mtl 0 (mbp (I, Q, Z)))).1 ((mtl 0 (mbp (I, Q, Z)))).2.1 ((mtl 0 (mbp (I, Q, Z)))).2.2 X31 ow31 sb31 := CD_I (CD_fr hD31 hF32) ⟨rfl, rfl, rfl, rfl, rfl, rfl, rfl, rfl, rfl, rfl, rfl, rfl, rfl, rfl, rfl⟩
          have hB34 : co h28 ((mtl 0 (mbp (I, Q, Z)))).1 ≤ ((B - 700 + 249) + 0 + 344) + 0 := by
            have := co_fr (I := ((mtl 0 (mbp (I, Q, Z)))).1) (J := ((mtl 0 (mbp (I, Q, Z)))).1) hF32 rfl
            have := hB31
            omega
          have hC35 : CA w e m0 (((B - 700 + 249) + 0 + 344) + 0) h28 (((mtl 0 (mbp (I, Q, Z)))).1, ((mtl 0 (mbp (I, Q, Z)))).2.1, ((mtl 0 (mbp (I, Q, Z)))).2.2) := ⟨X31, ow31, sb31, hS31, hD33, hB34, fun l hl => Nat.le_trans (hQ31 l hl) hF32.1⟩
          have hms : mbeg (I, Q, Z) = (mtl 0 (mbp (I, Q, Z))) := by
            unfold mbeg
            rw [ebt2, if_neg c6, if_neg (Int32.not_le.mpr c7), if_neg (show ¬ I 12 0 = -1 from b12)]
          rw [hms]
          exact ⟨rfl, CA_le hC35 (by omega)⟩
      · skip
        refine go_callV (pc' := 27) rfl rfl rfl (Nat.le_of_ble_eq_true rfl) rfl (sm_o (St_fr hD.1 hoa k4 hF3) (tbs_at hA (i := 0) (by decide))) rfl rfl rfl (cs_pf_f hA k4 w1 hZ0 hWa hWn (t := 0) (by decide) ha hqn hk hH hrk (by omega)) (fun r h36 q37 => ?_)
        obtain ⟨rfl, ad2, hA2, h9, hn9, S2, hS2, hm2, hb2, hf2⟩ := q37
        change sc S2 (mpf (Z (rwi I 0)) 0 (mbq (I, Q, Z) 1) (mbq (I, Q, Z) 2) (mbq (I, Q, Z) 3) (mbq (I, Q, Z) 4) (mbq (I, Q, Z) 5) (mbq (I, Q, Z) 6)) at hm2
        obtain ⟨ow2, hDp⟩ := CD_perf hD hln k0 k2 hrq (t := 0) (by decide) q0 hA2 h9 hn9 hS2 hm2 hb2 hf2 mpf_6.1 mpf_6.2
        have hDq := CD_22 hDp (show ¬ I 16 0 = 2 by rw [t0]; decide)
        have hSq := sm_22 (sm_f9 hS hf2 htc)
        have ebt : mbt (I, Q, Z) = 0 := (congrArg Int32.toNatClampNeg q0).trans rfl
        have hCq : CA w e m0 (B - 700 + 249) h36 (mbp (I, Q, Z)) := by
          refine ⟨X, ow2, sb, hSq, ?_, ?_, fun l hl => Nat.le_trans (hQ l hl) hf2.1⟩
          · unfold mbp
            rw [ebt]
            exact hDq
          · have y1 := hf2.2.1
            have y2 := hf2.2.2.1
            show co _ (uI (uI (msh I) 22 0 0) 22 1 0) ≤ _
            have y3 : (uI (uI (msh I) 22 0 0) 22 1 0) 21 0 = (msh I) 21 0 := rfl
            unfold co at hB ⊢
            rw [y3]
            omega
        obtain ⟨X38, ow38, sb38, hS38, hD38, hB38, hQ38⟩ := hCq
        have hW := hD38.1.1
        have hWn : ∀ a, List.length h36 ≤ a → w a = true := fun a ha => (hD38.1.2.1 a ha).1
        have hF39 := fr_refl tbc h36
        have hln : 62 ≤ List.length h36 := sm_len hS38
        refine go_s (pc' := 28) rfl rfl rfl rfl ?_
        refine go_s (pc' := 29) rfl rfl rfl rfl ?_
        refine go_sget (pc' := 30) (v := .ref 32) hS38 rfl rfl rfl (by decide) rfl rfl ?_
        by_cases b12 : I 12 0 = -1
        · skip
          have hD40 : CD w e m0 h36 ((mbp (I, Q, Z))).1 ((mbp (I, Q, Z))).2.1 ((mbp (I, Q, Z))).2.2 X38 ow38 sb38 := CD_I (CD_fr hD38 hF39) ⟨rfl, rfl, rfl, rfl, rfl, rfl, rfl, rfl, rfl, rfl, rfl, rfl, rfl, rfl, rfl⟩
          have hB41 : co h36 ((mbp (I, Q, Z))).1 ≤ (B - 700 + 249) + 0 := by
            have := co_fr (I := ((mbp (I, Q, Z))).1) (J := ((mbp (I, Q, Z))).1) hF39 rfl
            have := hB38
            omega
          have hC42 : CA w e m0 ((B - 700 + 249) + 0) h36 (((mbp (I, Q, Z))).1, ((mbp (I, Q, Z))).2.1, ((mbp (I, Q, Z))).2.2) := ⟨X38, ow38, sb38, hS38, hD40, hB41, fun l hl => Nat.le_trans (hQ38 l hl) hF39.1⟩
          refine go_callV (pc' := 31) rfl rfl rfl (Nat.le_of_ble_eq_true rfl) rfl (sm_o hS38 rfl) rfl rfl rfl (cm_tl_0 hC42 (by omega) hv0 (by omega)) (fun r h43 q44 => ?_)
          obtain ⟨rfl, hC45⟩ := q44
          change CA w e m0 ((B - 700 + 249) + 0 + 344) h43 (mtl 0 (mbp (I, Q, Z))) at hC45
          obtain ⟨X46, ow46, sb46, hS46, hD46, hB46, hQ46⟩ := hC45
          have hW := hD46.1.1
          have hWn : ∀ a, List.length h43 ≤ a → w a = true := fun a ha => (hD46.1.2.1 a ha).1
          have hF47 := fr_refl tbc h43
          have hln : 62 ≤ List.length h43 := sm_len hS46
          rw [show (if (mbp (I, Q, Z)).1 12 0 = -1 then (1 : Int32) else 0) = 1 from if_pos b12]
          refine go_ifP (t' := 34) (pc' := 32) rfl rfl rfl (fun (c : (1 : Int32) = 0) => absurd c (by decide)) (fun _ => ?_)
          refine go_s (pc' := 33) rfl rfl rfl rfl ?_
          refine go_callV (pc' := 34) rfl rfl rfl (Nat.le_of_ble_eq_true rfl) rfl (sm_o hS46 rfl) rfl rfl rfl (ct_startWriting hS46 hW (by omega)) (fun r h48 q49 => ?_)
          obtain ⟨rfl, hS50, hE51⟩ := q49
          have hF52 := fr_trans hF47 (fr_e hE51)
          refine go_ret rfl rfl ?_
          have ebt2 : mbt (I, Q, Z) = 0 := (congrArg Int32.toNatClampNeg q0).trans rfl
          have hms : mbeg (I, Q, Z) = ((uI ((mtl 0 (mbp (I, Q, Z)))).1 16 0 2), (mtl 0 (mbp (I, Q, Z))).2) := by
            unfold mbeg
            rw [ebt2, if_neg c6, if_neg (Int32.not_le.mpr c7), if_pos (show I 12 0 = -1 from b12)]
          have e22 : ((mtl 0 (mbp (I, Q, Z)))).1 22 = (mbp (I, Q, Z)).1 22 := by
            unfold mtl
            rw [if_pos (show (mbp (I, Q, Z)).1 12 0 = -1 from b12)]
            split <;> rfl
          have hD9 := CD_w2 (CD_fr hD46 hF52) (by rw [e22]; rfl) (by rw [e22]; rfl)
          have hB9 : co h48 (uI ((mtl 0 (mbp (I, Q, Z)))).1 16 0 2) ≤ B := by
            have := co_fr (I := ((mtl 0 (mbp (I, Q, Z)))).1) (J := (uI ((mtl 0 (mbp (I, Q, Z)))).1 16 0 2)) hF52 rfl
            have := hB46
            omega
          rw [hms]
          exact ⟨rfl, ⟨(uX (uX X46 206 0 (.int 0)) 206 1 (.int 0)), ow46, sb46, hS50, hD9, hB9, fun l hl => Nat.le_trans (hQ46 l hl) hF52.1⟩⟩
        · skip
          have hD53 : CD w e m0 h36 ((mbp (I, Q, Z))).1 ((mbp (I, Q, Z))).2.1 ((mbp (I, Q, Z))).2.2 X38 ow38 sb38 := CD_I (CD_fr hD38 hF39) ⟨rfl, rfl, rfl, rfl, rfl, rfl, rfl, rfl, rfl, rfl, rfl, rfl, rfl, rfl, rfl⟩
          have hB54 : co h36 ((mbp (I, Q, Z))).1 ≤ (B - 700 + 249) + 0 := by
            have := co_fr (I := ((mbp (I, Q, Z))).1) (J := ((mbp (I, Q, Z))).1) hF39 rfl
            have := hB38
            omega
          have hC55 : CA w e m0 ((B - 700 + 249) + 0) h36 (((mbp (I, Q, Z))).1, ((mbp (I, Q, Z))).2.1, ((mbp (I, Q, Z))).2.2) := ⟨X38, ow38, sb38, hS38, hD53, hB54, fun l hl => Nat.le_trans (hQ38 l hl) hF39.1⟩
          refine go_callV (pc' := 31) rfl rfl rfl (Nat.le_of_ble_eq_true rfl) rfl (sm_o hS38 rfl) rfl rfl rfl (cm_tl_0 hC55 (by omega) hv0 (by omega)) (fun r h56 q57 => ?_)
          obtain ⟨rfl, hC58⟩ := q57
          change CA w e m0 ((B - 700 + 249) + 0 + 344) h56 (mtl 0 (mbp (I, Q, Z))) at hC58
          obtain ⟨X59, ow59, sb59, hS59, hD59, hB59, hQ59⟩ := hC58
          have hW := hD59.1.1
          have hWn : ∀ a, List.length h56 ≤ a → w a = true := fun a ha => (hD59.1.2.1 a ha).1
          have hF60 := fr_refl tbc h56
          have hln : 62 ≤ List.length h56 := sm_len hS59
          rw [show (if (mbp (I, Q, Z)).1 12 0 = -1 then (1 : Int32) else 0) = 0 from if_neg b12]
          refine go_ifP (t' := 34) (pc' := 32) rfl rfl rfl (fun _ => ?_) (fun (c : ¬ ((0 : Int32) = 0)) => absurd (by decide) c)
          refine go_ret rfl rfl ?_
          have ebt2 : mbt (I, Q, Z) = 0 := (congrArg Int32.toNatClampNeg q0).trans rfl
          have hD61 : CD w e m0 h56 ((mtl 0 (mbp (I, Q, Z)))).1 ((mtl 0 (mbp (I, Q, Z)))).2.1 ((mtl 0 (mbp (I, Q, Z)))).2.2 X59 ow59 sb59 := CD_I (CD_fr hD59 hF60) ⟨rfl, rfl, rfl, rfl, rfl, rfl, rfl, rfl, rfl, rfl, rfl, rfl, rfl, rfl, rfl⟩
          have hB62 : co h56 ((mtl 0 (mbp (I, Q, Z)))).1 ≤ ((B - 700 + 249) + 0 + 344) + 0 := by
            have := co_fr (I := ((mtl 0 (mbp (I, Q, Z)))).1) (J := ((mtl 0 (mbp (I, Q, Z)))).1) hF60 rfl
            have := hB59
            omega
          have hC63 : CA w e m0 (((B - 700 + 249) + 0 + 344) + 0) h56 (((mtl 0 (mbp (I, Q, Z)))).1, ((mtl 0 (mbp (I, Q, Z)))).2.1, ((mtl 0 (mbp (I, Q, Z)))).2.2) := ⟨X59, ow59, sb59, hS59, hD61, hB62, fun l hl => Nat.le_trans (hQ59 l hl) hF60.1⟩
          have hms : mbeg (I, Q, Z) = (mtl 0 (mbp (I, Q, Z))) := by
            unfold mbeg
            rw [ebt2, if_neg c6, if_neg (Int32.not_le.mpr c7), if_neg (show ¬ I 12 0 = -1 from b12)]
          rw [hms]
          exact ⟨rfl, CA_le hC63 (by omega)⟩
    · skip
      refine go_ret rfl rfl ?_
      have ebt2 : mbt (I, Q, Z) = 0 := (congrArg Int32.toNatClampNeg q0).trans rfl
      have hD64 : CD w e m0 h4 (msh I) Q Z X ow sb := CD_I (CD_fr hD hF3) ⟨rfl, rfl, rfl, rfl, rfl, rfl, rfl, rfl, rfl, rfl, rfl, rfl, rfl, rfl, rfl⟩
      have hB65 : co h4 (msh I) ≤ (B - 700) + 0 := by
        have := co_fr (I := (msh I)) (J := (msh I)) hF3 rfl
        have := hB
        omega
      have hC66 : CA w e m0 ((B - 700) + 0) h4 ((msh I), Q, Z) := ⟨X, ow, sb, hS, hD64, hB65, fun l hl => Nat.le_trans (hQ l hl) hF3.1⟩
      have hms : mbeg (I, Q, Z) = (msh I, Q, Z) := by
        unfold mbeg
        rw [ebt2, if_neg c6, if_pos (Int32.not_lt.mp c7)]
      rw [hms]
      exact ⟨rfl, CA_le hC66 (by omega)⟩
  · skip
    have c6 : (mord (row1 (I, Q, Z) 0) (mbq (I, Q, Z)) 0) = 0 := Decidable.not_not.mp c6'
    refine go_s (pc' := 16) rfl rfl rfl rfl ?_
    refine go_s (pc' := 17) rfl rfl rfl rfl ?_
    refine go_get (pc' := 18) rfl ha rfl (by decide) rfl rfl ?_
    have hD67 : CD w e m0 h4 (msh I) Q Z X ow sb := CD_I (CD_fr hD hF3) ⟨rfl, rfl, rfl, rfl, rfl, rfl, rfl, rfl, rfl, rfl, rfl, rfl, rfl, rfl, rfl⟩
    have hB68 : co h4 (msh I) ≤ (B - 700) + 0 := by
      have := co_fr (I := (msh I)) (J := (msh I)) hF3 rfl
      have := hB
      omega
    have hC69 : CA w e m0 ((B - 700) + 0) h4 ((msh I), Q, Z) := ⟨X, ow, sb, hS, hD67, hB68, fun l hl => Nat.le_trans (hQ l hl) hF3.1⟩
    refine go_callV (pc' := 19) rfl rfl rfl (Nat.le_of_ble_eq_true rfl) rfl (sm_o hS rfl) rfl rfl rfl (cm_rp_0 hC69 (by omega) hv (by omega)) (fun r h70 q71 => ?_)
    obtain ⟨rfl, hC72⟩ := q71
    change CA w e m0 ((B - 700) + 0 + 38) h70 (mrp 0 (msh I, Q, Z)) at hC72
    obtain ⟨X73, ow73, sb73, hS73, hD73, hB73, hQ73⟩ := hC72
    have hW := hD73.1.1
    have hWn : ∀ a, List.length h70 ≤ a → w a = true := fun a ha => (hD73.1.2.1 a ha).1
    have hF74 := fr_refl tbc h70
    have hln : 62 ≤ List.length h70 := sm_len hS73
    refine go_s (pc' := 20) rfl rfl rfl rfl ?_
    refine go_ifP (t' := 22) (pc' := 21) rfl rfl rfl (fun (c : 0 < (mord (row1 (I, Q, Z) 0) (mbq (I, Q, Z)) 0)) => absurd c (by rw [c6] <;> decide)) (fun _ => ?_)
    refine go_ret rfl rfl ?_
    have ebt2 : mbt (I, Q, Z) = 0 := (congrArg Int32.toNatClampNeg q0).trans rfl
    have hD75 : CD w e m0 h70 ((mrp 0 (msh I, Q, Z))).1 ((mrp 0 (msh I, Q, Z))).2.1 ((mrp 0 (msh I, Q, Z))).2.2 X73 ow73 sb73 := CD_I (CD_fr hD73 hF74) ⟨rfl, rfl, rfl, rfl, rfl, rfl, rfl, rfl, rfl, rfl, rfl, rfl, rfl, rfl, rfl⟩
    have hB76 : co h70 ((mrp 0 (msh I, Q, Z))).1 ≤ ((B - 700) + 0 + 38) + 0 := by
      have := co_fr (I := ((mrp 0 (msh I, Q, Z))).1) (J := ((mrp 0 (msh I, Q, Z))).1) hF74 rfl
      have := hB73
      omega
    have hC77 : CA w e m0 (((B - 700) + 0 + 38) + 0) h70 (((mrp 0 (msh I, Q, Z))).1, ((mrp 0 (msh I, Q, Z))).2.1, ((mrp 0 (msh I, Q, Z))).2.2) := ⟨X73, ow73, sb73, hS73, hD75, hB76, fun l hl => Nat.le_trans (hQ73 l hl) hF74.1⟩
    have hms : mbeg (I, Q, Z) = (mrp 0 (msh I, Q, Z)) := by
      unfold mbeg
      rw [ebt2, if_pos c6]
    rw [hms]
    exact ⟨rfl, CA_le hC77 (by omega)⟩
theorem cm_beg_1 {w : Nat → Bool} {d : Nat} {h : am_Hp} {e : Nat} {m0 : mg} {B : Nat} {I : sm_I} {Q : mQ} {Z : mZ} (hC : CA w e m0 B h (I, Q, Z)) (hB2 : B < 2 ^ 28) {n : Nat} (en : I 21 0 = nI n) (hn1 : 1 ≤ n) (hn8 : n ≤ 8) (hv0 : lv I 0 = true) (t0 : I 16 0 = 0) (q0 : I 20 0 = nI 1) (hH : (Z (rwi I 0)).2.1.length + mtr (Z (rwi I 0)) ≤ 32) (hrk : rok (Z (rwi I 0)).2.1 (nI 1)) (hd : 6 ≤ d) : am_Ev (am_prog w) d 48 [.ref 1] h (fun r h' => r = none ∧ CA w e m0 B h' (mbeg (I, Q, Z))) := by
  obtain ⟨X0, ow0, sb0, hS0, hD0, hB0, hQ0⟩ := id hC
  obtain ⟨d, rfl⟩ : ∃ e, d = e + 1 := ⟨d - 1, by omega⟩
  refine ev_go rfl (Nat.le_of_ble_eq_true rfl) rfl ?_
  refine go_s (pc' := 1) rfl rfl rfl rfl ?_
  refine go_sget (pc' := 2) (v := .ref 32) hS0 rfl rfl rfl (by decide) rfl rfl ?_
  refine go_callV (pc' := 3) rfl rfl rfl (Nat.le_of_ble_eq_true rfl) rfl (sm_o hS0 rfl) rfl rfl rfl (cm_tf hC (by omega) en hn1 hn8 (by omega)) (fun r h1 q2 => ?_)
  obtain ⟨a, X, ow, sb, rfl, oa, ha0, hS, hD, hB7, hl7⟩ := q2
  have hB : co h1 (msh I) ≤ B - 700 := by omega
  have hQ : ∀ l, l < 16 → (Q l).length ≤ List.length h1 := fun l hl => by
    rw [hl7]
    exact hQ0 l hl
  have hB77 : 700 ≤ B := by omega
  have hW := hD.1.1
  have hWn : ∀ a, List.length h1 ≤ a → w a = true := fun a ha => (hD.1.2.1 a ha).1
  have hF3 := fr_refl tbc h1
  have hln : 62 ≤ List.length h1 := sm_len hS
  have ha : h1[a]? = some (.inl (8, [.int 1, .int (I 20 1), .int (I 20 2), .int (I 20 3), .int (I 20 4), .int (I 20 5), .int (I 20 6)])) := ha0.trans (by simp only [rqf, q0]; rfl)
  have hv : lv (msh I) 0 = true := hv0
  obtain ⟨k208, kst, -⟩ := hD.2.2.2.2.1
  obtain ⟨ad, S, Y, k0, hA, k2, k3, k4, k5, hoa, hZ0, hWa, htc⟩ := St_open hD.1 (kst hv)
  change SQ h1 ow S Y (Z (rwi I 0)) at k5
  rw [← k0] at k208
  obtain ⟨⟨Wl, w1, w2⟩, -⟩ := id k5
  obtain ⟨z1, z2, z3, z4, z5⟩ := row1_sc w1 1 (by decide)
  refine go_s (pc' := 4) (lo' := [some (.ref 1), some (.ref a), none]) rfl rfl rfl rfl ?_
  refine go_s (pc' := 5) rfl rfl rfl rfl ?_
  refine go_s (pc' := 7) rfl rfl rfl rfl ?_
  refine go_s (pc' := 8) rfl rfl rfl rfl ?_
  refine go_sget (pc' := 9) (v := .ref 32) hS rfl rfl rfl (by decide) rfl rfl ?_
  refine go_sget (pc' := 10) (v := .ref (ad 0)) hS rfl rfl rfl (by decide) k208 rfl ?_
  refine go_s (pc' := 11) rfl rfl rfl rfl ?_
  refine go_callV (pc' := 12) rfl rfl rfl (Nat.le_of_ble_eq_true rfl) rfl (sm_o (St_fr hD.1 hoa k4 hF3) (tbs_at hA (i := 0) (by decide))) rfl rfl rfl (cs_ord_1 (q := mbq (I, Q, Z)) (F := row1 (I, Q, Z) 0) hA k4 ha z1 z2 (by omega)) (fun r h4 q5 => ?_)
  obtain ⟨rfl, rfl⟩ := q5
  refine go_s (pc' := 13) (lo' := [some (.ref 1), some (.ref a), some (.int (mord (row1 (I, Q, Z) 0) (mbq (I, Q, Z)) 1))]) rfl rfl rfl rfl ?_
  refine go_s (pc' := 14) rfl rfl rfl rfl ?_
  refine go_ifP (t' := 19) (pc' := 15) rfl rfl rfl (fun (c6 : ¬ (mord (row1 (I, Q, Z) 0) (mbq (I, Q, Z)) 1) = 0) => ?_) (fun (c6' : ¬ ¬ (mord (row1 (I, Q, Z) 0) (mbq (I, Q, Z)) 1) = 0) => ?_)
  · skip
    refine go_s (pc' := 20) rfl rfl rfl rfl ?_
    refine go_ifP (t' := 22) (pc' := 21) rfl rfl rfl (fun (c7 : 0 < (mord (row1 (I, Q, Z) 0) (mbq (I, Q, Z)) 1)) => ?_) (fun (c7 : ¬ 0 < (mord (row1 (I, Q, Z) 0) (mbq (I, Q, Z)) 1)) => ?_)
    · skip
      refine go_s (pc' := 23) rfl rfl rfl rfl ?_
      refine go_sget (pc' := 24) (v := .ref 32) hS rfl rfl rfl (by decide) rfl rfl ?_
      refine go_sget (pc' := 25) (v := .ref (ad 0)) hS rfl rfl rfl (by decide) k208 rfl ?_
      refine go_s (pc' := 26) rfl rfl rfl rfl ?_
      have hqn := Rq_ntb (w := w) hA k2 k4 oa ha0
      have hrq : Rq h4 ow (.ref a) (mbq (I, Q, Z)) := ⟨a, rfl, oa, ha0⟩
      rcases nI_within (x := I 20 5) (n := 16) (by decide) with ⟨k, hk, ek⟩ | hk
      · skip
        rw [ek] at ha
        refine go_callV (pc' := 27) rfl rfl rfl (Nat.le_of_ble_eq_true rfl) rfl (sm_o (St_fr hD.1 hoa k4 hF3) (tbs_at hA (i := 0) (by decide))) rfl rfl rfl (cs_pf hA k4 w1 hZ0 hWa hWn (t := 1) (k := k) (by decide) hk ha hqn hH hrk (by omega)) (fun r h8 q9 => ?_)
        obtain ⟨rfl, ad2, hA2, h9, hn9, S2, hS2, hm2, hb2, hf2⟩ := q9
        rw [← ek] at hm2
        change sc S2 (mpf (Z (rwi I 0)) 1 (mbq (I, Q, Z) 1) (mbq (I, Q, Z) 2) (mbq (I, Q, Z) 3) (mbq (I, Q, Z) 4) (mbq (I, Q, Z) 5) (mbq (I, Q, Z) 6)) at hm2
        obtain ⟨ow2, hDp⟩ := CD_perf hD hln k0 k2 hrq (t := 1) (by decide) q0 hA2 h9 hn9 hS2 hm2 hb2 hf2 mpf_6.1 mpf_6.2
        have hDq := CD_22 hDp (show ¬ I 16 0 = 2 by rw [t0]; decide)
        have hSq := sm_22 (sm_f9 hS hf2 htc)
        have ebt : mbt (I, Q, Z) = 1 := (congrArg Int32.toNatClampNeg q0).trans rfl
        have hCq : CA w e m0 (B - 700 + 249) h8 (mbp (I, Q, Z)) := by
          refine ⟨X, ow2, sb, hSq, ?_, ?_, fun l hl => Nat.le_trans (hQ l hl) hf2.1⟩
          · unfold mbp
            rw [ebt]
            exact hDq
          · have y1 := hf2.2.1
            have y2 := hf2.2.2.1
            show co _ (uI (uI (msh I) 22 0 0) 22 1 0) ≤ _
            have y3 : (uI (uI (msh I) 22 0 0) 22 1 0) 21 0 = (msh I) 21 0 := rfl
            unfold co at hB ⊢
            rw [y3]
            omega
        obtain ⟨X10, ow10, sb10, hS10, hD10, hB10, hQ10⟩ := hCq
        have hW := hD10.1.1
        have hWn : ∀ a, List.length h8 ≤ a → w a = true := fun a ha => (hD10.1.2.1 a ha).1
        have hF11 := fr_refl tbc h8
        have hln : 62 ≤ List.length h8 := sm_len hS10
        refine go_s (pc' := 28) rfl rfl rfl rfl ?_
        refine go_s (pc' := 29) rfl rfl rfl rfl ?_
        refine go_sget (pc' := 30) (v := .ref 32) hS10 rfl rfl rfl (by decide) rfl rfl ?_
        by_cases b12 : I 12 0 = -1
        · skip
          have hD12 : CD w e m0 h8 ((mbp (I, Q, Z))).1 ((mbp (I, Q, Z))).2.1 ((mbp (I, Q, Z))).2.2 X10 ow10 sb10 := CD_I (CD_fr hD10 hF11) ⟨rfl, rfl, rfl, rfl, rfl, rfl, rfl, rfl, rfl, rfl, rfl, rfl, rfl, rfl, rfl⟩
          have hB13 : co h8 ((mbp (I, Q, Z))).1 ≤ (B - 700 + 249) + 0 := by
            have := co_fr (I := ((mbp (I, Q, Z))).1) (J := ((mbp (I, Q, Z))).1) hF11 rfl
            have := hB10
            omega
          have hC14 : CA w e m0 ((B - 700 + 249) + 0) h8 (((mbp (I, Q, Z))).1, ((mbp (I, Q, Z))).2.1, ((mbp (I, Q, Z))).2.2) := ⟨X10, ow10, sb10, hS10, hD12, hB13, fun l hl => Nat.le_trans (hQ10 l hl) hF11.1⟩
          refine go_callV (pc' := 31) rfl rfl rfl (Nat.le_of_ble_eq_true rfl) rfl (sm_o hS10 rfl) rfl rfl rfl (cm_tl_0 hC14 (by omega) hv0 (by omega)) (fun r h15 q16 => ?_)
          obtain ⟨rfl, hC17⟩ := q16
          change CA w e m0 ((B - 700 + 249) + 0 + 344) h15 (mtl 0 (mbp (I, Q, Z))) at hC17
          obtain ⟨X18, ow18, sb18, hS18, hD18, hB18, hQ18⟩ := hC17
          have hW := hD18.1.1
          have hWn : ∀ a, List.length h15 ≤ a → w a = true := fun a ha => (hD18.1.2.1 a ha).1
          have hF19 := fr_refl tbc h15
          have hln : 62 ≤ List.length h15 := sm_len hS18
          rw [show (if (mbp (I, Q, Z)).1 12 0 = -1 then (1 : Int32) else 0) = 1 from if_pos b12]
          refine go_ifP (t' := 34) (pc' := 32) rfl rfl rfl (fun (c : (1 : Int32) = 0) => absurd c (by decide)) (fun _ => ?_)
          refine go_s (pc' := 33) rfl rfl rfl rfl ?_
          refine go_callV (pc' := 34) rfl rfl rfl (Nat.le_of_ble_eq_true rfl) rfl (sm_o hS18 rfl) rfl rfl rfl (ct_startWriting hS18 hW (by omega)) (fun r h20 q21 => ?_)
          obtain ⟨rfl, hS22, hE23⟩ := q21
          have hF24 := fr_trans hF19 (fr_e hE23)
          refine go_ret rfl rfl ?_
          have ebt2 : mbt (I, Q, Z) = 1 := (congrArg Int32.toNatClampNeg q0).trans rfl
          have hms : mbeg (I, Q, Z) = ((uI ((mtl 0 (mbp (I, Q, Z)))).1 16 0 2), (mtl 0 (mbp (I, Q, Z))).2) := by
            unfold mbeg
            rw [ebt2, if_neg c6, if_neg (Int32.not_le.mpr c7), if_pos (show I 12 0 = -1 from b12)]
          have e22 : ((mtl 0 (mbp (I, Q, Z)))).1 22 = (mbp (I, Q, Z)).1 22 := by
            unfold mtl
            rw [if_pos (show (mbp (I, Q, Z)).1 12 0 = -1 from b12)]
            split <;> rfl
          have hD9 := CD_w2 (CD_fr hD18 hF24) (by rw [e22]; rfl) (by rw [e22]; rfl)
          have hB9 : co h20 (uI ((mtl 0 (mbp (I, Q, Z)))).1 16 0 2) ≤ B := by
            have := co_fr (I := ((mtl 0 (mbp (I, Q, Z)))).1) (J := (uI ((mtl 0 (mbp (I, Q, Z)))).1 16 0 2)) hF24 rfl
            have := hB18
            omega
          rw [hms]
          exact ⟨rfl, ⟨(uX (uX X18 206 0 (.int 0)) 206 1 (.int 0)), ow18, sb18, hS22, hD9, hB9, fun l hl => Nat.le_trans (hQ18 l hl) hF24.1⟩⟩
        · skip
          have hD25 : CD w e m0 h8 ((mbp (I, Q, Z))).1 ((mbp (I, Q, Z))).2.1 ((mbp (I, Q, Z))).2.2 X10 ow10 sb10 := CD_I (CD_fr hD10 hF11) ⟨rfl, rfl, rfl, rfl, rfl, rfl, rfl, rfl, rfl, rfl, rfl, rfl, rfl, rfl, rfl⟩
          have hB26 : co h8 ((mbp (I, Q, Z))).1 ≤ (B - 700 + 249) + 0 := by
            have := co_fr (I := ((mbp (I, Q, Z))).1) (J := ((mbp (I, Q, Z))).1) hF11 rfl
            have := hB10
            omega
          have hC27 : CA w e m0 ((B - 700 + 249) + 0) h8 (((mbp (I, Q, Z))).1, ((mbp (I, Q, Z))).2.1, ((mbp (I, Q, Z))).2.2) := ⟨X10, ow10, sb10, hS10, hD25, hB26, fun l hl => Nat.le_trans (hQ10 l hl) hF11.1⟩
          refine go_callV (pc' := 31) rfl rfl rfl (Nat.le_of_ble_eq_true rfl) rfl (sm_o hS10 rfl) rfl rfl rfl (cm_tl_0 hC27 (by omega) hv0 (by omega)) (fun r h28 q29 => ?_)
          obtain ⟨rfl, hC30⟩ := q29
          change CA w e m0 ((B - 700 + 249) + 0 + 344) h28 (mtl 0 (mbp (I, Q, Z))) at hC30
          obtain ⟨X31, ow31, sb31, hS31, hD31, hB31, hQ31⟩ := hC30
          have hW := hD31.1.1
          have hWn : ∀ a, List.length h28 ≤ a → w a = true := fun a ha => (hD31.1.2.1 a ha).1
          have hF32 := fr_refl tbc h28
          have hln : 62 ≤ List.length h28 := sm_len hS31
          rw [show (if (mbp (I, Q, Z)).1 12 0 = -1 then (1 : Int32) else 0) = 0 from if_neg b12]
          refine go_ifP (t' := 34) (pc' := 32) rfl rfl rfl (fun _ => ?_) (fun (c : ¬ ((0 : Int32) = 0)) => absurd (by decide) c)
          refine go_ret rfl rfl ?_
          have ebt2 : mbt (I, Q, Z) = 1 := (congrArg Int32.toNatClampNeg q0).trans rfl
          have hD33 : CD w e m0 h28 ((mtl 0 (mbp (I, Q, Z)))).1 ((mtl 0 (mbp (I, Q, Z)))).2.1 ((mtl 0 (mbp (I, Q, Z)))).2.2 X31 ow31 sb31 := CD_I (CD_fr hD31 hF32) ⟨rfl, rfl, rfl, rfl, rfl, rfl, rfl, rfl, rfl, rfl, rfl, rfl, rfl, rfl, rfl⟩
          have hB34 : co h28 ((mtl 0 (mbp (I, Q, Z)))).1 ≤ ((B - 700 + 249) + 0 + 344) + 0 := by
            have := co_fr (I := ((mtl 0 (mbp (I, Q, Z)))).1) (J := ((mtl 0 (mbp (I, Q, Z)))).1) hF32 rfl
            have := hB31
            omega
          have hC35 : CA w e m0 (((B - 700 + 249) + 0 + 344) + 0) h28 (((mtl 0 (mbp (I, Q, Z)))).1, ((mtl 0 (mbp (I, Q, Z)))).2.1, ((mtl 0 (mbp (I, Q, Z)))).2.2) := ⟨X31, ow31, sb31, hS31, hD33, hB34, fun l hl => Nat.le_trans (hQ31 l hl) hF32.1⟩
          have hms : mbeg (I, Q, Z) = (mtl 0 (mbp (I, Q, Z))) := by
            unfold mbeg
            rw [ebt2, if_neg c6, if_neg (Int32.not_le.mpr c7), if_neg (show ¬ I 12 0 = -1 from b12)]
          rw [hms]
          exact ⟨rfl, CA_le hC35 (by omega)⟩
      · skip
        refine go_callV (pc' := 27) rfl rfl rfl (Nat.le_of_ble_eq_true rfl) rfl (sm_o (St_fr hD.1 hoa k4 hF3) (tbs_at hA (i := 0) (by decide))) rfl rfl rfl (cs_pf_f hA k4 w1 hZ0 hWa hWn (t := 1) (by decide) ha hqn hk hH hrk (by omega)) (fun r h36 q37 => ?_)
        obtain ⟨rfl, ad2, hA2, h9, hn9, S2, hS2, hm2, hb2, hf2⟩ := q37
        change sc S2 (mpf (Z (rwi I 0)) 1 (mbq (I, Q, Z) 1) (mbq (I, Q, Z) 2) (mbq (I, Q, Z) 3) (mbq (I, Q, Z) 4) (mbq (I, Q, Z) 5) (mbq (I, Q, Z) 6)) at hm2
        obtain ⟨ow2, hDp⟩ := CD_perf hD hln k0 k2 hrq (t := 1) (by decide) q0 hA2 h9 hn9 hS2 hm2 hb2 hf2 mpf_6.1 mpf_6.2
        have hDq := CD_22 hDp (show ¬ I 16 0 = 2 by rw [t0]; decide)
        have hSq := sm_22 (sm_f9 hS hf2 htc)
        have ebt : mbt (I, Q, Z) = 1 := (congrArg Int32.toNatClampNeg q0).trans rfl
        have hCq : CA w e m0 (B - 700 + 249) h36 (mbp (I, Q, Z)) := by
          refine ⟨X, ow2, sb, hSq, ?_, ?_, fun l hl => Nat.le_trans (hQ l hl) hf2.1⟩
          · unfold mbp
            rw [ebt]
            exact hDq
          · have y1 := hf2.2.1
            have y2 := hf2.2.2.1
            show co _ (uI (uI (msh I) 22 0 0) 22 1 0) ≤ _
            have y3 : (uI (uI (msh I) 22 0 0) 22 1 0) 21 0 = (msh I) 21 0 := rfl
            unfold co at hB ⊢
            rw [y3]
            omega
        obtain ⟨X38, ow38, sb38, hS38, hD38, hB38, hQ38⟩ := hCq
        have hW := hD38.1.1
        have hWn : ∀ a, List.length h36 ≤ a → w a = true := fun a ha => (hD38.1.2.1 a ha).1
        have hF39 := fr_refl tbc h36
        have hln : 62 ≤ List.length h36 := sm_len hS38
        refine go_s (pc' := 28) rfl rfl rfl rfl ?_
        refine go_s (pc' := 29) rfl rfl rfl rfl ?_
        refine go_sget (pc' := 30) (v := .ref 32) hS38 rfl rfl rfl (by decide) rfl rfl ?_
        by_cases b12 : I 12 0 = -1
        · skip
          have hD40 : CD w e m0 h36 ((mbp (I, Q, Z))).1 ((mbp (I, Q, Z))).2.1 ((mbp (I, Q, Z))).2.2 X38 ow38 sb38 := CD_I (CD_fr hD38 hF39) ⟨rfl, rfl, rfl, rfl, rfl, rfl, rfl, rfl, rfl, rfl, rfl, rfl, rfl, rfl, rfl⟩
          have hB41 : co h36 ((mbp (I, Q, Z))).1 ≤ (B - 700 + 249) + 0 := by
            have := co_fr (I := ((mbp (I, Q, Z))).1) (J := ((mbp (I, Q, Z))).1) hF39 rfl
            have := hB38
            omega
          have hC42 : CA w e m0 ((B - 700 + 249) + 0) h36 (((mbp (I, Q, Z))).1, ((mbp (I, Q, Z))).2.1, ((mbp (I, Q, Z))).2.2) := ⟨X38, ow38, sb38, hS38, hD40, hB41, fun l hl => Nat.le_trans (hQ38 l hl) hF39.1⟩
          refine go_callV (pc' := 31) rfl rfl rfl (Nat.le_of_ble_eq_true rfl) rfl (sm_o hS38 rfl) rfl rfl rfl (cm_tl_0 hC42 (by omega) hv0 (by omega)) (fun r h43 q44 => ?_)
          obtain ⟨rfl, hC45⟩ := q44
          change CA w e m0 ((B - 700 + 249) + 0 + 344) h43 (mtl 0 (mbp (I, Q, Z))) at hC45
          obtain ⟨X46, ow46, sb46, hS46, hD46, hB46, hQ46⟩ := hC45
          have hW := hD46.1.1
          have hWn : ∀ a, List.length h43 ≤ a → w a = true := fun a ha => (hD46.1.2.1 a ha).1
          have hF47 := fr_refl tbc h43
          have hln : 62 ≤ List.length h43 := sm_len hS46
          rw [show (if (mbp (I, Q, Z)).1 12 0 = -1 then (1 : Int32) else 0) = 1 from if_pos b12]
          refine go_ifP (t' := 34) (pc' := 32) rfl rfl rfl (fun (c : (1 : Int32) = 0) => absurd c (by decide)) (fun _ => ?_)
          refine go_s (pc' := 33) rfl rfl rfl rfl ?_
          refine go_callV (pc' := 34) rfl rfl rfl (Nat.le_of_ble_eq_true rfl) rfl (sm_o hS46 rfl) rfl rfl rfl (ct_startWriting hS46 hW (by omega)) (fun r h48 q49 => ?_)
          obtain ⟨rfl, hS50, hE51⟩ := q49
          have hF52 := fr_trans hF47 (fr_e hE51)
          refine go_ret rfl rfl ?_
          have ebt2 : mbt (I, Q, Z) = 1 := (congrArg Int32.toNatClampNeg q0).trans rfl
          have hms : mbeg (I, Q, Z) = ((uI ((mtl 0 (mbp (I, Q, Z)))).1 16 0 2), (mtl 0 (mbp (I, Q, Z))).2) := by
            unfold mbeg
            rw [ebt2, if_neg c6, if_neg (Int32.not_le.mpr c7), if_pos (show I 12 0 = -1 from b12)]
          have e22 : ((mtl 0 (mbp (I, Q, Z)))).1 22 = (mbp (I, Q, Z)).1 22 := by
            unfold mtl
            rw [if_pos (show (mbp (I, Q, Z)).1 12 0 = -1 from b12)]
            split <;> rfl
          have hD9 := CD_w2 (CD_fr hD46 hF52) (by rw [e22]; rfl) (by rw [e22]; rfl)
          have hB9 : co h48 (uI ((mtl 0 (mbp (I, Q, Z)))).1 16 0 2) ≤ B := by
            have := co_fr (I := ((mtl 0 (mbp (I, Q, Z)))).1) (J := (uI ((mtl 0 (mbp (I, Q, Z)))).1 16 0 2)) hF52 rfl
            have := hB46
            omega
          rw [hms]
          exact ⟨rfl, ⟨(uX (uX X46 206 0 (.int 0)) 206 1 (.int 0)), ow46, sb46, hS50, hD9, hB9, fun l hl => Nat.le_trans (hQ46 l hl) hF52.1⟩⟩
        · skip
          have hD53 : CD w e m0 h36 ((mbp (I, Q, Z))).1 ((mbp (I, Q, Z))).2.1 ((mbp (I, Q, Z))).2.2 X38 ow38 sb38 := CD_I (CD_fr hD38 hF39) ⟨rfl, rfl, rfl, rfl, rfl, rfl, rfl, rfl, rfl, rfl, rfl, rfl, rfl, rfl, rfl⟩
          have hB54 : co h36 ((mbp (I, Q, Z))).1 ≤ (B - 700 + 249) + 0 := by
            have := co_fr (I := ((mbp (I, Q, Z))).1) (J := ((mbp (I, Q, Z))).1) hF39 rfl
            have := hB38
            omega
          have hC55 : CA w e m0 ((B - 700 + 249) + 0) h36 (((mbp (I, Q, Z))).1, ((mbp (I, Q, Z))).2.1, ((mbp (I, Q, Z))).2.2) := ⟨X38, ow38, sb38, hS38, hD53, hB54, fun l hl => Nat.le_trans (hQ38 l hl) hF39.1⟩
          refine go_callV (pc' := 31) rfl rfl rfl (Nat.le_of_ble_eq_true rfl) rfl (sm_o hS38 rfl) rfl rfl rfl (cm_tl_0 hC55 (by omega) hv0 (by omega)) (fun r h56 q57 => ?_)
          obtain ⟨rfl, hC58⟩ := q57
          change CA w e m0 ((B - 700 + 249) + 0 + 344) h56 (mtl 0 (mbp (I, Q, Z))) at hC58
          obtain ⟨X59, ow59, sb59, hS59, hD59, hB59, hQ59⟩ := hC58
          have hW := hD59.1.1
          have hWn : ∀ a, List.length h56 ≤ a → w a = true := fun a ha => (hD59.1.2.1 a ha).1
          have hF60 := fr_refl tbc h56
          have hln : 62 ≤ List.length h56 := sm_len hS59
          rw [show (if (mbp (I, Q, Z)).1 12 0 = -1 then (1 : Int32) else 0) = 0 from if_neg b12]
          refine go_ifP (t' := 34) (pc' := 32) rfl rfl rfl (fun _ => ?_) (fun (c : ¬ ((0 : Int32) = 0)) => absurd (by decide) c)
          refine go_ret rfl rfl ?_
          have ebt2 : mbt (I, Q, Z) = 1 := (congrArg Int32.toNatClampNeg q0).trans rfl
          have hD61 : CD w e m0 h56 ((mtl 0 (mbp (I, Q, Z)))).1 ((mtl 0 (mbp (I, Q, Z)))).2.1 ((mtl 0 (mbp (I, Q, Z)))).2.2 X59 ow59 sb59 := CD_I (CD_fr hD59 hF60) ⟨rfl, rfl, rfl, rfl, rfl, rfl, rfl, rfl, rfl, rfl, rfl, rfl, rfl, rfl, rfl⟩
          have hB62 : co h56 ((mtl 0 (mbp (I, Q, Z)))).1 ≤ ((B - 700 + 249) + 0 + 344) + 0 := by
            have := co_fr (I := ((mtl 0 (mbp (I, Q, Z)))).1) (J := ((mtl 0 (mbp (I, Q, Z)))).1) hF60 rfl
            have := hB59
            omega
          have hC63 : CA w e m0 (((B - 700 + 249) + 0 + 344) + 0) h56 (((mtl 0 (mbp (I, Q, Z)))).1, ((mtl 0 (mbp (I, Q, Z)))).2.1, ((mtl 0 (mbp (I, Q, Z)))).2.2) := ⟨X59, ow59, sb59, hS59, hD61, hB62, fun l hl => Nat.le_trans (hQ59 l hl) hF60.1⟩
          have hms : mbeg (I, Q, Z) = (mtl 0 (mbp (I, Q, Z))) := by
            unfold mbeg
            rw [ebt2, if_neg c6, if_neg (Int32.not_le.mpr c7), if_neg (show ¬ I 12 0 = -1 from b12)]
          rw [hms]
          exact ⟨rfl, CA_le hC63 (by omega)⟩
    · skip
      refine go_ret rfl rfl ?_
      have ebt2 : mbt (I, Q, Z) = 1 := (congrArg Int32.toNatClampNeg q0).trans rfl
      have hD64 : CD w e m0 h4 (msh I) Q Z X ow sb := CD_I (CD_fr hD hF3) ⟨rfl, rfl, rfl, rfl, rfl, rfl, rfl, rfl, rfl, rfl, rfl, rfl, rfl, rfl, rfl⟩
      have hB65 : co h4 (msh I) ≤ (B - 700) + 0 := by
        have := co_fr (I := (msh I)) (J := (msh I)) hF3 rfl
        have := hB
        omega
      have hC66 : CA w e m0 ((B - 700) + 0) h4 ((msh I), Q, Z) := ⟨X, ow, sb, hS, hD64, hB65, fun l hl => Nat.le_trans (hQ l hl) hF3.1⟩
      have hms : mbeg (I, Q, Z) = (msh I, Q, Z) := by
        unfold mbeg
        rw [ebt2, if_neg c6, if_pos (Int32.not_lt.mp c7)]
      rw [hms]
      exact ⟨rfl, CA_le hC66 (by omega)⟩
  · skip
    have c6 : (mord (row1 (I, Q, Z) 0) (mbq (I, Q, Z)) 1) = 0 := Decidable.not_not.mp c6'
    refine go_s (pc' := 16) rfl rfl rfl rfl ?_
    refine go_s (pc' := 17) rfl rfl rfl rfl ?_
    refine go_get (pc' := 18) rfl ha rfl (by decide) rfl rfl ?_
    have hD67 : CD w e m0 h4 (msh I) Q Z X ow sb := CD_I (CD_fr hD hF3) ⟨rfl, rfl, rfl, rfl, rfl, rfl, rfl, rfl, rfl, rfl, rfl, rfl, rfl, rfl, rfl⟩
    have hB68 : co h4 (msh I) ≤ (B - 700) + 0 := by
      have := co_fr (I := (msh I)) (J := (msh I)) hF3 rfl
      have := hB
      omega
    have hC69 : CA w e m0 ((B - 700) + 0) h4 ((msh I), Q, Z) := ⟨X, ow, sb, hS, hD67, hB68, fun l hl => Nat.le_trans (hQ l hl) hF3.1⟩
    refine go_callV (pc' := 19) rfl rfl rfl (Nat.le_of_ble_eq_true rfl) rfl (sm_o hS rfl) rfl rfl rfl (cm_rp_1 hC69 (by omega) hv (by omega)) (fun r h70 q71 => ?_)
    obtain ⟨rfl, hC72⟩ := q71
    change CA w e m0 ((B - 700) + 0 + 38) h70 (mrp 1 (msh I, Q, Z)) at hC72
    obtain ⟨X73, ow73, sb73, hS73, hD73, hB73, hQ73⟩ := hC72
    have hW := hD73.1.1
    have hWn : ∀ a, List.length h70 ≤ a → w a = true := fun a ha => (hD73.1.2.1 a ha).1
    have hF74 := fr_refl tbc h70
    have hln : 62 ≤ List.length h70 := sm_len hS73
    refine go_s (pc' := 20) rfl rfl rfl rfl ?_
    refine go_ifP (t' := 22) (pc' := 21) rfl rfl rfl (fun (c : 0 < (mord (row1 (I, Q, Z) 0) (mbq (I, Q, Z)) 1)) => absurd c (by rw [c6] <;> decide)) (fun _ => ?_)
    refine go_ret rfl rfl ?_
    have ebt2 : mbt (I, Q, Z) = 1 := (congrArg Int32.toNatClampNeg q0).trans rfl
    have hD75 : CD w e m0 h70 ((mrp 1 (msh I, Q, Z))).1 ((mrp 1 (msh I, Q, Z))).2.1 ((mrp 1 (msh I, Q, Z))).2.2 X73 ow73 sb73 := CD_I (CD_fr hD73 hF74) ⟨rfl, rfl, rfl, rfl, rfl, rfl, rfl, rfl, rfl, rfl, rfl, rfl, rfl, rfl, rfl⟩
    have hB76 : co h70 ((mrp 1 (msh I, Q, Z))).1 ≤ ((B - 700) + 0 + 38) + 0 := by
      have := co_fr (I := ((mrp 1 (msh I, Q, Z))).1) (J := ((mrp 1 (msh I, Q, Z))).1) hF74 rfl
      have := hB73
      omega
    have hC77 : CA w e m0 (((B - 700) + 0 + 38) + 0) h70 (((mrp 1 (msh I, Q, Z))).1, ((mrp 1 (msh I, Q, Z))).2.1, ((mrp 1 (msh I, Q, Z))).2.2) := ⟨X73, ow73, sb73, hS73, hD75, hB76, fun l hl => Nat.le_trans (hQ73 l hl) hF74.1⟩
    have hms : mbeg (I, Q, Z) = (mrp 1 (msh I, Q, Z)) := by
      unfold mbeg
      rw [ebt2, if_pos c6]
    rw [hms]
    exact ⟨rfl, CA_le hC77 (by omega)⟩
