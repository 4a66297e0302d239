theorem run20 {w : Nat → Bool} {d : Nat} {h : am_Hp} {e : Nat} {m0 : mg} {B : Nat} {I : sm_I} {Q : mQ} {Z : mZ} (hC : CA w e m0 B h (I, Q, Z)) (hB2 : B < 2 ^ 28) (hI : SI (I, Q, Z)) {i : Nat} {P : Option Value → am_Hp → Prop} (hd : 6 ≤ d) (K : ∀ h', CA w e m0 B h' (mbeg (I, Q, Z)) → I 16 0 = 0 → ¬ I 21 0 = 0 → SI (mbeg (I, Q, Z)) → am_Go (am_prog w) d am_c41 none 31 [some (.ref 1), some (.int (nI i))] [] h' P) (R : ¬ (I 16 0 = 0 ∧ ¬ I 21 0 = 0) → CA w e m0 B h (I, Q, Z) → P none h) : am_Go (am_prog w) d am_c41 none 20 [some (.ref 1), some (.int (nI i))] [] h P := by
  obtain ⟨X, ow, sb, hS, hD, hB, hQ⟩ := hC
  change sm tbc h I X at hS
  change CD w e m0 h I Q Z X ow sb at hD
  change co h I ≤ B at hB
  change ∀ l, l < 16 → (Q l).length ≤ h.length at hQ
  have hW := hD.1.1
  have hWn : ∀ a, List.length h ≤ a → w a = true := fun a ha => (hD.1.2.1 a ha).1
  have hF1 := fr_refl tbc h
  have hln : 62 ≤ List.length h := sm_len hS
  obtain ⟨-, -, -, n, hn8, en, -⟩ := hD.2.2.2.2.1
  refine go_s (pc' := 21) rfl rfl rfl rfl ?_
  refine go_sget (pc' := 22) (v := .ref 32) hS rfl rfl rfl (by decide) rfl rfl ?_
  refine go_sget (pc' := 23) (v := .int (I 16 0)) hS rfl rfl rfl (by decide) rfl rfl ?_
  refine go_ifP (t' := 28) (pc' := 24) rfl rfl rfl (fun (c2 : ¬ (I 16 0) = 0) => ?_) (fun (c2' : ¬ ¬ (I 16 0) = 0) => ?_)
  · skip
    refine go_ret rfl rfl ?_
    exact R (fun z => c2 z.1) ⟨X, ow, sb, hS, hD, hB, hQ⟩
  · skip
    have c2 : (I 16 0) = 0 := Decidable.not_not.mp c2'
    refine go_s (pc' := 25) rfl rfl rfl rfl ?_
    refine go_sget (pc' := 26) (v := .ref 32) hS rfl rfl rfl (by decide) rfl rfl ?_
    refine go_sget (pc' := 27) (v := .int (I 21 0)) hS rfl rfl rfl (by decide) rfl rfl ?_
    refine go_ifP (t' := 29) (pc' := 28) rfl rfl rfl (fun (c3 : ¬ (I 21 0) = 0) => ?_) (fun (c3' : ¬ ¬ (I 21 0) = 0) => ?_)
    · skip
      refine go_s (pc' := 30) rfl rfl rfl rfl ?_
      have hs : ¬ I 21 0 = 0 := c3
      have t0 : I 16 0 = 0 := c2
      have hn1 : 1 ≤ n := by
        by_cases z : n = 0
        · subst z; exact absurd en hs
        · omega
      obtain ⟨t, ht, q0⟩ := hI.2.2.1 0 (by show 0 < stn I; rw [stn_eq en hn8]; omega)
      have q0 : I 20 0 = nI t := q0
      have hC1 : CA w e m0 B h (I, Q, Z) := ⟨X, ow, sb, hS, hD, hB, hQ⟩
      have hSG : SG (Z (rwi I 0)) := hI.2.2.2.2
      have ht2 : t = 0 ∨ t = 1 := by omega
      rcases ht2 with rfl | rfl
      · skip
        refine go_callV (pc' := 31) rfl rfl rfl (Nat.le_of_ble_eq_true rfl) rfl (sm_o hS rfl) rfl rfl rfl (cm_beg_0 hC1 hB2 en hn1 hn8 (hI.2.1 hs) t0 q0 hSG.1 hSG.2.1 (by omega)) (fun r h4 q5 => ?_)
        obtain ⟨rfl, hC2⟩ := q5
        exact K h4 hC2 t0 hs (SI_beg hI t0 hs en hn1 hn8 (by decide) q0)
      · skip
        refine go_callV (pc' := 31) rfl rfl rfl (Nat.le_of_ble_eq_true rfl) rfl (sm_o hS rfl) rfl rfl rfl (cm_beg_1 hC1 hB2 en hn1 hn8 (hI.2.1 hs) t0 q0 hSG.1 hSG.2.2 (by omega)) (fun r h6 q7 => ?_)
        obtain ⟨rfl, hC2⟩ := q7
        exact K h6 hC2 t0 hs (SI_beg hI t0 hs en hn1 hn8 (by decide) q0)
    · skip
      have c3 : (I 21 0) = 0 := Decidable.not_not.mp c3'
      refine go_ret rfl rfl ?_
      exact R (fun z => z.2 c3) ⟨X, ow, sb, hS, hD, hB, hQ⟩
theorem lp_run {w : Nat → Bool} {d e : Nat} {m0 : mg} (hd : 6 ≤ d) : ∀ (k i B : Nat) (h : am_Hp) (I : sm_I) (Q : mQ) (Z : mZ), i + k = 10 → CA w e m0 B h (I, Q, Z) → B + 40 * k < 2 ^ 28 → SI (I, Q, Z) → am_Go (am_prog w) d am_c41 none 2 [some (.ref 1), some (.int (nI i))] [] h (fun r h' => r = none ∧ CA w e m0 (B + 40 * k) h' (mset k (I, Q, Z))) := by
  intro k
  induction k with
  | zero =>
    intro i B h I Q Z hik hC hB2 hI
    obtain rfl : i = 10 := by omega
    obtain ⟨X, ow, sb, hS, hD, hB, hQ⟩ := id hC
    refine go_s (pc' := 3) rfl rfl rfl rfl ?_
    refine go_s (pc' := 4) (st' := [.int 10, .int (nI 10)]) rfl rfl rfl rfl ?_
    refine go_icmpP (t' := 33) (pc' := 5) rfl rfl rfl (fun _ => ?_) (fun (c : ¬ (10 ≤ (nI 10))) => absurd (by decide) c)
    refine go_ret rfl rfl ?_
    exact ⟨rfl, CA_le hC (by omega)⟩
  | succ k ih =>
    intro i B h I Q Z hik hC0 hB2 hI
    have hC := hC0
    obtain ⟨X, ow, sb, hS, hD, hB, hQ⟩ := hC
    change sm tbc h I X at hS
    change CD w e m0 h I Q Z X ow sb at hD
    change co h I ≤ B at hB
    change ∀ l, l < 16 → (Q l).length ≤ h.length at hQ
    have hW := hD.1.1
    have hWn : ∀ a, List.length h ≤ a → w a = true := fun a ha => (hD.1.2.1 a ha).1
    have hF1 := fr_refl tbc h
    have hln : 62 ≤ List.length h := sm_len hS
    refine go_s (pc' := 3) rfl rfl rfl rfl ?_
    refine go_s (pc' := 4) (st' := [.int 10, .int (nI i)]) rfl rfl rfl rfl ?_
    refine go_icmpP (t' := 33) (pc' := 5) rfl rfl rfl (fun (c : 10 ≤ (nI i)) => absurd c (nI_ge (b := 10) (by omega) (by decide))) (fun _ => ?_)
    refine go_s (pc' := 6) rfl rfl rfl rfl ?_
    refine go_sget (pc' := 7) (v := .ref 32) hS rfl rfl rfl (by decide) rfl rfl ?_
    refine go_sget (pc' := 8) (v := .int (I 16 0)) hS rfl rfl rfl (by decide) rfl rfl ?_
    refine go_s (pc' := 9) (st' := [.int 2, .int (I 16 0)]) rfl rfl rfl rfl ?_
    refine go_icmpP (t' := 20) (pc' := 10) rfl rfl rfl (fun (c2 : ¬ (I 16 0) = 2) => ?_) (fun (c2' : ¬ ¬ (I 16 0) = 2) => ?_)
    · skip
      have em : mru (I, Q, Z) = (I, Q, Z) := if_neg (fun z => c2 z.1)
      have hI2 := hI
      have hC2 : CA w e m0 (B + 40) h (I, Q, Z) := ⟨X, ow, sb, hS, hD, Nat.le_trans hB (by omega), hQ⟩
      obtain ⟨M1, eM1⟩ : ∃ x, x = (I, Q, Z) := ⟨_, rfl⟩
      have em := em.trans eM1.symm
      rw [← eM1] at hI2 hC2
      obtain ⟨I1, Q1, Z1⟩ := M1
      refine run20 (B := B + 40) (I := I1) (Q := Q1) (Z := Z1) hC2 (by omega) hI2 (by omega) (fun h9 hC9 t9 s9 hI9 => ?_) (fun hn9 hC9 => ?_)
      · skip
        refine go_ninc (pc' := 32) (a := i) (n := 1) (lo' := [some (.ref 1), some (.int (nI (i + 1)))]) rfl rfl rfl rfl rfl rfl ?_
        refine go_s (pc' := 2) rfl rfl rfl rfl ?_
        obtain ⟨M2, eM2⟩ : ∃ x, x = mbeg (I1, Q1, Z1) := ⟨_, rfl⟩
        rw [← eM2] at hC9 hI9
        obtain ⟨I2, Q2, Z2⟩ := M2
        have es : mset (k + 1) (I, Q, Z) = mset k (I2, Q2, Z2) := by
          show (if (mru (I, Q, Z)).1 16 0 = 0 ∧ ¬ (mru (I, Q, Z)).1 21 0 = 0 then mset k (mbeg (mru (I, Q, Z))) else mru (I, Q, Z)) = _
          rw [em, if_pos ⟨t9, s9⟩, eM2]
        rw [es]
        have := ih (i + 1) (B + 40) h9 I2 Q2 Z2 (by omega) hC9 (by omega) hI9
        rw [show B + 40 * (k + 1) = B + 40 + 40 * k by omega]
        exact this
      · have es : mset (k + 1) (I, Q, Z) = (I1, Q1, Z1) := by
          show (if (mru (I, Q, Z)).1 16 0 = 0 ∧ ¬ (mru (I, Q, Z)).1 21 0 = 0 then mset k (mbeg (mru (I, Q, Z))) else mru (I, Q, Z)) = _
          rw [em, if_neg hn9]
        rw [es]
        exact ⟨rfl, CA_le hC9 (by omega)⟩
    · skip
      have c2 : (I 16 0) = 2 := Decidable.not_not.mp c2'
      obtain ⟨hv, hf3⟩ := hI.1 c2
      obtain ⟨k208, kst, -⟩ := hD.2.2.2.2.1
      obtain ⟨ad, S, Y, k0, hA, k2, k3, k4, k5, hoa, hZ0, hWa, htc⟩ := St_open hD.1 (kst hv)
      change SQ h ow S Y (Z (rwi I 0)) at k5
      rw [← k0] at k208
      obtain ⟨⟨Wl, w1, w2⟩, -⟩ := id k5
      have hWl := w2 hf3
      have e04 : S 0 4 = nI (Z (rwi I 0)).2.2.length := by rw [← hWl]; exact w1.2.2.2.1
      have hsd := k4 (ad 0) _ _ (tbs_at hA (i := 0) (by decide))
      have hsw := k4 (ad 9) _ _ (tbs_at hA (i := 9) (by decide))
      have hg : ∀ d, d < 2 → X 206 d = .int (I 22 d) := fun d hd => by
        obtain ⟨n, z1, z2⟩ := hD.2.2.2.1.2.1 d hd
        rw [z1, z2 c2]
      refine go_s (pc' := 11) rfl rfl rfl rfl ?_
      refine go_sget (pc' := 12) (v := .ref 24) hS rfl rfl rfl (by decide) rfl rfl ?_
      refine go_s (pc' := 13) rfl rfl rfl rfl ?_
      refine go_sget (pc' := 14) (v := .ref 32) hS rfl rfl rfl (by decide) rfl rfl ?_
      refine go_sget (pc' := 15) (v := .ref (ad 0)) hS rfl rfl rfl (by decide) k208 rfl ?_
      refine go_get (pc' := 16) rfl hsd rfl (by decide) rfl rfl ?_
      refine go_callV (pc' := 17) rfl rfl rfl (Nat.le_of_ble_eq_true rfl) rfl (sm_o hS rfl) rfl rfl rfl (ct_hasAll hS (n := S 0 4) (g := I 22) hsw hg (by omega)) (fun r h3 q4 => ?_)
      obtain ⟨rfl, rfl⟩ := q4
      cases u5 : hall I (I 22) (S 0 4)
      · skip
        show am_Go _ _ _ _ 17 _ [.int 0] _ _
        refine go_ifP (t' := 20) (pc' := 18) rfl rfl rfl (fun _ => ?_) (fun (c : ¬ ((0 : Int32) = 0)) => absurd (by decide) c)
        have em : mru (I, Q, Z) = (I, Q, Z) := if_neg (fun z => by have z2 := z.2; unfold mha at z2; rw [← e04] at z2; exact absurd (u5.symm.trans z2) (by decide))
        have hI2 := hI
        have hC2 : CA w e m0 (B + 40) h3 (I, Q, Z) := ⟨X, ow, sb, hS, hD, Nat.le_trans hB (by omega), hQ⟩
        obtain ⟨M1, eM1⟩ : ∃ x, x = (I, Q, Z) := ⟨_, rfl⟩
        have em := em.trans eM1.symm
        rw [← eM1] at hI2 hC2
        obtain ⟨I1, Q1, Z1⟩ := M1
        refine run20 (B := B + 40) (I := I1) (Q := Q1) (Z := Z1) hC2 (by omega) hI2 (by omega) (fun h9 hC9 t9 s9 hI9 => ?_) (fun hn9 hC9 => ?_)
        · skip
          refine go_ninc (pc' := 32) (a := i) (n := 1) (lo' := [some (.ref 1), some (.int (nI (i + 1)))]) rfl rfl rfl rfl rfl rfl ?_
          refine go_s (pc' := 2) rfl rfl rfl rfl ?_
          obtain ⟨M2, eM2⟩ : ∃ x, x = mbeg (I1, Q1, Z1) := ⟨_, rfl⟩
          rw [← eM2] at hC9 hI9
          obtain ⟨I2, Q2, Z2⟩ := M2
          have es : mset (k + 1) (I, Q, Z) = mset k (I2, Q2, Z2) := by
            show (if (mru (I, Q, Z)).1 16 0 = 0 ∧ ¬ (mru (I, Q, Z)).1 21 0 = 0 then mset k (mbeg (mru (I, Q, Z))) else mru (I, Q, Z)) = _
            rw [em, if_pos ⟨t9, s9⟩, eM2]
          rw [es]
          have := ih (i + 1) (B + 40) h9 I2 Q2 Z2 (by omega) hC9 (by omega) hI9
          rw [show B + 40 * (k + 1) = B + 40 + 40 * k by omega]
          exact this
        · have es : mset (k + 1) (I, Q, Z) = (I1, Q1, Z1) := by
            show (if (mru (I, Q, Z)).1 16 0 = 0 ∧ ¬ (mru (I, Q, Z)).1 21 0 = 0 then mset k (mbeg (mru (I, Q, Z))) else mru (I, Q, Z)) = _
            rw [em, if_neg hn9]
          rw [es]
          exact ⟨rfl, CA_le hC9 (by omega)⟩
      · skip
        show am_Go _ _ _ _ 17 _ [.int 1] _ _
        refine go_ifP (t' := 20) (pc' := 18) rfl rfl rfl (fun (c : (1 : Int32) = 0) => absurd c (by decide)) (fun _ => ?_)
        refine go_s (pc' := 19) rfl rfl rfl rfl ?_
        have hC1 : CA w e m0 B h3 (I, Q, Z) := ⟨X, ow, sb, hS, hD, hB, hQ⟩
        refine go_callV (pc' := 20) rfl rfl rfl (Nat.le_of_ble_eq_true rfl) rfl (sm_o hS rfl) rfl rfl rfl (cm_end hC1 (by omega) hv hI.2.2.2.1 (by omega)) (fun r h6 q7 => ?_)
        obtain ⟨rfl, hC2⟩ := q7
        have em : mru (I, Q, Z) = mfin (I, Q, Z) := if_pos ⟨c2, by unfold mha; rw [← e04]; exact u5⟩
        have hI2 := SI_fin hI
        obtain ⟨M1, eM1⟩ : ∃ x, x = mfin (I, Q, Z) := ⟨_, rfl⟩
        have em := em.trans eM1.symm
        rw [← eM1] at hI2 hC2
        obtain ⟨I1, Q1, Z1⟩ := M1
        refine run20 (B := B + 40) (I := I1) (Q := Q1) (Z := Z1) hC2 (by omega) hI2 (by omega) (fun h9 hC9 t9 s9 hI9 => ?_) (fun hn9 hC9 => ?_)
        · skip
          refine go_ninc (pc' := 32) (a := i) (n := 1) (lo' := [some (.ref 1), some (.int (nI (i + 1)))]) rfl rfl rfl rfl rfl rfl ?_
          refine go_s (pc' := 2) rfl rfl rfl rfl ?_
          obtain ⟨M2, eM2⟩ : ∃ x, x = mbeg (I1, Q1, Z1) := ⟨_, rfl⟩
          rw [← eM2] at hC9 hI9
          obtain ⟨I2, Q2, Z2⟩ := M2
          have es : mset (k + 1) (I, Q, Z) = mset k (I2, Q2, Z2) := by
            show (if (mru (I, Q, Z)).1 16 0 = 0 ∧ ¬ (mru (I, Q, Z)).1 21 0 = 0 then mset k (mbeg (mru (I, Q, Z))) else mru (I, Q, Z)) = _
            rw [em, if_pos ⟨t9, s9⟩, eM2]
          rw [es]
          have := ih (i + 1) (B + 40) h9 I2 Q2 Z2 (by omega) hC9 (by omega) hI9
          rw [show B + 40 * (k + 1) = B + 40 + 40 * k by omega]
          exact this
        · have es : mset (k + 1) (I, Q, Z) = (I1, Q1, Z1) := by
            show (if (mru (I, Q, Z)).1 16 0 = 0 ∧ ¬ (mru (I, Q, Z)).1 21 0 = 0 then mset k (mbeg (mru (I, Q, Z))) else mru (I, Q, Z)) = _
            rw [em, if_neg hn9]
          rw [es]
          exact ⟨rfl, CA_le hC9 (by omega)⟩
theorem cm_run {w : Nat → Bool} {d : Nat} {h : am_Hp} {e : Nat} {m0 : mg} {B : Nat} {I : sm_I} {Q : mQ} {Z : mZ} (hC : CA w e m0 B h (I, Q, Z)) (hB2 : B < 2 ^ 27) (hI : SI (I, Q, Z)) (hd : 7 ≤ d) : am_Ev (am_prog w) d 41 [.ref 1] h (fun r h' => r = none ∧ CA w e m0 (B + 400) h' (mset 10 (I, Q, Z))) := by
  obtain ⟨d, rfl⟩ : ∃ e, d = e + 1 := ⟨d - 1, by omega⟩
  refine ev_go rfl (Nat.le_of_ble_eq_true rfl) rfl ?_
  refine go_s (pc' := 1) (st' := [.int 0]) rfl rfl rfl rfl ?_
  refine go_s (pc' := 2) (lo' := [some (.ref 1), some (.int 0)]) rfl rfl rfl rfl ?_
  exact lp_run (by omega) 10 0 B h I Q Z rfl hC (by omega) hI
