theorem cm_rst_0_11 {w : Nat → Bool} {d : Nat} {h : am_Hp} {m0 : mg} {B : Nat} {I : sm_I} {Q : mQ} {Z : mZ} (hC : CA w 32 m0 B h (I, Q, Z)) (hB2 : B < 2 ^ 25) (e0 : I 11 0 = -1) (u0 : us I 0 = true) (u1 : us I 1 = true) (hK : mrk (dsk I 0)) (hd : 7 ≤ d) : am_Ev (am_prog w) d 69 [.ref 1, .ref 32] h (fun r h' => r = none ∧ CA w 32 m0 (B + 920) h' (mrst 0 (I, Q, Z))) := by
  obtain ⟨X, ow, sb, hS, hD, hB, hQ⟩ := hC
  change sm tbc h I X at hS
  change CD w 32 m0 h I Q Z X ow sb at hD
  change co h I ≤ B at hB
  change ∀ l, l < 16 → (Q l).length ≤ h.length at hQ
  have hW := hD.1.1
  have hWn : ∀ a, List.length h ≤ a → w a = true := fun a ha => (hD.1.2.1 a ha).1
  have hF1 := fr_refl tbc h
  have hln : 62 ≤ List.length h := sm_len hS
  obtain ⟨d, rfl⟩ : ∃ e, d = e + 1 := ⟨d - 1, by omega⟩
  refine ev_go rfl (Nat.le_of_ble_eq_true rfl) rfl ?_
  have hch : chs I = 0 := by simp [chs, u0, u1]
  by_cases v1 : I 0 0 = 0
  · skip
    by_cases v2 : I 0 1 = 0
    · skip
      have hfu : fup I 0 = -1 := by simp [fup, v1, v2]
      refine go_s (pc' := 1) rfl rfl rfl rfl ?_
      refine go_sget (pc' := 2) (v := .ref 2) hS rfl rfl rfl (by decide) rfl rfl ?_
      refine go_s (pc' := 3) rfl rfl rfl rfl ?_
      refine go_sget (pc' := 4) (v := .int 0) hS rfl rfl rfl (by decide) rfl rfl ?_
      refine go_callV (pc' := 5) rfl rfl rfl (Nat.le_of_ble_eq_true rfl) rfl (sm_o hS rfl) rfl rfl rfl (ct_fup_0 hS (by omega)) (fun r h2 q3 => ?_)
      obtain ⟨rfl, rfl⟩ := q3
      rw [hfu]
      refine go_s (pc' := 6) (lo' := [some (.ref 1), some (.ref 32), some (.int (-1)), none]) rfl rfl rfl rfl ?_
      refine go_s (pc' := 7) rfl rfl rfl rfl ?_
      refine go_s (pc' := 8) (st' := [.int (-1), .int (-1)]) rfl rfl rfl rfl ?_
      refine go_icmpP (t' := 10) (pc' := 9) rfl rfl rfl (fun (c : ¬ ((-1) : Int32) = (-1)) => absurd c (by decide)) (fun _ => ?_)
      refine go_ret rfl rfl ?_
      have hms : mrst 0 (I, Q, Z) = (I, Q, Z) := if_pos (Or.inr (Or.inl hfu))
      rw [hms]
      exact ⟨rfl, X, ow, sb, hS, hD, Nat.le_trans hB (by omega), hQ⟩
    · skip
      have hfu : fup I 0 = 1 := by simp [fup, v1, v2] <;> rfl
      refine go_s (pc' := 1) rfl rfl rfl rfl ?_
      refine go_sget (pc' := 2) (v := .ref 2) hS rfl rfl rfl (by decide) rfl rfl ?_
      refine go_s (pc' := 3) rfl rfl rfl rfl ?_
      refine go_sget (pc' := 4) (v := .int 0) hS rfl rfl rfl (by decide) rfl rfl ?_
      refine go_callV (pc' := 5) rfl rfl rfl (Nat.le_of_ble_eq_true rfl) rfl (sm_o hS rfl) rfl rfl rfl (ct_fup_0 hS (by omega)) (fun r h4 q5 => ?_)
      obtain ⟨rfl, rfl⟩ := q5
      rw [hfu]
      refine go_s (pc' := 6) (lo' := [some (.ref 1), some (.ref 32), some (.int 1), none]) rfl rfl rfl rfl ?_
      refine go_s (pc' := 7) rfl rfl rfl rfl ?_
      refine go_s (pc' := 8) (st' := [.int (-1), .int 1]) rfl rfl rfl rfl ?_
      refine go_icmpP (t' := 10) (pc' := 9) rfl rfl rfl (fun _ => ?_) (fun (c : ¬ (¬ (1 : Int32) = (-1))) => absurd (by decide) c)
      refine go_s (pc' := 11) rfl rfl rfl rfl ?_
      refine go_instF (pc' := 12) rfl (sm_o hS rfl) rfl (by decide) (by decide) rfl ?_
      refine go_ifP (t' := 19) (pc' := 13) rfl rfl rfl (fun _ => ?_) (fun (c : ¬ ((0 : Int32) = 0)) => absurd (by decide) c)
      refine go_s (pc' := 20) rfl rfl rfl rfl ?_
      refine go_callV (pc' := 21) rfl rfl rfl (Nat.le_of_ble_eq_true rfl) rfl (sm_o hS rfl) rfl rfl rfl (cx_rss_11 hS hD hB hQ (by omega) u0 u1 hK (by omega)) (fun r h6 q7 => ?_)
      obtain ⟨rfl, L, S9, hL9, hn9, hS9, hSs9, hm9, hb9, hF9⟩ := q7
      refine go_ifP (t' := 23) (pc' := 22) rfl rfl rfl (fun _ => ?_) (fun (c : ¬ (¬ (1 : Int32) = 0)) => absurd (by decide) c)
      refine go_s (pc' := 24) rfl rfl rfl rfl ?_
      refine go_s (pc' := 25) rfl rfl rfl rfl ?_
      refine go_sput (pc' := 26) hS9 rfl rfl rfl (by decide) tbc_inj (Nat.le_of_ble_eq_true rfl) rfl (hW _ rfl) rfl (fun h8 hS9 hE10 => ?_)
      have hF11 := fr_trans hF9 (fr_e hE10)
      have hSs10 : sm (tbs (adN L (L + 1))) h8 S9 (fun _ _ => .null) := sm_dyn hSs9 (fun x hx => hE10.2.2 x (by
        obtain ⟨y, hy⟩ := Option.ne_none_iff_exists'.mp hx
        obtain ⟨i, hi, rfl, -⟩ := tbs_of hy
        exact tbc_out _ (by have := adN_ge (L := L) (n := L + 1) (by omega) hi; omega)))
      have hl10 : List.length h8 = _ := hE10.1
      have hci : chI I = uI (uI I 5 1 0) 6 1 0 := if_pos (by rw [u0, u1]; rfl)
      have hJ : (mrS 0 1 (I, Q, Z)).1 = uI (uI (uI (uI (uI (uI (uI (uI I 5 1 0) 6 1 0) 23 0 1) 22 0 0) 22 1 0) 16 0 2) 11 0 (nI 1)) 40 0 0 := by
        show uI (uI (uI (uI (uI (uI (chI I) 23 0 1) 22 0 0) 22 1 0) 16 0 2) 11 0 (nI 1)) 40 0 0 = _
        rw [hci]
      have hlv : lv (mrS 0 1 (I, Q, Z)).1 0 = true := lv_of (p := 1) (by rw [hJ]; simp [uI]) (by decide) (by rw [hJ]; show ¬ I 0 1 = 0; exact v2)
      have e11 : (mrS 0 1 (I, Q, Z)).1 11 0 = 1 := by rw [hJ]; simp [uI] <;> rfl
      have e0o : (mrS 0 1 (I, Q, Z)).1 0 0 = I 0 0 := by rw [hJ]; rfl
      have hdt : DT (mrS 0 1 (I, Q, Z)).1 ((uX (uX (uX (uX X 205 1 (.int 0)) 208 0 (.ref L)) 206 0 (.int 0)) 206 1 (.int 0))) := DT_rs hD.2.2.2.1 (by rw [hJ]; rfl) (by rw [hJ]; rfl) rfl (fun d hd => by
        rw [hJ]
        have : d = 0 ∨ d = 1 := by omega
        rcases this with rfl | rfl <;> exact ⟨rfl, rfl⟩) (fun d hd => by
        rw [hJ]
        have : d = 0 ∨ d = 1 := by omega
        rcases this with rfl | rfl
        · exact Or.inl ⟨rfl, rfl⟩
        · exact Or.inr ⟨rfl, rfl⟩)
      have hcd : CD w 32 m0 h8 (mrS 0 1 (I, Q, Z)).1 Q (uZ Z (1 % 2) (mrs2 (dsk I 0))) ((uX (uX (uX (uX X 205 1 (.int 0)) 208 0 (.ref L)) 206 0 (.int 0)) 206 1 (.int 0))) (own ow L (L + 1)) L := CD_new (hm := 1) hD hF11 (by omega) hL9 (by omega) (by omega) hSs10 (by decide) (fun c h1 h2 h3 h4 h5 h6 h7 h8 => by rw [hJ]; funext j; simp [uI, h1, h2, h3, h4, h5, h6, h7]) (by rw [hJ]; simp [uI]) (fun j hj => by rw [hJ]; simp [uI, hj]) (by rw [hJ]; simp [uI]) (fun j hj => by rw [hJ]; simp [uI, hj]) (by rw [hJ]; rfl) hdt (by simp [uX]) (fun c h1 h2 h3 => by funext j; simp [uX, h1, h2, h3]) (SQ_rs hm9 hb9)
      have hB5 : co h4 I ≤ B := hB
      have hD12 : CD w 32 m0 h8 (mrS 0 1 (I, Q, Z)).1 (mrS 0 1 (I, Q, Z)).2.1 (mrS 0 1 (I, Q, Z)).2.2 ((uX (uX (uX (uX X 205 1 (.int 0)) 208 0 (.ref L)) 206 0 (.int 0)) 206 1 (.int 0))) (own ow L (L + 1)) L := hcd
      have hS15 : sm tbc h8 (mrS 0 1 (I, Q, Z)).1 ((uX (uX (uX (uX X 205 1 (.int 0)) 208 0 (.ref L)) 206 0 (.int 0)) 206 1 (.int 0))) := by
        rw [hJ]
        refine sm_hid hS9 (fun c j hc => ?_)
        have h1 : c ≠ 22 := fun e => by subst e; cases hc
        have h2 : c ≠ 40 := fun e => by subst e; cases hc
        have h3 : c ≠ 6 := fun e => by subst e; cases hc
        simp [uI, h1, h2, h3] <;> rfl
      have hB13 : co h8 (mrS 0 1 (I, Q, Z)).1 ≤ (B + 573) := by
        have z1 := co_fr (I := I) (J := (mrS 0 1 (I, Q, Z)).1) hF11 (by rw [hJ]; rfl)
        have z2 := hB
        omega
      have hQ14 : ∀ l, l < 16 → ((mrS 0 1 (I, Q, Z)).2.1 l).length ≤ List.length h8 := fun l hl => Nat.le_trans (hQ l hl) hF11.1
      obtain ⟨X16, eX16⟩ : ∃ y, y = ((uX (uX (uX (uX X 205 1 (.int 0)) 208 0 (.ref L)) 206 0 (.int 0)) 206 1 (.int 0))) := ⟨_, rfl⟩
      rw [← eX16] at hD12 hS15
      obtain ⟨M17, eM17⟩ : ∃ y : mM, y = (mrS 0 1 (I, Q, Z)) := ⟨_, rfl⟩
      rw [← eM17] at hD12 hS15 hB13 hQ14
      obtain ⟨I17, Q17, Z17⟩ := M17
      change CD w 32 m0 h8 I17 Q17 Z17 X16 (own ow L (L + 1)) L at hD12
      change sm tbc h8 I17 X16 at hS15
      change co h8 I17 ≤ (B + 573) at hB13
      change ∀ l, l < 16 → (Q17 l).length ≤ List.length h8 at hQ14
      have hW := hD12.1.1
      have hWn : ∀ a, List.length h8 ≤ a → w a = true := fun a ha => (hD12.1.2.1 a ha).1
      have hF18 := fr_refl tbc h8
      have hln : 62 ≤ List.length h8 := sm_len hS15
      rw [← eM17] at hlv e11 e0o
      change I17 11 0 = 1 at e11
      change I17 0 0 = I 0 0 at e0o
      refine go_s (pc' := 27) rfl rfl rfl rfl ?_
      refine go_sget (pc' := 28) (v := .ref 2) hS15 rfl rfl rfl (by decide) rfl rfl ?_
      refine go_sget (pc' := 29) (v := .ref 3) hS15 rfl rfl rfl (by decide) rfl rfl ?_
      refine go_s (pc' := 30) rfl rfl rfl rfl ?_
      refine go_callV (pc' := 31) rfl rfl rfl (Nat.le_of_ble_eq_true rfl) rfl (sm_o hS15 rfl) rfl rfl rfl (ct_oh_0 hS15 (by omega)) (fun r h19 q20 => ?_)
      obtain ⟨rfl, rfl⟩ := q20
      have hoh : ohI I17 0 = 0 := by simp [ohI, e11]
      rw [hoh]
      refine go_sald (pc' := 32) (q := 0) (v := .int (I17 0 0)) hS15 rfl rfl rfl rfl (by decide) rfl rfl ?_
      refine go_ifP (t' := 36) (pc' := 33) rfl rfl rfl (fun (c21 : (I17 0 0) = 0) => ?_) (fun (c21 : ¬ (I17 0 0) = 0) => ?_)
      · skip
        refine go_ret rfl rfl ?_
        have hN : mrsN 0 (I, Q, Z) = (I17, Q17, Z17) := by
          unfold mrsN
          rw [if_pos rfl, show fup (I, Q, Z).1 0 = 1 from hfu, show chs (I, Q, Z).1 = 0 from hch]
          exact eM17.symm
        have hms : mrst 0 (I, Q, Z) = (I17, Q17, Z17) := by
          unfold mrst
          rw [if_neg (fun z => z.elim (fun z => z e0) (fun z => z.elim (fun z => absurd (hfu.symm.trans z) (by decide)) (fun z => absurd (hch.symm.trans z.2) (by decide)))), hN, show ohn ((I17, Q17, Z17)).1 0 = 0 by simp [ohn, e11], if_pos (show I 0 0 = 0 from e0o.symm.trans c21)]
        have hC22 : CA w 32 m0 (B + 573) h19 (I17, Q17, Z17) := ⟨X16, (own ow L (L + 1)), L, hS15, hD12, hB13, hQ14⟩
        rw [hms]
        exact ⟨rfl, CA_le hC22 (by omega)⟩
      · skip
        refine go_s (pc' := 34) rfl rfl rfl rfl ?_
        refine go_s (pc' := 35) rfl rfl rfl rfl ?_
        have hC23 : CA w 32 m0 (B + 573) h19 (I17, Q17, Z17) := ⟨X16, (own ow L (L + 1)), L, hS15, hD12, hB13, hQ14⟩
        refine go_callV (pc' := 36) rfl rfl rfl (Nat.le_of_ble_eq_true rfl) rfl (sm_o hS15 rfl) rfl rfl rfl (cm_sC_0 hC23 (by omega) hlv (by omega)) (fun r h24 q25 => ?_)
        obtain ⟨rfl, hC26⟩ := q25
        change CA w 32 m0 ((B + 573) + 344) h24 (msC 0 (I17, Q17, Z17)) at hC26
        obtain ⟨M27, eM27⟩ : ∃ y : mM, y = (msC 0 (I17, Q17, Z17)) := ⟨_, rfl⟩
        rw [← eM27] at hC26
        obtain ⟨I27, Q27, Z27⟩ := M27
        obtain ⟨X28, ow28, sb28, hS28, hD28, hB28, hQ28⟩ := hC26
        have hW := hD28.1.1
        have hWn : ∀ a, List.length h24 ≤ a → w a = true := fun a ha => (hD28.1.2.1 a ha).1
        have hF29 := fr_refl tbc h24
        have hln : 62 ≤ List.length h24 := sm_len hS28
        change CD w 32 m0 h24 I27 Q27 Z27 X28 ow28 sb28 at hD28
        change sm tbc h24 I27 X28 at hS28
        change co h24 I27 ≤ ((B + 573) + 344) at hB28
        change ∀ l, l < 16 → (Q27 l).length ≤ List.length h24 at hQ28
        have hW := hD28.1.1
        have hWn : ∀ a, List.length h24 ≤ a → w a = true := fun a ha => (hD28.1.2.1 a ha).1
        have hF30 := fr_refl tbc h24
        have hln : 62 ≤ List.length h24 := sm_len hS28
        refine go_ret rfl rfl ?_
        have hN : mrsN 0 (I, Q, Z) = (I17, Q17, Z17) := by
          unfold mrsN
          rw [if_pos rfl, show fup (I, Q, Z).1 0 = 1 from hfu, show chs (I, Q, Z).1 = 0 from hch]
          exact eM17.symm
        have hms : mrst 0 (I, Q, Z) = (I27, Q27, Z27) := by
          unfold mrst
          rw [if_neg (fun z => z.elim (fun z => z e0) (fun z => z.elim (fun z => absurd (hfu.symm.trans z) (by decide)) (fun z => absurd (hch.symm.trans z.2) (by decide)))), hN, show ohn ((I17, Q17, Z17)).1 0 = 0 by simp [ohn, e11], if_neg (show ¬ I 0 0 = 0 from fun z => c21 (e0o.trans z))]
          rw [← eM27]
        have hC31 : CA w 32 m0 ((B + 573) + 344) h24 (I27, Q27, Z27) := ⟨X28, ow28, sb28, hS28, hD28, hB28, hQ28⟩
        rw [hms]
        exact ⟨rfl, CA_le hC31 (by omega)⟩
  · skip
    have hfu : fup I 0 = 0 := by simp [fup, v1] <;> rfl
    refine go_s (pc' := 1) rfl rfl rfl rfl ?_
    refine go_sget (pc' := 2) (v := .ref 2) hS rfl rfl rfl (by decide) rfl rfl ?_
    refine go_s (pc' := 3) rfl rfl rfl rfl ?_
    refine go_sget (pc' := 4) (v := .int 0) hS rfl rfl rfl (by decide) rfl rfl ?_
    refine go_callV (pc' := 5) rfl rfl rfl (Nat.le_of_ble_eq_true rfl) rfl (sm_o hS rfl) rfl rfl rfl (ct_fup_0 hS (by omega)) (fun r h32 q33 => ?_)
    obtain ⟨rfl, rfl⟩ := q33
    rw [hfu]
    refine go_s (pc' := 6) (lo' := [some (.ref 1), some (.ref 32), some (.int 0), none]) rfl rfl rfl rfl ?_
    refine go_s (pc' := 7) rfl rfl rfl rfl ?_
    refine go_s (pc' := 8) (st' := [.int (-1), .int 0]) rfl rfl rfl rfl ?_
    refine go_icmpP (t' := 10) (pc' := 9) rfl rfl rfl (fun _ => ?_) (fun (c : ¬ (¬ (0 : Int32) = (-1))) => absurd (by decide) c)
    refine go_s (pc' := 11) rfl rfl rfl rfl ?_
    refine go_instF (pc' := 12) rfl (sm_o hS rfl) rfl (by decide) (by decide) rfl ?_
    refine go_ifP (t' := 19) (pc' := 13) rfl rfl rfl (fun _ => ?_) (fun (c : ¬ ((0 : Int32) = 0)) => absurd (by decide) c)
    refine go_s (pc' := 20) rfl rfl rfl rfl ?_
    refine go_callV (pc' := 21) rfl rfl rfl (Nat.le_of_ble_eq_true rfl) rfl (sm_o hS rfl) rfl rfl rfl (cx_rss_11 hS hD hB hQ (by omega) u0 u1 hK (by omega)) (fun r h34 q35 => ?_)
    obtain ⟨rfl, L, S9, hL9, hn9, hS9, hSs9, hm9, hb9, hF9⟩ := q35
    refine go_ifP (t' := 23) (pc' := 22) rfl rfl rfl (fun _ => ?_) (fun (c : ¬ (¬ (1 : Int32) = 0)) => absurd (by decide) c)
    refine go_s (pc' := 24) rfl rfl rfl rfl ?_
    refine go_s (pc' := 25) rfl rfl rfl rfl ?_
    refine go_sput (pc' := 26) hS9 rfl rfl rfl (by decide) tbc_inj (Nat.le_of_ble_eq_true rfl) rfl (hW _ rfl) rfl (fun h36 hS37 hE38 => ?_)
    have hF39 := fr_trans hF9 (fr_e hE38)
    have hSs10 : sm (tbs (adN L (L + 1))) h36 S9 (fun _ _ => .null) := sm_dyn hSs9 (fun x hx => hE38.2.2 x (by
      obtain ⟨y, hy⟩ := Option.ne_none_iff_exists'.mp hx
      obtain ⟨i, hi, rfl, -⟩ := tbs_of hy
      exact tbc_out _ (by have := adN_ge (L := L) (n := L + 1) (by omega) hi; omega)))
    have hl10 : List.length h36 = _ := hE38.1
    have hci : chI I = uI (uI I 5 1 0) 6 1 0 := if_pos (by rw [u0, u1]; rfl)
    have hJ : (mrS 0 0 (I, Q, Z)).1 = uI (uI (uI (uI (uI (uI (uI (uI I 5 1 0) 6 1 0) 23 0 1) 22 0 0) 22 1 0) 16 0 2) 11 0 (nI 0)) 40 0 0 := by
      show uI (uI (uI (uI (uI (uI (chI I) 23 0 1) 22 0 0) 22 1 0) 16 0 2) 11 0 (nI 0)) 40 0 0 = _
      rw [hci]
    have hlv : lv (mrS 0 0 (I, Q, Z)).1 0 = true := lv_of (p := 0) (by rw [hJ]; simp [uI]) (by decide) (by rw [hJ]; show ¬ I 0 0 = 0; exact v1)
    have e11 : (mrS 0 0 (I, Q, Z)).1 11 0 = 0 := by rw [hJ]; simp [uI] <;> rfl
    have e0o : (mrS 0 0 (I, Q, Z)).1 0 1 = I 0 1 := by rw [hJ]; rfl
    have hdt : DT (mrS 0 0 (I, Q, Z)).1 ((uX (uX (uX (uX X 205 1 (.int 0)) 208 0 (.ref L)) 206 0 (.int 0)) 206 1 (.int 0))) := DT_rs hD.2.2.2.1 (by rw [hJ]; rfl) (by rw [hJ]; rfl) rfl (fun d hd => by
      rw [hJ]
      have : d = 0 ∨ d = 1 := by omega
      rcases this with rfl | rfl <;> exact ⟨rfl, rfl⟩) (fun d hd => by
      rw [hJ]
      have : d = 0 ∨ d = 1 := by omega
      rcases this with rfl | rfl
      · exact Or.inl ⟨rfl, rfl⟩
      · exact Or.inr ⟨rfl, rfl⟩)
    have hcd : CD w 32 m0 h36 (mrS 0 0 (I, Q, Z)).1 Q (uZ Z (0 % 2) (mrs2 (dsk I 0))) ((uX (uX (uX (uX X 205 1 (.int 0)) 208 0 (.ref L)) 206 0 (.int 0)) 206 1 (.int 0))) (own ow L (L + 1)) L := CD_new (hm := 0) hD hF39 (by omega) hL9 (by omega) (by omega) hSs10 (by decide) (fun c h1 h2 h3 h4 h5 h6 h7 h8 => by rw [hJ]; funext j; simp [uI, h1, h2, h3, h4, h5, h6, h7]) (by rw [hJ]; simp [uI]) (fun j hj => by rw [hJ]; simp [uI, hj]) (by rw [hJ]; simp [uI]) (fun j hj => by rw [hJ]; simp [uI, hj]) (by rw [hJ]; rfl) hdt (by simp [uX]) (fun c h1 h2 h3 => by funext j; simp [uX, h1, h2, h3]) (SQ_rs hm9 hb9)
    have hB5 : co h32 I ≤ B := hB
    have hD40 : CD w 32 m0 h36 (mrS 0 0 (I, Q, Z)).1 (mrS 0 0 (I, Q, Z)).2.1 (mrS 0 0 (I, Q, Z)).2.2 ((uX (uX (uX (uX X 205 1 (.int 0)) 208 0 (.ref L)) 206 0 (.int 0)) 206 1 (.int 0))) (own ow L (L + 1)) L := hcd
    have hS43 : sm tbc h36 (mrS 0 0 (I, Q, Z)).1 ((uX (uX (uX (uX X 205 1 (.int 0)) 208 0 (.ref L)) 206 0 (.int 0)) 206 1 (.int 0))) := by
      rw [hJ]
      refine sm_hid hS37 (fun c j hc => ?_)
      have h1 : c ≠ 22 := fun e => by subst e; cases hc
      have h2 : c ≠ 40 := fun e => by subst e; cases hc
      have h3 : c ≠ 6 := fun e => by subst e; cases hc
      simp [uI, h1, h2, h3] <;> rfl
    have hB41 : co h36 (mrS 0 0 (I, Q, Z)).1 ≤ (B + 573) := by
      have z1 := co_fr (I := I) (J := (mrS 0 0 (I, Q, Z)).1) hF39 (by rw [hJ]; rfl)
      have z2 := hB
      omega
    have hQ42 : ∀ l, l < 16 → ((mrS 0 0 (I, Q, Z)).2.1 l).length ≤ List.length h36 := fun l hl => Nat.le_trans (hQ l hl) hF39.1
    obtain ⟨X44, eX44⟩ : ∃ y, y = ((uX (uX (uX (uX X 205 1 (.int 0)) 208 0 (.ref L)) 206 0 (.int 0)) 206 1 (.int 0))) := ⟨_, rfl⟩
    rw [← eX44] at hD40 hS43
    obtain ⟨M45, eM45⟩ : ∃ y : mM, y = (mrS 0 0 (I, Q, Z)) := ⟨_, rfl⟩
    rw [← eM45] at hD40 hS43 hB41 hQ42
    obtain ⟨I45, Q45, Z45⟩ := M45
    change CD w 32 m0 h36 I45 Q45 Z45 X44 (own ow L (L + 1)) L at hD40
    change sm tbc h36 I45 X44 at hS43
    change co h36 I45 ≤ (B + 573) at hB41
    change ∀ l, l < 16 → (Q45 l).length ≤ List.length h36 at hQ42
    have hW := hD40.1.1
    have hWn : ∀ a, List.length h36 ≤ a → w a = true := fun a ha => (hD40.1.2.1 a ha).1
    have hF46 := fr_refl tbc h36
    have hln : 62 ≤ List.length h36 := sm_len hS43
    rw [← eM45] at hlv e11 e0o
    change I45 11 0 = 0 at e11
    change I45 0 1 = I 0 1 at e0o
    refine go_s (pc' := 27) rfl rfl rfl rfl ?_
    refine go_sget (pc' := 28) (v := .ref 2) hS43 rfl rfl rfl (by decide) rfl rfl ?_
    refine go_sget (pc' := 29) (v := .ref 3) hS43 rfl rfl rfl (by decide) rfl rfl ?_
    refine go_s (pc' := 30) rfl rfl rfl rfl ?_
    refine go_callV (pc' := 31) rfl rfl rfl (Nat.le_of_ble_eq_true rfl) rfl (sm_o hS43 rfl) rfl rfl rfl (ct_oh_0 hS43 (by omega)) (fun r h47 q48 => ?_)
    obtain ⟨rfl, rfl⟩ := q48
    have hoh : ohI I45 0 = 1 := by simp [ohI, e11]
    rw [hoh]
    refine go_sald (pc' := 32) (q := 1) (v := .int (I45 0 1)) hS43 rfl rfl rfl rfl (by decide) rfl rfl ?_
    refine go_ifP (t' := 36) (pc' := 33) rfl rfl rfl (fun (c49 : (I45 0 1) = 0) => ?_) (fun (c49 : ¬ (I45 0 1) = 0) => ?_)
    · skip
      refine go_ret rfl rfl ?_
      have hN : mrsN 0 (I, Q, Z) = (I45, Q45, Z45) := by
        unfold mrsN
        rw [if_pos rfl, show fup (I, Q, Z).1 0 = 0 from hfu, show chs (I, Q, Z).1 = 0 from hch]
        exact eM45.symm
      have hms : mrst 0 (I, Q, Z) = (I45, Q45, Z45) := by
        unfold mrst
        rw [if_neg (fun z => z.elim (fun z => z e0) (fun z => z.elim (fun z => absurd (hfu.symm.trans z) (by decide)) (fun z => absurd (hch.symm.trans z.2) (by decide)))), hN, show ohn ((I45, Q45, Z45)).1 0 = 1 by simp [ohn, e11], if_pos (show I 0 1 = 0 from e0o.symm.trans c49)]
      have hC50 : CA w 32 m0 (B + 573) h47 (I45, Q45, Z45) := ⟨X44, (own ow L (L + 1)), L, hS43, hD40, hB41, hQ42⟩
      rw [hms]
      exact ⟨rfl, CA_le hC50 (by omega)⟩
    · skip
      refine go_s (pc' := 34) rfl rfl rfl rfl ?_
      refine go_s (pc' := 35) rfl rfl rfl rfl ?_
      have hC51 : CA w 32 m0 (B + 573) h47 (I45, Q45, Z45) := ⟨X44, (own ow L (L + 1)), L, hS43, hD40, hB41, hQ42⟩
      refine go_callV (pc' := 36) rfl rfl rfl (Nat.le_of_ble_eq_true rfl) rfl (sm_o hS43 rfl) rfl rfl rfl (cm_sC_0 hC51 (by omega) hlv (by omega)) (fun r h52 q53 => ?_)
      obtain ⟨rfl, hC54⟩ := q53
      change CA w 32 m0 ((B + 573) + 344) h52 (msC 0 (I45, Q45, Z45)) at hC54
      obtain ⟨M55, eM55⟩ : ∃ y : mM, y = (msC 0 (I45, Q45, Z45)) := ⟨_, rfl⟩
      rw [← eM55] at hC54
      obtain ⟨I55, Q55, Z55⟩ := M55
      obtain ⟨X56, ow56, sb56, hS56, hD56, hB56, hQ56⟩ := hC54
      have hW := hD56.1.1
      have hWn : ∀ a, List.length h52 ≤ a → w a = true := fun a ha => (hD56.1.2.1 a ha).1
      have hF57 := fr_refl tbc h52
      have hln : 62 ≤ List.length h52 := sm_len hS56
      change CD w 32 m0 h52 I55 Q55 Z55 X56 ow56 sb56 at hD56
      change sm tbc h52 I55 X56 at hS56
      change co h52 I55 ≤ ((B + 573) + 344) at hB56
      change ∀ l, l < 16 → (Q55 l).length ≤ List.length h52 at hQ56
      have hW := hD56.1.1
      have hWn : ∀ a, List.length h52 ≤ a → w a = true := fun a ha => (hD56.1.2.1 a ha).1
      have hF58 := fr_refl tbc h52
      have hln : 62 ≤ List.length h52 := sm_len hS56
      refine go_ret rfl rfl ?_
      have hN : mrsN 0 (I, Q, Z) = (I45, Q45, Z45) := by
        unfold mrsN
        rw [if_pos rfl, show fup (I, Q, Z).1 0 = 0 from hfu, show chs (I, Q, Z).1 = 0 from hch]
        exact eM45.symm
      have hms : mrst 0 (I, Q, Z) = (I55, Q55, Z55) := by
        unfold mrst
        rw [if_neg (fun z => z.elim (fun z => z e0) (fun z => z.elim (fun z => absurd (hfu.symm.trans z) (by decide)) (fun z => absurd (hch.symm.trans z.2) (by decide)))), hN, show ohn ((I45, Q45, Z45)).1 0 = 1 by simp [ohn, e11], if_neg (show ¬ I 0 1 = 0 from fun z => c49 (e0o.trans z))]
        rw [← eM55]
      have hC59 : CA w 32 m0 ((B + 573) + 344) h52 (I55, Q55, Z55) := ⟨X56, ow56, sb56, hS56, hD56, hB56, hQ56⟩
      rw [hms]
      exact ⟨rfl, CA_le hC59 (by omega)⟩
theorem cm_rst_0_10 {w : Nat → Bool} {d : Nat} {h : am_Hp} {m0 : mg} {B : Nat} {I : sm_I} {Q : mQ} {Z : mZ} (hC : CA w 32 m0 B h (I, Q, Z)) (hB2 : B < 2 ^ 25) (e0 : I 11 0 = -1) (u0 : us I 0 = true) (u1 : us I 1 = false) (hK : mrk (dsk I 0)) (hd : 7 ≤ d) : am_Ev (am_prog w) d 69 [.ref 1, .ref 32] h (fun r h' => r = none ∧ CA w 32 m0 (B + 920) h' (mrst 0 (I, Q, Z))) := by
  obtain ⟨X, ow, sb, hS, hD, hB, hQ⟩ := hC
  change sm tbc h I X at hS
  change CD w 32 m0 h I Q Z X ow sb at hD
  change co h I ≤ B at hB
  change ∀ l, l < 16 → (Q l).length ≤ h.length at hQ
  have hW := hD.1.1
  have hWn : ∀ a, List.length h ≤ a → w a = true := fun a ha => (hD.1.2.1 a ha).1
  have hF1 := fr_refl tbc h
  have hln : 62 ≤ List.length h := sm_len hS
  obtain ⟨d, rfl⟩ : ∃ e, d = e + 1 := ⟨d - 1, by omega⟩
  refine ev_go rfl (Nat.le_of_ble_eq_true rfl) rfl ?_
  have hch : chs I = 0 := by simp [chs, u0, u1]
  by_cases v1 : I 0 0 = 0
  · skip
    by_cases v2 : I 0 1 = 0
    · skip
      have hfu : fup I 0 = -1 := by simp [fup, v1, v2]
      refine go_s (pc' := 1) rfl rfl rfl rfl ?_
      refine go_sget (pc' := 2) (v := .ref 2) hS rfl rfl rfl (by decide) rfl rfl ?_
      refine go_s (pc' := 3) rfl rfl rfl rfl ?_
      refine go_sget (pc' := 4) (v := .int 0) hS rfl rfl rfl (by decide) rfl rfl ?_
      refine go_callV (pc' := 5) rfl rfl rfl (Nat.le_of_ble_eq_true rfl) rfl (sm_o hS rfl) rfl rfl rfl (ct_fup_0 hS (by omega)) (fun r h2 q3 => ?_)
      obtain ⟨rfl, rfl⟩ := q3
      rw [hfu]
      refine go_s (pc' := 6) (lo' := [some (.ref 1), some (.ref 32), some (.int (-1)), none]) rfl rfl rfl rfl ?_
      refine go_s (pc' := 7) rfl rfl rfl rfl ?_
      refine go_s (pc' := 8) (st' := [.int (-1), .int (-1)]) rfl rfl rfl rfl ?_
      refine go_icmpP (t' := 10) (pc' := 9) rfl rfl rfl (fun (c : ¬ ((-1) : Int32) = (-1)) => absurd c (by decide)) (fun _ => ?_)
      refine go_ret rfl rfl ?_
      have hms : mrst 0 (I, Q, Z) = (I, Q, Z) := if_pos (Or.inr (Or.inl hfu))
      rw [hms]
      exact ⟨rfl, X, ow, sb, hS, hD, Nat.le_trans hB (by omega), hQ⟩
    · skip
      have hfu : fup I 0 = 1 := by simp [fup, v1, v2] <;> rfl
      refine go_s (pc' := 1) rfl rfl rfl rfl ?_
      refine go_sget (pc' := 2) (v := .ref 2) hS rfl rfl rfl (by decide) rfl rfl ?_
      refine go_s (pc' := 3) rfl rfl rfl rfl ?_
      refine go_sget (pc' := 4) (v := .int 0) hS rfl rfl rfl (by decide) rfl rfl ?_
      refine go_callV (pc' := 5) rfl rfl rfl (Nat.le_of_ble_eq_true rfl) rfl (sm_o hS rfl) rfl rfl rfl (ct_fup_0 hS (by omega)) (fun r h4 q5 => ?_)
      obtain ⟨rfl, rfl⟩ := q5
      rw [hfu]
      refine go_s (pc' := 6) (lo' := [some (.ref 1), some (.ref 32), some (.int 1), none]) rfl rfl rfl rfl ?_
      refine go_s (pc' := 7) rfl rfl rfl rfl ?_
      refine go_s (pc' := 8) (st' := [.int (-1), .int 1]) rfl rfl rfl rfl ?_
      refine go_icmpP (t' := 10) (pc' := 9) rfl rfl rfl (fun _ => ?_) (fun (c : ¬ (¬ (1 : Int32) = (-1))) => absurd (by decide) c)
      refine go_s (pc' := 11) rfl rfl rfl rfl ?_
      refine go_instF (pc' := 12) rfl (sm_o hS rfl) rfl (by decide) (by decide) rfl ?_
      refine go_ifP (t' := 19) (pc' := 13) rfl rfl rfl (fun _ => ?_) (fun (c : ¬ ((0 : Int32) = 0)) => absurd (by decide) c)
      refine go_s (pc' := 20) rfl rfl rfl rfl ?_
      refine go_callV (pc' := 21) rfl rfl rfl (Nat.le_of_ble_eq_true rfl) rfl (sm_o hS rfl) rfl rfl rfl (cx_rss_10 hS hD hB hQ (by omega) u0 u1 hK (by omega)) (fun r h6 q7 => ?_)
      obtain ⟨rfl, L, S9, hL9, hn9, hS9, hSs9, hm9, hb9, hF9⟩ := q7
      refine go_ifP (t' := 23) (pc' := 22) rfl rfl rfl (fun _ => ?_) (fun (c : ¬ (¬ (1 : Int32) = 0)) => absurd (by decide) c)
      refine go_s (pc' := 24) rfl rfl rfl rfl ?_
      refine go_s (pc' := 25) rfl rfl rfl rfl ?_
      refine go_sput (pc' := 26) hS9 rfl rfl rfl (by decide) tbc_inj (Nat.le_of_ble_eq_true rfl) rfl (hW _ rfl) rfl (fun h8 hS9 hE10 => ?_)
      have hF11 := fr_trans hF9 (fr_e hE10)
      have hSs10 : sm (tbs (adN L (L + 1))) h8 S9 (fun _ _ => .null) := sm_dyn hSs9 (fun x hx => hE10.2.2 x (by
        obtain ⟨y, hy⟩ := Option.ne_none_iff_exists'.mp hx
        obtain ⟨i, hi, rfl, -⟩ := tbs_of hy
        exact tbc_out _ (by have := adN_ge (L := L) (n := L + 1) (by omega) hi; omega)))
      have hl10 : List.length h8 = _ := hE10.1
      have hci : chI I = I := if_neg (by rw [u0, u1]; decide)
      have hJ : (mrS 0 1 (I, Q, Z)).1 = uI (uI (uI (uI (uI (uI (I) 23 0 1) 22 0 0) 22 1 0) 16 0 2) 11 0 (nI 1)) 40 0 0 := by
        show uI (uI (uI (uI (uI (uI (chI I) 23 0 1) 22 0 0) 22 1 0) 16 0 2) 11 0 (nI 1)) 40 0 0 = _
        rw [hci]
      have hlv : lv (mrS 0 1 (I, Q, Z)).1 0 = true := lv_of (p := 1) (by rw [hJ]; simp [uI]) (by decide) (by rw [hJ]; show ¬ I 0 1 = 0; exact v2)
      have e11 : (mrS 0 1 (I, Q, Z)).1 11 0 = 1 := by rw [hJ]; simp [uI] <;> rfl
      have e0o : (mrS 0 1 (I, Q, Z)).1 0 0 = I 0 0 := by rw [hJ]; rfl
      have hdt : DT (mrS 0 1 (I, Q, Z)).1 ((uX (uX (uX X 208 0 (.ref L)) 206 0 (.int 0)) 206 1 (.int 0))) := DT_rs hD.2.2.2.1 (by rw [hJ]; rfl) (by rw [hJ]; rfl) rfl (fun d hd => by
        rw [hJ]
        have : d = 0 ∨ d = 1 := by omega
        rcases this with rfl | rfl <;> exact ⟨rfl, rfl⟩) (fun d hd => by
        rw [hJ]
        have : d = 0 ∨ d = 1 := by omega
        rcases this with rfl | rfl
        · exact Or.inl ⟨rfl, rfl⟩
        · exact Or.inl ⟨rfl, rfl⟩)
      have hcd : CD w 32 m0 h8 (mrS 0 1 (I, Q, Z)).1 Q (uZ Z (1 % 2) (mrs2 (dsk I 0))) ((uX (uX (uX X 208 0 (.ref L)) 206 0 (.int 0)) 206 1 (.int 0))) (own ow L (L + 1)) L := CD_new (hm := 1) hD hF11 (by omega) hL9 (by omega) (by omega) hSs10 (by decide) (fun c h1 h2 h3 h4 h5 h6 h7 h8 => by rw [hJ]; funext j; simp [uI, h1, h2, h3, h4, h5, h6, h7]) (by rw [hJ]; simp [uI]) (fun j hj => by rw [hJ]; simp [uI, hj]) (by rw [hJ]; simp [uI]) (fun j hj => by rw [hJ]; simp [uI, hj]) (by rw [hJ]; rfl) hdt (by simp [uX]) (fun c h1 h2 h3 => by funext j; simp [uX, h1, h2, h3]) (SQ_rs hm9 hb9)
      have hB5 : co h4 I ≤ B := hB
      have hD12 : CD w 32 m0 h8 (mrS 0 1 (I, Q, Z)).1 (mrS 0 1 (I, Q, Z)).2.1 (mrS 0 1 (I, Q, Z)).2.2 ((uX (uX (uX X 208 0 (.ref L)) 206 0 (.int 0)) 206 1 (.int 0))) (own ow L (L + 1)) L := hcd
      have hS15 : sm tbc h8 (mrS 0 1 (I, Q, Z)).1 ((uX (uX (uX X 208 0 (.ref L)) 206 0 (.int 0)) 206 1 (.int 0))) := by
        rw [hJ]
        refine sm_hid hS9 (fun c j hc => ?_)
        have h1 : c ≠ 22 := fun e => by subst e; cases hc
        have h2 : c ≠ 40 := fun e => by subst e; cases hc
        have h3 : c ≠ 6 := fun e => by subst e; cases hc
        simp [uI, h1, h2, h3] <;> rfl
      have hB13 : co h8 (mrS 0 1 (I, Q, Z)).1 ≤ (B + 573) := by
        have z1 := co_fr (I := I) (J := (mrS 0 1 (I, Q, Z)).1) hF11 (by rw [hJ]; rfl)
        have z2 := hB
        omega
      have hQ14 : ∀ l, l < 16 → ((mrS 0 1 (I, Q, Z)).2.1 l).length ≤ List.length h8 := fun l hl => Nat.le_trans (hQ l hl) hF11.1
      obtain ⟨X16, eX16⟩ : ∃ y, y = ((uX (uX (uX X 208 0 (.ref L)) 206 0 (.int 0)) 206 1 (.int 0))) := ⟨_, rfl⟩
      rw [← eX16] at hD12 hS15
      obtain ⟨M17, eM17⟩ : ∃ y : mM, y = (mrS 0 1 (I, Q, Z)) := ⟨_, rfl⟩
      rw [← eM17] at hD12 hS15 hB13 hQ14
      obtain ⟨I17, Q17, Z17⟩ := M17
      change CD w 32 m0 h8 I17 Q17 Z17 X16 (own ow L (L + 1)) L at hD12
      change sm tbc h8 I17 X16 at hS15
      change co h8 I17 ≤ (B + 573) at hB13
      change ∀ l, l < 16 → (Q17 l).length ≤ List.length h8 at hQ14
      have hW := hD12.1.1
      have hWn : ∀ a, List.length h8 ≤ a → w a = true := fun a ha => (hD12.1.2.1 a ha).1
      have hF18 := fr_refl tbc h8
      have hln : 62 ≤ List.length h8 := sm_len hS15
      rw [← eM17] at hlv e11 e0o
      change I17 11 0 = 1 at e11
      change I17 0 0 = I 0 0 at e0o
      refine go_s (pc' := 27) rfl rfl rfl rfl ?_
      refine go_sget (pc' := 28) (v := .ref 2) hS15 rfl rfl rfl (by decide) rfl rfl ?_
      refine go_sget (pc' := 29) (v := .ref 3) hS15 rfl rfl rfl (by decide) rfl rfl ?_
      refine go_s (pc' := 30) rfl rfl rfl rfl ?_
      refine go_callV (pc' := 31) rfl rfl rfl (Nat.le_of_ble_eq_true rfl) rfl (sm_o hS15 rfl) rfl rfl rfl (ct_oh_0 hS15 (by omega)) (fun r h19 q20 => ?_)
      obtain ⟨rfl, rfl⟩ := q20
      have hoh : ohI I17 0 = 0 := by simp [ohI, e11]
      rw [hoh]
      refine go_sald (pc' := 32) (q := 0) (v := .int (I17 0 0)) hS15 rfl rfl rfl rfl (by decide) rfl rfl ?_
      refine go_ifP (t' := 36) (pc' := 33) rfl rfl rfl (fun (c21 : (I17 0 0) = 0) => ?_) (fun (c21 : ¬ (I17 0 0) = 0) => ?_)
      · skip
        refine go_ret rfl rfl ?_
        have hN : mrsN 0 (I, Q, Z) = (I17, Q17, Z17) := by
          unfold mrsN
          rw [if_pos rfl, show fup (I, Q, Z).1 0 = 1 from hfu, show chs (I, Q, Z).1 = 0 from hch]
          exact eM17.symm
        have hms : mrst 0 (I, Q, Z) = (I17, Q17, Z17) := by
          unfold mrst
          rw [if_neg (fun z => z.elim (fun z => z e0) (fun z => z.elim (fun z => absurd (hfu.symm.trans z) (by decide)) (fun z => absurd (hch.symm.trans z.2) (by decide)))), hN, show ohn ((I17, Q17, Z17)).1 0 = 0 by simp [ohn, e11], if_pos (show I 0 0 = 0 from e0o.symm.trans c21)]
        have hC22 : CA w 32 m0 (B + 573) h19 (I17, Q17, Z17) := ⟨X16, (own ow L (L + 1)), L, hS15, hD12, hB13, hQ14⟩
        rw [hms]
        exact ⟨rfl, CA_le hC22 (by omega)⟩
      · skip
        refine go_s (pc' := 34) rfl rfl rfl rfl ?_
        refine go_s (pc' := 35) rfl rfl rfl rfl ?_
        have hC23 : CA w 32 m0 (B + 573) h19 (I17, Q17, Z17) := ⟨X16, (own ow L (L + 1)), L, hS15, hD12, hB13, hQ14⟩
        refine go_callV (pc' := 36) rfl rfl rfl (Nat.le_of_ble_eq_true rfl) rfl (sm_o hS15 rfl) rfl rfl rfl (cm_sC_0 hC23 (by omega) hlv (by omega)) (fun r h24 q25 => ?_)
        obtain ⟨rfl, hC26⟩ := q25
        change CA w 32 m0 ((B + 573) + 344) h24 (msC 0 (I17, Q17, Z17)) at hC26
        obtain ⟨M27, eM27⟩ : ∃ y : mM, y = (msC 0 (I17, Q17, Z17)) := ⟨_, rfl⟩
        rw [← eM27] at hC26
        obtain ⟨I27, Q27, Z27⟩ := M27
        obtain ⟨X28, ow28, sb28, hS28, hD28, hB28, hQ28⟩ := hC26
        have hW := hD28.1.1
        have hWn : ∀ a, List.length h24 ≤ a → w a = true := fun a ha => (hD28.1.2.1 a ha).1
        have hF29 := fr_refl tbc h24
        have hln : 62 ≤ List.length h24 := sm_len hS28
        change CD w 32 m0 h24 I27 Q27 Z27 X28 ow28 sb28 at hD28
        change sm tbc h24 I27 X28 at hS28
        change co h24 I27 ≤ ((B + 573) + 344) at hB28
        change ∀ l, l < 16 → (Q27 l).length ≤ List.length h24 at hQ28
        have hW := hD28.1.1
        have hWn : ∀ a, List.length h24 ≤ a → w a = true := fun a ha => (hD28.1.2.1 a ha).1
        have hF30 := fr_refl tbc h24
        have hln : 62 ≤ List.length h24 := sm_len hS28
        refine go_ret rfl rfl ?_
        have hN : mrsN 0 (I, Q, Z) = (I17, Q17, Z17) := by
          unfold mrsN
          rw [if_pos rfl, show fup (I, Q, Z).1 0 = 1 from hfu, show chs (I, Q, Z).1 = 0 from hch]
          exact eM17.symm
        have hms : mrst 0 (I, Q, Z) = (I27, Q27, Z27) := by
          unfold mrst
          rw [if_neg (fun z => z.elim (fun z => z e0) (fun z => z.elim (fun z => absurd (hfu.symm.trans z) (by decide)) (fun z => absurd (hch.symm.trans z.2) (by decide)))), hN, show ohn ((I17, Q17, Z17)).1 0 = 0 by simp [ohn, e11], if_neg (show ¬ I 0 0 = 0 from fun z => c21 (e0o.trans z))]
          rw [← eM27]
        have hC31 : CA w 32 m0 ((B + 573) + 344) h24 (I27, Q27, Z27) := ⟨X28, ow28, sb28, hS28, hD28, hB28, hQ28⟩
        rw [hms]
        exact ⟨rfl, CA_le hC31 (by omega)⟩
  · skip
    have hfu : fup I 0 = 0 := by simp [fup, v1] <;> rfl
    refine go_s (pc' := 1) rfl rfl rfl rfl ?_
    refine go_sget (pc' := 2) (v := .ref 2) hS rfl rfl rfl (by decide) rfl rfl ?_
    refine go_s (pc' := 3) rfl rfl rfl rfl ?_
    refine go_sget (pc' := 4) (v := .int 0) hS rfl rfl rfl (by decide) rfl rfl ?_
    refine go_callV (pc' := 5) rfl rfl rfl (Nat.le_of_ble_eq_true rfl) rfl (sm_o hS rfl) rfl rfl rfl (ct_fup_0 hS (by omega)) (fun r h32 q33 => ?_)
    obtain ⟨rfl, rfl⟩ := q33
    rw [hfu]
    refine go_s (pc' := 6) (lo' := [some (.ref 1), some (.ref 32), some (.int 0), none]) rfl rfl rfl rfl ?_
    refine go_s (pc' := 7) rfl rfl rfl rfl ?_
    refine go_s (pc' := 8) (st' := [.int (-1), .int 0]) rfl rfl rfl rfl ?_
    refine go_icmpP (t' := 10) (pc' := 9) rfl rfl rfl (fun _ => ?_) (fun (c : ¬ (¬ (0 : Int32) = (-1))) => absurd (by decide) c)
    refine go_s (pc' := 11) rfl rfl rfl rfl ?_
    refine go_instF (pc' := 12) rfl (sm_o hS rfl) rfl (by decide) (by decide) rfl ?_
    refine go_ifP (t' := 19) (pc' := 13) rfl rfl rfl (fun _ => ?_) (fun (c : ¬ ((0 : Int32) = 0)) => absurd (by decide) c)
    refine go_s (pc' := 20) rfl rfl rfl rfl ?_
    refine go_callV (pc' := 21) rfl rfl rfl (Nat.le_of_ble_eq_true rfl) rfl (sm_o hS rfl) rfl rfl rfl (cx_rss_10 hS hD hB hQ (by omega) u0 u1 hK (by omega)) (fun r h34 q35 => ?_)
    obtain ⟨rfl, L, S9, hL9, hn9, hS9, hSs9, hm9, hb9, hF9⟩ := q35
    refine go_ifP (t' := 23) (pc' := 22) rfl rfl rfl (fun _ => ?_) (fun (c : ¬ (¬ (1 : Int32) = 0)) => absurd (by decide) c)
    refine go_s (pc' := 24) rfl rfl rfl rfl ?_
    refine go_s (pc' := 25) rfl rfl rfl rfl ?_
    refine go_sput (pc' := 26) hS9 rfl rfl rfl (by decide) tbc_inj (Nat.le_of_ble_eq_true rfl) rfl (hW _ rfl) rfl (fun h36 hS37 hE38 => ?_)
    have hF39 := fr_trans hF9 (fr_e hE38)
    have hSs10 : sm (tbs (adN L (L + 1))) h36 S9 (fun _ _ => .null) := sm_dyn hSs9 (fun x hx => hE38.2.2 x (by
      obtain ⟨y, hy⟩ := Option.ne_none_iff_exists'.mp hx
      obtain ⟨i, hi, rfl, -⟩ := tbs_of hy
      exact tbc_out _ (by have := adN_ge (L := L) (n := L + 1) (by omega) hi; omega)))
    have hl10 : List.length h36 = _ := hE38.1
    have hci : chI I = I := if_neg (by rw [u0, u1]; decide)
    have hJ : (mrS 0 0 (I, Q, Z)).1 = uI (uI (uI (uI (uI (uI (I) 23 0 1) 22 0 0) 22 1 0) 16 0 2) 11 0 (nI 0)) 40 0 0 := by
      show uI (uI (uI (uI (uI (uI (chI I) 23 0 1) 22 0 0) 22 1 0) 16 0 2) 11 0 (nI 0)) 40 0 0 = _
      rw [hci]
    have hlv : lv (mrS 0 0 (I, Q, Z)).1 0 = true := lv_of (p := 0) (by rw [hJ]; simp [uI]) (by decide) (by rw [hJ]; show ¬ I 0 0 = 0; exact v1)
    have e11 : (mrS 0 0 (I, Q, Z)).1 11 0 = 0 := by rw [hJ]; simp [uI] <;> rfl
    have e0o : (mrS 0 0 (I, Q, Z)).1 0 1 = I 0 1 := by rw [hJ]; rfl
    have hdt : DT (mrS 0 0 (I, Q, Z)).1 ((uX (uX (uX X 208 0 (.ref L)) 206 0 (.int 0)) 206 1 (.int 0))) := DT_rs hD.2.2.2.1 (by rw [hJ]; rfl) (by rw [hJ]; rfl) rfl (fun d hd => by
      rw [hJ]
      have : d = 0 ∨ d = 1 := by omega
      rcases this with rfl | rfl <;> exact ⟨rfl, rfl⟩) (fun d hd => by
      rw [hJ]
      have : d = 0 ∨ d = 1 := by omega
      rcases this with rfl | rfl
      · exact Or.inl ⟨rfl, rfl⟩
      · exact Or.inl ⟨rfl, rfl⟩)
    have hcd : CD w 32 m0 h36 (mrS 0 0 (I, Q, Z)).1 Q (uZ Z (0 % 2) (mrs2 (dsk I 0))) ((uX (uX (uX X 208 0 (.ref L)) 206 0 (.int 0)) 206 1 (.int 0))) (own ow L (L + 1)) L := CD_new (hm := 0) hD hF39 (by omega) hL9 (by omega) (by omega) hSs10 (by decide) (fun c h1 h2 h3 h4 h5 h6 h7 h8 => by rw [hJ]; funext j; simp [uI, h1, h2, h3, h4, h5, h6, h7]) (by rw [hJ]; simp [uI]) (fun j hj => by rw [hJ]; simp [uI, hj]) (by rw [hJ]; simp [uI]) (fun j hj => by rw [hJ]; simp [uI, hj]) (by rw [hJ]; rfl) hdt (by simp [uX]) (fun c h1 h2 h3 => by funext j; simp [uX, h1, h2, h3]) (SQ_rs hm9 hb9)
    have hB5 : co h32 I ≤ B := hB
    have hD40 : CD w 32 m0 h36 (mrS 0 0 (I, Q, Z)).1 (mrS 0 0 (I, Q, Z)).2.1 (mrS 0 0 (I, Q, Z)).2.2 ((uX (uX (uX X 208 0 (.ref L)) 206 0 (.int 0)) 206 1 (.int 0))) (own ow L (L + 1)) L := hcd
    have hS43 : sm tbc h36 (mrS 0 0 (I, Q, Z)).1 ((uX (uX (uX X 208 0 (.ref L)) 206 0 (.int 0)) 206 1 (.int 0))) := by
      rw [hJ]
      refine sm_hid hS37 (fun c j hc => ?_)
      have h1 : c ≠ 22 := fun e => by subst e; cases hc
      have h2 : c ≠ 40 := fun e => by subst e; cases hc
      have h3 : c ≠ 6 := fun e => by subst e; cases hc
      simp [uI, h1, h2, h3] <;> rfl
    have hB41 : co h36 (mrS 0 0 (I, Q, Z)).1 ≤ (B + 573) := by
      have z1 := co_fr (I := I) (J := (mrS 0 0 (I, Q, Z)).1) hF39 (by rw [hJ]; rfl)
      have z2 := hB
      omega
    have hQ42 : ∀ l, l < 16 → ((mrS 0 0 (I, Q, Z)).2.1 l).length ≤ List.length h36 := fun l hl => Nat.le_trans (hQ l hl) hF39.1
    obtain ⟨X44, eX44⟩ : ∃ y, y = ((uX (uX (uX X 208 0 (.ref L)) 206 0 (.int 0)) 206 1 (.int 0))) := ⟨_, rfl⟩
    rw [← eX44] at hD40 hS43
    obtain ⟨M45, eM45⟩ : ∃ y : mM, y = (mrS 0 0 (I, Q, Z)) := ⟨_, rfl⟩
    rw [← eM45] at hD40 hS43 hB41 hQ42
    obtain ⟨I45, Q45, Z45⟩ := M45
    change CD w 32 m0 h36 I45 Q45 Z45 X44 (own ow L (L + 1)) L at hD40
    change sm tbc h36 I45 X44 at hS43
    change co h36 I45 ≤ (B + 573) at hB41
    change ∀ l, l < 16 → (Q45 l).length ≤ List.length h36 at hQ42
    have hW := hD40.1.1
    have hWn : ∀ a, List.length h36 ≤ a → w a = true := fun a ha => (hD40.1.2.1 a ha).1
    have hF46 := fr_refl tbc h36
    have hln : 62 ≤ List.length h36 := sm_len hS43
    rw [← eM45] at hlv e11 e0o
    change I45 11 0 = 0 at e11
    change I45 0 1 = I 0 1 at e0o
    refine go_s (pc' := 27) rfl rfl rfl rfl ?_
    refine go_sget (pc' := 28) (v := .ref 2) hS43 rfl rfl rfl (by decide) rfl rfl ?_
    refine go_sget (pc' := 29) (v := .ref 3) hS43 rfl rfl rfl (by decide) rfl rfl ?_
    refine go_s (pc' := 30) rfl rfl rfl rfl ?_
    refine go_callV (pc' := 31) rfl rfl rfl (Nat.le_of_ble_eq_true rfl) rfl (sm_o hS43 rfl) rfl rfl rfl (ct_oh_0 hS43 (by omega)) (fun r h47 q48 => ?_)
    obtain ⟨rfl, rfl⟩ := q48
    have hoh : ohI I45 0 = 1 := by simp [ohI, e11]
    rw [hoh]
    refine go_sald (pc' := 32) (q := 1) (v := .int (I45 0 1)) hS43 rfl rfl rfl rfl (by decide) rfl rfl ?_
    refine go_ifP (t' := 36) (pc' := 33) rfl rfl rfl (fun (c49 : (I45 0 1) = 0) => ?_) (fun (c49 : ¬ (I45 0 1) = 0) => ?_)
    · skip
      refine go_ret rfl rfl ?_
      have hN : mrsN 0 (I, Q, Z) = (I45, Q45, Z45) := by
        unfold mrsN
        rw [if_pos rfl, show fup (I, Q, Z).1 0 = 0 from hfu, show chs (I, Q, Z).1 = 0 from hch]
        exact eM45.symm
      have hms : mrst 0 (I, Q, Z) = (I45, Q45, Z45) := by
        unfold mrst
        rw [if_neg (fun z => z.elim (fun z => z e0) (fun z => z.elim (fun z => absurd (hfu.symm.trans z) (by decide)) (fun z => absurd (hch.symm.trans z.2) (by decide)))), hN, show ohn ((I45, Q45, Z45)).1 0 = 1 by simp [ohn, e11], if_pos (show I 0 1 = 0 from e0o.symm.trans c49)]
      have hC50 : CA w 32 m0 (B + 573) h47 (I45, Q45, Z45) := ⟨X44, (own ow L (L + 1)), L, hS43, hD40, hB41, hQ42⟩
      rw [hms]
      exact ⟨rfl, CA_le hC50 (by omega)⟩
    · skip
      refine go_s (pc' := 34) rfl rfl rfl rfl ?_
      refine go_s (pc' := 35) rfl rfl rfl rfl ?_
      have hC51 : CA w 32 m0 (B + 573) h47 (I45, Q45, Z45) := ⟨X44, (own ow L (L + 1)), L, hS43, hD40, hB41, hQ42⟩
      refine go_callV (pc' := 36) rfl rfl rfl (Nat.le_of_ble_eq_true rfl) rfl (sm_o hS43 rfl) rfl rfl rfl (cm_sC_0 hC51 (by omega) hlv (by omega)) (fun r h52 q53 => ?_)
      obtain ⟨rfl, hC54⟩ := q53
      change CA w 32 m0 ((B + 573) + 344) h52 (msC 0 (I45, Q45, Z45)) at hC54
      obtain ⟨M55, eM55⟩ : ∃ y : mM, y = (msC 0 (I45, Q45, Z45)) := ⟨_, rfl⟩
      rw [← eM55] at hC54
      obtain ⟨I55, Q55, Z55⟩ := M55
      obtain ⟨X56, ow56, sb56, hS56, hD56, hB56, hQ56⟩ := hC54
      have hW := hD56.1.1
      have hWn : ∀ a, List.length h52 ≤ a → w a = true := fun a ha => (hD56.1.2.1 a ha).1
      have hF57 := fr_refl tbc h52
      have hln : 62 ≤ List.length h52 := sm_len hS56
      change CD w 32 m0 h52 I55 Q55 Z55 X56 ow56 sb56 at hD56
      change sm tbc h52 I55 X56 at hS56
      change co h52 I55 ≤ ((B + 573) + 344) at hB56
      change ∀ l, l < 16 → (Q55 l).length ≤ List.length h52 at hQ56
      have hW := hD56.1.1
      have hWn : ∀ a, List.length h52 ≤ a → w a = true := fun a ha => (hD56.1.2.1 a ha).1
      have hF58 := fr_refl tbc h52
      have hln : 62 ≤ List.length h52 := sm_len hS56
      refine go_ret rfl rfl ?_
      have hN : mrsN 0 (I, Q, Z) = (I45, Q45, Z45) := by
        unfold mrsN
        rw [if_pos rfl, show fup (I, Q, Z).1 0 = 0 from hfu, show chs (I, Q, Z).1 = 0 from hch]
        exact eM45.symm
      have hms : mrst 0 (I, Q, Z) = (I55, Q55, Z55) := by
        unfold mrst
        rw [if_neg (fun z => z.elim (fun z => z e0) (fun z => z.elim (fun z => absurd (hfu.symm.trans z) (by decide)) (fun z => absurd (hch.symm.trans z.2) (by decide)))), hN, show ohn ((I45, Q45, Z45)).1 0 = 1 by simp [ohn, e11], if_neg (show ¬ I 0 1 = 0 from fun z => c49 (e0o.trans z))]
        rw [← eM55]
      have hC59 : CA w 32 m0 ((B + 573) + 344) h52 (I55, Q55, Z55) := ⟨X56, ow56, sb56, hS56, hD56, hB56, hQ56⟩
      rw [hms]
      exact ⟨rfl, CA_le hC59 (by omega)⟩
theorem cm_rst_0_01 {w : Nat → Bool} {d : Nat} {h : am_Hp} {m0 : mg} {B : Nat} {I : sm_I} {Q : mQ} {Z : mZ} (hC : CA w 32 m0 B h (I, Q, Z)) (hB2 : B < 2 ^ 25) (e0 : I 11 0 = -1) (u0 : us I 0 = false) (u1 : us I 1 = true) (hK : mrk (dsk I 1)) (hd : 7 ≤ d) : am_Ev (am_prog w) d 69 [.ref 1, .ref 32] h (fun r h' => r = none ∧ CA w 32 m0 (B + 920) h' (mrst 0 (I, Q, Z))) := by
  obtain ⟨X, ow, sb, hS, hD, hB, hQ⟩ := hC
  change sm tbc h I X at hS
  change CD w 32 m0 h I Q Z X ow sb at hD
  change co h I ≤ B at hB
  change ∀ l, l < 16 → (Q l).length ≤ h.length at hQ
  have hW := hD.1.1
  have hWn : ∀ a, List.length h ≤ a → w a = true := fun a ha => (hD.1.2.1 a ha).1
  have hF1 := fr_refl tbc h
  have hln : 62 ≤ List.length h := sm_len hS
  obtain ⟨d, rfl⟩ : ∃ e, d = e + 1 := ⟨d - 1, by omega⟩
  refine ev_go rfl (Nat.le_of_ble_eq_true rfl) rfl ?_
  have hch : chs I = 1 := by simp [chs, u0, u1]
  by_cases v1 : I 0 0 = 0
  · skip
    by_cases v2 : I 0 1 = 0
    · skip
      have hfu : fup I 0 = -1 := by simp [fup, v1, v2]
      refine go_s (pc' := 1) rfl rfl rfl rfl ?_
      refine go_sget (pc' := 2) (v := .ref 2) hS rfl rfl rfl (by decide) rfl rfl ?_
      refine go_s (pc' := 3) rfl rfl rfl rfl ?_
      refine go_sget (pc' := 4) (v := .int 0) hS rfl rfl rfl (by decide) rfl rfl ?_
      refine go_callV (pc' := 5) rfl rfl rfl (Nat.le_of_ble_eq_true rfl) rfl (sm_o hS rfl) rfl rfl rfl (ct_fup_0 hS (by omega)) (fun r h2 q3 => ?_)
      obtain ⟨rfl, rfl⟩ := q3
      rw [hfu]
      refine go_s (pc' := 6) (lo' := [some (.ref 1), some (.ref 32), some (.int (-1)), none]) rfl rfl rfl rfl ?_
      refine go_s (pc' := 7) rfl rfl rfl rfl ?_
      refine go_s (pc' := 8) (st' := [.int (-1), .int (-1)]) rfl rfl rfl rfl ?_
      refine go_icmpP (t' := 10) (pc' := 9) rfl rfl rfl (fun (c : ¬ ((-1) : Int32) = (-1)) => absurd c (by decide)) (fun _ => ?_)
      refine go_ret rfl rfl ?_
      have hms : mrst 0 (I, Q, Z) = (I, Q, Z) := if_pos (Or.inr (Or.inl hfu))
      rw [hms]
      exact ⟨rfl, X, ow, sb, hS, hD, Nat.le_trans hB (by omega), hQ⟩
    · skip
      have hfu : fup I 0 = 1 := by simp [fup, v1, v2] <;> rfl
      refine go_s (pc' := 1) rfl rfl rfl rfl ?_
      refine go_sget (pc' := 2) (v := .ref 2) hS rfl rfl rfl (by decide) rfl rfl ?_
      refine go_s (pc' := 3) rfl rfl rfl rfl ?_
      refine go_sget (pc' := 4) (v := .int 0) hS rfl rfl rfl (by decide) rfl rfl ?_
      refine go_callV (pc' := 5) rfl rfl rfl (Nat.le_of_ble_eq_true rfl) rfl (sm_o hS rfl) rfl rfl rfl (ct_fup_0 hS (by omega)) (fun r h4 q5 => ?_)
      obtain ⟨rfl, rfl⟩ := q5
      rw [hfu]
      refine go_s (pc' := 6) (lo' := [some (.ref 1), some (.ref 32), some (.int 1), none]) rfl rfl rfl rfl ?_
      refine go_s (pc' := 7) rfl rfl rfl rfl ?_
      refine go_s (pc' := 8) (st' := [.int (-1), .int 1]) rfl rfl rfl rfl ?_
      refine go_icmpP (t' := 10) (pc' := 9) rfl rfl rfl (fun _ => ?_) (fun (c : ¬ (¬ (1 : Int32) = (-1))) => absurd (by decide) c)
      refine go_s (pc' := 11) rfl rfl rfl rfl ?_
      refine go_instF (pc' := 12) rfl (sm_o hS rfl) rfl (by decide) (by decide) rfl ?_
      refine go_ifP (t' := 19) (pc' := 13) rfl rfl rfl (fun _ => ?_) (fun (c : ¬ ((0 : Int32) = 0)) => absurd (by decide) c)
      refine go_s (pc' := 20) rfl rfl rfl rfl ?_
      refine go_callV (pc' := 21) rfl rfl rfl (Nat.le_of_ble_eq_true rfl) rfl (sm_o hS rfl) rfl rfl rfl (cx_rss_01 hS hD hB hQ (by omega) u0 u1 hK (by omega)) (fun r h6 q7 => ?_)
      obtain ⟨rfl, L, S9, hL9, hn9, hS9, hSs9, hm9, hb9, hF9⟩ := q7
      refine go_ifP (t' := 23) (pc' := 22) rfl rfl rfl (fun _ => ?_) (fun (c : ¬ (¬ (1 : Int32) = 0)) => absurd (by decide) c)
      refine go_s (pc' := 24) rfl rfl rfl rfl ?_
      refine go_s (pc' := 25) rfl rfl rfl rfl ?_
      refine go_sput (pc' := 26) hS9 rfl rfl rfl (by decide) tbc_inj (Nat.le_of_ble_eq_true rfl) rfl (hW _ rfl) rfl (fun h8 hS9 hE10 => ?_)
      have hF11 := fr_trans hF9 (fr_e hE10)
      have hSs10 : sm (tbs (adN L (L + 1))) h8 S9 (fun _ _ => .null) := sm_dyn hSs9 (fun x hx => hE10.2.2 x (by
        obtain ⟨y, hy⟩ := Option.ne_none_iff_exists'.mp hx
        obtain ⟨i, hi, rfl, -⟩ := tbs_of hy
        exact tbc_out _ (by have := adN_ge (L := L) (n := L + 1) (by omega) hi; omega)))
      have hl10 : List.length h8 = _ := hE10.1
      have hci : chI I = I := if_neg (by rw [u0, u1]; decide)
      have hJ : (mrS 1 1 (I, Q, Z)).1 = uI (uI (uI (uI (uI (uI (I) 23 0 1) 22 0 0) 22 1 0) 16 0 2) 11 0 (nI 1)) 40 0 0 := by
        show uI (uI (uI (uI (uI (uI (chI I) 23 0 1) 22 0 0) 22 1 0) 16 0 2) 11 0 (nI 1)) 40 0 0 = _
        rw [hci]
      have hlv : lv (mrS 1 1 (I, Q, Z)).1 0 = true := lv_of (p := 1) (by rw [hJ]; simp [uI]) (by decide) (by rw [hJ]; show ¬ I 0 1 = 0; exact v2)
      have e11 : (mrS 1 1 (I, Q, Z)).1 11 0 = 1 := by rw [hJ]; simp [uI] <;> rfl
      have e0o : (mrS 1 1 (I, Q, Z)).1 0 0 = I 0 0 := by rw [hJ]; rfl
      have hdt : DT (mrS 1 1 (I, Q, Z)).1 ((uX (uX (uX X 208 0 (.ref L)) 206 0 (.int 0)) 206 1 (.int 0))) := DT_rs hD.2.2.2.1 (by rw [hJ]; rfl) (by rw [hJ]; rfl) rfl (fun d hd => by
        rw [hJ]
        have : d = 0 ∨ d = 1 := by omega
        rcases this with rfl | rfl <;> exact ⟨rfl, rfl⟩) (fun d hd => by
        rw [hJ]
        have : d = 0 ∨ d = 1 := by omega
        rcases this with rfl | rfl
        · exact Or.inl ⟨rfl, rfl⟩
        · exact Or.inl ⟨rfl, rfl⟩)
      have hcd : CD w 32 m0 h8 (mrS 1 1 (I, Q, Z)).1 Q (uZ Z (1 % 2) (mrs2 (dsk I 1))) ((uX (uX (uX X 208 0 (.ref L)) 206 0 (.int 0)) 206 1 (.int 0))) (own ow L (L + 1)) L := CD_new (hm := 1) hD hF11 (by omega) hL9 (by omega) (by omega) hSs10 (by decide) (fun c h1 h2 h3 h4 h5 h6 h7 h8 => by rw [hJ]; funext j; simp [uI, h1, h2, h3, h4, h5, h6, h7]) (by rw [hJ]; simp [uI]) (fun j hj => by rw [hJ]; simp [uI, hj]) (by rw [hJ]; simp [uI]) (fun j hj => by rw [hJ]; simp [uI, hj]) (by rw [hJ]; rfl) hdt (by simp [uX]) (fun c h1 h2 h3 => by funext j; simp [uX, h1, h2, h3]) (SQ_rs hm9 hb9)
      have hB5 : co h4 I ≤ B := hB
      have hD12 : CD w 32 m0 h8 (mrS 1 1 (I, Q, Z)).1 (mrS 1 1 (I, Q, Z)).2.1 (mrS 1 1 (I, Q, Z)).2.2 ((uX (uX (uX X 208 0 (.ref L)) 206 0 (.int 0)) 206 1 (.int 0))) (own ow L (L + 1)) L := hcd
      have hS15 : sm tbc h8 (mrS 1 1 (I, Q, Z)).1 ((uX (uX (uX X 208 0 (.ref L)) 206 0 (.int 0)) 206 1 (.int 0))) := by
        rw [hJ]
        refine sm_hid hS9 (fun c j hc => ?_)
        have h1 : c ≠ 22 := fun e => by subst e; cases hc
        have h2 : c ≠ 40 := fun e => by subst e; cases hc
        have h3 : c ≠ 6 := fun e => by subst e; cases hc
        simp [uI, h1, h2, h3] <;> rfl
      have hB13 : co h8 (mrS 1 1 (I, Q, Z)).1 ≤ (B + 573) := by
        have z1 := co_fr (I := I) (J := (mrS 1 1 (I, Q, Z)).1) hF11 (by rw [hJ]; rfl)
        have z2 := hB
        omega
      have hQ14 : ∀ l, l < 16 → ((mrS 1 1 (I, Q, Z)).2.1 l).length ≤ List.length h8 := fun l hl => Nat.le_trans (hQ l hl) hF11.1
      obtain ⟨X16, eX16⟩ : ∃ y, y = ((uX (uX (uX X 208 0 (.ref L)) 206 0 (.int 0)) 206 1 (.int 0))) := ⟨_, rfl⟩
      rw [← eX16] at hD12 hS15
      obtain ⟨M17, eM17⟩ : ∃ y : mM, y = (mrS 1 1 (I, Q, Z)) := ⟨_, rfl⟩
      rw [← eM17] at hD12 hS15 hB13 hQ14
      obtain ⟨I17, Q17, Z17⟩ := M17
      change CD w 32 m0 h8 I17 Q17 Z17 X16 (own ow L (L + 1)) L at hD12
      change sm tbc h8 I17 X16 at hS15
      change co h8 I17 ≤ (B + 573) at hB13
      change ∀ l, l < 16 → (Q17 l).length ≤ List.length h8 at hQ14
      have hW := hD12.1.1
      have hWn : ∀ a, List.length h8 ≤ a → w a = true := fun a ha => (hD12.1.2.1 a ha).1
      have hF18 := fr_refl tbc h8
      have hln : 62 ≤ List.length h8 := sm_len hS15
      rw [← eM17] at hlv e11 e0o
      change I17 11 0 = 1 at e11
      change I17 0 0 = I 0 0 at e0o
      refine go_s (pc' := 27) rfl rfl rfl rfl ?_
      refine go_sget (pc' := 28) (v := .ref 2) hS15 rfl rfl rfl (by decide) rfl rfl ?_
      refine go_sget (pc' := 29) (v := .ref 3) hS15 rfl rfl rfl (by decide) rfl rfl ?_
      refine go_s (pc' := 30) rfl rfl rfl rfl ?_
      refine go_callV (pc' := 31) rfl rfl rfl (Nat.le_of_ble_eq_true rfl) rfl (sm_o hS15 rfl) rfl rfl rfl (ct_oh_0 hS15 (by omega)) (fun r h19 q20 => ?_)
      obtain ⟨rfl, rfl⟩ := q20
      have hoh : ohI I17 0 = 0 := by simp [ohI, e11]
      rw [hoh]
      refine go_sald (pc' := 32) (q := 0) (v := .int (I17 0 0)) hS15 rfl rfl rfl rfl (by decide) rfl rfl ?_
      refine go_ifP (t' := 36) (pc' := 33) rfl rfl rfl (fun (c21 : (I17 0 0) = 0) => ?_) (fun (c21 : ¬ (I17 0 0) = 0) => ?_)
      · skip
        refine go_ret rfl rfl ?_
        have hN : mrsN 0 (I, Q, Z) = (I17, Q17, Z17) := by
          unfold mrsN
          rw [if_pos rfl, show fup (I, Q, Z).1 0 = 1 from hfu, show chs (I, Q, Z).1 = 1 from hch]
          exact eM17.symm
        have hms : mrst 0 (I, Q, Z) = (I17, Q17, Z17) := by
          unfold mrst
          rw [if_neg (fun z => z.elim (fun z => z e0) (fun z => z.elim (fun z => absurd (hfu.symm.trans z) (by decide)) (fun z => absurd (hch.symm.trans z.2) (by decide)))), hN, show ohn ((I17, Q17, Z17)).1 0 = 0 by simp [ohn, e11], if_pos (show I 0 0 = 0 from e0o.symm.trans c21)]
        have hC22 : CA w 32 m0 (B + 573) h19 (I17, Q17, Z17) := ⟨X16, (own ow L (L + 1)), L, hS15, hD12, hB13, hQ14⟩
        rw [hms]
        exact ⟨rfl, CA_le hC22 (by omega)⟩
      · skip
        refine go_s (pc' := 34) rfl rfl rfl rfl ?_
        refine go_s (pc' := 35) rfl rfl rfl rfl ?_
        have hC23 : CA w 32 m0 (B + 573) h19 (I17, Q17, Z17) := ⟨X16, (own ow L (L + 1)), L, hS15, hD12, hB13, hQ14⟩
        refine go_callV (pc' := 36) rfl rfl rfl (Nat.le_of_ble_eq_true rfl) rfl (sm_o hS15 rfl) rfl rfl rfl (cm_sC_0 hC23 (by omega) hlv (by omega)) (fun r h24 q25 => ?_)
        obtain ⟨rfl, hC26⟩ := q25
        change CA w 32 m0 ((B + 573) + 344) h24 (msC 0 (I17, Q17, Z17)) at hC26
        obtain ⟨M27, eM27⟩ : ∃ y : mM, y = (msC 0 (I17, Q17, Z17)) := ⟨_, rfl⟩
        rw [← eM27] at hC26
        obtain ⟨I27, Q27, Z27⟩ := M27
        obtain ⟨X28, ow28, sb28, hS28, hD28, hB28, hQ28⟩ := hC26
        have hW := hD28.1.1
        have hWn : ∀ a, List.length h24 ≤ a → w a = true := fun a ha => (hD28.1.2.1 a ha).1
        have hF29 := fr_refl tbc h24
        have hln : 62 ≤ List.length h24 := sm_len hS28
        change CD w 32 m0 h24 I27 Q27 Z27 X28 ow28 sb28 at hD28
        change sm tbc h24 I27 X28 at hS28
        change co h24 I27 ≤ ((B + 573) + 344) at hB28
        change ∀ l, l < 16 → (Q27 l).length ≤ List.length h24 at hQ28
        have hW := hD28.1.1
        have hWn : ∀ a, List.length h24 ≤ a → w a = true := fun a ha => (hD28.1.2.1 a ha).1
        have hF30 := fr_refl tbc h24
        have hln : 62 ≤ List.length h24 := sm_len hS28
        refine go_ret rfl rfl ?_
        have hN : mrsN 0 (I, Q, Z) = (I17, Q17, Z17) := by
          unfold mrsN
          rw [if_pos rfl, show fup (I, Q, Z).1 0 = 1 from hfu, show chs (I, Q, Z).1 = 1 from hch]
          exact eM17.symm
        have hms : mrst 0 (I, Q, Z) = (I27, Q27, Z27) := by
          unfold mrst
          rw [if_neg (fun z => z.elim (fun z => z e0) (fun z => z.elim (fun z => absurd (hfu.symm.trans z) (by decide)) (fun z => absurd (hch.symm.trans z.2) (by decide)))), hN, show ohn ((I17, Q17, Z17)).1 0 = 0 by simp [ohn, e11], if_neg (show ¬ I 0 0 = 0 from fun z => c21 (e0o.trans z))]
          rw [← eM27]
        have hC31 : CA w 32 m0 ((B + 573) + 344) h24 (I27, Q27, Z27) := ⟨X28, ow28, sb28, hS28, hD28, hB28, hQ28⟩
        rw [hms]
        exact ⟨rfl, CA_le hC31 (by omega)⟩
  · skip
    have hfu : fup I 0 = 0 := by simp [fup, v1] <;> rfl
    refine go_s (pc' := 1) rfl rfl rfl rfl ?_
    refine go_sget (pc' := 2) (v := .ref 2) hS rfl rfl rfl (by decide) rfl rfl ?_
    refine go_s (pc' := 3) rfl rfl rfl rfl ?_
    refine go_sget (pc' := 4) (v := .int 0) hS rfl rfl rfl (by decide) rfl rfl ?_
    refine go_callV (pc' := 5) rfl rfl rfl (Nat.le_of_ble_eq_true rfl) rfl (sm_o hS rfl) rfl rfl rfl (ct_fup_0 hS (by omega)) (fun r h32 q33 => ?_)
    obtain ⟨rfl, rfl⟩ := q33
    rw [hfu]
    refine go_s (pc' := 6) (lo' := [some (.ref 1), some (.ref 32), some (.int 0), none]) rfl rfl rfl rfl ?_
    refine go_s (pc' := 7) rfl rfl rfl rfl ?_
    refine go_s (pc' := 8) (st' := [.int (-1), .int 0]) rfl rfl rfl rfl ?_
    refine go_icmpP (t' := 10) (pc' := 9) rfl rfl rfl (fun _ => ?_) (fun (c : ¬ (¬ (0 : Int32) = (-1))) => absurd (by decide) c)
    refine go_s (pc' := 11) rfl rfl rfl rfl ?_
    refine go_instF (pc' := 12) rfl (sm_o hS rfl) rfl (by decide) (by decide) rfl ?_
    refine go_ifP (t' := 19) (pc' := 13) rfl rfl rfl (fun _ => ?_) (fun (c : ¬ ((0 : Int32) = 0)) => absurd (by decide) c)
    refine go_s (pc' := 20) rfl rfl rfl rfl ?_
    refine go_callV (pc' := 21) rfl rfl rfl (Nat.le_of_ble_eq_true rfl) rfl (sm_o hS rfl) rfl rfl rfl (cx_rss_01 hS hD hB hQ (by omega) u0 u1 hK (by omega)) (fun r h34 q35 => ?_)
    obtain ⟨rfl, L, S9, hL9, hn9, hS9, hSs9, hm9, hb9, hF9⟩ := q35
    refine go_ifP (t' := 23) (pc' := 22) rfl rfl rfl (fun _ => ?_) (fun (c : ¬ (¬ (1 : Int32) = 0)) => absurd (by decide) c)
    refine go_s (pc' := 24) rfl rfl rfl rfl ?_
    refine go_s (pc' := 25) rfl rfl rfl rfl ?_
    refine go_sput (pc' := 26) hS9 rfl rfl rfl (by decide) tbc_inj (Nat.le_of_ble_eq_true rfl) rfl (hW _ rfl) rfl (fun h36 hS37 hE38 => ?_)
    have hF39 := fr_trans hF9 (fr_e hE38)
    have hSs10 : sm (tbs (adN L (L + 1))) h36 S9 (fun _ _ => .null) := sm_dyn hSs9 (fun x hx => hE38.2.2 x (by
      obtain ⟨y, hy⟩ := Option.ne_none_iff_exists'.mp hx
      obtain ⟨i, hi, rfl, -⟩ := tbs_of hy
      exact tbc_out _ (by have := adN_ge (L := L) (n := L + 1) (by omega) hi; omega)))
    have hl10 : List.length h36 = _ := hE38.1
    have hci : chI I = I := if_neg (by rw [u0, u1]; decide)
    have hJ : (mrS 1 0 (I, Q, Z)).1 = uI (uI (uI (uI (uI (uI (I) 23 0 1) 22 0 0) 22 1 0) 16 0 2) 11 0 (nI 0)) 40 0 0 := by
      show uI (uI (uI (uI (uI (uI (chI I) 23 0 1) 22 0 0) 22 1 0) 16 0 2) 11 0 (nI 0)) 40 0 0 = _
      rw [hci]
    have hlv : lv (mrS 1 0 (I, Q, Z)).1 0 = true := lv_of (p := 0) (by rw [hJ]; simp [uI]) (by decide) (by rw [hJ]; show ¬ I 0 0 = 0; exact v1)
    have e11 : (mrS 1 0 (I, Q, Z)).1 11 0 = 0 := by rw [hJ]; simp [uI] <;> rfl
    have e0o : (mrS 1 0 (I, Q, Z)).1 0 1 = I 0 1 := by rw [hJ]; rfl
    have hdt : DT (mrS 1 0 (I, Q, Z)).1 ((uX (uX (uX X 208 0 (.ref L)) 206 0 (.int 0)) 206 1 (.int 0))) := DT_rs hD.2.2.2.1 (by rw [hJ]; rfl) (by rw [hJ]; rfl) rfl (fun d hd => by
      rw [hJ]
      have : d = 0 ∨ d = 1 := by omega
      rcases this with rfl | rfl <;> exact ⟨rfl, rfl⟩) (fun d hd => by
      rw [hJ]
      have : d = 0 ∨ d = 1 := by omega
      rcases this with rfl | rfl
      · exact Or.inl ⟨rfl, rfl⟩
      · exact Or.inl ⟨rfl, rfl⟩)
    have hcd : CD w 32 m0 h36 (mrS 1 0 (I, Q, Z)).1 Q (uZ Z (0 % 2) (mrs2 (dsk I 1))) ((uX (uX (uX X 208 0 (.ref L)) 206 0 (.int 0)) 206 1 (.int 0))) (own ow L (L + 1)) L := CD_new (hm := 0) hD hF39 (by omega) hL9 (by omega) (by omega) hSs10 (by decide) (fun c h1 h2 h3 h4 h5 h6 h7 h8 => by rw [hJ]; funext j; simp [uI, h1, h2, h3, h4, h5, h6, h7]) (by rw [hJ]; simp [uI]) (fun j hj => by rw [hJ]; simp [uI, hj]) (by rw [hJ]; simp [uI]) (fun j hj => by rw [hJ]; simp [uI, hj]) (by rw [hJ]; rfl) hdt (by simp [uX]) (fun c h1 h2 h3 => by funext j; simp [uX, h1, h2, h3]) (SQ_rs hm9 hb9)
    have hB5 : co h32 I ≤ B := hB
    have hD40 : CD w 32 m0 h36 (mrS 1 0 (I, Q, Z)).1 (mrS 1 0 (I, Q, Z)).2.1 (mrS 1 0 (I, Q, Z)).2.2 ((uX (uX (uX X 208 0 (.ref L)) 206 0 (.int 0)) 206 1 (.int 0))) (own ow L (L + 1)) L := hcd
    have hS43 : sm tbc h36 (mrS 1 0 (I, Q, Z)).1 ((uX (uX (uX X 208 0 (.ref L)) 206 0 (.int 0)) 206 1 (.int 0))) := by
      rw [hJ]
      refine sm_hid hS37 (fun c j hc => ?_)
      have h1 : c ≠ 22 := fun e => by subst e; cases hc
      have h2 : c ≠ 40 := fun e => by subst e; cases hc
      have h3 : c ≠ 6 := fun e => by subst e; cases hc
      simp [uI, h1, h2, h3] <;> rfl
    have hB41 : co h36 (mrS 1 0 (I, Q, Z)).1 ≤ (B + 573) := by
      have z1 := co_fr (I := I) (J := (mrS 1 0 (I, Q, Z)).1) hF39 (by rw [hJ]; rfl)
      have z2 := hB
      omega
    have hQ42 : ∀ l, l < 16 → ((mrS 1 0 (I, Q, Z)).2.1 l).length ≤ List.length h36 := fun l hl => Nat.le_trans (hQ l hl) hF39.1
    obtain ⟨X44, eX44⟩ : ∃ y, y = ((uX (uX (uX X 208 0 (.ref L)) 206 0 (.int 0)) 206 1 (.int 0))) := ⟨_, rfl⟩
    rw [← eX44] at hD40 hS43
    obtain ⟨M45, eM45⟩ : ∃ y : mM, y = (mrS 1 0 (I, Q, Z)) := ⟨_, rfl⟩
    rw [← eM45] at hD40 hS43 hB41 hQ42
    obtain ⟨I45, Q45, Z45⟩ := M45
    change CD w 32 m0 h36 I45 Q45 Z45 X44 (own ow L (L + 1)) L at hD40
    change sm tbc h36 I45 X44 at hS43
    change co h36 I45 ≤ (B + 573) at hB41
    change ∀ l, l < 16 → (Q45 l).length ≤ List.length h36 at hQ42
    have hW := hD40.1.1
    have hWn : ∀ a, List.length h36 ≤ a → w a = true := fun a ha => (hD40.1.2.1 a ha).1
    have hF46 := fr_refl tbc h36
    have hln : 62 ≤ List.length h36 := sm_len hS43
    rw [← eM45] at hlv e11 e0o
    change I45 11 0 = 0 at e11
    change I45 0 1 = I 0 1 at e0o
    refine go_s (pc' := 27) rfl rfl rfl rfl ?_
    refine go_sget (pc' := 28) (v := .ref 2) hS43 rfl rfl rfl (by decide) rfl rfl ?_
    refine go_sget (pc' := 29) (v := .ref 3) hS43 rfl rfl rfl (by decide) rfl rfl ?_
    refine go_s (pc' := 30) rfl rfl rfl rfl ?_
    refine go_callV (pc' := 31) rfl rfl rfl (Nat.le_of_ble_eq_true rfl) rfl (sm_o hS43 rfl) rfl rfl rfl (ct_oh_0 hS43 (by omega)) (fun r h47 q48 => ?_)
    obtain ⟨rfl, rfl⟩ := q48
    have hoh : ohI I45 0 = 1 := by simp [ohI, e11]
    rw [hoh]
    refine go_sald (pc' := 32) (q := 1) (v := .int (I45 0 1)) hS43 rfl rfl rfl rfl (by decide) rfl rfl ?_
    refine go_ifP (t' := 36) (pc' := 33) rfl rfl rfl (fun (c49 : (I45 0 1) = 0) => ?_) (fun (c49 : ¬ (I45 0 1) = 0) => ?_)
    · skip
      refine go_ret rfl rfl ?_
      have hN : mrsN 0 (I, Q, Z) = (I45, Q45, Z45) := by
        unfold mrsN
        rw [if_pos rfl, show fup (I, Q, Z).1 0 = 0 from hfu, show chs (I, Q, Z).1 = 1 from hch]
        exact eM45.symm
      have hms : mrst 0 (I, Q, Z) = (I45, Q45, Z45) := by
        unfold mrst
        rw [if_neg (fun z => z.elim (fun z => z e0) (fun z => z.elim (fun z => absurd (hfu.symm.trans z) (by decide)) (fun z => absurd (hch.symm.trans z.2) (by decide)))), hN, show ohn ((I45, Q45, Z45)).1 0 = 1 by simp [ohn, e11], if_pos (show I 0 1 = 0 from e0o.symm.trans c49)]
      have hC50 : CA w 32 m0 (B + 573) h47 (I45, Q45, Z45) := ⟨X44, (own ow L (L + 1)), L, hS43, hD40, hB41, hQ42⟩
      rw [hms]
      exact ⟨rfl, CA_le hC50 (by omega)⟩
    · skip
      refine go_s (pc' := 34) rfl rfl rfl rfl ?_
      refine go_s (pc' := 35) rfl rfl rfl rfl ?_
      have hC51 : CA w 32 m0 (B + 573) h47 (I45, Q45, Z45) := ⟨X44, (own ow L (L + 1)), L, hS43, hD40, hB41, hQ42⟩
      refine go_callV (pc' := 36) rfl rfl rfl (Nat.le_of_ble_eq_true rfl) rfl (sm_o hS43 rfl) rfl rfl rfl (cm_sC_0 hC51 (by omega) hlv (by omega)) (fun r h52 q53 => ?_)
      obtain ⟨rfl, hC54⟩ := q53
      change CA w 32 m0 ((B + 573) + 344) h52 (msC 0 (I45, Q45, Z45)) at hC54
      obtain ⟨M55, eM55⟩ : ∃ y : mM, y = (msC 0 (I45, Q45, Z45)) := ⟨_, rfl⟩
      rw [← eM55] at hC54
      obtain ⟨I55, Q55, Z55⟩ := M55
      obtain ⟨X56, ow56, sb56, hS56, hD56, hB56, hQ56⟩ := hC54
      have hW := hD56.1.1
      have hWn : ∀ a, List.length h52 ≤ a → w a = true := fun a ha => (hD56.1.2.1 a ha).1
      have hF57 := fr_refl tbc h52
      have hln : 62 ≤ List.length h52 := sm_len hS56
      change CD w 32 m0 h52 I55 Q55 Z55 X56 ow56 sb56 at hD56
      change sm tbc h52 I55 X56 at hS56
      change co h52 I55 ≤ ((B + 573) + 344) at hB56
      change ∀ l, l < 16 → (Q55 l).length ≤ List.length h52 at hQ56
      have hW := hD56.1.1
      have hWn : ∀ a, List.length h52 ≤ a → w a = true := fun a ha => (hD56.1.2.1 a ha).1
      have hF58 := fr_refl tbc h52
      have hln : 62 ≤ List.length h52 := sm_len hS56
      refine go_ret rfl rfl ?_
      have hN : mrsN 0 (I, Q, Z) = (I45, Q45, Z45) := by
        unfold mrsN
        rw [if_pos rfl, show fup (I, Q, Z).1 0 = 0 from hfu, show chs (I, Q, Z).1 = 1 from hch]
        exact eM45.symm
      have hms : mrst 0 (I, Q, Z) = (I55, Q55, Z55) := by
        unfold mrst
        rw [if_neg (fun z => z.elim (fun z => z e0) (fun z => z.elim (fun z => absurd (hfu.symm.trans z) (by decide)) (fun z => absurd (hch.symm.trans z.2) (by decide)))), hN, show ohn ((I45, Q45, Z45)).1 0 = 1 by simp [ohn, e11], if_neg (show ¬ I 0 1 = 0 from fun z => c49 (e0o.trans z))]
        rw [← eM55]
      have hC59 : CA w 32 m0 ((B + 573) + 344) h52 (I55, Q55, Z55) := ⟨X56, ow56, sb56, hS56, hD56, hB56, hQ56⟩
      rw [hms]
      exact ⟨rfl, CA_le hC59 (by omega)⟩
theorem cm_rst_0_00 {w : Nat → Bool} {d : Nat} {h : am_Hp} {m0 : mg} {B : Nat} {I : sm_I} {Q : mQ} {Z : mZ} (hC : CA w 32 m0 B h (I, Q, Z)) (hB2 : B < 2 ^ 25) (e0 : I 11 0 = -1) (u0 : us I 0 = false) (u1 : us I 1 = false) (hd : 7 ≤ d) : am_Ev (am_prog w) d 69 [.ref 1, .ref 32] h (fun r h' => r = none ∧ CA w 32 m0 (B + 920) h' (mrst 0 (I, Q, Z))) := by
  obtain ⟨X, ow, sb, hS, hD, hB, hQ⟩ := hC
  change sm tbc h I X at hS
  change CD w 32 m0 h I Q Z X ow sb at hD
  change co h I ≤ B at hB
  change ∀ l, l < 16 → (Q l).length ≤ h.length at hQ
  have hW := hD.1.1
  have hWn : ∀ a, List.length h ≤ a → w a = true := fun a ha => (hD.1.2.1 a ha).1
  have hF1 := fr_refl tbc h
  have hln : 62 ≤ List.length h := sm_len hS
  obtain ⟨d, rfl⟩ : ∃ e, d = e + 1 := ⟨d - 1, by omega⟩
  refine ev_go rfl (Nat.le_of_ble_eq_true rfl) rfl ?_
  have hch : chs I = -1 := by simp [chs, u0, u1]
  by_cases v1 : I 0 0 = 0
  · skip
    by_cases v2 : I 0 1 = 0
    · skip
      have hfu : fup I 0 = -1 := by simp [fup, v1, v2]
      refine go_s (pc' := 1) rfl rfl rfl rfl ?_
      refine go_sget (pc' := 2) (v := .ref 2) hS rfl rfl rfl (by decide) rfl rfl ?_
      refine go_s (pc' := 3) rfl rfl rfl rfl ?_
      refine go_sget (pc' := 4) (v := .int 0) hS rfl rfl rfl (by decide) rfl rfl ?_
      refine go_callV (pc' := 5) rfl rfl rfl (Nat.le_of_ble_eq_true rfl) rfl (sm_o hS rfl) rfl rfl rfl (ct_fup_0 hS (by omega)) (fun r h2 q3 => ?_)
      obtain ⟨rfl, rfl⟩ := q3
      rw [hfu]
      refine go_s (pc' := 6) (lo' := [some (.ref 1), some (.ref 32), some (.int (-1)), none]) rfl rfl rfl rfl ?_
      refine go_s (pc' := 7) rfl rfl rfl rfl ?_
      refine go_s (pc' := 8) (st' := [.int (-1), .int (-1)]) rfl rfl rfl rfl ?_
      refine go_icmpP (t' := 10) (pc' := 9) rfl rfl rfl (fun (c : ¬ ((-1) : Int32) = (-1)) => absurd c (by decide)) (fun _ => ?_)
      refine go_ret rfl rfl ?_
      have hms : mrst 0 (I, Q, Z) = (I, Q, Z) := if_pos (Or.inr (Or.inl hfu))
      rw [hms]
      exact ⟨rfl, X, ow, sb, hS, hD, Nat.le_trans hB (by omega), hQ⟩
    · skip
      have hfu : fup I 0 = 1 := by simp [fup, v1, v2] <;> rfl
      refine go_s (pc' := 1) rfl rfl rfl rfl ?_
      refine go_sget (pc' := 2) (v := .ref 2) hS rfl rfl rfl (by decide) rfl rfl ?_
      refine go_s (pc' := 3) rfl rfl rfl rfl ?_
      refine go_sget (pc' := 4) (v := .int 0) hS rfl rfl rfl (by decide) rfl rfl ?_
      refine go_callV (pc' := 5) rfl rfl rfl (Nat.le_of_ble_eq_true rfl) rfl (sm_o hS rfl) rfl rfl rfl (ct_fup_0 hS (by omega)) (fun r h4 q5 => ?_)
      obtain ⟨rfl, rfl⟩ := q5
      rw [hfu]
      refine go_s (pc' := 6) (lo' := [some (.ref 1), some (.ref 32), some (.int 1), none]) rfl rfl rfl rfl ?_
      refine go_s (pc' := 7) rfl rfl rfl rfl ?_
      refine go_s (pc' := 8) (st' := [.int (-1), .int 1]) rfl rfl rfl rfl ?_
      refine go_icmpP (t' := 10) (pc' := 9) rfl rfl rfl (fun _ => ?_) (fun (c : ¬ (¬ (1 : Int32) = (-1))) => absurd (by decide) c)
      refine go_s (pc' := 11) rfl rfl rfl rfl ?_
      refine go_instF (pc' := 12) rfl (sm_o hS rfl) rfl (by decide) (by decide) rfl ?_
      refine go_ifP (t' := 19) (pc' := 13) rfl rfl rfl (fun _ => ?_) (fun (c : ¬ ((0 : Int32) = 0)) => absurd (by decide) c)
      refine go_s (pc' := 20) rfl rfl rfl rfl ?_
      refine go_callV (pc' := 21) rfl rfl rfl (Nat.le_of_ble_eq_true rfl) rfl (sm_o hS rfl) rfl rfl rfl (cx_rss_00 hS hD hB hQ (by omega) u0 u1 (by omega)) (fun r h6 q7 => ?_)
      obtain ⟨rfl, hS9, hF9⟩ := q7
      refine go_ifP (t' := 23) (pc' := 22) rfl rfl rfl (fun (c : ¬ (0 : Int32) = 0) => absurd c (by decide)) (fun _ => ?_)
      refine go_ret rfl rfl ?_
      have hms : mrst 0 (I, Q, Z) = (I, Q, Z) := if_pos (Or.inr (Or.inr ⟨rfl, hch⟩))
      rw [hms]
      exact ⟨rfl, X, ow, sb, hS9, CD_fr hD hF9, by have := co_fr (I := I) (J := I) hF9 rfl; show co _ I ≤ _; omega, fun l hl => Nat.le_trans (hQ l hl) hF9.1⟩
  · skip
    have hfu : fup I 0 = 0 := by simp [fup, v1] <;> rfl
    refine go_s (pc' := 1) rfl rfl rfl rfl ?_
    refine go_sget (pc' := 2) (v := .ref 2) hS rfl rfl rfl (by decide) rfl rfl ?_
    refine go_s (pc' := 3) rfl rfl rfl rfl ?_
    refine go_sget (pc' := 4) (v := .int 0) hS rfl rfl rfl (by decide) rfl rfl ?_
    refine go_callV (pc' := 5) rfl rfl rfl (Nat.le_of_ble_eq_true rfl) rfl (sm_o hS rfl) rfl rfl rfl (ct_fup_0 hS (by omega)) (fun r h8 q9 => ?_)
    obtain ⟨rfl, rfl⟩ := q9
    rw [hfu]
    refine go_s (pc' := 6) (lo' := [some (.ref 1), some (.ref 32), some (.int 0), none]) rfl rfl rfl rfl ?_
    refine go_s (pc' := 7) rfl rfl rfl rfl ?_
    refine go_s (pc' := 8) (st' := [.int (-1), .int 0]) rfl rfl rfl rfl ?_
    refine go_icmpP (t' := 10) (pc' := 9) rfl rfl rfl (fun _ => ?_) (fun (c : ¬ (¬ (0 : Int32) = (-1))) => absurd (by decide) c)
    refine go_s (pc' := 11) rfl rfl rfl rfl ?_
    refine go_instF (pc' := 12) rfl (sm_o hS rfl) rfl (by decide) (by decide) rfl ?_
    refine go_ifP (t' := 19) (pc' := 13) rfl rfl rfl (fun _ => ?_) (fun (c : ¬ ((0 : Int32) = 0)) => absurd (by decide) c)
    refine go_s (pc' := 20) rfl rfl rfl rfl ?_
    refine go_callV (pc' := 21) rfl rfl rfl (Nat.le_of_ble_eq_true rfl) rfl (sm_o hS rfl) rfl rfl rfl (cx_rss_00 hS hD hB hQ (by omega) u0 u1 (by omega)) (fun r h10 q11 => ?_)
    obtain ⟨rfl, hS9, hF9⟩ := q11
    refine go_ifP (t' := 23) (pc' := 22) rfl rfl rfl (fun (c : ¬ (0 : Int32) = 0) => absurd c (by decide)) (fun _ => ?_)
    refine go_ret rfl rfl ?_
    have hms : mrst 0 (I, Q, Z) = (I, Q, Z) := if_pos (Or.inr (Or.inr ⟨rfl, hch⟩))
    rw [hms]
    exact ⟨rfl, X, ow, sb, hS9, CD_fr hD hF9, by have := co_fr (I := I) (J := I) hF9 rfl; show co _ I ≤ _; omega, fun l hl => Nat.le_trans (hQ l hl) hF9.1⟩
theorem cm_rst_0 {w : Nat → Bool} {d : Nat} {h : am_Hp} {m0 : mg} {B : Nat} {I : sm_I} {Q : mQ} {Z : mZ} (hC : CA w 32 m0 B h (I, Q, Z)) (hB2 : B < 2 ^ 25) (e0 : I 11 0 = -1) (hK : ¬ chs I = -1 → mrk (dsk I (chs I).toNatClampNeg)) (hd : 7 ≤ d) : am_Ev (am_prog w) d 69 [.ref 1, .ref 32] h (fun r h' => r = none ∧ CA w 32 m0 (B + 920) h' (mrst 0 (I, Q, Z))) := by
  cases u0 : us I 0
  · cases u1 : us I 1
    · exact cm_rst_0_00 hC hB2 e0 u0 u1 hd
    · have hc : chs I = 1 := by simp [chs, u0, u1]
      exact cm_rst_0_01 hC hB2 e0 u0 u1 (by have := hK (by rw [hc]; decide); rw [hc] at this; exact this) hd
  · have hc : chs I = 0 := by simp [chs, u0]
    have hk := hK (by rw [hc]; decide)
    rw [hc] at hk
    cases u1 : us I 1
    · exact cm_rst_0_10 hC hB2 e0 u0 u1 hk hd
    · exact cm_rst_0_11 hC hB2 e0 u0 u1 hk hd
