theorem lp_wk {w : Nat → Bool} {d : Nat} {m0 : mg} {B : Nat} {I : sm_I} {Q : mQ} {Z : mZ} (hd : 2 ≤ d) (hlb : ∀ l, l < 16 → I 25 l = -1 ∨ I 25 l = 0 ∨ I 25 l = 1) : ∀ (k n : Nat) (h : am_Hp) (X : sm_X) (ow : ow_T) (sb : Nat) (v2 v3 : Option Value), n + k = 16 → sm tbc h (mwkI I Q n) X → CD w 32 m0 h (mwkI I Q n) Q Z X ow sb → co h (mwkI I Q n) ≤ B → (∀ l, l < 16 → (Q l).length ≤ h.length) → am_Go (am_prog w) d am_c67 none 2 [some (.ref 2), some (.int (nI n)), v2, v3] [] h (fun r h' => r = none ∧ CA w 32 m0 B h' (mwkI I Q 16, Q, Z)) := by
  intro k
  induction k with
  | zero =>
    intro n h X ow sb v2 v3 hnk hS hD hB hQ
    obtain rfl : n = 16 := by omega
    refine go_s (pc' := 3) rfl rfl rfl rfl ?_
    refine go_s (pc' := 4) rfl rfl rfl rfl ?_
    refine go_sget (pc' := 5) (v := .ref 7) hS rfl rfl rfl (by decide) rfl rfl ?_
    refine go_salen (pc' := 6) (n := 16) hS rfl rfl rfl rfl ?_
    refine go_icmpP (t' := 32) (pc' := 7) rfl rfl rfl (fun _ => ?_) (fun (c : ¬ (16 ≤ (nI 16))) => absurd (by decide) c)
    refine go_ret rfl rfl ?_
    exact ⟨rfl, X, ow, sb, hS, hD, hB, hQ⟩
  | succ k ih =>
    intro n h X ow sb v2 v3 hnk hS hD hB hQ
    have hW := hD.1.1
    have hWn : ∀ a, List.length h ≤ a → w a = true := fun a ha => (hD.1.2.1 a ha).1
    have hF1 := fr_refl tbc h
    have hln : 62 ≤ List.length h := sm_len hS
    have hn16 : n < 16 := by omega
    have hb34 := (hD.2.2.1 n hn16).2.2 (by omega) (by omega)
    rw [mwkI_n, mwkI_n] at hb34
    have hLK : LK h ow sb n X (Q n) := by
      have := hD.2.1 n hn16
      rw [cq_32 hn16] at this
      exact this
    cases hq : Q n with
    | nil =>
      rw [hq] at hLK
      rcases LK_cs hLK with ⟨-, x200, -, -⟩ | ⟨z, -⟩
      · skip
        refine go_s (pc' := 3) rfl rfl rfl rfl ?_
        refine go_s (pc' := 4) rfl rfl rfl rfl ?_
        refine go_sget (pc' := 5) (v := .ref 7) hS rfl rfl rfl (by decide) rfl rfl ?_
        refine go_salen (pc' := 6) (n := 16) hS rfl rfl rfl rfl ?_
        refine go_icmpP (t' := 32) (pc' := 7) rfl rfl rfl (fun (c : 16 ≤ (nI n)) => absurd c (nI_ge (b := 16) hn16 (by decide))) (fun _ => ?_)
        refine go_s (pc' := 8) rfl rfl rfl rfl ?_
        refine go_sget (pc' := 9) (v := .ref 7) hS rfl rfl rfl (by decide) rfl rfl ?_
        refine go_s (pc' := 10) rfl rfl rfl rfl ?_
        refine go_sald (pc' := 11) (q := n) (v := .ref (8 + n)) hS rfl (tc_ln (by omega)) rfl rfl (by omega) rfl rfl ?_
        refine go_s (pc' := 12) (lo' := [some (.ref 2), some (.int (nI n)), some (.ref (8 + n)), v3]) rfl rfl rfl rfl ?_
        refine go_s (pc' := 13) rfl rfl rfl rfl ?_
        refine go_sget (pc' := 14) (v := .null) hS rfl rfl (tc_l0 hn16) (by decide) x200 rfl ?_
        refine go_s (pc' := 30) rfl rfl rfl rfl ?_
        refine go_ninc (pc' := 31) (a := n) (n := 1) (lo' := [some (.ref 2), some (.int (nI (n + 1))), some (.ref (8 + n)), v3]) rfl rfl rfl rfl rfl rfl ?_
        refine go_s (pc' := 2) rfl rfl rfl rfl ?_
        have hI : mwkI I Q (n + 1) = mwkI I Q n := by
          rw [mwkI_s, if_neg (by rw [show wkc I Q n = false by simp [wkc, hq]]; decide)]
        exact ih (n + 1) _ X ow sb _ _ (by omega) (by rw [hI]; exact hS) (by rw [hI]; exact hD) (by rw [hI]; exact hB) hQ
      · exact absurd rfl z
    | cons m qs =>
      rw [hq] at hLK
      obtain ⟨x9, L, x200, -⟩ := LK_hd hLK
      refine go_s (pc' := 3) rfl rfl rfl rfl ?_
      refine go_s (pc' := 4) rfl rfl rfl rfl ?_
      refine go_sget (pc' := 5) (v := .ref 7) hS rfl rfl rfl (by decide) rfl rfl ?_
      refine go_salen (pc' := 6) (n := 16) hS rfl rfl rfl rfl ?_
      refine go_icmpP (t' := 32) (pc' := 7) rfl rfl rfl (fun (c : 16 ≤ (nI n)) => absurd c (nI_ge (b := 16) hn16 (by decide))) (fun _ => ?_)
      refine go_s (pc' := 8) rfl rfl rfl rfl ?_
      refine go_sget (pc' := 9) (v := .ref 7) hS rfl rfl rfl (by decide) rfl rfl ?_
      refine go_s (pc' := 10) rfl rfl rfl rfl ?_
      refine go_sald (pc' := 11) (q := n) (v := .ref (8 + n)) hS rfl (tc_ln (by omega)) rfl rfl (by omega) rfl rfl ?_
      refine go_s (pc' := 12) (lo' := [some (.ref 2), some (.int (nI n)), some (.ref (8 + n)), v3]) rfl rfl rfl rfl ?_
      refine go_s (pc' := 13) rfl rfl rfl rfl ?_
      refine go_sget (pc' := 14) (v := .ref x9) hS rfl rfl (tc_l0 hn16) (by decide) x200 rfl ?_
      refine go_s (pc' := 15) rfl rfl rfl rfl ?_
      refine go_s (pc' := 16) rfl rfl rfl rfl ?_
      refine go_sget (pc' := 17) (v := .int (I 24 n)) hS rfl rfl (tc_l5 hn16) (by decide) hb34.1 rfl ?_
      refine go_s (pc' := 18) (st' := [.int (-1), .int (I 24 n)]) rfl rfl rfl rfl ?_
      refine go_icmpP (t' := 30) (pc' := 19) rfl rfl rfl (fun (c2 : ¬ (I 24 n) = (-1)) => ?_) (fun (c2' : ¬ ¬ (I 24 n) = (-1)) => ?_)
      · skip
        refine go_ninc (pc' := 31) (a := n) (n := 1) (lo' := [some (.ref 2), some (.int (nI (n + 1))), some (.ref (8 + n)), v3]) rfl rfl rfl rfl rfl rfl ?_
        refine go_s (pc' := 2) rfl rfl rfl rfl ?_
        have hI : mwkI I Q (n + 1) = mwkI I Q n := by
          rw [mwkI_s, if_neg (by rw [show wkc I Q n = false by simp [wkc, hq, show ¬ I 24 n = -1 from c2]]; decide)]
        exact ih (n + 1) _ X ow sb _ _ (by omega) (by rw [hI]; exact hS) (by rw [hI]; exact hD) (by rw [hI]; exact hB) hQ
      · skip
        have c2 : (I 24 n) = (-1) := Decidable.not_not.mp c2'
        rcases hlb n hn16 with e25 | e25 | e25
        · skip
          have h204 : X 204 n = .int (-1) := by rw [hb34.2, e25]
          refine go_s (pc' := 20) rfl rfl rfl rfl ?_
          refine go_s (pc' := 21) rfl rfl rfl rfl ?_
          refine go_sget (pc' := 22) (v := .int (-1)) hS rfl rfl (tc_l6 hn16) (by decide) h204 rfl ?_
          refine go_callV (pc' := 23) rfl rfl rfl (Nat.le_of_ble_eq_true rfl) rfl (sm_o hS rfl) rfl rfl rfl (ct_nxb_m hS (by omega)) (fun r h3 q4 => ?_)
          obtain ⟨rfl, rfl⟩ := q4
          rw [nxb_c (I := I) (mwkI_o (by omega) (by omega))]
          refine go_s (pc' := 24) (lo' := [some (.ref 2), some (.int (nI n)), some (.ref (8 + n)), some (.int (nxb I (-1)))]) rfl rfl rfl rfl ?_
          refine go_s (pc' := 25) rfl rfl rfl rfl ?_
          refine go_s (pc' := 26) (st' := [.int (-1), .int (nxb I (-1))]) rfl rfl rfl rfl ?_
          refine go_icmpP (t' := 30) (pc' := 27) rfl rfl rfl (fun (c5 : (nxb I (-1)) = (-1)) => ?_) (fun (c5 : ¬ (nxb I (-1)) = (-1)) => ?_)
          · skip
            refine go_ninc (pc' := 31) (a := n) (n := 1) (lo' := [some (.ref 2), some (.int (nI (n + 1))), some (.ref (8 + n)), some (.int (nxb I (-1)))]) rfl rfl rfl rfl rfl rfl ?_
            refine go_s (pc' := 2) rfl rfl rfl rfl ?_
            have hI : mwkI I Q (n + 1) = mwkI I Q n := by
              rw [mwkI_s, if_neg (by rw [show wkc I Q n = false by simp [wkc, e25, show nxb I (-1) = -1 from c5]]; decide)]
            exact ih (n + 1) _ X ow sb _ _ (by omega) (by rw [hI]; exact hS) (by rw [hI]; exact hD) (by rw [hI]; exact hB) hQ
          · skip
            refine go_s (pc' := 28) rfl rfl rfl rfl ?_
            refine go_s (pc' := 29) rfl rfl rfl rfl ?_
            refine go_callV (pc' := 30) rfl rfl rfl (Nat.le_of_ble_eq_true rfl) rfl (sm_o hS (tc_lk hn16)) rfl rfl rfl (ct_putOn hS hW hn16 (nxb I (-1)) (by omega)) (fun r h6 q7 => ?_)
            obtain ⟨rfl, hS8, hE9⟩ := q7
            have hF10 := fr_trans hF1 (fr_e hE9)
            refine go_ninc (pc' := 31) (a := n) (n := 1) (lo' := [some (.ref 2), some (.int (nI (n + 1))), some (.ref (8 + n)), some (.int (nxb I (-1)))]) rfl rfl rfl rfl rfl rfl ?_
            refine go_s (pc' := 2) rfl rfl rfl rfl ?_
            have hI : mwkI I Q (n + 1) = uI (uI (mwkI I Q n) 24 n (nxb I (I 25 n))) 25 n (nxb I (I 25 n)) := by
              rw [mwkI_s, if_pos (show wkc I Q n = true by simp [wkc, hq, e25, show I 24 n = -1 from c2, show ¬ nxb I (-1) = -1 from c5])]
            exact ih (n + 1) _ ((uX (uX X 203 n (.int (nxb I (-1)))) 204 n (.int (nxb I (-1))))) ow sb _ _ (by omega) (by rw [hI, e25]; exact sm_12 (sm_12 hS8 rfl) rfl) (by rw [hI, e25]; exact CD_pb (CD_fr hD hF10)) (by rw [hI]; have z := co_fr (I := mwkI I Q n) (J := uI (uI (mwkI I Q n) 24 n (nxb I (I 25 n))) 25 n (nxb I (I 25 n))) hF10 rfl; omega) (fun l hl => Nat.le_trans (hQ l hl) hF10.1)
        · skip
          have h204 : X 204 n = .int 0 := by rw [hb34.2, e25]
          refine go_s (pc' := 20) rfl rfl rfl rfl ?_
          refine go_s (pc' := 21) rfl rfl rfl rfl ?_
          refine go_sget (pc' := 22) (v := .int 0) hS rfl rfl (tc_l6 hn16) (by decide) h204 rfl ?_
          refine go_callV (pc' := 23) rfl rfl rfl (Nat.le_of_ble_eq_true rfl) rfl (sm_o hS rfl) rfl rfl rfl (ct_nxb_0 hS (by omega)) (fun r h11 q12 => ?_)
          obtain ⟨rfl, rfl⟩ := q12
          rw [nxb_c (I := I) (mwkI_o (by omega) (by omega))]
          refine go_s (pc' := 24) (lo' := [some (.ref 2), some (.int (nI n)), some (.ref (8 + n)), some (.int (nxb I 0))]) rfl rfl rfl rfl ?_
          refine go_s (pc' := 25) rfl rfl rfl rfl ?_
          refine go_s (pc' := 26) (st' := [.int (-1), .int (nxb I 0)]) rfl rfl rfl rfl ?_
          refine go_icmpP (t' := 30) (pc' := 27) rfl rfl rfl (fun (c13 : (nxb I 0) = (-1)) => ?_) (fun (c13 : ¬ (nxb I 0) = (-1)) => ?_)
          · skip
            refine go_ninc (pc' := 31) (a := n) (n := 1) (lo' := [some (.ref 2), some (.int (nI (n + 1))), some (.ref (8 + n)), some (.int (nxb I 0))]) rfl rfl rfl rfl rfl rfl ?_
            refine go_s (pc' := 2) rfl rfl rfl rfl ?_
            have hI : mwkI I Q (n + 1) = mwkI I Q n := by
              rw [mwkI_s, if_neg (by rw [show wkc I Q n = false by simp [wkc, e25, show nxb I 0 = -1 from c13]]; decide)]
            exact ih (n + 1) _ X ow sb _ _ (by omega) (by rw [hI]; exact hS) (by rw [hI]; exact hD) (by rw [hI]; exact hB) hQ
          · skip
            refine go_s (pc' := 28) rfl rfl rfl rfl ?_
            refine go_s (pc' := 29) rfl rfl rfl rfl ?_
            refine go_callV (pc' := 30) rfl rfl rfl (Nat.le_of_ble_eq_true rfl) rfl (sm_o hS (tc_lk hn16)) rfl rfl rfl (ct_putOn hS hW hn16 (nxb I 0) (by omega)) (fun r h14 q15 => ?_)
            obtain ⟨rfl, hS16, hE17⟩ := q15
            have hF18 := fr_trans hF1 (fr_e hE17)
            refine go_ninc (pc' := 31) (a := n) (n := 1) (lo' := [some (.ref 2), some (.int (nI (n + 1))), some (.ref (8 + n)), some (.int (nxb I 0))]) rfl rfl rfl rfl rfl rfl ?_
            refine go_s (pc' := 2) rfl rfl rfl rfl ?_
            have hI : mwkI I Q (n + 1) = uI (uI (mwkI I Q n) 24 n (nxb I (I 25 n))) 25 n (nxb I (I 25 n)) := by
              rw [mwkI_s, if_pos (show wkc I Q n = true by simp [wkc, hq, e25, show I 24 n = -1 from c2, show ¬ nxb I 0 = -1 from c13])]
            exact ih (n + 1) _ ((uX (uX X 203 n (.int (nxb I 0))) 204 n (.int (nxb I 0)))) ow sb _ _ (by omega) (by rw [hI, e25]; exact sm_12 (sm_12 hS16 rfl) rfl) (by rw [hI, e25]; exact CD_pb (CD_fr hD hF18)) (by rw [hI]; have z := co_fr (I := mwkI I Q n) (J := uI (uI (mwkI I Q n) 24 n (nxb I (I 25 n))) 25 n (nxb I (I 25 n))) hF18 rfl; omega) (fun l hl => Nat.le_trans (hQ l hl) hF18.1)
        · skip
          have h204 : X 204 n = .int 1 := by rw [hb34.2, e25]
          refine go_s (pc' := 20) rfl rfl rfl rfl ?_
          refine go_s (pc' := 21) rfl rfl rfl rfl ?_
          refine go_sget (pc' := 22) (v := .int 1) hS rfl rfl (tc_l6 hn16) (by decide) h204 rfl ?_
          refine go_callV (pc' := 23) rfl rfl rfl (Nat.le_of_ble_eq_true rfl) rfl (sm_o hS rfl) rfl rfl rfl (ct_nxb_1 hS (by omega)) (fun r h19 q20 => ?_)
          obtain ⟨rfl, rfl⟩ := q20
          rw [nxb_c (I := I) (mwkI_o (by omega) (by omega))]
          refine go_s (pc' := 24) (lo' := [some (.ref 2), some (.int (nI n)), some (.ref (8 + n)), some (.int (nxb I 1))]) rfl rfl rfl rfl ?_
          refine go_s (pc' := 25) rfl rfl rfl rfl ?_
          refine go_s (pc' := 26) (st' := [.int (-1), .int (nxb I 1)]) rfl rfl rfl rfl ?_
          refine go_icmpP (t' := 30) (pc' := 27) rfl rfl rfl (fun (c21 : (nxb I 1) = (-1)) => ?_) (fun (c21 : ¬ (nxb I 1) = (-1)) => ?_)
          · skip
            refine go_ninc (pc' := 31) (a := n) (n := 1) (lo' := [some (.ref 2), some (.int (nI (n + 1))), some (.ref (8 + n)), some (.int (nxb I 1))]) rfl rfl rfl rfl rfl rfl ?_
            refine go_s (pc' := 2) rfl rfl rfl rfl ?_
            have hI : mwkI I Q (n + 1) = mwkI I Q n := by
              rw [mwkI_s, if_neg (by rw [show wkc I Q n = false by simp [wkc, e25, show nxb I 1 = -1 from c21]]; decide)]
            exact ih (n + 1) _ X ow sb _ _ (by omega) (by rw [hI]; exact hS) (by rw [hI]; exact hD) (by rw [hI]; exact hB) hQ
          · skip
            refine go_s (pc' := 28) rfl rfl rfl rfl ?_
            refine go_s (pc' := 29) rfl rfl rfl rfl ?_
            refine go_callV (pc' := 30) rfl rfl rfl (Nat.le_of_ble_eq_true rfl) rfl (sm_o hS (tc_lk hn16)) rfl rfl rfl (ct_putOn hS hW hn16 (nxb I 1) (by omega)) (fun r h22 q23 => ?_)
            obtain ⟨rfl, hS24, hE25⟩ := q23
            have hF26 := fr_trans hF1 (fr_e hE25)
            refine go_ninc (pc' := 31) (a := n) (n := 1) (lo' := [some (.ref 2), some (.int (nI (n + 1))), some (.ref (8 + n)), some (.int (nxb I 1))]) rfl rfl rfl rfl rfl rfl ?_
            refine go_s (pc' := 2) rfl rfl rfl rfl ?_
            have hI : mwkI I Q (n + 1) = uI (uI (mwkI I Q n) 24 n (nxb I (I 25 n))) 25 n (nxb I (I 25 n)) := by
              rw [mwkI_s, if_pos (show wkc I Q n = true by simp [wkc, hq, e25, show I 24 n = -1 from c2, show ¬ nxb I 1 = -1 from c21])]
            exact ih (n + 1) _ ((uX (uX X 203 n (.int (nxb I 1))) 204 n (.int (nxb I 1)))) ow sb _ _ (by omega) (by rw [hI, e25]; exact sm_12 (sm_12 hS24 rfl) rfl) (by rw [hI, e25]; exact CD_pb (CD_fr hD hF26)) (by rw [hI]; have z := co_fr (I := mwkI I Q n) (J := uI (uI (mwkI I Q n) 24 n (nxb I (I 25 n))) 25 n (nxb I (I 25 n))) hF26 rfl; omega) (fun l hl => Nat.le_trans (hQ l hl) hF26.1)
theorem cm_wk {w : Nat → Bool} {d : Nat} {h : am_Hp} {m0 : mg} {B : Nat} {I : sm_I} {Q : mQ} {Z : mZ} (hC : CA w 32 m0 B h (I, Q, Z)) (hB2 : B < 2 ^ 26) (hlb : ∀ l, l < 16 → I 25 l = -1 ∨ I 25 l = 0 ∨ I 25 l = 1) (hd : 3 ≤ d) : am_Ev (am_prog w) d 67 [.ref 2] h (fun r h' => r = none ∧ CA w 32 m0 B h' (mwkI I Q 16, Q, Z)) := by
  obtain ⟨X, ow, sb, hS, hD, hB, hQ⟩ := hC
  change sm tbc h I X at hS
  change CD w 32 m0 h I Q Z X ow sb at hD
  change co h I ≤ B at hB
  change ∀ l, l < 16 → (Q l).length ≤ h.length at hQ
  have hW := hD.1.1
  have hWn : ∀ a, List.length h ≤ a → w a = true := fun a ha => (hD.1.2.1 a ha).1
  have hF1 := fr_refl tbc h
  have hln : 62 ≤ List.length h := sm_len hS
  obtain ⟨d, rfl⟩ : ∃ e, d = e + 1 := ⟨d - 1, by omega⟩
  refine ev_go rfl (Nat.le_of_ble_eq_true rfl) rfl ?_
  refine go_s (pc' := 1) (st' := [.int 0]) rfl rfl rfl rfl ?_
  refine go_s (pc' := 2) (lo' := [some (.ref 2), some (.int 0), none, none]) rfl rfl rfl rfl ?_
  exact lp_wk (by omega) hlb 16 0 h X ow sb none none rfl (by rw [mwkI_0]; exact hS) (by rw [mwkI_0]; exact hD) (by rw [mwkI_0]; exact hB) hQ
