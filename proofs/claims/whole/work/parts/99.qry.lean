theorem tsw_0_3 {x : Int32} (h0 : ¬ x = 0) (h1 : ¬ x = 1) (h2 : ¬ x = 2) (h3 : ¬ x = 3) : x.toInt < 0 ∨ 3 < x.toInt := by
  rw [← Int32.toInt_inj] at h0 h1 h2 h3
  simp at h0 h1 h2 h3
  omega
theorem tsw_6_8 {x : Int32} (h6 : ¬ x = 6) (h7 : ¬ x = 7) (h8 : ¬ x = 8) : x.toInt < 6 ∨ 8 < x.toInt := by
  rw [← Int32.toInt_inj] at h6 h7 h8
  simp at h6 h7 h8
  omega
theorem tsw_5_10 {x : Int32} (h5 : ¬ x = 5) (h6 : ¬ x = 6) (h7 : ¬ x = 7) (h8 : ¬ x = 8) (h9 : ¬ x = 9) (h10 : ¬ x = 10) : x.toInt < 5 ∨ 10 < x.toInt := by
  rw [← Int32.toInt_inj] at h5 h6 h7 h8 h9 h10
  simp at h5 h6 h7 h8 h9 h10
  omega
theorem tsw_1_3 {x : Int32} (h1 : ¬ x = 1) (h2 : ¬ x = 2) (h3 : ¬ x = 3) : x.toInt < 1 ∨ 3 < x.toInt := by
  rw [← Int32.toInt_inj] at h1 h2 h3
  simp at h1 h2 h3
  omega
theorem tsw_0_4 {x : Int32} (h0 : ¬ x = 0) (h1 : ¬ x = 1) (h2 : ¬ x = 2) (h3 : ¬ x = 3) (h4 : ¬ x = 4) : x.toInt < 0 ∨ 4 < x.toInt := by
  rw [← Int32.toInt_inj] at h0 h1 h2 h3 h4
  simp at h0 h1 h2 h3 h4
  omega
def mlos (f p : Nat) (M : mM) : Int32 × mM := if M.1 24 (4 * f + p) = -1 then (0, M) else (1, mwt (4 * f + p) M)
theorem CD_ls {w : Nat → Bool} {l : Nat} {m0 : mg} {h : am_Hp} {I : sm_I} {Q : mQ} {Z : mZ} {X : sm_X} {ow : ow_T} {sb : Nat} (c : CD w 32 m0 h I Q Z X ow sb) : CD w 32 m0 h (uI I 24 l (-1)) Q Z (uX X 203 l (.int (-1))) ow sb := by
  obtain ⟨k1, k2, k3, k4, k5, k6, k7⟩ := c
  refine ⟨k1, fun j hj => LK_c (k2 j hj) rfl rfl rfl, fun j hj => ?_, DT_c k4 rfl rfl rfl rfl rfl rfl rfl rfl, SP_c k5 rfl rfl rfl rfl rfl rfl rfl rfl, fun t ht => TM_c (k6 t ht) rfl rfl rfl rfl rfl rfl rfl rfl rfl rfl, k7⟩
  obtain ⟨-, -, b3⟩ := k3 j hj
  obtain ⟨y1, y2⟩ := b3 (by omega) (by omega)
  refine ⟨fun z => absurd z (by omega), fun z => absurd z (by omega), fun _ _ => ?_⟩
  by_cases e : j = l
  · subst e
    simp [uI, uX, y2]
  · have h1 : uI I 24 l (-1) 24 j = I 24 j := by simp [uI, e]
    have h2 : uX X 203 l (.int (-1)) 203 j = X 203 j := by simp [uX, e]
    rw [h1, h2]
    exact ⟨y1, y2⟩
theorem ca_los {w : Nat → Bool} {d : Nat} {h : am_Hp} {m0 : mg} {B : Nat} {I : sm_I} {Q : mQ} {Z : mZ} (hC : CA w 32 m0 B h (I, Q, Z)) (hB2 : B < 2 ^ 26) {f p : Nat} (hf : f < 4) (hp : p < 4) (hfp : ¬ f = p) (hd : 2 ≤ d) : am_Ev (am_prog w) d 89 [.ref 1, .int (nI f), .int (nI p)] h (fun r h' => r = some (.int (mlos f p (I, Q, Z)).1) ∧ CA w 32 m0 B h' (mlos f p (I, Q, Z)).2) := by
  obtain ⟨X, ow, sb, hS, hD, hB, hQ⟩ := hC
  change sm tbc h I X at hS
  change CD w 32 m0 h I Q Z X ow sb at hD
  change co h I ≤ B at hB
  change ∀ l, l < 16 → (Q l).length ≤ h.length at hQ
  have hW := hD.1.1
  have hWn : ∀ a, List.length h ≤ a → w a = true := fun a ha => (hD.1.2.1 a ha).1
  have hF1 := fr_refl tbc h
  have hln : 62 ≤ List.length h := sm_len hS
  obtain ⟨l, el⟩ : ∃ l, l = 4 * f + p := ⟨_, rfl⟩
  have hl : l < 16 := by omega
  have hLK : LK h ow sb l X (Q l) := by
    have := hD.2.1 l hl
    rw [cq_32 hl] at this
    exact this
  obtain ⟨b1, b2⟩ := (hD.2.2.1 l hl).2.2 (by omega) (by omega)
  obtain ⟨d, rfl⟩ : ∃ e, d = e + 1 := ⟨d - 1, by omega⟩
  refine ev_go rfl (Nat.le_of_ble_eq_true rfl) rfl ?_
  refine go_s (pc' := 1) rfl rfl rfl rfl ?_
  refine go_sget (pc' := 2) (v := .ref 2) hS rfl rfl rfl (by decide) rfl rfl ?_
  refine go_s (pc' := 3) rfl rfl rfl rfl ?_
  refine go_s (pc' := 4) rfl rfl rfl rfl ?_
  refine go_callV (pc' := 5) rfl rfl rfl (Nat.le_of_ble_eq_true rfl) rfl (sm_o hS rfl) rfl rfl rfl (ct_between hS hf hp hfp (by omega)) (fun r h2 q3 => ?_)
  obtain ⟨rfl, rfl⟩ := q3
  rw [← el]
  refine go_s (pc' := 6) (lo' := [some (.ref 1), some (.int (nI f)), some (.int (nI p)), some (.ref (8 + l))]) rfl rfl rfl rfl ?_
  refine go_s (pc' := 7) rfl rfl rfl rfl ?_
  refine go_s (pc' := 8) rfl rfl rfl rfl ?_
  refine go_s (pc' := 9) rfl rfl rfl rfl ?_
  refine go_sget (pc' := 10) (v := .int (I 24 l)) hS rfl rfl (tc_l5 hl) (by decide) b1 rfl ?_
  refine go_s (pc' := 11) (st' := [.int (-1), .int (I 24 l)]) rfl rfl rfl rfl ?_
  refine go_icmpP (t' := 14) (pc' := 12) rfl rfl rfl (fun (c4 : ¬ (I 24 l) = (-1)) => ?_) (fun (c4' : ¬ ¬ (I 24 l) = (-1)) => ?_)
  · skip
    refine go_s (pc' := 15) rfl rfl rfl rfl ?_
    refine go_s (pc' := 16) (st' := [.int (-1), .ref (8 + l)]) rfl rfl rfl rfl ?_
    refine go_sputX (pc' := 17) hS rfl rfl (tc_l5 hl) (by decide) tbc_inj (Nat.le_of_ble_eq_true rfl) (Nat.le_of_ble_eq_true rfl) rfl (hW _ (by rw [tc_lk hl]; rfl)) rfl (fun h5 hS6 hE7 => ?_)
    have hF8 := fr_trans hF1 (fr_e hE7)
    refine go_s (pc' := 18) (st' := [.int 1]) rfl rfl rfl rfl ?_
    refine go_ret rfl rfl ?_
    have hms : mlos f p (I, Q, Z) = (1, mwt l (I, Q, Z)) := by
      unfold mlos
      rw [← el, if_neg (show ¬ I 24 l = -1 from c4)]
    rw [hms]
    refine ⟨rfl, (uX X 203 l (.int (-1))), ow, sb, sm_12 hS6 rfl, CD_ls (CD_fr hD hF8), ?_, fun j hj => Nat.le_trans (hQ j hj) hF8.1⟩
    have := co_fr (I := I) (J := uI I 24 l (-1)) hF8 rfl
    show co _ (uI I 24 l (-1)) ≤ B
    omega
  · skip
    have c4 : (I 24 l) = (-1) := Decidable.not_not.mp c4'
    refine go_s (pc' := 13) (st' := [.int 0]) rfl rfl rfl rfl ?_
    refine go_ret rfl rfl ?_
    have hms : mlos f p (I, Q, Z) = (0, (I, Q, Z)) := by
      unfold mlos
      rw [← el, if_pos (show I 24 l = -1 from c4)]
    rw [hms]
    exact ⟨rfl, X, ow, sb, hS, hD, hB, hQ⟩
def mqlk (f p : Nat) (x : Int32) (M : mM) : Int32 := if x = 0 then nI (M.2.1 (4 * f + p)).length else if x = 4 then M.1 10 (4 * f + p) else match M.2.1 (4 * f + p) with
  | [] => -1
  | m :: _ => if x = 1 then m.1 0 else if x = 2 then M.1 24 (4 * f + p) else if x = 3 then m.1 1 else -1
theorem ca_lnk {w : Nat → Bool} {d : Nat} {h : am_Hp} {m0 : mg} {B : Nat} {I : sm_I} {Q : mQ} {Z : mZ} (hC : CA w 32 m0 B h (I, Q, Z)) (hB2 : B < 2 ^ 26) {f p : Nat} (hf : f < 4) (hp : p < 4) (hfp : ¬ f = p) {x : Int32} (hd : 2 ≤ d) : am_Ev (am_prog w) d 117 [.ref 1, .int (nI f), .int (nI p), .int x] h (fun r h' => r = some (.int (mqlk f p x (I, Q, Z))) ∧ h' = h) := by
  obtain ⟨X, ow, sb, hS, hD, hB, hQ⟩ := hC
  change sm tbc h I X at hS
  change CD w 32 m0 h I Q Z X ow sb at hD
  change co h I ≤ B at hB
  change ∀ l, l < 16 → (Q l).length ≤ h.length at hQ
  have hW := hD.1.1
  have hWn : ∀ a, List.length h ≤ a → w a = true := fun a ha => (hD.1.2.1 a ha).1
  have hF1 := fr_refl tbc h
  have hln : 62 ≤ List.length h := sm_len hS
  obtain ⟨l, el⟩ : ∃ l, l = 4 * f + p := ⟨_, rfl⟩
  have hl : l < 16 := by omega
  have hLK : LK h ow sb l X (Q l) := by
    have := hD.2.1 l hl
    rw [cq_32 hl] at this
    exact this
  obtain ⟨b1, b2⟩ := (hD.2.2.1 l hl).2.2 (by omega) (by omega)
  obtain ⟨d, rfl⟩ : ∃ e, d = e + 1 := ⟨d - 1, by omega⟩
  refine ev_go rfl (Nat.le_of_ble_eq_true rfl) rfl ?_
  cases hq : Q l with
  | nil =>
    rw [hq] at hLK
    rcases LK_cs hLK with ⟨-, x200, -, x202⟩ | ⟨z, -⟩
    · skip
      refine go_s (pc' := 1) rfl rfl rfl rfl ?_
      refine go_sget (pc' := 2) (v := .ref 2) hS rfl rfl rfl (by decide) rfl rfl ?_
      refine go_s (pc' := 3) rfl rfl rfl rfl ?_
      refine go_s (pc' := 4) rfl rfl rfl rfl ?_
      refine go_callV (pc' := 5) rfl rfl rfl (Nat.le_of_ble_eq_true rfl) rfl (sm_o hS rfl) rfl rfl rfl (ct_between hS hf hp hfp (by omega)) (fun r h2 q3 => ?_)
      obtain ⟨rfl, rfl⟩ := q3
      rw [← el]
      refine go_s (pc' := 6) (lo' := [some (.ref 1), some (.int (nI f)), some (.int (nI p)), some (.int x), some (.ref (8 + l))]) rfl rfl rfl rfl ?_
      refine go_s (pc' := 7) rfl rfl rfl rfl ?_
      refine go_s (pc' := 10) rfl rfl rfl rfl ?_
      refine go_s (pc' := 11) rfl rfl rfl rfl ?_
      refine go_ifP (t' := 15) (pc' := 12) rfl rfl rfl (fun (c4 : ¬ x = 0) => ?_) (fun (c4' : ¬ ¬ x = 0) => ?_)
      · skip
        refine go_s (pc' := 16) rfl rfl rfl rfl ?_
        refine go_s (pc' := 17) (st' := [.int 4, .int x]) rfl rfl rfl rfl ?_
        refine go_icmpP (t' := 21) (pc' := 18) rfl rfl rfl (fun (c5 : ¬ x = 4) => ?_) (fun (c5' : ¬ ¬ x = 4) => ?_)
        · skip
          refine go_s (pc' := 22) rfl rfl rfl rfl ?_
          refine go_sget (pc' := 23) (v := .null) hS rfl rfl (tc_l0 hl) (by decide) x200 rfl ?_
          refine go_s (pc' := 24) rfl rfl rfl rfl ?_
          refine go_s (pc' := 25) (st' := [.int (-1)]) rfl rfl rfl rfl ?_
          refine go_ret rfl rfl ?_
          exact ⟨by unfold mqlk; rw [← el, show (I, Q, Z).2.1 l = [] from hq, if_neg c4, if_neg c5] <;> rfl, rfl⟩
        · skip
          have c5 : x = 4 := Decidable.not_not.mp c5'
          refine go_s (pc' := 19) rfl rfl rfl rfl ?_
          refine go_sget (pc' := 20) (v := .int (I 10 l)) hS rfl rfl (tc_l4 hl) (by decide) rfl rfl ?_
          refine go_ret rfl rfl ?_
          exact ⟨by unfold mqlk; rw [← el, show (I, Q, Z).2.1 l = [] from hq, if_neg c4, if_pos c5] <;> rfl, rfl⟩
      · skip
        have c4 : x = 0 := Decidable.not_not.mp c4'
        refine go_s (pc' := 13) rfl rfl rfl rfl ?_
        refine go_sget (pc' := 14) (v := .int 0) hS rfl rfl (tc_l2 hl) (by decide) x202 rfl ?_
        refine go_ret rfl rfl ?_
        exact ⟨by unfold mqlk; rw [← el, show (I, Q, Z).2.1 l = [] from hq, if_pos c4] <;> rfl, rfl⟩
    · exact absurd rfl z
  | cons m qs =>
    rw [hq] at hLK
    obtain ⟨x9, L, x200, lenL, x202, ⟨ox, pr, td, vq, va, vs, hx, hmf⟩, x201, rest⟩ := LK_hd hLK
    refine go_s (pc' := 1) rfl rfl rfl rfl ?_
    refine go_sget (pc' := 2) (v := .ref 2) hS rfl rfl rfl (by decide) rfl rfl ?_
    refine go_s (pc' := 3) rfl rfl rfl rfl ?_
    refine go_s (pc' := 4) rfl rfl rfl rfl ?_
    refine go_callV (pc' := 5) rfl rfl rfl (Nat.le_of_ble_eq_true rfl) rfl (sm_o hS rfl) rfl rfl rfl (ct_between hS hf hp hfp (by omega)) (fun r h6 q7 => ?_)
    obtain ⟨rfl, rfl⟩ := q7
    rw [← el]
    refine go_s (pc' := 6) (lo' := [some (.ref 1), some (.int (nI f)), some (.int (nI p)), some (.int x), some (.ref (8 + l))]) rfl rfl rfl rfl ?_
    refine go_s (pc' := 7) rfl rfl rfl rfl ?_
    refine go_s (pc' := 10) rfl rfl rfl rfl ?_
    refine go_s (pc' := 11) rfl rfl rfl rfl ?_
    refine go_ifP (t' := 15) (pc' := 12) rfl rfl rfl (fun (c8 : ¬ x = 0) => ?_) (fun (c8' : ¬ ¬ x = 0) => ?_)
    · skip
      refine go_s (pc' := 16) rfl rfl rfl rfl ?_
      refine go_s (pc' := 17) (st' := [.int 4, .int x]) rfl rfl rfl rfl ?_
      refine go_icmpP (t' := 21) (pc' := 18) rfl rfl rfl (fun (c9 : ¬ x = 4) => ?_) (fun (c9' : ¬ ¬ x = 4) => ?_)
      · skip
        refine go_s (pc' := 22) rfl rfl rfl rfl ?_
        refine go_sget (pc' := 23) (v := .ref x9) hS rfl rfl (tc_l0 hl) (by decide) x200 rfl ?_
        refine go_s (pc' := 26) rfl rfl rfl rfl ?_
        refine go_s (pc' := 27) rfl rfl rfl rfl ?_
        by_cases c10 : x = 1
        · skip
          refine go_tsw (t' := 28) rfl (Or.inr (by rw [c10]; exact ⟨by decide, rfl⟩)) rfl ?_
          refine go_s (pc' := 29) rfl rfl rfl rfl ?_
          refine go_sget (pc' := 30) (v := .ref x9) hS rfl rfl (tc_l0 hl) (by decide) x200 rfl ?_
          refine go_get (pc' := 31) rfl hx rfl (by decide) rfl rfl ?_
          refine go_ret rfl rfl ?_
          exact ⟨by unfold mqlk; rw [← el, show (I, Q, Z).2.1 l = m :: qs from hq, if_neg c8, if_neg c9]; simp only []; rw [if_pos c10], rfl⟩
        by_cases c11 : x = 2
        · skip
          refine go_tsw (t' := 32) rfl (Or.inr (by rw [c11]; exact ⟨by decide, rfl⟩)) rfl ?_
          refine go_s (pc' := 33) rfl rfl rfl rfl ?_
          refine go_sget (pc' := 34) (v := .int (I 24 l)) hS rfl rfl (tc_l5 hl) (by decide) b1 rfl ?_
          refine go_ret rfl rfl ?_
          exact ⟨by unfold mqlk; rw [← el, show (I, Q, Z).2.1 l = m :: qs from hq, if_neg c8, if_neg c9]; simp only []; rw [if_neg c10, if_pos c11], rfl⟩
        by_cases c12 : x = 3
        · skip
          refine go_tsw (t' := 35) rfl (Or.inr (by rw [c12]; exact ⟨by decide, rfl⟩)) rfl ?_
          refine go_s (pc' := 36) rfl rfl rfl rfl ?_
          refine go_sget (pc' := 37) (v := .ref x9) hS rfl rfl (tc_l0 hl) (by decide) x200 rfl ?_
          refine go_get (pc' := 38) rfl hx rfl (by decide) rfl rfl ?_
          refine go_ret rfl rfl ?_
          exact ⟨by unfold mqlk; rw [← el, show (I, Q, Z).2.1 l = m :: qs from hq, if_neg c8, if_neg c9]; simp only []; rw [if_neg c10, if_neg c11, if_pos c12], rfl⟩
        refine go_tsw (t' := 39) rfl (Or.inl ⟨tsw_1_3 c10 c11 c12, rfl⟩) rfl ?_
        refine go_s (pc' := 40) (st' := [.int (-1)]) rfl rfl rfl rfl ?_
        refine go_ret rfl rfl ?_
        exact ⟨by unfold mqlk; rw [← el, show (I, Q, Z).2.1 l = m :: qs from hq, if_neg c8, if_neg c9]; simp only []; rw [if_neg c10, if_neg c11, if_neg c12], rfl⟩
      · skip
        have c9 : x = 4 := Decidable.not_not.mp c9'
        refine go_s (pc' := 19) rfl rfl rfl rfl ?_
        refine go_sget (pc' := 20) (v := .int (I 10 l)) hS rfl rfl (tc_l4 hl) (by decide) rfl rfl ?_
        refine go_ret rfl rfl ?_
        exact ⟨by unfold mqlk; rw [← el, show (I, Q, Z).2.1 l = m :: qs from hq, if_neg c8, if_pos c9] <;> first | rfl | (rw [lenL]; rfl), rfl⟩
    · skip
      have c8 : x = 0 := Decidable.not_not.mp c8'
      refine go_s (pc' := 13) rfl rfl rfl rfl ?_
      refine go_sget (pc' := 14) (v := .int (nI (L.length + 1))) hS rfl rfl (tc_l2 hl) (by decide) x202 rfl ?_
      refine go_ret rfl rfl ?_
      exact ⟨by unfold mqlk; rw [← el, show (I, Q, Z).2.1 l = m :: qs from hq, if_pos c8] <;> first | rfl | (rw [lenL]; rfl), rfl⟩
theorem ca_arr_f {w : Nat → Bool} {d : Nat} {h : am_Hp} {m0 : mg} {B : Nat} {I : sm_I} {Q : mQ} {Z : mZ} (hC : CA w 32 m0 B h (I, Q, Z)) (hB2 : B < 2 ^ 26) {a b c : Int32} (hn : ¬ (¬ a < 0 ∧ ¬ 4 ≤ a ∧ ¬ b < 0 ∧ ¬ 4 ≤ b ∧ ¬ a = b)) (hd : 2 ≤ d) : am_Ev (am_prog w) d 78 [.ref 1, .int a, .int b, .int c] h (fun r h' => r = some (.int (-1)) ∧ h' = h) := by
  obtain ⟨X, ow, sb, hS, hD, hB, hQ⟩ := hC
  change sm tbc h I X at hS
  change CD w 32 m0 h I Q Z X ow sb at hD
  change co h I ≤ B at hB
  change ∀ l, l < 16 → (Q l).length ≤ h.length at hQ
  have hW := hD.1.1
  have hWn : ∀ a, List.length h ≤ a → w a = true := fun a ha => (hD.1.2.1 a ha).1
  have hF1 := fr_refl tbc h
  have hln : 62 ≤ List.length h := sm_len hS
  obtain ⟨d, rfl⟩ : ∃ e, d = e + 1 := ⟨d - 1, by omega⟩
  refine ev_go rfl (Nat.le_of_ble_eq_true rfl) rfl ?_
  refine go_s (pc' := 1) rfl rfl rfl rfl ?_
  refine go_sget (pc' := 2) (v := .ref 2) hS rfl rfl rfl (by decide) rfl rfl ?_
  refine go_s (pc' := 3) rfl rfl rfl rfl ?_
  refine go_s (pc' := 4) rfl rfl rfl rfl ?_
  refine go_callV (pc' := 5) rfl rfl rfl (Nat.le_of_ble_eq_true rfl) rfl (sm_o hS rfl) rfl rfl rfl (ct_between_f hS hn (by omega)) (fun r h2 q3 => ?_)
  obtain ⟨rfl, rfl⟩ := q3
  refine go_s (pc' := 6) (lo' := [some (.ref 1), some (.int a), some (.int b), some (.int c), some (.null), none, none]) rfl rfl rfl rfl ?_
  refine go_s (pc' := 7) rfl rfl rfl rfl ?_
  refine go_s (pc' := 8) rfl rfl rfl rfl ?_
  refine go_s (pc' := 9) (st' := [.int (-1)]) rfl rfl rfl rfl ?_
  refine go_ret rfl rfl ?_
  exact ⟨rfl, rfl⟩
theorem ca_los_f {w : Nat → Bool} {d : Nat} {h : am_Hp} {m0 : mg} {B : Nat} {I : sm_I} {Q : mQ} {Z : mZ} (hC : CA w 32 m0 B h (I, Q, Z)) (hB2 : B < 2 ^ 26) {a b : Int32} (hn : ¬ (¬ a < 0 ∧ ¬ 4 ≤ a ∧ ¬ b < 0 ∧ ¬ 4 ≤ b ∧ ¬ a = b)) (hd : 2 ≤ d) : am_Ev (am_prog w) d 89 [.ref 1, .int a, .int b] h (fun r h' => r = some (.int 0) ∧ h' = h) := by
  obtain ⟨X, ow, sb, hS, hD, hB, hQ⟩ := hC
  change sm tbc h I X at hS
  change CD w 32 m0 h I Q Z X ow sb at hD
  change co h I ≤ B at hB
  change ∀ l, l < 16 → (Q l).length ≤ h.length at hQ
  have hW := hD.1.1
  have hWn : ∀ a, List.length h ≤ a → w a = true := fun a ha => (hD.1.2.1 a ha).1
  have hF1 := fr_refl tbc h
  have hln : 62 ≤ List.length h := sm_len hS
  obtain ⟨d, rfl⟩ : ∃ e, d = e + 1 := ⟨d - 1, by omega⟩
  refine ev_go rfl (Nat.le_of_ble_eq_true rfl) rfl ?_
  refine go_s (pc' := 1) rfl rfl rfl rfl ?_
  refine go_sget (pc' := 2) (v := .ref 2) hS rfl rfl rfl (by decide) rfl rfl ?_
  refine go_s (pc' := 3) rfl rfl rfl rfl ?_
  refine go_s (pc' := 4) rfl rfl rfl rfl ?_
  refine go_callV (pc' := 5) rfl rfl rfl (Nat.le_of_ble_eq_true rfl) rfl (sm_o hS rfl) rfl rfl rfl (ct_between_f hS hn (by omega)) (fun r h2 q3 => ?_)
  obtain ⟨rfl, rfl⟩ := q3
  refine go_s (pc' := 6) (lo' := [some (.ref 1), some (.int a), some (.int b), some (.null)]) rfl rfl rfl rfl ?_
  refine go_s (pc' := 7) rfl rfl rfl rfl ?_
  refine go_s (pc' := 12) rfl rfl rfl rfl ?_
  refine go_s (pc' := 13) (st' := [.int 0]) rfl rfl rfl rfl ?_
  refine go_ret rfl rfl ?_
  exact ⟨rfl, rfl⟩
theorem ca_lnk_f {w : Nat → Bool} {d : Nat} {h : am_Hp} {m0 : mg} {B : Nat} {I : sm_I} {Q : mQ} {Z : mZ} (hC : CA w 32 m0 B h (I, Q, Z)) (hB2 : B < 2 ^ 26) {a b c : Int32} (hn : ¬ (¬ a < 0 ∧ ¬ 4 ≤ a ∧ ¬ b < 0 ∧ ¬ 4 ≤ b ∧ ¬ a = b)) (hd : 2 ≤ d) : am_Ev (am_prog w) d 117 [.ref 1, .int a, .int b, .int c] h (fun r h' => r = some (.int (-1)) ∧ h' = h) := by
  obtain ⟨X, ow, sb, hS, hD, hB, hQ⟩ := hC
  change sm tbc h I X at hS
  change CD w 32 m0 h I Q Z X ow sb at hD
  change co h I ≤ B at hB
  change ∀ l, l < 16 → (Q l).length ≤ h.length at hQ
  have hW := hD.1.1
  have hWn : ∀ a, List.length h ≤ a → w a = true := fun a ha => (hD.1.2.1 a ha).1
  have hF1 := fr_refl tbc h
  have hln : 62 ≤ List.length h := sm_len hS
  obtain ⟨d, rfl⟩ : ∃ e, d = e + 1 := ⟨d - 1, by omega⟩
  refine ev_go rfl (Nat.le_of_ble_eq_true rfl) rfl ?_
  refine go_s (pc' := 1) rfl rfl rfl rfl ?_
  refine go_sget (pc' := 2) (v := .ref 2) hS rfl rfl rfl (by decide) rfl rfl ?_
  refine go_s (pc' := 3) rfl rfl rfl rfl ?_
  refine go_s (pc' := 4) rfl rfl rfl rfl ?_
  refine go_callV (pc' := 5) rfl rfl rfl (Nat.le_of_ble_eq_true rfl) rfl (sm_o hS rfl) rfl rfl rfl (ct_between_f hS hn (by omega)) (fun r h2 q3 => ?_)
  obtain ⟨rfl, rfl⟩ := q3
  refine go_s (pc' := 6) (lo' := [some (.ref 1), some (.int a), some (.int b), some (.int c), some (.null)]) rfl rfl rfl rfl ?_
  refine go_s (pc' := 7) rfl rfl rfl rfl ?_
  refine go_s (pc' := 8) rfl rfl rfl rfl ?_
  refine go_s (pc' := 9) (st' := [.int (-1)]) rfl rfl rfl rfl ?_
  refine go_ret rfl rfl ?_
  exact ⟨rfl, rfl⟩
def mqan (t : Nat) (x : Int32) (M : mM) : Int32 := if lv M.1 (1 + t) = true then (if M.1 18 t = 0 then -1 else if x = 0 then M.1 19 (4 * t) else if x = 1 then M.1 19 (4 * t + 1) else if x = 2 then M.1 19 (4 * t + 2) else if x = 3 then M.1 19 (4 * t + 3) else -1) else -1
theorem ca_ans_0 {w : Nat → Bool} {d : Nat} {h : am_Hp} {m0 : mg} {B : Nat} {I : sm_I} {Q : mQ} {Z : mZ} (hC : CA w 32 m0 B h (I, Q, Z)) (hB2 : B < 2 ^ 26) {x : Int32} (hd : 3 ≤ d) : am_Ev (am_prog w) d 109 [.ref 1, .int 0, .int x] h (fun r h' => r = some (.int (mqan 0 x (I, Q, Z))) ∧ h' = h) := by
  obtain ⟨X, ow, sb, hS, hD, hB, hQ⟩ := hC
  change sm tbc h I X at hS
  change CD w 32 m0 h I Q Z X ow sb at hD
  change co h I ≤ B at hB
  change ∀ l, l < 16 → (Q l).length ≤ h.length at hQ
  have hW := hD.1.1
  have hWn : ∀ a, List.length h ≤ a → w a = true := fun a ha => (hD.1.2.1 a ha).1
  have hF1 := fr_refl tbc h
  have hln : 62 ≤ List.length h := sm_len hS
  obtain ⟨d, rfl⟩ : ∃ e, d = e + 1 := ⟨d - 1, by omega⟩
  refine ev_go rfl (Nat.le_of_ble_eq_true rfl) rfl ?_
  obtain ⟨-, -, t3, t4⟩ := hD.2.2.2.2.2.1 0 (by decide)
  by_cases c18 : I 18 0 = 0
  · skip
    refine go_s (pc' := 1) rfl rfl rfl rfl ?_
    refine go_s (pc' := 2) rfl rfl rfl rfl ?_
    refine go_callV (pc' := 3) rfl rfl rfl (Nat.le_of_ble_eq_true rfl) rfl (sm_o hS rfl) rfl rfl rfl (ct_termAt_0 hS (by omega)) (fun r h2 q3 => ?_)
    obtain ⟨rfl, rfl⟩ := q3
    refine go_s (pc' := 4) (lo' := [some (.ref 1), some (.int 0), some (.int x), some (.ref 59)]) rfl rfl rfl rfl ?_
    refine go_s (pc' := 5) rfl rfl rfl rfl ?_
    refine go_s (pc' := 6) rfl rfl rfl rfl ?_
    refine go_s (pc' := 7) rfl rfl rfl rfl ?_
    refine go_s (pc' := 8) rfl rfl rfl rfl ?_
    refine go_callV (pc' := 9) rfl rfl rfl (Nat.le_of_ble_eq_true rfl) rfl (sm_o hS rfl) rfl rfl rfl (ct_works_1 hS (hD.2.2.2.2.2.2 1 (by decide)) (by omega)) (fun r h4 q5 => ?_)
    obtain ⟨rfl, rfl⟩ := q5
    cases u6 : lv I 1
    · skip
      show am_Go _ _ _ _ 9 _ [.int 0] _ _
      refine go_ifP (t' := 13) (pc' := 10) rfl rfl rfl (fun _ => ?_) (fun (c : ¬ ((0 : Int32) = 0)) => absurd (by decide) c)
      refine go_s (pc' := 14) (st' := [.int (-1)]) rfl rfl rfl rfl ?_
      refine go_ret rfl rfl ?_
      exact ⟨by unfold mqan; rw [if_neg (by rw [show lv (I, Q, Z).1 (1 + 0) = false from u6]; decide)], rfl⟩
    · skip
      show am_Go _ _ _ _ 9 _ [.int 1] _ _
      refine go_ifP (t' := 13) (pc' := 10) rfl rfl rfl (fun (c : (1 : Int32) = 0) => absurd c (by decide)) (fun _ => ?_)
      refine go_s (pc' := 11) rfl rfl rfl rfl ?_
      refine go_sget (pc' := 12) (v := .null) hS rfl rfl rfl (by decide) (t3 c18) rfl ?_
      refine go_s (pc' := 13) rfl rfl rfl rfl ?_
      refine go_s (pc' := 14) (st' := [.int (-1)]) rfl rfl rfl rfl ?_
      refine go_ret rfl rfl ?_
      exact ⟨by unfold mqan; rw [if_pos (show lv (I, Q, Z).1 (1 + 0) = true from u6), if_pos (show I 18 0 = 0 from c18)], rfl⟩
  · skip
    obtain ⟨s, ⟨b, e215, ob, hb⟩, s2, s3, s4, s5⟩ := t4 c18
    refine go_s (pc' := 1) rfl rfl rfl rfl ?_
    refine go_s (pc' := 2) rfl rfl rfl rfl ?_
    refine go_callV (pc' := 3) rfl rfl rfl (Nat.le_of_ble_eq_true rfl) rfl (sm_o hS rfl) rfl rfl rfl (ct_termAt_0 hS (by omega)) (fun r h7 q8 => ?_)
    obtain ⟨rfl, rfl⟩ := q8
    refine go_s (pc' := 4) (lo' := [some (.ref 1), some (.int 0), some (.int x), some (.ref 59)]) rfl rfl rfl rfl ?_
    refine go_s (pc' := 5) rfl rfl rfl rfl ?_
    refine go_s (pc' := 6) rfl rfl rfl rfl ?_
    refine go_s (pc' := 7) rfl rfl rfl rfl ?_
    refine go_s (pc' := 8) rfl rfl rfl rfl ?_
    refine go_callV (pc' := 9) rfl rfl rfl (Nat.le_of_ble_eq_true rfl) rfl (sm_o hS rfl) rfl rfl rfl (ct_works_1 hS (hD.2.2.2.2.2.2 1 (by decide)) (by omega)) (fun r h9 q10 => ?_)
    obtain ⟨rfl, rfl⟩ := q10
    cases u11 : lv I 1
    · skip
      show am_Go _ _ _ _ 9 _ [.int 0] _ _
      refine go_ifP (t' := 13) (pc' := 10) rfl rfl rfl (fun _ => ?_) (fun (c : ¬ ((0 : Int32) = 0)) => absurd (by decide) c)
      refine go_s (pc' := 14) (st' := [.int (-1)]) rfl rfl rfl rfl ?_
      refine go_ret rfl rfl ?_
      exact ⟨by unfold mqan; rw [if_neg (by rw [show lv (I, Q, Z).1 (1 + 0) = false from u11]; decide)], rfl⟩
    · skip
      show am_Go _ _ _ _ 9 _ [.int 1] _ _
      refine go_ifP (t' := 13) (pc' := 10) rfl rfl rfl (fun (c : (1 : Int32) = 0) => absurd c (by decide)) (fun _ => ?_)
      refine go_s (pc' := 11) rfl rfl rfl rfl ?_
      refine go_sget (pc' := 12) (v := .ref b) hS rfl rfl rfl (by decide) e215 rfl ?_
      refine go_s (pc' := 15) rfl rfl rfl rfl ?_
      refine go_s (pc' := 16) rfl rfl rfl rfl ?_
      by_cases c12 : x = 0
      · skip
        refine go_tsw (t' := 17) rfl (Or.inr (by rw [c12]; exact ⟨by decide, rfl⟩)) rfl ?_
        refine go_s (pc' := 18) rfl rfl rfl rfl ?_
        refine go_sget (pc' := 19) (v := .ref b) hS rfl rfl rfl (by decide) e215 rfl ?_
        refine go_get (pc' := 20) rfl hb rfl (by decide) rfl rfl ?_
        refine go_ret rfl rfl ?_
        exact ⟨by unfold mqan; rw [if_pos (show lv (I, Q, Z).1 (1 + 0) = true from u11), if_neg (show ¬ I 18 0 = 0 from c18), if_pos c12]
                <;> first | rfl | exact congrArg (fun z => some (Value.int z)) s2, rfl⟩
      by_cases c13 : x = 1
      · skip
        refine go_tsw (t' := 21) rfl (Or.inr (by rw [c13]; exact ⟨by decide, rfl⟩)) rfl ?_
        refine go_s (pc' := 22) rfl rfl rfl rfl ?_
        refine go_sget (pc' := 23) (v := .ref b) hS rfl rfl rfl (by decide) e215 rfl ?_
        refine go_get (pc' := 24) rfl hb rfl (by decide) rfl rfl ?_
        refine go_ret rfl rfl ?_
        exact ⟨by unfold mqan; rw [if_pos (show lv (I, Q, Z).1 (1 + 0) = true from u11), if_neg (show ¬ I 18 0 = 0 from c18), if_neg c12, if_pos c13]
                <;> first | rfl | exact congrArg (fun z => some (Value.int z)) s3, rfl⟩
      by_cases c14 : x = 2
      · skip
        refine go_tsw (t' := 25) rfl (Or.inr (by rw [c14]; exact ⟨by decide, rfl⟩)) rfl ?_
        refine go_s (pc' := 26) rfl rfl rfl rfl ?_
        refine go_sget (pc' := 27) (v := .ref b) hS rfl rfl rfl (by decide) e215 rfl ?_
        refine go_get (pc' := 28) rfl hb rfl (by decide) rfl rfl ?_
        refine go_ret rfl rfl ?_
        exact ⟨by unfold mqan; rw [if_pos (show lv (I, Q, Z).1 (1 + 0) = true from u11), if_neg (show ¬ I 18 0 = 0 from c18), if_neg c12, if_neg c13, if_pos c14]
                <;> first | rfl | exact congrArg (fun z => some (Value.int z)) s4, rfl⟩
      by_cases c15 : x = 3
      · skip
        refine go_tsw (t' := 29) rfl (Or.inr (by rw [c15]; exact ⟨by decide, rfl⟩)) rfl ?_
        refine go_s (pc' := 30) rfl rfl rfl rfl ?_
        refine go_sget (pc' := 31) (v := .ref b) hS rfl rfl rfl (by decide) e215 rfl ?_
        refine go_get (pc' := 32) rfl hb rfl (by decide) rfl rfl ?_
        refine go_ret rfl rfl ?_
        exact ⟨by unfold mqan; rw [if_pos (show lv (I, Q, Z).1 (1 + 0) = true from u11), if_neg (show ¬ I 18 0 = 0 from c18), if_neg c12, if_neg c13, if_neg c14, if_pos c15]
                <;> first | rfl | exact congrArg (fun z => some (Value.int z)) s5, rfl⟩
      refine go_tsw (t' := 33) rfl (Or.inl ⟨tsw_0_3 c12 c13 c14 c15, rfl⟩) rfl ?_
      refine go_s (pc' := 34) (st' := [.int (-1)]) rfl rfl rfl rfl ?_
      refine go_ret rfl rfl ?_
      exact ⟨by unfold mqan; rw [if_pos (show lv (I, Q, Z).1 (1 + 0) = true from u11), if_neg (show ¬ I 18 0 = 0 from c18), if_neg c12, if_neg c13, if_neg c14, if_neg c15], rfl⟩
theorem ca_ans_1 {w : Nat → Bool} {d : Nat} {h : am_Hp} {m0 : mg} {B : Nat} {I : sm_I} {Q : mQ} {Z : mZ} (hC : CA w 32 m0 B h (I, Q, Z)) (hB2 : B < 2 ^ 26) {x : Int32} (hd : 3 ≤ d) : am_Ev (am_prog w) d 109 [.ref 1, .int 1, .int x] h (fun r h' => r = some (.int (mqan 1 x (I, Q, Z))) ∧ h' = h) := by
  obtain ⟨X, ow, sb, hS, hD, hB, hQ⟩ := hC
  change sm tbc h I X at hS
  change CD w 32 m0 h I Q Z X ow sb at hD
  change co h I ≤ B at hB
  change ∀ l, l < 16 → (Q l).length ≤ h.length at hQ
  have hW := hD.1.1
  have hWn : ∀ a, List.length h ≤ a → w a = true := fun a ha => (hD.1.2.1 a ha).1
  have hF1 := fr_refl tbc h
  have hln : 62 ≤ List.length h := sm_len hS
  obtain ⟨d, rfl⟩ : ∃ e, d = e + 1 := ⟨d - 1, by omega⟩
  refine ev_go rfl (Nat.le_of_ble_eq_true rfl) rfl ?_
  obtain ⟨-, -, t3, t4⟩ := hD.2.2.2.2.2.1 1 (by decide)
  by_cases c18 : I 18 1 = 0
  · skip
    refine go_s (pc' := 1) rfl rfl rfl rfl ?_
    refine go_s (pc' := 2) rfl rfl rfl rfl ?_
    refine go_callV (pc' := 3) rfl rfl rfl (Nat.le_of_ble_eq_true rfl) rfl (sm_o hS rfl) rfl rfl rfl (ct_termAt_1 hS (by omega)) (fun r h2 q3 => ?_)
    obtain ⟨rfl, rfl⟩ := q3
    refine go_s (pc' := 4) (lo' := [some (.ref 1), some (.int 1), some (.int x), some (.ref 60)]) rfl rfl rfl rfl ?_
    refine go_s (pc' := 5) rfl rfl rfl rfl ?_
    refine go_s (pc' := 6) rfl rfl rfl rfl ?_
    refine go_s (pc' := 7) rfl rfl rfl rfl ?_
    refine go_s (pc' := 8) rfl rfl rfl rfl ?_
    refine go_callV (pc' := 9) rfl rfl rfl (Nat.le_of_ble_eq_true rfl) rfl (sm_o hS rfl) rfl rfl rfl (ct_works_2 hS (hD.2.2.2.2.2.2 2 (by decide)) (by omega)) (fun r h4 q5 => ?_)
    obtain ⟨rfl, rfl⟩ := q5
    cases u6 : lv I 2
    · skip
      show am_Go _ _ _ _ 9 _ [.int 0] _ _
      refine go_ifP (t' := 13) (pc' := 10) rfl rfl rfl (fun _ => ?_) (fun (c : ¬ ((0 : Int32) = 0)) => absurd (by decide) c)
      refine go_s (pc' := 14) (st' := [.int (-1)]) rfl rfl rfl rfl ?_
      refine go_ret rfl rfl ?_
      exact ⟨by unfold mqan; rw [if_neg (by rw [show lv (I, Q, Z).1 (1 + 1) = false from u6]; decide)], rfl⟩
    · skip
      show am_Go _ _ _ _ 9 _ [.int 1] _ _
      refine go_ifP (t' := 13) (pc' := 10) rfl rfl rfl (fun (c : (1 : Int32) = 0) => absurd c (by decide)) (fun _ => ?_)
      refine go_s (pc' := 11) rfl rfl rfl rfl ?_
      refine go_sget (pc' := 12) (v := .null) hS rfl rfl rfl (by decide) (t3 c18) rfl ?_
      refine go_s (pc' := 13) rfl rfl rfl rfl ?_
      refine go_s (pc' := 14) (st' := [.int (-1)]) rfl rfl rfl rfl ?_
      refine go_ret rfl rfl ?_
      exact ⟨by unfold mqan; rw [if_pos (show lv (I, Q, Z).1 (1 + 1) = true from u6), if_pos (show I 18 1 = 0 from c18)], rfl⟩
  · skip
    obtain ⟨s, ⟨b, e215, ob, hb⟩, s2, s3, s4, s5⟩ := t4 c18
    refine go_s (pc' := 1) rfl rfl rfl rfl ?_
    refine go_s (pc' := 2) rfl rfl rfl rfl ?_
    refine go_callV (pc' := 3) rfl rfl rfl (Nat.le_of_ble_eq_true rfl) rfl (sm_o hS rfl) rfl rfl rfl (ct_termAt_1 hS (by omega)) (fun r h7 q8 => ?_)
    obtain ⟨rfl, rfl⟩ := q8
    refine go_s (pc' := 4) (lo' := [some (.ref 1), some (.int 1), some (.int x), some (.ref 60)]) rfl rfl rfl rfl ?_
    refine go_s (pc' := 5) rfl rfl rfl rfl ?_
    refine go_s (pc' := 6) rfl rfl rfl rfl ?_
    refine go_s (pc' := 7) rfl rfl rfl rfl ?_
    refine go_s (pc' := 8) rfl rfl rfl rfl ?_
    refine go_callV (pc' := 9) rfl rfl rfl (Nat.le_of_ble_eq_true rfl) rfl (sm_o hS rfl) rfl rfl rfl (ct_works_2 hS (hD.2.2.2.2.2.2 2 (by decide)) (by omega)) (fun r h9 q10 => ?_)
    obtain ⟨rfl, rfl⟩ := q10
    cases u11 : lv I 2
    · skip
      show am_Go _ _ _ _ 9 _ [.int 0] _ _
      refine go_ifP (t' := 13) (pc' := 10) rfl rfl rfl (fun _ => ?_) (fun (c : ¬ ((0 : Int32) = 0)) => absurd (by decide) c)
      refine go_s (pc' := 14) (st' := [.int (-1)]) rfl rfl rfl rfl ?_
      refine go_ret rfl rfl ?_
      exact ⟨by unfold mqan; rw [if_neg (by rw [show lv (I, Q, Z).1 (1 + 1) = false from u11]; decide)], rfl⟩
    · skip
      show am_Go _ _ _ _ 9 _ [.int 1] _ _
      refine go_ifP (t' := 13) (pc' := 10) rfl rfl rfl (fun (c : (1 : Int32) = 0) => absurd c (by decide)) (fun _ => ?_)
      refine go_s (pc' := 11) rfl rfl rfl rfl ?_
      refine go_sget (pc' := 12) (v := .ref b) hS rfl rfl rfl (by decide) e215 rfl ?_
      refine go_s (pc' := 15) rfl rfl rfl rfl ?_
      refine go_s (pc' := 16) rfl rfl rfl rfl ?_
      by_cases c12 : x = 0
      · skip
        refine go_tsw (t' := 17) rfl (Or.inr (by rw [c12]; exact ⟨by decide, rfl⟩)) rfl ?_
        refine go_s (pc' := 18) rfl rfl rfl rfl ?_
        refine go_sget (pc' := 19) (v := .ref b) hS rfl rfl rfl (by decide) e215 rfl ?_
        refine go_get (pc' := 20) rfl hb rfl (by decide) rfl rfl ?_
        refine go_ret rfl rfl ?_
        exact ⟨by unfold mqan; rw [if_pos (show lv (I, Q, Z).1 (1 + 1) = true from u11), if_neg (show ¬ I 18 1 = 0 from c18), if_pos c12]
                <;> first | rfl | exact congrArg (fun z => some (Value.int z)) s2, rfl⟩
      by_cases c13 : x = 1
      · skip
        refine go_tsw (t' := 21) rfl (Or.inr (by rw [c13]; exact ⟨by decide, rfl⟩)) rfl ?_
        refine go_s (pc' := 22) rfl rfl rfl rfl ?_
        refine go_sget (pc' := 23) (v := .ref b) hS rfl rfl rfl (by decide) e215 rfl ?_
        refine go_get (pc' := 24) rfl hb rfl (by decide) rfl rfl ?_
        refine go_ret rfl rfl ?_
        exact ⟨by unfold mqan; rw [if_pos (show lv (I, Q, Z).1 (1 + 1) = true from u11), if_neg (show ¬ I 18 1 = 0 from c18), if_neg c12, if_pos c13]
                <;> first | rfl | exact congrArg (fun z => some (Value.int z)) s3, rfl⟩
      by_cases c14 : x = 2
      · skip
        refine go_tsw (t' := 25) rfl (Or.inr (by rw [c14]; exact ⟨by decide, rfl⟩)) rfl ?_
        refine go_s (pc' := 26) rfl rfl rfl rfl ?_
        refine go_sget (pc' := 27) (v := .ref b) hS rfl rfl rfl (by decide) e215 rfl ?_
        refine go_get (pc' := 28) rfl hb rfl (by decide) rfl rfl ?_
        refine go_ret rfl rfl ?_
        exact ⟨by unfold mqan; rw [if_pos (show lv (I, Q, Z).1 (1 + 1) = true from u11), if_neg (show ¬ I 18 1 = 0 from c18), if_neg c12, if_neg c13, if_pos c14]
                <;> first | rfl | exact congrArg (fun z => some (Value.int z)) s4, rfl⟩
      by_cases c15 : x = 3
      · skip
        refine go_tsw (t' := 29) rfl (Or.inr (by rw [c15]; exact ⟨by decide, rfl⟩)) rfl ?_
        refine go_s (pc' := 30) rfl rfl rfl rfl ?_
        refine go_sget (pc' := 31) (v := .ref b) hS rfl rfl rfl (by decide) e215 rfl ?_
        refine go_get (pc' := 32) rfl hb rfl (by decide) rfl rfl ?_
        refine go_ret rfl rfl ?_
        exact ⟨by unfold mqan; rw [if_pos (show lv (I, Q, Z).1 (1 + 1) = true from u11), if_neg (show ¬ I 18 1 = 0 from c18), if_neg c12, if_neg c13, if_neg c14, if_pos c15]
                <;> first | rfl | exact congrArg (fun z => some (Value.int z)) s5, rfl⟩
      refine go_tsw (t' := 33) rfl (Or.inl ⟨tsw_0_3 c12 c13 c14 c15, rfl⟩) rfl ?_
      refine go_s (pc' := 34) (st' := [.int (-1)]) rfl rfl rfl rfl ?_
      refine go_ret rfl rfl ?_
      exact ⟨by unfold mqan; rw [if_pos (show lv (I, Q, Z).1 (1 + 1) = true from u11), if_neg (show ¬ I 18 1 = 0 from c18), if_neg c12, if_neg c13, if_neg c14, if_neg c15], rfl⟩
theorem ca_ans_f {w : Nat → Bool} {d : Nat} {h : am_Hp} {m0 : mg} {B : Nat} {I : sm_I} {Q : mQ} {Z : mZ} (hC : CA w 32 m0 B h (I, Q, Z)) (hB2 : B < 2 ^ 26) {a x : Int32} (hn : a < 0 ∨ nI 2 ≤ a) (hd : 3 ≤ d) : am_Ev (am_prog w) d 109 [.ref 1, .int a, .int x] h (fun r h' => r = some (.int (-1)) ∧ h' = h) := by
  obtain ⟨X, ow, sb, hS, hD, hB, hQ⟩ := hC
  change sm tbc h I X at hS
  change CD w 32 m0 h I Q Z X ow sb at hD
  change co h I ≤ B at hB
  change ∀ l, l < 16 → (Q l).length ≤ h.length at hQ
  have hW := hD.1.1
  have hWn : ∀ a, List.length h ≤ a → w a = true := fun a ha => (hD.1.2.1 a ha).1
  have hF1 := fr_refl tbc h
  have hln : 62 ≤ List.length h := sm_len hS
  obtain ⟨d, rfl⟩ : ∃ e, d = e + 1 := ⟨d - 1, by omega⟩
  refine ev_go rfl (Nat.le_of_ble_eq_true rfl) rfl ?_
  refine go_s (pc' := 1) rfl rfl rfl rfl ?_
  refine go_s (pc' := 2) rfl rfl rfl rfl ?_
  refine go_callV (pc' := 3) rfl rfl rfl (Nat.le_of_ble_eq_true rfl) rfl (sm_o hS rfl) rfl rfl rfl (ct_termAt_f hS hn (by omega)) (fun r h2 q3 => ?_)
  obtain ⟨rfl, rfl⟩ := q3
  refine go_s (pc' := 4) (lo' := [some (.ref 1), some (.int a), some (.int x), some (.null)]) rfl rfl rfl rfl ?_
  refine go_s (pc' := 5) rfl rfl rfl rfl ?_
  refine go_s (pc' := 13) rfl rfl rfl rfl ?_
  refine go_s (pc' := 14) (st' := [.int (-1)]) rfl rfl rfl rfl ?_
  refine go_ret rfl rfl ?_
  exact ⟨rfl, rfl⟩
