theorem ct_awaits_0 {w : Nat → Bool} {d : Nat} {h : am_Hp} {I : sm_I} {X : sm_X} (hS : sm tbc h I X) {ow : ow_T} {r9 : Nat → Int32} (htr : TR h ow 0 (X 211 0) (X 212 0) r9) {b9 : Nat} {s : Nat → Int32} (hb9 : h[b9]? = some (.inl (10, anf s))) (hd : 2 ≤ d) : am_Ev (am_prog w) d 83 [.ref 59, .ref b9] h (fun r h' => r = some (.int (b2i (decide (r9 1 = 1 ∧ s 1 = I 17 0 ∧ s 2 = r9 0)))) ∧ h' = h) := by
  obtain ⟨d, rfl⟩ : ∃ e, d = e + 1 := ⟨d - 1, by omega⟩
  refine ev_go rfl (Nat.le_of_ble_eq_true rfl) rfl ?_
  by_cases o1 : r9 1 = 1
  · skip
    refine go_s (pc' := 1) rfl rfl rfl rfl ?_
    refine go_callV (pc' := 2) rfl rfl rfl (Nat.le_of_ble_eq_true rfl) rfl (sm_o hS rfl) rfl rfl rfl (ct_isOpen_0 hS htr (by omega)) (fun r h1 q2 => ?_)
    obtain ⟨rfl, rfl⟩ := q2
    rw [if_pos o1]
    refine go_ifP (t' := 15) (pc' := 3) rfl rfl rfl (fun (c : (1 : Int32) = 0) => absurd c (by decide)) (fun _ => ?_)
    refine go_s (pc' := 4) rfl rfl rfl rfl ?_
    refine go_get (pc' := 5) rfl hb9 rfl (by decide) rfl rfl ?_
    refine go_s (pc' := 6) rfl rfl rfl rfl ?_
    refine go_sget (pc' := 7) (v := .int (I 17 0)) hS rfl rfl rfl (by decide) rfl rfl ?_
    refine go_icmpP (t' := 15) (pc' := 8) rfl rfl rfl (fun (c3 : ¬ (s 1) = (I 17 0)) => ?_) (fun (c3' : ¬ ¬ (s 1) = (I 17 0)) => ?_)
    · skip
      refine go_s (pc' := 16) (st' := [.int 0]) rfl rfl rfl rfl ?_
      refine go_ret rfl rfl ?_
      exact ⟨by simp [b2i, o1, c3], rfl⟩
    · skip
      have c3 : (s 1) = (I 17 0) := Decidable.not_not.mp c3'
      refine go_s (pc' := 9) rfl rfl rfl rfl ?_
      refine go_get (pc' := 10) rfl hb9 rfl (by decide) rfl rfl ?_
      refine go_s (pc' := 11) rfl rfl rfl rfl ?_
      refine go_callV (pc' := 12) rfl rfl rfl (Nat.le_of_ble_eq_true rfl) rfl (sm_o hS rfl) rfl rfl rfl (ct_latest_0 hS htr (by omega)) (fun r h4 q5 => ?_)
      obtain ⟨rfl, rfl⟩ := q5
      refine go_icmpP (t' := 15) (pc' := 13) rfl rfl rfl (fun (c6 : ¬ (s 2) = (r9 0)) => ?_) (fun (c6' : ¬ ¬ (s 2) = (r9 0)) => ?_)
      · skip
        refine go_s (pc' := 16) (st' := [.int 0]) rfl rfl rfl rfl ?_
        refine go_ret rfl rfl ?_
        exact ⟨by simp [b2i, o1, c3, c6], rfl⟩
      · skip
        have c6 : (s 2) = (r9 0) := Decidable.not_not.mp c6'
        refine go_s (pc' := 14) (st' := [.int 1]) rfl rfl rfl rfl ?_
        refine go_s (pc' := 16) rfl rfl rfl rfl ?_
        refine go_ret rfl rfl ?_
        exact ⟨by simp [b2i, o1, c3, c6], rfl⟩
  · skip
    refine go_s (pc' := 1) rfl rfl rfl rfl ?_
    refine go_callV (pc' := 2) rfl rfl rfl (Nat.le_of_ble_eq_true rfl) rfl (sm_o hS rfl) rfl rfl rfl (ct_isOpen_0 hS htr (by omega)) (fun r h7 q8 => ?_)
    obtain ⟨rfl, rfl⟩ := q8
    rw [if_neg o1]
    refine go_ifP (t' := 15) (pc' := 3) rfl rfl rfl (fun _ => ?_) (fun (c : ¬ ((0 : Int32) = 0)) => absurd (by decide) c)
    refine go_s (pc' := 16) (st' := [.int 0]) rfl rfl rfl rfl ?_
    refine go_ret rfl rfl ?_
    exact ⟨by simp [b2i, o1], rfl⟩
theorem ct_awaits_1 {w : Nat → Bool} {d : Nat} {h : am_Hp} {I : sm_I} {X : sm_X} (hS : sm tbc h I X) {ow : ow_T} {r9 : Nat → Int32} (htr : TR h ow 1 (X 211 1) (X 212 1) r9) {b9 : Nat} {s : Nat → Int32} (hb9 : h[b9]? = some (.inl (10, anf s))) (hd : 2 ≤ d) : am_Ev (am_prog w) d 83 [.ref 60, .ref b9] h (fun r h' => r = some (.int (b2i (decide (r9 1 = 1 ∧ s 1 = I 17 1 ∧ s 2 = r9 0)))) ∧ h' = h) := by
  obtain ⟨d, rfl⟩ : ∃ e, d = e + 1 := ⟨d - 1, by omega⟩
  refine ev_go rfl (Nat.le_of_ble_eq_true rfl) rfl ?_
  by_cases o1 : r9 1 = 1
  · skip
    refine go_s (pc' := 1) rfl rfl rfl rfl ?_
    refine go_callV (pc' := 2) rfl rfl rfl (Nat.le_of_ble_eq_true rfl) rfl (sm_o hS rfl) rfl rfl rfl (ct_isOpen_1 hS htr (by omega)) (fun r h1 q2 => ?_)
    obtain ⟨rfl, rfl⟩ := q2
    rw [if_pos o1]
    refine go_ifP (t' := 15) (pc' := 3) rfl rfl rfl (fun (c : (1 : Int32) = 0) => absurd c (by decide)) (fun _ => ?_)
    refine go_s (pc' := 4) rfl rfl rfl rfl ?_
    refine go_get (pc' := 5) rfl hb9 rfl (by decide) rfl rfl ?_
    refine go_s (pc' := 6) rfl rfl rfl rfl ?_
    refine go_sget (pc' := 7) (v := .int (I 17 1)) hS rfl rfl rfl (by decide) rfl rfl ?_
    refine go_icmpP (t' := 15) (pc' := 8) rfl rfl rfl (fun (c3 : ¬ (s 1) = (I 17 1)) => ?_) (fun (c3' : ¬ ¬ (s 1) = (I 17 1)) => ?_)
    · skip
      refine go_s (pc' := 16) (st' := [.int 0]) rfl rfl rfl rfl ?_
      refine go_ret rfl rfl ?_
      exact ⟨by simp [b2i, o1, c3], rfl⟩
    · skip
      have c3 : (s 1) = (I 17 1) := Decidable.not_not.mp c3'
      refine go_s (pc' := 9) rfl rfl rfl rfl ?_
      refine go_get (pc' := 10) rfl hb9 rfl (by decide) rfl rfl ?_
      refine go_s (pc' := 11) rfl rfl rfl rfl ?_
      refine go_callV (pc' := 12) rfl rfl rfl (Nat.le_of_ble_eq_true rfl) rfl (sm_o hS rfl) rfl rfl rfl (ct_latest_1 hS htr (by omega)) (fun r h4 q5 => ?_)
      obtain ⟨rfl, rfl⟩ := q5
      refine go_icmpP (t' := 15) (pc' := 13) rfl rfl rfl (fun (c6 : ¬ (s 2) = (r9 0)) => ?_) (fun (c6' : ¬ ¬ (s 2) = (r9 0)) => ?_)
      · skip
        refine go_s (pc' := 16) (st' := [.int 0]) rfl rfl rfl rfl ?_
        refine go_ret rfl rfl ?_
        exact ⟨by simp [b2i, o1, c3, c6], rfl⟩
      · skip
        have c6 : (s 2) = (r9 0) := Decidable.not_not.mp c6'
        refine go_s (pc' := 14) (st' := [.int 1]) rfl rfl rfl rfl ?_
        refine go_s (pc' := 16) rfl rfl rfl rfl ?_
        refine go_ret rfl rfl ?_
        exact ⟨by simp [b2i, o1, c3, c6], rfl⟩
  · skip
    refine go_s (pc' := 1) rfl rfl rfl rfl ?_
    refine go_callV (pc' := 2) rfl rfl rfl (Nat.le_of_ble_eq_true rfl) rfl (sm_o hS rfl) rfl rfl rfl (ct_isOpen_1 hS htr (by omega)) (fun r h7 q8 => ?_)
    obtain ⟨rfl, rfl⟩ := q8
    rw [if_neg o1]
    refine go_ifP (t' := 15) (pc' := 3) rfl rfl rfl (fun _ => ?_) (fun (c : ¬ ((0 : Int32) = 0)) => absurd (by decide) c)
    refine go_s (pc' := 16) (st' := [.int 0]) rfl rfl rfl rfl ?_
    refine go_ret rfl rfl ?_
    exact ⟨by simp [b2i, o1], rfl⟩
theorem cx_rp_0 {w : Nat → Bool} {d : Nat} {h : am_Hp} {e : Nat} {m0 : mg} {B : Nat} {I : sm_I} {Q : mQ} {Z : mZ} {X : sm_X} {ow : ow_T} {sb : Nat} (hS : sm tbc h I X) (hD : CD w e m0 h I Q Z X ow sb) (hB : co h I ≤ B) (hQ : ∀ l, l < 16 → (Q l).length ≤ h.length) (hB2 : B < 2 ^ 28) {b p : Nat} {s : Nat → Int32} (hp : p < 4) (hu : ¬ I 0 p = 0) (s0 : s 0 = nI 0) (ob : ow b = 1) (hb : h[b]? = some (.inl (10, anf s))) (hd : 6 ≤ d) : am_Ev (am_prog w) d 82 [.ref 1, .ref b, .int (nI p)] h (fun r h' => r = none ∧ CA w e m0 (B + 40) h' (mrd 0 p s (I, Q, Z))) := by
  have hW := hD.1.1
  have hWn : ∀ a, List.length h ≤ a → w a = true := fun a ha => (hD.1.2.1 a ha).1
  have hF1 := fr_refl tbc h
  have hln : 62 ≤ List.length h := sm_len hS
  obtain ⟨d, rfl⟩ : ∃ e, d = e + 1 := ⟨d - 1, by omega⟩
  refine ev_go rfl (Nat.le_of_ble_eq_true rfl) rfl ?_
  refine go_s (pc' := 1) rfl rfl rfl rfl ?_
  refine go_s (pc' := 3) rfl rfl rfl rfl ?_
  refine go_s (pc' := 4) rfl rfl rfl rfl ?_
  refine go_s (pc' := 5) rfl rfl rfl rfl ?_
  refine go_get (pc' := 6) rfl ((hF1.2.2.2 _ (hD.1.2.2 _ (by omega)).2.1 (OW_lt hD.1 (by omega))).trans hb) rfl (by decide) rfl rfl ?_
  rw [s0]
  refine go_callV (pc' := 7) rfl rfl rfl (Nat.le_of_ble_eq_true rfl) rfl (sm_o hS rfl) rfl rfl rfl (ct_termAt_0 hS (by omega)) (fun r h2 q3 => ?_)
  obtain ⟨rfl, rfl⟩ := q3
  refine go_s (pc' := 8) (lo' := [some (.ref 1), some (.ref b), some (.int (nI p)), some (.ref 59)]) rfl rfl rfl rfl ?_
  refine go_s (pc' := 9) rfl rfl rfl rfl ?_
  refine go_s (pc' := 10) rfl rfl rfl rfl ?_
  refine go_s (pc' := 11) rfl rfl rfl rfl ?_
  refine go_sget (pc' := 12) (v := .int (I 11 1)) hS rfl rfl rfl (by decide) rfl rfl ?_
  refine go_s (pc' := 13) rfl rfl rfl rfl ?_
  refine go_icmpP (t' := 22) (pc' := 14) rfl rfl rfl (fun (c4 : ¬ (I 11 1) = (nI p)) => ?_) (fun (c4' : ¬ ¬ (I 11 1) = (nI p)) => ?_)
  · skip
    refine go_ret rfl rfl ?_
    have hD5 : CD w e m0 h2 I Q Z X ow sb := CD_I (CD_fr hD hF1) ⟨rfl, rfl, rfl, rfl, rfl, rfl, rfl, rfl, rfl, rfl, rfl, rfl, rfl, rfl, rfl⟩
    have hB6 : co h2 I ≤ B + 0 := by
      have := co_fr (I := I) (J := I) hF1 rfl
      have := hB
      omega
    have hC7 : CA w e m0 (B + 0) h2 (I, Q, Z) := ⟨X, ow, sb, hS, hD5, hB6, fun l hl => Nat.le_trans (hQ l hl) hF1.1⟩
    have hms : mrd 0 p s (I, Q, Z) = (I, Q, Z) := if_pos (Or.inl c4)
    rw [hms]
    exact ⟨rfl, CA_le hC7 (by omega)⟩
  · skip
    have c4 : (I 11 1) = (nI p) := Decidable.not_not.mp c4'
    have hv : lv I 1 = true := lv_of c4 hp hu
    have htr := (hD.2.2.2.2.2.1 0 (by decide)).1 hv
    change TR _ ow 0 (X 211 0) (X 212 0) (row1 (I, Q, Z) (1 + 0)) at htr
    refine go_s (pc' := 15) rfl rfl rfl rfl ?_
    refine go_sget (pc' := 16) (v := .int (I 16 1)) hS rfl rfl rfl (by decide) rfl rfl ?_
    refine go_s (pc' := 17) (st' := [.int 1, .int (I 16 1)]) rfl rfl rfl rfl ?_
    refine go_icmpP (t' := 22) (pc' := 18) rfl rfl rfl (fun (c8 : (I 16 1) = 1) => ?_) (fun (c8 : ¬ (I 16 1) = 1) => ?_)
    · skip
      refine go_ret rfl rfl ?_
      have hD9 : CD w e m0 h2 I Q Z X ow sb := CD_I (CD_fr hD hF1) ⟨rfl, rfl, rfl, rfl, rfl, rfl, rfl, rfl, rfl, rfl, rfl, rfl, rfl, rfl, rfl⟩
      have hB10 : co h2 I ≤ B + 0 := by
        have := co_fr (I := I) (J := I) hF1 rfl
        have := hB
        omega
      have hC11 : CA w e m0 (B + 0) h2 (I, Q, Z) := ⟨X, ow, sb, hS, hD9, hB10, fun l hl => Nat.le_trans (hQ l hl) hF1.1⟩
      have hms : mrd 0 p s (I, Q, Z) = (I, Q, Z) := if_pos (Or.inr (Or.inl c8))
      rw [hms]
      exact ⟨rfl, CA_le hC11 (by omega)⟩
    · skip
      refine go_s (pc' := 19) rfl rfl rfl rfl ?_
      refine go_s (pc' := 20) rfl rfl rfl rfl ?_
      refine go_callV (pc' := 21) rfl rfl rfl (Nat.le_of_ble_eq_true rfl) rfl (sm_o hS rfl) rfl rfl rfl (ct_awaits_0 hS htr ((hF1.2.2.2 _ (hD.1.2.2 _ (by omega)).2.1 (OW_lt hD.1 (by omega))).trans hb) (by omega)) (fun r h12 q13 => ?_)
      obtain ⟨rfl, rfl⟩ := q13
      cases u14 : decide (row1 (I, Q, Z) (1 + 0) 1 = 1 ∧ s 1 = I 17 0 ∧ s 2 = row1 (I, Q, Z) (1 + 0) 0)
      · skip
        show am_Go _ _ _ _ 21 _ [.int 0] _ _
        refine go_ifP (t' := 23) (pc' := 22) rfl rfl rfl (fun (c : ¬ (0 : Int32) = 0) => absurd c (by decide)) (fun _ => ?_)
        refine go_ret rfl rfl ?_
        have hD15 : CD w e m0 h12 I Q Z X ow sb := CD_I (CD_fr hD hF1) ⟨rfl, rfl, rfl, rfl, rfl, rfl, rfl, rfl, rfl, rfl, rfl, rfl, rfl, rfl, rfl⟩
        have hB16 : co h12 I ≤ B + 0 := by
          have := co_fr (I := I) (J := I) hF1 rfl
          have := hB
          omega
        have hC17 : CA w e m0 (B + 0) h12 (I, Q, Z) := ⟨X, ow, sb, hS, hD15, hB16, fun l hl => Nat.le_trans (hQ l hl) hF1.1⟩
        have hms : mrd 0 p s (I, Q, Z) = (I, Q, Z) := if_pos (Or.inr (Or.inr (of_decide_eq_false u14)))
        rw [hms]
        exact ⟨rfl, CA_le hC17 (by omega)⟩
      · skip
        show am_Go _ _ _ _ 21 _ [.int 1] _ _
        refine go_ifP (t' := 23) (pc' := 22) rfl rfl rfl (fun _ => ?_) (fun (c : ¬ (¬ (1 : Int32) = 0)) => absurd (by decide) c)
        refine go_s (pc' := 24) rfl rfl rfl rfl ?_
        refine go_s (pc' := 25) rfl rfl rfl rfl ?_
        refine go_sputX (pc' := 26) hS rfl rfl rfl (by decide) tbc_inj (Nat.le_of_ble_eq_true rfl) (Nat.le_of_ble_eq_true rfl) rfl (hW _ rfl) rfl (fun h18 hS19 hE20 => ?_)
        have hF21 := fr_trans hF1 (fr_e hE20)
        have hcu := of_decide_eq_true u14
        have hD9 : CD w e m0 h18 I Q (mrdZ 0 s (I, Q, Z)).2.2 (uX X 212 0 (.ref b)) ow sb := CD_tr (CD_fr hD hF21) (by decide) (fun c h1 h2 => by funext j; simp [uX, h2]) (fun c j hj => by simp [uX, hj]) (by simp only [uX]; simpa using TR_ans (TR_ex (ex_fr hD.1 hF21) (by omega) htr) hcu.1 (An_fr hD.1 hF21 ⟨b, rfl, ob, hb⟩) hcu.2.2)
        have hC9 : CA w e m0 B h18 (mrdZ 0 s (I, Q, Z)) := ⟨(uX X 212 0 (.ref b)), ow, sb, hS19, hD9, by have := co_fr (I := I) (J := I) hF21 rfl; show co _ I ≤ B; omega, fun l hl => Nat.le_trans (hQ l hl) hF21.1⟩
        obtain ⟨X22, ow22, sb22, hS22, hD22, hB22, hQ22⟩ := hC9
        have hW := hD22.1.1
        have hWn : ∀ a, List.length h18 ≤ a → w a = true := fun a ha => (hD22.1.2.1 a ha).1
        have hF23 := fr_refl tbc h18
        have hln : 62 ≤ List.length h18 := sm_len hS22
        refine go_s (pc' := 27) rfl rfl rfl rfl ?_
        refine go_s (pc' := 28) rfl rfl rfl rfl ?_
        by_cases b12 : I 12 1 = -1
        · skip
          have hD24 : CD w e m0 h18 ((mrdZ 0 s (I, Q, Z))).1 ((mrdZ 0 s (I, Q, Z))).2.1 ((mrdZ 0 s (I, Q, Z))).2.2 X22 ow22 sb22 := CD_I (CD_fr hD22 hF23) ⟨rfl, rfl, rfl, rfl, rfl, rfl, rfl, rfl, rfl, rfl, rfl, rfl, rfl, rfl, rfl⟩
          have hB25 : co h18 ((mrdZ 0 s (I, Q, Z))).1 ≤ B + 0 := by
            have := co_fr (I := ((mrdZ 0 s (I, Q, Z))).1) (J := ((mrdZ 0 s (I, Q, Z))).1) hF23 rfl
            have := hB22
            omega
          have hC26 : CA w e m0 (B + 0) h18 (((mrdZ 0 s (I, Q, Z))).1, ((mrdZ 0 s (I, Q, Z))).2.1, ((mrdZ 0 s (I, Q, Z))).2.2) := ⟨X22, ow22, sb22, hS22, hD24, hB25, fun l hl => Nat.le_trans (hQ22 l hl) hF23.1⟩
          refine go_callV (pc' := 29) rfl rfl rfl (Nat.le_of_ble_eq_true rfl) rfl (sm_o hS22 rfl) rfl rfl rfl (cm_tl_1 hC26 (by omega) hv (by omega)) (fun r h27 q28 => ?_)
          obtain ⟨rfl, hC29⟩ := q28
          change CA w e m0 (B + 0 + 20) h27 (mtl 1 (mrdZ 0 s (I, Q, Z))) at hC29
          obtain ⟨X30, ow30, sb30, hS30, hD30, hB30, hQ30⟩ := hC29
          have hW := hD30.1.1
          have hWn : ∀ a, List.length h27 ≤ a → w a = true := fun a ha => (hD30.1.2.1 a ha).1
          have hF31 := fr_refl tbc h27
          have hln : 62 ≤ List.length h27 := sm_len hS30
          rw [show (if (mrdZ 0 s (I, Q, Z)).1 12 1 = -1 then (1 : Int32) else 0) = 1 from if_pos b12]
          refine go_ifP (t' := 33) (pc' := 30) rfl rfl rfl (fun (c : (1 : Int32) = 0) => absurd c (by decide)) (fun _ => ?_)
          refine go_s (pc' := 31) rfl rfl rfl rfl ?_
          refine go_s (pc' := 32) rfl rfl rfl rfl ?_
          have hD32 : CD w e m0 h27 ((mtl 1 (mrdZ 0 s (I, Q, Z)))).1 ((mtl 1 (mrdZ 0 s (I, Q, Z)))).2.1 ((mtl 1 (mrdZ 0 s (I, Q, Z)))).2.2 X30 ow30 sb30 := CD_I (CD_fr hD30 hF31) ⟨rfl, rfl, rfl, rfl, rfl, rfl, rfl, rfl, rfl, rfl, rfl, rfl, rfl, rfl, rfl⟩
          have hB33 : co h27 ((mtl 1 (mrdZ 0 s (I, Q, Z)))).1 ≤ (B + 0 + 20) + 0 := by
            have := co_fr (I := ((mtl 1 (mrdZ 0 s (I, Q, Z)))).1) (J := ((mtl 1 (mrdZ 0 s (I, Q, Z)))).1) hF31 rfl
            have := hB30
            omega
          have hC34 : CA w e m0 ((B + 0 + 20) + 0) h27 (((mtl 1 (mrdZ 0 s (I, Q, Z)))).1, ((mtl 1 (mrdZ 0 s (I, Q, Z)))).2.1, ((mtl 1 (mrdZ 0 s (I, Q, Z)))).2.2) := ⟨X30, ow30, sb30, hS30, hD32, hB33, fun l hl => Nat.le_trans (hQ30 l hl) hF31.1⟩
          refine go_callV (pc' := 33) rfl rfl rfl (Nat.le_of_ble_eq_true rfl) rfl (sm_o hS30 rfl) rfl rfl rfl (cm_go_0 hC34 (by omega) (by rw [lv_c (I := I) (mtl_I (by omega) (by omega) (by omega) (by omega) (by omega) (by omega)) (mtl_I (by omega) (by omega) (by omega) (by omega) (by omega) (by omega))]; exact hv) (by omega)) (fun r h35 q36 => ?_)
          obtain ⟨rfl, hC37⟩ := q36
          change CA w e m0 ((B + 0 + 20) + 0 + 20) h35 (mgo 0 (mtl 1 (mrdZ 0 s (I, Q, Z)))) at hC37
          obtain ⟨X38, ow38, sb38, hS38, hD38, hB38, hQ38⟩ := hC37
          have hW := hD38.1.1
          have hWn : ∀ a, List.length h35 ≤ a → w a = true := fun a ha => (hD38.1.2.1 a ha).1
          have hF39 := fr_refl tbc h35
          have hln : 62 ≤ List.length h35 := sm_len hS38
          refine go_ret rfl rfl ?_
          have hD40 : CD w e m0 h35 ((mgo 0 (mtl 1 (mrdZ 0 s (I, Q, Z))))).1 ((mgo 0 (mtl 1 (mrdZ 0 s (I, Q, Z))))).2.1 ((mgo 0 (mtl 1 (mrdZ 0 s (I, Q, Z))))).2.2 X38 ow38 sb38 := CD_I (CD_fr hD38 hF39) ⟨rfl, rfl, rfl, rfl, rfl, rfl, rfl, rfl, rfl, rfl, rfl, rfl, rfl, rfl, rfl⟩
          have hB41 : co h35 ((mgo 0 (mtl 1 (mrdZ 0 s (I, Q, Z))))).1 ≤ ((B + 0 + 20) + 0 + 20) + 0 := by
            have := co_fr (I := ((mgo 0 (mtl 1 (mrdZ 0 s (I, Q, Z))))).1) (J := ((mgo 0 (mtl 1 (mrdZ 0 s (I, Q, Z))))).1) hF39 rfl
            have := hB38
            omega
          have hC42 : CA w e m0 (((B + 0 + 20) + 0 + 20) + 0) h35 (((mgo 0 (mtl 1 (mrdZ 0 s (I, Q, Z))))).1, ((mgo 0 (mtl 1 (mrdZ 0 s (I, Q, Z))))).2.1, ((mgo 0 (mtl 1 (mrdZ 0 s (I, Q, Z))))).2.2) := ⟨X38, ow38, sb38, hS38, hD40, hB41, fun l hl => Nat.le_trans (hQ38 l hl) hF39.1⟩
          have hms : mrd 0 p s (I, Q, Z) = (mgo 0 (mtl 1 (mrdZ 0 s (I, Q, Z)))) := by
            unfold mrd
            rw [if_neg (fun z => z.elim (fun z => z c4) (fun z => z.elim c8 (fun z => z hcu)))]
            unfold mtg
            rw [if_pos (show (mrdZ 0 s (I, Q, Z)).1 12 (1 + 0) = -1 from b12)]
          rw [hms]
          exact ⟨rfl, CA_le hC42 (by omega)⟩
        · skip
          have hD43 : CD w e m0 h18 ((mrdZ 0 s (I, Q, Z))).1 ((mrdZ 0 s (I, Q, Z))).2.1 ((mrdZ 0 s (I, Q, Z))).2.2 X22 ow22 sb22 := CD_I (CD_fr hD22 hF23) ⟨rfl, rfl, rfl, rfl, rfl, rfl, rfl, rfl, rfl, rfl, rfl, rfl, rfl, rfl, rfl⟩
          have hB44 : co h18 ((mrdZ 0 s (I, Q, Z))).1 ≤ B + 0 := by
            have := co_fr (I := ((mrdZ 0 s (I, Q, Z))).1) (J := ((mrdZ 0 s (I, Q, Z))).1) hF23 rfl
            have := hB22
            omega
          have hC45 : CA w e m0 (B + 0) h18 (((mrdZ 0 s (I, Q, Z))).1, ((mrdZ 0 s (I, Q, Z))).2.1, ((mrdZ 0 s (I, Q, Z))).2.2) := ⟨X22, ow22, sb22, hS22, hD43, hB44, fun l hl => Nat.le_trans (hQ22 l hl) hF23.1⟩
          refine go_callV (pc' := 29) rfl rfl rfl (Nat.le_of_ble_eq_true rfl) rfl (sm_o hS22 rfl) rfl rfl rfl (cm_tl_1 hC45 (by omega) hv (by omega)) (fun r h46 q47 => ?_)
          obtain ⟨rfl, hC48⟩ := q47
          change CA w e m0 (B + 0 + 20) h46 (mtl 1 (mrdZ 0 s (I, Q, Z))) at hC48
          obtain ⟨X49, ow49, sb49, hS49, hD49, hB49, hQ49⟩ := hC48
          have hW := hD49.1.1
          have hWn : ∀ a, List.length h46 ≤ a → w a = true := fun a ha => (hD49.1.2.1 a ha).1
          have hF50 := fr_refl tbc h46
          have hln : 62 ≤ List.length h46 := sm_len hS49
          rw [show (if (mrdZ 0 s (I, Q, Z)).1 12 1 = -1 then (1 : Int32) else 0) = 0 from if_neg b12]
          refine go_ifP (t' := 33) (pc' := 30) rfl rfl rfl (fun _ => ?_) (fun (c : ¬ ((0 : Int32) = 0)) => absurd (by decide) c)
          refine go_ret rfl rfl ?_
          have hD51 : CD w e m0 h46 ((mtl 1 (mrdZ 0 s (I, Q, Z)))).1 ((mtl 1 (mrdZ 0 s (I, Q, Z)))).2.1 ((mtl 1 (mrdZ 0 s (I, Q, Z)))).2.2 X49 ow49 sb49 := CD_I (CD_fr hD49 hF50) ⟨rfl, rfl, rfl, rfl, rfl, rfl, rfl, rfl, rfl, rfl, rfl, rfl, rfl, rfl, rfl⟩
          have hB52 : co h46 ((mtl 1 (mrdZ 0 s (I, Q, Z)))).1 ≤ (B + 0 + 20) + 0 := by
            have := co_fr (I := ((mtl 1 (mrdZ 0 s (I, Q, Z)))).1) (J := ((mtl 1 (mrdZ 0 s (I, Q, Z)))).1) hF50 rfl
            have := hB49
            omega
          have hC53 : CA w e m0 ((B + 0 + 20) + 0) h46 (((mtl 1 (mrdZ 0 s (I, Q, Z)))).1, ((mtl 1 (mrdZ 0 s (I, Q, Z)))).2.1, ((mtl 1 (mrdZ 0 s (I, Q, Z)))).2.2) := ⟨X49, ow49, sb49, hS49, hD51, hB52, fun l hl => Nat.le_trans (hQ49 l hl) hF50.1⟩
          have hms : mrd 0 p s (I, Q, Z) = (mtl 1 (mrdZ 0 s (I, Q, Z))) := by
            unfold mrd
            rw [if_neg (fun z => z.elim (fun z => z c4) (fun z => z.elim c8 (fun z => z hcu)))]
            unfold mtg
            rw [if_neg (show ¬ (mrdZ 0 s (I, Q, Z)).1 12 (1 + 0) = -1 from b12)]
          rw [hms]
          exact ⟨rfl, CA_le hC53 (by omega)⟩
theorem cx_rp_1 {w : Nat → Bool} {d : Nat} {h : am_Hp} {e : Nat} {m0 : mg} {B : Nat} {I : sm_I} {Q : mQ} {Z : mZ} {X : sm_X} {ow : ow_T} {sb : Nat} (hS : sm tbc h I X) (hD : CD w e m0 h I Q Z X ow sb) (hB : co h I ≤ B) (hQ : ∀ l, l < 16 → (Q l).length ≤ h.length) (hB2 : B < 2 ^ 28) {b p : Nat} {s : Nat → Int32} (hp : p < 4) (hu : ¬ I 0 p = 0) (s0 : s 0 = nI 1) (ob : ow b = 1) (hb : h[b]? = some (.inl (10, anf s))) (hd : 6 ≤ d) : am_Ev (am_prog w) d 82 [.ref 1, .ref b, .int (nI p)] h (fun r h' => r = none ∧ CA w e m0 (B + 40) h' (mrd 1 p s (I, Q, Z))) := by
  have hW := hD.1.1
  have hWn : ∀ a, List.length h ≤ a → w a = true := fun a ha => (hD.1.2.1 a ha).1
  have hF1 := fr_refl tbc h
  have hln : 62 ≤ List.length h := sm_len hS
  obtain ⟨d, rfl⟩ : ∃ e, d = e + 1 := ⟨d - 1, by omega⟩
  refine ev_go rfl (Nat.le_of_ble_eq_true rfl) rfl ?_
  refine go_s (pc' := 1) rfl rfl rfl rfl ?_
  refine go_s (pc' := 3) rfl rfl rfl rfl ?_
  refine go_s (pc' := 4) rfl rfl rfl rfl ?_
  refine go_s (pc' := 5) rfl rfl rfl rfl ?_
  refine go_get (pc' := 6) rfl ((hF1.2.2.2 _ (hD.1.2.2 _ (by omega)).2.1 (OW_lt hD.1 (by omega))).trans hb) rfl (by decide) rfl rfl ?_
  rw [s0]
  refine go_callV (pc' := 7) rfl rfl rfl (Nat.le_of_ble_eq_true rfl) rfl (sm_o hS rfl) rfl rfl rfl (ct_termAt_1 hS (by omega)) (fun r h2 q3 => ?_)
  obtain ⟨rfl, rfl⟩ := q3
  refine go_s (pc' := 8) (lo' := [some (.ref 1), some (.ref b), some (.int (nI p)), some (.ref 60)]) rfl rfl rfl rfl ?_
  refine go_s (pc' := 9) rfl rfl rfl rfl ?_
  refine go_s (pc' := 10) rfl rfl rfl rfl ?_
  refine go_s (pc' := 11) rfl rfl rfl rfl ?_
  refine go_sget (pc' := 12) (v := .int (I 11 2)) hS rfl rfl rfl (by decide) rfl rfl ?_
  refine go_s (pc' := 13) rfl rfl rfl rfl ?_
  refine go_icmpP (t' := 22) (pc' := 14) rfl rfl rfl (fun (c4 : ¬ (I 11 2) = (nI p)) => ?_) (fun (c4' : ¬ ¬ (I 11 2) = (nI p)) => ?_)
  · skip
    refine go_ret rfl rfl ?_
    have hD5 : CD w e m0 h2 I Q Z X ow sb := CD_I (CD_fr hD hF1) ⟨rfl, rfl, rfl, rfl, rfl, rfl, rfl, rfl, rfl, rfl, rfl, rfl, rfl, rfl, rfl⟩
    have hB6 : co h2 I ≤ B + 0 := by
      have := co_fr (I := I) (J := I) hF1 rfl
      have := hB
      omega
    have hC7 : CA w e m0 (B + 0) h2 (I, Q, Z) := ⟨X, ow, sb, hS, hD5, hB6, fun l hl => Nat.le_trans (hQ l hl) hF1.1⟩
    have hms : mrd 1 p s (I, Q, Z) = (I, Q, Z) := if_pos (Or.inl c4)
    rw [hms]
    exact ⟨rfl, CA_le hC7 (by omega)⟩
  · skip
    have c4 : (I 11 2) = (nI p) := Decidable.not_not.mp c4'
    have hv : lv I 2 = true := lv_of c4 hp hu
    have htr := (hD.2.2.2.2.2.1 1 (by decide)).1 hv
    change TR _ ow 1 (X 211 1) (X 212 1) (row1 (I, Q, Z) (1 + 1)) at htr
    refine go_s (pc' := 15) rfl rfl rfl rfl ?_
    refine go_sget (pc' := 16) (v := .int (I 16 2)) hS rfl rfl rfl (by decide) rfl rfl ?_
    refine go_s (pc' := 17) (st' := [.int 1, .int (I 16 2)]) rfl rfl rfl rfl ?_
    refine go_icmpP (t' := 22) (pc' := 18) rfl rfl rfl (fun (c8 : (I 16 2) = 1) => ?_) (fun (c8 : ¬ (I 16 2) = 1) => ?_)
    · skip
      refine go_ret rfl rfl ?_
      have hD9 : CD w e m0 h2 I Q Z X ow sb := CD_I (CD_fr hD hF1) ⟨rfl, rfl, rfl, rfl, rfl, rfl, rfl, rfl, rfl, rfl, rfl, rfl, rfl, rfl, rfl⟩
      have hB10 : co h2 I ≤ B + 0 := by
        have := co_fr (I := I) (J := I) hF1 rfl
        have := hB
        omega
      have hC11 : CA w e m0 (B + 0) h2 (I, Q, Z) := ⟨X, ow, sb, hS, hD9, hB10, fun l hl => Nat.le_trans (hQ l hl) hF1.1⟩
      have hms : mrd 1 p s (I, Q, Z) = (I, Q, Z) := if_pos (Or.inr (Or.inl c8))
      rw [hms]
      exact ⟨rfl, CA_le hC11 (by omega)⟩
    · skip
      refine go_s (pc' := 19) rfl rfl rfl rfl ?_
      refine go_s (pc' := 20) rfl rfl rfl rfl ?_
      refine go_callV (pc' := 21) rfl rfl rfl (Nat.le_of_ble_eq_true rfl) rfl (sm_o hS rfl) rfl rfl rfl (ct_awaits_1 hS htr ((hF1.2.2.2 _ (hD.1.2.2 _ (by omega)).2.1 (OW_lt hD.1 (by omega))).trans hb) (by omega)) (fun r h12 q13 => ?_)
      obtain ⟨rfl, rfl⟩ := q13
      cases u14 : decide (row1 (I, Q, Z) (1 + 1) 1 = 1 ∧ s 1 = I 17 1 ∧ s 2 = row1 (I, Q, Z) (1 + 1) 0)
      · skip
        show am_Go _ _ _ _ 21 _ [.int 0] _ _
        refine go_ifP (t' := 23) (pc' := 22) rfl rfl rfl (fun (c : ¬ (0 : Int32) = 0) => absurd c (by decide)) (fun _ => ?_)
        refine go_ret rfl rfl ?_
        have hD15 : CD w e m0 h12 I Q Z X ow sb := CD_I (CD_fr hD hF1) ⟨rfl, rfl, rfl, rfl, rfl, rfl, rfl, rfl, rfl, rfl, rfl, rfl, rfl, rfl, rfl⟩
        have hB16 : co h12 I ≤ B + 0 := by
          have := co_fr (I := I) (J := I) hF1 rfl
          have := hB
          omega
        have hC17 : CA w e m0 (B + 0) h12 (I, Q, Z) := ⟨X, ow, sb, hS, hD15, hB16, fun l hl => Nat.le_trans (hQ l hl) hF1.1⟩
        have hms : mrd 1 p s (I, Q, Z) = (I, Q, Z) := if_pos (Or.inr (Or.inr (of_decide_eq_false u14)))
        rw [hms]
        exact ⟨rfl, CA_le hC17 (by omega)⟩
      · skip
        show am_Go _ _ _ _ 21 _ [.int 1] _ _
        refine go_ifP (t' := 23) (pc' := 22) rfl rfl rfl (fun _ => ?_) (fun (c : ¬ (¬ (1 : Int32) = 0)) => absurd (by decide) c)
        refine go_s (pc' := 24) rfl rfl rfl rfl ?_
        refine go_s (pc' := 25) rfl rfl rfl rfl ?_
        refine go_sputX (pc' := 26) hS rfl rfl rfl (by decide) tbc_inj (Nat.le_of_ble_eq_true rfl) (Nat.le_of_ble_eq_true rfl) rfl (hW _ rfl) rfl (fun h18 hS19 hE20 => ?_)
        have hF21 := fr_trans hF1 (fr_e hE20)
        have hcu := of_decide_eq_true u14
        have hD9 : CD w e m0 h18 I Q (mrdZ 1 s (I, Q, Z)).2.2 (uX X 212 1 (.ref b)) ow sb := CD_tr (CD_fr hD hF21) (by decide) (fun c h1 h2 => by funext j; simp [uX, h2]) (fun c j hj => by simp [uX, hj]) (by simp only [uX]; simpa using TR_ans (TR_ex (ex_fr hD.1 hF21) (by omega) htr) hcu.1 (An_fr hD.1 hF21 ⟨b, rfl, ob, hb⟩) hcu.2.2)
        have hC9 : CA w e m0 B h18 (mrdZ 1 s (I, Q, Z)) := ⟨(uX X 212 1 (.ref b)), ow, sb, hS19, hD9, by have := co_fr (I := I) (J := I) hF21 rfl; show co _ I ≤ B; omega, fun l hl => Nat.le_trans (hQ l hl) hF21.1⟩
        obtain ⟨X22, ow22, sb22, hS22, hD22, hB22, hQ22⟩ := hC9
        have hW := hD22.1.1
        have hWn : ∀ a, List.length h18 ≤ a → w a = true := fun a ha => (hD22.1.2.1 a ha).1
        have hF23 := fr_refl tbc h18
        have hln : 62 ≤ List.length h18 := sm_len hS22
        refine go_s (pc' := 27) rfl rfl rfl rfl ?_
        refine go_s (pc' := 28) rfl rfl rfl rfl ?_
        by_cases b12 : I 12 2 = -1
        · skip
          have hD24 : CD w e m0 h18 ((mrdZ 1 s (I, Q, Z))).1 ((mrdZ 1 s (I, Q, Z))).2.1 ((mrdZ 1 s (I, Q, Z))).2.2 X22 ow22 sb22 := CD_I (CD_fr hD22 hF23) ⟨rfl, rfl, rfl, rfl, rfl, rfl, rfl, rfl, rfl, rfl, rfl, rfl, rfl, rfl, rfl⟩
          have hB25 : co h18 ((mrdZ 1 s (I, Q, Z))).1 ≤ B + 0 := by
            have := co_fr (I := ((mrdZ 1 s (I, Q, Z))).1) (J := ((mrdZ 1 s (I, Q, Z))).1) hF23 rfl
            have := hB22
            omega
          have hC26 : CA w e m0 (B + 0) h18 (((mrdZ 1 s (I, Q, Z))).1, ((mrdZ 1 s (I, Q, Z))).2.1, ((mrdZ 1 s (I, Q, Z))).2.2) := ⟨X22, ow22, sb22, hS22, hD24, hB25, fun l hl => Nat.le_trans (hQ22 l hl) hF23.1⟩
          refine go_callV (pc' := 29) rfl rfl rfl (Nat.le_of_ble_eq_true rfl) rfl (sm_o hS22 rfl) rfl rfl rfl (cm_tl_2 hC26 (by omega) hv (by omega)) (fun r h27 q28 => ?_)
          obtain ⟨rfl, hC29⟩ := q28
          change CA w e m0 (B + 0 + 20) h27 (mtl 2 (mrdZ 1 s (I, Q, Z))) at hC29
          obtain ⟨X30, ow30, sb30, hS30, hD30, hB30, hQ30⟩ := hC29
          have hW := hD30.1.1
          have hWn : ∀ a, List.length h27 ≤ a → w a = true := fun a ha => (hD30.1.2.1 a ha).1
          have hF31 := fr_refl tbc h27
          have hln : 62 ≤ List.length h27 := sm_len hS30
          rw [show (if (mrdZ 1 s (I, Q, Z)).1 12 2 = -1 then (1 : Int32) else 0) = 1 from if_pos b12]
          refine go_ifP (t' := 33) (pc' := 30) rfl rfl rfl (fun (c : (1 : Int32) = 0) => absurd c (by decide)) (fun _ => ?_)
          refine go_s (pc' := 31) rfl rfl rfl rfl ?_
          refine go_s (pc' := 32) rfl rfl rfl rfl ?_
          have hD32 : CD w e m0 h27 ((mtl 2 (mrdZ 1 s (I, Q, Z)))).1 ((mtl 2 (mrdZ 1 s (I, Q, Z)))).2.1 ((mtl 2 (mrdZ 1 s (I, Q, Z)))).2.2 X30 ow30 sb30 := CD_I (CD_fr hD30 hF31) ⟨rfl, rfl, rfl, rfl, rfl, rfl, rfl, rfl, rfl, rfl, rfl, rfl, rfl, rfl, rfl⟩
          have hB33 : co h27 ((mtl 2 (mrdZ 1 s (I, Q, Z)))).1 ≤ (B + 0 + 20) + 0 := by
            have := co_fr (I := ((mtl 2 (mrdZ 1 s (I, Q, Z)))).1) (J := ((mtl 2 (mrdZ 1 s (I, Q, Z)))).1) hF31 rfl
            have := hB30
            omega
          have hC34 : CA w e m0 ((B + 0 + 20) + 0) h27 (((mtl 2 (mrdZ 1 s (I, Q, Z)))).1, ((mtl 2 (mrdZ 1 s (I, Q, Z)))).2.1, ((mtl 2 (mrdZ 1 s (I, Q, Z)))).2.2) := ⟨X30, ow30, sb30, hS30, hD32, hB33, fun l hl => Nat.le_trans (hQ30 l hl) hF31.1⟩
          refine go_callV (pc' := 33) rfl rfl rfl (Nat.le_of_ble_eq_true rfl) rfl (sm_o hS30 rfl) rfl rfl rfl (cm_go_1 hC34 (by omega) (by rw [lv_c (I := I) (mtl_I (by omega) (by omega) (by omega) (by omega) (by omega) (by omega)) (mtl_I (by omega) (by omega) (by omega) (by omega) (by omega) (by omega))]; exact hv) (by omega)) (fun r h35 q36 => ?_)
          obtain ⟨rfl, hC37⟩ := q36
          change CA w e m0 ((B + 0 + 20) + 0 + 20) h35 (mgo 1 (mtl 2 (mrdZ 1 s (I, Q, Z)))) at hC37
          obtain ⟨X38, ow38, sb38, hS38, hD38, hB38, hQ38⟩ := hC37
          have hW := hD38.1.1
          have hWn : ∀ a, List.length h35 ≤ a → w a = true := fun a ha => (hD38.1.2.1 a ha).1
          have hF39 := fr_refl tbc h35
          have hln : 62 ≤ List.length h35 := sm_len hS38
          refine go_ret rfl rfl ?_
          have hD40 : CD w e m0 h35 ((mgo 1 (mtl 2 (mrdZ 1 s (I, Q, Z))))).1 ((mgo 1 (mtl 2 (mrdZ 1 s (I, Q, Z))))).2.1 ((mgo 1 (mtl 2 (mrdZ 1 s (I, Q, Z))))).2.2 X38 ow38 sb38 := CD_I (CD_fr hD38 hF39) ⟨rfl, rfl, rfl, rfl, rfl, rfl, rfl, rfl, rfl, rfl, rfl, rfl, rfl, rfl, rfl⟩
          have hB41 : co h35 ((mgo 1 (mtl 2 (mrdZ 1 s (I, Q, Z))))).1 ≤ ((B + 0 + 20) + 0 + 20) + 0 := by
            have := co_fr (I := ((mgo 1 (mtl 2 (mrdZ 1 s (I, Q, Z))))).1) (J := ((mgo 1 (mtl 2 (mrdZ 1 s (I, Q, Z))))).1) hF39 rfl
            have := hB38
            omega
          have hC42 : CA w e m0 (((B + 0 + 20) + 0 + 20) + 0) h35 (((mgo 1 (mtl 2 (mrdZ 1 s (I, Q, Z))))).1, ((mgo 1 (mtl 2 (mrdZ 1 s (I, Q, Z))))).2.1, ((mgo 1 (mtl 2 (mrdZ 1 s (I, Q, Z))))).2.2) := ⟨X38, ow38, sb38, hS38, hD40, hB41, fun l hl => Nat.le_trans (hQ38 l hl) hF39.1⟩
          have hms : mrd 1 p s (I, Q, Z) = (mgo 1 (mtl 2 (mrdZ 1 s (I, Q, Z)))) := by
            unfold mrd
            rw [if_neg (fun z => z.elim (fun z => z c4) (fun z => z.elim c8 (fun z => z hcu)))]
            unfold mtg
            rw [if_pos (show (mrdZ 1 s (I, Q, Z)).1 12 (1 + 1) = -1 from b12)]
          rw [hms]
          exact ⟨rfl, CA_le hC42 (by omega)⟩
        · skip
          have hD43 : CD w e m0 h18 ((mrdZ 1 s (I, Q, Z))).1 ((mrdZ 1 s (I, Q, Z))).2.1 ((mrdZ 1 s (I, Q, Z))).2.2 X22 ow22 sb22 := CD_I (CD_fr hD22 hF23) ⟨rfl, rfl, rfl, rfl, rfl, rfl, rfl, rfl, rfl, rfl, rfl, rfl, rfl, rfl, rfl⟩
          have hB44 : co h18 ((mrdZ 1 s (I, Q, Z))).1 ≤ B + 0 := by
            have := co_fr (I := ((mrdZ 1 s (I, Q, Z))).1) (J := ((mrdZ 1 s (I, Q, Z))).1) hF23 rfl
            have := hB22
            omega
          have hC45 : CA w e m0 (B + 0) h18 (((mrdZ 1 s (I, Q, Z))).1, ((mrdZ 1 s (I, Q, Z))).2.1, ((mrdZ 1 s (I, Q, Z))).2.2) := ⟨X22, ow22, sb22, hS22, hD43, hB44, fun l hl => Nat.le_trans (hQ22 l hl) hF23.1⟩
          refine go_callV (pc' := 29) rfl rfl rfl (Nat.le_of_ble_eq_true rfl) rfl (sm_o hS22 rfl) rfl rfl rfl (cm_tl_2 hC45 (by omega) hv (by omega)) (fun r h46 q47 => ?_)
          obtain ⟨rfl, hC48⟩ := q47
          change CA w e m0 (B + 0 + 20) h46 (mtl 2 (mrdZ 1 s (I, Q, Z))) at hC48
          obtain ⟨X49, ow49, sb49, hS49, hD49, hB49, hQ49⟩ := hC48
          have hW := hD49.1.1
          have hWn : ∀ a, List.length h46 ≤ a → w a = true := fun a ha => (hD49.1.2.1 a ha).1
          have hF50 := fr_refl tbc h46
          have hln : 62 ≤ List.length h46 := sm_len hS49
          rw [show (if (mrdZ 1 s (I, Q, Z)).1 12 2 = -1 then (1 : Int32) else 0) = 0 from if_neg b12]
          refine go_ifP (t' := 33) (pc' := 30) rfl rfl rfl (fun _ => ?_) (fun (c : ¬ ((0 : Int32) = 0)) => absurd (by decide) c)
          refine go_ret rfl rfl ?_
          have hD51 : CD w e m0 h46 ((mtl 2 (mrdZ 1 s (I, Q, Z)))).1 ((mtl 2 (mrdZ 1 s (I, Q, Z)))).2.1 ((mtl 2 (mrdZ 1 s (I, Q, Z)))).2.2 X49 ow49 sb49 := CD_I (CD_fr hD49 hF50) ⟨rfl, rfl, rfl, rfl, rfl, rfl, rfl, rfl, rfl, rfl, rfl, rfl, rfl, rfl, rfl⟩
          have hB52 : co h46 ((mtl 2 (mrdZ 1 s (I, Q, Z)))).1 ≤ (B + 0 + 20) + 0 := by
            have := co_fr (I := ((mtl 2 (mrdZ 1 s (I, Q, Z)))).1) (J := ((mtl 2 (mrdZ 1 s (I, Q, Z)))).1) hF50 rfl
            have := hB49
            omega
          have hC53 : CA w e m0 ((B + 0 + 20) + 0) h46 (((mtl 2 (mrdZ 1 s (I, Q, Z)))).1, ((mtl 2 (mrdZ 1 s (I, Q, Z)))).2.1, ((mtl 2 (mrdZ 1 s (I, Q, Z)))).2.2) := ⟨X49, ow49, sb49, hS49, hD51, hB52, fun l hl => Nat.le_trans (hQ49 l hl) hF50.1⟩
          have hms : mrd 1 p s (I, Q, Z) = (mtl 2 (mrdZ 1 s (I, Q, Z))) := by
            unfold mrd
            rw [if_neg (fun z => z.elim (fun z => z c4) (fun z => z.elim c8 (fun z => z hcu)))]
            unfold mtg
            rw [if_neg (show ¬ (mrdZ 1 s (I, Q, Z)).1 12 (1 + 1) = -1 from b12)]
          rw [hms]
          exact ⟨rfl, CA_le hC53 (by omega)⟩
theorem cm_stw_0 {w : Nat → Bool} {d : Nat} {h : am_Hp} {e : Nat} {m0 : mg} {B : Nat} {I : sm_I} {Q : mQ} {Z : mZ} (hC : CA w e m0 B h (I, Q, Z)) (hB2 : B < 2 ^ 28) (hw9 : I 16 0 = 1 → I 22 0 = 0 ∧ I 22 1 = 0) (hd : 5 ≤ d) : am_Ev (am_prog w) d 40 [.ref 1, .ref 32] h (fun r h' => r = none ∧ CA w e m0 (B + 20) h' (mstw 0 (I, Q, Z))) := by
  obtain ⟨X, ow, sb, hS, hD, hB, hQ⟩ := hC
  change sm tbc h I X at hS
  change CD w e m0 h I Q Z X ow sb at hD
  change co h I ≤ B at hB
  change ∀ l, l < 16 → (Q l).length ≤ h.length at hQ
  have hW := hD.1.1
  have hWn : ∀ a, List.length h ≤ a → w a = true := fun a ha => (hD.1.2.1 a ha).1
  have hF1 := fr_refl tbc h
  have hln : 62 ≤ List.length h := sm_len hS
  obtain ⟨d, rfl⟩ : ∃ e, d = e + 1 := ⟨d - 1, by omega⟩
  refine ev_go rfl (Nat.le_of_ble_eq_true rfl) rfl ?_
  refine go_s (pc' := 1) rfl rfl rfl rfl ?_
  refine go_sget (pc' := 2) (v := .int (I 16 0)) hS rfl rfl rfl (by decide) rfl rfl ?_
  refine go_s (pc' := 3) (st' := [.int 1, .int (I 16 0)]) rfl rfl rfl rfl ?_
  refine go_icmpP (t' := 5) (pc' := 4) rfl rfl rfl (fun (c2 : (I 16 0) = 1) => ?_) (fun (c2 : ¬ (I 16 0) = 1) => ?_)
  · skip
    refine go_s (pc' := 6) rfl rfl rfl rfl ?_
    refine go_instF (pc' := 7) rfl (sm_o hS rfl) rfl (by decide) (by decide) rfl ?_
    refine go_ifP (t' := 15) (pc' := 8) rfl rfl rfl (fun _ => ?_) (fun (c : ¬ ((0 : Int32) = 0)) => absurd (by decide) c)
    refine go_s (pc' := 16) rfl rfl rfl rfl ?_
    refine go_callV (pc' := 17) rfl rfl rfl (Nat.le_of_ble_eq_true rfl) rfl (sm_o hS rfl) rfl rfl rfl (ct_startWriting hS hW (by omega)) (fun r h3 q4 => ?_)
    obtain ⟨rfl, hS5, hE6⟩ := q4
    have hF7 := fr_trans hF1 (fr_e hE6)
    refine go_ret rfl rfl ?_
    have hms : mstw 0 (I, Q, Z) = (uI I 16 0 2, Q, Z) := by
      unfold mstw
      rw [if_pos c2, if_pos rfl]
    have hD9 := CD_w2 (CD_fr hD hF7) (hw9 c2).1 (hw9 c2).2
    rw [hms]
    exact ⟨rfl, ⟨(uX (uX X 206 0 (.int 0)) 206 1 (.int 0)), ow, sb, hS5, hD9, by have := co_fr (I := I) (J := uI I 16 0 2) hF7 rfl; show co _ (uI I 16 0 2) ≤ _; omega, fun l hl => Nat.le_trans (hQ l hl) hF7.1⟩⟩
  · skip
    refine go_ret rfl rfl ?_
    have hD8 : CD w e m0 h I Q Z X ow sb := CD_I (CD_fr hD hF1) ⟨rfl, rfl, rfl, rfl, rfl, rfl, rfl, rfl, rfl, rfl, rfl, rfl, rfl, rfl, rfl⟩
    have hB9 : co h I ≤ B + 0 := by
      have := co_fr (I := I) (J := I) hF1 rfl
      have := hB
      omega
    have hC10 : CA w e m0 (B + 0) h (I, Q, Z) := ⟨X, ow, sb, hS, hD8, hB9, fun l hl => Nat.le_trans (hQ l hl) hF1.1⟩
    have hms : mstw 0 (I, Q, Z) = (I, Q, Z) := if_neg c2
    rw [hms]
    exact ⟨rfl, CA_le hC10 (by omega)⟩
theorem cm_stw_1 {w : Nat → Bool} {d : Nat} {h : am_Hp} {e : Nat} {m0 : mg} {B : Nat} {I : sm_I} {Q : mQ} {Z : mZ} (hC : CA w e m0 B h (I, Q, Z)) (hB2 : B < 2 ^ 28) (hw9 : I 16 1 = 1 → lv I 1 = true) (hd : 5 ≤ d) : am_Ev (am_prog w) d 40 [.ref 1, .ref 59] h (fun r h' => r = none ∧ CA w e m0 (B + 20) h' (mstw 1 (I, Q, Z))) := by
  obtain ⟨X, ow, sb, hS, hD, hB, hQ⟩ := hC
  change sm tbc h I X at hS
  change CD w e m0 h I Q Z X ow sb at hD
  change co h I ≤ B at hB
  change ∀ l, l < 16 → (Q l).length ≤ h.length at hQ
  have hW := hD.1.1
  have hWn : ∀ a, List.length h ≤ a → w a = true := fun a ha => (hD.1.2.1 a ha).1
  have hF1 := fr_refl tbc h
  have hln : 62 ≤ List.length h := sm_len hS
  obtain ⟨d, rfl⟩ : ∃ e, d = e + 1 := ⟨d - 1, by omega⟩
  refine ev_go rfl (Nat.le_of_ble_eq_true rfl) rfl ?_
  refine go_s (pc' := 1) rfl rfl rfl rfl ?_
  refine go_sget (pc' := 2) (v := .int (I 16 1)) hS rfl rfl rfl (by decide) rfl rfl ?_
  refine go_s (pc' := 3) (st' := [.int 1, .int (I 16 1)]) rfl rfl rfl rfl ?_
  refine go_icmpP (t' := 5) (pc' := 4) rfl rfl rfl (fun (c2 : (I 16 1) = 1) => ?_) (fun (c2 : ¬ (I 16 1) = 1) => ?_)
  · skip
    refine go_s (pc' := 6) rfl rfl rfl rfl ?_
    refine go_instT (pc' := 7) rfl (sm_o hS rfl) rfl (by decide) rfl ?_
    refine go_ifP (t' := 15) (pc' := 8) rfl rfl rfl (fun (c : (1 : Int32) = 0) => absurd c (by decide)) (fun _ => ?_)
    refine go_s (pc' := 9) rfl rfl rfl rfl ?_
    refine go_castO (pc' := 10) rfl (sm_o hS rfl) rfl (by decide) rfl ?_
    refine go_s (pc' := 11) (lo' := [some (.ref 1), some (.ref 59), some (.ref 59)]) rfl rfl rfl rfl ?_
    refine go_s (pc' := 12) rfl rfl rfl rfl ?_
    refine go_s (pc' := 13) rfl rfl rfl rfl ?_
    have hD3 : CD w e m0 h I Q Z X ow sb := CD_I (CD_fr hD hF1) ⟨rfl, rfl, rfl, rfl, rfl, rfl, rfl, rfl, rfl, rfl, rfl, rfl, rfl, rfl, rfl⟩
    have hB4 : co h I ≤ B + 0 := by
      have := co_fr (I := I) (J := I) hF1 rfl
      have := hB
      omega
    have hC5 : CA w e m0 (B + 0) h (I, Q, Z) := ⟨X, ow, sb, hS, hD3, hB4, fun l hl => Nat.le_trans (hQ l hl) hF1.1⟩
    refine go_callV (pc' := 14) rfl rfl rfl (Nat.le_of_ble_eq_true rfl) rfl (sm_o hS rfl) rfl rfl rfl (cm_go_0 hC5 (by omega) (hw9 c2) (by omega)) (fun r h6 q7 => ?_)
    obtain ⟨rfl, hC8⟩ := q7
    change CA w e m0 (B + 0 + 20) h6 (mgo 0 (I, Q, Z)) at hC8
    obtain ⟨X9, ow9, sb9, hS9, hD9, hB9, hQ9⟩ := hC8
    have hW := hD9.1.1
    have hWn : ∀ a, List.length h6 ≤ a → w a = true := fun a ha => (hD9.1.2.1 a ha).1
    have hF10 := fr_refl tbc h6
    have hln : 62 ≤ List.length h6 := sm_len hS9
    refine go_s (pc' := 17) rfl rfl rfl rfl ?_
    refine go_ret rfl rfl ?_
    have hD11 : CD w e m0 h6 ((mgo 0 (I, Q, Z))).1 ((mgo 0 (I, Q, Z))).2.1 ((mgo 0 (I, Q, Z))).2.2 X9 ow9 sb9 := CD_I (CD_fr hD9 hF10) ⟨rfl, rfl, rfl, rfl, rfl, rfl, rfl, rfl, rfl, rfl, rfl, rfl, rfl, rfl, rfl⟩
    have hB12 : co h6 ((mgo 0 (I, Q, Z))).1 ≤ (B + 0 + 20) + 0 := by
      have := co_fr (I := ((mgo 0 (I, Q, Z))).1) (J := ((mgo 0 (I, Q, Z))).1) hF10 rfl
      have := hB9
      omega
    have hC13 : CA w e m0 ((B + 0 + 20) + 0) h6 (((mgo 0 (I, Q, Z))).1, ((mgo 0 (I, Q, Z))).2.1, ((mgo 0 (I, Q, Z))).2.2) := ⟨X9, ow9, sb9, hS9, hD11, hB12, fun l hl => Nat.le_trans (hQ9 l hl) hF10.1⟩
    have hms : mstw 1 (I, Q, Z) = (mgo 0 (I, Q, Z)) := by
      unfold mstw
      rw [if_pos c2, if_neg (by decide)]
    rw [hms]
    exact ⟨rfl, CA_le hC13 (by omega)⟩
  · skip
    refine go_ret rfl rfl ?_
    have hD14 : CD w e m0 h I Q Z X ow sb := CD_I (CD_fr hD hF1) ⟨rfl, rfl, rfl, rfl, rfl, rfl, rfl, rfl, rfl, rfl, rfl, rfl, rfl, rfl, rfl⟩
    have hB15 : co h I ≤ B + 0 := by
      have := co_fr (I := I) (J := I) hF1 rfl
      have := hB
      omega
    have hC16 : CA w e m0 (B + 0) h (I, Q, Z) := ⟨X, ow, sb, hS, hD14, hB15, fun l hl => Nat.le_trans (hQ l hl) hF1.1⟩
    have hms : mstw 1 (I, Q, Z) = (I, Q, Z) := if_neg c2
    rw [hms]
    exact ⟨rfl, CA_le hC16 (by omega)⟩
theorem cm_stw_2 {w : Nat → Bool} {d : Nat} {h : am_Hp} {e : Nat} {m0 : mg} {B : Nat} {I : sm_I} {Q : mQ} {Z : mZ} (hC : CA w e m0 B h (I, Q, Z)) (hB2 : B < 2 ^ 28) (hw9 : I 16 2 = 1 → lv I 2 = true) (hd : 5 ≤ d) : am_Ev (am_prog w) d 40 [.ref 1, .ref 60] h (fun r h' => r = none ∧ CA w e m0 (B + 20) h' (mstw 2 (I, Q, Z))) := by
  obtain ⟨X, ow, sb, hS, hD, hB, hQ⟩ := hC
  change sm tbc h I X at hS
  change CD w e m0 h I Q Z X ow sb at hD
  change co h I ≤ B at hB
  change ∀ l, l < 16 → (Q l).length ≤ h.length at hQ
  have hW := hD.1.1
  have hWn : ∀ a, List.length h ≤ a → w a = true := fun a ha => (hD.1.2.1 a ha).1
  have hF1 := fr_refl tbc h
  have hln : 62 ≤ List.length h := sm_len hS
  obtain ⟨d, rfl⟩ : ∃ e, d = e + 1 := ⟨d - 1, by omega⟩
  refine ev_go rfl (Nat.le_of_ble_eq_true rfl) rfl ?_
  refine go_s (pc' := 1) rfl rfl rfl rfl ?_
  refine go_sget (pc' := 2) (v := .int (I 16 2)) hS rfl rfl rfl (by decide) rfl rfl ?_
  refine go_s (pc' := 3) (st' := [.int 1, .int (I 16 2)]) rfl rfl rfl rfl ?_
  refine go_icmpP (t' := 5) (pc' := 4) rfl rfl rfl (fun (c2 : (I 16 2) = 1) => ?_) (fun (c2 : ¬ (I 16 2) = 1) => ?_)
  · skip
    refine go_s (pc' := 6) rfl rfl rfl rfl ?_
    refine go_instT (pc' := 7) rfl (sm_o hS rfl) rfl (by decide) rfl ?_
    refine go_ifP (t' := 15) (pc' := 8) rfl rfl rfl (fun (c : (1 : Int32) = 0) => absurd c (by decide)) (fun _ => ?_)
    refine go_s (pc' := 9) rfl rfl rfl rfl ?_
    refine go_castO (pc' := 10) rfl (sm_o hS rfl) rfl (by decide) rfl ?_
    refine go_s (pc' := 11) (lo' := [some (.ref 1), some (.ref 60), some (.ref 60)]) rfl rfl rfl rfl ?_
    refine go_s (pc' := 12) rfl rfl rfl rfl ?_
    refine go_s (pc' := 13) rfl rfl rfl rfl ?_
    have hD3 : CD w e m0 h I Q Z X ow sb := CD_I (CD_fr hD hF1) ⟨rfl, rfl, rfl, rfl, rfl, rfl, rfl, rfl, rfl, rfl, rfl, rfl, rfl, rfl, rfl⟩
    have hB4 : co h I ≤ B + 0 := by
      have := co_fr (I := I) (J := I) hF1 rfl
      have := hB
      omega
    have hC5 : CA w e m0 (B + 0) h (I, Q, Z) := ⟨X, ow, sb, hS, hD3, hB4, fun l hl => Nat.le_trans (hQ l hl) hF1.1⟩
    refine go_callV (pc' := 14) rfl rfl rfl (Nat.le_of_ble_eq_true rfl) rfl (sm_o hS rfl) rfl rfl rfl (cm_go_1 hC5 (by omega) (hw9 c2) (by omega)) (fun r h6 q7 => ?_)
    obtain ⟨rfl, hC8⟩ := q7
    change CA w e m0 (B + 0 + 20) h6 (mgo 1 (I, Q, Z)) at hC8
    obtain ⟨X9, ow9, sb9, hS9, hD9, hB9, hQ9⟩ := hC8
    have hW := hD9.1.1
    have hWn : ∀ a, List.length h6 ≤ a → w a = true := fun a ha => (hD9.1.2.1 a ha).1
    have hF10 := fr_refl tbc h6
    have hln : 62 ≤ List.length h6 := sm_len hS9
    refine go_s (pc' := 17) rfl rfl rfl rfl ?_
    refine go_ret rfl rfl ?_
    have hD11 : CD w e m0 h6 ((mgo 1 (I, Q, Z))).1 ((mgo 1 (I, Q, Z))).2.1 ((mgo 1 (I, Q, Z))).2.2 X9 ow9 sb9 := CD_I (CD_fr hD9 hF10) ⟨rfl, rfl, rfl, rfl, rfl, rfl, rfl, rfl, rfl, rfl, rfl, rfl, rfl, rfl, rfl⟩
    have hB12 : co h6 ((mgo 1 (I, Q, Z))).1 ≤ (B + 0 + 20) + 0 := by
      have := co_fr (I := ((mgo 1 (I, Q, Z))).1) (J := ((mgo 1 (I, Q, Z))).1) hF10 rfl
      have := hB9
      omega
    have hC13 : CA w e m0 ((B + 0 + 20) + 0) h6 (((mgo 1 (I, Q, Z))).1, ((mgo 1 (I, Q, Z))).2.1, ((mgo 1 (I, Q, Z))).2.2) := ⟨X9, ow9, sb9, hS9, hD11, hB12, fun l hl => Nat.le_trans (hQ9 l hl) hF10.1⟩
    have hms : mstw 2 (I, Q, Z) = (mgo 1 (I, Q, Z)) := by
      unfold mstw
      rw [if_pos c2, if_neg (by decide)]
    rw [hms]
    exact ⟨rfl, CA_le hC13 (by omega)⟩
  · skip
    refine go_ret rfl rfl ?_
    have hD14 : CD w e m0 h I Q Z X ow sb := CD_I (CD_fr hD hF1) ⟨rfl, rfl, rfl, rfl, rfl, rfl, rfl, rfl, rfl, rfl, rfl, rfl, rfl, rfl, rfl⟩
    have hB15 : co h I ≤ B + 0 := by
      have := co_fr (I := I) (J := I) hF1 rfl
      have := hB
      omega
    have hC16 : CA w e m0 (B + 0) h (I, Q, Z) := ⟨X, ow, sb, hS, hD14, hB15, fun l hl => Nat.le_trans (hQ l hl) hF1.1⟩
    have hms : mstw 2 (I, Q, Z) = (I, Q, Z) := if_neg c2
    rw [hms]
    exact ⟨rfl, CA_le hC16 (by omega)⟩
