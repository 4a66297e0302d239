theorem cx_wnn_0 {w : Nat → Bool} {d : Nat} {h : am_Hp} {e : Nat} {m0 : mg} {B : Nat} {I : sm_I} {Q : mQ} {Z : mZ} {X : sm_X} {ow : ow_T} {sb : Nat} (hS : sm tbc h I X) (hD : CD w e m0 h I Q Z X ow sb) (hB : co h I ≤ B) (hQ : ∀ l, l < 16 → (Q l).length ≤ h.length) (hB2 : B < 2 ^ 28) {b9 : Nat} {n6 : Int32} (hus : us I 0 = false) (h206 : X 206 0 = .int n6) (hd : 4 ≤ d) : am_Ev (am_prog w) d 91 [.ref 24, .int 0, .ref b9] h (fun r h' => r = some (.int (-1)) ∧ h' = h) := by
  have hW := hD.1.1
  have hWn : ∀ a, List.length h ≤ a → w a = true := fun a ha => (hD.1.2.1 a ha).1
  have hF1 := fr_refl tbc h
  have hln : 62 ≤ List.length h := sm_len hS
  obtain ⟨d, rfl⟩ : ∃ e, d = e + 1 := ⟨d - 1, by omega⟩
  refine ev_go rfl (Nat.le_of_ble_eq_true rfl) rfl ?_
  refine go_s (pc' := 1) rfl rfl rfl rfl ?_
  refine go_sget (pc' := 2) (v := .ref 28) hS rfl rfl rfl (by decide) rfl rfl ?_
  refine go_s (pc' := 3) rfl rfl rfl rfl ?_
  refine go_sald (pc' := 4) (q := 0) (v := .int n6) hS rfl rfl rfl rfl (by decide) h206 rfl ?_
  refine go_s (pc' := 5) (lo' := [some (.ref 24), some (.int 0), some (.ref b9), some (.int n6), none]) rfl rfl rfl rfl ?_
  refine go_s (pc' := 6) rfl rfl rfl rfl ?_
  refine go_s (pc' := 7) rfl rfl rfl rfl ?_
  refine go_callV (pc' := 8) rfl rfl rfl (Nat.le_of_ble_eq_true rfl) rfl (sm_o hS rfl) rfl rfl rfl (ct_us_0 hS (by omega)) (fun r h2 q3 => ?_)
  obtain ⟨rfl, rfl⟩ := q3
  cases u4 : us I 0
  · skip
    show am_Go _ _ _ _ 8 _ [.int 0] _ _
    refine go_ifP (t' := 13) (pc' := 9) rfl rfl rfl (fun _ => ?_) (fun (c : ¬ ((0 : Int32) = 0)) => absurd (by decide) c)
    refine go_s (pc' := 14) (st' := [.int (-1)]) rfl rfl rfl rfl ?_
    refine go_ret rfl rfl ?_
    exact ⟨rfl, rfl⟩
  · skip
    show am_Go _ _ _ _ 8 _ [.int 1] _ _
    exact absurd (u4.symm.trans hus) (by decide)
theorem cx_wnn_1 {w : Nat → Bool} {d : Nat} {h : am_Hp} {e : Nat} {m0 : mg} {B : Nat} {I : sm_I} {Q : mQ} {Z : mZ} {X : sm_X} {ow : ow_T} {sb : Nat} (hS : sm tbc h I X) (hD : CD w e m0 h I Q Z X ow sb) (hB : co h I ≤ B) (hQ : ∀ l, l < 16 → (Q l).length ≤ h.length) (hB2 : B < 2 ^ 28) {b9 : Nat} {n6 : Int32} (hus : us I 1 = false) (h206 : X 206 1 = .int n6) (hd : 4 ≤ d) : am_Ev (am_prog w) d 91 [.ref 24, .int 1, .ref b9] h (fun r h' => r = some (.int (-1)) ∧ h' = h) := by
  have hW := hD.1.1
  have hWn : ∀ a, List.length h ≤ a → w a = true := fun a ha => (hD.1.2.1 a ha).1
  have hF1 := fr_refl tbc h
  have hln : 62 ≤ List.length h := sm_len hS
  obtain ⟨d, rfl⟩ : ∃ e, d = e + 1 := ⟨d - 1, by omega⟩
  refine ev_go rfl (Nat.le_of_ble_eq_true rfl) rfl ?_
  refine go_s (pc' := 1) rfl rfl rfl rfl ?_
  refine go_sget (pc' := 2) (v := .ref 28) hS rfl rfl rfl (by decide) rfl rfl ?_
  refine go_s (pc' := 3) rfl rfl rfl rfl ?_
  refine go_sald (pc' := 4) (q := 1) (v := .int n6) hS rfl rfl rfl rfl (by decide) h206 rfl ?_
  refine go_s (pc' := 5) (lo' := [some (.ref 24), some (.int 1), some (.ref b9), some (.int n6), none]) rfl rfl rfl rfl ?_
  refine go_s (pc' := 6) rfl rfl rfl rfl ?_
  refine go_s (pc' := 7) rfl rfl rfl rfl ?_
  refine go_callV (pc' := 8) rfl rfl rfl (Nat.le_of_ble_eq_true rfl) rfl (sm_o hS rfl) rfl rfl rfl (ct_us_1 hS (by omega)) (fun r h2 q3 => ?_)
  obtain ⟨rfl, rfl⟩ := q3
  cases u4 : us I 1
  · skip
    show am_Go _ _ _ _ 8 _ [.int 0] _ _
    refine go_ifP (t' := 13) (pc' := 9) rfl rfl rfl (fun _ => ?_) (fun (c : ¬ ((0 : Int32) = 0)) => absurd (by decide) c)
    refine go_s (pc' := 14) (st' := [.int (-1)]) rfl rfl rfl rfl ?_
    refine go_ret rfl rfl ?_
    exact ⟨rfl, rfl⟩
  · skip
    show am_Go _ _ _ _ 8 _ [.int 1] _ _
    exact absurd (u4.symm.trans hus) (by decide)
theorem ca_wrn_0 {w : Nat → Bool} {d : Nat} {h : am_Hp} {m0 : mg} {B : Nat} {I : sm_I} {Q : mQ} {Z : mZ} (hC : CA w 32 m0 B h (I, Q, Z)) (hB2 : B < 2 ^ 26) (hu0 : I 16 0 = 2 → us I 0 = false) (hsi : lv I 0 = true → I 16 0 = 2 → SI (I, Q, Z)) (hd : 8 ≤ d) : am_Ev (am_prog w) d 90 [.ref 1, .int 0] h (fun r h' => r = some (.int (mwr 0 (I, Q, Z)).1) ∧ CA w 32 m0 (B + 400) h' (mwr 0 (I, Q, Z)).2) := by
  obtain ⟨X, ow, sb, hS, hD, hB, hQ⟩ := hC
  change sm tbc h I X at hS
  change CD w 32 m0 h I Q Z X ow sb at hD
  change co h I ≤ B at hB
  change ∀ l, l < 16 → (Q l).length ≤ h.length at hQ
  have hW := hD.1.1
  have hWn : ∀ a, List.length h ≤ a → w a = true := fun a ha => (hD.1.2.1 a ha).1
  have hF1 := fr_refl tbc h
  have hln : 62 ≤ List.length h := sm_len hS
  obtain ⟨d, rfl⟩ : ∃ e, d = e + 1 := ⟨d - 1, by omega⟩
  refine ev_go rfl (Nat.le_of_ble_eq_true rfl) rfl ?_
  refine go_s (pc' := 1) rfl rfl rfl rfl ?_
  refine go_s (pc' := 2) (st' := [.int 2, .int 0]) rfl rfl rfl rfl ?_
  refine go_callS (pc' := 3) rfl rfl rfl (Nat.le_of_ble_eq_true rfl) rfl rfl rfl (ct_within_t (q := 0) (n := 2) (by decide) (by decide) (by omega)) (fun r h2 q3 => ?_)
  obtain ⟨rfl, rfl⟩ := q3
  refine go_ifP (t' := 14) (pc' := 4) rfl rfl rfl (fun (c : (1 : Int32) = 0) => absurd c (by decide)) (fun _ => ?_)
  refine go_s (pc' := 5) rfl rfl rfl rfl ?_
  refine go_s (pc' := 6) rfl rfl rfl rfl ?_
  refine go_sget (pc' := 7) (v := .ref 32) hS rfl rfl rfl (by decide) rfl rfl ?_
  refine go_callV (pc' := 8) rfl rfl rfl (Nat.le_of_ble_eq_true rfl) rfl (sm_o hS rfl) rfl rfl rfl (ct_works_0 hS (hD.2.2.2.2.2.2 0 (by decide)) (by omega)) (fun r h4 q5 => ?_)
  obtain ⟨rfl, rfl⟩ := q5
  cases u6 : lv I 0
  · skip
    show am_Go _ _ _ _ 8 _ [.int 0] _ _
    refine go_ifP (t' := 14) (pc' := 9) rfl rfl rfl (fun _ => ?_) (fun (c : ¬ ((0 : Int32) = 0)) => absurd (by decide) c)
    refine go_s (pc' := 15) (st' := [.int (-1)]) rfl rfl rfl rfl ?_
    refine go_ret rfl rfl ?_
    have hms : mwr 0 (I, Q, Z) = (-1, (I, Q, Z)) := if_neg (fun z => absurd (z.1.symm.trans (show lv (I, Q, Z).1 0 = false from u6)) (by decide))
    rw [hms]
    exact ⟨rfl, X, ow, sb, hS, hD, Nat.le_trans hB (by omega), hQ⟩
  · skip
    show am_Go _ _ _ _ 8 _ [.int 1] _ _
    refine go_ifP (t' := 14) (pc' := 9) rfl rfl rfl (fun (c : (1 : Int32) = 0) => absurd c (by decide)) (fun _ => ?_)
    refine go_s (pc' := 10) rfl rfl rfl rfl ?_
    refine go_sget (pc' := 11) (v := .ref 32) hS rfl rfl rfl (by decide) rfl rfl ?_
    refine go_sget (pc' := 12) (v := .int (I 16 0)) hS rfl rfl rfl (by decide) rfl rfl ?_
    refine go_s (pc' := 13) (st' := [.int 2, .int (I 16 0)]) rfl rfl rfl rfl ?_
    refine go_icmpP (t' := 16) (pc' := 14) rfl rfl rfl (fun (c7 : (I 16 0) = 2) => ?_) (fun (c7 : ¬ (I 16 0) = 2) => ?_)
    · skip
      have hv := u6
      have t2 : I 16 0 = 2 := c7
      obtain ⟨k208, kst, -⟩ := hD.2.2.2.2.1
      obtain ⟨ad, S, Y, k0, hA, k2, k3, k4, k5, hoa, hZ0, hWa, htc⟩ := St_open hD.1 (kst hv)
      rw [← k0] at k208
      have hsd := k4 (ad 0) _ _ (tbs_at hA (i := 0) (by decide))
      refine go_s (pc' := 17) rfl rfl rfl rfl ?_
      refine go_sget (pc' := 18) (v := .ref 24) hS rfl rfl rfl (by decide) rfl rfl ?_
      refine go_s (pc' := 19) rfl rfl rfl rfl ?_
      refine go_s (pc' := 20) rfl rfl rfl rfl ?_
      refine go_sget (pc' := 21) (v := .ref 32) hS rfl rfl rfl (by decide) rfl rfl ?_
      refine go_sget (pc' := 22) (v := .ref (ad 0)) hS rfl rfl rfl (by decide) k208 rfl ?_
      refine go_get (pc' := 23) rfl hsd rfl (by decide) rfl rfl ?_
      have hus := hu0 t2
      obtain ⟨n6, h206, -⟩ := hD.2.2.2.1.2.1 0 (by decide)
      refine go_callV (pc' := 24) rfl rfl rfl (Nat.le_of_ble_eq_true rfl) rfl (sm_o hS rfl) rfl rfl rfl (cx_wnn_0 hS hD hB hQ (by omega) hus h206 (by omega)) (fun r h8 q9 => ?_)
      obtain ⟨rfl, rfl⟩ := q9
      refine go_s (pc' := 25) (lo' := [some (.ref 1), some (.int 0), some (.int (-1))]) rfl rfl rfl rfl ?_
      refine go_s (pc' := 26) rfl rfl rfl rfl ?_
      refine go_callV (pc' := 27) rfl rfl rfl (Nat.le_of_ble_eq_true rfl) rfl (sm_o hS rfl) rfl rfl rfl (cm_run (⟨X, ow, sb, hS, hD, hB, hQ⟩ : CA w 32 m0 B _ (I, Q, Z)) (by omega) (hsi hv t2) (by omega)) (fun r h10 q11 => ?_)
      obtain ⟨rfl, hC7⟩ := q11
      refine go_s (pc' := 28) rfl rfl rfl rfl ?_
      refine go_ret rfl rfl ?_
      have hmt : mwrt 0 (I, Q, Z) = (-1, (I, Q, Z)) := if_neg (by rw [show us ((I, Q, Z) : mM).1 0 = false from hus]; decide)
      have hms : mwr 0 (I, Q, Z) = (-1, mset 10 (I, Q, Z)) := by
        unfold mwr
        rw [if_pos ⟨hv, t2⟩, hmt]
      rw [hms]
      exact ⟨rfl, hC7⟩
    · skip
      refine go_s (pc' := 15) (st' := [.int (-1)]) rfl rfl rfl rfl ?_
      refine go_ret rfl rfl ?_
      have hms : mwr 0 (I, Q, Z) = (-1, (I, Q, Z)) := if_neg (fun z => c7 z.2)
      rw [hms]
      exact ⟨rfl, X, ow, sb, hS, hD, Nat.le_trans hB (by omega), hQ⟩
theorem ca_wrn_1 {w : Nat → Bool} {d : Nat} {h : am_Hp} {m0 : mg} {B : Nat} {I : sm_I} {Q : mQ} {Z : mZ} (hC : CA w 32 m0 B h (I, Q, Z)) (hB2 : B < 2 ^ 26) (hu0 : I 16 0 = 2 → us I 1 = false) (hsi : lv I 0 = true → I 16 0 = 2 → SI (I, Q, Z)) (hd : 8 ≤ d) : am_Ev (am_prog w) d 90 [.ref 1, .int 1] h (fun r h' => r = some (.int (mwr 1 (I, Q, Z)).1) ∧ CA w 32 m0 (B + 400) h' (mwr 1 (I, Q, Z)).2) := by
  obtain ⟨X, ow, sb, hS, hD, hB, hQ⟩ := hC
  change sm tbc h I X at hS
  change CD w 32 m0 h I Q Z X ow sb at hD
  change co h I ≤ B at hB
  change ∀ l, l < 16 → (Q l).length ≤ h.length at hQ
  have hW := hD.1.1
  have hWn : ∀ a, List.length h ≤ a → w a = true := fun a ha => (hD.1.2.1 a ha).1
  have hF1 := fr_refl tbc h
  have hln : 62 ≤ List.length h := sm_len hS
  obtain ⟨d, rfl⟩ : ∃ e, d = e + 1 := ⟨d - 1, by omega⟩
  refine ev_go rfl (Nat.le_of_ble_eq_true rfl) rfl ?_
  refine go_s (pc' := 1) rfl rfl rfl rfl ?_
  refine go_s (pc' := 2) (st' := [.int 2, .int 1]) rfl rfl rfl rfl ?_
  refine go_callS (pc' := 3) rfl rfl rfl (Nat.le_of_ble_eq_true rfl) rfl rfl rfl (ct_within_t (q := 1) (n := 2) (by decide) (by decide) (by omega)) (fun r h2 q3 => ?_)
  obtain ⟨rfl, rfl⟩ := q3
  refine go_ifP (t' := 14) (pc' := 4) rfl rfl rfl (fun (c : (1 : Int32) = 0) => absurd c (by decide)) (fun _ => ?_)
  refine go_s (pc' := 5) rfl rfl rfl rfl ?_
  refine go_s (pc' := 6) rfl rfl rfl rfl ?_
  refine go_sget (pc' := 7) (v := .ref 32) hS rfl rfl rfl (by decide) rfl rfl ?_
  refine go_callV (pc' := 8) rfl rfl rfl (Nat.le_of_ble_eq_true rfl) rfl (sm_o hS rfl) rfl rfl rfl (ct_works_0 hS (hD.2.2.2.2.2.2 0 (by decide)) (by omega)) (fun r h4 q5 => ?_)
  obtain ⟨rfl, rfl⟩ := q5
  cases u6 : lv I 0
  · skip
    show am_Go _ _ _ _ 8 _ [.int 0] _ _
    refine go_ifP (t' := 14) (pc' := 9) rfl rfl rfl (fun _ => ?_) (fun (c : ¬ ((0 : Int32) = 0)) => absurd (by decide) c)
    refine go_s (pc' := 15) (st' := [.int (-1)]) rfl rfl rfl rfl ?_
    refine go_ret rfl rfl ?_
    have hms : mwr 1 (I, Q, Z) = (-1, (I, Q, Z)) := if_neg (fun z => absurd (z.1.symm.trans (show lv (I, Q, Z).1 0 = false from u6)) (by decide))
    rw [hms]
    exact ⟨rfl, X, ow, sb, hS, hD, Nat.le_trans hB (by omega), hQ⟩
  · skip
    show am_Go _ _ _ _ 8 _ [.int 1] _ _
    refine go_ifP (t' := 14) (pc' := 9) rfl rfl rfl (fun (c : (1 : Int32) = 0) => absurd c (by decide)) (fun _ => ?_)
    refine go_s (pc' := 10) rfl rfl rfl rfl ?_
    refine go_sget (pc' := 11) (v := .ref 32) hS rfl rfl rfl (by decide) rfl rfl ?_
    refine go_sget (pc' := 12) (v := .int (I 16 0)) hS rfl rfl rfl (by decide) rfl rfl ?_
    refine go_s (pc' := 13) (st' := [.int 2, .int (I 16 0)]) rfl rfl rfl rfl ?_
    refine go_icmpP (t' := 16) (pc' := 14) rfl rfl rfl (fun (c7 : (I 16 0) = 2) => ?_) (fun (c7 : ¬ (I 16 0) = 2) => ?_)
    · skip
      have hv := u6
      have t2 : I 16 0 = 2 := c7
      obtain ⟨k208, kst, -⟩ := hD.2.2.2.2.1
      obtain ⟨ad, S, Y, k0, hA, k2, k3, k4, k5, hoa, hZ0, hWa, htc⟩ := St_open hD.1 (kst hv)
      rw [← k0] at k208
      have hsd := k4 (ad 0) _ _ (tbs_at hA (i := 0) (by decide))
      refine go_s (pc' := 17) rfl rfl rfl rfl ?_
      refine go_sget (pc' := 18) (v := .ref 24) hS rfl rfl rfl (by decide) rfl rfl ?_
      refine go_s (pc' := 19) rfl rfl rfl rfl ?_
      refine go_s (pc' := 20) rfl rfl rfl rfl ?_
      refine go_sget (pc' := 21) (v := .ref 32) hS rfl rfl rfl (by decide) rfl rfl ?_
      refine go_sget (pc' := 22) (v := .ref (ad 0)) hS rfl rfl rfl (by decide) k208 rfl ?_
      refine go_get (pc' := 23) rfl hsd rfl (by decide) rfl rfl ?_
      have hus := hu0 t2
      obtain ⟨n6, h206, -⟩ := hD.2.2.2.1.2.1 1 (by decide)
      refine go_callV (pc' := 24) rfl rfl rfl (Nat.le_of_ble_eq_true rfl) rfl (sm_o hS rfl) rfl rfl rfl (cx_wnn_1 hS hD hB hQ (by omega) hus h206 (by omega)) (fun r h8 q9 => ?_)
      obtain ⟨rfl, rfl⟩ := q9
      refine go_s (pc' := 25) (lo' := [some (.ref 1), some (.int 1), some (.int (-1))]) rfl rfl rfl rfl ?_
      refine go_s (pc' := 26) rfl rfl rfl rfl ?_
      refine go_callV (pc' := 27) rfl rfl rfl (Nat.le_of_ble_eq_true rfl) rfl (sm_o hS rfl) rfl rfl rfl (cm_run (⟨X, ow, sb, hS, hD, hB, hQ⟩ : CA w 32 m0 B _ (I, Q, Z)) (by omega) (hsi hv t2) (by omega)) (fun r h10 q11 => ?_)
      obtain ⟨rfl, hC7⟩ := q11
      refine go_s (pc' := 28) rfl rfl rfl rfl ?_
      refine go_ret rfl rfl ?_
      have hmt : mwrt 1 (I, Q, Z) = (-1, (I, Q, Z)) := if_neg (by rw [show us ((I, Q, Z) : mM).1 1 = false from hus]; decide)
      have hms : mwr 1 (I, Q, Z) = (-1, mset 10 (I, Q, Z)) := by
        unfold mwr
        rw [if_pos ⟨hv, t2⟩, hmt]
      rw [hms]
      exact ⟨rfl, hC7⟩
    · skip
      refine go_s (pc' := 15) (st' := [.int (-1)]) rfl rfl rfl rfl ?_
      refine go_ret rfl rfl ?_
      have hms : mwr 1 (I, Q, Z) = (-1, (I, Q, Z)) := if_neg (fun z => c7 z.2)
      rw [hms]
      exact ⟨rfl, X, ow, sb, hS, hD, Nat.le_trans hB (by omega), hQ⟩
