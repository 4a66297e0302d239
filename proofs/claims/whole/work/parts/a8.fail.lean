theorem CD_3 {w : Nat → Bool} {b : Nat} {v : Int32} {m0 : mg} {h : am_Hp} {I : sm_I} {Q : mQ} {Z : mZ} {X : sm_X} {ow : ow_T} {sb : Nat} (c : CD w 32 m0 h I Q Z X ow sb) : CD w 32 m0 h (uI I 3 b v) Q Z X ow sb := by
  obtain ⟨k1, k2, k3, k4, k5, k6, k7⟩ := c
  refine ⟨k1, k2, fun j hj => ⟨fun z => absurd z (by omega), fun z => absurd z (by omega), fun a b => (k3 j hj).2.2 a b⟩, k4, k5, k6, k7⟩
theorem ct_ip_0_0 {w : Nat → Bool} {d : Nat} {h : am_Hp} (hd : 2 ≤ d) : am_Ev (am_prog w) d 97 [.int 0, .int 0] h (fun r h' => r = some (.int 1) ∧ h' = h) := by
  obtain ⟨d, rfl⟩ : ∃ e, d = e + 1 := ⟨d - 1, by omega⟩
  refine ev_go rfl (Nat.le_of_ble_eq_true rfl) rfl ?_
  refine go_s (pc' := 1) rfl rfl rfl rfl ?_
  refine go_tsw (t' := 2) rfl (Or.inr ⟨by decide, rfl⟩) rfl ?_
  refine go_s (pc' := 3) rfl rfl rfl rfl ?_
  refine go_s (pc' := 4) (st' := [.int 4, .int 0]) rfl rfl rfl rfl ?_
  refine go_callS (pc' := 5) rfl rfl rfl (Nat.le_of_ble_eq_true rfl) rfl rfl rfl (ct_within_t (q := 0) (n := 4) (by decide) (by decide) (by omega)) (fun r h1 q2 => ?_)
  obtain ⟨rfl, rfl⟩ := q2
  refine go_ret rfl rfl ?_
  exact ⟨rfl, rfl⟩
theorem ct_iu_0_0 {w : Nat → Bool} {d : Nat} {h : am_Hp} {I : sm_I} {X : sm_X} (hS : sm tbc h I X) (hb : I 0 0 = 0 ∨ I 0 0 = 1) (hd : 1 ≤ d) : am_Ev (am_prog w) d 98 [.ref 1, .int 0, .int 0] h (fun r h' => r = some (.int (I 0 0)) ∧ h' = h) := by
  obtain ⟨d, rfl⟩ : ∃ e, d = e + 1 := ⟨d - 1, by omega⟩
  refine ev_go rfl (Nat.le_of_ble_eq_true rfl) rfl ?_
  refine go_s (pc' := 1) rfl rfl rfl rfl ?_
  refine go_ifP (t' := 8) (pc' := 2) rfl rfl rfl (fun (c : ¬ (0 : Int32) = 0) => absurd c (by decide)) (fun _ => ?_)
  refine go_s (pc' := 3) rfl rfl rfl rfl ?_
  refine go_sget (pc' := 4) (v := .ref 2) hS rfl rfl rfl (by decide) rfl rfl ?_
  refine go_sget (pc' := 5) (v := .ref 3) hS rfl rfl rfl (by decide) rfl rfl ?_
  refine go_s (pc' := 6) rfl rfl rfl rfl ?_
  refine go_sald (pc' := 7) (q := 0) (v := .int (I 0 0)) hS rfl rfl rfl rfl (by decide) rfl rfl ?_
  refine go_ret rfl (if_pos hb) ?_
  exact ⟨rfl, rfl⟩
theorem ct_ip_0_1 {w : Nat → Bool} {d : Nat} {h : am_Hp} (hd : 2 ≤ d) : am_Ev (am_prog w) d 97 [.int 0, .int 1] h (fun r h' => r = some (.int 1) ∧ h' = h) := by
  obtain ⟨d, rfl⟩ : ∃ e, d = e + 1 := ⟨d - 1, by omega⟩
  refine ev_go rfl (Nat.le_of_ble_eq_true rfl) rfl ?_
  refine go_s (pc' := 1) rfl rfl rfl rfl ?_
  refine go_tsw (t' := 2) rfl (Or.inr ⟨by decide, rfl⟩) rfl ?_
  refine go_s (pc' := 3) rfl rfl rfl rfl ?_
  refine go_s (pc' := 4) (st' := [.int 4, .int 1]) rfl rfl rfl rfl ?_
  refine go_callS (pc' := 5) rfl rfl rfl (Nat.le_of_ble_eq_true rfl) rfl rfl rfl (ct_within_t (q := 1) (n := 4) (by decide) (by decide) (by omega)) (fun r h1 q2 => ?_)
  obtain ⟨rfl, rfl⟩ := q2
  refine go_ret rfl rfl ?_
  exact ⟨rfl, rfl⟩
theorem ct_iu_0_1 {w : Nat → Bool} {d : Nat} {h : am_Hp} {I : sm_I} {X : sm_X} (hS : sm tbc h I X) (hb : I 0 1 = 0 ∨ I 0 1 = 1) (hd : 1 ≤ d) : am_Ev (am_prog w) d 98 [.ref 1, .int 0, .int 1] h (fun r h' => r = some (.int (I 0 1)) ∧ h' = h) := by
  obtain ⟨d, rfl⟩ : ∃ e, d = e + 1 := ⟨d - 1, by omega⟩
  refine ev_go rfl (Nat.le_of_ble_eq_true rfl) rfl ?_
  refine go_s (pc' := 1) rfl rfl rfl rfl ?_
  refine go_ifP (t' := 8) (pc' := 2) rfl rfl rfl (fun (c : ¬ (0 : Int32) = 0) => absurd c (by decide)) (fun _ => ?_)
  refine go_s (pc' := 3) rfl rfl rfl rfl ?_
  refine go_sget (pc' := 4) (v := .ref 2) hS rfl rfl rfl (by decide) rfl rfl ?_
  refine go_sget (pc' := 5) (v := .ref 3) hS rfl rfl rfl (by decide) rfl rfl ?_
  refine go_s (pc' := 6) rfl rfl rfl rfl ?_
  refine go_sald (pc' := 7) (q := 1) (v := .int (I 0 1)) hS rfl rfl rfl rfl (by decide) rfl rfl ?_
  refine go_ret rfl (if_pos hb) ?_
  exact ⟨rfl, rfl⟩
theorem ct_ip_0_2 {w : Nat → Bool} {d : Nat} {h : am_Hp} (hd : 2 ≤ d) : am_Ev (am_prog w) d 97 [.int 0, .int 2] h (fun r h' => r = some (.int 1) ∧ h' = h) := by
  obtain ⟨d, rfl⟩ : ∃ e, d = e + 1 := ⟨d - 1, by omega⟩
  refine ev_go rfl (Nat.le_of_ble_eq_true rfl) rfl ?_
  refine go_s (pc' := 1) rfl rfl rfl rfl ?_
  refine go_tsw (t' := 2) rfl (Or.inr ⟨by decide, rfl⟩) rfl ?_
  refine go_s (pc' := 3) rfl rfl rfl rfl ?_
  refine go_s (pc' := 4) (st' := [.int 4, .int 2]) rfl rfl rfl rfl ?_
  refine go_callS (pc' := 5) rfl rfl rfl (Nat.le_of_ble_eq_true rfl) rfl rfl rfl (ct_within_t (q := 2) (n := 4) (by decide) (by decide) (by omega)) (fun r h1 q2 => ?_)
  obtain ⟨rfl, rfl⟩ := q2
  refine go_ret rfl rfl ?_
  exact ⟨rfl, rfl⟩
theorem ct_iu_0_2 {w : Nat → Bool} {d : Nat} {h : am_Hp} {I : sm_I} {X : sm_X} (hS : sm tbc h I X) (hb : I 0 2 = 0 ∨ I 0 2 = 1) (hd : 1 ≤ d) : am_Ev (am_prog w) d 98 [.ref 1, .int 0, .int 2] h (fun r h' => r = some (.int (I 0 2)) ∧ h' = h) := by
  obtain ⟨d, rfl⟩ : ∃ e, d = e + 1 := ⟨d - 1, by omega⟩
  refine ev_go rfl (Nat.le_of_ble_eq_true rfl) rfl ?_
  refine go_s (pc' := 1) rfl rfl rfl rfl ?_
  refine go_ifP (t' := 8) (pc' := 2) rfl rfl rfl (fun (c : ¬ (0 : Int32) = 0) => absurd c (by decide)) (fun _ => ?_)
  refine go_s (pc' := 3) rfl rfl rfl rfl ?_
  refine go_sget (pc' := 4) (v := .ref 2) hS rfl rfl rfl (by decide) rfl rfl ?_
  refine go_sget (pc' := 5) (v := .ref 3) hS rfl rfl rfl (by decide) rfl rfl ?_
  refine go_s (pc' := 6) rfl rfl rfl rfl ?_
  refine go_sald (pc' := 7) (q := 2) (v := .int (I 0 2)) hS rfl rfl rfl rfl (by decide) rfl rfl ?_
  refine go_ret rfl (if_pos hb) ?_
  exact ⟨rfl, rfl⟩
theorem ct_ip_0_3 {w : Nat → Bool} {d : Nat} {h : am_Hp} (hd : 2 ≤ d) : am_Ev (am_prog w) d 97 [.int 0, .int 3] h (fun r h' => r = some (.int 1) ∧ h' = h) := by
  obtain ⟨d, rfl⟩ : ∃ e, d = e + 1 := ⟨d - 1, by omega⟩
  refine ev_go rfl (Nat.le_of_ble_eq_true rfl) rfl ?_
  refine go_s (pc' := 1) rfl rfl rfl rfl ?_
  refine go_tsw (t' := 2) rfl (Or.inr ⟨by decide, rfl⟩) rfl ?_
  refine go_s (pc' := 3) rfl rfl rfl rfl ?_
  refine go_s (pc' := 4) (st' := [.int 4, .int 3]) rfl rfl rfl rfl ?_
  refine go_callS (pc' := 5) rfl rfl rfl (Nat.le_of_ble_eq_true rfl) rfl rfl rfl (ct_within_t (q := 3) (n := 4) (by decide) (by decide) (by omega)) (fun r h1 q2 => ?_)
  obtain ⟨rfl, rfl⟩ := q2
  refine go_ret rfl rfl ?_
  exact ⟨rfl, rfl⟩
theorem ct_iu_0_3 {w : Nat → Bool} {d : Nat} {h : am_Hp} {I : sm_I} {X : sm_X} (hS : sm tbc h I X) (hb : I 0 3 = 0 ∨ I 0 3 = 1) (hd : 1 ≤ d) : am_Ev (am_prog w) d 98 [.ref 1, .int 0, .int 3] h (fun r h' => r = some (.int (I 0 3)) ∧ h' = h) := by
  obtain ⟨d, rfl⟩ : ∃ e, d = e + 1 := ⟨d - 1, by omega⟩
  refine ev_go rfl (Nat.le_of_ble_eq_true rfl) rfl ?_
  refine go_s (pc' := 1) rfl rfl rfl rfl ?_
  refine go_ifP (t' := 8) (pc' := 2) rfl rfl rfl (fun (c : ¬ (0 : Int32) = 0) => absurd c (by decide)) (fun _ => ?_)
  refine go_s (pc' := 3) rfl rfl rfl rfl ?_
  refine go_sget (pc' := 4) (v := .ref 2) hS rfl rfl rfl (by decide) rfl rfl ?_
  refine go_sget (pc' := 5) (v := .ref 3) hS rfl rfl rfl (by decide) rfl rfl ?_
  refine go_s (pc' := 6) rfl rfl rfl rfl ?_
  refine go_sald (pc' := 7) (q := 3) (v := .int (I 0 3)) hS rfl rfl rfl rfl (by decide) rfl rfl ?_
  refine go_ret rfl (if_pos hb) ?_
  exact ⟨rfl, rfl⟩
theorem ct_ip_0_f {w : Nat → Bool} {d : Nat} {h : am_Hp} {a : Int32} (hn : a < 0 ∨ nI 4 ≤ a) (hd : 2 ≤ d) : am_Ev (am_prog w) d 97 [.int 0, .int a] h (fun r h' => r = some (.int 0) ∧ h' = h) := by
  obtain ⟨d, rfl⟩ : ∃ e, d = e + 1 := ⟨d - 1, by omega⟩
  refine ev_go rfl (Nat.le_of_ble_eq_true rfl) rfl ?_
  refine go_s (pc' := 1) rfl rfl rfl rfl ?_
  refine go_tsw (t' := 2) rfl (Or.inr ⟨by decide, rfl⟩) rfl ?_
  refine go_s (pc' := 3) rfl rfl rfl rfl ?_
  refine go_s (pc' := 4) (st' := [.int 4, .int a]) rfl rfl rfl rfl ?_
  refine go_callS (pc' := 5) rfl rfl rfl (Nat.le_of_ble_eq_true rfl) rfl rfl rfl (ct_within_f (a := a) (n := 4) hn (by omega)) (fun r h1 q2 => ?_)
  obtain ⟨rfl, rfl⟩ := q2
  refine go_ret rfl rfl ?_
  exact ⟨rfl, rfl⟩
theorem ct_ip_1_0 {w : Nat → Bool} {d : Nat} {h : am_Hp} (hd : 2 ≤ d) : am_Ev (am_prog w) d 97 [.int 1, .int 0] h (fun r h' => r = some (.int 1) ∧ h' = h) := by
  obtain ⟨d, rfl⟩ : ∃ e, d = e + 1 := ⟨d - 1, by omega⟩
  refine ev_go rfl (Nat.le_of_ble_eq_true rfl) rfl ?_
  refine go_s (pc' := 1) rfl rfl rfl rfl ?_
  refine go_tsw (t' := 6) rfl (Or.inr ⟨by decide, rfl⟩) rfl ?_
  refine go_s (pc' := 7) rfl rfl rfl rfl ?_
  refine go_s (pc' := 8) (st' := [.int 2, .int 0]) rfl rfl rfl rfl ?_
  refine go_callS (pc' := 9) rfl rfl rfl (Nat.le_of_ble_eq_true rfl) rfl rfl rfl (ct_within_t (q := 0) (n := 2) (by decide) (by decide) (by omega)) (fun r h1 q2 => ?_)
  obtain ⟨rfl, rfl⟩ := q2
  refine go_ret rfl rfl ?_
  exact ⟨rfl, rfl⟩
theorem ct_iu_1_0 {w : Nat → Bool} {d : Nat} {h : am_Hp} {I : sm_I} {X : sm_X} (hS : sm tbc h I X) (hb : I 3 0 = 0 ∨ I 3 0 = 1) (hd : 1 ≤ d) : am_Ev (am_prog w) d 98 [.ref 1, .int 1, .int 0] h (fun r h' => r = some (.int (I 3 0)) ∧ h' = h) := by
  obtain ⟨d, rfl⟩ : ∃ e, d = e + 1 := ⟨d - 1, by omega⟩
  refine ev_go rfl (Nat.le_of_ble_eq_true rfl) rfl ?_
  refine go_s (pc' := 1) rfl rfl rfl rfl ?_
  refine go_ifP (t' := 8) (pc' := 2) rfl rfl rfl (fun _ => ?_) (fun (c : ¬ (¬ (1 : Int32) = 0)) => absurd (by decide) c)
  refine go_s (pc' := 9) rfl rfl rfl rfl ?_
  refine go_s (pc' := 10) (st' := [.int 1, .int 1]) rfl rfl rfl rfl ?_
  refine go_icmpP (t' := 17) (pc' := 11) rfl rfl rfl (fun (c : ¬ (1 : Int32) = 1) => absurd c (by decide)) (fun _ => ?_)
  refine go_s (pc' := 12) rfl rfl rfl rfl ?_
  refine go_sget (pc' := 13) (v := .ref 2) hS rfl rfl rfl (by decide) rfl rfl ?_
  refine go_sget (pc' := 14) (v := .ref 6) hS rfl rfl rfl (by decide) rfl rfl ?_
  refine go_s (pc' := 15) rfl rfl rfl rfl ?_
  refine go_sald (pc' := 16) (q := 0) (v := .int (I 3 0)) hS rfl rfl rfl rfl (by decide) rfl rfl ?_
  refine go_s (pc' := 22) rfl rfl rfl rfl ?_
  refine go_ret rfl (if_pos hb) ?_
  exact ⟨rfl, rfl⟩
theorem ct_ip_1_1 {w : Nat → Bool} {d : Nat} {h : am_Hp} (hd : 2 ≤ d) : am_Ev (am_prog w) d 97 [.int 1, .int 1] h (fun r h' => r = some (.int 1) ∧ h' = h) := by
  obtain ⟨d, rfl⟩ : ∃ e, d = e + 1 := ⟨d - 1, by omega⟩
  refine ev_go rfl (Nat.le_of_ble_eq_true rfl) rfl ?_
  refine go_s (pc' := 1) rfl rfl rfl rfl ?_
  refine go_tsw (t' := 6) rfl (Or.inr ⟨by decide, rfl⟩) rfl ?_
  refine go_s (pc' := 7) rfl rfl rfl rfl ?_
  refine go_s (pc' := 8) (st' := [.int 2, .int 1]) rfl rfl rfl rfl ?_
  refine go_callS (pc' := 9) rfl rfl rfl (Nat.le_of_ble_eq_true rfl) rfl rfl rfl (ct_within_t (q := 1) (n := 2) (by decide) (by decide) (by omega)) (fun r h1 q2 => ?_)
  obtain ⟨rfl, rfl⟩ := q2
  refine go_ret rfl rfl ?_
  exact ⟨rfl, rfl⟩
theorem ct_iu_1_1 {w : Nat → Bool} {d : Nat} {h : am_Hp} {I : sm_I} {X : sm_X} (hS : sm tbc h I X) (hb : I 3 1 = 0 ∨ I 3 1 = 1) (hd : 1 ≤ d) : am_Ev (am_prog w) d 98 [.ref 1, .int 1, .int 1] h (fun r h' => r = some (.int (I 3 1)) ∧ h' = h) := by
  obtain ⟨d, rfl⟩ : ∃ e, d = e + 1 := ⟨d - 1, by omega⟩
  refine ev_go rfl (Nat.le_of_ble_eq_true rfl) rfl ?_
  refine go_s (pc' := 1) rfl rfl rfl rfl ?_
  refine go_ifP (t' := 8) (pc' := 2) rfl rfl rfl (fun _ => ?_) (fun (c : ¬ (¬ (1 : Int32) = 0)) => absurd (by decide) c)
  refine go_s (pc' := 9) rfl rfl rfl rfl ?_
  refine go_s (pc' := 10) (st' := [.int 1, .int 1]) rfl rfl rfl rfl ?_
  refine go_icmpP (t' := 17) (pc' := 11) rfl rfl rfl (fun (c : ¬ (1 : Int32) = 1) => absurd c (by decide)) (fun _ => ?_)
  refine go_s (pc' := 12) rfl rfl rfl rfl ?_
  refine go_sget (pc' := 13) (v := .ref 2) hS rfl rfl rfl (by decide) rfl rfl ?_
  refine go_sget (pc' := 14) (v := .ref 6) hS rfl rfl rfl (by decide) rfl rfl ?_
  refine go_s (pc' := 15) rfl rfl rfl rfl ?_
  refine go_sald (pc' := 16) (q := 1) (v := .int (I 3 1)) hS rfl rfl rfl rfl (by decide) rfl rfl ?_
  refine go_s (pc' := 22) rfl rfl rfl rfl ?_
  refine go_ret rfl (if_pos hb) ?_
  exact ⟨rfl, rfl⟩
theorem ct_ip_1_f {w : Nat → Bool} {d : Nat} {h : am_Hp} {a : Int32} (hn : a < 0 ∨ nI 2 ≤ a) (hd : 2 ≤ d) : am_Ev (am_prog w) d 97 [.int 1, .int a] h (fun r h' => r = some (.int 0) ∧ h' = h) := by
  obtain ⟨d, rfl⟩ : ∃ e, d = e + 1 := ⟨d - 1, by omega⟩
  refine ev_go rfl (Nat.le_of_ble_eq_true rfl) rfl ?_
  refine go_s (pc' := 1) rfl rfl rfl rfl ?_
  refine go_tsw (t' := 6) rfl (Or.inr ⟨by decide, rfl⟩) rfl ?_
  refine go_s (pc' := 7) rfl rfl rfl rfl ?_
  refine go_s (pc' := 8) (st' := [.int 2, .int a]) rfl rfl rfl rfl ?_
  refine go_callS (pc' := 9) rfl rfl rfl (Nat.le_of_ble_eq_true rfl) rfl rfl rfl (ct_within_f (a := a) (n := 2) hn (by omega)) (fun r h1 q2 => ?_)
  obtain ⟨rfl, rfl⟩ := q2
  refine go_ret rfl rfl ?_
  exact ⟨rfl, rfl⟩
theorem ct_ip_2_0 {w : Nat → Bool} {d : Nat} {h : am_Hp} (hd : 2 ≤ d) : am_Ev (am_prog w) d 97 [.int 2, .int 0] h (fun r h' => r = some (.int 1) ∧ h' = h) := by
  obtain ⟨d, rfl⟩ : ∃ e, d = e + 1 := ⟨d - 1, by omega⟩
  refine ev_go rfl (Nat.le_of_ble_eq_true rfl) rfl ?_
  refine go_s (pc' := 1) rfl rfl rfl rfl ?_
  refine go_tsw (t' := 10) rfl (Or.inr ⟨by decide, rfl⟩) rfl ?_
  refine go_s (pc' := 11) rfl rfl rfl rfl ?_
  refine go_s (pc' := 12) (st' := [.int 2, .int 0]) rfl rfl rfl rfl ?_
  refine go_callS (pc' := 13) rfl rfl rfl (Nat.le_of_ble_eq_true rfl) rfl rfl rfl (ct_within_t (q := 0) (n := 2) (by decide) (by decide) (by omega)) (fun r h1 q2 => ?_)
  obtain ⟨rfl, rfl⟩ := q2
  refine go_ret rfl rfl ?_
  exact ⟨rfl, rfl⟩
theorem ct_iu_2_0 {w : Nat → Bool} {d : Nat} {h : am_Hp} {I : sm_I} {X : sm_X} (hS : sm tbc h I X) (hb : I 4 0 = 0 ∨ I 4 0 = 1) (hd : 1 ≤ d) : am_Ev (am_prog w) d 98 [.ref 1, .int 2, .int 0] h (fun r h' => r = some (.int (I 4 0)) ∧ h' = h) := by
  obtain ⟨d, rfl⟩ : ∃ e, d = e + 1 := ⟨d - 1, by omega⟩
  refine ev_go rfl (Nat.le_of_ble_eq_true rfl) rfl ?_
  refine go_s (pc' := 1) rfl rfl rfl rfl ?_
  refine go_ifP (t' := 8) (pc' := 2) rfl rfl rfl (fun _ => ?_) (fun (c : ¬ (¬ (2 : Int32) = 0)) => absurd (by decide) c)
  refine go_s (pc' := 9) rfl rfl rfl rfl ?_
  refine go_s (pc' := 10) (st' := [.int 1, .int 2]) rfl rfl rfl rfl ?_
  refine go_icmpP (t' := 17) (pc' := 11) rfl rfl rfl (fun _ => ?_) (fun (c : ¬ (¬ (2 : Int32) = 1)) => absurd (by decide) c)
  refine go_s (pc' := 18) rfl rfl rfl rfl ?_
  refine go_sget (pc' := 19) (v := .ref 24) hS rfl rfl rfl (by decide) rfl rfl ?_
  refine go_sget (pc' := 20) (v := .ref 25) hS rfl rfl rfl (by decide) rfl rfl ?_
  refine go_s (pc' := 21) rfl rfl rfl rfl ?_
  refine go_sald (pc' := 22) (q := 0) (v := .int (I 4 0)) hS rfl rfl rfl rfl (by decide) rfl rfl ?_
  refine go_ret rfl (if_pos hb) ?_
  exact ⟨rfl, rfl⟩
theorem ct_ip_2_1 {w : Nat → Bool} {d : Nat} {h : am_Hp} (hd : 2 ≤ d) : am_Ev (am_prog w) d 97 [.int 2, .int 1] h (fun r h' => r = some (.int 1) ∧ h' = h) := by
  obtain ⟨d, rfl⟩ : ∃ e, d = e + 1 := ⟨d - 1, by omega⟩
  refine ev_go rfl (Nat.le_of_ble_eq_true rfl) rfl ?_
  refine go_s (pc' := 1) rfl rfl rfl rfl ?_
  refine go_tsw (t' := 10) rfl (Or.inr ⟨by decide, rfl⟩) rfl ?_
  refine go_s (pc' := 11) rfl rfl rfl rfl ?_
  refine go_s (pc' := 12) (st' := [.int 2, .int 1]) rfl rfl rfl rfl ?_
  refine go_callS (pc' := 13) rfl rfl rfl (Nat.le_of_ble_eq_true rfl) rfl rfl rfl (ct_within_t (q := 1) (n := 2) (by decide) (by decide) (by omega)) (fun r h1 q2 => ?_)
  obtain ⟨rfl, rfl⟩ := q2
  refine go_ret rfl rfl ?_
  exact ⟨rfl, rfl⟩
theorem ct_iu_2_1 {w : Nat → Bool} {d : Nat} {h : am_Hp} {I : sm_I} {X : sm_X} (hS : sm tbc h I X) (hb : I 4 1 = 0 ∨ I 4 1 = 1) (hd : 1 ≤ d) : am_Ev (am_prog w) d 98 [.ref 1, .int 2, .int 1] h (fun r h' => r = some (.int (I 4 1)) ∧ h' = h) := by
  obtain ⟨d, rfl⟩ : ∃ e, d = e + 1 := ⟨d - 1, by omega⟩
  refine ev_go rfl (Nat.le_of_ble_eq_true rfl) rfl ?_
  refine go_s (pc' := 1) rfl rfl rfl rfl ?_
  refine go_ifP (t' := 8) (pc' := 2) rfl rfl rfl (fun _ => ?_) (fun (c : ¬ (¬ (2 : Int32) = 0)) => absurd (by decide) c)
  refine go_s (pc' := 9) rfl rfl rfl rfl ?_
  refine go_s (pc' := 10) (st' := [.int 1, .int 2]) rfl rfl rfl rfl ?_
  refine go_icmpP (t' := 17) (pc' := 11) rfl rfl rfl (fun _ => ?_) (fun (c : ¬ (¬ (2 : Int32) = 1)) => absurd (by decide) c)
  refine go_s (pc' := 18) rfl rfl rfl rfl ?_
  refine go_sget (pc' := 19) (v := .ref 24) hS rfl rfl rfl (by decide) rfl rfl ?_
  refine go_sget (pc' := 20) (v := .ref 25) hS rfl rfl rfl (by decide) rfl rfl ?_
  refine go_s (pc' := 21) rfl rfl rfl rfl ?_
  refine go_sald (pc' := 22) (q := 1) (v := .int (I 4 1)) hS rfl rfl rfl rfl (by decide) rfl rfl ?_
  refine go_ret rfl (if_pos hb) ?_
  exact ⟨rfl, rfl⟩
theorem ct_ip_2_f {w : Nat → Bool} {d : Nat} {h : am_Hp} {a : Int32} (hn : a < 0 ∨ nI 2 ≤ a) (hd : 2 ≤ d) : am_Ev (am_prog w) d 97 [.int 2, .int a] h (fun r h' => r = some (.int 0) ∧ h' = h) := by
  obtain ⟨d, rfl⟩ : ∃ e, d = e + 1 := ⟨d - 1, by omega⟩
  refine ev_go rfl (Nat.le_of_ble_eq_true rfl) rfl ?_
  refine go_s (pc' := 1) rfl rfl rfl rfl ?_
  refine go_tsw (t' := 10) rfl (Or.inr ⟨by decide, rfl⟩) rfl ?_
  refine go_s (pc' := 11) rfl rfl rfl rfl ?_
  refine go_s (pc' := 12) (st' := [.int 2, .int a]) rfl rfl rfl rfl ?_
  refine go_callS (pc' := 13) rfl rfl rfl (Nat.le_of_ble_eq_true rfl) rfl rfl rfl (ct_within_f (a := a) (n := 2) hn (by omega)) (fun r h1 q2 => ?_)
  obtain ⟨rfl, rfl⟩ := q2
  refine go_ret rfl rfl ?_
  exact ⟨rfl, rfl⟩
theorem ct_ip_n {w : Nat → Bool} {d : Nat} {h : am_Hp} {x a : Int32} (x0 : ¬ x = 0) (x1 : ¬ x = 1) (x2 : ¬ x = 2) (hd : 2 ≤ d) : am_Ev (am_prog w) d 97 [.int x, .int a] h (fun r h' => r = some (.int 0) ∧ h' = h) := by
  obtain ⟨d, rfl⟩ : ∃ e, d = e + 1 := ⟨d - 1, by omega⟩
  refine ev_go rfl (Nat.le_of_ble_eq_true rfl) rfl ?_
  refine go_s (pc' := 1) rfl rfl rfl rfl ?_
  refine go_tsw (t' := 14) rfl (Or.inl ⟨tsw_0_2 x0 x1 x2, rfl⟩) rfl ?_
  refine go_s (pc' := 15) (st' := [.int 0]) rfl rfl rfl rfl ?_
  refine go_ret rfl rfl ?_
  exact ⟨rfl, rfl⟩
theorem ca_fl_f0 {w : Nat → Bool} {d : Nat} {h : am_Hp} {m0 : mg} {B : Nat} {I : sm_I} {Q : mQ} {Z : mZ} (hC : CA w 32 m0 B h (I, Q, Z)) (hB2 : B < 2 ^ 26) {a : Int32} (hn : a < 0 ∨ nI 4 ≤ a) (hd : 3 ≤ d) : am_Ev (am_prog w) d 96 [.ref 1, .int 0, .int a] h (fun r h' => r = some (.int 0) ∧ h' = h) := by
  obtain ⟨X, ow, sb, hS, hD, hB, hQ⟩ := hC
  change sm tbc h I X at hS
  change CD w 32 m0 h I Q Z X ow sb at hD
  change co h I ≤ B at hB
  change ∀ l, l < 16 → (Q l).length ≤ h.length at hQ
  have hW := hD.1.1
  have hWn : ∀ a, List.length h ≤ a → w a = true := fun a ha => (hD.1.2.1 a ha).1
  have hF1 := fr_refl tbc h
  have hln : 62 ≤ List.length h := sm_len hS
  obtain ⟨d, rfl⟩ : ∃ e, d = e + 1 := ⟨d - 1, by omega⟩
  refine ev_go rfl (Nat.le_of_ble_eq_true rfl) rfl ?_
  refine go_s (pc' := 1) rfl rfl rfl rfl ?_
  refine go_s (pc' := 2) rfl rfl rfl rfl ?_
  refine go_callS (pc' := 3) rfl rfl rfl (Nat.le_of_ble_eq_true rfl) rfl rfl rfl (ct_ip_0_f hn (by omega)) (fun r h2 q3 => ?_)
  obtain ⟨rfl, rfl⟩ := q3
  refine go_ifP (t' := 9) (pc' := 4) rfl rfl rfl (fun _ => ?_) (fun (c : ¬ ((0 : Int32) = 0)) => absurd (by decide) c)
  refine go_s (pc' := 10) (st' := [.int 0]) rfl rfl rfl rfl ?_
  refine go_ret rfl rfl ?_
  exact ⟨rfl, rfl⟩
theorem ca_fl_f1 {w : Nat → Bool} {d : Nat} {h : am_Hp} {m0 : mg} {B : Nat} {I : sm_I} {Q : mQ} {Z : mZ} (hC : CA w 32 m0 B h (I, Q, Z)) (hB2 : B < 2 ^ 26) {a : Int32} (hn : a < 0 ∨ nI 2 ≤ a) (hd : 3 ≤ d) : am_Ev (am_prog w) d 96 [.ref 1, .int 1, .int a] h (fun r h' => r = some (.int 0) ∧ h' = h) := by
  obtain ⟨X, ow, sb, hS, hD, hB, hQ⟩ := hC
  change sm tbc h I X at hS
  change CD w 32 m0 h I Q Z X ow sb at hD
  change co h I ≤ B at hB
  change ∀ l, l < 16 → (Q l).length ≤ h.length at hQ
  have hW := hD.1.1
  have hWn : ∀ a, List.length h ≤ a → w a = true := fun a ha => (hD.1.2.1 a ha).1
  have hF1 := fr_refl tbc h
  have hln : 62 ≤ List.length h := sm_len hS
  obtain ⟨d, rfl⟩ : ∃ e, d = e + 1 := ⟨d - 1, by omega⟩
  refine ev_go rfl (Nat.le_of_ble_eq_true rfl) rfl ?_
  refine go_s (pc' := 1) rfl rfl rfl rfl ?_
  refine go_s (pc' := 2) rfl rfl rfl rfl ?_
  refine go_callS (pc' := 3) rfl rfl rfl (Nat.le_of_ble_eq_true rfl) rfl rfl rfl (ct_ip_1_f hn (by omega)) (fun r h2 q3 => ?_)
  obtain ⟨rfl, rfl⟩ := q3
  refine go_ifP (t' := 9) (pc' := 4) rfl rfl rfl (fun _ => ?_) (fun (c : ¬ ((0 : Int32) = 0)) => absurd (by decide) c)
  refine go_s (pc' := 10) (st' := [.int 0]) rfl rfl rfl rfl ?_
  refine go_ret rfl rfl ?_
  exact ⟨rfl, rfl⟩
theorem ca_fl_f2 {w : Nat → Bool} {d : Nat} {h : am_Hp} {m0 : mg} {B : Nat} {I : sm_I} {Q : mQ} {Z : mZ} (hC : CA w 32 m0 B h (I, Q, Z)) (hB2 : B < 2 ^ 26) {a : Int32} (hn : a < 0 ∨ nI 2 ≤ a) (hd : 3 ≤ d) : am_Ev (am_prog w) d 96 [.ref 1, .int 2, .int a] h (fun r h' => r = some (.int 0) ∧ h' = h) := by
  obtain ⟨X, ow, sb, hS, hD, hB, hQ⟩ := hC
  change sm tbc h I X at hS
  change CD w 32 m0 h I Q Z X ow sb at hD
  change co h I ≤ B at hB
  change ∀ l, l < 16 → (Q l).length ≤ h.length at hQ
  have hW := hD.1.1
  have hWn : ∀ a, List.length h ≤ a → w a = true := fun a ha => (hD.1.2.1 a ha).1
  have hF1 := fr_refl tbc h
  have hln : 62 ≤ List.length h := sm_len hS
  obtain ⟨d, rfl⟩ : ∃ e, d = e + 1 := ⟨d - 1, by omega⟩
  refine ev_go rfl (Nat.le_of_ble_eq_true rfl) rfl ?_
  refine go_s (pc' := 1) rfl rfl rfl rfl ?_
  refine go_s (pc' := 2) rfl rfl rfl rfl ?_
  refine go_callS (pc' := 3) rfl rfl rfl (Nat.le_of_ble_eq_true rfl) rfl rfl rfl (ct_ip_2_f hn (by omega)) (fun r h2 q3 => ?_)
  obtain ⟨rfl, rfl⟩ := q3
  refine go_ifP (t' := 9) (pc' := 4) rfl rfl rfl (fun _ => ?_) (fun (c : ¬ ((0 : Int32) = 0)) => absurd (by decide) c)
  refine go_s (pc' := 10) (st' := [.int 0]) rfl rfl rfl rfl ?_
  refine go_ret rfl rfl ?_
  exact ⟨rfl, rfl⟩
theorem ca_fl_fn {w : Nat → Bool} {d : Nat} {h : am_Hp} {m0 : mg} {B : Nat} {I : sm_I} {Q : mQ} {Z : mZ} (hC : CA w 32 m0 B h (I, Q, Z)) (hB2 : B < 2 ^ 26) {x a : Int32} (x0 : ¬ x = 0) (x1 : ¬ x = 1) (x2 : ¬ x = 2) (hd : 3 ≤ d) : am_Ev (am_prog w) d 96 [.ref 1, .int x, .int a] h (fun r h' => r = some (.int 0) ∧ h' = h) := by
  obtain ⟨X, ow, sb, hS, hD, hB, hQ⟩ := hC
  change sm tbc h I X at hS
  change CD w 32 m0 h I Q Z X ow sb at hD
  change co h I ≤ B at hB
  change ∀ l, l < 16 → (Q l).length ≤ h.length at hQ
  have hW := hD.1.1
  have hWn : ∀ a, List.length h ≤ a → w a = true := fun a ha => (hD.1.2.1 a ha).1
  have hF1 := fr_refl tbc h
  have hln : 62 ≤ List.length h := sm_len hS
  obtain ⟨d, rfl⟩ : ∃ e, d = e + 1 := ⟨d - 1, by omega⟩
  refine ev_go rfl (Nat.le_of_ble_eq_true rfl) rfl ?_
  refine go_s (pc' := 1) rfl rfl rfl rfl ?_
  refine go_s (pc' := 2) rfl rfl rfl rfl ?_
  refine go_callS (pc' := 3) rfl rfl rfl (Nat.le_of_ble_eq_true rfl) rfl rfl rfl (ct_ip_n x0 x1 x2 (by omega)) (fun r h2 q3 => ?_)
  obtain ⟨rfl, rfl⟩ := q3
  refine go_ifP (t' := 9) (pc' := 4) rfl rfl rfl (fun _ => ?_) (fun (c : ¬ ((0 : Int32) = 0)) => absurd (by decide) c)
  refine go_s (pc' := 10) (st' := [.int 0]) rfl rfl rfl rfl ?_
  refine go_ret rfl rfl ?_
  exact ⟨rfl, rfl⟩
theorem ca_rr_f0 {w : Nat → Bool} {d : Nat} {h : am_Hp} {m0 : mg} {B : Nat} {I : sm_I} {Q : mQ} {Z : mZ} (hC : CA w 32 m0 B h (I, Q, Z)) (hB2 : B < 2 ^ 26) {a : Int32} (hn : a < 0 ∨ nI 4 ≤ a) (hd : 3 ≤ d) : am_Ev (am_prog w) d 106 [.ref 1, .int 0, .int a] h (fun r h' => r = some (.int 0) ∧ h' = h) := by
  obtain ⟨X, ow, sb, hS, hD, hB, hQ⟩ := hC
  change sm tbc h I X at hS
  change CD w 32 m0 h I Q Z X ow sb at hD
  change co h I ≤ B at hB
  change ∀ l, l < 16 → (Q l).length ≤ h.length at hQ
  have hW := hD.1.1
  have hWn : ∀ a, List.length h ≤ a → w a = true := fun a ha => (hD.1.2.1 a ha).1
  have hF1 := fr_refl tbc h
  have hln : 62 ≤ List.length h := sm_len hS
  obtain ⟨d, rfl⟩ : ∃ e, d = e + 1 := ⟨d - 1, by omega⟩
  refine ev_go rfl (Nat.le_of_ble_eq_true rfl) rfl ?_
  refine go_s (pc' := 1) rfl rfl rfl rfl ?_
  refine go_s (pc' := 2) rfl rfl rfl rfl ?_
  refine go_callS (pc' := 3) rfl rfl rfl (Nat.le_of_ble_eq_true rfl) rfl rfl rfl (ct_ip_0_f hn (by omega)) (fun r h2 q3 => ?_)
  obtain ⟨rfl, rfl⟩ := q3
  refine go_ifP (t' := 9) (pc' := 4) rfl rfl rfl (fun _ => ?_) (fun (c : ¬ ((0 : Int32) = 0)) => absurd (by decide) c)
  refine go_s (pc' := 10) (st' := [.int 0]) rfl rfl rfl rfl ?_
  refine go_ret rfl rfl ?_
  exact ⟨rfl, rfl⟩
theorem ca_rr_f1 {w : Nat → Bool} {d : Nat} {h : am_Hp} {m0 : mg} {B : Nat} {I : sm_I} {Q : mQ} {Z : mZ} (hC : CA w 32 m0 B h (I, Q, Z)) (hB2 : B < 2 ^ 26) {a : Int32} (hn : a < 0 ∨ nI 2 ≤ a) (hd : 3 ≤ d) : am_Ev (am_prog w) d 106 [.ref 1, .int 1, .int a] h (fun r h' => r = some (.int 0) ∧ h' = h) := by
  obtain ⟨X, ow, sb, hS, hD, hB, hQ⟩ := hC
  change sm tbc h I X at hS
  change CD w 32 m0 h I Q Z X ow sb at hD
  change co h I ≤ B at hB
  change ∀ l, l < 16 → (Q l).length ≤ h.length at hQ
  have hW := hD.1.1
  have hWn : ∀ a, List.length h ≤ a → w a = true := fun a ha => (hD.1.2.1 a ha).1
  have hF1 := fr_refl tbc h
  have hln : 62 ≤ List.length h := sm_len hS
  obtain ⟨d, rfl⟩ : ∃ e, d = e + 1 := ⟨d - 1, by omega⟩
  refine ev_go rfl (Nat.le_of_ble_eq_true rfl) rfl ?_
  refine go_s (pc' := 1) rfl rfl rfl rfl ?_
  refine go_s (pc' := 2) rfl rfl rfl rfl ?_
  refine go_callS (pc' := 3) rfl rfl rfl (Nat.le_of_ble_eq_true rfl) rfl rfl rfl (ct_ip_1_f hn (by omega)) (fun r h2 q3 => ?_)
  obtain ⟨rfl, rfl⟩ := q3
  refine go_ifP (t' := 9) (pc' := 4) rfl rfl rfl (fun _ => ?_) (fun (c : ¬ ((0 : Int32) = 0)) => absurd (by decide) c)
  refine go_s (pc' := 10) (st' := [.int 0]) rfl rfl rfl rfl ?_
  refine go_ret rfl rfl ?_
  exact ⟨rfl, rfl⟩
theorem ca_rr_f2 {w : Nat → Bool} {d : Nat} {h : am_Hp} {m0 : mg} {B : Nat} {I : sm_I} {Q : mQ} {Z : mZ} (hC : CA w 32 m0 B h (I, Q, Z)) (hB2 : B < 2 ^ 26) {a : Int32} (hn : a < 0 ∨ nI 2 ≤ a) (hd : 3 ≤ d) : am_Ev (am_prog w) d 106 [.ref 1, .int 2, .int a] h (fun r h' => r = some (.int 0) ∧ h' = h) := by
  obtain ⟨X, ow, sb, hS, hD, hB, hQ⟩ := hC
  change sm tbc h I X at hS
  change CD w 32 m0 h I Q Z X ow sb at hD
  change co h I ≤ B at hB
  change ∀ l, l < 16 → (Q l).length ≤ h.length at hQ
  have hW := hD.1.1
  have hWn : ∀ a, List.length h ≤ a → w a = true := fun a ha => (hD.1.2.1 a ha).1
  have hF1 := fr_refl tbc h
  have hln : 62 ≤ List.length h := sm_len hS
  obtain ⟨d, rfl⟩ : ∃ e, d = e + 1 := ⟨d - 1, by omega⟩
  refine ev_go rfl (Nat.le_of_ble_eq_true rfl) rfl ?_
  refine go_s (pc' := 1) rfl rfl rfl rfl ?_
  refine go_s (pc' := 2) rfl rfl rfl rfl ?_
  refine go_callS (pc' := 3) rfl rfl rfl (Nat.le_of_ble_eq_true rfl) rfl rfl rfl (ct_ip_2_f hn (by omega)) (fun r h2 q3 => ?_)
  obtain ⟨rfl, rfl⟩ := q3
  refine go_ifP (t' := 9) (pc' := 4) rfl rfl rfl (fun _ => ?_) (fun (c : ¬ ((0 : Int32) = 0)) => absurd (by decide) c)
  refine go_s (pc' := 10) (st' := [.int 0]) rfl rfl rfl rfl ?_
  refine go_ret rfl rfl ?_
  exact ⟨rfl, rfl⟩
theorem ca_rr_fn {w : Nat → Bool} {d : Nat} {h : am_Hp} {m0 : mg} {B : Nat} {I : sm_I} {Q : mQ} {Z : mZ} (hC : CA w 32 m0 B h (I, Q, Z)) (hB2 : B < 2 ^ 26) {x a : Int32} (x0 : ¬ x = 0) (x1 : ¬ x = 1) (x2 : ¬ x = 2) (hd : 3 ≤ d) : am_Ev (am_prog w) d 106 [.ref 1, .int x, .int a] h (fun r h' => r = some (.int 0) ∧ h' = h) := by
  obtain ⟨X, ow, sb, hS, hD, hB, hQ⟩ := hC
  change sm tbc h I X at hS
  change CD w 32 m0 h I Q Z X ow sb at hD
  change co h I ≤ B at hB
  change ∀ l, l < 16 → (Q l).length ≤ h.length at hQ
  have hW := hD.1.1
  have hWn : ∀ a, List.length h ≤ a → w a = true := fun a ha => (hD.1.2.1 a ha).1
  have hF1 := fr_refl tbc h
  have hln : 62 ≤ List.length h := sm_len hS
  obtain ⟨d, rfl⟩ : ∃ e, d = e + 1 := ⟨d - 1, by omega⟩
  refine ev_go rfl (Nat.le_of_ble_eq_true rfl) rfl ?_
  refine go_s (pc' := 1) rfl rfl rfl rfl ?_
  refine go_s (pc' := 2) rfl rfl rfl rfl ?_
  refine go_callS (pc' := 3) rfl rfl rfl (Nat.le_of_ble_eq_true rfl) rfl rfl rfl (ct_ip_n x0 x1 x2 (by omega)) (fun r h2 q3 => ?_)
  obtain ⟨rfl, rfl⟩ := q3
  refine go_ifP (t' := 9) (pc' := 4) rfl rfl rfl (fun _ => ?_) (fun (c : ¬ ((0 : Int32) = 0)) => absurd (by decide) c)
  refine go_s (pc' := 10) (st' := [.int 0]) rfl rfl rfl rfl ?_
  refine go_ret rfl rfl ?_
  exact ⟨rfl, rfl⟩
def mfl0 (p : Nat) (M : mM) : Int32 × mM := if M.1 0 p = 0 then (0, M) else (1, mfp p M)
def mfl1 (b : Nat) (M : mM) : Int32 × mM := if M.1 3 b = 0 then (0, M) else (1, (mbsI M.1 b 16, M.2))
def mfl2 (d : Nat) (M : mM) : Int32 × mM := if M.1 4 d = 0 then (0, M) else (1, mset 10 (mdsI M.1 d, M.2))
def mrr1 (b : Nat) (M : mM) : Int32 × mM := if M.1 3 b = 0 then (1, (uI M.1 3 b 1, M.2)) else (0, M)
def mrr2 (d : Nat) (M : mM) : Int32 × mM := if M.1 4 d = 0 then (1, (uI (uI M.1 4 d 1) 6 d 0, M.2)) else (0, M)
theorem ca_fl_0_0 {w : Nat → Bool} {d : Nat} {h : am_Hp} {m0 : mg} {B : Nat} {I : sm_I} {Q : mQ} {Z : mZ} (hC : CA w 32 m0 B h (I, Q, Z)) (hB2 : B < 2 ^ 26) (hbl : I 0 0 = 0 ∨ I 0 0 = 1) (hd : 5 ≤ d) : am_Ev (am_prog w) d 96 [.ref 1, .int 0, .int 0] h (fun r h' => r = some (.int (mfl0 0 (I, Q, Z)).1) ∧ CA w 32 m0 (B + 400) h' (mfl0 0 (I, Q, Z)).2) := by
  obtain ⟨X, ow, sb, hS, hD, hB, hQ⟩ := hC
  change sm tbc h I X at hS
  change CD w 32 m0 h I Q Z X ow sb at hD
  change co h I ≤ B at hB
  change ∀ l, l < 16 → (Q l).length ≤ h.length at hQ
  have hW := hD.1.1
  have hWn : ∀ a, List.length h ≤ a → w a = true := fun a ha => (hD.1.2.1 a ha).1
  have hF1 := fr_refl tbc h
  have hln : 62 ≤ List.length h := sm_len hS
  obtain ⟨d, rfl⟩ : ∃ e, d = e + 1 := ⟨d - 1, by omega⟩
  refine ev_go rfl (Nat.le_of_ble_eq_true rfl) rfl ?_
  refine go_s (pc' := 1) rfl rfl rfl rfl ?_
  refine go_s (pc' := 2) rfl rfl rfl rfl ?_
  refine go_callS (pc' := 3) rfl rfl rfl (Nat.le_of_ble_eq_true rfl) rfl rfl rfl (ct_ip_0_0 (by omega)) (fun r h2 q3 => ?_)
  obtain ⟨rfl, rfl⟩ := q3
  refine go_ifP (t' := 9) (pc' := 4) rfl rfl rfl (fun (c : (1 : Int32) = 0) => absurd c (by decide)) (fun _ => ?_)
  refine go_s (pc' := 5) rfl rfl rfl rfl ?_
  refine go_s (pc' := 6) rfl rfl rfl rfl ?_
  refine go_s (pc' := 7) rfl rfl rfl rfl ?_
  refine go_callV (pc' := 8) rfl rfl rfl (Nat.le_of_ble_eq_true rfl) rfl (sm_o hS rfl) rfl rfl rfl (ct_iu_0_0 hS hbl (by omega)) (fun r h4 q5 => ?_)
  obtain ⟨rfl, rfl⟩ := q5
  refine go_ifP (t' := 11) (pc' := 9) rfl rfl rfl (fun (c6 : ¬ (I 0 0) = 0) => ?_) (fun (c6' : ¬ ¬ (I 0 0) = 0) => ?_)
  · skip
    refine go_s (pc' := 12) rfl rfl rfl rfl ?_
    refine go_ifP (t' := 17) (pc' := 13) rfl rfl rfl (fun (c : ¬ (0 : Int32) = 0) => absurd c (by decide)) (fun _ => ?_)
    refine go_s (pc' := 14) rfl rfl rfl rfl ?_
    refine go_s (pc' := 15) rfl rfl rfl rfl ?_
    have hC7 : CA w 32 m0 B h4 (I, Q, Z) := ⟨X, ow, sb, hS, hD, hB, hQ⟩
    refine go_callV (pc' := 16) rfl rfl rfl (Nat.le_of_ble_eq_true rfl) rfl (sm_o hS rfl) rfl rfl rfl (cm_sp_0 hC7 (by omega) (by omega)) (fun r h8 q9 => ?_)
    obtain ⟨rfl, hC10⟩ := q9
    change CA w 32 m0 B h8 (mfp 0 (I, Q, Z)) at hC10
    obtain ⟨M11, eM11⟩ : ∃ y : mM, y = (mfp 0 (I, Q, Z)) := ⟨_, rfl⟩
    rw [← eM11] at hC10
    obtain ⟨I11, Q11, Z11⟩ := M11
    obtain ⟨X12, ow12, sb12, hS12, hD12, hB12, hQ12⟩ := hC10
    have hW := hD12.1.1
    have hWn : ∀ a, List.length h8 ≤ a → w a = true := fun a ha => (hD12.1.2.1 a ha).1
    have hF13 := fr_refl tbc h8
    have hln : 62 ≤ List.length h8 := sm_len hS12
    change CD w 32 m0 h8 I11 Q11 Z11 X12 ow12 sb12 at hD12
    change sm tbc h8 I11 X12 at hS12
    change co h8 I11 ≤ B at hB12
    change ∀ l, l < 16 → (Q11 l).length ≤ List.length h8 at hQ12
    have hW := hD12.1.1
    have hWn : ∀ a, List.length h8 ≤ a → w a = true := fun a ha => (hD12.1.2.1 a ha).1
    have hF14 := fr_refl tbc h8
    have hln : 62 ≤ List.length h8 := sm_len hS12
    refine go_s (pc' := 31) rfl rfl rfl rfl ?_
    refine go_s (pc' := 32) (st' := [.int 1]) rfl rfl rfl rfl ?_
    refine go_ret rfl rfl ?_
    have hms : mfl0 0 (I, Q, Z) = (1, (I11, Q11, Z11)) := by
      unfold mfl0
      rw [if_neg (show ¬ I 0 0 = 0 from c6), ← eM11]
    have hC15 : CA w 32 m0 B h8 (I11, Q11, Z11) := ⟨X12, ow12, sb12, hS12, hD12, hB12, hQ12⟩
    rw [hms]
    exact ⟨rfl, CA_le hC15 (by omega)⟩
  · skip
    have c6 : (I 0 0) = 0 := Decidable.not_not.mp c6'
    refine go_s (pc' := 10) (st' := [.int 0]) rfl rfl rfl rfl ?_
    refine go_ret rfl rfl ?_
    have hms : mfl0 0 (I, Q, Z) = (0, (I, Q, Z)) := if_pos c6
    rw [hms]
    exact ⟨rfl, X, ow, sb, hS, hD, Nat.le_trans hB (by omega), hQ⟩
theorem ca_fl_0_1 {w : Nat → Bool} {d : Nat} {h : am_Hp} {m0 : mg} {B : Nat} {I : sm_I} {Q : mQ} {Z : mZ} (hC : CA w 32 m0 B h (I, Q, Z)) (hB2 : B < 2 ^ 26) (hbl : I 0 1 = 0 ∨ I 0 1 = 1) (hd : 5 ≤ d) : am_Ev (am_prog w) d 96 [.ref 1, .int 0, .int 1] h (fun r h' => r = some (.int (mfl0 1 (I, Q, Z)).1) ∧ CA w 32 m0 (B + 400) h' (mfl0 1 (I, Q, Z)).2) := by
  obtain ⟨X, ow, sb, hS, hD, hB, hQ⟩ := hC
  change sm tbc h I X at hS
  change CD w 32 m0 h I Q Z X ow sb at hD
  change co h I ≤ B at hB
  change ∀ l, l < 16 → (Q l).length ≤ h.length at hQ
  have hW := hD.1.1
  have hWn : ∀ a, List.length h ≤ a → w a = true := fun a ha => (hD.1.2.1 a ha).1
  have hF1 := fr_refl tbc h
  have hln : 62 ≤ List.length h := sm_len hS
  obtain ⟨d, rfl⟩ : ∃ e, d = e + 1 := ⟨d - 1, by omega⟩
  refine ev_go rfl (Nat.le_of_ble_eq_true rfl) rfl ?_
  refine go_s (pc' := 1) rfl rfl rfl rfl ?_
  refine go_s (pc' := 2) rfl rfl rfl rfl ?_
  refine go_callS (pc' := 3) rfl rfl rfl (Nat.le_of_ble_eq_true rfl) rfl rfl rfl (ct_ip_0_1 (by omega)) (fun r h2 q3 => ?_)
  obtain ⟨rfl, rfl⟩ := q3
  refine go_ifP (t' := 9) (pc' := 4) rfl rfl rfl (fun (c : (1 : Int32) = 0) => absurd c (by decide)) (fun _ => ?_)
  refine go_s (pc' := 5) rfl rfl rfl rfl ?_
  refine go_s (pc' := 6) rfl rfl rfl rfl ?_
  refine go_s (pc' := 7) rfl rfl rfl rfl ?_
  refine go_callV (pc' := 8) rfl rfl rfl (Nat.le_of_ble_eq_true rfl) rfl (sm_o hS rfl) rfl rfl rfl (ct_iu_0_1 hS hbl (by omega)) (fun r h4 q5 => ?_)
  obtain ⟨rfl, rfl⟩ := q5
  refine go_ifP (t' := 11) (pc' := 9) rfl rfl rfl (fun (c6 : ¬ (I 0 1) = 0) => ?_) (fun (c6' : ¬ ¬ (I 0 1) = 0) => ?_)
  · skip
    refine go_s (pc' := 12) rfl rfl rfl rfl ?_
    refine go_ifP (t' := 17) (pc' := 13) rfl rfl rfl (fun (c : ¬ (0 : Int32) = 0) => absurd c (by decide)) (fun _ => ?_)
    refine go_s (pc' := 14) rfl rfl rfl rfl ?_
    refine go_s (pc' := 15) rfl rfl rfl rfl ?_
    have hC7 : CA w 32 m0 B h4 (I, Q, Z) := ⟨X, ow, sb, hS, hD, hB, hQ⟩
    refine go_callV (pc' := 16) rfl rfl rfl (Nat.le_of_ble_eq_true rfl) rfl (sm_o hS rfl) rfl rfl rfl (cm_sp_1 hC7 (by omega) (by omega)) (fun r h8 q9 => ?_)
    obtain ⟨rfl, hC10⟩ := q9
    change CA w 32 m0 B h8 (mfp 1 (I, Q, Z)) at hC10
    obtain ⟨M11, eM11⟩ : ∃ y : mM, y = (mfp 1 (I, Q, Z)) := ⟨_, rfl⟩
    rw [← eM11] at hC10
    obtain ⟨I11, Q11, Z11⟩ := M11
    obtain ⟨X12, ow12, sb12, hS12, hD12, hB12, hQ12⟩ := hC10
    have hW := hD12.1.1
    have hWn : ∀ a, List.length h8 ≤ a → w a = true := fun a ha => (hD12.1.2.1 a ha).1
    have hF13 := fr_refl tbc h8
    have hln : 62 ≤ List.length h8 := sm_len hS12
    change CD w 32 m0 h8 I11 Q11 Z11 X12 ow12 sb12 at hD12
    change sm tbc h8 I11 X12 at hS12
    change co h8 I11 ≤ B at hB12
    change ∀ l, l < 16 → (Q11 l).length ≤ List.length h8 at hQ12
    have hW := hD12.1.1
    have hWn : ∀ a, List.length h8 ≤ a → w a = true := fun a ha => (hD12.1.2.1 a ha).1
    have hF14 := fr_refl tbc h8
    have hln : 62 ≤ List.length h8 := sm_len hS12
    refine go_s (pc' := 31) rfl rfl rfl rfl ?_
    refine go_s (pc' := 32) (st' := [.int 1]) rfl rfl rfl rfl ?_
    refine go_ret rfl rfl ?_
    have hms : mfl0 1 (I, Q, Z) = (1, (I11, Q11, Z11)) := by
      unfold mfl0
      rw [if_neg (show ¬ I 0 1 = 0 from c6), ← eM11]
    have hC15 : CA w 32 m0 B h8 (I11, Q11, Z11) := ⟨X12, ow12, sb12, hS12, hD12, hB12, hQ12⟩
    rw [hms]
    exact ⟨rfl, CA_le hC15 (by omega)⟩
  · skip
    have c6 : (I 0 1) = 0 := Decidable.not_not.mp c6'
    refine go_s (pc' := 10) (st' := [.int 0]) rfl rfl rfl rfl ?_
    refine go_ret rfl rfl ?_
    have hms : mfl0 1 (I, Q, Z) = (0, (I, Q, Z)) := if_pos c6
    rw [hms]
    exact ⟨rfl, X, ow, sb, hS, hD, Nat.le_trans hB (by omega), hQ⟩
theorem ca_fl_0_2 {w : Nat → Bool} {d : Nat} {h : am_Hp} {m0 : mg} {B : Nat} {I : sm_I} {Q : mQ} {Z : mZ} (hC : CA w 32 m0 B h (I, Q, Z)) (hB2 : B < 2 ^ 26) (hbl : I 0 2 = 0 ∨ I 0 2 = 1) (hd : 5 ≤ d) : am_Ev (am_prog w) d 96 [.ref 1, .int 0, .int 2] h (fun r h' => r = some (.int (mfl0 2 (I, Q, Z)).1) ∧ CA w 32 m0 (B + 400) h' (mfl0 2 (I, Q, Z)).2) := by
  obtain ⟨X, ow, sb, hS, hD, hB, hQ⟩ := hC
  change sm tbc h I X at hS
  change CD w 32 m0 h I Q Z X ow sb at hD
  change co h I ≤ B at hB
  change ∀ l, l < 16 → (Q l).length ≤ h.length at hQ
  have hW := hD.1.1
  have hWn : ∀ a, List.length h ≤ a → w a = true := fun a ha => (hD.1.2.1 a ha).1
  have hF1 := fr_refl tbc h
  have hln : 62 ≤ List.length h := sm_len hS
  obtain ⟨d, rfl⟩ : ∃ e, d = e + 1 := ⟨d - 1, by omega⟩
  refine ev_go rfl (Nat.le_of_ble_eq_true rfl) rfl ?_
  refine go_s (pc' := 1) rfl rfl rfl rfl ?_
  refine go_s (pc' := 2) rfl rfl rfl rfl ?_
  refine go_callS (pc' := 3) rfl rfl rfl (Nat.le_of_ble_eq_true rfl) rfl rfl rfl (ct_ip_0_2 (by omega)) (fun r h2 q3 => ?_)
  obtain ⟨rfl, rfl⟩ := q3
  refine go_ifP (t' := 9) (pc' := 4) rfl rfl rfl (fun (c : (1 : Int32) = 0) => absurd c (by decide)) (fun _ => ?_)
  refine go_s (pc' := 5) rfl rfl rfl rfl ?_
  refine go_s (pc' := 6) rfl rfl rfl rfl ?_
  refine go_s (pc' := 7) rfl rfl rfl rfl ?_
  refine go_callV (pc' := 8) rfl rfl rfl (Nat.le_of_ble_eq_true rfl) rfl (sm_o hS rfl) rfl rfl rfl (ct_iu_0_2 hS hbl (by omega)) (fun r h4 q5 => ?_)
  obtain ⟨rfl, rfl⟩ := q5
  refine go_ifP (t' := 11) (pc' := 9) rfl rfl rfl (fun (c6 : ¬ (I 0 2) = 0) => ?_) (fun (c6' : ¬ ¬ (I 0 2) = 0) => ?_)
  · skip
    refine go_s (pc' := 12) rfl rfl rfl rfl ?_
    refine go_ifP (t' := 17) (pc' := 13) rfl rfl rfl (fun (c : ¬ (0 : Int32) = 0) => absurd c (by decide)) (fun _ => ?_)
    refine go_s (pc' := 14) rfl rfl rfl rfl ?_
    refine go_s (pc' := 15) rfl rfl rfl rfl ?_
    have hC7 : CA w 32 m0 B h4 (I, Q, Z) := ⟨X, ow, sb, hS, hD, hB, hQ⟩
    refine go_callV (pc' := 16) rfl rfl rfl (Nat.le_of_ble_eq_true rfl) rfl (sm_o hS rfl) rfl rfl rfl (cm_sp_2 hC7 (by omega) (by omega)) (fun r h8 q9 => ?_)
    obtain ⟨rfl, hC10⟩ := q9
    change CA w 32 m0 B h8 (mfp 2 (I, Q, Z)) at hC10
    obtain ⟨M11, eM11⟩ : ∃ y : mM, y = (mfp 2 (I, Q, Z)) := ⟨_, rfl⟩
    rw [← eM11] at hC10
    obtain ⟨I11, Q11, Z11⟩ := M11
    obtain ⟨X12, ow12, sb12, hS12, hD12, hB12, hQ12⟩ := hC10
    have hW := hD12.1.1
    have hWn : ∀ a, List.length h8 ≤ a → w a = true := fun a ha => (hD12.1.2.1 a ha).1
    have hF13 := fr_refl tbc h8
    have hln : 62 ≤ List.length h8 := sm_len hS12
    change CD w 32 m0 h8 I11 Q11 Z11 X12 ow12 sb12 at hD12
    change sm tbc h8 I11 X12 at hS12
    change co h8 I11 ≤ B at hB12
    change ∀ l, l < 16 → (Q11 l).length ≤ List.length h8 at hQ12
    have hW := hD12.1.1
    have hWn : ∀ a, List.length h8 ≤ a → w a = true := fun a ha => (hD12.1.2.1 a ha).1
    have hF14 := fr_refl tbc h8
    have hln : 62 ≤ List.length h8 := sm_len hS12
    refine go_s (pc' := 31) rfl rfl rfl rfl ?_
    refine go_s (pc' := 32) (st' := [.int 1]) rfl rfl rfl rfl ?_
    refine go_ret rfl rfl ?_
    have hms : mfl0 2 (I, Q, Z) = (1, (I11, Q11, Z11)) := by
      unfold mfl0
      rw [if_neg (show ¬ I 0 2 = 0 from c6), ← eM11]
    have hC15 : CA w 32 m0 B h8 (I11, Q11, Z11) := ⟨X12, ow12, sb12, hS12, hD12, hB12, hQ12⟩
    rw [hms]
    exact ⟨rfl, CA_le hC15 (by omega)⟩
  · skip
    have c6 : (I 0 2) = 0 := Decidable.not_not.mp c6'
    refine go_s (pc' := 10) (st' := [.int 0]) rfl rfl rfl rfl ?_
    refine go_ret rfl rfl ?_
    have hms : mfl0 2 (I, Q, Z) = (0, (I, Q, Z)) := if_pos c6
    rw [hms]
    exact ⟨rfl, X, ow, sb, hS, hD, Nat.le_trans hB (by omega), hQ⟩
theorem ca_fl_0_3 {w : Nat → Bool} {d : Nat} {h : am_Hp} {m0 : mg} {B : Nat} {I : sm_I} {Q : mQ} {Z : mZ} (hC : CA w 32 m0 B h (I, Q, Z)) (hB2 : B < 2 ^ 26) (hbl : I 0 3 = 0 ∨ I 0 3 = 1) (hd : 5 ≤ d) : am_Ev (am_prog w) d 96 [.ref 1, .int 0, .int 3] h (fun r h' => r = some (.int (mfl0 3 (I, Q, Z)).1) ∧ CA w 32 m0 (B + 400) h' (mfl0 3 (I, Q, Z)).2) := by
  obtain ⟨X, ow, sb, hS, hD, hB, hQ⟩ := hC
  change sm tbc h I X at hS
  change CD w 32 m0 h I Q Z X ow sb at hD
  change co h I ≤ B at hB
  change ∀ l, l < 16 → (Q l).length ≤ h.length at hQ
  have hW := hD.1.1
  have hWn : ∀ a, List.length h ≤ a → w a = true := fun a ha => (hD.1.2.1 a ha).1
  have hF1 := fr_refl tbc h
  have hln : 62 ≤ List.length h := sm_len hS
  obtain ⟨d, rfl⟩ : ∃ e, d = e + 1 := ⟨d - 1, by omega⟩
  refine ev_go rfl (Nat.le_of_ble_eq_true rfl) rfl ?_
  refine go_s (pc' := 1) rfl rfl rfl rfl ?_
  refine go_s (pc' := 2) rfl rfl rfl rfl ?_
  refine go_callS (pc' := 3) rfl rfl rfl (Nat.le_of_ble_eq_true rfl) rfl rfl rfl (ct_ip_0_3 (by omega)) (fun r h2 q3 => ?_)
  obtain ⟨rfl, rfl⟩ := q3
  refine go_ifP (t' := 9) (pc' := 4) rfl rfl rfl (fun (c : (1 : Int32) = 0) => absurd c (by decide)) (fun _ => ?_)
  refine go_s (pc' := 5) rfl rfl rfl rfl ?_
  refine go_s (pc' := 6) rfl rfl rfl rfl ?_
  refine go_s (pc' := 7) rfl rfl rfl rfl ?_
  refine go_callV (pc' := 8) rfl rfl rfl (Nat.le_of_ble_eq_true rfl) rfl (sm_o hS rfl) rfl rfl rfl (ct_iu_0_3 hS hbl (by omega)) (fun r h4 q5 => ?_)
  obtain ⟨rfl, rfl⟩ := q5
  refine go_ifP (t' := 11) (pc' := 9) rfl rfl rfl (fun (c6 : ¬ (I 0 3) = 0) => ?_) (fun (c6' : ¬ ¬ (I 0 3) = 0) => ?_)
  · skip
    refine go_s (pc' := 12) rfl rfl rfl rfl ?_
    refine go_ifP (t' := 17) (pc' := 13) rfl rfl rfl (fun (c : ¬ (0 : Int32) = 0) => absurd c (by decide)) (fun _ => ?_)
    refine go_s (pc' := 14) rfl rfl rfl rfl ?_
    refine go_s (pc' := 15) rfl rfl rfl rfl ?_
    have hC7 : CA w 32 m0 B h4 (I, Q, Z) := ⟨X, ow, sb, hS, hD, hB, hQ⟩
    refine go_callV (pc' := 16) rfl rfl rfl (Nat.le_of_ble_eq_true rfl) rfl (sm_o hS rfl) rfl rfl rfl (cm_sp_3 hC7 (by omega) (by omega)) (fun r h8 q9 => ?_)
    obtain ⟨rfl, hC10⟩ := q9
    change CA w 32 m0 B h8 (mfp 3 (I, Q, Z)) at hC10
    obtain ⟨M11, eM11⟩ : ∃ y : mM, y = (mfp 3 (I, Q, Z)) := ⟨_, rfl⟩
    rw [← eM11] at hC10
    obtain ⟨I11, Q11, Z11⟩ := M11
    obtain ⟨X12, ow12, sb12, hS12, hD12, hB12, hQ12⟩ := hC10
    have hW := hD12.1.1
    have hWn : ∀ a, List.length h8 ≤ a → w a = true := fun a ha => (hD12.1.2.1 a ha).1
    have hF13 := fr_refl tbc h8
    have hln : 62 ≤ List.length h8 := sm_len hS12
    change CD w 32 m0 h8 I11 Q11 Z11 X12 ow12 sb12 at hD12
    change sm tbc h8 I11 X12 at hS12
    change co h8 I11 ≤ B at hB12
    change ∀ l, l < 16 → (Q11 l).length ≤ List.length h8 at hQ12
    have hW := hD12.1.1
    have hWn : ∀ a, List.length h8 ≤ a → w a = true := fun a ha => (hD12.1.2.1 a ha).1
    have hF14 := fr_refl tbc h8
    have hln : 62 ≤ List.length h8 := sm_len hS12
    refine go_s (pc' := 31) rfl rfl rfl rfl ?_
    refine go_s (pc' := 32) (st' := [.int 1]) rfl rfl rfl rfl ?_
    refine go_ret rfl rfl ?_
    have hms : mfl0 3 (I, Q, Z) = (1, (I11, Q11, Z11)) := by
      unfold mfl0
      rw [if_neg (show ¬ I 0 3 = 0 from c6), ← eM11]
    have hC15 : CA w 32 m0 B h8 (I11, Q11, Z11) := ⟨X12, ow12, sb12, hS12, hD12, hB12, hQ12⟩
    rw [hms]
    exact ⟨rfl, CA_le hC15 (by omega)⟩
  · skip
    have c6 : (I 0 3) = 0 := Decidable.not_not.mp c6'
    refine go_s (pc' := 10) (st' := [.int 0]) rfl rfl rfl rfl ?_
    refine go_ret rfl rfl ?_
    have hms : mfl0 3 (I, Q, Z) = (0, (I, Q, Z)) := if_pos c6
    rw [hms]
    exact ⟨rfl, X, ow, sb, hS, hD, Nat.le_trans hB (by omega), hQ⟩
theorem ca_fl_1_0 {w : Nat → Bool} {d : Nat} {h : am_Hp} {m0 : mg} {B : Nat} {I : sm_I} {Q : mQ} {Z : mZ} (hC : CA w 32 m0 B h (I, Q, Z)) (hB2 : B < 2 ^ 26) (hbl : I 3 0 = 0 ∨ I 3 0 = 1) (hd : 5 ≤ d) : am_Ev (am_prog w) d 96 [.ref 1, .int 1, .int 0] h (fun r h' => r = some (.int (mfl1 0 (I, Q, Z)).1) ∧ CA w 32 m0 (B + 400) h' (mfl1 0 (I, Q, Z)).2) := by
  obtain ⟨X, ow, sb, hS, hD, hB, hQ⟩ := hC
  change sm tbc h I X at hS
  change CD w 32 m0 h I Q Z X ow sb at hD
  change co h I ≤ B at hB
  change ∀ l, l < 16 → (Q l).length ≤ h.length at hQ
  have hW := hD.1.1
  have hWn : ∀ a, List.length h ≤ a → w a = true := fun a ha => (hD.1.2.1 a ha).1
  have hF1 := fr_refl tbc h
  have hln : 62 ≤ List.length h := sm_len hS
  obtain ⟨d, rfl⟩ : ∃ e, d = e + 1 := ⟨d - 1, by omega⟩
  refine ev_go rfl (Nat.le_of_ble_eq_true rfl) rfl ?_
  refine go_s (pc' := 1) rfl rfl rfl rfl ?_
  refine go_s (pc' := 2) rfl rfl rfl rfl ?_
  refine go_callS (pc' := 3) rfl rfl rfl (Nat.le_of_ble_eq_true rfl) rfl rfl rfl (ct_ip_1_0 (by omega)) (fun r h2 q3 => ?_)
  obtain ⟨rfl, rfl⟩ := q3
  refine go_ifP (t' := 9) (pc' := 4) rfl rfl rfl (fun (c : (1 : Int32) = 0) => absurd c (by decide)) (fun _ => ?_)
  refine go_s (pc' := 5) rfl rfl rfl rfl ?_
  refine go_s (pc' := 6) rfl rfl rfl rfl ?_
  refine go_s (pc' := 7) rfl rfl rfl rfl ?_
  refine go_callV (pc' := 8) rfl rfl rfl (Nat.le_of_ble_eq_true rfl) rfl (sm_o hS rfl) rfl rfl rfl (ct_iu_1_0 hS hbl (by omega)) (fun r h4 q5 => ?_)
  obtain ⟨rfl, rfl⟩ := q5
  refine go_ifP (t' := 11) (pc' := 9) rfl rfl rfl (fun (c6 : ¬ (I 3 0) = 0) => ?_) (fun (c6' : ¬ ¬ (I 3 0) = 0) => ?_)
  · skip
    refine go_s (pc' := 12) rfl rfl rfl rfl ?_
    refine go_ifP (t' := 17) (pc' := 13) rfl rfl rfl (fun _ => ?_) (fun (c : ¬ (¬ (1 : Int32) = 0)) => absurd (by decide) c)
    refine go_s (pc' := 18) rfl rfl rfl rfl ?_
    refine go_s (pc' := 19) (st' := [.int 1, .int 1]) rfl rfl rfl rfl ?_
    refine go_icmpP (t' := 25) (pc' := 20) rfl rfl rfl (fun (c : ¬ (1 : Int32) = 1) => absurd c (by decide)) (fun _ => ?_)
    refine go_s (pc' := 21) rfl rfl rfl rfl ?_
    refine go_sget (pc' := 22) (v := .ref 2) hS rfl rfl rfl (by decide) rfl rfl ?_
    refine go_s (pc' := 23) rfl rfl rfl rfl ?_
    have hC7 : CA w 32 m0 B h4 (I, Q, Z) := ⟨X, ow, sb, hS, hD, hB, hQ⟩
    refine go_callV (pc' := 24) rfl rfl rfl (Nat.le_of_ble_eq_true rfl) rfl (sm_o hS rfl) rfl rfl rfl (cm_bs_0 hC7 (by omega) (by omega)) (fun r h8 q9 => ?_)
    obtain ⟨rfl, hC9⟩ := q9
    refine go_s (pc' := 31) rfl rfl rfl rfl ?_
    refine go_s (pc' := 32) (st' := [.int 1]) rfl rfl rfl rfl ?_
    refine go_ret rfl rfl ?_
    have hms : mfl1 0 (I, Q, Z) = (1, (mbsI I 0 16, Q, Z)) := if_neg c6
    rw [hms]
    exact ⟨rfl, CA_le hC9 (by omega)⟩
  · skip
    have c6 : (I 3 0) = 0 := Decidable.not_not.mp c6'
    refine go_s (pc' := 10) (st' := [.int 0]) rfl rfl rfl rfl ?_
    refine go_ret rfl rfl ?_
    have hms : mfl1 0 (I, Q, Z) = (0, (I, Q, Z)) := if_pos c6
    rw [hms]
    exact ⟨rfl, X, ow, sb, hS, hD, Nat.le_trans hB (by omega), hQ⟩
theorem ca_fl_1_1 {w : Nat → Bool} {d : Nat} {h : am_Hp} {m0 : mg} {B : Nat} {I : sm_I} {Q : mQ} {Z : mZ} (hC : CA w 32 m0 B h (I, Q, Z)) (hB2 : B < 2 ^ 26) (hbl : I 3 1 = 0 ∨ I 3 1 = 1) (hd : 5 ≤ d) : am_Ev (am_prog w) d 96 [.ref 1, .int 1, .int 1] h (fun r h' => r = some (.int (mfl1 1 (I, Q, Z)).1) ∧ CA w 32 m0 (B + 400) h' (mfl1 1 (I, Q, Z)).2) := by
  obtain ⟨X, ow, sb, hS, hD, hB, hQ⟩ := hC
  change sm tbc h I X at hS
  change CD w 32 m0 h I Q Z X ow sb at hD
  change co h I ≤ B at hB
  change ∀ l, l < 16 → (Q l).length ≤ h.length at hQ
  have hW := hD.1.1
  have hWn : ∀ a, List.length h ≤ a → w a = true := fun a ha => (hD.1.2.1 a ha).1
  have hF1 := fr_refl tbc h
  have hln : 62 ≤ List.length h := sm_len hS
  obtain ⟨d, rfl⟩ : ∃ e, d = e + 1 := ⟨d - 1, by omega⟩
  refine ev_go rfl (Nat.le_of_ble_eq_true rfl) rfl ?_
  refine go_s (pc' := 1) rfl rfl rfl rfl ?_
  refine go_s (pc' := 2) rfl rfl rfl rfl ?_
  refine go_callS (pc' := 3) rfl rfl rfl (Nat.le_of_ble_eq_true rfl) rfl rfl rfl (ct_ip_1_1 (by omega)) (fun r h2 q3 => ?_)
  obtain ⟨rfl, rfl⟩ := q3
  refine go_ifP (t' := 9) (pc' := 4) rfl rfl rfl (fun (c : (1 : Int32) = 0) => absurd c (by decide)) (fun _ => ?_)
  refine go_s (pc' := 5) rfl rfl rfl rfl ?_
  refine go_s (pc' := 6) rfl rfl rfl rfl ?_
  refine go_s (pc' := 7) rfl rfl rfl rfl ?_
  refine go_callV (pc' := 8) rfl rfl rfl (Nat.le_of_ble_eq_true rfl) rfl (sm_o hS rfl) rfl rfl rfl (ct_iu_1_1 hS hbl (by omega)) (fun r h4 q5 => ?_)
  obtain ⟨rfl, rfl⟩ := q5
  refine go_ifP (t' := 11) (pc' := 9) rfl rfl rfl (fun (c6 : ¬ (I 3 1) = 0) => ?_) (fun (c6' : ¬ ¬ (I 3 1) = 0) => ?_)
  · skip
    refine go_s (pc' := 12) rfl rfl rfl rfl ?_
    refine go_ifP (t' := 17) (pc' := 13) rfl rfl rfl (fun _ => ?_) (fun (c : ¬ (¬ (1 : Int32) = 0)) => absurd (by decide) c)
    refine go_s (pc' := 18) rfl rfl rfl rfl ?_
    refine go_s (pc' := 19) (st' := [.int 1, .int 1]) rfl rfl rfl rfl ?_
    refine go_icmpP (t' := 25) (pc' := 20) rfl rfl rfl (fun (c : ¬ (1 : Int32) = 1) => absurd c (by decide)) (fun _ => ?_)
    refine go_s (pc' := 21) rfl rfl rfl rfl ?_
    refine go_sget (pc' := 22) (v := .ref 2) hS rfl rfl rfl (by decide) rfl rfl ?_
    refine go_s (pc' := 23) rfl rfl rfl rfl ?_
    have hC7 : CA w 32 m0 B h4 (I, Q, Z) := ⟨X, ow, sb, hS, hD, hB, hQ⟩
    refine go_callV (pc' := 24) rfl rfl rfl (Nat.le_of_ble_eq_true rfl) rfl (sm_o hS rfl) rfl rfl rfl (cm_bs_1 hC7 (by omega) (by omega)) (fun r h8 q9 => ?_)
    obtain ⟨rfl, hC9⟩ := q9
    refine go_s (pc' := 31) rfl rfl rfl rfl ?_
    refine go_s (pc' := 32) (st' := [.int 1]) rfl rfl rfl rfl ?_
    refine go_ret rfl rfl ?_
    have hms : mfl1 1 (I, Q, Z) = (1, (mbsI I 1 16, Q, Z)) := if_neg c6
    rw [hms]
    exact ⟨rfl, CA_le hC9 (by omega)⟩
  · skip
    have c6 : (I 3 1) = 0 := Decidable.not_not.mp c6'
    refine go_s (pc' := 10) (st' := [.int 0]) rfl rfl rfl rfl ?_
    refine go_ret rfl rfl ?_
    have hms : mfl1 1 (I, Q, Z) = (0, (I, Q, Z)) := if_pos c6
    rw [hms]
    exact ⟨rfl, X, ow, sb, hS, hD, Nat.le_trans hB (by omega), hQ⟩
theorem ca_fl_2_0 {w : Nat → Bool} {d : Nat} {h : am_Hp} {m0 : mg} {B : Nat} {I : sm_I} {Q : mQ} {Z : mZ} (hC : CA w 32 m0 B h (I, Q, Z)) (hB2 : B < 2 ^ 26) (hbl : I 4 0 = 0 ∨ I 4 0 = 1) (hsi : ¬ I 4 0 = 0 → SI (mdsI I 0, Q, Z)) (hd : 8 ≤ d) : am_Ev (am_prog w) d 96 [.ref 1, .int 2, .int 0] h (fun r h' => r = some (.int (mfl2 0 (I, Q, Z)).1) ∧ CA w 32 m0 (B + 400) h' (mfl2 0 (I, Q, Z)).2) := by
  obtain ⟨X, ow, sb, hS, hD, hB, hQ⟩ := hC
  change sm tbc h I X at hS
  change CD w 32 m0 h I Q Z X ow sb at hD
  change co h I ≤ B at hB
  change ∀ l, l < 16 → (Q l).length ≤ h.length at hQ
  have hW := hD.1.1
  have hWn : ∀ a, List.length h ≤ a → w a = true := fun a ha => (hD.1.2.1 a ha).1
  have hF1 := fr_refl tbc h
  have hln : 62 ≤ List.length h := sm_len hS
  obtain ⟨d, rfl⟩ : ∃ e, d = e + 1 := ⟨d - 1, by omega⟩
  refine ev_go rfl (Nat.le_of_ble_eq_true rfl) rfl ?_
  refine go_s (pc' := 1) rfl rfl rfl rfl ?_
  refine go_s (pc' := 2) rfl rfl rfl rfl ?_
  refine go_callS (pc' := 3) rfl rfl rfl (Nat.le_of_ble_eq_true rfl) rfl rfl rfl (ct_ip_2_0 (by omega)) (fun r h2 q3 => ?_)
  obtain ⟨rfl, rfl⟩ := q3
  refine go_ifP (t' := 9) (pc' := 4) rfl rfl rfl (fun (c : (1 : Int32) = 0) => absurd c (by decide)) (fun _ => ?_)
  refine go_s (pc' := 5) rfl rfl rfl rfl ?_
  refine go_s (pc' := 6) rfl rfl rfl rfl ?_
  refine go_s (pc' := 7) rfl rfl rfl rfl ?_
  refine go_callV (pc' := 8) rfl rfl rfl (Nat.le_of_ble_eq_true rfl) rfl (sm_o hS rfl) rfl rfl rfl (ct_iu_2_0 hS hbl (by omega)) (fun r h4 q5 => ?_)
  obtain ⟨rfl, rfl⟩ := q5
  refine go_ifP (t' := 11) (pc' := 9) rfl rfl rfl (fun (c6 : ¬ (I 4 0) = 0) => ?_) (fun (c6' : ¬ ¬ (I 4 0) = 0) => ?_)
  · skip
    refine go_s (pc' := 12) rfl rfl rfl rfl ?_
    refine go_ifP (t' := 17) (pc' := 13) rfl rfl rfl (fun _ => ?_) (fun (c : ¬ (¬ (2 : Int32) = 0)) => absurd (by decide) c)
    refine go_s (pc' := 18) rfl rfl rfl rfl ?_
    refine go_s (pc' := 19) (st' := [.int 1, .int 2]) rfl rfl rfl rfl ?_
    refine go_icmpP (t' := 25) (pc' := 20) rfl rfl rfl (fun _ => ?_) (fun (c : ¬ (¬ (2 : Int32) = 1)) => absurd (by decide) c)
    refine go_s (pc' := 26) rfl rfl rfl rfl ?_
    refine go_sget (pc' := 27) (v := .ref 24) hS rfl rfl rfl (by decide) rfl rfl ?_
    refine go_s (pc' := 28) rfl rfl rfl rfl ?_
    refine go_callV (pc' := 29) rfl rfl rfl (Nat.le_of_ble_eq_true rfl) rfl (sm_o hS rfl) rfl rfl rfl (ct_mstop_0 hS hW (by omega)) (fun r h7 q8 => ?_)
    obtain ⟨rfl, hS9, hE10⟩ := q8
    have hF11 := fr_trans hF1 (fr_e hE10)
    have hmd : CD w 32 m0 h7 (mdsI I 0) Q Z X ow sb := by
      unfold mdsI
      cases hu : us I (1 - 0)
      · exact CD_4 (CD_fr hD hF11)
      · exact CD_I (J := uI (uI (uI I 4 0 0) 5 0 0) 6 0 0) (CD_4 (d := 0) (CD_fr hD hF11)) ⟨rfl, rfl, rfl, rfl, rfl, rfl, rfl, rfl, rfl, rfl, rfl, rfl, rfl, rfl, rfl⟩
    have hco : (mdsI I 0) 21 0 = I 21 0 := by
      unfold mdsI
      cases us I (1 - 0) <;> rfl
    have hD12 : CD w 32 m0 h7 (mdsI I 0, Q, Z).1 (mdsI I 0, Q, Z).2.1 (mdsI I 0, Q, Z).2.2 (X) ow sb := hmd
    have hS15 : sm tbc h7 (mdsI I 0, Q, Z).1 (X) := sm_12 hS9 rfl
    have hB13 : co h7 (mdsI I 0, Q, Z).1 ≤ B := by
      have z1 := co_fr (I := I) (J := (mdsI I 0, Q, Z).1) hF11 hco
      have z2 := hB
      omega
    have hQ14 : ∀ l, l < 16 → ((mdsI I 0, Q, Z).2.1 l).length ≤ List.length h7 := fun l hl => Nat.le_trans (hQ l hl) hF11.1
    obtain ⟨X16, eX16⟩ : ∃ y, y = (X) := ⟨_, rfl⟩
    rw [← eX16] at hD12 hS15
    obtain ⟨M17, eM17⟩ : ∃ y : mM, y = (mdsI I 0, Q, Z) := ⟨_, rfl⟩
    rw [← eM17] at hD12 hS15 hB13 hQ14
    obtain ⟨I17, Q17, Z17⟩ := M17
    change CD w 32 m0 h7 I17 Q17 Z17 X16 ow sb at hD12
    change sm tbc h7 I17 X16 at hS15
    change co h7 I17 ≤ B at hB13
    change ∀ l, l < 16 → (Q17 l).length ≤ List.length h7 at hQ14
    have hW := hD12.1.1
    have hWn : ∀ a, List.length h7 ≤ a → w a = true := fun a ha => (hD12.1.2.1 a ha).1
    have hF18 := fr_refl tbc h7
    have hln : 62 ≤ List.length h7 := sm_len hS15
    refine go_s (pc' := 30) rfl rfl rfl rfl ?_
    have hI9 : SI (I17, Q17, Z17) := by rw [eM17]; exact hsi c6
    have hC19 : CA w 32 m0 B h7 (I17, Q17, Z17) := ⟨X16, ow, sb, hS15, hD12, hB13, hQ14⟩
    have hC20 : CA w 32 m0 B h7 (I17, Q17, Z17) := ⟨X16, ow, sb, hS15, hD12, hB13, hQ14⟩
    refine go_callV (pc' := 31) rfl rfl rfl (Nat.le_of_ble_eq_true rfl) rfl (sm_o hS15 rfl) rfl rfl rfl (cm_run hC20 (by omega) hI9 (by omega)) (fun r h21 q22 => ?_)
    obtain ⟨rfl, hC23⟩ := q22
    change CA w 32 m0 (B + 400) h21 (mset 10 (I17, Q17, Z17)) at hC23
    obtain ⟨M24, eM24⟩ : ∃ y : mM, y = (mset 10 (I17, Q17, Z17)) := ⟨_, rfl⟩
    rw [← eM24] at hC23
    obtain ⟨I24, Q24, Z24⟩ := M24
    obtain ⟨X25, ow25, sb25, hS25, hD25, hB25, hQ25⟩ := hC23
    have hW := hD25.1.1
    have hWn : ∀ a, List.length h21 ≤ a → w a = true := fun a ha => (hD25.1.2.1 a ha).1
    have hF26 := fr_refl tbc h21
    have hln : 62 ≤ List.length h21 := sm_len hS25
    change CD w 32 m0 h21 I24 Q24 Z24 X25 ow25 sb25 at hD25
    change sm tbc h21 I24 X25 at hS25
    change co h21 I24 ≤ (B + 400) at hB25
    change ∀ l, l < 16 → (Q24 l).length ≤ List.length h21 at hQ25
    have hW := hD25.1.1
    have hWn : ∀ a, List.length h21 ≤ a → w a = true := fun a ha => (hD25.1.2.1 a ha).1
    have hF27 := fr_refl tbc h21
    have hln : 62 ≤ List.length h21 := sm_len hS25
    refine go_s (pc' := 32) (st' := [.int 1]) rfl rfl rfl rfl ?_
    refine go_ret rfl rfl ?_
    have hms : mfl2 0 (I, Q, Z) = (1, (I24, Q24, Z24)) := by
      unfold mfl2
      rw [if_neg (show ¬ I 4 0 = 0 from c6), ← eM17, ← eM24]
    have hC28 : CA w 32 m0 (B + 400) h21 (I24, Q24, Z24) := ⟨X25, ow25, sb25, hS25, hD25, hB25, hQ25⟩
    rw [hms]
    exact ⟨rfl, CA_le hC28 (by omega)⟩
  · skip
    have c6 : (I 4 0) = 0 := Decidable.not_not.mp c6'
    refine go_s (pc' := 10) (st' := [.int 0]) rfl rfl rfl rfl ?_
    refine go_ret rfl rfl ?_
    have hms : mfl2 0 (I, Q, Z) = (0, (I, Q, Z)) := if_pos c6
    rw [hms]
    exact ⟨rfl, X, ow, sb, hS, hD, Nat.le_trans hB (by omega), hQ⟩
theorem ca_fl_2_1 {w : Nat → Bool} {d : Nat} {h : am_Hp} {m0 : mg} {B : Nat} {I : sm_I} {Q : mQ} {Z : mZ} (hC : CA w 32 m0 B h (I, Q, Z)) (hB2 : B < 2 ^ 26) (hbl : I 4 1 = 0 ∨ I 4 1 = 1) (hsi : ¬ I 4 1 = 0 → SI (mdsI I 1, Q, Z)) (hd : 8 ≤ d) : am_Ev (am_prog w) d 96 [.ref 1, .int 2, .int 1] h (fun r h' => r = some (.int (mfl2 1 (I, Q, Z)).1) ∧ CA w 32 m0 (B + 400) h' (mfl2 1 (I, Q, Z)).2) := by
  obtain ⟨X, ow, sb, hS, hD, hB, hQ⟩ := hC
  change sm tbc h I X at hS
  change CD w 32 m0 h I Q Z X ow sb at hD
  change co h I ≤ B at hB
  change ∀ l, l < 16 → (Q l).length ≤ h.length at hQ
  have hW := hD.1.1
  have hWn : ∀ a, List.length h ≤ a → w a = true := fun a ha => (hD.1.2.1 a ha).1
  have hF1 := fr_refl tbc h
  have hln : 62 ≤ List.length h := sm_len hS
  obtain ⟨d, rfl⟩ : ∃ e, d = e + 1 := ⟨d - 1, by omega⟩
  refine ev_go rfl (Nat.le_of_ble_eq_true rfl) rfl ?_
  refine go_s (pc' := 1) rfl rfl rfl rfl ?_
  refine go_s (pc' := 2) rfl rfl rfl rfl ?_
  refine go_callS (pc' := 3) rfl rfl rfl (Nat.le_of_ble_eq_true rfl) rfl rfl rfl (ct_ip_2_1 (by omega)) (fun r h2 q3 => ?_)
  obtain ⟨rfl, rfl⟩ := q3
  refine go_ifP (t' := 9) (pc' := 4) rfl rfl rfl (fun (c : (1 : Int32) = 0) => absurd c (by decide)) (fun _ => ?_)
  refine go_s (pc' := 5) rfl rfl rfl rfl ?_
  refine go_s (pc' := 6) rfl rfl rfl rfl ?_
  refine go_s (pc' := 7) rfl rfl rfl rfl ?_
  refine go_callV (pc' := 8) rfl rfl rfl (Nat.le_of_ble_eq_true rfl) rfl (sm_o hS rfl) rfl rfl rfl (ct_iu_2_1 hS hbl (by omega)) (fun r h4 q5 => ?_)
  obtain ⟨rfl, rfl⟩ := q5
  refine go_ifP (t' := 11) (pc' := 9) rfl rfl rfl (fun (c6 : ¬ (I 4 1) = 0) => ?_) (fun (c6' : ¬ ¬ (I 4 1) = 0) => ?_)
  · skip
    refine go_s (pc' := 12) rfl rfl rfl rfl ?_
    refine go_ifP (t' := 17) (pc' := 13) rfl rfl rfl (fun _ => ?_) (fun (c : ¬ (¬ (2 : Int32) = 0)) => absurd (by decide) c)
    refine go_s (pc' := 18) rfl rfl rfl rfl ?_
    refine go_s (pc' := 19) (st' := [.int 1, .int 2]) rfl rfl rfl rfl ?_
    refine go_icmpP (t' := 25) (pc' := 20) rfl rfl rfl (fun _ => ?_) (fun (c : ¬ (¬ (2 : Int32) = 1)) => absurd (by decide) c)
    refine go_s (pc' := 26) rfl rfl rfl rfl ?_
    refine go_sget (pc' := 27) (v := .ref 24) hS rfl rfl rfl (by decide) rfl rfl ?_
    refine go_s (pc' := 28) rfl rfl rfl rfl ?_
    refine go_callV (pc' := 29) rfl rfl rfl (Nat.le_of_ble_eq_true rfl) rfl (sm_o hS rfl) rfl rfl rfl (ct_mstop_1 hS hW (by omega)) (fun r h7 q8 => ?_)
    obtain ⟨rfl, hS9, hE10⟩ := q8
    have hF11 := fr_trans hF1 (fr_e hE10)
    have hmd : CD w 32 m0 h7 (mdsI I 1) Q Z X ow sb := by
      unfold mdsI
      cases hu : us I (1 - 1)
      · exact CD_4 (CD_fr hD hF11)
      · exact CD_I (J := uI (uI (uI I 4 1 0) 5 1 0) 6 1 0) (CD_4 (d := 1) (CD_fr hD hF11)) ⟨rfl, rfl, rfl, rfl, rfl, rfl, rfl, rfl, rfl, rfl, rfl, rfl, rfl, rfl, rfl⟩
    have hco : (mdsI I 1) 21 0 = I 21 0 := by
      unfold mdsI
      cases us I (1 - 1) <;> rfl
    have hD12 : CD w 32 m0 h7 (mdsI I 1, Q, Z).1 (mdsI I 1, Q, Z).2.1 (mdsI I 1, Q, Z).2.2 (X) ow sb := hmd
    have hS15 : sm tbc h7 (mdsI I 1, Q, Z).1 (X) := sm_12 hS9 rfl
    have hB13 : co h7 (mdsI I 1, Q, Z).1 ≤ B := by
      have z1 := co_fr (I := I) (J := (mdsI I 1, Q, Z).1) hF11 hco
      have z2 := hB
      omega
    have hQ14 : ∀ l, l < 16 → ((mdsI I 1, Q, Z).2.1 l).length ≤ List.length h7 := fun l hl => Nat.le_trans (hQ l hl) hF11.1
    obtain ⟨X16, eX16⟩ : ∃ y, y = (X) := ⟨_, rfl⟩
    rw [← eX16] at hD12 hS15
    obtain ⟨M17, eM17⟩ : ∃ y : mM, y = (mdsI I 1, Q, Z) := ⟨_, rfl⟩
    rw [← eM17] at hD12 hS15 hB13 hQ14
    obtain ⟨I17, Q17, Z17⟩ := M17
    change CD w 32 m0 h7 I17 Q17 Z17 X16 ow sb at hD12
    change sm tbc h7 I17 X16 at hS15
    change co h7 I17 ≤ B at hB13
    change ∀ l, l < 16 → (Q17 l).length ≤ List.length h7 at hQ14
    have hW := hD12.1.1
    have hWn : ∀ a, List.length h7 ≤ a → w a = true := fun a ha => (hD12.1.2.1 a ha).1
    have hF18 := fr_refl tbc h7
    have hln : 62 ≤ List.length h7 := sm_len hS15
    refine go_s (pc' := 30) rfl rfl rfl rfl ?_
    have hI9 : SI (I17, Q17, Z17) := by rw [eM17]; exact hsi c6
    have hC19 : CA w 32 m0 B h7 (I17, Q17, Z17) := ⟨X16, ow, sb, hS15, hD12, hB13, hQ14⟩
    have hC20 : CA w 32 m0 B h7 (I17, Q17, Z17) := ⟨X16, ow, sb, hS15, hD12, hB13, hQ14⟩
    refine go_callV (pc' := 31) rfl rfl rfl (Nat.le_of_ble_eq_true rfl) rfl (sm_o hS15 rfl) rfl rfl rfl (cm_run hC20 (by omega) hI9 (by omega)) (fun r h21 q22 => ?_)
    obtain ⟨rfl, hC23⟩ := q22
    change CA w 32 m0 (B + 400) h21 (mset 10 (I17, Q17, Z17)) at hC23
    obtain ⟨M24, eM24⟩ : ∃ y : mM, y = (mset 10 (I17, Q17, Z17)) := ⟨_, rfl⟩
    rw [← eM24] at hC23
    obtain ⟨I24, Q24, Z24⟩ := M24
    obtain ⟨X25, ow25, sb25, hS25, hD25, hB25, hQ25⟩ := hC23
    have hW := hD25.1.1
    have hWn : ∀ a, List.length h21 ≤ a → w a = true := fun a ha => (hD25.1.2.1 a ha).1
    have hF26 := fr_refl tbc h21
    have hln : 62 ≤ List.length h21 := sm_len hS25
    change CD w 32 m0 h21 I24 Q24 Z24 X25 ow25 sb25 at hD25
    change sm tbc h21 I24 X25 at hS25
    change co h21 I24 ≤ (B + 400) at hB25
    change ∀ l, l < 16 → (Q24 l).length ≤ List.length h21 at hQ25
    have hW := hD25.1.1
    have hWn : ∀ a, List.length h21 ≤ a → w a = true := fun a ha => (hD25.1.2.1 a ha).1
    have hF27 := fr_refl tbc h21
    have hln : 62 ≤ List.length h21 := sm_len hS25
    refine go_s (pc' := 32) (st' := [.int 1]) rfl rfl rfl rfl ?_
    refine go_ret rfl rfl ?_
    have hms : mfl2 1 (I, Q, Z) = (1, (I24, Q24, Z24)) := by
      unfold mfl2
      rw [if_neg (show ¬ I 4 1 = 0 from c6), ← eM17, ← eM24]
    have hC28 : CA w 32 m0 (B + 400) h21 (I24, Q24, Z24) := ⟨X25, ow25, sb25, hS25, hD25, hB25, hQ25⟩
    rw [hms]
    exact ⟨rfl, CA_le hC28 (by omega)⟩
  · skip
    have c6 : (I 4 1) = 0 := Decidable.not_not.mp c6'
    refine go_s (pc' := 10) (st' := [.int 0]) rfl rfl rfl rfl ?_
    refine go_ret rfl rfl ?_
    have hms : mfl2 1 (I, Q, Z) = (0, (I, Q, Z)) := if_pos c6
    rw [hms]
    exact ⟨rfl, X, ow, sb, hS, hD, Nat.le_trans hB (by omega), hQ⟩
theorem ca_rr_1_0 {w : Nat → Bool} {d : Nat} {h : am_Hp} {m0 : mg} {B : Nat} {I : sm_I} {Q : mQ} {Z : mZ} (hC : CA w 32 m0 B h (I, Q, Z)) (hB2 : B < 2 ^ 26) (hbl : I 3 0 = 0 ∨ I 3 0 = 1) (hd : 3 ≤ d) : am_Ev (am_prog w) d 106 [.ref 1, .int 1, .int 0] h (fun r h' => r = some (.int (mrr1 0 (I, Q, Z)).1) ∧ CA w 32 m0 B h' (mrr1 0 (I, Q, Z)).2) := by
  obtain ⟨X, ow, sb, hS, hD, hB, hQ⟩ := hC
  change sm tbc h I X at hS
  change CD w 32 m0 h I Q Z X ow sb at hD
  change co h I ≤ B at hB
  change ∀ l, l < 16 → (Q l).length ≤ h.length at hQ
  have hW := hD.1.1
  have hWn : ∀ a, List.length h ≤ a → w a = true := fun a ha => (hD.1.2.1 a ha).1
  have hF1 := fr_refl tbc h
  have hln : 62 ≤ List.length h := sm_len hS
  obtain ⟨d, rfl⟩ : ∃ e, d = e + 1 := ⟨d - 1, by omega⟩
  refine ev_go rfl (Nat.le_of_ble_eq_true rfl) rfl ?_
  refine go_s (pc' := 1) rfl rfl rfl rfl ?_
  refine go_s (pc' := 2) rfl rfl rfl rfl ?_
  refine go_callS (pc' := 3) rfl rfl rfl (Nat.le_of_ble_eq_true rfl) rfl rfl rfl (ct_ip_1_0 (by omega)) (fun r h2 q3 => ?_)
  obtain ⟨rfl, rfl⟩ := q3
  refine go_ifP (t' := 9) (pc' := 4) rfl rfl rfl (fun (c : (1 : Int32) = 0) => absurd c (by decide)) (fun _ => ?_)
  refine go_s (pc' := 5) rfl rfl rfl rfl ?_
  refine go_s (pc' := 6) rfl rfl rfl rfl ?_
  refine go_s (pc' := 7) rfl rfl rfl rfl ?_
  refine go_callV (pc' := 8) rfl rfl rfl (Nat.le_of_ble_eq_true rfl) rfl (sm_o hS rfl) rfl rfl rfl (ct_iu_1_0 hS hbl (by omega)) (fun r h4 q5 => ?_)
  obtain ⟨rfl, rfl⟩ := q5
  refine go_ifP (t' := 11) (pc' := 9) rfl rfl rfl (fun (c6 : (I 3 0) = 0) => ?_) (fun (c6 : ¬ (I 3 0) = 0) => ?_)
  · skip
    refine go_s (pc' := 12) rfl rfl rfl rfl ?_
    refine go_ifP (t' := 28) (pc' := 13) rfl rfl rfl (fun _ => ?_) (fun (c : ¬ (¬ (1 : Int32) = 0)) => absurd (by decide) c)
    refine go_s (pc' := 29) rfl rfl rfl rfl ?_
    refine go_s (pc' := 30) (st' := [.int 1, .int 1]) rfl rfl rfl rfl ?_
    refine go_icmpP (t' := 38) (pc' := 31) rfl rfl rfl (fun (c : ¬ (1 : Int32) = 1) => absurd c (by decide)) (fun _ => ?_)
    refine go_s (pc' := 32) rfl rfl rfl rfl ?_
    refine go_sget (pc' := 33) (v := .ref 2) hS rfl rfl rfl (by decide) rfl rfl ?_
    refine go_sget (pc' := 34) (v := .ref 6) hS rfl rfl rfl (by decide) rfl rfl ?_
    refine go_s (pc' := 35) rfl rfl rfl rfl ?_
    refine go_s (pc' := 36) (st' := [.int 1, .int 0, .ref 6]) rfl rfl rfl rfl ?_
    refine go_szast (pc' := 37) (q := 0) hS rfl rfl tbc_inj (Nat.le_of_ble_eq_true rfl) rfl (by decide) (by decide) rfl (hW _ rfl) rfl (fun h7 hS8 hE9 => ?_)
    have hF10 := fr_trans hF1 (fr_e hE9)
    refine go_s (pc' := 42) rfl rfl rfl rfl ?_
    refine go_s (pc' := 43) (st' := [.int 1]) rfl rfl rfl rfl ?_
    refine go_ret rfl rfl ?_
    have hms : mrr1 0 (I, Q, Z) = (1, (uI I 3 0 1, Q, Z)) := if_pos c6
    rw [hms]
    refine ⟨rfl, X, ow, sb, hS8, CD_3 (CD_fr hD hF10), ?_, fun l hl => Nat.le_trans (hQ l hl) hF10.1⟩
    have := co_fr (I := I) (J := uI I 3 0 1) hF10 rfl
    show co _ (uI I 3 0 1) ≤ B
    omega
  · skip
    refine go_s (pc' := 10) (st' := [.int 0]) rfl rfl rfl rfl ?_
    refine go_ret rfl rfl ?_
    have hms : mrr1 0 (I, Q, Z) = (0, (I, Q, Z)) := if_neg c6
    rw [hms]
    exact ⟨rfl, X, ow, sb, hS, hD, hB, hQ⟩
theorem ca_rr_1_1 {w : Nat → Bool} {d : Nat} {h : am_Hp} {m0 : mg} {B : Nat} {I : sm_I} {Q : mQ} {Z : mZ} (hC : CA w 32 m0 B h (I, Q, Z)) (hB2 : B < 2 ^ 26) (hbl : I 3 1 = 0 ∨ I 3 1 = 1) (hd : 3 ≤ d) : am_Ev (am_prog w) d 106 [.ref 1, .int 1, .int 1] h (fun r h' => r = some (.int (mrr1 1 (I, Q, Z)).1) ∧ CA w 32 m0 B h' (mrr1 1 (I, Q, Z)).2) := by
  obtain ⟨X, ow, sb, hS, hD, hB, hQ⟩ := hC
  change sm tbc h I X at hS
  change CD w 32 m0 h I Q Z X ow sb at hD
  change co h I ≤ B at hB
  change ∀ l, l < 16 → (Q l).length ≤ h.length at hQ
  have hW := hD.1.1
  have hWn : ∀ a, List.length h ≤ a → w a = true := fun a ha => (hD.1.2.1 a ha).1
  have hF1 := fr_refl tbc h
  have hln : 62 ≤ List.length h := sm_len hS
  obtain ⟨d, rfl⟩ : ∃ e, d = e + 1 := ⟨d - 1, by omega⟩
  refine ev_go rfl (Nat.le_of_ble_eq_true rfl) rfl ?_
  refine go_s (pc' := 1) rfl rfl rfl rfl ?_
  refine go_s (pc' := 2) rfl rfl rfl rfl ?_
  refine go_callS (pc' := 3) rfl rfl rfl (Nat.le_of_ble_eq_true rfl) rfl rfl rfl (ct_ip_1_1 (by omega)) (fun r h2 q3 => ?_)
  obtain ⟨rfl, rfl⟩ := q3
  refine go_ifP (t' := 9) (pc' := 4) rfl rfl rfl (fun (c : (1 : Int32) = 0) => absurd c (by decide)) (fun _ => ?_)
  refine go_s (pc' := 5) rfl rfl rfl rfl ?_
  refine go_s (pc' := 6) rfl rfl rfl rfl ?_
  refine go_s (pc' := 7) rfl rfl rfl rfl ?_
  refine go_callV (pc' := 8) rfl rfl rfl (Nat.le_of_ble_eq_true rfl) rfl (sm_o hS rfl) rfl rfl rfl (ct_iu_1_1 hS hbl (by omega)) (fun r h4 q5 => ?_)
  obtain ⟨rfl, rfl⟩ := q5
  refine go_ifP (t' := 11) (pc' := 9) rfl rfl rfl (fun (c6 : (I 3 1) = 0) => ?_) (fun (c6 : ¬ (I 3 1) = 0) => ?_)
  · skip
    refine go_s (pc' := 12) rfl rfl rfl rfl ?_
    refine go_ifP (t' := 28) (pc' := 13) rfl rfl rfl (fun _ => ?_) (fun (c : ¬ (¬ (1 : Int32) = 0)) => absurd (by decide) c)
    refine go_s (pc' := 29) rfl rfl rfl rfl ?_
    refine go_s (pc' := 30) (st' := [.int 1, .int 1]) rfl rfl rfl rfl ?_
    refine go_icmpP (t' := 38) (pc' := 31) rfl rfl rfl (fun (c : ¬ (1 : Int32) = 1) => absurd c (by decide)) (fun _ => ?_)
    refine go_s (pc' := 32) rfl rfl rfl rfl ?_
    refine go_sget (pc' := 33) (v := .ref 2) hS rfl rfl rfl (by decide) rfl rfl ?_
    refine go_sget (pc' := 34) (v := .ref 6) hS rfl rfl rfl (by decide) rfl rfl ?_
    refine go_s (pc' := 35) rfl rfl rfl rfl ?_
    refine go_s (pc' := 36) (st' := [.int 1, .int 1, .ref 6]) rfl rfl rfl rfl ?_
    refine go_szast (pc' := 37) (q := 1) hS rfl rfl tbc_inj (Nat.le_of_ble_eq_true rfl) rfl (by decide) (by decide) rfl (hW _ rfl) rfl (fun h7 hS8 hE9 => ?_)
    have hF10 := fr_trans hF1 (fr_e hE9)
    refine go_s (pc' := 42) rfl rfl rfl rfl ?_
    refine go_s (pc' := 43) (st' := [.int 1]) rfl rfl rfl rfl ?_
    refine go_ret rfl rfl ?_
    have hms : mrr1 1 (I, Q, Z) = (1, (uI I 3 1 1, Q, Z)) := if_pos c6
    rw [hms]
    refine ⟨rfl, X, ow, sb, hS8, CD_3 (CD_fr hD hF10), ?_, fun l hl => Nat.le_trans (hQ l hl) hF10.1⟩
    have := co_fr (I := I) (J := uI I 3 1 1) hF10 rfl
    show co _ (uI I 3 1 1) ≤ B
    omega
  · skip
    refine go_s (pc' := 10) (st' := [.int 0]) rfl rfl rfl rfl ?_
    refine go_ret rfl rfl ?_
    have hms : mrr1 1 (I, Q, Z) = (0, (I, Q, Z)) := if_neg c6
    rw [hms]
    exact ⟨rfl, X, ow, sb, hS, hD, hB, hQ⟩
theorem ca_rr_2_0 {w : Nat → Bool} {d : Nat} {h : am_Hp} {m0 : mg} {B : Nat} {I : sm_I} {Q : mQ} {Z : mZ} (hC : CA w 32 m0 B h (I, Q, Z)) (hB2 : B < 2 ^ 26) (hbl : I 4 0 = 0 ∨ I 4 0 = 1) (hd : 3 ≤ d) : am_Ev (am_prog w) d 106 [.ref 1, .int 2, .int 0] h (fun r h' => r = some (.int (mrr2 0 (I, Q, Z)).1) ∧ CA w 32 m0 B h' (mrr2 0 (I, Q, Z)).2) := by
  obtain ⟨X, ow, sb, hS, hD, hB, hQ⟩ := hC
  change sm tbc h I X at hS
  change CD w 32 m0 h I Q Z X ow sb at hD
  change co h I ≤ B at hB
  change ∀ l, l < 16 → (Q l).length ≤ h.length at hQ
  have hW := hD.1.1
  have hWn : ∀ a, List.length h ≤ a → w a = true := fun a ha => (hD.1.2.1 a ha).1
  have hF1 := fr_refl tbc h
  have hln : 62 ≤ List.length h := sm_len hS
  obtain ⟨d, rfl⟩ : ∃ e, d = e + 1 := ⟨d - 1, by omega⟩
  refine ev_go rfl (Nat.le_of_ble_eq_true rfl) rfl ?_
  refine go_s (pc' := 1) rfl rfl rfl rfl ?_
  refine go_s (pc' := 2) rfl rfl rfl rfl ?_
  refine go_callS (pc' := 3) rfl rfl rfl (Nat.le_of_ble_eq_true rfl) rfl rfl rfl (ct_ip_2_0 (by omega)) (fun r h2 q3 => ?_)
  obtain ⟨rfl, rfl⟩ := q3
  refine go_ifP (t' := 9) (pc' := 4) rfl rfl rfl (fun (c : (1 : Int32) = 0) => absurd c (by decide)) (fun _ => ?_)
  refine go_s (pc' := 5) rfl rfl rfl rfl ?_
  refine go_s (pc' := 6) rfl rfl rfl rfl ?_
  refine go_s (pc' := 7) rfl rfl rfl rfl ?_
  refine go_callV (pc' := 8) rfl rfl rfl (Nat.le_of_ble_eq_true rfl) rfl (sm_o hS rfl) rfl rfl rfl (ct_iu_2_0 hS hbl (by omega)) (fun r h4 q5 => ?_)
  obtain ⟨rfl, rfl⟩ := q5
  refine go_ifP (t' := 11) (pc' := 9) rfl rfl rfl (fun (c6 : (I 4 0) = 0) => ?_) (fun (c6 : ¬ (I 4 0) = 0) => ?_)
  · skip
    refine go_s (pc' := 12) rfl rfl rfl rfl ?_
    refine go_ifP (t' := 28) (pc' := 13) rfl rfl rfl (fun _ => ?_) (fun (c : ¬ (¬ (2 : Int32) = 0)) => absurd (by decide) c)
    refine go_s (pc' := 29) rfl rfl rfl rfl ?_
    refine go_s (pc' := 30) (st' := [.int 1, .int 2]) rfl rfl rfl rfl ?_
    refine go_icmpP (t' := 38) (pc' := 31) rfl rfl rfl (fun _ => ?_) (fun (c : ¬ (¬ (2 : Int32) = 1)) => absurd (by decide) c)
    refine go_s (pc' := 39) rfl rfl rfl rfl ?_
    refine go_sget (pc' := 40) (v := .ref 24) hS rfl rfl rfl (by decide) rfl rfl ?_
    refine go_s (pc' := 41) rfl rfl rfl rfl ?_
    refine go_callV (pc' := 42) rfl rfl rfl (Nat.le_of_ble_eq_true rfl) rfl (sm_o hS rfl) rfl rfl rfl (ct_mstart_0 hS hW (by omega)) (fun r h7 q8 => ?_)
    obtain ⟨rfl, hS9, hE10⟩ := q8
    have hF11 := fr_trans hF1 (fr_e hE10)
    refine go_s (pc' := 43) (st' := [.int 1]) rfl rfl rfl rfl ?_
    refine go_ret rfl rfl ?_
    have hms : mrr2 0 (I, Q, Z) = (1, (uI (uI I 4 0 1) 6 0 0, Q, Z)) := if_pos c6
    rw [hms]
    refine ⟨rfl, (uX X 205 0 (.int 0)), ow, sb, sm_12 hS9 rfl, CD_5 (CD_fr hD hF11), ?_, fun l hl => Nat.le_trans (hQ l hl) hF11.1⟩
    have := co_fr (I := I) (J := uI (uI I 4 0 1) 6 0 0) hF11 rfl
    show co _ (uI (uI I 4 0 1) 6 0 0) ≤ B
    omega
  · skip
    refine go_s (pc' := 10) (st' := [.int 0]) rfl rfl rfl rfl ?_
    refine go_ret rfl rfl ?_
    have hms : mrr2 0 (I, Q, Z) = (0, (I, Q, Z)) := if_neg c6
    rw [hms]
    exact ⟨rfl, X, ow, sb, hS, hD, hB, hQ⟩
theorem ca_rr_2_1 {w : Nat → Bool} {d : Nat} {h : am_Hp} {m0 : mg} {B : Nat} {I : sm_I} {Q : mQ} {Z : mZ} (hC : CA w 32 m0 B h (I, Q, Z)) (hB2 : B < 2 ^ 26) (hbl : I 4 1 = 0 ∨ I 4 1 = 1) (hd : 3 ≤ d) : am_Ev (am_prog w) d 106 [.ref 1, .int 2, .int 1] h (fun r h' => r = some (.int (mrr2 1 (I, Q, Z)).1) ∧ CA w 32 m0 B h' (mrr2 1 (I, Q, Z)).2) := by
  obtain ⟨X, ow, sb, hS, hD, hB, hQ⟩ := hC
  change sm tbc h I X at hS
  change CD w 32 m0 h I Q Z X ow sb at hD
  change co h I ≤ B at hB
  change ∀ l, l < 16 → (Q l).length ≤ h.length at hQ
  have hW := hD.1.1
  have hWn : ∀ a, List.length h ≤ a → w a = true := fun a ha => (hD.1.2.1 a ha).1
  have hF1 := fr_refl tbc h
  have hln : 62 ≤ List.length h := sm_len hS
  obtain ⟨d, rfl⟩ : ∃ e, d = e + 1 := ⟨d - 1, by omega⟩
  refine ev_go rfl (Nat.le_of_ble_eq_true rfl) rfl ?_
  refine go_s (pc' := 1) rfl rfl rfl rfl ?_
  refine go_s (pc' := 2) rfl rfl rfl rfl ?_
  refine go_callS (pc' := 3) rfl rfl rfl (Nat.le_of_ble_eq_true rfl) rfl rfl rfl (ct_ip_2_1 (by omega)) (fun r h2 q3 => ?_)
  obtain ⟨rfl, rfl⟩ := q3
  refine go_ifP (t' := 9) (pc' := 4) rfl rfl rfl (fun (c : (1 : Int32) = 0) => absurd c (by decide)) (fun _ => ?_)
  refine go_s (pc' := 5) rfl rfl rfl rfl ?_
  refine go_s (pc' := 6) rfl rfl rfl rfl ?_
  refine go_s (pc' := 7) rfl rfl rfl rfl ?_
  refine go_callV (pc' := 8) rfl rfl rfl (Nat.le_of_ble_eq_true rfl) rfl (sm_o hS rfl) rfl rfl rfl (ct_iu_2_1 hS hbl (by omega)) (fun r h4 q5 => ?_)
  obtain ⟨rfl, rfl⟩ := q5
  refine go_ifP (t' := 11) (pc' := 9) rfl rfl rfl (fun (c6 : (I 4 1) = 0) => ?_) (fun (c6 : ¬ (I 4 1) = 0) => ?_)
  · skip
    refine go_s (pc' := 12) rfl rfl rfl rfl ?_
    refine go_ifP (t' := 28) (pc' := 13) rfl rfl rfl (fun _ => ?_) (fun (c : ¬ (¬ (2 : Int32) = 0)) => absurd (by decide) c)
    refine go_s (pc' := 29) rfl rfl rfl rfl ?_
    refine go_s (pc' := 30) (st' := [.int 1, .int 2]) rfl rfl rfl rfl ?_
    refine go_icmpP (t' := 38) (pc' := 31) rfl rfl rfl (fun _ => ?_) (fun (c : ¬ (¬ (2 : Int32) = 1)) => absurd (by decide) c)
    refine go_s (pc' := 39) rfl rfl rfl rfl ?_
    refine go_sget (pc' := 40) (v := .ref 24) hS rfl rfl rfl (by decide) rfl rfl ?_
    refine go_s (pc' := 41) rfl rfl rfl rfl ?_
    refine go_callV (pc' := 42) rfl rfl rfl (Nat.le_of_ble_eq_true rfl) rfl (sm_o hS rfl) rfl rfl rfl (ct_mstart_1 hS hW (by omega)) (fun r h7 q8 => ?_)
    obtain ⟨rfl, hS9, hE10⟩ := q8
    have hF11 := fr_trans hF1 (fr_e hE10)
    refine go_s (pc' := 43) (st' := [.int 1]) rfl rfl rfl rfl ?_
    refine go_ret rfl rfl ?_
    have hms : mrr2 1 (I, Q, Z) = (1, (uI (uI I 4 1 1) 6 1 0, Q, Z)) := if_pos c6
    rw [hms]
    refine ⟨rfl, (uX X 205 1 (.int 0)), ow, sb, sm_12 hS9 rfl, CD_5 (CD_fr hD hF11), ?_, fun l hl => Nat.le_trans (hQ l hl) hF11.1⟩
    have := co_fr (I := I) (J := uI (uI I 4 1 1) 6 1 0) hF11 rfl
    show co _ (uI (uI I 4 1 1) 6 1 0) ≤ B
    omega
  · skip
    refine go_s (pc' := 10) (st' := [.int 0]) rfl rfl rfl rfl ?_
    refine go_ret rfl rfl ?_
    have hms : mrr2 1 (I, Q, Z) = (0, (I, Q, Z)) := if_neg c6
    rw [hms]
    exact ⟨rfl, X, ow, sb, hS, hD, hB, hQ⟩
