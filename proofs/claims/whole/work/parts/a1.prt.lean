def bI (v : Int32) : Int32 := if v = 0 then 0 else 1
def mqpt (k : Nat) (x : Int32) (M : mM) : Int32 := if x = 30 then M.1 8 0 else if x = 0 then bI (M.1 0 k) else if x = 1 then bI (M.1 1 k) else if x = 2 then M.1 2 k else if k < 2 then (if x = 10 then bI (M.1 3 k) else if x = 20 then bI (M.1 4 k) else if x = 21 then bI (M.1 5 k) else if x = 22 then (if rv M.1 k = true then M.1 6 k else -1) else -1) else -1
theorem i32_012 {x : Int32} (h1 : ¬ x < 0) (h2 : ¬ 2 < x) (a : ¬ x = 0) (b : ¬ x = 1) (c : ¬ x = 2) : False := by
  rw [← Int32.toInt_inj] at a b c
  rw [Int32.lt_iff_toInt_lt] at h1 h2
  simp at a b c h1 h2
  omega
theorem i32_20 {x : Int32} (h1 : ¬ x < 20) (h2 : ¬ 22 < x) (a : ¬ x = 20) (b : ¬ x = 21) (c : ¬ x = 22) : False := by
  rw [← Int32.toInt_inj] at a b c
  rw [Int32.lt_iff_toInt_lt] at h1 h2
  simp at a b c h1 h2
  omega
theorem ct_pf_0_0 {w : Nat → Bool} {d : Nat} {h : am_Hp} {I : sm_I} {X : sm_X} (hS : sm tbc h I X) (hd : 1 ≤ d) : am_Ev (am_prog w) d 115 [.ref 1, .int 0, .int 0] h (fun r h' => r = some (.int (bI (I 0 0))) ∧ h' = h) := by
  obtain ⟨d, rfl⟩ : ∃ e, d = e + 1 := ⟨d - 1, by omega⟩
  refine ev_go rfl (Nat.le_of_ble_eq_true rfl) rfl ?_
  refine go_s (pc' := 1) rfl rfl rfl rfl ?_
  refine go_s (pc' := 2) (st' := [.int 2, .int 0]) rfl rfl rfl rfl ?_
  refine go_icmpP (t' := 9) (pc' := 3) rfl rfl rfl (fun _ => ?_) (fun (c : ¬ (¬ (0 : Int32) = 2)) => absurd (by decide) c)
  refine go_s (pc' := 10) rfl rfl rfl rfl ?_
  refine go_ifP (t' := 17) (pc' := 11) rfl rfl rfl (fun (c : ¬ (0 : Int32) = 0) => absurd c (by decide)) (fun _ => ?_)
  refine go_s (pc' := 12) rfl rfl rfl rfl ?_
  refine go_sget (pc' := 13) (v := .ref 2) hS rfl rfl rfl (by decide) rfl rfl ?_
  refine go_sget (pc' := 14) (v := .ref 3) hS rfl rfl rfl (by decide) rfl rfl ?_
  refine go_s (pc' := 15) rfl rfl rfl rfl ?_
  refine go_sald (pc' := 16) (q := 0) (v := .int (I 0 0)) hS rfl rfl rfl rfl (by decide) rfl rfl ?_
  refine go_s (pc' := 22) rfl rfl rfl rfl ?_
  refine go_s (pc' := 23) (lo' := [some (.ref 1), some (.int 0), some (.int 0), some (.int (I 0 0))]) rfl rfl rfl rfl ?_
  refine go_s (pc' := 24) rfl rfl rfl rfl ?_
  refine go_ifP (t' := 27) (pc' := 25) rfl rfl rfl (fun (c1 : (I 0 0) = 0) => ?_) (fun (c1 : ¬ (I 0 0) = 0) => ?_)
  · skip
    refine go_s (pc' := 28) (st' := [.int 0]) rfl rfl rfl rfl ?_
    refine go_ret rfl rfl ?_
    exact ⟨by simp [bI, c1], rfl⟩
  · skip
    refine go_s (pc' := 26) (st' := [.int 1]) rfl rfl rfl rfl ?_
    refine go_s (pc' := 28) rfl rfl rfl rfl ?_
    refine go_ret rfl rfl ?_
    exact ⟨by simp [bI, c1], rfl⟩
theorem ct_pf_0_1 {w : Nat → Bool} {d : Nat} {h : am_Hp} {I : sm_I} {X : sm_X} (hS : sm tbc h I X) (hd : 1 ≤ d) : am_Ev (am_prog w) d 115 [.ref 1, .int 1, .int 0] h (fun r h' => r = some (.int (bI (I 1 0))) ∧ h' = h) := by
  obtain ⟨d, rfl⟩ : ∃ e, d = e + 1 := ⟨d - 1, by omega⟩
  refine ev_go rfl (Nat.le_of_ble_eq_true rfl) rfl ?_
  refine go_s (pc' := 1) rfl rfl rfl rfl ?_
  refine go_s (pc' := 2) (st' := [.int 2, .int 1]) rfl rfl rfl rfl ?_
  refine go_icmpP (t' := 9) (pc' := 3) rfl rfl rfl (fun _ => ?_) (fun (c : ¬ (¬ (1 : Int32) = 2)) => absurd (by decide) c)
  refine go_s (pc' := 10) rfl rfl rfl rfl ?_
  refine go_ifP (t' := 17) (pc' := 11) rfl rfl rfl (fun _ => ?_) (fun (c : ¬ (¬ (1 : Int32) = 0)) => absurd (by decide) c)
  refine go_s (pc' := 18) rfl rfl rfl rfl ?_
  refine go_sget (pc' := 19) (v := .ref 2) hS rfl rfl rfl (by decide) rfl rfl ?_
  refine go_sget (pc' := 20) (v := .ref 4) hS rfl rfl rfl (by decide) rfl rfl ?_
  refine go_s (pc' := 21) rfl rfl rfl rfl ?_
  refine go_sald (pc' := 22) (q := 0) (v := .int (I 1 0)) hS rfl rfl rfl rfl (by decide) rfl rfl ?_
  refine go_s (pc' := 23) (lo' := [some (.ref 1), some (.int 1), some (.int 0), some (.int (I 1 0))]) rfl rfl rfl rfl ?_
  refine go_s (pc' := 24) rfl rfl rfl rfl ?_
  refine go_ifP (t' := 27) (pc' := 25) rfl rfl rfl (fun (c1 : (I 1 0) = 0) => ?_) (fun (c1 : ¬ (I 1 0) = 0) => ?_)
  · skip
    refine go_s (pc' := 28) (st' := [.int 0]) rfl rfl rfl rfl ?_
    refine go_ret rfl rfl ?_
    exact ⟨by simp [bI, c1], rfl⟩
  · skip
    refine go_s (pc' := 26) (st' := [.int 1]) rfl rfl rfl rfl ?_
    refine go_s (pc' := 28) rfl rfl rfl rfl ?_
    refine go_ret rfl rfl ?_
    exact ⟨by simp [bI, c1], rfl⟩
theorem ct_pf_0_2 {w : Nat → Bool} {d : Nat} {h : am_Hp} {I : sm_I} {X : sm_X} (hS : sm tbc h I X) (hd : 1 ≤ d) : am_Ev (am_prog w) d 115 [.ref 1, .int 2, .int 0] h (fun r h' => r = some (.int (I 2 0)) ∧ h' = h) := by
  obtain ⟨d, rfl⟩ : ∃ e, d = e + 1 := ⟨d - 1, by omega⟩
  refine ev_go rfl (Nat.le_of_ble_eq_true rfl) rfl ?_
  refine go_s (pc' := 1) rfl rfl rfl rfl ?_
  refine go_s (pc' := 2) (st' := [.int 2, .int 2]) rfl rfl rfl rfl ?_
  refine go_icmpP (t' := 9) (pc' := 3) rfl rfl rfl (fun (c : ¬ (2 : Int32) = 2) => absurd c (by decide)) (fun _ => ?_)
  refine go_s (pc' := 4) rfl rfl rfl rfl ?_
  refine go_sget (pc' := 5) (v := .ref 2) hS rfl rfl rfl (by decide) rfl rfl ?_
  refine go_sget (pc' := 6) (v := .ref 5) hS rfl rfl rfl (by decide) rfl rfl ?_
  refine go_s (pc' := 7) rfl rfl rfl rfl ?_
  refine go_sald (pc' := 8) (q := 0) (v := .int (I 2 0)) hS rfl rfl rfl rfl (by decide) rfl rfl ?_
  refine go_ret rfl rfl ?_
  exact ⟨rfl, rfl⟩
theorem ct_pf_1_0 {w : Nat → Bool} {d : Nat} {h : am_Hp} {I : sm_I} {X : sm_X} (hS : sm tbc h I X) (hd : 1 ≤ d) : am_Ev (am_prog w) d 115 [.ref 1, .int 0, .int 1] h (fun r h' => r = some (.int (bI (I 0 1))) ∧ h' = h) := by
  obtain ⟨d, rfl⟩ : ∃ e, d = e + 1 := ⟨d - 1, by omega⟩
  refine ev_go rfl (Nat.le_of_ble_eq_true rfl) rfl ?_
  refine go_s (pc' := 1) rfl rfl rfl rfl ?_
  refine go_s (pc' := 2) (st' := [.int 2, .int 0]) rfl rfl rfl rfl ?_
  refine go_icmpP (t' := 9) (pc' := 3) rfl rfl rfl (fun _ => ?_) (fun (c : ¬ (¬ (0 : Int32) = 2)) => absurd (by decide) c)
  refine go_s (pc' := 10) rfl rfl rfl rfl ?_
  refine go_ifP (t' := 17) (pc' := 11) rfl rfl rfl (fun (c : ¬ (0 : Int32) = 0) => absurd c (by decide)) (fun _ => ?_)
  refine go_s (pc' := 12) rfl rfl rfl rfl ?_
  refine go_sget (pc' := 13) (v := .ref 2) hS rfl rfl rfl (by decide) rfl rfl ?_
  refine go_sget (pc' := 14) (v := .ref 3) hS rfl rfl rfl (by decide) rfl rfl ?_
  refine go_s (pc' := 15) rfl rfl rfl rfl ?_
  refine go_sald (pc' := 16) (q := 1) (v := .int (I 0 1)) hS rfl rfl rfl rfl (by decide) rfl rfl ?_
  refine go_s (pc' := 22) rfl rfl rfl rfl ?_
  refine go_s (pc' := 23) (lo' := [some (.ref 1), some (.int 0), some (.int 1), some (.int (I 0 1))]) rfl rfl rfl rfl ?_
  refine go_s (pc' := 24) rfl rfl rfl rfl ?_
  refine go_ifP (t' := 27) (pc' := 25) rfl rfl rfl (fun (c1 : (I 0 1) = 0) => ?_) (fun (c1 : ¬ (I 0 1) = 0) => ?_)
  · skip
    refine go_s (pc' := 28) (st' := [.int 0]) rfl rfl rfl rfl ?_
    refine go_ret rfl rfl ?_
    exact ⟨by simp [bI, c1], rfl⟩
  · skip
    refine go_s (pc' := 26) (st' := [.int 1]) rfl rfl rfl rfl ?_
    refine go_s (pc' := 28) rfl rfl rfl rfl ?_
    refine go_ret rfl rfl ?_
    exact ⟨by simp [bI, c1], rfl⟩
theorem ct_pf_1_1 {w : Nat → Bool} {d : Nat} {h : am_Hp} {I : sm_I} {X : sm_X} (hS : sm tbc h I X) (hd : 1 ≤ d) : am_Ev (am_prog w) d 115 [.ref 1, .int 1, .int 1] h (fun r h' => r = some (.int (bI (I 1 1))) ∧ h' = h) := by
  obtain ⟨d, rfl⟩ : ∃ e, d = e + 1 := ⟨d - 1, by omega⟩
  refine ev_go rfl (Nat.le_of_ble_eq_true rfl) rfl ?_
  refine go_s (pc' := 1) rfl rfl rfl rfl ?_
  refine go_s (pc' := 2) (st' := [.int 2, .int 1]) rfl rfl rfl rfl ?_
  refine go_icmpP (t' := 9) (pc' := 3) rfl rfl rfl (fun _ => ?_) (fun (c : ¬ (¬ (1 : Int32) = 2)) => absurd (by decide) c)
  refine go_s (pc' := 10) rfl rfl rfl rfl ?_
  refine go_ifP (t' := 17) (pc' := 11) rfl rfl rfl (fun _ => ?_) (fun (c : ¬ (¬ (1 : Int32) = 0)) => absurd (by decide) c)
  refine go_s (pc' := 18) rfl rfl rfl rfl ?_
  refine go_sget (pc' := 19) (v := .ref 2) hS rfl rfl rfl (by decide) rfl rfl ?_
  refine go_sget (pc' := 20) (v := .ref 4) hS rfl rfl rfl (by decide) rfl rfl ?_
  refine go_s (pc' := 21) rfl rfl rfl rfl ?_
  refine go_sald (pc' := 22) (q := 1) (v := .int (I 1 1)) hS rfl rfl rfl rfl (by decide) rfl rfl ?_
  refine go_s (pc' := 23) (lo' := [some (.ref 1), some (.int 1), some (.int 1), some (.int (I 1 1))]) rfl rfl rfl rfl ?_
  refine go_s (pc' := 24) rfl rfl rfl rfl ?_
  refine go_ifP (t' := 27) (pc' := 25) rfl rfl rfl (fun (c1 : (I 1 1) = 0) => ?_) (fun (c1 : ¬ (I 1 1) = 0) => ?_)
  · skip
    refine go_s (pc' := 28) (st' := [.int 0]) rfl rfl rfl rfl ?_
    refine go_ret rfl rfl ?_
    exact ⟨by simp [bI, c1], rfl⟩
  · skip
    refine go_s (pc' := 26) (st' := [.int 1]) rfl rfl rfl rfl ?_
    refine go_s (pc' := 28) rfl rfl rfl rfl ?_
    refine go_ret rfl rfl ?_
    exact ⟨by simp [bI, c1], rfl⟩
theorem ct_pf_1_2 {w : Nat → Bool} {d : Nat} {h : am_Hp} {I : sm_I} {X : sm_X} (hS : sm tbc h I X) (hd : 1 ≤ d) : am_Ev (am_prog w) d 115 [.ref 1, .int 2, .int 1] h (fun r h' => r = some (.int (I 2 1)) ∧ h' = h) := by
  obtain ⟨d, rfl⟩ : ∃ e, d = e + 1 := ⟨d - 1, by omega⟩
  refine ev_go rfl (Nat.le_of_ble_eq_true rfl) rfl ?_
  refine go_s (pc' := 1) rfl rfl rfl rfl ?_
  refine go_s (pc' := 2) (st' := [.int 2, .int 2]) rfl rfl rfl rfl ?_
  refine go_icmpP (t' := 9) (pc' := 3) rfl rfl rfl (fun (c : ¬ (2 : Int32) = 2) => absurd c (by decide)) (fun _ => ?_)
  refine go_s (pc' := 4) rfl rfl rfl rfl ?_
  refine go_sget (pc' := 5) (v := .ref 2) hS rfl rfl rfl (by decide) rfl rfl ?_
  refine go_sget (pc' := 6) (v := .ref 5) hS rfl rfl rfl (by decide) rfl rfl ?_
  refine go_s (pc' := 7) rfl rfl rfl rfl ?_
  refine go_sald (pc' := 8) (q := 1) (v := .int (I 2 1)) hS rfl rfl rfl rfl (by decide) rfl rfl ?_
  refine go_ret rfl rfl ?_
  exact ⟨rfl, rfl⟩
theorem ct_pf_2_0 {w : Nat → Bool} {d : Nat} {h : am_Hp} {I : sm_I} {X : sm_X} (hS : sm tbc h I X) (hd : 1 ≤ d) : am_Ev (am_prog w) d 115 [.ref 1, .int 0, .int 2] h (fun r h' => r = some (.int (bI (I 0 2))) ∧ h' = h) := by
  obtain ⟨d, rfl⟩ : ∃ e, d = e + 1 := ⟨d - 1, by omega⟩
  refine ev_go rfl (Nat.le_of_ble_eq_true rfl) rfl ?_
  refine go_s (pc' := 1) rfl rfl rfl rfl ?_
  refine go_s (pc' := 2) (st' := [.int 2, .int 0]) rfl rfl rfl rfl ?_
  refine go_icmpP (t' := 9) (pc' := 3) rfl rfl rfl (fun _ => ?_) (fun (c : ¬ (¬ (0 : Int32) = 2)) => absurd (by decide) c)
  refine go_s (pc' := 10) rfl rfl rfl rfl ?_
  refine go_ifP (t' := 17) (pc' := 11) rfl rfl rfl (fun (c : ¬ (0 : Int32) = 0) => absurd c (by decide)) (fun _ => ?_)
  refine go_s (pc' := 12) rfl rfl rfl rfl ?_
  refine go_sget (pc' := 13) (v := .ref 2) hS rfl rfl rfl (by decide) rfl rfl ?_
  refine go_sget (pc' := 14) (v := .ref 3) hS rfl rfl rfl (by decide) rfl rfl ?_
  refine go_s (pc' := 15) rfl rfl rfl rfl ?_
  refine go_sald (pc' := 16) (q := 2) (v := .int (I 0 2)) hS rfl rfl rfl rfl (by decide) rfl rfl ?_
  refine go_s (pc' := 22) rfl rfl rfl rfl ?_
  refine go_s (pc' := 23) (lo' := [some (.ref 1), some (.int 0), some (.int 2), some (.int (I 0 2))]) rfl rfl rfl rfl ?_
  refine go_s (pc' := 24) rfl rfl rfl rfl ?_
  refine go_ifP (t' := 27) (pc' := 25) rfl rfl rfl (fun (c1 : (I 0 2) = 0) => ?_) (fun (c1 : ¬ (I 0 2) = 0) => ?_)
  · skip
    refine go_s (pc' := 28) (st' := [.int 0]) rfl rfl rfl rfl ?_
    refine go_ret rfl rfl ?_
    exact ⟨by simp [bI, c1], rfl⟩
  · skip
    refine go_s (pc' := 26) (st' := [.int 1]) rfl rfl rfl rfl ?_
    refine go_s (pc' := 28) rfl rfl rfl rfl ?_
    refine go_ret rfl rfl ?_
    exact ⟨by simp [bI, c1], rfl⟩
theorem ct_pf_2_1 {w : Nat → Bool} {d : Nat} {h : am_Hp} {I : sm_I} {X : sm_X} (hS : sm tbc h I X) (hd : 1 ≤ d) : am_Ev (am_prog w) d 115 [.ref 1, .int 1, .int 2] h (fun r h' => r = some (.int (bI (I 1 2))) ∧ h' = h) := by
  obtain ⟨d, rfl⟩ : ∃ e, d = e + 1 := ⟨d - 1, by omega⟩
  refine ev_go rfl (Nat.le_of_ble_eq_true rfl) rfl ?_
  refine go_s (pc' := 1) rfl rfl rfl rfl ?_
  refine go_s (pc' := 2) (st' := [.int 2, .int 1]) rfl rfl rfl rfl ?_
  refine go_icmpP (t' := 9) (pc' := 3) rfl rfl rfl (fun _ => ?_) (fun (c : ¬ (¬ (1 : Int32) = 2)) => absurd (by decide) c)
  refine go_s (pc' := 10) rfl rfl rfl rfl ?_
  refine go_ifP (t' := 17) (pc' := 11) rfl rfl rfl (fun _ => ?_) (fun (c : ¬ (¬ (1 : Int32) = 0)) => absurd (by decide) c)
  refine go_s (pc' := 18) rfl rfl rfl rfl ?_
  refine go_sget (pc' := 19) (v := .ref 2) hS rfl rfl rfl (by decide) rfl rfl ?_
  refine go_sget (pc' := 20) (v := .ref 4) hS rfl rfl rfl (by decide) rfl rfl ?_
  refine go_s (pc' := 21) rfl rfl rfl rfl ?_
  refine go_sald (pc' := 22) (q := 2) (v := .int (I 1 2)) hS rfl rfl rfl rfl (by decide) rfl rfl ?_
  refine go_s (pc' := 23) (lo' := [some (.ref 1), some (.int 1), some (.int 2), some (.int (I 1 2))]) rfl rfl rfl rfl ?_
  refine go_s (pc' := 24) rfl rfl rfl rfl ?_
  refine go_ifP (t' := 27) (pc' := 25) rfl rfl rfl (fun (c1 : (I 1 2) = 0) => ?_) (fun (c1 : ¬ (I 1 2) = 0) => ?_)
  · skip
    refine go_s (pc' := 28) (st' := [.int 0]) rfl rfl rfl rfl ?_
    refine go_ret rfl rfl ?_
    exact ⟨by simp [bI, c1], rfl⟩
  · skip
    refine go_s (pc' := 26) (st' := [.int 1]) rfl rfl rfl rfl ?_
    refine go_s (pc' := 28) rfl rfl rfl rfl ?_
    refine go_ret rfl rfl ?_
    exact ⟨by simp [bI, c1], rfl⟩
theorem ct_pf_2_2 {w : Nat → Bool} {d : Nat} {h : am_Hp} {I : sm_I} {X : sm_X} (hS : sm tbc h I X) (hd : 1 ≤ d) : am_Ev (am_prog w) d 115 [.ref 1, .int 2, .int 2] h (fun r h' => r = some (.int (I 2 2)) ∧ h' = h) := by
  obtain ⟨d, rfl⟩ : ∃ e, d = e + 1 := ⟨d - 1, by omega⟩
  refine ev_go rfl (Nat.le_of_ble_eq_true rfl) rfl ?_
  refine go_s (pc' := 1) rfl rfl rfl rfl ?_
  refine go_s (pc' := 2) (st' := [.int 2, .int 2]) rfl rfl rfl rfl ?_
  refine go_icmpP (t' := 9) (pc' := 3) rfl rfl rfl (fun (c : ¬ (2 : Int32) = 2) => absurd c (by decide)) (fun _ => ?_)
  refine go_s (pc' := 4) rfl rfl rfl rfl ?_
  refine go_sget (pc' := 5) (v := .ref 2) hS rfl rfl rfl (by decide) rfl rfl ?_
  refine go_sget (pc' := 6) (v := .ref 5) hS rfl rfl rfl (by decide) rfl rfl ?_
  refine go_s (pc' := 7) rfl rfl rfl rfl ?_
  refine go_sald (pc' := 8) (q := 2) (v := .int (I 2 2)) hS rfl rfl rfl rfl (by decide) rfl rfl ?_
  refine go_ret rfl rfl ?_
  exact ⟨rfl, rfl⟩
theorem ct_pf_3_0 {w : Nat → Bool} {d : Nat} {h : am_Hp} {I : sm_I} {X : sm_X} (hS : sm tbc h I X) (hd : 1 ≤ d) : am_Ev (am_prog w) d 115 [.ref 1, .int 0, .int 3] h (fun r h' => r = some (.int (bI (I 0 3))) ∧ h' = h) := by
  obtain ⟨d, rfl⟩ : ∃ e, d = e + 1 := ⟨d - 1, by omega⟩
  refine ev_go rfl (Nat.le_of_ble_eq_true rfl) rfl ?_
  refine go_s (pc' := 1) rfl rfl rfl rfl ?_
  refine go_s (pc' := 2) (st' := [.int 2, .int 0]) rfl rfl rfl rfl ?_
  refine go_icmpP (t' := 9) (pc' := 3) rfl rfl rfl (fun _ => ?_) (fun (c : ¬ (¬ (0 : Int32) = 2)) => absurd (by decide) c)
  refine go_s (pc' := 10) rfl rfl rfl rfl ?_
  refine go_ifP (t' := 17) (pc' := 11) rfl rfl rfl (fun (c : ¬ (0 : Int32) = 0) => absurd c (by decide)) (fun _ => ?_)
  refine go_s (pc' := 12) rfl rfl rfl rfl ?_
  refine go_sget (pc' := 13) (v := .ref 2) hS rfl rfl rfl (by decide) rfl rfl ?_
  refine go_sget (pc' := 14) (v := .ref 3) hS rfl rfl rfl (by decide) rfl rfl ?_
  refine go_s (pc' := 15) rfl rfl rfl rfl ?_
  refine go_sald (pc' := 16) (q := 3) (v := .int (I 0 3)) hS rfl rfl rfl rfl (by decide) rfl rfl ?_
  refine go_s (pc' := 22) rfl rfl rfl rfl ?_
  refine go_s (pc' := 23) (lo' := [some (.ref 1), some (.int 0), some (.int 3), some (.int (I 0 3))]) rfl rfl rfl rfl ?_
  refine go_s (pc' := 24) rfl rfl rfl rfl ?_
  refine go_ifP (t' := 27) (pc' := 25) rfl rfl rfl (fun (c1 : (I 0 3) = 0) => ?_) (fun (c1 : ¬ (I 0 3) = 0) => ?_)
  · skip
    refine go_s (pc' := 28) (st' := [.int 0]) rfl rfl rfl rfl ?_
    refine go_ret rfl rfl ?_
    exact ⟨by simp [bI, c1], rfl⟩
  · skip
    refine go_s (pc' := 26) (st' := [.int 1]) rfl rfl rfl rfl ?_
    refine go_s (pc' := 28) rfl rfl rfl rfl ?_
    refine go_ret rfl rfl ?_
    exact ⟨by simp [bI, c1], rfl⟩
theorem ct_pf_3_1 {w : Nat → Bool} {d : Nat} {h : am_Hp} {I : sm_I} {X : sm_X} (hS : sm tbc h I X) (hd : 1 ≤ d) : am_Ev (am_prog w) d 115 [.ref 1, .int 1, .int 3] h (fun r h' => r = some (.int (bI (I 1 3))) ∧ h' = h) := by
  obtain ⟨d, rfl⟩ : ∃ e, d = e + 1 := ⟨d - 1, by omega⟩
  refine ev_go rfl (Nat.le_of_ble_eq_true rfl) rfl ?_
  refine go_s (pc' := 1) rfl rfl rfl rfl ?_
  refine go_s (pc' := 2) (st' := [.int 2, .int 1]) rfl rfl rfl rfl ?_
  refine go_icmpP (t' := 9) (pc' := 3) rfl rfl rfl (fun _ => ?_) (fun (c : ¬ (¬ (1 : Int32) = 2)) => absurd (by decide) c)
  refine go_s (pc' := 10) rfl rfl rfl rfl ?_
  refine go_ifP (t' := 17) (pc' := 11) rfl rfl rfl (fun _ => ?_) (fun (c : ¬ (¬ (1 : Int32) = 0)) => absurd (by decide) c)
  refine go_s (pc' := 18) rfl rfl rfl rfl ?_
  refine go_sget (pc' := 19) (v := .ref 2) hS rfl rfl rfl (by decide) rfl rfl ?_
  refine go_sget (pc' := 20) (v := .ref 4) hS rfl rfl rfl (by decide) rfl rfl ?_
  refine go_s (pc' := 21) rfl rfl rfl rfl ?_
  refine go_sald (pc' := 22) (q := 3) (v := .int (I 1 3)) hS rfl rfl rfl rfl (by decide) rfl rfl ?_
  refine go_s (pc' := 23) (lo' := [some (.ref 1), some (.int 1), some (.int 3), some (.int (I 1 3))]) rfl rfl rfl rfl ?_
  refine go_s (pc' := 24) rfl rfl rfl rfl ?_
  refine go_ifP (t' := 27) (pc' := 25) rfl rfl rfl (fun (c1 : (I 1 3) = 0) => ?_) (fun (c1 : ¬ (I 1 3) = 0) => ?_)
  · skip
    refine go_s (pc' := 28) (st' := [.int 0]) rfl rfl rfl rfl ?_
    refine go_ret rfl rfl ?_
    exact ⟨by simp [bI, c1], rfl⟩
  · skip
    refine go_s (pc' := 26) (st' := [.int 1]) rfl rfl rfl rfl ?_
    refine go_s (pc' := 28) rfl rfl rfl rfl ?_
    refine go_ret rfl rfl ?_
    exact ⟨by simp [bI, c1], rfl⟩
theorem ct_pf_3_2 {w : Nat → Bool} {d : Nat} {h : am_Hp} {I : sm_I} {X : sm_X} (hS : sm tbc h I X) (hd : 1 ≤ d) : am_Ev (am_prog w) d 115 [.ref 1, .int 2, .int 3] h (fun r h' => r = some (.int (I 2 3)) ∧ h' = h) := by
  obtain ⟨d, rfl⟩ : ∃ e, d = e + 1 := ⟨d - 1, by omega⟩
  refine ev_go rfl (Nat.le_of_ble_eq_true rfl) rfl ?_
  refine go_s (pc' := 1) rfl rfl rfl rfl ?_
  refine go_s (pc' := 2) (st' := [.int 2, .int 2]) rfl rfl rfl rfl ?_
  refine go_icmpP (t' := 9) (pc' := 3) rfl rfl rfl (fun (c : ¬ (2 : Int32) = 2) => absurd c (by decide)) (fun _ => ?_)
  refine go_s (pc' := 4) rfl rfl rfl rfl ?_
  refine go_sget (pc' := 5) (v := .ref 2) hS rfl rfl rfl (by decide) rfl rfl ?_
  refine go_sget (pc' := 6) (v := .ref 5) hS rfl rfl rfl (by decide) rfl rfl ?_
  refine go_s (pc' := 7) rfl rfl rfl rfl ?_
  refine go_sald (pc' := 8) (q := 3) (v := .int (I 2 3)) hS rfl rfl rfl rfl (by decide) rfl rfl ?_
  refine go_ret rfl rfl ?_
  exact ⟨rfl, rfl⟩
theorem ct_df_0_20 {w : Nat → Bool} {d : Nat} {h : am_Hp} {I : sm_I} {X : sm_X} (hS : sm tbc h I X) (hd : 3 ≤ d) : am_Ev (am_prog w) d 116 [.ref 1, .int 20, .int 0] h (fun r h' => r = some (.int (bI (I 4 0))) ∧ h' = h) := by
  obtain ⟨d, rfl⟩ : ∃ e, d = e + 1 := ⟨d - 1, by omega⟩
  refine ev_go rfl (Nat.le_of_ble_eq_true rfl) rfl ?_
  refine go_s (pc' := 1) rfl rfl rfl rfl ?_
  refine go_s (pc' := 2) (st' := [.int 22, .int 20]) rfl rfl rfl rfl ?_
  refine go_icmpP (t' := 16) (pc' := 3) rfl rfl rfl (fun _ => ?_) (fun (c : ¬ (¬ (20 : Int32) = 22)) => absurd (by decide) c)
  refine go_s (pc' := 17) rfl rfl rfl rfl ?_
  refine go_s (pc' := 18) (st' := [.int 20, .int 20]) rfl rfl rfl rfl ?_
  refine go_icmpP (t' := 25) (pc' := 19) rfl rfl rfl (fun (c : ¬ (20 : Int32) = 20) => absurd c (by decide)) (fun _ => ?_)
  refine go_s (pc' := 20) rfl rfl rfl rfl ?_
  refine go_sget (pc' := 21) (v := .ref 24) hS rfl rfl rfl (by decide) rfl rfl ?_
  refine go_sget (pc' := 22) (v := .ref 25) hS rfl rfl rfl (by decide) rfl rfl ?_
  refine go_s (pc' := 23) rfl rfl rfl rfl ?_
  refine go_sald (pc' := 24) (q := 0) (v := .int (I 4 0)) hS rfl rfl rfl rfl (by decide) rfl rfl ?_
  refine go_s (pc' := 30) rfl rfl rfl rfl ?_
  refine go_s (pc' := 31) (lo' := [some (.ref 1), some (.int 20), some (.int 0), some (.int (I 4 0))]) rfl rfl rfl rfl ?_
  refine go_s (pc' := 32) rfl rfl rfl rfl ?_
  refine go_ifP (t' := 35) (pc' := 33) rfl rfl rfl (fun (c1 : (I 4 0) = 0) => ?_) (fun (c1 : ¬ (I 4 0) = 0) => ?_)
  · skip
    refine go_s (pc' := 36) (st' := [.int 0]) rfl rfl rfl rfl ?_
    refine go_ret rfl rfl ?_
    exact ⟨by simp [bI, c1], rfl⟩
  · skip
    refine go_s (pc' := 34) (st' := [.int 1]) rfl rfl rfl rfl ?_
    refine go_s (pc' := 36) rfl rfl rfl rfl ?_
    refine go_ret rfl rfl ?_
    exact ⟨by simp [bI, c1], rfl⟩
theorem ct_df_0_21 {w : Nat → Bool} {d : Nat} {h : am_Hp} {I : sm_I} {X : sm_X} (hS : sm tbc h I X) (hd : 3 ≤ d) : am_Ev (am_prog w) d 116 [.ref 1, .int 21, .int 0] h (fun r h' => r = some (.int (bI (I 5 0))) ∧ h' = h) := by
  obtain ⟨d, rfl⟩ : ∃ e, d = e + 1 := ⟨d - 1, by omega⟩
  refine ev_go rfl (Nat.le_of_ble_eq_true rfl) rfl ?_
  refine go_s (pc' := 1) rfl rfl rfl rfl ?_
  refine go_s (pc' := 2) (st' := [.int 22, .int 21]) rfl rfl rfl rfl ?_
  refine go_icmpP (t' := 16) (pc' := 3) rfl rfl rfl (fun _ => ?_) (fun (c : ¬ (¬ (21 : Int32) = 22)) => absurd (by decide) c)
  refine go_s (pc' := 17) rfl rfl rfl rfl ?_
  refine go_s (pc' := 18) (st' := [.int 20, .int 21]) rfl rfl rfl rfl ?_
  refine go_icmpP (t' := 25) (pc' := 19) rfl rfl rfl (fun _ => ?_) (fun (c : ¬ (¬ (21 : Int32) = 20)) => absurd (by decide) c)
  refine go_s (pc' := 26) rfl rfl rfl rfl ?_
  refine go_sget (pc' := 27) (v := .ref 24) hS rfl rfl rfl (by decide) rfl rfl ?_
  refine go_sget (pc' := 28) (v := .ref 26) hS rfl rfl rfl (by decide) rfl rfl ?_
  refine go_s (pc' := 29) rfl rfl rfl rfl ?_
  refine go_sald (pc' := 30) (q := 0) (v := .int (I 5 0)) hS rfl rfl rfl rfl (by decide) rfl rfl ?_
  refine go_s (pc' := 31) (lo' := [some (.ref 1), some (.int 21), some (.int 0), some (.int (I 5 0))]) rfl rfl rfl rfl ?_
  refine go_s (pc' := 32) rfl rfl rfl rfl ?_
  refine go_ifP (t' := 35) (pc' := 33) rfl rfl rfl (fun (c1 : (I 5 0) = 0) => ?_) (fun (c1 : ¬ (I 5 0) = 0) => ?_)
  · skip
    refine go_s (pc' := 36) (st' := [.int 0]) rfl rfl rfl rfl ?_
    refine go_ret rfl rfl ?_
    exact ⟨by simp [bI, c1], rfl⟩
  · skip
    refine go_s (pc' := 34) (st' := [.int 1]) rfl rfl rfl rfl ?_
    refine go_s (pc' := 36) rfl rfl rfl rfl ?_
    refine go_ret rfl rfl ?_
    exact ⟨by simp [bI, c1], rfl⟩
theorem ct_df_0_22 {w : Nat → Bool} {d : Nat} {h : am_Hp} {I : sm_I} {X : sm_X} (hS : sm tbc h I X) {n : Int32} (hn : X 205 0 = .int n) (hn6 : ¬ I 4 0 = 0 → n = I 6 0) (hd : 3 ≤ d) : am_Ev (am_prog w) d 116 [.ref 1, .int 22, .int 0] h (fun r h' => r = some (.int (if rv I 0 = true then I 6 0 else -1)) ∧ h' = h) := by
  obtain ⟨d, rfl⟩ : ∃ e, d = e + 1 := ⟨d - 1, by omega⟩
  refine ev_go rfl (Nat.le_of_ble_eq_true rfl) rfl ?_
  refine go_s (pc' := 1) rfl rfl rfl rfl ?_
  refine go_s (pc' := 2) (st' := [.int 22, .int 22]) rfl rfl rfl rfl ?_
  refine go_icmpP (t' := 16) (pc' := 3) rfl rfl rfl (fun (c : ¬ (22 : Int32) = 22) => absurd c (by decide)) (fun _ => ?_)
  refine go_s (pc' := 4) rfl rfl rfl rfl ?_
  refine go_sget (pc' := 5) (v := .ref 24) hS rfl rfl rfl (by decide) rfl rfl ?_
  refine go_s (pc' := 6) rfl rfl rfl rfl ?_
  refine go_callV (pc' := 7) rfl rfl rfl (Nat.le_of_ble_eq_true rfl) rfl (sm_o hS rfl) rfl rfl rfl (ct_rv_0 hS (by omega)) (fun r h1 q2 => ?_)
  obtain ⟨rfl, rfl⟩ := q2
  cases u3 : rv I 0
  · skip
    show am_Go _ _ _ _ 7 _ [.int 0] _ _
    refine go_ifP (t' := 14) (pc' := 8) rfl rfl rfl (fun _ => ?_) (fun (c : ¬ ((0 : Int32) = 0)) => absurd (by decide) c)
    refine go_s (pc' := 15) (st' := [.int (-1)]) rfl rfl rfl rfl ?_
    refine go_ret rfl rfl ?_
    exact ⟨by rfl, rfl⟩
  · skip
    show am_Go _ _ _ _ 7 _ [.int 1] _ _
    refine go_ifP (t' := 14) (pc' := 8) rfl rfl rfl (fun (c : (1 : Int32) = 0) => absurd c (by decide)) (fun _ => ?_)
    refine go_s (pc' := 9) rfl rfl rfl rfl ?_
    refine go_sget (pc' := 10) (v := .ref 24) hS rfl rfl rfl (by decide) rfl rfl ?_
    refine go_sget (pc' := 11) (v := .ref 27) hS rfl rfl rfl (by decide) rfl rfl ?_
    refine go_s (pc' := 12) rfl rfl rfl rfl ?_
    refine go_sald (pc' := 13) (q := 0) (v := .int n) hS rfl rfl rfl rfl (by decide) hn rfl ?_
    refine go_s (pc' := 15) rfl rfl rfl rfl ?_
    refine go_ret rfl rfl ?_
    exact ⟨by rw [hn6 (by have z := u3; unfold rv at z; simp at z; exact z.1.1)]; rfl, rfl⟩
theorem ct_df_1_20 {w : Nat → Bool} {d : Nat} {h : am_Hp} {I : sm_I} {X : sm_X} (hS : sm tbc h I X) (hd : 3 ≤ d) : am_Ev (am_prog w) d 116 [.ref 1, .int 20, .int 1] h (fun r h' => r = some (.int (bI (I 4 1))) ∧ h' = h) := by
  obtain ⟨d, rfl⟩ : ∃ e, d = e + 1 := ⟨d - 1, by omega⟩
  refine ev_go rfl (Nat.le_of_ble_eq_true rfl) rfl ?_
  refine go_s (pc' := 1) rfl rfl rfl rfl ?_
  refine go_s (pc' := 2) (st' := [.int 22, .int 20]) rfl rfl rfl rfl ?_
  refine go_icmpP (t' := 16) (pc' := 3) rfl rfl rfl (fun _ => ?_) (fun (c : ¬ (¬ (20 : Int32) = 22)) => absurd (by decide) c)
  refine go_s (pc' := 17) rfl rfl rfl rfl ?_
  refine go_s (pc' := 18) (st' := [.int 20, .int 20]) rfl rfl rfl rfl ?_
  refine go_icmpP (t' := 25) (pc' := 19) rfl rfl rfl (fun (c : ¬ (20 : Int32) = 20) => absurd c (by decide)) (fun _ => ?_)
  refine go_s (pc' := 20) rfl rfl rfl rfl ?_
  refine go_sget (pc' := 21) (v := .ref 24) hS rfl rfl rfl (by decide) rfl rfl ?_
  refine go_sget (pc' := 22) (v := .ref 25) hS rfl rfl rfl (by decide) rfl rfl ?_
  refine go_s (pc' := 23) rfl rfl rfl rfl ?_
  refine go_sald (pc' := 24) (q := 1) (v := .int (I 4 1)) hS rfl rfl rfl rfl (by decide) rfl rfl ?_
  refine go_s (pc' := 30) rfl rfl rfl rfl ?_
  refine go_s (pc' := 31) (lo' := [some (.ref 1), some (.int 20), some (.int 1), some (.int (I 4 1))]) rfl rfl rfl rfl ?_
  refine go_s (pc' := 32) rfl rfl rfl rfl ?_
  refine go_ifP (t' := 35) (pc' := 33) rfl rfl rfl (fun (c1 : (I 4 1) = 0) => ?_) (fun (c1 : ¬ (I 4 1) = 0) => ?_)
  · skip
    refine go_s (pc' := 36) (st' := [.int 0]) rfl rfl rfl rfl ?_
    refine go_ret rfl rfl ?_
    exact ⟨by simp [bI, c1], rfl⟩
  · skip
    refine go_s (pc' := 34) (st' := [.int 1]) rfl rfl rfl rfl ?_
    refine go_s (pc' := 36) rfl rfl rfl rfl ?_
    refine go_ret rfl rfl ?_
    exact ⟨by simp [bI, c1], rfl⟩
theorem ct_df_1_21 {w : Nat → Bool} {d : Nat} {h : am_Hp} {I : sm_I} {X : sm_X} (hS : sm tbc h I X) (hd : 3 ≤ d) : am_Ev (am_prog w) d 116 [.ref 1, .int 21, .int 1] h (fun r h' => r = some (.int (bI (I 5 1))) ∧ h' = h) := by
  obtain ⟨d, rfl⟩ : ∃ e, d = e + 1 := ⟨d - 1, by omega⟩
  refine ev_go rfl (Nat.le_of_ble_eq_true rfl) rfl ?_
  refine go_s (pc' := 1) rfl rfl rfl rfl ?_
  refine go_s (pc' := 2) (st' := [.int 22, .int 21]) rfl rfl rfl rfl ?_
  refine go_icmpP (t' := 16) (pc' := 3) rfl rfl rfl (fun _ => ?_) (fun (c : ¬ (¬ (21 : Int32) = 22)) => absurd (by decide) c)
  refine go_s (pc' := 17) rfl rfl rfl rfl ?_
  refine go_s (pc' := 18) (st' := [.int 20, .int 21]) rfl rfl rfl rfl ?_
  refine go_icmpP (t' := 25) (pc' := 19) rfl rfl rfl (fun _ => ?_) (fun (c : ¬ (¬ (21 : Int32) = 20)) => absurd (by decide) c)
  refine go_s (pc' := 26) rfl rfl rfl rfl ?_
  refine go_sget (pc' := 27) (v := .ref 24) hS rfl rfl rfl (by decide) rfl rfl ?_
  refine go_sget (pc' := 28) (v := .ref 26) hS rfl rfl rfl (by decide) rfl rfl ?_
  refine go_s (pc' := 29) rfl rfl rfl rfl ?_
  refine go_sald (pc' := 30) (q := 1) (v := .int (I 5 1)) hS rfl rfl rfl rfl (by decide) rfl rfl ?_
  refine go_s (pc' := 31) (lo' := [some (.ref 1), some (.int 21), some (.int 1), some (.int (I 5 1))]) rfl rfl rfl rfl ?_
  refine go_s (pc' := 32) rfl rfl rfl rfl ?_
  refine go_ifP (t' := 35) (pc' := 33) rfl rfl rfl (fun (c1 : (I 5 1) = 0) => ?_) (fun (c1 : ¬ (I 5 1) = 0) => ?_)
  · skip
    refine go_s (pc' := 36) (st' := [.int 0]) rfl rfl rfl rfl ?_
    refine go_ret rfl rfl ?_
    exact ⟨by simp [bI, c1], rfl⟩
  · skip
    refine go_s (pc' := 34) (st' := [.int 1]) rfl rfl rfl rfl ?_
    refine go_s (pc' := 36) rfl rfl rfl rfl ?_
    refine go_ret rfl rfl ?_
    exact ⟨by simp [bI, c1], rfl⟩
theorem ct_df_1_22 {w : Nat → Bool} {d : Nat} {h : am_Hp} {I : sm_I} {X : sm_X} (hS : sm tbc h I X) {n : Int32} (hn : X 205 1 = .int n) (hn6 : ¬ I 4 1 = 0 → n = I 6 1) (hd : 3 ≤ d) : am_Ev (am_prog w) d 116 [.ref 1, .int 22, .int 1] h (fun r h' => r = some (.int (if rv I 1 = true then I 6 1 else -1)) ∧ h' = h) := by
  obtain ⟨d, rfl⟩ : ∃ e, d = e + 1 := ⟨d - 1, by omega⟩
  refine ev_go rfl (Nat.le_of_ble_eq_true rfl) rfl ?_
  refine go_s (pc' := 1) rfl rfl rfl rfl ?_
  refine go_s (pc' := 2) (st' := [.int 22, .int 22]) rfl rfl rfl rfl ?_
  refine go_icmpP (t' := 16) (pc' := 3) rfl rfl rfl (fun (c : ¬ (22 : Int32) = 22) => absurd c (by decide)) (fun _ => ?_)
  refine go_s (pc' := 4) rfl rfl rfl rfl ?_
  refine go_sget (pc' := 5) (v := .ref 24) hS rfl rfl rfl (by decide) rfl rfl ?_
  refine go_s (pc' := 6) rfl rfl rfl rfl ?_
  refine go_callV (pc' := 7) rfl rfl rfl (Nat.le_of_ble_eq_true rfl) rfl (sm_o hS rfl) rfl rfl rfl (ct_rv_1 hS (by omega)) (fun r h1 q2 => ?_)
  obtain ⟨rfl, rfl⟩ := q2
  cases u3 : rv I 1
  · skip
    show am_Go _ _ _ _ 7 _ [.int 0] _ _
    refine go_ifP (t' := 14) (pc' := 8) rfl rfl rfl (fun _ => ?_) (fun (c : ¬ ((0 : Int32) = 0)) => absurd (by decide) c)
    refine go_s (pc' := 15) (st' := [.int (-1)]) rfl rfl rfl rfl ?_
    refine go_ret rfl rfl ?_
    exact ⟨by rfl, rfl⟩
  · skip
    show am_Go _ _ _ _ 7 _ [.int 1] _ _
    refine go_ifP (t' := 14) (pc' := 8) rfl rfl rfl (fun (c : (1 : Int32) = 0) => absurd c (by decide)) (fun _ => ?_)
    refine go_s (pc' := 9) rfl rfl rfl rfl ?_
    refine go_sget (pc' := 10) (v := .ref 24) hS rfl rfl rfl (by decide) rfl rfl ?_
    refine go_sget (pc' := 11) (v := .ref 27) hS rfl rfl rfl (by decide) rfl rfl ?_
    refine go_s (pc' := 12) rfl rfl rfl rfl ?_
    refine go_sald (pc' := 13) (q := 1) (v := .int n) hS rfl rfl rfl rfl (by decide) hn rfl ?_
    refine go_s (pc' := 15) rfl rfl rfl rfl ?_
    refine go_ret rfl rfl ?_
    exact ⟨by rw [hn6 (by have z := u3; unfold rv at z; simp at z; exact z.1.1)]; rfl, rfl⟩
theorem ca_prt_0_30 {w : Nat → Bool} {d : Nat} {h : am_Hp} {m0 : mg} {B : Nat} {I : sm_I} {Q : mQ} {Z : mZ} (hC : CA w 32 m0 B h (I, Q, Z)) (hB2 : B < 2 ^ 26) (hd : 4 ≤ d) : am_Ev (am_prog w) d 114 [.ref 1, .int 30, .int 0] h (fun r h' => r = some (.int (mqpt 0 30 (I, Q, Z))) ∧ h' = h) := by
  obtain ⟨X, ow, sb, hS, hD, hB, hQ⟩ := hC
  change sm tbc h I X at hS
  change CD w 32 m0 h I Q Z X ow sb at hD
  change co h I ≤ B at hB
  change ∀ l, l < 16 → (Q l).length ≤ h.length at hQ
  have hW := hD.1.1
  have hWn : ∀ a, List.length h ≤ a → w a = true := fun a ha => (hD.1.2.1 a ha).1
  have hF1 := fr_refl tbc h
  have hln : 62 ≤ List.length h := sm_len hS
  obtain ⟨d, rfl⟩ : ∃ e, d = e + 1 := ⟨d - 1, by omega⟩
  refine ev_go rfl (Nat.le_of_ble_eq_true rfl) rfl ?_
  refine go_s (pc' := 1) rfl rfl rfl rfl ?_
  refine go_s (pc' := 2) (st' := [.int 30, .int 30]) rfl rfl rfl rfl ?_
  refine go_icmpP (t' := 6) (pc' := 3) rfl rfl rfl (fun (c : ¬ (30 : Int32) = 30) => absurd c (by decide)) (fun _ => ?_)
  refine go_s (pc' := 4) rfl rfl rfl rfl ?_
  refine go_sget (pc' := 5) (v := .int (I 8 0)) hS rfl rfl rfl (by decide) rfl rfl ?_
  refine go_ret rfl rfl ?_
  exact ⟨rfl, rfl⟩
theorem ca_prt_0_0 {w : Nat → Bool} {d : Nat} {h : am_Hp} {m0 : mg} {B : Nat} {I : sm_I} {Q : mQ} {Z : mZ} (hC : CA w 32 m0 B h (I, Q, Z)) (hB2 : B < 2 ^ 26) (hd : 4 ≤ d) : am_Ev (am_prog w) d 114 [.ref 1, .int 0, .int 0] h (fun r h' => r = some (.int (mqpt 0 0 (I, Q, Z))) ∧ h' = h) := by
  obtain ⟨X, ow, sb, hS, hD, hB, hQ⟩ := hC
  change sm tbc h I X at hS
  change CD w 32 m0 h I Q Z X ow sb at hD
  change co h I ≤ B at hB
  change ∀ l, l < 16 → (Q l).length ≤ h.length at hQ
  have hW := hD.1.1
  have hWn : ∀ a, List.length h ≤ a → w a = true := fun a ha => (hD.1.2.1 a ha).1
  have hF1 := fr_refl tbc h
  have hln : 62 ≤ List.length h := sm_len hS
  obtain ⟨d, rfl⟩ : ∃ e, d = e + 1 := ⟨d - 1, by omega⟩
  refine ev_go rfl (Nat.le_of_ble_eq_true rfl) rfl ?_
  refine go_s (pc' := 1) rfl rfl rfl rfl ?_
  refine go_s (pc' := 2) (st' := [.int 30, .int 0]) rfl rfl rfl rfl ?_
  refine go_icmpP (t' := 6) (pc' := 3) rfl rfl rfl (fun _ => ?_) (fun (c : ¬ (¬ (0 : Int32) = 30)) => absurd (by decide) c)
  refine go_s (pc' := 7) rfl rfl rfl rfl ?_
  refine go_ifP (t' := 20) (pc' := 8) rfl rfl rfl (fun (c : (0 : Int32) < 0) => absurd c (by decide)) (fun _ => ?_)
  refine go_s (pc' := 9) rfl rfl rfl rfl ?_
  refine go_s (pc' := 10) (st' := [.int 2, .int 0]) rfl rfl rfl rfl ?_
  refine go_icmpP (t' := 20) (pc' := 11) rfl rfl rfl (fun (c : 2 < (0 : Int32)) => absurd c (by decide)) (fun _ => ?_)
  refine go_s (pc' := 12) rfl rfl rfl rfl ?_
  refine go_s (pc' := 13) (st' := [.int 4, .int 0]) rfl rfl rfl rfl ?_
  refine go_callS (pc' := 14) rfl rfl rfl (Nat.le_of_ble_eq_true rfl) rfl rfl rfl (ct_within_t (q := 0) (n := 4) (by decide) (by decide) (by omega)) (fun r h2 q3 => ?_)
  obtain ⟨rfl, rfl⟩ := q3
  refine go_ifP (t' := 20) (pc' := 15) rfl rfl rfl (fun (c : (1 : Int32) = 0) => absurd c (by decide)) (fun _ => ?_)
  refine go_s (pc' := 16) rfl rfl rfl rfl ?_
  refine go_s (pc' := 17) rfl rfl rfl rfl ?_
  refine go_s (pc' := 18) rfl rfl rfl rfl ?_
  refine go_callV (pc' := 19) rfl rfl rfl (Nat.le_of_ble_eq_true rfl) rfl (sm_o hS rfl) rfl rfl rfl (ct_pf_0_0 hS (by omega)) (fun r h4 q5 => ?_)
  obtain ⟨rfl, rfl⟩ := q5
  refine go_ret rfl rfl ?_
  exact ⟨rfl, rfl⟩
theorem ca_prt_0_1 {w : Nat → Bool} {d : Nat} {h : am_Hp} {m0 : mg} {B : Nat} {I : sm_I} {Q : mQ} {Z : mZ} (hC : CA w 32 m0 B h (I, Q, Z)) (hB2 : B < 2 ^ 26) (hd : 4 ≤ d) : am_Ev (am_prog w) d 114 [.ref 1, .int 1, .int 0] h (fun r h' => r = some (.int (mqpt 0 1 (I, Q, Z))) ∧ h' = h) := by
  obtain ⟨X, ow, sb, hS, hD, hB, hQ⟩ := hC
  change sm tbc h I X at hS
  change CD w 32 m0 h I Q Z X ow sb at hD
  change co h I ≤ B at hB
  change ∀ l, l < 16 → (Q l).length ≤ h.length at hQ
  have hW := hD.1.1
  have hWn : ∀ a, List.length h ≤ a → w a = true := fun a ha => (hD.1.2.1 a ha).1
  have hF1 := fr_refl tbc h
  have hln : 62 ≤ List.length h := sm_len hS
  obtain ⟨d, rfl⟩ : ∃ e, d = e + 1 := ⟨d - 1, by omega⟩
  refine ev_go rfl (Nat.le_of_ble_eq_true rfl) rfl ?_
  refine go_s (pc' := 1) rfl rfl rfl rfl ?_
  refine go_s (pc' := 2) (st' := [.int 30, .int 1]) rfl rfl rfl rfl ?_
  refine go_icmpP (t' := 6) (pc' := 3) rfl rfl rfl (fun _ => ?_) (fun (c : ¬ (¬ (1 : Int32) = 30)) => absurd (by decide) c)
  refine go_s (pc' := 7) rfl rfl rfl rfl ?_
  refine go_ifP (t' := 20) (pc' := 8) rfl rfl rfl (fun (c : (1 : Int32) < 0) => absurd c (by decide)) (fun _ => ?_)
  refine go_s (pc' := 9) rfl rfl rfl rfl ?_
  refine go_s (pc' := 10) (st' := [.int 2, .int 1]) rfl rfl rfl rfl ?_
  refine go_icmpP (t' := 20) (pc' := 11) rfl rfl rfl (fun (c : 2 < (1 : Int32)) => absurd c (by decide)) (fun _ => ?_)
  refine go_s (pc' := 12) rfl rfl rfl rfl ?_
  refine go_s (pc' := 13) (st' := [.int 4, .int 0]) rfl rfl rfl rfl ?_
  refine go_callS (pc' := 14) rfl rfl rfl (Nat.le_of_ble_eq_true rfl) rfl rfl rfl (ct_within_t (q := 0) (n := 4) (by decide) (by decide) (by omega)) (fun r h2 q3 => ?_)
  obtain ⟨rfl, rfl⟩ := q3
  refine go_ifP (t' := 20) (pc' := 15) rfl rfl rfl (fun (c : (1 : Int32) = 0) => absurd c (by decide)) (fun _ => ?_)
  refine go_s (pc' := 16) rfl rfl rfl rfl ?_
  refine go_s (pc' := 17) rfl rfl rfl rfl ?_
  refine go_s (pc' := 18) rfl rfl rfl rfl ?_
  refine go_callV (pc' := 19) rfl rfl rfl (Nat.le_of_ble_eq_true rfl) rfl (sm_o hS rfl) rfl rfl rfl (ct_pf_0_1 hS (by omega)) (fun r h4 q5 => ?_)
  obtain ⟨rfl, rfl⟩ := q5
  refine go_ret rfl rfl ?_
  exact ⟨rfl, rfl⟩
theorem ca_prt_0_2 {w : Nat → Bool} {d : Nat} {h : am_Hp} {m0 : mg} {B : Nat} {I : sm_I} {Q : mQ} {Z : mZ} (hC : CA w 32 m0 B h (I, Q, Z)) (hB2 : B < 2 ^ 26) (hd : 4 ≤ d) : am_Ev (am_prog w) d 114 [.ref 1, .int 2, .int 0] h (fun r h' => r = some (.int (mqpt 0 2 (I, Q, Z))) ∧ h' = h) := by
  obtain ⟨X, ow, sb, hS, hD, hB, hQ⟩ := hC
  change sm tbc h I X at hS
  change CD w 32 m0 h I Q Z X ow sb at hD
  change co h I ≤ B at hB
  change ∀ l, l < 16 → (Q l).length ≤ h.length at hQ
  have hW := hD.1.1
  have hWn : ∀ a, List.length h ≤ a → w a = true := fun a ha => (hD.1.2.1 a ha).1
  have hF1 := fr_refl tbc h
  have hln : 62 ≤ List.length h := sm_len hS
  obtain ⟨d, rfl⟩ : ∃ e, d = e + 1 := ⟨d - 1, by omega⟩
  refine ev_go rfl (Nat.le_of_ble_eq_true rfl) rfl ?_
  refine go_s (pc' := 1) rfl rfl rfl rfl ?_
  refine go_s (pc' := 2) (st' := [.int 30, .int 2]) rfl rfl rfl rfl ?_
  refine go_icmpP (t' := 6) (pc' := 3) rfl rfl rfl (fun _ => ?_) (fun (c : ¬ (¬ (2 : Int32) = 30)) => absurd (by decide) c)
  refine go_s (pc' := 7) rfl rfl rfl rfl ?_
  refine go_ifP (t' := 20) (pc' := 8) rfl rfl rfl (fun (c : (2 : Int32) < 0) => absurd c (by decide)) (fun _ => ?_)
  refine go_s (pc' := 9) rfl rfl rfl rfl ?_
  refine go_s (pc' := 10) (st' := [.int 2, .int 2]) rfl rfl rfl rfl ?_
  refine go_icmpP (t' := 20) (pc' := 11) rfl rfl rfl (fun (c : 2 < (2 : Int32)) => absurd c (by decide)) (fun _ => ?_)
  refine go_s (pc' := 12) rfl rfl rfl rfl ?_
  refine go_s (pc' := 13) (st' := [.int 4, .int 0]) rfl rfl rfl rfl ?_
  refine go_callS (pc' := 14) rfl rfl rfl (Nat.le_of_ble_eq_true rfl) rfl rfl rfl (ct_within_t (q := 0) (n := 4) (by decide) (by decide) (by omega)) (fun r h2 q3 => ?_)
  obtain ⟨rfl, rfl⟩ := q3
  refine go_ifP (t' := 20) (pc' := 15) rfl rfl rfl (fun (c : (1 : Int32) = 0) => absurd c (by decide)) (fun _ => ?_)
  refine go_s (pc' := 16) rfl rfl rfl rfl ?_
  refine go_s (pc' := 17) rfl rfl rfl rfl ?_
  refine go_s (pc' := 18) rfl rfl rfl rfl ?_
  refine go_callV (pc' := 19) rfl rfl rfl (Nat.le_of_ble_eq_true rfl) rfl (sm_o hS rfl) rfl rfl rfl (ct_pf_0_2 hS (by omega)) (fun r h4 q5 => ?_)
  obtain ⟨rfl, rfl⟩ := q5
  refine go_ret rfl rfl ?_
  exact ⟨rfl, rfl⟩
theorem ca_prt_0_10 {w : Nat → Bool} {d : Nat} {h : am_Hp} {m0 : mg} {B : Nat} {I : sm_I} {Q : mQ} {Z : mZ} (hC : CA w 32 m0 B h (I, Q, Z)) (hB2 : B < 2 ^ 26) (hd : 4 ≤ d) : am_Ev (am_prog w) d 114 [.ref 1, .int 10, .int 0] h (fun r h' => r = some (.int (mqpt 0 10 (I, Q, Z))) ∧ h' = h) := by
  obtain ⟨X, ow, sb, hS, hD, hB, hQ⟩ := hC
  change sm tbc h I X at hS
  change CD w 32 m0 h I Q Z X ow sb at hD
  change co h I ≤ B at hB
  change ∀ l, l < 16 → (Q l).length ≤ h.length at hQ
  have hW := hD.1.1
  have hWn : ∀ a, List.length h ≤ a → w a = true := fun a ha => (hD.1.2.1 a ha).1
  have hF1 := fr_refl tbc h
  have hln : 62 ≤ List.length h := sm_len hS
  obtain ⟨d, rfl⟩ : ∃ e, d = e + 1 := ⟨d - 1, by omega⟩
  refine ev_go rfl (Nat.le_of_ble_eq_true rfl) rfl ?_
  refine go_s (pc' := 1) rfl rfl rfl rfl ?_
  refine go_s (pc' := 2) (st' := [.int 30, .int 10]) rfl rfl rfl rfl ?_
  refine go_icmpP (t' := 6) (pc' := 3) rfl rfl rfl (fun _ => ?_) (fun (c : ¬ (¬ (10 : Int32) = 30)) => absurd (by decide) c)
  refine go_s (pc' := 7) rfl rfl rfl rfl ?_
  refine go_ifP (t' := 20) (pc' := 8) rfl rfl rfl (fun (c : (10 : Int32) < 0) => absurd c (by decide)) (fun _ => ?_)
  refine go_s (pc' := 9) rfl rfl rfl rfl ?_
  refine go_s (pc' := 10) (st' := [.int 2, .int 10]) rfl rfl rfl rfl ?_
  refine go_icmpP (t' := 20) (pc' := 11) rfl rfl rfl (fun _ => ?_) (fun (c : ¬ (2 < (10 : Int32))) => absurd (by decide) c)
  refine go_s (pc' := 21) rfl rfl rfl rfl ?_
  refine go_s (pc' := 22) (st' := [.int 10, .int 10]) rfl rfl rfl rfl ?_
  refine go_icmpP (t' := 37) (pc' := 23) rfl rfl rfl (fun (c : ¬ (10 : Int32) = 10) => absurd c (by decide)) (fun _ => ?_)
  refine go_s (pc' := 24) rfl rfl rfl rfl ?_
  refine go_s (pc' := 25) (st' := [.int 2, .int 0]) rfl rfl rfl rfl ?_
  refine go_callS (pc' := 26) rfl rfl rfl (Nat.le_of_ble_eq_true rfl) rfl rfl rfl (ct_within_t (q := 0) (n := 2) (by decide) (by decide) (by omega)) (fun r h2 q3 => ?_)
  obtain ⟨rfl, rfl⟩ := q3
  refine go_ifP (t' := 37) (pc' := 27) rfl rfl rfl (fun (c : (1 : Int32) = 0) => absurd c (by decide)) (fun _ => ?_)
  refine go_s (pc' := 28) rfl rfl rfl rfl ?_
  refine go_sget (pc' := 29) (v := .ref 2) hS rfl rfl rfl (by decide) rfl rfl ?_
  refine go_sget (pc' := 30) (v := .ref 6) hS rfl rfl rfl (by decide) rfl rfl ?_
  refine go_s (pc' := 31) rfl rfl rfl rfl ?_
  refine go_sald (pc' := 32) (q := 0) (v := .int (I 3 0)) hS rfl rfl rfl rfl (by decide) rfl rfl ?_
  refine go_ifP (t' := 35) (pc' := 33) rfl rfl rfl (fun (c4 : (I 3 0) = 0) => ?_) (fun (c4 : ¬ (I 3 0) = 0) => ?_)
  · skip
    refine go_s (pc' := 36) (st' := [.int 0]) rfl rfl rfl rfl ?_
    refine go_ret rfl rfl ?_
    exact ⟨by show _ = some (Value.int (bI (I 3 0))); simp [bI, c4], rfl⟩
  · skip
    refine go_s (pc' := 34) (st' := [.int 1]) rfl rfl rfl rfl ?_
    refine go_s (pc' := 36) rfl rfl rfl rfl ?_
    refine go_ret rfl rfl ?_
    exact ⟨by show _ = some (Value.int (bI (I 3 0))); simp [bI, c4], rfl⟩
theorem ca_prt_0_20 {w : Nat → Bool} {d : Nat} {h : am_Hp} {m0 : mg} {B : Nat} {I : sm_I} {Q : mQ} {Z : mZ} (hC : CA w 32 m0 B h (I, Q, Z)) (hB2 : B < 2 ^ 26) (hd : 4 ≤ d) : am_Ev (am_prog w) d 114 [.ref 1, .int 20, .int 0] h (fun r h' => r = some (.int (mqpt 0 20 (I, Q, Z))) ∧ h' = h) := by
  obtain ⟨X, ow, sb, hS, hD, hB, hQ⟩ := hC
  change sm tbc h I X at hS
  change CD w 32 m0 h I Q Z X ow sb at hD
  change co h I ≤ B at hB
  change ∀ l, l < 16 → (Q l).length ≤ h.length at hQ
  have hW := hD.1.1
  have hWn : ∀ a, List.length h ≤ a → w a = true := fun a ha => (hD.1.2.1 a ha).1
  have hF1 := fr_refl tbc h
  have hln : 62 ≤ List.length h := sm_len hS
  obtain ⟨d, rfl⟩ : ∃ e, d = e + 1 := ⟨d - 1, by omega⟩
  refine ev_go rfl (Nat.le_of_ble_eq_true rfl) rfl ?_
  refine go_s (pc' := 1) rfl rfl rfl rfl ?_
  refine go_s (pc' := 2) (st' := [.int 30, .int 20]) rfl rfl rfl rfl ?_
  refine go_icmpP (t' := 6) (pc' := 3) rfl rfl rfl (fun _ => ?_) (fun (c : ¬ (¬ (20 : Int32) = 30)) => absurd (by decide) c)
  refine go_s (pc' := 7) rfl rfl rfl rfl ?_
  refine go_ifP (t' := 20) (pc' := 8) rfl rfl rfl (fun (c : (20 : Int32) < 0) => absurd c (by decide)) (fun _ => ?_)
  refine go_s (pc' := 9) rfl rfl rfl rfl ?_
  refine go_s (pc' := 10) (st' := [.int 2, .int 20]) rfl rfl rfl rfl ?_
  refine go_icmpP (t' := 20) (pc' := 11) rfl rfl rfl (fun _ => ?_) (fun (c : ¬ (2 < (20 : Int32))) => absurd (by decide) c)
  refine go_s (pc' := 21) rfl rfl rfl rfl ?_
  refine go_s (pc' := 22) (st' := [.int 10, .int 20]) rfl rfl rfl rfl ?_
  refine go_icmpP (t' := 37) (pc' := 23) rfl rfl rfl (fun _ => ?_) (fun (c : ¬ (¬ (20 : Int32) = 10)) => absurd (by decide) c)
  refine go_s (pc' := 38) rfl rfl rfl rfl ?_
  refine go_s (pc' := 39) (st' := [.int 20, .int 20]) rfl rfl rfl rfl ?_
  refine go_icmpP (t' := 52) (pc' := 40) rfl rfl rfl (fun (c : (20 : Int32) < 20) => absurd c (by decide)) (fun _ => ?_)
  refine go_s (pc' := 41) rfl rfl rfl rfl ?_
  refine go_s (pc' := 42) (st' := [.int 22, .int 20]) rfl rfl rfl rfl ?_
  refine go_icmpP (t' := 52) (pc' := 43) rfl rfl rfl (fun (c : 22 < (20 : Int32)) => absurd c (by decide)) (fun _ => ?_)
  refine go_s (pc' := 44) rfl rfl rfl rfl ?_
  refine go_s (pc' := 45) (st' := [.int 2, .int 0]) rfl rfl rfl rfl ?_
  refine go_callS (pc' := 46) rfl rfl rfl (Nat.le_of_ble_eq_true rfl) rfl rfl rfl (ct_within_t (q := 0) (n := 2) (by decide) (by decide) (by omega)) (fun r h2 q3 => ?_)
  obtain ⟨rfl, rfl⟩ := q3
  refine go_ifP (t' := 52) (pc' := 47) rfl rfl rfl (fun (c : (1 : Int32) = 0) => absurd c (by decide)) (fun _ => ?_)
  refine go_s (pc' := 48) rfl rfl rfl rfl ?_
  refine go_s (pc' := 49) rfl rfl rfl rfl ?_
  refine go_s (pc' := 50) rfl rfl rfl rfl ?_
  refine go_callV (pc' := 51) rfl rfl rfl (Nat.le_of_ble_eq_true rfl) rfl (sm_o hS rfl) rfl rfl rfl (ct_df_0_20 hS (by omega)) (fun r h4 q5 => ?_)
  obtain ⟨rfl, rfl⟩ := q5
  refine go_ret rfl rfl ?_
  exact ⟨rfl, rfl⟩
theorem ca_prt_0_21 {w : Nat → Bool} {d : Nat} {h : am_Hp} {m0 : mg} {B : Nat} {I : sm_I} {Q : mQ} {Z : mZ} (hC : CA w 32 m0 B h (I, Q, Z)) (hB2 : B < 2 ^ 26) (hd : 4 ≤ d) : am_Ev (am_prog w) d 114 [.ref 1, .int 21, .int 0] h (fun r h' => r = some (.int (mqpt 0 21 (I, Q, Z))) ∧ h' = h) := by
  obtain ⟨X, ow, sb, hS, hD, hB, hQ⟩ := hC
  change sm tbc h I X at hS
  change CD w 32 m0 h I Q Z X ow sb at hD
  change co h I ≤ B at hB
  change ∀ l, l < 16 → (Q l).length ≤ h.length at hQ
  have hW := hD.1.1
  have hWn : ∀ a, List.length h ≤ a → w a = true := fun a ha => (hD.1.2.1 a ha).1
  have hF1 := fr_refl tbc h
  have hln : 62 ≤ List.length h := sm_len hS
  obtain ⟨d, rfl⟩ : ∃ e, d = e + 1 := ⟨d - 1, by omega⟩
  refine ev_go rfl (Nat.le_of_ble_eq_true rfl) rfl ?_
  refine go_s (pc' := 1) rfl rfl rfl rfl ?_
  refine go_s (pc' := 2) (st' := [.int 30, .int 21]) rfl rfl rfl rfl ?_
  refine go_icmpP (t' := 6) (pc' := 3) rfl rfl rfl (fun _ => ?_) (fun (c : ¬ (¬ (21 : Int32) = 30)) => absurd (by decide) c)
  refine go_s (pc' := 7) rfl rfl rfl rfl ?_
  refine go_ifP (t' := 20) (pc' := 8) rfl rfl rfl (fun (c : (21 : Int32) < 0) => absurd c (by decide)) (fun _ => ?_)
  refine go_s (pc' := 9) rfl rfl rfl rfl ?_
  refine go_s (pc' := 10) (st' := [.int 2, .int 21]) rfl rfl rfl rfl ?_
  refine go_icmpP (t' := 20) (pc' := 11) rfl rfl rfl (fun _ => ?_) (fun (c : ¬ (2 < (21 : Int32))) => absurd (by decide) c)
  refine go_s (pc' := 21) rfl rfl rfl rfl ?_
  refine go_s (pc' := 22) (st' := [.int 10, .int 21]) rfl rfl rfl rfl ?_
  refine go_icmpP (t' := 37) (pc' := 23) rfl rfl rfl (fun _ => ?_) (fun (c : ¬ (¬ (21 : Int32) = 10)) => absurd (by decide) c)
  refine go_s (pc' := 38) rfl rfl rfl rfl ?_
  refine go_s (pc' := 39) (st' := [.int 20, .int 21]) rfl rfl rfl rfl ?_
  refine go_icmpP (t' := 52) (pc' := 40) rfl rfl rfl (fun (c : (21 : Int32) < 20) => absurd c (by decide)) (fun _ => ?_)
  refine go_s (pc' := 41) rfl rfl rfl rfl ?_
  refine go_s (pc' := 42) (st' := [.int 22, .int 21]) rfl rfl rfl rfl ?_
  refine go_icmpP (t' := 52) (pc' := 43) rfl rfl rfl (fun (c : 22 < (21 : Int32)) => absurd c (by decide)) (fun _ => ?_)
  refine go_s (pc' := 44) rfl rfl rfl rfl ?_
  refine go_s (pc' := 45) (st' := [.int 2, .int 0]) rfl rfl rfl rfl ?_
  refine go_callS (pc' := 46) rfl rfl rfl (Nat.le_of_ble_eq_true rfl) rfl rfl rfl (ct_within_t (q := 0) (n := 2) (by decide) (by decide) (by omega)) (fun r h2 q3 => ?_)
  obtain ⟨rfl, rfl⟩ := q3
  refine go_ifP (t' := 52) (pc' := 47) rfl rfl rfl (fun (c : (1 : Int32) = 0) => absurd c (by decide)) (fun _ => ?_)
  refine go_s (pc' := 48) rfl rfl rfl rfl ?_
  refine go_s (pc' := 49) rfl rfl rfl rfl ?_
  refine go_s (pc' := 50) rfl rfl rfl rfl ?_
  refine go_callV (pc' := 51) rfl rfl rfl (Nat.le_of_ble_eq_true rfl) rfl (sm_o hS rfl) rfl rfl rfl (ct_df_0_21 hS (by omega)) (fun r h4 q5 => ?_)
  obtain ⟨rfl, rfl⟩ := q5
  refine go_ret rfl rfl ?_
  exact ⟨rfl, rfl⟩
theorem ca_prt_0_22 {w : Nat → Bool} {d : Nat} {h : am_Hp} {m0 : mg} {B : Nat} {I : sm_I} {Q : mQ} {Z : mZ} (hC : CA w 32 m0 B h (I, Q, Z)) (hB2 : B < 2 ^ 26) (hd : 4 ≤ d) : am_Ev (am_prog w) d 114 [.ref 1, .int 22, .int 0] h (fun r h' => r = some (.int (mqpt 0 22 (I, Q, Z))) ∧ h' = h) := by
  obtain ⟨X, ow, sb, hS, hD, hB, hQ⟩ := hC
  change sm tbc h I X at hS
  change CD w 32 m0 h I Q Z X ow sb at hD
  change co h I ≤ B at hB
  change ∀ l, l < 16 → (Q l).length ≤ h.length at hQ
  have hW := hD.1.1
  have hWn : ∀ a, List.length h ≤ a → w a = true := fun a ha => (hD.1.2.1 a ha).1
  have hF1 := fr_refl tbc h
  have hln : 62 ≤ List.length h := sm_len hS
  obtain ⟨d, rfl⟩ : ∃ e, d = e + 1 := ⟨d - 1, by omega⟩
  refine ev_go rfl (Nat.le_of_ble_eq_true rfl) rfl ?_
  refine go_s (pc' := 1) rfl rfl rfl rfl ?_
  refine go_s (pc' := 2) (st' := [.int 30, .int 22]) rfl rfl rfl rfl ?_
  refine go_icmpP (t' := 6) (pc' := 3) rfl rfl rfl (fun _ => ?_) (fun (c : ¬ (¬ (22 : Int32) = 30)) => absurd (by decide) c)
  refine go_s (pc' := 7) rfl rfl rfl rfl ?_
  refine go_ifP (t' := 20) (pc' := 8) rfl rfl rfl (fun (c : (22 : Int32) < 0) => absurd c (by decide)) (fun _ => ?_)
  refine go_s (pc' := 9) rfl rfl rfl rfl ?_
  refine go_s (pc' := 10) (st' := [.int 2, .int 22]) rfl rfl rfl rfl ?_
  refine go_icmpP (t' := 20) (pc' := 11) rfl rfl rfl (fun _ => ?_) (fun (c : ¬ (2 < (22 : Int32))) => absurd (by decide) c)
  refine go_s (pc' := 21) rfl rfl rfl rfl ?_
  refine go_s (pc' := 22) (st' := [.int 10, .int 22]) rfl rfl rfl rfl ?_
  refine go_icmpP (t' := 37) (pc' := 23) rfl rfl rfl (fun _ => ?_) (fun (c : ¬ (¬ (22 : Int32) = 10)) => absurd (by decide) c)
  refine go_s (pc' := 38) rfl rfl rfl rfl ?_
  refine go_s (pc' := 39) (st' := [.int 20, .int 22]) rfl rfl rfl rfl ?_
  refine go_icmpP (t' := 52) (pc' := 40) rfl rfl rfl (fun (c : (22 : Int32) < 20) => absurd c (by decide)) (fun _ => ?_)
  refine go_s (pc' := 41) rfl rfl rfl rfl ?_
  refine go_s (pc' := 42) (st' := [.int 22, .int 22]) rfl rfl rfl rfl ?_
  refine go_icmpP (t' := 52) (pc' := 43) rfl rfl rfl (fun (c : 22 < (22 : Int32)) => absurd c (by decide)) (fun _ => ?_)
  refine go_s (pc' := 44) rfl rfl rfl rfl ?_
  refine go_s (pc' := 45) (st' := [.int 2, .int 0]) rfl rfl rfl rfl ?_
  refine go_callS (pc' := 46) rfl rfl rfl (Nat.le_of_ble_eq_true rfl) rfl rfl rfl (ct_within_t (q := 0) (n := 2) (by decide) (by decide) (by omega)) (fun r h2 q3 => ?_)
  obtain ⟨rfl, rfl⟩ := q3
  refine go_ifP (t' := 52) (pc' := 47) rfl rfl rfl (fun (c : (1 : Int32) = 0) => absurd c (by decide)) (fun _ => ?_)
  refine go_s (pc' := 48) rfl rfl rfl rfl ?_
  refine go_s (pc' := 49) rfl rfl rfl rfl ?_
  refine go_s (pc' := 50) rfl rfl rfl rfl ?_
  obtain ⟨n9, hn9, hn8⟩ := hD.2.2.2.1.1 0 (by decide)
  refine go_callV (pc' := 51) rfl rfl rfl (Nat.le_of_ble_eq_true rfl) rfl (sm_o hS rfl) rfl rfl rfl (ct_df_0_22 hS hn9 hn8 (by omega)) (fun r h4 q5 => ?_)
  obtain ⟨rfl, rfl⟩ := q5
  refine go_ret rfl rfl ?_
  exact ⟨rfl, rfl⟩
theorem ca_prt_0_n {w : Nat → Bool} {d : Nat} {h : am_Hp} {m0 : mg} {B : Nat} {I : sm_I} {Q : mQ} {Z : mZ} (hC : CA w 32 m0 B h (I, Q, Z)) (hB2 : B < 2 ^ 26) {x : Int32} (x30 : ¬ x = 30) (x0 : ¬ x = 0) (x1 : ¬ x = 1) (x2 : ¬ x = 2) (x10 : ¬ x = 10) (x20 : ¬ x = 20) (x21 : ¬ x = 21) (x22 : ¬ x = 22) (hd : 4 ≤ d) : am_Ev (am_prog w) d 114 [.ref 1, .int x, .int 0] h (fun r h' => r = some (.int (mqpt 0 x (I, Q, Z))) ∧ h' = h) := by
  obtain ⟨X, ow, sb, hS, hD, hB, hQ⟩ := hC
  change sm tbc h I X at hS
  change CD w 32 m0 h I Q Z X ow sb at hD
  change co h I ≤ B at hB
  change ∀ l, l < 16 → (Q l).length ≤ h.length at hQ
  have hW := hD.1.1
  have hWn : ∀ a, List.length h ≤ a → w a = true := fun a ha => (hD.1.2.1 a ha).1
  have hF1 := fr_refl tbc h
  have hln : 62 ≤ List.length h := sm_len hS
  obtain ⟨d, rfl⟩ : ∃ e, d = e + 1 := ⟨d - 1, by omega⟩
  refine ev_go rfl (Nat.le_of_ble_eq_true rfl) rfl ?_
  refine go_s (pc' := 1) rfl rfl rfl rfl ?_
  refine go_s (pc' := 2) (st' := [.int 30, .int x]) rfl rfl rfl rfl ?_
  refine go_icmpP (t' := 6) (pc' := 3) rfl rfl rfl (fun _ => ?_) (fun (c : ¬ (¬ x = 30)) => absurd x30 c)
  refine go_s (pc' := 7) rfl rfl rfl rfl ?_
  refine go_ifP (t' := 20) (pc' := 8) rfl rfl rfl (fun (c2 : x < 0) => ?_) (fun (c2 : ¬ x < 0) => ?_)
  · skip
    refine go_s (pc' := 21) rfl rfl rfl rfl ?_
    refine go_s (pc' := 22) (st' := [.int 10, .int x]) rfl rfl rfl rfl ?_
    refine go_icmpP (t' := 37) (pc' := 23) rfl rfl rfl (fun _ => ?_) (fun (c : ¬ (¬ x = 10)) => absurd x10 c)
    refine go_s (pc' := 38) rfl rfl rfl rfl ?_
    refine go_s (pc' := 39) (st' := [.int 20, .int x]) rfl rfl rfl rfl ?_
    refine go_icmpP (t' := 52) (pc' := 40) rfl rfl rfl (fun (c3 : x < 20) => ?_) (fun (c3 : ¬ x < 20) => ?_)
    · skip
      refine go_s (pc' := 53) (st' := [.int (-1)]) rfl rfl rfl rfl ?_
      refine go_ret rfl rfl ?_
      exact ⟨by unfold mqpt; rw [if_neg x30, if_neg x0, if_neg x1, if_neg x2]; first | rw [if_pos (by decide), if_neg x10, if_neg x20, if_neg x21, if_neg x22] | rw [if_neg (by decide)], rfl⟩
    · skip
      refine go_s (pc' := 41) rfl rfl rfl rfl ?_
      refine go_s (pc' := 42) (st' := [.int 22, .int x]) rfl rfl rfl rfl ?_
      refine go_icmpP (t' := 52) (pc' := 43) rfl rfl rfl (fun (c4 : 22 < x) => ?_) (fun (c4 : ¬ 22 < x) => ?_)
      · skip
        refine go_s (pc' := 53) (st' := [.int (-1)]) rfl rfl rfl rfl ?_
        refine go_ret rfl rfl ?_
        exact ⟨by unfold mqpt; rw [if_neg x30, if_neg x0, if_neg x1, if_neg x2]; first | rw [if_pos (by decide), if_neg x10, if_neg x20, if_neg x21, if_neg x22] | rw [if_neg (by decide)], rfl⟩
      · skip
        refine go_s (pc' := 44) rfl rfl rfl rfl ?_
        refine go_s (pc' := 45) (st' := [.int 2, .int 0]) rfl rfl rfl rfl ?_
        refine go_callS (pc' := 46) rfl rfl rfl (Nat.le_of_ble_eq_true rfl) rfl rfl rfl (ct_within_t (q := 0) (n := 2) (by decide) (by decide) (by omega)) (fun r h5 q6 => ?_)
        obtain ⟨rfl, rfl⟩ := q6
        refine go_ifP (t' := 52) (pc' := 47) rfl rfl rfl (fun (c : (1 : Int32) = 0) => absurd c (by decide)) (fun _ => ?_)
        refine go_s (pc' := 48) rfl rfl rfl rfl ?_
        refine go_s (pc' := 49) rfl rfl rfl rfl ?_
        refine go_s (pc' := 50) rfl rfl rfl rfl ?_
        exact (i32_20 c3 c4 x20 x21 x22).elim
  · skip
    refine go_s (pc' := 9) rfl rfl rfl rfl ?_
    refine go_s (pc' := 10) (st' := [.int 2, .int x]) rfl rfl rfl rfl ?_
    refine go_icmpP (t' := 20) (pc' := 11) rfl rfl rfl (fun (c7 : 2 < x) => ?_) (fun (c7 : ¬ 2 < x) => ?_)
    · skip
      refine go_s (pc' := 21) rfl rfl rfl rfl ?_
      refine go_s (pc' := 22) (st' := [.int 10, .int x]) rfl rfl rfl rfl ?_
      refine go_icmpP (t' := 37) (pc' := 23) rfl rfl rfl (fun _ => ?_) (fun (c : ¬ (¬ x = 10)) => absurd x10 c)
      refine go_s (pc' := 38) rfl rfl rfl rfl ?_
      refine go_s (pc' := 39) (st' := [.int 20, .int x]) rfl rfl rfl rfl ?_
      refine go_icmpP (t' := 52) (pc' := 40) rfl rfl rfl (fun (c8 : x < 20) => ?_) (fun (c8 : ¬ x < 20) => ?_)
      · skip
        refine go_s (pc' := 53) (st' := [.int (-1)]) rfl rfl rfl rfl ?_
        refine go_ret rfl rfl ?_
        exact ⟨by unfold mqpt; rw [if_neg x30, if_neg x0, if_neg x1, if_neg x2]; first | rw [if_pos (by decide), if_neg x10, if_neg x20, if_neg x21, if_neg x22] | rw [if_neg (by decide)], rfl⟩
      · skip
        refine go_s (pc' := 41) rfl rfl rfl rfl ?_
        refine go_s (pc' := 42) (st' := [.int 22, .int x]) rfl rfl rfl rfl ?_
        refine go_icmpP (t' := 52) (pc' := 43) rfl rfl rfl (fun (c9 : 22 < x) => ?_) (fun (c9 : ¬ 22 < x) => ?_)
        · skip
          refine go_s (pc' := 53) (st' := [.int (-1)]) rfl rfl rfl rfl ?_
          refine go_ret rfl rfl ?_
          exact ⟨by unfold mqpt; rw [if_neg x30, if_neg x0, if_neg x1, if_neg x2]; first | rw [if_pos (by decide), if_neg x10, if_neg x20, if_neg x21, if_neg x22] | rw [if_neg (by decide)], rfl⟩
        · skip
          refine go_s (pc' := 44) rfl rfl rfl rfl ?_
          refine go_s (pc' := 45) (st' := [.int 2, .int 0]) rfl rfl rfl rfl ?_
          refine go_callS (pc' := 46) rfl rfl rfl (Nat.le_of_ble_eq_true rfl) rfl rfl rfl (ct_within_t (q := 0) (n := 2) (by decide) (by decide) (by omega)) (fun r h10 q11 => ?_)
          obtain ⟨rfl, rfl⟩ := q11
          refine go_ifP (t' := 52) (pc' := 47) rfl rfl rfl (fun (c : (1 : Int32) = 0) => absurd c (by decide)) (fun _ => ?_)
          refine go_s (pc' := 48) rfl rfl rfl rfl ?_
          refine go_s (pc' := 49) rfl rfl rfl rfl ?_
          refine go_s (pc' := 50) rfl rfl rfl rfl ?_
          exact (i32_20 c8 c9 x20 x21 x22).elim
    · skip
      refine go_s (pc' := 12) rfl rfl rfl rfl ?_
      refine go_s (pc' := 13) (st' := [.int 4, .int 0]) rfl rfl rfl rfl ?_
      refine go_callS (pc' := 14) rfl rfl rfl (Nat.le_of_ble_eq_true rfl) rfl rfl rfl (ct_within_t (q := 0) (n := 4) (by decide) (by decide) (by omega)) (fun r h12 q13 => ?_)
      obtain ⟨rfl, rfl⟩ := q13
      refine go_ifP (t' := 20) (pc' := 15) rfl rfl rfl (fun (c : (1 : Int32) = 0) => absurd c (by decide)) (fun _ => ?_)
      refine go_s (pc' := 16) rfl rfl rfl rfl ?_
      refine go_s (pc' := 17) rfl rfl rfl rfl ?_
      refine go_s (pc' := 18) rfl rfl rfl rfl ?_
      exact (i32_012 c2 c7 x0 x1 x2).elim
theorem ca_prt_0 {w : Nat → Bool} {d : Nat} {h : am_Hp} {m0 : mg} {B : Nat} {I : sm_I} {Q : mQ} {Z : mZ} (hC : CA w 32 m0 B h (I, Q, Z)) (hB2 : B < 2 ^ 26) {x : Int32} (hd : 4 ≤ d) : am_Ev (am_prog w) d 114 [.ref 1, .int x, .int 0] h (fun r h' => r = some (.int (mqpt 0 x (I, Q, Z))) ∧ h' = h) := by
  by_cases x30 : x = 30
  · subst x30; exact ca_prt_0_30 hC hB2 hd
  by_cases x0 : x = 0
  · subst x0; exact ca_prt_0_0 hC hB2 hd
  by_cases x1 : x = 1
  · subst x1; exact ca_prt_0_1 hC hB2 hd
  by_cases x2 : x = 2
  · subst x2; exact ca_prt_0_2 hC hB2 hd
  by_cases x10 : x = 10
  · subst x10; exact ca_prt_0_10 hC hB2 hd
  by_cases x20 : x = 20
  · subst x20; exact ca_prt_0_20 hC hB2 hd
  by_cases x21 : x = 21
  · subst x21; exact ca_prt_0_21 hC hB2 hd
  by_cases x22 : x = 22
  · subst x22; exact ca_prt_0_22 hC hB2 hd
  exact ca_prt_0_n hC hB2 x30 x0 x1 x2 x10 x20 x21 x22 hd
theorem ca_prt_1_30 {w : Nat → Bool} {d : Nat} {h : am_Hp} {m0 : mg} {B : Nat} {I : sm_I} {Q : mQ} {Z : mZ} (hC : CA w 32 m0 B h (I, Q, Z)) (hB2 : B < 2 ^ 26) (hd : 4 ≤ d) : am_Ev (am_prog w) d 114 [.ref 1, .int 30, .int 1] h (fun r h' => r = some (.int (mqpt 1 30 (I, Q, Z))) ∧ h' = h) := by
  obtain ⟨X, ow, sb, hS, hD, hB, hQ⟩ := hC
  change sm tbc h I X at hS
  change CD w 32 m0 h I Q Z X ow sb at hD
  change co h I ≤ B at hB
  change ∀ l, l < 16 → (Q l).length ≤ h.length at hQ
  have hW := hD.1.1
  have hWn : ∀ a, List.length h ≤ a → w a = true := fun a ha => (hD.1.2.1 a ha).1
  have hF1 := fr_refl tbc h
  have hln : 62 ≤ List.length h := sm_len hS
  obtain ⟨d, rfl⟩ : ∃ e, d = e + 1 := ⟨d - 1, by omega⟩
  refine ev_go rfl (Nat.le_of_ble_eq_true rfl) rfl ?_
  refine go_s (pc' := 1) rfl rfl rfl rfl ?_
  refine go_s (pc' := 2) (st' := [.int 30, .int 30]) rfl rfl rfl rfl ?_
  refine go_icmpP (t' := 6) (pc' := 3) rfl rfl rfl (fun (c : ¬ (30 : Int32) = 30) => absurd c (by decide)) (fun _ => ?_)
  refine go_s (pc' := 4) rfl rfl rfl rfl ?_
  refine go_sget (pc' := 5) (v := .int (I 8 0)) hS rfl rfl rfl (by decide) rfl rfl ?_
  refine go_ret rfl rfl ?_
  exact ⟨rfl, rfl⟩
theorem ca_prt_1_0 {w : Nat → Bool} {d : Nat} {h : am_Hp} {m0 : mg} {B : Nat} {I : sm_I} {Q : mQ} {Z : mZ} (hC : CA w 32 m0 B h (I, Q, Z)) (hB2 : B < 2 ^ 26) (hd : 4 ≤ d) : am_Ev (am_prog w) d 114 [.ref 1, .int 0, .int 1] h (fun r h' => r = some (.int (mqpt 1 0 (I, Q, Z))) ∧ h' = h) := by
  obtain ⟨X, ow, sb, hS, hD, hB, hQ⟩ := hC
  change sm tbc h I X at hS
  change CD w 32 m0 h I Q Z X ow sb at hD
  change co h I ≤ B at hB
  change ∀ l, l < 16 → (Q l).length ≤ h.length at hQ
  have hW := hD.1.1
  have hWn : ∀ a, List.length h ≤ a → w a = true := fun a ha => (hD.1.2.1 a ha).1
  have hF1 := fr_refl tbc h
  have hln : 62 ≤ List.length h := sm_len hS
  obtain ⟨d, rfl⟩ : ∃ e, d = e + 1 := ⟨d - 1, by omega⟩
  refine ev_go rfl (Nat.le_of_ble_eq_true rfl) rfl ?_
  refine go_s (pc' := 1) rfl rfl rfl rfl ?_
  refine go_s (pc' := 2) (st' := [.int 30, .int 0]) rfl rfl rfl rfl ?_
  refine go_icmpP (t' := 6) (pc' := 3) rfl rfl rfl (fun _ => ?_) (fun (c : ¬ (¬ (0 : Int32) = 30)) => absurd (by decide) c)
  refine go_s (pc' := 7) rfl rfl rfl rfl ?_
  refine go_ifP (t' := 20) (pc' := 8) rfl rfl rfl (fun (c : (0 : Int32) < 0) => absurd c (by decide)) (fun _ => ?_)
  refine go_s (pc' := 9) rfl rfl rfl rfl ?_
  refine go_s (pc' := 10) (st' := [.int 2, .int 0]) rfl rfl rfl rfl ?_
  refine go_icmpP (t' := 20) (pc' := 11) rfl rfl rfl (fun (c : 2 < (0 : Int32)) => absurd c (by decide)) (fun _ => ?_)
  refine go_s (pc' := 12) rfl rfl rfl rfl ?_
  refine go_s (pc' := 13) (st' := [.int 4, .int 1]) rfl rfl rfl rfl ?_
  refine go_callS (pc' := 14) rfl rfl rfl (Nat.le_of_ble_eq_true rfl) rfl rfl rfl (ct_within_t (q := 1) (n := 4) (by decide) (by decide) (by omega)) (fun r h2 q3 => ?_)
  obtain ⟨rfl, rfl⟩ := q3
  refine go_ifP (t' := 20) (pc' := 15) rfl rfl rfl (fun (c : (1 : Int32) = 0) => absurd c (by decide)) (fun _ => ?_)
  refine go_s (pc' := 16) rfl rfl rfl rfl ?_
  refine go_s (pc' := 17) rfl rfl rfl rfl ?_
  refine go_s (pc' := 18) rfl rfl rfl rfl ?_
  refine go_callV (pc' := 19) rfl rfl rfl (Nat.le_of_ble_eq_true rfl) rfl (sm_o hS rfl) rfl rfl rfl (ct_pf_1_0 hS (by omega)) (fun r h4 q5 => ?_)
  obtain ⟨rfl, rfl⟩ := q5
  refine go_ret rfl rfl ?_
  exact ⟨rfl, rfl⟩
theorem ca_prt_1_1 {w : Nat → Bool} {d : Nat} {h : am_Hp} {m0 : mg} {B : Nat} {I : sm_I} {Q : mQ} {Z : mZ} (hC : CA w 32 m0 B h (I, Q, Z)) (hB2 : B < 2 ^ 26) (hd : 4 ≤ d) : am_Ev (am_prog w) d 114 [.ref 1, .int 1, .int 1] h (fun r h' => r = some (.int (mqpt 1 1 (I, Q, Z))) ∧ h' = h) := by
  obtain ⟨X, ow, sb, hS, hD, hB, hQ⟩ := hC
  change sm tbc h I X at hS
  change CD w 32 m0 h I Q Z X ow sb at hD
  change co h I ≤ B at hB
  change ∀ l, l < 16 → (Q l).length ≤ h.length at hQ
  have hW := hD.1.1
  have hWn : ∀ a, List.length h ≤ a → w a = true := fun a ha => (hD.1.2.1 a ha).1
  have hF1 := fr_refl tbc h
  have hln : 62 ≤ List.length h := sm_len hS
  obtain ⟨d, rfl⟩ : ∃ e, d = e + 1 := ⟨d - 1, by omega⟩
  refine ev_go rfl (Nat.le_of_ble_eq_true rfl) rfl ?_
  refine go_s (pc' := 1) rfl rfl rfl rfl ?_
  refine go_s (pc' := 2) (st' := [.int 30, .int 1]) rfl rfl rfl rfl ?_
  refine go_icmpP (t' := 6) (pc' := 3) rfl rfl rfl (fun _ => ?_) (fun (c : ¬ (¬ (1 : Int32) = 30)) => absurd (by decide) c)
  refine go_s (pc' := 7) rfl rfl rfl rfl ?_
  refine go_ifP (t' := 20) (pc' := 8) rfl rfl rfl (fun (c : (1 : Int32) < 0) => absurd c (by decide)) (fun _ => ?_)
  refine go_s (pc' := 9) rfl rfl rfl rfl ?_
  refine go_s (pc' := 10) (st' := [.int 2, .int 1]) rfl rfl rfl rfl ?_
  refine go_icmpP (t' := 20) (pc' := 11) rfl rfl rfl (fun (c : 2 < (1 : Int32)) => absurd c (by decide)) (fun _ => ?_)
  refine go_s (pc' := 12) rfl rfl rfl rfl ?_
  refine go_s (pc' := 13) (st' := [.int 4, .int 1]) rfl rfl rfl rfl ?_
  refine go_callS (pc' := 14) rfl rfl rfl (Nat.le_of_ble_eq_true rfl) rfl rfl rfl (ct_within_t (q := 1) (n := 4) (by decide) (by decide) (by omega)) (fun r h2 q3 => ?_)
  obtain ⟨rfl, rfl⟩ := q3
  refine go_ifP (t' := 20) (pc' := 15) rfl rfl rfl (fun (c : (1 : Int32) = 0) => absurd c (by decide)) (fun _ => ?_)
  refine go_s (pc' := 16) rfl rfl rfl rfl ?_
  refine go_s (pc' := 17) rfl rfl rfl rfl ?_
  refine go_s (pc' := 18) rfl rfl rfl rfl ?_
  refine go_callV (pc' := 19) rfl rfl rfl (Nat.le_of_ble_eq_true rfl) rfl (sm_o hS rfl) rfl rfl rfl (ct_pf_1_1 hS (by omega)) (fun r h4 q5 => ?_)
  obtain ⟨rfl, rfl⟩ := q5
  refine go_ret rfl rfl ?_
  exact ⟨rfl, rfl⟩
theorem ca_prt_1_2 {w : Nat → Bool} {d : Nat} {h : am_Hp} {m0 : mg} {B : Nat} {I : sm_I} {Q : mQ} {Z : mZ} (hC : CA w 32 m0 B h (I, Q, Z)) (hB2 : B < 2 ^ 26) (hd : 4 ≤ d) : am_Ev (am_prog w) d 114 [.ref 1, .int 2, .int 1] h (fun r h' => r = some (.int (mqpt 1 2 (I, Q, Z))) ∧ h' = h) := by
  obtain ⟨X, ow, sb, hS, hD, hB, hQ⟩ := hC
  change sm tbc h I X at hS
  change CD w 32 m0 h I Q Z X ow sb at hD
  change co h I ≤ B at hB
  change ∀ l, l < 16 → (Q l).length ≤ h.length at hQ
  have hW := hD.1.1
  have hWn : ∀ a, List.length h ≤ a → w a = true := fun a ha => (hD.1.2.1 a ha).1
  have hF1 := fr_refl tbc h
  have hln : 62 ≤ List.length h := sm_len hS
  obtain ⟨d, rfl⟩ : ∃ e, d = e + 1 := ⟨d - 1, by omega⟩
  refine ev_go rfl (Nat.le_of_ble_eq_true rfl) rfl ?_
  refine go_s (pc' := 1) rfl rfl rfl rfl ?_
  refine go_s (pc' := 2) (st' := [.int 30, .int 2]) rfl rfl rfl rfl ?_
  refine go_icmpP (t' := 6) (pc' := 3) rfl rfl rfl (fun _ => ?_) (fun (c : ¬ (¬ (2 : Int32) = 30)) => absurd (by decide) c)
  refine go_s (pc' := 7) rfl rfl rfl rfl ?_
  refine go_ifP (t' := 20) (pc' := 8) rfl rfl rfl (fun (c : (2 : Int32) < 0) => absurd c (by decide)) (fun _ => ?_)
  refine go_s (pc' := 9) rfl rfl rfl rfl ?_
  refine go_s (pc' := 10) (st' := [.int 2, .int 2]) rfl rfl rfl rfl ?_
  refine go_icmpP (t' := 20) (pc' := 11) rfl rfl rfl (fun (c : 2 < (2 : Int32)) => absurd c (by decide)) (fun _ => ?_)
  refine go_s (pc' := 12) rfl rfl rfl rfl ?_
  refine go_s (pc' := 13) (st' := [.int 4, .int 1]) rfl rfl rfl rfl ?_
  refine go_callS (pc' := 14) rfl rfl rfl (Nat.le_of_ble_eq_true rfl) rfl rfl rfl (ct_within_t (q := 1) (n := 4) (by decide) (by decide) (by omega)) (fun r h2 q3 => ?_)
  obtain ⟨rfl, rfl⟩ := q3
  refine go_ifP (t' := 20) (pc' := 15) rfl rfl rfl (fun (c : (1 : Int32) = 0) => absurd c (by decide)) (fun _ => ?_)
  refine go_s (pc' := 16) rfl rfl rfl rfl ?_
  refine go_s (pc' := 17) rfl rfl rfl rfl ?_
  refine go_s (pc' := 18) rfl rfl rfl rfl ?_
  refine go_callV (pc' := 19) rfl rfl rfl (Nat.le_of_ble_eq_true rfl) rfl (sm_o hS rfl) rfl rfl rfl (ct_pf_1_2 hS (by omega)) (fun r h4 q5 => ?_)
  obtain ⟨rfl, rfl⟩ := q5
  refine go_ret rfl rfl ?_
  exact ⟨rfl, rfl⟩
theorem ca_prt_1_10 {w : Nat → Bool} {d : Nat} {h : am_Hp} {m0 : mg} {B : Nat} {I : sm_I} {Q : mQ} {Z : mZ} (hC : CA w 32 m0 B h (I, Q, Z)) (hB2 : B < 2 ^ 26) (hd : 4 ≤ d) : am_Ev (am_prog w) d 114 [.ref 1, .int 10, .int 1] h (fun r h' => r = some (.int (mqpt 1 10 (I, Q, Z))) ∧ h' = h) := by
  obtain ⟨X, ow, sb, hS, hD, hB, hQ⟩ := hC
  change sm tbc h I X at hS
  change CD w 32 m0 h I Q Z X ow sb at hD
  change co h I ≤ B at hB
  change ∀ l, l < 16 → (Q l).length ≤ h.length at hQ
  have hW := hD.1.1
  have hWn : ∀ a, List.length h ≤ a → w a = true := fun a ha => (hD.1.2.1 a ha).1
  have hF1 := fr_refl tbc h
  have hln : 62 ≤ List.length h := sm_len hS
  obtain ⟨d, rfl⟩ : ∃ e, d = e + 1 := ⟨d - 1, by omega⟩
  refine ev_go rfl (Nat.le_of_ble_eq_true rfl) rfl ?_
  refine go_s (pc' := 1) rfl rfl rfl rfl ?_
  refine go_s (pc' := 2) (st' := [.int 30, .int 10]) rfl rfl rfl rfl ?_
  refine go_icmpP (t' := 6) (pc' := 3) rfl rfl rfl (fun _ => ?_) (fun (c : ¬ (¬ (10 : Int32) = 30)) => absurd (by decide) c)
  refine go_s (pc' := 7) rfl rfl rfl rfl ?_
  refine go_ifP (t' := 20) (pc' := 8) rfl rfl rfl (fun (c : (10 : Int32) < 0) => absurd c (by decide)) (fun _ => ?_)
  refine go_s (pc' := 9) rfl rfl rfl rfl ?_
  refine go_s (pc' := 10) (st' := [.int 2, .int 10]) rfl rfl rfl rfl ?_
  refine go_icmpP (t' := 20) (pc' := 11) rfl rfl rfl (fun _ => ?_) (fun (c : ¬ (2 < (10 : Int32))) => absurd (by decide) c)
  refine go_s (pc' := 21) rfl rfl rfl rfl ?_
  refine go_s (pc' := 22) (st' := [.int 10, .int 10]) rfl rfl rfl rfl ?_
  refine go_icmpP (t' := 37) (pc' := 23) rfl rfl rfl (fun (c : ¬ (10 : Int32) = 10) => absurd c (by decide)) (fun _ => ?_)
  refine go_s (pc' := 24) rfl rfl rfl rfl ?_
  refine go_s (pc' := 25) (st' := [.int 2, .int 1]) rfl rfl rfl rfl ?_
  refine go_callS (pc' := 26) rfl rfl rfl (Nat.le_of_ble_eq_true rfl) rfl rfl rfl (ct_within_t (q := 1) (n := 2) (by decide) (by decide) (by omega)) (fun r h2 q3 => ?_)
  obtain ⟨rfl, rfl⟩ := q3
  refine go_ifP (t' := 37) (pc' := 27) rfl rfl rfl (fun (c : (1 : Int32) = 0) => absurd c (by decide)) (fun _ => ?_)
  refine go_s (pc' := 28) rfl rfl rfl rfl ?_
  refine go_sget (pc' := 29) (v := .ref 2) hS rfl rfl rfl (by decide) rfl rfl ?_
  refine go_sget (pc' := 30) (v := .ref 6) hS rfl rfl rfl (by decide) rfl rfl ?_
  refine go_s (pc' := 31) rfl rfl rfl rfl ?_
  refine go_sald (pc' := 32) (q := 1) (v := .int (I 3 1)) hS rfl rfl rfl rfl (by decide) rfl rfl ?_
  refine go_ifP (t' := 35) (pc' := 33) rfl rfl rfl (fun (c4 : (I 3 1) = 0) => ?_) (fun (c4 : ¬ (I 3 1) = 0) => ?_)
  · skip
    refine go_s (pc' := 36) (st' := [.int 0]) rfl rfl rfl rfl ?_
    refine go_ret rfl rfl ?_
    exact ⟨by show _ = some (Value.int (bI (I 3 1))); simp [bI, c4], rfl⟩
  · skip
    refine go_s (pc' := 34) (st' := [.int 1]) rfl rfl rfl rfl ?_
    refine go_s (pc' := 36) rfl rfl rfl rfl ?_
    refine go_ret rfl rfl ?_
    exact ⟨by show _ = some (Value.int (bI (I 3 1))); simp [bI, c4], rfl⟩
theorem ca_prt_1_20 {w : Nat → Bool} {d : Nat} {h : am_Hp} {m0 : mg} {B : Nat} {I : sm_I} {Q : mQ} {Z : mZ} (hC : CA w 32 m0 B h (I, Q, Z)) (hB2 : B < 2 ^ 26) (hd : 4 ≤ d) : am_Ev (am_prog w) d 114 [.ref 1, .int 20, .int 1] h (fun r h' => r = some (.int (mqpt 1 20 (I, Q, Z))) ∧ h' = h) := by
  obtain ⟨X, ow, sb, hS, hD, hB, hQ⟩ := hC
  change sm tbc h I X at hS
  change CD w 32 m0 h I Q Z X ow sb at hD
  change co h I ≤ B at hB
  change ∀ l, l < 16 → (Q l).length ≤ h.length at hQ
  have hW := hD.1.1
  have hWn : ∀ a, List.length h ≤ a → w a = true := fun a ha => (hD.1.2.1 a ha).1
  have hF1 := fr_refl tbc h
  have hln : 62 ≤ List.length h := sm_len hS
  obtain ⟨d, rfl⟩ : ∃ e, d = e + 1 := ⟨d - 1, by omega⟩
  refine ev_go rfl (Nat.le_of_ble_eq_true rfl) rfl ?_
  refine go_s (pc' := 1) rfl rfl rfl rfl ?_
  refine go_s (pc' := 2) (st' := [.int 30, .int 20]) rfl rfl rfl rfl ?_
  refine go_icmpP (t' := 6) (pc' := 3) rfl rfl rfl (fun _ => ?_) (fun (c : ¬ (¬ (20 : Int32) = 30)) => absurd (by decide) c)
  refine go_s (pc' := 7) rfl rfl rfl rfl ?_
  refine go_ifP (t' := 20) (pc' := 8) rfl rfl rfl (fun (c : (20 : Int32) < 0) => absurd c (by decide)) (fun _ => ?_)
  refine go_s (pc' := 9) rfl rfl rfl rfl ?_
  refine go_s (pc' := 10) (st' := [.int 2, .int 20]) rfl rfl rfl rfl ?_
  refine go_icmpP (t' := 20) (pc' := 11) rfl rfl rfl (fun _ => ?_) (fun (c : ¬ (2 < (20 : Int32))) => absurd (by decide) c)
  refine go_s (pc' := 21) rfl rfl rfl rfl ?_
  refine go_s (pc' := 22) (st' := [.int 10, .int 20]) rfl rfl rfl rfl ?_
  refine go_icmpP (t' := 37) (pc' := 23) rfl rfl rfl (fun _ => ?_) (fun (c : ¬ (¬ (20 : Int32) = 10)) => absurd (by decide) c)
  refine go_s (pc' := 38) rfl rfl rfl rfl ?_
  refine go_s (pc' := 39) (st' := [.int 20, .int 20]) rfl rfl rfl rfl ?_
  refine go_icmpP (t' := 52) (pc' := 40) rfl rfl rfl (fun (c : (20 : Int32) < 20) => absurd c (by decide)) (fun _ => ?_)
  refine go_s (pc' := 41) rfl rfl rfl rfl ?_
  refine go_s (pc' := 42) (st' := [.int 22, .int 20]) rfl rfl rfl rfl ?_
  refine go_icmpP (t' := 52) (pc' := 43) rfl rfl rfl (fun (c : 22 < (20 : Int32)) => absurd c (by decide)) (fun _ => ?_)
  refine go_s (pc' := 44) rfl rfl rfl rfl ?_
  refine go_s (pc' := 45) (st' := [.int 2, .int 1]) rfl rfl rfl rfl ?_
  refine go_callS (pc' := 46) rfl rfl rfl (Nat.le_of_ble_eq_true rfl) rfl rfl rfl (ct_within_t (q := 1) (n := 2) (by decide) (by decide) (by omega)) (fun r h2 q3 => ?_)
  obtain ⟨rfl, rfl⟩ := q3
  refine go_ifP (t' := 52) (pc' := 47) rfl rfl rfl (fun (c : (1 : Int32) = 0) => absurd c (by decide)) (fun _ => ?_)
  refine go_s (pc' := 48) rfl rfl rfl rfl ?_
  refine go_s (pc' := 49) rfl rfl rfl rfl ?_
  refine go_s (pc' := 50) rfl rfl rfl rfl ?_
  refine go_callV (pc' := 51) rfl rfl rfl (Nat.le_of_ble_eq_true rfl) rfl (sm_o hS rfl) rfl rfl rfl (ct_df_1_20 hS (by omega)) (fun r h4 q5 => ?_)
  obtain ⟨rfl, rfl⟩ := q5
  refine go_ret rfl rfl ?_
  exact ⟨rfl, rfl⟩
theorem ca_prt_1_21 {w : Nat → Bool} {d : Nat} {h : am_Hp} {m0 : mg} {B : Nat} {I : sm_I} {Q : mQ} {Z : mZ} (hC : CA w 32 m0 B h (I, Q, Z)) (hB2 : B < 2 ^ 26) (hd : 4 ≤ d) : am_Ev (am_prog w) d 114 [.ref 1, .int 21, .int 1] h (fun r h' => r = some (.int (mqpt 1 21 (I, Q, Z))) ∧ h' = h) := by
  obtain ⟨X, ow, sb, hS, hD, hB, hQ⟩ := hC
  change sm tbc h I X at hS
  change CD w 32 m0 h I Q Z X ow sb at hD
  change co h I ≤ B at hB
  change ∀ l, l < 16 → (Q l).length ≤ h.length at hQ
  have hW := hD.1.1
  have hWn : ∀ a, List.length h ≤ a → w a = true := fun a ha => (hD.1.2.1 a ha).1
  have hF1 := fr_refl tbc h
  have hln : 62 ≤ List.length h := sm_len hS
  obtain ⟨d, rfl⟩ : ∃ e, d = e + 1 := ⟨d - 1, by omega⟩
  refine ev_go rfl (Nat.le_of_ble_eq_true rfl) rfl ?_
  refine go_s (pc' := 1) rfl rfl rfl rfl ?_
  refine go_s (pc' := 2) (st' := [.int 30, .int 21]) rfl rfl rfl rfl ?_
  refine go_icmpP (t' := 6) (pc' := 3) rfl rfl rfl (fun _ => ?_) (fun (c : ¬ (¬ (21 : Int32) = 30)) => absurd (by decide) c)
  refine go_s (pc' := 7) rfl rfl rfl rfl ?_
  refine go_ifP (t' := 20) (pc' := 8) rfl rfl rfl (fun (c : (21 : Int32) < 0) => absurd c (by decide)) (fun _ => ?_)
  refine go_s (pc' := 9) rfl rfl rfl rfl ?_
  refine go_s (pc' := 10) (st' := [.int 2, .int 21]) rfl rfl rfl rfl ?_
  refine go_icmpP (t' := 20) (pc' := 11) rfl rfl rfl (fun _ => ?_) (fun (c : ¬ (2 < (21 : Int32))) => absurd (by decide) c)
  refine go_s (pc' := 21) rfl rfl rfl rfl ?_
  refine go_s (pc' := 22) (st' := [.int 10, .int 21]) rfl rfl rfl rfl ?_
  refine go_icmpP (t' := 37) (pc' := 23) rfl rfl rfl (fun _ => ?_) (fun (c : ¬ (¬ (21 : Int32) = 10)) => absurd (by decide) c)
  refine go_s (pc' := 38) rfl rfl rfl rfl ?_
  refine go_s (pc' := 39) (st' := [.int 20, .int 21]) rfl rfl rfl rfl ?_
  refine go_icmpP (t' := 52) (pc' := 40) rfl rfl rfl (fun (c : (21 : Int32) < 20) => absurd c (by decide)) (fun _ => ?_)
  refine go_s (pc' := 41) rfl rfl rfl rfl ?_
  refine go_s (pc' := 42) (st' := [.int 22, .int 21]) rfl rfl rfl rfl ?_
  refine go_icmpP (t' := 52) (pc' := 43) rfl rfl rfl (fun (c : 22 < (21 : Int32)) => absurd c (by decide)) (fun _ => ?_)
  refine go_s (pc' := 44) rfl rfl rfl rfl ?_
  refine go_s (pc' := 45) (st' := [.int 2, .int 1]) rfl rfl rfl rfl ?_
  refine go_callS (pc' := 46) rfl rfl rfl (Nat.le_of_ble_eq_true rfl) rfl rfl rfl (ct_within_t (q := 1) (n := 2) (by decide) (by decide) (by omega)) (fun r h2 q3 => ?_)
  obtain ⟨rfl, rfl⟩ := q3
  refine go_ifP (t' := 52) (pc' := 47) rfl rfl rfl (fun (c : (1 : Int32) = 0) => absurd c (by decide)) (fun _ => ?_)
  refine go_s (pc' := 48) rfl rfl rfl rfl ?_
  refine go_s (pc' := 49) rfl rfl rfl rfl ?_
  refine go_s (pc' := 50) rfl rfl rfl rfl ?_
  refine go_callV (pc' := 51) rfl rfl rfl (Nat.le_of_ble_eq_true rfl) rfl (sm_o hS rfl) rfl rfl rfl (ct_df_1_21 hS (by omega)) (fun r h4 q5 => ?_)
  obtain ⟨rfl, rfl⟩ := q5
  refine go_ret rfl rfl ?_
  exact ⟨rfl, rfl⟩
theorem ca_prt_1_22 {w : Nat → Bool} {d : Nat} {h : am_Hp} {m0 : mg} {B : Nat} {I : sm_I} {Q : mQ} {Z : mZ} (hC : CA w 32 m0 B h (I, Q, Z)) (hB2 : B < 2 ^ 26) (hd : 4 ≤ d) : am_Ev (am_prog w) d 114 [.ref 1, .int 22, .int 1] h (fun r h' => r = some (.int (mqpt 1 22 (I, Q, Z))) ∧ h' = h) := by
  obtain ⟨X, ow, sb, hS, hD, hB, hQ⟩ := hC
  change sm tbc h I X at hS
  change CD w 32 m0 h I Q Z X ow sb at hD
  change co h I ≤ B at hB
  change ∀ l, l < 16 → (Q l).length ≤ h.length at hQ
  have hW := hD.1.1
  have hWn : ∀ a, List.length h ≤ a → w a = true := fun a ha => (hD.1.2.1 a ha).1
  have hF1 := fr_refl tbc h
  have hln : 62 ≤ List.length h := sm_len hS
  obtain ⟨d, rfl⟩ : ∃ e, d = e + 1 := ⟨d - 1, by omega⟩
  refine ev_go rfl (Nat.le_of_ble_eq_true rfl) rfl ?_
  refine go_s (pc' := 1) rfl rfl rfl rfl ?_
  refine go_s (pc' := 2) (st' := [.int 30, .int 22]) rfl rfl rfl rfl ?_
  refine go_icmpP (t' := 6) (pc' := 3) rfl rfl rfl (fun _ => ?_) (fun (c : ¬ (¬ (22 : Int32) = 30)) => absurd (by decide) c)
  refine go_s (pc' := 7) rfl rfl rfl rfl ?_
  refine go_ifP (t' := 20) (pc' := 8) rfl rfl rfl (fun (c : (22 : Int32) < 0) => absurd c (by decide)) (fun _ => ?_)
  refine go_s (pc' := 9) rfl rfl rfl rfl ?_
  refine go_s (pc' := 10) (st' := [.int 2, .int 22]) rfl rfl rfl rfl ?_
  refine go_icmpP (t' := 20) (pc' := 11) rfl rfl rfl (fun _ => ?_) (fun (c : ¬ (2 < (22 : Int32))) => absurd (by decide) c)
  refine go_s (pc' := 21) rfl rfl rfl rfl ?_
  refine go_s (pc' := 22) (st' := [.int 10, .int 22]) rfl rfl rfl rfl ?_
  refine go_icmpP (t' := 37) (pc' := 23) rfl rfl rfl (fun _ => ?_) (fun (c : ¬ (¬ (22 : Int32) = 10)) => absurd (by decide) c)
  refine go_s (pc' := 38) rfl rfl rfl rfl ?_
  refine go_s (pc' := 39) (st' := [.int 20, .int 22]) rfl rfl rfl rfl ?_
  refine go_icmpP (t' := 52) (pc' := 40) rfl rfl rfl (fun (c : (22 : Int32) < 20) => absurd c (by decide)) (fun _ => ?_)
  refine go_s (pc' := 41) rfl rfl rfl rfl ?_
  refine go_s (pc' := 42) (st' := [.int 22, .int 22]) rfl rfl rfl rfl ?_
  refine go_icmpP (t' := 52) (pc' := 43) rfl rfl rfl (fun (c : 22 < (22 : Int32)) => absurd c (by decide)) (fun _ => ?_)
  refine go_s (pc' := 44) rfl rfl rfl rfl ?_
  refine go_s (pc' := 45) (st' := [.int 2, .int 1]) rfl rfl rfl rfl ?_
  refine go_callS (pc' := 46) rfl rfl rfl (Nat.le_of_ble_eq_true rfl) rfl rfl rfl (ct_within_t (q := 1) (n := 2) (by decide) (by decide) (by omega)) (fun r h2 q3 => ?_)
  obtain ⟨rfl, rfl⟩ := q3
  refine go_ifP (t' := 52) (pc' := 47) rfl rfl rfl (fun (c : (1 : Int32) = 0) => absurd c (by decide)) (fun _ => ?_)
  refine go_s (pc' := 48) rfl rfl rfl rfl ?_
  refine go_s (pc' := 49) rfl rfl rfl rfl ?_
  refine go_s (pc' := 50) rfl rfl rfl rfl ?_
  obtain ⟨n9, hn9, hn8⟩ := hD.2.2.2.1.1 1 (by decide)
  refine go_callV (pc' := 51) rfl rfl rfl (Nat.le_of_ble_eq_true rfl) rfl (sm_o hS rfl) rfl rfl rfl (ct_df_1_22 hS hn9 hn8 (by omega)) (fun r h4 q5 => ?_)
  obtain ⟨rfl, rfl⟩ := q5
  refine go_ret rfl rfl ?_
  exact ⟨rfl, rfl⟩
theorem ca_prt_1_n {w : Nat → Bool} {d : Nat} {h : am_Hp} {m0 : mg} {B : Nat} {I : sm_I} {Q : mQ} {Z : mZ} (hC : CA w 32 m0 B h (I, Q, Z)) (hB2 : B < 2 ^ 26) {x : Int32} (x30 : ¬ x = 30) (x0 : ¬ x = 0) (x1 : ¬ x = 1) (x2 : ¬ x = 2) (x10 : ¬ x = 10) (x20 : ¬ x = 20) (x21 : ¬ x = 21) (x22 : ¬ x = 22) (hd : 4 ≤ d) : am_Ev (am_prog w) d 114 [.ref 1, .int x, .int 1] h (fun r h' => r = some (.int (mqpt 1 x (I, Q, Z))) ∧ h' = h) := by
  obtain ⟨X, ow, sb, hS, hD, hB, hQ⟩ := hC
  change sm tbc h I X at hS
  change CD w 32 m0 h I Q Z X ow sb at hD
  change co h I ≤ B at hB
  change ∀ l, l < 16 → (Q l).length ≤ h.length at hQ
  have hW := hD.1.1
  have hWn : ∀ a, List.length h ≤ a → w a = true := fun a ha => (hD.1.2.1 a ha).1
  have hF1 := fr_refl tbc h
  have hln : 62 ≤ List.length h := sm_len hS
  obtain ⟨d, rfl⟩ : ∃ e, d = e + 1 := ⟨d - 1, by omega⟩
  refine ev_go rfl (Nat.le_of_ble_eq_true rfl) rfl ?_
  refine go_s (pc' := 1) rfl rfl rfl rfl ?_
  refine go_s (pc' := 2) (st' := [.int 30, .int x]) rfl rfl rfl rfl ?_
  refine go_icmpP (t' := 6) (pc' := 3) rfl rfl rfl (fun _ => ?_) (fun (c : ¬ (¬ x = 30)) => absurd x30 c)
  refine go_s (pc' := 7) rfl rfl rfl rfl ?_
  refine go_ifP (t' := 20) (pc' := 8) rfl rfl rfl (fun (c2 : x < 0) => ?_) (fun (c2 : ¬ x < 0) => ?_)
  · skip
    refine go_s (pc' := 21) rfl rfl rfl rfl ?_
    refine go_s (pc' := 22) (st' := [.int 10, .int x]) rfl rfl rfl rfl ?_
    refine go_icmpP (t' := 37) (pc' := 23) rfl rfl rfl (fun _ => ?_) (fun (c : ¬ (¬ x = 10)) => absurd x10 c)
    refine go_s (pc' := 38) rfl rfl rfl rfl ?_
    refine go_s (pc' := 39) (st' := [.int 20, .int x]) rfl rfl rfl rfl ?_
    refine go_icmpP (t' := 52) (pc' := 40) rfl rfl rfl (fun (c3 : x < 20) => ?_) (fun (c3 : ¬ x < 20) => ?_)
    · skip
      refine go_s (pc' := 53) (st' := [.int (-1)]) rfl rfl rfl rfl ?_
      refine go_ret rfl rfl ?_
      exact ⟨by unfold mqpt; rw [if_neg x30, if_neg x0, if_neg x1, if_neg x2]; first | rw [if_pos (by decide), if_neg x10, if_neg x20, if_neg x21, if_neg x22] | rw [if_neg (by decide)], rfl⟩
    · skip
      refine go_s (pc' := 41) rfl rfl rfl rfl ?_
      refine go_s (pc' := 42) (st' := [.int 22, .int x]) rfl rfl rfl rfl ?_
      refine go_icmpP (t' := 52) (pc' := 43) rfl rfl rfl (fun (c4 : 22 < x) => ?_) (fun (c4 : ¬ 22 < x) => ?_)
      · skip
        refine go_s (pc' := 53) (st' := [.int (-1)]) rfl rfl rfl rfl ?_
        refine go_ret rfl rfl ?_
        exact ⟨by unfold mqpt; rw [if_neg x30, if_neg x0, if_neg x1, if_neg x2]; first | rw [if_pos (by decide), if_neg x10, if_neg x20, if_neg x21, if_neg x22] | rw [if_neg (by decide)], rfl⟩
      · skip
        refine go_s (pc' := 44) rfl rfl rfl rfl ?_
        refine go_s (pc' := 45) (st' := [.int 2, .int 1]) rfl rfl rfl rfl ?_
        refine go_callS (pc' := 46) rfl rfl rfl (Nat.le_of_ble_eq_true rfl) rfl rfl rfl (ct_within_t (q := 1) (n := 2) (by decide) (by decide) (by omega)) (fun r h5 q6 => ?_)
        obtain ⟨rfl, rfl⟩ := q6
        refine go_ifP (t' := 52) (pc' := 47) rfl rfl rfl (fun (c : (1 : Int32) = 0) => absurd c (by decide)) (fun _ => ?_)
        refine go_s (pc' := 48) rfl rfl rfl rfl ?_
        refine go_s (pc' := 49) rfl rfl rfl rfl ?_
        refine go_s (pc' := 50) rfl rfl rfl rfl ?_
        exact (i32_20 c3 c4 x20 x21 x22).elim
  · skip
    refine go_s (pc' := 9) rfl rfl rfl rfl ?_
    refine go_s (pc' := 10) (st' := [.int 2, .int x]) rfl rfl rfl rfl ?_
    refine go_icmpP (t' := 20) (pc' := 11) rfl rfl rfl (fun (c7 : 2 < x) => ?_) (fun (c7 : ¬ 2 < x) => ?_)
    · skip
      refine go_s (pc' := 21) rfl rfl rfl rfl ?_
      refine go_s (pc' := 22) (st' := [.int 10, .int x]) rfl rfl rfl rfl ?_
      refine go_icmpP (t' := 37) (pc' := 23) rfl rfl rfl (fun _ => ?_) (fun (c : ¬ (¬ x = 10)) => absurd x10 c)
      refine go_s (pc' := 38) rfl rfl rfl rfl ?_
      refine go_s (pc' := 39) (st' := [.int 20, .int x]) rfl rfl rfl rfl ?_
      refine go_icmpP (t' := 52) (pc' := 40) rfl rfl rfl (fun (c8 : x < 20) => ?_) (fun (c8 : ¬ x < 20) => ?_)
      · skip
        refine go_s (pc' := 53) (st' := [.int (-1)]) rfl rfl rfl rfl ?_
        refine go_ret rfl rfl ?_
        exact ⟨by unfold mqpt; rw [if_neg x30, if_neg x0, if_neg x1, if_neg x2]; first | rw [if_pos (by decide), if_neg x10, if_neg x20, if_neg x21, if_neg x22] | rw [if_neg (by decide)], rfl⟩
      · skip
        refine go_s (pc' := 41) rfl rfl rfl rfl ?_
        refine go_s (pc' := 42) (st' := [.int 22, .int x]) rfl rfl rfl rfl ?_
        refine go_icmpP (t' := 52) (pc' := 43) rfl rfl rfl (fun (c9 : 22 < x) => ?_) (fun (c9 : ¬ 22 < x) => ?_)
        · skip
          refine go_s (pc' := 53) (st' := [.int (-1)]) rfl rfl rfl rfl ?_
          refine go_ret rfl rfl ?_
          exact ⟨by unfold mqpt; rw [if_neg x30, if_neg x0, if_neg x1, if_neg x2]; first | rw [if_pos (by decide), if_neg x10, if_neg x20, if_neg x21, if_neg x22] | rw [if_neg (by decide)], rfl⟩
        · skip
          refine go_s (pc' := 44) rfl rfl rfl rfl ?_
          refine go_s (pc' := 45) (st' := [.int 2, .int 1]) rfl rfl rfl rfl ?_
          refine go_callS (pc' := 46) rfl rfl rfl (Nat.le_of_ble_eq_true rfl) rfl rfl rfl (ct_within_t (q := 1) (n := 2) (by decide) (by decide) (by omega)) (fun r h10 q11 => ?_)
          obtain ⟨rfl, rfl⟩ := q11
          refine go_ifP (t' := 52) (pc' := 47) rfl rfl rfl (fun (c : (1 : Int32) = 0) => absurd c (by decide)) (fun _ => ?_)
          refine go_s (pc' := 48) rfl rfl rfl rfl ?_
          refine go_s (pc' := 49) rfl rfl rfl rfl ?_
          refine go_s (pc' := 50) rfl rfl rfl rfl ?_
          exact (i32_20 c8 c9 x20 x21 x22).elim
    · skip
      refine go_s (pc' := 12) rfl rfl rfl rfl ?_
      refine go_s (pc' := 13) (st' := [.int 4, .int 1]) rfl rfl rfl rfl ?_
      refine go_callS (pc' := 14) rfl rfl rfl (Nat.le_of_ble_eq_true rfl) rfl rfl rfl (ct_within_t (q := 1) (n := 4) (by decide) (by decide) (by omega)) (fun r h12 q13 => ?_)
      obtain ⟨rfl, rfl⟩ := q13
      refine go_ifP (t' := 20) (pc' := 15) rfl rfl rfl (fun (c : (1 : Int32) = 0) => absurd c (by decide)) (fun _ => ?_)
      refine go_s (pc' := 16) rfl rfl rfl rfl ?_
      refine go_s (pc' := 17) rfl rfl rfl rfl ?_
      refine go_s (pc' := 18) rfl rfl rfl rfl ?_
      exact (i32_012 c2 c7 x0 x1 x2).elim
theorem ca_prt_1 {w : Nat → Bool} {d : Nat} {h : am_Hp} {m0 : mg} {B : Nat} {I : sm_I} {Q : mQ} {Z : mZ} (hC : CA w 32 m0 B h (I, Q, Z)) (hB2 : B < 2 ^ 26) {x : Int32} (hd : 4 ≤ d) : am_Ev (am_prog w) d 114 [.ref 1, .int x, .int 1] h (fun r h' => r = some (.int (mqpt 1 x (I, Q, Z))) ∧ h' = h) := by
  by_cases x30 : x = 30
  · subst x30; exact ca_prt_1_30 hC hB2 hd
  by_cases x0 : x = 0
  · subst x0; exact ca_prt_1_0 hC hB2 hd
  by_cases x1 : x = 1
  · subst x1; exact ca_prt_1_1 hC hB2 hd
  by_cases x2 : x = 2
  · subst x2; exact ca_prt_1_2 hC hB2 hd
  by_cases x10 : x = 10
  · subst x10; exact ca_prt_1_10 hC hB2 hd
  by_cases x20 : x = 20
  · subst x20; exact ca_prt_1_20 hC hB2 hd
  by_cases x21 : x = 21
  · subst x21; exact ca_prt_1_21 hC hB2 hd
  by_cases x22 : x = 22
  · subst x22; exact ca_prt_1_22 hC hB2 hd
  exact ca_prt_1_n hC hB2 x30 x0 x1 x2 x10 x20 x21 x22 hd
theorem ca_prt_2_30 {w : Nat → Bool} {d : Nat} {h : am_Hp} {m0 : mg} {B : Nat} {I : sm_I} {Q : mQ} {Z : mZ} (hC : CA w 32 m0 B h (I, Q, Z)) (hB2 : B < 2 ^ 26) (hd : 4 ≤ d) : am_Ev (am_prog w) d 114 [.ref 1, .int 30, .int 2] h (fun r h' => r = some (.int (mqpt 2 30 (I, Q, Z))) ∧ h' = h) := by
  obtain ⟨X, ow, sb, hS, hD, hB, hQ⟩ := hC
  change sm tbc h I X at hS
  change CD w 32 m0 h I Q Z X ow sb at hD
  change co h I ≤ B at hB
  change ∀ l, l < 16 → (Q l).length ≤ h.length at hQ
  have hW := hD.1.1
  have hWn : ∀ a, List.length h ≤ a → w a = true := fun a ha => (hD.1.2.1 a ha).1
  have hF1 := fr_refl tbc h
  have hln : 62 ≤ List.length h := sm_len hS
  obtain ⟨d, rfl⟩ : ∃ e, d = e + 1 := ⟨d - 1, by omega⟩
  refine ev_go rfl (Nat.le_of_ble_eq_true rfl) rfl ?_
  refine go_s (pc' := 1) rfl rfl rfl rfl ?_
  refine go_s (pc' := 2) (st' := [.int 30, .int 30]) rfl rfl rfl rfl ?_
  refine go_icmpP (t' := 6) (pc' := 3) rfl rfl rfl (fun (c : ¬ (30 : Int32) = 30) => absurd c (by decide)) (fun _ => ?_)
  refine go_s (pc' := 4) rfl rfl rfl rfl ?_
  refine go_sget (pc' := 5) (v := .int (I 8 0)) hS rfl rfl rfl (by decide) rfl rfl ?_
  refine go_ret rfl rfl ?_
  exact ⟨rfl, rfl⟩
theorem ca_prt_2_0 {w : Nat → Bool} {d : Nat} {h : am_Hp} {m0 : mg} {B : Nat} {I : sm_I} {Q : mQ} {Z : mZ} (hC : CA w 32 m0 B h (I, Q, Z)) (hB2 : B < 2 ^ 26) (hd : 4 ≤ d) : am_Ev (am_prog w) d 114 [.ref 1, .int 0, .int 2] h (fun r h' => r = some (.int (mqpt 2 0 (I, Q, Z))) ∧ h' = h) := by
  obtain ⟨X, ow, sb, hS, hD, hB, hQ⟩ := hC
  change sm tbc h I X at hS
  change CD w 32 m0 h I Q Z X ow sb at hD
  change co h I ≤ B at hB
  change ∀ l, l < 16 → (Q l).length ≤ h.length at hQ
  have hW := hD.1.1
  have hWn : ∀ a, List.length h ≤ a → w a = true := fun a ha => (hD.1.2.1 a ha).1
  have hF1 := fr_refl tbc h
  have hln : 62 ≤ List.length h := sm_len hS
  obtain ⟨d, rfl⟩ : ∃ e, d = e + 1 := ⟨d - 1, by omega⟩
  refine ev_go rfl (Nat.le_of_ble_eq_true rfl) rfl ?_
  refine go_s (pc' := 1) rfl rfl rfl rfl ?_
  refine go_s (pc' := 2) (st' := [.int 30, .int 0]) rfl rfl rfl rfl ?_
  refine go_icmpP (t' := 6) (pc' := 3) rfl rfl rfl (fun _ => ?_) (fun (c : ¬ (¬ (0 : Int32) = 30)) => absurd (by decide) c)
  refine go_s (pc' := 7) rfl rfl rfl rfl ?_
  refine go_ifP (t' := 20) (pc' := 8) rfl rfl rfl (fun (c : (0 : Int32) < 0) => absurd c (by decide)) (fun _ => ?_)
  refine go_s (pc' := 9) rfl rfl rfl rfl ?_
  refine go_s (pc' := 10) (st' := [.int 2, .int 0]) rfl rfl rfl rfl ?_
  refine go_icmpP (t' := 20) (pc' := 11) rfl rfl rfl (fun (c : 2 < (0 : Int32)) => absurd c (by decide)) (fun _ => ?_)
  refine go_s (pc' := 12) rfl rfl rfl rfl ?_
  refine go_s (pc' := 13) (st' := [.int 4, .int 2]) rfl rfl rfl rfl ?_
  refine go_callS (pc' := 14) rfl rfl rfl (Nat.le_of_ble_eq_true rfl) rfl rfl rfl (ct_within_t (q := 2) (n := 4) (by decide) (by decide) (by omega)) (fun r h2 q3 => ?_)
  obtain ⟨rfl, rfl⟩ := q3
  refine go_ifP (t' := 20) (pc' := 15) rfl rfl rfl (fun (c : (1 : Int32) = 0) => absurd c (by decide)) (fun _ => ?_)
  refine go_s (pc' := 16) rfl rfl rfl rfl ?_
  refine go_s (pc' := 17) rfl rfl rfl rfl ?_
  refine go_s (pc' := 18) rfl rfl rfl rfl ?_
  refine go_callV (pc' := 19) rfl rfl rfl (Nat.le_of_ble_eq_true rfl) rfl (sm_o hS rfl) rfl rfl rfl (ct_pf_2_0 hS (by omega)) (fun r h4 q5 => ?_)
  obtain ⟨rfl, rfl⟩ := q5
  refine go_ret rfl rfl ?_
  exact ⟨rfl, rfl⟩
theorem ca_prt_2_1 {w : Nat → Bool} {d : Nat} {h : am_Hp} {m0 : mg} {B : Nat} {I : sm_I} {Q : mQ} {Z : mZ} (hC : CA w 32 m0 B h (I, Q, Z)) (hB2 : B < 2 ^ 26) (hd : 4 ≤ d) : am_Ev (am_prog w) d 114 [.ref 1, .int 1, .int 2] h (fun r h' => r = some (.int (mqpt 2 1 (I, Q, Z))) ∧ h' = h) := by
  obtain ⟨X, ow, sb, hS, hD, hB, hQ⟩ := hC
  change sm tbc h I X at hS
  change CD w 32 m0 h I Q Z X ow sb at hD
  change co h I ≤ B at hB
  change ∀ l, l < 16 → (Q l).length ≤ h.length at hQ
  have hW := hD.1.1
  have hWn : ∀ a, List.length h ≤ a → w a = true := fun a ha => (hD.1.2.1 a ha).1
  have hF1 := fr_refl tbc h
  have hln : 62 ≤ List.length h := sm_len hS
  obtain ⟨d, rfl⟩ : ∃ e, d = e + 1 := ⟨d - 1, by omega⟩
  refine ev_go rfl (Nat.le_of_ble_eq_true rfl) rfl ?_
  refine go_s (pc' := 1) rfl rfl rfl rfl ?_
  refine go_s (pc' := 2) (st' := [.int 30, .int 1]) rfl rfl rfl rfl ?_
  refine go_icmpP (t' := 6) (pc' := 3) rfl rfl rfl (fun _ => ?_) (fun (c : ¬ (¬ (1 : Int32) = 30)) => absurd (by decide) c)
  refine go_s (pc' := 7) rfl rfl rfl rfl ?_
  refine go_ifP (t' := 20) (pc' := 8) rfl rfl rfl (fun (c : (1 : Int32) < 0) => absurd c (by decide)) (fun _ => ?_)
  refine go_s (pc' := 9) rfl rfl rfl rfl ?_
  refine go_s (pc' := 10) (st' := [.int 2, .int 1]) rfl rfl rfl rfl ?_
  refine go_icmpP (t' := 20) (pc' := 11) rfl rfl rfl (fun (c : 2 < (1 : Int32)) => absurd c (by decide)) (fun _ => ?_)
  refine go_s (pc' := 12) rfl rfl rfl rfl ?_
  refine go_s (pc' := 13) (st' := [.int 4, .int 2]) rfl rfl rfl rfl ?_
  refine go_callS (pc' := 14) rfl rfl rfl (Nat.le_of_ble_eq_true rfl) rfl rfl rfl (ct_within_t (q := 2) (n := 4) (by decide) (by decide) (by omega)) (fun r h2 q3 => ?_)
  obtain ⟨rfl, rfl⟩ := q3
  refine go_ifP (t' := 20) (pc' := 15) rfl rfl rfl (fun (c : (1 : Int32) = 0) => absurd c (by decide)) (fun _ => ?_)
  refine go_s (pc' := 16) rfl rfl rfl rfl ?_
  refine go_s (pc' := 17) rfl rfl rfl rfl ?_
  refine go_s (pc' := 18) rfl rfl rfl rfl ?_
  refine go_callV (pc' := 19) rfl rfl rfl (Nat.le_of_ble_eq_true rfl) rfl (sm_o hS rfl) rfl rfl rfl (ct_pf_2_1 hS (by omega)) (fun r h4 q5 => ?_)
  obtain ⟨rfl, rfl⟩ := q5
  refine go_ret rfl rfl ?_
  exact ⟨rfl, rfl⟩
theorem ca_prt_2_2 {w : Nat → Bool} {d : Nat} {h : am_Hp} {m0 : mg} {B : Nat} {I : sm_I} {Q : mQ} {Z : mZ} (hC : CA w 32 m0 B h (I, Q, Z)) (hB2 : B < 2 ^ 26) (hd : 4 ≤ d) : am_Ev (am_prog w) d 114 [.ref 1, .int 2, .int 2] h (fun r h' => r = some (.int (mqpt 2 2 (I, Q, Z))) ∧ h' = h) := by
  obtain ⟨X, ow, sb, hS, hD, hB, hQ⟩ := hC
  change sm tbc h I X at hS
  change CD w 32 m0 h I Q Z X ow sb at hD
  change co h I ≤ B at hB
  change ∀ l, l < 16 → (Q l).length ≤ h.length at hQ
  have hW := hD.1.1
  have hWn : ∀ a, List.length h ≤ a → w a = true := fun a ha => (hD.1.2.1 a ha).1
  have hF1 := fr_refl tbc h
  have hln : 62 ≤ List.length h := sm_len hS
  obtain ⟨d, rfl⟩ : ∃ e, d = e + 1 := ⟨d - 1, by omega⟩
  refine ev_go rfl (Nat.le_of_ble_eq_true rfl) rfl ?_
  refine go_s (pc' := 1) rfl rfl rfl rfl ?_
  refine go_s (pc' := 2) (st' := [.int 30, .int 2]) rfl rfl rfl rfl ?_
  refine go_icmpP (t' := 6) (pc' := 3) rfl rfl rfl (fun _ => ?_) (fun (c : ¬ (¬ (2 : Int32) = 30)) => absurd (by decide) c)
  refine go_s (pc' := 7) rfl rfl rfl rfl ?_
  refine go_ifP (t' := 20) (pc' := 8) rfl rfl rfl (fun (c : (2 : Int32) < 0) => absurd c (by decide)) (fun _ => ?_)
  refine go_s (pc' := 9) rfl rfl rfl rfl ?_
  refine go_s (pc' := 10) (st' := [.int 2, .int 2]) rfl rfl rfl rfl ?_
  refine go_icmpP (t' := 20) (pc' := 11) rfl rfl rfl (fun (c : 2 < (2 : Int32)) => absurd c (by decide)) (fun _ => ?_)
  refine go_s (pc' := 12) rfl rfl rfl rfl ?_
  refine go_s (pc' := 13) (st' := [.int 4, .int 2]) rfl rfl rfl rfl ?_
  refine go_callS (pc' := 14) rfl rfl rfl (Nat.le_of_ble_eq_true rfl) rfl rfl rfl (ct_within_t (q := 2) (n := 4) (by decide) (by decide) (by omega)) (fun r h2 q3 => ?_)
  obtain ⟨rfl, rfl⟩ := q3
  refine go_ifP (t' := 20) (pc' := 15) rfl rfl rfl (fun (c : (1 : Int32) = 0) => absurd c (by decide)) (fun _ => ?_)
  refine go_s (pc' := 16) rfl rfl rfl rfl ?_
  refine go_s (pc' := 17) rfl rfl rfl rfl ?_
  refine go_s (pc' := 18) rfl rfl rfl rfl ?_
  refine go_callV (pc' := 19) rfl rfl rfl (Nat.le_of_ble_eq_true rfl) rfl (sm_o hS rfl) rfl rfl rfl (ct_pf_2_2 hS (by omega)) (fun r h4 q5 => ?_)
  obtain ⟨rfl, rfl⟩ := q5
  refine go_ret rfl rfl ?_
  exact ⟨rfl, rfl⟩
theorem ca_prt_2_10 {w : Nat → Bool} {d : Nat} {h : am_Hp} {m0 : mg} {B : Nat} {I : sm_I} {Q : mQ} {Z : mZ} (hC : CA w 32 m0 B h (I, Q, Z)) (hB2 : B < 2 ^ 26) (hd : 4 ≤ d) : am_Ev (am_prog w) d 114 [.ref 1, .int 10, .int 2] h (fun r h' => r = some (.int (mqpt 2 10 (I, Q, Z))) ∧ h' = h) := by
  obtain ⟨X, ow, sb, hS, hD, hB, hQ⟩ := hC
  change sm tbc h I X at hS
  change CD w 32 m0 h I Q Z X ow sb at hD
  change co h I ≤ B at hB
  change ∀ l, l < 16 → (Q l).length ≤ h.length at hQ
  have hW := hD.1.1
  have hWn : ∀ a, List.length h ≤ a → w a = true := fun a ha => (hD.1.2.1 a ha).1
  have hF1 := fr_refl tbc h
  have hln : 62 ≤ List.length h := sm_len hS
  obtain ⟨d, rfl⟩ : ∃ e, d = e + 1 := ⟨d - 1, by omega⟩
  refine ev_go rfl (Nat.le_of_ble_eq_true rfl) rfl ?_
  refine go_s (pc' := 1) rfl rfl rfl rfl ?_
  refine go_s (pc' := 2) (st' := [.int 30, .int 10]) rfl rfl rfl rfl ?_
  refine go_icmpP (t' := 6) (pc' := 3) rfl rfl rfl (fun _ => ?_) (fun (c : ¬ (¬ (10 : Int32) = 30)) => absurd (by decide) c)
  refine go_s (pc' := 7) rfl rfl rfl rfl ?_
  refine go_ifP (t' := 20) (pc' := 8) rfl rfl rfl (fun (c : (10 : Int32) < 0) => absurd c (by decide)) (fun _ => ?_)
  refine go_s (pc' := 9) rfl rfl rfl rfl ?_
  refine go_s (pc' := 10) (st' := [.int 2, .int 10]) rfl rfl rfl rfl ?_
  refine go_icmpP (t' := 20) (pc' := 11) rfl rfl rfl (fun _ => ?_) (fun (c : ¬ (2 < (10 : Int32))) => absurd (by decide) c)
  refine go_s (pc' := 21) rfl rfl rfl rfl ?_
  refine go_s (pc' := 22) (st' := [.int 10, .int 10]) rfl rfl rfl rfl ?_
  refine go_icmpP (t' := 37) (pc' := 23) rfl rfl rfl (fun (c : ¬ (10 : Int32) = 10) => absurd c (by decide)) (fun _ => ?_)
  refine go_s (pc' := 24) rfl rfl rfl rfl ?_
  refine go_s (pc' := 25) (st' := [.int 2, .int 2]) rfl rfl rfl rfl ?_
  refine go_callS (pc' := 26) rfl rfl rfl (Nat.le_of_ble_eq_true rfl) rfl rfl rfl (ct_within_f (a := 2) (n := 2) (by decide) (by omega)) (fun r h2 q3 => ?_)
  obtain ⟨rfl, rfl⟩ := q3
  refine go_ifP (t' := 37) (pc' := 27) rfl rfl rfl (fun _ => ?_) (fun (c : ¬ ((0 : Int32) = 0)) => absurd (by decide) c)
  refine go_s (pc' := 38) rfl rfl rfl rfl ?_
  refine go_s (pc' := 39) (st' := [.int 20, .int 10]) rfl rfl rfl rfl ?_
  refine go_icmpP (t' := 52) (pc' := 40) rfl rfl rfl (fun _ => ?_) (fun (c : ¬ ((10 : Int32) < 20)) => absurd (by decide) c)
  refine go_s (pc' := 53) (st' := [.int (-1)]) rfl rfl rfl rfl ?_
  refine go_ret rfl rfl ?_
  exact ⟨rfl, rfl⟩
theorem ca_prt_2_20 {w : Nat → Bool} {d : Nat} {h : am_Hp} {m0 : mg} {B : Nat} {I : sm_I} {Q : mQ} {Z : mZ} (hC : CA w 32 m0 B h (I, Q, Z)) (hB2 : B < 2 ^ 26) (hd : 4 ≤ d) : am_Ev (am_prog w) d 114 [.ref 1, .int 20, .int 2] h (fun r h' => r = some (.int (mqpt 2 20 (I, Q, Z))) ∧ h' = h) := by
  obtain ⟨X, ow, sb, hS, hD, hB, hQ⟩ := hC
  change sm tbc h I X at hS
  change CD w 32 m0 h I Q Z X ow sb at hD
  change co h I ≤ B at hB
  change ∀ l, l < 16 → (Q l).length ≤ h.length at hQ
  have hW := hD.1.1
  have hWn : ∀ a, List.length h ≤ a → w a = true := fun a ha => (hD.1.2.1 a ha).1
  have hF1 := fr_refl tbc h
  have hln : 62 ≤ List.length h := sm_len hS
  obtain ⟨d, rfl⟩ : ∃ e, d = e + 1 := ⟨d - 1, by omega⟩
  refine ev_go rfl (Nat.le_of_ble_eq_true rfl) rfl ?_
  refine go_s (pc' := 1) rfl rfl rfl rfl ?_
  refine go_s (pc' := 2) (st' := [.int 30, .int 20]) rfl rfl rfl rfl ?_
  refine go_icmpP (t' := 6) (pc' := 3) rfl rfl rfl (fun _ => ?_) (fun (c : ¬ (¬ (20 : Int32) = 30)) => absurd (by decide) c)
  refine go_s (pc' := 7) rfl rfl rfl rfl ?_
  refine go_ifP (t' := 20) (pc' := 8) rfl rfl rfl (fun (c : (20 : Int32) < 0) => absurd c (by decide)) (fun _ => ?_)
  refine go_s (pc' := 9) rfl rfl rfl rfl ?_
  refine go_s (pc' := 10) (st' := [.int 2, .int 20]) rfl rfl rfl rfl ?_
  refine go_icmpP (t' := 20) (pc' := 11) rfl rfl rfl (fun _ => ?_) (fun (c : ¬ (2 < (20 : Int32))) => absurd (by decide) c)
  refine go_s (pc' := 21) rfl rfl rfl rfl ?_
  refine go_s (pc' := 22) (st' := [.int 10, .int 20]) rfl rfl rfl rfl ?_
  refine go_icmpP (t' := 37) (pc' := 23) rfl rfl rfl (fun _ => ?_) (fun (c : ¬ (¬ (20 : Int32) = 10)) => absurd (by decide) c)
  refine go_s (pc' := 38) rfl rfl rfl rfl ?_
  refine go_s (pc' := 39) (st' := [.int 20, .int 20]) rfl rfl rfl rfl ?_
  refine go_icmpP (t' := 52) (pc' := 40) rfl rfl rfl (fun (c : (20 : Int32) < 20) => absurd c (by decide)) (fun _ => ?_)
  refine go_s (pc' := 41) rfl rfl rfl rfl ?_
  refine go_s (pc' := 42) (st' := [.int 22, .int 20]) rfl rfl rfl rfl ?_
  refine go_icmpP (t' := 52) (pc' := 43) rfl rfl rfl (fun (c : 22 < (20 : Int32)) => absurd c (by decide)) (fun _ => ?_)
  refine go_s (pc' := 44) rfl rfl rfl rfl ?_
  refine go_s (pc' := 45) (st' := [.int 2, .int 2]) rfl rfl rfl rfl ?_
  refine go_callS (pc' := 46) rfl rfl rfl (Nat.le_of_ble_eq_true rfl) rfl rfl rfl (ct_within_f (a := 2) (n := 2) (by decide) (by omega)) (fun r h2 q3 => ?_)
  obtain ⟨rfl, rfl⟩ := q3
  refine go_ifP (t' := 52) (pc' := 47) rfl rfl rfl (fun _ => ?_) (fun (c : ¬ ((0 : Int32) = 0)) => absurd (by decide) c)
  refine go_s (pc' := 53) (st' := [.int (-1)]) rfl rfl rfl rfl ?_
  refine go_ret rfl rfl ?_
  exact ⟨rfl, rfl⟩
theorem ca_prt_2_21 {w : Nat → Bool} {d : Nat} {h : am_Hp} {m0 : mg} {B : Nat} {I : sm_I} {Q : mQ} {Z : mZ} (hC : CA w 32 m0 B h (I, Q, Z)) (hB2 : B < 2 ^ 26) (hd : 4 ≤ d) : am_Ev (am_prog w) d 114 [.ref 1, .int 21, .int 2] h (fun r h' => r = some (.int (mqpt 2 21 (I, Q, Z))) ∧ h' = h) := by
  obtain ⟨X, ow, sb, hS, hD, hB, hQ⟩ := hC
  change sm tbc h I X at hS
  change CD w 32 m0 h I Q Z X ow sb at hD
  change co h I ≤ B at hB
  change ∀ l, l < 16 → (Q l).length ≤ h.length at hQ
  have hW := hD.1.1
  have hWn : ∀ a, List.length h ≤ a → w a = true := fun a ha => (hD.1.2.1 a ha).1
  have hF1 := fr_refl tbc h
  have hln : 62 ≤ List.length h := sm_len hS
  obtain ⟨d, rfl⟩ : ∃ e, d = e + 1 := ⟨d - 1, by omega⟩
  refine ev_go rfl (Nat.le_of_ble_eq_true rfl) rfl ?_
  refine go_s (pc' := 1) rfl rfl rfl rfl ?_
  refine go_s (pc' := 2) (st' := [.int 30, .int 21]) rfl rfl rfl rfl ?_
  refine go_icmpP (t' := 6) (pc' := 3) rfl rfl rfl (fun _ => ?_) (fun (c : ¬ (¬ (21 : Int32) = 30)) => absurd (by decide) c)
  refine go_s (pc' := 7) rfl rfl rfl rfl ?_
  refine go_ifP (t' := 20) (pc' := 8) rfl rfl rfl (fun (c : (21 : Int32) < 0) => absurd c (by decide)) (fun _ => ?_)
  refine go_s (pc' := 9) rfl rfl rfl rfl ?_
  refine go_s (pc' := 10) (st' := [.int 2, .int 21]) rfl rfl rfl rfl ?_
  refine go_icmpP (t' := 20) (pc' := 11) rfl rfl rfl (fun _ => ?_) (fun (c : ¬ (2 < (21 : Int32))) => absurd (by decide) c)
  refine go_s (pc' := 21) rfl rfl rfl rfl ?_
  refine go_s (pc' := 22) (st' := [.int 10, .int 21]) rfl rfl rfl rfl ?_
  refine go_icmpP (t' := 37) (pc' := 23) rfl rfl rfl (fun _ => ?_) (fun (c : ¬ (¬ (21 : Int32) = 10)) => absurd (by decide) c)
  refine go_s (pc' := 38) rfl rfl rfl rfl ?_
  refine go_s (pc' := 39) (st' := [.int 20, .int 21]) rfl rfl rfl rfl ?_
  refine go_icmpP (t' := 52) (pc' := 40) rfl rfl rfl (fun (c : (21 : Int32) < 20) => absurd c (by decide)) (fun _ => ?_)
  refine go_s (pc' := 41) rfl rfl rfl rfl ?_
  refine go_s (pc' := 42) (st' := [.int 22, .int 21]) rfl rfl rfl rfl ?_
  refine go_icmpP (t' := 52) (pc' := 43) rfl rfl rfl (fun (c : 22 < (21 : Int32)) => absurd c (by decide)) (fun _ => ?_)
  refine go_s (pc' := 44) rfl rfl rfl rfl ?_
  refine go_s (pc' := 45) (st' := [.int 2, .int 2]) rfl rfl rfl rfl ?_
  refine go_callS (pc' := 46) rfl rfl rfl (Nat.le_of_ble_eq_true rfl) rfl rfl rfl (ct_within_f (a := 2) (n := 2) (by decide) (by omega)) (fun r h2 q3 => ?_)
  obtain ⟨rfl, rfl⟩ := q3
  refine go_ifP (t' := 52) (pc' := 47) rfl rfl rfl (fun _ => ?_) (fun (c : ¬ ((0 : Int32) = 0)) => absurd (by decide) c)
  refine go_s (pc' := 53) (st' := [.int (-1)]) rfl rfl rfl rfl ?_
  refine go_ret rfl rfl ?_
  exact ⟨rfl, rfl⟩
theorem ca_prt_2_22 {w : Nat → Bool} {d : Nat} {h : am_Hp} {m0 : mg} {B : Nat} {I : sm_I} {Q : mQ} {Z : mZ} (hC : CA w 32 m0 B h (I, Q, Z)) (hB2 : B < 2 ^ 26) (hd : 4 ≤ d) : am_Ev (am_prog w) d 114 [.ref 1, .int 22, .int 2] h (fun r h' => r = some (.int (mqpt 2 22 (I, Q, Z))) ∧ h' = h) := by
  obtain ⟨X, ow, sb, hS, hD, hB, hQ⟩ := hC
  change sm tbc h I X at hS
  change CD w 32 m0 h I Q Z X ow sb at hD
  change co h I ≤ B at hB
  change ∀ l, l < 16 → (Q l).length ≤ h.length at hQ
  have hW := hD.1.1
  have hWn : ∀ a, List.length h ≤ a → w a = true := fun a ha => (hD.1.2.1 a ha).1
  have hF1 := fr_refl tbc h
  have hln : 62 ≤ List.length h := sm_len hS
  obtain ⟨d, rfl⟩ : ∃ e, d = e + 1 := ⟨d - 1, by omega⟩
  refine ev_go rfl (Nat.le_of_ble_eq_true rfl) rfl ?_
  refine go_s (pc' := 1) rfl rfl rfl rfl ?_
  refine go_s (pc' := 2) (st' := [.int 30, .int 22]) rfl rfl rfl rfl ?_
  refine go_icmpP (t' := 6) (pc' := 3) rfl rfl rfl (fun _ => ?_) (fun (c : ¬ (¬ (22 : Int32) = 30)) => absurd (by decide) c)
  refine go_s (pc' := 7) rfl rfl rfl rfl ?_
  refine go_ifP (t' := 20) (pc' := 8) rfl rfl rfl (fun (c : (22 : Int32) < 0) => absurd c (by decide)) (fun _ => ?_)
  refine go_s (pc' := 9) rfl rfl rfl rfl ?_
  refine go_s (pc' := 10) (st' := [.int 2, .int 22]) rfl rfl rfl rfl ?_
  refine go_icmpP (t' := 20) (pc' := 11) rfl rfl rfl (fun _ => ?_) (fun (c : ¬ (2 < (22 : Int32))) => absurd (by decide) c)
  refine go_s (pc' := 21) rfl rfl rfl rfl ?_
  refine go_s (pc' := 22) (st' := [.int 10, .int 22]) rfl rfl rfl rfl ?_
  refine go_icmpP (t' := 37) (pc' := 23) rfl rfl rfl (fun _ => ?_) (fun (c : ¬ (¬ (22 : Int32) = 10)) => absurd (by decide) c)
  refine go_s (pc' := 38) rfl rfl rfl rfl ?_
  refine go_s (pc' := 39) (st' := [.int 20, .int 22]) rfl rfl rfl rfl ?_
  refine go_icmpP (t' := 52) (pc' := 40) rfl rfl rfl (fun (c : (22 : Int32) < 20) => absurd c (by decide)) (fun _ => ?_)
  refine go_s (pc' := 41) rfl rfl rfl rfl ?_
  refine go_s (pc' := 42) (st' := [.int 22, .int 22]) rfl rfl rfl rfl ?_
  refine go_icmpP (t' := 52) (pc' := 43) rfl rfl rfl (fun (c : 22 < (22 : Int32)) => absurd c (by decide)) (fun _ => ?_)
  refine go_s (pc' := 44) rfl rfl rfl rfl ?_
  refine go_s (pc' := 45) (st' := [.int 2, .int 2]) rfl rfl rfl rfl ?_
  refine go_callS (pc' := 46) rfl rfl rfl (Nat.le_of_ble_eq_true rfl) rfl rfl rfl (ct_within_f (a := 2) (n := 2) (by decide) (by omega)) (fun r h2 q3 => ?_)
  obtain ⟨rfl, rfl⟩ := q3
  refine go_ifP (t' := 52) (pc' := 47) rfl rfl rfl (fun _ => ?_) (fun (c : ¬ ((0 : Int32) = 0)) => absurd (by decide) c)
  refine go_s (pc' := 53) (st' := [.int (-1)]) rfl rfl rfl rfl ?_
  refine go_ret rfl rfl ?_
  exact ⟨rfl, rfl⟩
theorem ca_prt_2_n {w : Nat → Bool} {d : Nat} {h : am_Hp} {m0 : mg} {B : Nat} {I : sm_I} {Q : mQ} {Z : mZ} (hC : CA w 32 m0 B h (I, Q, Z)) (hB2 : B < 2 ^ 26) {x : Int32} (x30 : ¬ x = 30) (x0 : ¬ x = 0) (x1 : ¬ x = 1) (x2 : ¬ x = 2) (x10 : ¬ x = 10) (x20 : ¬ x = 20) (x21 : ¬ x = 21) (x22 : ¬ x = 22) (hd : 4 ≤ d) : am_Ev (am_prog w) d 114 [.ref 1, .int x, .int 2] h (fun r h' => r = some (.int (mqpt 2 x (I, Q, Z))) ∧ h' = h) := by
  obtain ⟨X, ow, sb, hS, hD, hB, hQ⟩ := hC
  change sm tbc h I X at hS
  change CD w 32 m0 h I Q Z X ow sb at hD
  change co h I ≤ B at hB
  change ∀ l, l < 16 → (Q l).length ≤ h.length at hQ
  have hW := hD.1.1
  have hWn : ∀ a, List.length h ≤ a → w a = true := fun a ha => (hD.1.2.1 a ha).1
  have hF1 := fr_refl tbc h
  have hln : 62 ≤ List.length h := sm_len hS
  obtain ⟨d, rfl⟩ : ∃ e, d = e + 1 := ⟨d - 1, by omega⟩
  refine ev_go rfl (Nat.le_of_ble_eq_true rfl) rfl ?_
  refine go_s (pc' := 1) rfl rfl rfl rfl ?_
  refine go_s (pc' := 2) (st' := [.int 30, .int x]) rfl rfl rfl rfl ?_
  refine go_icmpP (t' := 6) (pc' := 3) rfl rfl rfl (fun _ => ?_) (fun (c : ¬ (¬ x = 30)) => absurd x30 c)
  refine go_s (pc' := 7) rfl rfl rfl rfl ?_
  refine go_ifP (t' := 20) (pc' := 8) rfl rfl rfl (fun (c2 : x < 0) => ?_) (fun (c2 : ¬ x < 0) => ?_)
  · skip
    refine go_s (pc' := 21) rfl rfl rfl rfl ?_
    refine go_s (pc' := 22) (st' := [.int 10, .int x]) rfl rfl rfl rfl ?_
    refine go_icmpP (t' := 37) (pc' := 23) rfl rfl rfl (fun _ => ?_) (fun (c : ¬ (¬ x = 10)) => absurd x10 c)
    refine go_s (pc' := 38) rfl rfl rfl rfl ?_
    refine go_s (pc' := 39) (st' := [.int 20, .int x]) rfl rfl rfl rfl ?_
    refine go_icmpP (t' := 52) (pc' := 40) rfl rfl rfl (fun (c3 : x < 20) => ?_) (fun (c3 : ¬ x < 20) => ?_)
    · skip
      refine go_s (pc' := 53) (st' := [.int (-1)]) rfl rfl rfl rfl ?_
      refine go_ret rfl rfl ?_
      exact ⟨by unfold mqpt; rw [if_neg x30, if_neg x0, if_neg x1, if_neg x2]; first | rw [if_pos (by decide), if_neg x10, if_neg x20, if_neg x21, if_neg x22] | rw [if_neg (by decide)], rfl⟩
    · skip
      refine go_s (pc' := 41) rfl rfl rfl rfl ?_
      refine go_s (pc' := 42) (st' := [.int 22, .int x]) rfl rfl rfl rfl ?_
      refine go_icmpP (t' := 52) (pc' := 43) rfl rfl rfl (fun (c4 : 22 < x) => ?_) (fun (c4 : ¬ 22 < x) => ?_)
      · skip
        refine go_s (pc' := 53) (st' := [.int (-1)]) rfl rfl rfl rfl ?_
        refine go_ret rfl rfl ?_
        exact ⟨by unfold mqpt; rw [if_neg x30, if_neg x0, if_neg x1, if_neg x2]; first | rw [if_pos (by decide), if_neg x10, if_neg x20, if_neg x21, if_neg x22] | rw [if_neg (by decide)], rfl⟩
      · skip
        refine go_s (pc' := 44) rfl rfl rfl rfl ?_
        refine go_s (pc' := 45) (st' := [.int 2, .int 2]) rfl rfl rfl rfl ?_
        refine go_callS (pc' := 46) rfl rfl rfl (Nat.le_of_ble_eq_true rfl) rfl rfl rfl (ct_within_f (a := 2) (n := 2) (by decide) (by omega)) (fun r h5 q6 => ?_)
        obtain ⟨rfl, rfl⟩ := q6
        refine go_ifP (t' := 52) (pc' := 47) rfl rfl rfl (fun _ => ?_) (fun (c : ¬ ((0 : Int32) = 0)) => absurd (by decide) c)
        refine go_s (pc' := 53) (st' := [.int (-1)]) rfl rfl rfl rfl ?_
        refine go_ret rfl rfl ?_
        exact ⟨by unfold mqpt; rw [if_neg x30, if_neg x0, if_neg x1, if_neg x2]; first | rw [if_pos (by decide), if_neg x10, if_neg x20, if_neg x21, if_neg x22] | rw [if_neg (by decide)], rfl⟩
  · skip
    refine go_s (pc' := 9) rfl rfl rfl rfl ?_
    refine go_s (pc' := 10) (st' := [.int 2, .int x]) rfl rfl rfl rfl ?_
    refine go_icmpP (t' := 20) (pc' := 11) rfl rfl rfl (fun (c7 : 2 < x) => ?_) (fun (c7 : ¬ 2 < x) => ?_)
    · skip
      refine go_s (pc' := 21) rfl rfl rfl rfl ?_
      refine go_s (pc' := 22) (st' := [.int 10, .int x]) rfl rfl rfl rfl ?_
      refine go_icmpP (t' := 37) (pc' := 23) rfl rfl rfl (fun _ => ?_) (fun (c : ¬ (¬ x = 10)) => absurd x10 c)
      refine go_s (pc' := 38) rfl rfl rfl rfl ?_
      refine go_s (pc' := 39) (st' := [.int 20, .int x]) rfl rfl rfl rfl ?_
      refine go_icmpP (t' := 52) (pc' := 40) rfl rfl rfl (fun (c8 : x < 20) => ?_) (fun (c8 : ¬ x < 20) => ?_)
      · skip
        refine go_s (pc' := 53) (st' := [.int (-1)]) rfl rfl rfl rfl ?_
        refine go_ret rfl rfl ?_
        exact ⟨by unfold mqpt; rw [if_neg x30, if_neg x0, if_neg x1, if_neg x2]; first | rw [if_pos (by decide), if_neg x10, if_neg x20, if_neg x21, if_neg x22] | rw [if_neg (by decide)], rfl⟩
      · skip
        refine go_s (pc' := 41) rfl rfl rfl rfl ?_
        refine go_s (pc' := 42) (st' := [.int 22, .int x]) rfl rfl rfl rfl ?_
        refine go_icmpP (t' := 52) (pc' := 43) rfl rfl rfl (fun (c9 : 22 < x) => ?_) (fun (c9 : ¬ 22 < x) => ?_)
        · skip
          refine go_s (pc' := 53) (st' := [.int (-1)]) rfl rfl rfl rfl ?_
          refine go_ret rfl rfl ?_
          exact ⟨by unfold mqpt; rw [if_neg x30, if_neg x0, if_neg x1, if_neg x2]; first | rw [if_pos (by decide), if_neg x10, if_neg x20, if_neg x21, if_neg x22] | rw [if_neg (by decide)], rfl⟩
        · skip
          refine go_s (pc' := 44) rfl rfl rfl rfl ?_
          refine go_s (pc' := 45) (st' := [.int 2, .int 2]) rfl rfl rfl rfl ?_
          refine go_callS (pc' := 46) rfl rfl rfl (Nat.le_of_ble_eq_true rfl) rfl rfl rfl (ct_within_f (a := 2) (n := 2) (by decide) (by omega)) (fun r h10 q11 => ?_)
          obtain ⟨rfl, rfl⟩ := q11
          refine go_ifP (t' := 52) (pc' := 47) rfl rfl rfl (fun _ => ?_) (fun (c : ¬ ((0 : Int32) = 0)) => absurd (by decide) c)
          refine go_s (pc' := 53) (st' := [.int (-1)]) rfl rfl rfl rfl ?_
          refine go_ret rfl rfl ?_
          exact ⟨by unfold mqpt; rw [if_neg x30, if_neg x0, if_neg x1, if_neg x2]; first | rw [if_pos (by decide), if_neg x10, if_neg x20, if_neg x21, if_neg x22] | rw [if_neg (by decide)], rfl⟩
    · skip
      refine go_s (pc' := 12) rfl rfl rfl rfl ?_
      refine go_s (pc' := 13) (st' := [.int 4, .int 2]) rfl rfl rfl rfl ?_
      refine go_callS (pc' := 14) rfl rfl rfl (Nat.le_of_ble_eq_true rfl) rfl rfl rfl (ct_within_t (q := 2) (n := 4) (by decide) (by decide) (by omega)) (fun r h12 q13 => ?_)
      obtain ⟨rfl, rfl⟩ := q13
      refine go_ifP (t' := 20) (pc' := 15) rfl rfl rfl (fun (c : (1 : Int32) = 0) => absurd c (by decide)) (fun _ => ?_)
      refine go_s (pc' := 16) rfl rfl rfl rfl ?_
      refine go_s (pc' := 17) rfl rfl rfl rfl ?_
      refine go_s (pc' := 18) rfl rfl rfl rfl ?_
      exact (i32_012 c2 c7 x0 x1 x2).elim
theorem ca_prt_2 {w : Nat → Bool} {d : Nat} {h : am_Hp} {m0 : mg} {B : Nat} {I : sm_I} {Q : mQ} {Z : mZ} (hC : CA w 32 m0 B h (I, Q, Z)) (hB2 : B < 2 ^ 26) {x : Int32} (hd : 4 ≤ d) : am_Ev (am_prog w) d 114 [.ref 1, .int x, .int 2] h (fun r h' => r = some (.int (mqpt 2 x (I, Q, Z))) ∧ h' = h) := by
  by_cases x30 : x = 30
  · subst x30; exact ca_prt_2_30 hC hB2 hd
  by_cases x0 : x = 0
  · subst x0; exact ca_prt_2_0 hC hB2 hd
  by_cases x1 : x = 1
  · subst x1; exact ca_prt_2_1 hC hB2 hd
  by_cases x2 : x = 2
  · subst x2; exact ca_prt_2_2 hC hB2 hd
  by_cases x10 : x = 10
  · subst x10; exact ca_prt_2_10 hC hB2 hd
  by_cases x20 : x = 20
  · subst x20; exact ca_prt_2_20 hC hB2 hd
  by_cases x21 : x = 21
  · subst x21; exact ca_prt_2_21 hC hB2 hd
  by_cases x22 : x = 22
  · subst x22; exact ca_prt_2_22 hC hB2 hd
  exact ca_prt_2_n hC hB2 x30 x0 x1 x2 x10 x20 x21 x22 hd
theorem ca_prt_3_30 {w : Nat → Bool} {d : Nat} {h : am_Hp} {m0 : mg} {B : Nat} {I : sm_I} {Q : mQ} {Z : mZ} (hC : CA w 32 m0 B h (I, Q, Z)) (hB2 : B < 2 ^ 26) (hd : 4 ≤ d) : am_Ev (am_prog w) d 114 [.ref 1, .int 30, .int 3] h (fun r h' => r = some (.int (mqpt 3 30 (I, Q, Z))) ∧ h' = h) := by
  obtain ⟨X, ow, sb, hS, hD, hB, hQ⟩ := hC
  change sm tbc h I X at hS
  change CD w 32 m0 h I Q Z X ow sb at hD
  change co h I ≤ B at hB
  change ∀ l, l < 16 → (Q l).length ≤ h.length at hQ
  have hW := hD.1.1
  have hWn : ∀ a, List.length h ≤ a → w a = true := fun a ha => (hD.1.2.1 a ha).1
  have hF1 := fr_refl tbc h
  have hln : 62 ≤ List.length h := sm_len hS
  obtain ⟨d, rfl⟩ : ∃ e, d = e + 1 := ⟨d - 1, by omega⟩
  refine ev_go rfl (Nat.le_of_ble_eq_true rfl) rfl ?_
  refine go_s (pc' := 1) rfl rfl rfl rfl ?_
  refine go_s (pc' := 2) (st' := [.int 30, .int 30]) rfl rfl rfl rfl ?_
  refine go_icmpP (t' := 6) (pc' := 3) rfl rfl rfl (fun (c : ¬ (30 : Int32) = 30) => absurd c (by decide)) (fun _ => ?_)
  refine go_s (pc' := 4) rfl rfl rfl rfl ?_
  refine go_sget (pc' := 5) (v := .int (I 8 0)) hS rfl rfl rfl (by decide) rfl rfl ?_
  refine go_ret rfl rfl ?_
  exact ⟨rfl, rfl⟩
theorem ca_prt_3_0 {w : Nat → Bool} {d : Nat} {h : am_Hp} {m0 : mg} {B : Nat} {I : sm_I} {Q : mQ} {Z : mZ} (hC : CA w 32 m0 B h (I, Q, Z)) (hB2 : B < 2 ^ 26) (hd : 4 ≤ d) : am_Ev (am_prog w) d 114 [.ref 1, .int 0, .int 3] h (fun r h' => r = some (.int (mqpt 3 0 (I, Q, Z))) ∧ h' = h) := by
  obtain ⟨X, ow, sb, hS, hD, hB, hQ⟩ := hC
  change sm tbc h I X at hS
  change CD w 32 m0 h I Q Z X ow sb at hD
  change co h I ≤ B at hB
  change ∀ l, l < 16 → (Q l).length ≤ h.length at hQ
  have hW := hD.1.1
  have hWn : ∀ a, List.length h ≤ a → w a = true := fun a ha => (hD.1.2.1 a ha).1
  have hF1 := fr_refl tbc h
  have hln : 62 ≤ List.length h := sm_len hS
  obtain ⟨d, rfl⟩ : ∃ e, d = e + 1 := ⟨d - 1, by omega⟩
  refine ev_go rfl (Nat.le_of_ble_eq_true rfl) rfl ?_
  refine go_s (pc' := 1) rfl rfl rfl rfl ?_
  refine go_s (pc' := 2) (st' := [.int 30, .int 0]) rfl rfl rfl rfl ?_
  refine go_icmpP (t' := 6) (pc' := 3) rfl rfl rfl (fun _ => ?_) (fun (c : ¬ (¬ (0 : Int32) = 30)) => absurd (by decide) c)
  refine go_s (pc' := 7) rfl rfl rfl rfl ?_
  refine go_ifP (t' := 20) (pc' := 8) rfl rfl rfl (fun (c : (0 : Int32) < 0) => absurd c (by decide)) (fun _ => ?_)
  refine go_s (pc' := 9) rfl rfl rfl rfl ?_
  refine go_s (pc' := 10) (st' := [.int 2, .int 0]) rfl rfl rfl rfl ?_
  refine go_icmpP (t' := 20) (pc' := 11) rfl rfl rfl (fun (c : 2 < (0 : Int32)) => absurd c (by decide)) (fun _ => ?_)
  refine go_s (pc' := 12) rfl rfl rfl rfl ?_
  refine go_s (pc' := 13) (st' := [.int 4, .int 3]) rfl rfl rfl rfl ?_
  refine go_callS (pc' := 14) rfl rfl rfl (Nat.le_of_ble_eq_true rfl) rfl rfl rfl (ct_within_t (q := 3) (n := 4) (by decide) (by decide) (by omega)) (fun r h2 q3 => ?_)
  obtain ⟨rfl, rfl⟩ := q3
  refine go_ifP (t' := 20) (pc' := 15) rfl rfl rfl (fun (c : (1 : Int32) = 0) => absurd c (by decide)) (fun _ => ?_)
  refine go_s (pc' := 16) rfl rfl rfl rfl ?_
  refine go_s (pc' := 17) rfl rfl rfl rfl ?_
  refine go_s (pc' := 18) rfl rfl rfl rfl ?_
  refine go_callV (pc' := 19) rfl rfl rfl (Nat.le_of_ble_eq_true rfl) rfl (sm_o hS rfl) rfl rfl rfl (ct_pf_3_0 hS (by omega)) (fun r h4 q5 => ?_)
  obtain ⟨rfl, rfl⟩ := q5
  refine go_ret rfl rfl ?_
  exact ⟨rfl, rfl⟩
theorem ca_prt_3_1 {w : Nat → Bool} {d : Nat} {h : am_Hp} {m0 : mg} {B : Nat} {I : sm_I} {Q : mQ} {Z : mZ} (hC : CA w 32 m0 B h (I, Q, Z)) (hB2 : B < 2 ^ 26) (hd : 4 ≤ d) : am_Ev (am_prog w) d 114 [.ref 1, .int 1, .int 3] h (fun r h' => r = some (.int (mqpt 3 1 (I, Q, Z))) ∧ h' = h) := by
  obtain ⟨X, ow, sb, hS, hD, hB, hQ⟩ := hC
  change sm tbc h I X at hS
  change CD w 32 m0 h I Q Z X ow sb at hD
  change co h I ≤ B at hB
  change ∀ l, l < 16 → (Q l).length ≤ h.length at hQ
  have hW := hD.1.1
  have hWn : ∀ a, List.length h ≤ a → w a = true := fun a ha => (hD.1.2.1 a ha).1
  have hF1 := fr_refl tbc h
  have hln : 62 ≤ List.length h := sm_len hS
  obtain ⟨d, rfl⟩ : ∃ e, d = e + 1 := ⟨d - 1, by omega⟩
  refine ev_go rfl (Nat.le_of_ble_eq_true rfl) rfl ?_
  refine go_s (pc' := 1) rfl rfl rfl rfl ?_
  refine go_s (pc' := 2) (st' := [.int 30, .int 1]) rfl rfl rfl rfl ?_
  refine go_icmpP (t' := 6) (pc' := 3) rfl rfl rfl (fun _ => ?_) (fun (c : ¬ (¬ (1 : Int32) = 30)) => absurd (by decide) c)
  refine go_s (pc' := 7) rfl rfl rfl rfl ?_
  refine go_ifP (t' := 20) (pc' := 8) rfl rfl rfl (fun (c : (1 : Int32) < 0) => absurd c (by decide)) (fun _ => ?_)
  refine go_s (pc' := 9) rfl rfl rfl rfl ?_
  refine go_s (pc' := 10) (st' := [.int 2, .int 1]) rfl rfl rfl rfl ?_
  refine go_icmpP (t' := 20) (pc' := 11) rfl rfl rfl (fun (c : 2 < (1 : Int32)) => absurd c (by decide)) (fun _ => ?_)
  refine go_s (pc' := 12) rfl rfl rfl rfl ?_
  refine go_s (pc' := 13) (st' := [.int 4, .int 3]) rfl rfl rfl rfl ?_
  refine go_callS (pc' := 14) rfl rfl rfl (Nat.le_of_ble_eq_true rfl) rfl rfl rfl (ct_within_t (q := 3) (n := 4) (by decide) (by decide) (by omega)) (fun r h2 q3 => ?_)
  obtain ⟨rfl, rfl⟩ := q3
  refine go_ifP (t' := 20) (pc' := 15) rfl rfl rfl (fun (c : (1 : Int32) = 0) => absurd c (by decide)) (fun _ => ?_)
  refine go_s (pc' := 16) rfl rfl rfl rfl ?_
  refine go_s (pc' := 17) rfl rfl rfl rfl ?_
  refine go_s (pc' := 18) rfl rfl rfl rfl ?_
  refine go_callV (pc' := 19) rfl rfl rfl (Nat.le_of_ble_eq_true rfl) rfl (sm_o hS rfl) rfl rfl rfl (ct_pf_3_1 hS (by omega)) (fun r h4 q5 => ?_)
  obtain ⟨rfl, rfl⟩ := q5
  refine go_ret rfl rfl ?_
  exact ⟨rfl, rfl⟩
theorem ca_prt_3_2 {w : Nat → Bool} {d : Nat} {h : am_Hp} {m0 : mg} {B : Nat} {I : sm_I} {Q : mQ} {Z : mZ} (hC : CA w 32 m0 B h (I, Q, Z)) (hB2 : B < 2 ^ 26) (hd : 4 ≤ d) : am_Ev (am_prog w) d 114 [.ref 1, .int 2, .int 3] h (fun r h' => r = some (.int (mqpt 3 2 (I, Q, Z))) ∧ h' = h) := by
  obtain ⟨X, ow, sb, hS, hD, hB, hQ⟩ := hC
  change sm tbc h I X at hS
  change CD w 32 m0 h I Q Z X ow sb at hD
  change co h I ≤ B at hB
  change ∀ l, l < 16 → (Q l).length ≤ h.length at hQ
  have hW := hD.1.1
  have hWn : ∀ a, List.length h ≤ a → w a = true := fun a ha => (hD.1.2.1 a ha).1
  have hF1 := fr_refl tbc h
  have hln : 62 ≤ List.length h := sm_len hS
  obtain ⟨d, rfl⟩ : ∃ e, d = e + 1 := ⟨d - 1, by omega⟩
  refine ev_go rfl (Nat.le_of_ble_eq_true rfl) rfl ?_
  refine go_s (pc' := 1) rfl rfl rfl rfl ?_
  refine go_s (pc' := 2) (st' := [.int 30, .int 2]) rfl rfl rfl rfl ?_
  refine go_icmpP (t' := 6) (pc' := 3) rfl rfl rfl (fun _ => ?_) (fun (c : ¬ (¬ (2 : Int32) = 30)) => absurd (by decide) c)
  refine go_s (pc' := 7) rfl rfl rfl rfl ?_
  refine go_ifP (t' := 20) (pc' := 8) rfl rfl rfl (fun (c : (2 : Int32) < 0) => absurd c (by decide)) (fun _ => ?_)
  refine go_s (pc' := 9) rfl rfl rfl rfl ?_
  refine go_s (pc' := 10) (st' := [.int 2, .int 2]) rfl rfl rfl rfl ?_
  refine go_icmpP (t' := 20) (pc' := 11) rfl rfl rfl (fun (c : 2 < (2 : Int32)) => absurd c (by decide)) (fun _ => ?_)
  refine go_s (pc' := 12) rfl rfl rfl rfl ?_
  refine go_s (pc' := 13) (st' := [.int 4, .int 3]) rfl rfl rfl rfl ?_
  refine go_callS (pc' := 14) rfl rfl rfl (Nat.le_of_ble_eq_true rfl) rfl rfl rfl (ct_within_t (q := 3) (n := 4) (by decide) (by decide) (by omega)) (fun r h2 q3 => ?_)
  obtain ⟨rfl, rfl⟩ := q3
  refine go_ifP (t' := 20) (pc' := 15) rfl rfl rfl (fun (c : (1 : Int32) = 0) => absurd c (by decide)) (fun _ => ?_)
  refine go_s (pc' := 16) rfl rfl rfl rfl ?_
  refine go_s (pc' := 17) rfl rfl rfl rfl ?_
  refine go_s (pc' := 18) rfl rfl rfl rfl ?_
  refine go_callV (pc' := 19) rfl rfl rfl (Nat.le_of_ble_eq_true rfl) rfl (sm_o hS rfl) rfl rfl rfl (ct_pf_3_2 hS (by omega)) (fun r h4 q5 => ?_)
  obtain ⟨rfl, rfl⟩ := q5
  refine go_ret rfl rfl ?_
  exact ⟨rfl, rfl⟩
theorem ca_prt_3_10 {w : Nat → Bool} {d : Nat} {h : am_Hp} {m0 : mg} {B : Nat} {I : sm_I} {Q : mQ} {Z : mZ} (hC : CA w 32 m0 B h (I, Q, Z)) (hB2 : B < 2 ^ 26) (hd : 4 ≤ d) : am_Ev (am_prog w) d 114 [.ref 1, .int 10, .int 3] h (fun r h' => r = some (.int (mqpt 3 10 (I, Q, Z))) ∧ h' = h) := by
  obtain ⟨X, ow, sb, hS, hD, hB, hQ⟩ := hC
  change sm tbc h I X at hS
  change CD w 32 m0 h I Q Z X ow sb at hD
  change co h I ≤ B at hB
  change ∀ l, l < 16 → (Q l).length ≤ h.length at hQ
  have hW := hD.1.1
  have hWn : ∀ a, List.length h ≤ a → w a = true := fun a ha => (hD.1.2.1 a ha).1
  have hF1 := fr_refl tbc h
  have hln : 62 ≤ List.length h := sm_len hS
  obtain ⟨d, rfl⟩ : ∃ e, d = e + 1 := ⟨d - 1, by omega⟩
  refine ev_go rfl (Nat.le_of_ble_eq_true rfl) rfl ?_
  refine go_s (pc' := 1) rfl rfl rfl rfl ?_
  refine go_s (pc' := 2) (st' := [.int 30, .int 10]) rfl rfl rfl rfl ?_
  refine go_icmpP (t' := 6) (pc' := 3) rfl rfl rfl (fun _ => ?_) (fun (c : ¬ (¬ (10 : Int32) = 30)) => absurd (by decide) c)
  refine go_s (pc' := 7) rfl rfl rfl rfl ?_
  refine go_ifP (t' := 20) (pc' := 8) rfl rfl rfl (fun (c : (10 : Int32) < 0) => absurd c (by decide)) (fun _ => ?_)
  refine go_s (pc' := 9) rfl rfl rfl rfl ?_
  refine go_s (pc' := 10) (st' := [.int 2, .int 10]) rfl rfl rfl rfl ?_
  refine go_icmpP (t' := 20) (pc' := 11) rfl rfl rfl (fun _ => ?_) (fun (c : ¬ (2 < (10 : Int32))) => absurd (by decide) c)
  refine go_s (pc' := 21) rfl rfl rfl rfl ?_
  refine go_s (pc' := 22) (st' := [.int 10, .int 10]) rfl rfl rfl rfl ?_
  refine go_icmpP (t' := 37) (pc' := 23) rfl rfl rfl (fun (c : ¬ (10 : Int32) = 10) => absurd c (by decide)) (fun _ => ?_)
  refine go_s (pc' := 24) rfl rfl rfl rfl ?_
  refine go_s (pc' := 25) (st' := [.int 2, .int 3]) rfl rfl rfl rfl ?_
  refine go_callS (pc' := 26) rfl rfl rfl (Nat.le_of_ble_eq_true rfl) rfl rfl rfl (ct_within_f (a := 3) (n := 2) (by decide) (by omega)) (fun r h2 q3 => ?_)
  obtain ⟨rfl, rfl⟩ := q3
  refine go_ifP (t' := 37) (pc' := 27) rfl rfl rfl (fun _ => ?_) (fun (c : ¬ ((0 : Int32) = 0)) => absurd (by decide) c)
  refine go_s (pc' := 38) rfl rfl rfl rfl ?_
  refine go_s (pc' := 39) (st' := [.int 20, .int 10]) rfl rfl rfl rfl ?_
  refine go_icmpP (t' := 52) (pc' := 40) rfl rfl rfl (fun _ => ?_) (fun (c : ¬ ((10 : Int32) < 20)) => absurd (by decide) c)
  refine go_s (pc' := 53) (st' := [.int (-1)]) rfl rfl rfl rfl ?_
  refine go_ret rfl rfl ?_
  exact ⟨rfl, rfl⟩
theorem ca_prt_3_20 {w : Nat → Bool} {d : Nat} {h : am_Hp} {m0 : mg} {B : Nat} {I : sm_I} {Q : mQ} {Z : mZ} (hC : CA w 32 m0 B h (I, Q, Z)) (hB2 : B < 2 ^ 26) (hd : 4 ≤ d) : am_Ev (am_prog w) d 114 [.ref 1, .int 20, .int 3] h (fun r h' => r = some (.int (mqpt 3 20 (I, Q, Z))) ∧ h' = h) := by
  obtain ⟨X, ow, sb, hS, hD, hB, hQ⟩ := hC
  change sm tbc h I X at hS
  change CD w 32 m0 h I Q Z X ow sb at hD
  change co h I ≤ B at hB
  change ∀ l, l < 16 → (Q l).length ≤ h.length at hQ
  have hW := hD.1.1
  have hWn : ∀ a, List.length h ≤ a → w a = true := fun a ha => (hD.1.2.1 a ha).1
  have hF1 := fr_refl tbc h
  have hln : 62 ≤ List.length h := sm_len hS
  obtain ⟨d, rfl⟩ : ∃ e, d = e + 1 := ⟨d - 1, by omega⟩
  refine ev_go rfl (Nat.le_of_ble_eq_true rfl) rfl ?_
  refine go_s (pc' := 1) rfl rfl rfl rfl ?_
  refine go_s (pc' := 2) (st' := [.int 30, .int 20]) rfl rfl rfl rfl ?_
  refine go_icmpP (t' := 6) (pc' := 3) rfl rfl rfl (fun _ => ?_) (fun (c : ¬ (¬ (20 : Int32) = 30)) => absurd (by decide) c)
  refine go_s (pc' := 7) rfl rfl rfl rfl ?_
  refine go_ifP (t' := 20) (pc' := 8) rfl rfl rfl (fun (c : (20 : Int32) < 0) => absurd c (by decide)) (fun _ => ?_)
  refine go_s (pc' := 9) rfl rfl rfl rfl ?_
  refine go_s (pc' := 10) (st' := [.int 2, .int 20]) rfl rfl rfl rfl ?_
  refine go_icmpP (t' := 20) (pc' := 11) rfl rfl rfl (fun _ => ?_) (fun (c : ¬ (2 < (20 : Int32))) => absurd (by decide) c)
  refine go_s (pc' := 21) rfl rfl rfl rfl ?_
  refine go_s (pc' := 22) (st' := [.int 10, .int 20]) rfl rfl rfl rfl ?_
  refine go_icmpP (t' := 37) (pc' := 23) rfl rfl rfl (fun _ => ?_) (fun (c : ¬ (¬ (20 : Int32) = 10)) => absurd (by decide) c)
  refine go_s (pc' := 38) rfl rfl rfl rfl ?_
  refine go_s (pc' := 39) (st' := [.int 20, .int 20]) rfl rfl rfl rfl ?_
  refine go_icmpP (t' := 52) (pc' := 40) rfl rfl rfl (fun (c : (20 : Int32) < 20) => absurd c (by decide)) (fun _ => ?_)
  refine go_s (pc' := 41) rfl rfl rfl rfl ?_
  refine go_s (pc' := 42) (st' := [.int 22, .int 20]) rfl rfl rfl rfl ?_
  refine go_icmpP (t' := 52) (pc' := 43) rfl rfl rfl (fun (c : 22 < (20 : Int32)) => absurd c (by decide)) (fun _ => ?_)
  refine go_s (pc' := 44) rfl rfl rfl rfl ?_
  refine go_s (pc' := 45) (st' := [.int 2, .int 3]) rfl rfl rfl rfl ?_
  refine go_callS (pc' := 46) rfl rfl rfl (Nat.le_of_ble_eq_true rfl) rfl rfl rfl (ct_within_f (a := 3) (n := 2) (by decide) (by omega)) (fun r h2 q3 => ?_)
  obtain ⟨rfl, rfl⟩ := q3
  refine go_ifP (t' := 52) (pc' := 47) rfl rfl rfl (fun _ => ?_) (fun (c : ¬ ((0 : Int32) = 0)) => absurd (by decide) c)
  refine go_s (pc' := 53) (st' := [.int (-1)]) rfl rfl rfl rfl ?_
  refine go_ret rfl rfl ?_
  exact ⟨rfl, rfl⟩
theorem ca_prt_3_21 {w : Nat → Bool} {d : Nat} {h : am_Hp} {m0 : mg} {B : Nat} {I : sm_I} {Q : mQ} {Z : mZ} (hC : CA w 32 m0 B h (I, Q, Z)) (hB2 : B < 2 ^ 26) (hd : 4 ≤ d) : am_Ev (am_prog w) d 114 [.ref 1, .int 21, .int 3] h (fun r h' => r = some (.int (mqpt 3 21 (I, Q, Z))) ∧ h' = h) := by
  obtain ⟨X, ow, sb, hS, hD, hB, hQ⟩ := hC
  change sm tbc h I X at hS
  change CD w 32 m0 h I Q Z X ow sb at hD
  change co h I ≤ B at hB
  change ∀ l, l < 16 → (Q l).length ≤ h.length at hQ
  have hW := hD.1.1
  have hWn : ∀ a, List.length h ≤ a → w a = true := fun a ha => (hD.1.2.1 a ha).1
  have hF1 := fr_refl tbc h
  have hln : 62 ≤ List.length h := sm_len hS
  obtain ⟨d, rfl⟩ : ∃ e, d = e + 1 := ⟨d - 1, by omega⟩
  refine ev_go rfl (Nat.le_of_ble_eq_true rfl) rfl ?_
  refine go_s (pc' := 1) rfl rfl rfl rfl ?_
  refine go_s (pc' := 2) (st' := [.int 30, .int 21]) rfl rfl rfl rfl ?_
  refine go_icmpP (t' := 6) (pc' := 3) rfl rfl rfl (fun _ => ?_) (fun (c : ¬ (¬ (21 : Int32) = 30)) => absurd (by decide) c)
  refine go_s (pc' := 7) rfl rfl rfl rfl ?_
  refine go_ifP (t' := 20) (pc' := 8) rfl rfl rfl (fun (c : (21 : Int32) < 0) => absurd c (by decide)) (fun _ => ?_)
  refine go_s (pc' := 9) rfl rfl rfl rfl ?_
  refine go_s (pc' := 10) (st' := [.int 2, .int 21]) rfl rfl rfl rfl ?_
  refine go_icmpP (t' := 20) (pc' := 11) rfl rfl rfl (fun _ => ?_) (fun (c : ¬ (2 < (21 : Int32))) => absurd (by decide) c)
  refine go_s (pc' := 21) rfl rfl rfl rfl ?_
  refine go_s (pc' := 22) (st' := [.int 10, .int 21]) rfl rfl rfl rfl ?_
  refine go_icmpP (t' := 37) (pc' := 23) rfl rfl rfl (fun _ => ?_) (fun (c : ¬ (¬ (21 : Int32) = 10)) => absurd (by decide) c)
  refine go_s (pc' := 38) rfl rfl rfl rfl ?_
  refine go_s (pc' := 39) (st' := [.int 20, .int 21]) rfl rfl rfl rfl ?_
  refine go_icmpP (t' := 52) (pc' := 40) rfl rfl rfl (fun (c : (21 : Int32) < 20) => absurd c (by decide)) (fun _ => ?_)
  refine go_s (pc' := 41) rfl rfl rfl rfl ?_
  refine go_s (pc' := 42) (st' := [.int 22, .int 21]) rfl rfl rfl rfl ?_
  refine go_icmpP (t' := 52) (pc' := 43) rfl rfl rfl (fun (c : 22 < (21 : Int32)) => absurd c (by decide)) (fun _ => ?_)
  refine go_s (pc' := 44) rfl rfl rfl rfl ?_
  refine go_s (pc' := 45) (st' := [.int 2, .int 3]) rfl rfl rfl rfl ?_
  refine go_callS (pc' := 46) rfl rfl rfl (Nat.le_of_ble_eq_true rfl) rfl rfl rfl (ct_within_f (a := 3) (n := 2) (by decide) (by omega)) (fun r h2 q3 => ?_)
  obtain ⟨rfl, rfl⟩ := q3
  refine go_ifP (t' := 52) (pc' := 47) rfl rfl rfl (fun _ => ?_) (fun (c : ¬ ((0 : Int32) = 0)) => absurd (by decide) c)
  refine go_s (pc' := 53) (st' := [.int (-1)]) rfl rfl rfl rfl ?_
  refine go_ret rfl rfl ?_
  exact ⟨rfl, rfl⟩
theorem ca_prt_3_22 {w : Nat → Bool} {d : Nat} {h : am_Hp} {m0 : mg} {B : Nat} {I : sm_I} {Q : mQ} {Z : mZ} (hC : CA w 32 m0 B h (I, Q, Z)) (hB2 : B < 2 ^ 26) (hd : 4 ≤ d) : am_Ev (am_prog w) d 114 [.ref 1, .int 22, .int 3] h (fun r h' => r = some (.int (mqpt 3 22 (I, Q, Z))) ∧ h' = h) := by
  obtain ⟨X, ow, sb, hS, hD, hB, hQ⟩ := hC
  change sm tbc h I X at hS
  change CD w 32 m0 h I Q Z X ow sb at hD
  change co h I ≤ B at hB
  change ∀ l, l < 16 → (Q l).length ≤ h.length at hQ
  have hW := hD.1.1
  have hWn : ∀ a, List.length h ≤ a → w a = true := fun a ha => (hD.1.2.1 a ha).1
  have hF1 := fr_refl tbc h
  have hln : 62 ≤ List.length h := sm_len hS
  obtain ⟨d, rfl⟩ : ∃ e, d = e + 1 := ⟨d - 1, by omega⟩
  refine ev_go rfl (Nat.le_of_ble_eq_true rfl) rfl ?_
  refine go_s (pc' := 1) rfl rfl rfl rfl ?_
  refine go_s (pc' := 2) (st' := [.int 30, .int 22]) rfl rfl rfl rfl ?_
  refine go_icmpP (t' := 6) (pc' := 3) rfl rfl rfl (fun _ => ?_) (fun (c : ¬ (¬ (22 : Int32) = 30)) => absurd (by decide) c)
  refine go_s (pc' := 7) rfl rfl rfl rfl ?_
  refine go_ifP (t' := 20) (pc' := 8) rfl rfl rfl (fun (c : (22 : Int32) < 0) => absurd c (by decide)) (fun _ => ?_)
  refine go_s (pc' := 9) rfl rfl rfl rfl ?_
  refine go_s (pc' := 10) (st' := [.int 2, .int 22]) rfl rfl rfl rfl ?_
  refine go_icmpP (t' := 20) (pc' := 11) rfl rfl rfl (fun _ => ?_) (fun (c : ¬ (2 < (22 : Int32))) => absurd (by decide) c)
  refine go_s (pc' := 21) rfl rfl rfl rfl ?_
  refine go_s (pc' := 22) (st' := [.int 10, .int 22]) rfl rfl rfl rfl ?_
  refine go_icmpP (t' := 37) (pc' := 23) rfl rfl rfl (fun _ => ?_) (fun (c : ¬ (¬ (22 : Int32) = 10)) => absurd (by decide) c)
  refine go_s (pc' := 38) rfl rfl rfl rfl ?_
  refine go_s (pc' := 39) (st' := [.int 20, .int 22]) rfl rfl rfl rfl ?_
  refine go_icmpP (t' := 52) (pc' := 40) rfl rfl rfl (fun (c : (22 : Int32) < 20) => absurd c (by decide)) (fun _ => ?_)
  refine go_s (pc' := 41) rfl rfl rfl rfl ?_
  refine go_s (pc' := 42) (st' := [.int 22, .int 22]) rfl rfl rfl rfl ?_
  refine go_icmpP (t' := 52) (pc' := 43) rfl rfl rfl (fun (c : 22 < (22 : Int32)) => absurd c (by decide)) (fun _ => ?_)
  refine go_s (pc' := 44) rfl rfl rfl rfl ?_
  refine go_s (pc' := 45) (st' := [.int 2, .int 3]) rfl rfl rfl rfl ?_
  refine go_callS (pc' := 46) rfl rfl rfl (Nat.le_of_ble_eq_true rfl) rfl rfl rfl (ct_within_f (a := 3) (n := 2) (by decide) (by omega)) (fun r h2 q3 => ?_)
  obtain ⟨rfl, rfl⟩ := q3
  refine go_ifP (t' := 52) (pc' := 47) rfl rfl rfl (fun _ => ?_) (fun (c : ¬ ((0 : Int32) = 0)) => absurd (by decide) c)
  refine go_s (pc' := 53) (st' := [.int (-1)]) rfl rfl rfl rfl ?_
  refine go_ret rfl rfl ?_
  exact ⟨rfl, rfl⟩
theorem ca_prt_3_n {w : Nat → Bool} {d : Nat} {h : am_Hp} {m0 : mg} {B : Nat} {I : sm_I} {Q : mQ} {Z : mZ} (hC : CA w 32 m0 B h (I, Q, Z)) (hB2 : B < 2 ^ 26) {x : Int32} (x30 : ¬ x = 30) (x0 : ¬ x = 0) (x1 : ¬ x = 1) (x2 : ¬ x = 2) (x10 : ¬ x = 10) (x20 : ¬ x = 20) (x21 : ¬ x = 21) (x22 : ¬ x = 22) (hd : 4 ≤ d) : am_Ev (am_prog w) d 114 [.ref 1, .int x, .int 3] h (fun r h' => r = some (.int (mqpt 3 x (I, Q, Z))) ∧ h' = h) := by
  obtain ⟨X, ow, sb, hS, hD, hB, hQ⟩ := hC
  change sm tbc h I X at hS
  change CD w 32 m0 h I Q Z X ow sb at hD
  change co h I ≤ B at hB
  change ∀ l, l < 16 → (Q l).length ≤ h.length at hQ
  have hW := hD.1.1
  have hWn : ∀ a, List.length h ≤ a → w a = true := fun a ha => (hD.1.2.1 a ha).1
  have hF1 := fr_refl tbc h
  have hln : 62 ≤ List.length h := sm_len hS
  obtain ⟨d, rfl⟩ : ∃ e, d = e + 1 := ⟨d - 1, by omega⟩
  refine ev_go rfl (Nat.le_of_ble_eq_true rfl) rfl ?_
  refine go_s (pc' := 1) rfl rfl rfl rfl ?_
  refine go_s (pc' := 2) (st' := [.int 30, .int x]) rfl rfl rfl rfl ?_
  refine go_icmpP (t' := 6) (pc' := 3) rfl rfl rfl (fun _ => ?_) (fun (c : ¬ (¬ x = 30)) => absurd x30 c)
  refine go_s (pc' := 7) rfl rfl rfl rfl ?_
  refine go_ifP (t' := 20) (pc' := 8) rfl rfl rfl (fun (c2 : x < 0) => ?_) (fun (c2 : ¬ x < 0) => ?_)
  · skip
    refine go_s (pc' := 21) rfl rfl rfl rfl ?_
    refine go_s (pc' := 22) (st' := [.int 10, .int x]) rfl rfl rfl rfl ?_
    refine go_icmpP (t' := 37) (pc' := 23) rfl rfl rfl (fun _ => ?_) (fun (c : ¬ (¬ x = 10)) => absurd x10 c)
    refine go_s (pc' := 38) rfl rfl rfl rfl ?_
    refine go_s (pc' := 39) (st' := [.int 20, .int x]) rfl rfl rfl rfl ?_
    refine go_icmpP (t' := 52) (pc' := 40) rfl rfl rfl (fun (c3 : x < 20) => ?_) (fun (c3 : ¬ x < 20) => ?_)
    · skip
      refine go_s (pc' := 53) (st' := [.int (-1)]) rfl rfl rfl rfl ?_
      refine go_ret rfl rfl ?_
      exact ⟨by unfold mqpt; rw [if_neg x30, if_neg x0, if_neg x1, if_neg x2]; first | rw [if_pos (by decide), if_neg x10, if_neg x20, if_neg x21, if_neg x22] | rw [if_neg (by decide)], rfl⟩
    · skip
      refine go_s (pc' := 41) rfl rfl rfl rfl ?_
      refine go_s (pc' := 42) (st' := [.int 22, .int x]) rfl rfl rfl rfl ?_
      refine go_icmpP (t' := 52) (pc' := 43) rfl rfl rfl (fun (c4 : 22 < x) => ?_) (fun (c4 : ¬ 22 < x) => ?_)
      · skip
        refine go_s (pc' := 53) (st' := [.int (-1)]) rfl rfl rfl rfl ?_
        refine go_ret rfl rfl ?_
        exact ⟨by unfold mqpt; rw [if_neg x30, if_neg x0, if_neg x1, if_neg x2]; first | rw [if_pos (by decide), if_neg x10, if_neg x20, if_neg x21, if_neg x22] | rw [if_neg (by decide)], rfl⟩
      · skip
        refine go_s (pc' := 44) rfl rfl rfl rfl ?_
        refine go_s (pc' := 45) (st' := [.int 2, .int 3]) rfl rfl rfl rfl ?_
        refine go_callS (pc' := 46) rfl rfl rfl (Nat.le_of_ble_eq_true rfl) rfl rfl rfl (ct_within_f (a := 3) (n := 2) (by decide) (by omega)) (fun r h5 q6 => ?_)
        obtain ⟨rfl, rfl⟩ := q6
        refine go_ifP (t' := 52) (pc' := 47) rfl rfl rfl (fun _ => ?_) (fun (c : ¬ ((0 : Int32) = 0)) => absurd (by decide) c)
        refine go_s (pc' := 53) (st' := [.int (-1)]) rfl rfl rfl rfl ?_
        refine go_ret rfl rfl ?_
        exact ⟨by unfold mqpt; rw [if_neg x30, if_neg x0, if_neg x1, if_neg x2]; first | rw [if_pos (by decide), if_neg x10, if_neg x20, if_neg x21, if_neg x22] | rw [if_neg (by decide)], rfl⟩
  · skip
    refine go_s (pc' := 9) rfl rfl rfl rfl ?_
    refine go_s (pc' := 10) (st' := [.int 2, .int x]) rfl rfl rfl rfl ?_
    refine go_icmpP (t' := 20) (pc' := 11) rfl rfl rfl (fun (c7 : 2 < x) => ?_) (fun (c7 : ¬ 2 < x) => ?_)
    · skip
      refine go_s (pc' := 21) rfl rfl rfl rfl ?_
      refine go_s (pc' := 22) (st' := [.int 10, .int x]) rfl rfl rfl rfl ?_
      refine go_icmpP (t' := 37) (pc' := 23) rfl rfl rfl (fun _ => ?_) (fun (c : ¬ (¬ x = 10)) => absurd x10 c)
      refine go_s (pc' := 38) rfl rfl rfl rfl ?_
      refine go_s (pc' := 39) (st' := [.int 20, .int x]) rfl rfl rfl rfl ?_
      refine go_icmpP (t' := 52) (pc' := 40) rfl rfl rfl (fun (c8 : x < 20) => ?_) (fun (c8 : ¬ x < 20) => ?_)
      · skip
        refine go_s (pc' := 53) (st' := [.int (-1)]) rfl rfl rfl rfl ?_
        refine go_ret rfl rfl ?_
        exact ⟨by unfold mqpt; rw [if_neg x30, if_neg x0, if_neg x1, if_neg x2]; first | rw [if_pos (by decide), if_neg x10, if_neg x20, if_neg x21, if_neg x22] | rw [if_neg (by decide)], rfl⟩
      · skip
        refine go_s (pc' := 41) rfl rfl rfl rfl ?_
        refine go_s (pc' := 42) (st' := [.int 22, .int x]) rfl rfl rfl rfl ?_
        refine go_icmpP (t' := 52) (pc' := 43) rfl rfl rfl (fun (c9 : 22 < x) => ?_) (fun (c9 : ¬ 22 < x) => ?_)
        · skip
          refine go_s (pc' := 53) (st' := [.int (-1)]) rfl rfl rfl rfl ?_
          refine go_ret rfl rfl ?_
          exact ⟨by unfold mqpt; rw [if_neg x30, if_neg x0, if_neg x1, if_neg x2]; first | rw [if_pos (by decide), if_neg x10, if_neg x20, if_neg x21, if_neg x22] | rw [if_neg (by decide)], rfl⟩
        · skip
          refine go_s (pc' := 44) rfl rfl rfl rfl ?_
          refine go_s (pc' := 45) (st' := [.int 2, .int 3]) rfl rfl rfl rfl ?_
          refine go_callS (pc' := 46) rfl rfl rfl (Nat.le_of_ble_eq_true rfl) rfl rfl rfl (ct_within_f (a := 3) (n := 2) (by decide) (by omega)) (fun r h10 q11 => ?_)
          obtain ⟨rfl, rfl⟩ := q11
          refine go_ifP (t' := 52) (pc' := 47) rfl rfl rfl (fun _ => ?_) (fun (c : ¬ ((0 : Int32) = 0)) => absurd (by decide) c)
          refine go_s (pc' := 53) (st' := [.int (-1)]) rfl rfl rfl rfl ?_
          refine go_ret rfl rfl ?_
          exact ⟨by unfold mqpt; rw [if_neg x30, if_neg x0, if_neg x1, if_neg x2]; first | rw [if_pos (by decide), if_neg x10, if_neg x20, if_neg x21, if_neg x22] | rw [if_neg (by decide)], rfl⟩
    · skip
      refine go_s (pc' := 12) rfl rfl rfl rfl ?_
      refine go_s (pc' := 13) (st' := [.int 4, .int 3]) rfl rfl rfl rfl ?_
      refine go_callS (pc' := 14) rfl rfl rfl (Nat.le_of_ble_eq_true rfl) rfl rfl rfl (ct_within_t (q := 3) (n := 4) (by decide) (by decide) (by omega)) (fun r h12 q13 => ?_)
      obtain ⟨rfl, rfl⟩ := q13
      refine go_ifP (t' := 20) (pc' := 15) rfl rfl rfl (fun (c : (1 : Int32) = 0) => absurd c (by decide)) (fun _ => ?_)
      refine go_s (pc' := 16) rfl rfl rfl rfl ?_
      refine go_s (pc' := 17) rfl rfl rfl rfl ?_
      refine go_s (pc' := 18) rfl rfl rfl rfl ?_
      exact (i32_012 c2 c7 x0 x1 x2).elim
theorem ca_prt_3 {w : Nat → Bool} {d : Nat} {h : am_Hp} {m0 : mg} {B : Nat} {I : sm_I} {Q : mQ} {Z : mZ} (hC : CA w 32 m0 B h (I, Q, Z)) (hB2 : B < 2 ^ 26) {x : Int32} (hd : 4 ≤ d) : am_Ev (am_prog w) d 114 [.ref 1, .int x, .int 3] h (fun r h' => r = some (.int (mqpt 3 x (I, Q, Z))) ∧ h' = h) := by
  by_cases x30 : x = 30
  · subst x30; exact ca_prt_3_30 hC hB2 hd
  by_cases x0 : x = 0
  · subst x0; exact ca_prt_3_0 hC hB2 hd
  by_cases x1 : x = 1
  · subst x1; exact ca_prt_3_1 hC hB2 hd
  by_cases x2 : x = 2
  · subst x2; exact ca_prt_3_2 hC hB2 hd
  by_cases x10 : x = 10
  · subst x10; exact ca_prt_3_10 hC hB2 hd
  by_cases x20 : x = 20
  · subst x20; exact ca_prt_3_20 hC hB2 hd
  by_cases x21 : x = 21
  · subst x21; exact ca_prt_3_21 hC hB2 hd
  by_cases x22 : x = 22
  · subst x22; exact ca_prt_3_22 hC hB2 hd
  exact ca_prt_3_n hC hB2 x30 x0 x1 x2 x10 x20 x21 x22 hd
theorem ca_prt_f {w : Nat → Bool} {d : Nat} {h : am_Hp} {m0 : mg} {B : Nat} {I : sm_I} {Q : mQ} {Z : mZ} (hC : CA w 32 m0 B h (I, Q, Z)) (hB2 : B < 2 ^ 26) {a x : Int32} (hn : a < 0 ∨ nI 4 ≤ a) (hd : 4 ≤ d) : am_Ev (am_prog w) d 114 [.ref 1, .int x, .int a] h (fun r h' => r = some (.int (if x = 30 then I 8 0 else -1)) ∧ h' = h) := by
  obtain ⟨X, ow, sb, hS, hD, hB, hQ⟩ := hC
  change sm tbc h I X at hS
  change CD w 32 m0 h I Q Z X ow sb at hD
  change co h I ≤ B at hB
  change ∀ l, l < 16 → (Q l).length ≤ h.length at hQ
  have hW := hD.1.1
  have hWn : ∀ a, List.length h ≤ a → w a = true := fun a ha => (hD.1.2.1 a ha).1
  have hF1 := fr_refl tbc h
  have hln : 62 ≤ List.length h := sm_len hS
  obtain ⟨d, rfl⟩ : ∃ e, d = e + 1 := ⟨d - 1, by omega⟩
  refine ev_go rfl (Nat.le_of_ble_eq_true rfl) rfl ?_
  have hn2 : a < 0 ∨ nI 2 ≤ a := hn.imp id (fun z => Int32.le_trans (by decide) z)
  refine go_s (pc' := 1) rfl rfl rfl rfl ?_
  refine go_s (pc' := 2) (st' := [.int 30, .int x]) rfl rfl rfl rfl ?_
  refine go_icmpP (t' := 6) (pc' := 3) rfl rfl rfl (fun (c2 : ¬ x = 30) => ?_) (fun (c2' : ¬ ¬ x = 30) => ?_)
  · skip
    refine go_s (pc' := 7) rfl rfl rfl rfl ?_
    refine go_ifP (t' := 20) (pc' := 8) rfl rfl rfl (fun (c3 : x < 0) => ?_) (fun (c3 : ¬ x < 0) => ?_)
    · skip
      refine go_s (pc' := 21) rfl rfl rfl rfl ?_
      refine go_s (pc' := 22) (st' := [.int 10, .int x]) rfl rfl rfl rfl ?_
      refine go_icmpP (t' := 37) (pc' := 23) rfl rfl rfl (fun (c4 : ¬ x = 10) => ?_) (fun (c4' : ¬ ¬ x = 10) => ?_)
      · skip
        refine go_s (pc' := 38) rfl rfl rfl rfl ?_
        refine go_s (pc' := 39) (st' := [.int 20, .int x]) rfl rfl rfl rfl ?_
        refine go_icmpP (t' := 52) (pc' := 40) rfl rfl rfl (fun (c5 : x < 20) => ?_) (fun (c5 : ¬ x < 20) => ?_)
        · skip
          refine go_s (pc' := 53) (st' := [.int (-1)]) rfl rfl rfl rfl ?_
          refine go_ret rfl rfl ?_
          exact ⟨by rw [if_neg c2], rfl⟩
        · skip
          refine go_s (pc' := 41) rfl rfl rfl rfl ?_
          refine go_s (pc' := 42) (st' := [.int 22, .int x]) rfl rfl rfl rfl ?_
          refine go_icmpP (t' := 52) (pc' := 43) rfl rfl rfl (fun (c6 : 22 < x) => ?_) (fun (c6 : ¬ 22 < x) => ?_)
          · skip
            refine go_s (pc' := 53) (st' := [.int (-1)]) rfl rfl rfl rfl ?_
            refine go_ret rfl rfl ?_
            exact ⟨by rw [if_neg c2], rfl⟩
          · skip
            refine go_s (pc' := 44) rfl rfl rfl rfl ?_
            refine go_s (pc' := 45) (st' := [.int 2, .int a]) rfl rfl rfl rfl ?_
            refine go_callS (pc' := 46) rfl rfl rfl (Nat.le_of_ble_eq_true rfl) rfl rfl rfl (ct_within_f (a := a) (n := 2) hn2 (by omega)) (fun r h7 q8 => ?_)
            obtain ⟨rfl, rfl⟩ := q8
            refine go_ifP (t' := 52) (pc' := 47) rfl rfl rfl (fun _ => ?_) (fun (c : ¬ ((0 : Int32) = 0)) => absurd (by decide) c)
            refine go_s (pc' := 53) (st' := [.int (-1)]) rfl rfl rfl rfl ?_
            refine go_ret rfl rfl ?_
            exact ⟨by rw [if_neg c2], rfl⟩
      · skip
        have c4 : x = 10 := Decidable.not_not.mp c4'
        refine go_s (pc' := 24) rfl rfl rfl rfl ?_
        refine go_s (pc' := 25) (st' := [.int 2, .int a]) rfl rfl rfl rfl ?_
        refine go_callS (pc' := 26) rfl rfl rfl (Nat.le_of_ble_eq_true rfl) rfl rfl rfl (ct_within_f (a := a) (n := 2) hn2 (by omega)) (fun r h9 q10 => ?_)
        obtain ⟨rfl, rfl⟩ := q10
        refine go_ifP (t' := 37) (pc' := 27) rfl rfl rfl (fun _ => ?_) (fun (c : ¬ ((0 : Int32) = 0)) => absurd (by decide) c)
        refine go_s (pc' := 38) rfl rfl rfl rfl ?_
        refine go_s (pc' := 39) (st' := [.int 20, .int x]) rfl rfl rfl rfl ?_
        refine go_icmpP (t' := 52) (pc' := 40) rfl rfl rfl (fun _ => ?_) (fun (c : ¬ (x < 20)) => absurd (by rw [c4] <;> decide) c)
        refine go_s (pc' := 53) (st' := [.int (-1)]) rfl rfl rfl rfl ?_
        refine go_ret rfl rfl ?_
        exact ⟨by rw [if_neg c2], rfl⟩
    · skip
      refine go_s (pc' := 9) rfl rfl rfl rfl ?_
      refine go_s (pc' := 10) (st' := [.int 2, .int x]) rfl rfl rfl rfl ?_
      refine go_icmpP (t' := 20) (pc' := 11) rfl rfl rfl (fun (c11 : 2 < x) => ?_) (fun (c11 : ¬ 2 < x) => ?_)
      · skip
        refine go_s (pc' := 21) rfl rfl rfl rfl ?_
        refine go_s (pc' := 22) (st' := [.int 10, .int x]) rfl rfl rfl rfl ?_
        refine go_icmpP (t' := 37) (pc' := 23) rfl rfl rfl (fun (c12 : ¬ x = 10) => ?_) (fun (c12' : ¬ ¬ x = 10) => ?_)
        · skip
          refine go_s (pc' := 38) rfl rfl rfl rfl ?_
          refine go_s (pc' := 39) (st' := [.int 20, .int x]) rfl rfl rfl rfl ?_
          refine go_icmpP (t' := 52) (pc' := 40) rfl rfl rfl (fun (c13 : x < 20) => ?_) (fun (c13 : ¬ x < 20) => ?_)
          · skip
            refine go_s (pc' := 53) (st' := [.int (-1)]) rfl rfl rfl rfl ?_
            refine go_ret rfl rfl ?_
            exact ⟨by rw [if_neg c2], rfl⟩
          · skip
            refine go_s (pc' := 41) rfl rfl rfl rfl ?_
            refine go_s (pc' := 42) (st' := [.int 22, .int x]) rfl rfl rfl rfl ?_
            refine go_icmpP (t' := 52) (pc' := 43) rfl rfl rfl (fun (c14 : 22 < x) => ?_) (fun (c14 : ¬ 22 < x) => ?_)
            · skip
              refine go_s (pc' := 53) (st' := [.int (-1)]) rfl rfl rfl rfl ?_
              refine go_ret rfl rfl ?_
              exact ⟨by rw [if_neg c2], rfl⟩
            · skip
              refine go_s (pc' := 44) rfl rfl rfl rfl ?_
              refine go_s (pc' := 45) (st' := [.int 2, .int a]) rfl rfl rfl rfl ?_
              refine go_callS (pc' := 46) rfl rfl rfl (Nat.le_of_ble_eq_true rfl) rfl rfl rfl (ct_within_f (a := a) (n := 2) hn2 (by omega)) (fun r h15 q16 => ?_)
              obtain ⟨rfl, rfl⟩ := q16
              refine go_ifP (t' := 52) (pc' := 47) rfl rfl rfl (fun _ => ?_) (fun (c : ¬ ((0 : Int32) = 0)) => absurd (by decide) c)
              refine go_s (pc' := 53) (st' := [.int (-1)]) rfl rfl rfl rfl ?_
              refine go_ret rfl rfl ?_
              exact ⟨by rw [if_neg c2], rfl⟩
        · skip
          have c12 : x = 10 := Decidable.not_not.mp c12'
          refine go_s (pc' := 24) rfl rfl rfl rfl ?_
          refine go_s (pc' := 25) (st' := [.int 2, .int a]) rfl rfl rfl rfl ?_
          refine go_callS (pc' := 26) rfl rfl rfl (Nat.le_of_ble_eq_true rfl) rfl rfl rfl (ct_within_f (a := a) (n := 2) hn2 (by omega)) (fun r h17 q18 => ?_)
          obtain ⟨rfl, rfl⟩ := q18
          refine go_ifP (t' := 37) (pc' := 27) rfl rfl rfl (fun _ => ?_) (fun (c : ¬ ((0 : Int32) = 0)) => absurd (by decide) c)
          refine go_s (pc' := 38) rfl rfl rfl rfl ?_
          refine go_s (pc' := 39) (st' := [.int 20, .int x]) rfl rfl rfl rfl ?_
          refine go_icmpP (t' := 52) (pc' := 40) rfl rfl rfl (fun _ => ?_) (fun (c : ¬ (x < 20)) => absurd (by rw [c12] <;> decide) c)
          refine go_s (pc' := 53) (st' := [.int (-1)]) rfl rfl rfl rfl ?_
          refine go_ret rfl rfl ?_
          exact ⟨by rw [if_neg c2], rfl⟩
      · skip
        refine go_s (pc' := 12) rfl rfl rfl rfl ?_
        refine go_s (pc' := 13) (st' := [.int 4, .int a]) rfl rfl rfl rfl ?_
        refine go_callS (pc' := 14) rfl rfl rfl (Nat.le_of_ble_eq_true rfl) rfl rfl rfl (ct_within_f (a := a) (n := 4) hn (by omega)) (fun r h19 q20 => ?_)
        obtain ⟨rfl, rfl⟩ := q20
        refine go_ifP (t' := 20) (pc' := 15) rfl rfl rfl (fun _ => ?_) (fun (c : ¬ ((0 : Int32) = 0)) => absurd (by decide) c)
        refine go_s (pc' := 21) rfl rfl rfl rfl ?_
        refine go_s (pc' := 22) (st' := [.int 10, .int x]) rfl rfl rfl rfl ?_
        refine go_icmpP (t' := 37) (pc' := 23) rfl rfl rfl (fun (c21 : ¬ x = 10) => ?_) (fun (c21' : ¬ ¬ x = 10) => ?_)
        · skip
          refine go_s (pc' := 38) rfl rfl rfl rfl ?_
          refine go_s (pc' := 39) (st' := [.int 20, .int x]) rfl rfl rfl rfl ?_
          refine go_icmpP (t' := 52) (pc' := 40) rfl rfl rfl (fun (c22 : x < 20) => ?_) (fun (c22 : ¬ x < 20) => ?_)
          · skip
            refine go_s (pc' := 53) (st' := [.int (-1)]) rfl rfl rfl rfl ?_
            refine go_ret rfl rfl ?_
            exact ⟨by rw [if_neg c2], rfl⟩
          · skip
            refine go_s (pc' := 41) rfl rfl rfl rfl ?_
            refine go_s (pc' := 42) (st' := [.int 22, .int x]) rfl rfl rfl rfl ?_
            refine go_icmpP (t' := 52) (pc' := 43) rfl rfl rfl (fun (c23 : 22 < x) => ?_) (fun (c23 : ¬ 22 < x) => ?_)
            · skip
              refine go_s (pc' := 53) (st' := [.int (-1)]) rfl rfl rfl rfl ?_
              refine go_ret rfl rfl ?_
              exact ⟨by rw [if_neg c2], rfl⟩
            · skip
              refine go_s (pc' := 44) rfl rfl rfl rfl ?_
              refine go_s (pc' := 45) (st' := [.int 2, .int a]) rfl rfl rfl rfl ?_
              refine go_callS (pc' := 46) rfl rfl rfl (Nat.le_of_ble_eq_true rfl) rfl rfl rfl (ct_within_f (a := a) (n := 2) hn2 (by omega)) (fun r h24 q25 => ?_)
              obtain ⟨rfl, rfl⟩ := q25
              refine go_ifP (t' := 52) (pc' := 47) rfl rfl rfl (fun _ => ?_) (fun (c : ¬ ((0 : Int32) = 0)) => absurd (by decide) c)
              refine go_s (pc' := 53) (st' := [.int (-1)]) rfl rfl rfl rfl ?_
              refine go_ret rfl rfl ?_
              exact ⟨by rw [if_neg c2], rfl⟩
        · skip
          have c21 : x = 10 := Decidable.not_not.mp c21'
          refine go_s (pc' := 24) rfl rfl rfl rfl ?_
          refine go_s (pc' := 25) (st' := [.int 2, .int a]) rfl rfl rfl rfl ?_
          refine go_callS (pc' := 26) rfl rfl rfl (Nat.le_of_ble_eq_true rfl) rfl rfl rfl (ct_within_f (a := a) (n := 2) hn2 (by omega)) (fun r h26 q27 => ?_)
          obtain ⟨rfl, rfl⟩ := q27
          refine go_ifP (t' := 37) (pc' := 27) rfl rfl rfl (fun _ => ?_) (fun (c : ¬ ((0 : Int32) = 0)) => absurd (by decide) c)
          refine go_s (pc' := 38) rfl rfl rfl rfl ?_
          refine go_s (pc' := 39) (st' := [.int 20, .int x]) rfl rfl rfl rfl ?_
          refine go_icmpP (t' := 52) (pc' := 40) rfl rfl rfl (fun _ => ?_) (fun (c : ¬ (x < 20)) => absurd (by rw [c21] <;> decide) c)
          refine go_s (pc' := 53) (st' := [.int (-1)]) rfl rfl rfl rfl ?_
          refine go_ret rfl rfl ?_
          exact ⟨by rw [if_neg c2], rfl⟩
  · skip
    have c2 : x = 30 := Decidable.not_not.mp c2'
    refine go_s (pc' := 4) rfl rfl rfl rfl ?_
    refine go_sget (pc' := 5) (v := .int (I 8 0)) hS rfl rfl rfl (by decide) rfl rfl ?_
    refine go_ret rfl rfl ?_
    exact ⟨by rw [if_pos c2], rfl⟩
