theorem rx_nm_a {w : Nat → Bool} {d : Nat} {h : am_Hp} {I K : sm_I} {Y : sm_X} {am ln : Nat} (hr : rk am 77) (hS : sm (tbr am (13 * ln) 77 5088) h (jn I K) Y) (hln : ln < 2 ^ 20) (hW : ∀ a, 62 ≤ a → a ≤ 88 → w a = true) {x : Nat} (hx : x < ln) (e1 : K 52 1 = nI (13 * x)) (hd : 1 ≤ d) : am_Ev (am_prog w) d 131 [.ref 62] h (fun r h' => r = some (.int (nI (13 * x))) ∧ sm (tbr am (13 * ln) 77 5088) h' (jn I (uI K 52 1 (K 50 (13 * x + 4)))) Y ∧ sm_e (tbr am (13 * ln) 77 5088) h h') := by
  obtain ⟨d, rfl⟩ : ∃ e, d = e + 1 := ⟨d - 1, by omega⟩
  refine ev_go rfl (Nat.le_of_ble_eq_true rfl) rfl ?_
  refine go_s (pc' := 1) rfl rfl rfl rfl ?_
  refine go_sget (pc' := 2) (v := .int (nI (13 * x))) hS rfl rfl rfl (by decide) (congrArg Value.int e1) rfl ?_
  refine go_s (pc' := 3) (st' := [.int (-1), .int (nI (13 * x))]) rfl rfl rfl rfl ?_
  refine go_icmpP (t' := 17) (pc' := 4) rfl rfl rfl (fun (c : (nI (13 * x)) = (-1)) => absurd c (nI_nm1 (by omega))) (fun _ => ?_)
  refine go_s (pc' := 5) rfl rfl rfl rfl ?_
  refine go_sget (pc' := 6) (v := .int (nI (13 * x))) hS rfl rfl rfl (by decide) (congrArg Value.int e1) rfl ?_
  refine go_s (pc' := 7) (lo' := [some (.ref 62), some (.int (nI (13 * x))), none]) rfl rfl rfl rfl ?_
  refine go_s (pc' := 8) rfl rfl rfl rfl ?_
  refine go_s (pc' := 9) rfl rfl rfl rfl ?_
  refine go_sget (pc' := 10) (v := .ref am) hS rfl rfl rfl (by decide) rfl rfl ?_
  refine go_s (pc' := 11) rfl rfl rfl rfl ?_
  refine go_s (pc' := 12) (st' := [.int 4, .int (nI (13 * x)), .ref am, .ref 62]) rfl rfl rfl rfl ?_
  refine go_nadd (pc' := 13) (a := (13 * x)) (b := 4) rfl rfl rfl rfl rfl ?_
  refine go_sald (pc' := 14) (q := ((13 * x) + 4)) (v := .int (K 50 ((13 * x) + 4))) hS rfl (tr_ms hr (by omega)) rfl rfl (by omega) rfl rfl ?_
  refine go_sput (pc' := 15) hS rfl rfl rfl (by decide) tbr_inj (Nat.le_of_ble_eq_true rfl) rfl (hW _ (by decide) (by decide)) rfl (fun h1 hS2 hE3 => ?_)
  refine go_s (pc' := 16) rfl rfl rfl rfl ?_
  refine go_ret rfl rfl ?_
  change sm (tbr am (13 * ln) 77 5088) _ (uI (jn I K) 52 1 (K 50 ((13 * x) + 4))) Y at hS2
  rw [jn_hi (c := 52) (by decide)] at hS2
  exact ⟨rfl, hS2, hE3⟩
theorem rx_nm_b {w : Nat → Bool} {d : Nat} {h : am_Hp} {I K : sm_I} {Y : sm_X} {am ln : Nat} (hr : rk am 77) (hS : sm (tbr am (13 * ln) 77 5088) h (jn I K) Y) (hln : ln < 2 ^ 20) (hW : ∀ a, 62 ≤ a → a ≤ 88 → w a = true) {rm : Nat} (hx : rm < ln) (e1 : K 52 1 = -1) (e0 : K 52 0 = nI rm) (hd : 1 ≤ d) : am_Ev (am_prog w) d 131 [.ref 62] h (fun r h' => r = some (.int (nI (13 * rm))) ∧ sm (tbr am (13 * ln) 77 5088) h' (jn I (uI K 52 0 (nI (rm + 1)))) Y ∧ sm_e (tbr am (13 * ln) 77 5088) h h') := by
  obtain ⟨d, rfl⟩ : ∃ e, d = e + 1 := ⟨d - 1, by omega⟩
  refine ev_go rfl (Nat.le_of_ble_eq_true rfl) rfl ?_
  refine go_s (pc' := 1) rfl rfl rfl rfl ?_
  refine go_sget (pc' := 2) (v := .int (-1)) hS rfl rfl rfl (by decide) (congrArg Value.int e1) rfl ?_
  refine go_s (pc' := 3) (st' := [.int (-1), .int (-1)]) rfl rfl rfl rfl ?_
  refine go_icmpP (t' := 17) (pc' := 4) rfl rfl rfl (fun _ => ?_) (fun (c : ¬ (((-1) : Int32) = (-1))) => absurd rfl c)
  refine go_s (pc' := 18) (st' := [.int 13]) rfl rfl rfl rfl ?_
  refine go_s (pc' := 19) rfl rfl rfl rfl ?_
  refine go_sget (pc' := 20) (v := .int (nI rm)) hS rfl rfl rfl (by decide) (congrArg Value.int e0) rfl ?_
  refine go_nmul (pc' := 21) (a := 13) (b := rm) rfl rfl rfl rfl rfl ?_
  refine go_s (pc' := 22) rfl rfl rfl rfl ?_
  refine go_sget (pc' := 23) (v := .ref am) hS rfl rfl rfl (by decide) rfl rfl ?_
  refine go_salen (pc' := 24) (n := 13 * ln) hS rfl (tr_m hr) (by simp) rfl ?_
  refine go_icmpP (t' := 51) (pc' := 25) rfl rfl rfl (fun _ => ?_) (fun (c : ¬ (¬ (nI (13 * rm)) = (nI (13 * ln)))) => absurd (fun z => absurd ((nI_eq (by omega) (by omega)).mp z) (by omega)) c)
  refine go_s (pc' := 52) rfl rfl rfl rfl ?_
  refine go_s (pc' := 53) rfl rfl rfl rfl ?_
  refine go_sget (pc' := 54) (v := .int (nI rm)) hS rfl rfl rfl (by decide) (congrArg Value.int e0) rfl ?_
  refine go_s (pc' := 55) (st' := [.int 1, .int (nI rm), .ref 62]) rfl rfl rfl rfl ?_
  refine go_nadd (pc' := 56) (a := rm) (b := 1) rfl rfl rfl rfl rfl ?_
  refine go_sput (pc' := 57) hS rfl rfl rfl (by decide) tbr_inj (Nat.le_of_ble_eq_true rfl) rfl (hW _ (by decide) (by decide)) rfl (fun h1 hS2 hE3 => ?_)
  refine go_s (pc' := 58) (st' := [.int 13]) rfl rfl rfl rfl ?_
  refine go_s (pc' := 59) rfl rfl rfl rfl ?_
  refine go_sget (pc' := 60) (v := .int (nI (rm + 1))) hS2 rfl rfl rfl (by decide) rfl rfl ?_
  refine go_s (pc' := 61) (st' := [.int 1, .int (nI (rm + 1)), .int 13]) rfl rfl rfl rfl ?_
  refine go_nsub (pc' := 62) (a := (rm + 1)) (b := 1) rfl rfl rfl (by omega) rfl rfl ?_
  refine go_nmul (pc' := 63) (a := 13) (b := ((rm + 1) - 1)) rfl rfl rfl rfl rfl ?_
  refine go_ret rfl rfl ?_
  change sm (tbr am (13 * ln) 77 5088) _ (uI (jn I K) 52 0 (nI (rm + 1))) Y at hS2
  rw [jn_hi (c := 52) (by decide)] at hS2
  exact ⟨by rw [show 13 * (rm + 1 - 1) = 13 * rm by omega], hS2, hE3⟩
theorem rx_ns_a {w : Nat → Bool} {d : Nat} {h : am_Hp} {I K : sm_I} {Y : sm_X} {am ln : Nat} (hr : rk am 77) (hS : sm (tbr am (13 * ln) 77 5088) h (jn I K) Y) (hln : ln < 2 ^ 20) (hW : ∀ a, 62 ≤ a → a ≤ 88 → w a = true) {x : Nat} (hx : x < 12) (e1 : K 52 3 = nI x) (hd : 1 ≤ d) : am_Ev (am_prog w) d 135 [.ref 62] h (fun r h' => r = some (.int (nI x)) ∧ sm (tbr am (13 * ln) 77 5088) h' (jn I (uI K 52 3 (K 51 (424 * x)))) Y ∧ sm_e (tbr am (13 * ln) 77 5088) h h') := by
  obtain ⟨d, rfl⟩ : ∃ e, d = e + 1 := ⟨d - 1, by omega⟩
  refine ev_go rfl (Nat.le_of_ble_eq_true rfl) rfl ?_
  refine go_s (pc' := 1) rfl rfl rfl rfl ?_
  refine go_sget (pc' := 2) (v := .int (nI x)) hS rfl rfl rfl (by decide) (congrArg Value.int e1) rfl ?_
  refine go_s (pc' := 3) (st' := [.int (-1), .int (nI x)]) rfl rfl rfl rfl ?_
  refine go_icmpP (t' := 17) (pc' := 4) rfl rfl rfl (fun (c : (nI x) = (-1)) => absurd c (nI_nm1 (by omega))) (fun _ => ?_)
  refine go_s (pc' := 5) rfl rfl rfl rfl ?_
  refine go_sget (pc' := 6) (v := .int (nI x)) hS rfl rfl rfl (by decide) (congrArg Value.int e1) rfl ?_
  refine go_s (pc' := 7) (lo' := [some (.ref 62), some (.int (nI x)), none]) rfl rfl rfl rfl ?_
  refine go_s (pc' := 8) rfl rfl rfl rfl ?_
  refine go_s (pc' := 9) rfl rfl rfl rfl ?_
  refine go_sget (pc' := 10) (v := .ref 77) hS rfl rfl rfl (by decide) rfl rfl ?_
  refine go_s (pc' := 11) (st' := [.int 424, .ref 77, .ref 62]) rfl rfl rfl rfl ?_
  refine go_s (pc' := 12) rfl rfl rfl rfl ?_
  refine go_nmul (pc' := 13) (a := 424) (b := x) rfl rfl rfl rfl rfl ?_
  refine go_sald (pc' := 14) (q := (424 * x)) (v := .int (K 51 (424 * x))) hS rfl (tr_as hr (by omega)) rfl rfl (by omega) rfl rfl ?_
  refine go_sput (pc' := 15) hS rfl rfl rfl (by decide) tbr_inj (Nat.le_of_ble_eq_true rfl) rfl (hW _ (by decide) (by decide)) rfl (fun h1 hS2 hE3 => ?_)
  refine go_s (pc' := 16) rfl rfl rfl rfl ?_
  refine go_ret rfl rfl ?_
  change sm (tbr am (13 * ln) 77 5088) _ (uI (jn I K) 52 3 (K 51 (424 * x))) Y at hS2
  rw [jn_hi (c := 52) (by decide)] at hS2
  exact ⟨rfl, hS2, hE3⟩
theorem rx_ns_b {w : Nat → Bool} {d : Nat} {h : am_Hp} {I K : sm_I} {Y : sm_X} {am ln : Nat} (hr : rk am 77) (hS : sm (tbr am (13 * ln) 77 5088) h (jn I K) Y) (hln : ln < 2 ^ 20) (hW : ∀ a, 62 ≤ a → a ≤ 88 → w a = true) {sr : Nat} (hx : sr < 12) (e1 : K 52 3 = -1) (e0 : K 52 2 = nI sr) (hd : 1 ≤ d) : am_Ev (am_prog w) d 135 [.ref 62] h (fun r h' => r = some (.int (nI sr)) ∧ sm (tbr am (13 * ln) 77 5088) h' (jn I (uI K 52 2 (nI (sr + 1)))) Y ∧ sm_e (tbr am (13 * ln) 77 5088) h h') := by
  obtain ⟨d, rfl⟩ : ∃ e, d = e + 1 := ⟨d - 1, by omega⟩
  refine ev_go rfl (Nat.le_of_ble_eq_true rfl) rfl ?_
  refine go_s (pc' := 1) rfl rfl rfl rfl ?_
  refine go_sget (pc' := 2) (v := .int (-1)) hS rfl rfl rfl (by decide) (congrArg Value.int e1) rfl ?_
  refine go_s (pc' := 3) (st' := [.int (-1), .int (-1)]) rfl rfl rfl rfl ?_
  refine go_icmpP (t' := 17) (pc' := 4) rfl rfl rfl (fun _ => ?_) (fun (c : ¬ (((-1) : Int32) = (-1))) => absurd rfl c)
  refine go_s (pc' := 18) (st' := [.int 424]) rfl rfl rfl rfl ?_
  refine go_s (pc' := 19) rfl rfl rfl rfl ?_
  refine go_sget (pc' := 20) (v := .int (nI sr)) hS rfl rfl rfl (by decide) (congrArg Value.int e0) rfl ?_
  refine go_nmul (pc' := 21) (a := 424) (b := sr) rfl rfl rfl rfl rfl ?_
  refine go_s (pc' := 22) rfl rfl rfl rfl ?_
  refine go_sget (pc' := 23) (v := .ref 77) hS rfl rfl rfl (by decide) rfl rfl ?_
  refine go_salen (pc' := 24) (n := 5088) hS rfl (tr_a hr) (by simp) rfl ?_
  refine go_icmpP (t' := 51) (pc' := 25) rfl rfl rfl (fun _ => ?_) (fun (c : ¬ (¬ (nI (424 * sr)) = 5088)) => absurd (fun z => absurd ((nI_eq (b := 5088) (by omega) (by omega)).mp z) (by omega)) c)
  refine go_s (pc' := 52) rfl rfl rfl rfl ?_
  refine go_s (pc' := 53) rfl rfl rfl rfl ?_
  refine go_sget (pc' := 54) (v := .int (nI sr)) hS rfl rfl rfl (by decide) (congrArg Value.int e0) rfl ?_
  refine go_s (pc' := 55) (st' := [.int 1, .int (nI sr), .ref 62]) rfl rfl rfl rfl ?_
  refine go_nadd (pc' := 56) (a := sr) (b := 1) rfl rfl rfl rfl rfl ?_
  refine go_sput (pc' := 57) hS rfl rfl rfl (by decide) tbr_inj (Nat.le_of_ble_eq_true rfl) rfl (hW _ (by decide) (by decide)) rfl (fun h1 hS2 hE3 => ?_)
  refine go_s (pc' := 58) rfl rfl rfl rfl ?_
  refine go_sget (pc' := 59) (v := .int (nI (sr + 1))) hS2 rfl rfl rfl (by decide) rfl rfl ?_
  refine go_s (pc' := 60) (st' := [.int 1, .int (nI (sr + 1))]) rfl rfl rfl rfl ?_
  refine go_nsub (pc' := 61) (a := (sr + 1)) (b := 1) rfl rfl rfl (by omega) rfl rfl ?_
  refine go_ret rfl rfl ?_
  change sm (tbr am (13 * ln) 77 5088) _ (uI (jn I K) 52 2 (nI (sr + 1))) Y at hS2
  rw [jn_hi (c := 52) (by decide)] at hS2
  exact ⟨by rw [show sr + 1 - 1 = sr by omega], hS2, hE3⟩
theorem rx_go_n {w : Nat → Bool} {d : Nat} {h : am_Hp} {I K : sm_I} {Y : sm_X} {am ln : Nat} (hr : rk am 77) (hS : sm (tbr am (13 * ln) 77 5088) h (jn I K) Y) (hln : ln < 2 ^ 20) (hW : ∀ a, 62 ≤ a → a ≤ 88 → w a = true) (hWm : w am = true) {x : Nat} (hx : x < ln) (e1 : K 50 (13 * x + 12) = -1) (hd : 1 ≤ d) : am_Ev (am_prog w) d 159 [.ref 62, .int (nI (13 * x))] h (fun r h' => r = none ∧ sm (tbr am (13 * ln) 77 5088) h' (jn I (uI (uI K 50 (13 * x + 4) (K 52 1)) 52 1 (nI (13 * x)))) Y ∧ sm_e (tbr am (13 * ln) 77 5088) h h') := by
  obtain ⟨d, rfl⟩ : ∃ e, d = e + 1 := ⟨d - 1, by omega⟩
  refine ev_go rfl (Nat.le_of_ble_eq_true rfl) rfl ?_
  refine go_s (pc' := 1) rfl rfl rfl rfl ?_
  refine go_sget (pc' := 2) (v := .ref am) hS rfl rfl rfl (by decide) rfl rfl ?_
  refine go_s (pc' := 3) rfl rfl rfl rfl ?_
  refine go_s (pc' := 4) (st' := [.int 12, .int (nI (13 * x)), .ref am]) rfl rfl rfl rfl ?_
  refine go_nadd (pc' := 5) (a := (13 * x)) (b := 12) rfl rfl rfl rfl rfl ?_
  refine go_sald (pc' := 6) (q := ((13 * x) + 12)) (v := .int (-1)) hS rfl (tr_ms hr (by omega)) rfl rfl (by omega) (congrArg Value.int e1) rfl ?_
  refine go_s (pc' := 7) (lo' := [some (.ref 62), some (.int (nI (13 * x))), some (.int (-1))]) rfl rfl rfl rfl ?_
  refine go_s (pc' := 8) rfl rfl rfl rfl ?_
  refine go_s (pc' := 9) (st' := [.int (-1), .int (-1)]) rfl rfl rfl rfl ?_
  refine go_icmpP (t' := 21) (pc' := 10) rfl rfl rfl (fun _ => ?_) (fun (c : ¬ (((-1) : Int32) = (-1))) => absurd (by decide) c)
  refine go_s (pc' := 22) rfl rfl rfl rfl ?_
  refine go_sget (pc' := 23) (v := .ref am) hS rfl rfl rfl (by decide) rfl rfl ?_
  refine go_s (pc' := 24) rfl rfl rfl rfl ?_
  refine go_s (pc' := 25) (st' := [.int 4, .int (nI (13 * x)), .ref am]) rfl rfl rfl rfl ?_
  refine go_nadd (pc' := 26) (a := (13 * x)) (b := 4) rfl rfl rfl rfl rfl ?_
  refine go_s (pc' := 27) rfl rfl rfl rfl ?_
  refine go_sget (pc' := 28) (v := .int (K 52 1)) hS rfl rfl rfl (by decide) rfl rfl ?_
  refine go_siast (pc' := 29) (q := ((13 * x) + 4)) hS rfl (tr_ms hr (by omega)) tbr_inj (Nat.le_of_ble_eq_true rfl) rfl (by omega) (rk_0 hr).1 hWm rfl (fun h1 hS2 hE3 => ?_)
  refine go_s (pc' := 30) rfl rfl rfl rfl ?_
  refine go_s (pc' := 31) rfl rfl rfl rfl ?_
  refine go_sput (pc' := 32) hS2 rfl rfl rfl (by decide) tbr_inj (Nat.le_of_ble_eq_true rfl) rfl (hW _ (by decide) (by decide)) rfl (fun h4 hS5 hE6 => ?_)
  have hE7 := sm_e_trans hE3 hE6
  refine go_ret rfl rfl ?_
  change sm (tbr am (13 * ln) 77 5088) _ (uI (uI (jn I K) 50 ((13 * x) + 4) (K 52 1)) 52 1 (nI (13 * x))) Y at hS5
  rw [jn_hi (c := 50) (by decide), jn_hi (c := 52) (by decide)] at hS5
  exact ⟨rfl, hS5, hE7⟩
theorem rx_go_s {w : Nat → Bool} {d : Nat} {h : am_Hp} {I K : sm_I} {Y : sm_X} {am ln : Nat} (hr : rk am 77) (hS : sm (tbr am (13 * ln) 77 5088) h (jn I K) Y) (hln : ln < 2 ^ 20) (hW : ∀ a, 62 ≤ a → a ≤ 88 → w a = true) (hWm : w am = true) {x y : Nat} (hx : x < ln) (hy : y < 12) (e1 : K 50 (13 * x + 12) = nI y) (hd : 1 ≤ d) : am_Ev (am_prog w) d 159 [.ref 62, .int (nI (13 * x))] h (fun r h' => r = none ∧ sm (tbr am (13 * ln) 77 5088) h' (jn I (uI (uI (uI (uI K 51 (424 * y) (K 52 3)) 52 3 (nI y)) 50 (13 * x + 4) (K 52 1)) 52 1 (nI (13 * x)))) Y ∧ sm_e (tbr am (13 * ln) 77 5088) h h') := by
  obtain ⟨d, rfl⟩ : ∃ e, d = e + 1 := ⟨d - 1, by omega⟩
  refine ev_go rfl (Nat.le_of_ble_eq_true rfl) rfl ?_
  refine go_s (pc' := 1) rfl rfl rfl rfl ?_
  refine go_sget (pc' := 2) (v := .ref am) hS rfl rfl rfl (by decide) rfl rfl ?_
  refine go_s (pc' := 3) rfl rfl rfl rfl ?_
  refine go_s (pc' := 4) (st' := [.int 12, .int (nI (13 * x)), .ref am]) rfl rfl rfl rfl ?_
  refine go_nadd (pc' := 5) (a := (13 * x)) (b := 12) rfl rfl rfl rfl rfl ?_
  refine go_sald (pc' := 6) (q := ((13 * x) + 12)) (v := .int (nI y)) hS rfl (tr_ms hr (by omega)) rfl rfl (by omega) (congrArg Value.int e1) rfl ?_
  refine go_s (pc' := 7) (lo' := [some (.ref 62), some (.int (nI (13 * x))), some (.int (nI y))]) rfl rfl rfl rfl ?_
  refine go_s (pc' := 8) rfl rfl rfl rfl ?_
  refine go_s (pc' := 9) (st' := [.int (-1), .int (nI y)]) rfl rfl rfl rfl ?_
  refine go_icmpP (t' := 21) (pc' := 10) rfl rfl rfl (fun (c : (nI y) = (-1)) => absurd c (nI_nm1 (by omega))) (fun _ => ?_)
  refine go_s (pc' := 11) rfl rfl rfl rfl ?_
  refine go_sget (pc' := 12) (v := .ref 77) hS rfl rfl rfl (by decide) rfl rfl ?_
  refine go_s (pc' := 13) (st' := [.int 424, .ref 77]) rfl rfl rfl rfl ?_
  refine go_s (pc' := 14) rfl rfl rfl rfl ?_
  refine go_nmul (pc' := 15) (a := 424) (b := y) rfl rfl rfl rfl rfl ?_
  refine go_s (pc' := 16) rfl rfl rfl rfl ?_
  refine go_sget (pc' := 17) (v := .int (K 52 3)) hS rfl rfl rfl (by decide) rfl rfl ?_
  refine go_siast (pc' := 18) (q := (424 * y)) hS rfl (tr_as hr (by omega)) tbr_inj (Nat.le_of_ble_eq_true rfl) rfl (by omega) (by decide) (hW _ (by decide) (by decide)) rfl (fun h1 hS2 hE3 => ?_)
  refine go_s (pc' := 19) rfl rfl rfl rfl ?_
  refine go_s (pc' := 20) rfl rfl rfl rfl ?_
  refine go_sput (pc' := 21) hS2 rfl rfl rfl (by decide) tbr_inj (Nat.le_of_ble_eq_true rfl) rfl (hW _ (by decide) (by decide)) rfl (fun h4 hS5 hE6 => ?_)
  have hE7 := sm_e_trans hE3 hE6
  refine go_s (pc' := 22) rfl rfl rfl rfl ?_
  refine go_sget (pc' := 23) (v := .ref am) hS5 rfl rfl rfl (by decide) rfl rfl ?_
  refine go_s (pc' := 24) rfl rfl rfl rfl ?_
  refine go_s (pc' := 25) (st' := [.int 4, .int (nI (13 * x)), .ref am]) rfl rfl rfl rfl ?_
  refine go_nadd (pc' := 26) (a := (13 * x)) (b := 4) rfl rfl rfl rfl rfl ?_
  refine go_s (pc' := 27) rfl rfl rfl rfl ?_
  refine go_sget (pc' := 28) (v := .int (K 52 1)) hS5 rfl rfl rfl (by decide) rfl rfl ?_
  refine go_siast (pc' := 29) (q := ((13 * x) + 4)) hS5 rfl (tr_ms hr (by omega)) tbr_inj (Nat.le_of_ble_eq_true rfl) rfl (by omega) (rk_0 hr).1 hWm rfl (fun h8 hS9 hE10 => ?_)
  have hE11 := sm_e_trans hE7 hE10
  refine go_s (pc' := 30) rfl rfl rfl rfl ?_
  refine go_s (pc' := 31) rfl rfl rfl rfl ?_
  refine go_sput (pc' := 32) hS9 rfl rfl rfl (by decide) tbr_inj (Nat.le_of_ble_eq_true rfl) rfl (hW _ (by decide) (by decide)) rfl (fun h12 hS13 hE14 => ?_)
  have hE15 := sm_e_trans hE11 hE14
  refine go_ret rfl rfl ?_
  change sm (tbr am (13 * ln) 77 5088) _ (uI (uI (uI (uI (jn I K) 51 (424 * y) (K 52 3)) 52 3 (nI y)) 50 ((13 * x) + 4) (K 52 1)) 52 1 (nI (13 * x))) Y at hS13
  rw [jn_hi (c := 51) (by decide), jn_hi (c := 52) (by decide), jn_hi (c := 50) (by decide), jn_hi (c := 52) (by decide)] at hS13
  exact ⟨rfl, hS13, hE15⟩
