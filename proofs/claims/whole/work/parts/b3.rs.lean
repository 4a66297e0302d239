def bok (s : ms) : Prop := (s.1 14 = 0 ∨ s.1 14 = 1) ∧ (s.1 15 = 0 ∨ s.1 15 = 1)
theorem bok_tr {s : ms} (h : bok s) : s.1 14 + s.1 15 = nI (mtr s) := by
  obtain ⟨h1, h2⟩ := h
  unfold mtr
  rcases h1 with h1 | h1 <;> rcases h2 with h2 | h2 <;> rw [h1, h2] <;> rfl
theorem rs_tr {w : Nat → Bool} {d : Nat} {h : am_Hp} {J : sm_I} {Y : sm_X} {am lm as_ ls : Nat} (hr : rk am as_) (hS : sm (tbr am lm as_ ls) h J Y) {rho : Nat} {s : ms} (hp : prk J 0) (hn : ¬ J 11 0 = -1) (hrho : rwi J 0 = rho) (hls : 424 * rho + 424 ≤ ls) (hl31 : ls < 2 ^ 31) (hR : RS J rho s) (hb : bok s) (hd : 2 ≤ d) : am_Ev (am_prog w) d 147 [.ref 62] h (fun r h' => r = some (.int (nI (mtr s))) ∧ h' = h) := by
  obtain ⟨d, rfl⟩ : ∃ e, d = e + 1 := ⟨d - 1, by omega⟩
  refine ev_go rfl (Nat.le_of_ble_eq_true rfl) rfl ?_
  refine go_s (pc' := 1) rfl rfl rfl rfl ?_
  refine go_sget (pc' := 2) (v := .ref as_) hS rfl rfl rfl (by decide) rfl rfl ?_
  refine go_s (pc' := 3) rfl rfl rfl rfl ?_
  refine go_s (pc' := 4) (st' := [.int 0, .ref 62, .ref as_]) rfl rfl rfl rfl ?_
  refine go_callV (pc' := 5) rfl rfl rfl (Nat.le_of_ble_eq_true rfl) rfl (sm_o hS rfl) rfl rfl rfl (rt_at_0 hr hS hp hn (by omega)) (fun r h1 q2 => ?_)
  obtain ⟨rfl, rfl⟩ := q2
  rw [show rwi J 0 = rho from hrho]
  refine go_s (pc' := 6) (st' := [.int 14, .int (nI (424 * rho)), .ref as_]) rfl rfl rfl rfl ?_
  refine go_nadd (pc' := 7) (a := (424 * rho)) (b := 14) rfl rfl rfl rfl rfl ?_
  refine go_sald (pc' := 8) (q := ((424 * rho) + 14)) (v := .int (s.1 14)) hS rfl (tr_as hr (by omega)) rfl rfl (by omega) (congrArg Value.int (hR.1 14 (by decide) (by decide) (by decide))) rfl ?_
  refine go_s (pc' := 9) rfl rfl rfl rfl ?_
  refine go_sget (pc' := 10) (v := .ref as_) hS rfl rfl rfl (by decide) rfl rfl ?_
  refine go_s (pc' := 11) rfl rfl rfl rfl ?_
  refine go_s (pc' := 12) (st' := [.int 0, .ref 62, .ref as_, .int (s.1 14)]) rfl rfl rfl rfl ?_
  refine go_callV (pc' := 13) rfl rfl rfl (Nat.le_of_ble_eq_true rfl) rfl (sm_o hS rfl) rfl rfl rfl (rt_at_0 hr hS hp hn (by omega)) (fun r h3 q4 => ?_)
  obtain ⟨rfl, rfl⟩ := q4
  rw [show rwi J 0 = rho from hrho]
  refine go_s (pc' := 14) (st' := [.int 14, .int (nI (424 * rho)), .ref as_, .int (s.1 14)]) rfl rfl rfl rfl ?_
  refine go_nadd (pc' := 15) (a := (424 * rho)) (b := 14) rfl rfl rfl rfl rfl ?_
  refine go_s (pc' := 16) (st' := [.int 1, .int (nI ((424 * rho) + 14)), .ref as_, .int (s.1 14)]) rfl rfl rfl rfl ?_
  refine go_nadd (pc' := 17) (a := ((424 * rho) + 14)) (b := 1) rfl rfl rfl rfl rfl ?_
  refine go_sald (pc' := 18) (q := (((424 * rho) + 14) + 1)) (v := .int (s.1 15)) hS rfl (tr_as hr (by omega)) rfl rfl (by omega) (congrArg Value.int (hR.1 15 (by decide) (by decide) (by decide))) rfl ?_
  refine go_s (pc' := 19) rfl rfl rfl rfl ?_
  refine go_ret rfl rfl ?_
  exact ⟨by rw [bok_tr hb], rfl⟩
theorem rs_aw {w : Nat → Bool} {d : Nat} {h : am_Hp} {J : sm_I} {Y : sm_X} {am lm as_ ls : Nat} (hr : rk am as_) (hS : sm (tbr am lm as_ ls) h J Y) (hW : ∀ a, 62 ≤ a → a ≤ 88 → w a = true) (hWa : w as_ = true) {rho : Nat} {s : ms} (hp : prk J 0) (hn : ¬ J 11 0 = -1) (hrho : rwi J 0 = rho) (hls : 424 * rho + 424 ≤ ls) (hl31 : ls < 2 ^ 31) (hR : RS J rho s) {x0 x1 x2 x3 x4 x5 : Int32} (hw : s.2.2.length < 41) (hl : s.2.1.length ≤ 32) (hd : 2 ≤ d) : am_Ev (am_prog w) d 150 [.ref 62, .int x0, .int x1, .int x2, .int x3, .int x4, .int x5] h (fun r h' => r = none ∧ ∃ K, sm (tbr am lm as_ ls) h' K Y ∧ sm_e (tbr am lm as_ ls) h h' ∧ RS K rho (mW s (x0, x1, x2, x3, x4, x5)) ∧ rfr J K rho) := by
  obtain ⟨d, rfl⟩ : ∃ e, d = e + 1 := ⟨d - 1, by omega⟩
  refine ev_go rfl (Nat.le_of_ble_eq_true rfl) rfl ?_
  refine go_s (pc' := 1) rfl rfl rfl rfl ?_
  refine go_s (pc' := 2) (st' := [.int 0, .ref 62]) rfl rfl rfl rfl ?_
  refine go_callV (pc' := 3) rfl rfl rfl (Nat.le_of_ble_eq_true rfl) rfl (sm_o hS rfl) rfl rfl rfl (rt_at_0 hr hS hp hn (by omega)) (fun r h1 q2 => ?_)
  obtain ⟨rfl, rfl⟩ := q2
  rw [show rwi J 0 = rho from hrho]
  refine go_s (pc' := 4) (lo' := [some (.ref 62), some (.int x0), some (.int x1), some (.int x2), some (.int x3), some (.int x4), some (.int x5), some (.int (nI (424 * rho))), none]) rfl rfl rfl rfl ?_
  refine go_s (pc' := 5) rfl rfl rfl rfl ?_
  refine go_s (pc' := 6) (st' := [.int 176, .int (nI (424 * rho))]) rfl rfl rfl rfl ?_
  refine go_nadd (pc' := 7) (a := (424 * rho)) (b := 176) rfl rfl rfl rfl rfl ?_
  refine go_s (pc' := 8) (st' := [.int 6, .int (nI ((424 * rho) + 176))]) rfl rfl rfl rfl ?_
  refine go_s (pc' := 9) rfl rfl rfl rfl ?_
  refine go_sget (pc' := 10) (v := .ref as_) hS rfl rfl rfl (by decide) rfl rfl ?_
  refine go_s (pc' := 11) rfl rfl rfl rfl ?_
  refine go_s (pc' := 12) (st' := [.int 5, .int (nI (424 * rho)), .ref as_, .int 6, .int (nI ((424 * rho) + 176))]) rfl rfl rfl rfl ?_
  refine go_nadd (pc' := 13) (a := (424 * rho)) (b := 5) rfl rfl rfl rfl rfl ?_
  refine go_sald (pc' := 14) (q := ((424 * rho) + 5)) (v := .int (nI (List.length s.2.2))) hS rfl (tr_as hr (by omega)) rfl rfl (by omega) (congrArg Value.int hR.2.2.1) rfl ?_
  refine go_nmul (pc' := 15) (a := 6) (b := (List.length s.2.2)) rfl rfl rfl rfl rfl ?_
  refine go_nadd (pc' := 16) (a := ((424 * rho) + 176)) (b := (6 * (List.length s.2.2))) rfl rfl rfl rfl rfl ?_
  refine go_s (pc' := 17) (lo' := [some (.ref 62), some (.int x0), some (.int x1), some (.int x2), some (.int x3), some (.int x4), some (.int x5), some (.int (nI (424 * rho))), some (.int (nI (((424 * rho) + 176) + (6 * (List.length s.2.2)))))]) rfl rfl rfl rfl ?_
  refine go_s (pc' := 18) rfl rfl rfl rfl ?_
  refine go_sget (pc' := 19) (v := .ref as_) hS rfl rfl rfl (by decide) rfl rfl ?_
  refine go_s (pc' := 20) rfl rfl rfl rfl ?_
  refine go_s (pc' := 21) (st' := [.int 5, .int (nI (424 * rho)), .ref as_]) rfl rfl rfl rfl ?_
  refine go_nadd (pc' := 22) (a := (424 * rho)) (b := 5) rfl rfl rfl rfl rfl ?_
  refine go_s (pc' := 23) rfl rfl rfl rfl ?_
  refine go_sald (pc' := 24) (q := ((424 * rho) + 5)) (v := .int (nI (List.length s.2.2))) hS rfl (tr_as hr (by omega)) rfl rfl (by omega) (congrArg Value.int hR.2.2.1) rfl ?_
  refine go_s (pc' := 25) (st' := [.int 1, .int (nI (List.length s.2.2)), .int (nI ((424 * rho) + 5)), .ref as_]) rfl rfl rfl rfl ?_
  refine go_nadd (pc' := 26) (a := (List.length s.2.2)) (b := 1) rfl rfl rfl rfl rfl ?_
  refine go_siast (pc' := 27) (q := ((424 * rho) + 5)) hS rfl (tr_as hr (by omega)) tbr_inj (Nat.le_of_ble_eq_true rfl) rfl (by omega) (rk_0 hr).2 hWa rfl (fun h3 hS4 hE5 => ?_)
  refine go_s (pc' := 28) rfl rfl rfl rfl ?_
  refine go_sget (pc' := 29) (v := .ref as_) hS4 rfl rfl rfl (by decide) rfl rfl ?_
  refine go_s (pc' := 30) rfl rfl rfl rfl ?_
  refine go_s (pc' := 31) rfl rfl rfl rfl ?_
  refine go_siast (pc' := 32) (q := (((424 * rho) + 176) + (6 * (List.length s.2.2)))) hS4 rfl (tr_as hr (by omega)) tbr_inj (Nat.le_of_ble_eq_true rfl) rfl (by omega) (rk_0 hr).2 hWa rfl (fun h6 hS7 hE8 => ?_)
  have hE9 := sm_e_trans hE5 hE8
  refine go_s (pc' := 33) rfl rfl rfl rfl ?_
  refine go_sget (pc' := 34) (v := .ref as_) hS7 rfl rfl rfl (by decide) rfl rfl ?_
  refine go_s (pc' := 35) rfl rfl rfl rfl ?_
  refine go_s (pc' := 36) (st' := [.int 1, .int (nI (((424 * rho) + 176) + (6 * (List.length s.2.2)))), .ref as_]) rfl rfl rfl rfl ?_
  refine go_nadd (pc' := 37) (a := (((424 * rho) + 176) + (6 * (List.length s.2.2)))) (b := 1) rfl rfl rfl rfl rfl ?_
  refine go_s (pc' := 38) rfl rfl rfl rfl ?_
  refine go_siast (pc' := 39) (q := ((((424 * rho) + 176) + (6 * (List.length s.2.2))) + 1)) hS7 rfl (tr_as hr (by omega)) tbr_inj (Nat.le_of_ble_eq_true rfl) rfl (by omega) (rk_0 hr).2 hWa rfl (fun h10 hS11 hE12 => ?_)
  have hE13 := sm_e_trans hE9 hE12
  refine go_s (pc' := 40) rfl rfl rfl rfl ?_
  refine go_sget (pc' := 41) (v := .ref as_) hS11 rfl rfl rfl (by decide) rfl rfl ?_
  refine go_s (pc' := 42) rfl rfl rfl rfl ?_
  refine go_s (pc' := 43) (st' := [.int 2, .int (nI (((424 * rho) + 176) + (6 * (List.length s.2.2)))), .ref as_]) rfl rfl rfl rfl ?_
  refine go_nadd (pc' := 44) (a := (((424 * rho) + 176) + (6 * (List.length s.2.2)))) (b := 2) rfl rfl rfl rfl rfl ?_
  refine go_s (pc' := 45) rfl rfl rfl rfl ?_
  refine go_siast (pc' := 46) (q := ((((424 * rho) + 176) + (6 * (List.length s.2.2))) + 2)) hS11 rfl (tr_as hr (by omega)) tbr_inj (Nat.le_of_ble_eq_true rfl) rfl (by omega) (rk_0 hr).2 hWa rfl (fun h14 hS15 hE16 => ?_)
  have hE17 := sm_e_trans hE13 hE16
  refine go_s (pc' := 47) rfl rfl rfl rfl ?_
  refine go_sget (pc' := 48) (v := .ref as_) hS15 rfl rfl rfl (by decide) rfl rfl ?_
  refine go_s (pc' := 49) rfl rfl rfl rfl ?_
  refine go_s (pc' := 50) (st' := [.int 3, .int (nI (((424 * rho) + 176) + (6 * (List.length s.2.2)))), .ref as_]) rfl rfl rfl rfl ?_
  refine go_nadd (pc' := 51) (a := (((424 * rho) + 176) + (6 * (List.length s.2.2)))) (b := 3) rfl rfl rfl rfl rfl ?_
  refine go_s (pc' := 52) rfl rfl rfl rfl ?_
  refine go_siast (pc' := 53) (q := ((((424 * rho) + 176) + (6 * (List.length s.2.2))) + 3)) hS15 rfl (tr_as hr (by omega)) tbr_inj (Nat.le_of_ble_eq_true rfl) rfl (by omega) (rk_0 hr).2 hWa rfl (fun h18 hS19 hE20 => ?_)
  have hE21 := sm_e_trans hE17 hE20
  refine go_s (pc' := 54) rfl rfl rfl rfl ?_
  refine go_sget (pc' := 55) (v := .ref as_) hS19 rfl rfl rfl (by decide) rfl rfl ?_
  refine go_s (pc' := 56) rfl rfl rfl rfl ?_
  refine go_s (pc' := 57) (st' := [.int 4, .int (nI (((424 * rho) + 176) + (6 * (List.length s.2.2)))), .ref as_]) rfl rfl rfl rfl ?_
  refine go_nadd (pc' := 58) (a := (((424 * rho) + 176) + (6 * (List.length s.2.2)))) (b := 4) rfl rfl rfl rfl rfl ?_
  refine go_s (pc' := 59) rfl rfl rfl rfl ?_
  refine go_siast (pc' := 60) (q := ((((424 * rho) + 176) + (6 * (List.length s.2.2))) + 4)) hS19 rfl (tr_as hr (by omega)) tbr_inj (Nat.le_of_ble_eq_true rfl) rfl (by omega) (rk_0 hr).2 hWa rfl (fun h22 hS23 hE24 => ?_)
  have hE25 := sm_e_trans hE21 hE24
  refine go_s (pc' := 61) rfl rfl rfl rfl ?_
  refine go_sget (pc' := 62) (v := .ref as_) hS23 rfl rfl rfl (by decide) rfl rfl ?_
  refine go_s (pc' := 63) rfl rfl rfl rfl ?_
  refine go_s (pc' := 64) (st' := [.int 5, .int (nI (((424 * rho) + 176) + (6 * (List.length s.2.2)))), .ref as_]) rfl rfl rfl rfl ?_
  refine go_nadd (pc' := 65) (a := (((424 * rho) + 176) + (6 * (List.length s.2.2)))) (b := 5) rfl rfl rfl rfl rfl ?_
  refine go_s (pc' := 66) rfl rfl rfl rfl ?_
  refine go_siast (pc' := 67) (q := ((((424 * rho) + 176) + (6 * (List.length s.2.2))) + 5)) hS23 rfl (tr_as hr (by omega)) tbr_inj (Nat.le_of_ble_eq_true rfl) rfl (by omega) (rk_0 hr).2 hWa rfl (fun h26 hS27 hE28 => ?_)
  have hE29 := sm_e_trans hE25 hE28
  refine go_ret rfl rfl ?_
  refine ⟨rfl, _, hS27, hE29, RS_W (x := (x0, x1, x2, x3, x4, x5)) hR hw hl ?_ (fun j hj => ?_) (fun j h1 h2 => ?_), ?_⟩
  · simp only [uI]
    rw [if_neg (by omega), if_neg (by omega), if_neg (by omega), if_neg (by omega), if_neg (by omega), if_neg (by omega), if_pos (by simp)]
  · simp only [uI]
    match j, hj with
    | 0, _ => rw [if_neg (by omega), if_neg (by omega), if_neg (by omega), if_neg (by omega), if_neg (by omega), if_pos ⟨trivial, by omega⟩]; rfl
    | 1, _ => rw [if_neg (by omega), if_neg (by omega), if_neg (by omega), if_neg (by omega), if_pos ⟨trivial, by omega⟩]; rfl
    | 2, _ => rw [if_neg (by omega), if_neg (by omega), if_neg (by omega), if_pos ⟨trivial, by omega⟩]; rfl
    | 3, _ => rw [if_neg (by omega), if_neg (by omega), if_pos ⟨trivial, by omega⟩]; rfl
    | 4, _ => rw [if_neg (by omega), if_pos ⟨trivial, by omega⟩]; rfl
    | 5, _ => rw [if_pos ⟨trivial, by omega⟩]; rfl
  · simp only [uI]
    rw [if_neg (by omega), if_neg (by omega), if_neg (by omega), if_neg (by omega), if_neg (by omega), if_neg (by omega), if_neg (by omega)]
  · exact rfr_trans (rfr_trans (rfr_trans (rfr_trans (rfr_trans (rfr_trans (rfr_trans (rfr_refl _ _) (rfr_u (by omega) (by omega))) (rfr_u (by omega) (by omega))) (rfr_u (by omega) (by omega))) (rfr_u (by omega) (by omega))) (rfr_u (by omega) (by omega))) (rfr_u (by omega) (by omega))) (rfr_u (by omega) (by omega))
theorem rs_ae {w : Nat → Bool} {d : Nat} {h : am_Hp} {J : sm_I} {Y : sm_X} {am lm as_ ls : Nat} (hr : rk am as_) (hS : sm (tbr am lm as_ ls) h J Y) (hW : ∀ a, 62 ≤ a → a ≤ 88 → w a = true) (hWa : w as_ = true) {rho : Nat} {s : ms} (hp : prk J 0) (hn : ¬ J 11 0 = -1) (hrho : rwi J 0 = rho) (hls : 424 * rho + 424 ≤ ls) (hl31 : ls < 2 ^ 31) (hR : RS J rho s) {x0 x1 x2 x3 : Int32} (hw : s.2.2.length < 41) (hl : s.2.1.length < 32) (hd : 3 ≤ d) : am_Ev (am_prog w) d 149 [.ref 62, .int x0, .int x1, .int x2, .int x3] h (fun r h' => r = none ∧ ∃ K, sm (tbr am lm as_ ls) h' K Y ∧ sm_e (tbr am lm as_ ls) h h' ∧ RS K rho (mE s x0 x1 x2 x3) ∧ rfr J K rho) := by
  obtain ⟨d, rfl⟩ : ∃ e, d = e + 1 := ⟨d - 1, by omega⟩
  refine ev_go rfl (Nat.le_of_ble_eq_true rfl) rfl ?_
  refine go_s (pc' := 1) rfl rfl rfl rfl ?_
  refine go_s (pc' := 2) (st' := [.int 0, .ref 62]) rfl rfl rfl rfl ?_
  refine go_callV (pc' := 3) rfl rfl rfl (Nat.le_of_ble_eq_true rfl) rfl (sm_o hS rfl) rfl rfl rfl (rt_at_0 hr hS hp hn (by omega)) (fun r h1 q2 => ?_)
  obtain ⟨rfl, rfl⟩ := q2
  rw [show rwi J 0 = rho from hrho]
  refine go_s (pc' := 4) (lo' := [some (.ref 62), some (.int x0), some (.int x1), some (.int x2), some (.int x3), some (.int (nI (424 * rho))), none]) rfl rfl rfl rfl ?_
  refine go_s (pc' := 5) rfl rfl rfl rfl ?_
  refine go_sget (pc' := 6) (v := .ref as_) hS rfl rfl rfl (by decide) rfl rfl ?_
  refine go_s (pc' := 7) rfl rfl rfl rfl ?_
  refine go_s (pc' := 8) (st' := [.int 2, .int (nI (424 * rho)), .ref as_]) rfl rfl rfl rfl ?_
  refine go_nadd (pc' := 9) (a := (424 * rho)) (b := 2) rfl rfl rfl rfl rfl ?_
  refine go_sald (pc' := 10) (q := ((424 * rho) + 2)) (v := .int (nI (List.length s.2.1))) hS rfl (tr_as hr (by omega)) rfl rfl (by omega) (congrArg Value.int hR.2.1) rfl ?_
  refine go_s (pc' := 11) (lo' := [some (.ref 62), some (.int x0), some (.int x1), some (.int x2), some (.int x3), some (.int (nI (424 * rho))), some (.int (nI (List.length s.2.1)))]) rfl rfl rfl rfl ?_
  refine go_s (pc' := 12) rfl rfl rfl rfl ?_
  refine go_sget (pc' := 13) (v := .ref as_) hS rfl rfl rfl (by decide) rfl rfl ?_
  refine go_s (pc' := 14) rfl rfl rfl rfl ?_
  refine go_s (pc' := 15) (st' := [.int 2, .int (nI (424 * rho)), .ref as_]) rfl rfl rfl rfl ?_
  refine go_nadd (pc' := 16) (a := (424 * rho)) (b := 2) rfl rfl rfl rfl rfl ?_
  refine go_s (pc' := 17) rfl rfl rfl rfl ?_
  refine go_sald (pc' := 18) (q := ((424 * rho) + 2)) (v := .int (nI (List.length s.2.1))) hS rfl (tr_as hr (by omega)) rfl rfl (by omega) (congrArg Value.int hR.2.1) rfl ?_
  refine go_s (pc' := 19) (st' := [.int 1, .int (nI (List.length s.2.1)), .int (nI ((424 * rho) + 2)), .ref as_]) rfl rfl rfl rfl ?_
  refine go_nadd (pc' := 20) (a := (List.length s.2.1)) (b := 1) rfl rfl rfl rfl rfl ?_
  refine go_siast (pc' := 21) (q := ((424 * rho) + 2)) hS rfl (tr_as hr (by omega)) tbr_inj (Nat.le_of_ble_eq_true rfl) rfl (by omega) (rk_0 hr).2 hWa rfl (fun h3 hS4 hE5 => ?_)
  refine go_s (pc' := 22) rfl rfl rfl rfl ?_
  refine go_sget (pc' := 23) (v := .ref as_) hS4 rfl rfl rfl (by decide) rfl rfl ?_
  refine go_s (pc' := 24) rfl rfl rfl rfl ?_
  refine go_s (pc' := 25) (st' := [.int 48, .int (nI (424 * rho)), .ref as_]) rfl rfl rfl rfl ?_
  refine go_nadd (pc' := 26) (a := (424 * rho)) (b := 48) rfl rfl rfl rfl rfl ?_
  refine go_s (pc' := 27) (st' := [.int 4, .int (nI ((424 * rho) + 48)), .ref as_]) rfl rfl rfl rfl ?_
  refine go_s (pc' := 28) rfl rfl rfl rfl ?_
  refine go_nmul (pc' := 29) (a := 4) (b := (List.length s.2.1)) rfl rfl rfl rfl rfl ?_
  refine go_nadd (pc' := 30) (a := ((424 * rho) + 48)) (b := (4 * (List.length s.2.1))) rfl rfl rfl rfl rfl ?_
  refine go_s (pc' := 31) rfl rfl rfl rfl ?_
  refine go_siast (pc' := 32) (q := (((424 * rho) + 48) + (4 * (List.length s.2.1)))) hS4 rfl (tr_as hr (by omega)) tbr_inj (Nat.le_of_ble_eq_true rfl) rfl (by omega) (rk_0 hr).2 hWa rfl (fun h6 hS7 hE8 => ?_)
  have hE9 := sm_e_trans hE5 hE8
  refine go_s (pc' := 33) rfl rfl rfl rfl ?_
  refine go_sget (pc' := 34) (v := .ref as_) hS7 rfl rfl rfl (by decide) rfl rfl ?_
  refine go_s (pc' := 35) rfl rfl rfl rfl ?_
  refine go_s (pc' := 36) (st' := [.int 48, .int (nI (424 * rho)), .ref as_]) rfl rfl rfl rfl ?_
  refine go_nadd (pc' := 37) (a := (424 * rho)) (b := 48) rfl rfl rfl rfl rfl ?_
  refine go_s (pc' := 38) (st' := [.int 4, .int (nI ((424 * rho) + 48)), .ref as_]) rfl rfl rfl rfl ?_
  refine go_s (pc' := 39) rfl rfl rfl rfl ?_
  refine go_nmul (pc' := 40) (a := 4) (b := (List.length s.2.1)) rfl rfl rfl rfl rfl ?_
  refine go_nadd (pc' := 41) (a := ((424 * rho) + 48)) (b := (4 * (List.length s.2.1))) rfl rfl rfl rfl rfl ?_
  refine go_s (pc' := 42) (st' := [.int 1, .int (nI (((424 * rho) + 48) + (4 * (List.length s.2.1)))), .ref as_]) rfl rfl rfl rfl ?_
  refine go_nadd (pc' := 43) (a := (((424 * rho) + 48) + (4 * (List.length s.2.1)))) (b := 1) rfl rfl rfl rfl rfl ?_
  refine go_s (pc' := 44) rfl rfl rfl rfl ?_
  refine go_siast (pc' := 45) (q := ((((424 * rho) + 48) + (4 * (List.length s.2.1))) + 1)) hS7 rfl (tr_as hr (by omega)) tbr_inj (Nat.le_of_ble_eq_true rfl) rfl (by omega) (rk_0 hr).2 hWa rfl (fun h10 hS11 hE12 => ?_)
  have hE13 := sm_e_trans hE9 hE12
  refine go_s (pc' := 46) rfl rfl rfl rfl ?_
  refine go_sget (pc' := 47) (v := .ref as_) hS11 rfl rfl rfl (by decide) rfl rfl ?_
  refine go_s (pc' := 48) rfl rfl rfl rfl ?_
  refine go_s (pc' := 49) (st' := [.int 48, .int (nI (424 * rho)), .ref as_]) rfl rfl rfl rfl ?_
  refine go_nadd (pc' := 50) (a := (424 * rho)) (b := 48) rfl rfl rfl rfl rfl ?_
  refine go_s (pc' := 51) (st' := [.int 4, .int (nI ((424 * rho) + 48)), .ref as_]) rfl rfl rfl rfl ?_
  refine go_s (pc' := 52) rfl rfl rfl rfl ?_
  refine go_nmul (pc' := 53) (a := 4) (b := (List.length s.2.1)) rfl rfl rfl rfl rfl ?_
  refine go_nadd (pc' := 54) (a := ((424 * rho) + 48)) (b := (4 * (List.length s.2.1))) rfl rfl rfl rfl rfl ?_
  refine go_s (pc' := 55) (st' := [.int 2, .int (nI (((424 * rho) + 48) + (4 * (List.length s.2.1)))), .ref as_]) rfl rfl rfl rfl ?_
  refine go_nadd (pc' := 56) (a := (((424 * rho) + 48) + (4 * (List.length s.2.1)))) (b := 2) rfl rfl rfl rfl rfl ?_
  refine go_s (pc' := 57) rfl rfl rfl rfl ?_
  refine go_siast (pc' := 58) (q := ((((424 * rho) + 48) + (4 * (List.length s.2.1))) + 2)) hS11 rfl (tr_as hr (by omega)) tbr_inj (Nat.le_of_ble_eq_true rfl) rfl (by omega) (rk_0 hr).2 hWa rfl (fun h14 hS15 hE16 => ?_)
  have hE17 := sm_e_trans hE13 hE16
  refine go_s (pc' := 59) rfl rfl rfl rfl ?_
  refine go_sget (pc' := 60) (v := .ref as_) hS15 rfl rfl rfl (by decide) rfl rfl ?_
  refine go_s (pc' := 61) rfl rfl rfl rfl ?_
  refine go_s (pc' := 62) (st' := [.int 48, .int (nI (424 * rho)), .ref as_]) rfl rfl rfl rfl ?_
  refine go_nadd (pc' := 63) (a := (424 * rho)) (b := 48) rfl rfl rfl rfl rfl ?_
  refine go_s (pc' := 64) (st' := [.int 4, .int (nI ((424 * rho) + 48)), .ref as_]) rfl rfl rfl rfl ?_
  refine go_s (pc' := 65) rfl rfl rfl rfl ?_
  refine go_nmul (pc' := 66) (a := 4) (b := (List.length s.2.1)) rfl rfl rfl rfl rfl ?_
  refine go_nadd (pc' := 67) (a := ((424 * rho) + 48)) (b := (4 * (List.length s.2.1))) rfl rfl rfl rfl rfl ?_
  refine go_s (pc' := 68) (st' := [.int 3, .int (nI (((424 * rho) + 48) + (4 * (List.length s.2.1)))), .ref as_]) rfl rfl rfl rfl ?_
  refine go_nadd (pc' := 69) (a := (((424 * rho) + 48) + (4 * (List.length s.2.1)))) (b := 3) rfl rfl rfl rfl rfl ?_
  refine go_s (pc' := 70) rfl rfl rfl rfl ?_
  refine go_siast (pc' := 71) (q := ((((424 * rho) + 48) + (4 * (List.length s.2.1))) + 3)) hS15 rfl (tr_as hr (by omega)) tbr_inj (Nat.le_of_ble_eq_true rfl) rfl (by omega) (rk_0 hr).2 hWa rfl (fun h18 hS19 hE20 => ?_)
  have hE21 := sm_e_trans hE17 hE20
  have hR1 : RS (uI (uI (uI (uI (uI J 51 ((424 * rho) + 2) (nI ((List.length s.2.1) + 1))) 51 (((424 * rho) + 48) + (4 * (List.length s.2.1))) x0) 51 ((((424 * rho) + 48) + (4 * (List.length s.2.1))) + 1) x1) 51 ((((424 * rho) + 48) + (4 * (List.length s.2.1))) + 2) x2) 51 ((((424 * rho) + 48) + (4 * (List.length s.2.1))) + 3) x3) rho (s.1, s.2.1 ++ [(x0, x1, x2, x3)], s.2.2) := by
    refine RS_E (e := (x0, x1, x2, x3)) hR hl ?_ (fun j hj => ?_) (fun j h1 h2 => ?_)
    · simp only [uI]
      rw [if_neg (by omega), if_neg (by omega), if_neg (by omega), if_neg (by omega), if_pos (by simp)]
    · simp only [uI]
      match j, hj with
      | 0, _ => rw [if_neg (by omega), if_neg (by omega), if_neg (by omega), if_pos ⟨trivial, by omega⟩]; rfl
      | 1, _ => rw [if_neg (by omega), if_neg (by omega), if_pos ⟨trivial, by omega⟩]; rfl
      | 2, _ => rw [if_neg (by omega), if_pos ⟨trivial, by omega⟩]; rfl
      | 3, _ => rw [if_pos ⟨trivial, by omega⟩]; rfl
    · simp only [uI]
      rw [if_neg (by omega), if_neg (by omega), if_neg (by omega), if_neg (by omega), if_neg (by omega)]
  have hf1 : rfr J (uI (uI (uI (uI (uI J 51 ((424 * rho) + 2) (nI ((List.length s.2.1) + 1))) 51 (((424 * rho) + 48) + (4 * (List.length s.2.1))) x0) 51 ((((424 * rho) + 48) + (4 * (List.length s.2.1))) + 1) x1) 51 ((((424 * rho) + 48) + (4 * (List.length s.2.1))) + 2) x2) 51 ((((424 * rho) + 48) + (4 * (List.length s.2.1))) + 3) x3) rho := rfr_trans (rfr_trans (rfr_trans (rfr_trans (rfr_trans (rfr_refl _ _) (rfr_u (by omega) (by omega))) (rfr_u (by omega) (by omega))) (rfr_u (by omega) (by omega))) (rfr_u (by omega) (by omega))) (rfr_u (by omega) (by omega))
  obtain ⟨J1, eJ1⟩ : ∃ y, y = (uI (uI (uI (uI (uI J 51 ((424 * rho) + 2) (nI ((List.length s.2.1) + 1))) 51 (((424 * rho) + 48) + (4 * (List.length s.2.1))) x0) 51 ((((424 * rho) + 48) + (4 * (List.length s.2.1))) + 1) x1) 51 ((((424 * rho) + 48) + (4 * (List.length s.2.1))) + 2) x2) 51 ((((424 * rho) + 48) + (4 * (List.length s.2.1))) + 3) x3) := ⟨_, rfl⟩
  change sm (tbr am lm as_ ls) _ (uI (uI (uI (uI (uI J 51 ((424 * rho) + 2) (nI ((List.length s.2.1) + 1))) 51 (((424 * rho) + 48) + (4 * (List.length s.2.1))) x0) 51 ((((424 * rho) + 48) + (4 * (List.length s.2.1))) + 1) x1) 51 ((((424 * rho) + 48) + (4 * (List.length s.2.1))) + 2) x2) 51 ((((424 * rho) + 48) + (4 * (List.length s.2.1))) + 3) x3) Y at hS19
  rw [← eJ1] at hR1 hf1 hS19
  have hp1 : prk J1 0 := by unfold prk; rw [rfr_c hf1 (by omega)]; exact hp
  have hn1 : ¬ J1 11 0 = -1 := by rw [rfr_c hf1 (by omega)]; exact hn
  have hrho1 : rwi J1 0 = rho := (rfr_w hf1).trans hrho
  refine go_s (pc' := 72) rfl rfl rfl rfl ?_
  refine go_s (pc' := 73) (st' := [.int 17, .ref 62]) rfl rfl rfl rfl ?_
  refine go_s (pc' := 74) rfl rfl rfl rfl ?_
  refine go_nadd (pc' := 75) (a := 17) (b := (List.length s.2.1)) rfl rfl rfl rfl rfl ?_
  refine go_s (pc' := 76) rfl rfl rfl rfl ?_
  refine go_sget (pc' := 77) (v := .ref as_) hS19 rfl rfl rfl (by decide) rfl rfl ?_
  refine go_s (pc' := 78) rfl rfl rfl rfl ?_
  refine go_s (pc' := 79) (st' := [.int 1, .int (nI (424 * rho)), .ref as_, .int (nI (17 + (List.length s.2.1))), .ref 62]) rfl rfl rfl rfl ?_
  refine go_nadd (pc' := 80) (a := (424 * rho)) (b := 1) rfl rfl rfl rfl rfl ?_
  refine go_sald (pc' := 81) (q := ((424 * rho) + 1)) (v := .int (s.1 1)) hS19 rfl (tr_as hr (by omega)) rfl rfl (by omega) (congrArg Value.int (hR1.1 1 (by decide) (by decide) (by decide))) rfl ?_
  refine go_s (pc' := 82) rfl rfl rfl rfl ?_
  refine go_s (pc' := 83) rfl rfl rfl rfl ?_
  refine go_s (pc' := 84) rfl rfl rfl rfl ?_
  refine go_s (pc' := 85) rfl rfl rfl rfl ?_
  refine go_callV (pc' := 86) rfl rfl rfl (Nat.le_of_ble_eq_true rfl) rfl (sm_o hS19 rfl) rfl rfl rfl (rs_aw hr hS19 hW hWa (s := (s.1, s.2.1 ++ [(x0, x1, x2, x3)], s.2.2)) hp1 hn1 hrho1 hls hl31 hR1 hw (by simp; omega) (by omega)) (fun r h22 q23 => ?_)
  obtain ⟨rfl, K, hSK, hEK, hRK, hfK⟩ := q23
  have hE24 := sm_e_trans hE21 hEK
  have hfin : mW (s.1, s.2.1 ++ [(x0, x1, x2, x3)], s.2.2) (nI (17 + s.2.1.length), s.1 1, x0, x1, x2, x3) = mE s x0 x1 x2 x3 := rfl
  refine go_ret rfl rfl ?_
  exact ⟨rfl, K, hSK, hE24, hfin ▸ hRK, rfr_trans hf1 hfK⟩
theorem rs_oe {w : Nat → Bool} {d : Nat} {h : am_Hp} {J : sm_I} {Y : sm_X} {am lm as_ ls : Nat} (hr : rk am as_) (hS : sm (tbr am lm as_ ls) h J Y) {rho : Nat} {s : ms} (hp : prk J 0) (hn : ¬ J 11 0 = -1) (hrho : rwi J 0 = rho) (hls : 424 * rho + 424 ≤ ls) (hl31 : ls < 2 ^ 31) (hR : RS J rho s) {k f : Nat} {t : Int32} {e : ms_E} (he : s.2.1[k]? = some e) (hk : k < 32) (hf : f ≤ 32) (hd : 2 ≤ d) : am_Ev (am_prog w) d 154 [.ref 62, .int (nI k), .int t, .int (nI f)] h (fun r h' => r = some (.int (b2i (decide (f ≤ k) && eWr e t))) ∧ h' = h) := by
  by_cases hkf : k < f
  · skip
    obtain ⟨d, rfl⟩ : ∃ e, d = e + 1 := ⟨d - 1, by omega⟩
    refine ev_go rfl (Nat.le_of_ble_eq_true rfl) rfl ?_
    refine go_s (pc' := 1) rfl rfl rfl rfl ?_
    refine go_s (pc' := 2) (st' := [.int 0, .ref 62]) rfl rfl rfl rfl ?_
    refine go_callV (pc' := 3) rfl rfl rfl (Nat.le_of_ble_eq_true rfl) rfl (sm_o hS rfl) rfl rfl rfl (rt_at_0 hr hS hp hn (by omega)) (fun r h1 q2 => ?_)
    obtain ⟨rfl, rfl⟩ := q2
    rw [show rwi J 0 = rho from hrho]
    refine go_s (pc' := 4) (st' := [.int 48, .int (nI (424 * rho))]) rfl rfl rfl rfl ?_
    refine go_nadd (pc' := 5) (a := (424 * rho)) (b := 48) rfl rfl rfl rfl rfl ?_
    refine go_s (pc' := 6) (st' := [.int 4, .int (nI ((424 * rho) + 48))]) rfl rfl rfl rfl ?_
    refine go_s (pc' := 7) rfl rfl rfl rfl ?_
    refine go_nmul (pc' := 8) (a := 4) (b := k) rfl rfl rfl rfl rfl ?_
    refine go_nadd (pc' := 9) (a := ((424 * rho) + 48)) (b := (4 * k)) rfl rfl rfl rfl rfl ?_
    refine go_s (pc' := 10) (lo' := [some (.ref 62), some (.int (nI k)), some (.int t), some (.int (nI f)), some (.int (nI (((424 * rho) + 48) + (4 * k))))]) rfl rfl rfl rfl ?_
    refine go_s (pc' := 11) rfl rfl rfl rfl ?_
    refine go_s (pc' := 12) rfl rfl rfl rfl ?_
    refine go_icmpP (t' := 29) (pc' := 13) rfl rfl rfl (fun _ => ?_) (fun (c : ¬ ((nI k) < (nI f))) => absurd (Int32.not_le.mp (nI_ge hkf (by omega))) c)
    refine go_s (pc' := 30) (st' := [.int 0]) rfl rfl rfl rfl ?_
    refine go_ret rfl rfl ?_
    exact ⟨by simp [b2i, show ¬ f ≤ k by omega], rfl⟩
  · skip
    obtain ⟨d, rfl⟩ : ∃ e, d = e + 1 := ⟨d - 1, by omega⟩
    refine ev_go rfl (Nat.le_of_ble_eq_true rfl) rfl ?_
    refine go_s (pc' := 1) rfl rfl rfl rfl ?_
    refine go_s (pc' := 2) (st' := [.int 0, .ref 62]) rfl rfl rfl rfl ?_
    refine go_callV (pc' := 3) rfl rfl rfl (Nat.le_of_ble_eq_true rfl) rfl (sm_o hS rfl) rfl rfl rfl (rt_at_0 hr hS hp hn (by omega)) (fun r h3 q4 => ?_)
    obtain ⟨rfl, rfl⟩ := q4
    rw [show rwi J 0 = rho from hrho]
    refine go_s (pc' := 4) (st' := [.int 48, .int (nI (424 * rho))]) rfl rfl rfl rfl ?_
    refine go_nadd (pc' := 5) (a := (424 * rho)) (b := 48) rfl rfl rfl rfl rfl ?_
    refine go_s (pc' := 6) (st' := [.int 4, .int (nI ((424 * rho) + 48))]) rfl rfl rfl rfl ?_
    refine go_s (pc' := 7) rfl rfl rfl rfl ?_
    refine go_nmul (pc' := 8) (a := 4) (b := k) rfl rfl rfl rfl rfl ?_
    refine go_nadd (pc' := 9) (a := ((424 * rho) + 48)) (b := (4 * k)) rfl rfl rfl rfl rfl ?_
    refine go_s (pc' := 10) (lo' := [some (.ref 62), some (.int (nI k)), some (.int t), some (.int (nI f)), some (.int (nI (((424 * rho) + 48) + (4 * k))))]) rfl rfl rfl rfl ?_
    refine go_s (pc' := 11) rfl rfl rfl rfl ?_
    refine go_s (pc' := 12) rfl rfl rfl rfl ?_
    refine go_icmpP (t' := 29) (pc' := 13) rfl rfl rfl (fun (c : (nI k) < (nI f)) => absurd c (Int32.not_lt.mpr (nI_le (show f ≤ k by omega) (by omega)))) (fun _ => ?_)
    refine go_s (pc' := 14) rfl rfl rfl rfl ?_
    refine go_sget (pc' := 15) (v := .ref as_) hS rfl rfl rfl (by decide) rfl rfl ?_
    refine go_s (pc' := 16) rfl rfl rfl rfl ?_
    refine go_sald (pc' := 17) (q := (((424 * rho) + 48) + (4 * k))) (v := .int (en e 0)) hS rfl (tr_as hr (by omega)) rfl rfl (by omega) (congrArg Value.int (hR.2.2.2.1 k e he 0 (by decide))) rfl ?_
    refine go_s (pc' := 18) (st' := [.int 1, .int (en e 0)]) rfl rfl rfl rfl ?_
    refine go_icmpP (t' := 29) (pc' := 19) rfl rfl rfl (fun (c5 : ¬ (en e 0) = 1) => ?_) (fun (c5' : ¬ ¬ (en e 0) = 1) => ?_)
    · skip
      refine go_s (pc' := 30) (st' := [.int 0]) rfl rfl rfl rfl ?_
      refine go_ret rfl rfl ?_
      exact ⟨by simp [b2i, eWr, show f ≤ k by omega, show ¬ e.1 = 1 from c5], rfl⟩
    · skip
      have c5 : (en e 0) = 1 := Decidable.not_not.mp c5'
      refine go_s (pc' := 20) rfl rfl rfl rfl ?_
      refine go_sget (pc' := 21) (v := .ref as_) hS rfl rfl rfl (by decide) rfl rfl ?_
      refine go_s (pc' := 22) rfl rfl rfl rfl ?_
      refine go_s (pc' := 23) (st' := [.int 1, .int (nI (((424 * rho) + 48) + (4 * k))), .ref as_]) rfl rfl rfl rfl ?_
      refine go_nadd (pc' := 24) (a := (((424 * rho) + 48) + (4 * k))) (b := 1) rfl rfl rfl rfl rfl ?_
      refine go_sald (pc' := 25) (q := ((((424 * rho) + 48) + (4 * k)) + 1)) (v := .int (en e 1)) hS rfl (tr_as hr (by omega)) rfl rfl (by omega) (congrArg Value.int (hR.2.2.2.1 k e he 1 (by decide))) rfl ?_
      refine go_s (pc' := 26) rfl rfl rfl rfl ?_
      refine go_icmpP (t' := 29) (pc' := 27) rfl rfl rfl (fun (c6 : ¬ (en e 1) = t) => ?_) (fun (c6' : ¬ ¬ (en e 1) = t) => ?_)
      · skip
        refine go_s (pc' := 30) (st' := [.int 0]) rfl rfl rfl rfl ?_
        refine go_ret rfl rfl ?_
        exact ⟨by simp [b2i, eWr, show f ≤ k by omega, show e.1 = 1 from c5, show ¬ e.2.1 = t from c6], rfl⟩
      · skip
        have c6 : (en e 1) = t := Decidable.not_not.mp c6'
        refine go_s (pc' := 28) (st' := [.int 1]) rfl rfl rfl rfl ?_
        refine go_s (pc' := 30) rfl rfl rfl rfl ?_
        refine go_ret rfl rfl ?_
        exact ⟨by simp [b2i, eWr, show f ≤ k by omega, show e.1 = 1 from c5, show e.2.1 = t from c6], rfl⟩
