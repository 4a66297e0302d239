theorem rt_boards_m {w : Nat → Bool} {d : Nat} {h : am_Hp} {J : sm_I} {Y : sm_X} {am lm as_ ls : Nat} (hr : rk am as_) (hS : sm (tbr am lm as_ ls) h J Y) (hW : ∀ a, 62 ≤ a → a ≤ 88 → w a = true) (hWm : w am = true) {m : Nat} (hm : m + 3 < lm) (hl : lm < 2 ^ 31) (e : J 50 (m + 3) = (-1)) (hd : 1 ≤ d) : am_Ev (am_prog w) d 169 [.ref 62, .int (nI m)] h (fun r h' => r = none ∧ sm (tbr am lm as_ ls) h' (if nxb J (-1) = -1 then J else uI (uI J 50 (m + 2) (nxb J (-1))) 50 (m + 3) (nxb J (-1))) Y ∧ sm_e (tbr am lm as_ ls) h h') := by
  obtain ⟨d, rfl⟩ : ∃ e, d = e + 1 := ⟨d - 1, by omega⟩
  refine ev_go rfl (Nat.le_of_ble_eq_true rfl) rfl ?_
  refine go_s (pc' := 1) rfl rfl rfl rfl ?_
  refine go_sget (pc' := 2) (v := .ref am) hS rfl rfl rfl (by decide) rfl rfl ?_
  refine go_s (pc' := 3) rfl rfl rfl rfl ?_
  refine go_s (pc' := 4) (st' := [.int 3, .int (nI m), .ref am]) rfl rfl rfl rfl ?_
  refine go_nadd (pc' := 5) (a := m) (b := 3) rfl rfl rfl rfl rfl ?_
  refine go_sald (pc' := 6) (q := (m + 3)) (v := .int (-1)) hS rfl (tr_ms hr (by omega)) rfl rfl (by omega) (congrArg Value.int e) rfl ?_
  refine go_s (pc' := 7) (lo' := [some (.ref 62), some (.int (nI m)), some (.int (-1)), none]) rfl rfl rfl rfl ?_
  refine go_s (pc' := 8) rfl rfl rfl rfl ?_
  refine go_s (pc' := 9) (st' := [.int (-1), .int (-1)]) rfl rfl rfl rfl ?_
  refine go_icmpP (t' := 19) (pc' := 10) rfl rfl rfl (fun (c : ¬ ((-1) : Int32) = (-1)) => absurd c (by decide)) (fun _ => ?_)
  refine go_s (pc' := 11) rfl rfl rfl rfl ?_
  refine go_sget (pc' := 12) (v := .ref 66) hS rfl rfl rfl (by decide) rfl rfl ?_
  refine go_s (pc' := 13) (st' := [.int 0, .ref 66]) rfl rfl rfl rfl ?_
  refine go_sald (pc' := 14) (q := 0) (v := .int (J 3 0)) hS rfl (tr_s hr (a := 66) rfl (by decide)) rfl rfl (by decide) rfl rfl ?_
  refine go_ifP (t' := 17) (pc' := 15) rfl rfl rfl (fun (c1 : (J 3 0) = 0) => ?_) (fun (c1 : ¬ (J 3 0) = 0) => ?_)
  · skip
    refine go_s (pc' := 18) (st' := [.int 1]) rfl rfl rfl rfl ?_
    refine go_s (pc' := 31) rfl rfl rfl rfl ?_
    refine go_s (pc' := 32) (lo' := [some (.ref 62), some (.int (nI m)), some (.int (-1)), some (.int 1)]) rfl rfl rfl rfl ?_
    refine go_s (pc' := 33) rfl rfl rfl rfl ?_
    refine go_sget (pc' := 34) (v := .ref 66) hS rfl rfl rfl (by decide) rfl rfl ?_
    refine go_s (pc' := 35) rfl rfl rfl rfl ?_
    refine go_sald (pc' := 36) (q := 1) (v := .int (J 3 1)) hS rfl (tr_s hr (a := 66) rfl (by decide)) rfl rfl (by decide) rfl rfl ?_
    refine go_ifP (t' := 38) (pc' := 37) rfl rfl rfl (fun (c2 : ¬ (J 3 1) = 0) => ?_) (fun (c2' : ¬ ¬ (J 3 1) = 0) => ?_)
    · skip
      refine go_s (pc' := 39) rfl rfl rfl rfl ?_
      refine go_sget (pc' := 40) (v := .ref am) hS rfl rfl rfl (by decide) rfl rfl ?_
      refine go_s (pc' := 41) rfl rfl rfl rfl ?_
      refine go_s (pc' := 42) (st' := [.int 2, .int (nI m), .ref am]) rfl rfl rfl rfl ?_
      refine go_nadd (pc' := 43) (a := m) (b := 2) rfl rfl rfl rfl rfl ?_
      refine go_s (pc' := 44) rfl rfl rfl rfl ?_
      refine go_siast (pc' := 45) (q := (m + 2)) hS rfl (tr_ms hr (by omega)) tbr_inj (Nat.le_of_ble_eq_true rfl) rfl (by omega) (rk_0 hr).1 hWm rfl (fun h3 hS4 hE5 => ?_)
      refine go_s (pc' := 46) rfl rfl rfl rfl ?_
      refine go_sget (pc' := 47) (v := .ref am) hS4 rfl rfl rfl (by decide) rfl rfl ?_
      refine go_s (pc' := 48) rfl rfl rfl rfl ?_
      refine go_s (pc' := 49) (st' := [.int 3, .int (nI m), .ref am]) rfl rfl rfl rfl ?_
      refine go_nadd (pc' := 50) (a := m) (b := 3) rfl rfl rfl rfl rfl ?_
      refine go_s (pc' := 51) rfl rfl rfl rfl ?_
      refine go_siast (pc' := 52) (q := (m + 3)) hS4 rfl (tr_ms hr (by omega)) tbr_inj (Nat.le_of_ble_eq_true rfl) rfl (by omega) (rk_0 hr).1 hWm rfl (fun h6 hS7 hE8 => ?_)
      have hE9 := sm_e_trans hE5 hE8
      refine go_ret rfl rfl ?_
      have hx : nxb J (-1) = 1 := by simp [nxb, fbu, c1, c2]
      rw [if_neg (by rw [hx]; decide), hx]
      exact ⟨rfl, hS7, hE9⟩
    · skip
      have c2 : (J 3 1) = 0 := Decidable.not_not.mp c2'
      refine go_ret rfl rfl ?_
      have hx : nxb J (-1) = -1 := by simp [nxb, fbu, c1, c2]
      rw [if_pos hx]
      exact ⟨rfl, hS, sm_e_refl _ _⟩
  · skip
    refine go_s (pc' := 16) (st' := [.int 0]) rfl rfl rfl rfl ?_
    refine go_s (pc' := 31) rfl rfl rfl rfl ?_
    refine go_s (pc' := 32) (lo' := [some (.ref 62), some (.int (nI m)), some (.int (-1)), some (.int 0)]) rfl rfl rfl rfl ?_
    refine go_s (pc' := 33) rfl rfl rfl rfl ?_
    refine go_sget (pc' := 34) (v := .ref 66) hS rfl rfl rfl (by decide) rfl rfl ?_
    refine go_s (pc' := 35) rfl rfl rfl rfl ?_
    refine go_sald (pc' := 36) (q := 0) (v := .int (J 3 0)) hS rfl (tr_s hr (a := 66) rfl (by decide)) rfl rfl (by decide) rfl rfl ?_
    refine go_ifP (t' := 38) (pc' := 37) rfl rfl rfl (fun _ => ?_) (fun (c : ¬ (¬ (J 3 0) = 0)) => absurd c1 c)
    refine go_s (pc' := 39) rfl rfl rfl rfl ?_
    refine go_sget (pc' := 40) (v := .ref am) hS rfl rfl rfl (by decide) rfl rfl ?_
    refine go_s (pc' := 41) rfl rfl rfl rfl ?_
    refine go_s (pc' := 42) (st' := [.int 2, .int (nI m), .ref am]) rfl rfl rfl rfl ?_
    refine go_nadd (pc' := 43) (a := m) (b := 2) rfl rfl rfl rfl rfl ?_
    refine go_s (pc' := 44) rfl rfl rfl rfl ?_
    refine go_siast (pc' := 45) (q := (m + 2)) hS rfl (tr_ms hr (by omega)) tbr_inj (Nat.le_of_ble_eq_true rfl) rfl (by omega) (rk_0 hr).1 hWm rfl (fun h10 hS11 hE12 => ?_)
    refine go_s (pc' := 46) rfl rfl rfl rfl ?_
    refine go_sget (pc' := 47) (v := .ref am) hS11 rfl rfl rfl (by decide) rfl rfl ?_
    refine go_s (pc' := 48) rfl rfl rfl rfl ?_
    refine go_s (pc' := 49) (st' := [.int 3, .int (nI m), .ref am]) rfl rfl rfl rfl ?_
    refine go_nadd (pc' := 50) (a := m) (b := 3) rfl rfl rfl rfl rfl ?_
    refine go_s (pc' := 51) rfl rfl rfl rfl ?_
    refine go_siast (pc' := 52) (q := (m + 3)) hS11 rfl (tr_ms hr (by omega)) tbr_inj (Nat.le_of_ble_eq_true rfl) rfl (by omega) (rk_0 hr).1 hWm rfl (fun h13 hS14 hE15 => ?_)
    have hE16 := sm_e_trans hE12 hE15
    refine go_ret rfl rfl ?_
    have hx : nxb J (-1) = 0 := by simp [nxb, fbu, c1]
    rw [if_neg (by rw [hx]; decide), hx]
    exact ⟨rfl, hS14, hE16⟩
theorem rt_boards_0 {w : Nat → Bool} {d : Nat} {h : am_Hp} {J : sm_I} {Y : sm_X} {am lm as_ ls : Nat} (hr : rk am as_) (hS : sm (tbr am lm as_ ls) h J Y) (hW : ∀ a, 62 ≤ a → a ≤ 88 → w a = true) (hWm : w am = true) {m : Nat} (hm : m + 3 < lm) (hl : lm < 2 ^ 31) (e : J 50 (m + 3) = 0) (hd : 1 ≤ d) : am_Ev (am_prog w) d 169 [.ref 62, .int (nI m)] h (fun r h' => r = none ∧ sm (tbr am lm as_ ls) h' (if nxb J 0 = -1 then J else uI (uI J 50 (m + 2) (nxb J 0)) 50 (m + 3) (nxb J 0)) Y ∧ sm_e (tbr am lm as_ ls) h h') := by
  obtain ⟨d, rfl⟩ : ∃ e, d = e + 1 := ⟨d - 1, by omega⟩
  refine ev_go rfl (Nat.le_of_ble_eq_true rfl) rfl ?_
  refine go_s (pc' := 1) rfl rfl rfl rfl ?_
  refine go_sget (pc' := 2) (v := .ref am) hS rfl rfl rfl (by decide) rfl rfl ?_
  refine go_s (pc' := 3) rfl rfl rfl rfl ?_
  refine go_s (pc' := 4) (st' := [.int 3, .int (nI m), .ref am]) rfl rfl rfl rfl ?_
  refine go_nadd (pc' := 5) (a := m) (b := 3) rfl rfl rfl rfl rfl ?_
  refine go_sald (pc' := 6) (q := (m + 3)) (v := .int 0) hS rfl (tr_ms hr (by omega)) rfl rfl (by omega) (congrArg Value.int e) rfl ?_
  refine go_s (pc' := 7) (lo' := [some (.ref 62), some (.int (nI m)), some (.int 0), none]) rfl rfl rfl rfl ?_
  refine go_s (pc' := 8) rfl rfl rfl rfl ?_
  refine go_s (pc' := 9) (st' := [.int (-1), .int 0]) rfl rfl rfl rfl ?_
  refine go_icmpP (t' := 19) (pc' := 10) rfl rfl rfl (fun _ => ?_) (fun (c : ¬ (¬ (0 : Int32) = (-1))) => absurd (by decide) c)
  refine go_s (pc' := 20) rfl rfl rfl rfl ?_
  refine go_sget (pc' := 21) (v := .ref 66) hS rfl rfl rfl (by decide) rfl rfl ?_
  refine go_s (pc' := 22) (st' := [.int 1, .ref 66]) rfl rfl rfl rfl ?_
  refine go_s (pc' := 23) rfl rfl rfl rfl ?_
  refine go_s (pc' := 24) (st' := [.int 1, .ref 66]) rfl rfl rfl rfl ?_
  refine go_sald (pc' := 25) (q := 1) (v := .int (J 3 1)) hS rfl (tr_s hr (a := 66) rfl (by decide)) rfl rfl (by decide) rfl rfl ?_
  refine go_ifP (t' := 30) (pc' := 26) rfl rfl rfl (fun (c1 : (J 3 1) = 0) => ?_) (fun (c1 : ¬ (J 3 1) = 0) => ?_)
  · skip
    refine go_s (pc' := 31) rfl rfl rfl rfl ?_
    refine go_s (pc' := 32) (lo' := [some (.ref 62), some (.int (nI m)), some (.int 0), some (.int 0)]) rfl rfl rfl rfl ?_
    refine go_s (pc' := 33) rfl rfl rfl rfl ?_
    refine go_sget (pc' := 34) (v := .ref 66) hS rfl rfl rfl (by decide) rfl rfl ?_
    refine go_s (pc' := 35) rfl rfl rfl rfl ?_
    refine go_sald (pc' := 36) (q := 0) (v := .int (J 3 0)) hS rfl (tr_s hr (a := 66) rfl (by decide)) rfl rfl (by decide) rfl rfl ?_
    refine go_ifP (t' := 38) (pc' := 37) rfl rfl rfl (fun (c2 : ¬ (J 3 0) = 0) => ?_) (fun (c2' : ¬ ¬ (J 3 0) = 0) => ?_)
    · skip
      refine go_s (pc' := 39) rfl rfl rfl rfl ?_
      refine go_sget (pc' := 40) (v := .ref am) hS rfl rfl rfl (by decide) rfl rfl ?_
      refine go_s (pc' := 41) rfl rfl rfl rfl ?_
      refine go_s (pc' := 42) (st' := [.int 2, .int (nI m), .ref am]) rfl rfl rfl rfl ?_
      refine go_nadd (pc' := 43) (a := m) (b := 2) rfl rfl rfl rfl rfl ?_
      refine go_s (pc' := 44) rfl rfl rfl rfl ?_
      refine go_siast (pc' := 45) (q := (m + 2)) hS rfl (tr_ms hr (by omega)) tbr_inj (Nat.le_of_ble_eq_true rfl) rfl (by omega) (rk_0 hr).1 hWm rfl (fun h3 hS4 hE5 => ?_)
      refine go_s (pc' := 46) rfl rfl rfl rfl ?_
      refine go_sget (pc' := 47) (v := .ref am) hS4 rfl rfl rfl (by decide) rfl rfl ?_
      refine go_s (pc' := 48) rfl rfl rfl rfl ?_
      refine go_s (pc' := 49) (st' := [.int 3, .int (nI m), .ref am]) rfl rfl rfl rfl ?_
      refine go_nadd (pc' := 50) (a := m) (b := 3) rfl rfl rfl rfl rfl ?_
      refine go_s (pc' := 51) rfl rfl rfl rfl ?_
      refine go_siast (pc' := 52) (q := (m + 3)) hS4 rfl (tr_ms hr (by omega)) tbr_inj (Nat.le_of_ble_eq_true rfl) rfl (by omega) (rk_0 hr).1 hWm rfl (fun h6 hS7 hE8 => ?_)
      have hE9 := sm_e_trans hE5 hE8
      refine go_ret rfl rfl ?_
      have hx : nxb J 0 = 0 := by simp [nxb, fbu, c1, c2]
      rw [if_neg (by rw [hx]; decide), hx]
      exact ⟨rfl, hS7, hE9⟩
    · skip
      have c2 : (J 3 0) = 0 := Decidable.not_not.mp c2'
      refine go_ret rfl rfl ?_
      have hx : nxb J 0 = -1 := by simp [nxb, fbu, c1, c2]
      rw [if_pos hx]
      exact ⟨rfl, hS, sm_e_refl _ _⟩
  · skip
    refine go_s (pc' := 27) (st' := [.int 1]) rfl rfl rfl rfl ?_
    refine go_s (pc' := 28) rfl rfl rfl rfl ?_
    refine go_s (pc' := 29) (st' := [.int 1]) rfl rfl rfl rfl ?_
    refine go_s (pc' := 31) rfl rfl rfl rfl ?_
    refine go_s (pc' := 32) (lo' := [some (.ref 62), some (.int (nI m)), some (.int 0), some (.int 1)]) rfl rfl rfl rfl ?_
    refine go_s (pc' := 33) rfl rfl rfl rfl ?_
    refine go_sget (pc' := 34) (v := .ref 66) hS rfl rfl rfl (by decide) rfl rfl ?_
    refine go_s (pc' := 35) rfl rfl rfl rfl ?_
    refine go_sald (pc' := 36) (q := 1) (v := .int (J 3 1)) hS rfl (tr_s hr (a := 66) rfl (by decide)) rfl rfl (by decide) rfl rfl ?_
    refine go_ifP (t' := 38) (pc' := 37) rfl rfl rfl (fun _ => ?_) (fun (c : ¬ (¬ (J 3 1) = 0)) => absurd c1 c)
    refine go_s (pc' := 39) rfl rfl rfl rfl ?_
    refine go_sget (pc' := 40) (v := .ref am) hS rfl rfl rfl (by decide) rfl rfl ?_
    refine go_s (pc' := 41) rfl rfl rfl rfl ?_
    refine go_s (pc' := 42) (st' := [.int 2, .int (nI m), .ref am]) rfl rfl rfl rfl ?_
    refine go_nadd (pc' := 43) (a := m) (b := 2) rfl rfl rfl rfl rfl ?_
    refine go_s (pc' := 44) rfl rfl rfl rfl ?_
    refine go_siast (pc' := 45) (q := (m + 2)) hS rfl (tr_ms hr (by omega)) tbr_inj (Nat.le_of_ble_eq_true rfl) rfl (by omega) (rk_0 hr).1 hWm rfl (fun h10 hS11 hE12 => ?_)
    refine go_s (pc' := 46) rfl rfl rfl rfl ?_
    refine go_sget (pc' := 47) (v := .ref am) hS11 rfl rfl rfl (by decide) rfl rfl ?_
    refine go_s (pc' := 48) rfl rfl rfl rfl ?_
    refine go_s (pc' := 49) (st' := [.int 3, .int (nI m), .ref am]) rfl rfl rfl rfl ?_
    refine go_nadd (pc' := 50) (a := m) (b := 3) rfl rfl rfl rfl rfl ?_
    refine go_s (pc' := 51) rfl rfl rfl rfl ?_
    refine go_siast (pc' := 52) (q := (m + 3)) hS11 rfl (tr_ms hr (by omega)) tbr_inj (Nat.le_of_ble_eq_true rfl) rfl (by omega) (rk_0 hr).1 hWm rfl (fun h13 hS14 hE15 => ?_)
    have hE16 := sm_e_trans hE12 hE15
    refine go_ret rfl rfl ?_
    have hx : nxb J 0 = 1 := by simp [nxb, fbu, c1]
    rw [if_neg (by rw [hx]; decide), hx]
    exact ⟨rfl, hS14, hE16⟩
theorem rt_boards_1 {w : Nat → Bool} {d : Nat} {h : am_Hp} {J : sm_I} {Y : sm_X} {am lm as_ ls : Nat} (hr : rk am as_) (hS : sm (tbr am lm as_ ls) h J Y) (hW : ∀ a, 62 ≤ a → a ≤ 88 → w a = true) (hWm : w am = true) {m : Nat} (hm : m + 3 < lm) (hl : lm < 2 ^ 31) (e : J 50 (m + 3) = 1) (hd : 1 ≤ d) : am_Ev (am_prog w) d 169 [.ref 62, .int (nI m)] h (fun r h' => r = none ∧ sm (tbr am lm as_ ls) h' (if nxb J 1 = -1 then J else uI (uI J 50 (m + 2) (nxb J 1)) 50 (m + 3) (nxb J 1)) Y ∧ sm_e (tbr am lm as_ ls) h h') := by
  obtain ⟨d, rfl⟩ : ∃ e, d = e + 1 := ⟨d - 1, by omega⟩
  refine ev_go rfl (Nat.le_of_ble_eq_true rfl) rfl ?_
  refine go_s (pc' := 1) rfl rfl rfl rfl ?_
  refine go_sget (pc' := 2) (v := .ref am) hS rfl rfl rfl (by decide) rfl rfl ?_
  refine go_s (pc' := 3) rfl rfl rfl rfl ?_
  refine go_s (pc' := 4) (st' := [.int 3, .int (nI m), .ref am]) rfl rfl rfl rfl ?_
  refine go_nadd (pc' := 5) (a := m) (b := 3) rfl rfl rfl rfl rfl ?_
  refine go_sald (pc' := 6) (q := (m + 3)) (v := .int 1) hS rfl (tr_ms hr (by omega)) rfl rfl (by omega) (congrArg Value.int e) rfl ?_
  refine go_s (pc' := 7) (lo' := [some (.ref 62), some (.int (nI m)), some (.int 1), none]) rfl rfl rfl rfl ?_
  refine go_s (pc' := 8) rfl rfl rfl rfl ?_
  refine go_s (pc' := 9) (st' := [.int (-1), .int 1]) rfl rfl rfl rfl ?_
  refine go_icmpP (t' := 19) (pc' := 10) rfl rfl rfl (fun _ => ?_) (fun (c : ¬ (¬ (1 : Int32) = (-1))) => absurd (by decide) c)
  refine go_s (pc' := 20) rfl rfl rfl rfl ?_
  refine go_sget (pc' := 21) (v := .ref 66) hS rfl rfl rfl (by decide) rfl rfl ?_
  refine go_s (pc' := 22) (st' := [.int 1, .ref 66]) rfl rfl rfl rfl ?_
  refine go_s (pc' := 23) rfl rfl rfl rfl ?_
  refine go_s (pc' := 24) (st' := [.int 0, .ref 66]) rfl rfl rfl rfl ?_
  refine go_sald (pc' := 25) (q := 0) (v := .int (J 3 0)) hS rfl (tr_s hr (a := 66) rfl (by decide)) rfl rfl (by decide) rfl rfl ?_
  refine go_ifP (t' := 30) (pc' := 26) rfl rfl rfl (fun (c1 : (J 3 0) = 0) => ?_) (fun (c1 : ¬ (J 3 0) = 0) => ?_)
  · skip
    refine go_s (pc' := 31) rfl rfl rfl rfl ?_
    refine go_s (pc' := 32) (lo' := [some (.ref 62), some (.int (nI m)), some (.int 1), some (.int 1)]) rfl rfl rfl rfl ?_
    refine go_s (pc' := 33) rfl rfl rfl rfl ?_
    refine go_sget (pc' := 34) (v := .ref 66) hS rfl rfl rfl (by decide) rfl rfl ?_
    refine go_s (pc' := 35) rfl rfl rfl rfl ?_
    refine go_sald (pc' := 36) (q := 1) (v := .int (J 3 1)) hS rfl (tr_s hr (a := 66) rfl (by decide)) rfl rfl (by decide) rfl rfl ?_
    refine go_ifP (t' := 38) (pc' := 37) rfl rfl rfl (fun (c2 : ¬ (J 3 1) = 0) => ?_) (fun (c2' : ¬ ¬ (J 3 1) = 0) => ?_)
    · skip
      refine go_s (pc' := 39) rfl rfl rfl rfl ?_
      refine go_sget (pc' := 40) (v := .ref am) hS rfl rfl rfl (by decide) rfl rfl ?_
      refine go_s (pc' := 41) rfl rfl rfl rfl ?_
      refine go_s (pc' := 42) (st' := [.int 2, .int (nI m), .ref am]) rfl rfl rfl rfl ?_
      refine go_nadd (pc' := 43) (a := m) (b := 2) rfl rfl rfl rfl rfl ?_
      refine go_s (pc' := 44) rfl rfl rfl rfl ?_
      refine go_siast (pc' := 45) (q := (m + 2)) hS rfl (tr_ms hr (by omega)) tbr_inj (Nat.le_of_ble_eq_true rfl) rfl (by omega) (rk_0 hr).1 hWm rfl (fun h3 hS4 hE5 => ?_)
      refine go_s (pc' := 46) rfl rfl rfl rfl ?_
      refine go_sget (pc' := 47) (v := .ref am) hS4 rfl rfl rfl (by decide) rfl rfl ?_
      refine go_s (pc' := 48) rfl rfl rfl rfl ?_
      refine go_s (pc' := 49) (st' := [.int 3, .int (nI m), .ref am]) rfl rfl rfl rfl ?_
      refine go_nadd (pc' := 50) (a := m) (b := 3) rfl rfl rfl rfl rfl ?_
      refine go_s (pc' := 51) rfl rfl rfl rfl ?_
      refine go_siast (pc' := 52) (q := (m + 3)) hS4 rfl (tr_ms hr (by omega)) tbr_inj (Nat.le_of_ble_eq_true rfl) rfl (by omega) (rk_0 hr).1 hWm rfl (fun h6 hS7 hE8 => ?_)
      have hE9 := sm_e_trans hE5 hE8
      refine go_ret rfl rfl ?_
      have hx : nxb J 1 = 1 := by simp [nxb, fbu, c1, c2]
      rw [if_neg (by rw [hx]; decide), hx]
      exact ⟨rfl, hS7, hE9⟩
    · skip
      have c2 : (J 3 1) = 0 := Decidable.not_not.mp c2'
      refine go_ret rfl rfl ?_
      have hx : nxb J 1 = -1 := by simp [nxb, fbu, c1, c2]
      rw [if_pos hx]
      exact ⟨rfl, hS, sm_e_refl _ _⟩
  · skip
    refine go_s (pc' := 27) (st' := [.int 1]) rfl rfl rfl rfl ?_
    refine go_s (pc' := 28) rfl rfl rfl rfl ?_
    refine go_s (pc' := 29) (st' := [.int 0]) rfl rfl rfl rfl ?_
    refine go_s (pc' := 31) rfl rfl rfl rfl ?_
    refine go_s (pc' := 32) (lo' := [some (.ref 62), some (.int (nI m)), some (.int 1), some (.int 0)]) rfl rfl rfl rfl ?_
    refine go_s (pc' := 33) rfl rfl rfl rfl ?_
    refine go_sget (pc' := 34) (v := .ref 66) hS rfl rfl rfl (by decide) rfl rfl ?_
    refine go_s (pc' := 35) rfl rfl rfl rfl ?_
    refine go_sald (pc' := 36) (q := 0) (v := .int (J 3 0)) hS rfl (tr_s hr (a := 66) rfl (by decide)) rfl rfl (by decide) rfl rfl ?_
    refine go_ifP (t' := 38) (pc' := 37) rfl rfl rfl (fun _ => ?_) (fun (c : ¬ (¬ (J 3 0) = 0)) => absurd c1 c)
    refine go_s (pc' := 39) rfl rfl rfl rfl ?_
    refine go_sget (pc' := 40) (v := .ref am) hS rfl rfl rfl (by decide) rfl rfl ?_
    refine go_s (pc' := 41) rfl rfl rfl rfl ?_
    refine go_s (pc' := 42) (st' := [.int 2, .int (nI m), .ref am]) rfl rfl rfl rfl ?_
    refine go_nadd (pc' := 43) (a := m) (b := 2) rfl rfl rfl rfl rfl ?_
    refine go_s (pc' := 44) rfl rfl rfl rfl ?_
    refine go_siast (pc' := 45) (q := (m + 2)) hS rfl (tr_ms hr (by omega)) tbr_inj (Nat.le_of_ble_eq_true rfl) rfl (by omega) (rk_0 hr).1 hWm rfl (fun h10 hS11 hE12 => ?_)
    refine go_s (pc' := 46) rfl rfl rfl rfl ?_
    refine go_sget (pc' := 47) (v := .ref am) hS11 rfl rfl rfl (by decide) rfl rfl ?_
    refine go_s (pc' := 48) rfl rfl rfl rfl ?_
    refine go_s (pc' := 49) (st' := [.int 3, .int (nI m), .ref am]) rfl rfl rfl rfl ?_
    refine go_nadd (pc' := 50) (a := m) (b := 3) rfl rfl rfl rfl rfl ?_
    refine go_s (pc' := 51) rfl rfl rfl rfl ?_
    refine go_siast (pc' := 52) (q := (m + 3)) hS11 rfl (tr_ms hr (by omega)) tbr_inj (Nat.le_of_ble_eq_true rfl) rfl (by omega) (rk_0 hr).1 hWm rfl (fun h13 hS14 hE15 => ?_)
    have hE16 := sm_e_trans hE12 hE15
    refine go_ret rfl rfl ?_
    have hx : nxb J 1 = 0 := by simp [nxb, fbu, c1]
    rw [if_neg (by rw [hx]; decide), hx]
    exact ⟨rfl, hS14, hE16⟩
