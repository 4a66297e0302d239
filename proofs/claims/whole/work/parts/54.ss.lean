/-! the state's methods, over its cells -/
theorem nI_nm1 {a : Nat} (h : a < 2 ^ 31) : ¬ nI a = -1 := by
  intro e
  have := nI_pos h
  rw [e] at this
  exact this (by decide)
def trS (S : sm_I) : Nat := (if S 7 0 = 0 then 0 else 1) + (if S 7 1 = 0 then 0 else 1)
theorem cs_trans {w : Nat → Bool} {d : Nat} {h : am_Hp} {S : sm_I} {Y : sm_X} {ad : Nat → Nat} (hA : adk ad) (hS : sm (tbs ad) h S Y) (hd : 1 ≤ d) : am_Ev (am_prog w) d 55 [.ref (ad 0)] h (fun r h' => r = some (.int (nI (trS S))) ∧ h' = h) := by
  obtain ⟨d, rfl⟩ : ∃ e, d = e + 1 := ⟨d - 1, by omega⟩
  refine ev_go rfl (Nat.le_of_ble_eq_true rfl) rfl ?_
  refine go_s (pc' := 1) rfl rfl rfl rfl ?_
  refine go_sget (pc' := 2) (v := .ref (ad 7)) hS rfl rfl (tbs_s hA (i := 0) (by decide) rfl) (by decide) rfl rfl ?_
  refine go_s (pc' := 3) (st' := [.int 0, .ref (ad 7)]) rfl rfl rfl rfl ?_
  refine go_sald (pc' := 4) (q := 0) (v := .int (S 7 0)) hS rfl (tbs_s hA (i := 7) (by decide) (rg_el (by omega))) rfl rfl (by decide) rfl rfl ?_
  refine go_ifP (t' := 7) (pc' := 5) rfl rfl rfl (fun (c1 : (S 7 0) = 0) => ?_) (fun (c1 : ¬ (S 7 0) = 0) => ?_)
  · skip
    refine go_s (pc' := 8) (st' := [.int 0]) rfl rfl rfl rfl ?_
    refine go_s (pc' := 9) rfl rfl rfl rfl ?_
    refine go_sget (pc' := 10) (v := .ref (ad 7)) hS rfl rfl (tbs_s hA (i := 0) (by decide) rfl) (by decide) rfl rfl ?_
    refine go_s (pc' := 11) (st' := [.int 1, .ref (ad 7), .int 0]) rfl rfl rfl rfl ?_
    refine go_sald (pc' := 12) (q := 1) (v := .int (S 7 1)) hS rfl (tbs_s hA (i := 7) (by decide) (rg_el (by omega))) rfl rfl (by decide) rfl rfl ?_
    refine go_ifP (t' := 15) (pc' := 13) rfl rfl rfl (fun (c2 : (S 7 1) = 0) => ?_) (fun (c2 : ¬ (S 7 1) = 0) => ?_)
    · skip
      refine go_s (pc' := 16) (st' := [.int 0, .int 0]) rfl rfl rfl rfl ?_
      refine go_s (pc' := 17) (st' := [.int 0]) rfl rfl rfl rfl ?_
      refine go_ret rfl rfl ?_
      exact ⟨by simp [trS, c1, c2] <;> rfl, rfl⟩
    · skip
      refine go_s (pc' := 14) (st' := [.int 1, .int 0]) rfl rfl rfl rfl ?_
      refine go_s (pc' := 16) rfl rfl rfl rfl ?_
      refine go_s (pc' := 17) (st' := [.int 1]) rfl rfl rfl rfl ?_
      refine go_ret rfl rfl ?_
      exact ⟨by simp [trS, c1, c2] <;> rfl, rfl⟩
  · skip
    refine go_s (pc' := 6) (st' := [.int 1]) rfl rfl rfl rfl ?_
    refine go_s (pc' := 8) rfl rfl rfl rfl ?_
    refine go_s (pc' := 9) rfl rfl rfl rfl ?_
    refine go_sget (pc' := 10) (v := .ref (ad 7)) hS rfl rfl (tbs_s hA (i := 0) (by decide) rfl) (by decide) rfl rfl ?_
    refine go_s (pc' := 11) (st' := [.int 1, .ref (ad 7), .int 1]) rfl rfl rfl rfl ?_
    refine go_sald (pc' := 12) (q := 1) (v := .int (S 7 1)) hS rfl (tbs_s hA (i := 7) (by decide) (rg_el (by omega))) rfl rfl (by decide) rfl rfl ?_
    refine go_ifP (t' := 15) (pc' := 13) rfl rfl rfl (fun (c3 : (S 7 1) = 0) => ?_) (fun (c3 : ¬ (S 7 1) = 0) => ?_)
    · skip
      refine go_s (pc' := 16) (st' := [.int 0, .int 1]) rfl rfl rfl rfl ?_
      refine go_s (pc' := 17) (st' := [.int 1]) rfl rfl rfl rfl ?_
      refine go_ret rfl rfl ?_
      exact ⟨by simp [trS, c1, c3] <;> rfl, rfl⟩
    · skip
      refine go_s (pc' := 14) (st' := [.int 1, .int 1]) rfl rfl rfl rfl ?_
      refine go_s (pc' := 16) rfl rfl rfl rfl ?_
      refine go_s (pc' := 17) (st' := [.int 2]) rfl rfl rfl rfl ?_
      refine go_ret rfl rfl ?_
      exact ⟨by simp [trS, c1, c3] <;> rfl, rfl⟩
theorem cs_int {w : Nat → Bool} {d : Nat} {h : am_Hp} {S : sm_I} {Y : sm_X} {ad : Nat → Nat} (hA : adk ad) (hS : sm (tbs ad) h S Y) {q : Nat} (hq : q < 16) (hd : 2 ≤ d) : am_Ev (am_prog w) d 57 [.ref (ad 0), .int (nI q)] h (fun r h' => r = some (.int (S 5 q)) ∧ h' = h) := by
  obtain ⟨d, rfl⟩ : ∃ e, d = e + 1 := ⟨d - 1, by omega⟩
  refine ev_go rfl (Nat.le_of_ble_eq_true rfl) rfl ?_
  refine go_s (pc' := 1) rfl rfl rfl rfl ?_
  refine go_s (pc' := 2) (st' := [.int 16, .int (nI q)]) rfl rfl rfl rfl ?_
  refine go_callS (pc' := 3) rfl rfl rfl (Nat.le_of_ble_eq_true rfl) rfl rfl rfl (ct_within_t (n := 16) hq (by decide) (by omega)) (fun r h1 q2 => ?_)
  obtain ⟨rfl, rfl⟩ := q2
  refine go_ifP (t' := 9) (pc' := 4) rfl rfl rfl (fun (c : (1 : Int32) = 0) => absurd c (by decide)) (fun _ => ?_)
  refine go_s (pc' := 5) rfl rfl rfl rfl ?_
  refine go_sget (pc' := 6) (v := .ref (ad 5)) hS rfl rfl (tbs_s hA (i := 0) (by decide) rfl) (by decide) rfl rfl ?_
  refine go_s (pc' := 7) rfl rfl rfl rfl ?_
  refine go_sald (pc' := 8) (q := q) (v := .int (S 5 q)) hS rfl (tbs_s hA (i := 5) (by decide) (rg_el (by omega))) rfl rfl (by omega) rfl rfl ?_
  refine go_s (pc' := 10) rfl rfl rfl rfl ?_
  refine go_ret rfl rfl ?_
  exact ⟨rfl, rfl⟩
theorem cs_int_f {w : Nat → Bool} {d : Nat} {h : am_Hp} {S : sm_I} {Y : sm_X} {ad : Nat → Nat} (hA : adk ad) (hS : sm (tbs ad) h S Y) {a : Int32} (hn : a < 0 ∨ nI 16 ≤ a) (hd : 2 ≤ d) : am_Ev (am_prog w) d 57 [.ref (ad 0), .int a] h (fun r h' => r = some (.int 0) ∧ h' = h) := by
  obtain ⟨d, rfl⟩ : ∃ e, d = e + 1 := ⟨d - 1, by omega⟩
  refine ev_go rfl (Nat.le_of_ble_eq_true rfl) rfl ?_
  refine go_s (pc' := 1) rfl rfl rfl rfl ?_
  refine go_s (pc' := 2) (st' := [.int 16, .int a]) rfl rfl rfl rfl ?_
  refine go_callS (pc' := 3) rfl rfl rfl (Nat.le_of_ble_eq_true rfl) rfl rfl rfl (ct_within_f (a := a) (n := 16) hn (by omega)) (fun r h1 q2 => ?_)
  obtain ⟨rfl, rfl⟩ := q2
  refine go_ifP (t' := 9) (pc' := 4) rfl rfl rfl (fun _ => ?_) (fun (c : ¬ ((0 : Int32) = 0)) => absurd (by decide) c)
  refine go_s (pc' := 10) (st' := [.int 0]) rfl rfl rfl rfl ?_
  refine go_ret rfl rfl ?_
  exact ⟨rfl, rfl⟩
theorem cs_add {w : Nat → Bool} {d : Nat} {h : am_Hp} {S : sm_I} {Y : sm_X} {ad : Nat → Nat} (hA : adk ad) (hS : sm (tbs ad) h S Y) (hZ : ∀ i, i < 12 → ad i ≠ 0) (hW : ∀ i, i < 12 → w (ad i) = true) {nw : Nat} (hc : S 0 4 = nI nw) (hn : nw < 35) (b : Int32) (hd : 1 ≤ d) : am_Ev (am_prog w) d 59 [.ref (ad 9), .int b] h (fun r h' => r = some (.int (nI (nw * 5))) ∧ sm (tbs ad) h' (uI (uI S 9 nw b) 0 4 (nI (nw + 1))) Y ∧ sm_e (tbs ad) h h') := by
  obtain ⟨d, rfl⟩ : ∃ e, d = e + 1 := ⟨d - 1, by omega⟩
  refine ev_go rfl (Nat.le_of_ble_eq_true rfl) rfl ?_
  refine go_s (pc' := 1) rfl rfl rfl rfl ?_
  refine go_sget (pc' := 2) (v := .int (nI nw)) hS rfl rfl (tbs_s hA (i := 9) (by decide) rfl) (by decide) (congrArg Value.int hc) rfl ?_
  refine go_s (pc' := 3) (st' := [.int 35, .int (nI nw)]) rfl rfl rfl rfl ?_
  refine go_icmpP (t' := 6) (pc' := 4) rfl rfl rfl (fun _ => ?_) (fun (c : ¬ ((nI nw) < 35)) => absurd (nI_lt (b := 35) hn (by decide)) c)
  refine go_s (pc' := 7) rfl rfl rfl rfl ?_
  refine go_sget (pc' := 8) (v := .ref (ad 10)) hS rfl rfl (tbs_s hA (i := 9) (by decide) rfl) (by decide) rfl rfl ?_
  refine go_s (pc' := 9) rfl rfl rfl rfl ?_
  refine go_sget (pc' := 10) (v := .int (nI nw)) hS rfl rfl (tbs_s hA (i := 9) (by decide) rfl) (by decide) (congrArg Value.int hc) rfl ?_
  refine go_s (pc' := 11) rfl rfl rfl rfl ?_
  refine go_siast (pc' := 12) (q := nw) hS rfl (tbs_s hA (i := 10) (by decide) (rg_el (by omega))) tbs_inj (Nat.le_of_ble_eq_true rfl) rfl (by omega) (hZ 10 (by decide)) (hW 10 (by decide)) rfl (fun h1 hS2 hE3 => ?_)
  refine go_s (pc' := 13) rfl rfl rfl rfl ?_
  refine go_s (pc' := 14) rfl rfl rfl rfl ?_
  refine go_sget (pc' := 15) (v := .int (nI nw)) hS2 rfl rfl (tbs_s hA (i := 9) (by decide) rfl) (by decide) (congrArg Value.int hc) rfl ?_
  refine go_s (pc' := 16) (st' := [.int 1, .int (nI nw), .ref (ad 9)]) rfl rfl rfl rfl ?_
  refine go_nadd (pc' := 17) (a := nw) (b := 1) rfl rfl rfl rfl rfl ?_
  refine go_sput (pc' := 18) hS2 rfl rfl (tbs_s hA (i := 9) (by decide) rfl) (by decide) tbs_inj (Nat.le_of_ble_eq_true rfl) rfl (hW 9 (by decide)) rfl (fun h4 hS5 hE6 => ?_)
  have hE7 := sm_e_trans hE3 hE6
  refine go_s (pc' := 19) rfl rfl rfl rfl ?_
  refine go_sget (pc' := 20) (v := .int (nI (nw + 1))) hS5 rfl rfl (tbs_s hA (i := 9) (by decide) rfl) (by decide) rfl rfl ?_
  refine go_s (pc' := 21) (st' := [.int 1, .int (nI (nw + 1))]) rfl rfl rfl rfl ?_
  refine go_nsub (pc' := 22) (a := (nw + 1)) (b := 1) rfl rfl rfl (by omega) rfl rfl ?_
  refine go_s (pc' := 23) (st' := [.int 5, .int (nI ((nw + 1) - 1))]) rfl rfl rfl rfl ?_
  refine go_nmul (pc' := 24) (a := ((nw + 1) - 1)) (b := 5) rfl rfl rfl rfl rfl ?_
  refine go_ret rfl rfl ?_
  exact ⟨by rw [Nat.add_sub_cancel], hS5, hE7⟩
theorem cs_setRec {w : Nat → Bool} {d : Nat} {h : am_Hp} {S : sm_I} {Y : sm_X} {ad : Nat → Nat} (hA : adk ad) (hS : sm (tbs ad) h S Y) (hZ : ∀ i, i < 12 → ad i ≠ 0) (hW : ∀ i, i < 12 → w (ad i) = true) {nw q : Nat} (hc : S 0 4 = nI nw) (hn : nw < 35) (hq : q < 16) (v : Int32) (hd : 2 ≤ d) : am_Ev (am_prog w) d 60 [.ref (ad 0), .int (nI q), .int v] h (fun r h' => r = none ∧ sm (tbs ad) h' (uI (uI (uI (uI S 5 q v) 9 nw (nI q)) 0 4 (nI (nw + 1))) 10 (nw * 5) v) Y ∧ sm_e (tbs ad) h h') := by
  obtain ⟨d, rfl⟩ : ∃ e, d = e + 1 := ⟨d - 1, by omega⟩
  refine ev_go rfl (Nat.le_of_ble_eq_true rfl) rfl ?_
  refine go_s (pc' := 1) rfl rfl rfl rfl ?_
  refine go_s (pc' := 2) (st' := [.int 16, .int (nI q)]) rfl rfl rfl rfl ?_
  refine go_callS (pc' := 3) rfl rfl rfl (Nat.le_of_ble_eq_true rfl) rfl rfl rfl (ct_within_t (n := 16) hq (by decide) (by omega)) (fun r h1 q2 => ?_)
  obtain ⟨rfl, rfl⟩ := q2
  refine go_ifP (t' := 5) (pc' := 4) rfl rfl rfl (fun _ => ?_) (fun (c : ¬ (¬ (1 : Int32) = 0)) => absurd (by decide) c)
  refine go_s (pc' := 6) rfl rfl rfl rfl ?_
  refine go_sget (pc' := 7) (v := .ref (ad 5)) hS rfl rfl (tbs_s hA (i := 0) (by decide) rfl) (by decide) rfl rfl ?_
  refine go_s (pc' := 8) rfl rfl rfl rfl ?_
  refine go_s (pc' := 9) rfl rfl rfl rfl ?_
  refine go_siast (pc' := 10) (q := q) hS rfl (tbs_s hA (i := 5) (by decide) (rg_el (by omega))) tbs_inj (Nat.le_of_ble_eq_true rfl) rfl (by omega) (hZ 5 (by decide)) (hW 5 (by decide)) rfl (fun h3 hS4 hE5 => ?_)
  refine go_s (pc' := 11) rfl rfl rfl rfl ?_
  refine go_sget (pc' := 12) (v := .ref (ad 9)) hS4 rfl rfl (tbs_s hA (i := 0) (by decide) rfl) (by decide) rfl rfl ?_
  refine go_s (pc' := 13) rfl rfl rfl rfl ?_
  refine go_callV (pc' := 14) rfl rfl rfl (Nat.le_of_ble_eq_true rfl) rfl (sm_o hS4 (tbs_at hA (i := 9) (by decide))) rfl rfl rfl (cs_add hA hS4 hZ hW hc hn (nI q) (by omega)) (fun r h6 q7 => ?_)
  obtain ⟨rfl, hS8, hE9⟩ := q7
  have hE10 := sm_e_trans hE5 hE9
  refine go_s (pc' := 15) (lo' := [some (.ref (ad 0)), some (.int (nI q)), some (.int v), some (.int (nI (nw * 5)))]) rfl rfl rfl rfl ?_
  refine go_s (pc' := 16) rfl rfl rfl rfl ?_
  refine go_s (pc' := 17) (st' := [.int (-1), .int (nI (nw * 5))]) rfl rfl rfl rfl ?_
  refine go_icmpP (t' := 24) (pc' := 18) rfl rfl rfl (fun (c : (nI (nw * 5)) = (-1)) => absurd c (nI_nm1 (by omega))) (fun _ => ?_)
  refine go_s (pc' := 19) rfl rfl rfl rfl ?_
  refine go_sget (pc' := 20) (v := .ref (ad 9)) hS8 rfl rfl (tbs_s hA (i := 0) (by decide) rfl) (by decide) rfl rfl ?_
  refine go_sget (pc' := 21) (v := .ref (ad 11)) hS8 rfl rfl (tbs_s hA (i := 9) (by decide) rfl) (by decide) rfl rfl ?_
  refine go_s (pc' := 22) rfl rfl rfl rfl ?_
  refine go_s (pc' := 23) rfl rfl rfl rfl ?_
  refine go_siast (pc' := 24) (q := (nw * 5)) hS8 rfl (tbs_s hA (i := 11) (by decide) (rg_el (by omega))) tbs_inj (Nat.le_of_ble_eq_true rfl) rfl (by omega) (hZ 11 (by decide)) (hW 11 (by decide)) rfl (fun h11 hS12 hE13 => ?_)
  have hE14 := sm_e_trans hE10 hE13
  refine go_ret rfl rfl ?_
  exact ⟨rfl, hS12, hE14⟩
/-- what addEntry makes of a state -/
def cE (S : sm_I) (ne nw : Nat) (kd t rc bf : Int32) : sm_I := (uI (uC (uI (uI (uI (uI (uI (uI (uI S 8 (ne * 5) (S 0 1)) 8 ((ne * 5) + 1) kd) 8 ((ne * 5) + 2) t) 8 ((ne * 5) + 3) rc) 8 ((ne * 5) + 4) bf) 9 nw (nI (17 + ne))) 0 4 (nI (nw + 1))) 10 (nw * 5) 5 (fun j => (uI (uI (uI (uI (uI (uI (uI S 8 (ne * 5) (S 0 1)) 8 ((ne * 5) + 1) kd) 8 ((ne * 5) + 2) t) 8 ((ne * 5) + 3) rc) 8 ((ne * 5) + 4) bf) 9 nw (nI (17 + ne))) 0 4 (nI (nw + 1))) 8 (ne * 5 + j))) 0 2 (nI (ne + 1)))
theorem cs_addE {w : Nat → Bool} {d : Nat} {h : am_Hp} {S : sm_I} {Y : sm_X} {ad : Nat → Nat} (hA : adk ad) (hS : sm (tbs ad) h S Y) (hZ : ∀ i, i < 12 → ad i ≠ 0) (hW : ∀ i, i < 12 → w (ad i) = true) {ne nw : Nat} (he : S 0 2 = nI ne) (hc : S 0 4 = nI nw) (hne : ne < 32) (hn : nw < 35) (kd t rc bf : Int32) (hd : 2 ≤ d) : am_Ev (am_prog w) d 58 [.ref (ad 0), .int kd, .int t, .int rc, .int bf] h (fun r h' => r = none ∧ sm (tbs ad) h' (cE S ne nw kd t rc bf) Y ∧ sm_e (tbs ad) h h') := by
  obtain ⟨d, rfl⟩ : ∃ e, d = e + 1 := ⟨d - 1, by omega⟩
  refine ev_go rfl (Nat.le_of_ble_eq_true rfl) rfl ?_
  refine go_s (pc' := 1) rfl rfl rfl rfl ?_
  refine go_sget (pc' := 2) (v := .int (nI ne)) hS rfl rfl (tbs_s hA (i := 0) (by decide) rfl) (by decide) (congrArg Value.int he) rfl ?_
  refine go_s (pc' := 3) (st' := [.int 32, .int (nI ne)]) rfl rfl rfl rfl ?_
  refine go_callS (pc' := 4) rfl rfl rfl (Nat.le_of_ble_eq_true rfl) rfl rfl rfl (ct_within_t (n := 32) hne (by decide) (by omega)) (fun r h1 q2 => ?_)
  obtain ⟨rfl, rfl⟩ := q2
  refine go_ifP (t' := 6) (pc' := 5) rfl rfl rfl (fun _ => ?_) (fun (c : ¬ (¬ (1 : Int32) = 0)) => absurd (by decide) c)
  refine go_s (pc' := 7) rfl rfl rfl rfl ?_
  refine go_sget (pc' := 8) (v := .int (nI ne)) hS rfl rfl (tbs_s hA (i := 0) (by decide) rfl) (by decide) (congrArg Value.int he) rfl ?_
  refine go_s (pc' := 9) (st' := [.int 5, .int (nI ne)]) rfl rfl rfl rfl ?_
  refine go_nmul (pc' := 10) (a := ne) (b := 5) rfl rfl rfl rfl rfl ?_
  refine go_s (pc' := 11) (lo' := [some (.ref (ad 0)), some (.int kd), some (.int t), some (.int rc), some (.int bf), some (.int (nI (ne * 5))), none]) rfl rfl rfl rfl ?_
  refine go_s (pc' := 12) rfl rfl rfl rfl ?_
  refine go_sget (pc' := 13) (v := .ref (ad 8)) hS rfl rfl (tbs_s hA (i := 0) (by decide) rfl) (by decide) rfl rfl ?_
  refine go_s (pc' := 14) rfl rfl rfl rfl ?_
  refine go_s (pc' := 15) rfl rfl rfl rfl ?_
  refine go_sget (pc' := 16) (v := .int (S 0 1)) hS rfl rfl (tbs_s hA (i := 0) (by decide) rfl) (by decide) rfl rfl ?_
  refine go_siast (pc' := 17) (q := (ne * 5)) hS rfl (tbs_s hA (i := 8) (by decide) (rg_el (by omega))) tbs_inj (Nat.le_of_ble_eq_true rfl) rfl (by omega) (hZ 8 (by decide)) (hW 8 (by decide)) rfl (fun h3 hS4 hE5 => ?_)
  refine go_s (pc' := 18) rfl rfl rfl rfl ?_
  refine go_sget (pc' := 19) (v := .ref (ad 8)) hS4 rfl rfl (tbs_s hA (i := 0) (by decide) rfl) (by decide) rfl rfl ?_
  refine go_s (pc' := 20) rfl rfl rfl rfl ?_
  refine go_s (pc' := 21) (st' := [.int 1, .int (nI (ne * 5)), .ref (ad 8)]) rfl rfl rfl rfl ?_
  refine go_nadd (pc' := 22) (a := (ne * 5)) (b := 1) rfl rfl rfl rfl rfl ?_
  refine go_s (pc' := 23) rfl rfl rfl rfl ?_
  refine go_siast (pc' := 24) (q := ((ne * 5) + 1)) hS4 rfl (tbs_s hA (i := 8) (by decide) (rg_el (by omega))) tbs_inj (Nat.le_of_ble_eq_true rfl) rfl (by omega) (hZ 8 (by decide)) (hW 8 (by decide)) rfl (fun h6 hS7 hE8 => ?_)
  have hE9 := sm_e_trans hE5 hE8
  refine go_s (pc' := 25) rfl rfl rfl rfl ?_
  refine go_sget (pc' := 26) (v := .ref (ad 8)) hS7 rfl rfl (tbs_s hA (i := 0) (by decide) rfl) (by decide) rfl rfl ?_
  refine go_s (pc' := 27) rfl rfl rfl rfl ?_
  refine go_s (pc' := 28) (st' := [.int 2, .int (nI (ne * 5)), .ref (ad 8)]) rfl rfl rfl rfl ?_
  refine go_nadd (pc' := 29) (a := (ne * 5)) (b := 2) rfl rfl rfl rfl rfl ?_
  refine go_s (pc' := 30) rfl rfl rfl rfl ?_
  refine go_siast (pc' := 31) (q := ((ne * 5) + 2)) hS7 rfl (tbs_s hA (i := 8) (by decide) (rg_el (by omega))) tbs_inj (Nat.le_of_ble_eq_true rfl) rfl (by omega) (hZ 8 (by decide)) (hW 8 (by decide)) rfl (fun h10 hS11 hE12 => ?_)
  have hE13 := sm_e_trans hE9 hE12
  refine go_s (pc' := 32) rfl rfl rfl rfl ?_
  refine go_sget (pc' := 33) (v := .ref (ad 8)) hS11 rfl rfl (tbs_s hA (i := 0) (by decide) rfl) (by decide) rfl rfl ?_
  refine go_s (pc' := 34) rfl rfl rfl rfl ?_
  refine go_s (pc' := 35) (st' := [.int 3, .int (nI (ne * 5)), .ref (ad 8)]) rfl rfl rfl rfl ?_
  refine go_nadd (pc' := 36) (a := (ne * 5)) (b := 3) rfl rfl rfl rfl rfl ?_
  refine go_s (pc' := 37) rfl rfl rfl rfl ?_
  refine go_siast (pc' := 38) (q := ((ne * 5) + 3)) hS11 rfl (tbs_s hA (i := 8) (by decide) (rg_el (by omega))) tbs_inj (Nat.le_of_ble_eq_true rfl) rfl (by omega) (hZ 8 (by decide)) (hW 8 (by decide)) rfl (fun h14 hS15 hE16 => ?_)
  have hE17 := sm_e_trans hE13 hE16
  refine go_s (pc' := 39) rfl rfl rfl rfl ?_
  refine go_sget (pc' := 40) (v := .ref (ad 8)) hS15 rfl rfl (tbs_s hA (i := 0) (by decide) rfl) (by decide) rfl rfl ?_
  refine go_s (pc' := 41) rfl rfl rfl rfl ?_
  refine go_s (pc' := 42) (st' := [.int 4, .int (nI (ne * 5)), .ref (ad 8)]) rfl rfl rfl rfl ?_
  refine go_nadd (pc' := 43) (a := (ne * 5)) (b := 4) rfl rfl rfl rfl rfl ?_
  refine go_s (pc' := 44) rfl rfl rfl rfl ?_
  refine go_siast (pc' := 45) (q := ((ne * 5) + 4)) hS15 rfl (tbs_s hA (i := 8) (by decide) (rg_el (by omega))) tbs_inj (Nat.le_of_ble_eq_true rfl) rfl (by omega) (hZ 8 (by decide)) (hW 8 (by decide)) rfl (fun h18 hS19 hE20 => ?_)
  have hE21 := sm_e_trans hE17 hE20
  refine go_s (pc' := 46) rfl rfl rfl rfl ?_
  refine go_sget (pc' := 47) (v := .ref (ad 9)) hS19 rfl rfl (tbs_s hA (i := 0) (by decide) rfl) (by decide) rfl rfl ?_
  refine go_s (pc' := 48) (st' := [.int 17, .ref (ad 9)]) rfl rfl rfl rfl ?_
  refine go_s (pc' := 49) rfl rfl rfl rfl ?_
  refine go_sget (pc' := 50) (v := .int (nI ne)) hS19 rfl rfl (tbs_s hA (i := 0) (by decide) rfl) (by decide) (congrArg Value.int he) rfl ?_
  refine go_nadd (pc' := 51) (a := 17) (b := ne) rfl rfl rfl rfl rfl ?_
  refine go_callV (pc' := 52) rfl rfl rfl (Nat.le_of_ble_eq_true rfl) rfl (sm_o hS19 (tbs_at hA (i := 9) (by decide))) rfl rfl rfl (cs_add hA hS19 hZ hW hc hn (nI (17 + ne)) (by omega)) (fun r h22 q23 => ?_)
  obtain ⟨rfl, hS24, hE25⟩ := q23
  have hE26 := sm_e_trans hE21 hE25
  refine go_s (pc' := 53) (lo' := [some (.ref (ad 0)), some (.int kd), some (.int t), some (.int rc), some (.int bf), some (.int (nI (ne * 5))), some (.int (nI (nw * 5)))]) rfl rfl rfl rfl ?_
  refine go_s (pc' := 54) rfl rfl rfl rfl ?_
  refine go_s (pc' := 55) (st' := [.int (-1), .int (nI (nw * 5))]) rfl rfl rfl rfl ?_
  refine go_icmpP (t' := 65) (pc' := 56) rfl rfl rfl (fun (c : (nI (nw * 5)) = (-1)) => absurd c (nI_nm1 (by omega))) (fun _ => ?_)
  refine go_s (pc' := 57) rfl rfl rfl rfl ?_
  refine go_sget (pc' := 58) (v := .ref (ad 8)) hS24 rfl rfl (tbs_s hA (i := 0) (by decide) rfl) (by decide) rfl rfl ?_
  refine go_s (pc' := 59) rfl rfl rfl rfl ?_
  refine go_s (pc' := 60) rfl rfl rfl rfl ?_
  refine go_sget (pc' := 61) (v := .ref (ad 9)) hS24 rfl rfl (tbs_s hA (i := 0) (by decide) rfl) (by decide) rfl rfl ?_
  refine go_sget (pc' := 62) (v := .ref (ad 11)) hS24 rfl rfl (tbs_s hA (i := 9) (by decide) rfl) (by decide) rfl rfl ?_
  refine go_s (pc' := 63) rfl rfl rfl rfl ?_
  refine go_s (pc' := 64) (st' := [.int 5, .int (nI (nw * 5)), .ref (ad 11), .int (nI (ne * 5)), .ref (ad 8)]) rfl rfl rfl rfl ?_
  refine go_sacp (pc' := 65) (n := 5) (dp := (nw * 5)) (sp := (ne * 5)) (c := 10) (b := (nw * 5)) (f := (fun j => (uI (uI (uI (uI (uI (uI (uI S 8 (ne * 5) (S 0 1)) 8 ((ne * 5) + 1) kd) 8 ((ne * 5) + 2) t) 8 ((ne * 5) + 3) rc) 8 ((ne * 5) + 4) bf) 9 nw (nI (17 + ne))) 0 4 (nI (nw + 1))) 8 (ne * 5 + j))) hS24 rfl (hS24 _ _ _ (tbs_at hA (i := 8) (by decide))) (tbs_at hA (i := 11) (by decide)) tbs_inj (by decide) rfl rfl rfl (by simp [tbsE]; omega) (by simp [tbsE]; omega) (by simp [tbsE]) (by simp [tbsE]) (fun j hj => by simp only [tbsE, List.getElem?_map]; rw [List.getElem?_range (by omega)]; rfl) (fun j hj => rg_el (by omega)) (hZ 11 (by decide)) (hZ 8 (by decide)) rfl (hW 11 (by decide)) rfl (fun h27 hS28 hE29 => ?_)
  have hE30 := sm_e_trans hE26 hE29
  refine go_s (pc' := 66) rfl rfl rfl rfl ?_
  refine go_s (pc' := 67) rfl rfl rfl rfl ?_
  refine go_sget (pc' := 68) (v := .int (nI ne)) hS28 rfl rfl (tbs_s hA (i := 0) (by decide) rfl) (by decide) (congrArg Value.int he) rfl ?_
  refine go_s (pc' := 69) (st' := [.int 1, .int (nI ne), .ref (ad 0)]) rfl rfl rfl rfl ?_
  refine go_nadd (pc' := 70) (a := ne) (b := 1) rfl rfl rfl rfl rfl ?_
  refine go_sput (pc' := 71) hS28 rfl rfl (tbs_s hA (i := 0) (by decide) rfl) (by decide) tbs_inj (Nat.le_of_ble_eq_true rfl) rfl (hW 0 (by decide)) rfl (fun h31 hS32 hE33 => ?_)
  have hE34 := sm_e_trans hE30 hE33
  refine go_ret rfl rfl ?_
  exact ⟨rfl, hS32, hE34⟩
def cG (S : sm_I) (nw : Nat) : sm_I := (uI (uI (uI (uI (uI (uI S 0 1 ((S 0 1) + 1)) 0 2 0) 9 nw 16) 0 4 (nI (nw + 1))) 10 (nw * 5) ((S 0 1) + 1)) 10 ((nw * 5) + 1) (S 0 0))
theorem cs_gen {w : Nat → Bool} {d : Nat} {h : am_Hp} {S : sm_I} {Y : sm_X} {ad : Nat → Nat} (hA : adk ad) (hS : sm (tbs ad) h S Y) (hZ : ∀ i, i < 12 → ad i ≠ 0) (hW : ∀ i, i < 12 → w (ad i) = true) {nw : Nat} (hc : S 0 4 = nI nw) (hn : nw < 35) (hd : 2 ≤ d) : am_Ev (am_prog w) d 66 [.ref (ad 0)] h (fun r h' => r = none ∧ sm (tbs ad) h' (cG S nw) Y ∧ sm_e (tbs ad) h h') := by
  obtain ⟨d, rfl⟩ : ∃ e, d = e + 1 := ⟨d - 1, by omega⟩
  refine ev_go rfl (Nat.le_of_ble_eq_true rfl) rfl ?_
  refine go_s (pc' := 1) rfl rfl rfl rfl ?_
  refine go_s (pc' := 2) rfl rfl rfl rfl ?_
  refine go_sget (pc' := 3) (v := .int (S 0 1)) hS rfl rfl (tbs_s hA (i := 0) (by decide) rfl) (by decide) rfl rfl ?_
  refine go_s (pc' := 4) (st' := [.int 1, .int (S 0 1), .ref (ad 0)]) rfl rfl rfl rfl ?_
  refine go_s (pc' := 5) rfl rfl rfl rfl ?_
  refine go_sput (pc' := 6) hS rfl rfl (tbs_s hA (i := 0) (by decide) rfl) (by decide) tbs_inj (Nat.le_of_ble_eq_true rfl) rfl (hW 0 (by decide)) rfl (fun h1 hS2 hE3 => ?_)
  refine go_s (pc' := 7) rfl rfl rfl rfl ?_
  refine go_s (pc' := 8) (st' := [.int 0, .ref (ad 0)]) rfl rfl rfl rfl ?_
  refine go_sput (pc' := 9) hS2 rfl rfl (tbs_s hA (i := 0) (by decide) rfl) (by decide) tbs_inj (Nat.le_of_ble_eq_true rfl) rfl (hW 0 (by decide)) rfl (fun h4 hS5 hE6 => ?_)
  have hE7 := sm_e_trans hE3 hE6
  refine go_s (pc' := 10) rfl rfl rfl rfl ?_
  refine go_sget (pc' := 11) (v := .ref (ad 9)) hS5 rfl rfl (tbs_s hA (i := 0) (by decide) rfl) (by decide) rfl rfl ?_
  refine go_s (pc' := 12) (st' := [.int 16, .ref (ad 9)]) rfl rfl rfl rfl ?_
  refine go_callV (pc' := 13) rfl rfl rfl (Nat.le_of_ble_eq_true rfl) rfl (sm_o hS5 (tbs_at hA (i := 9) (by decide))) rfl rfl rfl (cs_add hA hS5 hZ hW hc hn 16 (by omega)) (fun r h8 q9 => ?_)
  obtain ⟨rfl, hS10, hE11⟩ := q9
  have hE12 := sm_e_trans hE7 hE11
  refine go_s (pc' := 14) (lo' := [some (.ref (ad 0)), some (.int (nI (nw * 5)))]) rfl rfl rfl rfl ?_
  refine go_s (pc' := 15) rfl rfl rfl rfl ?_
  refine go_s (pc' := 16) (st' := [.int (-1), .int (nI (nw * 5))]) rfl rfl rfl rfl ?_
  refine go_icmpP (t' := 33) (pc' := 17) rfl rfl rfl (fun (c : (nI (nw * 5)) = (-1)) => absurd c (nI_nm1 (by omega))) (fun _ => ?_)
  refine go_s (pc' := 18) rfl rfl rfl rfl ?_
  refine go_sget (pc' := 19) (v := .ref (ad 9)) hS10 rfl rfl (tbs_s hA (i := 0) (by decide) rfl) (by decide) rfl rfl ?_
  refine go_sget (pc' := 20) (v := .ref (ad 11)) hS10 rfl rfl (tbs_s hA (i := 9) (by decide) rfl) (by decide) rfl rfl ?_
  refine go_s (pc' := 21) rfl rfl rfl rfl ?_
  refine go_s (pc' := 22) rfl rfl rfl rfl ?_
  refine go_sget (pc' := 23) (v := .int ((S 0 1) + 1)) hS10 rfl rfl (tbs_s hA (i := 0) (by decide) rfl) (by decide) rfl rfl ?_
  refine go_siast (pc' := 24) (q := (nw * 5)) hS10 rfl (tbs_s hA (i := 11) (by decide) (rg_el (by omega))) tbs_inj (Nat.le_of_ble_eq_true rfl) rfl (by omega) (hZ 11 (by decide)) (hW 11 (by decide)) rfl (fun h13 hS14 hE15 => ?_)
  have hE16 := sm_e_trans hE12 hE15
  refine go_s (pc' := 25) rfl rfl rfl rfl ?_
  refine go_sget (pc' := 26) (v := .ref (ad 9)) hS14 rfl rfl (tbs_s hA (i := 0) (by decide) rfl) (by decide) rfl rfl ?_
  refine go_sget (pc' := 27) (v := .ref (ad 11)) hS14 rfl rfl (tbs_s hA (i := 9) (by decide) rfl) (by decide) rfl rfl ?_
  refine go_s (pc' := 28) rfl rfl rfl rfl ?_
  refine go_s (pc' := 29) (st' := [.int 1, .int (nI (nw * 5)), .ref (ad 11)]) rfl rfl rfl rfl ?_
  refine go_nadd (pc' := 30) (a := (nw * 5)) (b := 1) rfl rfl rfl rfl rfl ?_
  refine go_s (pc' := 31) rfl rfl rfl rfl ?_
  refine go_sget (pc' := 32) (v := .int (S 0 0)) hS14 rfl rfl (tbs_s hA (i := 0) (by decide) rfl) (by decide) rfl rfl ?_
  refine go_siast (pc' := 33) (q := ((nw * 5) + 1)) hS14 rfl (tbs_s hA (i := 11) (by decide) (rg_el (by omega))) tbs_inj (Nat.le_of_ble_eq_true rfl) rfl (by omega) (hZ 11 (by decide)) (hW 11 (by decide)) rfl (fun h17 hS18 hE19 => ?_)
  have hE20 := sm_e_trans hE16 hE19
  refine go_ret rfl rfl ?_
  exact ⟨rfl, hS18, hE20⟩
theorem cs_isE {w : Nat → Bool} {d : Nat} {h : am_Hp} {S : sm_I} {Y : sm_X} {ad : Nat → Nat} (hA : adk ad) (hS : sm (tbs ad) h S Y) {i : Nat} (hi : i < 32) (kd t : Int32) (hd : 1 ≤ d) : am_Ev (am_prog w) d 63 [.ref (ad 0), .int (nI i), .int kd, .int t] h (fun r h' => r = some (.int (b2i (decide (S 8 (i * 5 + 1) = kd ∧ S 8 (i * 5 + 2) = t)))) ∧ h' = h) := by
  obtain ⟨d, rfl⟩ : ∃ e, d = e + 1 := ⟨d - 1, by omega⟩
  refine ev_go rfl (Nat.le_of_ble_eq_true rfl) rfl ?_
  refine go_s (pc' := 1) rfl rfl rfl rfl ?_
  refine go_sget (pc' := 2) (v := .ref (ad 8)) hS rfl rfl (tbs_s hA (i := 0) (by decide) rfl) (by decide) rfl rfl ?_
  refine go_s (pc' := 3) rfl rfl rfl rfl ?_
  refine go_s (pc' := 4) (st' := [.int 5, .int (nI i), .ref (ad 8)]) rfl rfl rfl rfl ?_
  refine go_nmul (pc' := 5) (a := i) (b := 5) rfl rfl rfl rfl rfl ?_
  refine go_s (pc' := 6) (st' := [.int 1, .int (nI (i * 5)), .ref (ad 8)]) rfl rfl rfl rfl ?_
  refine go_nadd (pc' := 7) (a := (i * 5)) (b := 1) rfl rfl rfl rfl rfl ?_
  refine go_sald (pc' := 8) (q := ((i * 5) + 1)) (v := .int (S 8 ((i * 5) + 1))) hS rfl (tbs_s hA (i := 8) (by decide) (rg_el (by omega))) rfl rfl (by omega) rfl rfl ?_
  refine go_s (pc' := 9) rfl rfl rfl rfl ?_
  refine go_icmpP (t' := 22) (pc' := 10) rfl rfl rfl (fun (c1 : ¬ (S 8 ((i * 5) + 1)) = kd) => ?_) (fun (c1' : ¬ ¬ (S 8 ((i * 5) + 1)) = kd) => ?_)
  · skip
    refine go_s (pc' := 23) (st' := [.int 0]) rfl rfl rfl rfl ?_
    refine go_ret rfl rfl ?_
    exact ⟨by simp [b2i, c1], rfl⟩
  · skip
    have c1 : (S 8 ((i * 5) + 1)) = kd := Decidable.not_not.mp c1'
    refine go_s (pc' := 11) rfl rfl rfl rfl ?_
    refine go_sget (pc' := 12) (v := .ref (ad 8)) hS rfl rfl (tbs_s hA (i := 0) (by decide) rfl) (by decide) rfl rfl ?_
    refine go_s (pc' := 13) rfl rfl rfl rfl ?_
    refine go_s (pc' := 14) (st' := [.int 5, .int (nI i), .ref (ad 8)]) rfl rfl rfl rfl ?_
    refine go_nmul (pc' := 15) (a := i) (b := 5) rfl rfl rfl rfl rfl ?_
    refine go_s (pc' := 16) (st' := [.int 2, .int (nI (i * 5)), .ref (ad 8)]) rfl rfl rfl rfl ?_
    refine go_nadd (pc' := 17) (a := (i * 5)) (b := 2) rfl rfl rfl rfl rfl ?_
    refine go_sald (pc' := 18) (q := ((i * 5) + 2)) (v := .int (S 8 ((i * 5) + 2))) hS rfl (tbs_s hA (i := 8) (by decide) (rg_el (by omega))) rfl rfl (by omega) rfl rfl ?_
    refine go_s (pc' := 19) rfl rfl rfl rfl ?_
    refine go_icmpP (t' := 22) (pc' := 20) rfl rfl rfl (fun (c2 : ¬ (S 8 ((i * 5) + 2)) = t) => ?_) (fun (c2' : ¬ ¬ (S 8 ((i * 5) + 2)) = t) => ?_)
    · skip
      refine go_s (pc' := 23) (st' := [.int 0]) rfl rfl rfl rfl ?_
      refine go_ret rfl rfl ?_
      exact ⟨by simp [b2i, c1, c2], rfl⟩
    · skip
      have c2 : (S 8 ((i * 5) + 2)) = t := Decidable.not_not.mp c2'
      refine go_s (pc' := 21) (st' := [.int 1]) rfl rfl rfl rfl ?_
      refine go_s (pc' := 23) rfl rfl rfl rfl ?_
      refine go_ret rfl rfl ?_
      exact ⟨by simp [b2i, c1, c2], rfl⟩
