theorem ci_req {w : Nat → Bool} {d : Nat} {h : am_Hp} {a : Nat} {x0 x1 x2 x3 x4 x5 x6 : Int32} (ha : h[a]? = some (.inl (8, [.int 0, .int 0, .int 0, .int 0, .int 0, .int 0, .int 0]))) (hwa : w a = true) (hd : 1 ≤ d) : am_Ev (am_prog w) d 16 [.ref a, .int x0, .int x1, .int x2, .int x3, .int x4, .int x5, .int x6] h (fun r h' => r = none ∧ h'[a]? = some (.inl (8, [.int x0, .int x1, .int x2, .int x3, .int x4, .int x5, .int x6])) ∧ pq a h h') := by
  obtain ⟨d, rfl⟩ : ∃ e, d = e + 1 := ⟨d - 1, by omega⟩
  refine ev_go rfl (Nat.le_of_ble_eq_true rfl) rfl ?_
  refine go_s (pc' := 1) rfl rfl rfl rfl ?_
  refine go_s (pc' := 2) rfl rfl rfl rfl ?_
  refine go_s (pc' := 3) rfl rfl rfl rfl ?_
  refine go_s (pc' := 4) rfl rfl rfl rfl ?_
  refine go_putF (pc' := 5) rfl ha rfl (by decide) (Nat.le_of_ble_eq_true rfl) rfl hwa rfl (fun h1 hc2 hp3 => ?_)
  refine go_s (pc' := 6) rfl rfl rfl rfl ?_
  refine go_s (pc' := 7) rfl rfl rfl rfl ?_
  refine go_putF (pc' := 8) rfl hc2 rfl (by decide) (Nat.le_of_ble_eq_true rfl) rfl hwa rfl (fun h4 hc5 hp6 => ?_)
  have hP7 := pq_trans hp3 hp6
  refine go_s (pc' := 9) rfl rfl rfl rfl ?_
  refine go_s (pc' := 10) rfl rfl rfl rfl ?_
  refine go_putF (pc' := 11) rfl hc5 rfl (by decide) (Nat.le_of_ble_eq_true rfl) rfl hwa rfl (fun h8 hc9 hp10 => ?_)
  have hP11 := pq_trans hP7 hp10
  refine go_s (pc' := 12) rfl rfl rfl rfl ?_
  refine go_s (pc' := 13) rfl rfl rfl rfl ?_
  refine go_putF (pc' := 14) rfl hc9 rfl (by decide) (Nat.le_of_ble_eq_true rfl) rfl hwa rfl (fun h12 hc13 hp14 => ?_)
  have hP15 := pq_trans hP11 hp14
  refine go_s (pc' := 15) rfl rfl rfl rfl ?_
  refine go_s (pc' := 16) rfl rfl rfl rfl ?_
  refine go_putF (pc' := 17) rfl hc13 rfl (by decide) (Nat.le_of_ble_eq_true rfl) rfl hwa rfl (fun h16 hc17 hp18 => ?_)
  have hP19 := pq_trans hP15 hp18
  refine go_s (pc' := 18) rfl rfl rfl rfl ?_
  refine go_s (pc' := 19) rfl rfl rfl rfl ?_
  refine go_putF (pc' := 20) rfl hc17 rfl (by decide) (Nat.le_of_ble_eq_true rfl) rfl hwa rfl (fun h20 hc21 hp22 => ?_)
  have hP23 := pq_trans hP19 hp22
  refine go_s (pc' := 21) rfl rfl rfl rfl ?_
  refine go_s (pc' := 22) rfl rfl rfl rfl ?_
  refine go_putF (pc' := 23) rfl hc21 rfl (by decide) (Nat.le_of_ble_eq_true rfl) rfl hwa rfl (fun h24 hc25 hp26 => ?_)
  have hP27 := pq_trans hP23 hp26
  refine go_ret rfl rfl ?_
  exact ⟨rfl, hc25, hP27⟩
theorem ci_ans {w : Nat → Bool} {d : Nat} {h : am_Hp} {a : Nat} {x0 x1 x2 x3 x4 x5 : Int32} (ha : h[a]? = some (.inl (10, [.int 0, .int 0, .int 0, .int 0, .int 0, .int 0]))) (hwa : w a = true) (hd : 1 ≤ d) : am_Ev (am_prog w) d 47 [.ref a, .int x0, .int x1, .int x2, .int x3, .int x4, .int x5] h (fun r h' => r = none ∧ h'[a]? = some (.inl (10, [.int x0, .int x1, .int x2, .int x3, .int x4, .int x5])) ∧ pq a h h') := by
  obtain ⟨d, rfl⟩ : ∃ e, d = e + 1 := ⟨d - 1, by omega⟩
  refine ev_go rfl (Nat.le_of_ble_eq_true rfl) rfl ?_
  refine go_s (pc' := 1) rfl rfl rfl rfl ?_
  refine go_s (pc' := 2) rfl rfl rfl rfl ?_
  refine go_s (pc' := 3) rfl rfl rfl rfl ?_
  refine go_s (pc' := 4) rfl rfl rfl rfl ?_
  refine go_putF (pc' := 5) rfl ha rfl (by decide) (Nat.le_of_ble_eq_true rfl) rfl hwa rfl (fun h1 hc2 hp3 => ?_)
  refine go_s (pc' := 6) rfl rfl rfl rfl ?_
  refine go_s (pc' := 7) rfl rfl rfl rfl ?_
  refine go_putF (pc' := 8) rfl hc2 rfl (by decide) (Nat.le_of_ble_eq_true rfl) rfl hwa rfl (fun h4 hc5 hp6 => ?_)
  have hP7 := pq_trans hp3 hp6
  refine go_s (pc' := 9) rfl rfl rfl rfl ?_
  refine go_s (pc' := 10) rfl rfl rfl rfl ?_
  refine go_putF (pc' := 11) rfl hc5 rfl (by decide) (Nat.le_of_ble_eq_true rfl) rfl hwa rfl (fun h8 hc9 hp10 => ?_)
  have hP11 := pq_trans hP7 hp10
  refine go_s (pc' := 12) rfl rfl rfl rfl ?_
  refine go_s (pc' := 13) rfl rfl rfl rfl ?_
  refine go_putF (pc' := 14) rfl hc9 rfl (by decide) (Nat.le_of_ble_eq_true rfl) rfl hwa rfl (fun h12 hc13 hp14 => ?_)
  have hP15 := pq_trans hP11 hp14
  refine go_s (pc' := 15) rfl rfl rfl rfl ?_
  refine go_s (pc' := 16) rfl rfl rfl rfl ?_
  refine go_putF (pc' := 17) rfl hc13 rfl (by decide) (Nat.le_of_ble_eq_true rfl) rfl hwa rfl (fun h16 hc17 hp18 => ?_)
  have hP19 := pq_trans hP15 hp18
  refine go_s (pc' := 18) rfl rfl rfl rfl ?_
  refine go_s (pc' := 19) rfl rfl rfl rfl ?_
  refine go_putF (pc' := 20) rfl hc17 rfl (by decide) (Nat.le_of_ble_eq_true rfl) rfl hwa rfl (fun h20 hc21 hp22 => ?_)
  have hP23 := pq_trans hP19 hp22
  refine go_ret rfl rfl ?_
  exact ⟨rfl, hc21, hP23⟩
theorem ci_msg {w : Nat → Bool} {d : Nat} {h : am_Hp} {a : Nat} {x0 : Int32} (ha : h[a]? = some (.inl (9, [.int 0, .int 0, .int 0, .int 0, .null, .null, .null, .null]))) (hwa : w a = true) (hd : 1 ≤ d) : am_Ev (am_prog w) d 19 [.ref a, .int x0] h (fun r h' => r = none ∧ h'[a]? = some (.inl (9, [.int x0, .int 0, .int 0, .int 0, .null, .null, .null, .null])) ∧ pq a h h') := by
  obtain ⟨d, rfl⟩ : ∃ e, d = e + 1 := ⟨d - 1, by omega⟩
  refine ev_go rfl (Nat.le_of_ble_eq_true rfl) rfl ?_
  refine go_s (pc' := 1) rfl rfl rfl rfl ?_
  refine go_s (pc' := 2) rfl rfl rfl rfl ?_
  refine go_s (pc' := 3) rfl rfl rfl rfl ?_
  refine go_s (pc' := 4) rfl rfl rfl rfl ?_
  refine go_putF (pc' := 5) rfl ha rfl (by decide) (Nat.le_of_ble_eq_true rfl) rfl hwa rfl (fun h1 hc2 hp3 => ?_)
  refine go_ret rfl rfl ?_
  exact ⟨rfl, hc2, hp3⟩
