theorem ci_wr {w : Nat → Bool} {d : Nat} {h : am_Hp} {a : Nat} (ha : h[a]? = some (.inl (6, [.null, .null, .int 0]))) (hwa : w a = true) (hd : 1 ≤ d) : am_Ev (am_prog w) d 7 [.ref a] h (fun r h' => r = none ∧ ∃ L1 L2, h.length ≤ L1 ∧ L1 < L2 ∧ h'[a]? = some (.inl (6, [.ref L1, .ref L2, .int 0])) ∧ h'[L1]? = some (.inr (.int, List.replicate 35 (.int 0))) ∧ h'[L2]? = some (.inr (.int, List.replicate 175 (.int 0))) ∧ qa a h h' 2 210) := by
  obtain ⟨d, rfl⟩ : ∃ e, d = e + 1 := ⟨d - 1, by omega⟩
  refine ev_go rfl (Nat.le_of_ble_eq_true rfl) rfl ?_
  refine go_s (pc' := 1) rfl rfl rfl rfl ?_
  refine go_s (pc' := 2) rfl rfl rfl rfl ?_
  refine go_s (pc' := 3) rfl rfl rfl rfl ?_
  refine go_s (pc' := 4) (st' := [.int 35, .ref a]) rfl rfl rfl rfl ?_
  refine go_narrF (pc' := 5) (n := 35) rfl rfl (Nat.le_of_ble_eq_true rfl) rfl rfl rfl (fun L1 h2 hL3 hc4 hg5 => ?_)
  have hq6 := (hg5.2.2 _ (lt_of ha)).trans ha
  have lt_a_L1 : a < L1 := hL3 ▸ lt_of ha
  have hQ7 := qa_g (qa_refl a h) hg5
  have len_L1 := (qa_refl a h).1
  refine go_putF (pc' := 6) rfl hq6 rfl (by decide) (Nat.le_of_ble_eq_true rfl) rfl hwa rfl (fun h8 hc9 hp10 => ?_)
  have hq11 := (hp10.2.2 _ (by omega)).trans hc4
  have hQ12 := qa_p hQ7 hp10 (by omega)
  refine go_s (pc' := 7) rfl rfl rfl rfl ?_
  refine go_s (pc' := 8) (st' := [.int 175, .ref a]) rfl rfl rfl rfl ?_
  refine go_narrF (pc' := 9) (n := 175) rfl rfl (Nat.le_of_ble_eq_true rfl) rfl rfl rfl (fun L13 h14 hL15 hc16 hg17 => ?_)
  have hq18 := (hg17.2.2 _ (lt_of hc9)).trans hc9
  have lt_a_L13 : a < L13 := hL15 ▸ lt_of hc9
  have hq19 := (hg17.2.2 _ (lt_of hq11)).trans hq11
  have lt_L1_L13 : L1 < L13 := hL15 ▸ lt_of hq11
  have hQ20 := qa_g hQ12 hg17
  have len_L13 := hQ12.1
  refine go_putF (pc' := 10) rfl hq18 rfl (by decide) (Nat.le_of_ble_eq_true rfl) rfl hwa rfl (fun h21 hc22 hp23 => ?_)
  have hq24 := (hp23.2.2 _ (by omega)).trans hq19
  have hq25 := (hp23.2.2 _ (by omega)).trans hc16
  have hQ26 := qa_p hQ20 hp23 (by omega)
  refine go_ret rfl rfl ?_
  exact ⟨rfl, L1, L13, by omega, by omega, hc22, hq24, hq25, hQ26⟩
