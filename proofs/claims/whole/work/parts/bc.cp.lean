/-! a row becomes another's copy -/
def cpI (J : sm_I) (f g n : Nat) : sm_I := fun c j => if c = 51 ∧ 424 * g ≤ j ∧ j < 424 * g + n then J 51 (424 * f + (j - 424 * g)) else J c j
theorem cpI_s {J : sm_I} {f g n : Nat} : uI (cpI J f g n) 51 (424 * g + n) (J 51 (424 * f + n)) = cpI J f g (n + 1) := by
  funext c j
  simp only [uI, cpI]
  by_cases h1 : c = 51
  · subst h1
    by_cases h2 : j = 424 * g + n
    · subst h2
      rw [if_pos ⟨rfl, rfl⟩, if_pos ⟨rfl, by omega⟩]
      congr 1
      omega
    · by_cases h3 : 424 * g ≤ j ∧ j < 424 * g + n
      · rw [if_neg (by omega), if_pos ⟨rfl, h3⟩, if_pos ⟨rfl, by omega⟩]
      · rw [if_neg (by omega), if_neg (fun z => h3 z.2), if_neg (fun z => h3 (by omega))]
  · simp [h1]
theorem cpI_0 {J : sm_I} {f g : Nat} : cpI J f g 0 = J := by
  funext c j
  simp only [cpI]
  rw [if_neg (by omega)]
theorem cpI_f {J : sm_I} {f g n k : Nat} (hfg : f ≠ g) (hk : k < 424) (hn : n ≤ 424) : cpI J f g n 51 (424 * f + k) = J 51 (424 * f + k) := by
  simp only [cpI]
  rw [if_neg (by omega)]
theorem cpI_r {J : sm_I} {f g n : Nat} (hn : n ≤ 424) : rfr J (cpI J f g n) g := by
  intro c j h
  simp only [cpI]
  rw [if_neg (fun z => h ⟨z.1, by omega⟩)]
theorem RS_cp {J : sm_I} {f g : Nat} {s : ms} (k : RS J f s) (hl : s.2.1.length ≤ 32) (hw : s.2.2.length ≤ 41) : RS (cpI J f g 424) g s := by
  have z : ∀ j, j < 424 → cpI J f g 424 51 (424 * g + j) = J 51 (424 * f + j) := fun j hj => by
    simp only [cpI]
    rw [if_pos ⟨trivial, by omega⟩]
    congr 1
    omega
  obtain ⟨k1, k2, k3, k4, k5⟩ := k
  refine ⟨fun j h1 h2 h3 => by rw [z j (by omega)]; exact k1 j h1 h2 h3, by rw [z 2 (by omega)]; exact k2, by rw [z 5 (by omega)]; exact k3, fun i e hi j hj => ?_, fun i x hi j hj => ?_⟩
  · have := (List.getElem?_eq_some_iff.mp hi).1
    have y := z (48 + 4 * i + j) (by omega)
    rw [show 424 * g + 48 + 4 * i + j = 424 * g + (48 + 4 * i + j) by omega, y, show 424 * f + (48 + 4 * i + j) = 424 * f + 48 + 4 * i + j by omega]
    exact k4 i e hi j hj
  · have := (List.getElem?_eq_some_iff.mp hi).1
    have y := z (176 + 6 * i + j) (by omega)
    rw [show 424 * g + 176 + 6 * i + j = 424 * g + (176 + 6 * i + j) by omega, y, show 424 * f + (176 + 6 * i + j) = 424 * f + 176 + 6 * i + j by omega]
    exact k5 i x hi j hj
theorem lp_cp {w : Nat → Bool} {d : Nat} {J : sm_I} {Y : sm_X} {am lm as_ ls : Nat} (hr : rk am as_) (hW : ∀ a, 62 ≤ a → a ≤ 88 → w a = true) (hWa : w as_ = true) {f g : Nat} (hf : 424 * f + 424 ≤ ls) (hg : 424 * g + 424 ≤ ls) (hfg : f ≠ g) (hl31 : ls < 2 ^ 31) {h0 : am_Hp} : ∀ (k n : Nat) (h : am_Hp), n + k = 424 → sm (tbr am lm as_ ls) h (cpI J f g n) Y → sm_e (tbr am lm as_ ls) h0 h → am_Go (am_prog w) d am_c136 none 2 [some (.ref 62), some (.int (nI f)), some (.int (nI g)), some (.int (nI n))] [] h (fun r h' => r = none ∧ sm (tbr am lm as_ ls) h' (cpI J f g 424) Y ∧ sm_e (tbr am lm as_ ls) h0 h') := by
  intro k
  induction k with
  | zero =>
    intro n h hnk hS hE0
    obtain rfl : n = 424 := by omega
    refine go_s (pc' := 3) rfl rfl rfl rfl ?_
    refine go_s (pc' := 4) (st' := [.int 424, .int (nI 424)]) rfl rfl rfl rfl ?_
    refine go_icmpP (t' := 23) (pc' := 5) rfl rfl rfl (fun _ => ?_) (fun (c : ¬ (424 ≤ (nI 424))) => absurd (by decide) c)
    refine go_ret rfl rfl ?_
    exact ⟨rfl, hS, hE0⟩
  | succ k ih =>
    intro n h hnk hS hE0
    refine go_s (pc' := 3) rfl rfl rfl rfl ?_
    refine go_s (pc' := 4) (st' := [.int 424, .int (nI n)]) rfl rfl rfl rfl ?_
    refine go_icmpP (t' := 23) (pc' := 5) rfl rfl rfl (fun (c : 424 ≤ (nI n)) => absurd c (nI_ge (b := 424) (show n < 424 by omega) (by decide))) (fun _ => ?_)
    refine go_s (pc' := 6) rfl rfl rfl rfl ?_
    refine go_sget (pc' := 7) (v := .ref as_) hS rfl rfl rfl (by decide) rfl rfl ?_
    refine go_s (pc' := 8) (st' := [.int 424, .ref as_]) rfl rfl rfl rfl ?_
    refine go_s (pc' := 9) rfl rfl rfl rfl ?_
    refine go_nmul (pc' := 10) (a := 424) (b := g) rfl rfl rfl rfl rfl ?_
    refine go_s (pc' := 11) rfl rfl rfl rfl ?_
    refine go_nadd (pc' := 12) (a := (424 * g)) (b := n) rfl rfl rfl rfl rfl ?_
    refine go_s (pc' := 13) rfl rfl rfl rfl ?_
    refine go_sget (pc' := 14) (v := .ref as_) hS rfl rfl rfl (by decide) rfl rfl ?_
    refine go_s (pc' := 15) (st' := [.int 424, .ref as_, .int (nI ((424 * g) + n)), .ref as_]) rfl rfl rfl rfl ?_
    refine go_s (pc' := 16) rfl rfl rfl rfl ?_
    refine go_nmul (pc' := 17) (a := 424) (b := f) rfl rfl rfl rfl rfl ?_
    refine go_s (pc' := 18) rfl rfl rfl rfl ?_
    refine go_nadd (pc' := 19) (a := (424 * f)) (b := n) rfl rfl rfl rfl rfl ?_
    refine go_sald (pc' := 20) (q := ((424 * f) + n)) (v := .int (J 51 (424 * f + n))) hS rfl (tr_as hr (by omega)) rfl rfl (by omega) (congrArg Value.int (cpI_f hfg (by omega) (by omega))) rfl ?_
    refine go_siast (pc' := 21) (q := ((424 * g) + n)) hS rfl (tr_as hr (by omega)) tbr_inj (Nat.le_of_ble_eq_true rfl) rfl (by omega) (rk_0 hr).2 hWa rfl (fun h1 hS2 hE3 => ?_)
    refine go_ninc (pc' := 22) (a := n) (n := 1) (lo' := [some (.ref 62), some (.int (nI f)), some (.int (nI g)), some (.int (nI (n + 1)))]) rfl rfl rfl rfl rfl rfl ?_
    refine go_s (pc' := 2) rfl rfl rfl rfl ?_
    exact ih (n + 1) _ (by omega) (by rw [← cpI_s]; exact hS2) (sm_e_trans hE0 hE3)
theorem rs_cp {w : Nat → Bool} {d : Nat} {h : am_Hp} {J : sm_I} {Y : sm_X} {am lm as_ ls : Nat} (hr : rk am as_) (hS : sm (tbr am lm as_ ls) h J Y) (hW : ∀ a, 62 ≤ a → a ≤ 88 → w a = true) (hWa : w as_ = true) {f g : Nat} (hf : 424 * f + 424 ≤ ls) (hg : 424 * g + 424 ≤ ls) (hfg : f ≠ g) (hl31 : ls < 2 ^ 31) (hd : 1 ≤ d) : am_Ev (am_prog w) d 136 [.ref 62, .int (nI f), .int (nI g)] h (fun r h' => r = none ∧ sm (tbr am lm as_ ls) h' (cpI J f g 424) Y ∧ sm_e (tbr am lm as_ ls) h h') := by
  obtain ⟨d, rfl⟩ : ∃ e, d = e + 1 := ⟨d - 1, by omega⟩
  refine ev_go rfl (Nat.le_of_ble_eq_true rfl) rfl ?_
  refine go_s (pc' := 1) (st' := [.int 0]) rfl rfl rfl rfl ?_
  refine go_s (pc' := 2) (lo' := [some (.ref 62), some (.int (nI f)), some (.int (nI g)), some (.int 0)]) rfl rfl rfl rfl ?_
  exact lp_cp hr hW hWa hf hg hfg hl31 424 0 h rfl (by rw [cpI_0]; exact hS) (sm_e_refl _ _)
