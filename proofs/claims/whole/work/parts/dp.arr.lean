theorem rt_within_g {w : Nat → Bool} {d : Nat} {h : am_Hp} {a : Int32} {n : Nat} (hn : ¬ (a < 0 ∨ nI n < a)) (hd : 1 ≤ d) : am_Ev (am_prog w) d 124 [.int a, .int 0, .int (nI n)] h (fun r h' => r = some (.int 1) ∧ h' = h) := by
  obtain ⟨d, rfl⟩ : ∃ e, d = e + 1 := ⟨d - 1, by omega⟩
  refine ev_go rfl (Nat.le_of_ble_eq_true rfl) rfl ?_
  refine go_s (pc' := 1) rfl rfl rfl rfl ?_
  refine go_s (pc' := 2) rfl rfl rfl rfl ?_
  refine go_icmpP (t' := 8) (pc' := 3) rfl rfl rfl (fun (c1 : a < 0) => ?_) (fun (c1 : ¬ a < 0) => ?_)
  · skip
    refine go_s (pc' := 9) (st' := [.int 0]) rfl rfl rfl rfl ?_
    refine go_ret rfl rfl ?_
    exact absurd (Or.inl c1) hn
  · skip
    refine go_s (pc' := 4) rfl rfl rfl rfl ?_
    refine go_s (pc' := 5) rfl rfl rfl rfl ?_
    refine go_icmpP (t' := 8) (pc' := 6) rfl rfl rfl (fun (c2 : (nI n) < a) => ?_) (fun (c2 : ¬ (nI n) < a) => ?_)
    · skip
      refine go_s (pc' := 9) (st' := [.int 0]) rfl rfl rfl rfl ?_
      refine go_ret rfl rfl ?_
      exact absurd (Or.inr c2) hn
    · skip
      refine go_s (pc' := 7) (st' := [.int 1]) rfl rfl rfl rfl ?_
      refine go_s (pc' := 9) rfl rfl rfl rfl ?_
      refine go_ret rfl rfl ?_
      exact ⟨rfl, rfl⟩
theorem rt_isl_t {w : Nat → Bool} {d : Nat} {h : am_Hp} {f p : Nat} (hf : f < 4) (hp : p < 4) (hfp : ¬ f = p) (hd : 2 ≤ d) : am_Ev (am_prog w) d 177 [.int (nI f), .int (nI p)] h (fun r h' => r = some (.int 1) ∧ h' = h) := by
  obtain ⟨d, rfl⟩ : ∃ e, d = e + 1 := ⟨d - 1, by omega⟩
  refine ev_go rfl (Nat.le_of_ble_eq_true rfl) rfl ?_
  refine go_s (pc' := 1) rfl rfl rfl rfl ?_
  refine go_s (pc' := 2) (st' := [.int 0, .int (nI f)]) rfl rfl rfl rfl ?_
  refine go_s (pc' := 3) (st' := [.int 3, .int 0, .int (nI f)]) rfl rfl rfl rfl ?_
  refine go_callS (pc' := 4) rfl rfl rfl (Nat.le_of_ble_eq_true rfl) rfl rfl rfl (rt_within_t (q := f) (n := 3) (by omega) (by decide) (by omega)) (fun r h1 q2 => ?_)
  obtain ⟨rfl, rfl⟩ := q2
  refine go_ifP (t' := 15) (pc' := 5) rfl rfl rfl (fun (c : (1 : Int32) = 0) => absurd c (by decide)) (fun _ => ?_)
  refine go_s (pc' := 6) rfl rfl rfl rfl ?_
  refine go_s (pc' := 7) (st' := [.int 0, .int (nI p)]) rfl rfl rfl rfl ?_
  refine go_s (pc' := 8) (st' := [.int 3, .int 0, .int (nI p)]) rfl rfl rfl rfl ?_
  refine go_callS (pc' := 9) rfl rfl rfl (Nat.le_of_ble_eq_true rfl) rfl rfl rfl (rt_within_t (q := p) (n := 3) (by omega) (by decide) (by omega)) (fun r h3 q4 => ?_)
  obtain ⟨rfl, rfl⟩ := q4
  refine go_ifP (t' := 15) (pc' := 10) rfl rfl rfl (fun (c : (1 : Int32) = 0) => absurd c (by decide)) (fun _ => ?_)
  refine go_s (pc' := 11) rfl rfl rfl rfl ?_
  refine go_s (pc' := 12) rfl rfl rfl rfl ?_
  refine go_icmpP (t' := 15) (pc' := 13) rfl rfl rfl (fun (c : (nI f) = (nI p)) => absurd c (fun z => hfp ((nI_eq (by omega) (by omega)).mp z))) (fun _ => ?_)
  refine go_s (pc' := 14) (st' := [.int 1]) rfl rfl rfl rfl ?_
  refine go_s (pc' := 16) rfl rfl rfl rfl ?_
  refine go_ret rfl rfl ?_
  exact ⟨rfl, rfl⟩
theorem le_34 {a : Int32} (h : 4 ≤ a) : nI 3 < a := Int32.lt_of_lt_of_le (nI_lt (a := 3) (b := 4) (by omega) (by omega)) h
theorem isl_e {a b : Int32} (hn : ¬ (¬ a < 0 ∧ ¬ 4 ≤ a ∧ ¬ b < 0 ∧ ¬ 4 ≤ b ∧ ¬ a = b)) (ha : ¬ (a < 0 ∨ nI 3 < a)) (hb : ¬ (b < 0 ∨ nI 3 < b)) : a = b := Classical.byContradiction (fun z => hn ⟨fun y => ha (Or.inl y), fun y => ha (Or.inr (le_34 y)), fun y => hb (Or.inl y), fun y => hb (Or.inr (le_34 y)), z⟩)
theorem rt_isl_f {w : Nat → Bool} {d : Nat} {h : am_Hp} {a b : Int32} (hn : ¬ (¬ a < 0 ∧ ¬ 4 ≤ a ∧ ¬ b < 0 ∧ ¬ 4 ≤ b ∧ ¬ a = b)) (hd : 2 ≤ d) : am_Ev (am_prog w) d 177 [.int a, .int b] h (fun r h' => r = some (.int 0) ∧ h' = h) := by
  obtain ⟨d, rfl⟩ : ∃ e, d = e + 1 := ⟨d - 1, by omega⟩
  refine ev_go rfl (Nat.le_of_ble_eq_true rfl) rfl ?_
  by_cases ha : a < 0 ∨ nI 3 < a
  · skip
    refine go_s (pc' := 1) rfl rfl rfl rfl ?_
    refine go_s (pc' := 2) (st' := [.int 0, .int a]) rfl rfl rfl rfl ?_
    refine go_s (pc' := 3) (st' := [.int 3, .int 0, .int a]) rfl rfl rfl rfl ?_
    refine go_callS (pc' := 4) rfl rfl rfl (Nat.le_of_ble_eq_true rfl) rfl rfl rfl (rt_within_f (a := a) (n := 3) ha (by omega)) (fun r h1 q2 => ?_)
    obtain ⟨rfl, rfl⟩ := q2
    refine go_ifP (t' := 15) (pc' := 5) rfl rfl rfl (fun _ => ?_) (fun (c : ¬ ((0 : Int32) = 0)) => absurd (by decide) c)
    refine go_s (pc' := 16) (st' := [.int 0]) rfl rfl rfl rfl ?_
    refine go_ret rfl rfl ?_
    exact ⟨rfl, rfl⟩
  by_cases hb : b < 0 ∨ nI 3 < b
  · skip
    refine go_s (pc' := 1) rfl rfl rfl rfl ?_
    refine go_s (pc' := 2) (st' := [.int 0, .int a]) rfl rfl rfl rfl ?_
    refine go_s (pc' := 3) (st' := [.int 3, .int 0, .int a]) rfl rfl rfl rfl ?_
    refine go_callS (pc' := 4) rfl rfl rfl (Nat.le_of_ble_eq_true rfl) rfl rfl rfl (rt_within_g (a := a) (n := 3) ha (by omega)) (fun r h3 q4 => ?_)
    obtain ⟨rfl, rfl⟩ := q4
    refine go_ifP (t' := 15) (pc' := 5) rfl rfl rfl (fun (c : (1 : Int32) = 0) => absurd c (by decide)) (fun _ => ?_)
    refine go_s (pc' := 6) rfl rfl rfl rfl ?_
    refine go_s (pc' := 7) (st' := [.int 0, .int b]) rfl rfl rfl rfl ?_
    refine go_s (pc' := 8) (st' := [.int 3, .int 0, .int b]) rfl rfl rfl rfl ?_
    refine go_callS (pc' := 9) rfl rfl rfl (Nat.le_of_ble_eq_true rfl) rfl rfl rfl (rt_within_f (a := b) (n := 3) hb (by omega)) (fun r h5 q6 => ?_)
    obtain ⟨rfl, rfl⟩ := q6
    refine go_ifP (t' := 15) (pc' := 10) rfl rfl rfl (fun _ => ?_) (fun (c : ¬ ((0 : Int32) = 0)) => absurd (by decide) c)
    refine go_s (pc' := 16) (st' := [.int 0]) rfl rfl rfl rfl ?_
    refine go_ret rfl rfl ?_
    exact ⟨rfl, rfl⟩
  refine go_s (pc' := 1) rfl rfl rfl rfl ?_
  refine go_s (pc' := 2) (st' := [.int 0, .int a]) rfl rfl rfl rfl ?_
  refine go_s (pc' := 3) (st' := [.int 3, .int 0, .int a]) rfl rfl rfl rfl ?_
  refine go_callS (pc' := 4) rfl rfl rfl (Nat.le_of_ble_eq_true rfl) rfl rfl rfl (rt_within_g (a := a) (n := 3) ha (by omega)) (fun r h7 q8 => ?_)
  obtain ⟨rfl, rfl⟩ := q8
  refine go_ifP (t' := 15) (pc' := 5) rfl rfl rfl (fun (c : (1 : Int32) = 0) => absurd c (by decide)) (fun _ => ?_)
  refine go_s (pc' := 6) rfl rfl rfl rfl ?_
  refine go_s (pc' := 7) (st' := [.int 0, .int b]) rfl rfl rfl rfl ?_
  refine go_s (pc' := 8) (st' := [.int 3, .int 0, .int b]) rfl rfl rfl rfl ?_
  refine go_callS (pc' := 9) rfl rfl rfl (Nat.le_of_ble_eq_true rfl) rfl rfl rfl (rt_within_g (a := b) (n := 3) hb (by omega)) (fun r h9 q10 => ?_)
  obtain ⟨rfl, rfl⟩ := q10
  refine go_ifP (t' := 15) (pc' := 10) rfl rfl rfl (fun (c : (1 : Int32) = 0) => absurd c (by decide)) (fun _ => ?_)
  refine go_s (pc' := 11) rfl rfl rfl rfl ?_
  refine go_s (pc' := 12) rfl rfl rfl rfl ?_
  refine go_icmpP (t' := 15) (pc' := 13) rfl rfl rfl (fun _ => ?_) (fun (c : ¬ (a = b)) => absurd (isl_e hn ha hb) c)
  refine go_s (pc' := 16) (st' := [.int 0]) rfl rfl rfl rfl ?_
  refine go_ret rfl rfl ?_
  exact ⟨rfl, rfl⟩
theorem ra_los_f {w : Nat → Bool} {d B R : Nat} {h : am_Hp} {I : sm_I} {Q : mQ} {Z : mZ} (hA : RA w B R [] true h (I, Q, Z)) (hR : R + 0 < 40000) {a b : Int32} (hn : ¬ (¬ a < 0 ∧ ¬ 4 ≤ a ∧ ¬ b < 0 ∧ ¬ 4 ≤ b ∧ ¬ a = b)) (hd : 3 ≤ d) : am_Ev (am_prog w) d 184 [.ref 62, .int a, .int b] h (fun r h' => r = some (.int 0) ∧ h' = h) := by
  obtain ⟨K, Y, am, ln, hS, hU⟩ := RA_u.mp hA
  change sm (tbr am (13 * ln) 77 5088) h (jn I K) Y at hS
  obtain ⟨hW, hWm, -, -, hr, -⟩ := id hU.1
  have hln := RU_ln hU (by omega)
  obtain ⟨d, rfl⟩ : ∃ e, d = e + 1 := ⟨d - 1, by omega⟩
  refine ev_go rfl (Nat.le_of_ble_eq_true rfl) rfl ?_
  refine go_s (pc' := 1) rfl rfl rfl rfl ?_
  refine go_s (pc' := 2) rfl rfl rfl rfl ?_
  refine go_callS (pc' := 3) rfl rfl rfl (Nat.le_of_ble_eq_true rfl) rfl rfl rfl (rt_isl_f hn (by omega)) (fun r h1 q2 => ?_)
  obtain ⟨rfl, rfl⟩ := q2
  refine go_ifP (t' := 6) (pc' := 4) rfl rfl rfl (fun (c : ¬ (0 : Int32) = 0) => absurd c (by decide)) (fun _ => ?_)
  refine go_s (pc' := 5) (st' := [.int 0]) rfl rfl rfl rfl ?_
  refine go_ret rfl rfl ?_
  exact ⟨rfl, rfl⟩
theorem ra_lnk_f {w : Nat → Bool} {d B R : Nat} {h : am_Hp} {I : sm_I} {Q : mQ} {Z : mZ} (hA : RA w B R [] true h (I, Q, Z)) (hR : R + 0 < 40000) {a b : Int32} (hn : ¬ (¬ a < 0 ∧ ¬ 4 ≤ a ∧ ¬ b < 0 ∧ ¬ 4 ≤ b ∧ ¬ a = b)) {c : Int32} (hd : 3 ≤ d) : am_Ev (am_prog w) d 189 [.ref 62, .int a, .int b, .int c] h (fun r h' => r = some (.int (-1)) ∧ h' = h) := by
  obtain ⟨K, Y, am, ln, hS, hU⟩ := RA_u.mp hA
  change sm (tbr am (13 * ln) 77 5088) h (jn I K) Y at hS
  obtain ⟨hW, hWm, -, -, hr, -⟩ := id hU.1
  have hln := RU_ln hU (by omega)
  obtain ⟨d, rfl⟩ : ∃ e, d = e + 1 := ⟨d - 1, by omega⟩
  refine ev_go rfl (Nat.le_of_ble_eq_true rfl) rfl ?_
  refine go_s (pc' := 1) rfl rfl rfl rfl ?_
  refine go_s (pc' := 2) rfl rfl rfl rfl ?_
  refine go_callS (pc' := 3) rfl rfl rfl (Nat.le_of_ble_eq_true rfl) rfl rfl rfl (rt_isl_f hn (by omega)) (fun r h1 q2 => ?_)
  obtain ⟨rfl, rfl⟩ := q2
  refine go_ifP (t' := 6) (pc' := 4) rfl rfl rfl (fun (c : ¬ (0 : Int32) = 0) => absurd c (by decide)) (fun _ => ?_)
  refine go_s (pc' := 5) (st' := [.int (-1)]) rfl rfl rfl rfl ?_
  refine go_ret rfl rfl ?_
  exact ⟨rfl, rfl⟩
theorem ra_arr_f {w : Nat → Bool} {d B R : Nat} {h : am_Hp} {I : sm_I} {Q : mQ} {Z : mZ} (hA : RA w B R [] true h (I, Q, Z)) (hR : R + 0 < 40000) {a b : Int32} (hn : ¬ (¬ a < 0 ∧ ¬ 4 ≤ a ∧ ¬ b < 0 ∧ ¬ 4 ≤ b ∧ ¬ a = b)) {c : Int32} (hd : 3 ≤ d) : am_Ev (am_prog w) d 176 [.ref 62, .int a, .int b, .int c] h (fun r h' => r = some (.int (-1)) ∧ h' = h) := by
  obtain ⟨K, Y, am, ln, hS, hU⟩ := RA_u.mp hA
  change sm (tbr am (13 * ln) 77 5088) h (jn I K) Y at hS
  obtain ⟨hW, hWm, -, -, hr, -⟩ := id hU.1
  have hln := RU_ln hU (by omega)
  obtain ⟨d, rfl⟩ : ∃ e, d = e + 1 := ⟨d - 1, by omega⟩
  refine ev_go rfl (Nat.le_of_ble_eq_true rfl) rfl ?_
  refine go_s (pc' := 1) rfl rfl rfl rfl ?_
  refine go_s (pc' := 2) rfl rfl rfl rfl ?_
  refine go_callS (pc' := 3) rfl rfl rfl (Nat.le_of_ble_eq_true rfl) rfl rfl rfl (rt_isl_f hn (by omega)) (fun r h1 q2 => ?_)
  obtain ⟨rfl, rfl⟩ := q2
  refine go_ifP (t' := 6) (pc' := 4) rfl rfl rfl (fun (c : ¬ (0 : Int32) = 0) => absurd c (by decide)) (fun _ => ?_)
  refine go_s (pc' := 5) (st' := [.int (-1)]) rfl rfl rfl rfl ?_
  refine go_ret rfl rfl ?_
  exact ⟨rfl, rfl⟩
theorem ra_los {w : Nat → Bool} {d B R : Nat} {h : am_Hp} {I : sm_I} {Q : mQ} {Z : mZ} (hA : RA w B R [] true h (I, Q, Z)) (hR : R + 0 < 40000) {f p : Nat} (hf : f < 4) (hp : p < 4) (hfp : ¬ f = p) (hq0 : ∀ l, l < 16 → Q l = [] → I 24 l = -1) (hd : 3 ≤ d) : am_Ev (am_prog w) d 184 [.ref 62, .int (nI f), .int (nI p)] h (fun r h' => r = some (.int (mlos f p (I, Q, Z)).1) ∧ RA w B R [] true h' (mlos f p (I, Q, Z)).2) := by
  obtain ⟨K, Y, am, ln, hS, hU⟩ := RA_u.mp hA
  change sm (tbr am (13 * ln) 77 5088) h (jn I K) Y at hS
  obtain ⟨hW, hWm, -, -, hr, -⟩ := id hU.1
  have hln := RU_ln hU (by omega)
  obtain ⟨d, rfl⟩ : ∃ e, d = e + 1 := ⟨d - 1, by omega⟩
  refine ev_go rfl (Nat.le_of_ble_eq_true rfl) rfl ?_
  refine go_s (pc' := 1) rfl rfl rfl rfl ?_
  refine go_s (pc' := 2) rfl rfl rfl rfl ?_
  refine go_callS (pc' := 3) rfl rfl rfl (Nat.le_of_ble_eq_true rfl) rfl rfl rfl (rt_isl_t (f := f) (p := p) hf hp hfp (by omega)) (fun r h1 q2 => ?_)
  obtain ⟨rfl, rfl⟩ := q2
  refine go_ifP (t' := 6) (pc' := 4) rfl rfl rfl (fun _ => ?_) (fun (c : ¬ (¬ (1 : Int32) = 0)) => absurd (by decide) c)
  refine go_s (pc' := 7) (st' := [.int 4]) rfl rfl rfl rfl ?_
  refine go_s (pc' := 8) rfl rfl rfl rfl ?_
  refine go_nmul (pc' := 9) (a := 4) (b := f) rfl rfl rfl rfl rfl ?_
  refine go_s (pc' := 10) rfl rfl rfl rfl ?_
  refine go_nadd (pc' := 11) (a := (4 * f)) (b := p) rfl rfl rfl rfl rfl ?_
  refine go_s (pc' := 12) (lo' := [some (.ref 62), some (.int (nI f)), some (.int (nI p)), some (.int (nI ((4 * f) + p)))]) rfl rfl rfl rfl ?_
  obtain ⟨l, el⟩ : ∃ l, l = 4 * f + p := ⟨_, rfl⟩
  rw [show (4 * f) + p = l from el.symm]
  have hl : l < 16 := by omega
  cases hQ : Q l with
  | nil =>
    have h55 : K 55 l = 0 := by
      have z := (RU_lk (l := l) hU hl).1
      rw [hQ] at z
      exact z
    refine go_s (pc' := 13) rfl rfl rfl rfl ?_
    refine go_sget (pc' := 14) (v := .ref 74) hS rfl rfl rfl (by decide) rfl rfl ?_
    refine go_s (pc' := 15) rfl rfl rfl rfl ?_
    refine go_sald (pc' := 16) (q := l) (v := .int 0) hS rfl (tr_s hr (a := 74) rfl (by omega)) rfl rfl (by omega) (congrArg Value.int h55) rfl ?_
    refine go_ifP (t' := 28) (pc' := 17) rfl rfl rfl (fun _ => ?_) (fun (c : ¬ ((0 : Int32) = 0)) => absurd (by decide) c)
    refine go_s (pc' := 29) (st' := [.int 0]) rfl rfl rfl rfl ?_
    refine go_ret rfl rfl ?_
    have hms : mlos f p (I, Q, Z) = (0, (I, Q, Z)) := by
      unfold mlos
      rw [← el]
      exact if_pos (hq0 l hl hQ)
    rw [hms]
    exact ⟨rfl, hA⟩
  | cons m q =>
    obtain ⟨hk55, hle, hxx⟩ := RU_lk (l := l) hU hl
    obtain ⟨x, h53, hx, hk2, hk3, hk0, hk1⟩ := hxx m q hQ
    rw [hQ] at hk55 hle
    have h55 : K 55 l = nI (q.length + 1) := hk55
    have hle2 : q.length + 1 ≤ ln := hle
    refine go_s (pc' := 13) rfl rfl rfl rfl ?_
    refine go_sget (pc' := 14) (v := .ref 74) hS rfl rfl rfl (by decide) rfl rfl ?_
    refine go_s (pc' := 15) rfl rfl rfl rfl ?_
    refine go_sald (pc' := 16) (q := l) (v := .int (nI (q.length + 1))) hS rfl (tr_s hr (a := 74) rfl (by omega)) rfl rfl (by omega) (congrArg Value.int h55) rfl ?_
    refine go_ifP (t' := 28) (pc' := 17) rfl rfl rfl (fun (c : (nI (q.length + 1)) = 0) => absurd c (nI_n0 (by omega))) (fun _ => ?_)
    refine go_s (pc' := 18) rfl rfl rfl rfl ?_
    refine go_sget (pc' := 19) (v := .ref am) hS rfl rfl rfl (by decide) rfl rfl ?_
    refine go_s (pc' := 20) rfl rfl rfl rfl ?_
    refine go_sget (pc' := 21) (v := .ref 72) hS rfl rfl rfl (by decide) rfl rfl ?_
    refine go_s (pc' := 22) rfl rfl rfl rfl ?_
    refine go_sald (pc' := 23) (q := l) (v := .int (nI (13 * x))) hS rfl (tr_s hr (a := 72) rfl (by omega)) rfl rfl (by omega) (congrArg Value.int h53) rfl ?_
    refine go_s (pc' := 24) (st' := [.int 2, .int (nI (13 * x)), .ref am]) rfl rfl rfl rfl ?_
    refine go_nadd (pc' := 25) (a := (13 * x)) (b := 2) rfl rfl rfl rfl rfl ?_
    refine go_sald (pc' := 26) (q := ((13 * x) + 2)) (v := .int (I 24 l)) hS rfl (tr_ms hr (by omega)) rfl rfl (by omega) (congrArg Value.int hk2) rfl ?_
    refine go_s (pc' := 27) (st' := [.int (-1), .int (I 24 l)]) rfl rfl rfl rfl ?_
    refine go_icmpP (t' := 30) (pc' := 28) rfl rfl rfl (fun (c3 : ¬ (I 24 l) = (-1)) => ?_) (fun (c3' : ¬ ¬ (I 24 l) = (-1)) => ?_)
    · skip
      refine go_s (pc' := 31) rfl rfl rfl rfl ?_
      refine go_s (pc' := 32) rfl rfl rfl rfl ?_
      have hU4 : RU w B R [] true h1 am ln K (I, Q, Z) := RU_I (sm_e_refl (tbr am (13 * ln) 77 5088) _) (I' := I) (fun _ => rfl) (fun _ => rfl) (Nat.le_refl _) hU
      refine go_callV (pc' := 33) rfl rfl rfl (Nat.le_of_ble_eq_true rfl) rfl (sm_o hS rfl) rfl rfl rfl (rx_wn hr hS hln hW hWm (l := l) (x := x) (n := q.length) hl hx (by omega) h55 h53 (by omega)) (fun r h5 q6 => ?_)
      obtain ⟨rfl, hS7, hE8⟩ := q6
      have hS10 : sm (tbr am (13 * ln) 77 5088) _ (jn (uI I 24 l (-1)) (uI K 50 (13 * x + 2) (-1))) Y := sm_jg hr hS7 (fun c j _ n1 n2 n3 => uI_c n1)
      have hU9 : RU w B R [] true h5 am ln (uI K 50 (13 * x + 2) (-1)) ((uI I 24 l (-1)), Q, Z) := RU_bus hl hU4 hln hE8 hQ h53 hx (fun i hi => uI_j hi) (fun i _ => uI_c (by decide)) rfl (fun c j _ hc => if_neg (fun z => hc ⟨z.1, Or.inl z.2⟩)) (uI_s.trans uI_s.symm) ((uI_j (by omega)).trans (hk3.trans (uI_c (by decide)).symm))
      refine go_s (pc' := 34) (st' := [.int 1]) rfl rfl rfl rfl ?_
      refine go_ret rfl rfl ?_
      have hA11 : RA w B R [] true h5 ((uI I 24 l (-1)), Q, Z) := RA_u.mpr ⟨_, _, _, _, hS10, hU9⟩
      have hms : mlos f p (I, Q, Z) = (1, ((uI I 24 l (-1)), Q, Z)) := by
        unfold mlos
        rw [← el]
        exact if_neg c3
      rw [hms]
      exact ⟨rfl, hA11⟩
    · skip
      have c3 : (I 24 l) = (-1) := Decidable.not_not.mp c3'
      refine go_s (pc' := 29) (st' := [.int 0]) rfl rfl rfl rfl ?_
      refine go_ret rfl rfl ?_
      have hms : mlos f p (I, Q, Z) = (0, (I, Q, Z)) := by
        unfold mlos
        rw [← el]
        exact if_pos c3
      rw [hms]
      exact ⟨rfl, hA⟩
theorem ra_lnk {w : Nat → Bool} {d B R : Nat} {h : am_Hp} {I : sm_I} {Q : mQ} {Z : mZ} (hA : RA w B R [] true h (I, Q, Z)) (hR : R + 0 < 40000) {f p : Nat} (hf : f < 4) (hp : p < 4) (hfp : ¬ f = p) {x : Int32} (hd : 3 ≤ d) : am_Ev (am_prog w) d 189 [.ref 62, .int (nI f), .int (nI p), .int x] h (fun r h' => r = some (.int (mqlk f p x (I, Q, Z))) ∧ h' = h) := by
  obtain ⟨K, Y, am, ln, hS, hU⟩ := RA_u.mp hA
  change sm (tbr am (13 * ln) 77 5088) h (jn I K) Y at hS
  obtain ⟨hW, hWm, -, -, hr, -⟩ := id hU.1
  have hln := RU_ln hU (by omega)
  obtain ⟨d, rfl⟩ : ∃ e, d = e + 1 := ⟨d - 1, by omega⟩
  refine ev_go rfl (Nat.le_of_ble_eq_true rfl) rfl ?_
  refine go_s (pc' := 1) rfl rfl rfl rfl ?_
  refine go_s (pc' := 2) rfl rfl rfl rfl ?_
  refine go_callS (pc' := 3) rfl rfl rfl (Nat.le_of_ble_eq_true rfl) rfl rfl rfl (rt_isl_t (f := f) (p := p) hf hp hfp (by omega)) (fun r h1 q2 => ?_)
  obtain ⟨rfl, rfl⟩ := q2
  refine go_ifP (t' := 6) (pc' := 4) rfl rfl rfl (fun _ => ?_) (fun (c : ¬ (¬ (1 : Int32) = 0)) => absurd (by decide) c)
  refine go_s (pc' := 7) (st' := [.int 4]) rfl rfl rfl rfl ?_
  refine go_s (pc' := 8) rfl rfl rfl rfl ?_
  refine go_nmul (pc' := 9) (a := 4) (b := f) rfl rfl rfl rfl rfl ?_
  refine go_s (pc' := 10) rfl rfl rfl rfl ?_
  refine go_nadd (pc' := 11) (a := (4 * f)) (b := p) rfl rfl rfl rfl rfl ?_
  refine go_s (pc' := 12) (lo' := [some (.ref 62), some (.int (nI f)), some (.int (nI p)), some (.int x), some (.int (nI ((4 * f) + p)))]) rfl rfl rfl rfl ?_
  obtain ⟨l, el⟩ : ∃ l, l = 4 * f + p := ⟨_, rfl⟩
  rw [show (4 * f) + p = l from el.symm]
  have hl : l < 16 := by omega
  cases hQ : Q l with
  | nil =>
    have h55 : K 55 l = 0 := by
      have z := (RU_lk (l := l) hU hl).1
      rw [hQ] at z
      exact z
    refine go_s (pc' := 13) rfl rfl rfl rfl ?_
    refine go_ifP (t' := 19) (pc' := 14) rfl rfl rfl (fun (c3 : ¬ x = 0) => ?_) (fun (c3' : ¬ ¬ x = 0) => ?_)
    · skip
      refine go_s (pc' := 20) rfl rfl rfl rfl ?_
      refine go_s (pc' := 21) (st' := [.int 4, .int x]) rfl rfl rfl rfl ?_
      refine go_icmpP (t' := 27) (pc' := 22) rfl rfl rfl (fun (c4 : ¬ x = 4) => ?_) (fun (c4' : ¬ ¬ x = 4) => ?_)
      · skip
        refine go_s (pc' := 28) rfl rfl rfl rfl ?_
        refine go_sget (pc' := 29) (v := .ref 74) hS rfl rfl rfl (by decide) rfl rfl ?_
        refine go_s (pc' := 30) rfl rfl rfl rfl ?_
        refine go_sald (pc' := 31) (q := l) (v := .int 0) hS rfl (tr_s hr (a := 74) rfl (by omega)) rfl rfl (by omega) (congrArg Value.int h55) rfl ?_
        refine go_ifP (t' := 34) (pc' := 32) rfl rfl rfl (fun (c : ¬ (0 : Int32) = 0) => absurd c (by decide)) (fun _ => ?_)
        refine go_s (pc' := 33) (st' := [.int (-1)]) rfl rfl rfl rfl ?_
        refine go_ret rfl rfl ?_
        have hms : mqlk f p x (I, Q, Z) = (-1) := by
          unfold mqlk
          rw [← el, show ((I, Q, Z) : mM).2.1 l = [] from hQ]
          exact (if_neg c3).trans ((if_neg c4).trans rfl)
        rw [hms]
        exact ⟨rfl, rfl⟩
      · skip
        have c4 : x = 4 := Decidable.not_not.mp c4'
        refine go_s (pc' := 23) rfl rfl rfl rfl ?_
        refine go_sget (pc' := 24) (v := .ref 76) hS rfl rfl rfl (by decide) rfl rfl ?_
        refine go_s (pc' := 25) rfl rfl rfl rfl ?_
        refine go_sald (pc' := 26) (q := l) (v := .int (I 10 l)) hS rfl (tr_s hr (a := 76) rfl (by omega)) rfl rfl (by omega) rfl rfl ?_
        refine go_ret rfl rfl ?_
        have hms : mqlk f p x (I, Q, Z) = (I 10 l) := by
          unfold mqlk
          rw [← el, show ((I, Q, Z) : mM).2.1 l = [] from hQ]
          exact (if_neg c3).trans (if_pos c4)
        rw [hms]
        exact ⟨rfl, rfl⟩
    · skip
      have c3 : x = 0 := Decidable.not_not.mp c3'
      refine go_s (pc' := 15) rfl rfl rfl rfl ?_
      refine go_sget (pc' := 16) (v := .ref 74) hS rfl rfl rfl (by decide) rfl rfl ?_
      refine go_s (pc' := 17) rfl rfl rfl rfl ?_
      refine go_sald (pc' := 18) (q := l) (v := .int 0) hS rfl (tr_s hr (a := 74) rfl (by omega)) rfl rfl (by omega) (congrArg Value.int h55) rfl ?_
      refine go_ret rfl rfl ?_
      have hms : mqlk f p x (I, Q, Z) = 0 := by
        unfold mqlk
        rw [← el, show ((I, Q, Z) : mM).2.1 l = [] from hQ]
        exact if_pos c3
      rw [hms]
      exact ⟨rfl, rfl⟩
  | cons m q =>
    obtain ⟨hk559, hle9, hxx9⟩ := RU_lk (l := l) hU hl
    obtain ⟨x9, h539, hx9, hk29, hk39, hk09, hk19⟩ := hxx9 m q hQ
    rw [hQ] at hk559 hle9
    have h559 : K 55 l = nI (q.length + 1) := hk559
    have hle29 : q.length + 1 ≤ ln := hle9
    refine go_s (pc' := 13) rfl rfl rfl rfl ?_
    refine go_ifP (t' := 19) (pc' := 14) rfl rfl rfl (fun (c5 : ¬ x = 0) => ?_) (fun (c5' : ¬ ¬ x = 0) => ?_)
    · skip
      refine go_s (pc' := 20) rfl rfl rfl rfl ?_
      refine go_s (pc' := 21) (st' := [.int 4, .int x]) rfl rfl rfl rfl ?_
      refine go_icmpP (t' := 27) (pc' := 22) rfl rfl rfl (fun (c6 : ¬ x = 4) => ?_) (fun (c6' : ¬ ¬ x = 4) => ?_)
      · skip
        refine go_s (pc' := 28) rfl rfl rfl rfl ?_
        refine go_sget (pc' := 29) (v := .ref 74) hS rfl rfl rfl (by decide) rfl rfl ?_
        refine go_s (pc' := 30) rfl rfl rfl rfl ?_
        refine go_sald (pc' := 31) (q := l) (v := .int (nI (q.length + 1))) hS rfl (tr_s hr (a := 74) rfl (by omega)) rfl rfl (by omega) (congrArg Value.int h559) rfl ?_
        refine go_ifP (t' := 34) (pc' := 32) rfl rfl rfl (fun _ => ?_) (fun (c : ¬ (¬ (nI (q.length + 1)) = 0)) => absurd (nI_n0 (by omega)) c)
        refine go_s (pc' := 35) rfl rfl rfl rfl ?_
        refine go_s (pc' := 36) (st' := [.int 1, .int x]) rfl rfl rfl rfl ?_
        refine go_icmpP (t' := 47) (pc' := 37) rfl rfl rfl (fun (c7 : ¬ x = 1) => ?_) (fun (c7' : ¬ ¬ x = 1) => ?_)
        · skip
          refine go_s (pc' := 48) rfl rfl rfl rfl ?_
          refine go_s (pc' := 49) (st' := [.int 2, .int x]) rfl rfl rfl rfl ?_
          refine go_icmpP (t' := 60) (pc' := 50) rfl rfl rfl (fun (c8 : ¬ x = 2) => ?_) (fun (c8' : ¬ ¬ x = 2) => ?_)
          · skip
            refine go_s (pc' := 61) rfl rfl rfl rfl ?_
            refine go_s (pc' := 62) (st' := [.int 3, .int x]) rfl rfl rfl rfl ?_
            refine go_icmpP (t' := 73) (pc' := 63) rfl rfl rfl (fun (c9 : ¬ x = 3) => ?_) (fun (c9' : ¬ ¬ x = 3) => ?_)
            · skip
              refine go_s (pc' := 74) (st' := [.int (-1)]) rfl rfl rfl rfl ?_
              refine go_ret rfl rfl ?_
              have hms : mqlk f p x (I, Q, Z) = (-1) := by
                unfold mqlk
                rw [← el, show ((I, Q, Z) : mM).2.1 l = m :: q from hQ]
                exact (if_neg c5).trans ((if_neg c6).trans ((if_neg c7).trans ((if_neg c8).trans (if_neg c9))))
              rw [hms]
              exact ⟨rfl, rfl⟩
            · skip
              have c9 : x = 3 := Decidable.not_not.mp c9'
              refine go_s (pc' := 64) rfl rfl rfl rfl ?_
              refine go_sget (pc' := 65) (v := .ref am) hS rfl rfl rfl (by decide) rfl rfl ?_
              refine go_s (pc' := 66) rfl rfl rfl rfl ?_
              refine go_sget (pc' := 67) (v := .ref 72) hS rfl rfl rfl (by decide) rfl rfl ?_
              refine go_s (pc' := 68) rfl rfl rfl rfl ?_
              refine go_sald (pc' := 69) (q := l) (v := .int (nI (13 * x9))) hS rfl (tr_s hr (a := 72) rfl (by omega)) rfl rfl (by omega) (congrArg Value.int h539) rfl ?_
              refine go_s (pc' := 70) (st' := [.int 1, .int (nI (13 * x9)), .ref am]) rfl rfl rfl rfl ?_
              refine go_nadd (pc' := 71) (a := (13 * x9)) (b := 1) rfl rfl rfl rfl rfl ?_
              refine go_sald (pc' := 72) (q := ((13 * x9) + 1)) (v := .int (m.1 1)) hS rfl (tr_ms hr (by omega)) rfl rfl (by omega) (congrArg Value.int hk19) rfl ?_
              refine go_s (pc' := 74) rfl rfl rfl rfl ?_
              refine go_ret rfl rfl ?_
              have hms : mqlk f p x (I, Q, Z) = (m.1 1) := by
                unfold mqlk
                rw [← el, show ((I, Q, Z) : mM).2.1 l = m :: q from hQ]
                exact (if_neg c5).trans ((if_neg c6).trans ((if_neg c7).trans ((if_neg c8).trans (if_pos c9))))
              rw [hms]
              exact ⟨rfl, rfl⟩
          · skip
            have c8 : x = 2 := Decidable.not_not.mp c8'
            refine go_s (pc' := 51) rfl rfl rfl rfl ?_
            refine go_sget (pc' := 52) (v := .ref am) hS rfl rfl rfl (by decide) rfl rfl ?_
            refine go_s (pc' := 53) rfl rfl rfl rfl ?_
            refine go_sget (pc' := 54) (v := .ref 72) hS rfl rfl rfl (by decide) rfl rfl ?_
            refine go_s (pc' := 55) rfl rfl rfl rfl ?_
            refine go_sald (pc' := 56) (q := l) (v := .int (nI (13 * x9))) hS rfl (tr_s hr (a := 72) rfl (by omega)) rfl rfl (by omega) (congrArg Value.int h539) rfl ?_
            refine go_s (pc' := 57) (st' := [.int 2, .int (nI (13 * x9)), .ref am]) rfl rfl rfl rfl ?_
            refine go_nadd (pc' := 58) (a := (13 * x9)) (b := 2) rfl rfl rfl rfl rfl ?_
            refine go_sald (pc' := 59) (q := ((13 * x9) + 2)) (v := .int (I 24 l)) hS rfl (tr_ms hr (by omega)) rfl rfl (by omega) (congrArg Value.int hk29) rfl ?_
            refine go_s (pc' := 74) rfl rfl rfl rfl ?_
            refine go_ret rfl rfl ?_
            have hms : mqlk f p x (I, Q, Z) = (I 24 l) := by
              unfold mqlk
              rw [← el, show ((I, Q, Z) : mM).2.1 l = m :: q from hQ]
              exact (if_neg c5).trans ((if_neg c6).trans ((if_neg c7).trans (if_pos c8)))
            rw [hms]
            exact ⟨rfl, rfl⟩
        · skip
          have c7 : x = 1 := Decidable.not_not.mp c7'
          refine go_s (pc' := 38) rfl rfl rfl rfl ?_
          refine go_sget (pc' := 39) (v := .ref am) hS rfl rfl rfl (by decide) rfl rfl ?_
          refine go_s (pc' := 40) rfl rfl rfl rfl ?_
          refine go_sget (pc' := 41) (v := .ref 72) hS rfl rfl rfl (by decide) rfl rfl ?_
          refine go_s (pc' := 42) rfl rfl rfl rfl ?_
          refine go_sald (pc' := 43) (q := l) (v := .int (nI (13 * x9))) hS rfl (tr_s hr (a := 72) rfl (by omega)) rfl rfl (by omega) (congrArg Value.int h539) rfl ?_
          refine go_s (pc' := 44) (st' := [.int 0, .int (nI (13 * x9)), .ref am]) rfl rfl rfl rfl ?_
          refine go_nadd (pc' := 45) (a := (13 * x9)) (b := 0) rfl rfl rfl rfl rfl ?_
          refine go_sald (pc' := 46) (q := ((13 * x9) + 0)) (v := .int (m.1 0)) hS rfl (tr_ms hr (by omega)) rfl rfl (by omega) (congrArg Value.int hk09) rfl ?_
          refine go_s (pc' := 74) rfl rfl rfl rfl ?_
          refine go_ret rfl rfl ?_
          have hms : mqlk f p x (I, Q, Z) = (m.1 0) := by
            unfold mqlk
            rw [← el, show ((I, Q, Z) : mM).2.1 l = m :: q from hQ]
            exact (if_neg c5).trans ((if_neg c6).trans (if_pos c7))
          rw [hms]
          exact ⟨rfl, rfl⟩
      · skip
        have c6 : x = 4 := Decidable.not_not.mp c6'
        refine go_s (pc' := 23) rfl rfl rfl rfl ?_
        refine go_sget (pc' := 24) (v := .ref 76) hS rfl rfl rfl (by decide) rfl rfl ?_
        refine go_s (pc' := 25) rfl rfl rfl rfl ?_
        refine go_sald (pc' := 26) (q := l) (v := .int (I 10 l)) hS rfl (tr_s hr (a := 76) rfl (by omega)) rfl rfl (by omega) rfl rfl ?_
        refine go_ret rfl rfl ?_
        have hms : mqlk f p x (I, Q, Z) = (I 10 l) := by
          unfold mqlk
          rw [← el, show ((I, Q, Z) : mM).2.1 l = m :: q from hQ]
          exact (if_neg c5).trans (if_pos c6)
        rw [hms]
        exact ⟨rfl, rfl⟩
    · skip
      have c5 : x = 0 := Decidable.not_not.mp c5'
      refine go_s (pc' := 15) rfl rfl rfl rfl ?_
      refine go_sget (pc' := 16) (v := .ref 74) hS rfl rfl rfl (by decide) rfl rfl ?_
      refine go_s (pc' := 17) rfl rfl rfl rfl ?_
      refine go_sald (pc' := 18) (q := l) (v := .int (nI (q.length + 1))) hS rfl (tr_s hr (a := 74) rfl (by omega)) rfl rfl (by omega) (congrArg Value.int h559) rfl ?_
      refine go_ret rfl rfl ?_
      have hms : mqlk f p x (I, Q, Z) = (nI (q.length + 1)) := by
        unfold mqlk
        rw [← el, show ((I, Q, Z) : mM).2.1 l = m :: q from hQ]
        exact if_pos c5
      rw [hms]
      exact ⟨rfl, rfl⟩
theorem ra_arr_0_0 {w : Nat → Bool} {d B R : Nat} {h : am_Hp} {I : sm_I} {Q : mQ} {Z : mZ} (hA : RA w B R [] true h (I, Q, Z)) (hR : R + 20 < 40000) {X : Nat} (hX : X + 60 < 2 ^ 28) (hV : XV X (I, Q, Z)) {f : Nat} (hf : f < 4) (hfp : ¬ f = 0) (hd : 12 ≤ d) : am_Ev (am_prog w) d 176 [.ref 62, .int (nI f), .int 0, .int 0] h (fun r h' => r = some (.int (rarr f 0 false (I, Q, Z)).1) ∧ RA w B (R + 4) [] true h' (rarr f 0 false (I, Q, Z)).2) := by
  obtain ⟨K, Y, am, ln, hS, hU⟩ := RA_u.mp hA
  change sm (tbr am (13 * ln) 77 5088) h (jn I K) Y at hS
  obtain ⟨hW, hWm, -, -, hr, -⟩ := id hU.1
  have hln := RU_ln hU (by omega)
  obtain ⟨d, rfl⟩ : ∃ e, d = e + 1 := ⟨d - 1, by omega⟩
  refine ev_go rfl (Nat.le_of_ble_eq_true rfl) rfl ?_
  refine go_s (pc' := 1) rfl rfl rfl rfl ?_
  refine go_s (pc' := 2) rfl rfl rfl rfl ?_
  refine go_callS (pc' := 3) rfl rfl rfl (Nat.le_of_ble_eq_true rfl) rfl rfl rfl (rt_isl_t (f := f) (p := 0) hf (by decide) hfp (by omega)) (fun r h1 q2 => ?_)
  obtain ⟨rfl, rfl⟩ := q2
  refine go_ifP (t' := 6) (pc' := 4) rfl rfl rfl (fun _ => ?_) (fun (c : ¬ (¬ (1 : Int32) = 0)) => absurd (by decide) c)
  refine go_s (pc' := 7) (st' := [.int 4]) rfl rfl rfl rfl ?_
  refine go_s (pc' := 8) rfl rfl rfl rfl ?_
  refine go_nmul (pc' := 9) (a := 4) (b := f) rfl rfl rfl rfl rfl ?_
  refine go_s (pc' := 10) rfl rfl rfl rfl ?_
  refine go_nadd (pc' := 11) (a := (4 * f)) (b := 0) rfl rfl rfl rfl rfl ?_
  refine go_s (pc' := 12) (lo' := [some (.ref 62), some (.int (nI f)), some (.int 0), some (.int 0), some (.int (nI ((4 * f) + 0))), none, none]) rfl rfl rfl rfl ?_
  obtain ⟨l, el⟩ : ∃ l, l = 4 * f + 0 := ⟨_, rfl⟩
  rw [show (4 * f) + 0 = l from el.symm]
  have hl : l < 16 := by omega
  cases hQ : Q l with
  | nil =>
    have h55 : K 55 l = 0 := by
      have z := (RU_lk (l := l) hU hl).1
      rw [hQ] at z
      exact z
    refine go_s (pc' := 13) rfl rfl rfl rfl ?_
    refine go_sget (pc' := 14) (v := .ref 74) hS rfl rfl rfl (by decide) rfl rfl ?_
    refine go_s (pc' := 15) rfl rfl rfl rfl ?_
    refine go_sald (pc' := 16) (q := l) (v := .int 0) hS rfl (tr_s hr (a := 74) rfl (by omega)) rfl rfl (by omega) (congrArg Value.int h55) rfl ?_
    refine go_ifP (t' := 28) (pc' := 17) rfl rfl rfl (fun _ => ?_) (fun (c : ¬ ((0 : Int32) = 0)) => absurd (by decide) c)
    refine go_s (pc' := 29) (st' := [.int 0]) rfl rfl rfl rfl ?_
    refine go_ret rfl rfl ?_
    have hms : rarr f 0 false (I, Q, Z) = (0, (I, Q, Z)) := by
      unfold rarr
      rw [← el, show ((I, Q, Z) : mM).2.1 l = [] from hQ]
    rw [hms]
    exact ⟨rfl, RA_R (by omega) hA⟩
  | cons m q =>
    obtain ⟨hk55, hle, hxx⟩ := RU_lk (l := l) hU hl
    obtain ⟨x, h53, hx, hk2, hk3, hk0, hk1⟩ := hxx m q hQ
    rw [hQ] at hk55 hle
    have h55 : K 55 l = nI (q.length + 1) := hk55
    have hle2 : q.length + 1 ≤ ln := hle
    refine go_s (pc' := 13) rfl rfl rfl rfl ?_
    refine go_sget (pc' := 14) (v := .ref 74) hS rfl rfl rfl (by decide) rfl rfl ?_
    refine go_s (pc' := 15) rfl rfl rfl rfl ?_
    refine go_sald (pc' := 16) (q := l) (v := .int (nI (q.length + 1))) hS rfl (tr_s hr (a := 74) rfl (by omega)) rfl rfl (by omega) (congrArg Value.int h55) rfl ?_
    refine go_ifP (t' := 28) (pc' := 17) rfl rfl rfl (fun (c : (nI (q.length + 1)) = 0) => absurd c (nI_n0 (by omega))) (fun _ => ?_)
    refine go_s (pc' := 18) rfl rfl rfl rfl ?_
    refine go_sget (pc' := 19) (v := .ref am) hS rfl rfl rfl (by decide) rfl rfl ?_
    refine go_s (pc' := 20) rfl rfl rfl rfl ?_
    refine go_sget (pc' := 21) (v := .ref 72) hS rfl rfl rfl (by decide) rfl rfl ?_
    refine go_s (pc' := 22) rfl rfl rfl rfl ?_
    refine go_sald (pc' := 23) (q := l) (v := .int (nI (13 * x))) hS rfl (tr_s hr (a := 72) rfl (by omega)) rfl rfl (by omega) (congrArg Value.int h53) rfl ?_
    refine go_s (pc' := 24) (st' := [.int 2, .int (nI (13 * x)), .ref am]) rfl rfl rfl rfl ?_
    refine go_nadd (pc' := 25) (a := (13 * x)) (b := 2) rfl rfl rfl rfl rfl ?_
    refine go_sald (pc' := 26) (q := ((13 * x) + 2)) (v := .int (I 24 l)) hS rfl (tr_ms hr (by omega)) rfl rfl (by omega) (congrArg Value.int hk2) rfl ?_
    refine go_s (pc' := 27) (st' := [.int (-1), .int (I 24 l)]) rfl rfl rfl rfl ?_
    refine go_icmpP (t' := 30) (pc' := 28) rfl rfl rfl (fun (c3 : ¬ (I 24 l) = (-1)) => ?_) (fun (c3' : ¬ ¬ (I 24 l) = (-1)) => ?_)
    · skip
      refine go_s (pc' := 31) rfl rfl rfl rfl ?_
      refine go_sget (pc' := 32) (v := .ref 72) hS rfl rfl rfl (by decide) rfl rfl ?_
      refine go_s (pc' := 33) rfl rfl rfl rfl ?_
      refine go_sald (pc' := 34) (q := l) (v := .int (nI (13 * x))) hS rfl (tr_s hr (a := 72) rfl (by omega)) rfl rfl (by omega) (congrArg Value.int h53) rfl ?_
      refine go_s (pc' := 35) (lo' := [some (.ref 62), some (.int (nI f)), some (.int 0), some (.int 0), some (.int (nI l)), some (.int (nI (13 * x))), none]) rfl rfl rfl rfl ?_
      refine go_s (pc' := 36) rfl rfl rfl rfl ?_
      refine go_sget (pc' := 37) (v := .ref am) hS rfl rfl rfl (by decide) rfl rfl ?_
      refine go_s (pc' := 38) rfl rfl rfl rfl ?_
      refine go_s (pc' := 39) (st' := [.int 1, .int (nI (13 * x)), .ref am]) rfl rfl rfl rfl ?_
      refine go_nadd (pc' := 40) (a := (13 * x)) (b := 1) rfl rfl rfl rfl rfl ?_
      refine go_sald (pc' := 41) (q := ((13 * x) + 1)) (v := .int (m.1 1)) hS rfl (tr_ms hr (by omega)) rfl rfl (by omega) (congrArg Value.int hk1) rfl ?_
      refine go_s (pc' := 42) rfl rfl rfl rfl ?_
      refine go_sget (pc' := 43) (v := .ref 76) hS rfl rfl rfl (by decide) rfl rfl ?_
      refine go_s (pc' := 44) rfl rfl rfl rfl ?_
      refine go_sald (pc' := 45) (q := l) (v := .int (I 10 l)) hS rfl (tr_s hr (a := 76) rfl (by omega)) rfl rfl (by omega) rfl rfl ?_
      refine go_icmpP (t' := 48) (pc' := 46) rfl rfl rfl (fun (c4 : (m.1 1) ≤ (I 10 l)) => ?_) (fun (c4 : ¬ (m.1 1) ≤ (I 10 l)) => ?_)
      · skip
        refine go_s (pc' := 49) (st' := [.int 0]) rfl rfl rfl rfl ?_
        refine go_s (pc' := 50) (lo' := [some (.ref 62), some (.int (nI f)), some (.int 0), some (.int 0), some (.int (nI l)), some (.int (nI (13 * x))), some (.int 0)]) rfl rfl rfl rfl ?_
        refine go_s (pc' := 51) rfl rfl rfl rfl ?_
        refine go_ifP (t' := 56) (pc' := 52) rfl rfl rfl (fun _ => ?_) (fun (c : ¬ ((0 : Int32) = 0)) => absurd (by decide) c)
        refine go_s (pc' := 57) rfl rfl rfl rfl ?_
        refine go_s (pc' := 58) rfl rfl rfl rfl ?_
        refine go_callV (pc' := 59) rfl rfl rfl (Nat.le_of_ble_eq_true rfl) rfl (sm_o hS rfl) rfl rfl rfl (ra_lv hl hS hU hln hQ h53 hx (by omega)) (fun r h5 q6 => ?_)
        obtain ⟨rfl, am8, ln8, K8, Y8, hS8, hU8, hln8⟩ := q6
        obtain ⟨M8, eM8⟩ : ∃ y : mM, y = mlv l (I, Q, Z) := ⟨_, rfl⟩
        rw [← eM8] at hS8 hU8
        obtain ⟨I8, Q8, Z8⟩ := M8
        change sm (tbr am8 (13 * ln8) 77 5088) h5 (jn I8 K8) Y8 at hS8
        obtain ⟨-, hWm8, -, -, hr8, -⟩ := id hU8.1
        have hx8 := RU_h hU8 (x := x) (m := m) (by simp)
        have hxl8 := hx8.1
        refine go_s (pc' := 60) rfl rfl rfl rfl ?_
        refine go_ifP (t' := 76) (pc' := 61) rfl rfl rfl (fun _ => ?_) (fun (c : ¬ ((0 : Int32) = 0)) => absurd (by decide) c)
        refine go_s (pc' := 77) rfl rfl rfl rfl ?_
        refine go_ifP (t' := 81) (pc' := 78) rfl rfl rfl (fun (c : ¬ (0 : Int32) = 0) => absurd c (by decide)) (fun _ => ?_)
        refine go_s (pc' := 79) rfl rfl rfl rfl ?_
        refine go_s (pc' := 80) rfl rfl rfl rfl ?_
        have hU7 : RU w B R [(x, m)] true h5 am8 ln8 K8 (I8, Q8, Z8) := RU_I (sm_e_refl (tbr am8 (13 * ln8) 77 5088) _) (I' := I8) (fun _ => rfl) (fun _ => rfl) (Nat.le_refl _) hU8
        have hA8 : RA w B R [(x, m)] true h5 (I8, Q8, Z8) := RA_u.mpr ⟨_, _, _, _, hS8, hU7⟩
        refine go_callV (pc' := 81) rfl rfl rfl (Nat.le_of_ble_eq_true rfl) rfl (sm_o hS8 rfl) rfl rfl rfl (ra_gs (hb := true) hA8 (by omega) (by omega)) (fun r h9 q10 => ?_)
        obtain ⟨rfl, hA11⟩ := q10
        refine go_s (pc' := 82) rfl rfl rfl rfl ?_
        refine go_ifP (t' := 85) (pc' := 83) rfl rfl rfl (fun _ => ?_) (fun (c : ¬ ((0 : Int32) = 0)) => absurd (by decide) c)
        refine go_s (pc' := 86) (st' := [.int 2]) rfl rfl rfl rfl ?_
        refine go_ret rfl rfl ?_
        have hms : rarr f 0 false (I, Q, Z) = (2, (I8, Q8, Z8)) := by
          unfold rarr
          rw [← el, show ((I, Q, Z) : mM).2.1 l = m :: q from hQ]
          exact (if_neg c3).trans ((if_pos c4).trans (by rw [eM8]; rfl))
        rw [hms]
        exact ⟨rfl, RA_R (by omega) hA11⟩
      · skip
        refine go_s (pc' := 47) (st' := [.int 1]) rfl rfl rfl rfl ?_
        refine go_s (pc' := 49) rfl rfl rfl rfl ?_
        refine go_s (pc' := 50) (lo' := [some (.ref 62), some (.int (nI f)), some (.int 0), some (.int 0), some (.int (nI l)), some (.int (nI (13 * x))), some (.int 1)]) rfl rfl rfl rfl ?_
        refine go_s (pc' := 51) rfl rfl rfl rfl ?_
        refine go_ifP (t' := 56) (pc' := 52) rfl rfl rfl (fun _ => ?_) (fun (c : ¬ ((0 : Int32) = 0)) => absurd (by decide) c)
        refine go_s (pc' := 57) rfl rfl rfl rfl ?_
        refine go_s (pc' := 58) rfl rfl rfl rfl ?_
        refine go_callV (pc' := 59) rfl rfl rfl (Nat.le_of_ble_eq_true rfl) rfl (sm_o hS rfl) rfl rfl rfl (ra_lv hl hS hU hln hQ h53 hx (by omega)) (fun r h12 q13 => ?_)
        obtain ⟨rfl, am8, ln8, K8, Y8, hS8, hU8, hln8⟩ := q13
        obtain ⟨M8, eM8⟩ : ∃ y : mM, y = mlv l (I, Q, Z) := ⟨_, rfl⟩
        rw [← eM8] at hS8 hU8
        obtain ⟨I8, Q8, Z8⟩ := M8
        change sm (tbr am8 (13 * ln8) 77 5088) h12 (jn I8 K8) Y8 at hS8
        obtain ⟨-, hWm8, -, -, hr8, -⟩ := id hU8.1
        have hx8 := RU_h hU8 (x := x) (m := m) (by simp)
        have hxl8 := hx8.1
        refine go_s (pc' := 60) rfl rfl rfl rfl ?_
        refine go_ifP (t' := 76) (pc' := 61) rfl rfl rfl (fun (c : (1 : Int32) = 0) => absurd c (by decide)) (fun _ => ?_)
        refine go_s (pc' := 62) rfl rfl rfl rfl ?_
        refine go_sget (pc' := 63) (v := .ref 76) hS8 rfl rfl rfl (by decide) rfl rfl ?_
        refine go_s (pc' := 64) rfl rfl rfl rfl ?_
        refine go_s (pc' := 65) rfl rfl rfl rfl ?_
        refine go_sget (pc' := 66) (v := .ref am8) hS8 rfl rfl rfl (by decide) rfl rfl ?_
        refine go_s (pc' := 67) rfl rfl rfl rfl ?_
        refine go_s (pc' := 68) (st' := [.int 1, .int (nI (13 * x)), .ref am8, .int (nI l), .ref 76]) rfl rfl rfl rfl ?_
        refine go_nadd (pc' := 69) (a := (13 * x)) (b := 1) rfl rfl rfl rfl rfl ?_
        refine go_sald (pc' := 70) (q := ((13 * x) + 1)) (v := .int (m.1 1)) hS8 rfl (tr_ms hr8 (by omega)) rfl rfl (by omega) (congrArg Value.int hx8.2.2.1) rfl ?_
        refine go_siast (pc' := 71) (q := l) hS8 rfl (tr_s hr8 (a := 76) rfl (by omega)) tbr_inj (Nat.le_of_ble_eq_true rfl) rfl (by omega) (by decide) (hW _ (by decide) (by decide)) rfl (fun h14 hS15 hE16 => ?_)
        refine go_s (pc' := 72) rfl rfl rfl rfl ?_
        refine go_s (pc' := 73) rfl rfl rfl rfl ?_
        refine go_s (pc' := 74) rfl rfl rfl rfl ?_
        refine go_s (pc' := 75) rfl rfl rfl rfl ?_
        change sm (tbr am8 (13 * ln8) 77 5088) _ (uI (jn I8 K8) 10 l (m.1 1)) Y8 at hS15
        rw [jn_lo (c := 10) (by decide)] at hS15
        have hU17 : RU w B R [(x, m)] true h14 am8 ln8 K8 ((uI I8 10 l (m.1 1)), Q8, Z8) := RU_I (hE16) (I' := (uI I8 10 l (m.1 1))) (fun _ => rfl) (fun _ => rfl) (Nat.le_refl _) hU8
        have hNe : ((uI I8 10 l (m.1 1)), Q8, Z8) = mar2 l (m.1 1) (mar1 false l (I, Q, Z)) := by
          show _ = (uI (mlv l (I, Q, Z)).1 10 l (m.1 1), (mlv l (I, Q, Z)).2)
          rw [← eM8]
        obtain ⟨ka1, ka2, ka3, ka4, ka5, ka6⟩ := hV.1.1.2.2.2.2.2.1 l hl
        have hup : I 0 0 = 1 := by
          have z := (ka1 (show ¬ Q l = [] by rw [hQ]; exact List.cons_ne_nil _ _)).2.1
          rw [el, show (4 * f + 0) % 4 = 0 by omega] at z
          exact z
        have hMK : MK m := ka5 0 m (by show (Q l)[0]? = some m; rw [hQ]; rfl)
        have hN9 : INV X ((uI I8 10 l (m.1 1)), Q8, Z8) := by
          rw [hNe]
          exact (INV_m2 (lost := false) (by omega) hV.1 hl hQ).1
        have hup9 : (uI I8 10 l (m.1 1)) 0 0 = 1 := by
          rw [show (uI I8 10 l (m.1 1)) = (((uI I8 10 l (m.1 1)), Q8, Z8) : mM).1 from rfl, hNe]
          show uI (mar1 false l (I, Q, Z)).1 10 l (m.1 1) 0 0 = 1
          rw [uI_c (by decide), mar_f.1 0 (by decide) (by decide)]
          exact hup
        have hwd9 : ∀ k, k < 3 → m.1 0 = 5 → m.1 5 = nI k → m.1 6 = (uI I8 10 l (m.1 1)) 15 k → (∀ i y, ¬ US (uI I8 10 l (m.1 1)) Q8 k i y) ∧ ((uI I8 10 l (m.1 1)) 16 k = 1 → MID (X + 1) (rgo k ((uI I8 10 l (m.1 1)), Q8, Z8))) := fun k hk h0 h5 h6 => by
          have z := WD_of (N := ((uI I8 10 l (m.1 1)), Q8, Z8)) (lost := false) (by omega) hV.1 hV.2.1 hf (by decide : 0 < 4) el hl hQ c4 hk h5 h0 hNe h6
          exact ⟨z.2.2.1, z.2.2.2⟩
        have hU18 : RU w B R [(x, m)] true h14 am8 ln8 K8 ((uI I8 10 l (m.1 1)), Q8, Z8) := RU_I (sm_e_refl (tbr am8 (13 * ln8) 77 5088) _) (I' := (uI I8 10 l (m.1 1))) (fun _ => rfl) (fun _ => rfl) (Nat.le_refl _) hU17
        have hA19 : RA w B R [(x, m)] true h14 ((uI I8 10 l (m.1 1)), Q8, Z8) := RA_u.mpr ⟨_, _, _, _, hS15, hU18⟩
        refine go_callV (pc' := 76) rfl rfl rfl (Nat.le_of_ble_eq_true rfl) rfl (sm_o hS15 rfl) rfl rfl rfl (ra_br_0 hA19 (by omega) (by omega) hN9 hMK hup9 hf hwd9 (by omega)) (fun r h20 q21 => ?_)
        obtain ⟨rfl, hA22⟩ := q21
        refine go_s (pc' := 77) rfl rfl rfl rfl ?_
        refine go_ifP (t' := 81) (pc' := 78) rfl rfl rfl (fun (c : ¬ (0 : Int32) = 0) => absurd c (by decide)) (fun _ => ?_)
        refine go_s (pc' := 79) rfl rfl rfl rfl ?_
        refine go_s (pc' := 80) rfl rfl rfl rfl ?_
        obtain ⟨K9, Y9, am9, ln9, hS9, -⟩ := RA_u.mp hA22
        refine go_callV (pc' := 81) rfl rfl rfl (Nat.le_of_ble_eq_true rfl) rfl (sm_o hS9 rfl) rfl rfl rfl (ra_gs (hb := true) hA22 (by omega) (by omega)) (fun r h23 q24 => ?_)
        obtain ⟨rfl, hA25⟩ := q24
        refine go_s (pc' := 82) rfl rfl rfl rfl ?_
        refine go_ifP (t' := 85) (pc' := 83) rfl rfl rfl (fun (c : (1 : Int32) = 0) => absurd c (by decide)) (fun _ => ?_)
        refine go_s (pc' := 84) (st' := [.int 1]) rfl rfl rfl rfl ?_
        refine go_s (pc' := 86) rfl rfl rfl rfl ?_
        refine go_ret rfl rfl ?_
        have hms : rarr f 0 false (I, Q, Z) = (1, rbr f 0 m ((uI I8 10 l (m.1 1)), Q8, Z8)) := by
          unfold rarr
          rw [← el, show ((I, Q, Z) : mM).2.1 l = m :: q from hQ]
          exact (if_neg c3).trans ((if_neg c4).trans (by rw [hNe]))
        rw [hms]
        exact ⟨rfl, RA_R (by omega) hA25⟩
    · skip
      have c3 : (I 24 l) = (-1) := Decidable.not_not.mp c3'
      refine go_s (pc' := 29) (st' := [.int 0]) rfl rfl rfl rfl ?_
      refine go_ret rfl rfl ?_
      have hms : rarr f 0 false (I, Q, Z) = (0, (I, Q, Z)) := by
        unfold rarr
        rw [← el, show ((I, Q, Z) : mM).2.1 l = m :: q from hQ]
        exact if_pos c3
      rw [hms]
      exact ⟨rfl, RA_R (by omega) hA⟩
theorem ra_arr_1_0 {w : Nat → Bool} {d B R : Nat} {h : am_Hp} {I : sm_I} {Q : mQ} {Z : mZ} (hA : RA w B R [] true h (I, Q, Z)) (hR : R + 20 < 40000) {X : Nat} (hX : X + 60 < 2 ^ 28) (hV : XV X (I, Q, Z)) {f : Nat} (hf : f < 4) (hfp : ¬ f = 0) (hd : 12 ≤ d) : am_Ev (am_prog w) d 176 [.ref 62, .int (nI f), .int 0, .int 1] h (fun r h' => r = some (.int (rarr f 0 true (I, Q, Z)).1) ∧ RA w B (R + 4) [] true h' (rarr f 0 true (I, Q, Z)).2) := by
  obtain ⟨K, Y, am, ln, hS, hU⟩ := RA_u.mp hA
  change sm (tbr am (13 * ln) 77 5088) h (jn I K) Y at hS
  obtain ⟨hW, hWm, -, -, hr, -⟩ := id hU.1
  have hln := RU_ln hU (by omega)
  obtain ⟨d, rfl⟩ : ∃ e, d = e + 1 := ⟨d - 1, by omega⟩
  refine ev_go rfl (Nat.le_of_ble_eq_true rfl) rfl ?_
  refine go_s (pc' := 1) rfl rfl rfl rfl ?_
  refine go_s (pc' := 2) rfl rfl rfl rfl ?_
  refine go_callS (pc' := 3) rfl rfl rfl (Nat.le_of_ble_eq_true rfl) rfl rfl rfl (rt_isl_t (f := f) (p := 0) hf (by decide) hfp (by omega)) (fun r h1 q2 => ?_)
  obtain ⟨rfl, rfl⟩ := q2
  refine go_ifP (t' := 6) (pc' := 4) rfl rfl rfl (fun _ => ?_) (fun (c : ¬ (¬ (1 : Int32) = 0)) => absurd (by decide) c)
  refine go_s (pc' := 7) (st' := [.int 4]) rfl rfl rfl rfl ?_
  refine go_s (pc' := 8) rfl rfl rfl rfl ?_
  refine go_nmul (pc' := 9) (a := 4) (b := f) rfl rfl rfl rfl rfl ?_
  refine go_s (pc' := 10) rfl rfl rfl rfl ?_
  refine go_nadd (pc' := 11) (a := (4 * f)) (b := 0) rfl rfl rfl rfl rfl ?_
  refine go_s (pc' := 12) (lo' := [some (.ref 62), some (.int (nI f)), some (.int 0), some (.int 1), some (.int (nI ((4 * f) + 0))), none, none]) rfl rfl rfl rfl ?_
  obtain ⟨l, el⟩ : ∃ l, l = 4 * f + 0 := ⟨_, rfl⟩
  rw [show (4 * f) + 0 = l from el.symm]
  have hl : l < 16 := by omega
  cases hQ : Q l with
  | nil =>
    have h55 : K 55 l = 0 := by
      have z := (RU_lk (l := l) hU hl).1
      rw [hQ] at z
      exact z
    refine go_s (pc' := 13) rfl rfl rfl rfl ?_
    refine go_sget (pc' := 14) (v := .ref 74) hS rfl rfl rfl (by decide) rfl rfl ?_
    refine go_s (pc' := 15) rfl rfl rfl rfl ?_
    refine go_sald (pc' := 16) (q := l) (v := .int 0) hS rfl (tr_s hr (a := 74) rfl (by omega)) rfl rfl (by omega) (congrArg Value.int h55) rfl ?_
    refine go_ifP (t' := 28) (pc' := 17) rfl rfl rfl (fun _ => ?_) (fun (c : ¬ ((0 : Int32) = 0)) => absurd (by decide) c)
    refine go_s (pc' := 29) (st' := [.int 0]) rfl rfl rfl rfl ?_
    refine go_ret rfl rfl ?_
    have hms : rarr f 0 true (I, Q, Z) = (0, (I, Q, Z)) := by
      unfold rarr
      rw [← el, show ((I, Q, Z) : mM).2.1 l = [] from hQ]
    rw [hms]
    exact ⟨rfl, RA_R (by omega) hA⟩
  | cons m q =>
    obtain ⟨hk55, hle, hxx⟩ := RU_lk (l := l) hU hl
    obtain ⟨x, h53, hx, hk2, hk3, hk0, hk1⟩ := hxx m q hQ
    rw [hQ] at hk55 hle
    have h55 : K 55 l = nI (q.length + 1) := hk55
    have hle2 : q.length + 1 ≤ ln := hle
    refine go_s (pc' := 13) rfl rfl rfl rfl ?_
    refine go_sget (pc' := 14) (v := .ref 74) hS rfl rfl rfl (by decide) rfl rfl ?_
    refine go_s (pc' := 15) rfl rfl rfl rfl ?_
    refine go_sald (pc' := 16) (q := l) (v := .int (nI (q.length + 1))) hS rfl (tr_s hr (a := 74) rfl (by omega)) rfl rfl (by omega) (congrArg Value.int h55) rfl ?_
    refine go_ifP (t' := 28) (pc' := 17) rfl rfl rfl (fun (c : (nI (q.length + 1)) = 0) => absurd c (nI_n0 (by omega))) (fun _ => ?_)
    refine go_s (pc' := 18) rfl rfl rfl rfl ?_
    refine go_sget (pc' := 19) (v := .ref am) hS rfl rfl rfl (by decide) rfl rfl ?_
    refine go_s (pc' := 20) rfl rfl rfl rfl ?_
    refine go_sget (pc' := 21) (v := .ref 72) hS rfl rfl rfl (by decide) rfl rfl ?_
    refine go_s (pc' := 22) rfl rfl rfl rfl ?_
    refine go_sald (pc' := 23) (q := l) (v := .int (nI (13 * x))) hS rfl (tr_s hr (a := 72) rfl (by omega)) rfl rfl (by omega) (congrArg Value.int h53) rfl ?_
    refine go_s (pc' := 24) (st' := [.int 2, .int (nI (13 * x)), .ref am]) rfl rfl rfl rfl ?_
    refine go_nadd (pc' := 25) (a := (13 * x)) (b := 2) rfl rfl rfl rfl rfl ?_
    refine go_sald (pc' := 26) (q := ((13 * x) + 2)) (v := .int (I 24 l)) hS rfl (tr_ms hr (by omega)) rfl rfl (by omega) (congrArg Value.int hk2) rfl ?_
    refine go_s (pc' := 27) (st' := [.int (-1), .int (I 24 l)]) rfl rfl rfl rfl ?_
    refine go_icmpP (t' := 30) (pc' := 28) rfl rfl rfl (fun (c3 : ¬ (I 24 l) = (-1)) => ?_) (fun (c3' : ¬ ¬ (I 24 l) = (-1)) => ?_)
    · skip
      refine go_s (pc' := 31) rfl rfl rfl rfl ?_
      refine go_sget (pc' := 32) (v := .ref 72) hS rfl rfl rfl (by decide) rfl rfl ?_
      refine go_s (pc' := 33) rfl rfl rfl rfl ?_
      refine go_sald (pc' := 34) (q := l) (v := .int (nI (13 * x))) hS rfl (tr_s hr (a := 72) rfl (by omega)) rfl rfl (by omega) (congrArg Value.int h53) rfl ?_
      refine go_s (pc' := 35) (lo' := [some (.ref 62), some (.int (nI f)), some (.int 0), some (.int 1), some (.int (nI l)), some (.int (nI (13 * x))), none]) rfl rfl rfl rfl ?_
      refine go_s (pc' := 36) rfl rfl rfl rfl ?_
      refine go_sget (pc' := 37) (v := .ref am) hS rfl rfl rfl (by decide) rfl rfl ?_
      refine go_s (pc' := 38) rfl rfl rfl rfl ?_
      refine go_s (pc' := 39) (st' := [.int 1, .int (nI (13 * x)), .ref am]) rfl rfl rfl rfl ?_
      refine go_nadd (pc' := 40) (a := (13 * x)) (b := 1) rfl rfl rfl rfl rfl ?_
      refine go_sald (pc' := 41) (q := ((13 * x) + 1)) (v := .int (m.1 1)) hS rfl (tr_ms hr (by omega)) rfl rfl (by omega) (congrArg Value.int hk1) rfl ?_
      refine go_s (pc' := 42) rfl rfl rfl rfl ?_
      refine go_sget (pc' := 43) (v := .ref 76) hS rfl rfl rfl (by decide) rfl rfl ?_
      refine go_s (pc' := 44) rfl rfl rfl rfl ?_
      refine go_sald (pc' := 45) (q := l) (v := .int (I 10 l)) hS rfl (tr_s hr (a := 76) rfl (by omega)) rfl rfl (by omega) rfl rfl ?_
      refine go_icmpP (t' := 48) (pc' := 46) rfl rfl rfl (fun (c4 : (m.1 1) ≤ (I 10 l)) => ?_) (fun (c4 : ¬ (m.1 1) ≤ (I 10 l)) => ?_)
      · skip
        refine go_s (pc' := 49) (st' := [.int 0]) rfl rfl rfl rfl ?_
        refine go_s (pc' := 50) (lo' := [some (.ref 62), some (.int (nI f)), some (.int 0), some (.int 1), some (.int (nI l)), some (.int (nI (13 * x))), some (.int 0)]) rfl rfl rfl rfl ?_
        refine go_s (pc' := 51) rfl rfl rfl rfl ?_
        refine go_ifP (t' := 56) (pc' := 52) rfl rfl rfl (fun (c : (1 : Int32) = 0) => absurd c (by decide)) (fun _ => ?_)
        refine go_s (pc' := 53) rfl rfl rfl rfl ?_
        refine go_s (pc' := 54) rfl rfl rfl rfl ?_
        have hU5 : RU w B R [] true h1 am ln K (I, Q, Z) := RU_I (sm_e_refl (tbr am (13 * ln) 77 5088) _) (I' := I) (fun _ => rfl) (fun _ => rfl) (Nat.le_refl _) hU
        refine go_callV (pc' := 55) rfl rfl rfl (Nat.le_of_ble_eq_true rfl) rfl (sm_o hS rfl) rfl rfl rfl (rx_wn hr hS hln hW hWm (l := l) (x := x) (n := q.length) hl hx (by omega) h55 h53 (by omega)) (fun r h6 q7 => ?_)
        obtain ⟨rfl, hS8, hE9⟩ := q7
        have hS11 : sm (tbr am (13 * ln) 77 5088) _ (jn (uI I 24 l (-1)) (uI K 50 (13 * x + 2) (-1))) Y := sm_jg hr hS8 (fun c j _ n1 n2 n3 => uI_c n1)
        have hU10 : RU w B R [] true h6 am ln (uI K 50 (13 * x + 2) (-1)) ((uI I 24 l (-1)), Q, Z) := RU_bus hl hU5 hln hE9 hQ h53 hx (fun i hi => uI_j hi) (fun i _ => uI_c (by decide)) rfl (fun c j _ hc => if_neg (fun z => hc ⟨z.1, Or.inl z.2⟩)) (uI_s.trans uI_s.symm) ((uI_j (by omega)).trans (hk3.trans (uI_c (by decide)).symm))
        refine go_s (pc' := 59) rfl rfl rfl rfl ?_
        refine go_s (pc' := 60) rfl rfl rfl rfl ?_
        refine go_ifP (t' := 76) (pc' := 61) rfl rfl rfl (fun _ => ?_) (fun (c : ¬ ((0 : Int32) = 0)) => absurd (by decide) c)
        refine go_s (pc' := 77) rfl rfl rfl rfl ?_
        refine go_ifP (t' := 81) (pc' := 78) rfl rfl rfl (fun _ => ?_) (fun (c : ¬ (¬ (1 : Int32) = 0)) => absurd (by decide) c)
        refine go_s (pc' := 82) rfl rfl rfl rfl ?_
        refine go_ifP (t' := 85) (pc' := 83) rfl rfl rfl (fun _ => ?_) (fun (c : ¬ ((0 : Int32) = 0)) => absurd (by decide) c)
        refine go_s (pc' := 86) (st' := [.int 2]) rfl rfl rfl rfl ?_
        refine go_ret rfl rfl ?_
        have hA12 : RA w B R [] true h6 ((uI I 24 l (-1)), Q, Z) := RA_u.mpr ⟨_, _, _, _, hS11, hU10⟩
        have hms : rarr f 0 true (I, Q, Z) = (2, ((uI I 24 l (-1)), Q, Z)) := by
          unfold rarr
          rw [← el, show ((I, Q, Z) : mM).2.1 l = m :: q from hQ]
          exact (if_neg c3).trans (if_pos c4)
        rw [hms]
        exact ⟨rfl, RA_R (by omega) hA12⟩
      · skip
        refine go_s (pc' := 47) (st' := [.int 1]) rfl rfl rfl rfl ?_
        refine go_s (pc' := 49) rfl rfl rfl rfl ?_
        refine go_s (pc' := 50) (lo' := [some (.ref 62), some (.int (nI f)), some (.int 0), some (.int 1), some (.int (nI l)), some (.int (nI (13 * x))), some (.int 1)]) rfl rfl rfl rfl ?_
        refine go_s (pc' := 51) rfl rfl rfl rfl ?_
        refine go_ifP (t' := 56) (pc' := 52) rfl rfl rfl (fun (c : (1 : Int32) = 0) => absurd c (by decide)) (fun _ => ?_)
        refine go_s (pc' := 53) rfl rfl rfl rfl ?_
        refine go_s (pc' := 54) rfl rfl rfl rfl ?_
        have hU13 : RU w B R [] true h1 am ln K (I, Q, Z) := RU_I (sm_e_refl (tbr am (13 * ln) 77 5088) _) (I' := I) (fun _ => rfl) (fun _ => rfl) (Nat.le_refl _) hU
        refine go_callV (pc' := 55) rfl rfl rfl (Nat.le_of_ble_eq_true rfl) rfl (sm_o hS rfl) rfl rfl rfl (rx_wn hr hS hln hW hWm (l := l) (x := x) (n := q.length) hl hx (by omega) h55 h53 (by omega)) (fun r h14 q15 => ?_)
        obtain ⟨rfl, hS16, hE17⟩ := q15
        have hS19 : sm (tbr am (13 * ln) 77 5088) _ (jn (uI I 24 l (-1)) (uI K 50 (13 * x + 2) (-1))) Y := sm_jg hr hS16 (fun c j _ n1 n2 n3 => uI_c n1)
        have hU18 : RU w B R [] true h14 am ln (uI K 50 (13 * x + 2) (-1)) ((uI I 24 l (-1)), Q, Z) := RU_bus hl hU13 hln hE17 hQ h53 hx (fun i hi => uI_j hi) (fun i _ => uI_c (by decide)) rfl (fun c j _ hc => if_neg (fun z => hc ⟨z.1, Or.inl z.2⟩)) (uI_s.trans uI_s.symm) ((uI_j (by omega)).trans (hk3.trans (uI_c (by decide)).symm))
        refine go_s (pc' := 59) rfl rfl rfl rfl ?_
        refine go_s (pc' := 60) rfl rfl rfl rfl ?_
        refine go_ifP (t' := 76) (pc' := 61) rfl rfl rfl (fun (c : (1 : Int32) = 0) => absurd c (by decide)) (fun _ => ?_)
        refine go_s (pc' := 62) rfl rfl rfl rfl ?_
        refine go_sget (pc' := 63) (v := .ref 76) hS19 rfl rfl rfl (by decide) rfl rfl ?_
        refine go_s (pc' := 64) rfl rfl rfl rfl ?_
        refine go_s (pc' := 65) rfl rfl rfl rfl ?_
        refine go_sget (pc' := 66) (v := .ref am) hS19 rfl rfl rfl (by decide) rfl rfl ?_
        refine go_s (pc' := 67) rfl rfl rfl rfl ?_
        refine go_s (pc' := 68) (st' := [.int 1, .int (nI (13 * x)), .ref am, .int (nI l), .ref 76]) rfl rfl rfl rfl ?_
        refine go_nadd (pc' := 69) (a := (13 * x)) (b := 1) rfl rfl rfl rfl rfl ?_
        refine go_sald (pc' := 70) (q := ((13 * x) + 1)) (v := .int (m.1 1)) hS19 rfl (tr_ms hr (by omega)) rfl rfl (by omega) (congrArg Value.int ((uI_j (by omega)).trans hk1)) rfl ?_
        refine go_siast (pc' := 71) (q := l) hS19 rfl (tr_s hr (a := 76) rfl (by omega)) tbr_inj (Nat.le_of_ble_eq_true rfl) rfl (by omega) (by decide) (hW _ (by decide) (by decide)) rfl (fun h20 hS21 hE22 => ?_)
        refine go_s (pc' := 72) rfl rfl rfl rfl ?_
        refine go_s (pc' := 73) rfl rfl rfl rfl ?_
        refine go_s (pc' := 74) rfl rfl rfl rfl ?_
        refine go_s (pc' := 75) rfl rfl rfl rfl ?_
        change sm (tbr am (13 * ln) 77 5088) _ (uI (jn (uI I 24 l (-1)) (uI K 50 (13 * x + 2) (-1))) 10 l (m.1 1)) Y at hS21
        rw [jn_lo (c := 10) (by decide)] at hS21
        have hU23 : RU w B R [] true h20 am ln (uI K 50 (13 * x + 2) (-1)) ((uI (uI I 24 l (-1)) 10 l (m.1 1)), Q, Z) := RU_I (hE22) (I' := (uI (uI I 24 l (-1)) 10 l (m.1 1))) (fun _ => rfl) (fun _ => rfl) (Nat.le_refl _) hU18
        have hU24 := RU_hold hl hU23 hln hQ ((uI_c (by decide)).trans h53) hx
        have hNe : ((uI (uI I 24 l (-1)) 10 l (m.1 1)), Q, Z) = mar2 l (m.1 1) (mar1 true l (I, Q, Z)) := by
          rfl
        obtain ⟨ka1, ka2, ka3, ka4, ka5, ka6⟩ := hV.1.1.2.2.2.2.2.1 l hl
        have hup : I 0 0 = 1 := by
          have z := (ka1 (show ¬ Q l = [] by rw [hQ]; exact List.cons_ne_nil _ _)).2.1
          rw [el, show (4 * f + 0) % 4 = 0 by omega] at z
          exact z
        have hMK : MK m := ka5 0 m (by show (Q l)[0]? = some m; rw [hQ]; rfl)
        have hN9 : INV X ((uI (uI I 24 l (-1)) 10 l (m.1 1)), Q, Z) := by
          rw [hNe]
          exact (INV_m2 (lost := true) (by omega) hV.1 hl hQ).1
        have hup9 : (uI (uI I 24 l (-1)) 10 l (m.1 1)) 0 0 = 1 := by
          rw [show (uI (uI I 24 l (-1)) 10 l (m.1 1)) = (((uI (uI I 24 l (-1)) 10 l (m.1 1)), Q, Z) : mM).1 from rfl, hNe]
          show uI (mar1 true l (I, Q, Z)).1 10 l (m.1 1) 0 0 = 1
          rw [uI_c (by decide), mar_f.1 0 (by decide) (by decide)]
          exact hup
        have hwd9 : ∀ k, k < 3 → m.1 0 = 5 → m.1 5 = nI k → m.1 6 = (uI (uI I 24 l (-1)) 10 l (m.1 1)) 15 k → (∀ i y, ¬ US (uI (uI I 24 l (-1)) 10 l (m.1 1)) Q k i y) ∧ ((uI (uI I 24 l (-1)) 10 l (m.1 1)) 16 k = 1 → MID (X + 1) (rgo k ((uI (uI I 24 l (-1)) 10 l (m.1 1)), Q, Z))) := fun k hk h0 h5 h6 => by
          have z := WD_of (N := ((uI (uI I 24 l (-1)) 10 l (m.1 1)), Q, Z)) (lost := true) (by omega) hV.1 hV.2.1 hf (by decide : 0 < 4) el hl hQ c4 hk h5 h0 hNe h6
          exact ⟨z.2.2.1, z.2.2.2⟩
        have hU25 : RU w B R [(x, m)] false h20 am ln (uI K 50 (13 * x + 2) (-1)) ((uI (uI I 24 l (-1)) 10 l (m.1 1)), Q, Z) := RU_I (sm_e_refl (tbr am (13 * ln) 77 5088) _) (I' := (uI (uI I 24 l (-1)) 10 l (m.1 1))) (fun _ => rfl) (fun _ => rfl) (Nat.le_refl _) hU24
        have hA26 : RA w B R [(x, m)] false h20 ((uI (uI I 24 l (-1)) 10 l (m.1 1)), Q, Z) := RA_u.mpr ⟨_, _, _, _, hS21, hU25⟩
        refine go_callV (pc' := 76) rfl rfl rfl (Nat.le_of_ble_eq_true rfl) rfl (sm_o hS21 rfl) rfl rfl rfl (ra_br_0 hA26 (by omega) (by omega) hN9 hMK hup9 hf hwd9 (by omega)) (fun r h27 q28 => ?_)
        obtain ⟨rfl, hA29⟩ := q28
        refine go_s (pc' := 77) rfl rfl rfl rfl ?_
        refine go_ifP (t' := 81) (pc' := 78) rfl rfl rfl (fun _ => ?_) (fun (c : ¬ (¬ (1 : Int32) = 0)) => absurd (by decide) c)
        refine go_s (pc' := 82) rfl rfl rfl rfl ?_
        refine go_ifP (t' := 85) (pc' := 83) rfl rfl rfl (fun (c : (1 : Int32) = 0) => absurd c (by decide)) (fun _ => ?_)
        refine go_s (pc' := 84) (st' := [.int 1]) rfl rfl rfl rfl ?_
        refine go_s (pc' := 86) rfl rfl rfl rfl ?_
        refine go_ret rfl rfl ?_
        have hms : rarr f 0 true (I, Q, Z) = (1, rbr f 0 m ((uI (uI I 24 l (-1)) 10 l (m.1 1)), Q, Z)) := by
          unfold rarr
          rw [← el, show ((I, Q, Z) : mM).2.1 l = m :: q from hQ]
          exact (if_neg c3).trans ((if_neg c4).trans (by rw [hNe]))
        rw [hms]
        exact ⟨rfl, RA_R (by omega) (RA_drop hA29)⟩
    · skip
      have c3 : (I 24 l) = (-1) := Decidable.not_not.mp c3'
      refine go_s (pc' := 29) (st' := [.int 0]) rfl rfl rfl rfl ?_
      refine go_ret rfl rfl ?_
      have hms : rarr f 0 true (I, Q, Z) = (0, (I, Q, Z)) := by
        unfold rarr
        rw [← el, show ((I, Q, Z) : mM).2.1 l = m :: q from hQ]
        exact if_pos c3
      rw [hms]
      exact ⟨rfl, RA_R (by omega) hA⟩
theorem ra_arr_0_1 {w : Nat → Bool} {d B R : Nat} {h : am_Hp} {I : sm_I} {Q : mQ} {Z : mZ} (hA : RA w B R [] true h (I, Q, Z)) (hR : R + 20 < 40000) {X : Nat} (hX : X + 60 < 2 ^ 28) (hV : XV X (I, Q, Z)) {f : Nat} (hf : f < 4) (hfp : ¬ f = 1) (hd : 12 ≤ d) : am_Ev (am_prog w) d 176 [.ref 62, .int (nI f), .int 1, .int 0] h (fun r h' => r = some (.int (rarr f 1 false (I, Q, Z)).1) ∧ RA w B (R + 4) [] true h' (rarr f 1 false (I, Q, Z)).2) := by
  obtain ⟨K, Y, am, ln, hS, hU⟩ := RA_u.mp hA
  change sm (tbr am (13 * ln) 77 5088) h (jn I K) Y at hS
  obtain ⟨hW, hWm, -, -, hr, -⟩ := id hU.1
  have hln := RU_ln hU (by omega)
  obtain ⟨d, rfl⟩ : ∃ e, d = e + 1 := ⟨d - 1, by omega⟩
  refine ev_go rfl (Nat.le_of_ble_eq_true rfl) rfl ?_
  refine go_s (pc' := 1) rfl rfl rfl rfl ?_
  refine go_s (pc' := 2) rfl rfl rfl rfl ?_
  refine go_callS (pc' := 3) rfl rfl rfl (Nat.le_of_ble_eq_true rfl) rfl rfl rfl (rt_isl_t (f := f) (p := 1) hf (by decide) hfp (by omega)) (fun r h1 q2 => ?_)
  obtain ⟨rfl, rfl⟩ := q2
  refine go_ifP (t' := 6) (pc' := 4) rfl rfl rfl (fun _ => ?_) (fun (c : ¬ (¬ (1 : Int32) = 0)) => absurd (by decide) c)
  refine go_s (pc' := 7) (st' := [.int 4]) rfl rfl rfl rfl ?_
  refine go_s (pc' := 8) rfl rfl rfl rfl ?_
  refine go_nmul (pc' := 9) (a := 4) (b := f) rfl rfl rfl rfl rfl ?_
  refine go_s (pc' := 10) rfl rfl rfl rfl ?_
  refine go_nadd (pc' := 11) (a := (4 * f)) (b := 1) rfl rfl rfl rfl rfl ?_
  refine go_s (pc' := 12) (lo' := [some (.ref 62), some (.int (nI f)), some (.int 1), some (.int 0), some (.int (nI ((4 * f) + 1))), none, none]) rfl rfl rfl rfl ?_
  obtain ⟨l, el⟩ : ∃ l, l = 4 * f + 1 := ⟨_, rfl⟩
  rw [show (4 * f) + 1 = l from el.symm]
  have hl : l < 16 := by omega
  cases hQ : Q l with
  | nil =>
    have h55 : K 55 l = 0 := by
      have z := (RU_lk (l := l) hU hl).1
      rw [hQ] at z
      exact z
    refine go_s (pc' := 13) rfl rfl rfl rfl ?_
    refine go_sget (pc' := 14) (v := .ref 74) hS rfl rfl rfl (by decide) rfl rfl ?_
    refine go_s (pc' := 15) rfl rfl rfl rfl ?_
    refine go_sald (pc' := 16) (q := l) (v := .int 0) hS rfl (tr_s hr (a := 74) rfl (by omega)) rfl rfl (by omega) (congrArg Value.int h55) rfl ?_
    refine go_ifP (t' := 28) (pc' := 17) rfl rfl rfl (fun _ => ?_) (fun (c : ¬ ((0 : Int32) = 0)) => absurd (by decide) c)
    refine go_s (pc' := 29) (st' := [.int 0]) rfl rfl rfl rfl ?_
    refine go_ret rfl rfl ?_
    have hms : rarr f 1 false (I, Q, Z) = (0, (I, Q, Z)) := by
      unfold rarr
      rw [← el, show ((I, Q, Z) : mM).2.1 l = [] from hQ]
    rw [hms]
    exact ⟨rfl, RA_R (by omega) hA⟩
  | cons m q =>
    obtain ⟨hk55, hle, hxx⟩ := RU_lk (l := l) hU hl
    obtain ⟨x, h53, hx, hk2, hk3, hk0, hk1⟩ := hxx m q hQ
    rw [hQ] at hk55 hle
    have h55 : K 55 l = nI (q.length + 1) := hk55
    have hle2 : q.length + 1 ≤ ln := hle
    refine go_s (pc' := 13) rfl rfl rfl rfl ?_
    refine go_sget (pc' := 14) (v := .ref 74) hS rfl rfl rfl (by decide) rfl rfl ?_
    refine go_s (pc' := 15) rfl rfl rfl rfl ?_
    refine go_sald (pc' := 16) (q := l) (v := .int (nI (q.length + 1))) hS rfl (tr_s hr (a := 74) rfl (by omega)) rfl rfl (by omega) (congrArg Value.int h55) rfl ?_
    refine go_ifP (t' := 28) (pc' := 17) rfl rfl rfl (fun (c : (nI (q.length + 1)) = 0) => absurd c (nI_n0 (by omega))) (fun _ => ?_)
    refine go_s (pc' := 18) rfl rfl rfl rfl ?_
    refine go_sget (pc' := 19) (v := .ref am) hS rfl rfl rfl (by decide) rfl rfl ?_
    refine go_s (pc' := 20) rfl rfl rfl rfl ?_
    refine go_sget (pc' := 21) (v := .ref 72) hS rfl rfl rfl (by decide) rfl rfl ?_
    refine go_s (pc' := 22) rfl rfl rfl rfl ?_
    refine go_sald (pc' := 23) (q := l) (v := .int (nI (13 * x))) hS rfl (tr_s hr (a := 72) rfl (by omega)) rfl rfl (by omega) (congrArg Value.int h53) rfl ?_
    refine go_s (pc' := 24) (st' := [.int 2, .int (nI (13 * x)), .ref am]) rfl rfl rfl rfl ?_
    refine go_nadd (pc' := 25) (a := (13 * x)) (b := 2) rfl rfl rfl rfl rfl ?_
    refine go_sald (pc' := 26) (q := ((13 * x) + 2)) (v := .int (I 24 l)) hS rfl (tr_ms hr (by omega)) rfl rfl (by omega) (congrArg Value.int hk2) rfl ?_
    refine go_s (pc' := 27) (st' := [.int (-1), .int (I 24 l)]) rfl rfl rfl rfl ?_
    refine go_icmpP (t' := 30) (pc' := 28) rfl rfl rfl (fun (c3 : ¬ (I 24 l) = (-1)) => ?_) (fun (c3' : ¬ ¬ (I 24 l) = (-1)) => ?_)
    · skip
      refine go_s (pc' := 31) rfl rfl rfl rfl ?_
      refine go_sget (pc' := 32) (v := .ref 72) hS rfl rfl rfl (by decide) rfl rfl ?_
      refine go_s (pc' := 33) rfl rfl rfl rfl ?_
      refine go_sald (pc' := 34) (q := l) (v := .int (nI (13 * x))) hS rfl (tr_s hr (a := 72) rfl (by omega)) rfl rfl (by omega) (congrArg Value.int h53) rfl ?_
      refine go_s (pc' := 35) (lo' := [some (.ref 62), some (.int (nI f)), some (.int 1), some (.int 0), some (.int (nI l)), some (.int (nI (13 * x))), none]) rfl rfl rfl rfl ?_
      refine go_s (pc' := 36) rfl rfl rfl rfl ?_
      refine go_sget (pc' := 37) (v := .ref am) hS rfl rfl rfl (by decide) rfl rfl ?_
      refine go_s (pc' := 38) rfl rfl rfl rfl ?_
      refine go_s (pc' := 39) (st' := [.int 1, .int (nI (13 * x)), .ref am]) rfl rfl rfl rfl ?_
      refine go_nadd (pc' := 40) (a := (13 * x)) (b := 1) rfl rfl rfl rfl rfl ?_
      refine go_sald (pc' := 41) (q := ((13 * x) + 1)) (v := .int (m.1 1)) hS rfl (tr_ms hr (by omega)) rfl rfl (by omega) (congrArg Value.int hk1) rfl ?_
      refine go_s (pc' := 42) rfl rfl rfl rfl ?_
      refine go_sget (pc' := 43) (v := .ref 76) hS rfl rfl rfl (by decide) rfl rfl ?_
      refine go_s (pc' := 44) rfl rfl rfl rfl ?_
      refine go_sald (pc' := 45) (q := l) (v := .int (I 10 l)) hS rfl (tr_s hr (a := 76) rfl (by omega)) rfl rfl (by omega) rfl rfl ?_
      refine go_icmpP (t' := 48) (pc' := 46) rfl rfl rfl (fun (c4 : (m.1 1) ≤ (I 10 l)) => ?_) (fun (c4 : ¬ (m.1 1) ≤ (I 10 l)) => ?_)
      · skip
        refine go_s (pc' := 49) (st' := [.int 0]) rfl rfl rfl rfl ?_
        refine go_s (pc' := 50) (lo' := [some (.ref 62), some (.int (nI f)), some (.int 1), some (.int 0), some (.int (nI l)), some (.int (nI (13 * x))), some (.int 0)]) rfl rfl rfl rfl ?_
        refine go_s (pc' := 51) rfl rfl rfl rfl ?_
        refine go_ifP (t' := 56) (pc' := 52) rfl rfl rfl (fun _ => ?_) (fun (c : ¬ ((0 : Int32) = 0)) => absurd (by decide) c)
        refine go_s (pc' := 57) rfl rfl rfl rfl ?_
        refine go_s (pc' := 58) rfl rfl rfl rfl ?_
        refine go_callV (pc' := 59) rfl rfl rfl (Nat.le_of_ble_eq_true rfl) rfl (sm_o hS rfl) rfl rfl rfl (ra_lv hl hS hU hln hQ h53 hx (by omega)) (fun r h5 q6 => ?_)
        obtain ⟨rfl, am8, ln8, K8, Y8, hS8, hU8, hln8⟩ := q6
        obtain ⟨M8, eM8⟩ : ∃ y : mM, y = mlv l (I, Q, Z) := ⟨_, rfl⟩
        rw [← eM8] at hS8 hU8
        obtain ⟨I8, Q8, Z8⟩ := M8
        change sm (tbr am8 (13 * ln8) 77 5088) h5 (jn I8 K8) Y8 at hS8
        obtain ⟨-, hWm8, -, -, hr8, -⟩ := id hU8.1
        have hx8 := RU_h hU8 (x := x) (m := m) (by simp)
        have hxl8 := hx8.1
        refine go_s (pc' := 60) rfl rfl rfl rfl ?_
        refine go_ifP (t' := 76) (pc' := 61) rfl rfl rfl (fun _ => ?_) (fun (c : ¬ ((0 : Int32) = 0)) => absurd (by decide) c)
        refine go_s (pc' := 77) rfl rfl rfl rfl ?_
        refine go_ifP (t' := 81) (pc' := 78) rfl rfl rfl (fun (c : ¬ (0 : Int32) = 0) => absurd c (by decide)) (fun _ => ?_)
        refine go_s (pc' := 79) rfl rfl rfl rfl ?_
        refine go_s (pc' := 80) rfl rfl rfl rfl ?_
        have hU7 : RU w B R [(x, m)] true h5 am8 ln8 K8 (I8, Q8, Z8) := RU_I (sm_e_refl (tbr am8 (13 * ln8) 77 5088) _) (I' := I8) (fun _ => rfl) (fun _ => rfl) (Nat.le_refl _) hU8
        have hA8 : RA w B R [(x, m)] true h5 (I8, Q8, Z8) := RA_u.mpr ⟨_, _, _, _, hS8, hU7⟩
        refine go_callV (pc' := 81) rfl rfl rfl (Nat.le_of_ble_eq_true rfl) rfl (sm_o hS8 rfl) rfl rfl rfl (ra_gs (hb := true) hA8 (by omega) (by omega)) (fun r h9 q10 => ?_)
        obtain ⟨rfl, hA11⟩ := q10
        refine go_s (pc' := 82) rfl rfl rfl rfl ?_
        refine go_ifP (t' := 85) (pc' := 83) rfl rfl rfl (fun _ => ?_) (fun (c : ¬ ((0 : Int32) = 0)) => absurd (by decide) c)
        refine go_s (pc' := 86) (st' := [.int 2]) rfl rfl rfl rfl ?_
        refine go_ret rfl rfl ?_
        have hms : rarr f 1 false (I, Q, Z) = (2, (I8, Q8, Z8)) := by
          unfold rarr
          rw [← el, show ((I, Q, Z) : mM).2.1 l = m :: q from hQ]
          exact (if_neg c3).trans ((if_pos c4).trans (by rw [eM8]; rfl))
        rw [hms]
        exact ⟨rfl, RA_R (by omega) hA11⟩
      · skip
        refine go_s (pc' := 47) (st' := [.int 1]) rfl rfl rfl rfl ?_
        refine go_s (pc' := 49) rfl rfl rfl rfl ?_
        refine go_s (pc' := 50) (lo' := [some (.ref 62), some (.int (nI f)), some (.int 1), some (.int 0), some (.int (nI l)), some (.int (nI (13 * x))), some (.int 1)]) rfl rfl rfl rfl ?_
        refine go_s (pc' := 51) rfl rfl rfl rfl ?_
        refine go_ifP (t' := 56) (pc' := 52) rfl rfl rfl (fun _ => ?_) (fun (c : ¬ ((0 : Int32) = 0)) => absurd (by decide) c)
        refine go_s (pc' := 57) rfl rfl rfl rfl ?_
        refine go_s (pc' := 58) rfl rfl rfl rfl ?_
        refine go_callV (pc' := 59) rfl rfl rfl (Nat.le_of_ble_eq_true rfl) rfl (sm_o hS rfl) rfl rfl rfl (ra_lv hl hS hU hln hQ h53 hx (by omega)) (fun r h12 q13 => ?_)
        obtain ⟨rfl, am8, ln8, K8, Y8, hS8, hU8, hln8⟩ := q13
        obtain ⟨M8, eM8⟩ : ∃ y : mM, y = mlv l (I, Q, Z) := ⟨_, rfl⟩
        rw [← eM8] at hS8 hU8
        obtain ⟨I8, Q8, Z8⟩ := M8
        change sm (tbr am8 (13 * ln8) 77 5088) h12 (jn I8 K8) Y8 at hS8
        obtain ⟨-, hWm8, -, -, hr8, -⟩ := id hU8.1
        have hx8 := RU_h hU8 (x := x) (m := m) (by simp)
        have hxl8 := hx8.1
        refine go_s (pc' := 60) rfl rfl rfl rfl ?_
        refine go_ifP (t' := 76) (pc' := 61) rfl rfl rfl (fun (c : (1 : Int32) = 0) => absurd c (by decide)) (fun _ => ?_)
        refine go_s (pc' := 62) rfl rfl rfl rfl ?_
        refine go_sget (pc' := 63) (v := .ref 76) hS8 rfl rfl rfl (by decide) rfl rfl ?_
        refine go_s (pc' := 64) rfl rfl rfl rfl ?_
        refine go_s (pc' := 65) rfl rfl rfl rfl ?_
        refine go_sget (pc' := 66) (v := .ref am8) hS8 rfl rfl rfl (by decide) rfl rfl ?_
        refine go_s (pc' := 67) rfl rfl rfl rfl ?_
        refine go_s (pc' := 68) (st' := [.int 1, .int (nI (13 * x)), .ref am8, .int (nI l), .ref 76]) rfl rfl rfl rfl ?_
        refine go_nadd (pc' := 69) (a := (13 * x)) (b := 1) rfl rfl rfl rfl rfl ?_
        refine go_sald (pc' := 70) (q := ((13 * x) + 1)) (v := .int (m.1 1)) hS8 rfl (tr_ms hr8 (by omega)) rfl rfl (by omega) (congrArg Value.int hx8.2.2.1) rfl ?_
        refine go_siast (pc' := 71) (q := l) hS8 rfl (tr_s hr8 (a := 76) rfl (by omega)) tbr_inj (Nat.le_of_ble_eq_true rfl) rfl (by omega) (by decide) (hW _ (by decide) (by decide)) rfl (fun h14 hS15 hE16 => ?_)
        refine go_s (pc' := 72) rfl rfl rfl rfl ?_
        refine go_s (pc' := 73) rfl rfl rfl rfl ?_
        refine go_s (pc' := 74) rfl rfl rfl rfl ?_
        refine go_s (pc' := 75) rfl rfl rfl rfl ?_
        change sm (tbr am8 (13 * ln8) 77 5088) _ (uI (jn I8 K8) 10 l (m.1 1)) Y8 at hS15
        rw [jn_lo (c := 10) (by decide)] at hS15
        have hU17 : RU w B R [(x, m)] true h14 am8 ln8 K8 ((uI I8 10 l (m.1 1)), Q8, Z8) := RU_I (hE16) (I' := (uI I8 10 l (m.1 1))) (fun _ => rfl) (fun _ => rfl) (Nat.le_refl _) hU8
        have hNe : ((uI I8 10 l (m.1 1)), Q8, Z8) = mar2 l (m.1 1) (mar1 false l (I, Q, Z)) := by
          show _ = (uI (mlv l (I, Q, Z)).1 10 l (m.1 1), (mlv l (I, Q, Z)).2)
          rw [← eM8]
        obtain ⟨ka1, ka2, ka3, ka4, ka5, ka6⟩ := hV.1.1.2.2.2.2.2.1 l hl
        have hup : I 0 1 = 1 := by
          have z := (ka1 (show ¬ Q l = [] by rw [hQ]; exact List.cons_ne_nil _ _)).2.1
          rw [el, show (4 * f + 1) % 4 = 1 by omega] at z
          exact z
        have hMK : MK m := ka5 0 m (by show (Q l)[0]? = some m; rw [hQ]; rfl)
        have hN9 : INV X ((uI I8 10 l (m.1 1)), Q8, Z8) := by
          rw [hNe]
          exact (INV_m2 (lost := false) (by omega) hV.1 hl hQ).1
        have hup9 : (uI I8 10 l (m.1 1)) 0 1 = 1 := by
          rw [show (uI I8 10 l (m.1 1)) = (((uI I8 10 l (m.1 1)), Q8, Z8) : mM).1 from rfl, hNe]
          show uI (mar1 false l (I, Q, Z)).1 10 l (m.1 1) 0 1 = 1
          rw [uI_c (by decide), mar_f.1 0 (by decide) (by decide)]
          exact hup
        have hwd9 : ∀ k, k < 3 → m.1 0 = 5 → m.1 5 = nI k → m.1 6 = (uI I8 10 l (m.1 1)) 15 k → (∀ i y, ¬ US (uI I8 10 l (m.1 1)) Q8 k i y) ∧ ((uI I8 10 l (m.1 1)) 16 k = 1 → MID (X + 1) (rgo k ((uI I8 10 l (m.1 1)), Q8, Z8))) := fun k hk h0 h5 h6 => by
          have z := WD_of (N := ((uI I8 10 l (m.1 1)), Q8, Z8)) (lost := false) (by omega) hV.1 hV.2.1 hf (by decide : 1 < 4) el hl hQ c4 hk h5 h0 hNe h6
          exact ⟨z.2.2.1, z.2.2.2⟩
        have hU18 : RU w B R [(x, m)] true h14 am8 ln8 K8 ((uI I8 10 l (m.1 1)), Q8, Z8) := RU_I (sm_e_refl (tbr am8 (13 * ln8) 77 5088) _) (I' := (uI I8 10 l (m.1 1))) (fun _ => rfl) (fun _ => rfl) (Nat.le_refl _) hU17
        have hA19 : RA w B R [(x, m)] true h14 ((uI I8 10 l (m.1 1)), Q8, Z8) := RA_u.mpr ⟨_, _, _, _, hS15, hU18⟩
        refine go_callV (pc' := 76) rfl rfl rfl (Nat.le_of_ble_eq_true rfl) rfl (sm_o hS15 rfl) rfl rfl rfl (ra_br_1 hA19 (by omega) (by omega) hN9 hMK hup9 hf hwd9 (by omega)) (fun r h20 q21 => ?_)
        obtain ⟨rfl, hA22⟩ := q21
        refine go_s (pc' := 77) rfl rfl rfl rfl ?_
        refine go_ifP (t' := 81) (pc' := 78) rfl rfl rfl (fun (c : ¬ (0 : Int32) = 0) => absurd c (by decide)) (fun _ => ?_)
        refine go_s (pc' := 79) rfl rfl rfl rfl ?_
        refine go_s (pc' := 80) rfl rfl rfl rfl ?_
        obtain ⟨K9, Y9, am9, ln9, hS9, -⟩ := RA_u.mp hA22
        refine go_callV (pc' := 81) rfl rfl rfl (Nat.le_of_ble_eq_true rfl) rfl (sm_o hS9 rfl) rfl rfl rfl (ra_gs (hb := true) hA22 (by omega) (by omega)) (fun r h23 q24 => ?_)
        obtain ⟨rfl, hA25⟩ := q24
        refine go_s (pc' := 82) rfl rfl rfl rfl ?_
        refine go_ifP (t' := 85) (pc' := 83) rfl rfl rfl (fun (c : (1 : Int32) = 0) => absurd c (by decide)) (fun _ => ?_)
        refine go_s (pc' := 84) (st' := [.int 1]) rfl rfl rfl rfl ?_
        refine go_s (pc' := 86) rfl rfl rfl rfl ?_
        refine go_ret rfl rfl ?_
        have hms : rarr f 1 false (I, Q, Z) = (1, rbr f 1 m ((uI I8 10 l (m.1 1)), Q8, Z8)) := by
          unfold rarr
          rw [← el, show ((I, Q, Z) : mM).2.1 l = m :: q from hQ]
          exact (if_neg c3).trans ((if_neg c4).trans (by rw [hNe]))
        rw [hms]
        exact ⟨rfl, RA_R (by omega) hA25⟩
    · skip
      have c3 : (I 24 l) = (-1) := Decidable.not_not.mp c3'
      refine go_s (pc' := 29) (st' := [.int 0]) rfl rfl rfl rfl ?_
      refine go_ret rfl rfl ?_
      have hms : rarr f 1 false (I, Q, Z) = (0, (I, Q, Z)) := by
        unfold rarr
        rw [← el, show ((I, Q, Z) : mM).2.1 l = m :: q from hQ]
        exact if_pos c3
      rw [hms]
      exact ⟨rfl, RA_R (by omega) hA⟩
theorem ra_arr_1_1 {w : Nat → Bool} {d B R : Nat} {h : am_Hp} {I : sm_I} {Q : mQ} {Z : mZ} (hA : RA w B R [] true h (I, Q, Z)) (hR : R + 20 < 40000) {X : Nat} (hX : X + 60 < 2 ^ 28) (hV : XV X (I, Q, Z)) {f : Nat} (hf : f < 4) (hfp : ¬ f = 1) (hd : 12 ≤ d) : am_Ev (am_prog w) d 176 [.ref 62, .int (nI f), .int 1, .int 1] h (fun r h' => r = some (.int (rarr f 1 true (I, Q, Z)).1) ∧ RA w B (R + 4) [] true h' (rarr f 1 true (I, Q, Z)).2) := by
  obtain ⟨K, Y, am, ln, hS, hU⟩ := RA_u.mp hA
  change sm (tbr am (13 * ln) 77 5088) h (jn I K) Y at hS
  obtain ⟨hW, hWm, -, -, hr, -⟩ := id hU.1
  have hln := RU_ln hU (by omega)
  obtain ⟨d, rfl⟩ : ∃ e, d = e + 1 := ⟨d - 1, by omega⟩
  refine ev_go rfl (Nat.le_of_ble_eq_true rfl) rfl ?_
  refine go_s (pc' := 1) rfl rfl rfl rfl ?_
  refine go_s (pc' := 2) rfl rfl rfl rfl ?_
  refine go_callS (pc' := 3) rfl rfl rfl (Nat.le_of_ble_eq_true rfl) rfl rfl rfl (rt_isl_t (f := f) (p := 1) hf (by decide) hfp (by omega)) (fun r h1 q2 => ?_)
  obtain ⟨rfl, rfl⟩ := q2
  refine go_ifP (t' := 6) (pc' := 4) rfl rfl rfl (fun _ => ?_) (fun (c : ¬ (¬ (1 : Int32) = 0)) => absurd (by decide) c)
  refine go_s (pc' := 7) (st' := [.int 4]) rfl rfl rfl rfl ?_
  refine go_s (pc' := 8) rfl rfl rfl rfl ?_
  refine go_nmul (pc' := 9) (a := 4) (b := f) rfl rfl rfl rfl rfl ?_
  refine go_s (pc' := 10) rfl rfl rfl rfl ?_
  refine go_nadd (pc' := 11) (a := (4 * f)) (b := 1) rfl rfl rfl rfl rfl ?_
  refine go_s (pc' := 12) (lo' := [some (.ref 62), some (.int (nI f)), some (.int 1), some (.int 1), some (.int (nI ((4 * f) + 1))), none, none]) rfl rfl rfl rfl ?_
  obtain ⟨l, el⟩ : ∃ l, l = 4 * f + 1 := ⟨_, rfl⟩
  rw [show (4 * f) + 1 = l from el.symm]
  have hl : l < 16 := by omega
  cases hQ : Q l with
  | nil =>
    have h55 : K 55 l = 0 := by
      have z := (RU_lk (l := l) hU hl).1
      rw [hQ] at z
      exact z
    refine go_s (pc' := 13) rfl rfl rfl rfl ?_
    refine go_sget (pc' := 14) (v := .ref 74) hS rfl rfl rfl (by decide) rfl rfl ?_
    refine go_s (pc' := 15) rfl rfl rfl rfl ?_
    refine go_sald (pc' := 16) (q := l) (v := .int 0) hS rfl (tr_s hr (a := 74) rfl (by omega)) rfl rfl (by omega) (congrArg Value.int h55) rfl ?_
    refine go_ifP (t' := 28) (pc' := 17) rfl rfl rfl (fun _ => ?_) (fun (c : ¬ ((0 : Int32) = 0)) => absurd (by decide) c)
    refine go_s (pc' := 29) (st' := [.int 0]) rfl rfl rfl rfl ?_
    refine go_ret rfl rfl ?_
    have hms : rarr f 1 true (I, Q, Z) = (0, (I, Q, Z)) := by
      unfold rarr
      rw [← el, show ((I, Q, Z) : mM).2.1 l = [] from hQ]
    rw [hms]
    exact ⟨rfl, RA_R (by omega) hA⟩
  | cons m q =>
    obtain ⟨hk55, hle, hxx⟩ := RU_lk (l := l) hU hl
    obtain ⟨x, h53, hx, hk2, hk3, hk0, hk1⟩ := hxx m q hQ
    rw [hQ] at hk55 hle
    have h55 : K 55 l = nI (q.length + 1) := hk55
    have hle2 : q.length + 1 ≤ ln := hle
    refine go_s (pc' := 13) rfl rfl rfl rfl ?_
    refine go_sget (pc' := 14) (v := .ref 74) hS rfl rfl rfl (by decide) rfl rfl ?_
    refine go_s (pc' := 15) rfl rfl rfl rfl ?_
    refine go_sald (pc' := 16) (q := l) (v := .int (nI (q.length + 1))) hS rfl (tr_s hr (a := 74) rfl (by omega)) rfl rfl (by omega) (congrArg Value.int h55) rfl ?_
    refine go_ifP (t' := 28) (pc' := 17) rfl rfl rfl (fun (c : (nI (q.length + 1)) = 0) => absurd c (nI_n0 (by omega))) (fun _ => ?_)
    refine go_s (pc' := 18) rfl rfl rfl rfl ?_
    refine go_sget (pc' := 19) (v := .ref am) hS rfl rfl rfl (by decide) rfl rfl ?_
    refine go_s (pc' := 20) rfl rfl rfl rfl ?_
    refine go_sget (pc' := 21) (v := .ref 72) hS rfl rfl rfl (by decide) rfl rfl ?_
    refine go_s (pc' := 22) rfl rfl rfl rfl ?_
    refine go_sald (pc' := 23) (q := l) (v := .int (nI (13 * x))) hS rfl (tr_s hr (a := 72) rfl (by omega)) rfl rfl (by omega) (congrArg Value.int h53) rfl ?_
    refine go_s (pc' := 24) (st' := [.int 2, .int (nI (13 * x)), .ref am]) rfl rfl rfl rfl ?_
    refine go_nadd (pc' := 25) (a := (13 * x)) (b := 2) rfl rfl rfl rfl rfl ?_
    refine go_sald (pc' := 26) (q := ((13 * x) + 2)) (v := .int (I 24 l)) hS rfl (tr_ms hr (by omega)) rfl rfl (by omega) (congrArg Value.int hk2) rfl ?_
    refine go_s (pc' := 27) (st' := [.int (-1), .int (I 24 l)]) rfl rfl rfl rfl ?_
    refine go_icmpP (t' := 30) (pc' := 28) rfl rfl rfl (fun (c3 : ¬ (I 24 l) = (-1)) => ?_) (fun (c3' : ¬ ¬ (I 24 l) = (-1)) => ?_)
    · skip
      refine go_s (pc' := 31) rfl rfl rfl rfl ?_
      refine go_sget (pc' := 32) (v := .ref 72) hS rfl rfl rfl (by decide) rfl rfl ?_
      refine go_s (pc' := 33) rfl rfl rfl rfl ?_
      refine go_sald (pc' := 34) (q := l) (v := .int (nI (13 * x))) hS rfl (tr_s hr (a := 72) rfl (by omega)) rfl rfl (by omega) (congrArg Value.int h53) rfl ?_
      refine go_s (pc' := 35) (lo' := [some (.ref 62), some (.int (nI f)), some (.int 1), some (.int 1), some (.int (nI l)), some (.int (nI (13 * x))), none]) rfl rfl rfl rfl ?_
      refine go_s (pc' := 36) rfl rfl rfl rfl ?_
      refine go_sget (pc' := 37) (v := .ref am) hS rfl rfl rfl (by decide) rfl rfl ?_
      refine go_s (pc' := 38) rfl rfl rfl rfl ?_
      refine go_s (pc' := 39) (st' := [.int 1, .int (nI (13 * x)), .ref am]) rfl rfl rfl rfl ?_
      refine go_nadd (pc' := 40) (a := (13 * x)) (b := 1) rfl rfl rfl rfl rfl ?_
      refine go_sald (pc' := 41) (q := ((13 * x) + 1)) (v := .int (m.1 1)) hS rfl (tr_ms hr (by omega)) rfl rfl (by omega) (congrArg Value.int hk1) rfl ?_
      refine go_s (pc' := 42) rfl rfl rfl rfl ?_
      refine go_sget (pc' := 43) (v := .ref 76) hS rfl rfl rfl (by decide) rfl rfl ?_
      refine go_s (pc' := 44) rfl rfl rfl rfl ?_
      refine go_sald (pc' := 45) (q := l) (v := .int (I 10 l)) hS rfl (tr_s hr (a := 76) rfl (by omega)) rfl rfl (by omega) rfl rfl ?_
      refine go_icmpP (t' := 48) (pc' := 46) rfl rfl rfl (fun (c4 : (m.1 1) ≤ (I 10 l)) => ?_) (fun (c4 : ¬ (m.1 1) ≤ (I 10 l)) => ?_)
      · skip
        refine go_s (pc' := 49) (st' := [.int 0]) rfl rfl rfl rfl ?_
        refine go_s (pc' := 50) (lo' := [some (.ref 62), some (.int (nI f)), some (.int 1), some (.int 1), some (.int (nI l)), some (.int (nI (13 * x))), some (.int 0)]) rfl rfl rfl rfl ?_
        refine go_s (pc' := 51) rfl rfl rfl rfl ?_
        refine go_ifP (t' := 56) (pc' := 52) rfl rfl rfl (fun (c : (1 : Int32) = 0) => absurd c (by decide)) (fun _ => ?_)
        refine go_s (pc' := 53) rfl rfl rfl rfl ?_
        refine go_s (pc' := 54) rfl rfl rfl rfl ?_
        have hU5 : RU w B R [] true h1 am ln K (I, Q, Z) := RU_I (sm_e_refl (tbr am (13 * ln) 77 5088) _) (I' := I) (fun _ => rfl) (fun _ => rfl) (Nat.le_refl _) hU
        refine go_callV (pc' := 55) rfl rfl rfl (Nat.le_of_ble_eq_true rfl) rfl (sm_o hS rfl) rfl rfl rfl (rx_wn hr hS hln hW hWm (l := l) (x := x) (n := q.length) hl hx (by omega) h55 h53 (by omega)) (fun r h6 q7 => ?_)
        obtain ⟨rfl, hS8, hE9⟩ := q7
        have hS11 : sm (tbr am (13 * ln) 77 5088) _ (jn (uI I 24 l (-1)) (uI K 50 (13 * x + 2) (-1))) Y := sm_jg hr hS8 (fun c j _ n1 n2 n3 => uI_c n1)
        have hU10 : RU w B R [] true h6 am ln (uI K 50 (13 * x + 2) (-1)) ((uI I 24 l (-1)), Q, Z) := RU_bus hl hU5 hln hE9 hQ h53 hx (fun i hi => uI_j hi) (fun i _ => uI_c (by decide)) rfl (fun c j _ hc => if_neg (fun z => hc ⟨z.1, Or.inl z.2⟩)) (uI_s.trans uI_s.symm) ((uI_j (by omega)).trans (hk3.trans (uI_c (by decide)).symm))
        refine go_s (pc' := 59) rfl rfl rfl rfl ?_
        refine go_s (pc' := 60) rfl rfl rfl rfl ?_
        refine go_ifP (t' := 76) (pc' := 61) rfl rfl rfl (fun _ => ?_) (fun (c : ¬ ((0 : Int32) = 0)) => absurd (by decide) c)
        refine go_s (pc' := 77) rfl rfl rfl rfl ?_
        refine go_ifP (t' := 81) (pc' := 78) rfl rfl rfl (fun _ => ?_) (fun (c : ¬ (¬ (1 : Int32) = 0)) => absurd (by decide) c)
        refine go_s (pc' := 82) rfl rfl rfl rfl ?_
        refine go_ifP (t' := 85) (pc' := 83) rfl rfl rfl (fun _ => ?_) (fun (c : ¬ ((0 : Int32) = 0)) => absurd (by decide) c)
        refine go_s (pc' := 86) (st' := [.int 2]) rfl rfl rfl rfl ?_
        refine go_ret rfl rfl ?_
        have hA12 : RA w B R [] true h6 ((uI I 24 l (-1)), Q, Z) := RA_u.mpr ⟨_, _, _, _, hS11, hU10⟩
        have hms : rarr f 1 true (I, Q, Z) = (2, ((uI I 24 l (-1)), Q, Z)) := by
          unfold rarr
          rw [← el, show ((I, Q, Z) : mM).2.1 l = m :: q from hQ]
          exact (if_neg c3).trans (if_pos c4)
        rw [hms]
        exact ⟨rfl, RA_R (by omega) hA12⟩
      · skip
        refine go_s (pc' := 47) (st' := [.int 1]) rfl rfl rfl rfl ?_
        refine go_s (pc' := 49) rfl rfl rfl rfl ?_
        refine go_s (pc' := 50) (lo' := [some (.ref 62), some (.int (nI f)), some (.int 1), some (.int 1), some (.int (nI l)), some (.int (nI (13 * x))), some (.int 1)]) rfl rfl rfl rfl ?_
        refine go_s (pc' := 51) rfl rfl rfl rfl ?_
        refine go_ifP (t' := 56) (pc' := 52) rfl rfl rfl (fun (c : (1 : Int32) = 0) => absurd c (by decide)) (fun _ => ?_)
        refine go_s (pc' := 53) rfl rfl rfl rfl ?_
        refine go_s (pc' := 54) rfl rfl rfl rfl ?_
        have hU13 : RU w B R [] true h1 am ln K (I, Q, Z) := RU_I (sm_e_refl (tbr am (13 * ln) 77 5088) _) (I' := I) (fun _ => rfl) (fun _ => rfl) (Nat.le_refl _) hU
        refine go_callV (pc' := 55) rfl rfl rfl (Nat.le_of_ble_eq_true rfl) rfl (sm_o hS rfl) rfl rfl rfl (rx_wn hr hS hln hW hWm (l := l) (x := x) (n := q.length) hl hx (by omega) h55 h53 (by omega)) (fun r h14 q15 => ?_)
        obtain ⟨rfl, hS16, hE17⟩ := q15
        have hS19 : sm (tbr am (13 * ln) 77 5088) _ (jn (uI I 24 l (-1)) (uI K 50 (13 * x + 2) (-1))) Y := sm_jg hr hS16 (fun c j _ n1 n2 n3 => uI_c n1)
        have hU18 : RU w B R [] true h14 am ln (uI K 50 (13 * x + 2) (-1)) ((uI I 24 l (-1)), Q, Z) := RU_bus hl hU13 hln hE17 hQ h53 hx (fun i hi => uI_j hi) (fun i _ => uI_c (by decide)) rfl (fun c j _ hc => if_neg (fun z => hc ⟨z.1, Or.inl z.2⟩)) (uI_s.trans uI_s.symm) ((uI_j (by omega)).trans (hk3.trans (uI_c (by decide)).symm))
        refine go_s (pc' := 59) rfl rfl rfl rfl ?_
        refine go_s (pc' := 60) rfl rfl rfl rfl ?_
        refine go_ifP (t' := 76) (pc' := 61) rfl rfl rfl (fun (c : (1 : Int32) = 0) => absurd c (by decide)) (fun _ => ?_)
        refine go_s (pc' := 62) rfl rfl rfl rfl ?_
        refine go_sget (pc' := 63) (v := .ref 76) hS19 rfl rfl rfl (by decide) rfl rfl ?_
        refine go_s (pc' := 64) rfl rfl rfl rfl ?_
        refine go_s (pc' := 65) rfl rfl rfl rfl ?_
        refine go_sget (pc' := 66) (v := .ref am) hS19 rfl rfl rfl (by decide) rfl rfl ?_
        refine go_s (pc' := 67) rfl rfl rfl rfl ?_
        refine go_s (pc' := 68) (st' := [.int 1, .int (nI (13 * x)), .ref am, .int (nI l), .ref 76]) rfl rfl rfl rfl ?_
        refine go_nadd (pc' := 69) (a := (13 * x)) (b := 1) rfl rfl rfl rfl rfl ?_
        refine go_sald (pc' := 70) (q := ((13 * x) + 1)) (v := .int (m.1 1)) hS19 rfl (tr_ms hr (by omega)) rfl rfl (by omega) (congrArg Value.int ((uI_j (by omega)).trans hk1)) rfl ?_
        refine go_siast (pc' := 71) (q := l) hS19 rfl (tr_s hr (a := 76) rfl (by omega)) tbr_inj (Nat.le_of_ble_eq_true rfl) rfl (by omega) (by decide) (hW _ (by decide) (by decide)) rfl (fun h20 hS21 hE22 => ?_)
        refine go_s (pc' := 72) rfl rfl rfl rfl ?_
        refine go_s (pc' := 73) rfl rfl rfl rfl ?_
        refine go_s (pc' := 74) rfl rfl rfl rfl ?_
        refine go_s (pc' := 75) rfl rfl rfl rfl ?_
        change sm (tbr am (13 * ln) 77 5088) _ (uI (jn (uI I 24 l (-1)) (uI K 50 (13 * x + 2) (-1))) 10 l (m.1 1)) Y at hS21
        rw [jn_lo (c := 10) (by decide)] at hS21
        have hU23 : RU w B R [] true h20 am ln (uI K 50 (13 * x + 2) (-1)) ((uI (uI I 24 l (-1)) 10 l (m.1 1)), Q, Z) := RU_I (hE22) (I' := (uI (uI I 24 l (-1)) 10 l (m.1 1))) (fun _ => rfl) (fun _ => rfl) (Nat.le_refl _) hU18
        have hU24 := RU_hold hl hU23 hln hQ ((uI_c (by decide)).trans h53) hx
        have hNe : ((uI (uI I 24 l (-1)) 10 l (m.1 1)), Q, Z) = mar2 l (m.1 1) (mar1 true l (I, Q, Z)) := by
          rfl
        obtain ⟨ka1, ka2, ka3, ka4, ka5, ka6⟩ := hV.1.1.2.2.2.2.2.1 l hl
        have hup : I 0 1 = 1 := by
          have z := (ka1 (show ¬ Q l = [] by rw [hQ]; exact List.cons_ne_nil _ _)).2.1
          rw [el, show (4 * f + 1) % 4 = 1 by omega] at z
          exact z
        have hMK : MK m := ka5 0 m (by show (Q l)[0]? = some m; rw [hQ]; rfl)
        have hN9 : INV X ((uI (uI I 24 l (-1)) 10 l (m.1 1)), Q, Z) := by
          rw [hNe]
          exact (INV_m2 (lost := true) (by omega) hV.1 hl hQ).1
        have hup9 : (uI (uI I 24 l (-1)) 10 l (m.1 1)) 0 1 = 1 := by
          rw [show (uI (uI I 24 l (-1)) 10 l (m.1 1)) = (((uI (uI I 24 l (-1)) 10 l (m.1 1)), Q, Z) : mM).1 from rfl, hNe]
          show uI (mar1 true l (I, Q, Z)).1 10 l (m.1 1) 0 1 = 1
          rw [uI_c (by decide), mar_f.1 0 (by decide) (by decide)]
          exact hup
        have hwd9 : ∀ k, k < 3 → m.1 0 = 5 → m.1 5 = nI k → m.1 6 = (uI (uI I 24 l (-1)) 10 l (m.1 1)) 15 k → (∀ i y, ¬ US (uI (uI I 24 l (-1)) 10 l (m.1 1)) Q k i y) ∧ ((uI (uI I 24 l (-1)) 10 l (m.1 1)) 16 k = 1 → MID (X + 1) (rgo k ((uI (uI I 24 l (-1)) 10 l (m.1 1)), Q, Z))) := fun k hk h0 h5 h6 => by
          have z := WD_of (N := ((uI (uI I 24 l (-1)) 10 l (m.1 1)), Q, Z)) (lost := true) (by omega) hV.1 hV.2.1 hf (by decide : 1 < 4) el hl hQ c4 hk h5 h0 hNe h6
          exact ⟨z.2.2.1, z.2.2.2⟩
        have hU25 : RU w B R [(x, m)] false h20 am ln (uI K 50 (13 * x + 2) (-1)) ((uI (uI I 24 l (-1)) 10 l (m.1 1)), Q, Z) := RU_I (sm_e_refl (tbr am (13 * ln) 77 5088) _) (I' := (uI (uI I 24 l (-1)) 10 l (m.1 1))) (fun _ => rfl) (fun _ => rfl) (Nat.le_refl _) hU24
        have hA26 : RA w B R [(x, m)] false h20 ((uI (uI I 24 l (-1)) 10 l (m.1 1)), Q, Z) := RA_u.mpr ⟨_, _, _, _, hS21, hU25⟩
        refine go_callV (pc' := 76) rfl rfl rfl (Nat.le_of_ble_eq_true rfl) rfl (sm_o hS21 rfl) rfl rfl rfl (ra_br_1 hA26 (by omega) (by omega) hN9 hMK hup9 hf hwd9 (by omega)) (fun r h27 q28 => ?_)
        obtain ⟨rfl, hA29⟩ := q28
        refine go_s (pc' := 77) rfl rfl rfl rfl ?_
        refine go_ifP (t' := 81) (pc' := 78) rfl rfl rfl (fun _ => ?_) (fun (c : ¬ (¬ (1 : Int32) = 0)) => absurd (by decide) c)
        refine go_s (pc' := 82) rfl rfl rfl rfl ?_
        refine go_ifP (t' := 85) (pc' := 83) rfl rfl rfl (fun (c : (1 : Int32) = 0) => absurd c (by decide)) (fun _ => ?_)
        refine go_s (pc' := 84) (st' := [.int 1]) rfl rfl rfl rfl ?_
        refine go_s (pc' := 86) rfl rfl rfl rfl ?_
        refine go_ret rfl rfl ?_
        have hms : rarr f 1 true (I, Q, Z) = (1, rbr f 1 m ((uI (uI I 24 l (-1)) 10 l (m.1 1)), Q, Z)) := by
          unfold rarr
          rw [← el, show ((I, Q, Z) : mM).2.1 l = m :: q from hQ]
          exact (if_neg c3).trans ((if_neg c4).trans (by rw [hNe]))
        rw [hms]
        exact ⟨rfl, RA_R (by omega) (RA_drop hA29)⟩
    · skip
      have c3 : (I 24 l) = (-1) := Decidable.not_not.mp c3'
      refine go_s (pc' := 29) (st' := [.int 0]) rfl rfl rfl rfl ?_
      refine go_ret rfl rfl ?_
      have hms : rarr f 1 true (I, Q, Z) = (0, (I, Q, Z)) := by
        unfold rarr
        rw [← el, show ((I, Q, Z) : mM).2.1 l = m :: q from hQ]
        exact if_pos c3
      rw [hms]
      exact ⟨rfl, RA_R (by omega) hA⟩
theorem ra_arr_0_2 {w : Nat → Bool} {d B R : Nat} {h : am_Hp} {I : sm_I} {Q : mQ} {Z : mZ} (hA : RA w B R [] true h (I, Q, Z)) (hR : R + 20 < 40000) {X : Nat} (hX : X + 60 < 2 ^ 28) (hV : XV X (I, Q, Z)) {f : Nat} (hf : f < 4) (hfp : ¬ f = 2) (hd : 12 ≤ d) : am_Ev (am_prog w) d 176 [.ref 62, .int (nI f), .int 2, .int 0] h (fun r h' => r = some (.int (rarr f 2 false (I, Q, Z)).1) ∧ RA w B (R + 4) [] true h' (rarr f 2 false (I, Q, Z)).2) := by
  obtain ⟨K, Y, am, ln, hS, hU⟩ := RA_u.mp hA
  change sm (tbr am (13 * ln) 77 5088) h (jn I K) Y at hS
  obtain ⟨hW, hWm, -, -, hr, -⟩ := id hU.1
  have hln := RU_ln hU (by omega)
  obtain ⟨d, rfl⟩ : ∃ e, d = e + 1 := ⟨d - 1, by omega⟩
  refine ev_go rfl (Nat.le_of_ble_eq_true rfl) rfl ?_
  refine go_s (pc' := 1) rfl rfl rfl rfl ?_
  refine go_s (pc' := 2) rfl rfl rfl rfl ?_
  refine go_callS (pc' := 3) rfl rfl rfl (Nat.le_of_ble_eq_true rfl) rfl rfl rfl (rt_isl_t (f := f) (p := 2) hf (by decide) hfp (by omega)) (fun r h1 q2 => ?_)
  obtain ⟨rfl, rfl⟩ := q2
  refine go_ifP (t' := 6) (pc' := 4) rfl rfl rfl (fun _ => ?_) (fun (c : ¬ (¬ (1 : Int32) = 0)) => absurd (by decide) c)
  refine go_s (pc' := 7) (st' := [.int 4]) rfl rfl rfl rfl ?_
  refine go_s (pc' := 8) rfl rfl rfl rfl ?_
  refine go_nmul (pc' := 9) (a := 4) (b := f) rfl rfl rfl rfl rfl ?_
  refine go_s (pc' := 10) rfl rfl rfl rfl ?_
  refine go_nadd (pc' := 11) (a := (4 * f)) (b := 2) rfl rfl rfl rfl rfl ?_
  refine go_s (pc' := 12) (lo' := [some (.ref 62), some (.int (nI f)), some (.int 2), some (.int 0), some (.int (nI ((4 * f) + 2))), none, none]) rfl rfl rfl rfl ?_
  obtain ⟨l, el⟩ : ∃ l, l = 4 * f + 2 := ⟨_, rfl⟩
  rw [show (4 * f) + 2 = l from el.symm]
  have hl : l < 16 := by omega
  cases hQ : Q l with
  | nil =>
    have h55 : K 55 l = 0 := by
      have z := (RU_lk (l := l) hU hl).1
      rw [hQ] at z
      exact z
    refine go_s (pc' := 13) rfl rfl rfl rfl ?_
    refine go_sget (pc' := 14) (v := .ref 74) hS rfl rfl rfl (by decide) rfl rfl ?_
    refine go_s (pc' := 15) rfl rfl rfl rfl ?_
    refine go_sald (pc' := 16) (q := l) (v := .int 0) hS rfl (tr_s hr (a := 74) rfl (by omega)) rfl rfl (by omega) (congrArg Value.int h55) rfl ?_
    refine go_ifP (t' := 28) (pc' := 17) rfl rfl rfl (fun _ => ?_) (fun (c : ¬ ((0 : Int32) = 0)) => absurd (by decide) c)
    refine go_s (pc' := 29) (st' := [.int 0]) rfl rfl rfl rfl ?_
    refine go_ret rfl rfl ?_
    have hms : rarr f 2 false (I, Q, Z) = (0, (I, Q, Z)) := by
      unfold rarr
      rw [← el, show ((I, Q, Z) : mM).2.1 l = [] from hQ]
    rw [hms]
    exact ⟨rfl, RA_R (by omega) hA⟩
  | cons m q =>
    obtain ⟨hk55, hle, hxx⟩ := RU_lk (l := l) hU hl
    obtain ⟨x, h53, hx, hk2, hk3, hk0, hk1⟩ := hxx m q hQ
    rw [hQ] at hk55 hle
    have h55 : K 55 l = nI (q.length + 1) := hk55
    have hle2 : q.length + 1 ≤ ln := hle
    refine go_s (pc' := 13) rfl rfl rfl rfl ?_
    refine go_sget (pc' := 14) (v := .ref 74) hS rfl rfl rfl (by decide) rfl rfl ?_
    refine go_s (pc' := 15) rfl rfl rfl rfl ?_
    refine go_sald (pc' := 16) (q := l) (v := .int (nI (q.length + 1))) hS rfl (tr_s hr (a := 74) rfl (by omega)) rfl rfl (by omega) (congrArg Value.int h55) rfl ?_
    refine go_ifP (t' := 28) (pc' := 17) rfl rfl rfl (fun (c : (nI (q.length + 1)) = 0) => absurd c (nI_n0 (by omega))) (fun _ => ?_)
    refine go_s (pc' := 18) rfl rfl rfl rfl ?_
    refine go_sget (pc' := 19) (v := .ref am) hS rfl rfl rfl (by decide) rfl rfl ?_
    refine go_s (pc' := 20) rfl rfl rfl rfl ?_
    refine go_sget (pc' := 21) (v := .ref 72) hS rfl rfl rfl (by decide) rfl rfl ?_
    refine go_s (pc' := 22) rfl rfl rfl rfl ?_
    refine go_sald (pc' := 23) (q := l) (v := .int (nI (13 * x))) hS rfl (tr_s hr (a := 72) rfl (by omega)) rfl rfl (by omega) (congrArg Value.int h53) rfl ?_
    refine go_s (pc' := 24) (st' := [.int 2, .int (nI (13 * x)), .ref am]) rfl rfl rfl rfl ?_
    refine go_nadd (pc' := 25) (a := (13 * x)) (b := 2) rfl rfl rfl rfl rfl ?_
    refine go_sald (pc' := 26) (q := ((13 * x) + 2)) (v := .int (I 24 l)) hS rfl (tr_ms hr (by omega)) rfl rfl (by omega) (congrArg Value.int hk2) rfl ?_
    refine go_s (pc' := 27) (st' := [.int (-1), .int (I 24 l)]) rfl rfl rfl rfl ?_
    refine go_icmpP (t' := 30) (pc' := 28) rfl rfl rfl (fun (c3 : ¬ (I 24 l) = (-1)) => ?_) (fun (c3' : ¬ ¬ (I 24 l) = (-1)) => ?_)
    · skip
      refine go_s (pc' := 31) rfl rfl rfl rfl ?_
      refine go_sget (pc' := 32) (v := .ref 72) hS rfl rfl rfl (by decide) rfl rfl ?_
      refine go_s (pc' := 33) rfl rfl rfl rfl ?_
      refine go_sald (pc' := 34) (q := l) (v := .int (nI (13 * x))) hS rfl (tr_s hr (a := 72) rfl (by omega)) rfl rfl (by omega) (congrArg Value.int h53) rfl ?_
      refine go_s (pc' := 35) (lo' := [some (.ref 62), some (.int (nI f)), some (.int 2), some (.int 0), some (.int (nI l)), some (.int (nI (13 * x))), none]) rfl rfl rfl rfl ?_
      refine go_s (pc' := 36) rfl rfl rfl rfl ?_
      refine go_sget (pc' := 37) (v := .ref am) hS rfl rfl rfl (by decide) rfl rfl ?_
      refine go_s (pc' := 38) rfl rfl rfl rfl ?_
      refine go_s (pc' := 39) (st' := [.int 1, .int (nI (13 * x)), .ref am]) rfl rfl rfl rfl ?_
      refine go_nadd (pc' := 40) (a := (13 * x)) (b := 1) rfl rfl rfl rfl rfl ?_
      refine go_sald (pc' := 41) (q := ((13 * x) + 1)) (v := .int (m.1 1)) hS rfl (tr_ms hr (by omega)) rfl rfl (by omega) (congrArg Value.int hk1) rfl ?_
      refine go_s (pc' := 42) rfl rfl rfl rfl ?_
      refine go_sget (pc' := 43) (v := .ref 76) hS rfl rfl rfl (by decide) rfl rfl ?_
      refine go_s (pc' := 44) rfl rfl rfl rfl ?_
      refine go_sald (pc' := 45) (q := l) (v := .int (I 10 l)) hS rfl (tr_s hr (a := 76) rfl (by omega)) rfl rfl (by omega) rfl rfl ?_
      refine go_icmpP (t' := 48) (pc' := 46) rfl rfl rfl (fun (c4 : (m.1 1) ≤ (I 10 l)) => ?_) (fun (c4 : ¬ (m.1 1) ≤ (I 10 l)) => ?_)
      · skip
        refine go_s (pc' := 49) (st' := [.int 0]) rfl rfl rfl rfl ?_
        refine go_s (pc' := 50) (lo' := [some (.ref 62), some (.int (nI f)), some (.int 2), some (.int 0), some (.int (nI l)), some (.int (nI (13 * x))), some (.int 0)]) rfl rfl rfl rfl ?_
        refine go_s (pc' := 51) rfl rfl rfl rfl ?_
        refine go_ifP (t' := 56) (pc' := 52) rfl rfl rfl (fun _ => ?_) (fun (c : ¬ ((0 : Int32) = 0)) => absurd (by decide) c)
        refine go_s (pc' := 57) rfl rfl rfl rfl ?_
        refine go_s (pc' := 58) rfl rfl rfl rfl ?_
        refine go_callV (pc' := 59) rfl rfl rfl (Nat.le_of_ble_eq_true rfl) rfl (sm_o hS rfl) rfl rfl rfl (ra_lv hl hS hU hln hQ h53 hx (by omega)) (fun r h5 q6 => ?_)
        obtain ⟨rfl, am8, ln8, K8, Y8, hS8, hU8, hln8⟩ := q6
        obtain ⟨M8, eM8⟩ : ∃ y : mM, y = mlv l (I, Q, Z) := ⟨_, rfl⟩
        rw [← eM8] at hS8 hU8
        obtain ⟨I8, Q8, Z8⟩ := M8
        change sm (tbr am8 (13 * ln8) 77 5088) h5 (jn I8 K8) Y8 at hS8
        obtain ⟨-, hWm8, -, -, hr8, -⟩ := id hU8.1
        have hx8 := RU_h hU8 (x := x) (m := m) (by simp)
        have hxl8 := hx8.1
        refine go_s (pc' := 60) rfl rfl rfl rfl ?_
        refine go_ifP (t' := 76) (pc' := 61) rfl rfl rfl (fun _ => ?_) (fun (c : ¬ ((0 : Int32) = 0)) => absurd (by decide) c)
        refine go_s (pc' := 77) rfl rfl rfl rfl ?_
        refine go_ifP (t' := 81) (pc' := 78) rfl rfl rfl (fun (c : ¬ (0 : Int32) = 0) => absurd c (by decide)) (fun _ => ?_)
        refine go_s (pc' := 79) rfl rfl rfl rfl ?_
        refine go_s (pc' := 80) rfl rfl rfl rfl ?_
        have hU7 : RU w B R [(x, m)] true h5 am8 ln8 K8 (I8, Q8, Z8) := RU_I (sm_e_refl (tbr am8 (13 * ln8) 77 5088) _) (I' := I8) (fun _ => rfl) (fun _ => rfl) (Nat.le_refl _) hU8
        have hA8 : RA w B R [(x, m)] true h5 (I8, Q8, Z8) := RA_u.mpr ⟨_, _, _, _, hS8, hU7⟩
        refine go_callV (pc' := 81) rfl rfl rfl (Nat.le_of_ble_eq_true rfl) rfl (sm_o hS8 rfl) rfl rfl rfl (ra_gs (hb := true) hA8 (by omega) (by omega)) (fun r h9 q10 => ?_)
        obtain ⟨rfl, hA11⟩ := q10
        refine go_s (pc' := 82) rfl rfl rfl rfl ?_
        refine go_ifP (t' := 85) (pc' := 83) rfl rfl rfl (fun _ => ?_) (fun (c : ¬ ((0 : Int32) = 0)) => absurd (by decide) c)
        refine go_s (pc' := 86) (st' := [.int 2]) rfl rfl rfl rfl ?_
        refine go_ret rfl rfl ?_
        have hms : rarr f 2 false (I, Q, Z) = (2, (I8, Q8, Z8)) := by
          unfold rarr
          rw [← el, show ((I, Q, Z) : mM).2.1 l = m :: q from hQ]
          exact (if_neg c3).trans ((if_pos c4).trans (by rw [eM8]; rfl))
        rw [hms]
        exact ⟨rfl, RA_R (by omega) hA11⟩
      · skip
        refine go_s (pc' := 47) (st' := [.int 1]) rfl rfl rfl rfl ?_
        refine go_s (pc' := 49) rfl rfl rfl rfl ?_
        refine go_s (pc' := 50) (lo' := [some (.ref 62), some (.int (nI f)), some (.int 2), some (.int 0), some (.int (nI l)), some (.int (nI (13 * x))), some (.int 1)]) rfl rfl rfl rfl ?_
        refine go_s (pc' := 51) rfl rfl rfl rfl ?_
        refine go_ifP (t' := 56) (pc' := 52) rfl rfl rfl (fun _ => ?_) (fun (c : ¬ ((0 : Int32) = 0)) => absurd (by decide) c)
        refine go_s (pc' := 57) rfl rfl rfl rfl ?_
        refine go_s (pc' := 58) rfl rfl rfl rfl ?_
        refine go_callV (pc' := 59) rfl rfl rfl (Nat.le_of_ble_eq_true rfl) rfl (sm_o hS rfl) rfl rfl rfl (ra_lv hl hS hU hln hQ h53 hx (by omega)) (fun r h12 q13 => ?_)
        obtain ⟨rfl, am8, ln8, K8, Y8, hS8, hU8, hln8⟩ := q13
        obtain ⟨M8, eM8⟩ : ∃ y : mM, y = mlv l (I, Q, Z) := ⟨_, rfl⟩
        rw [← eM8] at hS8 hU8
        obtain ⟨I8, Q8, Z8⟩ := M8
        change sm (tbr am8 (13 * ln8) 77 5088) h12 (jn I8 K8) Y8 at hS8
        obtain ⟨-, hWm8, -, -, hr8, -⟩ := id hU8.1
        have hx8 := RU_h hU8 (x := x) (m := m) (by simp)
        have hxl8 := hx8.1
        refine go_s (pc' := 60) rfl rfl rfl rfl ?_
        refine go_ifP (t' := 76) (pc' := 61) rfl rfl rfl (fun (c : (1 : Int32) = 0) => absurd c (by decide)) (fun _ => ?_)
        refine go_s (pc' := 62) rfl rfl rfl rfl ?_
        refine go_sget (pc' := 63) (v := .ref 76) hS8 rfl rfl rfl (by decide) rfl rfl ?_
        refine go_s (pc' := 64) rfl rfl rfl rfl ?_
        refine go_s (pc' := 65) rfl rfl rfl rfl ?_
        refine go_sget (pc' := 66) (v := .ref am8) hS8 rfl rfl rfl (by decide) rfl rfl ?_
        refine go_s (pc' := 67) rfl rfl rfl rfl ?_
        refine go_s (pc' := 68) (st' := [.int 1, .int (nI (13 * x)), .ref am8, .int (nI l), .ref 76]) rfl rfl rfl rfl ?_
        refine go_nadd (pc' := 69) (a := (13 * x)) (b := 1) rfl rfl rfl rfl rfl ?_
        refine go_sald (pc' := 70) (q := ((13 * x) + 1)) (v := .int (m.1 1)) hS8 rfl (tr_ms hr8 (by omega)) rfl rfl (by omega) (congrArg Value.int hx8.2.2.1) rfl ?_
        refine go_siast (pc' := 71) (q := l) hS8 rfl (tr_s hr8 (a := 76) rfl (by omega)) tbr_inj (Nat.le_of_ble_eq_true rfl) rfl (by omega) (by decide) (hW _ (by decide) (by decide)) rfl (fun h14 hS15 hE16 => ?_)
        refine go_s (pc' := 72) rfl rfl rfl rfl ?_
        refine go_s (pc' := 73) rfl rfl rfl rfl ?_
        refine go_s (pc' := 74) rfl rfl rfl rfl ?_
        refine go_s (pc' := 75) rfl rfl rfl rfl ?_
        change sm (tbr am8 (13 * ln8) 77 5088) _ (uI (jn I8 K8) 10 l (m.1 1)) Y8 at hS15
        rw [jn_lo (c := 10) (by decide)] at hS15
        have hU17 : RU w B R [(x, m)] true h14 am8 ln8 K8 ((uI I8 10 l (m.1 1)), Q8, Z8) := RU_I (hE16) (I' := (uI I8 10 l (m.1 1))) (fun _ => rfl) (fun _ => rfl) (Nat.le_refl _) hU8
        have hNe : ((uI I8 10 l (m.1 1)), Q8, Z8) = mar2 l (m.1 1) (mar1 false l (I, Q, Z)) := by
          show _ = (uI (mlv l (I, Q, Z)).1 10 l (m.1 1), (mlv l (I, Q, Z)).2)
          rw [← eM8]
        obtain ⟨ka1, ka2, ka3, ka4, ka5, ka6⟩ := hV.1.1.2.2.2.2.2.1 l hl
        have hup : I 0 2 = 1 := by
          have z := (ka1 (show ¬ Q l = [] by rw [hQ]; exact List.cons_ne_nil _ _)).2.1
          rw [el, show (4 * f + 2) % 4 = 2 by omega] at z
          exact z
        have hMK : MK m := ka5 0 m (by show (Q l)[0]? = some m; rw [hQ]; rfl)
        have hN9 : INV X ((uI I8 10 l (m.1 1)), Q8, Z8) := by
          rw [hNe]
          exact (INV_m2 (lost := false) (by omega) hV.1 hl hQ).1
        have hup9 : (uI I8 10 l (m.1 1)) 0 2 = 1 := by
          rw [show (uI I8 10 l (m.1 1)) = (((uI I8 10 l (m.1 1)), Q8, Z8) : mM).1 from rfl, hNe]
          show uI (mar1 false l (I, Q, Z)).1 10 l (m.1 1) 0 2 = 1
          rw [uI_c (by decide), mar_f.1 0 (by decide) (by decide)]
          exact hup
        have hwd9 : ∀ k, k < 3 → m.1 0 = 5 → m.1 5 = nI k → m.1 6 = (uI I8 10 l (m.1 1)) 15 k → (∀ i y, ¬ US (uI I8 10 l (m.1 1)) Q8 k i y) ∧ ((uI I8 10 l (m.1 1)) 16 k = 1 → MID (X + 1) (rgo k ((uI I8 10 l (m.1 1)), Q8, Z8))) := fun k hk h0 h5 h6 => by
          have z := WD_of (N := ((uI I8 10 l (m.1 1)), Q8, Z8)) (lost := false) (by omega) hV.1 hV.2.1 hf (by decide : 2 < 4) el hl hQ c4 hk h5 h0 hNe h6
          exact ⟨z.2.2.1, z.2.2.2⟩
        have hU18 : RU w B R [(x, m)] true h14 am8 ln8 K8 ((uI I8 10 l (m.1 1)), Q8, Z8) := RU_I (sm_e_refl (tbr am8 (13 * ln8) 77 5088) _) (I' := (uI I8 10 l (m.1 1))) (fun _ => rfl) (fun _ => rfl) (Nat.le_refl _) hU17
        have hA19 : RA w B R [(x, m)] true h14 ((uI I8 10 l (m.1 1)), Q8, Z8) := RA_u.mpr ⟨_, _, _, _, hS15, hU18⟩
        refine go_callV (pc' := 76) rfl rfl rfl (Nat.le_of_ble_eq_true rfl) rfl (sm_o hS15 rfl) rfl rfl rfl (ra_br_2 hA19 (by omega) (by omega) hN9 hMK hup9 hf hwd9 (by omega)) (fun r h20 q21 => ?_)
        obtain ⟨rfl, hA22⟩ := q21
        refine go_s (pc' := 77) rfl rfl rfl rfl ?_
        refine go_ifP (t' := 81) (pc' := 78) rfl rfl rfl (fun (c : ¬ (0 : Int32) = 0) => absurd c (by decide)) (fun _ => ?_)
        refine go_s (pc' := 79) rfl rfl rfl rfl ?_
        refine go_s (pc' := 80) rfl rfl rfl rfl ?_
        obtain ⟨K9, Y9, am9, ln9, hS9, -⟩ := RA_u.mp hA22
        refine go_callV (pc' := 81) rfl rfl rfl (Nat.le_of_ble_eq_true rfl) rfl (sm_o hS9 rfl) rfl rfl rfl (ra_gs (hb := true) hA22 (by omega) (by omega)) (fun r h23 q24 => ?_)
        obtain ⟨rfl, hA25⟩ := q24
        refine go_s (pc' := 82) rfl rfl rfl rfl ?_
        refine go_ifP (t' := 85) (pc' := 83) rfl rfl rfl (fun (c : (1 : Int32) = 0) => absurd c (by decide)) (fun _ => ?_)
        refine go_s (pc' := 84) (st' := [.int 1]) rfl rfl rfl rfl ?_
        refine go_s (pc' := 86) rfl rfl rfl rfl ?_
        refine go_ret rfl rfl ?_
        have hms : rarr f 2 false (I, Q, Z) = (1, rbr f 2 m ((uI I8 10 l (m.1 1)), Q8, Z8)) := by
          unfold rarr
          rw [← el, show ((I, Q, Z) : mM).2.1 l = m :: q from hQ]
          exact (if_neg c3).trans ((if_neg c4).trans (by rw [hNe]))
        rw [hms]
        exact ⟨rfl, RA_R (by omega) hA25⟩
    · skip
      have c3 : (I 24 l) = (-1) := Decidable.not_not.mp c3'
      refine go_s (pc' := 29) (st' := [.int 0]) rfl rfl rfl rfl ?_
      refine go_ret rfl rfl ?_
      have hms : rarr f 2 false (I, Q, Z) = (0, (I, Q, Z)) := by
        unfold rarr
        rw [← el, show ((I, Q, Z) : mM).2.1 l = m :: q from hQ]
        exact if_pos c3
      rw [hms]
      exact ⟨rfl, RA_R (by omega) hA⟩
theorem ra_arr_1_2 {w : Nat → Bool} {d B R : Nat} {h : am_Hp} {I : sm_I} {Q : mQ} {Z : mZ} (hA : RA w B R [] true h (I, Q, Z)) (hR : R + 20 < 40000) {X : Nat} (hX : X + 60 < 2 ^ 28) (hV : XV X (I, Q, Z)) {f : Nat} (hf : f < 4) (hfp : ¬ f = 2) (hd : 12 ≤ d) : am_Ev (am_prog w) d 176 [.ref 62, .int (nI f), .int 2, .int 1] h (fun r h' => r = some (.int (rarr f 2 true (I, Q, Z)).1) ∧ RA w B (R + 4) [] true h' (rarr f 2 true (I, Q, Z)).2) := by
  obtain ⟨K, Y, am, ln, hS, hU⟩ := RA_u.mp hA
  change sm (tbr am (13 * ln) 77 5088) h (jn I K) Y at hS
  obtain ⟨hW, hWm, -, -, hr, -⟩ := id hU.1
  have hln := RU_ln hU (by omega)
  obtain ⟨d, rfl⟩ : ∃ e, d = e + 1 := ⟨d - 1, by omega⟩
  refine ev_go rfl (Nat.le_of_ble_eq_true rfl) rfl ?_
  refine go_s (pc' := 1) rfl rfl rfl rfl ?_
  refine go_s (pc' := 2) rfl rfl rfl rfl ?_
  refine go_callS (pc' := 3) rfl rfl rfl (Nat.le_of_ble_eq_true rfl) rfl rfl rfl (rt_isl_t (f := f) (p := 2) hf (by decide) hfp (by omega)) (fun r h1 q2 => ?_)
  obtain ⟨rfl, rfl⟩ := q2
  refine go_ifP (t' := 6) (pc' := 4) rfl rfl rfl (fun _ => ?_) (fun (c : ¬ (¬ (1 : Int32) = 0)) => absurd (by decide) c)
  refine go_s (pc' := 7) (st' := [.int 4]) rfl rfl rfl rfl ?_
  refine go_s (pc' := 8) rfl rfl rfl rfl ?_
  refine go_nmul (pc' := 9) (a := 4) (b := f) rfl rfl rfl rfl rfl ?_
  refine go_s (pc' := 10) rfl rfl rfl rfl ?_
  refine go_nadd (pc' := 11) (a := (4 * f)) (b := 2) rfl rfl rfl rfl rfl ?_
  refine go_s (pc' := 12) (lo' := [some (.ref 62), some (.int (nI f)), some (.int 2), some (.int 1), some (.int (nI ((4 * f) + 2))), none, none]) rfl rfl rfl rfl ?_
  obtain ⟨l, el⟩ : ∃ l, l = 4 * f + 2 := ⟨_, rfl⟩
  rw [show (4 * f) + 2 = l from el.symm]
  have hl : l < 16 := by omega
  cases hQ : Q l with
  | nil =>
    have h55 : K 55 l = 0 := by
      have z := (RU_lk (l := l) hU hl).1
      rw [hQ] at z
      exact z
    refine go_s (pc' := 13) rfl rfl rfl rfl ?_
    refine go_sget (pc' := 14) (v := .ref 74) hS rfl rfl rfl (by decide) rfl rfl ?_
    refine go_s (pc' := 15) rfl rfl rfl rfl ?_
    refine go_sald (pc' := 16) (q := l) (v := .int 0) hS rfl (tr_s hr (a := 74) rfl (by omega)) rfl rfl (by omega) (congrArg Value.int h55) rfl ?_
    refine go_ifP (t' := 28) (pc' := 17) rfl rfl rfl (fun _ => ?_) (fun (c : ¬ ((0 : Int32) = 0)) => absurd (by decide) c)
    refine go_s (pc' := 29) (st' := [.int 0]) rfl rfl rfl rfl ?_
    refine go_ret rfl rfl ?_
    have hms : rarr f 2 true (I, Q, Z) = (0, (I, Q, Z)) := by
      unfold rarr
      rw [← el, show ((I, Q, Z) : mM).2.1 l = [] from hQ]
    rw [hms]
    exact ⟨rfl, RA_R (by omega) hA⟩
  | cons m q =>
    obtain ⟨hk55, hle, hxx⟩ := RU_lk (l := l) hU hl
    obtain ⟨x, h53, hx, hk2, hk3, hk0, hk1⟩ := hxx m q hQ
    rw [hQ] at hk55 hle
    have h55 : K 55 l = nI (q.length + 1) := hk55
    have hle2 : q.length + 1 ≤ ln := hle
    refine go_s (pc' := 13) rfl rfl rfl rfl ?_
    refine go_sget (pc' := 14) (v := .ref 74) hS rfl rfl rfl (by decide) rfl rfl ?_
    refine go_s (pc' := 15) rfl rfl rfl rfl ?_
    refine go_sald (pc' := 16) (q := l) (v := .int (nI (q.length + 1))) hS rfl (tr_s hr (a := 74) rfl (by omega)) rfl rfl (by omega) (congrArg Value.int h55) rfl ?_
    refine go_ifP (t' := 28) (pc' := 17) rfl rfl rfl (fun (c : (nI (q.length + 1)) = 0) => absurd c (nI_n0 (by omega))) (fun _ => ?_)
    refine go_s (pc' := 18) rfl rfl rfl rfl ?_
    refine go_sget (pc' := 19) (v := .ref am) hS rfl rfl rfl (by decide) rfl rfl ?_
    refine go_s (pc' := 20) rfl rfl rfl rfl ?_
    refine go_sget (pc' := 21) (v := .ref 72) hS rfl rfl rfl (by decide) rfl rfl ?_
    refine go_s (pc' := 22) rfl rfl rfl rfl ?_
    refine go_sald (pc' := 23) (q := l) (v := .int (nI (13 * x))) hS rfl (tr_s hr (a := 72) rfl (by omega)) rfl rfl (by omega) (congrArg Value.int h53) rfl ?_
    refine go_s (pc' := 24) (st' := [.int 2, .int (nI (13 * x)), .ref am]) rfl rfl rfl rfl ?_
    refine go_nadd (pc' := 25) (a := (13 * x)) (b := 2) rfl rfl rfl rfl rfl ?_
    refine go_sald (pc' := 26) (q := ((13 * x) + 2)) (v := .int (I 24 l)) hS rfl (tr_ms hr (by omega)) rfl rfl (by omega) (congrArg Value.int hk2) rfl ?_
    refine go_s (pc' := 27) (st' := [.int (-1), .int (I 24 l)]) rfl rfl rfl rfl ?_
    refine go_icmpP (t' := 30) (pc' := 28) rfl rfl rfl (fun (c3 : ¬ (I 24 l) = (-1)) => ?_) (fun (c3' : ¬ ¬ (I 24 l) = (-1)) => ?_)
    · skip
      refine go_s (pc' := 31) rfl rfl rfl rfl ?_
      refine go_sget (pc' := 32) (v := .ref 72) hS rfl rfl rfl (by decide) rfl rfl ?_
      refine go_s (pc' := 33) rfl rfl rfl rfl ?_
      refine go_sald (pc' := 34) (q := l) (v := .int (nI (13 * x))) hS rfl (tr_s hr (a := 72) rfl (by omega)) rfl rfl (by omega) (congrArg Value.int h53) rfl ?_
      refine go_s (pc' := 35) (lo' := [some (.ref 62), some (.int (nI f)), some (.int 2), some (.int 1), some (.int (nI l)), some (.int (nI (13 * x))), none]) rfl rfl rfl rfl ?_
      refine go_s (pc' := 36) rfl rfl rfl rfl ?_
      refine go_sget (pc' := 37) (v := .ref am) hS rfl rfl rfl (by decide) rfl rfl ?_
      refine go_s (pc' := 38) rfl rfl rfl rfl ?_
      refine go_s (pc' := 39) (st' := [.int 1, .int (nI (13 * x)), .ref am]) rfl rfl rfl rfl ?_
      refine go_nadd (pc' := 40) (a := (13 * x)) (b := 1) rfl rfl rfl rfl rfl ?_
      refine go_sald (pc' := 41) (q := ((13 * x) + 1)) (v := .int (m.1 1)) hS rfl (tr_ms hr (by omega)) rfl rfl (by omega) (congrArg Value.int hk1) rfl ?_
      refine go_s (pc' := 42) rfl rfl rfl rfl ?_
      refine go_sget (pc' := 43) (v := .ref 76) hS rfl rfl rfl (by decide) rfl rfl ?_
      refine go_s (pc' := 44) rfl rfl rfl rfl ?_
      refine go_sald (pc' := 45) (q := l) (v := .int (I 10 l)) hS rfl (tr_s hr (a := 76) rfl (by omega)) rfl rfl (by omega) rfl rfl ?_
      refine go_icmpP (t' := 48) (pc' := 46) rfl rfl rfl (fun (c4 : (m.1 1) ≤ (I 10 l)) => ?_) (fun (c4 : ¬ (m.1 1) ≤ (I 10 l)) => ?_)
      · skip
        refine go_s (pc' := 49) (st' := [.int 0]) rfl rfl rfl rfl ?_
        refine go_s (pc' := 50) (lo' := [some (.ref 62), some (.int (nI f)), some (.int 2), some (.int 1), some (.int (nI l)), some (.int (nI (13 * x))), some (.int 0)]) rfl rfl rfl rfl ?_
        refine go_s (pc' := 51) rfl rfl rfl rfl ?_
        refine go_ifP (t' := 56) (pc' := 52) rfl rfl rfl (fun (c : (1 : Int32) = 0) => absurd c (by decide)) (fun _ => ?_)
        refine go_s (pc' := 53) rfl rfl rfl rfl ?_
        refine go_s (pc' := 54) rfl rfl rfl rfl ?_
        have hU5 : RU w B R [] true h1 am ln K (I, Q, Z) := RU_I (sm_e_refl (tbr am (13 * ln) 77 5088) _) (I' := I) (fun _ => rfl) (fun _ => rfl) (Nat.le_refl _) hU
        refine go_callV (pc' := 55) rfl rfl rfl (Nat.le_of_ble_eq_true rfl) rfl (sm_o hS rfl) rfl rfl rfl (rx_wn hr hS hln hW hWm (l := l) (x := x) (n := q.length) hl hx (by omega) h55 h53 (by omega)) (fun r h6 q7 => ?_)
        obtain ⟨rfl, hS8, hE9⟩ := q7
        have hS11 : sm (tbr am (13 * ln) 77 5088) _ (jn (uI I 24 l (-1)) (uI K 50 (13 * x + 2) (-1))) Y := sm_jg hr hS8 (fun c j _ n1 n2 n3 => uI_c n1)
        have hU10 : RU w B R [] true h6 am ln (uI K 50 (13 * x + 2) (-1)) ((uI I 24 l (-1)), Q, Z) := RU_bus hl hU5 hln hE9 hQ h53 hx (fun i hi => uI_j hi) (fun i _ => uI_c (by decide)) rfl (fun c j _ hc => if_neg (fun z => hc ⟨z.1, Or.inl z.2⟩)) (uI_s.trans uI_s.symm) ((uI_j (by omega)).trans (hk3.trans (uI_c (by decide)).symm))
        refine go_s (pc' := 59) rfl rfl rfl rfl ?_
        refine go_s (pc' := 60) rfl rfl rfl rfl ?_
        refine go_ifP (t' := 76) (pc' := 61) rfl rfl rfl (fun _ => ?_) (fun (c : ¬ ((0 : Int32) = 0)) => absurd (by decide) c)
        refine go_s (pc' := 77) rfl rfl rfl rfl ?_
        refine go_ifP (t' := 81) (pc' := 78) rfl rfl rfl (fun _ => ?_) (fun (c : ¬ (¬ (1 : Int32) = 0)) => absurd (by decide) c)
        refine go_s (pc' := 82) rfl rfl rfl rfl ?_
        refine go_ifP (t' := 85) (pc' := 83) rfl rfl rfl (fun _ => ?_) (fun (c : ¬ ((0 : Int32) = 0)) => absurd (by decide) c)
        refine go_s (pc' := 86) (st' := [.int 2]) rfl rfl rfl rfl ?_
        refine go_ret rfl rfl ?_
        have hA12 : RA w B R [] true h6 ((uI I 24 l (-1)), Q, Z) := RA_u.mpr ⟨_, _, _, _, hS11, hU10⟩
        have hms : rarr f 2 true (I, Q, Z) = (2, ((uI I 24 l (-1)), Q, Z)) := by
          unfold rarr
          rw [← el, show ((I, Q, Z) : mM).2.1 l = m :: q from hQ]
          exact (if_neg c3).trans (if_pos c4)
        rw [hms]
        exact ⟨rfl, RA_R (by omega) hA12⟩
      · skip
        refine go_s (pc' := 47) (st' := [.int 1]) rfl rfl rfl rfl ?_
        refine go_s (pc' := 49) rfl rfl rfl rfl ?_
        refine go_s (pc' := 50) (lo' := [some (.ref 62), some (.int (nI f)), some (.int 2), some (.int 1), some (.int (nI l)), some (.int (nI (13 * x))), some (.int 1)]) rfl rfl rfl rfl ?_
        refine go_s (pc' := 51) rfl rfl rfl rfl ?_
        refine go_ifP (t' := 56) (pc' := 52) rfl rfl rfl (fun (c : (1 : Int32) = 0) => absurd c (by decide)) (fun _ => ?_)
        refine go_s (pc' := 53) rfl rfl rfl rfl ?_
        refine go_s (pc' := 54) rfl rfl rfl rfl ?_
        have hU13 : RU w B R [] true h1 am ln K (I, Q, Z) := RU_I (sm_e_refl (tbr am (13 * ln) 77 5088) _) (I' := I) (fun _ => rfl) (fun _ => rfl) (Nat.le_refl _) hU
        refine go_callV (pc' := 55) rfl rfl rfl (Nat.le_of_ble_eq_true rfl) rfl (sm_o hS rfl) rfl rfl rfl (rx_wn hr hS hln hW hWm (l := l) (x := x) (n := q.length) hl hx (by omega) h55 h53 (by omega)) (fun r h14 q15 => ?_)
        obtain ⟨rfl, hS16, hE17⟩ := q15
        have hS19 : sm (tbr am (13 * ln) 77 5088) _ (jn (uI I 24 l (-1)) (uI K 50 (13 * x + 2) (-1))) Y := sm_jg hr hS16 (fun c j _ n1 n2 n3 => uI_c n1)
        have hU18 : RU w B R [] true h14 am ln (uI K 50 (13 * x + 2) (-1)) ((uI I 24 l (-1)), Q, Z) := RU_bus hl hU13 hln hE17 hQ h53 hx (fun i hi => uI_j hi) (fun i _ => uI_c (by decide)) rfl (fun c j _ hc => if_neg (fun z => hc ⟨z.1, Or.inl z.2⟩)) (uI_s.trans uI_s.symm) ((uI_j (by omega)).trans (hk3.trans (uI_c (by decide)).symm))
        refine go_s (pc' := 59) rfl rfl rfl rfl ?_
        refine go_s (pc' := 60) rfl rfl rfl rfl ?_
        refine go_ifP (t' := 76) (pc' := 61) rfl rfl rfl (fun (c : (1 : Int32) = 0) => absurd c (by decide)) (fun _ => ?_)
        refine go_s (pc' := 62) rfl rfl rfl rfl ?_
        refine go_sget (pc' := 63) (v := .ref 76) hS19 rfl rfl rfl (by decide) rfl rfl ?_
        refine go_s (pc' := 64) rfl rfl rfl rfl ?_
        refine go_s (pc' := 65) rfl rfl rfl rfl ?_
        refine go_sget (pc' := 66) (v := .ref am) hS19 rfl rfl rfl (by decide) rfl rfl ?_
        refine go_s (pc' := 67) rfl rfl rfl rfl ?_
        refine go_s (pc' := 68) (st' := [.int 1, .int (nI (13 * x)), .ref am, .int (nI l), .ref 76]) rfl rfl rfl rfl ?_
        refine go_nadd (pc' := 69) (a := (13 * x)) (b := 1) rfl rfl rfl rfl rfl ?_
        refine go_sald (pc' := 70) (q := ((13 * x) + 1)) (v := .int (m.1 1)) hS19 rfl (tr_ms hr (by omega)) rfl rfl (by omega) (congrArg Value.int ((uI_j (by omega)).trans hk1)) rfl ?_
        refine go_siast (pc' := 71) (q := l) hS19 rfl (tr_s hr (a := 76) rfl (by omega)) tbr_inj (Nat.le_of_ble_eq_true rfl) rfl (by omega) (by decide) (hW _ (by decide) (by decide)) rfl (fun h20 hS21 hE22 => ?_)
        refine go_s (pc' := 72) rfl rfl rfl rfl ?_
        refine go_s (pc' := 73) rfl rfl rfl rfl ?_
        refine go_s (pc' := 74) rfl rfl rfl rfl ?_
        refine go_s (pc' := 75) rfl rfl rfl rfl ?_
        change sm (tbr am (13 * ln) 77 5088) _ (uI (jn (uI I 24 l (-1)) (uI K 50 (13 * x + 2) (-1))) 10 l (m.1 1)) Y at hS21
        rw [jn_lo (c := 10) (by decide)] at hS21
        have hU23 : RU w B R [] true h20 am ln (uI K 50 (13 * x + 2) (-1)) ((uI (uI I 24 l (-1)) 10 l (m.1 1)), Q, Z) := RU_I (hE22) (I' := (uI (uI I 24 l (-1)) 10 l (m.1 1))) (fun _ => rfl) (fun _ => rfl) (Nat.le_refl _) hU18
        have hU24 := RU_hold hl hU23 hln hQ ((uI_c (by decide)).trans h53) hx
        have hNe : ((uI (uI I 24 l (-1)) 10 l (m.1 1)), Q, Z) = mar2 l (m.1 1) (mar1 true l (I, Q, Z)) := by
          rfl
        obtain ⟨ka1, ka2, ka3, ka4, ka5, ka6⟩ := hV.1.1.2.2.2.2.2.1 l hl
        have hup : I 0 2 = 1 := by
          have z := (ka1 (show ¬ Q l = [] by rw [hQ]; exact List.cons_ne_nil _ _)).2.1
          rw [el, show (4 * f + 2) % 4 = 2 by omega] at z
          exact z
        have hMK : MK m := ka5 0 m (by show (Q l)[0]? = some m; rw [hQ]; rfl)
        have hN9 : INV X ((uI (uI I 24 l (-1)) 10 l (m.1 1)), Q, Z) := by
          rw [hNe]
          exact (INV_m2 (lost := true) (by omega) hV.1 hl hQ).1
        have hup9 : (uI (uI I 24 l (-1)) 10 l (m.1 1)) 0 2 = 1 := by
          rw [show (uI (uI I 24 l (-1)) 10 l (m.1 1)) = (((uI (uI I 24 l (-1)) 10 l (m.1 1)), Q, Z) : mM).1 from rfl, hNe]
          show uI (mar1 true l (I, Q, Z)).1 10 l (m.1 1) 0 2 = 1
          rw [uI_c (by decide), mar_f.1 0 (by decide) (by decide)]
          exact hup
        have hwd9 : ∀ k, k < 3 → m.1 0 = 5 → m.1 5 = nI k → m.1 6 = (uI (uI I 24 l (-1)) 10 l (m.1 1)) 15 k → (∀ i y, ¬ US (uI (uI I 24 l (-1)) 10 l (m.1 1)) Q k i y) ∧ ((uI (uI I 24 l (-1)) 10 l (m.1 1)) 16 k = 1 → MID (X + 1) (rgo k ((uI (uI I 24 l (-1)) 10 l (m.1 1)), Q, Z))) := fun k hk h0 h5 h6 => by
          have z := WD_of (N := ((uI (uI I 24 l (-1)) 10 l (m.1 1)), Q, Z)) (lost := true) (by omega) hV.1 hV.2.1 hf (by decide : 2 < 4) el hl hQ c4 hk h5 h0 hNe h6
          exact ⟨z.2.2.1, z.2.2.2⟩
        have hU25 : RU w B R [(x, m)] false h20 am ln (uI K 50 (13 * x + 2) (-1)) ((uI (uI I 24 l (-1)) 10 l (m.1 1)), Q, Z) := RU_I (sm_e_refl (tbr am (13 * ln) 77 5088) _) (I' := (uI (uI I 24 l (-1)) 10 l (m.1 1))) (fun _ => rfl) (fun _ => rfl) (Nat.le_refl _) hU24
        have hA26 : RA w B R [(x, m)] false h20 ((uI (uI I 24 l (-1)) 10 l (m.1 1)), Q, Z) := RA_u.mpr ⟨_, _, _, _, hS21, hU25⟩
        refine go_callV (pc' := 76) rfl rfl rfl (Nat.le_of_ble_eq_true rfl) rfl (sm_o hS21 rfl) rfl rfl rfl (ra_br_2 hA26 (by omega) (by omega) hN9 hMK hup9 hf hwd9 (by omega)) (fun r h27 q28 => ?_)
        obtain ⟨rfl, hA29⟩ := q28
        refine go_s (pc' := 77) rfl rfl rfl rfl ?_
        refine go_ifP (t' := 81) (pc' := 78) rfl rfl rfl (fun _ => ?_) (fun (c : ¬ (¬ (1 : Int32) = 0)) => absurd (by decide) c)
        refine go_s (pc' := 82) rfl rfl rfl rfl ?_
        refine go_ifP (t' := 85) (pc' := 83) rfl rfl rfl (fun (c : (1 : Int32) = 0) => absurd c (by decide)) (fun _ => ?_)
        refine go_s (pc' := 84) (st' := [.int 1]) rfl rfl rfl rfl ?_
        refine go_s (pc' := 86) rfl rfl rfl rfl ?_
        refine go_ret rfl rfl ?_
        have hms : rarr f 2 true (I, Q, Z) = (1, rbr f 2 m ((uI (uI I 24 l (-1)) 10 l (m.1 1)), Q, Z)) := by
          unfold rarr
          rw [← el, show ((I, Q, Z) : mM).2.1 l = m :: q from hQ]
          exact (if_neg c3).trans ((if_neg c4).trans (by rw [hNe]))
        rw [hms]
        exact ⟨rfl, RA_R (by omega) (RA_drop hA29)⟩
    · skip
      have c3 : (I 24 l) = (-1) := Decidable.not_not.mp c3'
      refine go_s (pc' := 29) (st' := [.int 0]) rfl rfl rfl rfl ?_
      refine go_ret rfl rfl ?_
      have hms : rarr f 2 true (I, Q, Z) = (0, (I, Q, Z)) := by
        unfold rarr
        rw [← el, show ((I, Q, Z) : mM).2.1 l = m :: q from hQ]
        exact if_pos c3
      rw [hms]
      exact ⟨rfl, RA_R (by omega) hA⟩
theorem ra_arr_0_3 {w : Nat → Bool} {d B R : Nat} {h : am_Hp} {I : sm_I} {Q : mQ} {Z : mZ} (hA : RA w B R [] true h (I, Q, Z)) (hR : R + 20 < 40000) {X : Nat} (hX : X + 60 < 2 ^ 28) (hV : XV X (I, Q, Z)) {f : Nat} (hf : f < 4) (hfp : ¬ f = 3) (hd : 12 ≤ d) : am_Ev (am_prog w) d 176 [.ref 62, .int (nI f), .int 3, .int 0] h (fun r h' => r = some (.int (rarr f 3 false (I, Q, Z)).1) ∧ RA w B (R + 4) [] true h' (rarr f 3 false (I, Q, Z)).2) := by
  obtain ⟨K, Y, am, ln, hS, hU⟩ := RA_u.mp hA
  change sm (tbr am (13 * ln) 77 5088) h (jn I K) Y at hS
  obtain ⟨hW, hWm, -, -, hr, -⟩ := id hU.1
  have hln := RU_ln hU (by omega)
  obtain ⟨d, rfl⟩ : ∃ e, d = e + 1 := ⟨d - 1, by omega⟩
  refine ev_go rfl (Nat.le_of_ble_eq_true rfl) rfl ?_
  refine go_s (pc' := 1) rfl rfl rfl rfl ?_
  refine go_s (pc' := 2) rfl rfl rfl rfl ?_
  refine go_callS (pc' := 3) rfl rfl rfl (Nat.le_of_ble_eq_true rfl) rfl rfl rfl (rt_isl_t (f := f) (p := 3) hf (by decide) hfp (by omega)) (fun r h1 q2 => ?_)
  obtain ⟨rfl, rfl⟩ := q2
  refine go_ifP (t' := 6) (pc' := 4) rfl rfl rfl (fun _ => ?_) (fun (c : ¬ (¬ (1 : Int32) = 0)) => absurd (by decide) c)
  refine go_s (pc' := 7) (st' := [.int 4]) rfl rfl rfl rfl ?_
  refine go_s (pc' := 8) rfl rfl rfl rfl ?_
  refine go_nmul (pc' := 9) (a := 4) (b := f) rfl rfl rfl rfl rfl ?_
  refine go_s (pc' := 10) rfl rfl rfl rfl ?_
  refine go_nadd (pc' := 11) (a := (4 * f)) (b := 3) rfl rfl rfl rfl rfl ?_
  refine go_s (pc' := 12) (lo' := [some (.ref 62), some (.int (nI f)), some (.int 3), some (.int 0), some (.int (nI ((4 * f) + 3))), none, none]) rfl rfl rfl rfl ?_
  obtain ⟨l, el⟩ : ∃ l, l = 4 * f + 3 := ⟨_, rfl⟩
  rw [show (4 * f) + 3 = l from el.symm]
  have hl : l < 16 := by omega
  cases hQ : Q l with
  | nil =>
    have h55 : K 55 l = 0 := by
      have z := (RU_lk (l := l) hU hl).1
      rw [hQ] at z
      exact z
    refine go_s (pc' := 13) rfl rfl rfl rfl ?_
    refine go_sget (pc' := 14) (v := .ref 74) hS rfl rfl rfl (by decide) rfl rfl ?_
    refine go_s (pc' := 15) rfl rfl rfl rfl ?_
    refine go_sald (pc' := 16) (q := l) (v := .int 0) hS rfl (tr_s hr (a := 74) rfl (by omega)) rfl rfl (by omega) (congrArg Value.int h55) rfl ?_
    refine go_ifP (t' := 28) (pc' := 17) rfl rfl rfl (fun _ => ?_) (fun (c : ¬ ((0 : Int32) = 0)) => absurd (by decide) c)
    refine go_s (pc' := 29) (st' := [.int 0]) rfl rfl rfl rfl ?_
    refine go_ret rfl rfl ?_
    have hms : rarr f 3 false (I, Q, Z) = (0, (I, Q, Z)) := by
      unfold rarr
      rw [← el, show ((I, Q, Z) : mM).2.1 l = [] from hQ]
    rw [hms]
    exact ⟨rfl, RA_R (by omega) hA⟩
  | cons m q =>
    obtain ⟨hk55, hle, hxx⟩ := RU_lk (l := l) hU hl
    obtain ⟨x, h53, hx, hk2, hk3, hk0, hk1⟩ := hxx m q hQ
    rw [hQ] at hk55 hle
    have h55 : K 55 l = nI (q.length + 1) := hk55
    have hle2 : q.length + 1 ≤ ln := hle
    refine go_s (pc' := 13) rfl rfl rfl rfl ?_
    refine go_sget (pc' := 14) (v := .ref 74) hS rfl rfl rfl (by decide) rfl rfl ?_
    refine go_s (pc' := 15) rfl rfl rfl rfl ?_
    refine go_sald (pc' := 16) (q := l) (v := .int (nI (q.length + 1))) hS rfl (tr_s hr (a := 74) rfl (by omega)) rfl rfl (by omega) (congrArg Value.int h55) rfl ?_
    refine go_ifP (t' := 28) (pc' := 17) rfl rfl rfl (fun (c : (nI (q.length + 1)) = 0) => absurd c (nI_n0 (by omega))) (fun _ => ?_)
    refine go_s (pc' := 18) rfl rfl rfl rfl ?_
    refine go_sget (pc' := 19) (v := .ref am) hS rfl rfl rfl (by decide) rfl rfl ?_
    refine go_s (pc' := 20) rfl rfl rfl rfl ?_
    refine go_sget (pc' := 21) (v := .ref 72) hS rfl rfl rfl (by decide) rfl rfl ?_
    refine go_s (pc' := 22) rfl rfl rfl rfl ?_
    refine go_sald (pc' := 23) (q := l) (v := .int (nI (13 * x))) hS rfl (tr_s hr (a := 72) rfl (by omega)) rfl rfl (by omega) (congrArg Value.int h53) rfl ?_
    refine go_s (pc' := 24) (st' := [.int 2, .int (nI (13 * x)), .ref am]) rfl rfl rfl rfl ?_
    refine go_nadd (pc' := 25) (a := (13 * x)) (b := 2) rfl rfl rfl rfl rfl ?_
    refine go_sald (pc' := 26) (q := ((13 * x) + 2)) (v := .int (I 24 l)) hS rfl (tr_ms hr (by omega)) rfl rfl (by omega) (congrArg Value.int hk2) rfl ?_
    refine go_s (pc' := 27) (st' := [.int (-1), .int (I 24 l)]) rfl rfl rfl rfl ?_
    refine go_icmpP (t' := 30) (pc' := 28) rfl rfl rfl (fun (c3 : ¬ (I 24 l) = (-1)) => ?_) (fun (c3' : ¬ ¬ (I 24 l) = (-1)) => ?_)
    · skip
      refine go_s (pc' := 31) rfl rfl rfl rfl ?_
      refine go_sget (pc' := 32) (v := .ref 72) hS rfl rfl rfl (by decide) rfl rfl ?_
      refine go_s (pc' := 33) rfl rfl rfl rfl ?_
      refine go_sald (pc' := 34) (q := l) (v := .int (nI (13 * x))) hS rfl (tr_s hr (a := 72) rfl (by omega)) rfl rfl (by omega) (congrArg Value.int h53) rfl ?_
      refine go_s (pc' := 35) (lo' := [some (.ref 62), some (.int (nI f)), some (.int 3), some (.int 0), some (.int (nI l)), some (.int (nI (13 * x))), none]) rfl rfl rfl rfl ?_
      refine go_s (pc' := 36) rfl rfl rfl rfl ?_
      refine go_sget (pc' := 37) (v := .ref am) hS rfl rfl rfl (by decide) rfl rfl ?_
      refine go_s (pc' := 38) rfl rfl rfl rfl ?_
      refine go_s (pc' := 39) (st' := [.int 1, .int (nI (13 * x)), .ref am]) rfl rfl rfl rfl ?_
      refine go_nadd (pc' := 40) (a := (13 * x)) (b := 1) rfl rfl rfl rfl rfl ?_
      refine go_sald (pc' := 41) (q := ((13 * x) + 1)) (v := .int (m.1 1)) hS rfl (tr_ms hr (by omega)) rfl rfl (by omega) (congrArg Value.int hk1) rfl ?_
      refine go_s (pc' := 42) rfl rfl rfl rfl ?_
      refine go_sget (pc' := 43) (v := .ref 76) hS rfl rfl rfl (by decide) rfl rfl ?_
      refine go_s (pc' := 44) rfl rfl rfl rfl ?_
      refine go_sald (pc' := 45) (q := l) (v := .int (I 10 l)) hS rfl (tr_s hr (a := 76) rfl (by omega)) rfl rfl (by omega) rfl rfl ?_
      refine go_icmpP (t' := 48) (pc' := 46) rfl rfl rfl (fun (c4 : (m.1 1) ≤ (I 10 l)) => ?_) (fun (c4 : ¬ (m.1 1) ≤ (I 10 l)) => ?_)
      · skip
        refine go_s (pc' := 49) (st' := [.int 0]) rfl rfl rfl rfl ?_
        refine go_s (pc' := 50) (lo' := [some (.ref 62), some (.int (nI f)), some (.int 3), some (.int 0), some (.int (nI l)), some (.int (nI (13 * x))), some (.int 0)]) rfl rfl rfl rfl ?_
        refine go_s (pc' := 51) rfl rfl rfl rfl ?_
        refine go_ifP (t' := 56) (pc' := 52) rfl rfl rfl (fun _ => ?_) (fun (c : ¬ ((0 : Int32) = 0)) => absurd (by decide) c)
        refine go_s (pc' := 57) rfl rfl rfl rfl ?_
        refine go_s (pc' := 58) rfl rfl rfl rfl ?_
        refine go_callV (pc' := 59) rfl rfl rfl (Nat.le_of_ble_eq_true rfl) rfl (sm_o hS rfl) rfl rfl rfl (ra_lv hl hS hU hln hQ h53 hx (by omega)) (fun r h5 q6 => ?_)
        obtain ⟨rfl, am8, ln8, K8, Y8, hS8, hU8, hln8⟩ := q6
        obtain ⟨M8, eM8⟩ : ∃ y : mM, y = mlv l (I, Q, Z) := ⟨_, rfl⟩
        rw [← eM8] at hS8 hU8
        obtain ⟨I8, Q8, Z8⟩ := M8
        change sm (tbr am8 (13 * ln8) 77 5088) h5 (jn I8 K8) Y8 at hS8
        obtain ⟨-, hWm8, -, -, hr8, -⟩ := id hU8.1
        have hx8 := RU_h hU8 (x := x) (m := m) (by simp)
        have hxl8 := hx8.1
        refine go_s (pc' := 60) rfl rfl rfl rfl ?_
        refine go_ifP (t' := 76) (pc' := 61) rfl rfl rfl (fun _ => ?_) (fun (c : ¬ ((0 : Int32) = 0)) => absurd (by decide) c)
        refine go_s (pc' := 77) rfl rfl rfl rfl ?_
        refine go_ifP (t' := 81) (pc' := 78) rfl rfl rfl (fun (c : ¬ (0 : Int32) = 0) => absurd c (by decide)) (fun _ => ?_)
        refine go_s (pc' := 79) rfl rfl rfl rfl ?_
        refine go_s (pc' := 80) rfl rfl rfl rfl ?_
        have hU7 : RU w B R [(x, m)] true h5 am8 ln8 K8 (I8, Q8, Z8) := RU_I (sm_e_refl (tbr am8 (13 * ln8) 77 5088) _) (I' := I8) (fun _ => rfl) (fun _ => rfl) (Nat.le_refl _) hU8
        have hA8 : RA w B R [(x, m)] true h5 (I8, Q8, Z8) := RA_u.mpr ⟨_, _, _, _, hS8, hU7⟩
        refine go_callV (pc' := 81) rfl rfl rfl (Nat.le_of_ble_eq_true rfl) rfl (sm_o hS8 rfl) rfl rfl rfl (ra_gs (hb := true) hA8 (by omega) (by omega)) (fun r h9 q10 => ?_)
        obtain ⟨rfl, hA11⟩ := q10
        refine go_s (pc' := 82) rfl rfl rfl rfl ?_
        refine go_ifP (t' := 85) (pc' := 83) rfl rfl rfl (fun _ => ?_) (fun (c : ¬ ((0 : Int32) = 0)) => absurd (by decide) c)
        refine go_s (pc' := 86) (st' := [.int 2]) rfl rfl rfl rfl ?_
        refine go_ret rfl rfl ?_
        have hms : rarr f 3 false (I, Q, Z) = (2, (I8, Q8, Z8)) := by
          unfold rarr
          rw [← el, show ((I, Q, Z) : mM).2.1 l = m :: q from hQ]
          exact (if_neg c3).trans ((if_pos c4).trans (by rw [eM8]; rfl))
        rw [hms]
        exact ⟨rfl, RA_R (by omega) hA11⟩
      · skip
        refine go_s (pc' := 47) (st' := [.int 1]) rfl rfl rfl rfl ?_
        refine go_s (pc' := 49) rfl rfl rfl rfl ?_
        refine go_s (pc' := 50) (lo' := [some (.ref 62), some (.int (nI f)), some (.int 3), some (.int 0), some (.int (nI l)), some (.int (nI (13 * x))), some (.int 1)]) rfl rfl rfl rfl ?_
        refine go_s (pc' := 51) rfl rfl rfl rfl ?_
        refine go_ifP (t' := 56) (pc' := 52) rfl rfl rfl (fun _ => ?_) (fun (c : ¬ ((0 : Int32) = 0)) => absurd (by decide) c)
        refine go_s (pc' := 57) rfl rfl rfl rfl ?_
        refine go_s (pc' := 58) rfl rfl rfl rfl ?_
        refine go_callV (pc' := 59) rfl rfl rfl (Nat.le_of_ble_eq_true rfl) rfl (sm_o hS rfl) rfl rfl rfl (ra_lv hl hS hU hln hQ h53 hx (by omega)) (fun r h12 q13 => ?_)
        obtain ⟨rfl, am8, ln8, K8, Y8, hS8, hU8, hln8⟩ := q13
        obtain ⟨M8, eM8⟩ : ∃ y : mM, y = mlv l (I, Q, Z) := ⟨_, rfl⟩
        rw [← eM8] at hS8 hU8
        obtain ⟨I8, Q8, Z8⟩ := M8
        change sm (tbr am8 (13 * ln8) 77 5088) h12 (jn I8 K8) Y8 at hS8
        obtain ⟨-, hWm8, -, -, hr8, -⟩ := id hU8.1
        have hx8 := RU_h hU8 (x := x) (m := m) (by simp)
        have hxl8 := hx8.1
        refine go_s (pc' := 60) rfl rfl rfl rfl ?_
        refine go_ifP (t' := 76) (pc' := 61) rfl rfl rfl (fun (c : (1 : Int32) = 0) => absurd c (by decide)) (fun _ => ?_)
        refine go_s (pc' := 62) rfl rfl rfl rfl ?_
        refine go_sget (pc' := 63) (v := .ref 76) hS8 rfl rfl rfl (by decide) rfl rfl ?_
        refine go_s (pc' := 64) rfl rfl rfl rfl ?_
        refine go_s (pc' := 65) rfl rfl rfl rfl ?_
        refine go_sget (pc' := 66) (v := .ref am8) hS8 rfl rfl rfl (by decide) rfl rfl ?_
        refine go_s (pc' := 67) rfl rfl rfl rfl ?_
        refine go_s (pc' := 68) (st' := [.int 1, .int (nI (13 * x)), .ref am8, .int (nI l), .ref 76]) rfl rfl rfl rfl ?_
        refine go_nadd (pc' := 69) (a := (13 * x)) (b := 1) rfl rfl rfl rfl rfl ?_
        refine go_sald (pc' := 70) (q := ((13 * x) + 1)) (v := .int (m.1 1)) hS8 rfl (tr_ms hr8 (by omega)) rfl rfl (by omega) (congrArg Value.int hx8.2.2.1) rfl ?_
        refine go_siast (pc' := 71) (q := l) hS8 rfl (tr_s hr8 (a := 76) rfl (by omega)) tbr_inj (Nat.le_of_ble_eq_true rfl) rfl (by omega) (by decide) (hW _ (by decide) (by decide)) rfl (fun h14 hS15 hE16 => ?_)
        refine go_s (pc' := 72) rfl rfl rfl rfl ?_
        refine go_s (pc' := 73) rfl rfl rfl rfl ?_
        refine go_s (pc' := 74) rfl rfl rfl rfl ?_
        refine go_s (pc' := 75) rfl rfl rfl rfl ?_
        change sm (tbr am8 (13 * ln8) 77 5088) _ (uI (jn I8 K8) 10 l (m.1 1)) Y8 at hS15
        rw [jn_lo (c := 10) (by decide)] at hS15
        have hU17 : RU w B R [(x, m)] true h14 am8 ln8 K8 ((uI I8 10 l (m.1 1)), Q8, Z8) := RU_I (hE16) (I' := (uI I8 10 l (m.1 1))) (fun _ => rfl) (fun _ => rfl) (Nat.le_refl _) hU8
        have hNe : ((uI I8 10 l (m.1 1)), Q8, Z8) = mar2 l (m.1 1) (mar1 false l (I, Q, Z)) := by
          show _ = (uI (mlv l (I, Q, Z)).1 10 l (m.1 1), (mlv l (I, Q, Z)).2)
          rw [← eM8]
        obtain ⟨ka1, ka2, ka3, ka4, ka5, ka6⟩ := hV.1.1.2.2.2.2.2.1 l hl
        have hup : I 0 3 = 1 := by
          have z := (ka1 (show ¬ Q l = [] by rw [hQ]; exact List.cons_ne_nil _ _)).2.1
          rw [el, show (4 * f + 3) % 4 = 3 by omega] at z
          exact z
        have hMK : MK m := ka5 0 m (by show (Q l)[0]? = some m; rw [hQ]; rfl)
        have hN9 : INV X ((uI I8 10 l (m.1 1)), Q8, Z8) := by
          rw [hNe]
          exact (INV_m2 (lost := false) (by omega) hV.1 hl hQ).1
        have hup9 : (uI I8 10 l (m.1 1)) 0 3 = 1 := by
          rw [show (uI I8 10 l (m.1 1)) = (((uI I8 10 l (m.1 1)), Q8, Z8) : mM).1 from rfl, hNe]
          show uI (mar1 false l (I, Q, Z)).1 10 l (m.1 1) 0 3 = 1
          rw [uI_c (by decide), mar_f.1 0 (by decide) (by decide)]
          exact hup
        have hwd9 : ∀ k, k < 3 → m.1 0 = 5 → m.1 5 = nI k → m.1 6 = (uI I8 10 l (m.1 1)) 15 k → (∀ i y, ¬ US (uI I8 10 l (m.1 1)) Q8 k i y) ∧ ((uI I8 10 l (m.1 1)) 16 k = 1 → MID (X + 1) (rgo k ((uI I8 10 l (m.1 1)), Q8, Z8))) := fun k hk h0 h5 h6 => by
          have z := WD_of (N := ((uI I8 10 l (m.1 1)), Q8, Z8)) (lost := false) (by omega) hV.1 hV.2.1 hf (by decide : 3 < 4) el hl hQ c4 hk h5 h0 hNe h6
          exact ⟨z.2.2.1, z.2.2.2⟩
        have hU18 : RU w B R [(x, m)] true h14 am8 ln8 K8 ((uI I8 10 l (m.1 1)), Q8, Z8) := RU_I (sm_e_refl (tbr am8 (13 * ln8) 77 5088) _) (I' := (uI I8 10 l (m.1 1))) (fun _ => rfl) (fun _ => rfl) (Nat.le_refl _) hU17
        have hA19 : RA w B R [(x, m)] true h14 ((uI I8 10 l (m.1 1)), Q8, Z8) := RA_u.mpr ⟨_, _, _, _, hS15, hU18⟩
        refine go_callV (pc' := 76) rfl rfl rfl (Nat.le_of_ble_eq_true rfl) rfl (sm_o hS15 rfl) rfl rfl rfl (ra_br_3 hA19 (by omega) (by omega) hN9 hMK hup9 hf hwd9 (by omega)) (fun r h20 q21 => ?_)
        obtain ⟨rfl, hA22⟩ := q21
        refine go_s (pc' := 77) rfl rfl rfl rfl ?_
        refine go_ifP (t' := 81) (pc' := 78) rfl rfl rfl (fun (c : ¬ (0 : Int32) = 0) => absurd c (by decide)) (fun _ => ?_)
        refine go_s (pc' := 79) rfl rfl rfl rfl ?_
        refine go_s (pc' := 80) rfl rfl rfl rfl ?_
        obtain ⟨K9, Y9, am9, ln9, hS9, -⟩ := RA_u.mp hA22
        refine go_callV (pc' := 81) rfl rfl rfl (Nat.le_of_ble_eq_true rfl) rfl (sm_o hS9 rfl) rfl rfl rfl (ra_gs (hb := true) hA22 (by omega) (by omega)) (fun r h23 q24 => ?_)
        obtain ⟨rfl, hA25⟩ := q24
        refine go_s (pc' := 82) rfl rfl rfl rfl ?_
        refine go_ifP (t' := 85) (pc' := 83) rfl rfl rfl (fun (c : (1 : Int32) = 0) => absurd c (by decide)) (fun _ => ?_)
        refine go_s (pc' := 84) (st' := [.int 1]) rfl rfl rfl rfl ?_
        refine go_s (pc' := 86) rfl rfl rfl rfl ?_
        refine go_ret rfl rfl ?_
        have hms : rarr f 3 false (I, Q, Z) = (1, rbr f 3 m ((uI I8 10 l (m.1 1)), Q8, Z8)) := by
          unfold rarr
          rw [← el, show ((I, Q, Z) : mM).2.1 l = m :: q from hQ]
          exact (if_neg c3).trans ((if_neg c4).trans (by rw [hNe]))
        rw [hms]
        exact ⟨rfl, RA_R (by omega) hA25⟩
    · skip
      have c3 : (I 24 l) = (-1) := Decidable.not_not.mp c3'
      refine go_s (pc' := 29) (st' := [.int 0]) rfl rfl rfl rfl ?_
      refine go_ret rfl rfl ?_
      have hms : rarr f 3 false (I, Q, Z) = (0, (I, Q, Z)) := by
        unfold rarr
        rw [← el, show ((I, Q, Z) : mM).2.1 l = m :: q from hQ]
        exact if_pos c3
      rw [hms]
      exact ⟨rfl, RA_R (by omega) hA⟩
theorem ra_arr_1_3 {w : Nat → Bool} {d B R : Nat} {h : am_Hp} {I : sm_I} {Q : mQ} {Z : mZ} (hA : RA w B R [] true h (I, Q, Z)) (hR : R + 20 < 40000) {X : Nat} (hX : X + 60 < 2 ^ 28) (hV : XV X (I, Q, Z)) {f : Nat} (hf : f < 4) (hfp : ¬ f = 3) (hd : 12 ≤ d) : am_Ev (am_prog w) d 176 [.ref 62, .int (nI f), .int 3, .int 1] h (fun r h' => r = some (.int (rarr f 3 true (I, Q, Z)).1) ∧ RA w B (R + 4) [] true h' (rarr f 3 true (I, Q, Z)).2) := by
  obtain ⟨K, Y, am, ln, hS, hU⟩ := RA_u.mp hA
  change sm (tbr am (13 * ln) 77 5088) h (jn I K) Y at hS
  obtain ⟨hW, hWm, -, -, hr, -⟩ := id hU.1
  have hln := RU_ln hU (by omega)
  obtain ⟨d, rfl⟩ : ∃ e, d = e + 1 := ⟨d - 1, by omega⟩
  refine ev_go rfl (Nat.le_of_ble_eq_true rfl) rfl ?_
  refine go_s (pc' := 1) rfl rfl rfl rfl ?_
  refine go_s (pc' := 2) rfl rfl rfl rfl ?_
  refine go_callS (pc' := 3) rfl rfl rfl (Nat.le_of_ble_eq_true rfl) rfl rfl rfl (rt_isl_t (f := f) (p := 3) hf (by decide) hfp (by omega)) (fun r h1 q2 => ?_)
  obtain ⟨rfl, rfl⟩ := q2
  refine go_ifP (t' := 6) (pc' := 4) rfl rfl rfl (fun _ => ?_) (fun (c : ¬ (¬ (1 : Int32) = 0)) => absurd (by decide) c)
  refine go_s (pc' := 7) (st' := [.int 4]) rfl rfl rfl rfl ?_
  refine go_s (pc' := 8) rfl rfl rfl rfl ?_
  refine go_nmul (pc' := 9) (a := 4) (b := f) rfl rfl rfl rfl rfl ?_
  refine go_s (pc' := 10) rfl rfl rfl rfl ?_
  refine go_nadd (pc' := 11) (a := (4 * f)) (b := 3) rfl rfl rfl rfl rfl ?_
  refine go_s (pc' := 12) (lo' := [some (.ref 62), some (.int (nI f)), some (.int 3), some (.int 1), some (.int (nI ((4 * f) + 3))), none, none]) rfl rfl rfl rfl ?_
  obtain ⟨l, el⟩ : ∃ l, l = 4 * f + 3 := ⟨_, rfl⟩
  rw [show (4 * f) + 3 = l from el.symm]
  have hl : l < 16 := by omega
  cases hQ : Q l with
  | nil =>
    have h55 : K 55 l = 0 := by
      have z := (RU_lk (l := l) hU hl).1
      rw [hQ] at z
      exact z
    refine go_s (pc' := 13) rfl rfl rfl rfl ?_
    refine go_sget (pc' := 14) (v := .ref 74) hS rfl rfl rfl (by decide) rfl rfl ?_
    refine go_s (pc' := 15) rfl rfl rfl rfl ?_
    refine go_sald (pc' := 16) (q := l) (v := .int 0) hS rfl (tr_s hr (a := 74) rfl (by omega)) rfl rfl (by omega) (congrArg Value.int h55) rfl ?_
    refine go_ifP (t' := 28) (pc' := 17) rfl rfl rfl (fun _ => ?_) (fun (c : ¬ ((0 : Int32) = 0)) => absurd (by decide) c)
    refine go_s (pc' := 29) (st' := [.int 0]) rfl rfl rfl rfl ?_
    refine go_ret rfl rfl ?_
    have hms : rarr f 3 true (I, Q, Z) = (0, (I, Q, Z)) := by
      unfold rarr
      rw [← el, show ((I, Q, Z) : mM).2.1 l = [] from hQ]
    rw [hms]
    exact ⟨rfl, RA_R (by omega) hA⟩
  | cons m q =>
    obtain ⟨hk55, hle, hxx⟩ := RU_lk (l := l) hU hl
    obtain ⟨x, h53, hx, hk2, hk3, hk0, hk1⟩ := hxx m q hQ
    rw [hQ] at hk55 hle
    have h55 : K 55 l = nI (q.length + 1) := hk55
    have hle2 : q.length + 1 ≤ ln := hle
    refine go_s (pc' := 13) rfl rfl rfl rfl ?_
    refine go_sget (pc' := 14) (v := .ref 74) hS rfl rfl rfl (by decide) rfl rfl ?_
    refine go_s (pc' := 15) rfl rfl rfl rfl ?_
    refine go_sald (pc' := 16) (q := l) (v := .int (nI (q.length + 1))) hS rfl (tr_s hr (a := 74) rfl (by omega)) rfl rfl (by omega) (congrArg Value.int h55) rfl ?_
    refine go_ifP (t' := 28) (pc' := 17) rfl rfl rfl (fun (c : (nI (q.length + 1)) = 0) => absurd c (nI_n0 (by omega))) (fun _ => ?_)
    refine go_s (pc' := 18) rfl rfl rfl rfl ?_
    refine go_sget (pc' := 19) (v := .ref am) hS rfl rfl rfl (by decide) rfl rfl ?_
    refine go_s (pc' := 20) rfl rfl rfl rfl ?_
    refine go_sget (pc' := 21) (v := .ref 72) hS rfl rfl rfl (by decide) rfl rfl ?_
    refine go_s (pc' := 22) rfl rfl rfl rfl ?_
    refine go_sald (pc' := 23) (q := l) (v := .int (nI (13 * x))) hS rfl (tr_s hr (a := 72) rfl (by omega)) rfl rfl (by omega) (congrArg Value.int h53) rfl ?_
    refine go_s (pc' := 24) (st' := [.int 2, .int (nI (13 * x)), .ref am]) rfl rfl rfl rfl ?_
    refine go_nadd (pc' := 25) (a := (13 * x)) (b := 2) rfl rfl rfl rfl rfl ?_
    refine go_sald (pc' := 26) (q := ((13 * x) + 2)) (v := .int (I 24 l)) hS rfl (tr_ms hr (by omega)) rfl rfl (by omega) (congrArg Value.int hk2) rfl ?_
    refine go_s (pc' := 27) (st' := [.int (-1), .int (I 24 l)]) rfl rfl rfl rfl ?_
    refine go_icmpP (t' := 30) (pc' := 28) rfl rfl rfl (fun (c3 : ¬ (I 24 l) = (-1)) => ?_) (fun (c3' : ¬ ¬ (I 24 l) = (-1)) => ?_)
    · skip
      refine go_s (pc' := 31) rfl rfl rfl rfl ?_
      refine go_sget (pc' := 32) (v := .ref 72) hS rfl rfl rfl (by decide) rfl rfl ?_
      refine go_s (pc' := 33) rfl rfl rfl rfl ?_
      refine go_sald (pc' := 34) (q := l) (v := .int (nI (13 * x))) hS rfl (tr_s hr (a := 72) rfl (by omega)) rfl rfl (by omega) (congrArg Value.int h53) rfl ?_
      refine go_s (pc' := 35) (lo' := [some (.ref 62), some (.int (nI f)), some (.int 3), some (.int 1), some (.int (nI l)), some (.int (nI (13 * x))), none]) rfl rfl rfl rfl ?_
      refine go_s (pc' := 36) rfl rfl rfl rfl ?_
      refine go_sget (pc' := 37) (v := .ref am) hS rfl rfl rfl (by decide) rfl rfl ?_
      refine go_s (pc' := 38) rfl rfl rfl rfl ?_
      refine go_s (pc' := 39) (st' := [.int 1, .int (nI (13 * x)), .ref am]) rfl rfl rfl rfl ?_
      refine go_nadd (pc' := 40) (a := (13 * x)) (b := 1) rfl rfl rfl rfl rfl ?_
      refine go_sald (pc' := 41) (q := ((13 * x) + 1)) (v := .int (m.1 1)) hS rfl (tr_ms hr (by omega)) rfl rfl (by omega) (congrArg Value.int hk1) rfl ?_
      refine go_s (pc' := 42) rfl rfl rfl rfl ?_
      refine go_sget (pc' := 43) (v := .ref 76) hS rfl rfl rfl (by decide) rfl rfl ?_
      refine go_s (pc' := 44) rfl rfl rfl rfl ?_
      refine go_sald (pc' := 45) (q := l) (v := .int (I 10 l)) hS rfl (tr_s hr (a := 76) rfl (by omega)) rfl rfl (by omega) rfl rfl ?_
      refine go_icmpP (t' := 48) (pc' := 46) rfl rfl rfl (fun (c4 : (m.1 1) ≤ (I 10 l)) => ?_) (fun (c4 : ¬ (m.1 1) ≤ (I 10 l)) => ?_)
      · skip
        refine go_s (pc' := 49) (st' := [.int 0]) rfl rfl rfl rfl ?_
        refine go_s (pc' := 50) (lo' := [some (.ref 62), some (.int (nI f)), some (.int 3), some (.int 1), some (.int (nI l)), some (.int (nI (13 * x))), some (.int 0)]) rfl rfl rfl rfl ?_
        refine go_s (pc' := 51) rfl rfl rfl rfl ?_
        refine go_ifP (t' := 56) (pc' := 52) rfl rfl rfl (fun (c : (1 : Int32) = 0) => absurd c (by decide)) (fun _ => ?_)
        refine go_s (pc' := 53) rfl rfl rfl rfl ?_
        refine go_s (pc' := 54) rfl rfl rfl rfl ?_
        have hU5 : RU w B R [] true h1 am ln K (I, Q, Z) := RU_I (sm_e_refl (tbr am (13 * ln) 77 5088) _) (I' := I) (fun _ => rfl) (fun _ => rfl) (Nat.le_refl _) hU
        refine go_callV (pc' := 55) rfl rfl rfl (Nat.le_of_ble_eq_true rfl) rfl (sm_o hS rfl) rfl rfl rfl (rx_wn hr hS hln hW hWm (l := l) (x := x) (n := q.length) hl hx (by omega) h55 h53 (by omega)) (fun r h6 q7 => ?_)
        obtain ⟨rfl, hS8, hE9⟩ := q7
        have hS11 : sm (tbr am (13 * ln) 77 5088) _ (jn (uI I 24 l (-1)) (uI K 50 (13 * x + 2) (-1))) Y := sm_jg hr hS8 (fun c j _ n1 n2 n3 => uI_c n1)
        have hU10 : RU w B R [] true h6 am ln (uI K 50 (13 * x + 2) (-1)) ((uI I 24 l (-1)), Q, Z) := RU_bus hl hU5 hln hE9 hQ h53 hx (fun i hi => uI_j hi) (fun i _ => uI_c (by decide)) rfl (fun c j _ hc => if_neg (fun z => hc ⟨z.1, Or.inl z.2⟩)) (uI_s.trans uI_s.symm) ((uI_j (by omega)).trans (hk3.trans (uI_c (by decide)).symm))
        refine go_s (pc' := 59) rfl rfl rfl rfl ?_
        refine go_s (pc' := 60) rfl rfl rfl rfl ?_
        refine go_ifP (t' := 76) (pc' := 61) rfl rfl rfl (fun _ => ?_) (fun (c : ¬ ((0 : Int32) = 0)) => absurd (by decide) c)
        refine go_s (pc' := 77) rfl rfl rfl rfl ?_
        refine go_ifP (t' := 81) (pc' := 78) rfl rfl rfl (fun _ => ?_) (fun (c : ¬ (¬ (1 : Int32) = 0)) => absurd (by decide) c)
        refine go_s (pc' := 82) rfl rfl rfl rfl ?_
        refine go_ifP (t' := 85) (pc' := 83) rfl rfl rfl (fun _ => ?_) (fun (c : ¬ ((0 : Int32) = 0)) => absurd (by decide) c)
        refine go_s (pc' := 86) (st' := [.int 2]) rfl rfl rfl rfl ?_
        refine go_ret rfl rfl ?_
        have hA12 : RA w B R [] true h6 ((uI I 24 l (-1)), Q, Z) := RA_u.mpr ⟨_, _, _, _, hS11, hU10⟩
        have hms : rarr f 3 true (I, Q, Z) = (2, ((uI I 24 l (-1)), Q, Z)) := by
          unfold rarr
          rw [← el, show ((I, Q, Z) : mM).2.1 l = m :: q from hQ]
          exact (if_neg c3).trans (if_pos c4)
        rw [hms]
        exact ⟨rfl, RA_R (by omega) hA12⟩
      · skip
        refine go_s (pc' := 47) (st' := [.int 1]) rfl rfl rfl rfl ?_
        refine go_s (pc' := 49) rfl rfl rfl rfl ?_
        refine go_s (pc' := 50) (lo' := [some (.ref 62), some (.int (nI f)), some (.int 3), some (.int 1), some (.int (nI l)), some (.int (nI (13 * x))), some (.int 1)]) rfl rfl rfl rfl ?_
        refine go_s (pc' := 51) rfl rfl rfl rfl ?_
        refine go_ifP (t' := 56) (pc' := 52) rfl rfl rfl (fun (c : (1 : Int32) = 0) => absurd c (by decide)) (fun _ => ?_)
        refine go_s (pc' := 53) rfl rfl rfl rfl ?_
        refine go_s (pc' := 54) rfl rfl rfl rfl ?_
        have hU13 : RU w B R [] true h1 am ln K (I, Q, Z) := RU_I (sm_e_refl (tbr am (13 * ln) 77 5088) _) (I' := I) (fun _ => rfl) (fun _ => rfl) (Nat.le_refl _) hU
        refine go_callV (pc' := 55) rfl rfl rfl (Nat.le_of_ble_eq_true rfl) rfl (sm_o hS rfl) rfl rfl rfl (rx_wn hr hS hln hW hWm (l := l) (x := x) (n := q.length) hl hx (by omega) h55 h53 (by omega)) (fun r h14 q15 => ?_)
        obtain ⟨rfl, hS16, hE17⟩ := q15
        have hS19 : sm (tbr am (13 * ln) 77 5088) _ (jn (uI I 24 l (-1)) (uI K 50 (13 * x + 2) (-1))) Y := sm_jg hr hS16 (fun c j _ n1 n2 n3 => uI_c n1)
        have hU18 : RU w B R [] true h14 am ln (uI K 50 (13 * x + 2) (-1)) ((uI I 24 l (-1)), Q, Z) := RU_bus hl hU13 hln hE17 hQ h53 hx (fun i hi => uI_j hi) (fun i _ => uI_c (by decide)) rfl (fun c j _ hc => if_neg (fun z => hc ⟨z.1, Or.inl z.2⟩)) (uI_s.trans uI_s.symm) ((uI_j (by omega)).trans (hk3.trans (uI_c (by decide)).symm))
        refine go_s (pc' := 59) rfl rfl rfl rfl ?_
        refine go_s (pc' := 60) rfl rfl rfl rfl ?_
        refine go_ifP (t' := 76) (pc' := 61) rfl rfl rfl (fun (c : (1 : Int32) = 0) => absurd c (by decide)) (fun _ => ?_)
        refine go_s (pc' := 62) rfl rfl rfl rfl ?_
        refine go_sget (pc' := 63) (v := .ref 76) hS19 rfl rfl rfl (by decide) rfl rfl ?_
        refine go_s (pc' := 64) rfl rfl rfl rfl ?_
        refine go_s (pc' := 65) rfl rfl rfl rfl ?_
        refine go_sget (pc' := 66) (v := .ref am) hS19 rfl rfl rfl (by decide) rfl rfl ?_
        refine go_s (pc' := 67) rfl rfl rfl rfl ?_
        refine go_s (pc' := 68) (st' := [.int 1, .int (nI (13 * x)), .ref am, .int (nI l), .ref 76]) rfl rfl rfl rfl ?_
        refine go_nadd (pc' := 69) (a := (13 * x)) (b := 1) rfl rfl rfl rfl rfl ?_
        refine go_sald (pc' := 70) (q := ((13 * x) + 1)) (v := .int (m.1 1)) hS19 rfl (tr_ms hr (by omega)) rfl rfl (by omega) (congrArg Value.int ((uI_j (by omega)).trans hk1)) rfl ?_
        refine go_siast (pc' := 71) (q := l) hS19 rfl (tr_s hr (a := 76) rfl (by omega)) tbr_inj (Nat.le_of_ble_eq_true rfl) rfl (by omega) (by decide) (hW _ (by decide) (by decide)) rfl (fun h20 hS21 hE22 => ?_)
        refine go_s (pc' := 72) rfl rfl rfl rfl ?_
        refine go_s (pc' := 73) rfl rfl rfl rfl ?_
        refine go_s (pc' := 74) rfl rfl rfl rfl ?_
        refine go_s (pc' := 75) rfl rfl rfl rfl ?_
        change sm (tbr am (13 * ln) 77 5088) _ (uI (jn (uI I 24 l (-1)) (uI K 50 (13 * x + 2) (-1))) 10 l (m.1 1)) Y at hS21
        rw [jn_lo (c := 10) (by decide)] at hS21
        have hU23 : RU w B R [] true h20 am ln (uI K 50 (13 * x + 2) (-1)) ((uI (uI I 24 l (-1)) 10 l (m.1 1)), Q, Z) := RU_I (hE22) (I' := (uI (uI I 24 l (-1)) 10 l (m.1 1))) (fun _ => rfl) (fun _ => rfl) (Nat.le_refl _) hU18
        have hU24 := RU_hold hl hU23 hln hQ ((uI_c (by decide)).trans h53) hx
        have hNe : ((uI (uI I 24 l (-1)) 10 l (m.1 1)), Q, Z) = mar2 l (m.1 1) (mar1 true l (I, Q, Z)) := by
          rfl
        obtain ⟨ka1, ka2, ka3, ka4, ka5, ka6⟩ := hV.1.1.2.2.2.2.2.1 l hl
        have hup : I 0 3 = 1 := by
          have z := (ka1 (show ¬ Q l = [] by rw [hQ]; exact List.cons_ne_nil _ _)).2.1
          rw [el, show (4 * f + 3) % 4 = 3 by omega] at z
          exact z
        have hMK : MK m := ka5 0 m (by show (Q l)[0]? = some m; rw [hQ]; rfl)
        have hN9 : INV X ((uI (uI I 24 l (-1)) 10 l (m.1 1)), Q, Z) := by
          rw [hNe]
          exact (INV_m2 (lost := true) (by omega) hV.1 hl hQ).1
        have hup9 : (uI (uI I 24 l (-1)) 10 l (m.1 1)) 0 3 = 1 := by
          rw [show (uI (uI I 24 l (-1)) 10 l (m.1 1)) = (((uI (uI I 24 l (-1)) 10 l (m.1 1)), Q, Z) : mM).1 from rfl, hNe]
          show uI (mar1 true l (I, Q, Z)).1 10 l (m.1 1) 0 3 = 1
          rw [uI_c (by decide), mar_f.1 0 (by decide) (by decide)]
          exact hup
        have hwd9 : ∀ k, k < 3 → m.1 0 = 5 → m.1 5 = nI k → m.1 6 = (uI (uI I 24 l (-1)) 10 l (m.1 1)) 15 k → (∀ i y, ¬ US (uI (uI I 24 l (-1)) 10 l (m.1 1)) Q k i y) ∧ ((uI (uI I 24 l (-1)) 10 l (m.1 1)) 16 k = 1 → MID (X + 1) (rgo k ((uI (uI I 24 l (-1)) 10 l (m.1 1)), Q, Z))) := fun k hk h0 h5 h6 => by
          have z := WD_of (N := ((uI (uI I 24 l (-1)) 10 l (m.1 1)), Q, Z)) (lost := true) (by omega) hV.1 hV.2.1 hf (by decide : 3 < 4) el hl hQ c4 hk h5 h0 hNe h6
          exact ⟨z.2.2.1, z.2.2.2⟩
        have hU25 : RU w B R [(x, m)] false h20 am ln (uI K 50 (13 * x + 2) (-1)) ((uI (uI I 24 l (-1)) 10 l (m.1 1)), Q, Z) := RU_I (sm_e_refl (tbr am (13 * ln) 77 5088) _) (I' := (uI (uI I 24 l (-1)) 10 l (m.1 1))) (fun _ => rfl) (fun _ => rfl) (Nat.le_refl _) hU24
        have hA26 : RA w B R [(x, m)] false h20 ((uI (uI I 24 l (-1)) 10 l (m.1 1)), Q, Z) := RA_u.mpr ⟨_, _, _, _, hS21, hU25⟩
        refine go_callV (pc' := 76) rfl rfl rfl (Nat.le_of_ble_eq_true rfl) rfl (sm_o hS21 rfl) rfl rfl rfl (ra_br_3 hA26 (by omega) (by omega) hN9 hMK hup9 hf hwd9 (by omega)) (fun r h27 q28 => ?_)
        obtain ⟨rfl, hA29⟩ := q28
        refine go_s (pc' := 77) rfl rfl rfl rfl ?_
        refine go_ifP (t' := 81) (pc' := 78) rfl rfl rfl (fun _ => ?_) (fun (c : ¬ (¬ (1 : Int32) = 0)) => absurd (by decide) c)
        refine go_s (pc' := 82) rfl rfl rfl rfl ?_
        refine go_ifP (t' := 85) (pc' := 83) rfl rfl rfl (fun (c : (1 : Int32) = 0) => absurd c (by decide)) (fun _ => ?_)
        refine go_s (pc' := 84) (st' := [.int 1]) rfl rfl rfl rfl ?_
        refine go_s (pc' := 86) rfl rfl rfl rfl ?_
        refine go_ret rfl rfl ?_
        have hms : rarr f 3 true (I, Q, Z) = (1, rbr f 3 m ((uI (uI I 24 l (-1)) 10 l (m.1 1)), Q, Z)) := by
          unfold rarr
          rw [← el, show ((I, Q, Z) : mM).2.1 l = m :: q from hQ]
          exact (if_neg c3).trans ((if_neg c4).trans (by rw [hNe]))
        rw [hms]
        exact ⟨rfl, RA_R (by omega) (RA_drop hA29)⟩
    · skip
      have c3 : (I 24 l) = (-1) := Decidable.not_not.mp c3'
      refine go_s (pc' := 29) (st' := [.int 0]) rfl rfl rfl rfl ?_
      refine go_ret rfl rfl ?_
      have hms : rarr f 3 true (I, Q, Z) = (0, (I, Q, Z)) := by
        unfold rarr
        rw [← el, show ((I, Q, Z) : mM).2.1 l = m :: q from hQ]
        exact if_pos c3
      rw [hms]
      exact ⟨rfl, RA_R (by omega) hA⟩
