def cmp3 (x y : Int32) : Int32 := if x < y then -1 else if x = y then 0 else 1
def mord (F q : Nat → Int32) (t : Nat) : Int32 := if cmp3 (q 1) (F (6 + t)) = 0 then cmp3 (q 2) (F (8 + t)) else cmp3 (q 1) (F (6 + t))
def hall (I : sm_I) (g : Nat → Int32) (n : Int32) : Bool := if us I 0 = true then (if g 0 < n then false else if us I 1 = true then decide (¬ g 1 < n) else true) else if us I 1 = true then decide (¬ g 1 < n) else decide (n = 0)
theorem ct_cmp {w : Nat → Bool} {d : Nat} {h : am_Hp} {x y : Int32} (hd : 1 ≤ d) : am_Ev (am_prog w) d 51 [.int x, .int y] h (fun r h' => r = some (.int (cmp3 x y)) ∧ h' = h) := by
  obtain ⟨d, rfl⟩ : ∃ e, d = e + 1 := ⟨d - 1, by omega⟩
  refine ev_go rfl (Nat.le_of_ble_eq_true rfl) rfl ?_
  refine go_s (pc' := 1) rfl rfl rfl rfl ?_
  refine go_s (pc' := 2) rfl rfl rfl rfl ?_
  refine go_icmpP (t' := 5) (pc' := 3) rfl rfl rfl (fun (c1 : y ≤ x) => ?_) (fun (c1 : ¬ y ≤ x) => ?_)
  · skip
    refine go_s (pc' := 6) rfl rfl rfl rfl ?_
    refine go_s (pc' := 7) rfl rfl rfl rfl ?_
    refine go_icmpP (t' := 10) (pc' := 8) rfl rfl rfl (fun (c2 : ¬ x = y) => ?_) (fun (c2' : ¬ ¬ x = y) => ?_)
    · skip
      refine go_s (pc' := 11) (st' := [.int 1]) rfl rfl rfl rfl ?_
      refine go_ret rfl rfl ?_
      exact ⟨by unfold cmp3; simp only [if_neg (show ¬ x < y from Int32.not_lt.mpr c1), if_neg c2], rfl⟩
    · skip
      have c2 : x = y := Decidable.not_not.mp c2'
      refine go_s (pc' := 9) (st' := [.int 0]) rfl rfl rfl rfl ?_
      refine go_s (pc' := 11) rfl rfl rfl rfl ?_
      refine go_ret rfl rfl ?_
      exact ⟨by unfold cmp3; simp only [if_neg (show ¬ x < y from Int32.not_lt.mpr c1), if_pos c2], rfl⟩
  · skip
    refine go_s (pc' := 4) (st' := [.int (-1)]) rfl rfl rfl rfl ?_
    refine go_s (pc' := 11) rfl rfl rfl rfl ?_
    refine go_ret rfl rfl ?_
    exact ⟨by unfold cmp3; simp only [if_pos (show x < y from Int32.not_le.mp c1)], rfl⟩
theorem cs_ord_0 {w : Nat → Bool} {d : Nat} {h : am_Hp} {S : sm_I} {Y : sm_X} {ad : Nat → Nat} (hA : adk ad) (hS : sm (tbs ad) h S Y) {a : Nat} {q F : Nat → Int32} (h_a : h[a]? = some (.inl (8, [.int 0, .int (q 1), .int (q 2), .int (q 3), .int (q 4), .int (q 5), .int (q 6)]))) (hF1 : S 1 0 = F (6 + 0)) (hF2 : S 2 0 = F (8 + 0)) (hd : 2 ≤ d) : am_Ev (am_prog w) d 50 [.ref (ad 0), .ref a] h (fun r h' => r = some (.int (mord F q 0)) ∧ h' = h) := by
  obtain ⟨d, rfl⟩ : ∃ e, d = e + 1 := ⟨d - 1, by omega⟩
  refine ev_go rfl (Nat.le_of_ble_eq_true rfl) rfl ?_
  refine go_s (pc' := 1) rfl rfl rfl rfl ?_
  refine go_get (pc' := 2) rfl h_a rfl (by decide) rfl rfl ?_
  refine go_s (pc' := 3) rfl rfl rfl rfl ?_
  refine go_sget (pc' := 4) (v := .ref (ad 1)) hS rfl rfl (tbs_s hA (i := 0) (by decide) rfl) (by decide) rfl rfl ?_
  refine go_s (pc' := 5) rfl rfl rfl rfl ?_
  refine go_get (pc' := 6) rfl h_a rfl (by decide) rfl rfl ?_
  refine go_sald (pc' := 7) (q := 0) (v := .int (S 1 0)) hS rfl (tbs_s hA (i := 1) (by decide) (rg_el (by omega))) rfl rfl (by decide) rfl rfl ?_
  refine go_callS (pc' := 8) rfl rfl rfl (Nat.le_of_ble_eq_true rfl) rfl rfl rfl (ct_cmp (x := (q 1)) (y := (S 1 0)) (by omega)) (fun r h1 q2 => ?_)
  obtain ⟨rfl, rfl⟩ := q2
  refine go_s (pc' := 9) (lo' := [some (.ref (ad 0)), some (.ref a), some (.int (cmp3 (q 1) (S 1 0)))]) rfl rfl rfl rfl ?_
  refine go_s (pc' := 10) rfl rfl rfl rfl ?_
  refine go_ifP (t' := 13) (pc' := 11) rfl rfl rfl (fun (c3 : (cmp3 (q 1) (S 1 0)) = 0) => ?_) (fun (c3 : ¬ (cmp3 (q 1) (S 1 0)) = 0) => ?_)
  · skip
    refine go_s (pc' := 14) rfl rfl rfl rfl ?_
    refine go_get (pc' := 15) rfl h_a rfl (by decide) rfl rfl ?_
    refine go_s (pc' := 16) rfl rfl rfl rfl ?_
    refine go_sget (pc' := 17) (v := .ref (ad 2)) hS rfl rfl (tbs_s hA (i := 0) (by decide) rfl) (by decide) rfl rfl ?_
    refine go_s (pc' := 18) rfl rfl rfl rfl ?_
    refine go_get (pc' := 19) rfl h_a rfl (by decide) rfl rfl ?_
    refine go_sald (pc' := 20) (q := 0) (v := .int (S 2 0)) hS rfl (tbs_s hA (i := 2) (by decide) (rg_el (by omega))) rfl rfl (by decide) rfl rfl ?_
    refine go_callS (pc' := 21) rfl rfl rfl (Nat.le_of_ble_eq_true rfl) rfl rfl rfl (ct_cmp (x := (q 2)) (y := (S 2 0)) (by omega)) (fun r h4 q5 => ?_)
    obtain ⟨rfl, rfl⟩ := q5
    refine go_ret rfl rfl ?_
    exact ⟨by unfold mord; rw [← hF1, ← hF2, if_pos c3], rfl⟩
  · skip
    refine go_s (pc' := 12) rfl rfl rfl rfl ?_
    refine go_s (pc' := 21) rfl rfl rfl rfl ?_
    refine go_ret rfl rfl ?_
    exact ⟨by unfold mord; rw [← hF1, ← hF2, if_neg c3], rfl⟩
theorem cs_ord_1 {w : Nat → Bool} {d : Nat} {h : am_Hp} {S : sm_I} {Y : sm_X} {ad : Nat → Nat} (hA : adk ad) (hS : sm (tbs ad) h S Y) {a : Nat} {q F : Nat → Int32} (h_a : h[a]? = some (.inl (8, [.int 1, .int (q 1), .int (q 2), .int (q 3), .int (q 4), .int (q 5), .int (q 6)]))) (hF1 : S 1 1 = F (6 + 1)) (hF2 : S 2 1 = F (8 + 1)) (hd : 2 ≤ d) : am_Ev (am_prog w) d 50 [.ref (ad 0), .ref a] h (fun r h' => r = some (.int (mord F q 1)) ∧ h' = h) := by
  obtain ⟨d, rfl⟩ : ∃ e, d = e + 1 := ⟨d - 1, by omega⟩
  refine ev_go rfl (Nat.le_of_ble_eq_true rfl) rfl ?_
  refine go_s (pc' := 1) rfl rfl rfl rfl ?_
  refine go_get (pc' := 2) rfl h_a rfl (by decide) rfl rfl ?_
  refine go_s (pc' := 3) rfl rfl rfl rfl ?_
  refine go_sget (pc' := 4) (v := .ref (ad 1)) hS rfl rfl (tbs_s hA (i := 0) (by decide) rfl) (by decide) rfl rfl ?_
  refine go_s (pc' := 5) rfl rfl rfl rfl ?_
  refine go_get (pc' := 6) rfl h_a rfl (by decide) rfl rfl ?_
  refine go_sald (pc' := 7) (q := 1) (v := .int (S 1 1)) hS rfl (tbs_s hA (i := 1) (by decide) (rg_el (by omega))) rfl rfl (by decide) rfl rfl ?_
  refine go_callS (pc' := 8) rfl rfl rfl (Nat.le_of_ble_eq_true rfl) rfl rfl rfl (ct_cmp (x := (q 1)) (y := (S 1 1)) (by omega)) (fun r h1 q2 => ?_)
  obtain ⟨rfl, rfl⟩ := q2
  refine go_s (pc' := 9) (lo' := [some (.ref (ad 0)), some (.ref a), some (.int (cmp3 (q 1) (S 1 1)))]) rfl rfl rfl rfl ?_
  refine go_s (pc' := 10) rfl rfl rfl rfl ?_
  refine go_ifP (t' := 13) (pc' := 11) rfl rfl rfl (fun (c3 : (cmp3 (q 1) (S 1 1)) = 0) => ?_) (fun (c3 : ¬ (cmp3 (q 1) (S 1 1)) = 0) => ?_)
  · skip
    refine go_s (pc' := 14) rfl rfl rfl rfl ?_
    refine go_get (pc' := 15) rfl h_a rfl (by decide) rfl rfl ?_
    refine go_s (pc' := 16) rfl rfl rfl rfl ?_
    refine go_sget (pc' := 17) (v := .ref (ad 2)) hS rfl rfl (tbs_s hA (i := 0) (by decide) rfl) (by decide) rfl rfl ?_
    refine go_s (pc' := 18) rfl rfl rfl rfl ?_
    refine go_get (pc' := 19) rfl h_a rfl (by decide) rfl rfl ?_
    refine go_sald (pc' := 20) (q := 1) (v := .int (S 2 1)) hS rfl (tbs_s hA (i := 2) (by decide) (rg_el (by omega))) rfl rfl (by decide) rfl rfl ?_
    refine go_callS (pc' := 21) rfl rfl rfl (Nat.le_of_ble_eq_true rfl) rfl rfl rfl (ct_cmp (x := (q 2)) (y := (S 2 1)) (by omega)) (fun r h4 q5 => ?_)
    obtain ⟨rfl, rfl⟩ := q5
    refine go_ret rfl rfl ?_
    exact ⟨by unfold mord; rw [← hF1, ← hF2, if_pos c3], rfl⟩
  · skip
    refine go_s (pc' := 12) rfl rfl rfl rfl ?_
    refine go_s (pc' := 21) rfl rfl rfl rfl ?_
    refine go_ret rfl rfl ?_
    exact ⟨by unfold mord; rw [← hF1, ← hF2, if_neg c3], rfl⟩
theorem cs_ans_0 {w : Nat → Bool} {d : Nat} {h : am_Hp} {S : sm_I} {Y : sm_X} {ad : Nat → Nat} (hA : adk ad) (hS : sm (tbs ad) h S Y) (hWn : ∀ a, h.length ≤ a → w a = true) (hd : 2 ≤ d) : am_Ev (am_prog w) d 46 [.ref (ad 0), .int 0] h (fun r h' => ∃ L : Nat, r = some (.ref L) ∧ L = h.length ∧ h'[L]? = some (.inl (10, [.int 0, .int (S 1 0), .int (S 2 0), .int (S 3 0), .int (S 4 0), .int (S 0 0)])) ∧ sm (tbs ad) h' S Y ∧ fr (tbs ad) h h' 1 6) := by
  obtain ⟨d, rfl⟩ : ∃ e, d = e + 1 := ⟨d - 1, by omega⟩
  refine ev_go rfl (Nat.le_of_ble_eq_true rfl) rfl ?_
  refine go_newF (pc' := 1) (n := 6) rfl rfl rfl rfl (fun L1 h2 hL3 hc4 hg5 => ?_)
  have ge_L1 : _ ≤ L1 := hL3 ▸ (fr_refl (tbs ad) h).1
  have nb_L1 := tbs_new (L := L1) hA hS (by omega)
  have hS6 := sm_gq hS hg5
  have hF7 := fr_gq (fr_refl (tbs ad) h) hg5
  refine go_s (pc' := 2) rfl rfl rfl rfl ?_
  refine go_s (pc' := 3) rfl rfl rfl rfl ?_
  refine go_s (pc' := 4) rfl rfl rfl rfl ?_
  refine go_sget (pc' := 5) (v := .ref (ad 1)) hS6 rfl rfl (tbs_s hA (i := 0) (by decide) rfl) (by decide) rfl rfl ?_
  refine go_s (pc' := 6) rfl rfl rfl rfl ?_
  refine go_sald (pc' := 7) (q := 0) (v := .int (S 1 0)) hS6 rfl (tbs_s hA (i := 1) (by decide) (rg_el (by omega))) rfl rfl (by decide) rfl rfl ?_
  refine go_s (pc' := 8) rfl rfl rfl rfl ?_
  refine go_sget (pc' := 9) (v := .ref (ad 2)) hS6 rfl rfl (tbs_s hA (i := 0) (by decide) rfl) (by decide) rfl rfl ?_
  refine go_s (pc' := 10) rfl rfl rfl rfl ?_
  refine go_sald (pc' := 11) (q := 0) (v := .int (S 2 0)) hS6 rfl (tbs_s hA (i := 2) (by decide) (rg_el (by omega))) rfl rfl (by decide) rfl rfl ?_
  refine go_s (pc' := 12) rfl rfl rfl rfl ?_
  refine go_sget (pc' := 13) (v := .ref (ad 3)) hS6 rfl rfl (tbs_s hA (i := 0) (by decide) rfl) (by decide) rfl rfl ?_
  refine go_s (pc' := 14) rfl rfl rfl rfl ?_
  refine go_sald (pc' := 15) (q := 0) (v := .int (S 3 0)) hS6 rfl (tbs_s hA (i := 3) (by decide) (rg_el (by omega))) rfl rfl (by decide) rfl rfl ?_
  refine go_s (pc' := 16) rfl rfl rfl rfl ?_
  refine go_sget (pc' := 17) (v := .ref (ad 4)) hS6 rfl rfl (tbs_s hA (i := 0) (by decide) rfl) (by decide) rfl rfl ?_
  refine go_s (pc' := 18) rfl rfl rfl rfl ?_
  refine go_sald (pc' := 19) (q := 0) (v := .int (S 4 0)) hS6 rfl (tbs_s hA (i := 4) (by decide) (rg_el (by omega))) rfl rfl (by decide) rfl rfl ?_
  refine go_s (pc' := 20) rfl rfl rfl rfl ?_
  refine go_sget (pc' := 21) (v := .int (S 0 0)) hS6 rfl rfl (tbs_s hA (i := 0) (by decide) rfl) (by decide) rfl rfl ?_
  refine go_callI (pc' := 22) rfl rfl rfl (Nat.le_of_ble_eq_true rfl) rfl hc4 rfl rfl rfl (ci_ans hc4 (hWn _ (by omega)) (by omega)) (fun r h8 q9 => ?_)
  obtain ⟨rfl, hc10, hp11⟩ := q9
  have hS12 := sm_pq hS6 hp11 nb_L1
  have hF13 := fr_pq hF7 hp11 (by omega)
  refine go_ret rfl rfl ?_
  exact ⟨L1, rfl, by omega, hc10, hS12, hF13⟩
theorem cs_ans_1 {w : Nat → Bool} {d : Nat} {h : am_Hp} {S : sm_I} {Y : sm_X} {ad : Nat → Nat} (hA : adk ad) (hS : sm (tbs ad) h S Y) (hWn : ∀ a, h.length ≤ a → w a = true) (hd : 2 ≤ d) : am_Ev (am_prog w) d 46 [.ref (ad 0), .int 1] h (fun r h' => ∃ L : Nat, r = some (.ref L) ∧ L = h.length ∧ h'[L]? = some (.inl (10, [.int 1, .int (S 1 1), .int (S 2 1), .int (S 3 1), .int (S 4 1), .int (S 0 0)])) ∧ sm (tbs ad) h' S Y ∧ fr (tbs ad) h h' 1 6) := by
  obtain ⟨d, rfl⟩ : ∃ e, d = e + 1 := ⟨d - 1, by omega⟩
  refine ev_go rfl (Nat.le_of_ble_eq_true rfl) rfl ?_
  refine go_newF (pc' := 1) (n := 6) rfl rfl rfl rfl (fun L1 h2 hL3 hc4 hg5 => ?_)
  have ge_L1 : _ ≤ L1 := hL3 ▸ (fr_refl (tbs ad) h).1
  have nb_L1 := tbs_new (L := L1) hA hS (by omega)
  have hS6 := sm_gq hS hg5
  have hF7 := fr_gq (fr_refl (tbs ad) h) hg5
  refine go_s (pc' := 2) rfl rfl rfl rfl ?_
  refine go_s (pc' := 3) rfl rfl rfl rfl ?_
  refine go_s (pc' := 4) rfl rfl rfl rfl ?_
  refine go_sget (pc' := 5) (v := .ref (ad 1)) hS6 rfl rfl (tbs_s hA (i := 0) (by decide) rfl) (by decide) rfl rfl ?_
  refine go_s (pc' := 6) rfl rfl rfl rfl ?_
  refine go_sald (pc' := 7) (q := 1) (v := .int (S 1 1)) hS6 rfl (tbs_s hA (i := 1) (by decide) (rg_el (by omega))) rfl rfl (by decide) rfl rfl ?_
  refine go_s (pc' := 8) rfl rfl rfl rfl ?_
  refine go_sget (pc' := 9) (v := .ref (ad 2)) hS6 rfl rfl (tbs_s hA (i := 0) (by decide) rfl) (by decide) rfl rfl ?_
  refine go_s (pc' := 10) rfl rfl rfl rfl ?_
  refine go_sald (pc' := 11) (q := 1) (v := .int (S 2 1)) hS6 rfl (tbs_s hA (i := 2) (by decide) (rg_el (by omega))) rfl rfl (by decide) rfl rfl ?_
  refine go_s (pc' := 12) rfl rfl rfl rfl ?_
  refine go_sget (pc' := 13) (v := .ref (ad 3)) hS6 rfl rfl (tbs_s hA (i := 0) (by decide) rfl) (by decide) rfl rfl ?_
  refine go_s (pc' := 14) rfl rfl rfl rfl ?_
  refine go_sald (pc' := 15) (q := 1) (v := .int (S 3 1)) hS6 rfl (tbs_s hA (i := 3) (by decide) (rg_el (by omega))) rfl rfl (by decide) rfl rfl ?_
  refine go_s (pc' := 16) rfl rfl rfl rfl ?_
  refine go_sget (pc' := 17) (v := .ref (ad 4)) hS6 rfl rfl (tbs_s hA (i := 0) (by decide) rfl) (by decide) rfl rfl ?_
  refine go_s (pc' := 18) rfl rfl rfl rfl ?_
  refine go_sald (pc' := 19) (q := 1) (v := .int (S 4 1)) hS6 rfl (tbs_s hA (i := 4) (by decide) (rg_el (by omega))) rfl rfl (by decide) rfl rfl ?_
  refine go_s (pc' := 20) rfl rfl rfl rfl ?_
  refine go_sget (pc' := 21) (v := .int (S 0 0)) hS6 rfl rfl (tbs_s hA (i := 0) (by decide) rfl) (by decide) rfl rfl ?_
  refine go_callI (pc' := 22) rfl rfl rfl (Nat.le_of_ble_eq_true rfl) rfl hc4 rfl rfl rfl (ci_ans hc4 (hWn _ (by omega)) (by omega)) (fun r h8 q9 => ?_)
  obtain ⟨rfl, hc10, hp11⟩ := q9
  have hS12 := sm_pq hS6 hp11 nb_L1
  have hF13 := fr_pq hF7 hp11 (by omega)
  refine go_ret rfl rfl ?_
  exact ⟨L1, rfl, by omega, hc10, hS12, hF13⟩
theorem ct_hasAll {w : Nat → Bool} {d : Nat} {h : am_Hp} {I : sm_I} {X : sm_X} (hS : sm tbc h I X) {aw b1 b2 : Nat} {n : Int32} {g : Nat → Int32} (h_w : h[aw]? = some (.inl (6, [.ref b1, .ref b2, .int n]))) (hg : ∀ d, d < 2 → X 206 d = .int (g d)) (hd : 2 ≤ d) : am_Ev (am_prog w) d 42 [.ref 24, .ref aw] h (fun r h' => r = some (.int (b2i (hall I g n))) ∧ h' = h) := by
  obtain ⟨d, rfl⟩ : ∃ e, d = e + 1 := ⟨d - 1, by omega⟩
  refine ev_go rfl (Nat.le_of_ble_eq_true rfl) rfl ?_
  refine go_s (pc' := 1) rfl rfl rfl rfl ?_
  refine go_get (pc' := 2) rfl h_w rfl (by decide) rfl rfl ?_
  refine go_ifP (t' := 5) (pc' := 3) rfl rfl rfl (fun (c1 : ¬ n = 0) => ?_) (fun (c1' : ¬ ¬ n = 0) => ?_)
  · skip
    refine go_s (pc' := 6) (st' := [.int 0]) rfl rfl rfl rfl ?_
    refine go_s (pc' := 7) (lo' := [some (.ref 24), some (.ref aw), some (.int 0), none]) rfl rfl rfl rfl ?_
    refine go_s (pc' := 8) (st' := [.int 0]) rfl rfl rfl rfl ?_
    refine go_s (pc' := 9) (lo' := [some (.ref 24), some (.ref aw), some (.int 0), some (.int 0)]) rfl rfl rfl rfl ?_
    refine go_s (pc' := 10) rfl rfl rfl rfl ?_
    refine go_s (pc' := 11) (st' := [.int 2, .int 0]) rfl rfl rfl rfl ?_
    refine go_icmpP (t' := 29) (pc' := 12) rfl rfl rfl (fun (c : 2 ≤ (0 : Int32)) => absurd c (by decide)) (fun _ => ?_)
    refine go_s (pc' := 13) rfl rfl rfl rfl ?_
    refine go_s (pc' := 14) rfl rfl rfl rfl ?_
    refine go_callV (pc' := 15) rfl rfl rfl (Nat.le_of_ble_eq_true rfl) rfl (sm_o hS rfl) rfl rfl rfl (ct_us_0 hS (by omega)) (fun r h2 q3 => ?_)
    obtain ⟨rfl, rfl⟩ := q3
    cases u4 : us I 0
    · skip
      show am_Go _ _ _ _ 15 _ [.int 0] _ _
      refine go_ifP (t' := 27) (pc' := 16) rfl rfl rfl (fun _ => ?_) (fun (c : ¬ ((0 : Int32) = 0)) => absurd (by decide) c)
      refine go_s (pc' := 28) (lo' := [some (.ref 24), some (.ref aw), some (.int 0), some (.int 1)]) rfl rfl rfl rfl ?_
      refine go_s (pc' := 9) rfl rfl rfl rfl ?_
      refine go_s (pc' := 10) rfl rfl rfl rfl ?_
      refine go_s (pc' := 11) (st' := [.int 2, .int 1]) rfl rfl rfl rfl ?_
      refine go_icmpP (t' := 29) (pc' := 12) rfl rfl rfl (fun (c : 2 ≤ (1 : Int32)) => absurd c (by decide)) (fun _ => ?_)
      refine go_s (pc' := 13) rfl rfl rfl rfl ?_
      refine go_s (pc' := 14) rfl rfl rfl rfl ?_
      refine go_callV (pc' := 15) rfl rfl rfl (Nat.le_of_ble_eq_true rfl) rfl (sm_o hS rfl) rfl rfl rfl (ct_us_1 hS (by omega)) (fun r h5 q6 => ?_)
      obtain ⟨rfl, rfl⟩ := q6
      cases u7 : us I 1
      · skip
        show am_Go _ _ _ _ 15 _ [.int 0] _ _
        refine go_ifP (t' := 27) (pc' := 16) rfl rfl rfl (fun _ => ?_) (fun (c : ¬ ((0 : Int32) = 0)) => absurd (by decide) c)
        refine go_s (pc' := 28) (lo' := [some (.ref 24), some (.ref aw), some (.int 0), some (.int 2)]) rfl rfl rfl rfl ?_
        refine go_s (pc' := 9) rfl rfl rfl rfl ?_
        refine go_s (pc' := 10) rfl rfl rfl rfl ?_
        refine go_s (pc' := 11) (st' := [.int 2, .int 2]) rfl rfl rfl rfl ?_
        refine go_icmpP (t' := 29) (pc' := 12) rfl rfl rfl (fun _ => ?_) (fun (c : ¬ (2 ≤ (2 : Int32))) => absurd (by decide) c)
        refine go_s (pc' := 30) rfl rfl rfl rfl ?_
        refine go_ret rfl rfl ?_
        exact ⟨by simp [hall, b2i, c1, u4, u7], rfl⟩
      · skip
        show am_Go _ _ _ _ 15 _ [.int 1] _ _
        refine go_ifP (t' := 27) (pc' := 16) rfl rfl rfl (fun (c : (1 : Int32) = 0) => absurd c (by decide)) (fun _ => ?_)
        refine go_s (pc' := 17) (st' := [.int 1]) rfl rfl rfl rfl ?_
        refine go_s (pc' := 18) (lo' := [some (.ref 24), some (.ref aw), some (.int 1), some (.int 1)]) rfl rfl rfl rfl ?_
        refine go_s (pc' := 19) rfl rfl rfl rfl ?_
        refine go_sget (pc' := 20) (v := .ref 28) hS rfl rfl rfl (by decide) rfl rfl ?_
        refine go_s (pc' := 21) rfl rfl rfl rfl ?_
        refine go_sald (pc' := 22) (q := 1) (v := .int (g 1)) hS rfl rfl rfl rfl (by decide) (hg 1 (by decide)) rfl ?_
        refine go_s (pc' := 23) rfl rfl rfl rfl ?_
        refine go_get (pc' := 24) rfl h_w rfl (by decide) rfl rfl ?_
        refine go_icmpP (t' := 27) (pc' := 25) rfl rfl rfl (fun (c8 : n ≤ (g 1)) => ?_) (fun (c8 : ¬ n ≤ (g 1)) => ?_)
        · skip
          refine go_s (pc' := 28) (lo' := [some (.ref 24), some (.ref aw), some (.int 1), some (.int 2)]) rfl rfl rfl rfl ?_
          refine go_s (pc' := 9) rfl rfl rfl rfl ?_
          refine go_s (pc' := 10) rfl rfl rfl rfl ?_
          refine go_s (pc' := 11) (st' := [.int 2, .int 2]) rfl rfl rfl rfl ?_
          refine go_icmpP (t' := 29) (pc' := 12) rfl rfl rfl (fun _ => ?_) (fun (c : ¬ (2 ≤ (2 : Int32))) => absurd (by decide) c)
          refine go_s (pc' := 30) rfl rfl rfl rfl ?_
          refine go_ret rfl rfl ?_
          exact ⟨by simp [hall, b2i, u4, u7, (show ¬ (g 1) < n from Int32.not_lt.mpr c8)], rfl⟩
        · skip
          refine go_s (pc' := 26) (st' := [.int 0]) rfl rfl rfl rfl ?_
          refine go_ret rfl rfl ?_
          exact ⟨by simp [hall, b2i, u4, u7, (show  (g 1) < n from Int32.not_le.mp c8)], rfl⟩
    · skip
      show am_Go _ _ _ _ 15 _ [.int 1] _ _
      refine go_ifP (t' := 27) (pc' := 16) rfl rfl rfl (fun (c : (1 : Int32) = 0) => absurd c (by decide)) (fun _ => ?_)
      refine go_s (pc' := 17) (st' := [.int 1]) rfl rfl rfl rfl ?_
      refine go_s (pc' := 18) (lo' := [some (.ref 24), some (.ref aw), some (.int 1), some (.int 0)]) rfl rfl rfl rfl ?_
      refine go_s (pc' := 19) rfl rfl rfl rfl ?_
      refine go_sget (pc' := 20) (v := .ref 28) hS rfl rfl rfl (by decide) rfl rfl ?_
      refine go_s (pc' := 21) rfl rfl rfl rfl ?_
      refine go_sald (pc' := 22) (q := 0) (v := .int (g 0)) hS rfl rfl rfl rfl (by decide) (hg 0 (by decide)) rfl ?_
      refine go_s (pc' := 23) rfl rfl rfl rfl ?_
      refine go_get (pc' := 24) rfl h_w rfl (by decide) rfl rfl ?_
      refine go_icmpP (t' := 27) (pc' := 25) rfl rfl rfl (fun (c9 : n ≤ (g 0)) => ?_) (fun (c9 : ¬ n ≤ (g 0)) => ?_)
      · skip
        refine go_s (pc' := 28) (lo' := [some (.ref 24), some (.ref aw), some (.int 1), some (.int 1)]) rfl rfl rfl rfl ?_
        refine go_s (pc' := 9) rfl rfl rfl rfl ?_
        refine go_s (pc' := 10) rfl rfl rfl rfl ?_
        refine go_s (pc' := 11) (st' := [.int 2, .int 1]) rfl rfl rfl rfl ?_
        refine go_icmpP (t' := 29) (pc' := 12) rfl rfl rfl (fun (c : 2 ≤ (1 : Int32)) => absurd c (by decide)) (fun _ => ?_)
        refine go_s (pc' := 13) rfl rfl rfl rfl ?_
        refine go_s (pc' := 14) rfl rfl rfl rfl ?_
        refine go_callV (pc' := 15) rfl rfl rfl (Nat.le_of_ble_eq_true rfl) rfl (sm_o hS rfl) rfl rfl rfl (ct_us_1 hS (by omega)) (fun r h10 q11 => ?_)
        obtain ⟨rfl, rfl⟩ := q11
        cases u12 : us I 1
        · skip
          show am_Go _ _ _ _ 15 _ [.int 0] _ _
          refine go_ifP (t' := 27) (pc' := 16) rfl rfl rfl (fun _ => ?_) (fun (c : ¬ ((0 : Int32) = 0)) => absurd (by decide) c)
          refine go_s (pc' := 28) (lo' := [some (.ref 24), some (.ref aw), some (.int 1), some (.int 2)]) rfl rfl rfl rfl ?_
          refine go_s (pc' := 9) rfl rfl rfl rfl ?_
          refine go_s (pc' := 10) rfl rfl rfl rfl ?_
          refine go_s (pc' := 11) (st' := [.int 2, .int 2]) rfl rfl rfl rfl ?_
          refine go_icmpP (t' := 29) (pc' := 12) rfl rfl rfl (fun _ => ?_) (fun (c : ¬ (2 ≤ (2 : Int32))) => absurd (by decide) c)
          refine go_s (pc' := 30) rfl rfl rfl rfl ?_
          refine go_ret rfl rfl ?_
          exact ⟨by simp [hall, b2i, u4, (show ¬ (g 0) < n from Int32.not_lt.mpr c9), u12], rfl⟩
        · skip
          show am_Go _ _ _ _ 15 _ [.int 1] _ _
          refine go_ifP (t' := 27) (pc' := 16) rfl rfl rfl (fun (c : (1 : Int32) = 0) => absurd c (by decide)) (fun _ => ?_)
          refine go_s (pc' := 17) (st' := [.int 1]) rfl rfl rfl rfl ?_
          refine go_s (pc' := 18) (lo' := [some (.ref 24), some (.ref aw), some (.int 1), some (.int 1)]) rfl rfl rfl rfl ?_
          refine go_s (pc' := 19) rfl rfl rfl rfl ?_
          refine go_sget (pc' := 20) (v := .ref 28) hS rfl rfl rfl (by decide) rfl rfl ?_
          refine go_s (pc' := 21) rfl rfl rfl rfl ?_
          refine go_sald (pc' := 22) (q := 1) (v := .int (g 1)) hS rfl rfl rfl rfl (by decide) (hg 1 (by decide)) rfl ?_
          refine go_s (pc' := 23) rfl rfl rfl rfl ?_
          refine go_get (pc' := 24) rfl h_w rfl (by decide) rfl rfl ?_
          refine go_icmpP (t' := 27) (pc' := 25) rfl rfl rfl (fun (c13 : n ≤ (g 1)) => ?_) (fun (c13 : ¬ n ≤ (g 1)) => ?_)
          · skip
            refine go_s (pc' := 28) (lo' := [some (.ref 24), some (.ref aw), some (.int 1), some (.int 2)]) rfl rfl rfl rfl ?_
            refine go_s (pc' := 9) rfl rfl rfl rfl ?_
            refine go_s (pc' := 10) rfl rfl rfl rfl ?_
            refine go_s (pc' := 11) (st' := [.int 2, .int 2]) rfl rfl rfl rfl ?_
            refine go_icmpP (t' := 29) (pc' := 12) rfl rfl rfl (fun _ => ?_) (fun (c : ¬ (2 ≤ (2 : Int32))) => absurd (by decide) c)
            refine go_s (pc' := 30) rfl rfl rfl rfl ?_
            refine go_ret rfl rfl ?_
            exact ⟨by simp [hall, b2i, u4, (show ¬ (g 0) < n from Int32.not_lt.mpr c9), u12, (show ¬ (g 1) < n from Int32.not_lt.mpr c13)], rfl⟩
          · skip
            refine go_s (pc' := 26) (st' := [.int 0]) rfl rfl rfl rfl ?_
            refine go_ret rfl rfl ?_
            exact ⟨by simp [hall, b2i, u4, (show ¬ (g 0) < n from Int32.not_lt.mpr c9), u12, (show  (g 1) < n from Int32.not_le.mp c13)], rfl⟩
      · skip
        refine go_s (pc' := 26) (st' := [.int 0]) rfl rfl rfl rfl ?_
        refine go_ret rfl rfl ?_
        exact ⟨by simp [hall, b2i, u4, (show  (g 0) < n from Int32.not_le.mp c9)], rfl⟩
  · skip
    have c1 : n = 0 := Decidable.not_not.mp c1'
    refine go_s (pc' := 4) (st' := [.int 1]) rfl rfl rfl rfl ?_
    refine go_s (pc' := 6) rfl rfl rfl rfl ?_
    refine go_s (pc' := 7) (lo' := [some (.ref 24), some (.ref aw), some (.int 1), none]) rfl rfl rfl rfl ?_
    refine go_s (pc' := 8) (st' := [.int 0]) rfl rfl rfl rfl ?_
    refine go_s (pc' := 9) (lo' := [some (.ref 24), some (.ref aw), some (.int 1), some (.int 0)]) rfl rfl rfl rfl ?_
    refine go_s (pc' := 10) rfl rfl rfl rfl ?_
    refine go_s (pc' := 11) (st' := [.int 2, .int 0]) rfl rfl rfl rfl ?_
    refine go_icmpP (t' := 29) (pc' := 12) rfl rfl rfl (fun (c : 2 ≤ (0 : Int32)) => absurd c (by decide)) (fun _ => ?_)
    refine go_s (pc' := 13) rfl rfl rfl rfl ?_
    refine go_s (pc' := 14) rfl rfl rfl rfl ?_
    refine go_callV (pc' := 15) rfl rfl rfl (Nat.le_of_ble_eq_true rfl) rfl (sm_o hS rfl) rfl rfl rfl (ct_us_0 hS (by omega)) (fun r h14 q15 => ?_)
    obtain ⟨rfl, rfl⟩ := q15
    cases u16 : us I 0
    · skip
      show am_Go _ _ _ _ 15 _ [.int 0] _ _
      refine go_ifP (t' := 27) (pc' := 16) rfl rfl rfl (fun _ => ?_) (fun (c : ¬ ((0 : Int32) = 0)) => absurd (by decide) c)
      refine go_s (pc' := 28) (lo' := [some (.ref 24), some (.ref aw), some (.int 1), some (.int 1)]) rfl rfl rfl rfl ?_
      refine go_s (pc' := 9) rfl rfl rfl rfl ?_
      refine go_s (pc' := 10) rfl rfl rfl rfl ?_
      refine go_s (pc' := 11) (st' := [.int 2, .int 1]) rfl rfl rfl rfl ?_
      refine go_icmpP (t' := 29) (pc' := 12) rfl rfl rfl (fun (c : 2 ≤ (1 : Int32)) => absurd c (by decide)) (fun _ => ?_)
      refine go_s (pc' := 13) rfl rfl rfl rfl ?_
      refine go_s (pc' := 14) rfl rfl rfl rfl ?_
      refine go_callV (pc' := 15) rfl rfl rfl (Nat.le_of_ble_eq_true rfl) rfl (sm_o hS rfl) rfl rfl rfl (ct_us_1 hS (by omega)) (fun r h17 q18 => ?_)
      obtain ⟨rfl, rfl⟩ := q18
      cases u19 : us I 1
      · skip
        show am_Go _ _ _ _ 15 _ [.int 0] _ _
        refine go_ifP (t' := 27) (pc' := 16) rfl rfl rfl (fun _ => ?_) (fun (c : ¬ ((0 : Int32) = 0)) => absurd (by decide) c)
        refine go_s (pc' := 28) (lo' := [some (.ref 24), some (.ref aw), some (.int 1), some (.int 2)]) rfl rfl rfl rfl ?_
        refine go_s (pc' := 9) rfl rfl rfl rfl ?_
        refine go_s (pc' := 10) rfl rfl rfl rfl ?_
        refine go_s (pc' := 11) (st' := [.int 2, .int 2]) rfl rfl rfl rfl ?_
        refine go_icmpP (t' := 29) (pc' := 12) rfl rfl rfl (fun _ => ?_) (fun (c : ¬ (2 ≤ (2 : Int32))) => absurd (by decide) c)
        refine go_s (pc' := 30) rfl rfl rfl rfl ?_
        refine go_ret rfl rfl ?_
        exact ⟨by simp [hall, b2i, c1, u16, u19], rfl⟩
      · skip
        show am_Go _ _ _ _ 15 _ [.int 1] _ _
        refine go_ifP (t' := 27) (pc' := 16) rfl rfl rfl (fun (c : (1 : Int32) = 0) => absurd c (by decide)) (fun _ => ?_)
        refine go_s (pc' := 17) (st' := [.int 1]) rfl rfl rfl rfl ?_
        refine go_s (pc' := 18) (lo' := [some (.ref 24), some (.ref aw), some (.int 1), some (.int 1)]) rfl rfl rfl rfl ?_
        refine go_s (pc' := 19) rfl rfl rfl rfl ?_
        refine go_sget (pc' := 20) (v := .ref 28) hS rfl rfl rfl (by decide) rfl rfl ?_
        refine go_s (pc' := 21) rfl rfl rfl rfl ?_
        refine go_sald (pc' := 22) (q := 1) (v := .int (g 1)) hS rfl rfl rfl rfl (by decide) (hg 1 (by decide)) rfl ?_
        refine go_s (pc' := 23) rfl rfl rfl rfl ?_
        refine go_get (pc' := 24) rfl h_w rfl (by decide) rfl rfl ?_
        refine go_icmpP (t' := 27) (pc' := 25) rfl rfl rfl (fun (c20 : n ≤ (g 1)) => ?_) (fun (c20 : ¬ n ≤ (g 1)) => ?_)
        · skip
          refine go_s (pc' := 28) (lo' := [some (.ref 24), some (.ref aw), some (.int 1), some (.int 2)]) rfl rfl rfl rfl ?_
          refine go_s (pc' := 9) rfl rfl rfl rfl ?_
          refine go_s (pc' := 10) rfl rfl rfl rfl ?_
          refine go_s (pc' := 11) (st' := [.int 2, .int 2]) rfl rfl rfl rfl ?_
          refine go_icmpP (t' := 29) (pc' := 12) rfl rfl rfl (fun _ => ?_) (fun (c : ¬ (2 ≤ (2 : Int32))) => absurd (by decide) c)
          refine go_s (pc' := 30) rfl rfl rfl rfl ?_
          refine go_ret rfl rfl ?_
          exact ⟨by simp [hall, b2i, u16, u19, (show ¬ (g 1) < n from Int32.not_lt.mpr c20)], rfl⟩
        · skip
          refine go_s (pc' := 26) (st' := [.int 0]) rfl rfl rfl rfl ?_
          refine go_ret rfl rfl ?_
          exact ⟨by simp [hall, b2i, u16, u19, (show  (g 1) < n from Int32.not_le.mp c20)], rfl⟩
    · skip
      show am_Go _ _ _ _ 15 _ [.int 1] _ _
      refine go_ifP (t' := 27) (pc' := 16) rfl rfl rfl (fun (c : (1 : Int32) = 0) => absurd c (by decide)) (fun _ => ?_)
      refine go_s (pc' := 17) (st' := [.int 1]) rfl rfl rfl rfl ?_
      refine go_s (pc' := 18) (lo' := [some (.ref 24), some (.ref aw), some (.int 1), some (.int 0)]) rfl rfl rfl rfl ?_
      refine go_s (pc' := 19) rfl rfl rfl rfl ?_
      refine go_sget (pc' := 20) (v := .ref 28) hS rfl rfl rfl (by decide) rfl rfl ?_
      refine go_s (pc' := 21) rfl rfl rfl rfl ?_
      refine go_sald (pc' := 22) (q := 0) (v := .int (g 0)) hS rfl rfl rfl rfl (by decide) (hg 0 (by decide)) rfl ?_
      refine go_s (pc' := 23) rfl rfl rfl rfl ?_
      refine go_get (pc' := 24) rfl h_w rfl (by decide) rfl rfl ?_
      refine go_icmpP (t' := 27) (pc' := 25) rfl rfl rfl (fun (c21 : n ≤ (g 0)) => ?_) (fun (c21 : ¬ n ≤ (g 0)) => ?_)
      · skip
        refine go_s (pc' := 28) (lo' := [some (.ref 24), some (.ref aw), some (.int 1), some (.int 1)]) rfl rfl rfl rfl ?_
        refine go_s (pc' := 9) rfl rfl rfl rfl ?_
        refine go_s (pc' := 10) rfl rfl rfl rfl ?_
        refine go_s (pc' := 11) (st' := [.int 2, .int 1]) rfl rfl rfl rfl ?_
        refine go_icmpP (t' := 29) (pc' := 12) rfl rfl rfl (fun (c : 2 ≤ (1 : Int32)) => absurd c (by decide)) (fun _ => ?_)
        refine go_s (pc' := 13) rfl rfl rfl rfl ?_
        refine go_s (pc' := 14) rfl rfl rfl rfl ?_
        refine go_callV (pc' := 15) rfl rfl rfl (Nat.le_of_ble_eq_true rfl) rfl (sm_o hS rfl) rfl rfl rfl (ct_us_1 hS (by omega)) (fun r h22 q23 => ?_)
        obtain ⟨rfl, rfl⟩ := q23
        cases u24 : us I 1
        · skip
          show am_Go _ _ _ _ 15 _ [.int 0] _ _
          refine go_ifP (t' := 27) (pc' := 16) rfl rfl rfl (fun _ => ?_) (fun (c : ¬ ((0 : Int32) = 0)) => absurd (by decide) c)
          refine go_s (pc' := 28) (lo' := [some (.ref 24), some (.ref aw), some (.int 1), some (.int 2)]) rfl rfl rfl rfl ?_
          refine go_s (pc' := 9) rfl rfl rfl rfl ?_
          refine go_s (pc' := 10) rfl rfl rfl rfl ?_
          refine go_s (pc' := 11) (st' := [.int 2, .int 2]) rfl rfl rfl rfl ?_
          refine go_icmpP (t' := 29) (pc' := 12) rfl rfl rfl (fun _ => ?_) (fun (c : ¬ (2 ≤ (2 : Int32))) => absurd (by decide) c)
          refine go_s (pc' := 30) rfl rfl rfl rfl ?_
          refine go_ret rfl rfl ?_
          exact ⟨by simp [hall, b2i, u16, (show ¬ (g 0) < n from Int32.not_lt.mpr c21), u24], rfl⟩
        · skip
          show am_Go _ _ _ _ 15 _ [.int 1] _ _
          refine go_ifP (t' := 27) (pc' := 16) rfl rfl rfl (fun (c : (1 : Int32) = 0) => absurd c (by decide)) (fun _ => ?_)
          refine go_s (pc' := 17) (st' := [.int 1]) rfl rfl rfl rfl ?_
          refine go_s (pc' := 18) (lo' := [some (.ref 24), some (.ref aw), some (.int 1), some (.int 1)]) rfl rfl rfl rfl ?_
          refine go_s (pc' := 19) rfl rfl rfl rfl ?_
          refine go_sget (pc' := 20) (v := .ref 28) hS rfl rfl rfl (by decide) rfl rfl ?_
          refine go_s (pc' := 21) rfl rfl rfl rfl ?_
          refine go_sald (pc' := 22) (q := 1) (v := .int (g 1)) hS rfl rfl rfl rfl (by decide) (hg 1 (by decide)) rfl ?_
          refine go_s (pc' := 23) rfl rfl rfl rfl ?_
          refine go_get (pc' := 24) rfl h_w rfl (by decide) rfl rfl ?_
          refine go_icmpP (t' := 27) (pc' := 25) rfl rfl rfl (fun (c25 : n ≤ (g 1)) => ?_) (fun (c25 : ¬ n ≤ (g 1)) => ?_)
          · skip
            refine go_s (pc' := 28) (lo' := [some (.ref 24), some (.ref aw), some (.int 1), some (.int 2)]) rfl rfl rfl rfl ?_
            refine go_s (pc' := 9) rfl rfl rfl rfl ?_
            refine go_s (pc' := 10) rfl rfl rfl rfl ?_
            refine go_s (pc' := 11) (st' := [.int 2, .int 2]) rfl rfl rfl rfl ?_
            refine go_icmpP (t' := 29) (pc' := 12) rfl rfl rfl (fun _ => ?_) (fun (c : ¬ (2 ≤ (2 : Int32))) => absurd (by decide) c)
            refine go_s (pc' := 30) rfl rfl rfl rfl ?_
            refine go_ret rfl rfl ?_
            exact ⟨by simp [hall, b2i, u16, (show ¬ (g 0) < n from Int32.not_lt.mpr c21), u24, (show ¬ (g 1) < n from Int32.not_lt.mpr c25)], rfl⟩
          · skip
            refine go_s (pc' := 26) (st' := [.int 0]) rfl rfl rfl rfl ?_
            refine go_ret rfl rfl ?_
            exact ⟨by simp [hall, b2i, u16, (show ¬ (g 0) < n from Int32.not_lt.mpr c21), u24, (show  (g 1) < n from Int32.not_le.mp c25)], rfl⟩
      · skip
        refine go_s (pc' := 26) (st' := [.int 0]) rfl rfl rfl rfl ?_
        refine go_ret rfl rfl ?_
        exact ⟨by simp [hall, b2i, u16, (show  (g 0) < n from Int32.not_le.mp c21)], rfl⟩
