/-! failing: calls -/
theorem mbs_24 {I : sm_I} {b n : Nat} : mbsI I b n 24 n = I 24 n := by
  unfold mbsI
  rw [if_neg (by omega)]
  exact uI_c (by decide)
theorem mbs_n {I : sm_I} {b n : Nat} (h : ¬ I 24 n = nI b) : mbsI I b (n + 1) = mbsI I b n := by
  funext c j
  unfold mbsI
  by_cases e : c = 24 ∧ j < n ∧ I 24 j = nI b
  · rw [if_pos e, if_pos ⟨e.1, by omega, e.2.2⟩]
  · rw [if_neg e, if_neg (fun z => ?_)]
    by_cases ej : j = n
    · subst ej
      exact h z.2.2
    · exact e ⟨z.1, by omega, z.2.2⟩
theorem mbs_y {I : sm_I} {b n : Nat} (h : I 24 n = nI b) : mbsI I b (n + 1) = uI (mbsI I b n) 24 n (-1) := by
  funext c j
  simp only [uI]
  by_cases e : c = 24 ∧ j = n
  · rw [if_pos e]
    obtain ⟨rfl, rfl⟩ := e
    unfold mbsI
    rw [if_pos ⟨rfl, by omega, h⟩]
  · rw [if_neg e]
    unfold mbsI
    by_cases e2 : c = 24 ∧ j < n ∧ I 24 j = nI b
    · rw [if_pos e2, if_pos ⟨e2.1, by omega, e2.2.2⟩]
    · rw [if_neg e2, if_neg (fun z => e2 ⟨z.1, by omega, z.2.2⟩)]
theorem mbs_0 {I : sm_I} {b : Nat} : mbsI I b 0 = uI I 3 b 0 := by
  funext c j
  unfold mbsI
  rw [if_neg (by omega)]
theorem nI_b1 {b : Nat} (hb : b < 2) : ¬ (-1 : Int32) = nI b := fun z => nI_m1 (by omega : b < 4) z.symm
theorem lp_fb_0 {w : Nat → Bool} {d B R : Nat} {I : sm_I} {Q : mQ} {Z : mZ} (hR : R < 40000) (hd : 1 ≤ d) (hq0 : ∀ l, l < 16 → Q l = [] → I 24 l = -1) : ∀ (k n : Nat) (h : am_Hp), n + k = 16 → RA w B R [] true h (mbsI I 0 n, Q, Z) → am_Go (am_prog w) d am_c156 (some .boolean) 37 [some (.ref 62), some (.int 1), some (.int 0), some (.int (nI n))] [] h (fun r h' => r = some (.int 1) ∧ RA w B R [] true h' (mbsI I 0 16, Q, Z)) := by
  intro k
  induction k with
  | zero =>
    intro n h hnk hA
    obtain rfl : n = 16 := by omega
    obtain ⟨K, Y, am, ln, hS, hU⟩ := RA_u.mp hA
    change sm (tbr am (13 * ln) 77 5088) h (jn (mbsI I 0 16) K) Y at hS
    obtain ⟨hW, hWm, -, -, hr, -⟩ := id hU.1
    have hln := RU_ln hU (by omega)
    refine go_s (pc' := 38) rfl rfl rfl rfl ?_
    refine go_s (pc' := 39) (st' := [.int 16, .int (nI 16)]) rfl rfl rfl rfl ?_
    refine go_icmpP (t' := 61) (pc' := 40) rfl rfl rfl (fun _ => ?_) (fun (c : ¬ (16 ≤ (nI 16))) => absurd (by decide) c)
    refine go_s (pc' := 62) (st' := [.int 1]) rfl rfl rfl rfl ?_
    refine go_ret rfl rfl ?_
    exact ⟨rfl, hA⟩
  | succ k ih =>
    intro n h hnk hA
    have hn16 : n < 16 := by omega
    obtain ⟨K, Y, am, ln, hS, hU⟩ := RA_u.mp hA
    change sm (tbr am (13 * ln) 77 5088) h (jn (mbsI I 0 n) K) Y at hS
    obtain ⟨hW, hWm, -, -, hr, -⟩ := id hU.1
    have hln := RU_ln hU (by omega)
    cases hQ : Q n with
    | nil =>
      have h55 : K 55 n = 0 := by
        have z := (RU_lk (l := n) hU hn16).1
        rw [hQ] at z
        exact z
      refine go_s (pc' := 38) rfl rfl rfl rfl ?_
      refine go_s (pc' := 39) (st' := [.int 16, .int (nI n)]) rfl rfl rfl rfl ?_
      refine go_icmpP (t' := 61) (pc' := 40) rfl rfl rfl (fun (c : 16 ≤ (nI n)) => absurd c (nI_ge (b := 16) hn16 (by decide))) (fun _ => ?_)
      refine go_s (pc' := 41) rfl rfl rfl rfl ?_
      refine go_sget (pc' := 42) (v := .ref 74) hS rfl rfl rfl (by decide) rfl rfl ?_
      refine go_s (pc' := 43) rfl rfl rfl rfl ?_
      refine go_sald (pc' := 44) (q := n) (v := .int 0) hS rfl (tr_s hr (a := 74) rfl (by omega)) rfl rfl (by omega) (congrArg Value.int h55) rfl ?_
      refine go_ifP (t' := 59) (pc' := 45) rfl rfl rfl (fun _ => ?_) (fun (c : ¬ ((0 : Int32) ≤ 0)) => absurd (by decide) c)
      refine go_ninc (pc' := 60) (a := n) (n := 1) (lo' := [some (.ref 62), some (.int 1), some (.int 0), some (.int (nI (n + 1)))]) rfl rfl rfl rfl rfl rfl ?_
      refine go_s (pc' := 37) rfl rfl rfl rfl ?_
      rw [← mbs_n (show ¬ I 24 n = nI 0 by rw [hq0 n hn16 hQ]; exact nI_b1 (by decide))] at hA
      exact ih (n + 1) _ (by omega) hA
    | cons m q =>
      obtain ⟨hk55, hle, hxx⟩ := RU_lk (l := n) hU hn16
      obtain ⟨x, h53, hx, hk2, hk3, hk0, hk1⟩ := hxx m q hQ
      rw [hQ] at hk55 hle
      have h55 : K 55 n = nI (q.length + 1) := hk55
      have hle2 : q.length + 1 ≤ ln := hle
      refine go_s (pc' := 38) rfl rfl rfl rfl ?_
      refine go_s (pc' := 39) (st' := [.int 16, .int (nI n)]) rfl rfl rfl rfl ?_
      refine go_icmpP (t' := 61) (pc' := 40) rfl rfl rfl (fun (c : 16 ≤ (nI n)) => absurd c (nI_ge (b := 16) hn16 (by decide))) (fun _ => ?_)
      refine go_s (pc' := 41) rfl rfl rfl rfl ?_
      refine go_sget (pc' := 42) (v := .ref 74) hS rfl rfl rfl (by decide) rfl rfl ?_
      refine go_s (pc' := 43) rfl rfl rfl rfl ?_
      refine go_sald (pc' := 44) (q := n) (v := .int (nI (q.length + 1))) hS rfl (tr_s hr (a := 74) rfl (by omega)) rfl rfl (by omega) (congrArg Value.int h55) rfl ?_
      refine go_ifP (t' := 59) (pc' := 45) rfl rfl rfl (fun (c : (nI (q.length + 1)) ≤ 0) => absurd c (nI_p1 (by omega))) (fun _ => ?_)
      refine go_s (pc' := 46) rfl rfl rfl rfl ?_
      refine go_sget (pc' := 47) (v := .ref am) hS rfl rfl rfl (by decide) rfl rfl ?_
      refine go_s (pc' := 48) rfl rfl rfl rfl ?_
      refine go_sget (pc' := 49) (v := .ref 72) hS rfl rfl rfl (by decide) rfl rfl ?_
      refine go_s (pc' := 50) rfl rfl rfl rfl ?_
      refine go_sald (pc' := 51) (q := n) (v := .int (nI (13 * x))) hS rfl (tr_s hr (a := 72) rfl (by omega)) rfl rfl (by omega) (congrArg Value.int h53) rfl ?_
      refine go_s (pc' := 52) (st' := [.int 2, .int (nI (13 * x)), .ref am]) rfl rfl rfl rfl ?_
      refine go_nadd (pc' := 53) (a := (13 * x)) (b := 2) rfl rfl rfl rfl rfl ?_
      refine go_sald (pc' := 54) (q := ((13 * x) + 2)) (v := .int (I 24 n)) hS rfl (tr_ms hr (by omega)) rfl rfl (by omega) (congrArg Value.int (hk2.trans mbs_24)) rfl ?_
      refine go_s (pc' := 55) rfl rfl rfl rfl ?_
      refine go_icmpP (t' := 59) (pc' := 56) rfl rfl rfl (fun (c1 : ¬ (I 24 n) = 0) => ?_) (fun (c1' : ¬ ¬ (I 24 n) = 0) => ?_)
      · skip
        refine go_ninc (pc' := 60) (a := n) (n := 1) (lo' := [some (.ref 62), some (.int 1), some (.int 0), some (.int (nI (n + 1)))]) rfl rfl rfl rfl rfl rfl ?_
        refine go_s (pc' := 37) rfl rfl rfl rfl ?_
        rw [← mbs_n (show ¬ I 24 n = nI 0 from c1)] at hA
        exact ih (n + 1) _ (by omega) hA
      · skip
        have c1 : (I 24 n) = 0 := Decidable.not_not.mp c1'
        refine go_s (pc' := 57) rfl rfl rfl rfl ?_
        refine go_s (pc' := 58) rfl rfl rfl rfl ?_
        have hU2 : RU w B R [] true h am ln K ((mbsI I 0 n), Q, Z) := RU_I (sm_e_refl (tbr am (13 * ln) 77 5088) _) (I' := (mbsI I 0 n)) (fun _ => rfl) (fun _ => rfl) (Nat.le_refl _) hU
        refine go_callV (pc' := 59) rfl rfl rfl (Nat.le_of_ble_eq_true rfl) rfl (sm_o hS rfl) rfl rfl rfl (rx_wn hr hS hln hW hWm (l := n) (x := x) (n := q.length) hn16 hx (by omega) h55 h53 (by omega)) (fun r h3 q4 => ?_)
        obtain ⟨rfl, hS5, hE6⟩ := q4
        have hS8 : sm (tbr am (13 * ln) 77 5088) _ (jn (uI (mbsI I 0 n) 24 n (-1)) (uI K 50 (13 * x + 2) (-1))) Y := sm_jg hr hS5 (fun c j _ n1 n2 n3 => uI_c n1)
        have hU7 : RU w B R [] true h3 am ln (uI K 50 (13 * x + 2) (-1)) ((uI (mbsI I 0 n) 24 n (-1)), Q, Z) := RU_bus hn16 hU2 hln hE6 hQ h53 hx (fun i hi => uI_j hi) (fun i _ => uI_c (by decide)) rfl (fun c j _ hc => if_neg (fun z => hc ⟨z.1, Or.inl z.2⟩)) (uI_s.trans uI_s.symm) ((uI_j (by omega)).trans (hk3.trans (uI_c (by decide)).symm))
        refine go_ninc (pc' := 60) (a := n) (n := 1) (lo' := [some (.ref 62), some (.int 1), some (.int 0), some (.int (nI (n + 1)))]) rfl rfl rfl rfl rfl rfl ?_
        refine go_s (pc' := 37) rfl rfl rfl rfl ?_
        have hA9 : RA w B R [] true h3 ((uI (mbsI I 0 n) 24 n (-1)), Q, Z) := RA_u.mpr ⟨_, _, _, _, hS8, hU7⟩
        rw [← mbs_y c1] at hA9
        exact ih (n + 1) _ (by omega) hA9
theorem lp_fb_1 {w : Nat → Bool} {d B R : Nat} {I : sm_I} {Q : mQ} {Z : mZ} (hR : R < 40000) (hd : 1 ≤ d) (hq0 : ∀ l, l < 16 → Q l = [] → I 24 l = -1) : ∀ (k n : Nat) (h : am_Hp), n + k = 16 → RA w B R [] true h (mbsI I 1 n, Q, Z) → am_Go (am_prog w) d am_c156 (some .boolean) 37 [some (.ref 62), some (.int 1), some (.int 1), some (.int (nI n))] [] h (fun r h' => r = some (.int 1) ∧ RA w B R [] true h' (mbsI I 1 16, Q, Z)) := by
  intro k
  induction k with
  | zero =>
    intro n h hnk hA
    obtain rfl : n = 16 := by omega
    obtain ⟨K, Y, am, ln, hS, hU⟩ := RA_u.mp hA
    change sm (tbr am (13 * ln) 77 5088) h (jn (mbsI I 1 16) K) Y at hS
    obtain ⟨hW, hWm, -, -, hr, -⟩ := id hU.1
    have hln := RU_ln hU (by omega)
    refine go_s (pc' := 38) rfl rfl rfl rfl ?_
    refine go_s (pc' := 39) (st' := [.int 16, .int (nI 16)]) rfl rfl rfl rfl ?_
    refine go_icmpP (t' := 61) (pc' := 40) rfl rfl rfl (fun _ => ?_) (fun (c : ¬ (16 ≤ (nI 16))) => absurd (by decide) c)
    refine go_s (pc' := 62) (st' := [.int 1]) rfl rfl rfl rfl ?_
    refine go_ret rfl rfl ?_
    exact ⟨rfl, hA⟩
  | succ k ih =>
    intro n h hnk hA
    have hn16 : n < 16 := by omega
    obtain ⟨K, Y, am, ln, hS, hU⟩ := RA_u.mp hA
    change sm (tbr am (13 * ln) 77 5088) h (jn (mbsI I 1 n) K) Y at hS
    obtain ⟨hW, hWm, -, -, hr, -⟩ := id hU.1
    have hln := RU_ln hU (by omega)
    cases hQ : Q n with
    | nil =>
      have h55 : K 55 n = 0 := by
        have z := (RU_lk (l := n) hU hn16).1
        rw [hQ] at z
        exact z
      refine go_s (pc' := 38) rfl rfl rfl rfl ?_
      refine go_s (pc' := 39) (st' := [.int 16, .int (nI n)]) rfl rfl rfl rfl ?_
      refine go_icmpP (t' := 61) (pc' := 40) rfl rfl rfl (fun (c : 16 ≤ (nI n)) => absurd c (nI_ge (b := 16) hn16 (by decide))) (fun _ => ?_)
      refine go_s (pc' := 41) rfl rfl rfl rfl ?_
      refine go_sget (pc' := 42) (v := .ref 74) hS rfl rfl rfl (by decide) rfl rfl ?_
      refine go_s (pc' := 43) rfl rfl rfl rfl ?_
      refine go_sald (pc' := 44) (q := n) (v := .int 0) hS rfl (tr_s hr (a := 74) rfl (by omega)) rfl rfl (by omega) (congrArg Value.int h55) rfl ?_
      refine go_ifP (t' := 59) (pc' := 45) rfl rfl rfl (fun _ => ?_) (fun (c : ¬ ((0 : Int32) ≤ 0)) => absurd (by decide) c)
      refine go_ninc (pc' := 60) (a := n) (n := 1) (lo' := [some (.ref 62), some (.int 1), some (.int 1), some (.int (nI (n + 1)))]) rfl rfl rfl rfl rfl rfl ?_
      refine go_s (pc' := 37) rfl rfl rfl rfl ?_
      rw [← mbs_n (show ¬ I 24 n = nI 1 by rw [hq0 n hn16 hQ]; exact nI_b1 (by decide))] at hA
      exact ih (n + 1) _ (by omega) hA
    | cons m q =>
      obtain ⟨hk55, hle, hxx⟩ := RU_lk (l := n) hU hn16
      obtain ⟨x, h53, hx, hk2, hk3, hk0, hk1⟩ := hxx m q hQ
      rw [hQ] at hk55 hle
      have h55 : K 55 n = nI (q.length + 1) := hk55
      have hle2 : q.length + 1 ≤ ln := hle
      refine go_s (pc' := 38) rfl rfl rfl rfl ?_
      refine go_s (pc' := 39) (st' := [.int 16, .int (nI n)]) rfl rfl rfl rfl ?_
      refine go_icmpP (t' := 61) (pc' := 40) rfl rfl rfl (fun (c : 16 ≤ (nI n)) => absurd c (nI_ge (b := 16) hn16 (by decide))) (fun _ => ?_)
      refine go_s (pc' := 41) rfl rfl rfl rfl ?_
      refine go_sget (pc' := 42) (v := .ref 74) hS rfl rfl rfl (by decide) rfl rfl ?_
      refine go_s (pc' := 43) rfl rfl rfl rfl ?_
      refine go_sald (pc' := 44) (q := n) (v := .int (nI (q.length + 1))) hS rfl (tr_s hr (a := 74) rfl (by omega)) rfl rfl (by omega) (congrArg Value.int h55) rfl ?_
      refine go_ifP (t' := 59) (pc' := 45) rfl rfl rfl (fun (c : (nI (q.length + 1)) ≤ 0) => absurd c (nI_p1 (by omega))) (fun _ => ?_)
      refine go_s (pc' := 46) rfl rfl rfl rfl ?_
      refine go_sget (pc' := 47) (v := .ref am) hS rfl rfl rfl (by decide) rfl rfl ?_
      refine go_s (pc' := 48) rfl rfl rfl rfl ?_
      refine go_sget (pc' := 49) (v := .ref 72) hS rfl rfl rfl (by decide) rfl rfl ?_
      refine go_s (pc' := 50) rfl rfl rfl rfl ?_
      refine go_sald (pc' := 51) (q := n) (v := .int (nI (13 * x))) hS rfl (tr_s hr (a := 72) rfl (by omega)) rfl rfl (by omega) (congrArg Value.int h53) rfl ?_
      refine go_s (pc' := 52) (st' := [.int 2, .int (nI (13 * x)), .ref am]) rfl rfl rfl rfl ?_
      refine go_nadd (pc' := 53) (a := (13 * x)) (b := 2) rfl rfl rfl rfl rfl ?_
      refine go_sald (pc' := 54) (q := ((13 * x) + 2)) (v := .int (I 24 n)) hS rfl (tr_ms hr (by omega)) rfl rfl (by omega) (congrArg Value.int (hk2.trans mbs_24)) rfl ?_
      refine go_s (pc' := 55) rfl rfl rfl rfl ?_
      refine go_icmpP (t' := 59) (pc' := 56) rfl rfl rfl (fun (c1 : ¬ (I 24 n) = 1) => ?_) (fun (c1' : ¬ ¬ (I 24 n) = 1) => ?_)
      · skip
        refine go_ninc (pc' := 60) (a := n) (n := 1) (lo' := [some (.ref 62), some (.int 1), some (.int 1), some (.int (nI (n + 1)))]) rfl rfl rfl rfl rfl rfl ?_
        refine go_s (pc' := 37) rfl rfl rfl rfl ?_
        rw [← mbs_n (show ¬ I 24 n = nI 1 from c1)] at hA
        exact ih (n + 1) _ (by omega) hA
      · skip
        have c1 : (I 24 n) = 1 := Decidable.not_not.mp c1'
        refine go_s (pc' := 57) rfl rfl rfl rfl ?_
        refine go_s (pc' := 58) rfl rfl rfl rfl ?_
        have hU2 : RU w B R [] true h am ln K ((mbsI I 1 n), Q, Z) := RU_I (sm_e_refl (tbr am (13 * ln) 77 5088) _) (I' := (mbsI I 1 n)) (fun _ => rfl) (fun _ => rfl) (Nat.le_refl _) hU
        refine go_callV (pc' := 59) rfl rfl rfl (Nat.le_of_ble_eq_true rfl) rfl (sm_o hS rfl) rfl rfl rfl (rx_wn hr hS hln hW hWm (l := n) (x := x) (n := q.length) hn16 hx (by omega) h55 h53 (by omega)) (fun r h3 q4 => ?_)
        obtain ⟨rfl, hS5, hE6⟩ := q4
        have hS8 : sm (tbr am (13 * ln) 77 5088) _ (jn (uI (mbsI I 1 n) 24 n (-1)) (uI K 50 (13 * x + 2) (-1))) Y := sm_jg hr hS5 (fun c j _ n1 n2 n3 => uI_c n1)
        have hU7 : RU w B R [] true h3 am ln (uI K 50 (13 * x + 2) (-1)) ((uI (mbsI I 1 n) 24 n (-1)), Q, Z) := RU_bus hn16 hU2 hln hE6 hQ h53 hx (fun i hi => uI_j hi) (fun i _ => uI_c (by decide)) rfl (fun c j _ hc => if_neg (fun z => hc ⟨z.1, Or.inl z.2⟩)) (uI_s.trans uI_s.symm) ((uI_j (by omega)).trans (hk3.trans (uI_c (by decide)).symm))
        refine go_ninc (pc' := 60) (a := n) (n := 1) (lo' := [some (.ref 62), some (.int 1), some (.int 1), some (.int (nI (n + 1)))]) rfl rfl rfl rfl rfl rfl ?_
        refine go_s (pc' := 37) rfl rfl rfl rfl ?_
        have hA9 : RA w B R [] true h3 ((uI (mbsI I 1 n) 24 n (-1)), Q, Z) := RA_u.mpr ⟨_, _, _, _, hS8, hU7⟩
        rw [← mbs_y c1] at hA9
        exact ih (n + 1) _ (by omega) hA9
theorem ra_fl_0_0 {w : Nat → Bool} {d B R : Nat} {h : am_Hp} {I : sm_I} {Q : mQ} {Z : mZ} (hA : RA w B R [] true h (I, Q, Z)) (hR : R + 0 < 40000) (hd : 4 ≤ d) : am_Ev (am_prog w) d 156 [.ref 62, .int 0, .int 0] h (fun r h' => r = some (.int (rfl0 0 (I, Q, Z)).1) ∧ RA w B R [] true h' (rfl0 0 (I, Q, Z)).2) := by
  obtain ⟨K, Y, am, ln, hS, hU⟩ := RA_u.mp hA
  change sm (tbr am (13 * ln) 77 5088) h (jn I K) Y at hS
  obtain ⟨hW, hWm, -, -, hr, -⟩ := id hU.1
  have hln := RU_ln hU (by omega)
  obtain ⟨d, rfl⟩ : ∃ e, d = e + 1 := ⟨d - 1, by omega⟩
  refine ev_go rfl (Nat.le_of_ble_eq_true rfl) rfl ?_
  refine go_s (pc' := 1) rfl rfl rfl rfl ?_
  refine go_ifP (t' := 17) (pc' := 2) rfl rfl rfl (fun (c : ¬ (0 : Int32) = 0) => absurd c (by decide)) (fun _ => ?_)
  refine go_s (pc' := 3) rfl rfl rfl rfl ?_
  refine go_s (pc' := 4) (st' := [.int 0, .int 0]) rfl rfl rfl rfl ?_
  refine go_s (pc' := 5) (st' := [.int 3, .int 0, .int 0]) rfl rfl rfl rfl ?_
  refine go_callS (pc' := 6) rfl rfl rfl (Nat.le_of_ble_eq_true rfl) rfl rfl rfl (rt_within_t (q := 0) (n := 3) (by decide) (by decide) (by omega)) (fun r h1 q2 => ?_)
  obtain ⟨rfl, rfl⟩ := q2
  refine go_ifP (t' := 17) (pc' := 7) rfl rfl rfl (fun (c : (1 : Int32) = 0) => absurd c (by decide)) (fun _ => ?_)
  refine go_s (pc' := 8) rfl rfl rfl rfl ?_
  refine go_sget (pc' := 9) (v := .ref 63) hS rfl rfl rfl (by decide) rfl rfl ?_
  refine go_s (pc' := 10) rfl rfl rfl rfl ?_
  refine go_sald (pc' := 11) (q := 0) (v := .int (I 0 0)) hS rfl (tr_s hr (a := 63) rfl (by decide)) rfl rfl (by decide) rfl rfl ?_
  refine go_ifP (t' := 17) (pc' := 12) rfl rfl rfl (fun (c3 : (I 0 0) = 0) => ?_) (fun (c3 : ¬ (I 0 0) = 0) => ?_)
  · skip
    refine go_s (pc' := 18) rfl rfl rfl rfl ?_
    refine go_s (pc' := 19) (st' := [.int 1, .int 0]) rfl rfl rfl rfl ?_
    refine go_icmpP (t' := 63) (pc' := 20) rfl rfl rfl (fun _ => ?_) (fun (c : ¬ (¬ (0 : Int32) = 1)) => absurd (by decide) c)
    refine go_s (pc' := 64) rfl rfl rfl rfl ?_
    refine go_s (pc' := 65) (st' := [.int 2, .int 0]) rfl rfl rfl rfl ?_
    refine go_icmpP (t' := 76) (pc' := 66) rfl rfl rfl (fun _ => ?_) (fun (c : ¬ (¬ (0 : Int32) = 2)) => absurd (by decide) c)
    refine go_s (pc' := 77) (st' := [.int 0]) rfl rfl rfl rfl ?_
    refine go_ret rfl rfl ?_
    have hms : rfl0 0 (I, Q, Z) = (0, (I, Q, Z)) := if_pos c3
    rw [hms]
    exact ⟨rfl, hA⟩
  · skip
    refine go_s (pc' := 13) rfl rfl rfl rfl ?_
    refine go_s (pc' := 14) rfl rfl rfl rfl ?_
    have hU4 : RU w B R [] true h1 am ln K (I, Q, Z) := RU_I (sm_e_refl (tbr am (13 * ln) 77 5088) _) (I' := I) (fun _ => rfl) (fun _ => rfl) (Nat.le_refl _) hU
    have hA5 : RA w B R [] true h1 (I, Q, Z) := RA_u.mpr ⟨_, _, _, _, hS, hU4⟩
    refine go_callV (pc' := 15) rfl rfl rfl (Nat.le_of_ble_eq_true rfl) rfl (sm_o hS rfl) rfl rfl rfl (ra_pf_0 hA5 (by omega) (by omega)) (fun r h6 q7 => ?_)
    obtain ⟨rfl, hA8⟩ := q7
    refine go_s (pc' := 16) (st' := [.int 1]) rfl rfl rfl rfl ?_
    refine go_ret rfl rfl ?_
    have hms : rfl0 0 (I, Q, Z) = (1, rfp 0 (I, Q, Z)) := if_neg c3
    rw [hms]
    exact ⟨rfl, hA8⟩
theorem ra_fl_0_1 {w : Nat → Bool} {d B R : Nat} {h : am_Hp} {I : sm_I} {Q : mQ} {Z : mZ} (hA : RA w B R [] true h (I, Q, Z)) (hR : R + 0 < 40000) (hd : 4 ≤ d) : am_Ev (am_prog w) d 156 [.ref 62, .int 0, .int 1] h (fun r h' => r = some (.int (rfl0 1 (I, Q, Z)).1) ∧ RA w B R [] true h' (rfl0 1 (I, Q, Z)).2) := by
  obtain ⟨K, Y, am, ln, hS, hU⟩ := RA_u.mp hA
  change sm (tbr am (13 * ln) 77 5088) h (jn I K) Y at hS
  obtain ⟨hW, hWm, -, -, hr, -⟩ := id hU.1
  have hln := RU_ln hU (by omega)
  obtain ⟨d, rfl⟩ : ∃ e, d = e + 1 := ⟨d - 1, by omega⟩
  refine ev_go rfl (Nat.le_of_ble_eq_true rfl) rfl ?_
  refine go_s (pc' := 1) rfl rfl rfl rfl ?_
  refine go_ifP (t' := 17) (pc' := 2) rfl rfl rfl (fun (c : ¬ (0 : Int32) = 0) => absurd c (by decide)) (fun _ => ?_)
  refine go_s (pc' := 3) rfl rfl rfl rfl ?_
  refine go_s (pc' := 4) (st' := [.int 0, .int 1]) rfl rfl rfl rfl ?_
  refine go_s (pc' := 5) (st' := [.int 3, .int 0, .int 1]) rfl rfl rfl rfl ?_
  refine go_callS (pc' := 6) rfl rfl rfl (Nat.le_of_ble_eq_true rfl) rfl rfl rfl (rt_within_t (q := 1) (n := 3) (by decide) (by decide) (by omega)) (fun r h1 q2 => ?_)
  obtain ⟨rfl, rfl⟩ := q2
  refine go_ifP (t' := 17) (pc' := 7) rfl rfl rfl (fun (c : (1 : Int32) = 0) => absurd c (by decide)) (fun _ => ?_)
  refine go_s (pc' := 8) rfl rfl rfl rfl ?_
  refine go_sget (pc' := 9) (v := .ref 63) hS rfl rfl rfl (by decide) rfl rfl ?_
  refine go_s (pc' := 10) rfl rfl rfl rfl ?_
  refine go_sald (pc' := 11) (q := 1) (v := .int (I 0 1)) hS rfl (tr_s hr (a := 63) rfl (by decide)) rfl rfl (by decide) rfl rfl ?_
  refine go_ifP (t' := 17) (pc' := 12) rfl rfl rfl (fun (c3 : (I 0 1) = 0) => ?_) (fun (c3 : ¬ (I 0 1) = 0) => ?_)
  · skip
    refine go_s (pc' := 18) rfl rfl rfl rfl ?_
    refine go_s (pc' := 19) (st' := [.int 1, .int 0]) rfl rfl rfl rfl ?_
    refine go_icmpP (t' := 63) (pc' := 20) rfl rfl rfl (fun _ => ?_) (fun (c : ¬ (¬ (0 : Int32) = 1)) => absurd (by decide) c)
    refine go_s (pc' := 64) rfl rfl rfl rfl ?_
    refine go_s (pc' := 65) (st' := [.int 2, .int 0]) rfl rfl rfl rfl ?_
    refine go_icmpP (t' := 76) (pc' := 66) rfl rfl rfl (fun _ => ?_) (fun (c : ¬ (¬ (0 : Int32) = 2)) => absurd (by decide) c)
    refine go_s (pc' := 77) (st' := [.int 0]) rfl rfl rfl rfl ?_
    refine go_ret rfl rfl ?_
    have hms : rfl0 1 (I, Q, Z) = (0, (I, Q, Z)) := if_pos c3
    rw [hms]
    exact ⟨rfl, hA⟩
  · skip
    refine go_s (pc' := 13) rfl rfl rfl rfl ?_
    refine go_s (pc' := 14) rfl rfl rfl rfl ?_
    have hU4 : RU w B R [] true h1 am ln K (I, Q, Z) := RU_I (sm_e_refl (tbr am (13 * ln) 77 5088) _) (I' := I) (fun _ => rfl) (fun _ => rfl) (Nat.le_refl _) hU
    have hA5 : RA w B R [] true h1 (I, Q, Z) := RA_u.mpr ⟨_, _, _, _, hS, hU4⟩
    refine go_callV (pc' := 15) rfl rfl rfl (Nat.le_of_ble_eq_true rfl) rfl (sm_o hS rfl) rfl rfl rfl (ra_pf_1 hA5 (by omega) (by omega)) (fun r h6 q7 => ?_)
    obtain ⟨rfl, hA8⟩ := q7
    refine go_s (pc' := 16) (st' := [.int 1]) rfl rfl rfl rfl ?_
    refine go_ret rfl rfl ?_
    have hms : rfl0 1 (I, Q, Z) = (1, rfp 1 (I, Q, Z)) := if_neg c3
    rw [hms]
    exact ⟨rfl, hA8⟩
theorem ra_fl_0_2 {w : Nat → Bool} {d B R : Nat} {h : am_Hp} {I : sm_I} {Q : mQ} {Z : mZ} (hA : RA w B R [] true h (I, Q, Z)) (hR : R + 0 < 40000) (hd : 4 ≤ d) : am_Ev (am_prog w) d 156 [.ref 62, .int 0, .int 2] h (fun r h' => r = some (.int (rfl0 2 (I, Q, Z)).1) ∧ RA w B R [] true h' (rfl0 2 (I, Q, Z)).2) := by
  obtain ⟨K, Y, am, ln, hS, hU⟩ := RA_u.mp hA
  change sm (tbr am (13 * ln) 77 5088) h (jn I K) Y at hS
  obtain ⟨hW, hWm, -, -, hr, -⟩ := id hU.1
  have hln := RU_ln hU (by omega)
  obtain ⟨d, rfl⟩ : ∃ e, d = e + 1 := ⟨d - 1, by omega⟩
  refine ev_go rfl (Nat.le_of_ble_eq_true rfl) rfl ?_
  refine go_s (pc' := 1) rfl rfl rfl rfl ?_
  refine go_ifP (t' := 17) (pc' := 2) rfl rfl rfl (fun (c : ¬ (0 : Int32) = 0) => absurd c (by decide)) (fun _ => ?_)
  refine go_s (pc' := 3) rfl rfl rfl rfl ?_
  refine go_s (pc' := 4) (st' := [.int 0, .int 2]) rfl rfl rfl rfl ?_
  refine go_s (pc' := 5) (st' := [.int 3, .int 0, .int 2]) rfl rfl rfl rfl ?_
  refine go_callS (pc' := 6) rfl rfl rfl (Nat.le_of_ble_eq_true rfl) rfl rfl rfl (rt_within_t (q := 2) (n := 3) (by decide) (by decide) (by omega)) (fun r h1 q2 => ?_)
  obtain ⟨rfl, rfl⟩ := q2
  refine go_ifP (t' := 17) (pc' := 7) rfl rfl rfl (fun (c : (1 : Int32) = 0) => absurd c (by decide)) (fun _ => ?_)
  refine go_s (pc' := 8) rfl rfl rfl rfl ?_
  refine go_sget (pc' := 9) (v := .ref 63) hS rfl rfl rfl (by decide) rfl rfl ?_
  refine go_s (pc' := 10) rfl rfl rfl rfl ?_
  refine go_sald (pc' := 11) (q := 2) (v := .int (I 0 2)) hS rfl (tr_s hr (a := 63) rfl (by decide)) rfl rfl (by decide) rfl rfl ?_
  refine go_ifP (t' := 17) (pc' := 12) rfl rfl rfl (fun (c3 : (I 0 2) = 0) => ?_) (fun (c3 : ¬ (I 0 2) = 0) => ?_)
  · skip
    refine go_s (pc' := 18) rfl rfl rfl rfl ?_
    refine go_s (pc' := 19) (st' := [.int 1, .int 0]) rfl rfl rfl rfl ?_
    refine go_icmpP (t' := 63) (pc' := 20) rfl rfl rfl (fun _ => ?_) (fun (c : ¬ (¬ (0 : Int32) = 1)) => absurd (by decide) c)
    refine go_s (pc' := 64) rfl rfl rfl rfl ?_
    refine go_s (pc' := 65) (st' := [.int 2, .int 0]) rfl rfl rfl rfl ?_
    refine go_icmpP (t' := 76) (pc' := 66) rfl rfl rfl (fun _ => ?_) (fun (c : ¬ (¬ (0 : Int32) = 2)) => absurd (by decide) c)
    refine go_s (pc' := 77) (st' := [.int 0]) rfl rfl rfl rfl ?_
    refine go_ret rfl rfl ?_
    have hms : rfl0 2 (I, Q, Z) = (0, (I, Q, Z)) := if_pos c3
    rw [hms]
    exact ⟨rfl, hA⟩
  · skip
    refine go_s (pc' := 13) rfl rfl rfl rfl ?_
    refine go_s (pc' := 14) rfl rfl rfl rfl ?_
    have hU4 : RU w B R [] true h1 am ln K (I, Q, Z) := RU_I (sm_e_refl (tbr am (13 * ln) 77 5088) _) (I' := I) (fun _ => rfl) (fun _ => rfl) (Nat.le_refl _) hU
    have hA5 : RA w B R [] true h1 (I, Q, Z) := RA_u.mpr ⟨_, _, _, _, hS, hU4⟩
    refine go_callV (pc' := 15) rfl rfl rfl (Nat.le_of_ble_eq_true rfl) rfl (sm_o hS rfl) rfl rfl rfl (ra_pf_2 hA5 (by omega) (by omega)) (fun r h6 q7 => ?_)
    obtain ⟨rfl, hA8⟩ := q7
    refine go_s (pc' := 16) (st' := [.int 1]) rfl rfl rfl rfl ?_
    refine go_ret rfl rfl ?_
    have hms : rfl0 2 (I, Q, Z) = (1, rfp 2 (I, Q, Z)) := if_neg c3
    rw [hms]
    exact ⟨rfl, hA8⟩
theorem ra_fl_0_3 {w : Nat → Bool} {d B R : Nat} {h : am_Hp} {I : sm_I} {Q : mQ} {Z : mZ} (hA : RA w B R [] true h (I, Q, Z)) (hR : R + 0 < 40000) (hd : 4 ≤ d) : am_Ev (am_prog w) d 156 [.ref 62, .int 0, .int 3] h (fun r h' => r = some (.int (rfl0 3 (I, Q, Z)).1) ∧ RA w B R [] true h' (rfl0 3 (I, Q, Z)).2) := by
  obtain ⟨K, Y, am, ln, hS, hU⟩ := RA_u.mp hA
  change sm (tbr am (13 * ln) 77 5088) h (jn I K) Y at hS
  obtain ⟨hW, hWm, -, -, hr, -⟩ := id hU.1
  have hln := RU_ln hU (by omega)
  obtain ⟨d, rfl⟩ : ∃ e, d = e + 1 := ⟨d - 1, by omega⟩
  refine ev_go rfl (Nat.le_of_ble_eq_true rfl) rfl ?_
  refine go_s (pc' := 1) rfl rfl rfl rfl ?_
  refine go_ifP (t' := 17) (pc' := 2) rfl rfl rfl (fun (c : ¬ (0 : Int32) = 0) => absurd c (by decide)) (fun _ => ?_)
  refine go_s (pc' := 3) rfl rfl rfl rfl ?_
  refine go_s (pc' := 4) (st' := [.int 0, .int 3]) rfl rfl rfl rfl ?_
  refine go_s (pc' := 5) (st' := [.int 3, .int 0, .int 3]) rfl rfl rfl rfl ?_
  refine go_callS (pc' := 6) rfl rfl rfl (Nat.le_of_ble_eq_true rfl) rfl rfl rfl (rt_within_t (q := 3) (n := 3) (by decide) (by decide) (by omega)) (fun r h1 q2 => ?_)
  obtain ⟨rfl, rfl⟩ := q2
  refine go_ifP (t' := 17) (pc' := 7) rfl rfl rfl (fun (c : (1 : Int32) = 0) => absurd c (by decide)) (fun _ => ?_)
  refine go_s (pc' := 8) rfl rfl rfl rfl ?_
  refine go_sget (pc' := 9) (v := .ref 63) hS rfl rfl rfl (by decide) rfl rfl ?_
  refine go_s (pc' := 10) rfl rfl rfl rfl ?_
  refine go_sald (pc' := 11) (q := 3) (v := .int (I 0 3)) hS rfl (tr_s hr (a := 63) rfl (by decide)) rfl rfl (by decide) rfl rfl ?_
  refine go_ifP (t' := 17) (pc' := 12) rfl rfl rfl (fun (c3 : (I 0 3) = 0) => ?_) (fun (c3 : ¬ (I 0 3) = 0) => ?_)
  · skip
    refine go_s (pc' := 18) rfl rfl rfl rfl ?_
    refine go_s (pc' := 19) (st' := [.int 1, .int 0]) rfl rfl rfl rfl ?_
    refine go_icmpP (t' := 63) (pc' := 20) rfl rfl rfl (fun _ => ?_) (fun (c : ¬ (¬ (0 : Int32) = 1)) => absurd (by decide) c)
    refine go_s (pc' := 64) rfl rfl rfl rfl ?_
    refine go_s (pc' := 65) (st' := [.int 2, .int 0]) rfl rfl rfl rfl ?_
    refine go_icmpP (t' := 76) (pc' := 66) rfl rfl rfl (fun _ => ?_) (fun (c : ¬ (¬ (0 : Int32) = 2)) => absurd (by decide) c)
    refine go_s (pc' := 77) (st' := [.int 0]) rfl rfl rfl rfl ?_
    refine go_ret rfl rfl ?_
    have hms : rfl0 3 (I, Q, Z) = (0, (I, Q, Z)) := if_pos c3
    rw [hms]
    exact ⟨rfl, hA⟩
  · skip
    refine go_s (pc' := 13) rfl rfl rfl rfl ?_
    refine go_s (pc' := 14) rfl rfl rfl rfl ?_
    have hU4 : RU w B R [] true h1 am ln K (I, Q, Z) := RU_I (sm_e_refl (tbr am (13 * ln) 77 5088) _) (I' := I) (fun _ => rfl) (fun _ => rfl) (Nat.le_refl _) hU
    have hA5 : RA w B R [] true h1 (I, Q, Z) := RA_u.mpr ⟨_, _, _, _, hS, hU4⟩
    refine go_callV (pc' := 15) rfl rfl rfl (Nat.le_of_ble_eq_true rfl) rfl (sm_o hS rfl) rfl rfl rfl (ra_pf_3 hA5 (by omega) (by omega)) (fun r h6 q7 => ?_)
    obtain ⟨rfl, hA8⟩ := q7
    refine go_s (pc' := 16) (st' := [.int 1]) rfl rfl rfl rfl ?_
    refine go_ret rfl rfl ?_
    have hms : rfl0 3 (I, Q, Z) = (1, rfp 3 (I, Q, Z)) := if_neg c3
    rw [hms]
    exact ⟨rfl, hA8⟩
theorem ra_fl_1_0 {w : Nat → Bool} {d B R : Nat} {h : am_Hp} {I : sm_I} {Q : mQ} {Z : mZ} (hA : RA w B R [] true h (I, Q, Z)) (hR : R + 0 < 40000) (hq0 : ∀ l, l < 16 → Q l = [] → I 24 l = -1) (hd : 2 ≤ d) : am_Ev (am_prog w) d 156 [.ref 62, .int 1, .int 0] h (fun r h' => r = some (.int (mfl1 0 (I, Q, Z)).1) ∧ RA w B R [] true h' (mfl1 0 (I, Q, Z)).2) := by
  obtain ⟨K, Y, am, ln, hS, hU⟩ := RA_u.mp hA
  change sm (tbr am (13 * ln) 77 5088) h (jn I K) Y at hS
  obtain ⟨hW, hWm, -, -, hr, -⟩ := id hU.1
  have hln := RU_ln hU (by omega)
  obtain ⟨d, rfl⟩ : ∃ e, d = e + 1 := ⟨d - 1, by omega⟩
  refine ev_go rfl (Nat.le_of_ble_eq_true rfl) rfl ?_
  refine go_s (pc' := 1) rfl rfl rfl rfl ?_
  refine go_ifP (t' := 17) (pc' := 2) rfl rfl rfl (fun _ => ?_) (fun (c : ¬ (¬ (1 : Int32) = 0)) => absurd (by decide) c)
  refine go_s (pc' := 18) rfl rfl rfl rfl ?_
  refine go_s (pc' := 19) (st' := [.int 1, .int 1]) rfl rfl rfl rfl ?_
  refine go_icmpP (t' := 63) (pc' := 20) rfl rfl rfl (fun (c : ¬ (1 : Int32) = 1) => absurd c (by decide)) (fun _ => ?_)
  refine go_s (pc' := 21) rfl rfl rfl rfl ?_
  refine go_s (pc' := 22) (st' := [.int 0, .int 0]) rfl rfl rfl rfl ?_
  refine go_s (pc' := 23) (st' := [.int 1, .int 0, .int 0]) rfl rfl rfl rfl ?_
  refine go_callS (pc' := 24) rfl rfl rfl (Nat.le_of_ble_eq_true rfl) rfl rfl rfl (rt_within_t (q := 0) (n := 1) (by decide) (by decide) (by omega)) (fun r h1 q2 => ?_)
  obtain ⟨rfl, rfl⟩ := q2
  refine go_ifP (t' := 63) (pc' := 25) rfl rfl rfl (fun (c : (1 : Int32) = 0) => absurd c (by decide)) (fun _ => ?_)
  refine go_s (pc' := 26) rfl rfl rfl rfl ?_
  refine go_sget (pc' := 27) (v := .ref 66) hS rfl rfl rfl (by decide) rfl rfl ?_
  refine go_s (pc' := 28) rfl rfl rfl rfl ?_
  refine go_sald (pc' := 29) (q := 0) (v := .int (I 3 0)) hS rfl (tr_s hr (a := 66) rfl (by decide)) rfl rfl (by decide) rfl rfl ?_
  refine go_ifP (t' := 63) (pc' := 30) rfl rfl rfl (fun (c3 : (I 3 0) = 0) => ?_) (fun (c3 : ¬ (I 3 0) = 0) => ?_)
  · skip
    refine go_s (pc' := 64) rfl rfl rfl rfl ?_
    refine go_s (pc' := 65) (st' := [.int 2, .int 1]) rfl rfl rfl rfl ?_
    refine go_icmpP (t' := 76) (pc' := 66) rfl rfl rfl (fun _ => ?_) (fun (c : ¬ (¬ (1 : Int32) = 2)) => absurd (by decide) c)
    refine go_s (pc' := 77) (st' := [.int 0]) rfl rfl rfl rfl ?_
    refine go_ret rfl rfl ?_
    have hms : mfl1 0 (I, Q, Z) = (0, (I, Q, Z)) := if_pos c3
    rw [hms]
    exact ⟨rfl, hA⟩
  · skip
    refine go_s (pc' := 31) rfl rfl rfl rfl ?_
    refine go_sget (pc' := 32) (v := .ref 66) hS rfl rfl rfl (by decide) rfl rfl ?_
    refine go_s (pc' := 33) rfl rfl rfl rfl ?_
    refine go_s (pc' := 34) (st' := [.int 0, .int 0, .ref 66]) rfl rfl rfl rfl ?_
    refine go_szast (pc' := 35) (q := 0) hS rfl (tr_s hr (a := 66) rfl (by decide)) tbr_inj (Nat.le_of_ble_eq_true rfl) rfl (by decide) (by decide) rfl (hW _ (by decide) (by decide)) rfl (fun h4 hS5 hE6 => ?_)
    refine go_s (pc' := 36) (st' := [.int 0]) rfl rfl rfl rfl ?_
    refine go_s (pc' := 37) (lo' := [some (.ref 62), some (.int 1), some (.int 0), some (.int 0)]) rfl rfl rfl rfl ?_
    change sm (tbr am (13 * ln) 77 5088) _ (uI (jn I K) 3 0 0) Y at hS5
    rw [jn_lo (c := 3) (by decide)] at hS5
    have hU7 : RU w B R [] true h4 am ln K ((uI I 3 0 0), Q, Z) := RU_I (hE6) (I' := (uI I 3 0 0)) (fun _ => rfl) (fun _ => rfl) (Nat.le_refl _) hU
    have hA8 : RA w B R [] true h4 ((uI I 3 0 0), Q, Z) := RA_u.mpr ⟨_, _, _, _, hS5, hU7⟩
    have hms : mfl1 0 (I, Q, Z) = (1, (mbsI I 0 16, Q, Z)) := if_neg c3
    rw [hms]
    rw [show (uI I 3 0 0) = mbsI I 0 0 from mbs_0.symm] at hA8
    exact lp_fb_0 (by omega) (by omega) hq0 16 0 _ rfl hA8
theorem ra_fl_1_1 {w : Nat → Bool} {d B R : Nat} {h : am_Hp} {I : sm_I} {Q : mQ} {Z : mZ} (hA : RA w B R [] true h (I, Q, Z)) (hR : R + 0 < 40000) (hq0 : ∀ l, l < 16 → Q l = [] → I 24 l = -1) (hd : 2 ≤ d) : am_Ev (am_prog w) d 156 [.ref 62, .int 1, .int 1] h (fun r h' => r = some (.int (mfl1 1 (I, Q, Z)).1) ∧ RA w B R [] true h' (mfl1 1 (I, Q, Z)).2) := by
  obtain ⟨K, Y, am, ln, hS, hU⟩ := RA_u.mp hA
  change sm (tbr am (13 * ln) 77 5088) h (jn I K) Y at hS
  obtain ⟨hW, hWm, -, -, hr, -⟩ := id hU.1
  have hln := RU_ln hU (by omega)
  obtain ⟨d, rfl⟩ : ∃ e, d = e + 1 := ⟨d - 1, by omega⟩
  refine ev_go rfl (Nat.le_of_ble_eq_true rfl) rfl ?_
  refine go_s (pc' := 1) rfl rfl rfl rfl ?_
  refine go_ifP (t' := 17) (pc' := 2) rfl rfl rfl (fun _ => ?_) (fun (c : ¬ (¬ (1 : Int32) = 0)) => absurd (by decide) c)
  refine go_s (pc' := 18) rfl rfl rfl rfl ?_
  refine go_s (pc' := 19) (st' := [.int 1, .int 1]) rfl rfl rfl rfl ?_
  refine go_icmpP (t' := 63) (pc' := 20) rfl rfl rfl (fun (c : ¬ (1 : Int32) = 1) => absurd c (by decide)) (fun _ => ?_)
  refine go_s (pc' := 21) rfl rfl rfl rfl ?_
  refine go_s (pc' := 22) (st' := [.int 0, .int 1]) rfl rfl rfl rfl ?_
  refine go_s (pc' := 23) (st' := [.int 1, .int 0, .int 1]) rfl rfl rfl rfl ?_
  refine go_callS (pc' := 24) rfl rfl rfl (Nat.le_of_ble_eq_true rfl) rfl rfl rfl (rt_within_t (q := 1) (n := 1) (by decide) (by decide) (by omega)) (fun r h1 q2 => ?_)
  obtain ⟨rfl, rfl⟩ := q2
  refine go_ifP (t' := 63) (pc' := 25) rfl rfl rfl (fun (c : (1 : Int32) = 0) => absurd c (by decide)) (fun _ => ?_)
  refine go_s (pc' := 26) rfl rfl rfl rfl ?_
  refine go_sget (pc' := 27) (v := .ref 66) hS rfl rfl rfl (by decide) rfl rfl ?_
  refine go_s (pc' := 28) rfl rfl rfl rfl ?_
  refine go_sald (pc' := 29) (q := 1) (v := .int (I 3 1)) hS rfl (tr_s hr (a := 66) rfl (by decide)) rfl rfl (by decide) rfl rfl ?_
  refine go_ifP (t' := 63) (pc' := 30) rfl rfl rfl (fun (c3 : (I 3 1) = 0) => ?_) (fun (c3 : ¬ (I 3 1) = 0) => ?_)
  · skip
    refine go_s (pc' := 64) rfl rfl rfl rfl ?_
    refine go_s (pc' := 65) (st' := [.int 2, .int 1]) rfl rfl rfl rfl ?_
    refine go_icmpP (t' := 76) (pc' := 66) rfl rfl rfl (fun _ => ?_) (fun (c : ¬ (¬ (1 : Int32) = 2)) => absurd (by decide) c)
    refine go_s (pc' := 77) (st' := [.int 0]) rfl rfl rfl rfl ?_
    refine go_ret rfl rfl ?_
    have hms : mfl1 1 (I, Q, Z) = (0, (I, Q, Z)) := if_pos c3
    rw [hms]
    exact ⟨rfl, hA⟩
  · skip
    refine go_s (pc' := 31) rfl rfl rfl rfl ?_
    refine go_sget (pc' := 32) (v := .ref 66) hS rfl rfl rfl (by decide) rfl rfl ?_
    refine go_s (pc' := 33) rfl rfl rfl rfl ?_
    refine go_s (pc' := 34) (st' := [.int 0, .int 1, .ref 66]) rfl rfl rfl rfl ?_
    refine go_szast (pc' := 35) (q := 1) hS rfl (tr_s hr (a := 66) rfl (by decide)) tbr_inj (Nat.le_of_ble_eq_true rfl) rfl (by decide) (by decide) rfl (hW _ (by decide) (by decide)) rfl (fun h4 hS5 hE6 => ?_)
    refine go_s (pc' := 36) (st' := [.int 0]) rfl rfl rfl rfl ?_
    refine go_s (pc' := 37) (lo' := [some (.ref 62), some (.int 1), some (.int 1), some (.int 0)]) rfl rfl rfl rfl ?_
    change sm (tbr am (13 * ln) 77 5088) _ (uI (jn I K) 3 1 0) Y at hS5
    rw [jn_lo (c := 3) (by decide)] at hS5
    have hU7 : RU w B R [] true h4 am ln K ((uI I 3 1 0), Q, Z) := RU_I (hE6) (I' := (uI I 3 1 0)) (fun _ => rfl) (fun _ => rfl) (Nat.le_refl _) hU
    have hA8 : RA w B R [] true h4 ((uI I 3 1 0), Q, Z) := RA_u.mpr ⟨_, _, _, _, hS5, hU7⟩
    have hms : mfl1 1 (I, Q, Z) = (1, (mbsI I 1 16, Q, Z)) := if_neg c3
    rw [hms]
    rw [show (uI I 3 1 0) = mbsI I 1 0 from mbs_0.symm] at hA8
    exact lp_fb_1 (by omega) (by omega) hq0 16 0 _ rfl hA8
theorem ra_fl_2_0 {w : Nat → Bool} {d B R : Nat} {h : am_Hp} {I : sm_I} {Q : mQ} {Z : mZ} (hA : RA w B R [] true h (I, Q, Z)) (hR : R + 4 < 40000) {X : Nat} (hM : MID X (I, Q, Z)) (hX : X + 50 < 2 ^ 28) (hd : 10 ≤ d) : am_Ev (am_prog w) d 156 [.ref 62, .int 2, .int 0] h (fun r h' => r = some (.int (rfl2 0 (I, Q, Z)).1) ∧ RA w B (R + 2) [] true h' (rfl2 0 (I, Q, Z)).2) := by
  obtain ⟨K, Y, am, ln, hS, hU⟩ := RA_u.mp hA
  change sm (tbr am (13 * ln) 77 5088) h (jn I K) Y at hS
  obtain ⟨hW, hWm, -, -, hr, -⟩ := id hU.1
  have hln := RU_ln hU (by omega)
  obtain ⟨d, rfl⟩ : ∃ e, d = e + 1 := ⟨d - 1, by omega⟩
  refine ev_go rfl (Nat.le_of_ble_eq_true rfl) rfl ?_
  refine go_s (pc' := 1) rfl rfl rfl rfl ?_
  refine go_ifP (t' := 17) (pc' := 2) rfl rfl rfl (fun _ => ?_) (fun (c : ¬ (¬ (2 : Int32) = 0)) => absurd (by decide) c)
  refine go_s (pc' := 18) rfl rfl rfl rfl ?_
  refine go_s (pc' := 19) (st' := [.int 1, .int 2]) rfl rfl rfl rfl ?_
  refine go_icmpP (t' := 63) (pc' := 20) rfl rfl rfl (fun _ => ?_) (fun (c : ¬ (¬ (2 : Int32) = 1)) => absurd (by decide) c)
  refine go_s (pc' := 64) rfl rfl rfl rfl ?_
  refine go_s (pc' := 65) (st' := [.int 2, .int 2]) rfl rfl rfl rfl ?_
  refine go_icmpP (t' := 76) (pc' := 66) rfl rfl rfl (fun (c : ¬ (2 : Int32) = 2) => absurd c (by decide)) (fun _ => ?_)
  refine go_s (pc' := 67) rfl rfl rfl rfl ?_
  refine go_s (pc' := 68) (st' := [.int 0, .int 0]) rfl rfl rfl rfl ?_
  refine go_s (pc' := 69) (st' := [.int 1, .int 0, .int 0]) rfl rfl rfl rfl ?_
  refine go_callS (pc' := 70) rfl rfl rfl (Nat.le_of_ble_eq_true rfl) rfl rfl rfl (rt_within_t (q := 0) (n := 1) (by decide) (by decide) (by omega)) (fun r h1 q2 => ?_)
  obtain ⟨rfl, rfl⟩ := q2
  refine go_ifP (t' := 76) (pc' := 71) rfl rfl rfl (fun (c : (1 : Int32) = 0) => absurd c (by decide)) (fun _ => ?_)
  refine go_s (pc' := 72) rfl rfl rfl rfl ?_
  refine go_sget (pc' := 73) (v := .ref 67) hS rfl rfl rfl (by decide) rfl rfl ?_
  refine go_s (pc' := 74) rfl rfl rfl rfl ?_
  refine go_sald (pc' := 75) (q := 0) (v := .int (I 4 0)) hS rfl (tr_s hr (a := 67) rfl (by decide)) rfl rfl (by decide) rfl rfl ?_
  refine go_ifP (t' := 78) (pc' := 76) rfl rfl rfl (fun (c3 : ¬ (I 4 0) = 0) => ?_) (fun (c3' : ¬ ¬ (I 4 0) = 0) => ?_)
  · skip
    refine go_s (pc' := 79) rfl rfl rfl rfl ?_
    refine go_s (pc' := 80) (st' := [.int 1, .ref 62]) rfl rfl rfl rfl ?_
    refine go_s (pc' := 81) rfl rfl rfl rfl ?_
    refine go_s (pc' := 82) (st' := [.int 1, .ref 62]) rfl rfl rfl rfl ?_
    refine go_callV (pc' := 83) rfl rfl rfl (Nat.le_of_ble_eq_true rfl) rfl (sm_o hS rfl) rfl rfl rfl (rt_us_1 hr hS (by omega)) (fun r h4 q5 => ?_)
    obtain ⟨rfl, rfl⟩ := q5
    rw [show us (jn I K) 1 = us I 1 from rfl]
    cases u6 : us I 1
    · skip
      show am_Go _ _ _ _ 83 _ [.int 0] _ _
      refine go_ifP (t' := 89) (pc' := 84) rfl rfl rfl (fun _ => ?_) (fun (c : ¬ ((0 : Int32) = 0)) => absurd (by decide) c)
      refine go_s (pc' := 90) rfl rfl rfl rfl ?_
      refine go_sget (pc' := 91) (v := .ref 67) hS rfl rfl rfl (by decide) rfl rfl ?_
      refine go_s (pc' := 92) rfl rfl rfl rfl ?_
      refine go_s (pc' := 93) (st' := [.int 0, .int 0, .ref 67]) rfl rfl rfl rfl ?_
      refine go_szast (pc' := 94) (q := 0) hS rfl (tr_s hr (a := 67) rfl (by decide)) tbr_inj (Nat.le_of_ble_eq_true rfl) rfl (by decide) (by decide) rfl (hW _ (by decide) (by decide)) rfl (fun h7 hS8 hE9 => ?_)
      refine go_s (pc' := 95) rfl rfl rfl rfl ?_
      refine go_sget (pc' := 96) (v := .ref 69) hS8 rfl rfl rfl (by decide) rfl rfl ?_
      refine go_s (pc' := 97) rfl rfl rfl rfl ?_
      refine go_s (pc' := 98) (st' := [.int 0, .int 0, .ref 69]) rfl rfl rfl rfl ?_
      refine go_siast (pc' := 99) (q := 0) hS8 rfl (tr_s hr (a := 69) rfl (by decide)) tbr_inj (Nat.le_of_ble_eq_true rfl) rfl (by decide) (by decide) (hW _ (by decide) (by decide)) rfl (fun h10 hS11 hE12 => ?_)
      have hE13 := sm_e_trans hE9 hE12
      refine go_s (pc' := 100) rfl rfl rfl rfl ?_
      change sm (tbr am (13 * ln) 77 5088) _ (uI (uI (jn I K) 4 0 0) 6 0 0) Y at hS11
      rw [jn_lo (c := 4) (by decide), jn_lo (c := 6) (by decide)] at hS11
      have hU14 : RU w B R [] true h10 am ln K ((uI (uI I 4 0 0) 6 0 0), Q, Z) := RU_I (hE13) (I' := (uI (uI I 4 0 0) 6 0 0)) (fun _ => rfl) (fun _ => rfl) (Nat.le_refl _) hU
      have hif : (uI (uI (if us ((I, Q, Z) : mM).1 (1 - 0) = true then uI ((I, Q, Z) : mM).1 5 0 0 else ((I, Q, Z) : mM).1) 4 0 0) 6 0 0) = (uI (uI I 4 0 0) 6 0 0) := by
        rw [if_neg (by rw [show us ((I, Q, Z) : mM).1 (1 - 0) = false from u6]; decide)]
      have hM9 : MID X ((uI (uI I 4 0 0) 6 0 0), Q, Z) := by
        have z := MID_fd (d := 0) hM (by decide)
        rw [hif] at z
        exact z
      have hU15 : RU w B R [] true h10 am ln K ((uI (uI I 4 0 0) 6 0 0), Q, Z) := RU_I (sm_e_refl (tbr am (13 * ln) 77 5088) _) (I' := (uI (uI I 4 0 0) 6 0 0)) (fun _ => rfl) (fun _ => rfl) (Nat.le_refl _) hU14
      have hA16 : RA w B R [] true h10 ((uI (uI I 4 0 0) 6 0 0), Q, Z) := RA_u.mpr ⟨_, _, _, _, hS11, hU15⟩
      refine go_callV (pc' := 101) rfl rfl rfl (Nat.le_of_ble_eq_true rfl) rfl (sm_o hS11 rfl) rfl rfl rfl (ra_set hA16 (by omega) hM9 (by omega) rfl (by omega)) (fun r h17 q18 => ?_)
      obtain ⟨rfl, hA19⟩ := q18
      refine go_s (pc' := 102) (st' := [.int 1]) rfl rfl rfl rfl ?_
      refine go_ret rfl rfl ?_
      have hms : rfl2 0 (I, Q, Z) = (1, rset 30 ((uI (uI I 4 0 0) 6 0 0), Q, Z)) := by
        unfold rfl2
        rw [if_neg (show ¬ ((I, Q, Z) : mM).1 4 0 = 0 from c3), hif]
      rw [hms]
      exact ⟨rfl, hA19⟩
    · skip
      show am_Go _ _ _ _ 83 _ [.int 1] _ _
      refine go_ifP (t' := 89) (pc' := 84) rfl rfl rfl (fun (c : (1 : Int32) = 0) => absurd c (by decide)) (fun _ => ?_)
      refine go_s (pc' := 85) rfl rfl rfl rfl ?_
      refine go_sget (pc' := 86) (v := .ref 68) hS rfl rfl rfl (by decide) rfl rfl ?_
      refine go_s (pc' := 87) rfl rfl rfl rfl ?_
      refine go_s (pc' := 88) (st' := [.int 0, .int 0, .ref 68]) rfl rfl rfl rfl ?_
      refine go_szast (pc' := 89) (q := 0) hS rfl (tr_s hr (a := 68) rfl (by decide)) tbr_inj (Nat.le_of_ble_eq_true rfl) rfl (by decide) (by decide) rfl (hW _ (by decide) (by decide)) rfl (fun h20 hS21 hE22 => ?_)
      refine go_s (pc' := 90) rfl rfl rfl rfl ?_
      refine go_sget (pc' := 91) (v := .ref 67) hS21 rfl rfl rfl (by decide) rfl rfl ?_
      refine go_s (pc' := 92) rfl rfl rfl rfl ?_
      refine go_s (pc' := 93) (st' := [.int 0, .int 0, .ref 67]) rfl rfl rfl rfl ?_
      refine go_szast (pc' := 94) (q := 0) hS21 rfl (tr_s hr (a := 67) rfl (by decide)) tbr_inj (Nat.le_of_ble_eq_true rfl) rfl (by decide) (by decide) rfl (hW _ (by decide) (by decide)) rfl (fun h23 hS24 hE25 => ?_)
      have hE26 := sm_e_trans hE22 hE25
      refine go_s (pc' := 95) rfl rfl rfl rfl ?_
      refine go_sget (pc' := 96) (v := .ref 69) hS24 rfl rfl rfl (by decide) rfl rfl ?_
      refine go_s (pc' := 97) rfl rfl rfl rfl ?_
      refine go_s (pc' := 98) (st' := [.int 0, .int 0, .ref 69]) rfl rfl rfl rfl ?_
      refine go_siast (pc' := 99) (q := 0) hS24 rfl (tr_s hr (a := 69) rfl (by decide)) tbr_inj (Nat.le_of_ble_eq_true rfl) rfl (by decide) (by decide) (hW _ (by decide) (by decide)) rfl (fun h27 hS28 hE29 => ?_)
      have hE30 := sm_e_trans hE26 hE29
      refine go_s (pc' := 100) rfl rfl rfl rfl ?_
      change sm (tbr am (13 * ln) 77 5088) _ (uI (uI (uI (jn I K) 5 0 0) 4 0 0) 6 0 0) Y at hS28
      rw [jn_lo (c := 5) (by decide), jn_lo (c := 4) (by decide), jn_lo (c := 6) (by decide)] at hS28
      have hU31 : RU w B R [] true h27 am ln K ((uI (uI (uI I 5 0 0) 4 0 0) 6 0 0), Q, Z) := RU_I (hE30) (I' := (uI (uI (uI I 5 0 0) 4 0 0) 6 0 0)) (fun _ => rfl) (fun _ => rfl) (Nat.le_refl _) hU
      have hif : (uI (uI (if us ((I, Q, Z) : mM).1 (1 - 0) = true then uI ((I, Q, Z) : mM).1 5 0 0 else ((I, Q, Z) : mM).1) 4 0 0) 6 0 0) = (uI (uI (uI I 5 0 0) 4 0 0) 6 0 0) := by
        rw [if_pos (show us ((I, Q, Z) : mM).1 (1 - 0) = true from u6)]
      have hM9 : MID X ((uI (uI (uI I 5 0 0) 4 0 0) 6 0 0), Q, Z) := by
        have z := MID_fd (d := 0) hM (by decide)
        rw [hif] at z
        exact z
      have hU32 : RU w B R [] true h27 am ln K ((uI (uI (uI I 5 0 0) 4 0 0) 6 0 0), Q, Z) := RU_I (sm_e_refl (tbr am (13 * ln) 77 5088) _) (I' := (uI (uI (uI I 5 0 0) 4 0 0) 6 0 0)) (fun _ => rfl) (fun _ => rfl) (Nat.le_refl _) hU31
      have hA33 : RA w B R [] true h27 ((uI (uI (uI I 5 0 0) 4 0 0) 6 0 0), Q, Z) := RA_u.mpr ⟨_, _, _, _, hS28, hU32⟩
      refine go_callV (pc' := 101) rfl rfl rfl (Nat.le_of_ble_eq_true rfl) rfl (sm_o hS28 rfl) rfl rfl rfl (ra_set hA33 (by omega) hM9 (by omega) rfl (by omega)) (fun r h34 q35 => ?_)
      obtain ⟨rfl, hA36⟩ := q35
      refine go_s (pc' := 102) (st' := [.int 1]) rfl rfl rfl rfl ?_
      refine go_ret rfl rfl ?_
      have hms : rfl2 0 (I, Q, Z) = (1, rset 30 ((uI (uI (uI I 5 0 0) 4 0 0) 6 0 0), Q, Z)) := by
        unfold rfl2
        rw [if_neg (show ¬ ((I, Q, Z) : mM).1 4 0 = 0 from c3), hif]
      rw [hms]
      exact ⟨rfl, hA36⟩
  · skip
    have c3 : (I 4 0) = 0 := Decidable.not_not.mp c3'
    refine go_s (pc' := 77) (st' := [.int 0]) rfl rfl rfl rfl ?_
    refine go_ret rfl rfl ?_
    have hms : rfl2 0 (I, Q, Z) = (0, (I, Q, Z)) := if_pos c3
    rw [hms]
    exact ⟨rfl, RA_R (by omega) hA⟩
theorem ra_fl_2_1 {w : Nat → Bool} {d B R : Nat} {h : am_Hp} {I : sm_I} {Q : mQ} {Z : mZ} (hA : RA w B R [] true h (I, Q, Z)) (hR : R + 4 < 40000) {X : Nat} (hM : MID X (I, Q, Z)) (hX : X + 50 < 2 ^ 28) (hd : 10 ≤ d) : am_Ev (am_prog w) d 156 [.ref 62, .int 2, .int 1] h (fun r h' => r = some (.int (rfl2 1 (I, Q, Z)).1) ∧ RA w B (R + 2) [] true h' (rfl2 1 (I, Q, Z)).2) := by
  obtain ⟨K, Y, am, ln, hS, hU⟩ := RA_u.mp hA
  change sm (tbr am (13 * ln) 77 5088) h (jn I K) Y at hS
  obtain ⟨hW, hWm, -, -, hr, -⟩ := id hU.1
  have hln := RU_ln hU (by omega)
  obtain ⟨d, rfl⟩ : ∃ e, d = e + 1 := ⟨d - 1, by omega⟩
  refine ev_go rfl (Nat.le_of_ble_eq_true rfl) rfl ?_
  refine go_s (pc' := 1) rfl rfl rfl rfl ?_
  refine go_ifP (t' := 17) (pc' := 2) rfl rfl rfl (fun _ => ?_) (fun (c : ¬ (¬ (2 : Int32) = 0)) => absurd (by decide) c)
  refine go_s (pc' := 18) rfl rfl rfl rfl ?_
  refine go_s (pc' := 19) (st' := [.int 1, .int 2]) rfl rfl rfl rfl ?_
  refine go_icmpP (t' := 63) (pc' := 20) rfl rfl rfl (fun _ => ?_) (fun (c : ¬ (¬ (2 : Int32) = 1)) => absurd (by decide) c)
  refine go_s (pc' := 64) rfl rfl rfl rfl ?_
  refine go_s (pc' := 65) (st' := [.int 2, .int 2]) rfl rfl rfl rfl ?_
  refine go_icmpP (t' := 76) (pc' := 66) rfl rfl rfl (fun (c : ¬ (2 : Int32) = 2) => absurd c (by decide)) (fun _ => ?_)
  refine go_s (pc' := 67) rfl rfl rfl rfl ?_
  refine go_s (pc' := 68) (st' := [.int 0, .int 1]) rfl rfl rfl rfl ?_
  refine go_s (pc' := 69) (st' := [.int 1, .int 0, .int 1]) rfl rfl rfl rfl ?_
  refine go_callS (pc' := 70) rfl rfl rfl (Nat.le_of_ble_eq_true rfl) rfl rfl rfl (rt_within_t (q := 1) (n := 1) (by decide) (by decide) (by omega)) (fun r h1 q2 => ?_)
  obtain ⟨rfl, rfl⟩ := q2
  refine go_ifP (t' := 76) (pc' := 71) rfl rfl rfl (fun (c : (1 : Int32) = 0) => absurd c (by decide)) (fun _ => ?_)
  refine go_s (pc' := 72) rfl rfl rfl rfl ?_
  refine go_sget (pc' := 73) (v := .ref 67) hS rfl rfl rfl (by decide) rfl rfl ?_
  refine go_s (pc' := 74) rfl rfl rfl rfl ?_
  refine go_sald (pc' := 75) (q := 1) (v := .int (I 4 1)) hS rfl (tr_s hr (a := 67) rfl (by decide)) rfl rfl (by decide) rfl rfl ?_
  refine go_ifP (t' := 78) (pc' := 76) rfl rfl rfl (fun (c3 : ¬ (I 4 1) = 0) => ?_) (fun (c3' : ¬ ¬ (I 4 1) = 0) => ?_)
  · skip
    refine go_s (pc' := 79) rfl rfl rfl rfl ?_
    refine go_s (pc' := 80) (st' := [.int 1, .ref 62]) rfl rfl rfl rfl ?_
    refine go_s (pc' := 81) rfl rfl rfl rfl ?_
    refine go_s (pc' := 82) (st' := [.int 0, .ref 62]) rfl rfl rfl rfl ?_
    refine go_callV (pc' := 83) rfl rfl rfl (Nat.le_of_ble_eq_true rfl) rfl (sm_o hS rfl) rfl rfl rfl (rt_us_0 hr hS (by omega)) (fun r h4 q5 => ?_)
    obtain ⟨rfl, rfl⟩ := q5
    rw [show us (jn I K) 0 = us I 0 from rfl]
    cases u6 : us I 0
    · skip
      show am_Go _ _ _ _ 83 _ [.int 0] _ _
      refine go_ifP (t' := 89) (pc' := 84) rfl rfl rfl (fun _ => ?_) (fun (c : ¬ ((0 : Int32) = 0)) => absurd (by decide) c)
      refine go_s (pc' := 90) rfl rfl rfl rfl ?_
      refine go_sget (pc' := 91) (v := .ref 67) hS rfl rfl rfl (by decide) rfl rfl ?_
      refine go_s (pc' := 92) rfl rfl rfl rfl ?_
      refine go_s (pc' := 93) (st' := [.int 0, .int 1, .ref 67]) rfl rfl rfl rfl ?_
      refine go_szast (pc' := 94) (q := 1) hS rfl (tr_s hr (a := 67) rfl (by decide)) tbr_inj (Nat.le_of_ble_eq_true rfl) rfl (by decide) (by decide) rfl (hW _ (by decide) (by decide)) rfl (fun h7 hS8 hE9 => ?_)
      refine go_s (pc' := 95) rfl rfl rfl rfl ?_
      refine go_sget (pc' := 96) (v := .ref 69) hS8 rfl rfl rfl (by decide) rfl rfl ?_
      refine go_s (pc' := 97) rfl rfl rfl rfl ?_
      refine go_s (pc' := 98) (st' := [.int 0, .int 1, .ref 69]) rfl rfl rfl rfl ?_
      refine go_siast (pc' := 99) (q := 1) hS8 rfl (tr_s hr (a := 69) rfl (by decide)) tbr_inj (Nat.le_of_ble_eq_true rfl) rfl (by decide) (by decide) (hW _ (by decide) (by decide)) rfl (fun h10 hS11 hE12 => ?_)
      have hE13 := sm_e_trans hE9 hE12
      refine go_s (pc' := 100) rfl rfl rfl rfl ?_
      change sm (tbr am (13 * ln) 77 5088) _ (uI (uI (jn I K) 4 1 0) 6 1 0) Y at hS11
      rw [jn_lo (c := 4) (by decide), jn_lo (c := 6) (by decide)] at hS11
      have hU14 : RU w B R [] true h10 am ln K ((uI (uI I 4 1 0) 6 1 0), Q, Z) := RU_I (hE13) (I' := (uI (uI I 4 1 0) 6 1 0)) (fun _ => rfl) (fun _ => rfl) (Nat.le_refl _) hU
      have hif : (uI (uI (if us ((I, Q, Z) : mM).1 (1 - 1) = true then uI ((I, Q, Z) : mM).1 5 1 0 else ((I, Q, Z) : mM).1) 4 1 0) 6 1 0) = (uI (uI I 4 1 0) 6 1 0) := by
        rw [if_neg (by rw [show us ((I, Q, Z) : mM).1 (1 - 1) = false from u6]; decide)]
      have hM9 : MID X ((uI (uI I 4 1 0) 6 1 0), Q, Z) := by
        have z := MID_fd (d := 1) hM (by decide)
        rw [hif] at z
        exact z
      have hU15 : RU w B R [] true h10 am ln K ((uI (uI I 4 1 0) 6 1 0), Q, Z) := RU_I (sm_e_refl (tbr am (13 * ln) 77 5088) _) (I' := (uI (uI I 4 1 0) 6 1 0)) (fun _ => rfl) (fun _ => rfl) (Nat.le_refl _) hU14
      have hA16 : RA w B R [] true h10 ((uI (uI I 4 1 0) 6 1 0), Q, Z) := RA_u.mpr ⟨_, _, _, _, hS11, hU15⟩
      refine go_callV (pc' := 101) rfl rfl rfl (Nat.le_of_ble_eq_true rfl) rfl (sm_o hS11 rfl) rfl rfl rfl (ra_set hA16 (by omega) hM9 (by omega) rfl (by omega)) (fun r h17 q18 => ?_)
      obtain ⟨rfl, hA19⟩ := q18
      refine go_s (pc' := 102) (st' := [.int 1]) rfl rfl rfl rfl ?_
      refine go_ret rfl rfl ?_
      have hms : rfl2 1 (I, Q, Z) = (1, rset 30 ((uI (uI I 4 1 0) 6 1 0), Q, Z)) := by
        unfold rfl2
        rw [if_neg (show ¬ ((I, Q, Z) : mM).1 4 1 = 0 from c3), hif]
      rw [hms]
      exact ⟨rfl, hA19⟩
    · skip
      show am_Go _ _ _ _ 83 _ [.int 1] _ _
      refine go_ifP (t' := 89) (pc' := 84) rfl rfl rfl (fun (c : (1 : Int32) = 0) => absurd c (by decide)) (fun _ => ?_)
      refine go_s (pc' := 85) rfl rfl rfl rfl ?_
      refine go_sget (pc' := 86) (v := .ref 68) hS rfl rfl rfl (by decide) rfl rfl ?_
      refine go_s (pc' := 87) rfl rfl rfl rfl ?_
      refine go_s (pc' := 88) (st' := [.int 0, .int 1, .ref 68]) rfl rfl rfl rfl ?_
      refine go_szast (pc' := 89) (q := 1) hS rfl (tr_s hr (a := 68) rfl (by decide)) tbr_inj (Nat.le_of_ble_eq_true rfl) rfl (by decide) (by decide) rfl (hW _ (by decide) (by decide)) rfl (fun h20 hS21 hE22 => ?_)
      refine go_s (pc' := 90) rfl rfl rfl rfl ?_
      refine go_sget (pc' := 91) (v := .ref 67) hS21 rfl rfl rfl (by decide) rfl rfl ?_
      refine go_s (pc' := 92) rfl rfl rfl rfl ?_
      refine go_s (pc' := 93) (st' := [.int 0, .int 1, .ref 67]) rfl rfl rfl rfl ?_
      refine go_szast (pc' := 94) (q := 1) hS21 rfl (tr_s hr (a := 67) rfl (by decide)) tbr_inj (Nat.le_of_ble_eq_true rfl) rfl (by decide) (by decide) rfl (hW _ (by decide) (by decide)) rfl (fun h23 hS24 hE25 => ?_)
      have hE26 := sm_e_trans hE22 hE25
      refine go_s (pc' := 95) rfl rfl rfl rfl ?_
      refine go_sget (pc' := 96) (v := .ref 69) hS24 rfl rfl rfl (by decide) rfl rfl ?_
      refine go_s (pc' := 97) rfl rfl rfl rfl ?_
      refine go_s (pc' := 98) (st' := [.int 0, .int 1, .ref 69]) rfl rfl rfl rfl ?_
      refine go_siast (pc' := 99) (q := 1) hS24 rfl (tr_s hr (a := 69) rfl (by decide)) tbr_inj (Nat.le_of_ble_eq_true rfl) rfl (by decide) (by decide) (hW _ (by decide) (by decide)) rfl (fun h27 hS28 hE29 => ?_)
      have hE30 := sm_e_trans hE26 hE29
      refine go_s (pc' := 100) rfl rfl rfl rfl ?_
      change sm (tbr am (13 * ln) 77 5088) _ (uI (uI (uI (jn I K) 5 1 0) 4 1 0) 6 1 0) Y at hS28
      rw [jn_lo (c := 5) (by decide), jn_lo (c := 4) (by decide), jn_lo (c := 6) (by decide)] at hS28
      have hU31 : RU w B R [] true h27 am ln K ((uI (uI (uI I 5 1 0) 4 1 0) 6 1 0), Q, Z) := RU_I (hE30) (I' := (uI (uI (uI I 5 1 0) 4 1 0) 6 1 0)) (fun _ => rfl) (fun _ => rfl) (Nat.le_refl _) hU
      have hif : (uI (uI (if us ((I, Q, Z) : mM).1 (1 - 1) = true then uI ((I, Q, Z) : mM).1 5 1 0 else ((I, Q, Z) : mM).1) 4 1 0) 6 1 0) = (uI (uI (uI I 5 1 0) 4 1 0) 6 1 0) := by
        rw [if_pos (show us ((I, Q, Z) : mM).1 (1 - 1) = true from u6)]
      have hM9 : MID X ((uI (uI (uI I 5 1 0) 4 1 0) 6 1 0), Q, Z) := by
        have z := MID_fd (d := 1) hM (by decide)
        rw [hif] at z
        exact z
      have hU32 : RU w B R [] true h27 am ln K ((uI (uI (uI I 5 1 0) 4 1 0) 6 1 0), Q, Z) := RU_I (sm_e_refl (tbr am (13 * ln) 77 5088) _) (I' := (uI (uI (uI I 5 1 0) 4 1 0) 6 1 0)) (fun _ => rfl) (fun _ => rfl) (Nat.le_refl _) hU31
      have hA33 : RA w B R [] true h27 ((uI (uI (uI I 5 1 0) 4 1 0) 6 1 0), Q, Z) := RA_u.mpr ⟨_, _, _, _, hS28, hU32⟩
      refine go_callV (pc' := 101) rfl rfl rfl (Nat.le_of_ble_eq_true rfl) rfl (sm_o hS28 rfl) rfl rfl rfl (ra_set hA33 (by omega) hM9 (by omega) rfl (by omega)) (fun r h34 q35 => ?_)
      obtain ⟨rfl, hA36⟩ := q35
      refine go_s (pc' := 102) (st' := [.int 1]) rfl rfl rfl rfl ?_
      refine go_ret rfl rfl ?_
      have hms : rfl2 1 (I, Q, Z) = (1, rset 30 ((uI (uI (uI I 5 1 0) 4 1 0) 6 1 0), Q, Z)) := by
        unfold rfl2
        rw [if_neg (show ¬ ((I, Q, Z) : mM).1 4 1 = 0 from c3), hif]
      rw [hms]
      exact ⟨rfl, hA36⟩
  · skip
    have c3 : (I 4 1) = 0 := Decidable.not_not.mp c3'
    refine go_s (pc' := 77) (st' := [.int 0]) rfl rfl rfl rfl ?_
    refine go_ret rfl rfl ?_
    have hms : rfl2 1 (I, Q, Z) = (0, (I, Q, Z)) := if_pos c3
    rw [hms]
    exact ⟨rfl, RA_R (by omega) hA⟩
theorem out_le {n : Nat} {x : Int32} (hn : n + 1 < 2 ^ 31) (h : x < 0 ∨ nI (n + 1) ≤ x) : x < 0 ∨ nI n < x := h.imp id (fun z => Int32.lt_of_lt_of_le (nI_lt (by omega) hn) z)
theorem ra_fl_f0 {w : Nat → Bool} {d B R : Nat} {h : am_Hp} {I : sm_I} {Q : mQ} {Z : mZ} (hA : RA w B R [] true h (I, Q, Z)) (hR : R + 0 < 40000) {a : Int32} (hn : a < 0 ∨ nI 3 < a) (hd : 2 ≤ d) : am_Ev (am_prog w) d 156 [.ref 62, .int 0, .int a] h (fun r h' => r = some (.int 0) ∧ h' = h) := by
  obtain ⟨K, Y, am, ln, hS, hU⟩ := RA_u.mp hA
  change sm (tbr am (13 * ln) 77 5088) h (jn I K) Y at hS
  obtain ⟨hW, hWm, -, -, hr, -⟩ := id hU.1
  have hln := RU_ln hU (by omega)
  obtain ⟨d, rfl⟩ : ∃ e, d = e + 1 := ⟨d - 1, by omega⟩
  refine ev_go rfl (Nat.le_of_ble_eq_true rfl) rfl ?_
  refine go_s (pc' := 1) rfl rfl rfl rfl ?_
  refine go_ifP (t' := 17) (pc' := 2) rfl rfl rfl (fun (c : ¬ (0 : Int32) = 0) => absurd c (by decide)) (fun _ => ?_)
  refine go_s (pc' := 3) rfl rfl rfl rfl ?_
  refine go_s (pc' := 4) (st' := [.int 0, .int a]) rfl rfl rfl rfl ?_
  refine go_s (pc' := 5) (st' := [.int 3, .int 0, .int a]) rfl rfl rfl rfl ?_
  refine go_callS (pc' := 6) rfl rfl rfl (Nat.le_of_ble_eq_true rfl) rfl rfl rfl (rt_within_f (a := a) (n := 3) hn (by omega)) (fun r h1 q2 => ?_)
  obtain ⟨rfl, rfl⟩ := q2
  refine go_ifP (t' := 17) (pc' := 7) rfl rfl rfl (fun _ => ?_) (fun (c : ¬ ((0 : Int32) = 0)) => absurd (by decide) c)
  refine go_s (pc' := 18) rfl rfl rfl rfl ?_
  refine go_s (pc' := 19) (st' := [.int 1, .int 0]) rfl rfl rfl rfl ?_
  refine go_icmpP (t' := 63) (pc' := 20) rfl rfl rfl (fun _ => ?_) (fun (c : ¬ (¬ (0 : Int32) = 1)) => absurd (by decide) c)
  refine go_s (pc' := 64) rfl rfl rfl rfl ?_
  refine go_s (pc' := 65) (st' := [.int 2, .int 0]) rfl rfl rfl rfl ?_
  refine go_icmpP (t' := 76) (pc' := 66) rfl rfl rfl (fun _ => ?_) (fun (c : ¬ (¬ (0 : Int32) = 2)) => absurd (by decide) c)
  refine go_s (pc' := 77) (st' := [.int 0]) rfl rfl rfl rfl ?_
  refine go_ret rfl rfl ?_
  exact ⟨rfl, rfl⟩
theorem ra_fl_f1 {w : Nat → Bool} {d B R : Nat} {h : am_Hp} {I : sm_I} {Q : mQ} {Z : mZ} (hA : RA w B R [] true h (I, Q, Z)) (hR : R + 0 < 40000) {a : Int32} (hn : a < 0 ∨ nI 1 < a) (hd : 2 ≤ d) : am_Ev (am_prog w) d 156 [.ref 62, .int 1, .int a] h (fun r h' => r = some (.int 0) ∧ h' = h) := by
  obtain ⟨K, Y, am, ln, hS, hU⟩ := RA_u.mp hA
  change sm (tbr am (13 * ln) 77 5088) h (jn I K) Y at hS
  obtain ⟨hW, hWm, -, -, hr, -⟩ := id hU.1
  have hln := RU_ln hU (by omega)
  obtain ⟨d, rfl⟩ : ∃ e, d = e + 1 := ⟨d - 1, by omega⟩
  refine ev_go rfl (Nat.le_of_ble_eq_true rfl) rfl ?_
  refine go_s (pc' := 1) rfl rfl rfl rfl ?_
  refine go_ifP (t' := 17) (pc' := 2) rfl rfl rfl (fun _ => ?_) (fun (c : ¬ (¬ (1 : Int32) = 0)) => absurd (by decide) c)
  refine go_s (pc' := 18) rfl rfl rfl rfl ?_
  refine go_s (pc' := 19) (st' := [.int 1, .int 1]) rfl rfl rfl rfl ?_
  refine go_icmpP (t' := 63) (pc' := 20) rfl rfl rfl (fun (c : ¬ (1 : Int32) = 1) => absurd c (by decide)) (fun _ => ?_)
  refine go_s (pc' := 21) rfl rfl rfl rfl ?_
  refine go_s (pc' := 22) (st' := [.int 0, .int a]) rfl rfl rfl rfl ?_
  refine go_s (pc' := 23) (st' := [.int 1, .int 0, .int a]) rfl rfl rfl rfl ?_
  refine go_callS (pc' := 24) rfl rfl rfl (Nat.le_of_ble_eq_true rfl) rfl rfl rfl (rt_within_f (a := a) (n := 1) hn (by omega)) (fun r h1 q2 => ?_)
  obtain ⟨rfl, rfl⟩ := q2
  refine go_ifP (t' := 63) (pc' := 25) rfl rfl rfl (fun _ => ?_) (fun (c : ¬ ((0 : Int32) = 0)) => absurd (by decide) c)
  refine go_s (pc' := 64) rfl rfl rfl rfl ?_
  refine go_s (pc' := 65) (st' := [.int 2, .int 1]) rfl rfl rfl rfl ?_
  refine go_icmpP (t' := 76) (pc' := 66) rfl rfl rfl (fun _ => ?_) (fun (c : ¬ (¬ (1 : Int32) = 2)) => absurd (by decide) c)
  refine go_s (pc' := 77) (st' := [.int 0]) rfl rfl rfl rfl ?_
  refine go_ret rfl rfl ?_
  exact ⟨rfl, rfl⟩
theorem ra_fl_f2 {w : Nat → Bool} {d B R : Nat} {h : am_Hp} {I : sm_I} {Q : mQ} {Z : mZ} (hA : RA w B R [] true h (I, Q, Z)) (hR : R + 0 < 40000) {a : Int32} (hn : a < 0 ∨ nI 1 < a) (hd : 2 ≤ d) : am_Ev (am_prog w) d 156 [.ref 62, .int 2, .int a] h (fun r h' => r = some (.int 0) ∧ h' = h) := by
  obtain ⟨K, Y, am, ln, hS, hU⟩ := RA_u.mp hA
  change sm (tbr am (13 * ln) 77 5088) h (jn I K) Y at hS
  obtain ⟨hW, hWm, -, -, hr, -⟩ := id hU.1
  have hln := RU_ln hU (by omega)
  obtain ⟨d, rfl⟩ : ∃ e, d = e + 1 := ⟨d - 1, by omega⟩
  refine ev_go rfl (Nat.le_of_ble_eq_true rfl) rfl ?_
  refine go_s (pc' := 1) rfl rfl rfl rfl ?_
  refine go_ifP (t' := 17) (pc' := 2) rfl rfl rfl (fun _ => ?_) (fun (c : ¬ (¬ (2 : Int32) = 0)) => absurd (by decide) c)
  refine go_s (pc' := 18) rfl rfl rfl rfl ?_
  refine go_s (pc' := 19) (st' := [.int 1, .int 2]) rfl rfl rfl rfl ?_
  refine go_icmpP (t' := 63) (pc' := 20) rfl rfl rfl (fun _ => ?_) (fun (c : ¬ (¬ (2 : Int32) = 1)) => absurd (by decide) c)
  refine go_s (pc' := 64) rfl rfl rfl rfl ?_
  refine go_s (pc' := 65) (st' := [.int 2, .int 2]) rfl rfl rfl rfl ?_
  refine go_icmpP (t' := 76) (pc' := 66) rfl rfl rfl (fun (c : ¬ (2 : Int32) = 2) => absurd c (by decide)) (fun _ => ?_)
  refine go_s (pc' := 67) rfl rfl rfl rfl ?_
  refine go_s (pc' := 68) (st' := [.int 0, .int a]) rfl rfl rfl rfl ?_
  refine go_s (pc' := 69) (st' := [.int 1, .int 0, .int a]) rfl rfl rfl rfl ?_
  refine go_callS (pc' := 70) rfl rfl rfl (Nat.le_of_ble_eq_true rfl) rfl rfl rfl (rt_within_f (a := a) (n := 1) hn (by omega)) (fun r h1 q2 => ?_)
  obtain ⟨rfl, rfl⟩ := q2
  refine go_ifP (t' := 76) (pc' := 71) rfl rfl rfl (fun _ => ?_) (fun (c : ¬ ((0 : Int32) = 0)) => absurd (by decide) c)
  refine go_s (pc' := 77) (st' := [.int 0]) rfl rfl rfl rfl ?_
  refine go_ret rfl rfl ?_
  exact ⟨rfl, rfl⟩
theorem ra_fl_fn {w : Nat → Bool} {d B R : Nat} {h : am_Hp} {I : sm_I} {Q : mQ} {Z : mZ} (hA : RA w B R [] true h (I, Q, Z)) (hR : R + 0 < 40000) {x a : Int32} (x0 : ¬ x = 0) (x1 : ¬ x = 1) (x2 : ¬ x = 2) (hd : 2 ≤ d) : am_Ev (am_prog w) d 156 [.ref 62, .int x, .int a] h (fun r h' => r = some (.int 0) ∧ h' = h) := by
  obtain ⟨K, Y, am, ln, hS, hU⟩ := RA_u.mp hA
  change sm (tbr am (13 * ln) 77 5088) h (jn I K) Y at hS
  obtain ⟨hW, hWm, -, -, hr, -⟩ := id hU.1
  have hln := RU_ln hU (by omega)
  obtain ⟨d, rfl⟩ : ∃ e, d = e + 1 := ⟨d - 1, by omega⟩
  refine ev_go rfl (Nat.le_of_ble_eq_true rfl) rfl ?_
  refine go_s (pc' := 1) rfl rfl rfl rfl ?_
  refine go_ifP (t' := 17) (pc' := 2) rfl rfl rfl (fun _ => ?_) (fun (c : ¬ (¬ x = 0)) => absurd x0 c)
  refine go_s (pc' := 18) rfl rfl rfl rfl ?_
  refine go_s (pc' := 19) (st' := [.int 1, .int x]) rfl rfl rfl rfl ?_
  refine go_icmpP (t' := 63) (pc' := 20) rfl rfl rfl (fun _ => ?_) (fun (c : ¬ (¬ x = 1)) => absurd x1 c)
  refine go_s (pc' := 64) rfl rfl rfl rfl ?_
  refine go_s (pc' := 65) (st' := [.int 2, .int x]) rfl rfl rfl rfl ?_
  refine go_icmpP (t' := 76) (pc' := 66) rfl rfl rfl (fun _ => ?_) (fun (c : ¬ (¬ x = 2)) => absurd x2 c)
  refine go_s (pc' := 77) (st' := [.int 0]) rfl rfl rfl rfl ?_
  refine go_ret rfl rfl ?_
  exact ⟨rfl, rfl⟩
theorem ra_rr_f0 {w : Nat → Bool} {d B R : Nat} {h : am_Hp} {I : sm_I} {Q : mQ} {Z : mZ} (hA : RA w B R [] true h (I, Q, Z)) (hR : R + 0 < 40000) {a : Int32} (hn : a < 0 ∨ nI 3 < a) (hd : 2 ≤ d) : am_Ev (am_prog w) d 162 [.ref 62, .int 0, .int a] h (fun r h' => r = some (.int 0) ∧ h' = h) := by
  obtain ⟨K, Y, am, ln, hS, hU⟩ := RA_u.mp hA
  change sm (tbr am (13 * ln) 77 5088) h (jn I K) Y at hS
  obtain ⟨hW, hWm, -, -, hr, -⟩ := id hU.1
  have hln := RU_ln hU (by omega)
  obtain ⟨d, rfl⟩ : ∃ e, d = e + 1 := ⟨d - 1, by omega⟩
  refine ev_go rfl (Nat.le_of_ble_eq_true rfl) rfl ?_
  refine go_s (pc' := 1) rfl rfl rfl rfl ?_
  refine go_ifP (t' := 68) (pc' := 2) rfl rfl rfl (fun (c : ¬ (0 : Int32) = 0) => absurd c (by decide)) (fun _ => ?_)
  refine go_s (pc' := 3) rfl rfl rfl rfl ?_
  refine go_s (pc' := 4) (st' := [.int 0, .int a]) rfl rfl rfl rfl ?_
  refine go_s (pc' := 5) (st' := [.int 3, .int 0, .int a]) rfl rfl rfl rfl ?_
  refine go_callS (pc' := 6) rfl rfl rfl (Nat.le_of_ble_eq_true rfl) rfl rfl rfl (rt_within_f (a := a) (n := 3) hn (by omega)) (fun r h1 q2 => ?_)
  obtain ⟨rfl, rfl⟩ := q2
  refine go_ifP (t' := 68) (pc' := 7) rfl rfl rfl (fun _ => ?_) (fun (c : ¬ ((0 : Int32) = 0)) => absurd (by decide) c)
  refine go_s (pc' := 69) rfl rfl rfl rfl ?_
  refine go_s (pc' := 70) (st' := [.int 1, .int 0]) rfl rfl rfl rfl ?_
  refine go_icmpP (t' := 88) (pc' := 71) rfl rfl rfl (fun _ => ?_) (fun (c : ¬ (¬ (0 : Int32) = 1)) => absurd (by decide) c)
  refine go_s (pc' := 89) rfl rfl rfl rfl ?_
  refine go_s (pc' := 90) (st' := [.int 2, .int 0]) rfl rfl rfl rfl ?_
  refine go_icmpP (t' := 101) (pc' := 91) rfl rfl rfl (fun _ => ?_) (fun (c : ¬ (¬ (0 : Int32) = 2)) => absurd (by decide) c)
  refine go_s (pc' := 102) (st' := [.int 0]) rfl rfl rfl rfl ?_
  refine go_ret rfl rfl ?_
  exact ⟨rfl, rfl⟩
theorem ra_rr_f1 {w : Nat → Bool} {d B R : Nat} {h : am_Hp} {I : sm_I} {Q : mQ} {Z : mZ} (hA : RA w B R [] true h (I, Q, Z)) (hR : R + 0 < 40000) {a : Int32} (hn : a < 0 ∨ nI 1 < a) (hd : 2 ≤ d) : am_Ev (am_prog w) d 162 [.ref 62, .int 1, .int a] h (fun r h' => r = some (.int 0) ∧ h' = h) := by
  obtain ⟨K, Y, am, ln, hS, hU⟩ := RA_u.mp hA
  change sm (tbr am (13 * ln) 77 5088) h (jn I K) Y at hS
  obtain ⟨hW, hWm, -, -, hr, -⟩ := id hU.1
  have hln := RU_ln hU (by omega)
  obtain ⟨d, rfl⟩ : ∃ e, d = e + 1 := ⟨d - 1, by omega⟩
  refine ev_go rfl (Nat.le_of_ble_eq_true rfl) rfl ?_
  refine go_s (pc' := 1) rfl rfl rfl rfl ?_
  refine go_ifP (t' := 68) (pc' := 2) rfl rfl rfl (fun _ => ?_) (fun (c : ¬ (¬ (1 : Int32) = 0)) => absurd (by decide) c)
  refine go_s (pc' := 69) rfl rfl rfl rfl ?_
  refine go_s (pc' := 70) (st' := [.int 1, .int 1]) rfl rfl rfl rfl ?_
  refine go_icmpP (t' := 88) (pc' := 71) rfl rfl rfl (fun (c : ¬ (1 : Int32) = 1) => absurd c (by decide)) (fun _ => ?_)
  refine go_s (pc' := 72) rfl rfl rfl rfl ?_
  refine go_s (pc' := 73) (st' := [.int 0, .int a]) rfl rfl rfl rfl ?_
  refine go_s (pc' := 74) (st' := [.int 1, .int 0, .int a]) rfl rfl rfl rfl ?_
  refine go_callS (pc' := 75) rfl rfl rfl (Nat.le_of_ble_eq_true rfl) rfl rfl rfl (rt_within_f (a := a) (n := 1) hn (by omega)) (fun r h1 q2 => ?_)
  obtain ⟨rfl, rfl⟩ := q2
  refine go_ifP (t' := 88) (pc' := 76) rfl rfl rfl (fun _ => ?_) (fun (c : ¬ ((0 : Int32) = 0)) => absurd (by decide) c)
  refine go_s (pc' := 89) rfl rfl rfl rfl ?_
  refine go_s (pc' := 90) (st' := [.int 2, .int 1]) rfl rfl rfl rfl ?_
  refine go_icmpP (t' := 101) (pc' := 91) rfl rfl rfl (fun _ => ?_) (fun (c : ¬ (¬ (1 : Int32) = 2)) => absurd (by decide) c)
  refine go_s (pc' := 102) (st' := [.int 0]) rfl rfl rfl rfl ?_
  refine go_ret rfl rfl ?_
  exact ⟨rfl, rfl⟩
theorem ra_rr_f2 {w : Nat → Bool} {d B R : Nat} {h : am_Hp} {I : sm_I} {Q : mQ} {Z : mZ} (hA : RA w B R [] true h (I, Q, Z)) (hR : R + 0 < 40000) {a : Int32} (hn : a < 0 ∨ nI 1 < a) (hd : 2 ≤ d) : am_Ev (am_prog w) d 162 [.ref 62, .int 2, .int a] h (fun r h' => r = some (.int 0) ∧ h' = h) := by
  obtain ⟨K, Y, am, ln, hS, hU⟩ := RA_u.mp hA
  change sm (tbr am (13 * ln) 77 5088) h (jn I K) Y at hS
  obtain ⟨hW, hWm, -, -, hr, -⟩ := id hU.1
  have hln := RU_ln hU (by omega)
  obtain ⟨d, rfl⟩ : ∃ e, d = e + 1 := ⟨d - 1, by omega⟩
  refine ev_go rfl (Nat.le_of_ble_eq_true rfl) rfl ?_
  refine go_s (pc' := 1) rfl rfl rfl rfl ?_
  refine go_ifP (t' := 68) (pc' := 2) rfl rfl rfl (fun _ => ?_) (fun (c : ¬ (¬ (2 : Int32) = 0)) => absurd (by decide) c)
  refine go_s (pc' := 69) rfl rfl rfl rfl ?_
  refine go_s (pc' := 70) (st' := [.int 1, .int 2]) rfl rfl rfl rfl ?_
  refine go_icmpP (t' := 88) (pc' := 71) rfl rfl rfl (fun _ => ?_) (fun (c : ¬ (¬ (2 : Int32) = 1)) => absurd (by decide) c)
  refine go_s (pc' := 89) rfl rfl rfl rfl ?_
  refine go_s (pc' := 90) (st' := [.int 2, .int 2]) rfl rfl rfl rfl ?_
  refine go_icmpP (t' := 101) (pc' := 91) rfl rfl rfl (fun (c : ¬ (2 : Int32) = 2) => absurd c (by decide)) (fun _ => ?_)
  refine go_s (pc' := 92) rfl rfl rfl rfl ?_
  refine go_s (pc' := 93) (st' := [.int 0, .int a]) rfl rfl rfl rfl ?_
  refine go_s (pc' := 94) (st' := [.int 1, .int 0, .int a]) rfl rfl rfl rfl ?_
  refine go_callS (pc' := 95) rfl rfl rfl (Nat.le_of_ble_eq_true rfl) rfl rfl rfl (rt_within_f (a := a) (n := 1) hn (by omega)) (fun r h1 q2 => ?_)
  obtain ⟨rfl, rfl⟩ := q2
  refine go_ifP (t' := 101) (pc' := 96) rfl rfl rfl (fun _ => ?_) (fun (c : ¬ ((0 : Int32) = 0)) => absurd (by decide) c)
  refine go_s (pc' := 102) (st' := [.int 0]) rfl rfl rfl rfl ?_
  refine go_ret rfl rfl ?_
  exact ⟨rfl, rfl⟩
theorem ra_rr_fn {w : Nat → Bool} {d B R : Nat} {h : am_Hp} {I : sm_I} {Q : mQ} {Z : mZ} (hA : RA w B R [] true h (I, Q, Z)) (hR : R + 0 < 40000) {x a : Int32} (x0 : ¬ x = 0) (x1 : ¬ x = 1) (x2 : ¬ x = 2) (hd : 2 ≤ d) : am_Ev (am_prog w) d 162 [.ref 62, .int x, .int a] h (fun r h' => r = some (.int 0) ∧ h' = h) := by
  obtain ⟨K, Y, am, ln, hS, hU⟩ := RA_u.mp hA
  change sm (tbr am (13 * ln) 77 5088) h (jn I K) Y at hS
  obtain ⟨hW, hWm, -, -, hr, -⟩ := id hU.1
  have hln := RU_ln hU (by omega)
  obtain ⟨d, rfl⟩ : ∃ e, d = e + 1 := ⟨d - 1, by omega⟩
  refine ev_go rfl (Nat.le_of_ble_eq_true rfl) rfl ?_
  refine go_s (pc' := 1) rfl rfl rfl rfl ?_
  refine go_ifP (t' := 68) (pc' := 2) rfl rfl rfl (fun _ => ?_) (fun (c : ¬ (¬ x = 0)) => absurd x0 c)
  refine go_s (pc' := 69) rfl rfl rfl rfl ?_
  refine go_s (pc' := 70) (st' := [.int 1, .int x]) rfl rfl rfl rfl ?_
  refine go_icmpP (t' := 88) (pc' := 71) rfl rfl rfl (fun _ => ?_) (fun (c : ¬ (¬ x = 1)) => absurd x1 c)
  refine go_s (pc' := 89) rfl rfl rfl rfl ?_
  refine go_s (pc' := 90) (st' := [.int 2, .int x]) rfl rfl rfl rfl ?_
  refine go_icmpP (t' := 101) (pc' := 91) rfl rfl rfl (fun _ => ?_) (fun (c : ¬ (¬ x = 2)) => absurd x2 c)
  refine go_s (pc' := 102) (st' := [.int 0]) rfl rfl rfl rfl ?_
  refine go_ret rfl rfl ?_
  exact ⟨rfl, rfl⟩
theorem stR_0_0 {w : Nat → Bool} {d B R : Nat} {h : am_Hp} {I : sm_I} {Q : mQ} {Z : mZ} {P : Option Value → am_Hp → Prop} (hA : RA w B R [] true h (I, Q, Z)) (hR : R + 1 < 40000) {X : Nat} (hM : MID X (I, Q, Z)) (hX : X + 60 < 2 ^ 28) (hd : 5 ≤ d) (C : ∀ h', RA w B (R + 1) [] true h' (rrq 0 0 (I, Q, Z)) → am_Go (am_prog w) d am_c162 (some .boolean) 32 [some (.ref 62), some (.int 0), some (.int 0), some (.int 1)] [] h' P) : am_Go (am_prog w) d am_c162 (some .boolean) 32 [some (.ref 62), some (.int 0), some (.int 0), some (.int 0)] [] h P := by
  obtain ⟨K, Y, am, ln, hS, hU⟩ := RA_u.mp hA
  change sm (tbr am (13 * ln) 77 5088) h (jn I K) Y at hS
  obtain ⟨hW, hWm, -, -, hr, -⟩ := id hU.1
  have hln := RU_ln hU (by omega)
  have hp0 : prk I 0 := (hM.2.2.1 0 (by decide)).1
  have hp1 : prk I 1 := (hM.2.2.1 1 (by decide)).1
  have hp2 : prk I 2 := (hM.2.2.1 2 (by decide)).1
  rcases hp0 with e1 | e1 | e1
  · skip
    refine go_s (pc' := 33) rfl rfl rfl rfl ?_
    refine go_s (pc' := 34) (st' := [.int 3, .int 0]) rfl rfl rfl rfl ?_
    refine go_icmpP (t' := 66) (pc' := 35) rfl rfl rfl (fun (c : 3 ≤ (0 : Int32)) => absurd c (by decide)) (fun _ => ?_)
    refine go_s (pc' := 36) rfl rfl rfl rfl ?_
    refine go_s (pc' := 37) rfl rfl rfl rfl ?_
    refine go_callS (pc' := 38) rfl rfl rfl (Nat.le_of_ble_eq_true rfl) rfl rfl rfl (rt_ih_0_0 (by omega)) (fun r h2 q3 => ?_)
    obtain ⟨rfl, rfl⟩ := q3
    refine go_ifP (t' := 64) (pc' := 39) rfl rfl rfl (fun (c : (1 : Int32) = 0) => absurd c (by decide)) (fun _ => ?_)
    refine go_s (pc' := 40) rfl rfl rfl rfl ?_
    refine go_sget (pc' := 41) (v := .ref 78) hS rfl rfl rfl (by decide) rfl rfl ?_
    refine go_s (pc' := 42) rfl rfl rfl rfl ?_
    refine go_sald (pc' := 43) (q := 0) (v := .int (-1)) hS rfl (tr_s hr (a := 78) rfl (by decide)) rfl rfl (by decide) (congrArg Value.int e1) rfl ?_
    refine go_s (pc' := 44) rfl rfl rfl rfl ?_
    refine go_callS (pc' := 45) rfl rfl rfl (Nat.le_of_ble_eq_true rfl) rfl rfl rfl (rt_oh_0 (by omega)) (fun r h4 q5 => ?_)
    obtain ⟨rfl, rfl⟩ := q5
    refine go_icmpP (t' := 64) (pc' := 46) rfl rfl rfl (fun _ => ?_) (fun (c : ¬ (¬ ((-1) : Int32) = 1)) => absurd (by decide) c)
    refine go_s (pc' := 65) (lo' := [some (.ref 62), some (.int 0), some (.int 0), some (.int 1)]) rfl rfl rfl rfl ?_
    refine go_s (pc' := 32) rfl rfl rfl rfl ?_
    have hms : rrq 0 0 (I, Q, Z) = (I, Q, Z) := if_neg (fun z => absurd (e1.symm.trans z.2.1) (by decide))
    rw [hms] at C
    exact C _ (RA_R (by omega) hA)
  · skip
    refine go_s (pc' := 33) rfl rfl rfl rfl ?_
    refine go_s (pc' := 34) (st' := [.int 3, .int 0]) rfl rfl rfl rfl ?_
    refine go_icmpP (t' := 66) (pc' := 35) rfl rfl rfl (fun (c : 3 ≤ (0 : Int32)) => absurd c (by decide)) (fun _ => ?_)
    refine go_s (pc' := 36) rfl rfl rfl rfl ?_
    refine go_s (pc' := 37) rfl rfl rfl rfl ?_
    refine go_callS (pc' := 38) rfl rfl rfl (Nat.le_of_ble_eq_true rfl) rfl rfl rfl (rt_ih_0_0 (by omega)) (fun r h6 q7 => ?_)
    obtain ⟨rfl, rfl⟩ := q7
    refine go_ifP (t' := 64) (pc' := 39) rfl rfl rfl (fun (c : (1 : Int32) = 0) => absurd c (by decide)) (fun _ => ?_)
    refine go_s (pc' := 40) rfl rfl rfl rfl ?_
    refine go_sget (pc' := 41) (v := .ref 78) hS rfl rfl rfl (by decide) rfl rfl ?_
    refine go_s (pc' := 42) rfl rfl rfl rfl ?_
    refine go_sald (pc' := 43) (q := 0) (v := .int 0) hS rfl (tr_s hr (a := 78) rfl (by decide)) rfl rfl (by decide) (congrArg Value.int e1) rfl ?_
    refine go_s (pc' := 44) rfl rfl rfl rfl ?_
    refine go_callS (pc' := 45) rfl rfl rfl (Nat.le_of_ble_eq_true rfl) rfl rfl rfl (rt_oh_0 (by omega)) (fun r h8 q9 => ?_)
    obtain ⟨rfl, rfl⟩ := q9
    refine go_icmpP (t' := 64) (pc' := 46) rfl rfl rfl (fun _ => ?_) (fun (c : ¬ (¬ (0 : Int32) = 1)) => absurd (by decide) c)
    refine go_s (pc' := 65) (lo' := [some (.ref 62), some (.int 0), some (.int 0), some (.int 1)]) rfl rfl rfl rfl ?_
    refine go_s (pc' := 32) rfl rfl rfl rfl ?_
    have hms : rrq 0 0 (I, Q, Z) = (I, Q, Z) := if_neg (fun z => absurd (e1.symm.trans z.2.1) (by decide))
    rw [hms] at C
    exact C _ (RA_R (by omega) hA)
  · skip
    refine go_s (pc' := 33) rfl rfl rfl rfl ?_
    refine go_s (pc' := 34) (st' := [.int 3, .int 0]) rfl rfl rfl rfl ?_
    refine go_icmpP (t' := 66) (pc' := 35) rfl rfl rfl (fun (c : 3 ≤ (0 : Int32)) => absurd c (by decide)) (fun _ => ?_)
    refine go_s (pc' := 36) rfl rfl rfl rfl ?_
    refine go_s (pc' := 37) rfl rfl rfl rfl ?_
    refine go_callS (pc' := 38) rfl rfl rfl (Nat.le_of_ble_eq_true rfl) rfl rfl rfl (rt_ih_0_0 (by omega)) (fun r h10 q11 => ?_)
    obtain ⟨rfl, rfl⟩ := q11
    refine go_ifP (t' := 64) (pc' := 39) rfl rfl rfl (fun (c : (1 : Int32) = 0) => absurd c (by decide)) (fun _ => ?_)
    refine go_s (pc' := 40) rfl rfl rfl rfl ?_
    refine go_sget (pc' := 41) (v := .ref 78) hS rfl rfl rfl (by decide) rfl rfl ?_
    refine go_s (pc' := 42) rfl rfl rfl rfl ?_
    refine go_sald (pc' := 43) (q := 0) (v := .int 1) hS rfl (tr_s hr (a := 78) rfl (by decide)) rfl rfl (by decide) (congrArg Value.int e1) rfl ?_
    refine go_s (pc' := 44) rfl rfl rfl rfl ?_
    refine go_callS (pc' := 45) rfl rfl rfl (Nat.le_of_ble_eq_true rfl) rfl rfl rfl (rt_oh_0 (by omega)) (fun r h12 q13 => ?_)
    obtain ⟨rfl, rfl⟩ := q13
    refine go_icmpP (t' := 64) (pc' := 46) rfl rfl rfl (fun (c : ¬ (1 : Int32) = 1) => absurd c (by decide)) (fun _ => ?_)
    refine go_s (pc' := 47) rfl rfl rfl rfl ?_
    refine go_s (pc' := 48) rfl rfl rfl rfl ?_
    refine go_callV (pc' := 49) rfl rfl rfl (Nat.le_of_ble_eq_true rfl) rfl (sm_o hS rfl) rfl rfl rfl (rt_lives_0 hr hS (Or.inr (Or.inr e1)) (by omega)) (fun r h14 q15 => ?_)
    obtain ⟨rfl, rfl⟩ := q15
    rw [show lv (jn I K) 0 = lv I 0 from rfl]
    cases u16 : lv I 0
    · skip
      show am_Go _ _ _ _ 49 _ [.int 0] _ _
      refine go_ifP (t' := 64) (pc' := 50) rfl rfl rfl (fun _ => ?_) (fun (c : ¬ ((0 : Int32) = 0)) => absurd (by decide) c)
      refine go_s (pc' := 65) (lo' := [some (.ref 62), some (.int 0), some (.int 0), some (.int 1)]) rfl rfl rfl rfl ?_
      refine go_s (pc' := 32) rfl rfl rfl rfl ?_
      have hms : rrq 0 0 (I, Q, Z) = (I, Q, Z) := if_neg (fun z => by rw [show lv ((I, Q, Z) : mM).1 0 = false from u16] at z; exact absurd z.2.2.1 (by decide))
      rw [hms] at C
      exact C _ (RA_R (by omega) hA)
    · skip
      show am_Go _ _ _ _ 49 _ [.int 1] _ _
      refine go_ifP (t' := 64) (pc' := 50) rfl rfl rfl (fun (c : (1 : Int32) = 0) => absurd c (by decide)) (fun _ => ?_)
      refine go_s (pc' := 51) rfl rfl rfl rfl ?_
      refine go_sget (pc' := 52) (v := .ref 79) hS rfl rfl rfl (by decide) rfl rfl ?_
      refine go_s (pc' := 53) rfl rfl rfl rfl ?_
      refine go_sald (pc' := 54) (q := 0) (v := .int (I 12 0)) hS rfl (tr_s hr (a := 79) rfl (by decide)) rfl rfl (by decide) rfl rfl ?_
      refine go_s (pc' := 55) (st' := [.int (-1), .int (I 12 0)]) rfl rfl rfl rfl ?_
      refine go_icmpP (t' := 64) (pc' := 56) rfl rfl rfl (fun (c17 : ¬ (I 12 0) = (-1)) => ?_) (fun (c17' : ¬ ¬ (I 12 0) = (-1)) => ?_)
      · skip
        refine go_s (pc' := 65) (lo' := [some (.ref 62), some (.int 0), some (.int 0), some (.int 1)]) rfl rfl rfl rfl ?_
        refine go_s (pc' := 32) rfl rfl rfl rfl ?_
        have hms : rrq 0 0 (I, Q, Z) = (I, Q, Z) := if_neg (fun z => c17 z.2.2.2.1)
        rw [hms] at C
        exact C _ (RA_R (by omega) hA)
      · skip
        have c17 : (I 12 0) = (-1) := Decidable.not_not.mp c17'
        refine go_s (pc' := 57) rfl rfl rfl rfl ?_
        refine go_sget (pc' := 58) (v := .ref 80) hS rfl rfl rfl (by decide) rfl rfl ?_
        refine go_s (pc' := 59) rfl rfl rfl rfl ?_
        refine go_sald (pc' := 60) (q := 0) (v := .int (I 13 0)) hS rfl (tr_s hr (a := 80) rfl (by decide)) rfl rfl (by decide) rfl rfl ?_
        refine go_ifP (t' := 64) (pc' := 61) rfl rfl rfl (fun (c18 : ¬ (I 13 0) = 0) => ?_) (fun (c18' : ¬ ¬ (I 13 0) = 0) => ?_)
        · skip
          refine go_s (pc' := 65) (lo' := [some (.ref 62), some (.int 0), some (.int 0), some (.int 1)]) rfl rfl rfl rfl ?_
          refine go_s (pc' := 32) rfl rfl rfl rfl ?_
          have hms : rrq 0 0 (I, Q, Z) = (I, Q, Z) := if_neg (fun z => c18 z.2.2.2.2)
          rw [hms] at C
          exact C _ (RA_R (by omega) hA)
        · skip
          have c18 : (I 13 0) = 0 := Decidable.not_not.mp c18'
          refine go_s (pc' := 62) rfl rfl rfl rfl ?_
          refine go_s (pc' := 63) rfl rfl rfl rfl ?_
          have h5a : sq Q ≤ 5 := sq_5 (X := X) (k := 0) (M := (I, Q, Z)) (by omega) hM (by decide) (US_no (by decide) hM (fun z => ((hM.2.2.1 0 (by decide)).2.2.2.2.2.1 z).1 c17) c18)
          have h5 : sq Q + hc [] true ≤ 5 := by
            have z : hc [] true = 0 := rfl
            omega
          have hU19 : RU w B R [] true h14 am ln K (I, Q, Z) := RU_I (sm_e_refl (tbr am (13 * ln) 77 5088) _) (I' := I) (fun _ => rfl) (fun _ => rfl) (Nat.le_refl _) hU
          have hA20 : RA w B R [] true h14 (I, Q, Z) := RA_u.mpr ⟨_, _, _, _, hS, hU19⟩
          refine go_callV (pc' := 64) rfl rfl rfl (Nat.le_of_ble_eq_true rfl) rfl (sm_o hS rfl) rfl rfl rfl (ra_sc_0 hA20 (by omega) (Or.inr (Or.inr e1)) (fun z => absurd (e1.symm.trans z) (by decide)) h5 (by omega)) (fun r h21 q22 => ?_)
          obtain ⟨rfl, hA23⟩ := q22
          refine go_s (pc' := 65) (lo' := [some (.ref 62), some (.int 0), some (.int 0), some (.int 1)]) rfl rfl rfl rfl ?_
          refine go_s (pc' := 32) rfl rfl rfl rfl ?_
          have hms : rrq 0 0 (I, Q, Z) = rsc 0 (I, Q, Z) := if_pos ⟨by decide, e1, u16, c17, c18⟩
          rw [hms] at C
          exact C _ hA23
theorem stR_1_0 {w : Nat → Bool} {d B R : Nat} {h : am_Hp} {I : sm_I} {Q : mQ} {Z : mZ} {P : Option Value → am_Hp → Prop} (hA : RA w B R [] true h (I, Q, Z)) (hR : R + 1 < 40000) {X : Nat} (hM : MID X (I, Q, Z)) (hX : X + 60 < 2 ^ 28) (hd : 5 ≤ d) (C : ∀ h', RA w B (R + 1) [] true h' (rrq 1 0 (I, Q, Z)) → am_Go (am_prog w) d am_c162 (some .boolean) 32 [some (.ref 62), some (.int 0), some (.int 0), some (.int 2)] [] h' P) : am_Go (am_prog w) d am_c162 (some .boolean) 32 [some (.ref 62), some (.int 0), some (.int 0), some (.int 1)] [] h P := by
  obtain ⟨K, Y, am, ln, hS, hU⟩ := RA_u.mp hA
  change sm (tbr am (13 * ln) 77 5088) h (jn I K) Y at hS
  obtain ⟨hW, hWm, -, -, hr, -⟩ := id hU.1
  have hln := RU_ln hU (by omega)
  have hp0 : prk I 0 := (hM.2.2.1 0 (by decide)).1
  have hp1 : prk I 1 := (hM.2.2.1 1 (by decide)).1
  have hp2 : prk I 2 := (hM.2.2.1 2 (by decide)).1
  refine go_s (pc' := 33) rfl rfl rfl rfl ?_
  refine go_s (pc' := 34) (st' := [.int 3, .int 1]) rfl rfl rfl rfl ?_
  refine go_icmpP (t' := 66) (pc' := 35) rfl rfl rfl (fun (c : 3 ≤ (1 : Int32)) => absurd c (by decide)) (fun _ => ?_)
  refine go_s (pc' := 36) rfl rfl rfl rfl ?_
  refine go_s (pc' := 37) rfl rfl rfl rfl ?_
  refine go_callS (pc' := 38) rfl rfl rfl (Nat.le_of_ble_eq_true rfl) rfl rfl rfl (rt_ih_1_0 (by omega)) (fun r h1 q2 => ?_)
  obtain ⟨rfl, rfl⟩ := q2
  refine go_ifP (t' := 64) (pc' := 39) rfl rfl rfl (fun _ => ?_) (fun (c : ¬ ((0 : Int32) = 0)) => absurd (by decide) c)
  refine go_s (pc' := 65) (lo' := [some (.ref 62), some (.int 0), some (.int 0), some (.int 2)]) rfl rfl rfl rfl ?_
  refine go_s (pc' := 32) rfl rfl rfl rfl ?_
  have hms : rrq 1 0 (I, Q, Z) = (I, Q, Z) := if_neg (fun z => absurd z.1 (by decide))
  rw [hms] at C
  exact C _ (RA_R (by omega) hA)
theorem stR_2_0 {w : Nat → Bool} {d B R : Nat} {h : am_Hp} {I : sm_I} {Q : mQ} {Z : mZ} {P : Option Value → am_Hp → Prop} (hA : RA w B R [] true h (I, Q, Z)) (hR : R + 1 < 40000) {X : Nat} (hM : MID X (I, Q, Z)) (hX : X + 60 < 2 ^ 28) (hd : 5 ≤ d) (C : ∀ h', RA w B (R + 1) [] true h' (rrq 2 0 (I, Q, Z)) → am_Go (am_prog w) d am_c162 (some .boolean) 32 [some (.ref 62), some (.int 0), some (.int 0), some (.int 3)] [] h' P) : am_Go (am_prog w) d am_c162 (some .boolean) 32 [some (.ref 62), some (.int 0), some (.int 0), some (.int 2)] [] h P := by
  obtain ⟨K, Y, am, ln, hS, hU⟩ := RA_u.mp hA
  change sm (tbr am (13 * ln) 77 5088) h (jn I K) Y at hS
  obtain ⟨hW, hWm, -, -, hr, -⟩ := id hU.1
  have hln := RU_ln hU (by omega)
  have hp0 : prk I 0 := (hM.2.2.1 0 (by decide)).1
  have hp1 : prk I 1 := (hM.2.2.1 1 (by decide)).1
  have hp2 : prk I 2 := (hM.2.2.1 2 (by decide)).1
  refine go_s (pc' := 33) rfl rfl rfl rfl ?_
  refine go_s (pc' := 34) (st' := [.int 3, .int 2]) rfl rfl rfl rfl ?_
  refine go_icmpP (t' := 66) (pc' := 35) rfl rfl rfl (fun (c : 3 ≤ (2 : Int32)) => absurd c (by decide)) (fun _ => ?_)
  refine go_s (pc' := 36) rfl rfl rfl rfl ?_
  refine go_s (pc' := 37) rfl rfl rfl rfl ?_
  refine go_callS (pc' := 38) rfl rfl rfl (Nat.le_of_ble_eq_true rfl) rfl rfl rfl (rt_ih_2_0 (by omega)) (fun r h1 q2 => ?_)
  obtain ⟨rfl, rfl⟩ := q2
  refine go_ifP (t' := 64) (pc' := 39) rfl rfl rfl (fun _ => ?_) (fun (c : ¬ ((0 : Int32) = 0)) => absurd (by decide) c)
  refine go_s (pc' := 65) (lo' := [some (.ref 62), some (.int 0), some (.int 0), some (.int 3)]) rfl rfl rfl rfl ?_
  refine go_s (pc' := 32) rfl rfl rfl rfl ?_
  have hms : rrq 2 0 (I, Q, Z) = (I, Q, Z) := if_neg (fun z => absurd z.1 (by decide))
  rw [hms] at C
  exact C _ (RA_R (by omega) hA)
theorem stR_0_1 {w : Nat → Bool} {d B R : Nat} {h : am_Hp} {I : sm_I} {Q : mQ} {Z : mZ} {P : Option Value → am_Hp → Prop} (hA : RA w B R [] true h (I, Q, Z)) (hR : R + 1 < 40000) {X : Nat} (hM : MID X (I, Q, Z)) (hX : X + 60 < 2 ^ 28) (hd : 5 ≤ d) (C : ∀ h', RA w B (R + 1) [] true h' (rrq 0 1 (I, Q, Z)) → am_Go (am_prog w) d am_c162 (some .boolean) 32 [some (.ref 62), some (.int 0), some (.int 1), some (.int 1)] [] h' P) : am_Go (am_prog w) d am_c162 (some .boolean) 32 [some (.ref 62), some (.int 0), some (.int 1), some (.int 0)] [] h P := by
  obtain ⟨K, Y, am, ln, hS, hU⟩ := RA_u.mp hA
  change sm (tbr am (13 * ln) 77 5088) h (jn I K) Y at hS
  obtain ⟨hW, hWm, -, -, hr, -⟩ := id hU.1
  have hln := RU_ln hU (by omega)
  have hp0 : prk I 0 := (hM.2.2.1 0 (by decide)).1
  have hp1 : prk I 1 := (hM.2.2.1 1 (by decide)).1
  have hp2 : prk I 2 := (hM.2.2.1 2 (by decide)).1
  rcases hp0 with e1 | e1 | e1
  · skip
    refine go_s (pc' := 33) rfl rfl rfl rfl ?_
    refine go_s (pc' := 34) (st' := [.int 3, .int 0]) rfl rfl rfl rfl ?_
    refine go_icmpP (t' := 66) (pc' := 35) rfl rfl rfl (fun (c : 3 ≤ (0 : Int32)) => absurd c (by decide)) (fun _ => ?_)
    refine go_s (pc' := 36) rfl rfl rfl rfl ?_
    refine go_s (pc' := 37) rfl rfl rfl rfl ?_
    refine go_callS (pc' := 38) rfl rfl rfl (Nat.le_of_ble_eq_true rfl) rfl rfl rfl (rt_ih_0_1 (by omega)) (fun r h2 q3 => ?_)
    obtain ⟨rfl, rfl⟩ := q3
    refine go_ifP (t' := 64) (pc' := 39) rfl rfl rfl (fun (c : (1 : Int32) = 0) => absurd c (by decide)) (fun _ => ?_)
    refine go_s (pc' := 40) rfl rfl rfl rfl ?_
    refine go_sget (pc' := 41) (v := .ref 78) hS rfl rfl rfl (by decide) rfl rfl ?_
    refine go_s (pc' := 42) rfl rfl rfl rfl ?_
    refine go_sald (pc' := 43) (q := 0) (v := .int (-1)) hS rfl (tr_s hr (a := 78) rfl (by decide)) rfl rfl (by decide) (congrArg Value.int e1) rfl ?_
    refine go_s (pc' := 44) rfl rfl rfl rfl ?_
    refine go_callS (pc' := 45) rfl rfl rfl (Nat.le_of_ble_eq_true rfl) rfl rfl rfl (rt_oh_1 (by omega)) (fun r h4 q5 => ?_)
    obtain ⟨rfl, rfl⟩ := q5
    refine go_icmpP (t' := 64) (pc' := 46) rfl rfl rfl (fun _ => ?_) (fun (c : ¬ (¬ ((-1) : Int32) = 0)) => absurd (by decide) c)
    refine go_s (pc' := 65) (lo' := [some (.ref 62), some (.int 0), some (.int 1), some (.int 1)]) rfl rfl rfl rfl ?_
    refine go_s (pc' := 32) rfl rfl rfl rfl ?_
    have hms : rrq 0 1 (I, Q, Z) = (I, Q, Z) := if_neg (fun z => absurd (e1.symm.trans z.2.1) (by decide))
    rw [hms] at C
    exact C _ (RA_R (by omega) hA)
  · skip
    refine go_s (pc' := 33) rfl rfl rfl rfl ?_
    refine go_s (pc' := 34) (st' := [.int 3, .int 0]) rfl rfl rfl rfl ?_
    refine go_icmpP (t' := 66) (pc' := 35) rfl rfl rfl (fun (c : 3 ≤ (0 : Int32)) => absurd c (by decide)) (fun _ => ?_)
    refine go_s (pc' := 36) rfl rfl rfl rfl ?_
    refine go_s (pc' := 37) rfl rfl rfl rfl ?_
    refine go_callS (pc' := 38) rfl rfl rfl (Nat.le_of_ble_eq_true rfl) rfl rfl rfl (rt_ih_0_1 (by omega)) (fun r h6 q7 => ?_)
    obtain ⟨rfl, rfl⟩ := q7
    refine go_ifP (t' := 64) (pc' := 39) rfl rfl rfl (fun (c : (1 : Int32) = 0) => absurd c (by decide)) (fun _ => ?_)
    refine go_s (pc' := 40) rfl rfl rfl rfl ?_
    refine go_sget (pc' := 41) (v := .ref 78) hS rfl rfl rfl (by decide) rfl rfl ?_
    refine go_s (pc' := 42) rfl rfl rfl rfl ?_
    refine go_sald (pc' := 43) (q := 0) (v := .int 0) hS rfl (tr_s hr (a := 78) rfl (by decide)) rfl rfl (by decide) (congrArg Value.int e1) rfl ?_
    refine go_s (pc' := 44) rfl rfl rfl rfl ?_
    refine go_callS (pc' := 45) rfl rfl rfl (Nat.le_of_ble_eq_true rfl) rfl rfl rfl (rt_oh_1 (by omega)) (fun r h8 q9 => ?_)
    obtain ⟨rfl, rfl⟩ := q9
    refine go_icmpP (t' := 64) (pc' := 46) rfl rfl rfl (fun (c : ¬ (0 : Int32) = 0) => absurd c (by decide)) (fun _ => ?_)
    refine go_s (pc' := 47) rfl rfl rfl rfl ?_
    refine go_s (pc' := 48) rfl rfl rfl rfl ?_
    refine go_callV (pc' := 49) rfl rfl rfl (Nat.le_of_ble_eq_true rfl) rfl (sm_o hS rfl) rfl rfl rfl (rt_lives_0 hr hS (Or.inr (Or.inl e1)) (by omega)) (fun r h10 q11 => ?_)
    obtain ⟨rfl, rfl⟩ := q11
    rw [show lv (jn I K) 0 = lv I 0 from rfl]
    cases u12 : lv I 0
    · skip
      show am_Go _ _ _ _ 49 _ [.int 0] _ _
      refine go_ifP (t' := 64) (pc' := 50) rfl rfl rfl (fun _ => ?_) (fun (c : ¬ ((0 : Int32) = 0)) => absurd (by decide) c)
      refine go_s (pc' := 65) (lo' := [some (.ref 62), some (.int 0), some (.int 1), some (.int 1)]) rfl rfl rfl rfl ?_
      refine go_s (pc' := 32) rfl rfl rfl rfl ?_
      have hms : rrq 0 1 (I, Q, Z) = (I, Q, Z) := if_neg (fun z => by rw [show lv ((I, Q, Z) : mM).1 0 = false from u12] at z; exact absurd z.2.2.1 (by decide))
      rw [hms] at C
      exact C _ (RA_R (by omega) hA)
    · skip
      show am_Go _ _ _ _ 49 _ [.int 1] _ _
      refine go_ifP (t' := 64) (pc' := 50) rfl rfl rfl (fun (c : (1 : Int32) = 0) => absurd c (by decide)) (fun _ => ?_)
      refine go_s (pc' := 51) rfl rfl rfl rfl ?_
      refine go_sget (pc' := 52) (v := .ref 79) hS rfl rfl rfl (by decide) rfl rfl ?_
      refine go_s (pc' := 53) rfl rfl rfl rfl ?_
      refine go_sald (pc' := 54) (q := 0) (v := .int (I 12 0)) hS rfl (tr_s hr (a := 79) rfl (by decide)) rfl rfl (by decide) rfl rfl ?_
      refine go_s (pc' := 55) (st' := [.int (-1), .int (I 12 0)]) rfl rfl rfl rfl ?_
      refine go_icmpP (t' := 64) (pc' := 56) rfl rfl rfl (fun (c13 : ¬ (I 12 0) = (-1)) => ?_) (fun (c13' : ¬ ¬ (I 12 0) = (-1)) => ?_)
      · skip
        refine go_s (pc' := 65) (lo' := [some (.ref 62), some (.int 0), some (.int 1), some (.int 1)]) rfl rfl rfl rfl ?_
        refine go_s (pc' := 32) rfl rfl rfl rfl ?_
        have hms : rrq 0 1 (I, Q, Z) = (I, Q, Z) := if_neg (fun z => c13 z.2.2.2.1)
        rw [hms] at C
        exact C _ (RA_R (by omega) hA)
      · skip
        have c13 : (I 12 0) = (-1) := Decidable.not_not.mp c13'
        refine go_s (pc' := 57) rfl rfl rfl rfl ?_
        refine go_sget (pc' := 58) (v := .ref 80) hS rfl rfl rfl (by decide) rfl rfl ?_
        refine go_s (pc' := 59) rfl rfl rfl rfl ?_
        refine go_sald (pc' := 60) (q := 0) (v := .int (I 13 0)) hS rfl (tr_s hr (a := 80) rfl (by decide)) rfl rfl (by decide) rfl rfl ?_
        refine go_ifP (t' := 64) (pc' := 61) rfl rfl rfl (fun (c14 : ¬ (I 13 0) = 0) => ?_) (fun (c14' : ¬ ¬ (I 13 0) = 0) => ?_)
        · skip
          refine go_s (pc' := 65) (lo' := [some (.ref 62), some (.int 0), some (.int 1), some (.int 1)]) rfl rfl rfl rfl ?_
          refine go_s (pc' := 32) rfl rfl rfl rfl ?_
          have hms : rrq 0 1 (I, Q, Z) = (I, Q, Z) := if_neg (fun z => c14 z.2.2.2.2)
          rw [hms] at C
          exact C _ (RA_R (by omega) hA)
        · skip
          have c14 : (I 13 0) = 0 := Decidable.not_not.mp c14'
          refine go_s (pc' := 62) rfl rfl rfl rfl ?_
          refine go_s (pc' := 63) rfl rfl rfl rfl ?_
          have h5a : sq Q ≤ 5 := sq_5 (X := X) (k := 0) (M := (I, Q, Z)) (by omega) hM (by decide) (US_no (by decide) hM (fun z => ((hM.2.2.1 0 (by decide)).2.2.2.2.2.1 z).1 c13) c14)
          have h5 : sq Q + hc [] true ≤ 5 := by
            have z : hc [] true = 0 := rfl
            omega
          have hU15 : RU w B R [] true h10 am ln K (I, Q, Z) := RU_I (sm_e_refl (tbr am (13 * ln) 77 5088) _) (I' := I) (fun _ => rfl) (fun _ => rfl) (Nat.le_refl _) hU
          have hA16 : RA w B R [] true h10 (I, Q, Z) := RA_u.mpr ⟨_, _, _, _, hS, hU15⟩
          refine go_callV (pc' := 64) rfl rfl rfl (Nat.le_of_ble_eq_true rfl) rfl (sm_o hS rfl) rfl rfl rfl (ra_sc_0 hA16 (by omega) (Or.inr (Or.inl e1)) (fun z => absurd (e1.symm.trans z) (by decide)) h5 (by omega)) (fun r h17 q18 => ?_)
          obtain ⟨rfl, hA19⟩ := q18
          refine go_s (pc' := 65) (lo' := [some (.ref 62), some (.int 0), some (.int 1), some (.int 1)]) rfl rfl rfl rfl ?_
          refine go_s (pc' := 32) rfl rfl rfl rfl ?_
          have hms : rrq 0 1 (I, Q, Z) = rsc 0 (I, Q, Z) := if_pos ⟨by decide, e1, u12, c13, c14⟩
          rw [hms] at C
          exact C _ hA19
  · skip
    refine go_s (pc' := 33) rfl rfl rfl rfl ?_
    refine go_s (pc' := 34) (st' := [.int 3, .int 0]) rfl rfl rfl rfl ?_
    refine go_icmpP (t' := 66) (pc' := 35) rfl rfl rfl (fun (c : 3 ≤ (0 : Int32)) => absurd c (by decide)) (fun _ => ?_)
    refine go_s (pc' := 36) rfl rfl rfl rfl ?_
    refine go_s (pc' := 37) rfl rfl rfl rfl ?_
    refine go_callS (pc' := 38) rfl rfl rfl (Nat.le_of_ble_eq_true rfl) rfl rfl rfl (rt_ih_0_1 (by omega)) (fun r h20 q21 => ?_)
    obtain ⟨rfl, rfl⟩ := q21
    refine go_ifP (t' := 64) (pc' := 39) rfl rfl rfl (fun (c : (1 : Int32) = 0) => absurd c (by decide)) (fun _ => ?_)
    refine go_s (pc' := 40) rfl rfl rfl rfl ?_
    refine go_sget (pc' := 41) (v := .ref 78) hS rfl rfl rfl (by decide) rfl rfl ?_
    refine go_s (pc' := 42) rfl rfl rfl rfl ?_
    refine go_sald (pc' := 43) (q := 0) (v := .int 1) hS rfl (tr_s hr (a := 78) rfl (by decide)) rfl rfl (by decide) (congrArg Value.int e1) rfl ?_
    refine go_s (pc' := 44) rfl rfl rfl rfl ?_
    refine go_callS (pc' := 45) rfl rfl rfl (Nat.le_of_ble_eq_true rfl) rfl rfl rfl (rt_oh_1 (by omega)) (fun r h22 q23 => ?_)
    obtain ⟨rfl, rfl⟩ := q23
    refine go_icmpP (t' := 64) (pc' := 46) rfl rfl rfl (fun _ => ?_) (fun (c : ¬ (¬ (1 : Int32) = 0)) => absurd (by decide) c)
    refine go_s (pc' := 65) (lo' := [some (.ref 62), some (.int 0), some (.int 1), some (.int 1)]) rfl rfl rfl rfl ?_
    refine go_s (pc' := 32) rfl rfl rfl rfl ?_
    have hms : rrq 0 1 (I, Q, Z) = (I, Q, Z) := if_neg (fun z => absurd (e1.symm.trans z.2.1) (by decide))
    rw [hms] at C
    exact C _ (RA_R (by omega) hA)
theorem stR_1_1 {w : Nat → Bool} {d B R : Nat} {h : am_Hp} {I : sm_I} {Q : mQ} {Z : mZ} {P : Option Value → am_Hp → Prop} (hA : RA w B R [] true h (I, Q, Z)) (hR : R + 1 < 40000) {X : Nat} (hM : MID X (I, Q, Z)) (hX : X + 60 < 2 ^ 28) (hd : 5 ≤ d) (C : ∀ h', RA w B (R + 1) [] true h' (rrq 1 1 (I, Q, Z)) → am_Go (am_prog w) d am_c162 (some .boolean) 32 [some (.ref 62), some (.int 0), some (.int 1), some (.int 2)] [] h' P) : am_Go (am_prog w) d am_c162 (some .boolean) 32 [some (.ref 62), some (.int 0), some (.int 1), some (.int 1)] [] h P := by
  obtain ⟨K, Y, am, ln, hS, hU⟩ := RA_u.mp hA
  change sm (tbr am (13 * ln) 77 5088) h (jn I K) Y at hS
  obtain ⟨hW, hWm, -, -, hr, -⟩ := id hU.1
  have hln := RU_ln hU (by omega)
  have hp0 : prk I 0 := (hM.2.2.1 0 (by decide)).1
  have hp1 : prk I 1 := (hM.2.2.1 1 (by decide)).1
  have hp2 : prk I 2 := (hM.2.2.1 2 (by decide)).1
  refine go_s (pc' := 33) rfl rfl rfl rfl ?_
  refine go_s (pc' := 34) (st' := [.int 3, .int 1]) rfl rfl rfl rfl ?_
  refine go_icmpP (t' := 66) (pc' := 35) rfl rfl rfl (fun (c : 3 ≤ (1 : Int32)) => absurd c (by decide)) (fun _ => ?_)
  refine go_s (pc' := 36) rfl rfl rfl rfl ?_
  refine go_s (pc' := 37) rfl rfl rfl rfl ?_
  refine go_callS (pc' := 38) rfl rfl rfl (Nat.le_of_ble_eq_true rfl) rfl rfl rfl (rt_ih_1_1 (by omega)) (fun r h1 q2 => ?_)
  obtain ⟨rfl, rfl⟩ := q2
  refine go_ifP (t' := 64) (pc' := 39) rfl rfl rfl (fun _ => ?_) (fun (c : ¬ ((0 : Int32) = 0)) => absurd (by decide) c)
  refine go_s (pc' := 65) (lo' := [some (.ref 62), some (.int 0), some (.int 1), some (.int 2)]) rfl rfl rfl rfl ?_
  refine go_s (pc' := 32) rfl rfl rfl rfl ?_
  have hms : rrq 1 1 (I, Q, Z) = (I, Q, Z) := if_neg (fun z => absurd z.1 (by decide))
  rw [hms] at C
  exact C _ (RA_R (by omega) hA)
theorem stR_2_1 {w : Nat → Bool} {d B R : Nat} {h : am_Hp} {I : sm_I} {Q : mQ} {Z : mZ} {P : Option Value → am_Hp → Prop} (hA : RA w B R [] true h (I, Q, Z)) (hR : R + 1 < 40000) {X : Nat} (hM : MID X (I, Q, Z)) (hX : X + 60 < 2 ^ 28) (hd : 5 ≤ d) (C : ∀ h', RA w B (R + 1) [] true h' (rrq 2 1 (I, Q, Z)) → am_Go (am_prog w) d am_c162 (some .boolean) 32 [some (.ref 62), some (.int 0), some (.int 1), some (.int 3)] [] h' P) : am_Go (am_prog w) d am_c162 (some .boolean) 32 [some (.ref 62), some (.int 0), some (.int 1), some (.int 2)] [] h P := by
  obtain ⟨K, Y, am, ln, hS, hU⟩ := RA_u.mp hA
  change sm (tbr am (13 * ln) 77 5088) h (jn I K) Y at hS
  obtain ⟨hW, hWm, -, -, hr, -⟩ := id hU.1
  have hln := RU_ln hU (by omega)
  have hp0 : prk I 0 := (hM.2.2.1 0 (by decide)).1
  have hp1 : prk I 1 := (hM.2.2.1 1 (by decide)).1
  have hp2 : prk I 2 := (hM.2.2.1 2 (by decide)).1
  refine go_s (pc' := 33) rfl rfl rfl rfl ?_
  refine go_s (pc' := 34) (st' := [.int 3, .int 2]) rfl rfl rfl rfl ?_
  refine go_icmpP (t' := 66) (pc' := 35) rfl rfl rfl (fun (c : 3 ≤ (2 : Int32)) => absurd c (by decide)) (fun _ => ?_)
  refine go_s (pc' := 36) rfl rfl rfl rfl ?_
  refine go_s (pc' := 37) rfl rfl rfl rfl ?_
  refine go_callS (pc' := 38) rfl rfl rfl (Nat.le_of_ble_eq_true rfl) rfl rfl rfl (rt_ih_2_1 (by omega)) (fun r h1 q2 => ?_)
  obtain ⟨rfl, rfl⟩ := q2
  refine go_ifP (t' := 64) (pc' := 39) rfl rfl rfl (fun _ => ?_) (fun (c : ¬ ((0 : Int32) = 0)) => absurd (by decide) c)
  refine go_s (pc' := 65) (lo' := [some (.ref 62), some (.int 0), some (.int 1), some (.int 3)]) rfl rfl rfl rfl ?_
  refine go_s (pc' := 32) rfl rfl rfl rfl ?_
  have hms : rrq 2 1 (I, Q, Z) = (I, Q, Z) := if_neg (fun z => absurd z.1 (by decide))
  rw [hms] at C
  exact C _ (RA_R (by omega) hA)
theorem stR_0_2 {w : Nat → Bool} {d B R : Nat} {h : am_Hp} {I : sm_I} {Q : mQ} {Z : mZ} {P : Option Value → am_Hp → Prop} (hA : RA w B R [] true h (I, Q, Z)) (hR : R + 1 < 40000) {X : Nat} (hM : MID X (I, Q, Z)) (hX : X + 60 < 2 ^ 28) (hd : 5 ≤ d) (C : ∀ h', RA w B (R + 1) [] true h' (rrq 0 2 (I, Q, Z)) → am_Go (am_prog w) d am_c162 (some .boolean) 32 [some (.ref 62), some (.int 0), some (.int 2), some (.int 1)] [] h' P) : am_Go (am_prog w) d am_c162 (some .boolean) 32 [some (.ref 62), some (.int 0), some (.int 2), some (.int 0)] [] h P := by
  obtain ⟨K, Y, am, ln, hS, hU⟩ := RA_u.mp hA
  change sm (tbr am (13 * ln) 77 5088) h (jn I K) Y at hS
  obtain ⟨hW, hWm, -, -, hr, -⟩ := id hU.1
  have hln := RU_ln hU (by omega)
  have hp0 : prk I 0 := (hM.2.2.1 0 (by decide)).1
  have hp1 : prk I 1 := (hM.2.2.1 1 (by decide)).1
  have hp2 : prk I 2 := (hM.2.2.1 2 (by decide)).1
  refine go_s (pc' := 33) rfl rfl rfl rfl ?_
  refine go_s (pc' := 34) (st' := [.int 3, .int 0]) rfl rfl rfl rfl ?_
  refine go_icmpP (t' := 66) (pc' := 35) rfl rfl rfl (fun (c : 3 ≤ (0 : Int32)) => absurd c (by decide)) (fun _ => ?_)
  refine go_s (pc' := 36) rfl rfl rfl rfl ?_
  refine go_s (pc' := 37) rfl rfl rfl rfl ?_
  refine go_callS (pc' := 38) rfl rfl rfl (Nat.le_of_ble_eq_true rfl) rfl rfl rfl (rt_ih_0_2 (by omega)) (fun r h1 q2 => ?_)
  obtain ⟨rfl, rfl⟩ := q2
  refine go_ifP (t' := 64) (pc' := 39) rfl rfl rfl (fun _ => ?_) (fun (c : ¬ ((0 : Int32) = 0)) => absurd (by decide) c)
  refine go_s (pc' := 65) (lo' := [some (.ref 62), some (.int 0), some (.int 2), some (.int 1)]) rfl rfl rfl rfl ?_
  refine go_s (pc' := 32) rfl rfl rfl rfl ?_
  have hms : rrq 0 2 (I, Q, Z) = (I, Q, Z) := if_neg (fun z => absurd z.1 (by decide))
  rw [hms] at C
  exact C _ (RA_R (by omega) hA)
theorem stR_1_2 {w : Nat → Bool} {d B R : Nat} {h : am_Hp} {I : sm_I} {Q : mQ} {Z : mZ} {P : Option Value → am_Hp → Prop} (hA : RA w B R [] true h (I, Q, Z)) (hR : R + 1 < 40000) {X : Nat} (hM : MID X (I, Q, Z)) (hX : X + 60 < 2 ^ 28) (hd : 5 ≤ d) (C : ∀ h', RA w B (R + 1) [] true h' (rrq 1 2 (I, Q, Z)) → am_Go (am_prog w) d am_c162 (some .boolean) 32 [some (.ref 62), some (.int 0), some (.int 2), some (.int 2)] [] h' P) : am_Go (am_prog w) d am_c162 (some .boolean) 32 [some (.ref 62), some (.int 0), some (.int 2), some (.int 1)] [] h P := by
  obtain ⟨K, Y, am, ln, hS, hU⟩ := RA_u.mp hA
  change sm (tbr am (13 * ln) 77 5088) h (jn I K) Y at hS
  obtain ⟨hW, hWm, -, -, hr, -⟩ := id hU.1
  have hln := RU_ln hU (by omega)
  have hp0 : prk I 0 := (hM.2.2.1 0 (by decide)).1
  have hp1 : prk I 1 := (hM.2.2.1 1 (by decide)).1
  have hp2 : prk I 2 := (hM.2.2.1 2 (by decide)).1
  rcases hp1 with e1 | e1 | e1
  · skip
    refine go_s (pc' := 33) rfl rfl rfl rfl ?_
    refine go_s (pc' := 34) (st' := [.int 3, .int 1]) rfl rfl rfl rfl ?_
    refine go_icmpP (t' := 66) (pc' := 35) rfl rfl rfl (fun (c : 3 ≤ (1 : Int32)) => absurd c (by decide)) (fun _ => ?_)
    refine go_s (pc' := 36) rfl rfl rfl rfl ?_
    refine go_s (pc' := 37) rfl rfl rfl rfl ?_
    refine go_callS (pc' := 38) rfl rfl rfl (Nat.le_of_ble_eq_true rfl) rfl rfl rfl (rt_ih_1_2 (by omega)) (fun r h2 q3 => ?_)
    obtain ⟨rfl, rfl⟩ := q3
    refine go_ifP (t' := 64) (pc' := 39) rfl rfl rfl (fun (c : (1 : Int32) = 0) => absurd c (by decide)) (fun _ => ?_)
    refine go_s (pc' := 40) rfl rfl rfl rfl ?_
    refine go_sget (pc' := 41) (v := .ref 78) hS rfl rfl rfl (by decide) rfl rfl ?_
    refine go_s (pc' := 42) rfl rfl rfl rfl ?_
    refine go_sald (pc' := 43) (q := 1) (v := .int (-1)) hS rfl (tr_s hr (a := 78) rfl (by decide)) rfl rfl (by decide) (congrArg Value.int e1) rfl ?_
    refine go_s (pc' := 44) rfl rfl rfl rfl ?_
    refine go_callS (pc' := 45) rfl rfl rfl (Nat.le_of_ble_eq_true rfl) rfl rfl rfl (rt_oh_2 (by omega)) (fun r h4 q5 => ?_)
    obtain ⟨rfl, rfl⟩ := q5
    refine go_icmpP (t' := 64) (pc' := 46) rfl rfl rfl (fun _ => ?_) (fun (c : ¬ (¬ ((-1) : Int32) = 3)) => absurd (by decide) c)
    refine go_s (pc' := 65) (lo' := [some (.ref 62), some (.int 0), some (.int 2), some (.int 2)]) rfl rfl rfl rfl ?_
    refine go_s (pc' := 32) rfl rfl rfl rfl ?_
    have hms : rrq 1 2 (I, Q, Z) = (I, Q, Z) := if_neg (fun z => absurd (e1.symm.trans z.2.1) (by decide))
    rw [hms] at C
    exact C _ (RA_R (by omega) hA)
  · skip
    refine go_s (pc' := 33) rfl rfl rfl rfl ?_
    refine go_s (pc' := 34) (st' := [.int 3, .int 1]) rfl rfl rfl rfl ?_
    refine go_icmpP (t' := 66) (pc' := 35) rfl rfl rfl (fun (c : 3 ≤ (1 : Int32)) => absurd c (by decide)) (fun _ => ?_)
    refine go_s (pc' := 36) rfl rfl rfl rfl ?_
    refine go_s (pc' := 37) rfl rfl rfl rfl ?_
    refine go_callS (pc' := 38) rfl rfl rfl (Nat.le_of_ble_eq_true rfl) rfl rfl rfl (rt_ih_1_2 (by omega)) (fun r h6 q7 => ?_)
    obtain ⟨rfl, rfl⟩ := q7
    refine go_ifP (t' := 64) (pc' := 39) rfl rfl rfl (fun (c : (1 : Int32) = 0) => absurd c (by decide)) (fun _ => ?_)
    refine go_s (pc' := 40) rfl rfl rfl rfl ?_
    refine go_sget (pc' := 41) (v := .ref 78) hS rfl rfl rfl (by decide) rfl rfl ?_
    refine go_s (pc' := 42) rfl rfl rfl rfl ?_
    refine go_sald (pc' := 43) (q := 1) (v := .int 2) hS rfl (tr_s hr (a := 78) rfl (by decide)) rfl rfl (by decide) (congrArg Value.int e1) rfl ?_
    refine go_s (pc' := 44) rfl rfl rfl rfl ?_
    refine go_callS (pc' := 45) rfl rfl rfl (Nat.le_of_ble_eq_true rfl) rfl rfl rfl (rt_oh_2 (by omega)) (fun r h8 q9 => ?_)
    obtain ⟨rfl, rfl⟩ := q9
    refine go_icmpP (t' := 64) (pc' := 46) rfl rfl rfl (fun _ => ?_) (fun (c : ¬ (¬ (2 : Int32) = 3)) => absurd (by decide) c)
    refine go_s (pc' := 65) (lo' := [some (.ref 62), some (.int 0), some (.int 2), some (.int 2)]) rfl rfl rfl rfl ?_
    refine go_s (pc' := 32) rfl rfl rfl rfl ?_
    have hms : rrq 1 2 (I, Q, Z) = (I, Q, Z) := if_neg (fun z => absurd (e1.symm.trans z.2.1) (by decide))
    rw [hms] at C
    exact C _ (RA_R (by omega) hA)
  · skip
    refine go_s (pc' := 33) rfl rfl rfl rfl ?_
    refine go_s (pc' := 34) (st' := [.int 3, .int 1]) rfl rfl rfl rfl ?_
    refine go_icmpP (t' := 66) (pc' := 35) rfl rfl rfl (fun (c : 3 ≤ (1 : Int32)) => absurd c (by decide)) (fun _ => ?_)
    refine go_s (pc' := 36) rfl rfl rfl rfl ?_
    refine go_s (pc' := 37) rfl rfl rfl rfl ?_
    refine go_callS (pc' := 38) rfl rfl rfl (Nat.le_of_ble_eq_true rfl) rfl rfl rfl (rt_ih_1_2 (by omega)) (fun r h10 q11 => ?_)
    obtain ⟨rfl, rfl⟩ := q11
    refine go_ifP (t' := 64) (pc' := 39) rfl rfl rfl (fun (c : (1 : Int32) = 0) => absurd c (by decide)) (fun _ => ?_)
    refine go_s (pc' := 40) rfl rfl rfl rfl ?_
    refine go_sget (pc' := 41) (v := .ref 78) hS rfl rfl rfl (by decide) rfl rfl ?_
    refine go_s (pc' := 42) rfl rfl rfl rfl ?_
    refine go_sald (pc' := 43) (q := 1) (v := .int 3) hS rfl (tr_s hr (a := 78) rfl (by decide)) rfl rfl (by decide) (congrArg Value.int e1) rfl ?_
    refine go_s (pc' := 44) rfl rfl rfl rfl ?_
    refine go_callS (pc' := 45) rfl rfl rfl (Nat.le_of_ble_eq_true rfl) rfl rfl rfl (rt_oh_2 (by omega)) (fun r h12 q13 => ?_)
    obtain ⟨rfl, rfl⟩ := q13
    refine go_icmpP (t' := 64) (pc' := 46) rfl rfl rfl (fun (c : ¬ (3 : Int32) = 3) => absurd c (by decide)) (fun _ => ?_)
    refine go_s (pc' := 47) rfl rfl rfl rfl ?_
    refine go_s (pc' := 48) rfl rfl rfl rfl ?_
    refine go_callV (pc' := 49) rfl rfl rfl (Nat.le_of_ble_eq_true rfl) rfl (sm_o hS rfl) rfl rfl rfl (rt_lives_1 hr hS (Or.inr (Or.inr e1)) (by omega)) (fun r h14 q15 => ?_)
    obtain ⟨rfl, rfl⟩ := q15
    rw [show lv (jn I K) 1 = lv I 1 from rfl]
    cases u16 : lv I 1
    · skip
      show am_Go _ _ _ _ 49 _ [.int 0] _ _
      refine go_ifP (t' := 64) (pc' := 50) rfl rfl rfl (fun _ => ?_) (fun (c : ¬ ((0 : Int32) = 0)) => absurd (by decide) c)
      refine go_s (pc' := 65) (lo' := [some (.ref 62), some (.int 0), some (.int 2), some (.int 2)]) rfl rfl rfl rfl ?_
      refine go_s (pc' := 32) rfl rfl rfl rfl ?_
      have hms : rrq 1 2 (I, Q, Z) = (I, Q, Z) := if_neg (fun z => by rw [show lv ((I, Q, Z) : mM).1 1 = false from u16] at z; exact absurd z.2.2.1 (by decide))
      rw [hms] at C
      exact C _ (RA_R (by omega) hA)
    · skip
      show am_Go _ _ _ _ 49 _ [.int 1] _ _
      refine go_ifP (t' := 64) (pc' := 50) rfl rfl rfl (fun (c : (1 : Int32) = 0) => absurd c (by decide)) (fun _ => ?_)
      refine go_s (pc' := 51) rfl rfl rfl rfl ?_
      refine go_sget (pc' := 52) (v := .ref 79) hS rfl rfl rfl (by decide) rfl rfl ?_
      refine go_s (pc' := 53) rfl rfl rfl rfl ?_
      refine go_sald (pc' := 54) (q := 1) (v := .int (I 12 1)) hS rfl (tr_s hr (a := 79) rfl (by decide)) rfl rfl (by decide) rfl rfl ?_
      refine go_s (pc' := 55) (st' := [.int (-1), .int (I 12 1)]) rfl rfl rfl rfl ?_
      refine go_icmpP (t' := 64) (pc' := 56) rfl rfl rfl (fun (c17 : ¬ (I 12 1) = (-1)) => ?_) (fun (c17' : ¬ ¬ (I 12 1) = (-1)) => ?_)
      · skip
        refine go_s (pc' := 65) (lo' := [some (.ref 62), some (.int 0), some (.int 2), some (.int 2)]) rfl rfl rfl rfl ?_
        refine go_s (pc' := 32) rfl rfl rfl rfl ?_
        have hms : rrq 1 2 (I, Q, Z) = (I, Q, Z) := if_neg (fun z => c17 z.2.2.2.1)
        rw [hms] at C
        exact C _ (RA_R (by omega) hA)
      · skip
        have c17 : (I 12 1) = (-1) := Decidable.not_not.mp c17'
        refine go_s (pc' := 57) rfl rfl rfl rfl ?_
        refine go_sget (pc' := 58) (v := .ref 80) hS rfl rfl rfl (by decide) rfl rfl ?_
        refine go_s (pc' := 59) rfl rfl rfl rfl ?_
        refine go_sald (pc' := 60) (q := 1) (v := .int (I 13 1)) hS rfl (tr_s hr (a := 80) rfl (by decide)) rfl rfl (by decide) rfl rfl ?_
        refine go_ifP (t' := 64) (pc' := 61) rfl rfl rfl (fun (c18 : ¬ (I 13 1) = 0) => ?_) (fun (c18' : ¬ ¬ (I 13 1) = 0) => ?_)
        · skip
          refine go_s (pc' := 65) (lo' := [some (.ref 62), some (.int 0), some (.int 2), some (.int 2)]) rfl rfl rfl rfl ?_
          refine go_s (pc' := 32) rfl rfl rfl rfl ?_
          have hms : rrq 1 2 (I, Q, Z) = (I, Q, Z) := if_neg (fun z => c18 z.2.2.2.2)
          rw [hms] at C
          exact C _ (RA_R (by omega) hA)
        · skip
          have c18 : (I 13 1) = 0 := Decidable.not_not.mp c18'
          refine go_s (pc' := 62) rfl rfl rfl rfl ?_
          refine go_s (pc' := 63) rfl rfl rfl rfl ?_
          have h5a : sq Q ≤ 5 := sq_5 (X := X) (k := 1) (M := (I, Q, Z)) (by omega) hM (by decide) (US_no (by decide) hM (fun z => ((hM.2.2.1 1 (by decide)).2.2.2.2.2.1 z).1 c17) c18)
          have h5 : sq Q + hc [] true ≤ 5 := by
            have z : hc [] true = 0 := rfl
            omega
          have hU19 : RU w B R [] true h14 am ln K (I, Q, Z) := RU_I (sm_e_refl (tbr am (13 * ln) 77 5088) _) (I' := I) (fun _ => rfl) (fun _ => rfl) (Nat.le_refl _) hU
          have hA20 : RA w B R [] true h14 (I, Q, Z) := RA_u.mpr ⟨_, _, _, _, hS, hU19⟩
          refine go_callV (pc' := 64) rfl rfl rfl (Nat.le_of_ble_eq_true rfl) rfl (sm_o hS rfl) rfl rfl rfl (ra_sc_1 hA20 (by omega) (Or.inr (Or.inr e1)) (fun z => absurd (e1.symm.trans z) (by decide)) h5 (by omega)) (fun r h21 q22 => ?_)
          obtain ⟨rfl, hA23⟩ := q22
          refine go_s (pc' := 65) (lo' := [some (.ref 62), some (.int 0), some (.int 2), some (.int 2)]) rfl rfl rfl rfl ?_
          refine go_s (pc' := 32) rfl rfl rfl rfl ?_
          have hms : rrq 1 2 (I, Q, Z) = rsc 1 (I, Q, Z) := if_pos ⟨by decide, e1, u16, c17, c18⟩
          rw [hms] at C
          exact C _ hA23
theorem stR_2_2 {w : Nat → Bool} {d B R : Nat} {h : am_Hp} {I : sm_I} {Q : mQ} {Z : mZ} {P : Option Value → am_Hp → Prop} (hA : RA w B R [] true h (I, Q, Z)) (hR : R + 1 < 40000) {X : Nat} (hM : MID X (I, Q, Z)) (hX : X + 60 < 2 ^ 28) (hd : 5 ≤ d) (C : ∀ h', RA w B (R + 1) [] true h' (rrq 2 2 (I, Q, Z)) → am_Go (am_prog w) d am_c162 (some .boolean) 32 [some (.ref 62), some (.int 0), some (.int 2), some (.int 3)] [] h' P) : am_Go (am_prog w) d am_c162 (some .boolean) 32 [some (.ref 62), some (.int 0), some (.int 2), some (.int 2)] [] h P := by
  obtain ⟨K, Y, am, ln, hS, hU⟩ := RA_u.mp hA
  change sm (tbr am (13 * ln) 77 5088) h (jn I K) Y at hS
  obtain ⟨hW, hWm, -, -, hr, -⟩ := id hU.1
  have hln := RU_ln hU (by omega)
  have hp0 : prk I 0 := (hM.2.2.1 0 (by decide)).1
  have hp1 : prk I 1 := (hM.2.2.1 1 (by decide)).1
  have hp2 : prk I 2 := (hM.2.2.1 2 (by decide)).1
  rcases hp2 with e1 | e1 | e1
  · skip
    refine go_s (pc' := 33) rfl rfl rfl rfl ?_
    refine go_s (pc' := 34) (st' := [.int 3, .int 2]) rfl rfl rfl rfl ?_
    refine go_icmpP (t' := 66) (pc' := 35) rfl rfl rfl (fun (c : 3 ≤ (2 : Int32)) => absurd c (by decide)) (fun _ => ?_)
    refine go_s (pc' := 36) rfl rfl rfl rfl ?_
    refine go_s (pc' := 37) rfl rfl rfl rfl ?_
    refine go_callS (pc' := 38) rfl rfl rfl (Nat.le_of_ble_eq_true rfl) rfl rfl rfl (rt_ih_2_2 (by omega)) (fun r h2 q3 => ?_)
    obtain ⟨rfl, rfl⟩ := q3
    refine go_ifP (t' := 64) (pc' := 39) rfl rfl rfl (fun (c : (1 : Int32) = 0) => absurd c (by decide)) (fun _ => ?_)
    refine go_s (pc' := 40) rfl rfl rfl rfl ?_
    refine go_sget (pc' := 41) (v := .ref 78) hS rfl rfl rfl (by decide) rfl rfl ?_
    refine go_s (pc' := 42) rfl rfl rfl rfl ?_
    refine go_sald (pc' := 43) (q := 2) (v := .int (-1)) hS rfl (tr_s hr (a := 78) rfl (by decide)) rfl rfl (by decide) (congrArg Value.int e1) rfl ?_
    refine go_s (pc' := 44) rfl rfl rfl rfl ?_
    refine go_callS (pc' := 45) rfl rfl rfl (Nat.le_of_ble_eq_true rfl) rfl rfl rfl (rt_oh_2 (by omega)) (fun r h4 q5 => ?_)
    obtain ⟨rfl, rfl⟩ := q5
    refine go_icmpP (t' := 64) (pc' := 46) rfl rfl rfl (fun _ => ?_) (fun (c : ¬ (¬ ((-1) : Int32) = 3)) => absurd (by decide) c)
    refine go_s (pc' := 65) (lo' := [some (.ref 62), some (.int 0), some (.int 2), some (.int 3)]) rfl rfl rfl rfl ?_
    refine go_s (pc' := 32) rfl rfl rfl rfl ?_
    have hms : rrq 2 2 (I, Q, Z) = (I, Q, Z) := if_neg (fun z => absurd (e1.symm.trans z.2.1) (by decide))
    rw [hms] at C
    exact C _ (RA_R (by omega) hA)
  · skip
    refine go_s (pc' := 33) rfl rfl rfl rfl ?_
    refine go_s (pc' := 34) (st' := [.int 3, .int 2]) rfl rfl rfl rfl ?_
    refine go_icmpP (t' := 66) (pc' := 35) rfl rfl rfl (fun (c : 3 ≤ (2 : Int32)) => absurd c (by decide)) (fun _ => ?_)
    refine go_s (pc' := 36) rfl rfl rfl rfl ?_
    refine go_s (pc' := 37) rfl rfl rfl rfl ?_
    refine go_callS (pc' := 38) rfl rfl rfl (Nat.le_of_ble_eq_true rfl) rfl rfl rfl (rt_ih_2_2 (by omega)) (fun r h6 q7 => ?_)
    obtain ⟨rfl, rfl⟩ := q7
    refine go_ifP (t' := 64) (pc' := 39) rfl rfl rfl (fun (c : (1 : Int32) = 0) => absurd c (by decide)) (fun _ => ?_)
    refine go_s (pc' := 40) rfl rfl rfl rfl ?_
    refine go_sget (pc' := 41) (v := .ref 78) hS rfl rfl rfl (by decide) rfl rfl ?_
    refine go_s (pc' := 42) rfl rfl rfl rfl ?_
    refine go_sald (pc' := 43) (q := 2) (v := .int 2) hS rfl (tr_s hr (a := 78) rfl (by decide)) rfl rfl (by decide) (congrArg Value.int e1) rfl ?_
    refine go_s (pc' := 44) rfl rfl rfl rfl ?_
    refine go_callS (pc' := 45) rfl rfl rfl (Nat.le_of_ble_eq_true rfl) rfl rfl rfl (rt_oh_2 (by omega)) (fun r h8 q9 => ?_)
    obtain ⟨rfl, rfl⟩ := q9
    refine go_icmpP (t' := 64) (pc' := 46) rfl rfl rfl (fun _ => ?_) (fun (c : ¬ (¬ (2 : Int32) = 3)) => absurd (by decide) c)
    refine go_s (pc' := 65) (lo' := [some (.ref 62), some (.int 0), some (.int 2), some (.int 3)]) rfl rfl rfl rfl ?_
    refine go_s (pc' := 32) rfl rfl rfl rfl ?_
    have hms : rrq 2 2 (I, Q, Z) = (I, Q, Z) := if_neg (fun z => absurd (e1.symm.trans z.2.1) (by decide))
    rw [hms] at C
    exact C _ (RA_R (by omega) hA)
  · skip
    refine go_s (pc' := 33) rfl rfl rfl rfl ?_
    refine go_s (pc' := 34) (st' := [.int 3, .int 2]) rfl rfl rfl rfl ?_
    refine go_icmpP (t' := 66) (pc' := 35) rfl rfl rfl (fun (c : 3 ≤ (2 : Int32)) => absurd c (by decide)) (fun _ => ?_)
    refine go_s (pc' := 36) rfl rfl rfl rfl ?_
    refine go_s (pc' := 37) rfl rfl rfl rfl ?_
    refine go_callS (pc' := 38) rfl rfl rfl (Nat.le_of_ble_eq_true rfl) rfl rfl rfl (rt_ih_2_2 (by omega)) (fun r h10 q11 => ?_)
    obtain ⟨rfl, rfl⟩ := q11
    refine go_ifP (t' := 64) (pc' := 39) rfl rfl rfl (fun (c : (1 : Int32) = 0) => absurd c (by decide)) (fun _ => ?_)
    refine go_s (pc' := 40) rfl rfl rfl rfl ?_
    refine go_sget (pc' := 41) (v := .ref 78) hS rfl rfl rfl (by decide) rfl rfl ?_
    refine go_s (pc' := 42) rfl rfl rfl rfl ?_
    refine go_sald (pc' := 43) (q := 2) (v := .int 3) hS rfl (tr_s hr (a := 78) rfl (by decide)) rfl rfl (by decide) (congrArg Value.int e1) rfl ?_
    refine go_s (pc' := 44) rfl rfl rfl rfl ?_
    refine go_callS (pc' := 45) rfl rfl rfl (Nat.le_of_ble_eq_true rfl) rfl rfl rfl (rt_oh_2 (by omega)) (fun r h12 q13 => ?_)
    obtain ⟨rfl, rfl⟩ := q13
    refine go_icmpP (t' := 64) (pc' := 46) rfl rfl rfl (fun (c : ¬ (3 : Int32) = 3) => absurd c (by decide)) (fun _ => ?_)
    refine go_s (pc' := 47) rfl rfl rfl rfl ?_
    refine go_s (pc' := 48) rfl rfl rfl rfl ?_
    refine go_callV (pc' := 49) rfl rfl rfl (Nat.le_of_ble_eq_true rfl) rfl (sm_o hS rfl) rfl rfl rfl (rt_lives_2 hr hS (Or.inr (Or.inr e1)) (by omega)) (fun r h14 q15 => ?_)
    obtain ⟨rfl, rfl⟩ := q15
    rw [show lv (jn I K) 2 = lv I 2 from rfl]
    cases u16 : lv I 2
    · skip
      show am_Go _ _ _ _ 49 _ [.int 0] _ _
      refine go_ifP (t' := 64) (pc' := 50) rfl rfl rfl (fun _ => ?_) (fun (c : ¬ ((0 : Int32) = 0)) => absurd (by decide) c)
      refine go_s (pc' := 65) (lo' := [some (.ref 62), some (.int 0), some (.int 2), some (.int 3)]) rfl rfl rfl rfl ?_
      refine go_s (pc' := 32) rfl rfl rfl rfl ?_
      have hms : rrq 2 2 (I, Q, Z) = (I, Q, Z) := if_neg (fun z => by rw [show lv ((I, Q, Z) : mM).1 2 = false from u16] at z; exact absurd z.2.2.1 (by decide))
      rw [hms] at C
      exact C _ (RA_R (by omega) hA)
    · skip
      show am_Go _ _ _ _ 49 _ [.int 1] _ _
      refine go_ifP (t' := 64) (pc' := 50) rfl rfl rfl (fun (c : (1 : Int32) = 0) => absurd c (by decide)) (fun _ => ?_)
      refine go_s (pc' := 51) rfl rfl rfl rfl ?_
      refine go_sget (pc' := 52) (v := .ref 79) hS rfl rfl rfl (by decide) rfl rfl ?_
      refine go_s (pc' := 53) rfl rfl rfl rfl ?_
      refine go_sald (pc' := 54) (q := 2) (v := .int (I 12 2)) hS rfl (tr_s hr (a := 79) rfl (by decide)) rfl rfl (by decide) rfl rfl ?_
      refine go_s (pc' := 55) (st' := [.int (-1), .int (I 12 2)]) rfl rfl rfl rfl ?_
      refine go_icmpP (t' := 64) (pc' := 56) rfl rfl rfl (fun (c17 : ¬ (I 12 2) = (-1)) => ?_) (fun (c17' : ¬ ¬ (I 12 2) = (-1)) => ?_)
      · skip
        refine go_s (pc' := 65) (lo' := [some (.ref 62), some (.int 0), some (.int 2), some (.int 3)]) rfl rfl rfl rfl ?_
        refine go_s (pc' := 32) rfl rfl rfl rfl ?_
        have hms : rrq 2 2 (I, Q, Z) = (I, Q, Z) := if_neg (fun z => c17 z.2.2.2.1)
        rw [hms] at C
        exact C _ (RA_R (by omega) hA)
      · skip
        have c17 : (I 12 2) = (-1) := Decidable.not_not.mp c17'
        refine go_s (pc' := 57) rfl rfl rfl rfl ?_
        refine go_sget (pc' := 58) (v := .ref 80) hS rfl rfl rfl (by decide) rfl rfl ?_
        refine go_s (pc' := 59) rfl rfl rfl rfl ?_
        refine go_sald (pc' := 60) (q := 2) (v := .int (I 13 2)) hS rfl (tr_s hr (a := 80) rfl (by decide)) rfl rfl (by decide) rfl rfl ?_
        refine go_ifP (t' := 64) (pc' := 61) rfl rfl rfl (fun (c18 : ¬ (I 13 2) = 0) => ?_) (fun (c18' : ¬ ¬ (I 13 2) = 0) => ?_)
        · skip
          refine go_s (pc' := 65) (lo' := [some (.ref 62), some (.int 0), some (.int 2), some (.int 3)]) rfl rfl rfl rfl ?_
          refine go_s (pc' := 32) rfl rfl rfl rfl ?_
          have hms : rrq 2 2 (I, Q, Z) = (I, Q, Z) := if_neg (fun z => c18 z.2.2.2.2)
          rw [hms] at C
          exact C _ (RA_R (by omega) hA)
        · skip
          have c18 : (I 13 2) = 0 := Decidable.not_not.mp c18'
          refine go_s (pc' := 62) rfl rfl rfl rfl ?_
          refine go_s (pc' := 63) rfl rfl rfl rfl ?_
          have h5a : sq Q ≤ 5 := sq_5 (X := X) (k := 2) (M := (I, Q, Z)) (by omega) hM (by decide) (US_no (by decide) hM (fun z => ((hM.2.2.1 2 (by decide)).2.2.2.2.2.1 z).1 c17) c18)
          have h5 : sq Q + hc [] true ≤ 5 := by
            have z : hc [] true = 0 := rfl
            omega
          have hU19 : RU w B R [] true h14 am ln K (I, Q, Z) := RU_I (sm_e_refl (tbr am (13 * ln) 77 5088) _) (I' := I) (fun _ => rfl) (fun _ => rfl) (Nat.le_refl _) hU
          have hA20 : RA w B R [] true h14 (I, Q, Z) := RA_u.mpr ⟨_, _, _, _, hS, hU19⟩
          refine go_callV (pc' := 64) rfl rfl rfl (Nat.le_of_ble_eq_true rfl) rfl (sm_o hS rfl) rfl rfl rfl (ra_sc_2 hA20 (by omega) (Or.inr (Or.inr e1)) (fun z => absurd (e1.symm.trans z) (by decide)) h5 (by omega)) (fun r h21 q22 => ?_)
          obtain ⟨rfl, hA23⟩ := q22
          refine go_s (pc' := 65) (lo' := [some (.ref 62), some (.int 0), some (.int 2), some (.int 3)]) rfl rfl rfl rfl ?_
          refine go_s (pc' := 32) rfl rfl rfl rfl ?_
          have hms : rrq 2 2 (I, Q, Z) = rsc 2 (I, Q, Z) := if_pos ⟨by decide, e1, u16, c17, c18⟩
          rw [hms] at C
          exact C _ hA23
theorem stR_0_3 {w : Nat → Bool} {d B R : Nat} {h : am_Hp} {I : sm_I} {Q : mQ} {Z : mZ} {P : Option Value → am_Hp → Prop} (hA : RA w B R [] true h (I, Q, Z)) (hR : R + 1 < 40000) {X : Nat} (hM : MID X (I, Q, Z)) (hX : X + 60 < 2 ^ 28) (hd : 5 ≤ d) (C : ∀ h', RA w B (R + 1) [] true h' (rrq 0 3 (I, Q, Z)) → am_Go (am_prog w) d am_c162 (some .boolean) 32 [some (.ref 62), some (.int 0), some (.int 3), some (.int 1)] [] h' P) : am_Go (am_prog w) d am_c162 (some .boolean) 32 [some (.ref 62), some (.int 0), some (.int 3), some (.int 0)] [] h P := by
  obtain ⟨K, Y, am, ln, hS, hU⟩ := RA_u.mp hA
  change sm (tbr am (13 * ln) 77 5088) h (jn I K) Y at hS
  obtain ⟨hW, hWm, -, -, hr, -⟩ := id hU.1
  have hln := RU_ln hU (by omega)
  have hp0 : prk I 0 := (hM.2.2.1 0 (by decide)).1
  have hp1 : prk I 1 := (hM.2.2.1 1 (by decide)).1
  have hp2 : prk I 2 := (hM.2.2.1 2 (by decide)).1
  refine go_s (pc' := 33) rfl rfl rfl rfl ?_
  refine go_s (pc' := 34) (st' := [.int 3, .int 0]) rfl rfl rfl rfl ?_
  refine go_icmpP (t' := 66) (pc' := 35) rfl rfl rfl (fun (c : 3 ≤ (0 : Int32)) => absurd c (by decide)) (fun _ => ?_)
  refine go_s (pc' := 36) rfl rfl rfl rfl ?_
  refine go_s (pc' := 37) rfl rfl rfl rfl ?_
  refine go_callS (pc' := 38) rfl rfl rfl (Nat.le_of_ble_eq_true rfl) rfl rfl rfl (rt_ih_0_3 (by omega)) (fun r h1 q2 => ?_)
  obtain ⟨rfl, rfl⟩ := q2
  refine go_ifP (t' := 64) (pc' := 39) rfl rfl rfl (fun _ => ?_) (fun (c : ¬ ((0 : Int32) = 0)) => absurd (by decide) c)
  refine go_s (pc' := 65) (lo' := [some (.ref 62), some (.int 0), some (.int 3), some (.int 1)]) rfl rfl rfl rfl ?_
  refine go_s (pc' := 32) rfl rfl rfl rfl ?_
  have hms : rrq 0 3 (I, Q, Z) = (I, Q, Z) := if_neg (fun z => absurd z.1 (by decide))
  rw [hms] at C
  exact C _ (RA_R (by omega) hA)
theorem stR_1_3 {w : Nat → Bool} {d B R : Nat} {h : am_Hp} {I : sm_I} {Q : mQ} {Z : mZ} {P : Option Value → am_Hp → Prop} (hA : RA w B R [] true h (I, Q, Z)) (hR : R + 1 < 40000) {X : Nat} (hM : MID X (I, Q, Z)) (hX : X + 60 < 2 ^ 28) (hd : 5 ≤ d) (C : ∀ h', RA w B (R + 1) [] true h' (rrq 1 3 (I, Q, Z)) → am_Go (am_prog w) d am_c162 (some .boolean) 32 [some (.ref 62), some (.int 0), some (.int 3), some (.int 2)] [] h' P) : am_Go (am_prog w) d am_c162 (some .boolean) 32 [some (.ref 62), some (.int 0), some (.int 3), some (.int 1)] [] h P := by
  obtain ⟨K, Y, am, ln, hS, hU⟩ := RA_u.mp hA
  change sm (tbr am (13 * ln) 77 5088) h (jn I K) Y at hS
  obtain ⟨hW, hWm, -, -, hr, -⟩ := id hU.1
  have hln := RU_ln hU (by omega)
  have hp0 : prk I 0 := (hM.2.2.1 0 (by decide)).1
  have hp1 : prk I 1 := (hM.2.2.1 1 (by decide)).1
  have hp2 : prk I 2 := (hM.2.2.1 2 (by decide)).1
  rcases hp1 with e1 | e1 | e1
  · skip
    refine go_s (pc' := 33) rfl rfl rfl rfl ?_
    refine go_s (pc' := 34) (st' := [.int 3, .int 1]) rfl rfl rfl rfl ?_
    refine go_icmpP (t' := 66) (pc' := 35) rfl rfl rfl (fun (c : 3 ≤ (1 : Int32)) => absurd c (by decide)) (fun _ => ?_)
    refine go_s (pc' := 36) rfl rfl rfl rfl ?_
    refine go_s (pc' := 37) rfl rfl rfl rfl ?_
    refine go_callS (pc' := 38) rfl rfl rfl (Nat.le_of_ble_eq_true rfl) rfl rfl rfl (rt_ih_1_3 (by omega)) (fun r h2 q3 => ?_)
    obtain ⟨rfl, rfl⟩ := q3
    refine go_ifP (t' := 64) (pc' := 39) rfl rfl rfl (fun (c : (1 : Int32) = 0) => absurd c (by decide)) (fun _ => ?_)
    refine go_s (pc' := 40) rfl rfl rfl rfl ?_
    refine go_sget (pc' := 41) (v := .ref 78) hS rfl rfl rfl (by decide) rfl rfl ?_
    refine go_s (pc' := 42) rfl rfl rfl rfl ?_
    refine go_sald (pc' := 43) (q := 1) (v := .int (-1)) hS rfl (tr_s hr (a := 78) rfl (by decide)) rfl rfl (by decide) (congrArg Value.int e1) rfl ?_
    refine go_s (pc' := 44) rfl rfl rfl rfl ?_
    refine go_callS (pc' := 45) rfl rfl rfl (Nat.le_of_ble_eq_true rfl) rfl rfl rfl (rt_oh_3 (by omega)) (fun r h4 q5 => ?_)
    obtain ⟨rfl, rfl⟩ := q5
    refine go_icmpP (t' := 64) (pc' := 46) rfl rfl rfl (fun _ => ?_) (fun (c : ¬ (¬ ((-1) : Int32) = 2)) => absurd (by decide) c)
    refine go_s (pc' := 65) (lo' := [some (.ref 62), some (.int 0), some (.int 3), some (.int 2)]) rfl rfl rfl rfl ?_
    refine go_s (pc' := 32) rfl rfl rfl rfl ?_
    have hms : rrq 1 3 (I, Q, Z) = (I, Q, Z) := if_neg (fun z => absurd (e1.symm.trans z.2.1) (by decide))
    rw [hms] at C
    exact C _ (RA_R (by omega) hA)
  · skip
    refine go_s (pc' := 33) rfl rfl rfl rfl ?_
    refine go_s (pc' := 34) (st' := [.int 3, .int 1]) rfl rfl rfl rfl ?_
    refine go_icmpP (t' := 66) (pc' := 35) rfl rfl rfl (fun (c : 3 ≤ (1 : Int32)) => absurd c (by decide)) (fun _ => ?_)
    refine go_s (pc' := 36) rfl rfl rfl rfl ?_
    refine go_s (pc' := 37) rfl rfl rfl rfl ?_
    refine go_callS (pc' := 38) rfl rfl rfl (Nat.le_of_ble_eq_true rfl) rfl rfl rfl (rt_ih_1_3 (by omega)) (fun r h6 q7 => ?_)
    obtain ⟨rfl, rfl⟩ := q7
    refine go_ifP (t' := 64) (pc' := 39) rfl rfl rfl (fun (c : (1 : Int32) = 0) => absurd c (by decide)) (fun _ => ?_)
    refine go_s (pc' := 40) rfl rfl rfl rfl ?_
    refine go_sget (pc' := 41) (v := .ref 78) hS rfl rfl rfl (by decide) rfl rfl ?_
    refine go_s (pc' := 42) rfl rfl rfl rfl ?_
    refine go_sald (pc' := 43) (q := 1) (v := .int 2) hS rfl (tr_s hr (a := 78) rfl (by decide)) rfl rfl (by decide) (congrArg Value.int e1) rfl ?_
    refine go_s (pc' := 44) rfl rfl rfl rfl ?_
    refine go_callS (pc' := 45) rfl rfl rfl (Nat.le_of_ble_eq_true rfl) rfl rfl rfl (rt_oh_3 (by omega)) (fun r h8 q9 => ?_)
    obtain ⟨rfl, rfl⟩ := q9
    refine go_icmpP (t' := 64) (pc' := 46) rfl rfl rfl (fun (c : ¬ (2 : Int32) = 2) => absurd c (by decide)) (fun _ => ?_)
    refine go_s (pc' := 47) rfl rfl rfl rfl ?_
    refine go_s (pc' := 48) rfl rfl rfl rfl ?_
    refine go_callV (pc' := 49) rfl rfl rfl (Nat.le_of_ble_eq_true rfl) rfl (sm_o hS rfl) rfl rfl rfl (rt_lives_1 hr hS (Or.inr (Or.inl e1)) (by omega)) (fun r h10 q11 => ?_)
    obtain ⟨rfl, rfl⟩ := q11
    rw [show lv (jn I K) 1 = lv I 1 from rfl]
    cases u12 : lv I 1
    · skip
      show am_Go _ _ _ _ 49 _ [.int 0] _ _
      refine go_ifP (t' := 64) (pc' := 50) rfl rfl rfl (fun _ => ?_) (fun (c : ¬ ((0 : Int32) = 0)) => absurd (by decide) c)
      refine go_s (pc' := 65) (lo' := [some (.ref 62), some (.int 0), some (.int 3), some (.int 2)]) rfl rfl rfl rfl ?_
      refine go_s (pc' := 32) rfl rfl rfl rfl ?_
      have hms : rrq 1 3 (I, Q, Z) = (I, Q, Z) := if_neg (fun z => by rw [show lv ((I, Q, Z) : mM).1 1 = false from u12] at z; exact absurd z.2.2.1 (by decide))
      rw [hms] at C
      exact C _ (RA_R (by omega) hA)
    · skip
      show am_Go _ _ _ _ 49 _ [.int 1] _ _
      refine go_ifP (t' := 64) (pc' := 50) rfl rfl rfl (fun (c : (1 : Int32) = 0) => absurd c (by decide)) (fun _ => ?_)
      refine go_s (pc' := 51) rfl rfl rfl rfl ?_
      refine go_sget (pc' := 52) (v := .ref 79) hS rfl rfl rfl (by decide) rfl rfl ?_
      refine go_s (pc' := 53) rfl rfl rfl rfl ?_
      refine go_sald (pc' := 54) (q := 1) (v := .int (I 12 1)) hS rfl (tr_s hr (a := 79) rfl (by decide)) rfl rfl (by decide) rfl rfl ?_
      refine go_s (pc' := 55) (st' := [.int (-1), .int (I 12 1)]) rfl rfl rfl rfl ?_
      refine go_icmpP (t' := 64) (pc' := 56) rfl rfl rfl (fun (c13 : ¬ (I 12 1) = (-1)) => ?_) (fun (c13' : ¬ ¬ (I 12 1) = (-1)) => ?_)
      · skip
        refine go_s (pc' := 65) (lo' := [some (.ref 62), some (.int 0), some (.int 3), some (.int 2)]) rfl rfl rfl rfl ?_
        refine go_s (pc' := 32) rfl rfl rfl rfl ?_
        have hms : rrq 1 3 (I, Q, Z) = (I, Q, Z) := if_neg (fun z => c13 z.2.2.2.1)
        rw [hms] at C
        exact C _ (RA_R (by omega) hA)
      · skip
        have c13 : (I 12 1) = (-1) := Decidable.not_not.mp c13'
        refine go_s (pc' := 57) rfl rfl rfl rfl ?_
        refine go_sget (pc' := 58) (v := .ref 80) hS rfl rfl rfl (by decide) rfl rfl ?_
        refine go_s (pc' := 59) rfl rfl rfl rfl ?_
        refine go_sald (pc' := 60) (q := 1) (v := .int (I 13 1)) hS rfl (tr_s hr (a := 80) rfl (by decide)) rfl rfl (by decide) rfl rfl ?_
        refine go_ifP (t' := 64) (pc' := 61) rfl rfl rfl (fun (c14 : ¬ (I 13 1) = 0) => ?_) (fun (c14' : ¬ ¬ (I 13 1) = 0) => ?_)
        · skip
          refine go_s (pc' := 65) (lo' := [some (.ref 62), some (.int 0), some (.int 3), some (.int 2)]) rfl rfl rfl rfl ?_
          refine go_s (pc' := 32) rfl rfl rfl rfl ?_
          have hms : rrq 1 3 (I, Q, Z) = (I, Q, Z) := if_neg (fun z => c14 z.2.2.2.2)
          rw [hms] at C
          exact C _ (RA_R (by omega) hA)
        · skip
          have c14 : (I 13 1) = 0 := Decidable.not_not.mp c14'
          refine go_s (pc' := 62) rfl rfl rfl rfl ?_
          refine go_s (pc' := 63) rfl rfl rfl rfl ?_
          have h5a : sq Q ≤ 5 := sq_5 (X := X) (k := 1) (M := (I, Q, Z)) (by omega) hM (by decide) (US_no (by decide) hM (fun z => ((hM.2.2.1 1 (by decide)).2.2.2.2.2.1 z).1 c13) c14)
          have h5 : sq Q + hc [] true ≤ 5 := by
            have z : hc [] true = 0 := rfl
            omega
          have hU15 : RU w B R [] true h10 am ln K (I, Q, Z) := RU_I (sm_e_refl (tbr am (13 * ln) 77 5088) _) (I' := I) (fun _ => rfl) (fun _ => rfl) (Nat.le_refl _) hU
          have hA16 : RA w B R [] true h10 (I, Q, Z) := RA_u.mpr ⟨_, _, _, _, hS, hU15⟩
          refine go_callV (pc' := 64) rfl rfl rfl (Nat.le_of_ble_eq_true rfl) rfl (sm_o hS rfl) rfl rfl rfl (ra_sc_1 hA16 (by omega) (Or.inr (Or.inl e1)) (fun z => absurd (e1.symm.trans z) (by decide)) h5 (by omega)) (fun r h17 q18 => ?_)
          obtain ⟨rfl, hA19⟩ := q18
          refine go_s (pc' := 65) (lo' := [some (.ref 62), some (.int 0), some (.int 3), some (.int 2)]) rfl rfl rfl rfl ?_
          refine go_s (pc' := 32) rfl rfl rfl rfl ?_
          have hms : rrq 1 3 (I, Q, Z) = rsc 1 (I, Q, Z) := if_pos ⟨by decide, e1, u12, c13, c14⟩
          rw [hms] at C
          exact C _ hA19
  · skip
    refine go_s (pc' := 33) rfl rfl rfl rfl ?_
    refine go_s (pc' := 34) (st' := [.int 3, .int 1]) rfl rfl rfl rfl ?_
    refine go_icmpP (t' := 66) (pc' := 35) rfl rfl rfl (fun (c : 3 ≤ (1 : Int32)) => absurd c (by decide)) (fun _ => ?_)
    refine go_s (pc' := 36) rfl rfl rfl rfl ?_
    refine go_s (pc' := 37) rfl rfl rfl rfl ?_
    refine go_callS (pc' := 38) rfl rfl rfl (Nat.le_of_ble_eq_true rfl) rfl rfl rfl (rt_ih_1_3 (by omega)) (fun r h20 q21 => ?_)
    obtain ⟨rfl, rfl⟩ := q21
    refine go_ifP (t' := 64) (pc' := 39) rfl rfl rfl (fun (c : (1 : Int32) = 0) => absurd c (by decide)) (fun _ => ?_)
    refine go_s (pc' := 40) rfl rfl rfl rfl ?_
    refine go_sget (pc' := 41) (v := .ref 78) hS rfl rfl rfl (by decide) rfl rfl ?_
    refine go_s (pc' := 42) rfl rfl rfl rfl ?_
    refine go_sald (pc' := 43) (q := 1) (v := .int 3) hS rfl (tr_s hr (a := 78) rfl (by decide)) rfl rfl (by decide) (congrArg Value.int e1) rfl ?_
    refine go_s (pc' := 44) rfl rfl rfl rfl ?_
    refine go_callS (pc' := 45) rfl rfl rfl (Nat.le_of_ble_eq_true rfl) rfl rfl rfl (rt_oh_3 (by omega)) (fun r h22 q23 => ?_)
    obtain ⟨rfl, rfl⟩ := q23
    refine go_icmpP (t' := 64) (pc' := 46) rfl rfl rfl (fun _ => ?_) (fun (c : ¬ (¬ (3 : Int32) = 2)) => absurd (by decide) c)
    refine go_s (pc' := 65) (lo' := [some (.ref 62), some (.int 0), some (.int 3), some (.int 2)]) rfl rfl rfl rfl ?_
    refine go_s (pc' := 32) rfl rfl rfl rfl ?_
    have hms : rrq 1 3 (I, Q, Z) = (I, Q, Z) := if_neg (fun z => absurd (e1.symm.trans z.2.1) (by decide))
    rw [hms] at C
    exact C _ (RA_R (by omega) hA)
theorem stR_2_3 {w : Nat → Bool} {d B R : Nat} {h : am_Hp} {I : sm_I} {Q : mQ} {Z : mZ} {P : Option Value → am_Hp → Prop} (hA : RA w B R [] true h (I, Q, Z)) (hR : R + 1 < 40000) {X : Nat} (hM : MID X (I, Q, Z)) (hX : X + 60 < 2 ^ 28) (hd : 5 ≤ d) (C : ∀ h', RA w B (R + 1) [] true h' (rrq 2 3 (I, Q, Z)) → am_Go (am_prog w) d am_c162 (some .boolean) 32 [some (.ref 62), some (.int 0), some (.int 3), some (.int 3)] [] h' P) : am_Go (am_prog w) d am_c162 (some .boolean) 32 [some (.ref 62), some (.int 0), some (.int 3), some (.int 2)] [] h P := by
  obtain ⟨K, Y, am, ln, hS, hU⟩ := RA_u.mp hA
  change sm (tbr am (13 * ln) 77 5088) h (jn I K) Y at hS
  obtain ⟨hW, hWm, -, -, hr, -⟩ := id hU.1
  have hln := RU_ln hU (by omega)
  have hp0 : prk I 0 := (hM.2.2.1 0 (by decide)).1
  have hp1 : prk I 1 := (hM.2.2.1 1 (by decide)).1
  have hp2 : prk I 2 := (hM.2.2.1 2 (by decide)).1
  rcases hp2 with e1 | e1 | e1
  · skip
    refine go_s (pc' := 33) rfl rfl rfl rfl ?_
    refine go_s (pc' := 34) (st' := [.int 3, .int 2]) rfl rfl rfl rfl ?_
    refine go_icmpP (t' := 66) (pc' := 35) rfl rfl rfl (fun (c : 3 ≤ (2 : Int32)) => absurd c (by decide)) (fun _ => ?_)
    refine go_s (pc' := 36) rfl rfl rfl rfl ?_
    refine go_s (pc' := 37) rfl rfl rfl rfl ?_
    refine go_callS (pc' := 38) rfl rfl rfl (Nat.le_of_ble_eq_true rfl) rfl rfl rfl (rt_ih_2_3 (by omega)) (fun r h2 q3 => ?_)
    obtain ⟨rfl, rfl⟩ := q3
    refine go_ifP (t' := 64) (pc' := 39) rfl rfl rfl (fun (c : (1 : Int32) = 0) => absurd c (by decide)) (fun _ => ?_)
    refine go_s (pc' := 40) rfl rfl rfl rfl ?_
    refine go_sget (pc' := 41) (v := .ref 78) hS rfl rfl rfl (by decide) rfl rfl ?_
    refine go_s (pc' := 42) rfl rfl rfl rfl ?_
    refine go_sald (pc' := 43) (q := 2) (v := .int (-1)) hS rfl (tr_s hr (a := 78) rfl (by decide)) rfl rfl (by decide) (congrArg Value.int e1) rfl ?_
    refine go_s (pc' := 44) rfl rfl rfl rfl ?_
    refine go_callS (pc' := 45) rfl rfl rfl (Nat.le_of_ble_eq_true rfl) rfl rfl rfl (rt_oh_3 (by omega)) (fun r h4 q5 => ?_)
    obtain ⟨rfl, rfl⟩ := q5
    refine go_icmpP (t' := 64) (pc' := 46) rfl rfl rfl (fun _ => ?_) (fun (c : ¬ (¬ ((-1) : Int32) = 2)) => absurd (by decide) c)
    refine go_s (pc' := 65) (lo' := [some (.ref 62), some (.int 0), some (.int 3), some (.int 3)]) rfl rfl rfl rfl ?_
    refine go_s (pc' := 32) rfl rfl rfl rfl ?_
    have hms : rrq 2 3 (I, Q, Z) = (I, Q, Z) := if_neg (fun z => absurd (e1.symm.trans z.2.1) (by decide))
    rw [hms] at C
    exact C _ (RA_R (by omega) hA)
  · skip
    refine go_s (pc' := 33) rfl rfl rfl rfl ?_
    refine go_s (pc' := 34) (st' := [.int 3, .int 2]) rfl rfl rfl rfl ?_
    refine go_icmpP (t' := 66) (pc' := 35) rfl rfl rfl (fun (c : 3 ≤ (2 : Int32)) => absurd c (by decide)) (fun _ => ?_)
    refine go_s (pc' := 36) rfl rfl rfl rfl ?_
    refine go_s (pc' := 37) rfl rfl rfl rfl ?_
    refine go_callS (pc' := 38) rfl rfl rfl (Nat.le_of_ble_eq_true rfl) rfl rfl rfl (rt_ih_2_3 (by omega)) (fun r h6 q7 => ?_)
    obtain ⟨rfl, rfl⟩ := q7
    refine go_ifP (t' := 64) (pc' := 39) rfl rfl rfl (fun (c : (1 : Int32) = 0) => absurd c (by decide)) (fun _ => ?_)
    refine go_s (pc' := 40) rfl rfl rfl rfl ?_
    refine go_sget (pc' := 41) (v := .ref 78) hS rfl rfl rfl (by decide) rfl rfl ?_
    refine go_s (pc' := 42) rfl rfl rfl rfl ?_
    refine go_sald (pc' := 43) (q := 2) (v := .int 2) hS rfl (tr_s hr (a := 78) rfl (by decide)) rfl rfl (by decide) (congrArg Value.int e1) rfl ?_
    refine go_s (pc' := 44) rfl rfl rfl rfl ?_
    refine go_callS (pc' := 45) rfl rfl rfl (Nat.le_of_ble_eq_true rfl) rfl rfl rfl (rt_oh_3 (by omega)) (fun r h8 q9 => ?_)
    obtain ⟨rfl, rfl⟩ := q9
    refine go_icmpP (t' := 64) (pc' := 46) rfl rfl rfl (fun (c : ¬ (2 : Int32) = 2) => absurd c (by decide)) (fun _ => ?_)
    refine go_s (pc' := 47) rfl rfl rfl rfl ?_
    refine go_s (pc' := 48) rfl rfl rfl rfl ?_
    refine go_callV (pc' := 49) rfl rfl rfl (Nat.le_of_ble_eq_true rfl) rfl (sm_o hS rfl) rfl rfl rfl (rt_lives_2 hr hS (Or.inr (Or.inl e1)) (by omega)) (fun r h10 q11 => ?_)
    obtain ⟨rfl, rfl⟩ := q11
    rw [show lv (jn I K) 2 = lv I 2 from rfl]
    cases u12 : lv I 2
    · skip
      show am_Go _ _ _ _ 49 _ [.int 0] _ _
      refine go_ifP (t' := 64) (pc' := 50) rfl rfl rfl (fun _ => ?_) (fun (c : ¬ ((0 : Int32) = 0)) => absurd (by decide) c)
      refine go_s (pc' := 65) (lo' := [some (.ref 62), some (.int 0), some (.int 3), some (.int 3)]) rfl rfl rfl rfl ?_
      refine go_s (pc' := 32) rfl rfl rfl rfl ?_
      have hms : rrq 2 3 (I, Q, Z) = (I, Q, Z) := if_neg (fun z => by rw [show lv ((I, Q, Z) : mM).1 2 = false from u12] at z; exact absurd z.2.2.1 (by decide))
      rw [hms] at C
      exact C _ (RA_R (by omega) hA)
    · skip
      show am_Go _ _ _ _ 49 _ [.int 1] _ _
      refine go_ifP (t' := 64) (pc' := 50) rfl rfl rfl (fun (c : (1 : Int32) = 0) => absurd c (by decide)) (fun _ => ?_)
      refine go_s (pc' := 51) rfl rfl rfl rfl ?_
      refine go_sget (pc' := 52) (v := .ref 79) hS rfl rfl rfl (by decide) rfl rfl ?_
      refine go_s (pc' := 53) rfl rfl rfl rfl ?_
      refine go_sald (pc' := 54) (q := 2) (v := .int (I 12 2)) hS rfl (tr_s hr (a := 79) rfl (by decide)) rfl rfl (by decide) rfl rfl ?_
      refine go_s (pc' := 55) (st' := [.int (-1), .int (I 12 2)]) rfl rfl rfl rfl ?_
      refine go_icmpP (t' := 64) (pc' := 56) rfl rfl rfl (fun (c13 : ¬ (I 12 2) = (-1)) => ?_) (fun (c13' : ¬ ¬ (I 12 2) = (-1)) => ?_)
      · skip
        refine go_s (pc' := 65) (lo' := [some (.ref 62), some (.int 0), some (.int 3), some (.int 3)]) rfl rfl rfl rfl ?_
        refine go_s (pc' := 32) rfl rfl rfl rfl ?_
        have hms : rrq 2 3 (I, Q, Z) = (I, Q, Z) := if_neg (fun z => c13 z.2.2.2.1)
        rw [hms] at C
        exact C _ (RA_R (by omega) hA)
      · skip
        have c13 : (I 12 2) = (-1) := Decidable.not_not.mp c13'
        refine go_s (pc' := 57) rfl rfl rfl rfl ?_
        refine go_sget (pc' := 58) (v := .ref 80) hS rfl rfl rfl (by decide) rfl rfl ?_
        refine go_s (pc' := 59) rfl rfl rfl rfl ?_
        refine go_sald (pc' := 60) (q := 2) (v := .int (I 13 2)) hS rfl (tr_s hr (a := 80) rfl (by decide)) rfl rfl (by decide) rfl rfl ?_
        refine go_ifP (t' := 64) (pc' := 61) rfl rfl rfl (fun (c14 : ¬ (I 13 2) = 0) => ?_) (fun (c14' : ¬ ¬ (I 13 2) = 0) => ?_)
        · skip
          refine go_s (pc' := 65) (lo' := [some (.ref 62), some (.int 0), some (.int 3), some (.int 3)]) rfl rfl rfl rfl ?_
          refine go_s (pc' := 32) rfl rfl rfl rfl ?_
          have hms : rrq 2 3 (I, Q, Z) = (I, Q, Z) := if_neg (fun z => c14 z.2.2.2.2)
          rw [hms] at C
          exact C _ (RA_R (by omega) hA)
        · skip
          have c14 : (I 13 2) = 0 := Decidable.not_not.mp c14'
          refine go_s (pc' := 62) rfl rfl rfl rfl ?_
          refine go_s (pc' := 63) rfl rfl rfl rfl ?_
          have h5a : sq Q ≤ 5 := sq_5 (X := X) (k := 2) (M := (I, Q, Z)) (by omega) hM (by decide) (US_no (by decide) hM (fun z => ((hM.2.2.1 2 (by decide)).2.2.2.2.2.1 z).1 c13) c14)
          have h5 : sq Q + hc [] true ≤ 5 := by
            have z : hc [] true = 0 := rfl
            omega
          have hU15 : RU w B R [] true h10 am ln K (I, Q, Z) := RU_I (sm_e_refl (tbr am (13 * ln) 77 5088) _) (I' := I) (fun _ => rfl) (fun _ => rfl) (Nat.le_refl _) hU
          have hA16 : RA w B R [] true h10 (I, Q, Z) := RA_u.mpr ⟨_, _, _, _, hS, hU15⟩
          refine go_callV (pc' := 64) rfl rfl rfl (Nat.le_of_ble_eq_true rfl) rfl (sm_o hS rfl) rfl rfl rfl (ra_sc_2 hA16 (by omega) (Or.inr (Or.inl e1)) (fun z => absurd (e1.symm.trans z) (by decide)) h5 (by omega)) (fun r h17 q18 => ?_)
          obtain ⟨rfl, hA19⟩ := q18
          refine go_s (pc' := 65) (lo' := [some (.ref 62), some (.int 0), some (.int 3), some (.int 3)]) rfl rfl rfl rfl ?_
          refine go_s (pc' := 32) rfl rfl rfl rfl ?_
          have hms : rrq 2 3 (I, Q, Z) = rsc 2 (I, Q, Z) := if_pos ⟨by decide, e1, u12, c13, c14⟩
          rw [hms] at C
          exact C _ hA19
  · skip
    refine go_s (pc' := 33) rfl rfl rfl rfl ?_
    refine go_s (pc' := 34) (st' := [.int 3, .int 2]) rfl rfl rfl rfl ?_
    refine go_icmpP (t' := 66) (pc' := 35) rfl rfl rfl (fun (c : 3 ≤ (2 : Int32)) => absurd c (by decide)) (fun _ => ?_)
    refine go_s (pc' := 36) rfl rfl rfl rfl ?_
    refine go_s (pc' := 37) rfl rfl rfl rfl ?_
    refine go_callS (pc' := 38) rfl rfl rfl (Nat.le_of_ble_eq_true rfl) rfl rfl rfl (rt_ih_2_3 (by omega)) (fun r h20 q21 => ?_)
    obtain ⟨rfl, rfl⟩ := q21
    refine go_ifP (t' := 64) (pc' := 39) rfl rfl rfl (fun (c : (1 : Int32) = 0) => absurd c (by decide)) (fun _ => ?_)
    refine go_s (pc' := 40) rfl rfl rfl rfl ?_
    refine go_sget (pc' := 41) (v := .ref 78) hS rfl rfl rfl (by decide) rfl rfl ?_
    refine go_s (pc' := 42) rfl rfl rfl rfl ?_
    refine go_sald (pc' := 43) (q := 2) (v := .int 3) hS rfl (tr_s hr (a := 78) rfl (by decide)) rfl rfl (by decide) (congrArg Value.int e1) rfl ?_
    refine go_s (pc' := 44) rfl rfl rfl rfl ?_
    refine go_callS (pc' := 45) rfl rfl rfl (Nat.le_of_ble_eq_true rfl) rfl rfl rfl (rt_oh_3 (by omega)) (fun r h22 q23 => ?_)
    obtain ⟨rfl, rfl⟩ := q23
    refine go_icmpP (t' := 64) (pc' := 46) rfl rfl rfl (fun _ => ?_) (fun (c : ¬ (¬ (3 : Int32) = 2)) => absurd (by decide) c)
    refine go_s (pc' := 65) (lo' := [some (.ref 62), some (.int 0), some (.int 3), some (.int 3)]) rfl rfl rfl rfl ?_
    refine go_s (pc' := 32) rfl rfl rfl rfl ?_
    have hms : rrq 2 3 (I, Q, Z) = (I, Q, Z) := if_neg (fun z => absurd (e1.symm.trans z.2.1) (by decide))
    rw [hms] at C
    exact C _ (RA_R (by omega) hA)
theorem ra_rr_0_0 {w : Nat → Bool} {d B R : Nat} {h : am_Hp} {I : sm_I} {Q : mQ} {Z : mZ} (hA : RA w B R [] true h (I, Q, Z)) (hR : R + 30 < 40000) {X : Nat} (hV : XV X (I, Q, Z)) (hX : X + 300 < 2 ^ 28) (hd : 12 ≤ d) : am_Ev (am_prog w) d 162 [.ref 62, .int 0, .int 0] h (fun r h' => r = some (.int (rrr0 0 (I, Q, Z)).1) ∧ RA w B (R + 9) [] true h' (rrr0 0 (I, Q, Z)).2) := by
  obtain ⟨K, Y, am, ln, hS, hU⟩ := RA_u.mp hA
  change sm (tbr am (13 * ln) 77 5088) h (jn I K) Y at hS
  obtain ⟨hW, hWm, -, -, hr, -⟩ := id hU.1
  have hln := RU_ln hU (by omega)
  obtain ⟨d, rfl⟩ : ∃ e, d = e + 1 := ⟨d - 1, by omega⟩
  refine ev_go rfl (Nat.le_of_ble_eq_true rfl) rfl ?_
  refine go_s (pc' := 1) rfl rfl rfl rfl ?_
  refine go_ifP (t' := 68) (pc' := 2) rfl rfl rfl (fun (c : ¬ (0 : Int32) = 0) => absurd c (by decide)) (fun _ => ?_)
  refine go_s (pc' := 3) rfl rfl rfl rfl ?_
  refine go_s (pc' := 4) (st' := [.int 0, .int 0]) rfl rfl rfl rfl ?_
  refine go_s (pc' := 5) (st' := [.int 3, .int 0, .int 0]) rfl rfl rfl rfl ?_
  refine go_callS (pc' := 6) rfl rfl rfl (Nat.le_of_ble_eq_true rfl) rfl rfl rfl (rt_within_t (q := 0) (n := 3) (by decide) (by decide) (by omega)) (fun r h1 q2 => ?_)
  obtain ⟨rfl, rfl⟩ := q2
  refine go_ifP (t' := 68) (pc' := 7) rfl rfl rfl (fun (c : (1 : Int32) = 0) => absurd c (by decide)) (fun _ => ?_)
  refine go_s (pc' := 8) rfl rfl rfl rfl ?_
  refine go_sget (pc' := 9) (v := .ref 63) hS rfl rfl rfl (by decide) rfl rfl ?_
  refine go_s (pc' := 10) rfl rfl rfl rfl ?_
  refine go_sald (pc' := 11) (q := 0) (v := .int (I 0 0)) hS rfl (tr_s hr (a := 63) rfl (by decide)) rfl rfl (by decide) rfl rfl ?_
  refine go_ifP (t' := 68) (pc' := 12) rfl rfl rfl (fun (c3 : ¬ (I 0 0) = 0) => ?_) (fun (c3' : ¬ ¬ (I 0 0) = 0) => ?_)
  · skip
    refine go_s (pc' := 69) rfl rfl rfl rfl ?_
    refine go_s (pc' := 70) (st' := [.int 1, .int 0]) rfl rfl rfl rfl ?_
    refine go_icmpP (t' := 88) (pc' := 71) rfl rfl rfl (fun _ => ?_) (fun (c : ¬ (¬ (0 : Int32) = 1)) => absurd (by decide) c)
    refine go_s (pc' := 89) rfl rfl rfl rfl ?_
    refine go_s (pc' := 90) (st' := [.int 2, .int 0]) rfl rfl rfl rfl ?_
    refine go_icmpP (t' := 101) (pc' := 91) rfl rfl rfl (fun _ => ?_) (fun (c : ¬ (¬ (0 : Int32) = 2)) => absurd (by decide) c)
    refine go_s (pc' := 102) (st' := [.int 0]) rfl rfl rfl rfl ?_
    refine go_ret rfl rfl ?_
    have hms : rrr0 0 (I, Q, Z) = (0, (I, Q, Z)) := if_neg c3
    rw [hms]
    exact ⟨rfl, RA_R (by omega) hA⟩
  · skip
    have c3 : (I 0 0) = 0 := Decidable.not_not.mp c3'
    have c00 : I 0 0 = 0 := c3
    refine go_s (pc' := 13) rfl rfl rfl rfl ?_
    refine go_sget (pc' := 14) (v := .ref 64) hS rfl rfl rfl (by decide) rfl rfl ?_
    refine go_s (pc' := 15) rfl rfl rfl rfl ?_
    refine go_sald (pc' := 16) (q := 0) (v := .int (I 1 0)) hS rfl (tr_s hr (a := 64) rfl (by decide)) rfl rfl (by decide) rfl rfl ?_
    refine go_ifP (t' := 20) (pc' := 17) rfl rfl rfl (fun (c4 : ¬ (I 1 0) = 0) => ?_) (fun (c4' : ¬ ¬ (I 1 0) = 0) => ?_)
    · skip
      have hV1 : INV (X + 44) (I, Q, Z) ∧ KD I := ⟨INV_X (by omega) hV.1, hV.2.1⟩
      have e01 : I 0 0 = 0 ∧ I 1 0 = 1 := ⟨c00, (hV.1.1.1 0 (by decide)).2.1.resolve_left c4⟩
      have hif : (if ((I, Q, Z) : mM).1 1 0 = 0 then rdc 0 (I, Q, Z) else (I, Q, Z)) = (I, Q, Z) := if_neg c4
      obtain ⟨hIu, hKu⟩ := INV_up hV1.1 hV1.2 (by decide) e01.1 e01.2
      refine go_s (pc' := 21) rfl rfl rfl rfl ?_
      refine go_sget (pc' := 22) (v := .ref 63) hS rfl rfl rfl (by decide) rfl rfl ?_
      refine go_s (pc' := 23) rfl rfl rfl rfl ?_
      refine go_s (pc' := 24) (st' := [.int 1, .int 0, .ref 63]) rfl rfl rfl rfl ?_
      refine go_szast (pc' := 25) (q := 0) hS rfl (tr_s hr (a := 63) rfl (by decide)) tbr_inj (Nat.le_of_ble_eq_true rfl) rfl (by decide) (by decide) rfl (hW _ (by decide) (by decide)) rfl (fun h5 hS6 hE7 => ?_)
      refine go_s (pc' := 26) rfl rfl rfl rfl ?_
      refine go_sget (pc' := 27) (v := .ref 64) hS6 rfl rfl rfl (by decide) rfl rfl ?_
      refine go_s (pc' := 28) rfl rfl rfl rfl ?_
      refine go_s (pc' := 29) (st' := [.int 0, .int 0, .ref 64]) rfl rfl rfl rfl ?_
      refine go_szast (pc' := 30) (q := 0) hS6 rfl (tr_s hr (a := 64) rfl (by decide)) tbr_inj (Nat.le_of_ble_eq_true rfl) rfl (by decide) (by decide) rfl (hW _ (by decide) (by decide)) rfl (fun h8 hS9 hE10 => ?_)
      have hE11 := sm_e_trans hE7 hE10
      refine go_s (pc' := 31) (st' := [.int 0]) rfl rfl rfl rfl ?_
      refine go_s (pc' := 32) (lo' := [some (.ref 62), some (.int 0), some (.int 0), some (.int 0)]) rfl rfl rfl rfl ?_
      change sm (tbr am (13 * ln) 77 5088) _ (uI (uI (jn I K) 0 0 1) 1 0 0) Y at hS9
      rw [jn_lo (c := 0) (by decide), jn_lo (c := 1) (by decide)] at hS9
      have hU12 : RU w B R [] true h8 am ln K ((uI (uI I 0 0 1) 1 0 0), Q, Z) := RU_I (hE11) (I' := (uI (uI I 0 0 1) 1 0 0)) (fun _ => rfl) (fun _ => rfl) (Nat.le_refl _) hU
      have hA13 : RA w B R [] true h8 ((uI (uI I 0 0 1) 1 0 0), Q, Z) := RA_u.mpr ⟨_, _, _, _, hS9, hU12⟩
      have hu14 : (uI (uI I 0 0 1) 1 0 0) 0 0 = 1 := rfl
      refine stR_0_0 hA13 (by omega) hIu.1 (by omega) (by omega) (fun h15 hA16 => ?_)
      obtain ⟨M17, eM17⟩ : ∃ y : mM, y = (rrq 0 0 ((uI (uI I 0 0 1) 1 0 0), Q, Z)) := ⟨_, rfl⟩
      rw [← eM17] at hA16
      obtain ⟨I17, Q17, Z17⟩ := M17
      obtain ⟨K17, Y17, am17, ln17, hS17, hU17⟩ := RA_u.mp hA16
      change sm (tbr am17 (13 * ln17) 77 5088) h15 (jn I17 K17) Y17 at hS17
      obtain ⟨-, hWm17, -, -, hr17, -⟩ := id hU17.1
      have hln17 := RU_ln hU17 (by omega)
      have hI18 : INV (X + 45) (I17, Q17, Z17) ∧ KD I17 ∧ I17 0 0 = 1 := by
        have z := INV_sq (k := 0) (p := 0) (by omega) hIu hKu (by decide) (by decide) hu14
        rw [← sq_e (k := 0) (p := 0) hIu (by decide) (by decide)] at z
        rw [← eM17] at z
        exact ⟨z.1, z.2.1, (congrFun z.2.2 0).trans hu14⟩
      refine stR_1_0 hA16 (by omega) hI18.1.1 (by omega) (by omega) (fun h19 hA20 => ?_)
      obtain ⟨M21, eM21⟩ : ∃ y : mM, y = (rrq 1 0 (I17, Q17, Z17)) := ⟨_, rfl⟩
      rw [← eM21] at hA20
      obtain ⟨I21, Q21, Z21⟩ := M21
      obtain ⟨K21, Y21, am21, ln21, hS21, hU21⟩ := RA_u.mp hA20
      change sm (tbr am21 (13 * ln21) 77 5088) h19 (jn I21 K21) Y21 at hS21
      obtain ⟨-, hWm21, -, -, hr21, -⟩ := id hU21.1
      have hln21 := RU_ln hU21 (by omega)
      have hI22 : INV (X + 46) (I21, Q21, Z21) ∧ KD I21 ∧ I21 0 0 = 1 := by
        have z := INV_sq (k := 1) (p := 0) (by omega) hI18.1 hI18.2.1 (by decide) (by decide) hI18.2.2
        rw [← sq_e (k := 1) (p := 0) hI18.1 (by decide) (by decide)] at z
        rw [← eM21] at z
        exact ⟨z.1, z.2.1, (congrFun z.2.2 0).trans hI18.2.2⟩
      refine stR_2_0 hA20 (by omega) hI22.1.1 (by omega) (by omega) (fun h23 hA24 => ?_)
      obtain ⟨M25, eM25⟩ : ∃ y : mM, y = (rrq 2 0 (I21, Q21, Z21)) := ⟨_, rfl⟩
      rw [← eM25] at hA24
      obtain ⟨I25, Q25, Z25⟩ := M25
      obtain ⟨K25, Y25, am25, ln25, hS25, hU25⟩ := RA_u.mp hA24
      change sm (tbr am25 (13 * ln25) 77 5088) h23 (jn I25 K25) Y25 at hS25
      obtain ⟨-, hWm25, -, -, hr25, -⟩ := id hU25.1
      have hln25 := RU_ln hU25 (by omega)
      have hI26 : INV (X + 47) (I25, Q25, Z25) ∧ KD I25 ∧ I25 0 0 = 1 := by
        have z := INV_sq (k := 2) (p := 0) (by omega) hI22.1 hI22.2.1 (by decide) (by decide) hI22.2.2
        rw [← sq_e (k := 2) (p := 0) hI22.1 (by decide) (by decide)] at z
        rw [← eM25] at z
        exact ⟨z.1, z.2.1, (congrFun z.2.2 0).trans hI22.2.2⟩
      refine go_s (pc' := 33) rfl rfl rfl rfl ?_
      refine go_s (pc' := 34) (st' := [.int 3, .int 3]) rfl rfl rfl rfl ?_
      refine go_icmpP (t' := 66) (pc' := 35) rfl rfl rfl (fun _ => ?_) (fun (c : ¬ (3 ≤ (3 : Int32))) => absurd (by decide) c)
      refine go_s (pc' := 67) (st' := [.int 1]) rfl rfl rfl rfl ?_
      refine go_ret rfl rfl ?_
      have hms : rrr0 0 (I, Q, Z) = (1, (I25, Q25, Z25)) := by
        unfold rrr0
        rw [if_pos (show ((I, Q, Z) : mM).1 0 0 = 0 from c00), hif, eM25, eM21, eM17]
        rfl
      rw [hms]
      exact ⟨rfl, RA_R (by omega) hA24⟩
    · skip
      have c4 : (I 1 0) = 0 := Decidable.not_not.mp c4'
      refine go_s (pc' := 18) rfl rfl rfl rfl ?_
      refine go_s (pc' := 19) rfl rfl rfl rfl ?_
      have hU27 : RU w B R [] true h1 am ln K (I, Q, Z) := RU_I (sm_e_refl (tbr am (13 * ln) 77 5088) _) (I' := I) (fun _ => rfl) (fun _ => rfl) (Nat.le_refl _) hU
      have hA28 : RA w B R [] true h1 (I, Q, Z) := RA_u.mpr ⟨_, _, _, _, hS, hU27⟩
      refine go_callV (pc' := 20) rfl rfl rfl (Nat.le_of_ble_eq_true rfl) rfl (sm_o hS rfl) rfl rfl rfl (ra_dc_0 hA28 (by omega) hV.1.1 (by omega) c00 (by omega)) (fun r h29 q30 => ?_)
      obtain ⟨rfl, hA31⟩ := q30
      change RA w B (R + 6) [] true h29 (rdc 0 (I, Q, Z)) at hA31
      obtain ⟨M32, eM32⟩ : ∃ y : mM, y = (rdc 0 (I, Q, Z)) := ⟨_, rfl⟩
      rw [← eM32] at hA31
      obtain ⟨I32, Q32, Z32⟩ := M32
      obtain ⟨K32, Y32, am32, ln32, hS32, hU32⟩ := RA_u.mp hA31
      change sm (tbr am32 (13 * ln32) 77 5088) h29 (jn I32 K32) Y32 at hS32
      obtain ⟨-, hWm32, -, -, hr32, -⟩ := id hU32.1
      have hln32 := RU_ln hU32 (by omega)
      have hDC := DC (p := 0) (by omega) hV.1 hV.2.1 (by decide) c00
      have hV1 : INV (X + 44) (I32, Q32, Z32) ∧ KD I32 := by
        have z1 := hDC.2.1
        have z2 := hDC.2.2.1
        rw [← eM32] at z1 z2
        exact ⟨z1, z2⟩
      have e01 : I32 0 0 = 0 ∧ I32 1 0 = 1 := by
        have z1 := congrFun (rdc_I (p := 0) (M := (I, Q, Z)) (Or.inl rfl)) 0
        have z2 := congrFun (rdc_I (p := 0) (M := (I, Q, Z)) (Or.inr (Or.inl rfl))) 0
        rw [← eM32] at z1 z2
        exact ⟨z1.trans c00, z2⟩
      have hif : (if ((I, Q, Z) : mM).1 1 0 = 0 then rdc 0 (I, Q, Z) else (I, Q, Z)) = (I32, Q32, Z32) := (if_pos c4).trans eM32.symm
      obtain ⟨hIu, hKu⟩ := INV_up hV1.1 hV1.2 (by decide) e01.1 e01.2
      refine go_s (pc' := 21) rfl rfl rfl rfl ?_
      refine go_sget (pc' := 22) (v := .ref 63) hS32 rfl rfl rfl (by decide) rfl rfl ?_
      refine go_s (pc' := 23) rfl rfl rfl rfl ?_
      refine go_s (pc' := 24) (st' := [.int 1, .int 0, .ref 63]) rfl rfl rfl rfl ?_
      refine go_szast (pc' := 25) (q := 0) hS32 rfl (tr_s hr32 (a := 63) rfl (by decide)) tbr_inj (Nat.le_of_ble_eq_true rfl) rfl (by decide) (by decide) rfl (hW _ (by decide) (by decide)) rfl (fun h33 hS34 hE35 => ?_)
      refine go_s (pc' := 26) rfl rfl rfl rfl ?_
      refine go_sget (pc' := 27) (v := .ref 64) hS34 rfl rfl rfl (by decide) rfl rfl ?_
      refine go_s (pc' := 28) rfl rfl rfl rfl ?_
      refine go_s (pc' := 29) (st' := [.int 0, .int 0, .ref 64]) rfl rfl rfl rfl ?_
      refine go_szast (pc' := 30) (q := 0) hS34 rfl (tr_s hr32 (a := 64) rfl (by decide)) tbr_inj (Nat.le_of_ble_eq_true rfl) rfl (by decide) (by decide) rfl (hW _ (by decide) (by decide)) rfl (fun h36 hS37 hE38 => ?_)
      have hE39 := sm_e_trans hE35 hE38
      refine go_s (pc' := 31) (st' := [.int 0]) rfl rfl rfl rfl ?_
      refine go_s (pc' := 32) (lo' := [some (.ref 62), some (.int 0), some (.int 0), some (.int 0)]) rfl rfl rfl rfl ?_
      change sm (tbr am32 (13 * ln32) 77 5088) _ (uI (uI (jn I32 K32) 0 0 1) 1 0 0) Y32 at hS37
      rw [jn_lo (c := 0) (by decide), jn_lo (c := 1) (by decide)] at hS37
      have hU40 : RU w B (R + 6) [] true h36 am32 ln32 K32 ((uI (uI I32 0 0 1) 1 0 0), Q32, Z32) := RU_I (hE39) (I' := (uI (uI I32 0 0 1) 1 0 0)) (fun _ => rfl) (fun _ => rfl) (Nat.le_refl _) hU32
      have hA41 : RA w B (R + 6) [] true h36 ((uI (uI I32 0 0 1) 1 0 0), Q32, Z32) := RA_u.mpr ⟨_, _, _, _, hS37, hU40⟩
      have hu42 : (uI (uI I32 0 0 1) 1 0 0) 0 0 = 1 := rfl
      refine stR_0_0 hA41 (by omega) hIu.1 (by omega) (by omega) (fun h43 hA44 => ?_)
      obtain ⟨M45, eM45⟩ : ∃ y : mM, y = (rrq 0 0 ((uI (uI I32 0 0 1) 1 0 0), Q32, Z32)) := ⟨_, rfl⟩
      rw [← eM45] at hA44
      obtain ⟨I45, Q45, Z45⟩ := M45
      obtain ⟨K45, Y45, am45, ln45, hS45, hU45⟩ := RA_u.mp hA44
      change sm (tbr am45 (13 * ln45) 77 5088) h43 (jn I45 K45) Y45 at hS45
      obtain ⟨-, hWm45, -, -, hr45, -⟩ := id hU45.1
      have hln45 := RU_ln hU45 (by omega)
      have hI46 : INV (X + 45) (I45, Q45, Z45) ∧ KD I45 ∧ I45 0 0 = 1 := by
        have z := INV_sq (k := 0) (p := 0) (by omega) hIu hKu (by decide) (by decide) hu42
        rw [← sq_e (k := 0) (p := 0) hIu (by decide) (by decide)] at z
        rw [← eM45] at z
        exact ⟨z.1, z.2.1, (congrFun z.2.2 0).trans hu42⟩
      refine stR_1_0 hA44 (by omega) hI46.1.1 (by omega) (by omega) (fun h47 hA48 => ?_)
      obtain ⟨M49, eM49⟩ : ∃ y : mM, y = (rrq 1 0 (I45, Q45, Z45)) := ⟨_, rfl⟩
      rw [← eM49] at hA48
      obtain ⟨I49, Q49, Z49⟩ := M49
      obtain ⟨K49, Y49, am49, ln49, hS49, hU49⟩ := RA_u.mp hA48
      change sm (tbr am49 (13 * ln49) 77 5088) h47 (jn I49 K49) Y49 at hS49
      obtain ⟨-, hWm49, -, -, hr49, -⟩ := id hU49.1
      have hln49 := RU_ln hU49 (by omega)
      have hI50 : INV (X + 46) (I49, Q49, Z49) ∧ KD I49 ∧ I49 0 0 = 1 := by
        have z := INV_sq (k := 1) (p := 0) (by omega) hI46.1 hI46.2.1 (by decide) (by decide) hI46.2.2
        rw [← sq_e (k := 1) (p := 0) hI46.1 (by decide) (by decide)] at z
        rw [← eM49] at z
        exact ⟨z.1, z.2.1, (congrFun z.2.2 0).trans hI46.2.2⟩
      refine stR_2_0 hA48 (by omega) hI50.1.1 (by omega) (by omega) (fun h51 hA52 => ?_)
      obtain ⟨M53, eM53⟩ : ∃ y : mM, y = (rrq 2 0 (I49, Q49, Z49)) := ⟨_, rfl⟩
      rw [← eM53] at hA52
      obtain ⟨I53, Q53, Z53⟩ := M53
      obtain ⟨K53, Y53, am53, ln53, hS53, hU53⟩ := RA_u.mp hA52
      change sm (tbr am53 (13 * ln53) 77 5088) h51 (jn I53 K53) Y53 at hS53
      obtain ⟨-, hWm53, -, -, hr53, -⟩ := id hU53.1
      have hln53 := RU_ln hU53 (by omega)
      have hI54 : INV (X + 47) (I53, Q53, Z53) ∧ KD I53 ∧ I53 0 0 = 1 := by
        have z := INV_sq (k := 2) (p := 0) (by omega) hI50.1 hI50.2.1 (by decide) (by decide) hI50.2.2
        rw [← sq_e (k := 2) (p := 0) hI50.1 (by decide) (by decide)] at z
        rw [← eM53] at z
        exact ⟨z.1, z.2.1, (congrFun z.2.2 0).trans hI50.2.2⟩
      refine go_s (pc' := 33) rfl rfl rfl rfl ?_
      refine go_s (pc' := 34) (st' := [.int 3, .int 3]) rfl rfl rfl rfl ?_
      refine go_icmpP (t' := 66) (pc' := 35) rfl rfl rfl (fun _ => ?_) (fun (c : ¬ (3 ≤ (3 : Int32))) => absurd (by decide) c)
      refine go_s (pc' := 67) (st' := [.int 1]) rfl rfl rfl rfl ?_
      refine go_ret rfl rfl ?_
      have hms : rrr0 0 (I, Q, Z) = (1, (I53, Q53, Z53)) := by
        unfold rrr0
        rw [if_pos (show ((I, Q, Z) : mM).1 0 0 = 0 from c00), hif, eM53, eM49, eM45]
        rfl
      rw [hms]
      exact ⟨rfl, RA_R (by omega) hA52⟩
theorem ra_rr_0_1 {w : Nat → Bool} {d B R : Nat} {h : am_Hp} {I : sm_I} {Q : mQ} {Z : mZ} (hA : RA w B R [] true h (I, Q, Z)) (hR : R + 30 < 40000) {X : Nat} (hV : XV X (I, Q, Z)) (hX : X + 300 < 2 ^ 28) (hd : 12 ≤ d) : am_Ev (am_prog w) d 162 [.ref 62, .int 0, .int 1] h (fun r h' => r = some (.int (rrr0 1 (I, Q, Z)).1) ∧ RA w B (R + 9) [] true h' (rrr0 1 (I, Q, Z)).2) := by
  obtain ⟨K, Y, am, ln, hS, hU⟩ := RA_u.mp hA
  change sm (tbr am (13 * ln) 77 5088) h (jn I K) Y at hS
  obtain ⟨hW, hWm, -, -, hr, -⟩ := id hU.1
  have hln := RU_ln hU (by omega)
  obtain ⟨d, rfl⟩ : ∃ e, d = e + 1 := ⟨d - 1, by omega⟩
  refine ev_go rfl (Nat.le_of_ble_eq_true rfl) rfl ?_
  refine go_s (pc' := 1) rfl rfl rfl rfl ?_
  refine go_ifP (t' := 68) (pc' := 2) rfl rfl rfl (fun (c : ¬ (0 : Int32) = 0) => absurd c (by decide)) (fun _ => ?_)
  refine go_s (pc' := 3) rfl rfl rfl rfl ?_
  refine go_s (pc' := 4) (st' := [.int 0, .int 1]) rfl rfl rfl rfl ?_
  refine go_s (pc' := 5) (st' := [.int 3, .int 0, .int 1]) rfl rfl rfl rfl ?_
  refine go_callS (pc' := 6) rfl rfl rfl (Nat.le_of_ble_eq_true rfl) rfl rfl rfl (rt_within_t (q := 1) (n := 3) (by decide) (by decide) (by omega)) (fun r h1 q2 => ?_)
  obtain ⟨rfl, rfl⟩ := q2
  refine go_ifP (t' := 68) (pc' := 7) rfl rfl rfl (fun (c : (1 : Int32) = 0) => absurd c (by decide)) (fun _ => ?_)
  refine go_s (pc' := 8) rfl rfl rfl rfl ?_
  refine go_sget (pc' := 9) (v := .ref 63) hS rfl rfl rfl (by decide) rfl rfl ?_
  refine go_s (pc' := 10) rfl rfl rfl rfl ?_
  refine go_sald (pc' := 11) (q := 1) (v := .int (I 0 1)) hS rfl (tr_s hr (a := 63) rfl (by decide)) rfl rfl (by decide) rfl rfl ?_
  refine go_ifP (t' := 68) (pc' := 12) rfl rfl rfl (fun (c3 : ¬ (I 0 1) = 0) => ?_) (fun (c3' : ¬ ¬ (I 0 1) = 0) => ?_)
  · skip
    refine go_s (pc' := 69) rfl rfl rfl rfl ?_
    refine go_s (pc' := 70) (st' := [.int 1, .int 0]) rfl rfl rfl rfl ?_
    refine go_icmpP (t' := 88) (pc' := 71) rfl rfl rfl (fun _ => ?_) (fun (c : ¬ (¬ (0 : Int32) = 1)) => absurd (by decide) c)
    refine go_s (pc' := 89) rfl rfl rfl rfl ?_
    refine go_s (pc' := 90) (st' := [.int 2, .int 0]) rfl rfl rfl rfl ?_
    refine go_icmpP (t' := 101) (pc' := 91) rfl rfl rfl (fun _ => ?_) (fun (c : ¬ (¬ (0 : Int32) = 2)) => absurd (by decide) c)
    refine go_s (pc' := 102) (st' := [.int 0]) rfl rfl rfl rfl ?_
    refine go_ret rfl rfl ?_
    have hms : rrr0 1 (I, Q, Z) = (0, (I, Q, Z)) := if_neg c3
    rw [hms]
    exact ⟨rfl, RA_R (by omega) hA⟩
  · skip
    have c3 : (I 0 1) = 0 := Decidable.not_not.mp c3'
    have c00 : I 0 1 = 0 := c3
    refine go_s (pc' := 13) rfl rfl rfl rfl ?_
    refine go_sget (pc' := 14) (v := .ref 64) hS rfl rfl rfl (by decide) rfl rfl ?_
    refine go_s (pc' := 15) rfl rfl rfl rfl ?_
    refine go_sald (pc' := 16) (q := 1) (v := .int (I 1 1)) hS rfl (tr_s hr (a := 64) rfl (by decide)) rfl rfl (by decide) rfl rfl ?_
    refine go_ifP (t' := 20) (pc' := 17) rfl rfl rfl (fun (c4 : ¬ (I 1 1) = 0) => ?_) (fun (c4' : ¬ ¬ (I 1 1) = 0) => ?_)
    · skip
      have hV1 : INV (X + 44) (I, Q, Z) ∧ KD I := ⟨INV_X (by omega) hV.1, hV.2.1⟩
      have e01 : I 0 1 = 0 ∧ I 1 1 = 1 := ⟨c00, (hV.1.1.1 1 (by decide)).2.1.resolve_left c4⟩
      have hif : (if ((I, Q, Z) : mM).1 1 1 = 0 then rdc 1 (I, Q, Z) else (I, Q, Z)) = (I, Q, Z) := if_neg c4
      obtain ⟨hIu, hKu⟩ := INV_up hV1.1 hV1.2 (by decide) e01.1 e01.2
      refine go_s (pc' := 21) rfl rfl rfl rfl ?_
      refine go_sget (pc' := 22) (v := .ref 63) hS rfl rfl rfl (by decide) rfl rfl ?_
      refine go_s (pc' := 23) rfl rfl rfl rfl ?_
      refine go_s (pc' := 24) (st' := [.int 1, .int 1, .ref 63]) rfl rfl rfl rfl ?_
      refine go_szast (pc' := 25) (q := 1) hS rfl (tr_s hr (a := 63) rfl (by decide)) tbr_inj (Nat.le_of_ble_eq_true rfl) rfl (by decide) (by decide) rfl (hW _ (by decide) (by decide)) rfl (fun h5 hS6 hE7 => ?_)
      refine go_s (pc' := 26) rfl rfl rfl rfl ?_
      refine go_sget (pc' := 27) (v := .ref 64) hS6 rfl rfl rfl (by decide) rfl rfl ?_
      refine go_s (pc' := 28) rfl rfl rfl rfl ?_
      refine go_s (pc' := 29) (st' := [.int 0, .int 1, .ref 64]) rfl rfl rfl rfl ?_
      refine go_szast (pc' := 30) (q := 1) hS6 rfl (tr_s hr (a := 64) rfl (by decide)) tbr_inj (Nat.le_of_ble_eq_true rfl) rfl (by decide) (by decide) rfl (hW _ (by decide) (by decide)) rfl (fun h8 hS9 hE10 => ?_)
      have hE11 := sm_e_trans hE7 hE10
      refine go_s (pc' := 31) (st' := [.int 0]) rfl rfl rfl rfl ?_
      refine go_s (pc' := 32) (lo' := [some (.ref 62), some (.int 0), some (.int 1), some (.int 0)]) rfl rfl rfl rfl ?_
      change sm (tbr am (13 * ln) 77 5088) _ (uI (uI (jn I K) 0 1 1) 1 1 0) Y at hS9
      rw [jn_lo (c := 0) (by decide), jn_lo (c := 1) (by decide)] at hS9
      have hU12 : RU w B R [] true h8 am ln K ((uI (uI I 0 1 1) 1 1 0), Q, Z) := RU_I (hE11) (I' := (uI (uI I 0 1 1) 1 1 0)) (fun _ => rfl) (fun _ => rfl) (Nat.le_refl _) hU
      have hA13 : RA w B R [] true h8 ((uI (uI I 0 1 1) 1 1 0), Q, Z) := RA_u.mpr ⟨_, _, _, _, hS9, hU12⟩
      have hu14 : (uI (uI I 0 1 1) 1 1 0) 0 1 = 1 := rfl
      refine stR_0_1 hA13 (by omega) hIu.1 (by omega) (by omega) (fun h15 hA16 => ?_)
      obtain ⟨M17, eM17⟩ : ∃ y : mM, y = (rrq 0 1 ((uI (uI I 0 1 1) 1 1 0), Q, Z)) := ⟨_, rfl⟩
      rw [← eM17] at hA16
      obtain ⟨I17, Q17, Z17⟩ := M17
      obtain ⟨K17, Y17, am17, ln17, hS17, hU17⟩ := RA_u.mp hA16
      change sm (tbr am17 (13 * ln17) 77 5088) h15 (jn I17 K17) Y17 at hS17
      obtain ⟨-, hWm17, -, -, hr17, -⟩ := id hU17.1
      have hln17 := RU_ln hU17 (by omega)
      have hI18 : INV (X + 45) (I17, Q17, Z17) ∧ KD I17 ∧ I17 0 1 = 1 := by
        have z := INV_sq (k := 0) (p := 1) (by omega) hIu hKu (by decide) (by decide) hu14
        rw [← sq_e (k := 0) (p := 1) hIu (by decide) (by decide)] at z
        rw [← eM17] at z
        exact ⟨z.1, z.2.1, (congrFun z.2.2 1).trans hu14⟩
      refine stR_1_1 hA16 (by omega) hI18.1.1 (by omega) (by omega) (fun h19 hA20 => ?_)
      obtain ⟨M21, eM21⟩ : ∃ y : mM, y = (rrq 1 1 (I17, Q17, Z17)) := ⟨_, rfl⟩
      rw [← eM21] at hA20
      obtain ⟨I21, Q21, Z21⟩ := M21
      obtain ⟨K21, Y21, am21, ln21, hS21, hU21⟩ := RA_u.mp hA20
      change sm (tbr am21 (13 * ln21) 77 5088) h19 (jn I21 K21) Y21 at hS21
      obtain ⟨-, hWm21, -, -, hr21, -⟩ := id hU21.1
      have hln21 := RU_ln hU21 (by omega)
      have hI22 : INV (X + 46) (I21, Q21, Z21) ∧ KD I21 ∧ I21 0 1 = 1 := by
        have z := INV_sq (k := 1) (p := 1) (by omega) hI18.1 hI18.2.1 (by decide) (by decide) hI18.2.2
        rw [← sq_e (k := 1) (p := 1) hI18.1 (by decide) (by decide)] at z
        rw [← eM21] at z
        exact ⟨z.1, z.2.1, (congrFun z.2.2 1).trans hI18.2.2⟩
      refine stR_2_1 hA20 (by omega) hI22.1.1 (by omega) (by omega) (fun h23 hA24 => ?_)
      obtain ⟨M25, eM25⟩ : ∃ y : mM, y = (rrq 2 1 (I21, Q21, Z21)) := ⟨_, rfl⟩
      rw [← eM25] at hA24
      obtain ⟨I25, Q25, Z25⟩ := M25
      obtain ⟨K25, Y25, am25, ln25, hS25, hU25⟩ := RA_u.mp hA24
      change sm (tbr am25 (13 * ln25) 77 5088) h23 (jn I25 K25) Y25 at hS25
      obtain ⟨-, hWm25, -, -, hr25, -⟩ := id hU25.1
      have hln25 := RU_ln hU25 (by omega)
      have hI26 : INV (X + 47) (I25, Q25, Z25) ∧ KD I25 ∧ I25 0 1 = 1 := by
        have z := INV_sq (k := 2) (p := 1) (by omega) hI22.1 hI22.2.1 (by decide) (by decide) hI22.2.2
        rw [← sq_e (k := 2) (p := 1) hI22.1 (by decide) (by decide)] at z
        rw [← eM25] at z
        exact ⟨z.1, z.2.1, (congrFun z.2.2 1).trans hI22.2.2⟩
      refine go_s (pc' := 33) rfl rfl rfl rfl ?_
      refine go_s (pc' := 34) (st' := [.int 3, .int 3]) rfl rfl rfl rfl ?_
      refine go_icmpP (t' := 66) (pc' := 35) rfl rfl rfl (fun _ => ?_) (fun (c : ¬ (3 ≤ (3 : Int32))) => absurd (by decide) c)
      refine go_s (pc' := 67) (st' := [.int 1]) rfl rfl rfl rfl ?_
      refine go_ret rfl rfl ?_
      have hms : rrr0 1 (I, Q, Z) = (1, (I25, Q25, Z25)) := by
        unfold rrr0
        rw [if_pos (show ((I, Q, Z) : mM).1 0 1 = 0 from c00), hif, eM25, eM21, eM17]
        rfl
      rw [hms]
      exact ⟨rfl, RA_R (by omega) hA24⟩
    · skip
      have c4 : (I 1 1) = 0 := Decidable.not_not.mp c4'
      refine go_s (pc' := 18) rfl rfl rfl rfl ?_
      refine go_s (pc' := 19) rfl rfl rfl rfl ?_
      have hU27 : RU w B R [] true h1 am ln K (I, Q, Z) := RU_I (sm_e_refl (tbr am (13 * ln) 77 5088) _) (I' := I) (fun _ => rfl) (fun _ => rfl) (Nat.le_refl _) hU
      have hA28 : RA w B R [] true h1 (I, Q, Z) := RA_u.mpr ⟨_, _, _, _, hS, hU27⟩
      refine go_callV (pc' := 20) rfl rfl rfl (Nat.le_of_ble_eq_true rfl) rfl (sm_o hS rfl) rfl rfl rfl (ra_dc_1 hA28 (by omega) hV.1.1 (by omega) c00 (by omega)) (fun r h29 q30 => ?_)
      obtain ⟨rfl, hA31⟩ := q30
      change RA w B (R + 6) [] true h29 (rdc 1 (I, Q, Z)) at hA31
      obtain ⟨M32, eM32⟩ : ∃ y : mM, y = (rdc 1 (I, Q, Z)) := ⟨_, rfl⟩
      rw [← eM32] at hA31
      obtain ⟨I32, Q32, Z32⟩ := M32
      obtain ⟨K32, Y32, am32, ln32, hS32, hU32⟩ := RA_u.mp hA31
      change sm (tbr am32 (13 * ln32) 77 5088) h29 (jn I32 K32) Y32 at hS32
      obtain ⟨-, hWm32, -, -, hr32, -⟩ := id hU32.1
      have hln32 := RU_ln hU32 (by omega)
      have hDC := DC (p := 1) (by omega) hV.1 hV.2.1 (by decide) c00
      have hV1 : INV (X + 44) (I32, Q32, Z32) ∧ KD I32 := by
        have z1 := hDC.2.1
        have z2 := hDC.2.2.1
        rw [← eM32] at z1 z2
        exact ⟨z1, z2⟩
      have e01 : I32 0 1 = 0 ∧ I32 1 1 = 1 := by
        have z1 := congrFun (rdc_I (p := 1) (M := (I, Q, Z)) (Or.inl rfl)) 1
        have z2 := congrFun (rdc_I (p := 1) (M := (I, Q, Z)) (Or.inr (Or.inl rfl))) 1
        rw [← eM32] at z1 z2
        exact ⟨z1.trans c00, z2⟩
      have hif : (if ((I, Q, Z) : mM).1 1 1 = 0 then rdc 1 (I, Q, Z) else (I, Q, Z)) = (I32, Q32, Z32) := (if_pos c4).trans eM32.symm
      obtain ⟨hIu, hKu⟩ := INV_up hV1.1 hV1.2 (by decide) e01.1 e01.2
      refine go_s (pc' := 21) rfl rfl rfl rfl ?_
      refine go_sget (pc' := 22) (v := .ref 63) hS32 rfl rfl rfl (by decide) rfl rfl ?_
      refine go_s (pc' := 23) rfl rfl rfl rfl ?_
      refine go_s (pc' := 24) (st' := [.int 1, .int 1, .ref 63]) rfl rfl rfl rfl ?_
      refine go_szast (pc' := 25) (q := 1) hS32 rfl (tr_s hr32 (a := 63) rfl (by decide)) tbr_inj (Nat.le_of_ble_eq_true rfl) rfl (by decide) (by decide) rfl (hW _ (by decide) (by decide)) rfl (fun h33 hS34 hE35 => ?_)
      refine go_s (pc' := 26) rfl rfl rfl rfl ?_
      refine go_sget (pc' := 27) (v := .ref 64) hS34 rfl rfl rfl (by decide) rfl rfl ?_
      refine go_s (pc' := 28) rfl rfl rfl rfl ?_
      refine go_s (pc' := 29) (st' := [.int 0, .int 1, .ref 64]) rfl rfl rfl rfl ?_
      refine go_szast (pc' := 30) (q := 1) hS34 rfl (tr_s hr32 (a := 64) rfl (by decide)) tbr_inj (Nat.le_of_ble_eq_true rfl) rfl (by decide) (by decide) rfl (hW _ (by decide) (by decide)) rfl (fun h36 hS37 hE38 => ?_)
      have hE39 := sm_e_trans hE35 hE38
      refine go_s (pc' := 31) (st' := [.int 0]) rfl rfl rfl rfl ?_
      refine go_s (pc' := 32) (lo' := [some (.ref 62), some (.int 0), some (.int 1), some (.int 0)]) rfl rfl rfl rfl ?_
      change sm (tbr am32 (13 * ln32) 77 5088) _ (uI (uI (jn I32 K32) 0 1 1) 1 1 0) Y32 at hS37
      rw [jn_lo (c := 0) (by decide), jn_lo (c := 1) (by decide)] at hS37
      have hU40 : RU w B (R + 6) [] true h36 am32 ln32 K32 ((uI (uI I32 0 1 1) 1 1 0), Q32, Z32) := RU_I (hE39) (I' := (uI (uI I32 0 1 1) 1 1 0)) (fun _ => rfl) (fun _ => rfl) (Nat.le_refl _) hU32
      have hA41 : RA w B (R + 6) [] true h36 ((uI (uI I32 0 1 1) 1 1 0), Q32, Z32) := RA_u.mpr ⟨_, _, _, _, hS37, hU40⟩
      have hu42 : (uI (uI I32 0 1 1) 1 1 0) 0 1 = 1 := rfl
      refine stR_0_1 hA41 (by omega) hIu.1 (by omega) (by omega) (fun h43 hA44 => ?_)
      obtain ⟨M45, eM45⟩ : ∃ y : mM, y = (rrq 0 1 ((uI (uI I32 0 1 1) 1 1 0), Q32, Z32)) := ⟨_, rfl⟩
      rw [← eM45] at hA44
      obtain ⟨I45, Q45, Z45⟩ := M45
      obtain ⟨K45, Y45, am45, ln45, hS45, hU45⟩ := RA_u.mp hA44
      change sm (tbr am45 (13 * ln45) 77 5088) h43 (jn I45 K45) Y45 at hS45
      obtain ⟨-, hWm45, -, -, hr45, -⟩ := id hU45.1
      have hln45 := RU_ln hU45 (by omega)
      have hI46 : INV (X + 45) (I45, Q45, Z45) ∧ KD I45 ∧ I45 0 1 = 1 := by
        have z := INV_sq (k := 0) (p := 1) (by omega) hIu hKu (by decide) (by decide) hu42
        rw [← sq_e (k := 0) (p := 1) hIu (by decide) (by decide)] at z
        rw [← eM45] at z
        exact ⟨z.1, z.2.1, (congrFun z.2.2 1).trans hu42⟩
      refine stR_1_1 hA44 (by omega) hI46.1.1 (by omega) (by omega) (fun h47 hA48 => ?_)
      obtain ⟨M49, eM49⟩ : ∃ y : mM, y = (rrq 1 1 (I45, Q45, Z45)) := ⟨_, rfl⟩
      rw [← eM49] at hA48
      obtain ⟨I49, Q49, Z49⟩ := M49
      obtain ⟨K49, Y49, am49, ln49, hS49, hU49⟩ := RA_u.mp hA48
      change sm (tbr am49 (13 * ln49) 77 5088) h47 (jn I49 K49) Y49 at hS49
      obtain ⟨-, hWm49, -, -, hr49, -⟩ := id hU49.1
      have hln49 := RU_ln hU49 (by omega)
      have hI50 : INV (X + 46) (I49, Q49, Z49) ∧ KD I49 ∧ I49 0 1 = 1 := by
        have z := INV_sq (k := 1) (p := 1) (by omega) hI46.1 hI46.2.1 (by decide) (by decide) hI46.2.2
        rw [← sq_e (k := 1) (p := 1) hI46.1 (by decide) (by decide)] at z
        rw [← eM49] at z
        exact ⟨z.1, z.2.1, (congrFun z.2.2 1).trans hI46.2.2⟩
      refine stR_2_1 hA48 (by omega) hI50.1.1 (by omega) (by omega) (fun h51 hA52 => ?_)
      obtain ⟨M53, eM53⟩ : ∃ y : mM, y = (rrq 2 1 (I49, Q49, Z49)) := ⟨_, rfl⟩
      rw [← eM53] at hA52
      obtain ⟨I53, Q53, Z53⟩ := M53
      obtain ⟨K53, Y53, am53, ln53, hS53, hU53⟩ := RA_u.mp hA52
      change sm (tbr am53 (13 * ln53) 77 5088) h51 (jn I53 K53) Y53 at hS53
      obtain ⟨-, hWm53, -, -, hr53, -⟩ := id hU53.1
      have hln53 := RU_ln hU53 (by omega)
      have hI54 : INV (X + 47) (I53, Q53, Z53) ∧ KD I53 ∧ I53 0 1 = 1 := by
        have z := INV_sq (k := 2) (p := 1) (by omega) hI50.1 hI50.2.1 (by decide) (by decide) hI50.2.2
        rw [← sq_e (k := 2) (p := 1) hI50.1 (by decide) (by decide)] at z
        rw [← eM53] at z
        exact ⟨z.1, z.2.1, (congrFun z.2.2 1).trans hI50.2.2⟩
      refine go_s (pc' := 33) rfl rfl rfl rfl ?_
      refine go_s (pc' := 34) (st' := [.int 3, .int 3]) rfl rfl rfl rfl ?_
      refine go_icmpP (t' := 66) (pc' := 35) rfl rfl rfl (fun _ => ?_) (fun (c : ¬ (3 ≤ (3 : Int32))) => absurd (by decide) c)
      refine go_s (pc' := 67) (st' := [.int 1]) rfl rfl rfl rfl ?_
      refine go_ret rfl rfl ?_
      have hms : rrr0 1 (I, Q, Z) = (1, (I53, Q53, Z53)) := by
        unfold rrr0
        rw [if_pos (show ((I, Q, Z) : mM).1 0 1 = 0 from c00), hif, eM53, eM49, eM45]
        rfl
      rw [hms]
      exact ⟨rfl, RA_R (by omega) hA52⟩
theorem ra_rr_0_2 {w : Nat → Bool} {d B R : Nat} {h : am_Hp} {I : sm_I} {Q : mQ} {Z : mZ} (hA : RA w B R [] true h (I, Q, Z)) (hR : R + 30 < 40000) {X : Nat} (hV : XV X (I, Q, Z)) (hX : X + 300 < 2 ^ 28) (hd : 12 ≤ d) : am_Ev (am_prog w) d 162 [.ref 62, .int 0, .int 2] h (fun r h' => r = some (.int (rrr0 2 (I, Q, Z)).1) ∧ RA w B (R + 9) [] true h' (rrr0 2 (I, Q, Z)).2) := by
  obtain ⟨K, Y, am, ln, hS, hU⟩ := RA_u.mp hA
  change sm (tbr am (13 * ln) 77 5088) h (jn I K) Y at hS
  obtain ⟨hW, hWm, -, -, hr, -⟩ := id hU.1
  have hln := RU_ln hU (by omega)
  obtain ⟨d, rfl⟩ : ∃ e, d = e + 1 := ⟨d - 1, by omega⟩
  refine ev_go rfl (Nat.le_of_ble_eq_true rfl) rfl ?_
  refine go_s (pc' := 1) rfl rfl rfl rfl ?_
  refine go_ifP (t' := 68) (pc' := 2) rfl rfl rfl (fun (c : ¬ (0 : Int32) = 0) => absurd c (by decide)) (fun _ => ?_)
  refine go_s (pc' := 3) rfl rfl rfl rfl ?_
  refine go_s (pc' := 4) (st' := [.int 0, .int 2]) rfl rfl rfl rfl ?_
  refine go_s (pc' := 5) (st' := [.int 3, .int 0, .int 2]) rfl rfl rfl rfl ?_
  refine go_callS (pc' := 6) rfl rfl rfl (Nat.le_of_ble_eq_true rfl) rfl rfl rfl (rt_within_t (q := 2) (n := 3) (by decide) (by decide) (by omega)) (fun r h1 q2 => ?_)
  obtain ⟨rfl, rfl⟩ := q2
  refine go_ifP (t' := 68) (pc' := 7) rfl rfl rfl (fun (c : (1 : Int32) = 0) => absurd c (by decide)) (fun _ => ?_)
  refine go_s (pc' := 8) rfl rfl rfl rfl ?_
  refine go_sget (pc' := 9) (v := .ref 63) hS rfl rfl rfl (by decide) rfl rfl ?_
  refine go_s (pc' := 10) rfl rfl rfl rfl ?_
  refine go_sald (pc' := 11) (q := 2) (v := .int (I 0 2)) hS rfl (tr_s hr (a := 63) rfl (by decide)) rfl rfl (by decide) rfl rfl ?_
  refine go_ifP (t' := 68) (pc' := 12) rfl rfl rfl (fun (c3 : ¬ (I 0 2) = 0) => ?_) (fun (c3' : ¬ ¬ (I 0 2) = 0) => ?_)
  · skip
    refine go_s (pc' := 69) rfl rfl rfl rfl ?_
    refine go_s (pc' := 70) (st' := [.int 1, .int 0]) rfl rfl rfl rfl ?_
    refine go_icmpP (t' := 88) (pc' := 71) rfl rfl rfl (fun _ => ?_) (fun (c : ¬ (¬ (0 : Int32) = 1)) => absurd (by decide) c)
    refine go_s (pc' := 89) rfl rfl rfl rfl ?_
    refine go_s (pc' := 90) (st' := [.int 2, .int 0]) rfl rfl rfl rfl ?_
    refine go_icmpP (t' := 101) (pc' := 91) rfl rfl rfl (fun _ => ?_) (fun (c : ¬ (¬ (0 : Int32) = 2)) => absurd (by decide) c)
    refine go_s (pc' := 102) (st' := [.int 0]) rfl rfl rfl rfl ?_
    refine go_ret rfl rfl ?_
    have hms : rrr0 2 (I, Q, Z) = (0, (I, Q, Z)) := if_neg c3
    rw [hms]
    exact ⟨rfl, RA_R (by omega) hA⟩
  · skip
    have c3 : (I 0 2) = 0 := Decidable.not_not.mp c3'
    have c00 : I 0 2 = 0 := c3
    refine go_s (pc' := 13) rfl rfl rfl rfl ?_
    refine go_sget (pc' := 14) (v := .ref 64) hS rfl rfl rfl (by decide) rfl rfl ?_
    refine go_s (pc' := 15) rfl rfl rfl rfl ?_
    refine go_sald (pc' := 16) (q := 2) (v := .int (I 1 2)) hS rfl (tr_s hr (a := 64) rfl (by decide)) rfl rfl (by decide) rfl rfl ?_
    refine go_ifP (t' := 20) (pc' := 17) rfl rfl rfl (fun (c4 : ¬ (I 1 2) = 0) => ?_) (fun (c4' : ¬ ¬ (I 1 2) = 0) => ?_)
    · skip
      have hV1 : INV (X + 44) (I, Q, Z) ∧ KD I := ⟨INV_X (by omega) hV.1, hV.2.1⟩
      have e01 : I 0 2 = 0 ∧ I 1 2 = 1 := ⟨c00, (hV.1.1.1 2 (by decide)).2.1.resolve_left c4⟩
      have hif : (if ((I, Q, Z) : mM).1 1 2 = 0 then rdc 2 (I, Q, Z) else (I, Q, Z)) = (I, Q, Z) := if_neg c4
      obtain ⟨hIu, hKu⟩ := INV_up hV1.1 hV1.2 (by decide) e01.1 e01.2
      refine go_s (pc' := 21) rfl rfl rfl rfl ?_
      refine go_sget (pc' := 22) (v := .ref 63) hS rfl rfl rfl (by decide) rfl rfl ?_
      refine go_s (pc' := 23) rfl rfl rfl rfl ?_
      refine go_s (pc' := 24) (st' := [.int 1, .int 2, .ref 63]) rfl rfl rfl rfl ?_
      refine go_szast (pc' := 25) (q := 2) hS rfl (tr_s hr (a := 63) rfl (by decide)) tbr_inj (Nat.le_of_ble_eq_true rfl) rfl (by decide) (by decide) rfl (hW _ (by decide) (by decide)) rfl (fun h5 hS6 hE7 => ?_)
      refine go_s (pc' := 26) rfl rfl rfl rfl ?_
      refine go_sget (pc' := 27) (v := .ref 64) hS6 rfl rfl rfl (by decide) rfl rfl ?_
      refine go_s (pc' := 28) rfl rfl rfl rfl ?_
      refine go_s (pc' := 29) (st' := [.int 0, .int 2, .ref 64]) rfl rfl rfl rfl ?_
      refine go_szast (pc' := 30) (q := 2) hS6 rfl (tr_s hr (a := 64) rfl (by decide)) tbr_inj (Nat.le_of_ble_eq_true rfl) rfl (by decide) (by decide) rfl (hW _ (by decide) (by decide)) rfl (fun h8 hS9 hE10 => ?_)
      have hE11 := sm_e_trans hE7 hE10
      refine go_s (pc' := 31) (st' := [.int 0]) rfl rfl rfl rfl ?_
      refine go_s (pc' := 32) (lo' := [some (.ref 62), some (.int 0), some (.int 2), some (.int 0)]) rfl rfl rfl rfl ?_
      change sm (tbr am (13 * ln) 77 5088) _ (uI (uI (jn I K) 0 2 1) 1 2 0) Y at hS9
      rw [jn_lo (c := 0) (by decide), jn_lo (c := 1) (by decide)] at hS9
      have hU12 : RU w B R [] true h8 am ln K ((uI (uI I 0 2 1) 1 2 0), Q, Z) := RU_I (hE11) (I' := (uI (uI I 0 2 1) 1 2 0)) (fun _ => rfl) (fun _ => rfl) (Nat.le_refl _) hU
      have hA13 : RA w B R [] true h8 ((uI (uI I 0 2 1) 1 2 0), Q, Z) := RA_u.mpr ⟨_, _, _, _, hS9, hU12⟩
      have hu14 : (uI (uI I 0 2 1) 1 2 0) 0 2 = 1 := rfl
      refine stR_0_2 hA13 (by omega) hIu.1 (by omega) (by omega) (fun h15 hA16 => ?_)
      obtain ⟨M17, eM17⟩ : ∃ y : mM, y = (rrq 0 2 ((uI (uI I 0 2 1) 1 2 0), Q, Z)) := ⟨_, rfl⟩
      rw [← eM17] at hA16
      obtain ⟨I17, Q17, Z17⟩ := M17
      obtain ⟨K17, Y17, am17, ln17, hS17, hU17⟩ := RA_u.mp hA16
      change sm (tbr am17 (13 * ln17) 77 5088) h15 (jn I17 K17) Y17 at hS17
      obtain ⟨-, hWm17, -, -, hr17, -⟩ := id hU17.1
      have hln17 := RU_ln hU17 (by omega)
      have hI18 : INV (X + 45) (I17, Q17, Z17) ∧ KD I17 ∧ I17 0 2 = 1 := by
        have z := INV_sq (k := 0) (p := 2) (by omega) hIu hKu (by decide) (by decide) hu14
        rw [← sq_e (k := 0) (p := 2) hIu (by decide) (by decide)] at z
        rw [← eM17] at z
        exact ⟨z.1, z.2.1, (congrFun z.2.2 2).trans hu14⟩
      refine stR_1_2 hA16 (by omega) hI18.1.1 (by omega) (by omega) (fun h19 hA20 => ?_)
      obtain ⟨M21, eM21⟩ : ∃ y : mM, y = (rrq 1 2 (I17, Q17, Z17)) := ⟨_, rfl⟩
      rw [← eM21] at hA20
      obtain ⟨I21, Q21, Z21⟩ := M21
      obtain ⟨K21, Y21, am21, ln21, hS21, hU21⟩ := RA_u.mp hA20
      change sm (tbr am21 (13 * ln21) 77 5088) h19 (jn I21 K21) Y21 at hS21
      obtain ⟨-, hWm21, -, -, hr21, -⟩ := id hU21.1
      have hln21 := RU_ln hU21 (by omega)
      have hI22 : INV (X + 46) (I21, Q21, Z21) ∧ KD I21 ∧ I21 0 2 = 1 := by
        have z := INV_sq (k := 1) (p := 2) (by omega) hI18.1 hI18.2.1 (by decide) (by decide) hI18.2.2
        rw [← sq_e (k := 1) (p := 2) hI18.1 (by decide) (by decide)] at z
        rw [← eM21] at z
        exact ⟨z.1, z.2.1, (congrFun z.2.2 2).trans hI18.2.2⟩
      refine stR_2_2 hA20 (by omega) hI22.1.1 (by omega) (by omega) (fun h23 hA24 => ?_)
      obtain ⟨M25, eM25⟩ : ∃ y : mM, y = (rrq 2 2 (I21, Q21, Z21)) := ⟨_, rfl⟩
      rw [← eM25] at hA24
      obtain ⟨I25, Q25, Z25⟩ := M25
      obtain ⟨K25, Y25, am25, ln25, hS25, hU25⟩ := RA_u.mp hA24
      change sm (tbr am25 (13 * ln25) 77 5088) h23 (jn I25 K25) Y25 at hS25
      obtain ⟨-, hWm25, -, -, hr25, -⟩ := id hU25.1
      have hln25 := RU_ln hU25 (by omega)
      have hI26 : INV (X + 47) (I25, Q25, Z25) ∧ KD I25 ∧ I25 0 2 = 1 := by
        have z := INV_sq (k := 2) (p := 2) (by omega) hI22.1 hI22.2.1 (by decide) (by decide) hI22.2.2
        rw [← sq_e (k := 2) (p := 2) hI22.1 (by decide) (by decide)] at z
        rw [← eM25] at z
        exact ⟨z.1, z.2.1, (congrFun z.2.2 2).trans hI22.2.2⟩
      refine go_s (pc' := 33) rfl rfl rfl rfl ?_
      refine go_s (pc' := 34) (st' := [.int 3, .int 3]) rfl rfl rfl rfl ?_
      refine go_icmpP (t' := 66) (pc' := 35) rfl rfl rfl (fun _ => ?_) (fun (c : ¬ (3 ≤ (3 : Int32))) => absurd (by decide) c)
      refine go_s (pc' := 67) (st' := [.int 1]) rfl rfl rfl rfl ?_
      refine go_ret rfl rfl ?_
      have hms : rrr0 2 (I, Q, Z) = (1, (I25, Q25, Z25)) := by
        unfold rrr0
        rw [if_pos (show ((I, Q, Z) : mM).1 0 2 = 0 from c00), hif, eM25, eM21, eM17]
        rfl
      rw [hms]
      exact ⟨rfl, RA_R (by omega) hA24⟩
    · skip
      have c4 : (I 1 2) = 0 := Decidable.not_not.mp c4'
      refine go_s (pc' := 18) rfl rfl rfl rfl ?_
      refine go_s (pc' := 19) rfl rfl rfl rfl ?_
      have hU27 : RU w B R [] true h1 am ln K (I, Q, Z) := RU_I (sm_e_refl (tbr am (13 * ln) 77 5088) _) (I' := I) (fun _ => rfl) (fun _ => rfl) (Nat.le_refl _) hU
      have hA28 : RA w B R [] true h1 (I, Q, Z) := RA_u.mpr ⟨_, _, _, _, hS, hU27⟩
      refine go_callV (pc' := 20) rfl rfl rfl (Nat.le_of_ble_eq_true rfl) rfl (sm_o hS rfl) rfl rfl rfl (ra_dc_2 hA28 (by omega) hV.1.1 (by omega) c00 (by omega)) (fun r h29 q30 => ?_)
      obtain ⟨rfl, hA31⟩ := q30
      change RA w B (R + 6) [] true h29 (rdc 2 (I, Q, Z)) at hA31
      obtain ⟨M32, eM32⟩ : ∃ y : mM, y = (rdc 2 (I, Q, Z)) := ⟨_, rfl⟩
      rw [← eM32] at hA31
      obtain ⟨I32, Q32, Z32⟩ := M32
      obtain ⟨K32, Y32, am32, ln32, hS32, hU32⟩ := RA_u.mp hA31
      change sm (tbr am32 (13 * ln32) 77 5088) h29 (jn I32 K32) Y32 at hS32
      obtain ⟨-, hWm32, -, -, hr32, -⟩ := id hU32.1
      have hln32 := RU_ln hU32 (by omega)
      have hDC := DC (p := 2) (by omega) hV.1 hV.2.1 (by decide) c00
      have hV1 : INV (X + 44) (I32, Q32, Z32) ∧ KD I32 := by
        have z1 := hDC.2.1
        have z2 := hDC.2.2.1
        rw [← eM32] at z1 z2
        exact ⟨z1, z2⟩
      have e01 : I32 0 2 = 0 ∧ I32 1 2 = 1 := by
        have z1 := congrFun (rdc_I (p := 2) (M := (I, Q, Z)) (Or.inl rfl)) 2
        have z2 := congrFun (rdc_I (p := 2) (M := (I, Q, Z)) (Or.inr (Or.inl rfl))) 2
        rw [← eM32] at z1 z2
        exact ⟨z1.trans c00, z2⟩
      have hif : (if ((I, Q, Z) : mM).1 1 2 = 0 then rdc 2 (I, Q, Z) else (I, Q, Z)) = (I32, Q32, Z32) := (if_pos c4).trans eM32.symm
      obtain ⟨hIu, hKu⟩ := INV_up hV1.1 hV1.2 (by decide) e01.1 e01.2
      refine go_s (pc' := 21) rfl rfl rfl rfl ?_
      refine go_sget (pc' := 22) (v := .ref 63) hS32 rfl rfl rfl (by decide) rfl rfl ?_
      refine go_s (pc' := 23) rfl rfl rfl rfl ?_
      refine go_s (pc' := 24) (st' := [.int 1, .int 2, .ref 63]) rfl rfl rfl rfl ?_
      refine go_szast (pc' := 25) (q := 2) hS32 rfl (tr_s hr32 (a := 63) rfl (by decide)) tbr_inj (Nat.le_of_ble_eq_true rfl) rfl (by decide) (by decide) rfl (hW _ (by decide) (by decide)) rfl (fun h33 hS34 hE35 => ?_)
      refine go_s (pc' := 26) rfl rfl rfl rfl ?_
      refine go_sget (pc' := 27) (v := .ref 64) hS34 rfl rfl rfl (by decide) rfl rfl ?_
      refine go_s (pc' := 28) rfl rfl rfl rfl ?_
      refine go_s (pc' := 29) (st' := [.int 0, .int 2, .ref 64]) rfl rfl rfl rfl ?_
      refine go_szast (pc' := 30) (q := 2) hS34 rfl (tr_s hr32 (a := 64) rfl (by decide)) tbr_inj (Nat.le_of_ble_eq_true rfl) rfl (by decide) (by decide) rfl (hW _ (by decide) (by decide)) rfl (fun h36 hS37 hE38 => ?_)
      have hE39 := sm_e_trans hE35 hE38
      refine go_s (pc' := 31) (st' := [.int 0]) rfl rfl rfl rfl ?_
      refine go_s (pc' := 32) (lo' := [some (.ref 62), some (.int 0), some (.int 2), some (.int 0)]) rfl rfl rfl rfl ?_
      change sm (tbr am32 (13 * ln32) 77 5088) _ (uI (uI (jn I32 K32) 0 2 1) 1 2 0) Y32 at hS37
      rw [jn_lo (c := 0) (by decide), jn_lo (c := 1) (by decide)] at hS37
      have hU40 : RU w B (R + 6) [] true h36 am32 ln32 K32 ((uI (uI I32 0 2 1) 1 2 0), Q32, Z32) := RU_I (hE39) (I' := (uI (uI I32 0 2 1) 1 2 0)) (fun _ => rfl) (fun _ => rfl) (Nat.le_refl _) hU32
      have hA41 : RA w B (R + 6) [] true h36 ((uI (uI I32 0 2 1) 1 2 0), Q32, Z32) := RA_u.mpr ⟨_, _, _, _, hS37, hU40⟩
      have hu42 : (uI (uI I32 0 2 1) 1 2 0) 0 2 = 1 := rfl
      refine stR_0_2 hA41 (by omega) hIu.1 (by omega) (by omega) (fun h43 hA44 => ?_)
      obtain ⟨M45, eM45⟩ : ∃ y : mM, y = (rrq 0 2 ((uI (uI I32 0 2 1) 1 2 0), Q32, Z32)) := ⟨_, rfl⟩
      rw [← eM45] at hA44
      obtain ⟨I45, Q45, Z45⟩ := M45
      obtain ⟨K45, Y45, am45, ln45, hS45, hU45⟩ := RA_u.mp hA44
      change sm (tbr am45 (13 * ln45) 77 5088) h43 (jn I45 K45) Y45 at hS45
      obtain ⟨-, hWm45, -, -, hr45, -⟩ := id hU45.1
      have hln45 := RU_ln hU45 (by omega)
      have hI46 : INV (X + 45) (I45, Q45, Z45) ∧ KD I45 ∧ I45 0 2 = 1 := by
        have z := INV_sq (k := 0) (p := 2) (by omega) hIu hKu (by decide) (by decide) hu42
        rw [← sq_e (k := 0) (p := 2) hIu (by decide) (by decide)] at z
        rw [← eM45] at z
        exact ⟨z.1, z.2.1, (congrFun z.2.2 2).trans hu42⟩
      refine stR_1_2 hA44 (by omega) hI46.1.1 (by omega) (by omega) (fun h47 hA48 => ?_)
      obtain ⟨M49, eM49⟩ : ∃ y : mM, y = (rrq 1 2 (I45, Q45, Z45)) := ⟨_, rfl⟩
      rw [← eM49] at hA48
      obtain ⟨I49, Q49, Z49⟩ := M49
      obtain ⟨K49, Y49, am49, ln49, hS49, hU49⟩ := RA_u.mp hA48
      change sm (tbr am49 (13 * ln49) 77 5088) h47 (jn I49 K49) Y49 at hS49
      obtain ⟨-, hWm49, -, -, hr49, -⟩ := id hU49.1
      have hln49 := RU_ln hU49 (by omega)
      have hI50 : INV (X + 46) (I49, Q49, Z49) ∧ KD I49 ∧ I49 0 2 = 1 := by
        have z := INV_sq (k := 1) (p := 2) (by omega) hI46.1 hI46.2.1 (by decide) (by decide) hI46.2.2
        rw [← sq_e (k := 1) (p := 2) hI46.1 (by decide) (by decide)] at z
        rw [← eM49] at z
        exact ⟨z.1, z.2.1, (congrFun z.2.2 2).trans hI46.2.2⟩
      refine stR_2_2 hA48 (by omega) hI50.1.1 (by omega) (by omega) (fun h51 hA52 => ?_)
      obtain ⟨M53, eM53⟩ : ∃ y : mM, y = (rrq 2 2 (I49, Q49, Z49)) := ⟨_, rfl⟩
      rw [← eM53] at hA52
      obtain ⟨I53, Q53, Z53⟩ := M53
      obtain ⟨K53, Y53, am53, ln53, hS53, hU53⟩ := RA_u.mp hA52
      change sm (tbr am53 (13 * ln53) 77 5088) h51 (jn I53 K53) Y53 at hS53
      obtain ⟨-, hWm53, -, -, hr53, -⟩ := id hU53.1
      have hln53 := RU_ln hU53 (by omega)
      have hI54 : INV (X + 47) (I53, Q53, Z53) ∧ KD I53 ∧ I53 0 2 = 1 := by
        have z := INV_sq (k := 2) (p := 2) (by omega) hI50.1 hI50.2.1 (by decide) (by decide) hI50.2.2
        rw [← sq_e (k := 2) (p := 2) hI50.1 (by decide) (by decide)] at z
        rw [← eM53] at z
        exact ⟨z.1, z.2.1, (congrFun z.2.2 2).trans hI50.2.2⟩
      refine go_s (pc' := 33) rfl rfl rfl rfl ?_
      refine go_s (pc' := 34) (st' := [.int 3, .int 3]) rfl rfl rfl rfl ?_
      refine go_icmpP (t' := 66) (pc' := 35) rfl rfl rfl (fun _ => ?_) (fun (c : ¬ (3 ≤ (3 : Int32))) => absurd (by decide) c)
      refine go_s (pc' := 67) (st' := [.int 1]) rfl rfl rfl rfl ?_
      refine go_ret rfl rfl ?_
      have hms : rrr0 2 (I, Q, Z) = (1, (I53, Q53, Z53)) := by
        unfold rrr0
        rw [if_pos (show ((I, Q, Z) : mM).1 0 2 = 0 from c00), hif, eM53, eM49, eM45]
        rfl
      rw [hms]
      exact ⟨rfl, RA_R (by omega) hA52⟩
theorem ra_rr_0_3 {w : Nat → Bool} {d B R : Nat} {h : am_Hp} {I : sm_I} {Q : mQ} {Z : mZ} (hA : RA w B R [] true h (I, Q, Z)) (hR : R + 30 < 40000) {X : Nat} (hV : XV X (I, Q, Z)) (hX : X + 300 < 2 ^ 28) (hd : 12 ≤ d) : am_Ev (am_prog w) d 162 [.ref 62, .int 0, .int 3] h (fun r h' => r = some (.int (rrr0 3 (I, Q, Z)).1) ∧ RA w B (R + 9) [] true h' (rrr0 3 (I, Q, Z)).2) := by
  obtain ⟨K, Y, am, ln, hS, hU⟩ := RA_u.mp hA
  change sm (tbr am (13 * ln) 77 5088) h (jn I K) Y at hS
  obtain ⟨hW, hWm, -, -, hr, -⟩ := id hU.1
  have hln := RU_ln hU (by omega)
  obtain ⟨d, rfl⟩ : ∃ e, d = e + 1 := ⟨d - 1, by omega⟩
  refine ev_go rfl (Nat.le_of_ble_eq_true rfl) rfl ?_
  refine go_s (pc' := 1) rfl rfl rfl rfl ?_
  refine go_ifP (t' := 68) (pc' := 2) rfl rfl rfl (fun (c : ¬ (0 : Int32) = 0) => absurd c (by decide)) (fun _ => ?_)
  refine go_s (pc' := 3) rfl rfl rfl rfl ?_
  refine go_s (pc' := 4) (st' := [.int 0, .int 3]) rfl rfl rfl rfl ?_
  refine go_s (pc' := 5) (st' := [.int 3, .int 0, .int 3]) rfl rfl rfl rfl ?_
  refine go_callS (pc' := 6) rfl rfl rfl (Nat.le_of_ble_eq_true rfl) rfl rfl rfl (rt_within_t (q := 3) (n := 3) (by decide) (by decide) (by omega)) (fun r h1 q2 => ?_)
  obtain ⟨rfl, rfl⟩ := q2
  refine go_ifP (t' := 68) (pc' := 7) rfl rfl rfl (fun (c : (1 : Int32) = 0) => absurd c (by decide)) (fun _ => ?_)
  refine go_s (pc' := 8) rfl rfl rfl rfl ?_
  refine go_sget (pc' := 9) (v := .ref 63) hS rfl rfl rfl (by decide) rfl rfl ?_
  refine go_s (pc' := 10) rfl rfl rfl rfl ?_
  refine go_sald (pc' := 11) (q := 3) (v := .int (I 0 3)) hS rfl (tr_s hr (a := 63) rfl (by decide)) rfl rfl (by decide) rfl rfl ?_
  refine go_ifP (t' := 68) (pc' := 12) rfl rfl rfl (fun (c3 : ¬ (I 0 3) = 0) => ?_) (fun (c3' : ¬ ¬ (I 0 3) = 0) => ?_)
  · skip
    refine go_s (pc' := 69) rfl rfl rfl rfl ?_
    refine go_s (pc' := 70) (st' := [.int 1, .int 0]) rfl rfl rfl rfl ?_
    refine go_icmpP (t' := 88) (pc' := 71) rfl rfl rfl (fun _ => ?_) (fun (c : ¬ (¬ (0 : Int32) = 1)) => absurd (by decide) c)
    refine go_s (pc' := 89) rfl rfl rfl rfl ?_
    refine go_s (pc' := 90) (st' := [.int 2, .int 0]) rfl rfl rfl rfl ?_
    refine go_icmpP (t' := 101) (pc' := 91) rfl rfl rfl (fun _ => ?_) (fun (c : ¬ (¬ (0 : Int32) = 2)) => absurd (by decide) c)
    refine go_s (pc' := 102) (st' := [.int 0]) rfl rfl rfl rfl ?_
    refine go_ret rfl rfl ?_
    have hms : rrr0 3 (I, Q, Z) = (0, (I, Q, Z)) := if_neg c3
    rw [hms]
    exact ⟨rfl, RA_R (by omega) hA⟩
  · skip
    have c3 : (I 0 3) = 0 := Decidable.not_not.mp c3'
    have c00 : I 0 3 = 0 := c3
    refine go_s (pc' := 13) rfl rfl rfl rfl ?_
    refine go_sget (pc' := 14) (v := .ref 64) hS rfl rfl rfl (by decide) rfl rfl ?_
    refine go_s (pc' := 15) rfl rfl rfl rfl ?_
    refine go_sald (pc' := 16) (q := 3) (v := .int (I 1 3)) hS rfl (tr_s hr (a := 64) rfl (by decide)) rfl rfl (by decide) rfl rfl ?_
    refine go_ifP (t' := 20) (pc' := 17) rfl rfl rfl (fun (c4 : ¬ (I 1 3) = 0) => ?_) (fun (c4' : ¬ ¬ (I 1 3) = 0) => ?_)
    · skip
      have hV1 : INV (X + 44) (I, Q, Z) ∧ KD I := ⟨INV_X (by omega) hV.1, hV.2.1⟩
      have e01 : I 0 3 = 0 ∧ I 1 3 = 1 := ⟨c00, (hV.1.1.1 3 (by decide)).2.1.resolve_left c4⟩
      have hif : (if ((I, Q, Z) : mM).1 1 3 = 0 then rdc 3 (I, Q, Z) else (I, Q, Z)) = (I, Q, Z) := if_neg c4
      obtain ⟨hIu, hKu⟩ := INV_up hV1.1 hV1.2 (by decide) e01.1 e01.2
      refine go_s (pc' := 21) rfl rfl rfl rfl ?_
      refine go_sget (pc' := 22) (v := .ref 63) hS rfl rfl rfl (by decide) rfl rfl ?_
      refine go_s (pc' := 23) rfl rfl rfl rfl ?_
      refine go_s (pc' := 24) (st' := [.int 1, .int 3, .ref 63]) rfl rfl rfl rfl ?_
      refine go_szast (pc' := 25) (q := 3) hS rfl (tr_s hr (a := 63) rfl (by decide)) tbr_inj (Nat.le_of_ble_eq_true rfl) rfl (by decide) (by decide) rfl (hW _ (by decide) (by decide)) rfl (fun h5 hS6 hE7 => ?_)
      refine go_s (pc' := 26) rfl rfl rfl rfl ?_
      refine go_sget (pc' := 27) (v := .ref 64) hS6 rfl rfl rfl (by decide) rfl rfl ?_
      refine go_s (pc' := 28) rfl rfl rfl rfl ?_
      refine go_s (pc' := 29) (st' := [.int 0, .int 3, .ref 64]) rfl rfl rfl rfl ?_
      refine go_szast (pc' := 30) (q := 3) hS6 rfl (tr_s hr (a := 64) rfl (by decide)) tbr_inj (Nat.le_of_ble_eq_true rfl) rfl (by decide) (by decide) rfl (hW _ (by decide) (by decide)) rfl (fun h8 hS9 hE10 => ?_)
      have hE11 := sm_e_trans hE7 hE10
      refine go_s (pc' := 31) (st' := [.int 0]) rfl rfl rfl rfl ?_
      refine go_s (pc' := 32) (lo' := [some (.ref 62), some (.int 0), some (.int 3), some (.int 0)]) rfl rfl rfl rfl ?_
      change sm (tbr am (13 * ln) 77 5088) _ (uI (uI (jn I K) 0 3 1) 1 3 0) Y at hS9
      rw [jn_lo (c := 0) (by decide), jn_lo (c := 1) (by decide)] at hS9
      have hU12 : RU w B R [] true h8 am ln K ((uI (uI I 0 3 1) 1 3 0), Q, Z) := RU_I (hE11) (I' := (uI (uI I 0 3 1) 1 3 0)) (fun _ => rfl) (fun _ => rfl) (Nat.le_refl _) hU
      have hA13 : RA w B R [] true h8 ((uI (uI I 0 3 1) 1 3 0), Q, Z) := RA_u.mpr ⟨_, _, _, _, hS9, hU12⟩
      have hu14 : (uI (uI I 0 3 1) 1 3 0) 0 3 = 1 := rfl
      refine stR_0_3 hA13 (by omega) hIu.1 (by omega) (by omega) (fun h15 hA16 => ?_)
      obtain ⟨M17, eM17⟩ : ∃ y : mM, y = (rrq 0 3 ((uI (uI I 0 3 1) 1 3 0), Q, Z)) := ⟨_, rfl⟩
      rw [← eM17] at hA16
      obtain ⟨I17, Q17, Z17⟩ := M17
      obtain ⟨K17, Y17, am17, ln17, hS17, hU17⟩ := RA_u.mp hA16
      change sm (tbr am17 (13 * ln17) 77 5088) h15 (jn I17 K17) Y17 at hS17
      obtain ⟨-, hWm17, -, -, hr17, -⟩ := id hU17.1
      have hln17 := RU_ln hU17 (by omega)
      have hI18 : INV (X + 45) (I17, Q17, Z17) ∧ KD I17 ∧ I17 0 3 = 1 := by
        have z := INV_sq (k := 0) (p := 3) (by omega) hIu hKu (by decide) (by decide) hu14
        rw [← sq_e (k := 0) (p := 3) hIu (by decide) (by decide)] at z
        rw [← eM17] at z
        exact ⟨z.1, z.2.1, (congrFun z.2.2 3).trans hu14⟩
      refine stR_1_3 hA16 (by omega) hI18.1.1 (by omega) (by omega) (fun h19 hA20 => ?_)
      obtain ⟨M21, eM21⟩ : ∃ y : mM, y = (rrq 1 3 (I17, Q17, Z17)) := ⟨_, rfl⟩
      rw [← eM21] at hA20
      obtain ⟨I21, Q21, Z21⟩ := M21
      obtain ⟨K21, Y21, am21, ln21, hS21, hU21⟩ := RA_u.mp hA20
      change sm (tbr am21 (13 * ln21) 77 5088) h19 (jn I21 K21) Y21 at hS21
      obtain ⟨-, hWm21, -, -, hr21, -⟩ := id hU21.1
      have hln21 := RU_ln hU21 (by omega)
      have hI22 : INV (X + 46) (I21, Q21, Z21) ∧ KD I21 ∧ I21 0 3 = 1 := by
        have z := INV_sq (k := 1) (p := 3) (by omega) hI18.1 hI18.2.1 (by decide) (by decide) hI18.2.2
        rw [← sq_e (k := 1) (p := 3) hI18.1 (by decide) (by decide)] at z
        rw [← eM21] at z
        exact ⟨z.1, z.2.1, (congrFun z.2.2 3).trans hI18.2.2⟩
      refine stR_2_3 hA20 (by omega) hI22.1.1 (by omega) (by omega) (fun h23 hA24 => ?_)
      obtain ⟨M25, eM25⟩ : ∃ y : mM, y = (rrq 2 3 (I21, Q21, Z21)) := ⟨_, rfl⟩
      rw [← eM25] at hA24
      obtain ⟨I25, Q25, Z25⟩ := M25
      obtain ⟨K25, Y25, am25, ln25, hS25, hU25⟩ := RA_u.mp hA24
      change sm (tbr am25 (13 * ln25) 77 5088) h23 (jn I25 K25) Y25 at hS25
      obtain ⟨-, hWm25, -, -, hr25, -⟩ := id hU25.1
      have hln25 := RU_ln hU25 (by omega)
      have hI26 : INV (X + 47) (I25, Q25, Z25) ∧ KD I25 ∧ I25 0 3 = 1 := by
        have z := INV_sq (k := 2) (p := 3) (by omega) hI22.1 hI22.2.1 (by decide) (by decide) hI22.2.2
        rw [← sq_e (k := 2) (p := 3) hI22.1 (by decide) (by decide)] at z
        rw [← eM25] at z
        exact ⟨z.1, z.2.1, (congrFun z.2.2 3).trans hI22.2.2⟩
      refine go_s (pc' := 33) rfl rfl rfl rfl ?_
      refine go_s (pc' := 34) (st' := [.int 3, .int 3]) rfl rfl rfl rfl ?_
      refine go_icmpP (t' := 66) (pc' := 35) rfl rfl rfl (fun _ => ?_) (fun (c : ¬ (3 ≤ (3 : Int32))) => absurd (by decide) c)
      refine go_s (pc' := 67) (st' := [.int 1]) rfl rfl rfl rfl ?_
      refine go_ret rfl rfl ?_
      have hms : rrr0 3 (I, Q, Z) = (1, (I25, Q25, Z25)) := by
        unfold rrr0
        rw [if_pos (show ((I, Q, Z) : mM).1 0 3 = 0 from c00), hif, eM25, eM21, eM17]
        rfl
      rw [hms]
      exact ⟨rfl, RA_R (by omega) hA24⟩
    · skip
      have c4 : (I 1 3) = 0 := Decidable.not_not.mp c4'
      refine go_s (pc' := 18) rfl rfl rfl rfl ?_
      refine go_s (pc' := 19) rfl rfl rfl rfl ?_
      have hU27 : RU w B R [] true h1 am ln K (I, Q, Z) := RU_I (sm_e_refl (tbr am (13 * ln) 77 5088) _) (I' := I) (fun _ => rfl) (fun _ => rfl) (Nat.le_refl _) hU
      have hA28 : RA w B R [] true h1 (I, Q, Z) := RA_u.mpr ⟨_, _, _, _, hS, hU27⟩
      refine go_callV (pc' := 20) rfl rfl rfl (Nat.le_of_ble_eq_true rfl) rfl (sm_o hS rfl) rfl rfl rfl (ra_dc_3 hA28 (by omega) hV.1.1 (by omega) c00 (by omega)) (fun r h29 q30 => ?_)
      obtain ⟨rfl, hA31⟩ := q30
      change RA w B (R + 6) [] true h29 (rdc 3 (I, Q, Z)) at hA31
      obtain ⟨M32, eM32⟩ : ∃ y : mM, y = (rdc 3 (I, Q, Z)) := ⟨_, rfl⟩
      rw [← eM32] at hA31
      obtain ⟨I32, Q32, Z32⟩ := M32
      obtain ⟨K32, Y32, am32, ln32, hS32, hU32⟩ := RA_u.mp hA31
      change sm (tbr am32 (13 * ln32) 77 5088) h29 (jn I32 K32) Y32 at hS32
      obtain ⟨-, hWm32, -, -, hr32, -⟩ := id hU32.1
      have hln32 := RU_ln hU32 (by omega)
      have hDC := DC (p := 3) (by omega) hV.1 hV.2.1 (by decide) c00
      have hV1 : INV (X + 44) (I32, Q32, Z32) ∧ KD I32 := by
        have z1 := hDC.2.1
        have z2 := hDC.2.2.1
        rw [← eM32] at z1 z2
        exact ⟨z1, z2⟩
      have e01 : I32 0 3 = 0 ∧ I32 1 3 = 1 := by
        have z1 := congrFun (rdc_I (p := 3) (M := (I, Q, Z)) (Or.inl rfl)) 3
        have z2 := congrFun (rdc_I (p := 3) (M := (I, Q, Z)) (Or.inr (Or.inl rfl))) 3
        rw [← eM32] at z1 z2
        exact ⟨z1.trans c00, z2⟩
      have hif : (if ((I, Q, Z) : mM).1 1 3 = 0 then rdc 3 (I, Q, Z) else (I, Q, Z)) = (I32, Q32, Z32) := (if_pos c4).trans eM32.symm
      obtain ⟨hIu, hKu⟩ := INV_up hV1.1 hV1.2 (by decide) e01.1 e01.2
      refine go_s (pc' := 21) rfl rfl rfl rfl ?_
      refine go_sget (pc' := 22) (v := .ref 63) hS32 rfl rfl rfl (by decide) rfl rfl ?_
      refine go_s (pc' := 23) rfl rfl rfl rfl ?_
      refine go_s (pc' := 24) (st' := [.int 1, .int 3, .ref 63]) rfl rfl rfl rfl ?_
      refine go_szast (pc' := 25) (q := 3) hS32 rfl (tr_s hr32 (a := 63) rfl (by decide)) tbr_inj (Nat.le_of_ble_eq_true rfl) rfl (by decide) (by decide) rfl (hW _ (by decide) (by decide)) rfl (fun h33 hS34 hE35 => ?_)
      refine go_s (pc' := 26) rfl rfl rfl rfl ?_
      refine go_sget (pc' := 27) (v := .ref 64) hS34 rfl rfl rfl (by decide) rfl rfl ?_
      refine go_s (pc' := 28) rfl rfl rfl rfl ?_
      refine go_s (pc' := 29) (st' := [.int 0, .int 3, .ref 64]) rfl rfl rfl rfl ?_
      refine go_szast (pc' := 30) (q := 3) hS34 rfl (tr_s hr32 (a := 64) rfl (by decide)) tbr_inj (Nat.le_of_ble_eq_true rfl) rfl (by decide) (by decide) rfl (hW _ (by decide) (by decide)) rfl (fun h36 hS37 hE38 => ?_)
      have hE39 := sm_e_trans hE35 hE38
      refine go_s (pc' := 31) (st' := [.int 0]) rfl rfl rfl rfl ?_
      refine go_s (pc' := 32) (lo' := [some (.ref 62), some (.int 0), some (.int 3), some (.int 0)]) rfl rfl rfl rfl ?_
      change sm (tbr am32 (13 * ln32) 77 5088) _ (uI (uI (jn I32 K32) 0 3 1) 1 3 0) Y32 at hS37
      rw [jn_lo (c := 0) (by decide), jn_lo (c := 1) (by decide)] at hS37
      have hU40 : RU w B (R + 6) [] true h36 am32 ln32 K32 ((uI (uI I32 0 3 1) 1 3 0), Q32, Z32) := RU_I (hE39) (I' := (uI (uI I32 0 3 1) 1 3 0)) (fun _ => rfl) (fun _ => rfl) (Nat.le_refl _) hU32
      have hA41 : RA w B (R + 6) [] true h36 ((uI (uI I32 0 3 1) 1 3 0), Q32, Z32) := RA_u.mpr ⟨_, _, _, _, hS37, hU40⟩
      have hu42 : (uI (uI I32 0 3 1) 1 3 0) 0 3 = 1 := rfl
      refine stR_0_3 hA41 (by omega) hIu.1 (by omega) (by omega) (fun h43 hA44 => ?_)
      obtain ⟨M45, eM45⟩ : ∃ y : mM, y = (rrq 0 3 ((uI (uI I32 0 3 1) 1 3 0), Q32, Z32)) := ⟨_, rfl⟩
      rw [← eM45] at hA44
      obtain ⟨I45, Q45, Z45⟩ := M45
      obtain ⟨K45, Y45, am45, ln45, hS45, hU45⟩ := RA_u.mp hA44
      change sm (tbr am45 (13 * ln45) 77 5088) h43 (jn I45 K45) Y45 at hS45
      obtain ⟨-, hWm45, -, -, hr45, -⟩ := id hU45.1
      have hln45 := RU_ln hU45 (by omega)
      have hI46 : INV (X + 45) (I45, Q45, Z45) ∧ KD I45 ∧ I45 0 3 = 1 := by
        have z := INV_sq (k := 0) (p := 3) (by omega) hIu hKu (by decide) (by decide) hu42
        rw [← sq_e (k := 0) (p := 3) hIu (by decide) (by decide)] at z
        rw [← eM45] at z
        exact ⟨z.1, z.2.1, (congrFun z.2.2 3).trans hu42⟩
      refine stR_1_3 hA44 (by omega) hI46.1.1 (by omega) (by omega) (fun h47 hA48 => ?_)
      obtain ⟨M49, eM49⟩ : ∃ y : mM, y = (rrq 1 3 (I45, Q45, Z45)) := ⟨_, rfl⟩
      rw [← eM49] at hA48
      obtain ⟨I49, Q49, Z49⟩ := M49
      obtain ⟨K49, Y49, am49, ln49, hS49, hU49⟩ := RA_u.mp hA48
      change sm (tbr am49 (13 * ln49) 77 5088) h47 (jn I49 K49) Y49 at hS49
      obtain ⟨-, hWm49, -, -, hr49, -⟩ := id hU49.1
      have hln49 := RU_ln hU49 (by omega)
      have hI50 : INV (X + 46) (I49, Q49, Z49) ∧ KD I49 ∧ I49 0 3 = 1 := by
        have z := INV_sq (k := 1) (p := 3) (by omega) hI46.1 hI46.2.1 (by decide) (by decide) hI46.2.2
        rw [← sq_e (k := 1) (p := 3) hI46.1 (by decide) (by decide)] at z
        rw [← eM49] at z
        exact ⟨z.1, z.2.1, (congrFun z.2.2 3).trans hI46.2.2⟩
      refine stR_2_3 hA48 (by omega) hI50.1.1 (by omega) (by omega) (fun h51 hA52 => ?_)
      obtain ⟨M53, eM53⟩ : ∃ y : mM, y = (rrq 2 3 (I49, Q49, Z49)) := ⟨_, rfl⟩
      rw [← eM53] at hA52
      obtain ⟨I53, Q53, Z53⟩ := M53
      obtain ⟨K53, Y53, am53, ln53, hS53, hU53⟩ := RA_u.mp hA52
      change sm (tbr am53 (13 * ln53) 77 5088) h51 (jn I53 K53) Y53 at hS53
      obtain ⟨-, hWm53, -, -, hr53, -⟩ := id hU53.1
      have hln53 := RU_ln hU53 (by omega)
      have hI54 : INV (X + 47) (I53, Q53, Z53) ∧ KD I53 ∧ I53 0 3 = 1 := by
        have z := INV_sq (k := 2) (p := 3) (by omega) hI50.1 hI50.2.1 (by decide) (by decide) hI50.2.2
        rw [← sq_e (k := 2) (p := 3) hI50.1 (by decide) (by decide)] at z
        rw [← eM53] at z
        exact ⟨z.1, z.2.1, (congrFun z.2.2 3).trans hI50.2.2⟩
      refine go_s (pc' := 33) rfl rfl rfl rfl ?_
      refine go_s (pc' := 34) (st' := [.int 3, .int 3]) rfl rfl rfl rfl ?_
      refine go_icmpP (t' := 66) (pc' := 35) rfl rfl rfl (fun _ => ?_) (fun (c : ¬ (3 ≤ (3 : Int32))) => absurd (by decide) c)
      refine go_s (pc' := 67) (st' := [.int 1]) rfl rfl rfl rfl ?_
      refine go_ret rfl rfl ?_
      have hms : rrr0 3 (I, Q, Z) = (1, (I53, Q53, Z53)) := by
        unfold rrr0
        rw [if_pos (show ((I, Q, Z) : mM).1 0 3 = 0 from c00), hif, eM53, eM49, eM45]
        rfl
      rw [hms]
      exact ⟨rfl, RA_R (by omega) hA52⟩
theorem ra_rr_1_0 {w : Nat → Bool} {d B R : Nat} {h : am_Hp} {I : sm_I} {Q : mQ} {Z : mZ} (hA : RA w B R [] true h (I, Q, Z)) (hR : R + 0 < 40000) (hd : 2 ≤ d) : am_Ev (am_prog w) d 162 [.ref 62, .int 1, .int 0] h (fun r h' => r = some (.int (mrr1 0 (I, Q, Z)).1) ∧ RA w B R [] true h' (mrr1 0 (I, Q, Z)).2) := by
  obtain ⟨K, Y, am, ln, hS, hU⟩ := RA_u.mp hA
  change sm (tbr am (13 * ln) 77 5088) h (jn I K) Y at hS
  obtain ⟨hW, hWm, -, -, hr, -⟩ := id hU.1
  have hln := RU_ln hU (by omega)
  obtain ⟨d, rfl⟩ : ∃ e, d = e + 1 := ⟨d - 1, by omega⟩
  refine ev_go rfl (Nat.le_of_ble_eq_true rfl) rfl ?_
  refine go_s (pc' := 1) rfl rfl rfl rfl ?_
  refine go_ifP (t' := 68) (pc' := 2) rfl rfl rfl (fun _ => ?_) (fun (c : ¬ (¬ (1 : Int32) = 0)) => absurd (by decide) c)
  refine go_s (pc' := 69) rfl rfl rfl rfl ?_
  refine go_s (pc' := 70) (st' := [.int 1, .int 1]) rfl rfl rfl rfl ?_
  refine go_icmpP (t' := 88) (pc' := 71) rfl rfl rfl (fun (c : ¬ (1 : Int32) = 1) => absurd c (by decide)) (fun _ => ?_)
  refine go_s (pc' := 72) rfl rfl rfl rfl ?_
  refine go_s (pc' := 73) (st' := [.int 0, .int 0]) rfl rfl rfl rfl ?_
  refine go_s (pc' := 74) (st' := [.int 1, .int 0, .int 0]) rfl rfl rfl rfl ?_
  refine go_callS (pc' := 75) rfl rfl rfl (Nat.le_of_ble_eq_true rfl) rfl rfl rfl (rt_within_t (q := 0) (n := 1) (by decide) (by decide) (by omega)) (fun r h1 q2 => ?_)
  obtain ⟨rfl, rfl⟩ := q2
  refine go_ifP (t' := 88) (pc' := 76) rfl rfl rfl (fun (c : (1 : Int32) = 0) => absurd c (by decide)) (fun _ => ?_)
  refine go_s (pc' := 77) rfl rfl rfl rfl ?_
  refine go_sget (pc' := 78) (v := .ref 66) hS rfl rfl rfl (by decide) rfl rfl ?_
  refine go_s (pc' := 79) rfl rfl rfl rfl ?_
  refine go_sald (pc' := 80) (q := 0) (v := .int (I 3 0)) hS rfl (tr_s hr (a := 66) rfl (by decide)) rfl rfl (by decide) rfl rfl ?_
  refine go_ifP (t' := 88) (pc' := 81) rfl rfl rfl (fun (c3 : ¬ (I 3 0) = 0) => ?_) (fun (c3' : ¬ ¬ (I 3 0) = 0) => ?_)
  · skip
    refine go_s (pc' := 89) rfl rfl rfl rfl ?_
    refine go_s (pc' := 90) (st' := [.int 2, .int 1]) rfl rfl rfl rfl ?_
    refine go_icmpP (t' := 101) (pc' := 91) rfl rfl rfl (fun _ => ?_) (fun (c : ¬ (¬ (1 : Int32) = 2)) => absurd (by decide) c)
    refine go_s (pc' := 102) (st' := [.int 0]) rfl rfl rfl rfl ?_
    refine go_ret rfl rfl ?_
    have hms : mrr1 0 (I, Q, Z) = (0, (I, Q, Z)) := if_neg c3
    rw [hms]
    exact ⟨rfl, hA⟩
  · skip
    have c3 : (I 3 0) = 0 := Decidable.not_not.mp c3'
    refine go_s (pc' := 82) rfl rfl rfl rfl ?_
    refine go_sget (pc' := 83) (v := .ref 66) hS rfl rfl rfl (by decide) rfl rfl ?_
    refine go_s (pc' := 84) rfl rfl rfl rfl ?_
    refine go_s (pc' := 85) (st' := [.int 1, .int 0, .ref 66]) rfl rfl rfl rfl ?_
    refine go_szast (pc' := 86) (q := 0) hS rfl (tr_s hr (a := 66) rfl (by decide)) tbr_inj (Nat.le_of_ble_eq_true rfl) rfl (by decide) (by decide) rfl (hW _ (by decide) (by decide)) rfl (fun h4 hS5 hE6 => ?_)
    refine go_s (pc' := 87) (st' := [.int 1]) rfl rfl rfl rfl ?_
    refine go_ret rfl rfl ?_
    change sm (tbr am (13 * ln) 77 5088) _ (uI (jn I K) 3 0 1) Y at hS5
    rw [jn_lo (c := 3) (by decide)] at hS5
    have hU7 : RU w B R [] true h4 am ln K ((uI I 3 0 1), Q, Z) := RU_I (hE6) (I' := (uI I 3 0 1)) (fun _ => rfl) (fun _ => rfl) (Nat.le_refl _) hU
    have hA8 : RA w B R [] true h4 ((uI I 3 0 1), Q, Z) := RA_u.mpr ⟨_, _, _, _, hS5, hU7⟩
    have hms : mrr1 0 (I, Q, Z) = (1, ((uI I 3 0 1), Q, Z)) := if_pos c3
    rw [hms]
    exact ⟨rfl, hA8⟩
theorem ra_rr_1_1 {w : Nat → Bool} {d B R : Nat} {h : am_Hp} {I : sm_I} {Q : mQ} {Z : mZ} (hA : RA w B R [] true h (I, Q, Z)) (hR : R + 0 < 40000) (hd : 2 ≤ d) : am_Ev (am_prog w) d 162 [.ref 62, .int 1, .int 1] h (fun r h' => r = some (.int (mrr1 1 (I, Q, Z)).1) ∧ RA w B R [] true h' (mrr1 1 (I, Q, Z)).2) := by
  obtain ⟨K, Y, am, ln, hS, hU⟩ := RA_u.mp hA
  change sm (tbr am (13 * ln) 77 5088) h (jn I K) Y at hS
  obtain ⟨hW, hWm, -, -, hr, -⟩ := id hU.1
  have hln := RU_ln hU (by omega)
  obtain ⟨d, rfl⟩ : ∃ e, d = e + 1 := ⟨d - 1, by omega⟩
  refine ev_go rfl (Nat.le_of_ble_eq_true rfl) rfl ?_
  refine go_s (pc' := 1) rfl rfl rfl rfl ?_
  refine go_ifP (t' := 68) (pc' := 2) rfl rfl rfl (fun _ => ?_) (fun (c : ¬ (¬ (1 : Int32) = 0)) => absurd (by decide) c)
  refine go_s (pc' := 69) rfl rfl rfl rfl ?_
  refine go_s (pc' := 70) (st' := [.int 1, .int 1]) rfl rfl rfl rfl ?_
  refine go_icmpP (t' := 88) (pc' := 71) rfl rfl rfl (fun (c : ¬ (1 : Int32) = 1) => absurd c (by decide)) (fun _ => ?_)
  refine go_s (pc' := 72) rfl rfl rfl rfl ?_
  refine go_s (pc' := 73) (st' := [.int 0, .int 1]) rfl rfl rfl rfl ?_
  refine go_s (pc' := 74) (st' := [.int 1, .int 0, .int 1]) rfl rfl rfl rfl ?_
  refine go_callS (pc' := 75) rfl rfl rfl (Nat.le_of_ble_eq_true rfl) rfl rfl rfl (rt_within_t (q := 1) (n := 1) (by decide) (by decide) (by omega)) (fun r h1 q2 => ?_)
  obtain ⟨rfl, rfl⟩ := q2
  refine go_ifP (t' := 88) (pc' := 76) rfl rfl rfl (fun (c : (1 : Int32) = 0) => absurd c (by decide)) (fun _ => ?_)
  refine go_s (pc' := 77) rfl rfl rfl rfl ?_
  refine go_sget (pc' := 78) (v := .ref 66) hS rfl rfl rfl (by decide) rfl rfl ?_
  refine go_s (pc' := 79) rfl rfl rfl rfl ?_
  refine go_sald (pc' := 80) (q := 1) (v := .int (I 3 1)) hS rfl (tr_s hr (a := 66) rfl (by decide)) rfl rfl (by decide) rfl rfl ?_
  refine go_ifP (t' := 88) (pc' := 81) rfl rfl rfl (fun (c3 : ¬ (I 3 1) = 0) => ?_) (fun (c3' : ¬ ¬ (I 3 1) = 0) => ?_)
  · skip
    refine go_s (pc' := 89) rfl rfl rfl rfl ?_
    refine go_s (pc' := 90) (st' := [.int 2, .int 1]) rfl rfl rfl rfl ?_
    refine go_icmpP (t' := 101) (pc' := 91) rfl rfl rfl (fun _ => ?_) (fun (c : ¬ (¬ (1 : Int32) = 2)) => absurd (by decide) c)
    refine go_s (pc' := 102) (st' := [.int 0]) rfl rfl rfl rfl ?_
    refine go_ret rfl rfl ?_
    have hms : mrr1 1 (I, Q, Z) = (0, (I, Q, Z)) := if_neg c3
    rw [hms]
    exact ⟨rfl, hA⟩
  · skip
    have c3 : (I 3 1) = 0 := Decidable.not_not.mp c3'
    refine go_s (pc' := 82) rfl rfl rfl rfl ?_
    refine go_sget (pc' := 83) (v := .ref 66) hS rfl rfl rfl (by decide) rfl rfl ?_
    refine go_s (pc' := 84) rfl rfl rfl rfl ?_
    refine go_s (pc' := 85) (st' := [.int 1, .int 1, .ref 66]) rfl rfl rfl rfl ?_
    refine go_szast (pc' := 86) (q := 1) hS rfl (tr_s hr (a := 66) rfl (by decide)) tbr_inj (Nat.le_of_ble_eq_true rfl) rfl (by decide) (by decide) rfl (hW _ (by decide) (by decide)) rfl (fun h4 hS5 hE6 => ?_)
    refine go_s (pc' := 87) (st' := [.int 1]) rfl rfl rfl rfl ?_
    refine go_ret rfl rfl ?_
    change sm (tbr am (13 * ln) 77 5088) _ (uI (jn I K) 3 1 1) Y at hS5
    rw [jn_lo (c := 3) (by decide)] at hS5
    have hU7 : RU w B R [] true h4 am ln K ((uI I 3 1 1), Q, Z) := RU_I (hE6) (I' := (uI I 3 1 1)) (fun _ => rfl) (fun _ => rfl) (Nat.le_refl _) hU
    have hA8 : RA w B R [] true h4 ((uI I 3 1 1), Q, Z) := RA_u.mpr ⟨_, _, _, _, hS5, hU7⟩
    have hms : mrr1 1 (I, Q, Z) = (1, ((uI I 3 1 1), Q, Z)) := if_pos c3
    rw [hms]
    exact ⟨rfl, hA8⟩
theorem ra_rr_2_0 {w : Nat → Bool} {d B R : Nat} {h : am_Hp} {I : sm_I} {Q : mQ} {Z : mZ} (hA : RA w B R [] true h (I, Q, Z)) (hR : R + 4 < 40000) {X : Nat} (hM : MID X (I, Q, Z)) (hX : X + 50 < 2 ^ 28) (hd : 10 ≤ d) : am_Ev (am_prog w) d 162 [.ref 62, .int 2, .int 0] h (fun r h' => r = some (.int (rrr2 0 (I, Q, Z)).1) ∧ RA w B (R + 2) [] true h' (rrr2 0 (I, Q, Z)).2) := by
  obtain ⟨K, Y, am, ln, hS, hU⟩ := RA_u.mp hA
  change sm (tbr am (13 * ln) 77 5088) h (jn I K) Y at hS
  obtain ⟨hW, hWm, -, -, hr, -⟩ := id hU.1
  have hln := RU_ln hU (by omega)
  obtain ⟨d, rfl⟩ : ∃ e, d = e + 1 := ⟨d - 1, by omega⟩
  refine ev_go rfl (Nat.le_of_ble_eq_true rfl) rfl ?_
  refine go_s (pc' := 1) rfl rfl rfl rfl ?_
  refine go_ifP (t' := 68) (pc' := 2) rfl rfl rfl (fun _ => ?_) (fun (c : ¬ (¬ (2 : Int32) = 0)) => absurd (by decide) c)
  refine go_s (pc' := 69) rfl rfl rfl rfl ?_
  refine go_s (pc' := 70) (st' := [.int 1, .int 2]) rfl rfl rfl rfl ?_
  refine go_icmpP (t' := 88) (pc' := 71) rfl rfl rfl (fun _ => ?_) (fun (c : ¬ (¬ (2 : Int32) = 1)) => absurd (by decide) c)
  refine go_s (pc' := 89) rfl rfl rfl rfl ?_
  refine go_s (pc' := 90) (st' := [.int 2, .int 2]) rfl rfl rfl rfl ?_
  refine go_icmpP (t' := 101) (pc' := 91) rfl rfl rfl (fun (c : ¬ (2 : Int32) = 2) => absurd c (by decide)) (fun _ => ?_)
  refine go_s (pc' := 92) rfl rfl rfl rfl ?_
  refine go_s (pc' := 93) (st' := [.int 0, .int 0]) rfl rfl rfl rfl ?_
  refine go_s (pc' := 94) (st' := [.int 1, .int 0, .int 0]) rfl rfl rfl rfl ?_
  refine go_callS (pc' := 95) rfl rfl rfl (Nat.le_of_ble_eq_true rfl) rfl rfl rfl (rt_within_t (q := 0) (n := 1) (by decide) (by decide) (by omega)) (fun r h1 q2 => ?_)
  obtain ⟨rfl, rfl⟩ := q2
  refine go_ifP (t' := 101) (pc' := 96) rfl rfl rfl (fun (c : (1 : Int32) = 0) => absurd c (by decide)) (fun _ => ?_)
  refine go_s (pc' := 97) rfl rfl rfl rfl ?_
  refine go_sget (pc' := 98) (v := .ref 67) hS rfl rfl rfl (by decide) rfl rfl ?_
  refine go_s (pc' := 99) rfl rfl rfl rfl ?_
  refine go_sald (pc' := 100) (q := 0) (v := .int (I 4 0)) hS rfl (tr_s hr (a := 67) rfl (by decide)) rfl rfl (by decide) rfl rfl ?_
  refine go_ifP (t' := 103) (pc' := 101) rfl rfl rfl (fun (c3 : (I 4 0) = 0) => ?_) (fun (c3 : ¬ (I 4 0) = 0) => ?_)
  · skip
    refine go_s (pc' := 104) rfl rfl rfl rfl ?_
    refine go_sget (pc' := 105) (v := .ref 67) hS rfl rfl rfl (by decide) rfl rfl ?_
    refine go_s (pc' := 106) rfl rfl rfl rfl ?_
    refine go_s (pc' := 107) (st' := [.int 1, .int 0, .ref 67]) rfl rfl rfl rfl ?_
    refine go_szast (pc' := 108) (q := 0) hS rfl (tr_s hr (a := 67) rfl (by decide)) tbr_inj (Nat.le_of_ble_eq_true rfl) rfl (by decide) (by decide) rfl (hW _ (by decide) (by decide)) rfl (fun h4 hS5 hE6 => ?_)
    refine go_s (pc' := 109) rfl rfl rfl rfl ?_
    refine go_sget (pc' := 110) (v := .ref 69) hS5 rfl rfl rfl (by decide) rfl rfl ?_
    refine go_s (pc' := 111) rfl rfl rfl rfl ?_
    refine go_s (pc' := 112) (st' := [.int 0, .int 0, .ref 69]) rfl rfl rfl rfl ?_
    refine go_siast (pc' := 113) (q := 0) hS5 rfl (tr_s hr (a := 69) rfl (by decide)) tbr_inj (Nat.le_of_ble_eq_true rfl) rfl (by decide) (by decide) (hW _ (by decide) (by decide)) rfl (fun h7 hS8 hE9 => ?_)
    have hE10 := sm_e_trans hE6 hE9
    refine go_s (pc' := 114) rfl rfl rfl rfl ?_
    change sm (tbr am (13 * ln) 77 5088) _ (uI (uI (jn I K) 4 0 1) 6 0 0) Y at hS8
    rw [jn_lo (c := 4) (by decide), jn_lo (c := 6) (by decide)] at hS8
    have hU11 : RU w B R [] true h7 am ln K ((uI (uI I 4 0 1) 6 0 0), Q, Z) := RU_I (hE10) (I' := (uI (uI I 4 0 1) 6 0 0)) (fun _ => rfl) (fun _ => rfl) (Nat.le_refl _) hU
    have hM9 : MID X ((uI (uI I 4 0 1) 6 0 0), Q, Z) := MID_rdk (d := 0) hM (by decide) c3
    have hU12 : RU w B R [] true h7 am ln K ((uI (uI I 4 0 1) 6 0 0), Q, Z) := RU_I (sm_e_refl (tbr am (13 * ln) 77 5088) _) (I' := (uI (uI I 4 0 1) 6 0 0)) (fun _ => rfl) (fun _ => rfl) (Nat.le_refl _) hU11
    have hA13 : RA w B R [] true h7 ((uI (uI I 4 0 1) 6 0 0), Q, Z) := RA_u.mpr ⟨_, _, _, _, hS8, hU12⟩
    refine go_callV (pc' := 115) rfl rfl rfl (Nat.le_of_ble_eq_true rfl) rfl (sm_o hS8 rfl) rfl rfl rfl (ra_set hA13 (by omega) hM9 (by omega) rfl (by omega)) (fun r h14 q15 => ?_)
    obtain ⟨rfl, hA16⟩ := q15
    refine go_s (pc' := 116) (st' := [.int 1]) rfl rfl rfl rfl ?_
    refine go_ret rfl rfl ?_
    have hms : rrr2 0 (I, Q, Z) = (1, rset 30 ((uI (uI I 4 0 1) 6 0 0), Q, Z)) := if_pos c3
    rw [hms]
    exact ⟨rfl, hA16⟩
  · skip
    refine go_s (pc' := 102) (st' := [.int 0]) rfl rfl rfl rfl ?_
    refine go_ret rfl rfl ?_
    have hms : rrr2 0 (I, Q, Z) = (0, (I, Q, Z)) := if_neg c3
    rw [hms]
    exact ⟨rfl, RA_R (by omega) hA⟩
theorem ra_rr_2_1 {w : Nat → Bool} {d B R : Nat} {h : am_Hp} {I : sm_I} {Q : mQ} {Z : mZ} (hA : RA w B R [] true h (I, Q, Z)) (hR : R + 4 < 40000) {X : Nat} (hM : MID X (I, Q, Z)) (hX : X + 50 < 2 ^ 28) (hd : 10 ≤ d) : am_Ev (am_prog w) d 162 [.ref 62, .int 2, .int 1] h (fun r h' => r = some (.int (rrr2 1 (I, Q, Z)).1) ∧ RA w B (R + 2) [] true h' (rrr2 1 (I, Q, Z)).2) := by
  obtain ⟨K, Y, am, ln, hS, hU⟩ := RA_u.mp hA
  change sm (tbr am (13 * ln) 77 5088) h (jn I K) Y at hS
  obtain ⟨hW, hWm, -, -, hr, -⟩ := id hU.1
  have hln := RU_ln hU (by omega)
  obtain ⟨d, rfl⟩ : ∃ e, d = e + 1 := ⟨d - 1, by omega⟩
  refine ev_go rfl (Nat.le_of_ble_eq_true rfl) rfl ?_
  refine go_s (pc' := 1) rfl rfl rfl rfl ?_
  refine go_ifP (t' := 68) (pc' := 2) rfl rfl rfl (fun _ => ?_) (fun (c : ¬ (¬ (2 : Int32) = 0)) => absurd (by decide) c)
  refine go_s (pc' := 69) rfl rfl rfl rfl ?_
  refine go_s (pc' := 70) (st' := [.int 1, .int 2]) rfl rfl rfl rfl ?_
  refine go_icmpP (t' := 88) (pc' := 71) rfl rfl rfl (fun _ => ?_) (fun (c : ¬ (¬ (2 : Int32) = 1)) => absurd (by decide) c)
  refine go_s (pc' := 89) rfl rfl rfl rfl ?_
  refine go_s (pc' := 90) (st' := [.int 2, .int 2]) rfl rfl rfl rfl ?_
  refine go_icmpP (t' := 101) (pc' := 91) rfl rfl rfl (fun (c : ¬ (2 : Int32) = 2) => absurd c (by decide)) (fun _ => ?_)
  refine go_s (pc' := 92) rfl rfl rfl rfl ?_
  refine go_s (pc' := 93) (st' := [.int 0, .int 1]) rfl rfl rfl rfl ?_
  refine go_s (pc' := 94) (st' := [.int 1, .int 0, .int 1]) rfl rfl rfl rfl ?_
  refine go_callS (pc' := 95) rfl rfl rfl (Nat.le_of_ble_eq_true rfl) rfl rfl rfl (rt_within_t (q := 1) (n := 1) (by decide) (by decide) (by omega)) (fun r h1 q2 => ?_)
  obtain ⟨rfl, rfl⟩ := q2
  refine go_ifP (t' := 101) (pc' := 96) rfl rfl rfl (fun (c : (1 : Int32) = 0) => absurd c (by decide)) (fun _ => ?_)
  refine go_s (pc' := 97) rfl rfl rfl rfl ?_
  refine go_sget (pc' := 98) (v := .ref 67) hS rfl rfl rfl (by decide) rfl rfl ?_
  refine go_s (pc' := 99) rfl rfl rfl rfl ?_
  refine go_sald (pc' := 100) (q := 1) (v := .int (I 4 1)) hS rfl (tr_s hr (a := 67) rfl (by decide)) rfl rfl (by decide) rfl rfl ?_
  refine go_ifP (t' := 103) (pc' := 101) rfl rfl rfl (fun (c3 : (I 4 1) = 0) => ?_) (fun (c3 : ¬ (I 4 1) = 0) => ?_)
  · skip
    refine go_s (pc' := 104) rfl rfl rfl rfl ?_
    refine go_sget (pc' := 105) (v := .ref 67) hS rfl rfl rfl (by decide) rfl rfl ?_
    refine go_s (pc' := 106) rfl rfl rfl rfl ?_
    refine go_s (pc' := 107) (st' := [.int 1, .int 1, .ref 67]) rfl rfl rfl rfl ?_
    refine go_szast (pc' := 108) (q := 1) hS rfl (tr_s hr (a := 67) rfl (by decide)) tbr_inj (Nat.le_of_ble_eq_true rfl) rfl (by decide) (by decide) rfl (hW _ (by decide) (by decide)) rfl (fun h4 hS5 hE6 => ?_)
    refine go_s (pc' := 109) rfl rfl rfl rfl ?_
    refine go_sget (pc' := 110) (v := .ref 69) hS5 rfl rfl rfl (by decide) rfl rfl ?_
    refine go_s (pc' := 111) rfl rfl rfl rfl ?_
    refine go_s (pc' := 112) (st' := [.int 0, .int 1, .ref 69]) rfl rfl rfl rfl ?_
    refine go_siast (pc' := 113) (q := 1) hS5 rfl (tr_s hr (a := 69) rfl (by decide)) tbr_inj (Nat.le_of_ble_eq_true rfl) rfl (by decide) (by decide) (hW _ (by decide) (by decide)) rfl (fun h7 hS8 hE9 => ?_)
    have hE10 := sm_e_trans hE6 hE9
    refine go_s (pc' := 114) rfl rfl rfl rfl ?_
    change sm (tbr am (13 * ln) 77 5088) _ (uI (uI (jn I K) 4 1 1) 6 1 0) Y at hS8
    rw [jn_lo (c := 4) (by decide), jn_lo (c := 6) (by decide)] at hS8
    have hU11 : RU w B R [] true h7 am ln K ((uI (uI I 4 1 1) 6 1 0), Q, Z) := RU_I (hE10) (I' := (uI (uI I 4 1 1) 6 1 0)) (fun _ => rfl) (fun _ => rfl) (Nat.le_refl _) hU
    have hM9 : MID X ((uI (uI I 4 1 1) 6 1 0), Q, Z) := MID_rdk (d := 1) hM (by decide) c3
    have hU12 : RU w B R [] true h7 am ln K ((uI (uI I 4 1 1) 6 1 0), Q, Z) := RU_I (sm_e_refl (tbr am (13 * ln) 77 5088) _) (I' := (uI (uI I 4 1 1) 6 1 0)) (fun _ => rfl) (fun _ => rfl) (Nat.le_refl _) hU11
    have hA13 : RA w B R [] true h7 ((uI (uI I 4 1 1) 6 1 0), Q, Z) := RA_u.mpr ⟨_, _, _, _, hS8, hU12⟩
    refine go_callV (pc' := 115) rfl rfl rfl (Nat.le_of_ble_eq_true rfl) rfl (sm_o hS8 rfl) rfl rfl rfl (ra_set hA13 (by omega) hM9 (by omega) rfl (by omega)) (fun r h14 q15 => ?_)
    obtain ⟨rfl, hA16⟩ := q15
    refine go_s (pc' := 116) (st' := [.int 1]) rfl rfl rfl rfl ?_
    refine go_ret rfl rfl ?_
    have hms : rrr2 1 (I, Q, Z) = (1, rset 30 ((uI (uI I 4 1 1) 6 1 0), Q, Z)) := if_pos c3
    rw [hms]
    exact ⟨rfl, hA16⟩
  · skip
    refine go_s (pc' := 102) (st' := [.int 0]) rfl rfl rfl rfl ?_
    refine go_ret rfl rfl ?_
    have hms : rrr2 1 (I, Q, Z) = (0, (I, Q, Z)) := if_neg c3
    rw [hms]
    exact ⟨rfl, RA_R (by omega) hA⟩
