/-! the fourteen calls keep the relation -/
theorem q_one {sv : List Value} {mc mr : Nat} {as : List Value} (H : ∀ (n : Nat) (M : mM), n < 512 → XV (1 + 200 * n) M → ∃ x : Int32, (∀ (w : Nat → Bool) (h : am_Hp) (C : Nat), CA w 32 mo0 C h M → C < 2 ^ 22 → am_Ev (am_prog w) 12 mc (.ref 1 :: as) h (fun r h1 => r = some (.int x) ∧ h1 = h)) ∧ (∀ (w : Nat → Bool) (B : Nat) (h : am_Hp), RA w B (27 * n) [] true h M → am_Ev (am_prog w) 12 mr (.ref 62 :: as) h (fun r h2 => r = some (.int x) ∧ h2 = h))) : am_one sv (Rl sv) mc mr as := rl_one (fun n M hn hX => by
  obtain ⟨x, h1, h2⟩ := H n M hn hX
  exact ⟨x, M, XV_X (by omega) hX, fun w h C hC hlt => ev_post (h1 w h C hC hlt) (fun r h' hp => ⟨hp.1, by rw [hp.2]; exact CA_le hC (by omega)⟩), fun w B h hA => ev_post (h2 w B h hA) (fun r h' hp => ⟨hp.1, by rw [hp.2]; exact RA_R (by omega) hA⟩)⟩)
theorem XV_p {X : Nat} {M : mM} (k : XV X M) : ∀ j, j < 3 → prk M.1 j := fun j hj => (k.1.1.2.2.1 j hj).1
theorem XV_q0 {X : Nat} {M : mM} (k : XV X M) : ∀ l, l < 16 → M.2.1 l = [] → M.1 24 l = -1 := fun l hl hq => ((k.1.1.2.2.2.2.2.1 l hl).2.1 hq).1
theorem XV_oh {X : Nat} {M : mM} (k : XV X M) : ∀ j, j < 3 → ¬ M.1 12 j = -1 → M.1 12 j = ohI M.1 j := fun j hj z => ((k.1.1.2.2.1 j hj).2.2.2.2.1 z).2.2.2
theorem XV_2 {X : Nat} {M : mM} (k : XV X M) : M.1 16 0 = 2 → ¬ (M.2.2 (rwi M.1 0)).1 3 = 0 := fun h2 z => by
  have hl : lv M.1 0 = true := by
    cases e : lv M.1 0 with
    | true => rfl
    | false =>
      have y := (k.1.1.2.2.1 0 (by decide)).2.2.2.2.2.2.1 e
      rw [h2] at y
      exact absurd y (by decide)
  have y := (k.1.1.2.2.2.2.1.1 hl).mp z
  rw [h2] at y
  exact absurd y (by decide)
theorem out_r {a b : Int32} (h : a < 0 ∨ nI 4 ≤ a) : ¬ (¬ a < 0 ∧ ¬ 4 ≤ a ∧ ¬ b < 0 ∧ ¬ 4 ≤ b ∧ ¬ a = b) := fun z => h.elim z.1 z.2.1
theorem out_s {a b : Int32} (h : b < 0 ∨ nI 4 ≤ b) : ¬ (¬ a < 0 ∧ ¬ 4 ≤ a ∧ ¬ b < 0 ∧ ¬ 4 ≤ b ∧ ¬ a = b) := fun z => h.elim z.2.2.1 z.2.2.2.1
theorem SI_wr {X d : Nat} {M : mM} (k : XV X M) (hd : d < 2) : lv M.1 0 = true → M.1 16 0 = 2 → SI (mwrt d M).2 := fun hl h2 => by
  unfold mwrt
  by_cases hu : us M.1 d = true
  · rw [if_pos hu]
    obtain ⟨g, g1, g2⟩ := k.1.1.2.2.2.2.1.2.2.2.2.2.2 h2 d hd (us_5 k.1.1.2.1 hd hu).2
    cases e : (M.2.2 (rwi M.1 0)).2.2[(M.1 22 d).toNatClampNeg]? with
    | none => exact SI_of k.1.1
    | some x =>
      have h35 := (MID_OK k.1.1).2.2.2.2.1
      rw [g2, nI_clamp (by omega)] at e
      exact SI_of (MID_wr k.1.1 hd hl h2 hu g2 e)
  · rw [if_neg hu]
    exact SI_of k.1.1
theorem SI_fd {X d : Nat} {M : mM} (k : XV X M) (hd : d < 2) : SI (mdsI M.1 d, M.2) := by
  have en : uI (uI (if us M.1 (1 - d) = true then uI M.1 5 d 0 else M.1) 4 d 0) 6 d 0 = mdsI M.1 d := by
    unfold mdsI
    split
    · rw [uI_x (c := 5) (c' := 4) (by decide)]
    · rfl
  rw [← en]
  exact SI_of (MID_fd k.1.1 hd)
theorem le_a {n : Nat} {x : Int32} (hn : n + 1 < 2 ^ 31) (h : x < 0 ∨ nI (n + 1) ≤ x) : x < 0 ∨ nI n < x := out_le hn h
theorem o_req_0 {n : Nat} {b c e : Int32} {I : sm_I} {Q : mQ} {Z : mZ} (hn : n < 512) (hX : XV (1 + 200 * n) (I, Q, Z)) : ∃ (x : Int32) (M' : mM), XV (1 + 200 * n + 200) M' ∧ (∀ (w : Nat → Bool) (h : am_Hp) (C : Nat), CA w 32 mo0 C h (I, Q, Z) → C < 2 ^ 22 → am_Ev (am_prog w) 12 9 (.ref 1 :: [.int 0, .int b, .int c, .int e]) h (fun r h1 => r = some (.int x) ∧ CA w 32 mo0 (C + 3400) h1 M')) ∧ (∀ (w : Nat → Bool) (B : Nat) (h : am_Hp), RA w B (27 * n) [] true h (I, Q, Z) → am_Ev (am_prog w) 12 123 (.ref 62 :: [.int 0, .int b, .int c, .int e]) h (fun r h2 => r = some (.int x) ∧ RA w B (27 * n + 27) [] true h2 M')) := by
  obtain ⟨e1, x1⟩ := XV_req (t := 0) (kd := b) (rc := c) (vl := e) (by omega) hX (by decide)
  have hp := XV_p hX
  refine ⟨_, _, x1, fun w h C hC hlt => ev_post (ca_req_0 hC (by omega) (fun hl => (hX.1.1.2.2.2.1 0 (by decide) hl).2.2.2) (by decide)) (fun r h' hp => ⟨hp.1, CA_le hp.2 (by omega)⟩), fun w B h hA => ?_⟩
  rw [← e1]
  by_cases h16 : I 16 1 = 1
  · have hl := ((hX.1.1.2.2.1 1 (by decide)).2.2.2.2.2.1 h16).2
    have hms : rreq 0 b c e (I, Q, Z) = (-1, (I, Q, Z)) := (if_pos hl).trans (if_pos (Or.inr h16))
    rw [hms]
    exact ev_post (ra_rq1_0 hA (by omega) (hp 0 (by decide)) (hp 1 (by decide)) h16 (by decide)) (fun r h' hp => ⟨hp.1, by rw [hp.2]; exact RA_R (by omega) hA⟩)
  · have h5 : ¬ I 12 1 = -1 → sq Q + hc [] true ≤ 5 := fun z => by
      have y : sq Q ≤ 5 := sq_5 (X := 1 + 200 * n) (k := 1) (M := (I, Q, Z)) (by omega) hX.1.1 (by decide) (US_no (by decide) hX.1.1 h16 ((hX.1.1.2.2.1 1 (by decide)).2.2.2.2.1 z).1)
      have y2 : hc [] true = 0 := rfl
      omega
    exact ev_post (ra_rq_0 hA (by omega) (hp 0 (by decide)) (hp 1 (by decide)) (XV_oh hX 1 (by decide)) h5 (by decide)) (fun r h' hp => ⟨hp.1, RA_R (by omega) hp.2⟩)
theorem o_req_1 {n : Nat} {b c e : Int32} {I : sm_I} {Q : mQ} {Z : mZ} (hn : n < 512) (hX : XV (1 + 200 * n) (I, Q, Z)) : ∃ (x : Int32) (M' : mM), XV (1 + 200 * n + 200) M' ∧ (∀ (w : Nat → Bool) (h : am_Hp) (C : Nat), CA w 32 mo0 C h (I, Q, Z) → C < 2 ^ 22 → am_Ev (am_prog w) 12 9 (.ref 1 :: [.int 1, .int b, .int c, .int e]) h (fun r h1 => r = some (.int x) ∧ CA w 32 mo0 (C + 3400) h1 M')) ∧ (∀ (w : Nat → Bool) (B : Nat) (h : am_Hp), RA w B (27 * n) [] true h (I, Q, Z) → am_Ev (am_prog w) 12 123 (.ref 62 :: [.int 1, .int b, .int c, .int e]) h (fun r h2 => r = some (.int x) ∧ RA w B (27 * n + 27) [] true h2 M')) := by
  obtain ⟨e1, x1⟩ := XV_req (t := 1) (kd := b) (rc := c) (vl := e) (by omega) hX (by decide)
  have hp := XV_p hX
  refine ⟨_, _, x1, fun w h C hC hlt => ev_post (ca_req_1 hC (by omega) (fun hl => (hX.1.1.2.2.2.1 1 (by decide) hl).2.2.2) (by decide)) (fun r h' hp => ⟨hp.1, CA_le hp.2 (by omega)⟩), fun w B h hA => ?_⟩
  rw [← e1]
  by_cases h16 : I 16 2 = 1
  · have hl := ((hX.1.1.2.2.1 2 (by decide)).2.2.2.2.2.1 h16).2
    have hms : rreq 1 b c e (I, Q, Z) = (-1, (I, Q, Z)) := (if_pos hl).trans (if_pos (Or.inr h16))
    rw [hms]
    exact ev_post (ra_rq1_1 hA (by omega) (hp 0 (by decide)) (hp 2 (by decide)) h16 (by decide)) (fun r h' hp => ⟨hp.1, by rw [hp.2]; exact RA_R (by omega) hA⟩)
  · have h5 : ¬ I 12 2 = -1 → sq Q + hc [] true ≤ 5 := fun z => by
      have y : sq Q ≤ 5 := sq_5 (X := 1 + 200 * n) (k := 2) (M := (I, Q, Z)) (by omega) hX.1.1 (by decide) (US_no (by decide) hX.1.1 h16 ((hX.1.1.2.2.1 2 (by decide)).2.2.2.2.1 z).1)
      have y2 : hc [] true = 0 := rfl
      omega
    exact ev_post (ra_rq_1 hA (by omega) (hp 0 (by decide)) (hp 2 (by decide)) (XV_oh hX 2 (by decide)) h5 (by decide)) (fun r h' hp => ⟨hp.1, RA_R (by omega) hp.2⟩)
theorem o_req {sv : List Value} (a b c e : Int32) : am_one sv (Rl sv) 9 123 [.int a, .int b, .int c, .int e] := by
  rcases nI_within (x := a) (n := 2) (by decide) with ⟨q, hq, rfl⟩ | ho
  · obtain rfl | rfl : q = 0 ∨ q = 1 := by omega
    · exact rl_one (fun n M hn hX => o_req_0 hn hX)
    · exact rl_one (fun n M hn hX => o_req_1 hn hX)
  · refine q_one (fun n M hn hX => ?_)
    obtain ⟨I, Q, Z⟩ := M
    exact ⟨-1, fun w h C hC hlt => ca_req_f hC (by omega) ho (by decide), fun w B h hA => ra_rq_f hA (by omega) (le_a (by decide) ho) (by decide)⟩
theorem o_tick {sv : List Value} : am_one sv (Rl sv) 30 168 [] := by
  refine rl_one (fun n M hn hX => ?_)
  obtain ⟨I, Q, Z⟩ := M
  obtain ⟨e1, x1⟩ := XV_tk (by omega) hX
  obtain ⟨-, -, -, -, k0, k1, k2, k3, tr, r0, r1, r2⟩ := INV_tk (by omega) hX.1 hX.2.1 hX.2.2
  refine ⟨(mtck (I, Q, Z)).1 8 0, _, x1, fun w h C hC hlt => ev_post (ca_tck hC (by omega) k0 k1 k2 k3 tr r0 r1 r2 (by decide)) (fun r h' hp => ⟨hp.1, CA_le hp.2 (by omega)⟩), fun w B h hA => ?_⟩
  rw [← e1]
  exact ev_post (ra_tk hA (by omega) hX (by omega) (by decide)) (fun r h' hp => ⟨hp.1, RA_R (by omega) hp.2⟩)
theorem o_arr_0 {sv : List Value} {f p : Nat} (hf : f < 4) (hp : p < 4) (hfp : ¬ f = p) : am_one sv (Rl sv) 78 176 [.int (nI f), .int (nI p), .int 0] := by
  refine rl_one (fun n M hn hX => ?_)
  obtain ⟨I, Q, Z⟩ := M
  obtain ⟨e1, x1⟩ := XV_arr (f := f) (p := p) (lost := false) (by omega) hX hf hp
  obtain ⟨-, -, -, -, hsi⟩ := INV_arr (f := f) (p := p) (lost := false) (by omega) hX.1 hX.2.1 hX.2.2 hf hp
  refine ⟨_, _, x1, fun w h C hC hlt => ev_post (ca_arr_0 hC (by omega) hf hp hfp (c := 0) (by decide) hX.1.1.2.2.2.2.1.2.1 (fun z => ((hX.1.1.2.2.1 1 (by decide)).2.2.2.2.2.1 z).2) (fun z => ((hX.1.1.2.2.1 2 (by decide)).2.2.2.2.2.1 z).2) hsi (by decide)) (fun r h' hp => ⟨hp.1, CA_le hp.2 (by omega)⟩), fun w B h hA => ?_⟩
  rw [← e1]
  obtain rfl | rfl | rfl | rfl : p = 0 ∨ p = 1 ∨ p = 2 ∨ p = 3 := by omega
  · exact ev_post (ra_arr_0_0 hA (by omega) (by omega) hX hf hfp (by decide)) (fun r h' hp => ⟨hp.1, RA_R (by omega) hp.2⟩)
  · exact ev_post (ra_arr_0_1 hA (by omega) (by omega) hX hf hfp (by decide)) (fun r h' hp => ⟨hp.1, RA_R (by omega) hp.2⟩)
  · exact ev_post (ra_arr_0_2 hA (by omega) (by omega) hX hf hfp (by decide)) (fun r h' hp => ⟨hp.1, RA_R (by omega) hp.2⟩)
  · exact ev_post (ra_arr_0_3 hA (by omega) (by omega) hX hf hfp (by decide)) (fun r h' hp => ⟨hp.1, RA_R (by omega) hp.2⟩)
theorem o_arr_1 {sv : List Value} {f p : Nat} (hf : f < 4) (hp : p < 4) (hfp : ¬ f = p) : am_one sv (Rl sv) 78 176 [.int (nI f), .int (nI p), .int 1] := by
  refine rl_one (fun n M hn hX => ?_)
  obtain ⟨I, Q, Z⟩ := M
  obtain ⟨e1, x1⟩ := XV_arr (f := f) (p := p) (lost := true) (by omega) hX hf hp
  obtain ⟨-, -, -, -, hsi⟩ := INV_arr (f := f) (p := p) (lost := true) (by omega) hX.1 hX.2.1 hX.2.2 hf hp
  refine ⟨_, _, x1, fun w h C hC hlt => ev_post (ca_arr_1 hC (by omega) hf hp hfp (c := 1) (by decide) hX.1.1.2.2.2.2.1.2.1 (fun z => ((hX.1.1.2.2.1 1 (by decide)).2.2.2.2.2.1 z).2) (fun z => ((hX.1.1.2.2.1 2 (by decide)).2.2.2.2.2.1 z).2) hsi (by decide)) (fun r h' hp => ⟨hp.1, CA_le hp.2 (by omega)⟩), fun w B h hA => ?_⟩
  rw [← e1]
  obtain rfl | rfl | rfl | rfl : p = 0 ∨ p = 1 ∨ p = 2 ∨ p = 3 := by omega
  · exact ev_post (ra_arr_1_0 hA (by omega) (by omega) hX hf hfp (by decide)) (fun r h' hp => ⟨hp.1, RA_R (by omega) hp.2⟩)
  · exact ev_post (ra_arr_1_1 hA (by omega) (by omega) hX hf hfp (by decide)) (fun r h' hp => ⟨hp.1, RA_R (by omega) hp.2⟩)
  · exact ev_post (ra_arr_1_2 hA (by omega) (by omega) hX hf hfp (by decide)) (fun r h' hp => ⟨hp.1, RA_R (by omega) hp.2⟩)
  · exact ev_post (ra_arr_1_3 hA (by omega) (by omega) hX hf hfp (by decide)) (fun r h' hp => ⟨hp.1, RA_R (by omega) hp.2⟩)
theorem o_arr {sv : List Value} (a b c : Int32) (hc : c = 0 ∨ c = 1) : am_one sv (Rl sv) 78 176 [.int a, .int b, .int c] := by
  have hout : ¬ (¬ a < 0 ∧ ¬ 4 ≤ a ∧ ¬ b < 0 ∧ ¬ 4 ≤ b ∧ ¬ a = b) → am_one sv (Rl sv) 78 176 [.int a, .int b, .int c] := fun hn9 => by
    refine q_one (fun n M hn hX => ?_)
    obtain ⟨I, Q, Z⟩ := M
    exact ⟨-1, fun w h C hC hlt => ca_arr_f hC (by omega) hn9 (by decide), fun w B h hA => ra_arr_f hA (by omega) hn9 (by decide)⟩
  rcases nI_within (x := a) (n := 4) (by decide) with ⟨f, hf, rfl⟩ | ho
  · rcases nI_within (x := b) (n := 4) (by decide) with ⟨p, hp, rfl⟩ | ho
    · by_cases hfp : f = p
      · exact hout (fun z => z.2.2.2.2 (by rw [hfp]))
      · rcases hc with rfl | rfl
        · exact o_arr_0 hf hp hfp
        · exact o_arr_1 hf hp hfp
    · exact hout (out_s ho)
  · exact hout (out_r ho)
theorem o_los {sv : List Value} (a b : Int32) : am_one sv (Rl sv) 89 184 [.int a, .int b] := by
  have hout : ¬ (¬ a < 0 ∧ ¬ 4 ≤ a ∧ ¬ b < 0 ∧ ¬ 4 ≤ b ∧ ¬ a = b) → am_one sv (Rl sv) 89 184 [.int a, .int b] := fun hn9 => by
    refine q_one (fun n M hn hX => ?_)
    obtain ⟨I, Q, Z⟩ := M
    exact ⟨0, fun w h C hC hlt => ca_los_f hC (by omega) hn9 (by decide), fun w B h hA => ra_los_f hA (by omega) hn9 (by decide)⟩
  rcases nI_within (x := a) (n := 4) (by decide) with ⟨f, hf, rfl⟩ | ho
  · rcases nI_within (x := b) (n := 4) (by decide) with ⟨p, hp, rfl⟩ | ho
    · by_cases hfp : f = p
      · exact hout (fun z => z.2.2.2.2 (by rw [hfp]))
      · refine rl_one (fun n M hn hX => ?_)
        obtain ⟨I, Q, Z⟩ := M
        exact ⟨(mlos f p (I, Q, Z)).1, (mlos f p (I, Q, Z)).2, XV_X (by omega) (XV_los (f := f) (p := p) hX), fun w h C hC hlt => ev_post (ca_los hC (by omega) hf hp hfp (by decide)) (fun r h' hp => ⟨hp.1, CA_le hp.2 (by omega)⟩), fun w B h hA => ev_post (ra_los hA (by omega) hf hp hfp (XV_q0 hX) (by decide)) (fun r h' hp => ⟨hp.1, RA_R (by omega) hp.2⟩)⟩
    · exact hout (out_s ho)
  · exact hout (out_r ho)
theorem o_lnk {sv : List Value} (a b c : Int32) : am_one sv (Rl sv) 117 189 [.int a, .int b, .int c] := by
  have hout : ¬ (¬ a < 0 ∧ ¬ 4 ≤ a ∧ ¬ b < 0 ∧ ¬ 4 ≤ b ∧ ¬ a = b) → am_one sv (Rl sv) 117 189 [.int a, .int b, .int c] := fun hn9 => by
    refine q_one (fun n M hn hX => ?_)
    obtain ⟨I, Q, Z⟩ := M
    exact ⟨-1, fun w h C hC hlt => ca_lnk_f hC (by omega) hn9 (by decide), fun w B h hA => ra_lnk_f hA (by omega) hn9 (by decide)⟩
  rcases nI_within (x := a) (n := 4) (by decide) with ⟨f, hf, rfl⟩ | ho
  · rcases nI_within (x := b) (n := 4) (by decide) with ⟨p, hp, rfl⟩ | ho
    · by_cases hfp : f = p
      · exact hout (fun z => z.2.2.2.2 (by rw [hfp]))
      · refine q_one (fun n M hn hX => ?_)
        obtain ⟨I, Q, Z⟩ := M
        exact ⟨mqlk f p c (I, Q, Z), fun w h C hC hlt => ca_lnk hC (by omega) hf hp hfp (by decide), fun w B h hA => ra_lnk hA (by omega) hf hp hfp (by decide)⟩
    · exact hout (out_s ho)
  · exact hout (out_r ho)
theorem o_wr_0 {sv : List Value} : am_one sv (Rl sv) 90 137 [.int 0] := by
  refine rl_one (fun n M hn hX => ?_)
  obtain ⟨I, Q, Z⟩ := M
  obtain ⟨e1, x1⟩ := XV_wr (d := 0) (by omega) hX (by decide)
  refine ⟨(mwr 0 (I, Q, Z)).1, _, x1, fun w h C hC hlt => ?_, fun w B h hA => ?_⟩
  · by_cases hu : I 16 0 = 2 ∧ us I 0 = true
    · obtain ⟨g, g1, g2⟩ := hX.1.1.2.2.2.2.1.2.2.2.2.2.2 hu.1 0 (by decide) (us_5 hX.1.1.2.1 (by decide) hu.2).2
      have h35 := (MID_OK hX.1.1).2.2.2.2.1
      exact ev_post (ca_wr_0 hC (by omega) (XV_2 hX) (MID_OK hX.1.1).2.1 h35 (g := g) (by omega) g2 (SI_wr hX (by decide)) (by decide)) (fun r h' hp => ⟨hp.1, CA_le hp.2 (by omega)⟩)
    · exact ev_post (ca_wrn_0 hC (by omega) (fun z => by
        cases e : us I 0 with
        | false => rfl
        | true => exact absurd ⟨z, e⟩ hu) (fun _ _ => SI_of hX.1.1) (by decide)) (fun r h' hp => ⟨hp.1, CA_le hp.2 (by omega)⟩)
  · rw [← e1]
    exact ev_post (ra_wr_0 hA (by omega) hX.1.1 (by omega) rfl (by decide)) (fun r h' hp => ⟨hp.1, RA_R (by omega) hp.2⟩)
theorem o_wr_1 {sv : List Value} : am_one sv (Rl sv) 90 137 [.int 1] := by
  refine rl_one (fun n M hn hX => ?_)
  obtain ⟨I, Q, Z⟩ := M
  obtain ⟨e1, x1⟩ := XV_wr (d := 1) (by omega) hX (by decide)
  refine ⟨(mwr 1 (I, Q, Z)).1, _, x1, fun w h C hC hlt => ?_, fun w B h hA => ?_⟩
  · by_cases hu : I 16 0 = 2 ∧ us I 1 = true
    · obtain ⟨g, g1, g2⟩ := hX.1.1.2.2.2.2.1.2.2.2.2.2.2 hu.1 1 (by decide) (us_5 hX.1.1.2.1 (by decide) hu.2).2
      have h35 := (MID_OK hX.1.1).2.2.2.2.1
      exact ev_post (ca_wr_1 hC (by omega) (XV_2 hX) (MID_OK hX.1.1).2.1 h35 (g := g) (by omega) g2 (SI_wr hX (by decide)) (by decide)) (fun r h' hp => ⟨hp.1, CA_le hp.2 (by omega)⟩)
    · exact ev_post (ca_wrn_1 hC (by omega) (fun z => by
        cases e : us I 1 with
        | false => rfl
        | true => exact absurd ⟨z, e⟩ hu) (fun _ _ => SI_of hX.1.1) (by decide)) (fun r h' hp => ⟨hp.1, CA_le hp.2 (by omega)⟩)
  · rw [← e1]
    exact ev_post (ra_wr_1 hA (by omega) hX.1.1 (by omega) rfl (by decide)) (fun r h' hp => ⟨hp.1, RA_R (by omega) hp.2⟩)
theorem o_wr {sv : List Value} (a : Int32) : am_one sv (Rl sv) 90 137 [.int a] := by
  rcases nI_within (x := a) (n := 2) (by decide) with ⟨q, hq, rfl⟩ | ho
  · obtain rfl | rfl : q = 0 ∨ q = 1 := by omega
    · exact o_wr_0
    · exact o_wr_1
  · refine q_one (fun n M hn hX => ?_)
    obtain ⟨I, Q, Z⟩ := M
    exact ⟨-1, fun w h C hC hlt => ca_wr_f hC (by omega) ho (by decide), fun w B h hA => ra_wr_f hA (by omega) (le_a (by decide) ho) (by decide)⟩
theorem o_cp {sv : List Value} : am_one sv (Rl sv) 94 155 [] := by
  refine rl_one (fun n M hn hX => ?_)
  obtain ⟨I, Q, Z⟩ := M
  obtain ⟨e1, x1⟩ := XV_cp hX
  refine ⟨_, _, XV_X (by omega) x1, fun w h C hC hlt => ev_post (ca_cpy hC (by omega) (fun d hd hr => (hX.1.1.2.1.1 d hd).2.2.2 (rv_of hX.1.1.2.1 hd hr).2.1) (by decide)) (fun r h' hp => ⟨hp.1, CA_le hp.2 (by omega)⟩), fun w B h hA => ?_⟩
  rw [← e1]
  exact ev_post (ra_cp hA (by omega) hX.1 (by omega) rfl (by decide)) (fun r h' hp => ⟨hp.1, RA_R (by omega) hp.2⟩)
theorem o_fl_0_0 {sv : List Value} : am_one sv (Rl sv) 96 156 [.int 0, .int 0] := by
  refine rl_one (fun n M hn hX => ?_)
  obtain ⟨I, Q, Z⟩ := M
  obtain ⟨e1, x1⟩ := XV_ff (p := 0) hX (by decide)
  refine ⟨_, _, XV_X (by omega) x1, fun w h C hC hlt => ev_post (ca_fl_0_0 hC (by omega) (hX.1.1.1 0 (by decide)).1 (by decide)) (fun r h' hp => ⟨hp.1, CA_le hp.2 (by omega)⟩), fun w B h hA => ?_⟩
  rw [← e1]
  exact ev_post (ra_fl_0_0 hA (by omega) (by decide)) (fun r h' hp => ⟨hp.1, RA_R (by omega) hp.2⟩)
theorem o_rr_0_0 {sv : List Value} : am_one sv (Rl sv) 106 162 [.int 0, .int 0] := by
  refine rl_one (fun n M hn hX => ?_)
  obtain ⟨I, Q, Z⟩ := M
  obtain ⟨e1, x1⟩ := XV_rp (p := 0) (by omega) hX (by decide)
  obtain ⟨-, -, -, q4, q5⟩ := INV_rp (p := 0) (by omega) hX.1 hX.2.1 (by decide)
  refine ⟨_, _, XV_X (by omega) x1, fun w h C hC hlt => ev_post (ca_rr_0_0 hC (by omega) (hX.1.1.1 0 (by decide)).1 (fun z1 z2 => (q4 z1 z2).1) (fun z1 z2 => (q4 z1 z2).2) q5 (by decide)) (fun r h' hp => ⟨hp.1, CA_le hp.2 (by omega)⟩), fun w B h hA => ?_⟩
  rw [← e1]
  exact ev_post (ra_rr_0_0 hA (by omega) hX (by omega) (by decide)) (fun r h' hp => ⟨hp.1, RA_R (by omega) hp.2⟩)
theorem o_fl_0_1 {sv : List Value} : am_one sv (Rl sv) 96 156 [.int 0, .int 1] := by
  refine rl_one (fun n M hn hX => ?_)
  obtain ⟨I, Q, Z⟩ := M
  obtain ⟨e1, x1⟩ := XV_ff (p := 1) hX (by decide)
  refine ⟨_, _, XV_X (by omega) x1, fun w h C hC hlt => ev_post (ca_fl_0_1 hC (by omega) (hX.1.1.1 1 (by decide)).1 (by decide)) (fun r h' hp => ⟨hp.1, CA_le hp.2 (by omega)⟩), fun w B h hA => ?_⟩
  rw [← e1]
  exact ev_post (ra_fl_0_1 hA (by omega) (by decide)) (fun r h' hp => ⟨hp.1, RA_R (by omega) hp.2⟩)
theorem o_rr_0_1 {sv : List Value} : am_one sv (Rl sv) 106 162 [.int 0, .int 1] := by
  refine rl_one (fun n M hn hX => ?_)
  obtain ⟨I, Q, Z⟩ := M
  obtain ⟨e1, x1⟩ := XV_rp (p := 1) (by omega) hX (by decide)
  obtain ⟨-, -, -, q4, q5⟩ := INV_rp (p := 1) (by omega) hX.1 hX.2.1 (by decide)
  refine ⟨_, _, XV_X (by omega) x1, fun w h C hC hlt => ev_post (ca_rr_0_1 hC (by omega) (hX.1.1.1 1 (by decide)).1 (fun z1 z2 => (q4 z1 z2).1) (fun z1 z2 => (q4 z1 z2).2) q5 (by decide)) (fun r h' hp => ⟨hp.1, CA_le hp.2 (by omega)⟩), fun w B h hA => ?_⟩
  rw [← e1]
  exact ev_post (ra_rr_0_1 hA (by omega) hX (by omega) (by decide)) (fun r h' hp => ⟨hp.1, RA_R (by omega) hp.2⟩)
theorem o_fl_0_2 {sv : List Value} : am_one sv (Rl sv) 96 156 [.int 0, .int 2] := by
  refine rl_one (fun n M hn hX => ?_)
  obtain ⟨I, Q, Z⟩ := M
  obtain ⟨e1, x1⟩ := XV_ff (p := 2) hX (by decide)
  refine ⟨_, _, XV_X (by omega) x1, fun w h C hC hlt => ev_post (ca_fl_0_2 hC (by omega) (hX.1.1.1 2 (by decide)).1 (by decide)) (fun r h' hp => ⟨hp.1, CA_le hp.2 (by omega)⟩), fun w B h hA => ?_⟩
  rw [← e1]
  exact ev_post (ra_fl_0_2 hA (by omega) (by decide)) (fun r h' hp => ⟨hp.1, RA_R (by omega) hp.2⟩)
theorem o_rr_0_2 {sv : List Value} : am_one sv (Rl sv) 106 162 [.int 0, .int 2] := by
  refine rl_one (fun n M hn hX => ?_)
  obtain ⟨I, Q, Z⟩ := M
  obtain ⟨e1, x1⟩ := XV_rp (p := 2) (by omega) hX (by decide)
  obtain ⟨-, -, -, q4, q5⟩ := INV_rp (p := 2) (by omega) hX.1 hX.2.1 (by decide)
  refine ⟨_, _, XV_X (by omega) x1, fun w h C hC hlt => ev_post (ca_rr_0_2 hC (by omega) (hX.1.1.1 2 (by decide)).1 (fun z1 z2 => (q4 z1 z2).1) (fun z1 z2 => (q4 z1 z2).2) q5 (by decide)) (fun r h' hp => ⟨hp.1, CA_le hp.2 (by omega)⟩), fun w B h hA => ?_⟩
  rw [← e1]
  exact ev_post (ra_rr_0_2 hA (by omega) hX (by omega) (by decide)) (fun r h' hp => ⟨hp.1, RA_R (by omega) hp.2⟩)
theorem o_fl_0_3 {sv : List Value} : am_one sv (Rl sv) 96 156 [.int 0, .int 3] := by
  refine rl_one (fun n M hn hX => ?_)
  obtain ⟨I, Q, Z⟩ := M
  obtain ⟨e1, x1⟩ := XV_ff (p := 3) hX (by decide)
  refine ⟨_, _, XV_X (by omega) x1, fun w h C hC hlt => ev_post (ca_fl_0_3 hC (by omega) (hX.1.1.1 3 (by decide)).1 (by decide)) (fun r h' hp => ⟨hp.1, CA_le hp.2 (by omega)⟩), fun w B h hA => ?_⟩
  rw [← e1]
  exact ev_post (ra_fl_0_3 hA (by omega) (by decide)) (fun r h' hp => ⟨hp.1, RA_R (by omega) hp.2⟩)
theorem o_rr_0_3 {sv : List Value} : am_one sv (Rl sv) 106 162 [.int 0, .int 3] := by
  refine rl_one (fun n M hn hX => ?_)
  obtain ⟨I, Q, Z⟩ := M
  obtain ⟨e1, x1⟩ := XV_rp (p := 3) (by omega) hX (by decide)
  obtain ⟨-, -, -, q4, q5⟩ := INV_rp (p := 3) (by omega) hX.1 hX.2.1 (by decide)
  refine ⟨_, _, XV_X (by omega) x1, fun w h C hC hlt => ev_post (ca_rr_0_3 hC (by omega) (hX.1.1.1 3 (by decide)).1 (fun z1 z2 => (q4 z1 z2).1) (fun z1 z2 => (q4 z1 z2).2) q5 (by decide)) (fun r h' hp => ⟨hp.1, CA_le hp.2 (by omega)⟩), fun w B h hA => ?_⟩
  rw [← e1]
  exact ev_post (ra_rr_0_3 hA (by omega) hX (by omega) (by decide)) (fun r h' hp => ⟨hp.1, RA_R (by omega) hp.2⟩)
theorem o_fl_1_0 {sv : List Value} : am_one sv (Rl sv) 96 156 [.int 1, .int 0] := by
  refine rl_one (fun n M hn hX => ?_)
  obtain ⟨I, Q, Z⟩ := M
  have x1 := XV_fb (b := 0) hX (by decide)
  refine ⟨(mfl1 0 (I, Q, Z)).1, _, XV_X (by omega) x1, fun w h C hC hlt => ev_post (ca_fl_1_0 hC (by omega) (hX.1.1.2.1.1 0 (by decide)).1 (by decide)) (fun r h' hp => ⟨hp.1, CA_le hp.2 (by omega)⟩), fun w B h hA => ?_⟩
  exact ev_post (ra_fl_1_0 hA (by omega) (XV_q0 hX) (by decide)) (fun r h' hp => ⟨hp.1, RA_R (by omega) hp.2⟩)
theorem o_rr_1_0 {sv : List Value} : am_one sv (Rl sv) 106 162 [.int 1, .int 0] := by
  refine rl_one (fun n M hn hX => ?_)
  obtain ⟨I, Q, Z⟩ := M
  have x1 := XV_rb (b := 0) hX (by decide)
  refine ⟨(mrr1 0 (I, Q, Z)).1, _, XV_X (by omega) x1, fun w h C hC hlt => ev_post (ca_rr_1_0 hC (by omega) (hX.1.1.2.1.1 0 (by decide)).1 (by decide)) (fun r h' hp => ⟨hp.1, CA_le hp.2 (by omega)⟩), fun w B h hA => ?_⟩
  exact ev_post (ra_rr_1_0 hA (by omega) (by decide)) (fun r h' hp => ⟨hp.1, RA_R (by omega) hp.2⟩)
theorem o_fl_2_0 {sv : List Value} : am_one sv (Rl sv) 96 156 [.int 2, .int 0] := by
  refine rl_one (fun n M hn hX => ?_)
  obtain ⟨I, Q, Z⟩ := M
  obtain ⟨e1, x1⟩ := XV_fd (d := 0) (by omega) hX (by decide)
  refine ⟨_, _, XV_X (by omega) x1, fun w h C hC hlt => ev_post (ca_fl_2_0 hC (by omega) (hX.1.1.2.1.1 0 (by decide)).2.1 (fun _ => SI_fd hX (by decide)) (by decide)) (fun r h' hp => ⟨hp.1, CA_le hp.2 (by omega)⟩), fun w B h hA => ?_⟩
  rw [← e1]
  exact ev_post (ra_fl_2_0 hA (by omega) hX.1.1 (by omega) (by decide)) (fun r h' hp => ⟨hp.1, RA_R (by omega) hp.2⟩)
theorem o_rr_2_0 {sv : List Value} : am_one sv (Rl sv) 106 162 [.int 2, .int 0] := by
  refine rl_one (fun n M hn hX => ?_)
  obtain ⟨I, Q, Z⟩ := M
  obtain ⟨e1, x1⟩ := XV_rd (d := 0) hX (by decide)
  refine ⟨_, _, XV_X (by omega) x1, fun w h C hC hlt => ev_post (ca_rr_2_0 hC (by omega) (hX.1.1.2.1.1 0 (by decide)).2.1 (by decide)) (fun r h' hp => ⟨hp.1, CA_le hp.2 (by omega)⟩), fun w B h hA => ?_⟩
  rw [← e1]
  exact ev_post (ra_rr_2_0 hA (by omega) hX.1.1 (by omega) (by decide)) (fun r h' hp => ⟨hp.1, RA_R (by omega) hp.2⟩)
theorem o_fl_1_1 {sv : List Value} : am_one sv (Rl sv) 96 156 [.int 1, .int 1] := by
  refine rl_one (fun n M hn hX => ?_)
  obtain ⟨I, Q, Z⟩ := M
  have x1 := XV_fb (b := 1) hX (by decide)
  refine ⟨(mfl1 1 (I, Q, Z)).1, _, XV_X (by omega) x1, fun w h C hC hlt => ev_post (ca_fl_1_1 hC (by omega) (hX.1.1.2.1.1 1 (by decide)).1 (by decide)) (fun r h' hp => ⟨hp.1, CA_le hp.2 (by omega)⟩), fun w B h hA => ?_⟩
  exact ev_post (ra_fl_1_1 hA (by omega) (XV_q0 hX) (by decide)) (fun r h' hp => ⟨hp.1, RA_R (by omega) hp.2⟩)
theorem o_rr_1_1 {sv : List Value} : am_one sv (Rl sv) 106 162 [.int 1, .int 1] := by
  refine rl_one (fun n M hn hX => ?_)
  obtain ⟨I, Q, Z⟩ := M
  have x1 := XV_rb (b := 1) hX (by decide)
  refine ⟨(mrr1 1 (I, Q, Z)).1, _, XV_X (by omega) x1, fun w h C hC hlt => ev_post (ca_rr_1_1 hC (by omega) (hX.1.1.2.1.1 1 (by decide)).1 (by decide)) (fun r h' hp => ⟨hp.1, CA_le hp.2 (by omega)⟩), fun w B h hA => ?_⟩
  exact ev_post (ra_rr_1_1 hA (by omega) (by decide)) (fun r h' hp => ⟨hp.1, RA_R (by omega) hp.2⟩)
theorem o_fl_2_1 {sv : List Value} : am_one sv (Rl sv) 96 156 [.int 2, .int 1] := by
  refine rl_one (fun n M hn hX => ?_)
  obtain ⟨I, Q, Z⟩ := M
  obtain ⟨e1, x1⟩ := XV_fd (d := 1) (by omega) hX (by decide)
  refine ⟨_, _, XV_X (by omega) x1, fun w h C hC hlt => ev_post (ca_fl_2_1 hC (by omega) (hX.1.1.2.1.1 1 (by decide)).2.1 (fun _ => SI_fd hX (by decide)) (by decide)) (fun r h' hp => ⟨hp.1, CA_le hp.2 (by omega)⟩), fun w B h hA => ?_⟩
  rw [← e1]
  exact ev_post (ra_fl_2_1 hA (by omega) hX.1.1 (by omega) (by decide)) (fun r h' hp => ⟨hp.1, RA_R (by omega) hp.2⟩)
theorem o_rr_2_1 {sv : List Value} : am_one sv (Rl sv) 106 162 [.int 2, .int 1] := by
  refine rl_one (fun n M hn hX => ?_)
  obtain ⟨I, Q, Z⟩ := M
  obtain ⟨e1, x1⟩ := XV_rd (d := 1) hX (by decide)
  refine ⟨_, _, XV_X (by omega) x1, fun w h C hC hlt => ev_post (ca_rr_2_1 hC (by omega) (hX.1.1.2.1.1 1 (by decide)).2.1 (by decide)) (fun r h' hp => ⟨hp.1, CA_le hp.2 (by omega)⟩), fun w B h hA => ?_⟩
  rw [← e1]
  exact ev_post (ra_rr_2_1 hA (by omega) hX.1.1 (by omega) (by decide)) (fun r h' hp => ⟨hp.1, RA_R (by omega) hp.2⟩)
theorem o_fl {sv : List Value} (a b : Int32) : am_one sv (Rl sv) 96 156 [.int a, .int b] := by
  by_cases x0 : a = 0
  · subst x0
    rcases nI_within (x := b) (n := 4) (by decide) with ⟨q, hq, rfl⟩ | ho
    · obtain rfl | rfl | rfl | rfl : q = 0 ∨ q = 1 ∨ q = 2 ∨ q = 3 := by omega
      · exact o_fl_0_0
      · exact o_fl_0_1
      · exact o_fl_0_2
      · exact o_fl_0_3
    · refine q_one (fun n M hn hX => ?_)
      obtain ⟨I, Q, Z⟩ := M
      exact ⟨0, fun w h C hC hlt => ca_fl_f0 hC (by omega) ho (by decide), fun w B h hA => ra_fl_f0 hA (by omega) (le_a (by decide) ho) (by decide)⟩
  by_cases x1 : a = 1
  · subst x1
    rcases nI_within (x := b) (n := 2) (by decide) with ⟨q, hq, rfl⟩ | ho
    · obtain rfl | rfl : q = 0 ∨ q = 1 := by omega
      · exact o_fl_1_0
      · exact o_fl_1_1
    · refine q_one (fun n M hn hX => ?_)
      obtain ⟨I, Q, Z⟩ := M
      exact ⟨0, fun w h C hC hlt => ca_fl_f1 hC (by omega) ho (by decide), fun w B h hA => ra_fl_f1 hA (by omega) (le_a (by decide) ho) (by decide)⟩
  by_cases x2 : a = 2
  · subst x2
    rcases nI_within (x := b) (n := 2) (by decide) with ⟨q, hq, rfl⟩ | ho
    · obtain rfl | rfl : q = 0 ∨ q = 1 := by omega
      · exact o_fl_2_0
      · exact o_fl_2_1
    · refine q_one (fun n M hn hX => ?_)
      obtain ⟨I, Q, Z⟩ := M
      exact ⟨0, fun w h C hC hlt => ca_fl_f2 hC (by omega) ho (by decide), fun w B h hA => ra_fl_f2 hA (by omega) (le_a (by decide) ho) (by decide)⟩
  refine q_one (fun n M hn hX => ?_)
  obtain ⟨I, Q, Z⟩ := M
  exact ⟨0, fun w h C hC hlt => ca_fl_fn hC (by omega) x0 x1 x2 (by decide), fun w B h hA => ra_fl_fn hA (by omega) x0 x1 x2 (by decide)⟩
theorem o_rr {sv : List Value} (a b : Int32) : am_one sv (Rl sv) 106 162 [.int a, .int b] := by
  by_cases x0 : a = 0
  · subst x0
    rcases nI_within (x := b) (n := 4) (by decide) with ⟨q, hq, rfl⟩ | ho
    · obtain rfl | rfl | rfl | rfl : q = 0 ∨ q = 1 ∨ q = 2 ∨ q = 3 := by omega
      · exact o_rr_0_0
      · exact o_rr_0_1
      · exact o_rr_0_2
      · exact o_rr_0_3
    · refine q_one (fun n M hn hX => ?_)
      obtain ⟨I, Q, Z⟩ := M
      exact ⟨0, fun w h C hC hlt => ca_rr_f0 hC (by omega) ho (by decide), fun w B h hA => ra_rr_f0 hA (by omega) (le_a (by decide) ho) (by decide)⟩
  by_cases x1 : a = 1
  · subst x1
    rcases nI_within (x := b) (n := 2) (by decide) with ⟨q, hq, rfl⟩ | ho
    · obtain rfl | rfl : q = 0 ∨ q = 1 := by omega
      · exact o_rr_1_0
      · exact o_rr_1_1
    · refine q_one (fun n M hn hX => ?_)
      obtain ⟨I, Q, Z⟩ := M
      exact ⟨0, fun w h C hC hlt => ca_rr_f1 hC (by omega) ho (by decide), fun w B h hA => ra_rr_f1 hA (by omega) (le_a (by decide) ho) (by decide)⟩
  by_cases x2 : a = 2
  · subst x2
    rcases nI_within (x := b) (n := 2) (by decide) with ⟨q, hq, rfl⟩ | ho
    · obtain rfl | rfl : q = 0 ∨ q = 1 := by omega
      · exact o_rr_2_0
      · exact o_rr_2_1
    · refine q_one (fun n M hn hX => ?_)
      obtain ⟨I, Q, Z⟩ := M
      exact ⟨0, fun w h C hC hlt => ca_rr_f2 hC (by omega) ho (by decide), fun w B h hA => ra_rr_f2 hA (by omega) (le_a (by decide) ho) (by decide)⟩
  refine q_one (fun n M hn hX => ?_)
  obtain ⟨I, Q, Z⟩ := M
  exact ⟨0, fun w h C hC hlt => ca_rr_fn hC (by omega) x0 x1 x2 (by decide), fun w B h hA => ra_rr_fn hA (by omega) x0 x1 x2 (by decide)⟩
theorem o_ans {sv : List Value} (a x : Int32) : am_one sv (Rl sv) 109 185 [.int a, .int x] := by
  refine q_one (fun n M hn hX => ?_)
  obtain ⟨I, Q, Z⟩ := M
  have hp := XV_p hX
  rcases nI_within (x := a) (n := 2) (by decide) with ⟨q, hq, rfl⟩ | ho
  · obtain rfl | rfl : q = 0 ∨ q = 1 := by omega
    · refine ⟨mqan 0 x (I, Q, Z), fun w h C hC hlt => ca_ans_0 hC (by omega) (by decide), fun w B h hA => ?_⟩
      obtain ⟨K, Y, am, ln, hS, hU⟩ := RA_u.mp hA
      change sm (tbr am (13 * ln) 77 5088) h (jn I K) Y at hS
      have hr := hU.1.2.2.2.2.1
      exact rq_ans_0 (Q := Q) (Z := Z) hr hS hp (by decide)
    · refine ⟨mqan 1 x (I, Q, Z), fun w h C hC hlt => ca_ans_1 hC (by omega) (by decide), fun w B h hA => ?_⟩
      obtain ⟨K, Y, am, ln, hS, hU⟩ := RA_u.mp hA
      change sm (tbr am (13 * ln) 77 5088) h (jn I K) Y at hS
      have hr := hU.1.2.2.2.2.1
      exact rq_ans_1 (Q := Q) (Z := Z) hr hS hp (by decide)
  · refine ⟨-1, fun w h C hC hlt => ca_ans_f hC (by omega) ho (by decide), fun w B h hA => ?_⟩
    obtain ⟨K, Y, am, ln, hS, hU⟩ := RA_u.mp hA
    change sm (tbr am (13 * ln) 77 5088) h (jn I K) Y at hS
    have hr := hU.1.2.2.2.2.1
    exact rq_ans_f hr hS (le_a (by decide) ho) (by decide)
theorem o_pr {sv : List Value} (a x : Int32) : am_one sv (Rl sv) 110 186 [.int a, .int x] := by
  refine q_one (fun n M hn hX => ?_)
  obtain ⟨I, Q, Z⟩ := M
  have hp := XV_p hX
  have hb : ∀ r, r < 2 → bok (Z r) := fun r hr => by
    obtain rfl | rfl : r = 0 ∨ r = 1 := by omega
    · exact hX.1.1.2.2.2.2.2.2.1.1.2.2.2.1
    · exact hX.1.1.2.2.2.2.2.2.1.2.1.2.2.2.1
  have hi : ∀ t, t < 2 → lv I (1 + t) = true → row1 (I, Q, Z) (1 + t) 11 = I 17 t := fun t ht hl => (hX.1.1.2.2.2.1 t ht hl).2.2.2
  have h2 : lv I 0 = true → I 16 0 = 2 → ¬ (Z (rwi I 0)).1 3 = 0 := fun _ z => XV_2 hX z
  rcases nI_within (x := a) (n := 3) (by decide) with ⟨q, hq, rfl⟩ | ho
  · obtain rfl | rfl | rfl : q = 0 ∨ q = 1 ∨ q = 2 := by omega
    · exact ⟨mqpr 0 x (I, Q, Z), fun w h C hC hlt => ca_pr_0 hC (by omega) hi h2 (XV_oh hX) (by decide), fun w B h hA => ra_pr_0 hA (by omega) hp hb (by decide)⟩
    · exact ⟨mqpr 1 x (I, Q, Z), fun w h C hC hlt => ca_pr_1 hC (by omega) hi h2 (XV_oh hX) (by decide), fun w B h hA => ra_pr_1 hA (by omega) hp hb (by decide)⟩
    · exact ⟨mqpr 2 x (I, Q, Z), fun w h C hC hlt => ca_pr_2 hC (by omega) hi h2 (XV_oh hX) (by decide), fun w B h hA => ra_pr_2 hA (by omega) hp hb (by decide)⟩
  · exact ⟨-1, fun w h C hC hlt => ca_pr_f hC (by omega) ho (by decide), fun w B h hA => ra_pr_f hA (by omega) (le_a (by decide) ho) (by decide)⟩
theorem o_prt {sv : List Value} (x a : Int32) : am_one sv (Rl sv) 114 188 [.int x, .int a] := by
  refine q_one (fun n M hn hX => ?_)
  obtain ⟨I, Q, Z⟩ := M
  rcases nI_within (x := a) (n := 4) (by decide) with ⟨q, hq, rfl⟩ | ho
  · obtain rfl | rfl | rfl | rfl : q = 0 ∨ q = 1 ∨ q = 2 ∨ q = 3 := by omega
    · refine ⟨mqpt 0 x (I, Q, Z), fun w h C hC hlt => ca_prt_0 hC (by omega) (by decide), fun w B h hA => ?_⟩
      obtain ⟨K, Y, am, ln, hS, hU⟩ := RA_u.mp hA
      change sm (tbr am (13 * ln) 77 5088) h (jn I K) Y at hS
      have hr := hU.1.2.2.2.2.1
      exact rq_prt_0 (Q := Q) (Z := Z) hr hS (by decide)
    · refine ⟨mqpt 1 x (I, Q, Z), fun w h C hC hlt => ca_prt_1 hC (by omega) (by decide), fun w B h hA => ?_⟩
      obtain ⟨K, Y, am, ln, hS, hU⟩ := RA_u.mp hA
      change sm (tbr am (13 * ln) 77 5088) h (jn I K) Y at hS
      have hr := hU.1.2.2.2.2.1
      exact rq_prt_1 (Q := Q) (Z := Z) hr hS (by decide)
    · refine ⟨mqpt 2 x (I, Q, Z), fun w h C hC hlt => ca_prt_2 hC (by omega) (by decide), fun w B h hA => ?_⟩
      obtain ⟨K, Y, am, ln, hS, hU⟩ := RA_u.mp hA
      change sm (tbr am (13 * ln) 77 5088) h (jn I K) Y at hS
      have hr := hU.1.2.2.2.2.1
      exact rq_prt_2 (Q := Q) (Z := Z) hr hS (by decide)
    · refine ⟨mqpt 3 x (I, Q, Z), fun w h C hC hlt => ca_prt_3 hC (by omega) (by decide), fun w B h hA => ?_⟩
      obtain ⟨K, Y, am, ln, hS, hU⟩ := RA_u.mp hA
      change sm (tbr am (13 * ln) 77 5088) h (jn I K) Y at hS
      have hr := hU.1.2.2.2.2.1
      exact rq_prt_3 (Q := Q) (Z := Z) hr hS (by decide)
  · exact ⟨if x = 30 then I 8 0 else -1, fun w h C hC hlt => ca_prt_f hC (by omega) ho (by decide), fun w B h hA => ra_prt_f hA (by omega) (le_a (by decide) ho) (by decide)⟩
theorem wdn_5 {q : Nat} : wdn q < 2 ^ 31 := by
  unfold wdn
  split
  · decide
  · split <;> decide
theorem o_dsc {sv : List Value} (a b c : Int32) : am_one sv (Rl sv) 118 190 [.int a, .int b, .int c] := by
  refine q_one (fun n M hn hX => ?_)
  obtain ⟨I, Q, Z⟩ := M
  rcases nI_within (x := a) (n := 2) (by decide) with ⟨d, hd, rfl⟩ | ho
  · obtain rfl | rfl : d = 0 ∨ d = 1 := by omega
    · rcases nI_within (x := b) (n := 49) (by decide) with ⟨q, hq, rfl⟩ | ho
      · rcases nI_within (x := c) (n := wdn q) wdn_5 with ⟨r9, hr9, rfl⟩ | ho
        · refine ⟨I 7 (245 * 0 + (q * 5 + r9)), fun w h C hC hlt => ca_dsc_0 hC (by omega) hq hr9 (by decide), fun w B h hA => ?_⟩
          obtain ⟨K, Y, am, ln, hS, hU⟩ := RA_u.mp hA
          change sm (tbr am (13 * ln) 77 5088) h (jn I K) Y at hS
          have hr := hU.1.2.2.2.2.1
          exact rq_dsc_0 hr hS hq hr9 (by decide)
        · refine ⟨-2147483648, fun w h C hC hlt => ca_dsc_0_c hC (by omega) hq ho (by decide), fun w B h hA => ?_⟩
          obtain ⟨K, Y, am, ln, hS, hU⟩ := RA_u.mp hA
          change sm (tbr am (13 * ln) 77 5088) h (jn I K) Y at hS
          have hr := hU.1.2.2.2.2.1
          exact rq_dsc_0_c hr hS hq ho (by decide)
      · refine ⟨-2147483648, fun w h C hC hlt => ca_dsc_0_b hC (by omega) ho (by decide), fun w B h hA => ?_⟩
        obtain ⟨K, Y, am, ln, hS, hU⟩ := RA_u.mp hA
        change sm (tbr am (13 * ln) 77 5088) h (jn I K) Y at hS
        have hr := hU.1.2.2.2.2.1
        exact rq_dsc_0_b hr hS (le_a (by decide) ho) (by decide)
    · rcases nI_within (x := b) (n := 49) (by decide) with ⟨q, hq, rfl⟩ | ho
      · rcases nI_within (x := c) (n := wdn q) wdn_5 with ⟨r9, hr9, rfl⟩ | ho
        · refine ⟨I 7 (245 * 1 + (q * 5 + r9)), fun w h C hC hlt => ca_dsc_1 hC (by omega) hq hr9 (by decide), fun w B h hA => ?_⟩
          obtain ⟨K, Y, am, ln, hS, hU⟩ := RA_u.mp hA
          change sm (tbr am (13 * ln) 77 5088) h (jn I K) Y at hS
          have hr := hU.1.2.2.2.2.1
          exact rq_dsc_1 hr hS hq hr9 (by decide)
        · refine ⟨-2147483648, fun w h C hC hlt => ca_dsc_1_c hC (by omega) hq ho (by decide), fun w B h hA => ?_⟩
          obtain ⟨K, Y, am, ln, hS, hU⟩ := RA_u.mp hA
          change sm (tbr am (13 * ln) 77 5088) h (jn I K) Y at hS
          have hr := hU.1.2.2.2.2.1
          exact rq_dsc_1_c hr hS hq ho (by decide)
      · refine ⟨-2147483648, fun w h C hC hlt => ca_dsc_1_b hC (by omega) ho (by decide), fun w B h hA => ?_⟩
        obtain ⟨K, Y, am, ln, hS, hU⟩ := RA_u.mp hA
        change sm (tbr am (13 * ln) 77 5088) h (jn I K) Y at hS
        have hr := hU.1.2.2.2.2.1
        exact rq_dsc_1_b hr hS (le_a (by decide) ho) (by decide)
  · refine ⟨-2147483648, fun w h C hC hlt => ca_dsc_a hC (by omega) ho (by decide), fun w B h hA => ?_⟩
    obtain ⟨K, Y, am, ln, hS, hU⟩ := RA_u.mp hA
    change sm (tbr am (13 * ln) 77 5088) h (jn I K) Y at hS
    have hr := hU.1.2.2.2.2.1
    exact rq_dsc_a hr hS (le_a (by decide) ho) (by decide)
theorem o_rec {sv : List Value} (a x : Int32) : am_one sv (Rl sv) 120 191 [.int a, .int x] := by
  refine q_one (fun n M hn hX => ?_)
  obtain ⟨I, Q, Z⟩ := M
  have hp := XV_p hX
  rcases nI_within (x := a) (n := 16) (by decide) with ⟨q, hq, rfl⟩ | ho
  · refine ⟨mqrc q x (I, Q, Z), fun w h C hC hlt => ca_rec hC (by omega) hq (by decide), fun w B h hA => ?_⟩
    obtain ⟨K, Y, am, ln, hS, hU⟩ := RA_u.mp hA
    change sm (tbr am (13 * ln) 77 5088) h (jn I K) Y at hS
    have hr := hU.1.2.2.2.2.1
    have hw : rwi (jn I K) 0 < 2 := rwi_lt0
    exact rq_rec (Q := Q) (Z := Z) hr hS hp (fun _ => RS_jn (RR_row hU.2.1 hw).1) (by omega) (by decide) hq (by decide)
  · refine ⟨-2147483648, fun w h C hC hlt => ca_rec_f hC (by omega) ho (by decide), fun w B h hA => ?_⟩
    obtain ⟨K, Y, am, ln, hS, hU⟩ := RA_u.mp hA
    change sm (tbr am (13 * ln) 77 5088) h (jn I K) Y at hS
    have hr := hU.1.2.2.2.2.1
    exact rq_rec_f hr hS (le_a (by decide) ho) (by decide)
theorem rl_keeps {sv : List Value} : am_keeps sv (Rl sv) := ⟨rl_base, rl_room, rl_none, o_req, o_tick, fun a b c hc => o_arr a b c hc, o_los, o_wr, o_cp, o_fl, o_rr, o_ans, o_pr, o_prt, o_lnk, o_dsc, o_rec⟩
