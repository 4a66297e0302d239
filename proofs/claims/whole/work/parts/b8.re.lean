def mj2 (m : ms) (t : Nat) (kd rc : Int32) : Int32 × ms := if kd = 0 then (mjB m t, m) else if kd < 0 ∨ 4 < kd then (-5, m) else if m.1 (14 + t) = 0 then (-2, m) else if kd = 1 ∨ kd = 2 then mjA m t kd rc else (0, m)
theorem mj_2 (m : ms) (t : Nat) (q1 q3 kd rc : Int32) : mj m t q1 q3 kd rc = if ¬ q1 = m.1 (6 + t) ∨ ¬ q3 = m.1 0 then (-9, m) else mj2 m t kd rc := rfl
theorem mB_1 (s : ms) (t : Int32) : (∀ j, j < 16 → (mB s t).1 j = s.1 j) ∧ (mB s t).2.1.length = s.2.1.length + 1 := by
  obtain ⟨c1, c2⟩ := bko_k s.2.1 t (mof s t) s.2.1.length s
  refine ⟨c2, ?_⟩
  unfold mB mE
  rw [c1]
  simp
theorem bok_e {m : ms} {t : Nat} (ht : t < 2) (hb : bok m) : bok (frl (uF m.1 (14 + t) 0) (nI t) 16, m.2.1, m.2.2) := by
  have e := frl_o (uF m.1 (14 + t) 0) (nI t) 16
  generalize frl (uF m.1 (14 + t) 0) (nI t) 16 = G at e ⊢
  obtain ⟨b1, b2⟩ := hb
  have f14 : G 14 = if 14 = 14 + t then 0 else m.1 14 := e 14 (by omega)
  have f15 : G 15 = if 15 = 14 + t then 0 else m.1 15 := e 15 (by omega)
  constructor
  · show G 14 = 0 ∨ G 14 = 1
    rw [f14]
    split
    · exact Or.inl rfl
    · exact b1
  · show G 15 = 0 ∨ G 15 = 1
    rw [f15]
    split
    · exact Or.inl rfl
    · exact b2
theorem mdo_e {m : ms} {t : Nat} {rs kd rc vl : Int32} (h1 : ¬ rs = -9) (h2 : ¬ rs = 0) : mdo m t rs kd rc vl = m := by
  unfold mdo
  rw [if_neg h1, if_neg h2]
theorem mdo_0 {m : ms} {t : Nat} {rc vl : Int32} : mdo m t 0 0 rc vl = (uF m.1 (14 + t) 1, m.2.1, m.2.2) := by
  unfold mdo
  rw [if_neg (by decide), if_pos rfl, if_pos rfl]
theorem mdo_3 {m : ms} {t : Nat} {rc vl : Int32} : mdo m t 0 3 rc vl = mX (mE m 2 (nI t) 0 0) t := by
  unfold mdo
  rw [if_neg (by decide), if_pos rfl, if_neg (by decide), if_neg (by decide), if_pos rfl]
theorem mdo_4 {m : ms} {t : Nat} {rc vl : Int32} : mdo m t 0 4 rc vl = mX (mB m (nI t)) t := by
  unfold mdo
  rw [if_neg (by decide), if_pos rfl, if_neg (by decide), if_neg (by decide), if_neg (by decide), if_pos rfl]
theorem bok_F {m s : ms} (h1 : m.1 14 = s.1 14) (h2 : m.1 15 = s.1 15) (hb : bok s) : bok m := by
  unfold bok
  rw [h1, h2]
  exact hb
theorem rs_us_0_1_f {w : Nat → Bool} {d : Nat} {h : am_Hp} {J : sm_I} {Y : sm_X} {am lm as_ ls : Nat} (hr : rk am as_) (hS : sm (tbr am lm as_ ls) h J Y) (hW : ∀ a, 62 ≤ a → a ≤ 88 → w a = true) (hWa : w as_ = true) {rho : Nat} {s : ms} (hp : prk J 0) (hn : ¬ J 11 0 = -1) (hrho : rwi J 0 = rho) (hls : 424 * rho + 424 ≤ ls) (hl31 : ls < 2 ^ 31) (hR : RS J rho s) {rc vl : Int32} (ho : rc < 0 ∨ nI 15 < rc) (hd : 4 ≤ d) : am_Ev (am_prog w) d 148 [.ref 62, .int 0, .int 1, .int rc, .int vl] h (fun r h' => r = some (.int (mjA s 0 1 rc).1) ∧ ∃ K, sm (tbr am lm as_ ls) h' K Y ∧ sm_e (tbr am lm as_ ls) h h' ∧ RS K rho (mdo (mjA s 0 1 rc).2 0 (mjA s 0 1 rc).1 1 rc vl) ∧ rfr J K rho) := by
  obtain ⟨d, rfl⟩ : ∃ e, d = e + 1 := ⟨d - 1, by omega⟩
  refine ev_go rfl (Nat.le_of_ble_eq_true rfl) rfl ?_
  refine go_s (pc' := 1) rfl rfl rfl rfl ?_
  refine go_s (pc' := 2) (st' := [.int 0, .ref 62]) rfl rfl rfl rfl ?_
  refine go_callV (pc' := 3) rfl rfl rfl (Nat.le_of_ble_eq_true rfl) rfl (sm_o hS rfl) rfl rfl rfl (rt_at_0 hr hS hp hn (by omega)) (fun r h1 q2 => ?_)
  obtain ⟨rfl, rfl⟩ := q2
  rw [show rwi J 0 = rho from hrho]
  refine go_s (pc' := 4) (lo' := [some (.ref 62), some (.int 0), some (.int 1), some (.int rc), some (.int vl), some (.int (nI (424 * rho)))]) rfl rfl rfl rfl ?_
  refine go_s (pc' := 5) rfl rfl rfl rfl ?_
  refine go_s (pc' := 6) (st' := [.int 0, .int rc]) rfl rfl rfl rfl ?_
  refine go_s (pc' := 7) (st' := [.int 15, .int 0, .int rc]) rfl rfl rfl rfl ?_
  refine go_callS (pc' := 8) rfl rfl rfl (Nat.le_of_ble_eq_true rfl) rfl rfl rfl (rt_within_f (a := rc) (n := 15) ho (by omega)) (fun r h3 q4 => ?_)
  obtain ⟨rfl, rfl⟩ := q4
  refine go_ifP (t' := 11) (pc' := 9) rfl rfl rfl (fun (c : ¬ (0 : Int32) = 0) => absurd c (by decide)) (fun _ => ?_)
  refine go_s (pc' := 10) (st' := [.int (-5)]) rfl rfl rfl rfl ?_
  refine go_ret rfl rfl ?_
  have hja : mjA s 0 1 rc = (-5, s) := if_pos (ho.imp id (fun z => by
    rw [Int32.le_iff_toInt_le]
    rw [Int32.lt_iff_toInt_lt] at z
    have e1 : (nI 15).toInt = 15 := rfl
    have e2 : (16 : Int32).toInt = 16 := rfl
    omega))
  rw [hja]
  exact ⟨rfl, J, hS, sm_e_refl _ _, hR, rfr_refl _ _⟩
theorem rs_us_0_2_f {w : Nat → Bool} {d : Nat} {h : am_Hp} {J : sm_I} {Y : sm_X} {am lm as_ ls : Nat} (hr : rk am as_) (hS : sm (tbr am lm as_ ls) h J Y) (hW : ∀ a, 62 ≤ a → a ≤ 88 → w a = true) (hWa : w as_ = true) {rho : Nat} {s : ms} (hp : prk J 0) (hn : ¬ J 11 0 = -1) (hrho : rwi J 0 = rho) (hls : 424 * rho + 424 ≤ ls) (hl31 : ls < 2 ^ 31) (hR : RS J rho s) {rc vl : Int32} (ho : rc < 0 ∨ nI 15 < rc) (hd : 4 ≤ d) : am_Ev (am_prog w) d 148 [.ref 62, .int 0, .int 2, .int rc, .int vl] h (fun r h' => r = some (.int (mjA s 0 2 rc).1) ∧ ∃ K, sm (tbr am lm as_ ls) h' K Y ∧ sm_e (tbr am lm as_ ls) h h' ∧ RS K rho (mdo (mjA s 0 2 rc).2 0 (mjA s 0 2 rc).1 2 rc vl) ∧ rfr J K rho) := by
  obtain ⟨d, rfl⟩ : ∃ e, d = e + 1 := ⟨d - 1, by omega⟩
  refine ev_go rfl (Nat.le_of_ble_eq_true rfl) rfl ?_
  refine go_s (pc' := 1) rfl rfl rfl rfl ?_
  refine go_s (pc' := 2) (st' := [.int 0, .ref 62]) rfl rfl rfl rfl ?_
  refine go_callV (pc' := 3) rfl rfl rfl (Nat.le_of_ble_eq_true rfl) rfl (sm_o hS rfl) rfl rfl rfl (rt_at_0 hr hS hp hn (by omega)) (fun r h1 q2 => ?_)
  obtain ⟨rfl, rfl⟩ := q2
  rw [show rwi J 0 = rho from hrho]
  refine go_s (pc' := 4) (lo' := [some (.ref 62), some (.int 0), some (.int 2), some (.int rc), some (.int vl), some (.int (nI (424 * rho)))]) rfl rfl rfl rfl ?_
  refine go_s (pc' := 5) rfl rfl rfl rfl ?_
  refine go_s (pc' := 6) (st' := [.int 0, .int rc]) rfl rfl rfl rfl ?_
  refine go_s (pc' := 7) (st' := [.int 15, .int 0, .int rc]) rfl rfl rfl rfl ?_
  refine go_callS (pc' := 8) rfl rfl rfl (Nat.le_of_ble_eq_true rfl) rfl rfl rfl (rt_within_f (a := rc) (n := 15) ho (by omega)) (fun r h3 q4 => ?_)
  obtain ⟨rfl, rfl⟩ := q4
  refine go_ifP (t' := 11) (pc' := 9) rfl rfl rfl (fun (c : ¬ (0 : Int32) = 0) => absurd c (by decide)) (fun _ => ?_)
  refine go_s (pc' := 10) (st' := [.int (-5)]) rfl rfl rfl rfl ?_
  refine go_ret rfl rfl ?_
  have hja : mjA s 0 2 rc = (-5, s) := if_pos (ho.imp id (fun z => by
    rw [Int32.le_iff_toInt_le]
    rw [Int32.lt_iff_toInt_lt] at z
    have e1 : (nI 15).toInt = 15 := rfl
    have e2 : (16 : Int32).toInt = 16 := rfl
    omega))
  rw [hja]
  exact ⟨rfl, J, hS, sm_e_refl _ _, hR, rfr_refl _ _⟩
theorem rs_us_1_1_f {w : Nat → Bool} {d : Nat} {h : am_Hp} {J : sm_I} {Y : sm_X} {am lm as_ ls : Nat} (hr : rk am as_) (hS : sm (tbr am lm as_ ls) h J Y) (hW : ∀ a, 62 ≤ a → a ≤ 88 → w a = true) (hWa : w as_ = true) {rho : Nat} {s : ms} (hp : prk J 0) (hn : ¬ J 11 0 = -1) (hrho : rwi J 0 = rho) (hls : 424 * rho + 424 ≤ ls) (hl31 : ls < 2 ^ 31) (hR : RS J rho s) {rc vl : Int32} (ho : rc < 0 ∨ nI 15 < rc) (hd : 4 ≤ d) : am_Ev (am_prog w) d 148 [.ref 62, .int 1, .int 1, .int rc, .int vl] h (fun r h' => r = some (.int (mjA s 1 1 rc).1) ∧ ∃ K, sm (tbr am lm as_ ls) h' K Y ∧ sm_e (tbr am lm as_ ls) h h' ∧ RS K rho (mdo (mjA s 1 1 rc).2 1 (mjA s 1 1 rc).1 1 rc vl) ∧ rfr J K rho) := by
  obtain ⟨d, rfl⟩ : ∃ e, d = e + 1 := ⟨d - 1, by omega⟩
  refine ev_go rfl (Nat.le_of_ble_eq_true rfl) rfl ?_
  refine go_s (pc' := 1) rfl rfl rfl rfl ?_
  refine go_s (pc' := 2) (st' := [.int 0, .ref 62]) rfl rfl rfl rfl ?_
  refine go_callV (pc' := 3) rfl rfl rfl (Nat.le_of_ble_eq_true rfl) rfl (sm_o hS rfl) rfl rfl rfl (rt_at_0 hr hS hp hn (by omega)) (fun r h1 q2 => ?_)
  obtain ⟨rfl, rfl⟩ := q2
  rw [show rwi J 0 = rho from hrho]
  refine go_s (pc' := 4) (lo' := [some (.ref 62), some (.int 1), some (.int 1), some (.int rc), some (.int vl), some (.int (nI (424 * rho)))]) rfl rfl rfl rfl ?_
  refine go_s (pc' := 5) rfl rfl rfl rfl ?_
  refine go_s (pc' := 6) (st' := [.int 0, .int rc]) rfl rfl rfl rfl ?_
  refine go_s (pc' := 7) (st' := [.int 15, .int 0, .int rc]) rfl rfl rfl rfl ?_
  refine go_callS (pc' := 8) rfl rfl rfl (Nat.le_of_ble_eq_true rfl) rfl rfl rfl (rt_within_f (a := rc) (n := 15) ho (by omega)) (fun r h3 q4 => ?_)
  obtain ⟨rfl, rfl⟩ := q4
  refine go_ifP (t' := 11) (pc' := 9) rfl rfl rfl (fun (c : ¬ (0 : Int32) = 0) => absurd c (by decide)) (fun _ => ?_)
  refine go_s (pc' := 10) (st' := [.int (-5)]) rfl rfl rfl rfl ?_
  refine go_ret rfl rfl ?_
  have hja : mjA s 1 1 rc = (-5, s) := if_pos (ho.imp id (fun z => by
    rw [Int32.le_iff_toInt_le]
    rw [Int32.lt_iff_toInt_lt] at z
    have e1 : (nI 15).toInt = 15 := rfl
    have e2 : (16 : Int32).toInt = 16 := rfl
    omega))
  rw [hja]
  exact ⟨rfl, J, hS, sm_e_refl _ _, hR, rfr_refl _ _⟩
theorem rs_us_1_2_f {w : Nat → Bool} {d : Nat} {h : am_Hp} {J : sm_I} {Y : sm_X} {am lm as_ ls : Nat} (hr : rk am as_) (hS : sm (tbr am lm as_ ls) h J Y) (hW : ∀ a, 62 ≤ a → a ≤ 88 → w a = true) (hWa : w as_ = true) {rho : Nat} {s : ms} (hp : prk J 0) (hn : ¬ J 11 0 = -1) (hrho : rwi J 0 = rho) (hls : 424 * rho + 424 ≤ ls) (hl31 : ls < 2 ^ 31) (hR : RS J rho s) {rc vl : Int32} (ho : rc < 0 ∨ nI 15 < rc) (hd : 4 ≤ d) : am_Ev (am_prog w) d 148 [.ref 62, .int 1, .int 2, .int rc, .int vl] h (fun r h' => r = some (.int (mjA s 1 2 rc).1) ∧ ∃ K, sm (tbr am lm as_ ls) h' K Y ∧ sm_e (tbr am lm as_ ls) h h' ∧ RS K rho (mdo (mjA s 1 2 rc).2 1 (mjA s 1 2 rc).1 2 rc vl) ∧ rfr J K rho) := by
  obtain ⟨d, rfl⟩ : ∃ e, d = e + 1 := ⟨d - 1, by omega⟩
  refine ev_go rfl (Nat.le_of_ble_eq_true rfl) rfl ?_
  refine go_s (pc' := 1) rfl rfl rfl rfl ?_
  refine go_s (pc' := 2) (st' := [.int 0, .ref 62]) rfl rfl rfl rfl ?_
  refine go_callV (pc' := 3) rfl rfl rfl (Nat.le_of_ble_eq_true rfl) rfl (sm_o hS rfl) rfl rfl rfl (rt_at_0 hr hS hp hn (by omega)) (fun r h1 q2 => ?_)
  obtain ⟨rfl, rfl⟩ := q2
  rw [show rwi J 0 = rho from hrho]
  refine go_s (pc' := 4) (lo' := [some (.ref 62), some (.int 1), some (.int 2), some (.int rc), some (.int vl), some (.int (nI (424 * rho)))]) rfl rfl rfl rfl ?_
  refine go_s (pc' := 5) rfl rfl rfl rfl ?_
  refine go_s (pc' := 6) (st' := [.int 0, .int rc]) rfl rfl rfl rfl ?_
  refine go_s (pc' := 7) (st' := [.int 15, .int 0, .int rc]) rfl rfl rfl rfl ?_
  refine go_callS (pc' := 8) rfl rfl rfl (Nat.le_of_ble_eq_true rfl) rfl rfl rfl (rt_within_f (a := rc) (n := 15) ho (by omega)) (fun r h3 q4 => ?_)
  obtain ⟨rfl, rfl⟩ := q4
  refine go_ifP (t' := 11) (pc' := 9) rfl rfl rfl (fun (c : ¬ (0 : Int32) = 0) => absurd c (by decide)) (fun _ => ?_)
  refine go_s (pc' := 10) (st' := [.int (-5)]) rfl rfl rfl rfl ?_
  refine go_ret rfl rfl ?_
  have hja : mjA s 1 2 rc = (-5, s) := if_pos (ho.imp id (fun z => by
    rw [Int32.le_iff_toInt_le]
    rw [Int32.lt_iff_toInt_lt] at z
    have e1 : (nI 15).toInt = 15 := rfl
    have e2 : (16 : Int32).toInt = 16 := rfl
    omega))
  rw [hja]
  exact ⟨rfl, J, hS, sm_e_refl _ _, hR, rfr_refl _ _⟩
theorem rs_re_0_0 {w : Nat → Bool} {d : Nat} {h : am_Hp} {J : sm_I} {Y : sm_X} {am lm as_ ls : Nat} (hr : rk am as_) (hS : sm (tbr am lm as_ ls) h J Y) (hW : ∀ a, 62 ≤ a → a ≤ 88 → w a = true) (hWa : w as_ = true) {rho : Nat} {s : ms} (hp : prk J 0) (hn : ¬ J 11 0 = -1) (hrho : rwi J 0 = rho) (hls : 424 * rho + 424 ≤ ls) (hl31 : ls < 2 ^ 31) (hR : RS J rho s) (hw0 : s.2.2 = []) (hH : s.2.1.length + mtr s ≤ 32) (hK : EK s.2.1) (hrk : rok s.2.1 (nI 0)) (hb : bok s) {rc : Int32} {vl : Int32} (hd : 6 ≤ d) : am_Ev (am_prog w) d 146 [.ref 62, .int 0, .int 0, .int rc, .int vl] h (fun r h' => r = some (.int (mj2 s 0 0 rc).1) ∧ ∃ K, sm (tbr am lm as_ ls) h' K Y ∧ sm_e (tbr am lm as_ ls) h h' ∧ RS K rho (mdo (mj2 s 0 0 rc).2 0 (mj2 s 0 0 rc).1 0 rc vl) ∧ rfr J K rho) := by
  obtain ⟨d, rfl⟩ : ∃ e, d = e + 1 := ⟨d - 1, by omega⟩
  refine ev_go rfl (Nat.le_of_ble_eq_true rfl) rfl ?_
  have hwl : s.2.2.length = 0 := by rw [hw0]; rfl
  have hbt : s.1 14 = 0 ∨ s.1 14 = 1 := hb.1
  rcases hbt with e | e
  · skip
    have hmle := mtr_le s
    refine go_s (pc' := 1) rfl rfl rfl rfl ?_
    refine go_s (pc' := 2) (st' := [.int 0, .ref 62]) rfl rfl rfl rfl ?_
    refine go_callV (pc' := 3) rfl rfl rfl (Nat.le_of_ble_eq_true rfl) rfl (sm_o hS rfl) rfl rfl rfl (rt_at_0 hr hS hp hn (by omega)) (fun r h1 q2 => ?_)
    obtain ⟨rfl, rfl⟩ := q2
    rw [show rwi J 0 = rho from hrho]
    refine go_s (pc' := 4) (lo' := [some (.ref 62), some (.int 0), some (.int 0), some (.int rc), some (.int vl), some (.int (nI (424 * rho))), none]) rfl rfl rfl rfl ?_
    refine go_s (pc' := 5) rfl rfl rfl rfl ?_
    refine go_sget (pc' := 6) (v := .ref as_) hS rfl rfl rfl (by decide) rfl rfl ?_
    refine go_s (pc' := 7) rfl rfl rfl rfl ?_
    refine go_s (pc' := 8) (st' := [.int 14, .int (nI (424 * rho)), .ref as_]) rfl rfl rfl rfl ?_
    refine go_nadd (pc' := 9) (a := (424 * rho)) (b := 14) rfl rfl rfl rfl rfl ?_
    refine go_s (pc' := 10) rfl rfl rfl rfl ?_
    refine go_nadd (pc' := 11) (a := ((424 * rho) + 14)) (b := 0) rfl rfl rfl rfl rfl ?_
    refine go_sald (pc' := 12) (q := (((424 * rho) + 14) + 0)) (v := .int 0) hS rfl (tr_as hr (by omega)) rfl rfl (by omega) (congrArg Value.int ((hR.1 14 (by decide) (by decide) (by decide)).trans e)) rfl ?_
    refine go_s (pc' := 13) (st' := [.int 1, .int 0]) rfl rfl rfl rfl ?_
    refine go_icmpP (t' := 16) (pc' := 14) rfl rfl rfl (fun _ => ?_) (fun (c : ¬ (¬ (0 : Int32) = 1)) => absurd (by decide) c)
    refine go_s (pc' := 17) (st' := [.int 0]) rfl rfl rfl rfl ?_
    refine go_s (pc' := 18) (lo' := [some (.ref 62), some (.int 0), some (.int 0), some (.int rc), some (.int vl), some (.int (nI (424 * rho))), some (.int 0)]) rfl rfl rfl rfl ?_
    refine go_s (pc' := 19) rfl rfl rfl rfl ?_
    refine go_s (pc' := 20) (st' := [.int 0, .int 0]) rfl rfl rfl rfl ?_
    refine go_s (pc' := 21) (st' := [.int 4, .int 0, .int 0]) rfl rfl rfl rfl ?_
    refine go_callS (pc' := 22) rfl rfl rfl (Nat.le_of_ble_eq_true rfl) rfl rfl rfl (rt_within_t (q := 0) (n := 4) (by decide) (by decide) (by omega)) (fun r h3 q4 => ?_)
    obtain ⟨rfl, rfl⟩ := q4
    refine go_ifP (t' := 25) (pc' := 23) rfl rfl rfl (fun _ => ?_) (fun (c : ¬ (¬ (1 : Int32) = 0)) => absurd (by decide) c)
    refine go_s (pc' := 26) rfl rfl rfl rfl ?_
    refine go_ifP (t' := 57) (pc' := 27) rfl rfl rfl (fun (c : ¬ (0 : Int32) = 0) => absurd c (by decide)) (fun _ => ?_)
    refine go_s (pc' := 28) rfl rfl rfl rfl ?_
    refine go_ifP (t' := 31) (pc' := 29) rfl rfl rfl (fun _ => ?_) (fun (c : ¬ ((0 : Int32) = 0)) => absurd (by decide) c)
    refine go_s (pc' := 32) (st' := [.int 32]) rfl rfl rfl rfl ?_
    refine go_s (pc' := 33) rfl rfl rfl rfl ?_
    refine go_sget (pc' := 34) (v := .ref as_) hS rfl rfl rfl (by decide) rfl rfl ?_
    refine go_s (pc' := 35) rfl rfl rfl rfl ?_
    refine go_s (pc' := 36) (st' := [.int 2, .int (nI (424 * rho)), .ref as_, .int 32]) rfl rfl rfl rfl ?_
    refine go_nadd (pc' := 37) (a := (424 * rho)) (b := 2) rfl rfl rfl rfl rfl ?_
    refine go_sald (pc' := 38) (q := ((424 * rho) + 2)) (v := .int (nI (List.length s.2.1))) hS rfl (tr_as hr (by omega)) rfl rfl (by omega) (congrArg Value.int hR.2.1) rfl ?_
    refine go_nsub (pc' := 39) (a := 32) (b := (List.length s.2.1)) rfl rfl rfl (by omega) rfl rfl ?_
    refine go_s (pc' := 40) rfl rfl rfl rfl ?_
    refine go_callV (pc' := 41) rfl rfl rfl (Nat.le_of_ble_eq_true rfl) rfl (sm_o hS rfl) rfl rfl rfl (rs_tr hr hS hp hn hrho hls hl31 hR hb (by omega)) (fun r h5 q6 => ?_)
    obtain ⟨rfl, rfl⟩ := q6
    refine go_s (pc' := 42) (st' := [.int 1, .int (nI (mtr s)), .int (nI (32 - (List.length s.2.1)))]) rfl rfl rfl rfl ?_
    refine go_nadd (pc' := 43) (a := (mtr s)) (b := 1) rfl rfl rfl rfl rfl ?_
    by_cases hroom : mtr s + 1 ≤ 32 - s.2.1.length
    · skip
      refine go_icmpP (t' := 46) (pc' := 44) rfl rfl rfl (fun _ => ?_) (fun (c : ¬ ((nI ((mtr s) + 1)) ≤ (nI (32 - (List.length s.2.1))))) => absurd (nI_le hroom (by omega)) c)
      refine go_s (pc' := 47) rfl rfl rfl rfl ?_
      refine go_sget (pc' := 48) (v := .ref as_) hS rfl rfl rfl (by decide) rfl rfl ?_
      refine go_s (pc' := 49) rfl rfl rfl rfl ?_
      refine go_s (pc' := 50) (st' := [.int 14, .int (nI (424 * rho)), .ref as_]) rfl rfl rfl rfl ?_
      refine go_nadd (pc' := 51) (a := (424 * rho)) (b := 14) rfl rfl rfl rfl rfl ?_
      refine go_s (pc' := 52) rfl rfl rfl rfl ?_
      refine go_nadd (pc' := 53) (a := ((424 * rho) + 14)) (b := 0) rfl rfl rfl rfl rfl ?_
      refine go_s (pc' := 54) (st' := [.int 1, .int (nI (((424 * rho) + 14) + 0)), .ref as_]) rfl rfl rfl rfl ?_
      refine go_siast (pc' := 55) (q := (((424 * rho) + 14) + 0)) hS rfl (tr_as hr (by omega)) tbr_inj (Nat.le_of_ble_eq_true rfl) rfl (by omega) (rk_0 hr).2 hWa rfl (fun h7 hS8 hE9 => ?_)
      refine go_s (pc' := 56) (st' := [.int 0]) rfl rfl rfl rfl ?_
      refine go_ret rfl rfl ?_
      have hm : mj2 s 0 0 rc = (0, s) := by
        show (mjB s 0, s) = _
        unfold mjB
        rw [if_pos (show s.1 (14 + 0) = 0 from e), if_neg (by omega)]
      have hR9 := RS_F (j := 14) (v := 1) hR (by decide) (by decide) (by decide)
      rw [hm]
      refine ⟨rfl, _, hS8, hE9, ?_, rfr_u (by omega) (by omega)⟩
      dsimp only
      rw [mdo_0]
      exact hR9
    · skip
      refine go_icmpP (t' := 46) (pc' := 44) rfl rfl rfl (fun (c : (nI ((mtr s) + 1)) ≤ (nI (32 - (List.length s.2.1)))) => absurd c (nI_ge (show 32 - s.2.1.length < mtr s + 1 by omega) (by omega))) (fun _ => ?_)
      refine go_s (pc' := 45) (st' := [.int (-4)]) rfl rfl rfl rfl ?_
      refine go_ret rfl rfl ?_
      have hm : mj2 s 0 0 rc = (-4, s) := by
        show (mjB s 0, s) = _
        unfold mjB
        rw [if_pos (show s.1 (14 + 0) = 0 from e), if_pos (by omega)]
      rw [hm]
      refine ⟨rfl, J, hS, sm_e_refl _ _, ?_, rfr_refl _ _⟩
      dsimp only
      rw [mdo_e (by decide) (by decide)]
      exact hR
  · skip
    have hpos : 0 < mtr s := by
      rw [mtr_e]
      have z : bz (s.1 14) = 1 := by rw [e]; rfl
      omega
    have hl : s.2.1.length < 32 := by omega
    have hmle := mtr_le s
    refine go_s (pc' := 1) rfl rfl rfl rfl ?_
    refine go_s (pc' := 2) (st' := [.int 0, .ref 62]) rfl rfl rfl rfl ?_
    refine go_callV (pc' := 3) rfl rfl rfl (Nat.le_of_ble_eq_true rfl) rfl (sm_o hS rfl) rfl rfl rfl (rt_at_0 hr hS hp hn (by omega)) (fun r h10 q11 => ?_)
    obtain ⟨rfl, rfl⟩ := q11
    rw [show rwi J 0 = rho from hrho]
    refine go_s (pc' := 4) (lo' := [some (.ref 62), some (.int 0), some (.int 0), some (.int rc), some (.int vl), some (.int (nI (424 * rho))), none]) rfl rfl rfl rfl ?_
    refine go_s (pc' := 5) rfl rfl rfl rfl ?_
    refine go_sget (pc' := 6) (v := .ref as_) hS rfl rfl rfl (by decide) rfl rfl ?_
    refine go_s (pc' := 7) rfl rfl rfl rfl ?_
    refine go_s (pc' := 8) (st' := [.int 14, .int (nI (424 * rho)), .ref as_]) rfl rfl rfl rfl ?_
    refine go_nadd (pc' := 9) (a := (424 * rho)) (b := 14) rfl rfl rfl rfl rfl ?_
    refine go_s (pc' := 10) rfl rfl rfl rfl ?_
    refine go_nadd (pc' := 11) (a := ((424 * rho) + 14)) (b := 0) rfl rfl rfl rfl rfl ?_
    refine go_sald (pc' := 12) (q := (((424 * rho) + 14) + 0)) (v := .int 1) hS rfl (tr_as hr (by omega)) rfl rfl (by omega) (congrArg Value.int ((hR.1 14 (by decide) (by decide) (by decide)).trans e)) rfl ?_
    refine go_s (pc' := 13) (st' := [.int 1, .int 1]) rfl rfl rfl rfl ?_
    refine go_icmpP (t' := 16) (pc' := 14) rfl rfl rfl (fun (c : ¬ (1 : Int32) = 1) => absurd c (by decide)) (fun _ => ?_)
    refine go_s (pc' := 15) (st' := [.int 1]) rfl rfl rfl rfl ?_
    refine go_s (pc' := 17) rfl rfl rfl rfl ?_
    refine go_s (pc' := 18) (lo' := [some (.ref 62), some (.int 0), some (.int 0), some (.int rc), some (.int vl), some (.int (nI (424 * rho))), some (.int 1)]) rfl rfl rfl rfl ?_
    refine go_s (pc' := 19) rfl rfl rfl rfl ?_
    refine go_s (pc' := 20) (st' := [.int 0, .int 0]) rfl rfl rfl rfl ?_
    refine go_s (pc' := 21) (st' := [.int 4, .int 0, .int 0]) rfl rfl rfl rfl ?_
    refine go_callS (pc' := 22) rfl rfl rfl (Nat.le_of_ble_eq_true rfl) rfl rfl rfl (rt_within_t (q := 0) (n := 4) (by decide) (by decide) (by omega)) (fun r h12 q13 => ?_)
    obtain ⟨rfl, rfl⟩ := q13
    refine go_ifP (t' := 25) (pc' := 23) rfl rfl rfl (fun _ => ?_) (fun (c : ¬ (¬ (1 : Int32) = 0)) => absurd (by decide) c)
    refine go_s (pc' := 26) rfl rfl rfl rfl ?_
    refine go_ifP (t' := 57) (pc' := 27) rfl rfl rfl (fun (c : ¬ (0 : Int32) = 0) => absurd c (by decide)) (fun _ => ?_)
    refine go_s (pc' := 28) rfl rfl rfl rfl ?_
    refine go_ifP (t' := 31) (pc' := 29) rfl rfl rfl (fun (c : (1 : Int32) = 0) => absurd c (by decide)) (fun _ => ?_)
    refine go_s (pc' := 30) (st' := [.int (-1)]) rfl rfl rfl rfl ?_
    refine go_ret rfl rfl ?_
    have hm : mj2 s 0 0 rc = (-1, s) := by
      show (mjB s 0, s) = _
      unfold mjB
      rw [if_neg (by rw [show s.1 (14 + 0) = 1 from e]; decide)]
    rw [hm]
    refine ⟨rfl, J, hS, sm_e_refl _ _, ?_, rfr_refl _ _⟩
    dsimp only
    rw [mdo_e (by decide) (by decide)]
    exact hR
theorem rs_re_0_1 {w : Nat → Bool} {d : Nat} {h : am_Hp} {J : sm_I} {Y : sm_X} {am lm as_ ls : Nat} (hr : rk am as_) (hS : sm (tbr am lm as_ ls) h J Y) (hW : ∀ a, 62 ≤ a → a ≤ 88 → w a = true) (hWa : w as_ = true) {rho : Nat} {s : ms} (hp : prk J 0) (hn : ¬ J 11 0 = -1) (hrho : rwi J 0 = rho) (hls : 424 * rho + 424 ≤ ls) (hl31 : ls < 2 ^ 31) (hR : RS J rho s) (hw0 : s.2.2 = []) (hH : s.2.1.length + mtr s ≤ 32) (hK : EK s.2.1) (hrk : rok s.2.1 (nI 0)) (hb : bok s) {q : Nat} (hq : q < 16) (hlk : s.1 (32 + q) = -1 ∨ s.1 (32 + q) = 0 ∨ s.1 (32 + q) = 1) {vl : Int32} (hd : 6 ≤ d) : am_Ev (am_prog w) d 146 [.ref 62, .int 0, .int 1, .int (nI q), .int vl] h (fun r h' => r = some (.int (mj2 s 0 1 (nI q)).1) ∧ ∃ K, sm (tbr am lm as_ ls) h' K Y ∧ sm_e (tbr am lm as_ ls) h h' ∧ RS K rho (mdo (mj2 s 0 1 (nI q)).2 0 (mj2 s 0 1 (nI q)).1 1 (nI q) vl) ∧ rfr J K rho) := by
  obtain ⟨d, rfl⟩ : ∃ e, d = e + 1 := ⟨d - 1, by omega⟩
  refine ev_go rfl (Nat.le_of_ble_eq_true rfl) rfl ?_
  have hwl : s.2.2.length = 0 := by rw [hw0]; rfl
  have hbt : s.1 14 = 0 ∨ s.1 14 = 1 := hb.1
  rcases hbt with e | e
  · skip
    have hmle := mtr_le s
    refine go_s (pc' := 1) rfl rfl rfl rfl ?_
    refine go_s (pc' := 2) (st' := [.int 0, .ref 62]) rfl rfl rfl rfl ?_
    refine go_callV (pc' := 3) rfl rfl rfl (Nat.le_of_ble_eq_true rfl) rfl (sm_o hS rfl) rfl rfl rfl (rt_at_0 hr hS hp hn (by omega)) (fun r h1 q2 => ?_)
    obtain ⟨rfl, rfl⟩ := q2
    rw [show rwi J 0 = rho from hrho]
    refine go_s (pc' := 4) (lo' := [some (.ref 62), some (.int 0), some (.int 1), some (.int (nI q)), some (.int vl), some (.int (nI (424 * rho))), none]) rfl rfl rfl rfl ?_
    refine go_s (pc' := 5) rfl rfl rfl rfl ?_
    refine go_sget (pc' := 6) (v := .ref as_) hS rfl rfl rfl (by decide) rfl rfl ?_
    refine go_s (pc' := 7) rfl rfl rfl rfl ?_
    refine go_s (pc' := 8) (st' := [.int 14, .int (nI (424 * rho)), .ref as_]) rfl rfl rfl rfl ?_
    refine go_nadd (pc' := 9) (a := (424 * rho)) (b := 14) rfl rfl rfl rfl rfl ?_
    refine go_s (pc' := 10) rfl rfl rfl rfl ?_
    refine go_nadd (pc' := 11) (a := ((424 * rho) + 14)) (b := 0) rfl rfl rfl rfl rfl ?_
    refine go_sald (pc' := 12) (q := (((424 * rho) + 14) + 0)) (v := .int 0) hS rfl (tr_as hr (by omega)) rfl rfl (by omega) (congrArg Value.int ((hR.1 14 (by decide) (by decide) (by decide)).trans e)) rfl ?_
    refine go_s (pc' := 13) (st' := [.int 1, .int 0]) rfl rfl rfl rfl ?_
    refine go_icmpP (t' := 16) (pc' := 14) rfl rfl rfl (fun _ => ?_) (fun (c : ¬ (¬ (0 : Int32) = 1)) => absurd (by decide) c)
    refine go_s (pc' := 17) (st' := [.int 0]) rfl rfl rfl rfl ?_
    refine go_s (pc' := 18) (lo' := [some (.ref 62), some (.int 0), some (.int 1), some (.int (nI q)), some (.int vl), some (.int (nI (424 * rho))), some (.int 0)]) rfl rfl rfl rfl ?_
    refine go_s (pc' := 19) rfl rfl rfl rfl ?_
    refine go_s (pc' := 20) (st' := [.int 0, .int 1]) rfl rfl rfl rfl ?_
    refine go_s (pc' := 21) (st' := [.int 4, .int 0, .int 1]) rfl rfl rfl rfl ?_
    refine go_callS (pc' := 22) rfl rfl rfl (Nat.le_of_ble_eq_true rfl) rfl rfl rfl (rt_within_t (q := 1) (n := 4) (by decide) (by decide) (by omega)) (fun r h3 q4 => ?_)
    obtain ⟨rfl, rfl⟩ := q4
    refine go_ifP (t' := 25) (pc' := 23) rfl rfl rfl (fun _ => ?_) (fun (c : ¬ (¬ (1 : Int32) = 0)) => absurd (by decide) c)
    refine go_s (pc' := 26) rfl rfl rfl rfl ?_
    refine go_ifP (t' := 57) (pc' := 27) rfl rfl rfl (fun _ => ?_) (fun (c : ¬ (¬ (1 : Int32) = 0)) => absurd (by decide) c)
    refine go_s (pc' := 58) rfl rfl rfl rfl ?_
    refine go_ifP (t' := 61) (pc' := 59) rfl rfl rfl (fun (c : ¬ (0 : Int32) = 0) => absurd c (by decide)) (fun _ => ?_)
    refine go_s (pc' := 60) (st' := [.int (-2)]) rfl rfl rfl rfl ?_
    refine go_ret rfl rfl ?_
    have hm : mj2 s 0 1 (nI q) = (-2, s) := by
      unfold mj2
      rw [if_neg (by decide), if_neg (by decide), if_pos (show s.1 (14 + 0) = 0 from e)]
    rw [hm]
    refine ⟨rfl, J, hS, sm_e_refl _ _, ?_, rfr_refl _ _⟩
    dsimp only
    rw [mdo_e (by decide) (by decide)]
    exact hR
  · skip
    have hpos : 0 < mtr s := by
      rw [mtr_e]
      have z : bz (s.1 14) = 1 := by rw [e]; rfl
      omega
    have hl : s.2.1.length < 32 := by omega
    have hmle := mtr_le s
    refine go_s (pc' := 1) rfl rfl rfl rfl ?_
    refine go_s (pc' := 2) (st' := [.int 0, .ref 62]) rfl rfl rfl rfl ?_
    refine go_callV (pc' := 3) rfl rfl rfl (Nat.le_of_ble_eq_true rfl) rfl (sm_o hS rfl) rfl rfl rfl (rt_at_0 hr hS hp hn (by omega)) (fun r h5 q6 => ?_)
    obtain ⟨rfl, rfl⟩ := q6
    rw [show rwi J 0 = rho from hrho]
    refine go_s (pc' := 4) (lo' := [some (.ref 62), some (.int 0), some (.int 1), some (.int (nI q)), some (.int vl), some (.int (nI (424 * rho))), none]) rfl rfl rfl rfl ?_
    refine go_s (pc' := 5) rfl rfl rfl rfl ?_
    refine go_sget (pc' := 6) (v := .ref as_) hS rfl rfl rfl (by decide) rfl rfl ?_
    refine go_s (pc' := 7) rfl rfl rfl rfl ?_
    refine go_s (pc' := 8) (st' := [.int 14, .int (nI (424 * rho)), .ref as_]) rfl rfl rfl rfl ?_
    refine go_nadd (pc' := 9) (a := (424 * rho)) (b := 14) rfl rfl rfl rfl rfl ?_
    refine go_s (pc' := 10) rfl rfl rfl rfl ?_
    refine go_nadd (pc' := 11) (a := ((424 * rho) + 14)) (b := 0) rfl rfl rfl rfl rfl ?_
    refine go_sald (pc' := 12) (q := (((424 * rho) + 14) + 0)) (v := .int 1) hS rfl (tr_as hr (by omega)) rfl rfl (by omega) (congrArg Value.int ((hR.1 14 (by decide) (by decide) (by decide)).trans e)) rfl ?_
    refine go_s (pc' := 13) (st' := [.int 1, .int 1]) rfl rfl rfl rfl ?_
    refine go_icmpP (t' := 16) (pc' := 14) rfl rfl rfl (fun (c : ¬ (1 : Int32) = 1) => absurd c (by decide)) (fun _ => ?_)
    refine go_s (pc' := 15) (st' := [.int 1]) rfl rfl rfl rfl ?_
    refine go_s (pc' := 17) rfl rfl rfl rfl ?_
    refine go_s (pc' := 18) (lo' := [some (.ref 62), some (.int 0), some (.int 1), some (.int (nI q)), some (.int vl), some (.int (nI (424 * rho))), some (.int 1)]) rfl rfl rfl rfl ?_
    refine go_s (pc' := 19) rfl rfl rfl rfl ?_
    refine go_s (pc' := 20) (st' := [.int 0, .int 1]) rfl rfl rfl rfl ?_
    refine go_s (pc' := 21) (st' := [.int 4, .int 0, .int 1]) rfl rfl rfl rfl ?_
    refine go_callS (pc' := 22) rfl rfl rfl (Nat.le_of_ble_eq_true rfl) rfl rfl rfl (rt_within_t (q := 1) (n := 4) (by decide) (by decide) (by omega)) (fun r h7 q8 => ?_)
    obtain ⟨rfl, rfl⟩ := q8
    refine go_ifP (t' := 25) (pc' := 23) rfl rfl rfl (fun _ => ?_) (fun (c : ¬ (¬ (1 : Int32) = 0)) => absurd (by decide) c)
    refine go_s (pc' := 26) rfl rfl rfl rfl ?_
    refine go_ifP (t' := 57) (pc' := 27) rfl rfl rfl (fun _ => ?_) (fun (c : ¬ (¬ (1 : Int32) = 0)) => absurd (by decide) c)
    refine go_s (pc' := 58) rfl rfl rfl rfl ?_
    refine go_ifP (t' := 61) (pc' := 59) rfl rfl rfl (fun _ => ?_) (fun (c : ¬ (¬ (1 : Int32) = 0)) => absurd (by decide) c)
    refine go_s (pc' := 62) rfl rfl rfl rfl ?_
    refine go_s (pc' := 63) (st' := [.int 3, .int 1]) rfl rfl rfl rfl ?_
    refine go_icmpP (t' := 71) (pc' := 64) rfl rfl rfl (fun (c : 3 ≤ (1 : Int32)) => absurd c (by decide)) (fun _ => ?_)
    refine go_s (pc' := 65) rfl rfl rfl rfl ?_
    refine go_s (pc' := 66) rfl rfl rfl rfl ?_
    refine go_s (pc' := 67) rfl rfl rfl rfl ?_
    refine go_s (pc' := 68) rfl rfl rfl rfl ?_
    refine go_s (pc' := 69) rfl rfl rfl rfl ?_
    refine go_callV (pc' := 70) rfl rfl rfl (Nat.le_of_ble_eq_true rfl) rfl (sm_o hS rfl) rfl rfl rfl (rs_us_0_1 hr hS hW hWa hp hn hrho hls hl31 hR hq hlk hl hb (by omega) (by omega)) (fun r h9 q10 => ?_)
    obtain ⟨rfl, K, hSK, hEK, hRK, hfK⟩ := q10
    refine go_ret rfl rfl ?_
    have hm : mj2 s 0 1 (nI q) = mjA s 0 1 (nI q) := by
      unfold mj2
      rw [if_neg (by decide), if_neg (by decide), if_neg (by rw [show s.1 (14 + 0) = 1 from e]; decide), if_pos (by decide)]
    rw [hm]
    exact ⟨rfl, K, hSK, hEK, hRK, hfK⟩
theorem rs_re_0_1_f {w : Nat → Bool} {d : Nat} {h : am_Hp} {J : sm_I} {Y : sm_X} {am lm as_ ls : Nat} (hr : rk am as_) (hS : sm (tbr am lm as_ ls) h J Y) (hW : ∀ a, 62 ≤ a → a ≤ 88 → w a = true) (hWa : w as_ = true) {rho : Nat} {s : ms} (hp : prk J 0) (hn : ¬ J 11 0 = -1) (hrho : rwi J 0 = rho) (hls : 424 * rho + 424 ≤ ls) (hl31 : ls < 2 ^ 31) (hR : RS J rho s) (hw0 : s.2.2 = []) (hH : s.2.1.length + mtr s ≤ 32) (hK : EK s.2.1) (hrk : rok s.2.1 (nI 0)) (hb : bok s) {rc : Int32} (ho : rc < 0 ∨ nI 15 < rc) {vl : Int32} (hd : 6 ≤ d) : am_Ev (am_prog w) d 146 [.ref 62, .int 0, .int 1, .int rc, .int vl] h (fun r h' => r = some (.int (mj2 s 0 1 rc).1) ∧ ∃ K, sm (tbr am lm as_ ls) h' K Y ∧ sm_e (tbr am lm as_ ls) h h' ∧ RS K rho (mdo (mj2 s 0 1 rc).2 0 (mj2 s 0 1 rc).1 1 rc vl) ∧ rfr J K rho) := by
  obtain ⟨d, rfl⟩ : ∃ e, d = e + 1 := ⟨d - 1, by omega⟩
  refine ev_go rfl (Nat.le_of_ble_eq_true rfl) rfl ?_
  have hwl : s.2.2.length = 0 := by rw [hw0]; rfl
  have hbt : s.1 14 = 0 ∨ s.1 14 = 1 := hb.1
  rcases hbt with e | e
  · skip
    have hmle := mtr_le s
    refine go_s (pc' := 1) rfl rfl rfl rfl ?_
    refine go_s (pc' := 2) (st' := [.int 0, .ref 62]) rfl rfl rfl rfl ?_
    refine go_callV (pc' := 3) rfl rfl rfl (Nat.le_of_ble_eq_true rfl) rfl (sm_o hS rfl) rfl rfl rfl (rt_at_0 hr hS hp hn (by omega)) (fun r h1 q2 => ?_)
    obtain ⟨rfl, rfl⟩ := q2
    rw [show rwi J 0 = rho from hrho]
    refine go_s (pc' := 4) (lo' := [some (.ref 62), some (.int 0), some (.int 1), some (.int rc), some (.int vl), some (.int (nI (424 * rho))), none]) rfl rfl rfl rfl ?_
    refine go_s (pc' := 5) rfl rfl rfl rfl ?_
    refine go_sget (pc' := 6) (v := .ref as_) hS rfl rfl rfl (by decide) rfl rfl ?_
    refine go_s (pc' := 7) rfl rfl rfl rfl ?_
    refine go_s (pc' := 8) (st' := [.int 14, .int (nI (424 * rho)), .ref as_]) rfl rfl rfl rfl ?_
    refine go_nadd (pc' := 9) (a := (424 * rho)) (b := 14) rfl rfl rfl rfl rfl ?_
    refine go_s (pc' := 10) rfl rfl rfl rfl ?_
    refine go_nadd (pc' := 11) (a := ((424 * rho) + 14)) (b := 0) rfl rfl rfl rfl rfl ?_
    refine go_sald (pc' := 12) (q := (((424 * rho) + 14) + 0)) (v := .int 0) hS rfl (tr_as hr (by omega)) rfl rfl (by omega) (congrArg Value.int ((hR.1 14 (by decide) (by decide) (by decide)).trans e)) rfl ?_
    refine go_s (pc' := 13) (st' := [.int 1, .int 0]) rfl rfl rfl rfl ?_
    refine go_icmpP (t' := 16) (pc' := 14) rfl rfl rfl (fun _ => ?_) (fun (c : ¬ (¬ (0 : Int32) = 1)) => absurd (by decide) c)
    refine go_s (pc' := 17) (st' := [.int 0]) rfl rfl rfl rfl ?_
    refine go_s (pc' := 18) (lo' := [some (.ref 62), some (.int 0), some (.int 1), some (.int rc), some (.int vl), some (.int (nI (424 * rho))), some (.int 0)]) rfl rfl rfl rfl ?_
    refine go_s (pc' := 19) rfl rfl rfl rfl ?_
    refine go_s (pc' := 20) (st' := [.int 0, .int 1]) rfl rfl rfl rfl ?_
    refine go_s (pc' := 21) (st' := [.int 4, .int 0, .int 1]) rfl rfl rfl rfl ?_
    refine go_callS (pc' := 22) rfl rfl rfl (Nat.le_of_ble_eq_true rfl) rfl rfl rfl (rt_within_t (q := 1) (n := 4) (by decide) (by decide) (by omega)) (fun r h3 q4 => ?_)
    obtain ⟨rfl, rfl⟩ := q4
    refine go_ifP (t' := 25) (pc' := 23) rfl rfl rfl (fun _ => ?_) (fun (c : ¬ (¬ (1 : Int32) = 0)) => absurd (by decide) c)
    refine go_s (pc' := 26) rfl rfl rfl rfl ?_
    refine go_ifP (t' := 57) (pc' := 27) rfl rfl rfl (fun _ => ?_) (fun (c : ¬ (¬ (1 : Int32) = 0)) => absurd (by decide) c)
    refine go_s (pc' := 58) rfl rfl rfl rfl ?_
    refine go_ifP (t' := 61) (pc' := 59) rfl rfl rfl (fun (c : ¬ (0 : Int32) = 0) => absurd c (by decide)) (fun _ => ?_)
    refine go_s (pc' := 60) (st' := [.int (-2)]) rfl rfl rfl rfl ?_
    refine go_ret rfl rfl ?_
    have hm : mj2 s 0 1 rc = (-2, s) := by
      unfold mj2
      rw [if_neg (by decide), if_neg (by decide), if_pos (show s.1 (14 + 0) = 0 from e)]
    rw [hm]
    refine ⟨rfl, J, hS, sm_e_refl _ _, ?_, rfr_refl _ _⟩
    dsimp only
    rw [mdo_e (by decide) (by decide)]
    exact hR
  · skip
    have hpos : 0 < mtr s := by
      rw [mtr_e]
      have z : bz (s.1 14) = 1 := by rw [e]; rfl
      omega
    have hl : s.2.1.length < 32 := by omega
    have hmle := mtr_le s
    refine go_s (pc' := 1) rfl rfl rfl rfl ?_
    refine go_s (pc' := 2) (st' := [.int 0, .ref 62]) rfl rfl rfl rfl ?_
    refine go_callV (pc' := 3) rfl rfl rfl (Nat.le_of_ble_eq_true rfl) rfl (sm_o hS rfl) rfl rfl rfl (rt_at_0 hr hS hp hn (by omega)) (fun r h5 q6 => ?_)
    obtain ⟨rfl, rfl⟩ := q6
    rw [show rwi J 0 = rho from hrho]
    refine go_s (pc' := 4) (lo' := [some (.ref 62), some (.int 0), some (.int 1), some (.int rc), some (.int vl), some (.int (nI (424 * rho))), none]) rfl rfl rfl rfl ?_
    refine go_s (pc' := 5) rfl rfl rfl rfl ?_
    refine go_sget (pc' := 6) (v := .ref as_) hS rfl rfl rfl (by decide) rfl rfl ?_
    refine go_s (pc' := 7) rfl rfl rfl rfl ?_
    refine go_s (pc' := 8) (st' := [.int 14, .int (nI (424 * rho)), .ref as_]) rfl rfl rfl rfl ?_
    refine go_nadd (pc' := 9) (a := (424 * rho)) (b := 14) rfl rfl rfl rfl rfl ?_
    refine go_s (pc' := 10) rfl rfl rfl rfl ?_
    refine go_nadd (pc' := 11) (a := ((424 * rho) + 14)) (b := 0) rfl rfl rfl rfl rfl ?_
    refine go_sald (pc' := 12) (q := (((424 * rho) + 14) + 0)) (v := .int 1) hS rfl (tr_as hr (by omega)) rfl rfl (by omega) (congrArg Value.int ((hR.1 14 (by decide) (by decide) (by decide)).trans e)) rfl ?_
    refine go_s (pc' := 13) (st' := [.int 1, .int 1]) rfl rfl rfl rfl ?_
    refine go_icmpP (t' := 16) (pc' := 14) rfl rfl rfl (fun (c : ¬ (1 : Int32) = 1) => absurd c (by decide)) (fun _ => ?_)
    refine go_s (pc' := 15) (st' := [.int 1]) rfl rfl rfl rfl ?_
    refine go_s (pc' := 17) rfl rfl rfl rfl ?_
    refine go_s (pc' := 18) (lo' := [some (.ref 62), some (.int 0), some (.int 1), some (.int rc), some (.int vl), some (.int (nI (424 * rho))), some (.int 1)]) rfl rfl rfl rfl ?_
    refine go_s (pc' := 19) rfl rfl rfl rfl ?_
    refine go_s (pc' := 20) (st' := [.int 0, .int 1]) rfl rfl rfl rfl ?_
    refine go_s (pc' := 21) (st' := [.int 4, .int 0, .int 1]) rfl rfl rfl rfl ?_
    refine go_callS (pc' := 22) rfl rfl rfl (Nat.le_of_ble_eq_true rfl) rfl rfl rfl (rt_within_t (q := 1) (n := 4) (by decide) (by decide) (by omega)) (fun r h7 q8 => ?_)
    obtain ⟨rfl, rfl⟩ := q8
    refine go_ifP (t' := 25) (pc' := 23) rfl rfl rfl (fun _ => ?_) (fun (c : ¬ (¬ (1 : Int32) = 0)) => absurd (by decide) c)
    refine go_s (pc' := 26) rfl rfl rfl rfl ?_
    refine go_ifP (t' := 57) (pc' := 27) rfl rfl rfl (fun _ => ?_) (fun (c : ¬ (¬ (1 : Int32) = 0)) => absurd (by decide) c)
    refine go_s (pc' := 58) rfl rfl rfl rfl ?_
    refine go_ifP (t' := 61) (pc' := 59) rfl rfl rfl (fun _ => ?_) (fun (c : ¬ (¬ (1 : Int32) = 0)) => absurd (by decide) c)
    refine go_s (pc' := 62) rfl rfl rfl rfl ?_
    refine go_s (pc' := 63) (st' := [.int 3, .int 1]) rfl rfl rfl rfl ?_
    refine go_icmpP (t' := 71) (pc' := 64) rfl rfl rfl (fun (c : 3 ≤ (1 : Int32)) => absurd c (by decide)) (fun _ => ?_)
    refine go_s (pc' := 65) rfl rfl rfl rfl ?_
    refine go_s (pc' := 66) rfl rfl rfl rfl ?_
    refine go_s (pc' := 67) rfl rfl rfl rfl ?_
    refine go_s (pc' := 68) rfl rfl rfl rfl ?_
    refine go_s (pc' := 69) rfl rfl rfl rfl ?_
    refine go_callV (pc' := 70) rfl rfl rfl (Nat.le_of_ble_eq_true rfl) rfl (sm_o hS rfl) rfl rfl rfl (rs_us_0_1_f hr hS hW hWa hp hn hrho hls hl31 hR ho (by omega)) (fun r h9 q10 => ?_)
    obtain ⟨rfl, K, hSK, hEK, hRK, hfK⟩ := q10
    refine go_ret rfl rfl ?_
    have hm : mj2 s 0 1 rc = mjA s 0 1 rc := by
      unfold mj2
      rw [if_neg (by decide), if_neg (by decide), if_neg (by rw [show s.1 (14 + 0) = 1 from e]; decide), if_pos (by decide)]
    rw [hm]
    exact ⟨rfl, K, hSK, hEK, hRK, hfK⟩
theorem rs_re_0_2 {w : Nat → Bool} {d : Nat} {h : am_Hp} {J : sm_I} {Y : sm_X} {am lm as_ ls : Nat} (hr : rk am as_) (hS : sm (tbr am lm as_ ls) h J Y) (hW : ∀ a, 62 ≤ a → a ≤ 88 → w a = true) (hWa : w as_ = true) {rho : Nat} {s : ms} (hp : prk J 0) (hn : ¬ J 11 0 = -1) (hrho : rwi J 0 = rho) (hls : 424 * rho + 424 ≤ ls) (hl31 : ls < 2 ^ 31) (hR : RS J rho s) (hw0 : s.2.2 = []) (hH : s.2.1.length + mtr s ≤ 32) (hK : EK s.2.1) (hrk : rok s.2.1 (nI 0)) (hb : bok s) {q : Nat} (hq : q < 16) (hlk : s.1 (32 + q) = -1 ∨ s.1 (32 + q) = 0 ∨ s.1 (32 + q) = 1) {vl : Int32} (hd : 6 ≤ d) : am_Ev (am_prog w) d 146 [.ref 62, .int 0, .int 2, .int (nI q), .int vl] h (fun r h' => r = some (.int (mj2 s 0 2 (nI q)).1) ∧ ∃ K, sm (tbr am lm as_ ls) h' K Y ∧ sm_e (tbr am lm as_ ls) h h' ∧ RS K rho (mdo (mj2 s 0 2 (nI q)).2 0 (mj2 s 0 2 (nI q)).1 2 (nI q) vl) ∧ rfr J K rho) := by
  obtain ⟨d, rfl⟩ : ∃ e, d = e + 1 := ⟨d - 1, by omega⟩
  refine ev_go rfl (Nat.le_of_ble_eq_true rfl) rfl ?_
  have hwl : s.2.2.length = 0 := by rw [hw0]; rfl
  have hbt : s.1 14 = 0 ∨ s.1 14 = 1 := hb.1
  rcases hbt with e | e
  · skip
    have hmle := mtr_le s
    refine go_s (pc' := 1) rfl rfl rfl rfl ?_
    refine go_s (pc' := 2) (st' := [.int 0, .ref 62]) rfl rfl rfl rfl ?_
    refine go_callV (pc' := 3) rfl rfl rfl (Nat.le_of_ble_eq_true rfl) rfl (sm_o hS rfl) rfl rfl rfl (rt_at_0 hr hS hp hn (by omega)) (fun r h1 q2 => ?_)
    obtain ⟨rfl, rfl⟩ := q2
    rw [show rwi J 0 = rho from hrho]
    refine go_s (pc' := 4) (lo' := [some (.ref 62), some (.int 0), some (.int 2), some (.int (nI q)), some (.int vl), some (.int (nI (424 * rho))), none]) rfl rfl rfl rfl ?_
    refine go_s (pc' := 5) rfl rfl rfl rfl ?_
    refine go_sget (pc' := 6) (v := .ref as_) hS rfl rfl rfl (by decide) rfl rfl ?_
    refine go_s (pc' := 7) rfl rfl rfl rfl ?_
    refine go_s (pc' := 8) (st' := [.int 14, .int (nI (424 * rho)), .ref as_]) rfl rfl rfl rfl ?_
    refine go_nadd (pc' := 9) (a := (424 * rho)) (b := 14) rfl rfl rfl rfl rfl ?_
    refine go_s (pc' := 10) rfl rfl rfl rfl ?_
    refine go_nadd (pc' := 11) (a := ((424 * rho) + 14)) (b := 0) rfl rfl rfl rfl rfl ?_
    refine go_sald (pc' := 12) (q := (((424 * rho) + 14) + 0)) (v := .int 0) hS rfl (tr_as hr (by omega)) rfl rfl (by omega) (congrArg Value.int ((hR.1 14 (by decide) (by decide) (by decide)).trans e)) rfl ?_
    refine go_s (pc' := 13) (st' := [.int 1, .int 0]) rfl rfl rfl rfl ?_
    refine go_icmpP (t' := 16) (pc' := 14) rfl rfl rfl (fun _ => ?_) (fun (c : ¬ (¬ (0 : Int32) = 1)) => absurd (by decide) c)
    refine go_s (pc' := 17) (st' := [.int 0]) rfl rfl rfl rfl ?_
    refine go_s (pc' := 18) (lo' := [some (.ref 62), some (.int 0), some (.int 2), some (.int (nI q)), some (.int vl), some (.int (nI (424 * rho))), some (.int 0)]) rfl rfl rfl rfl ?_
    refine go_s (pc' := 19) rfl rfl rfl rfl ?_
    refine go_s (pc' := 20) (st' := [.int 0, .int 2]) rfl rfl rfl rfl ?_
    refine go_s (pc' := 21) (st' := [.int 4, .int 0, .int 2]) rfl rfl rfl rfl ?_
    refine go_callS (pc' := 22) rfl rfl rfl (Nat.le_of_ble_eq_true rfl) rfl rfl rfl (rt_within_t (q := 2) (n := 4) (by decide) (by decide) (by omega)) (fun r h3 q4 => ?_)
    obtain ⟨rfl, rfl⟩ := q4
    refine go_ifP (t' := 25) (pc' := 23) rfl rfl rfl (fun _ => ?_) (fun (c : ¬ (¬ (1 : Int32) = 0)) => absurd (by decide) c)
    refine go_s (pc' := 26) rfl rfl rfl rfl ?_
    refine go_ifP (t' := 57) (pc' := 27) rfl rfl rfl (fun _ => ?_) (fun (c : ¬ (¬ (2 : Int32) = 0)) => absurd (by decide) c)
    refine go_s (pc' := 58) rfl rfl rfl rfl ?_
    refine go_ifP (t' := 61) (pc' := 59) rfl rfl rfl (fun (c : ¬ (0 : Int32) = 0) => absurd c (by decide)) (fun _ => ?_)
    refine go_s (pc' := 60) (st' := [.int (-2)]) rfl rfl rfl rfl ?_
    refine go_ret rfl rfl ?_
    have hm : mj2 s 0 2 (nI q) = (-2, s) := by
      unfold mj2
      rw [if_neg (by decide), if_neg (by decide), if_pos (show s.1 (14 + 0) = 0 from e)]
    rw [hm]
    refine ⟨rfl, J, hS, sm_e_refl _ _, ?_, rfr_refl _ _⟩
    dsimp only
    rw [mdo_e (by decide) (by decide)]
    exact hR
  · skip
    have hpos : 0 < mtr s := by
      rw [mtr_e]
      have z : bz (s.1 14) = 1 := by rw [e]; rfl
      omega
    have hl : s.2.1.length < 32 := by omega
    have hmle := mtr_le s
    refine go_s (pc' := 1) rfl rfl rfl rfl ?_
    refine go_s (pc' := 2) (st' := [.int 0, .ref 62]) rfl rfl rfl rfl ?_
    refine go_callV (pc' := 3) rfl rfl rfl (Nat.le_of_ble_eq_true rfl) rfl (sm_o hS rfl) rfl rfl rfl (rt_at_0 hr hS hp hn (by omega)) (fun r h5 q6 => ?_)
    obtain ⟨rfl, rfl⟩ := q6
    rw [show rwi J 0 = rho from hrho]
    refine go_s (pc' := 4) (lo' := [some (.ref 62), some (.int 0), some (.int 2), some (.int (nI q)), some (.int vl), some (.int (nI (424 * rho))), none]) rfl rfl rfl rfl ?_
    refine go_s (pc' := 5) rfl rfl rfl rfl ?_
    refine go_sget (pc' := 6) (v := .ref as_) hS rfl rfl rfl (by decide) rfl rfl ?_
    refine go_s (pc' := 7) rfl rfl rfl rfl ?_
    refine go_s (pc' := 8) (st' := [.int 14, .int (nI (424 * rho)), .ref as_]) rfl rfl rfl rfl ?_
    refine go_nadd (pc' := 9) (a := (424 * rho)) (b := 14) rfl rfl rfl rfl rfl ?_
    refine go_s (pc' := 10) rfl rfl rfl rfl ?_
    refine go_nadd (pc' := 11) (a := ((424 * rho) + 14)) (b := 0) rfl rfl rfl rfl rfl ?_
    refine go_sald (pc' := 12) (q := (((424 * rho) + 14) + 0)) (v := .int 1) hS rfl (tr_as hr (by omega)) rfl rfl (by omega) (congrArg Value.int ((hR.1 14 (by decide) (by decide) (by decide)).trans e)) rfl ?_
    refine go_s (pc' := 13) (st' := [.int 1, .int 1]) rfl rfl rfl rfl ?_
    refine go_icmpP (t' := 16) (pc' := 14) rfl rfl rfl (fun (c : ¬ (1 : Int32) = 1) => absurd c (by decide)) (fun _ => ?_)
    refine go_s (pc' := 15) (st' := [.int 1]) rfl rfl rfl rfl ?_
    refine go_s (pc' := 17) rfl rfl rfl rfl ?_
    refine go_s (pc' := 18) (lo' := [some (.ref 62), some (.int 0), some (.int 2), some (.int (nI q)), some (.int vl), some (.int (nI (424 * rho))), some (.int 1)]) rfl rfl rfl rfl ?_
    refine go_s (pc' := 19) rfl rfl rfl rfl ?_
    refine go_s (pc' := 20) (st' := [.int 0, .int 2]) rfl rfl rfl rfl ?_
    refine go_s (pc' := 21) (st' := [.int 4, .int 0, .int 2]) rfl rfl rfl rfl ?_
    refine go_callS (pc' := 22) rfl rfl rfl (Nat.le_of_ble_eq_true rfl) rfl rfl rfl (rt_within_t (q := 2) (n := 4) (by decide) (by decide) (by omega)) (fun r h7 q8 => ?_)
    obtain ⟨rfl, rfl⟩ := q8
    refine go_ifP (t' := 25) (pc' := 23) rfl rfl rfl (fun _ => ?_) (fun (c : ¬ (¬ (1 : Int32) = 0)) => absurd (by decide) c)
    refine go_s (pc' := 26) rfl rfl rfl rfl ?_
    refine go_ifP (t' := 57) (pc' := 27) rfl rfl rfl (fun _ => ?_) (fun (c : ¬ (¬ (2 : Int32) = 0)) => absurd (by decide) c)
    refine go_s (pc' := 58) rfl rfl rfl rfl ?_
    refine go_ifP (t' := 61) (pc' := 59) rfl rfl rfl (fun _ => ?_) (fun (c : ¬ (¬ (1 : Int32) = 0)) => absurd (by decide) c)
    refine go_s (pc' := 62) rfl rfl rfl rfl ?_
    refine go_s (pc' := 63) (st' := [.int 3, .int 2]) rfl rfl rfl rfl ?_
    refine go_icmpP (t' := 71) (pc' := 64) rfl rfl rfl (fun (c : 3 ≤ (2 : Int32)) => absurd c (by decide)) (fun _ => ?_)
    refine go_s (pc' := 65) rfl rfl rfl rfl ?_
    refine go_s (pc' := 66) rfl rfl rfl rfl ?_
    refine go_s (pc' := 67) rfl rfl rfl rfl ?_
    refine go_s (pc' := 68) rfl rfl rfl rfl ?_
    refine go_s (pc' := 69) rfl rfl rfl rfl ?_
    refine go_callV (pc' := 70) rfl rfl rfl (Nat.le_of_ble_eq_true rfl) rfl (sm_o hS rfl) rfl rfl rfl (rs_us_0_2 hr hS hW hWa hp hn hrho hls hl31 hR hq hlk hl hb (by omega) (by omega)) (fun r h9 q10 => ?_)
    obtain ⟨rfl, K, hSK, hEK, hRK, hfK⟩ := q10
    refine go_ret rfl rfl ?_
    have hm : mj2 s 0 2 (nI q) = mjA s 0 2 (nI q) := by
      unfold mj2
      rw [if_neg (by decide), if_neg (by decide), if_neg (by rw [show s.1 (14 + 0) = 1 from e]; decide), if_pos (by decide)]
    rw [hm]
    exact ⟨rfl, K, hSK, hEK, hRK, hfK⟩
theorem rs_re_0_2_f {w : Nat → Bool} {d : Nat} {h : am_Hp} {J : sm_I} {Y : sm_X} {am lm as_ ls : Nat} (hr : rk am as_) (hS : sm (tbr am lm as_ ls) h J Y) (hW : ∀ a, 62 ≤ a → a ≤ 88 → w a = true) (hWa : w as_ = true) {rho : Nat} {s : ms} (hp : prk J 0) (hn : ¬ J 11 0 = -1) (hrho : rwi J 0 = rho) (hls : 424 * rho + 424 ≤ ls) (hl31 : ls < 2 ^ 31) (hR : RS J rho s) (hw0 : s.2.2 = []) (hH : s.2.1.length + mtr s ≤ 32) (hK : EK s.2.1) (hrk : rok s.2.1 (nI 0)) (hb : bok s) {rc : Int32} (ho : rc < 0 ∨ nI 15 < rc) {vl : Int32} (hd : 6 ≤ d) : am_Ev (am_prog w) d 146 [.ref 62, .int 0, .int 2, .int rc, .int vl] h (fun r h' => r = some (.int (mj2 s 0 2 rc).1) ∧ ∃ K, sm (tbr am lm as_ ls) h' K Y ∧ sm_e (tbr am lm as_ ls) h h' ∧ RS K rho (mdo (mj2 s 0 2 rc).2 0 (mj2 s 0 2 rc).1 2 rc vl) ∧ rfr J K rho) := by
  obtain ⟨d, rfl⟩ : ∃ e, d = e + 1 := ⟨d - 1, by omega⟩
  refine ev_go rfl (Nat.le_of_ble_eq_true rfl) rfl ?_
  have hwl : s.2.2.length = 0 := by rw [hw0]; rfl
  have hbt : s.1 14 = 0 ∨ s.1 14 = 1 := hb.1
  rcases hbt with e | e
  · skip
    have hmle := mtr_le s
    refine go_s (pc' := 1) rfl rfl rfl rfl ?_
    refine go_s (pc' := 2) (st' := [.int 0, .ref 62]) rfl rfl rfl rfl ?_
    refine go_callV (pc' := 3) rfl rfl rfl (Nat.le_of_ble_eq_true rfl) rfl (sm_o hS rfl) rfl rfl rfl (rt_at_0 hr hS hp hn (by omega)) (fun r h1 q2 => ?_)
    obtain ⟨rfl, rfl⟩ := q2
    rw [show rwi J 0 = rho from hrho]
    refine go_s (pc' := 4) (lo' := [some (.ref 62), some (.int 0), some (.int 2), some (.int rc), some (.int vl), some (.int (nI (424 * rho))), none]) rfl rfl rfl rfl ?_
    refine go_s (pc' := 5) rfl rfl rfl rfl ?_
    refine go_sget (pc' := 6) (v := .ref as_) hS rfl rfl rfl (by decide) rfl rfl ?_
    refine go_s (pc' := 7) rfl rfl rfl rfl ?_
    refine go_s (pc' := 8) (st' := [.int 14, .int (nI (424 * rho)), .ref as_]) rfl rfl rfl rfl ?_
    refine go_nadd (pc' := 9) (a := (424 * rho)) (b := 14) rfl rfl rfl rfl rfl ?_
    refine go_s (pc' := 10) rfl rfl rfl rfl ?_
    refine go_nadd (pc' := 11) (a := ((424 * rho) + 14)) (b := 0) rfl rfl rfl rfl rfl ?_
    refine go_sald (pc' := 12) (q := (((424 * rho) + 14) + 0)) (v := .int 0) hS rfl (tr_as hr (by omega)) rfl rfl (by omega) (congrArg Value.int ((hR.1 14 (by decide) (by decide) (by decide)).trans e)) rfl ?_
    refine go_s (pc' := 13) (st' := [.int 1, .int 0]) rfl rfl rfl rfl ?_
    refine go_icmpP (t' := 16) (pc' := 14) rfl rfl rfl (fun _ => ?_) (fun (c : ¬ (¬ (0 : Int32) = 1)) => absurd (by decide) c)
    refine go_s (pc' := 17) (st' := [.int 0]) rfl rfl rfl rfl ?_
    refine go_s (pc' := 18) (lo' := [some (.ref 62), some (.int 0), some (.int 2), some (.int rc), some (.int vl), some (.int (nI (424 * rho))), some (.int 0)]) rfl rfl rfl rfl ?_
    refine go_s (pc' := 19) rfl rfl rfl rfl ?_
    refine go_s (pc' := 20) (st' := [.int 0, .int 2]) rfl rfl rfl rfl ?_
    refine go_s (pc' := 21) (st' := [.int 4, .int 0, .int 2]) rfl rfl rfl rfl ?_
    refine go_callS (pc' := 22) rfl rfl rfl (Nat.le_of_ble_eq_true rfl) rfl rfl rfl (rt_within_t (q := 2) (n := 4) (by decide) (by decide) (by omega)) (fun r h3 q4 => ?_)
    obtain ⟨rfl, rfl⟩ := q4
    refine go_ifP (t' := 25) (pc' := 23) rfl rfl rfl (fun _ => ?_) (fun (c : ¬ (¬ (1 : Int32) = 0)) => absurd (by decide) c)
    refine go_s (pc' := 26) rfl rfl rfl rfl ?_
    refine go_ifP (t' := 57) (pc' := 27) rfl rfl rfl (fun _ => ?_) (fun (c : ¬ (¬ (2 : Int32) = 0)) => absurd (by decide) c)
    refine go_s (pc' := 58) rfl rfl rfl rfl ?_
    refine go_ifP (t' := 61) (pc' := 59) rfl rfl rfl (fun (c : ¬ (0 : Int32) = 0) => absurd c (by decide)) (fun _ => ?_)
    refine go_s (pc' := 60) (st' := [.int (-2)]) rfl rfl rfl rfl ?_
    refine go_ret rfl rfl ?_
    have hm : mj2 s 0 2 rc = (-2, s) := by
      unfold mj2
      rw [if_neg (by decide), if_neg (by decide), if_pos (show s.1 (14 + 0) = 0 from e)]
    rw [hm]
    refine ⟨rfl, J, hS, sm_e_refl _ _, ?_, rfr_refl _ _⟩
    dsimp only
    rw [mdo_e (by decide) (by decide)]
    exact hR
  · skip
    have hpos : 0 < mtr s := by
      rw [mtr_e]
      have z : bz (s.1 14) = 1 := by rw [e]; rfl
      omega
    have hl : s.2.1.length < 32 := by omega
    have hmle := mtr_le s
    refine go_s (pc' := 1) rfl rfl rfl rfl ?_
    refine go_s (pc' := 2) (st' := [.int 0, .ref 62]) rfl rfl rfl rfl ?_
    refine go_callV (pc' := 3) rfl rfl rfl (Nat.le_of_ble_eq_true rfl) rfl (sm_o hS rfl) rfl rfl rfl (rt_at_0 hr hS hp hn (by omega)) (fun r h5 q6 => ?_)
    obtain ⟨rfl, rfl⟩ := q6
    rw [show rwi J 0 = rho from hrho]
    refine go_s (pc' := 4) (lo' := [some (.ref 62), some (.int 0), some (.int 2), some (.int rc), some (.int vl), some (.int (nI (424 * rho))), none]) rfl rfl rfl rfl ?_
    refine go_s (pc' := 5) rfl rfl rfl rfl ?_
    refine go_sget (pc' := 6) (v := .ref as_) hS rfl rfl rfl (by decide) rfl rfl ?_
    refine go_s (pc' := 7) rfl rfl rfl rfl ?_
    refine go_s (pc' := 8) (st' := [.int 14, .int (nI (424 * rho)), .ref as_]) rfl rfl rfl rfl ?_
    refine go_nadd (pc' := 9) (a := (424 * rho)) (b := 14) rfl rfl rfl rfl rfl ?_
    refine go_s (pc' := 10) rfl rfl rfl rfl ?_
    refine go_nadd (pc' := 11) (a := ((424 * rho) + 14)) (b := 0) rfl rfl rfl rfl rfl ?_
    refine go_sald (pc' := 12) (q := (((424 * rho) + 14) + 0)) (v := .int 1) hS rfl (tr_as hr (by omega)) rfl rfl (by omega) (congrArg Value.int ((hR.1 14 (by decide) (by decide) (by decide)).trans e)) rfl ?_
    refine go_s (pc' := 13) (st' := [.int 1, .int 1]) rfl rfl rfl rfl ?_
    refine go_icmpP (t' := 16) (pc' := 14) rfl rfl rfl (fun (c : ¬ (1 : Int32) = 1) => absurd c (by decide)) (fun _ => ?_)
    refine go_s (pc' := 15) (st' := [.int 1]) rfl rfl rfl rfl ?_
    refine go_s (pc' := 17) rfl rfl rfl rfl ?_
    refine go_s (pc' := 18) (lo' := [some (.ref 62), some (.int 0), some (.int 2), some (.int rc), some (.int vl), some (.int (nI (424 * rho))), some (.int 1)]) rfl rfl rfl rfl ?_
    refine go_s (pc' := 19) rfl rfl rfl rfl ?_
    refine go_s (pc' := 20) (st' := [.int 0, .int 2]) rfl rfl rfl rfl ?_
    refine go_s (pc' := 21) (st' := [.int 4, .int 0, .int 2]) rfl rfl rfl rfl ?_
    refine go_callS (pc' := 22) rfl rfl rfl (Nat.le_of_ble_eq_true rfl) rfl rfl rfl (rt_within_t (q := 2) (n := 4) (by decide) (by decide) (by omega)) (fun r h7 q8 => ?_)
    obtain ⟨rfl, rfl⟩ := q8
    refine go_ifP (t' := 25) (pc' := 23) rfl rfl rfl (fun _ => ?_) (fun (c : ¬ (¬ (1 : Int32) = 0)) => absurd (by decide) c)
    refine go_s (pc' := 26) rfl rfl rfl rfl ?_
    refine go_ifP (t' := 57) (pc' := 27) rfl rfl rfl (fun _ => ?_) (fun (c : ¬ (¬ (2 : Int32) = 0)) => absurd (by decide) c)
    refine go_s (pc' := 58) rfl rfl rfl rfl ?_
    refine go_ifP (t' := 61) (pc' := 59) rfl rfl rfl (fun _ => ?_) (fun (c : ¬ (¬ (1 : Int32) = 0)) => absurd (by decide) c)
    refine go_s (pc' := 62) rfl rfl rfl rfl ?_
    refine go_s (pc' := 63) (st' := [.int 3, .int 2]) rfl rfl rfl rfl ?_
    refine go_icmpP (t' := 71) (pc' := 64) rfl rfl rfl (fun (c : 3 ≤ (2 : Int32)) => absurd c (by decide)) (fun _ => ?_)
    refine go_s (pc' := 65) rfl rfl rfl rfl ?_
    refine go_s (pc' := 66) rfl rfl rfl rfl ?_
    refine go_s (pc' := 67) rfl rfl rfl rfl ?_
    refine go_s (pc' := 68) rfl rfl rfl rfl ?_
    refine go_s (pc' := 69) rfl rfl rfl rfl ?_
    refine go_callV (pc' := 70) rfl rfl rfl (Nat.le_of_ble_eq_true rfl) rfl (sm_o hS rfl) rfl rfl rfl (rs_us_0_2_f hr hS hW hWa hp hn hrho hls hl31 hR ho (by omega)) (fun r h9 q10 => ?_)
    obtain ⟨rfl, K, hSK, hEK, hRK, hfK⟩ := q10
    refine go_ret rfl rfl ?_
    have hm : mj2 s 0 2 rc = mjA s 0 2 rc := by
      unfold mj2
      rw [if_neg (by decide), if_neg (by decide), if_neg (by rw [show s.1 (14 + 0) = 1 from e]; decide), if_pos (by decide)]
    rw [hm]
    exact ⟨rfl, K, hSK, hEK, hRK, hfK⟩
theorem rs_re_0_3 {w : Nat → Bool} {d : Nat} {h : am_Hp} {J : sm_I} {Y : sm_X} {am lm as_ ls : Nat} (hr : rk am as_) (hS : sm (tbr am lm as_ ls) h J Y) (hW : ∀ a, 62 ≤ a → a ≤ 88 → w a = true) (hWa : w as_ = true) {rho : Nat} {s : ms} (hp : prk J 0) (hn : ¬ J 11 0 = -1) (hrho : rwi J 0 = rho) (hls : 424 * rho + 424 ≤ ls) (hl31 : ls < 2 ^ 31) (hR : RS J rho s) (hw0 : s.2.2 = []) (hH : s.2.1.length + mtr s ≤ 32) (hK : EK s.2.1) (hrk : rok s.2.1 (nI 0)) (hb : bok s) {rc : Int32} {vl : Int32} (hd : 6 ≤ d) : am_Ev (am_prog w) d 146 [.ref 62, .int 0, .int 3, .int rc, .int vl] h (fun r h' => r = some (.int (mj2 s 0 3 rc).1) ∧ ∃ K, sm (tbr am lm as_ ls) h' K Y ∧ sm_e (tbr am lm as_ ls) h h' ∧ RS K rho (mdo (mj2 s 0 3 rc).2 0 (mj2 s 0 3 rc).1 3 rc vl) ∧ rfr J K rho) := by
  obtain ⟨d, rfl⟩ : ∃ e, d = e + 1 := ⟨d - 1, by omega⟩
  refine ev_go rfl (Nat.le_of_ble_eq_true rfl) rfl ?_
  have hwl : s.2.2.length = 0 := by rw [hw0]; rfl
  have hbt : s.1 14 = 0 ∨ s.1 14 = 1 := hb.1
  rcases hbt with e | e
  · skip
    have hmle := mtr_le s
    refine go_s (pc' := 1) rfl rfl rfl rfl ?_
    refine go_s (pc' := 2) (st' := [.int 0, .ref 62]) rfl rfl rfl rfl ?_
    refine go_callV (pc' := 3) rfl rfl rfl (Nat.le_of_ble_eq_true rfl) rfl (sm_o hS rfl) rfl rfl rfl (rt_at_0 hr hS hp hn (by omega)) (fun r h1 q2 => ?_)
    obtain ⟨rfl, rfl⟩ := q2
    rw [show rwi J 0 = rho from hrho]
    refine go_s (pc' := 4) (lo' := [some (.ref 62), some (.int 0), some (.int 3), some (.int rc), some (.int vl), some (.int (nI (424 * rho))), none]) rfl rfl rfl rfl ?_
    refine go_s (pc' := 5) rfl rfl rfl rfl ?_
    refine go_sget (pc' := 6) (v := .ref as_) hS rfl rfl rfl (by decide) rfl rfl ?_
    refine go_s (pc' := 7) rfl rfl rfl rfl ?_
    refine go_s (pc' := 8) (st' := [.int 14, .int (nI (424 * rho)), .ref as_]) rfl rfl rfl rfl ?_
    refine go_nadd (pc' := 9) (a := (424 * rho)) (b := 14) rfl rfl rfl rfl rfl ?_
    refine go_s (pc' := 10) rfl rfl rfl rfl ?_
    refine go_nadd (pc' := 11) (a := ((424 * rho) + 14)) (b := 0) rfl rfl rfl rfl rfl ?_
    refine go_sald (pc' := 12) (q := (((424 * rho) + 14) + 0)) (v := .int 0) hS rfl (tr_as hr (by omega)) rfl rfl (by omega) (congrArg Value.int ((hR.1 14 (by decide) (by decide) (by decide)).trans e)) rfl ?_
    refine go_s (pc' := 13) (st' := [.int 1, .int 0]) rfl rfl rfl rfl ?_
    refine go_icmpP (t' := 16) (pc' := 14) rfl rfl rfl (fun _ => ?_) (fun (c : ¬ (¬ (0 : Int32) = 1)) => absurd (by decide) c)
    refine go_s (pc' := 17) (st' := [.int 0]) rfl rfl rfl rfl ?_
    refine go_s (pc' := 18) (lo' := [some (.ref 62), some (.int 0), some (.int 3), some (.int rc), some (.int vl), some (.int (nI (424 * rho))), some (.int 0)]) rfl rfl rfl rfl ?_
    refine go_s (pc' := 19) rfl rfl rfl rfl ?_
    refine go_s (pc' := 20) (st' := [.int 0, .int 3]) rfl rfl rfl rfl ?_
    refine go_s (pc' := 21) (st' := [.int 4, .int 0, .int 3]) rfl rfl rfl rfl ?_
    refine go_callS (pc' := 22) rfl rfl rfl (Nat.le_of_ble_eq_true rfl) rfl rfl rfl (rt_within_t (q := 3) (n := 4) (by decide) (by decide) (by omega)) (fun r h3 q4 => ?_)
    obtain ⟨rfl, rfl⟩ := q4
    refine go_ifP (t' := 25) (pc' := 23) rfl rfl rfl (fun _ => ?_) (fun (c : ¬ (¬ (1 : Int32) = 0)) => absurd (by decide) c)
    refine go_s (pc' := 26) rfl rfl rfl rfl ?_
    refine go_ifP (t' := 57) (pc' := 27) rfl rfl rfl (fun _ => ?_) (fun (c : ¬ (¬ (3 : Int32) = 0)) => absurd (by decide) c)
    refine go_s (pc' := 58) rfl rfl rfl rfl ?_
    refine go_ifP (t' := 61) (pc' := 59) rfl rfl rfl (fun (c : ¬ (0 : Int32) = 0) => absurd c (by decide)) (fun _ => ?_)
    refine go_s (pc' := 60) (st' := [.int (-2)]) rfl rfl rfl rfl ?_
    refine go_ret rfl rfl ?_
    have hm : mj2 s 0 3 rc = (-2, s) := by
      unfold mj2
      rw [if_neg (by decide), if_neg (by decide), if_pos (show s.1 (14 + 0) = 0 from e)]
    rw [hm]
    refine ⟨rfl, J, hS, sm_e_refl _ _, ?_, rfr_refl _ _⟩
    dsimp only
    rw [mdo_e (by decide) (by decide)]
    exact hR
  · skip
    have hpos : 0 < mtr s := by
      rw [mtr_e]
      have z : bz (s.1 14) = 1 := by rw [e]; rfl
      omega
    have hl : s.2.1.length < 32 := by omega
    have hmle := mtr_le s
    refine go_s (pc' := 1) rfl rfl rfl rfl ?_
    refine go_s (pc' := 2) (st' := [.int 0, .ref 62]) rfl rfl rfl rfl ?_
    refine go_callV (pc' := 3) rfl rfl rfl (Nat.le_of_ble_eq_true rfl) rfl (sm_o hS rfl) rfl rfl rfl (rt_at_0 hr hS hp hn (by omega)) (fun r h5 q6 => ?_)
    obtain ⟨rfl, rfl⟩ := q6
    rw [show rwi J 0 = rho from hrho]
    refine go_s (pc' := 4) (lo' := [some (.ref 62), some (.int 0), some (.int 3), some (.int rc), some (.int vl), some (.int (nI (424 * rho))), none]) rfl rfl rfl rfl ?_
    refine go_s (pc' := 5) rfl rfl rfl rfl ?_
    refine go_sget (pc' := 6) (v := .ref as_) hS rfl rfl rfl (by decide) rfl rfl ?_
    refine go_s (pc' := 7) rfl rfl rfl rfl ?_
    refine go_s (pc' := 8) (st' := [.int 14, .int (nI (424 * rho)), .ref as_]) rfl rfl rfl rfl ?_
    refine go_nadd (pc' := 9) (a := (424 * rho)) (b := 14) rfl rfl rfl rfl rfl ?_
    refine go_s (pc' := 10) rfl rfl rfl rfl ?_
    refine go_nadd (pc' := 11) (a := ((424 * rho) + 14)) (b := 0) rfl rfl rfl rfl rfl ?_
    refine go_sald (pc' := 12) (q := (((424 * rho) + 14) + 0)) (v := .int 1) hS rfl (tr_as hr (by omega)) rfl rfl (by omega) (congrArg Value.int ((hR.1 14 (by decide) (by decide) (by decide)).trans e)) rfl ?_
    refine go_s (pc' := 13) (st' := [.int 1, .int 1]) rfl rfl rfl rfl ?_
    refine go_icmpP (t' := 16) (pc' := 14) rfl rfl rfl (fun (c : ¬ (1 : Int32) = 1) => absurd c (by decide)) (fun _ => ?_)
    refine go_s (pc' := 15) (st' := [.int 1]) rfl rfl rfl rfl ?_
    refine go_s (pc' := 17) rfl rfl rfl rfl ?_
    refine go_s (pc' := 18) (lo' := [some (.ref 62), some (.int 0), some (.int 3), some (.int rc), some (.int vl), some (.int (nI (424 * rho))), some (.int 1)]) rfl rfl rfl rfl ?_
    refine go_s (pc' := 19) rfl rfl rfl rfl ?_
    refine go_s (pc' := 20) (st' := [.int 0, .int 3]) rfl rfl rfl rfl ?_
    refine go_s (pc' := 21) (st' := [.int 4, .int 0, .int 3]) rfl rfl rfl rfl ?_
    refine go_callS (pc' := 22) rfl rfl rfl (Nat.le_of_ble_eq_true rfl) rfl rfl rfl (rt_within_t (q := 3) (n := 4) (by decide) (by decide) (by omega)) (fun r h7 q8 => ?_)
    obtain ⟨rfl, rfl⟩ := q8
    refine go_ifP (t' := 25) (pc' := 23) rfl rfl rfl (fun _ => ?_) (fun (c : ¬ (¬ (1 : Int32) = 0)) => absurd (by decide) c)
    refine go_s (pc' := 26) rfl rfl rfl rfl ?_
    refine go_ifP (t' := 57) (pc' := 27) rfl rfl rfl (fun _ => ?_) (fun (c : ¬ (¬ (3 : Int32) = 0)) => absurd (by decide) c)
    refine go_s (pc' := 58) rfl rfl rfl rfl ?_
    refine go_ifP (t' := 61) (pc' := 59) rfl rfl rfl (fun _ => ?_) (fun (c : ¬ (¬ (1 : Int32) = 0)) => absurd (by decide) c)
    refine go_s (pc' := 62) rfl rfl rfl rfl ?_
    refine go_s (pc' := 63) (st' := [.int 3, .int 3]) rfl rfl rfl rfl ?_
    refine go_icmpP (t' := 71) (pc' := 64) rfl rfl rfl (fun _ => ?_) (fun (c : ¬ (3 ≤ (3 : Int32))) => absurd (by decide) c)
    refine go_s (pc' := 72) rfl rfl rfl rfl ?_
    refine go_s (pc' := 73) rfl rfl rfl rfl ?_
    refine go_s (pc' := 74) rfl rfl rfl rfl ?_
    refine go_s (pc' := 75) (st' := [.int 3, .int 3, .int 0, .ref 62]) rfl rfl rfl rfl ?_
    refine go_icmpP (t' := 78) (pc' := 76) rfl rfl rfl (fun (c : ¬ (3 : Int32) = 3) => absurd c (by decide)) (fun _ => ?_)
    refine go_s (pc' := 77) (st' := [.int 1, .int 0, .ref 62]) rfl rfl rfl rfl ?_
    refine go_s (pc' := 79) rfl rfl rfl rfl ?_
    have hcw := cw_le s.2.1 (nI 0) s.2.1.length
    refine go_callV (pc' := 80) rfl rfl rfl (Nat.le_of_ble_eq_true rfl) rfl (sm_o hS rfl) rfl rfl rfl (rs_en_0_1 hr hS hW hWa hp hn hrho hls hl31 hR hl hK hrk (by omega) ⟨by show (s.2.2 ++ [_]).length ≤ 40; simp; omega, by show (s.2.1 ++ [_]).length ≤ 32; simp; omega⟩ (fun m em => bok_e (by decide) (bok_F (s := s) (by rw [em]; rfl) (by rw [em]; rfl) hb)) (by omega)) (fun r h9 q10 => ?_)
    obtain ⟨rfl, K, hSK, hEK, hRK, hfK⟩ := q10
    refine go_s (pc' := 81) (st' := [.int 0]) rfl rfl rfl rfl ?_
    refine go_ret rfl rfl ?_
    have hm : mj2 s 0 3 rc = (0, s) := by
      unfold mj2
      rw [if_neg (by decide), if_neg (by decide), if_neg (by rw [show s.1 (14 + 0) = 1 from e]; decide), if_neg (by decide)]
    rw [hm]
    refine ⟨rfl, K, hSK, hEK, ?_, hfK⟩
    dsimp only
    rw [mdo_3]
    exact hRK
theorem rs_re_0_4 {w : Nat → Bool} {d : Nat} {h : am_Hp} {J : sm_I} {Y : sm_X} {am lm as_ ls : Nat} (hr : rk am as_) (hS : sm (tbr am lm as_ ls) h J Y) (hW : ∀ a, 62 ≤ a → a ≤ 88 → w a = true) (hWa : w as_ = true) {rho : Nat} {s : ms} (hp : prk J 0) (hn : ¬ J 11 0 = -1) (hrho : rwi J 0 = rho) (hls : 424 * rho + 424 ≤ ls) (hl31 : ls < 2 ^ 31) (hR : RS J rho s) (hw0 : s.2.2 = []) (hH : s.2.1.length + mtr s ≤ 32) (hK : EK s.2.1) (hrk : rok s.2.1 (nI 0)) (hb : bok s) {rc : Int32} {vl : Int32} (hd : 6 ≤ d) : am_Ev (am_prog w) d 146 [.ref 62, .int 0, .int 4, .int rc, .int vl] h (fun r h' => r = some (.int (mj2 s 0 4 rc).1) ∧ ∃ K, sm (tbr am lm as_ ls) h' K Y ∧ sm_e (tbr am lm as_ ls) h h' ∧ RS K rho (mdo (mj2 s 0 4 rc).2 0 (mj2 s 0 4 rc).1 4 rc vl) ∧ rfr J K rho) := by
  obtain ⟨d, rfl⟩ : ∃ e, d = e + 1 := ⟨d - 1, by omega⟩
  refine ev_go rfl (Nat.le_of_ble_eq_true rfl) rfl ?_
  have hwl : s.2.2.length = 0 := by rw [hw0]; rfl
  have hbt : s.1 14 = 0 ∨ s.1 14 = 1 := hb.1
  rcases hbt with e | e
  · skip
    have hmle := mtr_le s
    refine go_s (pc' := 1) rfl rfl rfl rfl ?_
    refine go_s (pc' := 2) (st' := [.int 0, .ref 62]) rfl rfl rfl rfl ?_
    refine go_callV (pc' := 3) rfl rfl rfl (Nat.le_of_ble_eq_true rfl) rfl (sm_o hS rfl) rfl rfl rfl (rt_at_0 hr hS hp hn (by omega)) (fun r h1 q2 => ?_)
    obtain ⟨rfl, rfl⟩ := q2
    rw [show rwi J 0 = rho from hrho]
    refine go_s (pc' := 4) (lo' := [some (.ref 62), some (.int 0), some (.int 4), some (.int rc), some (.int vl), some (.int (nI (424 * rho))), none]) rfl rfl rfl rfl ?_
    refine go_s (pc' := 5) rfl rfl rfl rfl ?_
    refine go_sget (pc' := 6) (v := .ref as_) hS rfl rfl rfl (by decide) rfl rfl ?_
    refine go_s (pc' := 7) rfl rfl rfl rfl ?_
    refine go_s (pc' := 8) (st' := [.int 14, .int (nI (424 * rho)), .ref as_]) rfl rfl rfl rfl ?_
    refine go_nadd (pc' := 9) (a := (424 * rho)) (b := 14) rfl rfl rfl rfl rfl ?_
    refine go_s (pc' := 10) rfl rfl rfl rfl ?_
    refine go_nadd (pc' := 11) (a := ((424 * rho) + 14)) (b := 0) rfl rfl rfl rfl rfl ?_
    refine go_sald (pc' := 12) (q := (((424 * rho) + 14) + 0)) (v := .int 0) hS rfl (tr_as hr (by omega)) rfl rfl (by omega) (congrArg Value.int ((hR.1 14 (by decide) (by decide) (by decide)).trans e)) rfl ?_
    refine go_s (pc' := 13) (st' := [.int 1, .int 0]) rfl rfl rfl rfl ?_
    refine go_icmpP (t' := 16) (pc' := 14) rfl rfl rfl (fun _ => ?_) (fun (c : ¬ (¬ (0 : Int32) = 1)) => absurd (by decide) c)
    refine go_s (pc' := 17) (st' := [.int 0]) rfl rfl rfl rfl ?_
    refine go_s (pc' := 18) (lo' := [some (.ref 62), some (.int 0), some (.int 4), some (.int rc), some (.int vl), some (.int (nI (424 * rho))), some (.int 0)]) rfl rfl rfl rfl ?_
    refine go_s (pc' := 19) rfl rfl rfl rfl ?_
    refine go_s (pc' := 20) (st' := [.int 0, .int 4]) rfl rfl rfl rfl ?_
    refine go_s (pc' := 21) (st' := [.int 4, .int 0, .int 4]) rfl rfl rfl rfl ?_
    refine go_callS (pc' := 22) rfl rfl rfl (Nat.le_of_ble_eq_true rfl) rfl rfl rfl (rt_within_t (q := 4) (n := 4) (by decide) (by decide) (by omega)) (fun r h3 q4 => ?_)
    obtain ⟨rfl, rfl⟩ := q4
    refine go_ifP (t' := 25) (pc' := 23) rfl rfl rfl (fun _ => ?_) (fun (c : ¬ (¬ (1 : Int32) = 0)) => absurd (by decide) c)
    refine go_s (pc' := 26) rfl rfl rfl rfl ?_
    refine go_ifP (t' := 57) (pc' := 27) rfl rfl rfl (fun _ => ?_) (fun (c : ¬ (¬ (4 : Int32) = 0)) => absurd (by decide) c)
    refine go_s (pc' := 58) rfl rfl rfl rfl ?_
    refine go_ifP (t' := 61) (pc' := 59) rfl rfl rfl (fun (c : ¬ (0 : Int32) = 0) => absurd c (by decide)) (fun _ => ?_)
    refine go_s (pc' := 60) (st' := [.int (-2)]) rfl rfl rfl rfl ?_
    refine go_ret rfl rfl ?_
    have hm : mj2 s 0 4 rc = (-2, s) := by
      unfold mj2
      rw [if_neg (by decide), if_neg (by decide), if_pos (show s.1 (14 + 0) = 0 from e)]
    rw [hm]
    refine ⟨rfl, J, hS, sm_e_refl _ _, ?_, rfr_refl _ _⟩
    dsimp only
    rw [mdo_e (by decide) (by decide)]
    exact hR
  · skip
    have hpos : 0 < mtr s := by
      rw [mtr_e]
      have z : bz (s.1 14) = 1 := by rw [e]; rfl
      omega
    have hl : s.2.1.length < 32 := by omega
    have hmle := mtr_le s
    refine go_s (pc' := 1) rfl rfl rfl rfl ?_
    refine go_s (pc' := 2) (st' := [.int 0, .ref 62]) rfl rfl rfl rfl ?_
    refine go_callV (pc' := 3) rfl rfl rfl (Nat.le_of_ble_eq_true rfl) rfl (sm_o hS rfl) rfl rfl rfl (rt_at_0 hr hS hp hn (by omega)) (fun r h5 q6 => ?_)
    obtain ⟨rfl, rfl⟩ := q6
    rw [show rwi J 0 = rho from hrho]
    refine go_s (pc' := 4) (lo' := [some (.ref 62), some (.int 0), some (.int 4), some (.int rc), some (.int vl), some (.int (nI (424 * rho))), none]) rfl rfl rfl rfl ?_
    refine go_s (pc' := 5) rfl rfl rfl rfl ?_
    refine go_sget (pc' := 6) (v := .ref as_) hS rfl rfl rfl (by decide) rfl rfl ?_
    refine go_s (pc' := 7) rfl rfl rfl rfl ?_
    refine go_s (pc' := 8) (st' := [.int 14, .int (nI (424 * rho)), .ref as_]) rfl rfl rfl rfl ?_
    refine go_nadd (pc' := 9) (a := (424 * rho)) (b := 14) rfl rfl rfl rfl rfl ?_
    refine go_s (pc' := 10) rfl rfl rfl rfl ?_
    refine go_nadd (pc' := 11) (a := ((424 * rho) + 14)) (b := 0) rfl rfl rfl rfl rfl ?_
    refine go_sald (pc' := 12) (q := (((424 * rho) + 14) + 0)) (v := .int 1) hS rfl (tr_as hr (by omega)) rfl rfl (by omega) (congrArg Value.int ((hR.1 14 (by decide) (by decide) (by decide)).trans e)) rfl ?_
    refine go_s (pc' := 13) (st' := [.int 1, .int 1]) rfl rfl rfl rfl ?_
    refine go_icmpP (t' := 16) (pc' := 14) rfl rfl rfl (fun (c : ¬ (1 : Int32) = 1) => absurd c (by decide)) (fun _ => ?_)
    refine go_s (pc' := 15) (st' := [.int 1]) rfl rfl rfl rfl ?_
    refine go_s (pc' := 17) rfl rfl rfl rfl ?_
    refine go_s (pc' := 18) (lo' := [some (.ref 62), some (.int 0), some (.int 4), some (.int rc), some (.int vl), some (.int (nI (424 * rho))), some (.int 1)]) rfl rfl rfl rfl ?_
    refine go_s (pc' := 19) rfl rfl rfl rfl ?_
    refine go_s (pc' := 20) (st' := [.int 0, .int 4]) rfl rfl rfl rfl ?_
    refine go_s (pc' := 21) (st' := [.int 4, .int 0, .int 4]) rfl rfl rfl rfl ?_
    refine go_callS (pc' := 22) rfl rfl rfl (Nat.le_of_ble_eq_true rfl) rfl rfl rfl (rt_within_t (q := 4) (n := 4) (by decide) (by decide) (by omega)) (fun r h7 q8 => ?_)
    obtain ⟨rfl, rfl⟩ := q8
    refine go_ifP (t' := 25) (pc' := 23) rfl rfl rfl (fun _ => ?_) (fun (c : ¬ (¬ (1 : Int32) = 0)) => absurd (by decide) c)
    refine go_s (pc' := 26) rfl rfl rfl rfl ?_
    refine go_ifP (t' := 57) (pc' := 27) rfl rfl rfl (fun _ => ?_) (fun (c : ¬ (¬ (4 : Int32) = 0)) => absurd (by decide) c)
    refine go_s (pc' := 58) rfl rfl rfl rfl ?_
    refine go_ifP (t' := 61) (pc' := 59) rfl rfl rfl (fun _ => ?_) (fun (c : ¬ (¬ (1 : Int32) = 0)) => absurd (by decide) c)
    refine go_s (pc' := 62) rfl rfl rfl rfl ?_
    refine go_s (pc' := 63) (st' := [.int 3, .int 4]) rfl rfl rfl rfl ?_
    refine go_icmpP (t' := 71) (pc' := 64) rfl rfl rfl (fun _ => ?_) (fun (c : ¬ (3 ≤ (4 : Int32))) => absurd (by decide) c)
    refine go_s (pc' := 72) rfl rfl rfl rfl ?_
    refine go_s (pc' := 73) rfl rfl rfl rfl ?_
    refine go_s (pc' := 74) rfl rfl rfl rfl ?_
    refine go_s (pc' := 75) (st' := [.int 3, .int 4, .int 0, .ref 62]) rfl rfl rfl rfl ?_
    refine go_icmpP (t' := 78) (pc' := 76) rfl rfl rfl (fun _ => ?_) (fun (c : ¬ (¬ (4 : Int32) = 3)) => absurd (by decide) c)
    refine go_s (pc' := 79) (st' := [.int 0, .int 0, .ref 62]) rfl rfl rfl rfl ?_
    have hcw := cw_le s.2.1 (nI 0) s.2.1.length
    refine go_callV (pc' := 80) rfl rfl rfl (Nat.le_of_ble_eq_true rfl) rfl (sm_o hS rfl) rfl rfl rfl (rs_en_0_0 hr hS hW hWa hp hn hrho hls hl31 hR hl hK hrk (by omega) ⟨by have z := mB_len s (nI 0); omega, by rw [(mB_1 s (nI 0)).2]; omega⟩ (fun m em => bok_e (by decide) (bok_F (s := s) (by rw [em]; exact (mB_1 s (nI 0)).1 14 (by omega)) (by rw [em]; exact (mB_1 s (nI 0)).1 15 (by omega)) hb)) (by omega)) (fun r h9 q10 => ?_)
    obtain ⟨rfl, K, hSK, hEK, hRK, hfK⟩ := q10
    refine go_s (pc' := 81) (st' := [.int 0]) rfl rfl rfl rfl ?_
    refine go_ret rfl rfl ?_
    have hm : mj2 s 0 4 rc = (0, s) := by
      unfold mj2
      rw [if_neg (by decide), if_neg (by decide), if_neg (by rw [show s.1 (14 + 0) = 1 from e]; decide), if_neg (by decide)]
    rw [hm]
    refine ⟨rfl, K, hSK, hEK, ?_, hfK⟩
    dsimp only
    rw [mdo_4]
    exact hRK
theorem rs_re_0_n {w : Nat → Bool} {d : Nat} {h : am_Hp} {J : sm_I} {Y : sm_X} {am lm as_ ls : Nat} (hr : rk am as_) (hS : sm (tbr am lm as_ ls) h J Y) (hW : ∀ a, 62 ≤ a → a ≤ 88 → w a = true) (hWa : w as_ = true) {rho : Nat} {s : ms} (hp : prk J 0) (hn : ¬ J 11 0 = -1) (hrho : rwi J 0 = rho) (hls : 424 * rho + 424 ≤ ls) (hl31 : ls < 2 ^ 31) (hR : RS J rho s) (hw0 : s.2.2 = []) (hH : s.2.1.length + mtr s ≤ 32) (hK : EK s.2.1) (hrk : rok s.2.1 (nI 0)) (hb : bok s) {rc : Int32} {kd : Int32} (hko : kd < 0 ∨ nI 4 < kd) {vl : Int32} (hd : 6 ≤ d) : am_Ev (am_prog w) d 146 [.ref 62, .int 0, .int kd, .int rc, .int vl] h (fun r h' => r = some (.int (mj2 s 0 kd rc).1) ∧ ∃ K, sm (tbr am lm as_ ls) h' K Y ∧ sm_e (tbr am lm as_ ls) h h' ∧ RS K rho (mdo (mj2 s 0 kd rc).2 0 (mj2 s 0 kd rc).1 kd rc vl) ∧ rfr J K rho) := by
  obtain ⟨d, rfl⟩ : ∃ e, d = e + 1 := ⟨d - 1, by omega⟩
  refine ev_go rfl (Nat.le_of_ble_eq_true rfl) rfl ?_
  have hwl : s.2.2.length = 0 := by rw [hw0]; rfl
  have hbt : s.1 14 = 0 ∨ s.1 14 = 1 := hb.1
  rcases hbt with e | e
  · skip
    have hmle := mtr_le s
    refine go_s (pc' := 1) rfl rfl rfl rfl ?_
    refine go_s (pc' := 2) (st' := [.int 0, .ref 62]) rfl rfl rfl rfl ?_
    refine go_callV (pc' := 3) rfl rfl rfl (Nat.le_of_ble_eq_true rfl) rfl (sm_o hS rfl) rfl rfl rfl (rt_at_0 hr hS hp hn (by omega)) (fun r h1 q2 => ?_)
    obtain ⟨rfl, rfl⟩ := q2
    rw [show rwi J 0 = rho from hrho]
    refine go_s (pc' := 4) (lo' := [some (.ref 62), some (.int 0), some (.int kd), some (.int rc), some (.int vl), some (.int (nI (424 * rho))), none]) rfl rfl rfl rfl ?_
    refine go_s (pc' := 5) rfl rfl rfl rfl ?_
    refine go_sget (pc' := 6) (v := .ref as_) hS rfl rfl rfl (by decide) rfl rfl ?_
    refine go_s (pc' := 7) rfl rfl rfl rfl ?_
    refine go_s (pc' := 8) (st' := [.int 14, .int (nI (424 * rho)), .ref as_]) rfl rfl rfl rfl ?_
    refine go_nadd (pc' := 9) (a := (424 * rho)) (b := 14) rfl rfl rfl rfl rfl ?_
    refine go_s (pc' := 10) rfl rfl rfl rfl ?_
    refine go_nadd (pc' := 11) (a := ((424 * rho) + 14)) (b := 0) rfl rfl rfl rfl rfl ?_
    refine go_sald (pc' := 12) (q := (((424 * rho) + 14) + 0)) (v := .int 0) hS rfl (tr_as hr (by omega)) rfl rfl (by omega) (congrArg Value.int ((hR.1 14 (by decide) (by decide) (by decide)).trans e)) rfl ?_
    refine go_s (pc' := 13) (st' := [.int 1, .int 0]) rfl rfl rfl rfl ?_
    refine go_icmpP (t' := 16) (pc' := 14) rfl rfl rfl (fun _ => ?_) (fun (c : ¬ (¬ (0 : Int32) = 1)) => absurd (by decide) c)
    refine go_s (pc' := 17) (st' := [.int 0]) rfl rfl rfl rfl ?_
    refine go_s (pc' := 18) (lo' := [some (.ref 62), some (.int 0), some (.int kd), some (.int rc), some (.int vl), some (.int (nI (424 * rho))), some (.int 0)]) rfl rfl rfl rfl ?_
    refine go_s (pc' := 19) rfl rfl rfl rfl ?_
    refine go_s (pc' := 20) (st' := [.int 0, .int kd]) rfl rfl rfl rfl ?_
    refine go_s (pc' := 21) (st' := [.int 4, .int 0, .int kd]) rfl rfl rfl rfl ?_
    refine go_callS (pc' := 22) rfl rfl rfl (Nat.le_of_ble_eq_true rfl) rfl rfl rfl (rt_within_f (a := kd) (n := 4) hko (by omega)) (fun r h3 q4 => ?_)
    obtain ⟨rfl, rfl⟩ := q4
    refine go_ifP (t' := 25) (pc' := 23) rfl rfl rfl (fun (c : ¬ (0 : Int32) = 0) => absurd c (by decide)) (fun _ => ?_)
    refine go_s (pc' := 24) (st' := [.int (-5)]) rfl rfl rfl rfl ?_
    refine go_ret rfl rfl ?_
    have hm : mj2 s 0 kd rc = (-5, s) := by
      unfold mj2
      rw [if_neg (fun z => hko.elim (fun y => absurd y (by rw [z]; decide)) (fun y => absurd y (by rw [z]; decide))), if_pos (show kd < 0 ∨ 4 < kd from hko)]
    rw [hm]
    refine ⟨rfl, J, hS, sm_e_refl _ _, ?_, rfr_refl _ _⟩
    dsimp only
    rw [mdo_e (by decide) (by decide)]
    exact hR
  · skip
    have hpos : 0 < mtr s := by
      rw [mtr_e]
      have z : bz (s.1 14) = 1 := by rw [e]; rfl
      omega
    have hl : s.2.1.length < 32 := by omega
    have hmle := mtr_le s
    refine go_s (pc' := 1) rfl rfl rfl rfl ?_
    refine go_s (pc' := 2) (st' := [.int 0, .ref 62]) rfl rfl rfl rfl ?_
    refine go_callV (pc' := 3) rfl rfl rfl (Nat.le_of_ble_eq_true rfl) rfl (sm_o hS rfl) rfl rfl rfl (rt_at_0 hr hS hp hn (by omega)) (fun r h5 q6 => ?_)
    obtain ⟨rfl, rfl⟩ := q6
    rw [show rwi J 0 = rho from hrho]
    refine go_s (pc' := 4) (lo' := [some (.ref 62), some (.int 0), some (.int kd), some (.int rc), some (.int vl), some (.int (nI (424 * rho))), none]) rfl rfl rfl rfl ?_
    refine go_s (pc' := 5) rfl rfl rfl rfl ?_
    refine go_sget (pc' := 6) (v := .ref as_) hS rfl rfl rfl (by decide) rfl rfl ?_
    refine go_s (pc' := 7) rfl rfl rfl rfl ?_
    refine go_s (pc' := 8) (st' := [.int 14, .int (nI (424 * rho)), .ref as_]) rfl rfl rfl rfl ?_
    refine go_nadd (pc' := 9) (a := (424 * rho)) (b := 14) rfl rfl rfl rfl rfl ?_
    refine go_s (pc' := 10) rfl rfl rfl rfl ?_
    refine go_nadd (pc' := 11) (a := ((424 * rho) + 14)) (b := 0) rfl rfl rfl rfl rfl ?_
    refine go_sald (pc' := 12) (q := (((424 * rho) + 14) + 0)) (v := .int 1) hS rfl (tr_as hr (by omega)) rfl rfl (by omega) (congrArg Value.int ((hR.1 14 (by decide) (by decide) (by decide)).trans e)) rfl ?_
    refine go_s (pc' := 13) (st' := [.int 1, .int 1]) rfl rfl rfl rfl ?_
    refine go_icmpP (t' := 16) (pc' := 14) rfl rfl rfl (fun (c : ¬ (1 : Int32) = 1) => absurd c (by decide)) (fun _ => ?_)
    refine go_s (pc' := 15) (st' := [.int 1]) rfl rfl rfl rfl ?_
    refine go_s (pc' := 17) rfl rfl rfl rfl ?_
    refine go_s (pc' := 18) (lo' := [some (.ref 62), some (.int 0), some (.int kd), some (.int rc), some (.int vl), some (.int (nI (424 * rho))), some (.int 1)]) rfl rfl rfl rfl ?_
    refine go_s (pc' := 19) rfl rfl rfl rfl ?_
    refine go_s (pc' := 20) (st' := [.int 0, .int kd]) rfl rfl rfl rfl ?_
    refine go_s (pc' := 21) (st' := [.int 4, .int 0, .int kd]) rfl rfl rfl rfl ?_
    refine go_callS (pc' := 22) rfl rfl rfl (Nat.le_of_ble_eq_true rfl) rfl rfl rfl (rt_within_f (a := kd) (n := 4) hko (by omega)) (fun r h7 q8 => ?_)
    obtain ⟨rfl, rfl⟩ := q8
    refine go_ifP (t' := 25) (pc' := 23) rfl rfl rfl (fun (c : ¬ (0 : Int32) = 0) => absurd c (by decide)) (fun _ => ?_)
    refine go_s (pc' := 24) (st' := [.int (-5)]) rfl rfl rfl rfl ?_
    refine go_ret rfl rfl ?_
    have hm : mj2 s 0 kd rc = (-5, s) := by
      unfold mj2
      rw [if_neg (fun z => hko.elim (fun y => absurd y (by rw [z]; decide)) (fun y => absurd y (by rw [z]; decide))), if_pos (show kd < 0 ∨ 4 < kd from hko)]
    rw [hm]
    refine ⟨rfl, J, hS, sm_e_refl _ _, ?_, rfr_refl _ _⟩
    dsimp only
    rw [mdo_e (by decide) (by decide)]
    exact hR
theorem rs_re_1_0 {w : Nat → Bool} {d : Nat} {h : am_Hp} {J : sm_I} {Y : sm_X} {am lm as_ ls : Nat} (hr : rk am as_) (hS : sm (tbr am lm as_ ls) h J Y) (hW : ∀ a, 62 ≤ a → a ≤ 88 → w a = true) (hWa : w as_ = true) {rho : Nat} {s : ms} (hp : prk J 0) (hn : ¬ J 11 0 = -1) (hrho : rwi J 0 = rho) (hls : 424 * rho + 424 ≤ ls) (hl31 : ls < 2 ^ 31) (hR : RS J rho s) (hw0 : s.2.2 = []) (hH : s.2.1.length + mtr s ≤ 32) (hK : EK s.2.1) (hrk : rok s.2.1 (nI 1)) (hb : bok s) {rc : Int32} {vl : Int32} (hd : 6 ≤ d) : am_Ev (am_prog w) d 146 [.ref 62, .int 1, .int 0, .int rc, .int vl] h (fun r h' => r = some (.int (mj2 s 1 0 rc).1) ∧ ∃ K, sm (tbr am lm as_ ls) h' K Y ∧ sm_e (tbr am lm as_ ls) h h' ∧ RS K rho (mdo (mj2 s 1 0 rc).2 1 (mj2 s 1 0 rc).1 0 rc vl) ∧ rfr J K rho) := by
  obtain ⟨d, rfl⟩ : ∃ e, d = e + 1 := ⟨d - 1, by omega⟩
  refine ev_go rfl (Nat.le_of_ble_eq_true rfl) rfl ?_
  have hwl : s.2.2.length = 0 := by rw [hw0]; rfl
  have hbt : s.1 15 = 0 ∨ s.1 15 = 1 := hb.2
  rcases hbt with e | e
  · skip
    have hmle := mtr_le s
    refine go_s (pc' := 1) rfl rfl rfl rfl ?_
    refine go_s (pc' := 2) (st' := [.int 0, .ref 62]) rfl rfl rfl rfl ?_
    refine go_callV (pc' := 3) rfl rfl rfl (Nat.le_of_ble_eq_true rfl) rfl (sm_o hS rfl) rfl rfl rfl (rt_at_0 hr hS hp hn (by omega)) (fun r h1 q2 => ?_)
    obtain ⟨rfl, rfl⟩ := q2
    rw [show rwi J 0 = rho from hrho]
    refine go_s (pc' := 4) (lo' := [some (.ref 62), some (.int 1), some (.int 0), some (.int rc), some (.int vl), some (.int (nI (424 * rho))), none]) rfl rfl rfl rfl ?_
    refine go_s (pc' := 5) rfl rfl rfl rfl ?_
    refine go_sget (pc' := 6) (v := .ref as_) hS rfl rfl rfl (by decide) rfl rfl ?_
    refine go_s (pc' := 7) rfl rfl rfl rfl ?_
    refine go_s (pc' := 8) (st' := [.int 14, .int (nI (424 * rho)), .ref as_]) rfl rfl rfl rfl ?_
    refine go_nadd (pc' := 9) (a := (424 * rho)) (b := 14) rfl rfl rfl rfl rfl ?_
    refine go_s (pc' := 10) rfl rfl rfl rfl ?_
    refine go_nadd (pc' := 11) (a := ((424 * rho) + 14)) (b := 1) rfl rfl rfl rfl rfl ?_
    refine go_sald (pc' := 12) (q := (((424 * rho) + 14) + 1)) (v := .int 0) hS rfl (tr_as hr (by omega)) rfl rfl (by omega) (congrArg Value.int ((hR.1 15 (by decide) (by decide) (by decide)).trans e)) rfl ?_
    refine go_s (pc' := 13) (st' := [.int 1, .int 0]) rfl rfl rfl rfl ?_
    refine go_icmpP (t' := 16) (pc' := 14) rfl rfl rfl (fun _ => ?_) (fun (c : ¬ (¬ (0 : Int32) = 1)) => absurd (by decide) c)
    refine go_s (pc' := 17) (st' := [.int 0]) rfl rfl rfl rfl ?_
    refine go_s (pc' := 18) (lo' := [some (.ref 62), some (.int 1), some (.int 0), some (.int rc), some (.int vl), some (.int (nI (424 * rho))), some (.int 0)]) rfl rfl rfl rfl ?_
    refine go_s (pc' := 19) rfl rfl rfl rfl ?_
    refine go_s (pc' := 20) (st' := [.int 0, .int 0]) rfl rfl rfl rfl ?_
    refine go_s (pc' := 21) (st' := [.int 4, .int 0, .int 0]) rfl rfl rfl rfl ?_
    refine go_callS (pc' := 22) rfl rfl rfl (Nat.le_of_ble_eq_true rfl) rfl rfl rfl (rt_within_t (q := 0) (n := 4) (by decide) (by decide) (by omega)) (fun r h3 q4 => ?_)
    obtain ⟨rfl, rfl⟩ := q4
    refine go_ifP (t' := 25) (pc' := 23) rfl rfl rfl (fun _ => ?_) (fun (c : ¬ (¬ (1 : Int32) = 0)) => absurd (by decide) c)
    refine go_s (pc' := 26) rfl rfl rfl rfl ?_
    refine go_ifP (t' := 57) (pc' := 27) rfl rfl rfl (fun (c : ¬ (0 : Int32) = 0) => absurd c (by decide)) (fun _ => ?_)
    refine go_s (pc' := 28) rfl rfl rfl rfl ?_
    refine go_ifP (t' := 31) (pc' := 29) rfl rfl rfl (fun _ => ?_) (fun (c : ¬ ((0 : Int32) = 0)) => absurd (by decide) c)
    refine go_s (pc' := 32) (st' := [.int 32]) rfl rfl rfl rfl ?_
    refine go_s (pc' := 33) rfl rfl rfl rfl ?_
    refine go_sget (pc' := 34) (v := .ref as_) hS rfl rfl rfl (by decide) rfl rfl ?_
    refine go_s (pc' := 35) rfl rfl rfl rfl ?_
    refine go_s (pc' := 36) (st' := [.int 2, .int (nI (424 * rho)), .ref as_, .int 32]) rfl rfl rfl rfl ?_
    refine go_nadd (pc' := 37) (a := (424 * rho)) (b := 2) rfl rfl rfl rfl rfl ?_
    refine go_sald (pc' := 38) (q := ((424 * rho) + 2)) (v := .int (nI (List.length s.2.1))) hS rfl (tr_as hr (by omega)) rfl rfl (by omega) (congrArg Value.int hR.2.1) rfl ?_
    refine go_nsub (pc' := 39) (a := 32) (b := (List.length s.2.1)) rfl rfl rfl (by omega) rfl rfl ?_
    refine go_s (pc' := 40) rfl rfl rfl rfl ?_
    refine go_callV (pc' := 41) rfl rfl rfl (Nat.le_of_ble_eq_true rfl) rfl (sm_o hS rfl) rfl rfl rfl (rs_tr hr hS hp hn hrho hls hl31 hR hb (by omega)) (fun r h5 q6 => ?_)
    obtain ⟨rfl, rfl⟩ := q6
    refine go_s (pc' := 42) (st' := [.int 1, .int (nI (mtr s)), .int (nI (32 - (List.length s.2.1)))]) rfl rfl rfl rfl ?_
    refine go_nadd (pc' := 43) (a := (mtr s)) (b := 1) rfl rfl rfl rfl rfl ?_
    by_cases hroom : mtr s + 1 ≤ 32 - s.2.1.length
    · skip
      refine go_icmpP (t' := 46) (pc' := 44) rfl rfl rfl (fun _ => ?_) (fun (c : ¬ ((nI ((mtr s) + 1)) ≤ (nI (32 - (List.length s.2.1))))) => absurd (nI_le hroom (by omega)) c)
      refine go_s (pc' := 47) rfl rfl rfl rfl ?_
      refine go_sget (pc' := 48) (v := .ref as_) hS rfl rfl rfl (by decide) rfl rfl ?_
      refine go_s (pc' := 49) rfl rfl rfl rfl ?_
      refine go_s (pc' := 50) (st' := [.int 14, .int (nI (424 * rho)), .ref as_]) rfl rfl rfl rfl ?_
      refine go_nadd (pc' := 51) (a := (424 * rho)) (b := 14) rfl rfl rfl rfl rfl ?_
      refine go_s (pc' := 52) rfl rfl rfl rfl ?_
      refine go_nadd (pc' := 53) (a := ((424 * rho) + 14)) (b := 1) rfl rfl rfl rfl rfl ?_
      refine go_s (pc' := 54) (st' := [.int 1, .int (nI (((424 * rho) + 14) + 1)), .ref as_]) rfl rfl rfl rfl ?_
      refine go_siast (pc' := 55) (q := (((424 * rho) + 14) + 1)) hS rfl (tr_as hr (by omega)) tbr_inj (Nat.le_of_ble_eq_true rfl) rfl (by omega) (rk_0 hr).2 hWa rfl (fun h7 hS8 hE9 => ?_)
      refine go_s (pc' := 56) (st' := [.int 0]) rfl rfl rfl rfl ?_
      refine go_ret rfl rfl ?_
      have hm : mj2 s 1 0 rc = (0, s) := by
        show (mjB s 1, s) = _
        unfold mjB
        rw [if_pos (show s.1 (14 + 1) = 0 from e), if_neg (by omega)]
      have hR9 := RS_F (j := 15) (v := 1) hR (by decide) (by decide) (by decide)
      rw [hm]
      refine ⟨rfl, _, hS8, hE9, ?_, rfr_u (by omega) (by omega)⟩
      dsimp only
      rw [mdo_0]
      exact hR9
    · skip
      refine go_icmpP (t' := 46) (pc' := 44) rfl rfl rfl (fun (c : (nI ((mtr s) + 1)) ≤ (nI (32 - (List.length s.2.1)))) => absurd c (nI_ge (show 32 - s.2.1.length < mtr s + 1 by omega) (by omega))) (fun _ => ?_)
      refine go_s (pc' := 45) (st' := [.int (-4)]) rfl rfl rfl rfl ?_
      refine go_ret rfl rfl ?_
      have hm : mj2 s 1 0 rc = (-4, s) := by
        show (mjB s 1, s) = _
        unfold mjB
        rw [if_pos (show s.1 (14 + 1) = 0 from e), if_pos (by omega)]
      rw [hm]
      refine ⟨rfl, J, hS, sm_e_refl _ _, ?_, rfr_refl _ _⟩
      dsimp only
      rw [mdo_e (by decide) (by decide)]
      exact hR
  · skip
    have hpos : 0 < mtr s := by
      rw [mtr_e]
      have z : bz (s.1 15) = 1 := by rw [e]; rfl
      omega
    have hl : s.2.1.length < 32 := by omega
    have hmle := mtr_le s
    refine go_s (pc' := 1) rfl rfl rfl rfl ?_
    refine go_s (pc' := 2) (st' := [.int 0, .ref 62]) rfl rfl rfl rfl ?_
    refine go_callV (pc' := 3) rfl rfl rfl (Nat.le_of_ble_eq_true rfl) rfl (sm_o hS rfl) rfl rfl rfl (rt_at_0 hr hS hp hn (by omega)) (fun r h10 q11 => ?_)
    obtain ⟨rfl, rfl⟩ := q11
    rw [show rwi J 0 = rho from hrho]
    refine go_s (pc' := 4) (lo' := [some (.ref 62), some (.int 1), some (.int 0), some (.int rc), some (.int vl), some (.int (nI (424 * rho))), none]) rfl rfl rfl rfl ?_
    refine go_s (pc' := 5) rfl rfl rfl rfl ?_
    refine go_sget (pc' := 6) (v := .ref as_) hS rfl rfl rfl (by decide) rfl rfl ?_
    refine go_s (pc' := 7) rfl rfl rfl rfl ?_
    refine go_s (pc' := 8) (st' := [.int 14, .int (nI (424 * rho)), .ref as_]) rfl rfl rfl rfl ?_
    refine go_nadd (pc' := 9) (a := (424 * rho)) (b := 14) rfl rfl rfl rfl rfl ?_
    refine go_s (pc' := 10) rfl rfl rfl rfl ?_
    refine go_nadd (pc' := 11) (a := ((424 * rho) + 14)) (b := 1) rfl rfl rfl rfl rfl ?_
    refine go_sald (pc' := 12) (q := (((424 * rho) + 14) + 1)) (v := .int 1) hS rfl (tr_as hr (by omega)) rfl rfl (by omega) (congrArg Value.int ((hR.1 15 (by decide) (by decide) (by decide)).trans e)) rfl ?_
    refine go_s (pc' := 13) (st' := [.int 1, .int 1]) rfl rfl rfl rfl ?_
    refine go_icmpP (t' := 16) (pc' := 14) rfl rfl rfl (fun (c : ¬ (1 : Int32) = 1) => absurd c (by decide)) (fun _ => ?_)
    refine go_s (pc' := 15) (st' := [.int 1]) rfl rfl rfl rfl ?_
    refine go_s (pc' := 17) rfl rfl rfl rfl ?_
    refine go_s (pc' := 18) (lo' := [some (.ref 62), some (.int 1), some (.int 0), some (.int rc), some (.int vl), some (.int (nI (424 * rho))), some (.int 1)]) rfl rfl rfl rfl ?_
    refine go_s (pc' := 19) rfl rfl rfl rfl ?_
    refine go_s (pc' := 20) (st' := [.int 0, .int 0]) rfl rfl rfl rfl ?_
    refine go_s (pc' := 21) (st' := [.int 4, .int 0, .int 0]) rfl rfl rfl rfl ?_
    refine go_callS (pc' := 22) rfl rfl rfl (Nat.le_of_ble_eq_true rfl) rfl rfl rfl (rt_within_t (q := 0) (n := 4) (by decide) (by decide) (by omega)) (fun r h12 q13 => ?_)
    obtain ⟨rfl, rfl⟩ := q13
    refine go_ifP (t' := 25) (pc' := 23) rfl rfl rfl (fun _ => ?_) (fun (c : ¬ (¬ (1 : Int32) = 0)) => absurd (by decide) c)
    refine go_s (pc' := 26) rfl rfl rfl rfl ?_
    refine go_ifP (t' := 57) (pc' := 27) rfl rfl rfl (fun (c : ¬ (0 : Int32) = 0) => absurd c (by decide)) (fun _ => ?_)
    refine go_s (pc' := 28) rfl rfl rfl rfl ?_
    refine go_ifP (t' := 31) (pc' := 29) rfl rfl rfl (fun (c : (1 : Int32) = 0) => absurd c (by decide)) (fun _ => ?_)
    refine go_s (pc' := 30) (st' := [.int (-1)]) rfl rfl rfl rfl ?_
    refine go_ret rfl rfl ?_
    have hm : mj2 s 1 0 rc = (-1, s) := by
      show (mjB s 1, s) = _
      unfold mjB
      rw [if_neg (by rw [show s.1 (14 + 1) = 1 from e]; decide)]
    rw [hm]
    refine ⟨rfl, J, hS, sm_e_refl _ _, ?_, rfr_refl _ _⟩
    dsimp only
    rw [mdo_e (by decide) (by decide)]
    exact hR
theorem rs_re_1_1 {w : Nat → Bool} {d : Nat} {h : am_Hp} {J : sm_I} {Y : sm_X} {am lm as_ ls : Nat} (hr : rk am as_) (hS : sm (tbr am lm as_ ls) h J Y) (hW : ∀ a, 62 ≤ a → a ≤ 88 → w a = true) (hWa : w as_ = true) {rho : Nat} {s : ms} (hp : prk J 0) (hn : ¬ J 11 0 = -1) (hrho : rwi J 0 = rho) (hls : 424 * rho + 424 ≤ ls) (hl31 : ls < 2 ^ 31) (hR : RS J rho s) (hw0 : s.2.2 = []) (hH : s.2.1.length + mtr s ≤ 32) (hK : EK s.2.1) (hrk : rok s.2.1 (nI 1)) (hb : bok s) {q : Nat} (hq : q < 16) (hlk : s.1 (32 + q) = -1 ∨ s.1 (32 + q) = 0 ∨ s.1 (32 + q) = 1) {vl : Int32} (hd : 6 ≤ d) : am_Ev (am_prog w) d 146 [.ref 62, .int 1, .int 1, .int (nI q), .int vl] h (fun r h' => r = some (.int (mj2 s 1 1 (nI q)).1) ∧ ∃ K, sm (tbr am lm as_ ls) h' K Y ∧ sm_e (tbr am lm as_ ls) h h' ∧ RS K rho (mdo (mj2 s 1 1 (nI q)).2 1 (mj2 s 1 1 (nI q)).1 1 (nI q) vl) ∧ rfr J K rho) := by
  obtain ⟨d, rfl⟩ : ∃ e, d = e + 1 := ⟨d - 1, by omega⟩
  refine ev_go rfl (Nat.le_of_ble_eq_true rfl) rfl ?_
  have hwl : s.2.2.length = 0 := by rw [hw0]; rfl
  have hbt : s.1 15 = 0 ∨ s.1 15 = 1 := hb.2
  rcases hbt with e | e
  · skip
    have hmle := mtr_le s
    refine go_s (pc' := 1) rfl rfl rfl rfl ?_
    refine go_s (pc' := 2) (st' := [.int 0, .ref 62]) rfl rfl rfl rfl ?_
    refine go_callV (pc' := 3) rfl rfl rfl (Nat.le_of_ble_eq_true rfl) rfl (sm_o hS rfl) rfl rfl rfl (rt_at_0 hr hS hp hn (by omega)) (fun r h1 q2 => ?_)
    obtain ⟨rfl, rfl⟩ := q2
    rw [show rwi J 0 = rho from hrho]
    refine go_s (pc' := 4) (lo' := [some (.ref 62), some (.int 1), some (.int 1), some (.int (nI q)), some (.int vl), some (.int (nI (424 * rho))), none]) rfl rfl rfl rfl ?_
    refine go_s (pc' := 5) rfl rfl rfl rfl ?_
    refine go_sget (pc' := 6) (v := .ref as_) hS rfl rfl rfl (by decide) rfl rfl ?_
    refine go_s (pc' := 7) rfl rfl rfl rfl ?_
    refine go_s (pc' := 8) (st' := [.int 14, .int (nI (424 * rho)), .ref as_]) rfl rfl rfl rfl ?_
    refine go_nadd (pc' := 9) (a := (424 * rho)) (b := 14) rfl rfl rfl rfl rfl ?_
    refine go_s (pc' := 10) rfl rfl rfl rfl ?_
    refine go_nadd (pc' := 11) (a := ((424 * rho) + 14)) (b := 1) rfl rfl rfl rfl rfl ?_
    refine go_sald (pc' := 12) (q := (((424 * rho) + 14) + 1)) (v := .int 0) hS rfl (tr_as hr (by omega)) rfl rfl (by omega) (congrArg Value.int ((hR.1 15 (by decide) (by decide) (by decide)).trans e)) rfl ?_
    refine go_s (pc' := 13) (st' := [.int 1, .int 0]) rfl rfl rfl rfl ?_
    refine go_icmpP (t' := 16) (pc' := 14) rfl rfl rfl (fun _ => ?_) (fun (c : ¬ (¬ (0 : Int32) = 1)) => absurd (by decide) c)
    refine go_s (pc' := 17) (st' := [.int 0]) rfl rfl rfl rfl ?_
    refine go_s (pc' := 18) (lo' := [some (.ref 62), some (.int 1), some (.int 1), some (.int (nI q)), some (.int vl), some (.int (nI (424 * rho))), some (.int 0)]) rfl rfl rfl rfl ?_
    refine go_s (pc' := 19) rfl rfl rfl rfl ?_
    refine go_s (pc' := 20) (st' := [.int 0, .int 1]) rfl rfl rfl rfl ?_
    refine go_s (pc' := 21) (st' := [.int 4, .int 0, .int 1]) rfl rfl rfl rfl ?_
    refine go_callS (pc' := 22) rfl rfl rfl (Nat.le_of_ble_eq_true rfl) rfl rfl rfl (rt_within_t (q := 1) (n := 4) (by decide) (by decide) (by omega)) (fun r h3 q4 => ?_)
    obtain ⟨rfl, rfl⟩ := q4
    refine go_ifP (t' := 25) (pc' := 23) rfl rfl rfl (fun _ => ?_) (fun (c : ¬ (¬ (1 : Int32) = 0)) => absurd (by decide) c)
    refine go_s (pc' := 26) rfl rfl rfl rfl ?_
    refine go_ifP (t' := 57) (pc' := 27) rfl rfl rfl (fun _ => ?_) (fun (c : ¬ (¬ (1 : Int32) = 0)) => absurd (by decide) c)
    refine go_s (pc' := 58) rfl rfl rfl rfl ?_
    refine go_ifP (t' := 61) (pc' := 59) rfl rfl rfl (fun (c : ¬ (0 : Int32) = 0) => absurd c (by decide)) (fun _ => ?_)
    refine go_s (pc' := 60) (st' := [.int (-2)]) rfl rfl rfl rfl ?_
    refine go_ret rfl rfl ?_
    have hm : mj2 s 1 1 (nI q) = (-2, s) := by
      unfold mj2
      rw [if_neg (by decide), if_neg (by decide), if_pos (show s.1 (14 + 1) = 0 from e)]
    rw [hm]
    refine ⟨rfl, J, hS, sm_e_refl _ _, ?_, rfr_refl _ _⟩
    dsimp only
    rw [mdo_e (by decide) (by decide)]
    exact hR
  · skip
    have hpos : 0 < mtr s := by
      rw [mtr_e]
      have z : bz (s.1 15) = 1 := by rw [e]; rfl
      omega
    have hl : s.2.1.length < 32 := by omega
    have hmle := mtr_le s
    refine go_s (pc' := 1) rfl rfl rfl rfl ?_
    refine go_s (pc' := 2) (st' := [.int 0, .ref 62]) rfl rfl rfl rfl ?_
    refine go_callV (pc' := 3) rfl rfl rfl (Nat.le_of_ble_eq_true rfl) rfl (sm_o hS rfl) rfl rfl rfl (rt_at_0 hr hS hp hn (by omega)) (fun r h5 q6 => ?_)
    obtain ⟨rfl, rfl⟩ := q6
    rw [show rwi J 0 = rho from hrho]
    refine go_s (pc' := 4) (lo' := [some (.ref 62), some (.int 1), some (.int 1), some (.int (nI q)), some (.int vl), some (.int (nI (424 * rho))), none]) rfl rfl rfl rfl ?_
    refine go_s (pc' := 5) rfl rfl rfl rfl ?_
    refine go_sget (pc' := 6) (v := .ref as_) hS rfl rfl rfl (by decide) rfl rfl ?_
    refine go_s (pc' := 7) rfl rfl rfl rfl ?_
    refine go_s (pc' := 8) (st' := [.int 14, .int (nI (424 * rho)), .ref as_]) rfl rfl rfl rfl ?_
    refine go_nadd (pc' := 9) (a := (424 * rho)) (b := 14) rfl rfl rfl rfl rfl ?_
    refine go_s (pc' := 10) rfl rfl rfl rfl ?_
    refine go_nadd (pc' := 11) (a := ((424 * rho) + 14)) (b := 1) rfl rfl rfl rfl rfl ?_
    refine go_sald (pc' := 12) (q := (((424 * rho) + 14) + 1)) (v := .int 1) hS rfl (tr_as hr (by omega)) rfl rfl (by omega) (congrArg Value.int ((hR.1 15 (by decide) (by decide) (by decide)).trans e)) rfl ?_
    refine go_s (pc' := 13) (st' := [.int 1, .int 1]) rfl rfl rfl rfl ?_
    refine go_icmpP (t' := 16) (pc' := 14) rfl rfl rfl (fun (c : ¬ (1 : Int32) = 1) => absurd c (by decide)) (fun _ => ?_)
    refine go_s (pc' := 15) (st' := [.int 1]) rfl rfl rfl rfl ?_
    refine go_s (pc' := 17) rfl rfl rfl rfl ?_
    refine go_s (pc' := 18) (lo' := [some (.ref 62), some (.int 1), some (.int 1), some (.int (nI q)), some (.int vl), some (.int (nI (424 * rho))), some (.int 1)]) rfl rfl rfl rfl ?_
    refine go_s (pc' := 19) rfl rfl rfl rfl ?_
    refine go_s (pc' := 20) (st' := [.int 0, .int 1]) rfl rfl rfl rfl ?_
    refine go_s (pc' := 21) (st' := [.int 4, .int 0, .int 1]) rfl rfl rfl rfl ?_
    refine go_callS (pc' := 22) rfl rfl rfl (Nat.le_of_ble_eq_true rfl) rfl rfl rfl (rt_within_t (q := 1) (n := 4) (by decide) (by decide) (by omega)) (fun r h7 q8 => ?_)
    obtain ⟨rfl, rfl⟩ := q8
    refine go_ifP (t' := 25) (pc' := 23) rfl rfl rfl (fun _ => ?_) (fun (c : ¬ (¬ (1 : Int32) = 0)) => absurd (by decide) c)
    refine go_s (pc' := 26) rfl rfl rfl rfl ?_
    refine go_ifP (t' := 57) (pc' := 27) rfl rfl rfl (fun _ => ?_) (fun (c : ¬ (¬ (1 : Int32) = 0)) => absurd (by decide) c)
    refine go_s (pc' := 58) rfl rfl rfl rfl ?_
    refine go_ifP (t' := 61) (pc' := 59) rfl rfl rfl (fun _ => ?_) (fun (c : ¬ (¬ (1 : Int32) = 0)) => absurd (by decide) c)
    refine go_s (pc' := 62) rfl rfl rfl rfl ?_
    refine go_s (pc' := 63) (st' := [.int 3, .int 1]) rfl rfl rfl rfl ?_
    refine go_icmpP (t' := 71) (pc' := 64) rfl rfl rfl (fun (c : 3 ≤ (1 : Int32)) => absurd c (by decide)) (fun _ => ?_)
    refine go_s (pc' := 65) rfl rfl rfl rfl ?_
    refine go_s (pc' := 66) rfl rfl rfl rfl ?_
    refine go_s (pc' := 67) rfl rfl rfl rfl ?_
    refine go_s (pc' := 68) rfl rfl rfl rfl ?_
    refine go_s (pc' := 69) rfl rfl rfl rfl ?_
    refine go_callV (pc' := 70) rfl rfl rfl (Nat.le_of_ble_eq_true rfl) rfl (sm_o hS rfl) rfl rfl rfl (rs_us_1_1 hr hS hW hWa hp hn hrho hls hl31 hR hq hlk hl hb (by omega) (by omega)) (fun r h9 q10 => ?_)
    obtain ⟨rfl, K, hSK, hEK, hRK, hfK⟩ := q10
    refine go_ret rfl rfl ?_
    have hm : mj2 s 1 1 (nI q) = mjA s 1 1 (nI q) := by
      unfold mj2
      rw [if_neg (by decide), if_neg (by decide), if_neg (by rw [show s.1 (14 + 1) = 1 from e]; decide), if_pos (by decide)]
    rw [hm]
    exact ⟨rfl, K, hSK, hEK, hRK, hfK⟩
theorem rs_re_1_1_f {w : Nat → Bool} {d : Nat} {h : am_Hp} {J : sm_I} {Y : sm_X} {am lm as_ ls : Nat} (hr : rk am as_) (hS : sm (tbr am lm as_ ls) h J Y) (hW : ∀ a, 62 ≤ a → a ≤ 88 → w a = true) (hWa : w as_ = true) {rho : Nat} {s : ms} (hp : prk J 0) (hn : ¬ J 11 0 = -1) (hrho : rwi J 0 = rho) (hls : 424 * rho + 424 ≤ ls) (hl31 : ls < 2 ^ 31) (hR : RS J rho s) (hw0 : s.2.2 = []) (hH : s.2.1.length + mtr s ≤ 32) (hK : EK s.2.1) (hrk : rok s.2.1 (nI 1)) (hb : bok s) {rc : Int32} (ho : rc < 0 ∨ nI 15 < rc) {vl : Int32} (hd : 6 ≤ d) : am_Ev (am_prog w) d 146 [.ref 62, .int 1, .int 1, .int rc, .int vl] h (fun r h' => r = some (.int (mj2 s 1 1 rc).1) ∧ ∃ K, sm (tbr am lm as_ ls) h' K Y ∧ sm_e (tbr am lm as_ ls) h h' ∧ RS K rho (mdo (mj2 s 1 1 rc).2 1 (mj2 s 1 1 rc).1 1 rc vl) ∧ rfr J K rho) := by
  obtain ⟨d, rfl⟩ : ∃ e, d = e + 1 := ⟨d - 1, by omega⟩
  refine ev_go rfl (Nat.le_of_ble_eq_true rfl) rfl ?_
  have hwl : s.2.2.length = 0 := by rw [hw0]; rfl
  have hbt : s.1 15 = 0 ∨ s.1 15 = 1 := hb.2
  rcases hbt with e | e
  · skip
    have hmle := mtr_le s
    refine go_s (pc' := 1) rfl rfl rfl rfl ?_
    refine go_s (pc' := 2) (st' := [.int 0, .ref 62]) rfl rfl rfl rfl ?_
    refine go_callV (pc' := 3) rfl rfl rfl (Nat.le_of_ble_eq_true rfl) rfl (sm_o hS rfl) rfl rfl rfl (rt_at_0 hr hS hp hn (by omega)) (fun r h1 q2 => ?_)
    obtain ⟨rfl, rfl⟩ := q2
    rw [show rwi J 0 = rho from hrho]
    refine go_s (pc' := 4) (lo' := [some (.ref 62), some (.int 1), some (.int 1), some (.int rc), some (.int vl), some (.int (nI (424 * rho))), none]) rfl rfl rfl rfl ?_
    refine go_s (pc' := 5) rfl rfl rfl rfl ?_
    refine go_sget (pc' := 6) (v := .ref as_) hS rfl rfl rfl (by decide) rfl rfl ?_
    refine go_s (pc' := 7) rfl rfl rfl rfl ?_
    refine go_s (pc' := 8) (st' := [.int 14, .int (nI (424 * rho)), .ref as_]) rfl rfl rfl rfl ?_
    refine go_nadd (pc' := 9) (a := (424 * rho)) (b := 14) rfl rfl rfl rfl rfl ?_
    refine go_s (pc' := 10) rfl rfl rfl rfl ?_
    refine go_nadd (pc' := 11) (a := ((424 * rho) + 14)) (b := 1) rfl rfl rfl rfl rfl ?_
    refine go_sald (pc' := 12) (q := (((424 * rho) + 14) + 1)) (v := .int 0) hS rfl (tr_as hr (by omega)) rfl rfl (by omega) (congrArg Value.int ((hR.1 15 (by decide) (by decide) (by decide)).trans e)) rfl ?_
    refine go_s (pc' := 13) (st' := [.int 1, .int 0]) rfl rfl rfl rfl ?_
    refine go_icmpP (t' := 16) (pc' := 14) rfl rfl rfl (fun _ => ?_) (fun (c : ¬ (¬ (0 : Int32) = 1)) => absurd (by decide) c)
    refine go_s (pc' := 17) (st' := [.int 0]) rfl rfl rfl rfl ?_
    refine go_s (pc' := 18) (lo' := [some (.ref 62), some (.int 1), some (.int 1), some (.int rc), some (.int vl), some (.int (nI (424 * rho))), some (.int 0)]) rfl rfl rfl rfl ?_
    refine go_s (pc' := 19) rfl rfl rfl rfl ?_
    refine go_s (pc' := 20) (st' := [.int 0, .int 1]) rfl rfl rfl rfl ?_
    refine go_s (pc' := 21) (st' := [.int 4, .int 0, .int 1]) rfl rfl rfl rfl ?_
    refine go_callS (pc' := 22) rfl rfl rfl (Nat.le_of_ble_eq_true rfl) rfl rfl rfl (rt_within_t (q := 1) (n := 4) (by decide) (by decide) (by omega)) (fun r h3 q4 => ?_)
    obtain ⟨rfl, rfl⟩ := q4
    refine go_ifP (t' := 25) (pc' := 23) rfl rfl rfl (fun _ => ?_) (fun (c : ¬ (¬ (1 : Int32) = 0)) => absurd (by decide) c)
    refine go_s (pc' := 26) rfl rfl rfl rfl ?_
    refine go_ifP (t' := 57) (pc' := 27) rfl rfl rfl (fun _ => ?_) (fun (c : ¬ (¬ (1 : Int32) = 0)) => absurd (by decide) c)
    refine go_s (pc' := 58) rfl rfl rfl rfl ?_
    refine go_ifP (t' := 61) (pc' := 59) rfl rfl rfl (fun (c : ¬ (0 : Int32) = 0) => absurd c (by decide)) (fun _ => ?_)
    refine go_s (pc' := 60) (st' := [.int (-2)]) rfl rfl rfl rfl ?_
    refine go_ret rfl rfl ?_
    have hm : mj2 s 1 1 rc = (-2, s) := by
      unfold mj2
      rw [if_neg (by decide), if_neg (by decide), if_pos (show s.1 (14 + 1) = 0 from e)]
    rw [hm]
    refine ⟨rfl, J, hS, sm_e_refl _ _, ?_, rfr_refl _ _⟩
    dsimp only
    rw [mdo_e (by decide) (by decide)]
    exact hR
  · skip
    have hpos : 0 < mtr s := by
      rw [mtr_e]
      have z : bz (s.1 15) = 1 := by rw [e]; rfl
      omega
    have hl : s.2.1.length < 32 := by omega
    have hmle := mtr_le s
    refine go_s (pc' := 1) rfl rfl rfl rfl ?_
    refine go_s (pc' := 2) (st' := [.int 0, .ref 62]) rfl rfl rfl rfl ?_
    refine go_callV (pc' := 3) rfl rfl rfl (Nat.le_of_ble_eq_true rfl) rfl (sm_o hS rfl) rfl rfl rfl (rt_at_0 hr hS hp hn (by omega)) (fun r h5 q6 => ?_)
    obtain ⟨rfl, rfl⟩ := q6
    rw [show rwi J 0 = rho from hrho]
    refine go_s (pc' := 4) (lo' := [some (.ref 62), some (.int 1), some (.int 1), some (.int rc), some (.int vl), some (.int (nI (424 * rho))), none]) rfl rfl rfl rfl ?_
    refine go_s (pc' := 5) rfl rfl rfl rfl ?_
    refine go_sget (pc' := 6) (v := .ref as_) hS rfl rfl rfl (by decide) rfl rfl ?_
    refine go_s (pc' := 7) rfl rfl rfl rfl ?_
    refine go_s (pc' := 8) (st' := [.int 14, .int (nI (424 * rho)), .ref as_]) rfl rfl rfl rfl ?_
    refine go_nadd (pc' := 9) (a := (424 * rho)) (b := 14) rfl rfl rfl rfl rfl ?_
    refine go_s (pc' := 10) rfl rfl rfl rfl ?_
    refine go_nadd (pc' := 11) (a := ((424 * rho) + 14)) (b := 1) rfl rfl rfl rfl rfl ?_
    refine go_sald (pc' := 12) (q := (((424 * rho) + 14) + 1)) (v := .int 1) hS rfl (tr_as hr (by omega)) rfl rfl (by omega) (congrArg Value.int ((hR.1 15 (by decide) (by decide) (by decide)).trans e)) rfl ?_
    refine go_s (pc' := 13) (st' := [.int 1, .int 1]) rfl rfl rfl rfl ?_
    refine go_icmpP (t' := 16) (pc' := 14) rfl rfl rfl (fun (c : ¬ (1 : Int32) = 1) => absurd c (by decide)) (fun _ => ?_)
    refine go_s (pc' := 15) (st' := [.int 1]) rfl rfl rfl rfl ?_
    refine go_s (pc' := 17) rfl rfl rfl rfl ?_
    refine go_s (pc' := 18) (lo' := [some (.ref 62), some (.int 1), some (.int 1), some (.int rc), some (.int vl), some (.int (nI (424 * rho))), some (.int 1)]) rfl rfl rfl rfl ?_
    refine go_s (pc' := 19) rfl rfl rfl rfl ?_
    refine go_s (pc' := 20) (st' := [.int 0, .int 1]) rfl rfl rfl rfl ?_
    refine go_s (pc' := 21) (st' := [.int 4, .int 0, .int 1]) rfl rfl rfl rfl ?_
    refine go_callS (pc' := 22) rfl rfl rfl (Nat.le_of_ble_eq_true rfl) rfl rfl rfl (rt_within_t (q := 1) (n := 4) (by decide) (by decide) (by omega)) (fun r h7 q8 => ?_)
    obtain ⟨rfl, rfl⟩ := q8
    refine go_ifP (t' := 25) (pc' := 23) rfl rfl rfl (fun _ => ?_) (fun (c : ¬ (¬ (1 : Int32) = 0)) => absurd (by decide) c)
    refine go_s (pc' := 26) rfl rfl rfl rfl ?_
    refine go_ifP (t' := 57) (pc' := 27) rfl rfl rfl (fun _ => ?_) (fun (c : ¬ (¬ (1 : Int32) = 0)) => absurd (by decide) c)
    refine go_s (pc' := 58) rfl rfl rfl rfl ?_
    refine go_ifP (t' := 61) (pc' := 59) rfl rfl rfl (fun _ => ?_) (fun (c : ¬ (¬ (1 : Int32) = 0)) => absurd (by decide) c)
    refine go_s (pc' := 62) rfl rfl rfl rfl ?_
    refine go_s (pc' := 63) (st' := [.int 3, .int 1]) rfl rfl rfl rfl ?_
    refine go_icmpP (t' := 71) (pc' := 64) rfl rfl rfl (fun (c : 3 ≤ (1 : Int32)) => absurd c (by decide)) (fun _ => ?_)
    refine go_s (pc' := 65) rfl rfl rfl rfl ?_
    refine go_s (pc' := 66) rfl rfl rfl rfl ?_
    refine go_s (pc' := 67) rfl rfl rfl rfl ?_
    refine go_s (pc' := 68) rfl rfl rfl rfl ?_
    refine go_s (pc' := 69) rfl rfl rfl rfl ?_
    refine go_callV (pc' := 70) rfl rfl rfl (Nat.le_of_ble_eq_true rfl) rfl (sm_o hS rfl) rfl rfl rfl (rs_us_1_1_f hr hS hW hWa hp hn hrho hls hl31 hR ho (by omega)) (fun r h9 q10 => ?_)
    obtain ⟨rfl, K, hSK, hEK, hRK, hfK⟩ := q10
    refine go_ret rfl rfl ?_
    have hm : mj2 s 1 1 rc = mjA s 1 1 rc := by
      unfold mj2
      rw [if_neg (by decide), if_neg (by decide), if_neg (by rw [show s.1 (14 + 1) = 1 from e]; decide), if_pos (by decide)]
    rw [hm]
    exact ⟨rfl, K, hSK, hEK, hRK, hfK⟩
theorem rs_re_1_2 {w : Nat → Bool} {d : Nat} {h : am_Hp} {J : sm_I} {Y : sm_X} {am lm as_ ls : Nat} (hr : rk am as_) (hS : sm (tbr am lm as_ ls) h J Y) (hW : ∀ a, 62 ≤ a → a ≤ 88 → w a = true) (hWa : w as_ = true) {rho : Nat} {s : ms} (hp : prk J 0) (hn : ¬ J 11 0 = -1) (hrho : rwi J 0 = rho) (hls : 424 * rho + 424 ≤ ls) (hl31 : ls < 2 ^ 31) (hR : RS J rho s) (hw0 : s.2.2 = []) (hH : s.2.1.length + mtr s ≤ 32) (hK : EK s.2.1) (hrk : rok s.2.1 (nI 1)) (hb : bok s) {q : Nat} (hq : q < 16) (hlk : s.1 (32 + q) = -1 ∨ s.1 (32 + q) = 0 ∨ s.1 (32 + q) = 1) {vl : Int32} (hd : 6 ≤ d) : am_Ev (am_prog w) d 146 [.ref 62, .int 1, .int 2, .int (nI q), .int vl] h (fun r h' => r = some (.int (mj2 s 1 2 (nI q)).1) ∧ ∃ K, sm (tbr am lm as_ ls) h' K Y ∧ sm_e (tbr am lm as_ ls) h h' ∧ RS K rho (mdo (mj2 s 1 2 (nI q)).2 1 (mj2 s 1 2 (nI q)).1 2 (nI q) vl) ∧ rfr J K rho) := by
  obtain ⟨d, rfl⟩ : ∃ e, d = e + 1 := ⟨d - 1, by omega⟩
  refine ev_go rfl (Nat.le_of_ble_eq_true rfl) rfl ?_
  have hwl : s.2.2.length = 0 := by rw [hw0]; rfl
  have hbt : s.1 15 = 0 ∨ s.1 15 = 1 := hb.2
  rcases hbt with e | e
  · skip
    have hmle := mtr_le s
    refine go_s (pc' := 1) rfl rfl rfl rfl ?_
    refine go_s (pc' := 2) (st' := [.int 0, .ref 62]) rfl rfl rfl rfl ?_
    refine go_callV (pc' := 3) rfl rfl rfl (Nat.le_of_ble_eq_true rfl) rfl (sm_o hS rfl) rfl rfl rfl (rt_at_0 hr hS hp hn (by omega)) (fun r h1 q2 => ?_)
    obtain ⟨rfl, rfl⟩ := q2
    rw [show rwi J 0 = rho from hrho]
    refine go_s (pc' := 4) (lo' := [some (.ref 62), some (.int 1), some (.int 2), some (.int (nI q)), some (.int vl), some (.int (nI (424 * rho))), none]) rfl rfl rfl rfl ?_
    refine go_s (pc' := 5) rfl rfl rfl rfl ?_
    refine go_sget (pc' := 6) (v := .ref as_) hS rfl rfl rfl (by decide) rfl rfl ?_
    refine go_s (pc' := 7) rfl rfl rfl rfl ?_
    refine go_s (pc' := 8) (st' := [.int 14, .int (nI (424 * rho)), .ref as_]) rfl rfl rfl rfl ?_
    refine go_nadd (pc' := 9) (a := (424 * rho)) (b := 14) rfl rfl rfl rfl rfl ?_
    refine go_s (pc' := 10) rfl rfl rfl rfl ?_
    refine go_nadd (pc' := 11) (a := ((424 * rho) + 14)) (b := 1) rfl rfl rfl rfl rfl ?_
    refine go_sald (pc' := 12) (q := (((424 * rho) + 14) + 1)) (v := .int 0) hS rfl (tr_as hr (by omega)) rfl rfl (by omega) (congrArg Value.int ((hR.1 15 (by decide) (by decide) (by decide)).trans e)) rfl ?_
    refine go_s (pc' := 13) (st' := [.int 1, .int 0]) rfl rfl rfl rfl ?_
    refine go_icmpP (t' := 16) (pc' := 14) rfl rfl rfl (fun _ => ?_) (fun (c : ¬ (¬ (0 : Int32) = 1)) => absurd (by decide) c)
    refine go_s (pc' := 17) (st' := [.int 0]) rfl rfl rfl rfl ?_
    refine go_s (pc' := 18) (lo' := [some (.ref 62), some (.int 1), some (.int 2), some (.int (nI q)), some (.int vl), some (.int (nI (424 * rho))), some (.int 0)]) rfl rfl rfl rfl ?_
    refine go_s (pc' := 19) rfl rfl rfl rfl ?_
    refine go_s (pc' := 20) (st' := [.int 0, .int 2]) rfl rfl rfl rfl ?_
    refine go_s (pc' := 21) (st' := [.int 4, .int 0, .int 2]) rfl rfl rfl rfl ?_
    refine go_callS (pc' := 22) rfl rfl rfl (Nat.le_of_ble_eq_true rfl) rfl rfl rfl (rt_within_t (q := 2) (n := 4) (by decide) (by decide) (by omega)) (fun r h3 q4 => ?_)
    obtain ⟨rfl, rfl⟩ := q4
    refine go_ifP (t' := 25) (pc' := 23) rfl rfl rfl (fun _ => ?_) (fun (c : ¬ (¬ (1 : Int32) = 0)) => absurd (by decide) c)
    refine go_s (pc' := 26) rfl rfl rfl rfl ?_
    refine go_ifP (t' := 57) (pc' := 27) rfl rfl rfl (fun _ => ?_) (fun (c : ¬ (¬ (2 : Int32) = 0)) => absurd (by decide) c)
    refine go_s (pc' := 58) rfl rfl rfl rfl ?_
    refine go_ifP (t' := 61) (pc' := 59) rfl rfl rfl (fun (c : ¬ (0 : Int32) = 0) => absurd c (by decide)) (fun _ => ?_)
    refine go_s (pc' := 60) (st' := [.int (-2)]) rfl rfl rfl rfl ?_
    refine go_ret rfl rfl ?_
    have hm : mj2 s 1 2 (nI q) = (-2, s) := by
      unfold mj2
      rw [if_neg (by decide), if_neg (by decide), if_pos (show s.1 (14 + 1) = 0 from e)]
    rw [hm]
    refine ⟨rfl, J, hS, sm_e_refl _ _, ?_, rfr_refl _ _⟩
    dsimp only
    rw [mdo_e (by decide) (by decide)]
    exact hR
  · skip
    have hpos : 0 < mtr s := by
      rw [mtr_e]
      have z : bz (s.1 15) = 1 := by rw [e]; rfl
      omega
    have hl : s.2.1.length < 32 := by omega
    have hmle := mtr_le s
    refine go_s (pc' := 1) rfl rfl rfl rfl ?_
    refine go_s (pc' := 2) (st' := [.int 0, .ref 62]) rfl rfl rfl rfl ?_
    refine go_callV (pc' := 3) rfl rfl rfl (Nat.le_of_ble_eq_true rfl) rfl (sm_o hS rfl) rfl rfl rfl (rt_at_0 hr hS hp hn (by omega)) (fun r h5 q6 => ?_)
    obtain ⟨rfl, rfl⟩ := q6
    rw [show rwi J 0 = rho from hrho]
    refine go_s (pc' := 4) (lo' := [some (.ref 62), some (.int 1), some (.int 2), some (.int (nI q)), some (.int vl), some (.int (nI (424 * rho))), none]) rfl rfl rfl rfl ?_
    refine go_s (pc' := 5) rfl rfl rfl rfl ?_
    refine go_sget (pc' := 6) (v := .ref as_) hS rfl rfl rfl (by decide) rfl rfl ?_
    refine go_s (pc' := 7) rfl rfl rfl rfl ?_
    refine go_s (pc' := 8) (st' := [.int 14, .int (nI (424 * rho)), .ref as_]) rfl rfl rfl rfl ?_
    refine go_nadd (pc' := 9) (a := (424 * rho)) (b := 14) rfl rfl rfl rfl rfl ?_
    refine go_s (pc' := 10) rfl rfl rfl rfl ?_
    refine go_nadd (pc' := 11) (a := ((424 * rho) + 14)) (b := 1) rfl rfl rfl rfl rfl ?_
    refine go_sald (pc' := 12) (q := (((424 * rho) + 14) + 1)) (v := .int 1) hS rfl (tr_as hr (by omega)) rfl rfl (by omega) (congrArg Value.int ((hR.1 15 (by decide) (by decide) (by decide)).trans e)) rfl ?_
    refine go_s (pc' := 13) (st' := [.int 1, .int 1]) rfl rfl rfl rfl ?_
    refine go_icmpP (t' := 16) (pc' := 14) rfl rfl rfl (fun (c : ¬ (1 : Int32) = 1) => absurd c (by decide)) (fun _ => ?_)
    refine go_s (pc' := 15) (st' := [.int 1]) rfl rfl rfl rfl ?_
    refine go_s (pc' := 17) rfl rfl rfl rfl ?_
    refine go_s (pc' := 18) (lo' := [some (.ref 62), some (.int 1), some (.int 2), some (.int (nI q)), some (.int vl), some (.int (nI (424 * rho))), some (.int 1)]) rfl rfl rfl rfl ?_
    refine go_s (pc' := 19) rfl rfl rfl rfl ?_
    refine go_s (pc' := 20) (st' := [.int 0, .int 2]) rfl rfl rfl rfl ?_
    refine go_s (pc' := 21) (st' := [.int 4, .int 0, .int 2]) rfl rfl rfl rfl ?_
    refine go_callS (pc' := 22) rfl rfl rfl (Nat.le_of_ble_eq_true rfl) rfl rfl rfl (rt_within_t (q := 2) (n := 4) (by decide) (by decide) (by omega)) (fun r h7 q8 => ?_)
    obtain ⟨rfl, rfl⟩ := q8
    refine go_ifP (t' := 25) (pc' := 23) rfl rfl rfl (fun _ => ?_) (fun (c : ¬ (¬ (1 : Int32) = 0)) => absurd (by decide) c)
    refine go_s (pc' := 26) rfl rfl rfl rfl ?_
    refine go_ifP (t' := 57) (pc' := 27) rfl rfl rfl (fun _ => ?_) (fun (c : ¬ (¬ (2 : Int32) = 0)) => absurd (by decide) c)
    refine go_s (pc' := 58) rfl rfl rfl rfl ?_
    refine go_ifP (t' := 61) (pc' := 59) rfl rfl rfl (fun _ => ?_) (fun (c : ¬ (¬ (1 : Int32) = 0)) => absurd (by decide) c)
    refine go_s (pc' := 62) rfl rfl rfl rfl ?_
    refine go_s (pc' := 63) (st' := [.int 3, .int 2]) rfl rfl rfl rfl ?_
    refine go_icmpP (t' := 71) (pc' := 64) rfl rfl rfl (fun (c : 3 ≤ (2 : Int32)) => absurd c (by decide)) (fun _ => ?_)
    refine go_s (pc' := 65) rfl rfl rfl rfl ?_
    refine go_s (pc' := 66) rfl rfl rfl rfl ?_
    refine go_s (pc' := 67) rfl rfl rfl rfl ?_
    refine go_s (pc' := 68) rfl rfl rfl rfl ?_
    refine go_s (pc' := 69) rfl rfl rfl rfl ?_
    refine go_callV (pc' := 70) rfl rfl rfl (Nat.le_of_ble_eq_true rfl) rfl (sm_o hS rfl) rfl rfl rfl (rs_us_1_2 hr hS hW hWa hp hn hrho hls hl31 hR hq hlk hl hb (by omega) (by omega)) (fun r h9 q10 => ?_)
    obtain ⟨rfl, K, hSK, hEK, hRK, hfK⟩ := q10
    refine go_ret rfl rfl ?_
    have hm : mj2 s 1 2 (nI q) = mjA s 1 2 (nI q) := by
      unfold mj2
      rw [if_neg (by decide), if_neg (by decide), if_neg (by rw [show s.1 (14 + 1) = 1 from e]; decide), if_pos (by decide)]
    rw [hm]
    exact ⟨rfl, K, hSK, hEK, hRK, hfK⟩
theorem rs_re_1_2_f {w : Nat → Bool} {d : Nat} {h : am_Hp} {J : sm_I} {Y : sm_X} {am lm as_ ls : Nat} (hr : rk am as_) (hS : sm (tbr am lm as_ ls) h J Y) (hW : ∀ a, 62 ≤ a → a ≤ 88 → w a = true) (hWa : w as_ = true) {rho : Nat} {s : ms} (hp : prk J 0) (hn : ¬ J 11 0 = -1) (hrho : rwi J 0 = rho) (hls : 424 * rho + 424 ≤ ls) (hl31 : ls < 2 ^ 31) (hR : RS J rho s) (hw0 : s.2.2 = []) (hH : s.2.1.length + mtr s ≤ 32) (hK : EK s.2.1) (hrk : rok s.2.1 (nI 1)) (hb : bok s) {rc : Int32} (ho : rc < 0 ∨ nI 15 < rc) {vl : Int32} (hd : 6 ≤ d) : am_Ev (am_prog w) d 146 [.ref 62, .int 1, .int 2, .int rc, .int vl] h (fun r h' => r = some (.int (mj2 s 1 2 rc).1) ∧ ∃ K, sm (tbr am lm as_ ls) h' K Y ∧ sm_e (tbr am lm as_ ls) h h' ∧ RS K rho (mdo (mj2 s 1 2 rc).2 1 (mj2 s 1 2 rc).1 2 rc vl) ∧ rfr J K rho) := by
  obtain ⟨d, rfl⟩ : ∃ e, d = e + 1 := ⟨d - 1, by omega⟩
  refine ev_go rfl (Nat.le_of_ble_eq_true rfl) rfl ?_
  have hwl : s.2.2.length = 0 := by rw [hw0]; rfl
  have hbt : s.1 15 = 0 ∨ s.1 15 = 1 := hb.2
  rcases hbt with e | e
  · skip
    have hmle := mtr_le s
    refine go_s (pc' := 1) rfl rfl rfl rfl ?_
    refine go_s (pc' := 2) (st' := [.int 0, .ref 62]) rfl rfl rfl rfl ?_
    refine go_callV (pc' := 3) rfl rfl rfl (Nat.le_of_ble_eq_true rfl) rfl (sm_o hS rfl) rfl rfl rfl (rt_at_0 hr hS hp hn (by omega)) (fun r h1 q2 => ?_)
    obtain ⟨rfl, rfl⟩ := q2
    rw [show rwi J 0 = rho from hrho]
    refine go_s (pc' := 4) (lo' := [some (.ref 62), some (.int 1), some (.int 2), some (.int rc), some (.int vl), some (.int (nI (424 * rho))), none]) rfl rfl rfl rfl ?_
    refine go_s (pc' := 5) rfl rfl rfl rfl ?_
    refine go_sget (pc' := 6) (v := .ref as_) hS rfl rfl rfl (by decide) rfl rfl ?_
    refine go_s (pc' := 7) rfl rfl rfl rfl ?_
    refine go_s (pc' := 8) (st' := [.int 14, .int (nI (424 * rho)), .ref as_]) rfl rfl rfl rfl ?_
    refine go_nadd (pc' := 9) (a := (424 * rho)) (b := 14) rfl rfl rfl rfl rfl ?_
    refine go_s (pc' := 10) rfl rfl rfl rfl ?_
    refine go_nadd (pc' := 11) (a := ((424 * rho) + 14)) (b := 1) rfl rfl rfl rfl rfl ?_
    refine go_sald (pc' := 12) (q := (((424 * rho) + 14) + 1)) (v := .int 0) hS rfl (tr_as hr (by omega)) rfl rfl (by omega) (congrArg Value.int ((hR.1 15 (by decide) (by decide) (by decide)).trans e)) rfl ?_
    refine go_s (pc' := 13) (st' := [.int 1, .int 0]) rfl rfl rfl rfl ?_
    refine go_icmpP (t' := 16) (pc' := 14) rfl rfl rfl (fun _ => ?_) (fun (c : ¬ (¬ (0 : Int32) = 1)) => absurd (by decide) c)
    refine go_s (pc' := 17) (st' := [.int 0]) rfl rfl rfl rfl ?_
    refine go_s (pc' := 18) (lo' := [some (.ref 62), some (.int 1), some (.int 2), some (.int rc), some (.int vl), some (.int (nI (424 * rho))), some (.int 0)]) rfl rfl rfl rfl ?_
    refine go_s (pc' := 19) rfl rfl rfl rfl ?_
    refine go_s (pc' := 20) (st' := [.int 0, .int 2]) rfl rfl rfl rfl ?_
    refine go_s (pc' := 21) (st' := [.int 4, .int 0, .int 2]) rfl rfl rfl rfl ?_
    refine go_callS (pc' := 22) rfl rfl rfl (Nat.le_of_ble_eq_true rfl) rfl rfl rfl (rt_within_t (q := 2) (n := 4) (by decide) (by decide) (by omega)) (fun r h3 q4 => ?_)
    obtain ⟨rfl, rfl⟩ := q4
    refine go_ifP (t' := 25) (pc' := 23) rfl rfl rfl (fun _ => ?_) (fun (c : ¬ (¬ (1 : Int32) = 0)) => absurd (by decide) c)
    refine go_s (pc' := 26) rfl rfl rfl rfl ?_
    refine go_ifP (t' := 57) (pc' := 27) rfl rfl rfl (fun _ => ?_) (fun (c : ¬ (¬ (2 : Int32) = 0)) => absurd (by decide) c)
    refine go_s (pc' := 58) rfl rfl rfl rfl ?_
    refine go_ifP (t' := 61) (pc' := 59) rfl rfl rfl (fun (c : ¬ (0 : Int32) = 0) => absurd c (by decide)) (fun _ => ?_)
    refine go_s (pc' := 60) (st' := [.int (-2)]) rfl rfl rfl rfl ?_
    refine go_ret rfl rfl ?_
    have hm : mj2 s 1 2 rc = (-2, s) := by
      unfold mj2
      rw [if_neg (by decide), if_neg (by decide), if_pos (show s.1 (14 + 1) = 0 from e)]
    rw [hm]
    refine ⟨rfl, J, hS, sm_e_refl _ _, ?_, rfr_refl _ _⟩
    dsimp only
    rw [mdo_e (by decide) (by decide)]
    exact hR
  · skip
    have hpos : 0 < mtr s := by
      rw [mtr_e]
      have z : bz (s.1 15) = 1 := by rw [e]; rfl
      omega
    have hl : s.2.1.length < 32 := by omega
    have hmle := mtr_le s
    refine go_s (pc' := 1) rfl rfl rfl rfl ?_
    refine go_s (pc' := 2) (st' := [.int 0, .ref 62]) rfl rfl rfl rfl ?_
    refine go_callV (pc' := 3) rfl rfl rfl (Nat.le_of_ble_eq_true rfl) rfl (sm_o hS rfl) rfl rfl rfl (rt_at_0 hr hS hp hn (by omega)) (fun r h5 q6 => ?_)
    obtain ⟨rfl, rfl⟩ := q6
    rw [show rwi J 0 = rho from hrho]
    refine go_s (pc' := 4) (lo' := [some (.ref 62), some (.int 1), some (.int 2), some (.int rc), some (.int vl), some (.int (nI (424 * rho))), none]) rfl rfl rfl rfl ?_
    refine go_s (pc' := 5) rfl rfl rfl rfl ?_
    refine go_sget (pc' := 6) (v := .ref as_) hS rfl rfl rfl (by decide) rfl rfl ?_
    refine go_s (pc' := 7) rfl rfl rfl rfl ?_
    refine go_s (pc' := 8) (st' := [.int 14, .int (nI (424 * rho)), .ref as_]) rfl rfl rfl rfl ?_
    refine go_nadd (pc' := 9) (a := (424 * rho)) (b := 14) rfl rfl rfl rfl rfl ?_
    refine go_s (pc' := 10) rfl rfl rfl rfl ?_
    refine go_nadd (pc' := 11) (a := ((424 * rho) + 14)) (b := 1) rfl rfl rfl rfl rfl ?_
    refine go_sald (pc' := 12) (q := (((424 * rho) + 14) + 1)) (v := .int 1) hS rfl (tr_as hr (by omega)) rfl rfl (by omega) (congrArg Value.int ((hR.1 15 (by decide) (by decide) (by decide)).trans e)) rfl ?_
    refine go_s (pc' := 13) (st' := [.int 1, .int 1]) rfl rfl rfl rfl ?_
    refine go_icmpP (t' := 16) (pc' := 14) rfl rfl rfl (fun (c : ¬ (1 : Int32) = 1) => absurd c (by decide)) (fun _ => ?_)
    refine go_s (pc' := 15) (st' := [.int 1]) rfl rfl rfl rfl ?_
    refine go_s (pc' := 17) rfl rfl rfl rfl ?_
    refine go_s (pc' := 18) (lo' := [some (.ref 62), some (.int 1), some (.int 2), some (.int rc), some (.int vl), some (.int (nI (424 * rho))), some (.int 1)]) rfl rfl rfl rfl ?_
    refine go_s (pc' := 19) rfl rfl rfl rfl ?_
    refine go_s (pc' := 20) (st' := [.int 0, .int 2]) rfl rfl rfl rfl ?_
    refine go_s (pc' := 21) (st' := [.int 4, .int 0, .int 2]) rfl rfl rfl rfl ?_
    refine go_callS (pc' := 22) rfl rfl rfl (Nat.le_of_ble_eq_true rfl) rfl rfl rfl (rt_within_t (q := 2) (n := 4) (by decide) (by decide) (by omega)) (fun r h7 q8 => ?_)
    obtain ⟨rfl, rfl⟩ := q8
    refine go_ifP (t' := 25) (pc' := 23) rfl rfl rfl (fun _ => ?_) (fun (c : ¬ (¬ (1 : Int32) = 0)) => absurd (by decide) c)
    refine go_s (pc' := 26) rfl rfl rfl rfl ?_
    refine go_ifP (t' := 57) (pc' := 27) rfl rfl rfl (fun _ => ?_) (fun (c : ¬ (¬ (2 : Int32) = 0)) => absurd (by decide) c)
    refine go_s (pc' := 58) rfl rfl rfl rfl ?_
    refine go_ifP (t' := 61) (pc' := 59) rfl rfl rfl (fun _ => ?_) (fun (c : ¬ (¬ (1 : Int32) = 0)) => absurd (by decide) c)
    refine go_s (pc' := 62) rfl rfl rfl rfl ?_
    refine go_s (pc' := 63) (st' := [.int 3, .int 2]) rfl rfl rfl rfl ?_
    refine go_icmpP (t' := 71) (pc' := 64) rfl rfl rfl (fun (c : 3 ≤ (2 : Int32)) => absurd c (by decide)) (fun _ => ?_)
    refine go_s (pc' := 65) rfl rfl rfl rfl ?_
    refine go_s (pc' := 66) rfl rfl rfl rfl ?_
    refine go_s (pc' := 67) rfl rfl rfl rfl ?_
    refine go_s (pc' := 68) rfl rfl rfl rfl ?_
    refine go_s (pc' := 69) rfl rfl rfl rfl ?_
    refine go_callV (pc' := 70) rfl rfl rfl (Nat.le_of_ble_eq_true rfl) rfl (sm_o hS rfl) rfl rfl rfl (rs_us_1_2_f hr hS hW hWa hp hn hrho hls hl31 hR ho (by omega)) (fun r h9 q10 => ?_)
    obtain ⟨rfl, K, hSK, hEK, hRK, hfK⟩ := q10
    refine go_ret rfl rfl ?_
    have hm : mj2 s 1 2 rc = mjA s 1 2 rc := by
      unfold mj2
      rw [if_neg (by decide), if_neg (by decide), if_neg (by rw [show s.1 (14 + 1) = 1 from e]; decide), if_pos (by decide)]
    rw [hm]
    exact ⟨rfl, K, hSK, hEK, hRK, hfK⟩
theorem rs_re_1_3 {w : Nat → Bool} {d : Nat} {h : am_Hp} {J : sm_I} {Y : sm_X} {am lm as_ ls : Nat} (hr : rk am as_) (hS : sm (tbr am lm as_ ls) h J Y) (hW : ∀ a, 62 ≤ a → a ≤ 88 → w a = true) (hWa : w as_ = true) {rho : Nat} {s : ms} (hp : prk J 0) (hn : ¬ J 11 0 = -1) (hrho : rwi J 0 = rho) (hls : 424 * rho + 424 ≤ ls) (hl31 : ls < 2 ^ 31) (hR : RS J rho s) (hw0 : s.2.2 = []) (hH : s.2.1.length + mtr s ≤ 32) (hK : EK s.2.1) (hrk : rok s.2.1 (nI 1)) (hb : bok s) {rc : Int32} {vl : Int32} (hd : 6 ≤ d) : am_Ev (am_prog w) d 146 [.ref 62, .int 1, .int 3, .int rc, .int vl] h (fun r h' => r = some (.int (mj2 s 1 3 rc).1) ∧ ∃ K, sm (tbr am lm as_ ls) h' K Y ∧ sm_e (tbr am lm as_ ls) h h' ∧ RS K rho (mdo (mj2 s 1 3 rc).2 1 (mj2 s 1 3 rc).1 3 rc vl) ∧ rfr J K rho) := by
  obtain ⟨d, rfl⟩ : ∃ e, d = e + 1 := ⟨d - 1, by omega⟩
  refine ev_go rfl (Nat.le_of_ble_eq_true rfl) rfl ?_
  have hwl : s.2.2.length = 0 := by rw [hw0]; rfl
  have hbt : s.1 15 = 0 ∨ s.1 15 = 1 := hb.2
  rcases hbt with e | e
  · skip
    have hmle := mtr_le s
    refine go_s (pc' := 1) rfl rfl rfl rfl ?_
    refine go_s (pc' := 2) (st' := [.int 0, .ref 62]) rfl rfl rfl rfl ?_
    refine go_callV (pc' := 3) rfl rfl rfl (Nat.le_of_ble_eq_true rfl) rfl (sm_o hS rfl) rfl rfl rfl (rt_at_0 hr hS hp hn (by omega)) (fun r h1 q2 => ?_)
    obtain ⟨rfl, rfl⟩ := q2
    rw [show rwi J 0 = rho from hrho]
    refine go_s (pc' := 4) (lo' := [some (.ref 62), some (.int 1), some (.int 3), some (.int rc), some (.int vl), some (.int (nI (424 * rho))), none]) rfl rfl rfl rfl ?_
    refine go_s (pc' := 5) rfl rfl rfl rfl ?_
    refine go_sget (pc' := 6) (v := .ref as_) hS rfl rfl rfl (by decide) rfl rfl ?_
    refine go_s (pc' := 7) rfl rfl rfl rfl ?_
    refine go_s (pc' := 8) (st' := [.int 14, .int (nI (424 * rho)), .ref as_]) rfl rfl rfl rfl ?_
    refine go_nadd (pc' := 9) (a := (424 * rho)) (b := 14) rfl rfl rfl rfl rfl ?_
    refine go_s (pc' := 10) rfl rfl rfl rfl ?_
    refine go_nadd (pc' := 11) (a := ((424 * rho) + 14)) (b := 1) rfl rfl rfl rfl rfl ?_
    refine go_sald (pc' := 12) (q := (((424 * rho) + 14) + 1)) (v := .int 0) hS rfl (tr_as hr (by omega)) rfl rfl (by omega) (congrArg Value.int ((hR.1 15 (by decide) (by decide) (by decide)).trans e)) rfl ?_
    refine go_s (pc' := 13) (st' := [.int 1, .int 0]) rfl rfl rfl rfl ?_
    refine go_icmpP (t' := 16) (pc' := 14) rfl rfl rfl (fun _ => ?_) (fun (c : ¬ (¬ (0 : Int32) = 1)) => absurd (by decide) c)
    refine go_s (pc' := 17) (st' := [.int 0]) rfl rfl rfl rfl ?_
    refine go_s (pc' := 18) (lo' := [some (.ref 62), some (.int 1), some (.int 3), some (.int rc), some (.int vl), some (.int (nI (424 * rho))), some (.int 0)]) rfl rfl rfl rfl ?_
    refine go_s (pc' := 19) rfl rfl rfl rfl ?_
    refine go_s (pc' := 20) (st' := [.int 0, .int 3]) rfl rfl rfl rfl ?_
    refine go_s (pc' := 21) (st' := [.int 4, .int 0, .int 3]) rfl rfl rfl rfl ?_
    refine go_callS (pc' := 22) rfl rfl rfl (Nat.le_of_ble_eq_true rfl) rfl rfl rfl (rt_within_t (q := 3) (n := 4) (by decide) (by decide) (by omega)) (fun r h3 q4 => ?_)
    obtain ⟨rfl, rfl⟩ := q4
    refine go_ifP (t' := 25) (pc' := 23) rfl rfl rfl (fun _ => ?_) (fun (c : ¬ (¬ (1 : Int32) = 0)) => absurd (by decide) c)
    refine go_s (pc' := 26) rfl rfl rfl rfl ?_
    refine go_ifP (t' := 57) (pc' := 27) rfl rfl rfl (fun _ => ?_) (fun (c : ¬ (¬ (3 : Int32) = 0)) => absurd (by decide) c)
    refine go_s (pc' := 58) rfl rfl rfl rfl ?_
    refine go_ifP (t' := 61) (pc' := 59) rfl rfl rfl (fun (c : ¬ (0 : Int32) = 0) => absurd c (by decide)) (fun _ => ?_)
    refine go_s (pc' := 60) (st' := [.int (-2)]) rfl rfl rfl rfl ?_
    refine go_ret rfl rfl ?_
    have hm : mj2 s 1 3 rc = (-2, s) := by
      unfold mj2
      rw [if_neg (by decide), if_neg (by decide), if_pos (show s.1 (14 + 1) = 0 from e)]
    rw [hm]
    refine ⟨rfl, J, hS, sm_e_refl _ _, ?_, rfr_refl _ _⟩
    dsimp only
    rw [mdo_e (by decide) (by decide)]
    exact hR
  · skip
    have hpos : 0 < mtr s := by
      rw [mtr_e]
      have z : bz (s.1 15) = 1 := by rw [e]; rfl
      omega
    have hl : s.2.1.length < 32 := by omega
    have hmle := mtr_le s
    refine go_s (pc' := 1) rfl rfl rfl rfl ?_
    refine go_s (pc' := 2) (st' := [.int 0, .ref 62]) rfl rfl rfl rfl ?_
    refine go_callV (pc' := 3) rfl rfl rfl (Nat.le_of_ble_eq_true rfl) rfl (sm_o hS rfl) rfl rfl rfl (rt_at_0 hr hS hp hn (by omega)) (fun r h5 q6 => ?_)
    obtain ⟨rfl, rfl⟩ := q6
    rw [show rwi J 0 = rho from hrho]
    refine go_s (pc' := 4) (lo' := [some (.ref 62), some (.int 1), some (.int 3), some (.int rc), some (.int vl), some (.int (nI (424 * rho))), none]) rfl rfl rfl rfl ?_
    refine go_s (pc' := 5) rfl rfl rfl rfl ?_
    refine go_sget (pc' := 6) (v := .ref as_) hS rfl rfl rfl (by decide) rfl rfl ?_
    refine go_s (pc' := 7) rfl rfl rfl rfl ?_
    refine go_s (pc' := 8) (st' := [.int 14, .int (nI (424 * rho)), .ref as_]) rfl rfl rfl rfl ?_
    refine go_nadd (pc' := 9) (a := (424 * rho)) (b := 14) rfl rfl rfl rfl rfl ?_
    refine go_s (pc' := 10) rfl rfl rfl rfl ?_
    refine go_nadd (pc' := 11) (a := ((424 * rho) + 14)) (b := 1) rfl rfl rfl rfl rfl ?_
    refine go_sald (pc' := 12) (q := (((424 * rho) + 14) + 1)) (v := .int 1) hS rfl (tr_as hr (by omega)) rfl rfl (by omega) (congrArg Value.int ((hR.1 15 (by decide) (by decide) (by decide)).trans e)) rfl ?_
    refine go_s (pc' := 13) (st' := [.int 1, .int 1]) rfl rfl rfl rfl ?_
    refine go_icmpP (t' := 16) (pc' := 14) rfl rfl rfl (fun (c : ¬ (1 : Int32) = 1) => absurd c (by decide)) (fun _ => ?_)
    refine go_s (pc' := 15) (st' := [.int 1]) rfl rfl rfl rfl ?_
    refine go_s (pc' := 17) rfl rfl rfl rfl ?_
    refine go_s (pc' := 18) (lo' := [some (.ref 62), some (.int 1), some (.int 3), some (.int rc), some (.int vl), some (.int (nI (424 * rho))), some (.int 1)]) rfl rfl rfl rfl ?_
    refine go_s (pc' := 19) rfl rfl rfl rfl ?_
    refine go_s (pc' := 20) (st' := [.int 0, .int 3]) rfl rfl rfl rfl ?_
    refine go_s (pc' := 21) (st' := [.int 4, .int 0, .int 3]) rfl rfl rfl rfl ?_
    refine go_callS (pc' := 22) rfl rfl rfl (Nat.le_of_ble_eq_true rfl) rfl rfl rfl (rt_within_t (q := 3) (n := 4) (by decide) (by decide) (by omega)) (fun r h7 q8 => ?_)
    obtain ⟨rfl, rfl⟩ := q8
    refine go_ifP (t' := 25) (pc' := 23) rfl rfl rfl (fun _ => ?_) (fun (c : ¬ (¬ (1 : Int32) = 0)) => absurd (by decide) c)
    refine go_s (pc' := 26) rfl rfl rfl rfl ?_
    refine go_ifP (t' := 57) (pc' := 27) rfl rfl rfl (fun _ => ?_) (fun (c : ¬ (¬ (3 : Int32) = 0)) => absurd (by decide) c)
    refine go_s (pc' := 58) rfl rfl rfl rfl ?_
    refine go_ifP (t' := 61) (pc' := 59) rfl rfl rfl (fun _ => ?_) (fun (c : ¬ (¬ (1 : Int32) = 0)) => absurd (by decide) c)
    refine go_s (pc' := 62) rfl rfl rfl rfl ?_
    refine go_s (pc' := 63) (st' := [.int 3, .int 3]) rfl rfl rfl rfl ?_
    refine go_icmpP (t' := 71) (pc' := 64) rfl rfl rfl (fun _ => ?_) (fun (c : ¬ (3 ≤ (3 : Int32))) => absurd (by decide) c)
    refine go_s (pc' := 72) rfl rfl rfl rfl ?_
    refine go_s (pc' := 73) rfl rfl rfl rfl ?_
    refine go_s (pc' := 74) rfl rfl rfl rfl ?_
    refine go_s (pc' := 75) (st' := [.int 3, .int 3, .int 1, .ref 62]) rfl rfl rfl rfl ?_
    refine go_icmpP (t' := 78) (pc' := 76) rfl rfl rfl (fun (c : ¬ (3 : Int32) = 3) => absurd c (by decide)) (fun _ => ?_)
    refine go_s (pc' := 77) (st' := [.int 1, .int 1, .ref 62]) rfl rfl rfl rfl ?_
    refine go_s (pc' := 79) rfl rfl rfl rfl ?_
    have hcw := cw_le s.2.1 (nI 1) s.2.1.length
    refine go_callV (pc' := 80) rfl rfl rfl (Nat.le_of_ble_eq_true rfl) rfl (sm_o hS rfl) rfl rfl rfl (rs_en_1_1 hr hS hW hWa hp hn hrho hls hl31 hR hl hK hrk (by omega) ⟨by show (s.2.2 ++ [_]).length ≤ 40; simp; omega, by show (s.2.1 ++ [_]).length ≤ 32; simp; omega⟩ (fun m em => bok_e (by decide) (bok_F (s := s) (by rw [em]; rfl) (by rw [em]; rfl) hb)) (by omega)) (fun r h9 q10 => ?_)
    obtain ⟨rfl, K, hSK, hEK, hRK, hfK⟩ := q10
    refine go_s (pc' := 81) (st' := [.int 0]) rfl rfl rfl rfl ?_
    refine go_ret rfl rfl ?_
    have hm : mj2 s 1 3 rc = (0, s) := by
      unfold mj2
      rw [if_neg (by decide), if_neg (by decide), if_neg (by rw [show s.1 (14 + 1) = 1 from e]; decide), if_neg (by decide)]
    rw [hm]
    refine ⟨rfl, K, hSK, hEK, ?_, hfK⟩
    dsimp only
    rw [mdo_3]
    exact hRK
theorem rs_re_1_4 {w : Nat → Bool} {d : Nat} {h : am_Hp} {J : sm_I} {Y : sm_X} {am lm as_ ls : Nat} (hr : rk am as_) (hS : sm (tbr am lm as_ ls) h J Y) (hW : ∀ a, 62 ≤ a → a ≤ 88 → w a = true) (hWa : w as_ = true) {rho : Nat} {s : ms} (hp : prk J 0) (hn : ¬ J 11 0 = -1) (hrho : rwi J 0 = rho) (hls : 424 * rho + 424 ≤ ls) (hl31 : ls < 2 ^ 31) (hR : RS J rho s) (hw0 : s.2.2 = []) (hH : s.2.1.length + mtr s ≤ 32) (hK : EK s.2.1) (hrk : rok s.2.1 (nI 1)) (hb : bok s) {rc : Int32} {vl : Int32} (hd : 6 ≤ d) : am_Ev (am_prog w) d 146 [.ref 62, .int 1, .int 4, .int rc, .int vl] h (fun r h' => r = some (.int (mj2 s 1 4 rc).1) ∧ ∃ K, sm (tbr am lm as_ ls) h' K Y ∧ sm_e (tbr am lm as_ ls) h h' ∧ RS K rho (mdo (mj2 s 1 4 rc).2 1 (mj2 s 1 4 rc).1 4 rc vl) ∧ rfr J K rho) := by
  obtain ⟨d, rfl⟩ : ∃ e, d = e + 1 := ⟨d - 1, by omega⟩
  refine ev_go rfl (Nat.le_of_ble_eq_true rfl) rfl ?_
  have hwl : s.2.2.length = 0 := by rw [hw0]; rfl
  have hbt : s.1 15 = 0 ∨ s.1 15 = 1 := hb.2
  rcases hbt with e | e
  · skip
    have hmle := mtr_le s
    refine go_s (pc' := 1) rfl rfl rfl rfl ?_
    refine go_s (pc' := 2) (st' := [.int 0, .ref 62]) rfl rfl rfl rfl ?_
    refine go_callV (pc' := 3) rfl rfl rfl (Nat.le_of_ble_eq_true rfl) rfl (sm_o hS rfl) rfl rfl rfl (rt_at_0 hr hS hp hn (by omega)) (fun r h1 q2 => ?_)
    obtain ⟨rfl, rfl⟩ := q2
    rw [show rwi J 0 = rho from hrho]
    refine go_s (pc' := 4) (lo' := [some (.ref 62), some (.int 1), some (.int 4), some (.int rc), some (.int vl), some (.int (nI (424 * rho))), none]) rfl rfl rfl rfl ?_
    refine go_s (pc' := 5) rfl rfl rfl rfl ?_
    refine go_sget (pc' := 6) (v := .ref as_) hS rfl rfl rfl (by decide) rfl rfl ?_
    refine go_s (pc' := 7) rfl rfl rfl rfl ?_
    refine go_s (pc' := 8) (st' := [.int 14, .int (nI (424 * rho)), .ref as_]) rfl rfl rfl rfl ?_
    refine go_nadd (pc' := 9) (a := (424 * rho)) (b := 14) rfl rfl rfl rfl rfl ?_
    refine go_s (pc' := 10) rfl rfl rfl rfl ?_
    refine go_nadd (pc' := 11) (a := ((424 * rho) + 14)) (b := 1) rfl rfl rfl rfl rfl ?_
    refine go_sald (pc' := 12) (q := (((424 * rho) + 14) + 1)) (v := .int 0) hS rfl (tr_as hr (by omega)) rfl rfl (by omega) (congrArg Value.int ((hR.1 15 (by decide) (by decide) (by decide)).trans e)) rfl ?_
    refine go_s (pc' := 13) (st' := [.int 1, .int 0]) rfl rfl rfl rfl ?_
    refine go_icmpP (t' := 16) (pc' := 14) rfl rfl rfl (fun _ => ?_) (fun (c : ¬ (¬ (0 : Int32) = 1)) => absurd (by decide) c)
    refine go_s (pc' := 17) (st' := [.int 0]) rfl rfl rfl rfl ?_
    refine go_s (pc' := 18) (lo' := [some (.ref 62), some (.int 1), some (.int 4), some (.int rc), some (.int vl), some (.int (nI (424 * rho))), some (.int 0)]) rfl rfl rfl rfl ?_
    refine go_s (pc' := 19) rfl rfl rfl rfl ?_
    refine go_s (pc' := 20) (st' := [.int 0, .int 4]) rfl rfl rfl rfl ?_
    refine go_s (pc' := 21) (st' := [.int 4, .int 0, .int 4]) rfl rfl rfl rfl ?_
    refine go_callS (pc' := 22) rfl rfl rfl (Nat.le_of_ble_eq_true rfl) rfl rfl rfl (rt_within_t (q := 4) (n := 4) (by decide) (by decide) (by omega)) (fun r h3 q4 => ?_)
    obtain ⟨rfl, rfl⟩ := q4
    refine go_ifP (t' := 25) (pc' := 23) rfl rfl rfl (fun _ => ?_) (fun (c : ¬ (¬ (1 : Int32) = 0)) => absurd (by decide) c)
    refine go_s (pc' := 26) rfl rfl rfl rfl ?_
    refine go_ifP (t' := 57) (pc' := 27) rfl rfl rfl (fun _ => ?_) (fun (c : ¬ (¬ (4 : Int32) = 0)) => absurd (by decide) c)
    refine go_s (pc' := 58) rfl rfl rfl rfl ?_
    refine go_ifP (t' := 61) (pc' := 59) rfl rfl rfl (fun (c : ¬ (0 : Int32) = 0) => absurd c (by decide)) (fun _ => ?_)
    refine go_s (pc' := 60) (st' := [.int (-2)]) rfl rfl rfl rfl ?_
    refine go_ret rfl rfl ?_
    have hm : mj2 s 1 4 rc = (-2, s) := by
      unfold mj2
      rw [if_neg (by decide), if_neg (by decide), if_pos (show s.1 (14 + 1) = 0 from e)]
    rw [hm]
    refine ⟨rfl, J, hS, sm_e_refl _ _, ?_, rfr_refl _ _⟩
    dsimp only
    rw [mdo_e (by decide) (by decide)]
    exact hR
  · skip
    have hpos : 0 < mtr s := by
      rw [mtr_e]
      have z : bz (s.1 15) = 1 := by rw [e]; rfl
      omega
    have hl : s.2.1.length < 32 := by omega
    have hmle := mtr_le s
    refine go_s (pc' := 1) rfl rfl rfl rfl ?_
    refine go_s (pc' := 2) (st' := [.int 0, .ref 62]) rfl rfl rfl rfl ?_
    refine go_callV (pc' := 3) rfl rfl rfl (Nat.le_of_ble_eq_true rfl) rfl (sm_o hS rfl) rfl rfl rfl (rt_at_0 hr hS hp hn (by omega)) (fun r h5 q6 => ?_)
    obtain ⟨rfl, rfl⟩ := q6
    rw [show rwi J 0 = rho from hrho]
    refine go_s (pc' := 4) (lo' := [some (.ref 62), some (.int 1), some (.int 4), some (.int rc), some (.int vl), some (.int (nI (424 * rho))), none]) rfl rfl rfl rfl ?_
    refine go_s (pc' := 5) rfl rfl rfl rfl ?_
    refine go_sget (pc' := 6) (v := .ref as_) hS rfl rfl rfl (by decide) rfl rfl ?_
    refine go_s (pc' := 7) rfl rfl rfl rfl ?_
    refine go_s (pc' := 8) (st' := [.int 14, .int (nI (424 * rho)), .ref as_]) rfl rfl rfl rfl ?_
    refine go_nadd (pc' := 9) (a := (424 * rho)) (b := 14) rfl rfl rfl rfl rfl ?_
    refine go_s (pc' := 10) rfl rfl rfl rfl ?_
    refine go_nadd (pc' := 11) (a := ((424 * rho) + 14)) (b := 1) rfl rfl rfl rfl rfl ?_
    refine go_sald (pc' := 12) (q := (((424 * rho) + 14) + 1)) (v := .int 1) hS rfl (tr_as hr (by omega)) rfl rfl (by omega) (congrArg Value.int ((hR.1 15 (by decide) (by decide) (by decide)).trans e)) rfl ?_
    refine go_s (pc' := 13) (st' := [.int 1, .int 1]) rfl rfl rfl rfl ?_
    refine go_icmpP (t' := 16) (pc' := 14) rfl rfl rfl (fun (c : ¬ (1 : Int32) = 1) => absurd c (by decide)) (fun _ => ?_)
    refine go_s (pc' := 15) (st' := [.int 1]) rfl rfl rfl rfl ?_
    refine go_s (pc' := 17) rfl rfl rfl rfl ?_
    refine go_s (pc' := 18) (lo' := [some (.ref 62), some (.int 1), some (.int 4), some (.int rc), some (.int vl), some (.int (nI (424 * rho))), some (.int 1)]) rfl rfl rfl rfl ?_
    refine go_s (pc' := 19) rfl rfl rfl rfl ?_
    refine go_s (pc' := 20) (st' := [.int 0, .int 4]) rfl rfl rfl rfl ?_
    refine go_s (pc' := 21) (st' := [.int 4, .int 0, .int 4]) rfl rfl rfl rfl ?_
    refine go_callS (pc' := 22) rfl rfl rfl (Nat.le_of_ble_eq_true rfl) rfl rfl rfl (rt_within_t (q := 4) (n := 4) (by decide) (by decide) (by omega)) (fun r h7 q8 => ?_)
    obtain ⟨rfl, rfl⟩ := q8
    refine go_ifP (t' := 25) (pc' := 23) rfl rfl rfl (fun _ => ?_) (fun (c : ¬ (¬ (1 : Int32) = 0)) => absurd (by decide) c)
    refine go_s (pc' := 26) rfl rfl rfl rfl ?_
    refine go_ifP (t' := 57) (pc' := 27) rfl rfl rfl (fun _ => ?_) (fun (c : ¬ (¬ (4 : Int32) = 0)) => absurd (by decide) c)
    refine go_s (pc' := 58) rfl rfl rfl rfl ?_
    refine go_ifP (t' := 61) (pc' := 59) rfl rfl rfl (fun _ => ?_) (fun (c : ¬ (¬ (1 : Int32) = 0)) => absurd (by decide) c)
    refine go_s (pc' := 62) rfl rfl rfl rfl ?_
    refine go_s (pc' := 63) (st' := [.int 3, .int 4]) rfl rfl rfl rfl ?_
    refine go_icmpP (t' := 71) (pc' := 64) rfl rfl rfl (fun _ => ?_) (fun (c : ¬ (3 ≤ (4 : Int32))) => absurd (by decide) c)
    refine go_s (pc' := 72) rfl rfl rfl rfl ?_
    refine go_s (pc' := 73) rfl rfl rfl rfl ?_
    refine go_s (pc' := 74) rfl rfl rfl rfl ?_
    refine go_s (pc' := 75) (st' := [.int 3, .int 4, .int 1, .ref 62]) rfl rfl rfl rfl ?_
    refine go_icmpP (t' := 78) (pc' := 76) rfl rfl rfl (fun _ => ?_) (fun (c : ¬ (¬ (4 : Int32) = 3)) => absurd (by decide) c)
    refine go_s (pc' := 79) (st' := [.int 0, .int 1, .ref 62]) rfl rfl rfl rfl ?_
    have hcw := cw_le s.2.1 (nI 1) s.2.1.length
    refine go_callV (pc' := 80) rfl rfl rfl (Nat.le_of_ble_eq_true rfl) rfl (sm_o hS rfl) rfl rfl rfl (rs_en_1_0 hr hS hW hWa hp hn hrho hls hl31 hR hl hK hrk (by omega) ⟨by have z := mB_len s (nI 1); omega, by rw [(mB_1 s (nI 1)).2]; omega⟩ (fun m em => bok_e (by decide) (bok_F (s := s) (by rw [em]; exact (mB_1 s (nI 1)).1 14 (by omega)) (by rw [em]; exact (mB_1 s (nI 1)).1 15 (by omega)) hb)) (by omega)) (fun r h9 q10 => ?_)
    obtain ⟨rfl, K, hSK, hEK, hRK, hfK⟩ := q10
    refine go_s (pc' := 81) (st' := [.int 0]) rfl rfl rfl rfl ?_
    refine go_ret rfl rfl ?_
    have hm : mj2 s 1 4 rc = (0, s) := by
      unfold mj2
      rw [if_neg (by decide), if_neg (by decide), if_neg (by rw [show s.1 (14 + 1) = 1 from e]; decide), if_neg (by decide)]
    rw [hm]
    refine ⟨rfl, K, hSK, hEK, ?_, hfK⟩
    dsimp only
    rw [mdo_4]
    exact hRK
theorem rs_re_1_n {w : Nat → Bool} {d : Nat} {h : am_Hp} {J : sm_I} {Y : sm_X} {am lm as_ ls : Nat} (hr : rk am as_) (hS : sm (tbr am lm as_ ls) h J Y) (hW : ∀ a, 62 ≤ a → a ≤ 88 → w a = true) (hWa : w as_ = true) {rho : Nat} {s : ms} (hp : prk J 0) (hn : ¬ J 11 0 = -1) (hrho : rwi J 0 = rho) (hls : 424 * rho + 424 ≤ ls) (hl31 : ls < 2 ^ 31) (hR : RS J rho s) (hw0 : s.2.2 = []) (hH : s.2.1.length + mtr s ≤ 32) (hK : EK s.2.1) (hrk : rok s.2.1 (nI 1)) (hb : bok s) {rc : Int32} {kd : Int32} (hko : kd < 0 ∨ nI 4 < kd) {vl : Int32} (hd : 6 ≤ d) : am_Ev (am_prog w) d 146 [.ref 62, .int 1, .int kd, .int rc, .int vl] h (fun r h' => r = some (.int (mj2 s 1 kd rc).1) ∧ ∃ K, sm (tbr am lm as_ ls) h' K Y ∧ sm_e (tbr am lm as_ ls) h h' ∧ RS K rho (mdo (mj2 s 1 kd rc).2 1 (mj2 s 1 kd rc).1 kd rc vl) ∧ rfr J K rho) := by
  obtain ⟨d, rfl⟩ : ∃ e, d = e + 1 := ⟨d - 1, by omega⟩
  refine ev_go rfl (Nat.le_of_ble_eq_true rfl) rfl ?_
  have hwl : s.2.2.length = 0 := by rw [hw0]; rfl
  have hbt : s.1 15 = 0 ∨ s.1 15 = 1 := hb.2
  rcases hbt with e | e
  · skip
    have hmle := mtr_le s
    refine go_s (pc' := 1) rfl rfl rfl rfl ?_
    refine go_s (pc' := 2) (st' := [.int 0, .ref 62]) rfl rfl rfl rfl ?_
    refine go_callV (pc' := 3) rfl rfl rfl (Nat.le_of_ble_eq_true rfl) rfl (sm_o hS rfl) rfl rfl rfl (rt_at_0 hr hS hp hn (by omega)) (fun r h1 q2 => ?_)
    obtain ⟨rfl, rfl⟩ := q2
    rw [show rwi J 0 = rho from hrho]
    refine go_s (pc' := 4) (lo' := [some (.ref 62), some (.int 1), some (.int kd), some (.int rc), some (.int vl), some (.int (nI (424 * rho))), none]) rfl rfl rfl rfl ?_
    refine go_s (pc' := 5) rfl rfl rfl rfl ?_
    refine go_sget (pc' := 6) (v := .ref as_) hS rfl rfl rfl (by decide) rfl rfl ?_
    refine go_s (pc' := 7) rfl rfl rfl rfl ?_
    refine go_s (pc' := 8) (st' := [.int 14, .int (nI (424 * rho)), .ref as_]) rfl rfl rfl rfl ?_
    refine go_nadd (pc' := 9) (a := (424 * rho)) (b := 14) rfl rfl rfl rfl rfl ?_
    refine go_s (pc' := 10) rfl rfl rfl rfl ?_
    refine go_nadd (pc' := 11) (a := ((424 * rho) + 14)) (b := 1) rfl rfl rfl rfl rfl ?_
    refine go_sald (pc' := 12) (q := (((424 * rho) + 14) + 1)) (v := .int 0) hS rfl (tr_as hr (by omega)) rfl rfl (by omega) (congrArg Value.int ((hR.1 15 (by decide) (by decide) (by decide)).trans e)) rfl ?_
    refine go_s (pc' := 13) (st' := [.int 1, .int 0]) rfl rfl rfl rfl ?_
    refine go_icmpP (t' := 16) (pc' := 14) rfl rfl rfl (fun _ => ?_) (fun (c : ¬ (¬ (0 : Int32) = 1)) => absurd (by decide) c)
    refine go_s (pc' := 17) (st' := [.int 0]) rfl rfl rfl rfl ?_
    refine go_s (pc' := 18) (lo' := [some (.ref 62), some (.int 1), some (.int kd), some (.int rc), some (.int vl), some (.int (nI (424 * rho))), some (.int 0)]) rfl rfl rfl rfl ?_
    refine go_s (pc' := 19) rfl rfl rfl rfl ?_
    refine go_s (pc' := 20) (st' := [.int 0, .int kd]) rfl rfl rfl rfl ?_
    refine go_s (pc' := 21) (st' := [.int 4, .int 0, .int kd]) rfl rfl rfl rfl ?_
    refine go_callS (pc' := 22) rfl rfl rfl (Nat.le_of_ble_eq_true rfl) rfl rfl rfl (rt_within_f (a := kd) (n := 4) hko (by omega)) (fun r h3 q4 => ?_)
    obtain ⟨rfl, rfl⟩ := q4
    refine go_ifP (t' := 25) (pc' := 23) rfl rfl rfl (fun (c : ¬ (0 : Int32) = 0) => absurd c (by decide)) (fun _ => ?_)
    refine go_s (pc' := 24) (st' := [.int (-5)]) rfl rfl rfl rfl ?_
    refine go_ret rfl rfl ?_
    have hm : mj2 s 1 kd rc = (-5, s) := by
      unfold mj2
      rw [if_neg (fun z => hko.elim (fun y => absurd y (by rw [z]; decide)) (fun y => absurd y (by rw [z]; decide))), if_pos (show kd < 0 ∨ 4 < kd from hko)]
    rw [hm]
    refine ⟨rfl, J, hS, sm_e_refl _ _, ?_, rfr_refl _ _⟩
    dsimp only
    rw [mdo_e (by decide) (by decide)]
    exact hR
  · skip
    have hpos : 0 < mtr s := by
      rw [mtr_e]
      have z : bz (s.1 15) = 1 := by rw [e]; rfl
      omega
    have hl : s.2.1.length < 32 := by omega
    have hmle := mtr_le s
    refine go_s (pc' := 1) rfl rfl rfl rfl ?_
    refine go_s (pc' := 2) (st' := [.int 0, .ref 62]) rfl rfl rfl rfl ?_
    refine go_callV (pc' := 3) rfl rfl rfl (Nat.le_of_ble_eq_true rfl) rfl (sm_o hS rfl) rfl rfl rfl (rt_at_0 hr hS hp hn (by omega)) (fun r h5 q6 => ?_)
    obtain ⟨rfl, rfl⟩ := q6
    rw [show rwi J 0 = rho from hrho]
    refine go_s (pc' := 4) (lo' := [some (.ref 62), some (.int 1), some (.int kd), some (.int rc), some (.int vl), some (.int (nI (424 * rho))), none]) rfl rfl rfl rfl ?_
    refine go_s (pc' := 5) rfl rfl rfl rfl ?_
    refine go_sget (pc' := 6) (v := .ref as_) hS rfl rfl rfl (by decide) rfl rfl ?_
    refine go_s (pc' := 7) rfl rfl rfl rfl ?_
    refine go_s (pc' := 8) (st' := [.int 14, .int (nI (424 * rho)), .ref as_]) rfl rfl rfl rfl ?_
    refine go_nadd (pc' := 9) (a := (424 * rho)) (b := 14) rfl rfl rfl rfl rfl ?_
    refine go_s (pc' := 10) rfl rfl rfl rfl ?_
    refine go_nadd (pc' := 11) (a := ((424 * rho) + 14)) (b := 1) rfl rfl rfl rfl rfl ?_
    refine go_sald (pc' := 12) (q := (((424 * rho) + 14) + 1)) (v := .int 1) hS rfl (tr_as hr (by omega)) rfl rfl (by omega) (congrArg Value.int ((hR.1 15 (by decide) (by decide) (by decide)).trans e)) rfl ?_
    refine go_s (pc' := 13) (st' := [.int 1, .int 1]) rfl rfl rfl rfl ?_
    refine go_icmpP (t' := 16) (pc' := 14) rfl rfl rfl (fun (c : ¬ (1 : Int32) = 1) => absurd c (by decide)) (fun _ => ?_)
    refine go_s (pc' := 15) (st' := [.int 1]) rfl rfl rfl rfl ?_
    refine go_s (pc' := 17) rfl rfl rfl rfl ?_
    refine go_s (pc' := 18) (lo' := [some (.ref 62), some (.int 1), some (.int kd), some (.int rc), some (.int vl), some (.int (nI (424 * rho))), some (.int 1)]) rfl rfl rfl rfl ?_
    refine go_s (pc' := 19) rfl rfl rfl rfl ?_
    refine go_s (pc' := 20) (st' := [.int 0, .int kd]) rfl rfl rfl rfl ?_
    refine go_s (pc' := 21) (st' := [.int 4, .int 0, .int kd]) rfl rfl rfl rfl ?_
    refine go_callS (pc' := 22) rfl rfl rfl (Nat.le_of_ble_eq_true rfl) rfl rfl rfl (rt_within_f (a := kd) (n := 4) hko (by omega)) (fun r h7 q8 => ?_)
    obtain ⟨rfl, rfl⟩ := q8
    refine go_ifP (t' := 25) (pc' := 23) rfl rfl rfl (fun (c : ¬ (0 : Int32) = 0) => absurd c (by decide)) (fun _ => ?_)
    refine go_s (pc' := 24) (st' := [.int (-5)]) rfl rfl rfl rfl ?_
    refine go_ret rfl rfl ?_
    have hm : mj2 s 1 kd rc = (-5, s) := by
      unfold mj2
      rw [if_neg (fun z => hko.elim (fun y => absurd y (by rw [z]; decide)) (fun y => absurd y (by rw [z]; decide))), if_pos (show kd < 0 ∨ 4 < kd from hko)]
    rw [hm]
    refine ⟨rfl, J, hS, sm_e_refl _ _, ?_, rfr_refl _ _⟩
    dsimp only
    rw [mdo_e (by decide) (by decide)]
    exact hR
