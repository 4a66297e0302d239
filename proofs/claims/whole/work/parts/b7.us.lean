theorem rs_us_0_1 {w : Nat → Bool} {d : Nat} {h : am_Hp} {J : sm_I} {Y : sm_X} {am lm as_ ls : Nat} (hr : rk am as_) (hS : sm (tbr am lm as_ ls) h J Y) (hW : ∀ a, 62 ≤ a → a ≤ 88 → w a = true) (hWa : w as_ = true) {rho : Nat} {s : ms} (hp : prk J 0) (hn : ¬ J 11 0 = -1) (hrho : rwi J 0 = rho) (hls : 424 * rho + 424 ≤ ls) (hl31 : ls < 2 ^ 31) (hR : RS J rho s) {q : Nat} {vl : Int32} (hq : q < 16) (hlk : s.1 (32 + q) = -1 ∨ s.1 (32 + q) = 0 ∨ s.1 (32 + q) = 1) (hl : s.2.1.length < 32) (hb : bok s) (hw : s.2.2.length < 39) (hd : 4 ≤ d) : am_Ev (am_prog w) d 148 [.ref 62, .int 0, .int 1, .int (nI q), .int vl] h (fun r h' => r = some (.int (mjA s 0 1 (nI q)).1) ∧ ∃ K, sm (tbr am lm as_ ls) h' K Y ∧ sm_e (tbr am lm as_ ls) h h' ∧ RS K rho (mdo (mjA s 0 1 (nI q)).2 0 (mjA s 0 1 (nI q)).1 1 (nI q) vl) ∧ rfr J K rho) := by
  obtain ⟨d, rfl⟩ : ∃ e, d = e + 1 := ⟨d - 1, by omega⟩
  refine ev_go rfl (Nat.le_of_ble_eq_true rfl) rfl ?_
  have hlk9 : J 51 (424 * rho + 32 + q) = s.1 (32 + q) := by
    have z := hR.1 (32 + q) (by omega) (by omega) (by omega)
    rw [show 424 * rho + (32 + q) = 424 * rho + 32 + q by omega] at z
    exact z
  have hrc : (nI q).toNatClampNeg = q := nI_clamp (by omega)
  have hrg : ¬ (nI q < 0 ∨ 16 ≤ nI q) := fun z => z.elim (nI_pos (by omega)) (fun z => absurd z (nI_ge (b := 16) hq (by decide)))
  have hrl : (nI 0 : Int32) = 0 := rfl
  rcases hlk with e | e | e
  · skip
    refine go_s (pc' := 1) rfl rfl rfl rfl ?_
    refine go_s (pc' := 2) (st' := [.int 0, .ref 62]) rfl rfl rfl rfl ?_
    refine go_callV (pc' := 3) rfl rfl rfl (Nat.le_of_ble_eq_true rfl) rfl (sm_o hS rfl) rfl rfl rfl (rt_at_0 hr hS hp hn (by omega)) (fun r h1 q2 => ?_)
    obtain ⟨rfl, rfl⟩ := q2
    rw [show rwi J 0 = rho from hrho]
    refine go_s (pc' := 4) (lo' := [some (.ref 62), some (.int 0), some (.int 1), some (.int (nI q)), some (.int vl), some (.int (nI (424 * rho)))]) rfl rfl rfl rfl ?_
    refine go_s (pc' := 5) rfl rfl rfl rfl ?_
    refine go_s (pc' := 6) (st' := [.int 0, .int (nI q)]) rfl rfl rfl rfl ?_
    refine go_s (pc' := 7) (st' := [.int 15, .int 0, .int (nI q)]) rfl rfl rfl rfl ?_
    refine go_callS (pc' := 8) rfl rfl rfl (Nat.le_of_ble_eq_true rfl) rfl rfl rfl (rt_within_t (q := q) (n := 15) (by omega) (by decide) (by omega)) (fun r h3 q4 => ?_)
    obtain ⟨rfl, rfl⟩ := q4
    refine go_ifP (t' := 11) (pc' := 9) rfl rfl rfl (fun _ => ?_) (fun (c : ¬ (¬ (1 : Int32) = 0)) => absurd (by decide) c)
    refine go_s (pc' := 12) rfl rfl rfl rfl ?_
    refine go_sget (pc' := 13) (v := .ref as_) hS rfl rfl rfl (by decide) rfl rfl ?_
    refine go_s (pc' := 14) rfl rfl rfl rfl ?_
    refine go_s (pc' := 15) (st' := [.int 32, .int (nI (424 * rho)), .ref as_]) rfl rfl rfl rfl ?_
    refine go_nadd (pc' := 16) (a := (424 * rho)) (b := 32) rfl rfl rfl rfl rfl ?_
    refine go_s (pc' := 17) rfl rfl rfl rfl ?_
    refine go_nadd (pc' := 18) (a := ((424 * rho) + 32)) (b := q) rfl rfl rfl rfl rfl ?_
    refine go_sald (pc' := 19) (q := (((424 * rho) + 32) + q)) (v := .int (-1)) hS rfl (tr_as hr (by omega)) rfl rfl (by omega) (congrArg Value.int (hlk9.trans e)) rfl ?_
    refine go_s (pc' := 20) (st' := [.int 1, .int (-1)]) rfl rfl rfl rfl ?_
    refine go_s (pc' := 21) rfl rfl rfl rfl ?_
    refine go_s (pc' := 22) (st' := [.int 1, .int (-1)]) rfl rfl rfl rfl ?_
    refine go_icmpP (t' := 25) (pc' := 23) rfl rfl rfl (fun _ => ?_) (fun (c : ¬ (¬ ((-1) : Int32) = 1)) => absurd (by decide) c)
    refine go_s (pc' := 26) rfl rfl rfl rfl ?_
    refine go_sget (pc' := 27) (v := .ref as_) hS rfl rfl rfl (by decide) rfl rfl ?_
    refine go_s (pc' := 28) rfl rfl rfl rfl ?_
    refine go_s (pc' := 29) (st' := [.int 32, .int (nI (424 * rho)), .ref as_]) rfl rfl rfl rfl ?_
    refine go_nadd (pc' := 30) (a := (424 * rho)) (b := 32) rfl rfl rfl rfl rfl ?_
    refine go_s (pc' := 31) rfl rfl rfl rfl ?_
    refine go_nadd (pc' := 32) (a := ((424 * rho) + 32)) (b := q) rfl rfl rfl rfl rfl ?_
    refine go_s (pc' := 33) rfl rfl rfl rfl ?_
    refine go_siast (pc' := 34) (q := (((424 * rho) + 32) + q)) hS rfl (tr_as hr (by omega)) tbr_inj (Nat.le_of_ble_eq_true rfl) rfl (by omega) (rk_0 hr).2 hWa rfl (fun h5 hS6 hE7 => ?_)
    have hR1 : RS (uI J 51 (((424 * rho) + 32) + q) 0) rho (uF s.1 (32 + q) (nI 0), s.2) := by
      have z := RS_F (j := 32 + q) (v := nI 0) hR (by omega) (by omega) (by omega)
      rw [show 424 * rho + (32 + q) = 424 * rho + 32 + q by omega] at z
      exact z
    have hg1 : rfr J (uI J 51 (((424 * rho) + 32) + q) 0) rho := rfr_trans (rfr_refl _ _) (rfr_u (by omega) (by omega))
    obtain ⟨J1, eJ1⟩ : ∃ y, y = (uI J 51 (((424 * rho) + 32) + q) 0) := ⟨_, rfl⟩
    change sm (tbr am lm as_ ls) _ (uI J 51 (((424 * rho) + 32) + q) 0) Y at hS6
    rw [← eJ1] at hR1 hg1 hS6
    have hf1 : rfr J J1 rho := rfr_trans (rfr_refl J rho) hg1
    have hp1 : prk J1 0 := by unfold prk; rw [rfr_c hf1 (by omega)]; exact hp
    have hn1 : ¬ J1 11 0 = -1 := by rw [rfr_c hf1 (by omega)]; exact hn
    have hrho1 : rwi J1 0 = rho := (rfr_w hf1).trans hrho
    obtain ⟨s1, es1⟩ : ∃ y : ms, y = (uF s.1 (32 + q) (nI 0), s.2) := ⟨_, rfl⟩
    rw [← es1] at hR1
    have hl1 : s1.2 = s.2 := by rw [es1]
    have hF1 : ∀ j, j < 32 → s1.1 j = s.1 j := fun j hj => by rw [es1]; simp only [uF]; rw [if_neg (by omega)]
    have hmt1 : mtr s1 = mtr s := mtr_F (hF1 14 (by omega)) (hF1 15 (by omega))
    have hb1 : bok s1 := by unfold bok; rw [hF1 14 (by omega), hF1 15 (by omega)]; exact hb
    have hln1 : s1.2.1.length = s.2.1.length := by rw [hl1]
    have hrd : J1 51 (424 * rho + 16 + q) = s1.1 (16 + q) := by
      have z := hR1.1 (16 + q) (by omega) (by omega) (by omega)
      rw [show 424 * rho + (16 + q) = 424 * rho + 16 + q by omega] at z
      exact z
    have hja : mjA s 0 1 (nI q) = (if (1 : Int32) = 2 ∧ 32 - s.2.1.length - 1 < mtr s then -4 else 0, s1) := by
      unfold mjA
      rw [if_neg hrg, hrc, if_neg (by rw [e]; decide), es1]
    refine go_s (pc' := 35) rfl rfl rfl rfl ?_
    refine go_s (pc' := 36) (st' := [.int 1, .int 1]) rfl rfl rfl rfl ?_
    refine go_icmpP (t' := 39) (pc' := 37) rfl rfl rfl (fun (c : ¬ (1 : Int32) = 1) => absurd c (by decide)) (fun _ => ?_)
    refine go_s (pc' := 38) (st' := [.int 0]) rfl rfl rfl rfl ?_
    refine go_ret rfl rfl ?_
    rw [hja, if_neg (fun z => absurd z.1 (by decide))]
    exact ⟨rfl, J1, hS6, hE7, hR1, hf1⟩
  · skip
    refine go_s (pc' := 1) rfl rfl rfl rfl ?_
    refine go_s (pc' := 2) (st' := [.int 0, .ref 62]) rfl rfl rfl rfl ?_
    refine go_callV (pc' := 3) rfl rfl rfl (Nat.le_of_ble_eq_true rfl) rfl (sm_o hS rfl) rfl rfl rfl (rt_at_0 hr hS hp hn (by omega)) (fun r h8 q9 => ?_)
    obtain ⟨rfl, rfl⟩ := q9
    rw [show rwi J 0 = rho from hrho]
    refine go_s (pc' := 4) (lo' := [some (.ref 62), some (.int 0), some (.int 1), some (.int (nI q)), some (.int vl), some (.int (nI (424 * rho)))]) rfl rfl rfl rfl ?_
    refine go_s (pc' := 5) rfl rfl rfl rfl ?_
    refine go_s (pc' := 6) (st' := [.int 0, .int (nI q)]) rfl rfl rfl rfl ?_
    refine go_s (pc' := 7) (st' := [.int 15, .int 0, .int (nI q)]) rfl rfl rfl rfl ?_
    refine go_callS (pc' := 8) rfl rfl rfl (Nat.le_of_ble_eq_true rfl) rfl rfl rfl (rt_within_t (q := q) (n := 15) (by omega) (by decide) (by omega)) (fun r h10 q11 => ?_)
    obtain ⟨rfl, rfl⟩ := q11
    refine go_ifP (t' := 11) (pc' := 9) rfl rfl rfl (fun _ => ?_) (fun (c : ¬ (¬ (1 : Int32) = 0)) => absurd (by decide) c)
    refine go_s (pc' := 12) rfl rfl rfl rfl ?_
    refine go_sget (pc' := 13) (v := .ref as_) hS rfl rfl rfl (by decide) rfl rfl ?_
    refine go_s (pc' := 14) rfl rfl rfl rfl ?_
    refine go_s (pc' := 15) (st' := [.int 32, .int (nI (424 * rho)), .ref as_]) rfl rfl rfl rfl ?_
    refine go_nadd (pc' := 16) (a := (424 * rho)) (b := 32) rfl rfl rfl rfl rfl ?_
    refine go_s (pc' := 17) rfl rfl rfl rfl ?_
    refine go_nadd (pc' := 18) (a := ((424 * rho) + 32)) (b := q) rfl rfl rfl rfl rfl ?_
    refine go_sald (pc' := 19) (q := (((424 * rho) + 32) + q)) (v := .int 0) hS rfl (tr_as hr (by omega)) rfl rfl (by omega) (congrArg Value.int (hlk9.trans e)) rfl ?_
    refine go_s (pc' := 20) (st' := [.int 1, .int 0]) rfl rfl rfl rfl ?_
    refine go_s (pc' := 21) rfl rfl rfl rfl ?_
    refine go_s (pc' := 22) (st' := [.int 1, .int 0]) rfl rfl rfl rfl ?_
    refine go_icmpP (t' := 25) (pc' := 23) rfl rfl rfl (fun _ => ?_) (fun (c : ¬ (¬ (0 : Int32) = 1)) => absurd (by decide) c)
    refine go_s (pc' := 26) rfl rfl rfl rfl ?_
    refine go_sget (pc' := 27) (v := .ref as_) hS rfl rfl rfl (by decide) rfl rfl ?_
    refine go_s (pc' := 28) rfl rfl rfl rfl ?_
    refine go_s (pc' := 29) (st' := [.int 32, .int (nI (424 * rho)), .ref as_]) rfl rfl rfl rfl ?_
    refine go_nadd (pc' := 30) (a := (424 * rho)) (b := 32) rfl rfl rfl rfl rfl ?_
    refine go_s (pc' := 31) rfl rfl rfl rfl ?_
    refine go_nadd (pc' := 32) (a := ((424 * rho) + 32)) (b := q) rfl rfl rfl rfl rfl ?_
    refine go_s (pc' := 33) rfl rfl rfl rfl ?_
    refine go_siast (pc' := 34) (q := (((424 * rho) + 32) + q)) hS rfl (tr_as hr (by omega)) tbr_inj (Nat.le_of_ble_eq_true rfl) rfl (by omega) (rk_0 hr).2 hWa rfl (fun h12 hS13 hE14 => ?_)
    have hR1 : RS (uI J 51 (((424 * rho) + 32) + q) 0) rho (uF s.1 (32 + q) (nI 0), s.2) := by
      have z := RS_F (j := 32 + q) (v := nI 0) hR (by omega) (by omega) (by omega)
      rw [show 424 * rho + (32 + q) = 424 * rho + 32 + q by omega] at z
      exact z
    have hg1 : rfr J (uI J 51 (((424 * rho) + 32) + q) 0) rho := rfr_trans (rfr_refl _ _) (rfr_u (by omega) (by omega))
    obtain ⟨J1, eJ1⟩ : ∃ y, y = (uI J 51 (((424 * rho) + 32) + q) 0) := ⟨_, rfl⟩
    change sm (tbr am lm as_ ls) _ (uI J 51 (((424 * rho) + 32) + q) 0) Y at hS13
    rw [← eJ1] at hR1 hg1 hS13
    have hf1 : rfr J J1 rho := rfr_trans (rfr_refl J rho) hg1
    have hp1 : prk J1 0 := by unfold prk; rw [rfr_c hf1 (by omega)]; exact hp
    have hn1 : ¬ J1 11 0 = -1 := by rw [rfr_c hf1 (by omega)]; exact hn
    have hrho1 : rwi J1 0 = rho := (rfr_w hf1).trans hrho
    obtain ⟨s1, es1⟩ : ∃ y : ms, y = (uF s.1 (32 + q) (nI 0), s.2) := ⟨_, rfl⟩
    rw [← es1] at hR1
    have hl1 : s1.2 = s.2 := by rw [es1]
    have hF1 : ∀ j, j < 32 → s1.1 j = s.1 j := fun j hj => by rw [es1]; simp only [uF]; rw [if_neg (by omega)]
    have hmt1 : mtr s1 = mtr s := mtr_F (hF1 14 (by omega)) (hF1 15 (by omega))
    have hb1 : bok s1 := by unfold bok; rw [hF1 14 (by omega), hF1 15 (by omega)]; exact hb
    have hln1 : s1.2.1.length = s.2.1.length := by rw [hl1]
    have hrd : J1 51 (424 * rho + 16 + q) = s1.1 (16 + q) := by
      have z := hR1.1 (16 + q) (by omega) (by omega) (by omega)
      rw [show 424 * rho + (16 + q) = 424 * rho + 16 + q by omega] at z
      exact z
    have hja : mjA s 0 1 (nI q) = (if (1 : Int32) = 2 ∧ 32 - s.2.1.length - 1 < mtr s then -4 else 0, s1) := by
      unfold mjA
      rw [if_neg hrg, hrc, if_neg (by rw [e]; decide), es1]
    refine go_s (pc' := 35) rfl rfl rfl rfl ?_
    refine go_s (pc' := 36) (st' := [.int 1, .int 1]) rfl rfl rfl rfl ?_
    refine go_icmpP (t' := 39) (pc' := 37) rfl rfl rfl (fun (c : ¬ (1 : Int32) = 1) => absurd c (by decide)) (fun _ => ?_)
    refine go_s (pc' := 38) (st' := [.int 0]) rfl rfl rfl rfl ?_
    refine go_ret rfl rfl ?_
    rw [hja, if_neg (fun z => absurd z.1 (by decide))]
    exact ⟨rfl, J1, hS13, hE14, hR1, hf1⟩
  · skip
    refine go_s (pc' := 1) rfl rfl rfl rfl ?_
    refine go_s (pc' := 2) (st' := [.int 0, .ref 62]) rfl rfl rfl rfl ?_
    refine go_callV (pc' := 3) rfl rfl rfl (Nat.le_of_ble_eq_true rfl) rfl (sm_o hS rfl) rfl rfl rfl (rt_at_0 hr hS hp hn (by omega)) (fun r h15 q16 => ?_)
    obtain ⟨rfl, rfl⟩ := q16
    rw [show rwi J 0 = rho from hrho]
    refine go_s (pc' := 4) (lo' := [some (.ref 62), some (.int 0), some (.int 1), some (.int (nI q)), some (.int vl), some (.int (nI (424 * rho)))]) rfl rfl rfl rfl ?_
    refine go_s (pc' := 5) rfl rfl rfl rfl ?_
    refine go_s (pc' := 6) (st' := [.int 0, .int (nI q)]) rfl rfl rfl rfl ?_
    refine go_s (pc' := 7) (st' := [.int 15, .int 0, .int (nI q)]) rfl rfl rfl rfl ?_
    refine go_callS (pc' := 8) rfl rfl rfl (Nat.le_of_ble_eq_true rfl) rfl rfl rfl (rt_within_t (q := q) (n := 15) (by omega) (by decide) (by omega)) (fun r h17 q18 => ?_)
    obtain ⟨rfl, rfl⟩ := q18
    refine go_ifP (t' := 11) (pc' := 9) rfl rfl rfl (fun _ => ?_) (fun (c : ¬ (¬ (1 : Int32) = 0)) => absurd (by decide) c)
    refine go_s (pc' := 12) rfl rfl rfl rfl ?_
    refine go_sget (pc' := 13) (v := .ref as_) hS rfl rfl rfl (by decide) rfl rfl ?_
    refine go_s (pc' := 14) rfl rfl rfl rfl ?_
    refine go_s (pc' := 15) (st' := [.int 32, .int (nI (424 * rho)), .ref as_]) rfl rfl rfl rfl ?_
    refine go_nadd (pc' := 16) (a := (424 * rho)) (b := 32) rfl rfl rfl rfl rfl ?_
    refine go_s (pc' := 17) rfl rfl rfl rfl ?_
    refine go_nadd (pc' := 18) (a := ((424 * rho) + 32)) (b := q) rfl rfl rfl rfl rfl ?_
    refine go_sald (pc' := 19) (q := (((424 * rho) + 32) + q)) (v := .int 1) hS rfl (tr_as hr (by omega)) rfl rfl (by omega) (congrArg Value.int (hlk9.trans e)) rfl ?_
    refine go_s (pc' := 20) (st' := [.int 1, .int 1]) rfl rfl rfl rfl ?_
    refine go_s (pc' := 21) rfl rfl rfl rfl ?_
    refine go_s (pc' := 22) (st' := [.int 1, .int 1]) rfl rfl rfl rfl ?_
    refine go_icmpP (t' := 25) (pc' := 23) rfl rfl rfl (fun (c : ¬ (1 : Int32) = 1) => absurd c (by decide)) (fun _ => ?_)
    refine go_s (pc' := 24) (st' := [.int (-3)]) rfl rfl rfl rfl ?_
    refine go_ret rfl rfl ?_
    have hja : mjA s 0 1 (nI q) = (-3, s) := by
      unfold mjA
      rw [if_neg hrg, hrc, if_pos (by rw [e]; decide)]
    rw [hja]
    exact ⟨rfl, J, hS, sm_e_refl _ _, hR, rfr_refl _ _⟩
theorem rs_us_0_2 {w : Nat → Bool} {d : Nat} {h : am_Hp} {J : sm_I} {Y : sm_X} {am lm as_ ls : Nat} (hr : rk am as_) (hS : sm (tbr am lm as_ ls) h J Y) (hW : ∀ a, 62 ≤ a → a ≤ 88 → w a = true) (hWa : w as_ = true) {rho : Nat} {s : ms} (hp : prk J 0) (hn : ¬ J 11 0 = -1) (hrho : rwi J 0 = rho) (hls : 424 * rho + 424 ≤ ls) (hl31 : ls < 2 ^ 31) (hR : RS J rho s) {q : Nat} {vl : Int32} (hq : q < 16) (hlk : s.1 (32 + q) = -1 ∨ s.1 (32 + q) = 0 ∨ s.1 (32 + q) = 1) (hl : s.2.1.length < 32) (hb : bok s) (hw : s.2.2.length < 39) (hd : 4 ≤ d) : am_Ev (am_prog w) d 148 [.ref 62, .int 0, .int 2, .int (nI q), .int vl] h (fun r h' => r = some (.int (mjA s 0 2 (nI q)).1) ∧ ∃ K, sm (tbr am lm as_ ls) h' K Y ∧ sm_e (tbr am lm as_ ls) h h' ∧ RS K rho (mdo (mjA s 0 2 (nI q)).2 0 (mjA s 0 2 (nI q)).1 2 (nI q) vl) ∧ rfr J K rho) := by
  obtain ⟨d, rfl⟩ : ∃ e, d = e + 1 := ⟨d - 1, by omega⟩
  refine ev_go rfl (Nat.le_of_ble_eq_true rfl) rfl ?_
  have hlk9 : J 51 (424 * rho + 32 + q) = s.1 (32 + q) := by
    have z := hR.1 (32 + q) (by omega) (by omega) (by omega)
    rw [show 424 * rho + (32 + q) = 424 * rho + 32 + q by omega] at z
    exact z
  have hrc : (nI q).toNatClampNeg = q := nI_clamp (by omega)
  have hrg : ¬ (nI q < 0 ∨ 16 ≤ nI q) := fun z => z.elim (nI_pos (by omega)) (fun z => absurd z (nI_ge (b := 16) hq (by decide)))
  have hrl : (nI 0 : Int32) = 0 := rfl
  rcases hlk with e | e | e
  · skip
    refine go_s (pc' := 1) rfl rfl rfl rfl ?_
    refine go_s (pc' := 2) (st' := [.int 0, .ref 62]) rfl rfl rfl rfl ?_
    refine go_callV (pc' := 3) rfl rfl rfl (Nat.le_of_ble_eq_true rfl) rfl (sm_o hS rfl) rfl rfl rfl (rt_at_0 hr hS hp hn (by omega)) (fun r h1 q2 => ?_)
    obtain ⟨rfl, rfl⟩ := q2
    rw [show rwi J 0 = rho from hrho]
    refine go_s (pc' := 4) (lo' := [some (.ref 62), some (.int 0), some (.int 2), some (.int (nI q)), some (.int vl), some (.int (nI (424 * rho)))]) rfl rfl rfl rfl ?_
    refine go_s (pc' := 5) rfl rfl rfl rfl ?_
    refine go_s (pc' := 6) (st' := [.int 0, .int (nI q)]) rfl rfl rfl rfl ?_
    refine go_s (pc' := 7) (st' := [.int 15, .int 0, .int (nI q)]) rfl rfl rfl rfl ?_
    refine go_callS (pc' := 8) rfl rfl rfl (Nat.le_of_ble_eq_true rfl) rfl rfl rfl (rt_within_t (q := q) (n := 15) (by omega) (by decide) (by omega)) (fun r h3 q4 => ?_)
    obtain ⟨rfl, rfl⟩ := q4
    refine go_ifP (t' := 11) (pc' := 9) rfl rfl rfl (fun _ => ?_) (fun (c : ¬ (¬ (1 : Int32) = 0)) => absurd (by decide) c)
    refine go_s (pc' := 12) rfl rfl rfl rfl ?_
    refine go_sget (pc' := 13) (v := .ref as_) hS rfl rfl rfl (by decide) rfl rfl ?_
    refine go_s (pc' := 14) rfl rfl rfl rfl ?_
    refine go_s (pc' := 15) (st' := [.int 32, .int (nI (424 * rho)), .ref as_]) rfl rfl rfl rfl ?_
    refine go_nadd (pc' := 16) (a := (424 * rho)) (b := 32) rfl rfl rfl rfl rfl ?_
    refine go_s (pc' := 17) rfl rfl rfl rfl ?_
    refine go_nadd (pc' := 18) (a := ((424 * rho) + 32)) (b := q) rfl rfl rfl rfl rfl ?_
    refine go_sald (pc' := 19) (q := (((424 * rho) + 32) + q)) (v := .int (-1)) hS rfl (tr_as hr (by omega)) rfl rfl (by omega) (congrArg Value.int (hlk9.trans e)) rfl ?_
    refine go_s (pc' := 20) (st' := [.int 1, .int (-1)]) rfl rfl rfl rfl ?_
    refine go_s (pc' := 21) rfl rfl rfl rfl ?_
    refine go_s (pc' := 22) (st' := [.int 1, .int (-1)]) rfl rfl rfl rfl ?_
    refine go_icmpP (t' := 25) (pc' := 23) rfl rfl rfl (fun _ => ?_) (fun (c : ¬ (¬ ((-1) : Int32) = 1)) => absurd (by decide) c)
    refine go_s (pc' := 26) rfl rfl rfl rfl ?_
    refine go_sget (pc' := 27) (v := .ref as_) hS rfl rfl rfl (by decide) rfl rfl ?_
    refine go_s (pc' := 28) rfl rfl rfl rfl ?_
    refine go_s (pc' := 29) (st' := [.int 32, .int (nI (424 * rho)), .ref as_]) rfl rfl rfl rfl ?_
    refine go_nadd (pc' := 30) (a := (424 * rho)) (b := 32) rfl rfl rfl rfl rfl ?_
    refine go_s (pc' := 31) rfl rfl rfl rfl ?_
    refine go_nadd (pc' := 32) (a := ((424 * rho) + 32)) (b := q) rfl rfl rfl rfl rfl ?_
    refine go_s (pc' := 33) rfl rfl rfl rfl ?_
    refine go_siast (pc' := 34) (q := (((424 * rho) + 32) + q)) hS rfl (tr_as hr (by omega)) tbr_inj (Nat.le_of_ble_eq_true rfl) rfl (by omega) (rk_0 hr).2 hWa rfl (fun h5 hS6 hE7 => ?_)
    have hR1 : RS (uI J 51 (((424 * rho) + 32) + q) 0) rho (uF s.1 (32 + q) (nI 0), s.2) := by
      have z := RS_F (j := 32 + q) (v := nI 0) hR (by omega) (by omega) (by omega)
      rw [show 424 * rho + (32 + q) = 424 * rho + 32 + q by omega] at z
      exact z
    have hg1 : rfr J (uI J 51 (((424 * rho) + 32) + q) 0) rho := rfr_trans (rfr_refl _ _) (rfr_u (by omega) (by omega))
    obtain ⟨J1, eJ1⟩ : ∃ y, y = (uI J 51 (((424 * rho) + 32) + q) 0) := ⟨_, rfl⟩
    change sm (tbr am lm as_ ls) _ (uI J 51 (((424 * rho) + 32) + q) 0) Y at hS6
    rw [← eJ1] at hR1 hg1 hS6
    have hf1 : rfr J J1 rho := rfr_trans (rfr_refl J rho) hg1
    have hp1 : prk J1 0 := by unfold prk; rw [rfr_c hf1 (by omega)]; exact hp
    have hn1 : ¬ J1 11 0 = -1 := by rw [rfr_c hf1 (by omega)]; exact hn
    have hrho1 : rwi J1 0 = rho := (rfr_w hf1).trans hrho
    obtain ⟨s1, es1⟩ : ∃ y : ms, y = (uF s.1 (32 + q) (nI 0), s.2) := ⟨_, rfl⟩
    rw [← es1] at hR1
    have hl1 : s1.2 = s.2 := by rw [es1]
    have hF1 : ∀ j, j < 32 → s1.1 j = s.1 j := fun j hj => by rw [es1]; simp only [uF]; rw [if_neg (by omega)]
    have hmt1 : mtr s1 = mtr s := mtr_F (hF1 14 (by omega)) (hF1 15 (by omega))
    have hb1 : bok s1 := by unfold bok; rw [hF1 14 (by omega), hF1 15 (by omega)]; exact hb
    have hln1 : s1.2.1.length = s.2.1.length := by rw [hl1]
    have hrd : J1 51 (424 * rho + 16 + q) = s1.1 (16 + q) := by
      have z := hR1.1 (16 + q) (by omega) (by omega) (by omega)
      rw [show 424 * rho + (16 + q) = 424 * rho + 16 + q by omega] at z
      exact z
    have hja : mjA s 0 2 (nI q) = (if (2 : Int32) = 2 ∧ 32 - s.2.1.length - 1 < mtr s then -4 else 0, s1) := by
      unfold mjA
      rw [if_neg hrg, hrc, if_neg (by rw [e]; decide), es1]
    refine go_s (pc' := 35) rfl rfl rfl rfl ?_
    refine go_s (pc' := 36) (st' := [.int 1, .int 2]) rfl rfl rfl rfl ?_
    refine go_icmpP (t' := 39) (pc' := 37) rfl rfl rfl (fun _ => ?_) (fun (c : ¬ (¬ (2 : Int32) = 1)) => absurd (by decide) c)
    refine go_s (pc' := 40) (st' := [.int 32]) rfl rfl rfl rfl ?_
    refine go_s (pc' := 41) rfl rfl rfl rfl ?_
    refine go_sget (pc' := 42) (v := .ref as_) hS6 rfl rfl rfl (by decide) rfl rfl ?_
    refine go_s (pc' := 43) rfl rfl rfl rfl ?_
    refine go_s (pc' := 44) (st' := [.int 2, .int (nI (424 * rho)), .ref as_, .int 32]) rfl rfl rfl rfl ?_
    refine go_nadd (pc' := 45) (a := (424 * rho)) (b := 2) rfl rfl rfl rfl rfl ?_
    refine go_sald (pc' := 46) (q := ((424 * rho) + 2)) (v := .int (nI (List.length s1.2.1))) hS6 rfl (tr_as hr (by omega)) rfl rfl (by omega) (congrArg Value.int hR1.2.1) rfl ?_
    refine go_nsub (pc' := 47) (a := 32) (b := (List.length s1.2.1)) rfl rfl rfl (by omega) rfl rfl ?_
    refine go_s (pc' := 48) (st' := [.int 1, .int (nI (32 - (List.length s1.2.1)))]) rfl rfl rfl rfl ?_
    refine go_nsub (pc' := 49) (a := (32 - (List.length s1.2.1))) (b := 1) rfl rfl rfl (by omega) rfl rfl ?_
    refine go_s (pc' := 50) rfl rfl rfl rfl ?_
    refine go_callV (pc' := 51) rfl rfl rfl (Nat.le_of_ble_eq_true rfl) rfl (sm_o hS6 rfl) rfl rfl rfl (rs_tr hr hS6 hp1 hn1 hrho1 hls hl31 hR1 hb1 (by omega)) (fun r h8 q9 => ?_)
    obtain ⟨rfl, rfl⟩ := q9
    by_cases hroom : mtr s1 ≤ 32 - s1.2.1.length - 1
    · skip
      refine go_icmpP (t' := 54) (pc' := 52) rfl rfl rfl (fun _ => ?_) (fun (c : ¬ ((nI (mtr s1)) ≤ (nI ((32 - (List.length s1.2.1)) - 1)))) => absurd (nI_le hroom (by omega)) c)
      refine go_s (pc' := 55) rfl rfl rfl rfl ?_
      refine go_s (pc' := 56) (st' := [.int 1, .ref 62]) rfl rfl rfl rfl ?_
      refine go_s (pc' := 57) rfl rfl rfl rfl ?_
      refine go_s (pc' := 58) rfl rfl rfl rfl ?_
      refine go_s (pc' := 59) rfl rfl rfl rfl ?_
      refine go_sget (pc' := 60) (v := .ref as_) hS6 rfl rfl rfl (by decide) rfl rfl ?_
      refine go_s (pc' := 61) rfl rfl rfl rfl ?_
      refine go_s (pc' := 62) (st' := [.int 16, .int (nI (424 * rho)), .ref as_, .int (nI q), .int 0, .int 1, .ref 62]) rfl rfl rfl rfl ?_
      refine go_nadd (pc' := 63) (a := (424 * rho)) (b := 16) rfl rfl rfl rfl rfl ?_
      refine go_s (pc' := 64) rfl rfl rfl rfl ?_
      refine go_nadd (pc' := 65) (a := ((424 * rho) + 16)) (b := q) rfl rfl rfl rfl rfl ?_
      refine go_sald (pc' := 66) (q := (((424 * rho) + 16) + q)) (v := .int (s1.1 (16 + q))) hS6 rfl (tr_as hr (by omega)) rfl rfl (by omega) (congrArg Value.int hrd) rfl ?_
      refine go_callV (pc' := 67) rfl rfl rfl (Nat.le_of_ble_eq_true rfl) rfl (sm_o hS6 rfl) rfl rfl rfl (rs_ae hr hS6 hW hWa hp1 hn1 hrho1 hls hl31 hR1 (by rw [hl1]; omega) (by omega) (by omega)) (fun r h10 q11 => ?_)
      obtain ⟨rfl, K2, hS2, hE2, hR2, hg2⟩ := q11
      have hE12 := sm_e_trans hE7 hE2
      have hf2 := rfr_trans hf1 hg2
      refine go_s (pc' := 68) rfl rfl rfl rfl ?_
      refine go_sget (pc' := 69) (v := .ref as_) hS2 rfl rfl rfl (by decide) rfl rfl ?_
      refine go_s (pc' := 70) rfl rfl rfl rfl ?_
      refine go_s (pc' := 71) (st' := [.int 16, .int (nI (424 * rho)), .ref as_]) rfl rfl rfl rfl ?_
      refine go_nadd (pc' := 72) (a := (424 * rho)) (b := 16) rfl rfl rfl rfl rfl ?_
      refine go_s (pc' := 73) rfl rfl rfl rfl ?_
      refine go_nadd (pc' := 74) (a := ((424 * rho) + 16)) (b := q) rfl rfl rfl rfl rfl ?_
      refine go_s (pc' := 75) rfl rfl rfl rfl ?_
      refine go_siast (pc' := 76) (q := (((424 * rho) + 16) + q)) hS2 rfl (tr_as hr (by omega)) tbr_inj (Nat.le_of_ble_eq_true rfl) rfl (by omega) (rk_0 hr).2 hWa rfl (fun h13 hS14 hE15 => ?_)
      have hE16 := sm_e_trans hE12 hE15
      have hR3 : RS (uI K2 51 (((424 * rho) + 16) + q) vl) rho (uF (mE s1 1 (nI 0) (nI q) (s1.1 (16 + q))).1 (16 + q) vl, (mE s1 1 (nI 0) (nI q) (s1.1 (16 + q))).2) := by
        have z := RS_F (j := 16 + q) (v := vl) hR2 (by omega) (by omega) (by omega)
        rw [show 424 * rho + (16 + q) = 424 * rho + 16 + q by omega] at z
        exact z
      have hg3 : rfr K2 (uI K2 51 (((424 * rho) + 16) + q) vl) rho := rfr_trans (rfr_refl _ _) (rfr_u (by omega) (by omega))
      obtain ⟨J3, eJ3⟩ : ∃ y, y = (uI K2 51 (((424 * rho) + 16) + q) vl) := ⟨_, rfl⟩
      change sm (tbr am lm as_ ls) _ (uI K2 51 (((424 * rho) + 16) + q) vl) Y at hS14
      rw [← eJ3] at hR3 hg3 hS14
      have hf3 : rfr J J3 rho := rfr_trans hf2 hg3
      have hp3 : prk J3 0 := by unfold prk; rw [rfr_c hf3 (by omega)]; exact hp
      have hn3 : ¬ J3 11 0 = -1 := by rw [rfr_c hf3 (by omega)]; exact hn
      have hrho3 : rwi J3 0 = rho := (rfr_w hf3).trans hrho
      refine go_s (pc' := 77) rfl rfl rfl rfl ?_
      refine go_s (pc' := 78) rfl rfl rfl rfl ?_
      refine go_s (pc' := 79) rfl rfl rfl rfl ?_
      refine go_s (pc' := 80) (st' := [.int 0, .int vl, .int (nI q), .ref 62]) rfl rfl rfl rfl ?_
      refine go_s (pc' := 81) (st' := [.int 0, .int 0, .int vl, .int (nI q), .ref 62]) rfl rfl rfl rfl ?_
      refine go_s (pc' := 82) (st' := [.int 0, .int 0, .int 0, .int vl, .int (nI q), .ref 62]) rfl rfl rfl rfl ?_
      refine go_s (pc' := 83) (st' := [.int 0, .int 0, .int 0, .int 0, .int vl, .int (nI q), .ref 62]) rfl rfl rfl rfl ?_
      refine go_callV (pc' := 84) rfl rfl rfl (Nat.le_of_ble_eq_true rfl) rfl (sm_o hS14 rfl) rfl rfl rfl (rs_aw hr hS14 hW hWa hp3 hn3 hrho3 hls hl31 hR3 (by show (s1.2.2 ++ [_]).length < 41; rw [hl1]; simp; omega) (by show (s1.2.1 ++ [_]).length ≤ 32; simp; omega) (by omega)) (fun r h17 q18 => ?_)
      obtain ⟨rfl, K4, hS4, hE4, hR4, hg4⟩ := q18
      have hE19 := sm_e_trans hE16 hE4
      refine go_s (pc' := 85) (st' := [.int 0]) rfl rfl rfl rfl ?_
      refine go_ret rfl rfl ?_
      rw [hja, if_neg (fun z => absurd z.2 (by rw [hln1, hmt1] at hroom; omega))]
      refine ⟨rfl, K4, hS4, hE19, ?_, rfr_trans hf3 hg4⟩
      show RS K4 rho (mdo s1 0 0 2 (nI q) vl)
      have hmd : mdo s1 0 0 2 (nI q) vl = mR (mE s1 1 (nI 0) (nI q) (s1.1 (16 + q))) q vl := by
        unfold mdo
        rw [if_neg (by decide), if_pos rfl, if_neg (by decide), if_pos rfl, hrc]
      rw [hmd]
      exact hR4
    · skip
      refine go_icmpP (t' := 54) (pc' := 52) rfl rfl rfl (fun (c : (nI (mtr s1)) ≤ (nI ((32 - (List.length s1.2.1)) - 1))) => absurd c (nI_ge (show 32 - s1.2.1.length - 1 < mtr s1 by omega) (by have := mtr_le s1; omega))) (fun _ => ?_)
      refine go_s (pc' := 53) (st' := [.int (-4)]) rfl rfl rfl rfl ?_
      refine go_ret rfl rfl ?_
      rw [hja, if_pos ⟨rfl, by rw [hln1, hmt1] at hroom; omega⟩]
      exact ⟨rfl, J1, hS6, hE7, hR1, hf1⟩
  · skip
    refine go_s (pc' := 1) rfl rfl rfl rfl ?_
    refine go_s (pc' := 2) (st' := [.int 0, .ref 62]) rfl rfl rfl rfl ?_
    refine go_callV (pc' := 3) rfl rfl rfl (Nat.le_of_ble_eq_true rfl) rfl (sm_o hS rfl) rfl rfl rfl (rt_at_0 hr hS hp hn (by omega)) (fun r h20 q21 => ?_)
    obtain ⟨rfl, rfl⟩ := q21
    rw [show rwi J 0 = rho from hrho]
    refine go_s (pc' := 4) (lo' := [some (.ref 62), some (.int 0), some (.int 2), some (.int (nI q)), some (.int vl), some (.int (nI (424 * rho)))]) rfl rfl rfl rfl ?_
    refine go_s (pc' := 5) rfl rfl rfl rfl ?_
    refine go_s (pc' := 6) (st' := [.int 0, .int (nI q)]) rfl rfl rfl rfl ?_
    refine go_s (pc' := 7) (st' := [.int 15, .int 0, .int (nI q)]) rfl rfl rfl rfl ?_
    refine go_callS (pc' := 8) rfl rfl rfl (Nat.le_of_ble_eq_true rfl) rfl rfl rfl (rt_within_t (q := q) (n := 15) (by omega) (by decide) (by omega)) (fun r h22 q23 => ?_)
    obtain ⟨rfl, rfl⟩ := q23
    refine go_ifP (t' := 11) (pc' := 9) rfl rfl rfl (fun _ => ?_) (fun (c : ¬ (¬ (1 : Int32) = 0)) => absurd (by decide) c)
    refine go_s (pc' := 12) rfl rfl rfl rfl ?_
    refine go_sget (pc' := 13) (v := .ref as_) hS rfl rfl rfl (by decide) rfl rfl ?_
    refine go_s (pc' := 14) rfl rfl rfl rfl ?_
    refine go_s (pc' := 15) (st' := [.int 32, .int (nI (424 * rho)), .ref as_]) rfl rfl rfl rfl ?_
    refine go_nadd (pc' := 16) (a := (424 * rho)) (b := 32) rfl rfl rfl rfl rfl ?_
    refine go_s (pc' := 17) rfl rfl rfl rfl ?_
    refine go_nadd (pc' := 18) (a := ((424 * rho) + 32)) (b := q) rfl rfl rfl rfl rfl ?_
    refine go_sald (pc' := 19) (q := (((424 * rho) + 32) + q)) (v := .int 0) hS rfl (tr_as hr (by omega)) rfl rfl (by omega) (congrArg Value.int (hlk9.trans e)) rfl ?_
    refine go_s (pc' := 20) (st' := [.int 1, .int 0]) rfl rfl rfl rfl ?_
    refine go_s (pc' := 21) rfl rfl rfl rfl ?_
    refine go_s (pc' := 22) (st' := [.int 1, .int 0]) rfl rfl rfl rfl ?_
    refine go_icmpP (t' := 25) (pc' := 23) rfl rfl rfl (fun _ => ?_) (fun (c : ¬ (¬ (0 : Int32) = 1)) => absurd (by decide) c)
    refine go_s (pc' := 26) rfl rfl rfl rfl ?_
    refine go_sget (pc' := 27) (v := .ref as_) hS rfl rfl rfl (by decide) rfl rfl ?_
    refine go_s (pc' := 28) rfl rfl rfl rfl ?_
    refine go_s (pc' := 29) (st' := [.int 32, .int (nI (424 * rho)), .ref as_]) rfl rfl rfl rfl ?_
    refine go_nadd (pc' := 30) (a := (424 * rho)) (b := 32) rfl rfl rfl rfl rfl ?_
    refine go_s (pc' := 31) rfl rfl rfl rfl ?_
    refine go_nadd (pc' := 32) (a := ((424 * rho) + 32)) (b := q) rfl rfl rfl rfl rfl ?_
    refine go_s (pc' := 33) rfl rfl rfl rfl ?_
    refine go_siast (pc' := 34) (q := (((424 * rho) + 32) + q)) hS rfl (tr_as hr (by omega)) tbr_inj (Nat.le_of_ble_eq_true rfl) rfl (by omega) (rk_0 hr).2 hWa rfl (fun h24 hS25 hE26 => ?_)
    have hR1 : RS (uI J 51 (((424 * rho) + 32) + q) 0) rho (uF s.1 (32 + q) (nI 0), s.2) := by
      have z := RS_F (j := 32 + q) (v := nI 0) hR (by omega) (by omega) (by omega)
      rw [show 424 * rho + (32 + q) = 424 * rho + 32 + q by omega] at z
      exact z
    have hg1 : rfr J (uI J 51 (((424 * rho) + 32) + q) 0) rho := rfr_trans (rfr_refl _ _) (rfr_u (by omega) (by omega))
    obtain ⟨J1, eJ1⟩ : ∃ y, y = (uI J 51 (((424 * rho) + 32) + q) 0) := ⟨_, rfl⟩
    change sm (tbr am lm as_ ls) _ (uI J 51 (((424 * rho) + 32) + q) 0) Y at hS25
    rw [← eJ1] at hR1 hg1 hS25
    have hf1 : rfr J J1 rho := rfr_trans (rfr_refl J rho) hg1
    have hp1 : prk J1 0 := by unfold prk; rw [rfr_c hf1 (by omega)]; exact hp
    have hn1 : ¬ J1 11 0 = -1 := by rw [rfr_c hf1 (by omega)]; exact hn
    have hrho1 : rwi J1 0 = rho := (rfr_w hf1).trans hrho
    obtain ⟨s1, es1⟩ : ∃ y : ms, y = (uF s.1 (32 + q) (nI 0), s.2) := ⟨_, rfl⟩
    rw [← es1] at hR1
    have hl1 : s1.2 = s.2 := by rw [es1]
    have hF1 : ∀ j, j < 32 → s1.1 j = s.1 j := fun j hj => by rw [es1]; simp only [uF]; rw [if_neg (by omega)]
    have hmt1 : mtr s1 = mtr s := mtr_F (hF1 14 (by omega)) (hF1 15 (by omega))
    have hb1 : bok s1 := by unfold bok; rw [hF1 14 (by omega), hF1 15 (by omega)]; exact hb
    have hln1 : s1.2.1.length = s.2.1.length := by rw [hl1]
    have hrd : J1 51 (424 * rho + 16 + q) = s1.1 (16 + q) := by
      have z := hR1.1 (16 + q) (by omega) (by omega) (by omega)
      rw [show 424 * rho + (16 + q) = 424 * rho + 16 + q by omega] at z
      exact z
    have hja : mjA s 0 2 (nI q) = (if (2 : Int32) = 2 ∧ 32 - s.2.1.length - 1 < mtr s then -4 else 0, s1) := by
      unfold mjA
      rw [if_neg hrg, hrc, if_neg (by rw [e]; decide), es1]
    refine go_s (pc' := 35) rfl rfl rfl rfl ?_
    refine go_s (pc' := 36) (st' := [.int 1, .int 2]) rfl rfl rfl rfl ?_
    refine go_icmpP (t' := 39) (pc' := 37) rfl rfl rfl (fun _ => ?_) (fun (c : ¬ (¬ (2 : Int32) = 1)) => absurd (by decide) c)
    refine go_s (pc' := 40) (st' := [.int 32]) rfl rfl rfl rfl ?_
    refine go_s (pc' := 41) rfl rfl rfl rfl ?_
    refine go_sget (pc' := 42) (v := .ref as_) hS25 rfl rfl rfl (by decide) rfl rfl ?_
    refine go_s (pc' := 43) rfl rfl rfl rfl ?_
    refine go_s (pc' := 44) (st' := [.int 2, .int (nI (424 * rho)), .ref as_, .int 32]) rfl rfl rfl rfl ?_
    refine go_nadd (pc' := 45) (a := (424 * rho)) (b := 2) rfl rfl rfl rfl rfl ?_
    refine go_sald (pc' := 46) (q := ((424 * rho) + 2)) (v := .int (nI (List.length s1.2.1))) hS25 rfl (tr_as hr (by omega)) rfl rfl (by omega) (congrArg Value.int hR1.2.1) rfl ?_
    refine go_nsub (pc' := 47) (a := 32) (b := (List.length s1.2.1)) rfl rfl rfl (by omega) rfl rfl ?_
    refine go_s (pc' := 48) (st' := [.int 1, .int (nI (32 - (List.length s1.2.1)))]) rfl rfl rfl rfl ?_
    refine go_nsub (pc' := 49) (a := (32 - (List.length s1.2.1))) (b := 1) rfl rfl rfl (by omega) rfl rfl ?_
    refine go_s (pc' := 50) rfl rfl rfl rfl ?_
    refine go_callV (pc' := 51) rfl rfl rfl (Nat.le_of_ble_eq_true rfl) rfl (sm_o hS25 rfl) rfl rfl rfl (rs_tr hr hS25 hp1 hn1 hrho1 hls hl31 hR1 hb1 (by omega)) (fun r h27 q28 => ?_)
    obtain ⟨rfl, rfl⟩ := q28
    by_cases hroom : mtr s1 ≤ 32 - s1.2.1.length - 1
    · skip
      refine go_icmpP (t' := 54) (pc' := 52) rfl rfl rfl (fun _ => ?_) (fun (c : ¬ ((nI (mtr s1)) ≤ (nI ((32 - (List.length s1.2.1)) - 1)))) => absurd (nI_le hroom (by omega)) c)
      refine go_s (pc' := 55) rfl rfl rfl rfl ?_
      refine go_s (pc' := 56) (st' := [.int 1, .ref 62]) rfl rfl rfl rfl ?_
      refine go_s (pc' := 57) rfl rfl rfl rfl ?_
      refine go_s (pc' := 58) rfl rfl rfl rfl ?_
      refine go_s (pc' := 59) rfl rfl rfl rfl ?_
      refine go_sget (pc' := 60) (v := .ref as_) hS25 rfl rfl rfl (by decide) rfl rfl ?_
      refine go_s (pc' := 61) rfl rfl rfl rfl ?_
      refine go_s (pc' := 62) (st' := [.int 16, .int (nI (424 * rho)), .ref as_, .int (nI q), .int 0, .int 1, .ref 62]) rfl rfl rfl rfl ?_
      refine go_nadd (pc' := 63) (a := (424 * rho)) (b := 16) rfl rfl rfl rfl rfl ?_
      refine go_s (pc' := 64) rfl rfl rfl rfl ?_
      refine go_nadd (pc' := 65) (a := ((424 * rho) + 16)) (b := q) rfl rfl rfl rfl rfl ?_
      refine go_sald (pc' := 66) (q := (((424 * rho) + 16) + q)) (v := .int (s1.1 (16 + q))) hS25 rfl (tr_as hr (by omega)) rfl rfl (by omega) (congrArg Value.int hrd) rfl ?_
      refine go_callV (pc' := 67) rfl rfl rfl (Nat.le_of_ble_eq_true rfl) rfl (sm_o hS25 rfl) rfl rfl rfl (rs_ae hr hS25 hW hWa hp1 hn1 hrho1 hls hl31 hR1 (by rw [hl1]; omega) (by omega) (by omega)) (fun r h29 q30 => ?_)
      obtain ⟨rfl, K2, hS2, hE2, hR2, hg2⟩ := q30
      have hE31 := sm_e_trans hE26 hE2
      have hf2 := rfr_trans hf1 hg2
      refine go_s (pc' := 68) rfl rfl rfl rfl ?_
      refine go_sget (pc' := 69) (v := .ref as_) hS2 rfl rfl rfl (by decide) rfl rfl ?_
      refine go_s (pc' := 70) rfl rfl rfl rfl ?_
      refine go_s (pc' := 71) (st' := [.int 16, .int (nI (424 * rho)), .ref as_]) rfl rfl rfl rfl ?_
      refine go_nadd (pc' := 72) (a := (424 * rho)) (b := 16) rfl rfl rfl rfl rfl ?_
      refine go_s (pc' := 73) rfl rfl rfl rfl ?_
      refine go_nadd (pc' := 74) (a := ((424 * rho) + 16)) (b := q) rfl rfl rfl rfl rfl ?_
      refine go_s (pc' := 75) rfl rfl rfl rfl ?_
      refine go_siast (pc' := 76) (q := (((424 * rho) + 16) + q)) hS2 rfl (tr_as hr (by omega)) tbr_inj (Nat.le_of_ble_eq_true rfl) rfl (by omega) (rk_0 hr).2 hWa rfl (fun h32 hS33 hE34 => ?_)
      have hE35 := sm_e_trans hE31 hE34
      have hR3 : RS (uI K2 51 (((424 * rho) + 16) + q) vl) rho (uF (mE s1 1 (nI 0) (nI q) (s1.1 (16 + q))).1 (16 + q) vl, (mE s1 1 (nI 0) (nI q) (s1.1 (16 + q))).2) := by
        have z := RS_F (j := 16 + q) (v := vl) hR2 (by omega) (by omega) (by omega)
        rw [show 424 * rho + (16 + q) = 424 * rho + 16 + q by omega] at z
        exact z
      have hg3 : rfr K2 (uI K2 51 (((424 * rho) + 16) + q) vl) rho := rfr_trans (rfr_refl _ _) (rfr_u (by omega) (by omega))
      obtain ⟨J3, eJ3⟩ : ∃ y, y = (uI K2 51 (((424 * rho) + 16) + q) vl) := ⟨_, rfl⟩
      change sm (tbr am lm as_ ls) _ (uI K2 51 (((424 * rho) + 16) + q) vl) Y at hS33
      rw [← eJ3] at hR3 hg3 hS33
      have hf3 : rfr J J3 rho := rfr_trans hf2 hg3
      have hp3 : prk J3 0 := by unfold prk; rw [rfr_c hf3 (by omega)]; exact hp
      have hn3 : ¬ J3 11 0 = -1 := by rw [rfr_c hf3 (by omega)]; exact hn
      have hrho3 : rwi J3 0 = rho := (rfr_w hf3).trans hrho
      refine go_s (pc' := 77) rfl rfl rfl rfl ?_
      refine go_s (pc' := 78) rfl rfl rfl rfl ?_
      refine go_s (pc' := 79) rfl rfl rfl rfl ?_
      refine go_s (pc' := 80) (st' := [.int 0, .int vl, .int (nI q), .ref 62]) rfl rfl rfl rfl ?_
      refine go_s (pc' := 81) (st' := [.int 0, .int 0, .int vl, .int (nI q), .ref 62]) rfl rfl rfl rfl ?_
      refine go_s (pc' := 82) (st' := [.int 0, .int 0, .int 0, .int vl, .int (nI q), .ref 62]) rfl rfl rfl rfl ?_
      refine go_s (pc' := 83) (st' := [.int 0, .int 0, .int 0, .int 0, .int vl, .int (nI q), .ref 62]) rfl rfl rfl rfl ?_
      refine go_callV (pc' := 84) rfl rfl rfl (Nat.le_of_ble_eq_true rfl) rfl (sm_o hS33 rfl) rfl rfl rfl (rs_aw hr hS33 hW hWa hp3 hn3 hrho3 hls hl31 hR3 (by show (s1.2.2 ++ [_]).length < 41; rw [hl1]; simp; omega) (by show (s1.2.1 ++ [_]).length ≤ 32; simp; omega) (by omega)) (fun r h36 q37 => ?_)
      obtain ⟨rfl, K4, hS4, hE4, hR4, hg4⟩ := q37
      have hE38 := sm_e_trans hE35 hE4
      refine go_s (pc' := 85) (st' := [.int 0]) rfl rfl rfl rfl ?_
      refine go_ret rfl rfl ?_
      rw [hja, if_neg (fun z => absurd z.2 (by rw [hln1, hmt1] at hroom; omega))]
      refine ⟨rfl, K4, hS4, hE38, ?_, rfr_trans hf3 hg4⟩
      show RS K4 rho (mdo s1 0 0 2 (nI q) vl)
      have hmd : mdo s1 0 0 2 (nI q) vl = mR (mE s1 1 (nI 0) (nI q) (s1.1 (16 + q))) q vl := by
        unfold mdo
        rw [if_neg (by decide), if_pos rfl, if_neg (by decide), if_pos rfl, hrc]
      rw [hmd]
      exact hR4
    · skip
      refine go_icmpP (t' := 54) (pc' := 52) rfl rfl rfl (fun (c : (nI (mtr s1)) ≤ (nI ((32 - (List.length s1.2.1)) - 1))) => absurd c (nI_ge (show 32 - s1.2.1.length - 1 < mtr s1 by omega) (by have := mtr_le s1; omega))) (fun _ => ?_)
      refine go_s (pc' := 53) (st' := [.int (-4)]) rfl rfl rfl rfl ?_
      refine go_ret rfl rfl ?_
      rw [hja, if_pos ⟨rfl, by rw [hln1, hmt1] at hroom; omega⟩]
      exact ⟨rfl, J1, hS25, hE26, hR1, hf1⟩
  · skip
    refine go_s (pc' := 1) rfl rfl rfl rfl ?_
    refine go_s (pc' := 2) (st' := [.int 0, .ref 62]) rfl rfl rfl rfl ?_
    refine go_callV (pc' := 3) rfl rfl rfl (Nat.le_of_ble_eq_true rfl) rfl (sm_o hS rfl) rfl rfl rfl (rt_at_0 hr hS hp hn (by omega)) (fun r h39 q40 => ?_)
    obtain ⟨rfl, rfl⟩ := q40
    rw [show rwi J 0 = rho from hrho]
    refine go_s (pc' := 4) (lo' := [some (.ref 62), some (.int 0), some (.int 2), some (.int (nI q)), some (.int vl), some (.int (nI (424 * rho)))]) rfl rfl rfl rfl ?_
    refine go_s (pc' := 5) rfl rfl rfl rfl ?_
    refine go_s (pc' := 6) (st' := [.int 0, .int (nI q)]) rfl rfl rfl rfl ?_
    refine go_s (pc' := 7) (st' := [.int 15, .int 0, .int (nI q)]) rfl rfl rfl rfl ?_
    refine go_callS (pc' := 8) rfl rfl rfl (Nat.le_of_ble_eq_true rfl) rfl rfl rfl (rt_within_t (q := q) (n := 15) (by omega) (by decide) (by omega)) (fun r h41 q42 => ?_)
    obtain ⟨rfl, rfl⟩ := q42
    refine go_ifP (t' := 11) (pc' := 9) rfl rfl rfl (fun _ => ?_) (fun (c : ¬ (¬ (1 : Int32) = 0)) => absurd (by decide) c)
    refine go_s (pc' := 12) rfl rfl rfl rfl ?_
    refine go_sget (pc' := 13) (v := .ref as_) hS rfl rfl rfl (by decide) rfl rfl ?_
    refine go_s (pc' := 14) rfl rfl rfl rfl ?_
    refine go_s (pc' := 15) (st' := [.int 32, .int (nI (424 * rho)), .ref as_]) rfl rfl rfl rfl ?_
    refine go_nadd (pc' := 16) (a := (424 * rho)) (b := 32) rfl rfl rfl rfl rfl ?_
    refine go_s (pc' := 17) rfl rfl rfl rfl ?_
    refine go_nadd (pc' := 18) (a := ((424 * rho) + 32)) (b := q) rfl rfl rfl rfl rfl ?_
    refine go_sald (pc' := 19) (q := (((424 * rho) + 32) + q)) (v := .int 1) hS rfl (tr_as hr (by omega)) rfl rfl (by omega) (congrArg Value.int (hlk9.trans e)) rfl ?_
    refine go_s (pc' := 20) (st' := [.int 1, .int 1]) rfl rfl rfl rfl ?_
    refine go_s (pc' := 21) rfl rfl rfl rfl ?_
    refine go_s (pc' := 22) (st' := [.int 1, .int 1]) rfl rfl rfl rfl ?_
    refine go_icmpP (t' := 25) (pc' := 23) rfl rfl rfl (fun (c : ¬ (1 : Int32) = 1) => absurd c (by decide)) (fun _ => ?_)
    refine go_s (pc' := 24) (st' := [.int (-3)]) rfl rfl rfl rfl ?_
    refine go_ret rfl rfl ?_
    have hja : mjA s 0 2 (nI q) = (-3, s) := by
      unfold mjA
      rw [if_neg hrg, hrc, if_pos (by rw [e]; decide)]
    rw [hja]
    exact ⟨rfl, J, hS, sm_e_refl _ _, hR, rfr_refl _ _⟩
theorem rs_us_1_1 {w : Nat → Bool} {d : Nat} {h : am_Hp} {J : sm_I} {Y : sm_X} {am lm as_ ls : Nat} (hr : rk am as_) (hS : sm (tbr am lm as_ ls) h J Y) (hW : ∀ a, 62 ≤ a → a ≤ 88 → w a = true) (hWa : w as_ = true) {rho : Nat} {s : ms} (hp : prk J 0) (hn : ¬ J 11 0 = -1) (hrho : rwi J 0 = rho) (hls : 424 * rho + 424 ≤ ls) (hl31 : ls < 2 ^ 31) (hR : RS J rho s) {q : Nat} {vl : Int32} (hq : q < 16) (hlk : s.1 (32 + q) = -1 ∨ s.1 (32 + q) = 0 ∨ s.1 (32 + q) = 1) (hl : s.2.1.length < 32) (hb : bok s) (hw : s.2.2.length < 39) (hd : 4 ≤ d) : am_Ev (am_prog w) d 148 [.ref 62, .int 1, .int 1, .int (nI q), .int vl] h (fun r h' => r = some (.int (mjA s 1 1 (nI q)).1) ∧ ∃ K, sm (tbr am lm as_ ls) h' K Y ∧ sm_e (tbr am lm as_ ls) h h' ∧ RS K rho (mdo (mjA s 1 1 (nI q)).2 1 (mjA s 1 1 (nI q)).1 1 (nI q) vl) ∧ rfr J K rho) := by
  obtain ⟨d, rfl⟩ : ∃ e, d = e + 1 := ⟨d - 1, by omega⟩
  refine ev_go rfl (Nat.le_of_ble_eq_true rfl) rfl ?_
  have hlk9 : J 51 (424 * rho + 32 + q) = s.1 (32 + q) := by
    have z := hR.1 (32 + q) (by omega) (by omega) (by omega)
    rw [show 424 * rho + (32 + q) = 424 * rho + 32 + q by omega] at z
    exact z
  have hrc : (nI q).toNatClampNeg = q := nI_clamp (by omega)
  have hrg : ¬ (nI q < 0 ∨ 16 ≤ nI q) := fun z => z.elim (nI_pos (by omega)) (fun z => absurd z (nI_ge (b := 16) hq (by decide)))
  have hrl : (nI 1 : Int32) = 1 := rfl
  rcases hlk with e | e | e
  · skip
    refine go_s (pc' := 1) rfl rfl rfl rfl ?_
    refine go_s (pc' := 2) (st' := [.int 0, .ref 62]) rfl rfl rfl rfl ?_
    refine go_callV (pc' := 3) rfl rfl rfl (Nat.le_of_ble_eq_true rfl) rfl (sm_o hS rfl) rfl rfl rfl (rt_at_0 hr hS hp hn (by omega)) (fun r h1 q2 => ?_)
    obtain ⟨rfl, rfl⟩ := q2
    rw [show rwi J 0 = rho from hrho]
    refine go_s (pc' := 4) (lo' := [some (.ref 62), some (.int 1), some (.int 1), some (.int (nI q)), some (.int vl), some (.int (nI (424 * rho)))]) rfl rfl rfl rfl ?_
    refine go_s (pc' := 5) rfl rfl rfl rfl ?_
    refine go_s (pc' := 6) (st' := [.int 0, .int (nI q)]) rfl rfl rfl rfl ?_
    refine go_s (pc' := 7) (st' := [.int 15, .int 0, .int (nI q)]) rfl rfl rfl rfl ?_
    refine go_callS (pc' := 8) rfl rfl rfl (Nat.le_of_ble_eq_true rfl) rfl rfl rfl (rt_within_t (q := q) (n := 15) (by omega) (by decide) (by omega)) (fun r h3 q4 => ?_)
    obtain ⟨rfl, rfl⟩ := q4
    refine go_ifP (t' := 11) (pc' := 9) rfl rfl rfl (fun _ => ?_) (fun (c : ¬ (¬ (1 : Int32) = 0)) => absurd (by decide) c)
    refine go_s (pc' := 12) rfl rfl rfl rfl ?_
    refine go_sget (pc' := 13) (v := .ref as_) hS rfl rfl rfl (by decide) rfl rfl ?_
    refine go_s (pc' := 14) rfl rfl rfl rfl ?_
    refine go_s (pc' := 15) (st' := [.int 32, .int (nI (424 * rho)), .ref as_]) rfl rfl rfl rfl ?_
    refine go_nadd (pc' := 16) (a := (424 * rho)) (b := 32) rfl rfl rfl rfl rfl ?_
    refine go_s (pc' := 17) rfl rfl rfl rfl ?_
    refine go_nadd (pc' := 18) (a := ((424 * rho) + 32)) (b := q) rfl rfl rfl rfl rfl ?_
    refine go_sald (pc' := 19) (q := (((424 * rho) + 32) + q)) (v := .int (-1)) hS rfl (tr_as hr (by omega)) rfl rfl (by omega) (congrArg Value.int (hlk9.trans e)) rfl ?_
    refine go_s (pc' := 20) (st' := [.int 1, .int (-1)]) rfl rfl rfl rfl ?_
    refine go_s (pc' := 21) rfl rfl rfl rfl ?_
    refine go_s (pc' := 22) (st' := [.int 0, .int (-1)]) rfl rfl rfl rfl ?_
    refine go_icmpP (t' := 25) (pc' := 23) rfl rfl rfl (fun _ => ?_) (fun (c : ¬ (¬ ((-1) : Int32) = 0)) => absurd (by decide) c)
    refine go_s (pc' := 26) rfl rfl rfl rfl ?_
    refine go_sget (pc' := 27) (v := .ref as_) hS rfl rfl rfl (by decide) rfl rfl ?_
    refine go_s (pc' := 28) rfl rfl rfl rfl ?_
    refine go_s (pc' := 29) (st' := [.int 32, .int (nI (424 * rho)), .ref as_]) rfl rfl rfl rfl ?_
    refine go_nadd (pc' := 30) (a := (424 * rho)) (b := 32) rfl rfl rfl rfl rfl ?_
    refine go_s (pc' := 31) rfl rfl rfl rfl ?_
    refine go_nadd (pc' := 32) (a := ((424 * rho) + 32)) (b := q) rfl rfl rfl rfl rfl ?_
    refine go_s (pc' := 33) rfl rfl rfl rfl ?_
    refine go_siast (pc' := 34) (q := (((424 * rho) + 32) + q)) hS rfl (tr_as hr (by omega)) tbr_inj (Nat.le_of_ble_eq_true rfl) rfl (by omega) (rk_0 hr).2 hWa rfl (fun h5 hS6 hE7 => ?_)
    have hR1 : RS (uI J 51 (((424 * rho) + 32) + q) 1) rho (uF s.1 (32 + q) (nI 1), s.2) := by
      have z := RS_F (j := 32 + q) (v := nI 1) hR (by omega) (by omega) (by omega)
      rw [show 424 * rho + (32 + q) = 424 * rho + 32 + q by omega] at z
      exact z
    have hg1 : rfr J (uI J 51 (((424 * rho) + 32) + q) 1) rho := rfr_trans (rfr_refl _ _) (rfr_u (by omega) (by omega))
    obtain ⟨J1, eJ1⟩ : ∃ y, y = (uI J 51 (((424 * rho) + 32) + q) 1) := ⟨_, rfl⟩
    change sm (tbr am lm as_ ls) _ (uI J 51 (((424 * rho) + 32) + q) 1) Y at hS6
    rw [← eJ1] at hR1 hg1 hS6
    have hf1 : rfr J J1 rho := rfr_trans (rfr_refl J rho) hg1
    have hp1 : prk J1 0 := by unfold prk; rw [rfr_c hf1 (by omega)]; exact hp
    have hn1 : ¬ J1 11 0 = -1 := by rw [rfr_c hf1 (by omega)]; exact hn
    have hrho1 : rwi J1 0 = rho := (rfr_w hf1).trans hrho
    obtain ⟨s1, es1⟩ : ∃ y : ms, y = (uF s.1 (32 + q) (nI 1), s.2) := ⟨_, rfl⟩
    rw [← es1] at hR1
    have hl1 : s1.2 = s.2 := by rw [es1]
    have hF1 : ∀ j, j < 32 → s1.1 j = s.1 j := fun j hj => by rw [es1]; simp only [uF]; rw [if_neg (by omega)]
    have hmt1 : mtr s1 = mtr s := mtr_F (hF1 14 (by omega)) (hF1 15 (by omega))
    have hb1 : bok s1 := by unfold bok; rw [hF1 14 (by omega), hF1 15 (by omega)]; exact hb
    have hln1 : s1.2.1.length = s.2.1.length := by rw [hl1]
    have hrd : J1 51 (424 * rho + 16 + q) = s1.1 (16 + q) := by
      have z := hR1.1 (16 + q) (by omega) (by omega) (by omega)
      rw [show 424 * rho + (16 + q) = 424 * rho + 16 + q by omega] at z
      exact z
    have hja : mjA s 1 1 (nI q) = (if (1 : Int32) = 2 ∧ 32 - s.2.1.length - 1 < mtr s then -4 else 0, s1) := by
      unfold mjA
      rw [if_neg hrg, hrc, if_neg (by rw [e]; decide), es1]
    refine go_s (pc' := 35) rfl rfl rfl rfl ?_
    refine go_s (pc' := 36) (st' := [.int 1, .int 1]) rfl rfl rfl rfl ?_
    refine go_icmpP (t' := 39) (pc' := 37) rfl rfl rfl (fun (c : ¬ (1 : Int32) = 1) => absurd c (by decide)) (fun _ => ?_)
    refine go_s (pc' := 38) (st' := [.int 0]) rfl rfl rfl rfl ?_
    refine go_ret rfl rfl ?_
    rw [hja, if_neg (fun z => absurd z.1 (by decide))]
    exact ⟨rfl, J1, hS6, hE7, hR1, hf1⟩
  · skip
    refine go_s (pc' := 1) rfl rfl rfl rfl ?_
    refine go_s (pc' := 2) (st' := [.int 0, .ref 62]) rfl rfl rfl rfl ?_
    refine go_callV (pc' := 3) rfl rfl rfl (Nat.le_of_ble_eq_true rfl) rfl (sm_o hS rfl) rfl rfl rfl (rt_at_0 hr hS hp hn (by omega)) (fun r h8 q9 => ?_)
    obtain ⟨rfl, rfl⟩ := q9
    rw [show rwi J 0 = rho from hrho]
    refine go_s (pc' := 4) (lo' := [some (.ref 62), some (.int 1), some (.int 1), some (.int (nI q)), some (.int vl), some (.int (nI (424 * rho)))]) rfl rfl rfl rfl ?_
    refine go_s (pc' := 5) rfl rfl rfl rfl ?_
    refine go_s (pc' := 6) (st' := [.int 0, .int (nI q)]) rfl rfl rfl rfl ?_
    refine go_s (pc' := 7) (st' := [.int 15, .int 0, .int (nI q)]) rfl rfl rfl rfl ?_
    refine go_callS (pc' := 8) rfl rfl rfl (Nat.le_of_ble_eq_true rfl) rfl rfl rfl (rt_within_t (q := q) (n := 15) (by omega) (by decide) (by omega)) (fun r h10 q11 => ?_)
    obtain ⟨rfl, rfl⟩ := q11
    refine go_ifP (t' := 11) (pc' := 9) rfl rfl rfl (fun _ => ?_) (fun (c : ¬ (¬ (1 : Int32) = 0)) => absurd (by decide) c)
    refine go_s (pc' := 12) rfl rfl rfl rfl ?_
    refine go_sget (pc' := 13) (v := .ref as_) hS rfl rfl rfl (by decide) rfl rfl ?_
    refine go_s (pc' := 14) rfl rfl rfl rfl ?_
    refine go_s (pc' := 15) (st' := [.int 32, .int (nI (424 * rho)), .ref as_]) rfl rfl rfl rfl ?_
    refine go_nadd (pc' := 16) (a := (424 * rho)) (b := 32) rfl rfl rfl rfl rfl ?_
    refine go_s (pc' := 17) rfl rfl rfl rfl ?_
    refine go_nadd (pc' := 18) (a := ((424 * rho) + 32)) (b := q) rfl rfl rfl rfl rfl ?_
    refine go_sald (pc' := 19) (q := (((424 * rho) + 32) + q)) (v := .int 0) hS rfl (tr_as hr (by omega)) rfl rfl (by omega) (congrArg Value.int (hlk9.trans e)) rfl ?_
    refine go_s (pc' := 20) (st' := [.int 1, .int 0]) rfl rfl rfl rfl ?_
    refine go_s (pc' := 21) rfl rfl rfl rfl ?_
    refine go_s (pc' := 22) (st' := [.int 0, .int 0]) rfl rfl rfl rfl ?_
    refine go_icmpP (t' := 25) (pc' := 23) rfl rfl rfl (fun (c : ¬ (0 : Int32) = 0) => absurd c (by decide)) (fun _ => ?_)
    refine go_s (pc' := 24) (st' := [.int (-3)]) rfl rfl rfl rfl ?_
    refine go_ret rfl rfl ?_
    have hja : mjA s 1 1 (nI q) = (-3, s) := by
      unfold mjA
      rw [if_neg hrg, hrc, if_pos (by rw [e]; decide)]
    rw [hja]
    exact ⟨rfl, J, hS, sm_e_refl _ _, hR, rfr_refl _ _⟩
  · skip
    refine go_s (pc' := 1) rfl rfl rfl rfl ?_
    refine go_s (pc' := 2) (st' := [.int 0, .ref 62]) rfl rfl rfl rfl ?_
    refine go_callV (pc' := 3) rfl rfl rfl (Nat.le_of_ble_eq_true rfl) rfl (sm_o hS rfl) rfl rfl rfl (rt_at_0 hr hS hp hn (by omega)) (fun r h12 q13 => ?_)
    obtain ⟨rfl, rfl⟩ := q13
    rw [show rwi J 0 = rho from hrho]
    refine go_s (pc' := 4) (lo' := [some (.ref 62), some (.int 1), some (.int 1), some (.int (nI q)), some (.int vl), some (.int (nI (424 * rho)))]) rfl rfl rfl rfl ?_
    refine go_s (pc' := 5) rfl rfl rfl rfl ?_
    refine go_s (pc' := 6) (st' := [.int 0, .int (nI q)]) rfl rfl rfl rfl ?_
    refine go_s (pc' := 7) (st' := [.int 15, .int 0, .int (nI q)]) rfl rfl rfl rfl ?_
    refine go_callS (pc' := 8) rfl rfl rfl (Nat.le_of_ble_eq_true rfl) rfl rfl rfl (rt_within_t (q := q) (n := 15) (by omega) (by decide) (by omega)) (fun r h14 q15 => ?_)
    obtain ⟨rfl, rfl⟩ := q15
    refine go_ifP (t' := 11) (pc' := 9) rfl rfl rfl (fun _ => ?_) (fun (c : ¬ (¬ (1 : Int32) = 0)) => absurd (by decide) c)
    refine go_s (pc' := 12) rfl rfl rfl rfl ?_
    refine go_sget (pc' := 13) (v := .ref as_) hS rfl rfl rfl (by decide) rfl rfl ?_
    refine go_s (pc' := 14) rfl rfl rfl rfl ?_
    refine go_s (pc' := 15) (st' := [.int 32, .int (nI (424 * rho)), .ref as_]) rfl rfl rfl rfl ?_
    refine go_nadd (pc' := 16) (a := (424 * rho)) (b := 32) rfl rfl rfl rfl rfl ?_
    refine go_s (pc' := 17) rfl rfl rfl rfl ?_
    refine go_nadd (pc' := 18) (a := ((424 * rho) + 32)) (b := q) rfl rfl rfl rfl rfl ?_
    refine go_sald (pc' := 19) (q := (((424 * rho) + 32) + q)) (v := .int 1) hS rfl (tr_as hr (by omega)) rfl rfl (by omega) (congrArg Value.int (hlk9.trans e)) rfl ?_
    refine go_s (pc' := 20) (st' := [.int 1, .int 1]) rfl rfl rfl rfl ?_
    refine go_s (pc' := 21) rfl rfl rfl rfl ?_
    refine go_s (pc' := 22) (st' := [.int 0, .int 1]) rfl rfl rfl rfl ?_
    refine go_icmpP (t' := 25) (pc' := 23) rfl rfl rfl (fun _ => ?_) (fun (c : ¬ (¬ (1 : Int32) = 0)) => absurd (by decide) c)
    refine go_s (pc' := 26) rfl rfl rfl rfl ?_
    refine go_sget (pc' := 27) (v := .ref as_) hS rfl rfl rfl (by decide) rfl rfl ?_
    refine go_s (pc' := 28) rfl rfl rfl rfl ?_
    refine go_s (pc' := 29) (st' := [.int 32, .int (nI (424 * rho)), .ref as_]) rfl rfl rfl rfl ?_
    refine go_nadd (pc' := 30) (a := (424 * rho)) (b := 32) rfl rfl rfl rfl rfl ?_
    refine go_s (pc' := 31) rfl rfl rfl rfl ?_
    refine go_nadd (pc' := 32) (a := ((424 * rho) + 32)) (b := q) rfl rfl rfl rfl rfl ?_
    refine go_s (pc' := 33) rfl rfl rfl rfl ?_
    refine go_siast (pc' := 34) (q := (((424 * rho) + 32) + q)) hS rfl (tr_as hr (by omega)) tbr_inj (Nat.le_of_ble_eq_true rfl) rfl (by omega) (rk_0 hr).2 hWa rfl (fun h16 hS17 hE18 => ?_)
    have hR1 : RS (uI J 51 (((424 * rho) + 32) + q) 1) rho (uF s.1 (32 + q) (nI 1), s.2) := by
      have z := RS_F (j := 32 + q) (v := nI 1) hR (by omega) (by omega) (by omega)
      rw [show 424 * rho + (32 + q) = 424 * rho + 32 + q by omega] at z
      exact z
    have hg1 : rfr J (uI J 51 (((424 * rho) + 32) + q) 1) rho := rfr_trans (rfr_refl _ _) (rfr_u (by omega) (by omega))
    obtain ⟨J1, eJ1⟩ : ∃ y, y = (uI J 51 (((424 * rho) + 32) + q) 1) := ⟨_, rfl⟩
    change sm (tbr am lm as_ ls) _ (uI J 51 (((424 * rho) + 32) + q) 1) Y at hS17
    rw [← eJ1] at hR1 hg1 hS17
    have hf1 : rfr J J1 rho := rfr_trans (rfr_refl J rho) hg1
    have hp1 : prk J1 0 := by unfold prk; rw [rfr_c hf1 (by omega)]; exact hp
    have hn1 : ¬ J1 11 0 = -1 := by rw [rfr_c hf1 (by omega)]; exact hn
    have hrho1 : rwi J1 0 = rho := (rfr_w hf1).trans hrho
    obtain ⟨s1, es1⟩ : ∃ y : ms, y = (uF s.1 (32 + q) (nI 1), s.2) := ⟨_, rfl⟩
    rw [← es1] at hR1
    have hl1 : s1.2 = s.2 := by rw [es1]
    have hF1 : ∀ j, j < 32 → s1.1 j = s.1 j := fun j hj => by rw [es1]; simp only [uF]; rw [if_neg (by omega)]
    have hmt1 : mtr s1 = mtr s := mtr_F (hF1 14 (by omega)) (hF1 15 (by omega))
    have hb1 : bok s1 := by unfold bok; rw [hF1 14 (by omega), hF1 15 (by omega)]; exact hb
    have hln1 : s1.2.1.length = s.2.1.length := by rw [hl1]
    have hrd : J1 51 (424 * rho + 16 + q) = s1.1 (16 + q) := by
      have z := hR1.1 (16 + q) (by omega) (by omega) (by omega)
      rw [show 424 * rho + (16 + q) = 424 * rho + 16 + q by omega] at z
      exact z
    have hja : mjA s 1 1 (nI q) = (if (1 : Int32) = 2 ∧ 32 - s.2.1.length - 1 < mtr s then -4 else 0, s1) := by
      unfold mjA
      rw [if_neg hrg, hrc, if_neg (by rw [e]; decide), es1]
    refine go_s (pc' := 35) rfl rfl rfl rfl ?_
    refine go_s (pc' := 36) (st' := [.int 1, .int 1]) rfl rfl rfl rfl ?_
    refine go_icmpP (t' := 39) (pc' := 37) rfl rfl rfl (fun (c : ¬ (1 : Int32) = 1) => absurd c (by decide)) (fun _ => ?_)
    refine go_s (pc' := 38) (st' := [.int 0]) rfl rfl rfl rfl ?_
    refine go_ret rfl rfl ?_
    rw [hja, if_neg (fun z => absurd z.1 (by decide))]
    exact ⟨rfl, J1, hS17, hE18, hR1, hf1⟩
theorem rs_us_1_2 {w : Nat → Bool} {d : Nat} {h : am_Hp} {J : sm_I} {Y : sm_X} {am lm as_ ls : Nat} (hr : rk am as_) (hS : sm (tbr am lm as_ ls) h J Y) (hW : ∀ a, 62 ≤ a → a ≤ 88 → w a = true) (hWa : w as_ = true) {rho : Nat} {s : ms} (hp : prk J 0) (hn : ¬ J 11 0 = -1) (hrho : rwi J 0 = rho) (hls : 424 * rho + 424 ≤ ls) (hl31 : ls < 2 ^ 31) (hR : RS J rho s) {q : Nat} {vl : Int32} (hq : q < 16) (hlk : s.1 (32 + q) = -1 ∨ s.1 (32 + q) = 0 ∨ s.1 (32 + q) = 1) (hl : s.2.1.length < 32) (hb : bok s) (hw : s.2.2.length < 39) (hd : 4 ≤ d) : am_Ev (am_prog w) d 148 [.ref 62, .int 1, .int 2, .int (nI q), .int vl] h (fun r h' => r = some (.int (mjA s 1 2 (nI q)).1) ∧ ∃ K, sm (tbr am lm as_ ls) h' K Y ∧ sm_e (tbr am lm as_ ls) h h' ∧ RS K rho (mdo (mjA s 1 2 (nI q)).2 1 (mjA s 1 2 (nI q)).1 2 (nI q) vl) ∧ rfr J K rho) := by
  obtain ⟨d, rfl⟩ : ∃ e, d = e + 1 := ⟨d - 1, by omega⟩
  refine ev_go rfl (Nat.le_of_ble_eq_true rfl) rfl ?_
  have hlk9 : J 51 (424 * rho + 32 + q) = s.1 (32 + q) := by
    have z := hR.1 (32 + q) (by omega) (by omega) (by omega)
    rw [show 424 * rho + (32 + q) = 424 * rho + 32 + q by omega] at z
    exact z
  have hrc : (nI q).toNatClampNeg = q := nI_clamp (by omega)
  have hrg : ¬ (nI q < 0 ∨ 16 ≤ nI q) := fun z => z.elim (nI_pos (by omega)) (fun z => absurd z (nI_ge (b := 16) hq (by decide)))
  have hrl : (nI 1 : Int32) = 1 := rfl
  rcases hlk with e | e | e
  · skip
    refine go_s (pc' := 1) rfl rfl rfl rfl ?_
    refine go_s (pc' := 2) (st' := [.int 0, .ref 62]) rfl rfl rfl rfl ?_
    refine go_callV (pc' := 3) rfl rfl rfl (Nat.le_of_ble_eq_true rfl) rfl (sm_o hS rfl) rfl rfl rfl (rt_at_0 hr hS hp hn (by omega)) (fun r h1 q2 => ?_)
    obtain ⟨rfl, rfl⟩ := q2
    rw [show rwi J 0 = rho from hrho]
    refine go_s (pc' := 4) (lo' := [some (.ref 62), some (.int 1), some (.int 2), some (.int (nI q)), some (.int vl), some (.int (nI (424 * rho)))]) rfl rfl rfl rfl ?_
    refine go_s (pc' := 5) rfl rfl rfl rfl ?_
    refine go_s (pc' := 6) (st' := [.int 0, .int (nI q)]) rfl rfl rfl rfl ?_
    refine go_s (pc' := 7) (st' := [.int 15, .int 0, .int (nI q)]) rfl rfl rfl rfl ?_
    refine go_callS (pc' := 8) rfl rfl rfl (Nat.le_of_ble_eq_true rfl) rfl rfl rfl (rt_within_t (q := q) (n := 15) (by omega) (by decide) (by omega)) (fun r h3 q4 => ?_)
    obtain ⟨rfl, rfl⟩ := q4
    refine go_ifP (t' := 11) (pc' := 9) rfl rfl rfl (fun _ => ?_) (fun (c : ¬ (¬ (1 : Int32) = 0)) => absurd (by decide) c)
    refine go_s (pc' := 12) rfl rfl rfl rfl ?_
    refine go_sget (pc' := 13) (v := .ref as_) hS rfl rfl rfl (by decide) rfl rfl ?_
    refine go_s (pc' := 14) rfl rfl rfl rfl ?_
    refine go_s (pc' := 15) (st' := [.int 32, .int (nI (424 * rho)), .ref as_]) rfl rfl rfl rfl ?_
    refine go_nadd (pc' := 16) (a := (424 * rho)) (b := 32) rfl rfl rfl rfl rfl ?_
    refine go_s (pc' := 17) rfl rfl rfl rfl ?_
    refine go_nadd (pc' := 18) (a := ((424 * rho) + 32)) (b := q) rfl rfl rfl rfl rfl ?_
    refine go_sald (pc' := 19) (q := (((424 * rho) + 32) + q)) (v := .int (-1)) hS rfl (tr_as hr (by omega)) rfl rfl (by omega) (congrArg Value.int (hlk9.trans e)) rfl ?_
    refine go_s (pc' := 20) (st' := [.int 1, .int (-1)]) rfl rfl rfl rfl ?_
    refine go_s (pc' := 21) rfl rfl rfl rfl ?_
    refine go_s (pc' := 22) (st' := [.int 0, .int (-1)]) rfl rfl rfl rfl ?_
    refine go_icmpP (t' := 25) (pc' := 23) rfl rfl rfl (fun _ => ?_) (fun (c : ¬ (¬ ((-1) : Int32) = 0)) => absurd (by decide) c)
    refine go_s (pc' := 26) rfl rfl rfl rfl ?_
    refine go_sget (pc' := 27) (v := .ref as_) hS rfl rfl rfl (by decide) rfl rfl ?_
    refine go_s (pc' := 28) rfl rfl rfl rfl ?_
    refine go_s (pc' := 29) (st' := [.int 32, .int (nI (424 * rho)), .ref as_]) rfl rfl rfl rfl ?_
    refine go_nadd (pc' := 30) (a := (424 * rho)) (b := 32) rfl rfl rfl rfl rfl ?_
    refine go_s (pc' := 31) rfl rfl rfl rfl ?_
    refine go_nadd (pc' := 32) (a := ((424 * rho) + 32)) (b := q) rfl rfl rfl rfl rfl ?_
    refine go_s (pc' := 33) rfl rfl rfl rfl ?_
    refine go_siast (pc' := 34) (q := (((424 * rho) + 32) + q)) hS rfl (tr_as hr (by omega)) tbr_inj (Nat.le_of_ble_eq_true rfl) rfl (by omega) (rk_0 hr).2 hWa rfl (fun h5 hS6 hE7 => ?_)
    have hR1 : RS (uI J 51 (((424 * rho) + 32) + q) 1) rho (uF s.1 (32 + q) (nI 1), s.2) := by
      have z := RS_F (j := 32 + q) (v := nI 1) hR (by omega) (by omega) (by omega)
      rw [show 424 * rho + (32 + q) = 424 * rho + 32 + q by omega] at z
      exact z
    have hg1 : rfr J (uI J 51 (((424 * rho) + 32) + q) 1) rho := rfr_trans (rfr_refl _ _) (rfr_u (by omega) (by omega))
    obtain ⟨J1, eJ1⟩ : ∃ y, y = (uI J 51 (((424 * rho) + 32) + q) 1) := ⟨_, rfl⟩
    change sm (tbr am lm as_ ls) _ (uI J 51 (((424 * rho) + 32) + q) 1) Y at hS6
    rw [← eJ1] at hR1 hg1 hS6
    have hf1 : rfr J J1 rho := rfr_trans (rfr_refl J rho) hg1
    have hp1 : prk J1 0 := by unfold prk; rw [rfr_c hf1 (by omega)]; exact hp
    have hn1 : ¬ J1 11 0 = -1 := by rw [rfr_c hf1 (by omega)]; exact hn
    have hrho1 : rwi J1 0 = rho := (rfr_w hf1).trans hrho
    obtain ⟨s1, es1⟩ : ∃ y : ms, y = (uF s.1 (32 + q) (nI 1), s.2) := ⟨_, rfl⟩
    rw [← es1] at hR1
    have hl1 : s1.2 = s.2 := by rw [es1]
    have hF1 : ∀ j, j < 32 → s1.1 j = s.1 j := fun j hj => by rw [es1]; simp only [uF]; rw [if_neg (by omega)]
    have hmt1 : mtr s1 = mtr s := mtr_F (hF1 14 (by omega)) (hF1 15 (by omega))
    have hb1 : bok s1 := by unfold bok; rw [hF1 14 (by omega), hF1 15 (by omega)]; exact hb
    have hln1 : s1.2.1.length = s.2.1.length := by rw [hl1]
    have hrd : J1 51 (424 * rho + 16 + q) = s1.1 (16 + q) := by
      have z := hR1.1 (16 + q) (by omega) (by omega) (by omega)
      rw [show 424 * rho + (16 + q) = 424 * rho + 16 + q by omega] at z
      exact z
    have hja : mjA s 1 2 (nI q) = (if (2 : Int32) = 2 ∧ 32 - s.2.1.length - 1 < mtr s then -4 else 0, s1) := by
      unfold mjA
      rw [if_neg hrg, hrc, if_neg (by rw [e]; decide), es1]
    refine go_s (pc' := 35) rfl rfl rfl rfl ?_
    refine go_s (pc' := 36) (st' := [.int 1, .int 2]) rfl rfl rfl rfl ?_
    refine go_icmpP (t' := 39) (pc' := 37) rfl rfl rfl (fun _ => ?_) (fun (c : ¬ (¬ (2 : Int32) = 1)) => absurd (by decide) c)
    refine go_s (pc' := 40) (st' := [.int 32]) rfl rfl rfl rfl ?_
    refine go_s (pc' := 41) rfl rfl rfl rfl ?_
    refine go_sget (pc' := 42) (v := .ref as_) hS6 rfl rfl rfl (by decide) rfl rfl ?_
    refine go_s (pc' := 43) rfl rfl rfl rfl ?_
    refine go_s (pc' := 44) (st' := [.int 2, .int (nI (424 * rho)), .ref as_, .int 32]) rfl rfl rfl rfl ?_
    refine go_nadd (pc' := 45) (a := (424 * rho)) (b := 2) rfl rfl rfl rfl rfl ?_
    refine go_sald (pc' := 46) (q := ((424 * rho) + 2)) (v := .int (nI (List.length s1.2.1))) hS6 rfl (tr_as hr (by omega)) rfl rfl (by omega) (congrArg Value.int hR1.2.1) rfl ?_
    refine go_nsub (pc' := 47) (a := 32) (b := (List.length s1.2.1)) rfl rfl rfl (by omega) rfl rfl ?_
    refine go_s (pc' := 48) (st' := [.int 1, .int (nI (32 - (List.length s1.2.1)))]) rfl rfl rfl rfl ?_
    refine go_nsub (pc' := 49) (a := (32 - (List.length s1.2.1))) (b := 1) rfl rfl rfl (by omega) rfl rfl ?_
    refine go_s (pc' := 50) rfl rfl rfl rfl ?_
    refine go_callV (pc' := 51) rfl rfl rfl (Nat.le_of_ble_eq_true rfl) rfl (sm_o hS6 rfl) rfl rfl rfl (rs_tr hr hS6 hp1 hn1 hrho1 hls hl31 hR1 hb1 (by omega)) (fun r h8 q9 => ?_)
    obtain ⟨rfl, rfl⟩ := q9
    by_cases hroom : mtr s1 ≤ 32 - s1.2.1.length - 1
    · skip
      refine go_icmpP (t' := 54) (pc' := 52) rfl rfl rfl (fun _ => ?_) (fun (c : ¬ ((nI (mtr s1)) ≤ (nI ((32 - (List.length s1.2.1)) - 1)))) => absurd (nI_le hroom (by omega)) c)
      refine go_s (pc' := 55) rfl rfl rfl rfl ?_
      refine go_s (pc' := 56) (st' := [.int 1, .ref 62]) rfl rfl rfl rfl ?_
      refine go_s (pc' := 57) rfl rfl rfl rfl ?_
      refine go_s (pc' := 58) rfl rfl rfl rfl ?_
      refine go_s (pc' := 59) rfl rfl rfl rfl ?_
      refine go_sget (pc' := 60) (v := .ref as_) hS6 rfl rfl rfl (by decide) rfl rfl ?_
      refine go_s (pc' := 61) rfl rfl rfl rfl ?_
      refine go_s (pc' := 62) (st' := [.int 16, .int (nI (424 * rho)), .ref as_, .int (nI q), .int 1, .int 1, .ref 62]) rfl rfl rfl rfl ?_
      refine go_nadd (pc' := 63) (a := (424 * rho)) (b := 16) rfl rfl rfl rfl rfl ?_
      refine go_s (pc' := 64) rfl rfl rfl rfl ?_
      refine go_nadd (pc' := 65) (a := ((424 * rho) + 16)) (b := q) rfl rfl rfl rfl rfl ?_
      refine go_sald (pc' := 66) (q := (((424 * rho) + 16) + q)) (v := .int (s1.1 (16 + q))) hS6 rfl (tr_as hr (by omega)) rfl rfl (by omega) (congrArg Value.int hrd) rfl ?_
      refine go_callV (pc' := 67) rfl rfl rfl (Nat.le_of_ble_eq_true rfl) rfl (sm_o hS6 rfl) rfl rfl rfl (rs_ae hr hS6 hW hWa hp1 hn1 hrho1 hls hl31 hR1 (by rw [hl1]; omega) (by omega) (by omega)) (fun r h10 q11 => ?_)
      obtain ⟨rfl, K2, hS2, hE2, hR2, hg2⟩ := q11
      have hE12 := sm_e_trans hE7 hE2
      have hf2 := rfr_trans hf1 hg2
      refine go_s (pc' := 68) rfl rfl rfl rfl ?_
      refine go_sget (pc' := 69) (v := .ref as_) hS2 rfl rfl rfl (by decide) rfl rfl ?_
      refine go_s (pc' := 70) rfl rfl rfl rfl ?_
      refine go_s (pc' := 71) (st' := [.int 16, .int (nI (424 * rho)), .ref as_]) rfl rfl rfl rfl ?_
      refine go_nadd (pc' := 72) (a := (424 * rho)) (b := 16) rfl rfl rfl rfl rfl ?_
      refine go_s (pc' := 73) rfl rfl rfl rfl ?_
      refine go_nadd (pc' := 74) (a := ((424 * rho) + 16)) (b := q) rfl rfl rfl rfl rfl ?_
      refine go_s (pc' := 75) rfl rfl rfl rfl ?_
      refine go_siast (pc' := 76) (q := (((424 * rho) + 16) + q)) hS2 rfl (tr_as hr (by omega)) tbr_inj (Nat.le_of_ble_eq_true rfl) rfl (by omega) (rk_0 hr).2 hWa rfl (fun h13 hS14 hE15 => ?_)
      have hE16 := sm_e_trans hE12 hE15
      have hR3 : RS (uI K2 51 (((424 * rho) + 16) + q) vl) rho (uF (mE s1 1 (nI 1) (nI q) (s1.1 (16 + q))).1 (16 + q) vl, (mE s1 1 (nI 1) (nI q) (s1.1 (16 + q))).2) := by
        have z := RS_F (j := 16 + q) (v := vl) hR2 (by omega) (by omega) (by omega)
        rw [show 424 * rho + (16 + q) = 424 * rho + 16 + q by omega] at z
        exact z
      have hg3 : rfr K2 (uI K2 51 (((424 * rho) + 16) + q) vl) rho := rfr_trans (rfr_refl _ _) (rfr_u (by omega) (by omega))
      obtain ⟨J3, eJ3⟩ : ∃ y, y = (uI K2 51 (((424 * rho) + 16) + q) vl) := ⟨_, rfl⟩
      change sm (tbr am lm as_ ls) _ (uI K2 51 (((424 * rho) + 16) + q) vl) Y at hS14
      rw [← eJ3] at hR3 hg3 hS14
      have hf3 : rfr J J3 rho := rfr_trans hf2 hg3
      have hp3 : prk J3 0 := by unfold prk; rw [rfr_c hf3 (by omega)]; exact hp
      have hn3 : ¬ J3 11 0 = -1 := by rw [rfr_c hf3 (by omega)]; exact hn
      have hrho3 : rwi J3 0 = rho := (rfr_w hf3).trans hrho
      refine go_s (pc' := 77) rfl rfl rfl rfl ?_
      refine go_s (pc' := 78) rfl rfl rfl rfl ?_
      refine go_s (pc' := 79) rfl rfl rfl rfl ?_
      refine go_s (pc' := 80) (st' := [.int 0, .int vl, .int (nI q), .ref 62]) rfl rfl rfl rfl ?_
      refine go_s (pc' := 81) (st' := [.int 0, .int 0, .int vl, .int (nI q), .ref 62]) rfl rfl rfl rfl ?_
      refine go_s (pc' := 82) (st' := [.int 0, .int 0, .int 0, .int vl, .int (nI q), .ref 62]) rfl rfl rfl rfl ?_
      refine go_s (pc' := 83) (st' := [.int 0, .int 0, .int 0, .int 0, .int vl, .int (nI q), .ref 62]) rfl rfl rfl rfl ?_
      refine go_callV (pc' := 84) rfl rfl rfl (Nat.le_of_ble_eq_true rfl) rfl (sm_o hS14 rfl) rfl rfl rfl (rs_aw hr hS14 hW hWa hp3 hn3 hrho3 hls hl31 hR3 (by show (s1.2.2 ++ [_]).length < 41; rw [hl1]; simp; omega) (by show (s1.2.1 ++ [_]).length ≤ 32; simp; omega) (by omega)) (fun r h17 q18 => ?_)
      obtain ⟨rfl, K4, hS4, hE4, hR4, hg4⟩ := q18
      have hE19 := sm_e_trans hE16 hE4
      refine go_s (pc' := 85) (st' := [.int 0]) rfl rfl rfl rfl ?_
      refine go_ret rfl rfl ?_
      rw [hja, if_neg (fun z => absurd z.2 (by rw [hln1, hmt1] at hroom; omega))]
      refine ⟨rfl, K4, hS4, hE19, ?_, rfr_trans hf3 hg4⟩
      show RS K4 rho (mdo s1 1 0 2 (nI q) vl)
      have hmd : mdo s1 1 0 2 (nI q) vl = mR (mE s1 1 (nI 1) (nI q) (s1.1 (16 + q))) q vl := by
        unfold mdo
        rw [if_neg (by decide), if_pos rfl, if_neg (by decide), if_pos rfl, hrc]
      rw [hmd]
      exact hR4
    · skip
      refine go_icmpP (t' := 54) (pc' := 52) rfl rfl rfl (fun (c : (nI (mtr s1)) ≤ (nI ((32 - (List.length s1.2.1)) - 1))) => absurd c (nI_ge (show 32 - s1.2.1.length - 1 < mtr s1 by omega) (by have := mtr_le s1; omega))) (fun _ => ?_)
      refine go_s (pc' := 53) (st' := [.int (-4)]) rfl rfl rfl rfl ?_
      refine go_ret rfl rfl ?_
      rw [hja, if_pos ⟨rfl, by rw [hln1, hmt1] at hroom; omega⟩]
      exact ⟨rfl, J1, hS6, hE7, hR1, hf1⟩
  · skip
    refine go_s (pc' := 1) rfl rfl rfl rfl ?_
    refine go_s (pc' := 2) (st' := [.int 0, .ref 62]) rfl rfl rfl rfl ?_
    refine go_callV (pc' := 3) rfl rfl rfl (Nat.le_of_ble_eq_true rfl) rfl (sm_o hS rfl) rfl rfl rfl (rt_at_0 hr hS hp hn (by omega)) (fun r h20 q21 => ?_)
    obtain ⟨rfl, rfl⟩ := q21
    rw [show rwi J 0 = rho from hrho]
    refine go_s (pc' := 4) (lo' := [some (.ref 62), some (.int 1), some (.int 2), some (.int (nI q)), some (.int vl), some (.int (nI (424 * rho)))]) rfl rfl rfl rfl ?_
    refine go_s (pc' := 5) rfl rfl rfl rfl ?_
    refine go_s (pc' := 6) (st' := [.int 0, .int (nI q)]) rfl rfl rfl rfl ?_
    refine go_s (pc' := 7) (st' := [.int 15, .int 0, .int (nI q)]) rfl rfl rfl rfl ?_
    refine go_callS (pc' := 8) rfl rfl rfl (Nat.le_of_ble_eq_true rfl) rfl rfl rfl (rt_within_t (q := q) (n := 15) (by omega) (by decide) (by omega)) (fun r h22 q23 => ?_)
    obtain ⟨rfl, rfl⟩ := q23
    refine go_ifP (t' := 11) (pc' := 9) rfl rfl rfl (fun _ => ?_) (fun (c : ¬ (¬ (1 : Int32) = 0)) => absurd (by decide) c)
    refine go_s (pc' := 12) rfl rfl rfl rfl ?_
    refine go_sget (pc' := 13) (v := .ref as_) hS rfl rfl rfl (by decide) rfl rfl ?_
    refine go_s (pc' := 14) rfl rfl rfl rfl ?_
    refine go_s (pc' := 15) (st' := [.int 32, .int (nI (424 * rho)), .ref as_]) rfl rfl rfl rfl ?_
    refine go_nadd (pc' := 16) (a := (424 * rho)) (b := 32) rfl rfl rfl rfl rfl ?_
    refine go_s (pc' := 17) rfl rfl rfl rfl ?_
    refine go_nadd (pc' := 18) (a := ((424 * rho) + 32)) (b := q) rfl rfl rfl rfl rfl ?_
    refine go_sald (pc' := 19) (q := (((424 * rho) + 32) + q)) (v := .int 0) hS rfl (tr_as hr (by omega)) rfl rfl (by omega) (congrArg Value.int (hlk9.trans e)) rfl ?_
    refine go_s (pc' := 20) (st' := [.int 1, .int 0]) rfl rfl rfl rfl ?_
    refine go_s (pc' := 21) rfl rfl rfl rfl ?_
    refine go_s (pc' := 22) (st' := [.int 0, .int 0]) rfl rfl rfl rfl ?_
    refine go_icmpP (t' := 25) (pc' := 23) rfl rfl rfl (fun (c : ¬ (0 : Int32) = 0) => absurd c (by decide)) (fun _ => ?_)
    refine go_s (pc' := 24) (st' := [.int (-3)]) rfl rfl rfl rfl ?_
    refine go_ret rfl rfl ?_
    have hja : mjA s 1 2 (nI q) = (-3, s) := by
      unfold mjA
      rw [if_neg hrg, hrc, if_pos (by rw [e]; decide)]
    rw [hja]
    exact ⟨rfl, J, hS, sm_e_refl _ _, hR, rfr_refl _ _⟩
  · skip
    refine go_s (pc' := 1) rfl rfl rfl rfl ?_
    refine go_s (pc' := 2) (st' := [.int 0, .ref 62]) rfl rfl rfl rfl ?_
    refine go_callV (pc' := 3) rfl rfl rfl (Nat.le_of_ble_eq_true rfl) rfl (sm_o hS rfl) rfl rfl rfl (rt_at_0 hr hS hp hn (by omega)) (fun r h24 q25 => ?_)
    obtain ⟨rfl, rfl⟩ := q25
    rw [show rwi J 0 = rho from hrho]
    refine go_s (pc' := 4) (lo' := [some (.ref 62), some (.int 1), some (.int 2), some (.int (nI q)), some (.int vl), some (.int (nI (424 * rho)))]) rfl rfl rfl rfl ?_
    refine go_s (pc' := 5) rfl rfl rfl rfl ?_
    refine go_s (pc' := 6) (st' := [.int 0, .int (nI q)]) rfl rfl rfl rfl ?_
    refine go_s (pc' := 7) (st' := [.int 15, .int 0, .int (nI q)]) rfl rfl rfl rfl ?_
    refine go_callS (pc' := 8) rfl rfl rfl (Nat.le_of_ble_eq_true rfl) rfl rfl rfl (rt_within_t (q := q) (n := 15) (by omega) (by decide) (by omega)) (fun r h26 q27 => ?_)
    obtain ⟨rfl, rfl⟩ := q27
    refine go_ifP (t' := 11) (pc' := 9) rfl rfl rfl (fun _ => ?_) (fun (c : ¬ (¬ (1 : Int32) = 0)) => absurd (by decide) c)
    refine go_s (pc' := 12) rfl rfl rfl rfl ?_
    refine go_sget (pc' := 13) (v := .ref as_) hS rfl rfl rfl (by decide) rfl rfl ?_
    refine go_s (pc' := 14) rfl rfl rfl rfl ?_
    refine go_s (pc' := 15) (st' := [.int 32, .int (nI (424 * rho)), .ref as_]) rfl rfl rfl rfl ?_
    refine go_nadd (pc' := 16) (a := (424 * rho)) (b := 32) rfl rfl rfl rfl rfl ?_
    refine go_s (pc' := 17) rfl rfl rfl rfl ?_
    refine go_nadd (pc' := 18) (a := ((424 * rho) + 32)) (b := q) rfl rfl rfl rfl rfl ?_
    refine go_sald (pc' := 19) (q := (((424 * rho) + 32) + q)) (v := .int 1) hS rfl (tr_as hr (by omega)) rfl rfl (by omega) (congrArg Value.int (hlk9.trans e)) rfl ?_
    refine go_s (pc' := 20) (st' := [.int 1, .int 1]) rfl rfl rfl rfl ?_
    refine go_s (pc' := 21) rfl rfl rfl rfl ?_
    refine go_s (pc' := 22) (st' := [.int 0, .int 1]) rfl rfl rfl rfl ?_
    refine go_icmpP (t' := 25) (pc' := 23) rfl rfl rfl (fun _ => ?_) (fun (c : ¬ (¬ (1 : Int32) = 0)) => absurd (by decide) c)
    refine go_s (pc' := 26) rfl rfl rfl rfl ?_
    refine go_sget (pc' := 27) (v := .ref as_) hS rfl rfl rfl (by decide) rfl rfl ?_
    refine go_s (pc' := 28) rfl rfl rfl rfl ?_
    refine go_s (pc' := 29) (st' := [.int 32, .int (nI (424 * rho)), .ref as_]) rfl rfl rfl rfl ?_
    refine go_nadd (pc' := 30) (a := (424 * rho)) (b := 32) rfl rfl rfl rfl rfl ?_
    refine go_s (pc' := 31) rfl rfl rfl rfl ?_
    refine go_nadd (pc' := 32) (a := ((424 * rho) + 32)) (b := q) rfl rfl rfl rfl rfl ?_
    refine go_s (pc' := 33) rfl rfl rfl rfl ?_
    refine go_siast (pc' := 34) (q := (((424 * rho) + 32) + q)) hS rfl (tr_as hr (by omega)) tbr_inj (Nat.le_of_ble_eq_true rfl) rfl (by omega) (rk_0 hr).2 hWa rfl (fun h28 hS29 hE30 => ?_)
    have hR1 : RS (uI J 51 (((424 * rho) + 32) + q) 1) rho (uF s.1 (32 + q) (nI 1), s.2) := by
      have z := RS_F (j := 32 + q) (v := nI 1) hR (by omega) (by omega) (by omega)
      rw [show 424 * rho + (32 + q) = 424 * rho + 32 + q by omega] at z
      exact z
    have hg1 : rfr J (uI J 51 (((424 * rho) + 32) + q) 1) rho := rfr_trans (rfr_refl _ _) (rfr_u (by omega) (by omega))
    obtain ⟨J1, eJ1⟩ : ∃ y, y = (uI J 51 (((424 * rho) + 32) + q) 1) := ⟨_, rfl⟩
    change sm (tbr am lm as_ ls) _ (uI J 51 (((424 * rho) + 32) + q) 1) Y at hS29
    rw [← eJ1] at hR1 hg1 hS29
    have hf1 : rfr J J1 rho := rfr_trans (rfr_refl J rho) hg1
    have hp1 : prk J1 0 := by unfold prk; rw [rfr_c hf1 (by omega)]; exact hp
    have hn1 : ¬ J1 11 0 = -1 := by rw [rfr_c hf1 (by omega)]; exact hn
    have hrho1 : rwi J1 0 = rho := (rfr_w hf1).trans hrho
    obtain ⟨s1, es1⟩ : ∃ y : ms, y = (uF s.1 (32 + q) (nI 1), s.2) := ⟨_, rfl⟩
    rw [← es1] at hR1
    have hl1 : s1.2 = s.2 := by rw [es1]
    have hF1 : ∀ j, j < 32 → s1.1 j = s.1 j := fun j hj => by rw [es1]; simp only [uF]; rw [if_neg (by omega)]
    have hmt1 : mtr s1 = mtr s := mtr_F (hF1 14 (by omega)) (hF1 15 (by omega))
    have hb1 : bok s1 := by unfold bok; rw [hF1 14 (by omega), hF1 15 (by omega)]; exact hb
    have hln1 : s1.2.1.length = s.2.1.length := by rw [hl1]
    have hrd : J1 51 (424 * rho + 16 + q) = s1.1 (16 + q) := by
      have z := hR1.1 (16 + q) (by omega) (by omega) (by omega)
      rw [show 424 * rho + (16 + q) = 424 * rho + 16 + q by omega] at z
      exact z
    have hja : mjA s 1 2 (nI q) = (if (2 : Int32) = 2 ∧ 32 - s.2.1.length - 1 < mtr s then -4 else 0, s1) := by
      unfold mjA
      rw [if_neg hrg, hrc, if_neg (by rw [e]; decide), es1]
    refine go_s (pc' := 35) rfl rfl rfl rfl ?_
    refine go_s (pc' := 36) (st' := [.int 1, .int 2]) rfl rfl rfl rfl ?_
    refine go_icmpP (t' := 39) (pc' := 37) rfl rfl rfl (fun _ => ?_) (fun (c : ¬ (¬ (2 : Int32) = 1)) => absurd (by decide) c)
    refine go_s (pc' := 40) (st' := [.int 32]) rfl rfl rfl rfl ?_
    refine go_s (pc' := 41) rfl rfl rfl rfl ?_
    refine go_sget (pc' := 42) (v := .ref as_) hS29 rfl rfl rfl (by decide) rfl rfl ?_
    refine go_s (pc' := 43) rfl rfl rfl rfl ?_
    refine go_s (pc' := 44) (st' := [.int 2, .int (nI (424 * rho)), .ref as_, .int 32]) rfl rfl rfl rfl ?_
    refine go_nadd (pc' := 45) (a := (424 * rho)) (b := 2) rfl rfl rfl rfl rfl ?_
    refine go_sald (pc' := 46) (q := ((424 * rho) + 2)) (v := .int (nI (List.length s1.2.1))) hS29 rfl (tr_as hr (by omega)) rfl rfl (by omega) (congrArg Value.int hR1.2.1) rfl ?_
    refine go_nsub (pc' := 47) (a := 32) (b := (List.length s1.2.1)) rfl rfl rfl (by omega) rfl rfl ?_
    refine go_s (pc' := 48) (st' := [.int 1, .int (nI (32 - (List.length s1.2.1)))]) rfl rfl rfl rfl ?_
    refine go_nsub (pc' := 49) (a := (32 - (List.length s1.2.1))) (b := 1) rfl rfl rfl (by omega) rfl rfl ?_
    refine go_s (pc' := 50) rfl rfl rfl rfl ?_
    refine go_callV (pc' := 51) rfl rfl rfl (Nat.le_of_ble_eq_true rfl) rfl (sm_o hS29 rfl) rfl rfl rfl (rs_tr hr hS29 hp1 hn1 hrho1 hls hl31 hR1 hb1 (by omega)) (fun r h31 q32 => ?_)
    obtain ⟨rfl, rfl⟩ := q32
    by_cases hroom : mtr s1 ≤ 32 - s1.2.1.length - 1
    · skip
      refine go_icmpP (t' := 54) (pc' := 52) rfl rfl rfl (fun _ => ?_) (fun (c : ¬ ((nI (mtr s1)) ≤ (nI ((32 - (List.length s1.2.1)) - 1)))) => absurd (nI_le hroom (by omega)) c)
      refine go_s (pc' := 55) rfl rfl rfl rfl ?_
      refine go_s (pc' := 56) (st' := [.int 1, .ref 62]) rfl rfl rfl rfl ?_
      refine go_s (pc' := 57) rfl rfl rfl rfl ?_
      refine go_s (pc' := 58) rfl rfl rfl rfl ?_
      refine go_s (pc' := 59) rfl rfl rfl rfl ?_
      refine go_sget (pc' := 60) (v := .ref as_) hS29 rfl rfl rfl (by decide) rfl rfl ?_
      refine go_s (pc' := 61) rfl rfl rfl rfl ?_
      refine go_s (pc' := 62) (st' := [.int 16, .int (nI (424 * rho)), .ref as_, .int (nI q), .int 1, .int 1, .ref 62]) rfl rfl rfl rfl ?_
      refine go_nadd (pc' := 63) (a := (424 * rho)) (b := 16) rfl rfl rfl rfl rfl ?_
      refine go_s (pc' := 64) rfl rfl rfl rfl ?_
      refine go_nadd (pc' := 65) (a := ((424 * rho) + 16)) (b := q) rfl rfl rfl rfl rfl ?_
      refine go_sald (pc' := 66) (q := (((424 * rho) + 16) + q)) (v := .int (s1.1 (16 + q))) hS29 rfl (tr_as hr (by omega)) rfl rfl (by omega) (congrArg Value.int hrd) rfl ?_
      refine go_callV (pc' := 67) rfl rfl rfl (Nat.le_of_ble_eq_true rfl) rfl (sm_o hS29 rfl) rfl rfl rfl (rs_ae hr hS29 hW hWa hp1 hn1 hrho1 hls hl31 hR1 (by rw [hl1]; omega) (by omega) (by omega)) (fun r h33 q34 => ?_)
      obtain ⟨rfl, K2, hS2, hE2, hR2, hg2⟩ := q34
      have hE35 := sm_e_trans hE30 hE2
      have hf2 := rfr_trans hf1 hg2
      refine go_s (pc' := 68) rfl rfl rfl rfl ?_
      refine go_sget (pc' := 69) (v := .ref as_) hS2 rfl rfl rfl (by decide) rfl rfl ?_
      refine go_s (pc' := 70) rfl rfl rfl rfl ?_
      refine go_s (pc' := 71) (st' := [.int 16, .int (nI (424 * rho)), .ref as_]) rfl rfl rfl rfl ?_
      refine go_nadd (pc' := 72) (a := (424 * rho)) (b := 16) rfl rfl rfl rfl rfl ?_
      refine go_s (pc' := 73) rfl rfl rfl rfl ?_
      refine go_nadd (pc' := 74) (a := ((424 * rho) + 16)) (b := q) rfl rfl rfl rfl rfl ?_
      refine go_s (pc' := 75) rfl rfl rfl rfl ?_
      refine go_siast (pc' := 76) (q := (((424 * rho) + 16) + q)) hS2 rfl (tr_as hr (by omega)) tbr_inj (Nat.le_of_ble_eq_true rfl) rfl (by omega) (rk_0 hr).2 hWa rfl (fun h36 hS37 hE38 => ?_)
      have hE39 := sm_e_trans hE35 hE38
      have hR3 : RS (uI K2 51 (((424 * rho) + 16) + q) vl) rho (uF (mE s1 1 (nI 1) (nI q) (s1.1 (16 + q))).1 (16 + q) vl, (mE s1 1 (nI 1) (nI q) (s1.1 (16 + q))).2) := by
        have z := RS_F (j := 16 + q) (v := vl) hR2 (by omega) (by omega) (by omega)
        rw [show 424 * rho + (16 + q) = 424 * rho + 16 + q by omega] at z
        exact z
      have hg3 : rfr K2 (uI K2 51 (((424 * rho) + 16) + q) vl) rho := rfr_trans (rfr_refl _ _) (rfr_u (by omega) (by omega))
      obtain ⟨J3, eJ3⟩ : ∃ y, y = (uI K2 51 (((424 * rho) + 16) + q) vl) := ⟨_, rfl⟩
      change sm (tbr am lm as_ ls) _ (uI K2 51 (((424 * rho) + 16) + q) vl) Y at hS37
      rw [← eJ3] at hR3 hg3 hS37
      have hf3 : rfr J J3 rho := rfr_trans hf2 hg3
      have hp3 : prk J3 0 := by unfold prk; rw [rfr_c hf3 (by omega)]; exact hp
      have hn3 : ¬ J3 11 0 = -1 := by rw [rfr_c hf3 (by omega)]; exact hn
      have hrho3 : rwi J3 0 = rho := (rfr_w hf3).trans hrho
      refine go_s (pc' := 77) rfl rfl rfl rfl ?_
      refine go_s (pc' := 78) rfl rfl rfl rfl ?_
      refine go_s (pc' := 79) rfl rfl rfl rfl ?_
      refine go_s (pc' := 80) (st' := [.int 0, .int vl, .int (nI q), .ref 62]) rfl rfl rfl rfl ?_
      refine go_s (pc' := 81) (st' := [.int 0, .int 0, .int vl, .int (nI q), .ref 62]) rfl rfl rfl rfl ?_
      refine go_s (pc' := 82) (st' := [.int 0, .int 0, .int 0, .int vl, .int (nI q), .ref 62]) rfl rfl rfl rfl ?_
      refine go_s (pc' := 83) (st' := [.int 0, .int 0, .int 0, .int 0, .int vl, .int (nI q), .ref 62]) rfl rfl rfl rfl ?_
      refine go_callV (pc' := 84) rfl rfl rfl (Nat.le_of_ble_eq_true rfl) rfl (sm_o hS37 rfl) rfl rfl rfl (rs_aw hr hS37 hW hWa hp3 hn3 hrho3 hls hl31 hR3 (by show (s1.2.2 ++ [_]).length < 41; rw [hl1]; simp; omega) (by show (s1.2.1 ++ [_]).length ≤ 32; simp; omega) (by omega)) (fun r h40 q41 => ?_)
      obtain ⟨rfl, K4, hS4, hE4, hR4, hg4⟩ := q41
      have hE42 := sm_e_trans hE39 hE4
      refine go_s (pc' := 85) (st' := [.int 0]) rfl rfl rfl rfl ?_
      refine go_ret rfl rfl ?_
      rw [hja, if_neg (fun z => absurd z.2 (by rw [hln1, hmt1] at hroom; omega))]
      refine ⟨rfl, K4, hS4, hE42, ?_, rfr_trans hf3 hg4⟩
      show RS K4 rho (mdo s1 1 0 2 (nI q) vl)
      have hmd : mdo s1 1 0 2 (nI q) vl = mR (mE s1 1 (nI 1) (nI q) (s1.1 (16 + q))) q vl := by
        unfold mdo
        rw [if_neg (by decide), if_pos rfl, if_neg (by decide), if_pos rfl, hrc]
      rw [hmd]
      exact hR4
    · skip
      refine go_icmpP (t' := 54) (pc' := 52) rfl rfl rfl (fun (c : (nI (mtr s1)) ≤ (nI ((32 - (List.length s1.2.1)) - 1))) => absurd c (nI_ge (show 32 - s1.2.1.length - 1 < mtr s1 by omega) (by have := mtr_le s1; omega))) (fun _ => ?_)
      refine go_s (pc' := 53) (st' := [.int (-4)]) rfl rfl rfl rfl ?_
      refine go_ret rfl rfl ?_
      rw [hja, if_pos ⟨rfl, by rw [hln1, hmt1] at hroom; omega⟩]
      exact ⟨rfl, J1, hS29, hE30, hR1, hf1⟩
