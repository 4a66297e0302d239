theorem frl_u (F : Nat → Int32) (t : Int32) (j : Nat) (v : Int32) (hj : j < 32) : ∀ n, frl (uF F j v) t n = uF (frl F t n) j v := by
  intro n
  induction n with
  | zero => rfl
  | succ n ih =>
    simp only [frl, ih]
    have e : uF (frl F t n) j v (32 + n) = frl F t n (32 + n) := by
      simp only [uF]
      rw [if_neg (by omega)]
    rw [e]
    split
    · funext i
      simp only [uF]
      by_cases h1 : i = 32 + n
      · rw [if_pos h1, if_neg (by omega), if_pos h1]
      · rw [if_neg h1]
        by_cases h2 : i = j
        · rw [if_pos h2, if_pos h2]
        · rw [if_neg h2, if_neg h2, if_neg h1]
    · rfl
theorem mX_def (m : ms) (t : Nat) : mX m t = if mtr (frl (uF m.1 (14 + t) 0) (nI t) 16, m.2.1, m.2.2) = 0 then mG (frl (uF m.1 (14 + t) 0) (nI t) 16, m.2.1, m.2.2) else (frl (uF m.1 (14 + t) 0) (nI t) 16, m.2.1, m.2.2) := rfl
theorem RS_T {J : sm_I} {r : Nat} {s : ms} (k : RS J r s) : RS (uI J 51 (424 * r + 2) 0) r (s.1, [], s.2.2) := by
  obtain ⟨k1, k2, k3, k4, k5⟩ := k
  have o : ∀ i, i ≠ 424 * r + 2 → uI J 51 (424 * r + 2) 0 51 i = J 51 i := fun i hi => by simp [uI, hi]
  refine ⟨fun i h1 h2 h3 => ?_, by simp [uI]; rfl, ?_, fun i e hi => by simp at hi, fun i y hi q hq => ?_⟩
  · rw [o _ (by omega)]; exact k1 i h1 h2 h3
  · rw [o _ (by omega)]; exact k3
  · rw [o _ (by omega)]; exact k5 i y hi q hq
theorem lp_lk_0 {w : Nat → Bool} {d : Nat} {J : sm_I} {Y : sm_X} {am lm as_ ls : Nat} (hr : rk am as_) {rho : Nat} (hp : prk J 0) (hn : ¬ J 11 0 = -1) (hrho : rwi J 0 = rho) (hls : 424 * rho + 424 ≤ ls) (hl31 : ls < 2 ^ 31) (hW : ∀ a, 62 ≤ a → a ≤ 88 → w a = true) (hWa : w as_ = true) {m : ms} {v2 : Option Value} {h0 : am_Hp} {P : Option Value → am_Hp → Prop} (hd : 0 ≤ d) : ∀ (c k : Nat) (K : sm_I) (h : am_Hp), k + c = 16 → sm (tbr am lm as_ ls) h K Y → sm_e (tbr am lm as_ ls) h0 h → RS K rho (frl m.1 (nI 0) k, m.2) → rfr J K rho → (∀ K h v4, sm (tbr am lm as_ ls) h K Y → sm_e (tbr am lm as_ ls) h0 h → RS K rho (frl m.1 (nI 0) 16, m.2) → rfr J K rho → am_Go (am_prog w) d am_c151 none 42 [some (.ref 62), some (.int 0), v2, some (.int (nI (424 * rho))), v4] [] h P) → am_Go (am_prog w) d am_c151 none 18 [some (.ref 62), some (.int 0), v2, some (.int (nI (424 * rho))), some (.int (nI k))] [] h P := by
  intro c
  induction c with
  | zero =>
    intro k K h hk hS hE0 hR hf hP
    obtain rfl : k = 16 := by omega
    refine go_s (pc' := 19) rfl rfl rfl rfl ?_
    refine go_s (pc' := 20) (st' := [.int 16, .int (nI 16)]) rfl rfl rfl rfl ?_
    refine go_icmpP (t' := 42) (pc' := 21) rfl rfl rfl (fun _ => ?_) (fun (c : ¬ (16 ≤ (nI 16))) => absurd (by decide) c)
    exact hP K h _ hS hE0 hR hf
  | succ c ih =>
    intro k K h hk hS hE0 hR hf hP
    have hlk : K 51 (424 * rho + 32 + k) = frl m.1 (nI 0) k (32 + k) := by
      have z := hR.1 (32 + k) (by omega) (by omega) (by omega)
      rw [show 424 * rho + (32 + k) = 424 * rho + 32 + k by omega] at z
      exact z
    refine go_s (pc' := 19) rfl rfl rfl rfl ?_
    refine go_s (pc' := 20) (st' := [.int 16, .int (nI k)]) rfl rfl rfl rfl ?_
    refine go_icmpP (t' := 42) (pc' := 21) rfl rfl rfl (fun (c : 16 ≤ (nI k)) => absurd c (nI_ge (b := 16) (show k < 16 by omega) (by decide))) (fun _ => ?_)
    refine go_s (pc' := 22) rfl rfl rfl rfl ?_
    refine go_sget (pc' := 23) (v := .ref as_) hS rfl rfl rfl (by decide) rfl rfl ?_
    refine go_s (pc' := 24) rfl rfl rfl rfl ?_
    refine go_s (pc' := 25) (st' := [.int 32, .int (nI (424 * rho)), .ref as_]) rfl rfl rfl rfl ?_
    refine go_nadd (pc' := 26) (a := (424 * rho)) (b := 32) rfl rfl rfl rfl rfl ?_
    refine go_s (pc' := 27) rfl rfl rfl rfl ?_
    refine go_nadd (pc' := 28) (a := ((424 * rho) + 32)) (b := k) rfl rfl rfl rfl rfl ?_
    refine go_sald (pc' := 29) (q := (((424 * rho) + 32) + k)) (v := .int (frl m.1 (nI 0) k (32 + k))) hS rfl (tr_as hr (by omega)) rfl rfl (by omega) (congrArg Value.int hlk) rfl ?_
    refine go_s (pc' := 30) rfl rfl rfl rfl ?_
    refine go_icmpP (t' := 40) (pc' := 31) rfl rfl rfl (fun (c1 : ¬ (frl m.1 (nI 0) k (32 + k)) = 0) => ?_) (fun (c1' : ¬ ¬ (frl m.1 (nI 0) k (32 + k)) = 0) => ?_)
    · skip
      refine go_ninc (pc' := 41) (a := k) (n := 1) (lo' := [some (.ref 62), some (.int 0), v2, some (.int (nI (424 * rho))), some (.int (nI (k + 1)))]) rfl rfl rfl rfl rfl rfl ?_
      refine go_s (pc' := 18) rfl rfl rfl rfl ?_
      have hfr9 : frl m.1 (nI 0) (k + 1) = frl m.1 (nI 0) k := by simp only [frl]; rw [if_neg (show ¬ frl m.1 (nI 0) k (32 + k) = nI 0 from c1)]
      exact ih (k + 1) K _ (by omega) hS hE0 (by rw [hfr9]; exact hR) hf hP
    · skip
      have c1 : (frl m.1 (nI 0) k (32 + k)) = 0 := Decidable.not_not.mp c1'
      refine go_s (pc' := 32) rfl rfl rfl rfl ?_
      refine go_sget (pc' := 33) (v := .ref as_) hS rfl rfl rfl (by decide) rfl rfl ?_
      refine go_s (pc' := 34) rfl rfl rfl rfl ?_
      refine go_s (pc' := 35) (st' := [.int 32, .int (nI (424 * rho)), .ref as_]) rfl rfl rfl rfl ?_
      refine go_nadd (pc' := 36) (a := (424 * rho)) (b := 32) rfl rfl rfl rfl rfl ?_
      refine go_s (pc' := 37) rfl rfl rfl rfl ?_
      refine go_nadd (pc' := 38) (a := ((424 * rho) + 32)) (b := k) rfl rfl rfl rfl rfl ?_
      refine go_s (pc' := 39) (st' := [.int (-1), .int (nI (((424 * rho) + 32) + k)), .ref as_]) rfl rfl rfl rfl ?_
      refine go_siast (pc' := 40) (q := (((424 * rho) + 32) + k)) hS rfl (tr_as hr (by omega)) tbr_inj (Nat.le_of_ble_eq_true rfl) rfl (by omega) (rk_0 hr).2 hWa rfl (fun h2 hS3 hE4 => ?_)
      refine go_ninc (pc' := 41) (a := k) (n := 1) (lo' := [some (.ref 62), some (.int 0), v2, some (.int (nI (424 * rho))), some (.int (nI (k + 1)))]) rfl rfl rfl rfl rfl rfl ?_
      refine go_s (pc' := 18) rfl rfl rfl rfl ?_
      have hfr9 : frl m.1 (nI 0) (k + 1) = uF (frl m.1 (nI 0) k) (32 + k) (-1) := by simp only [frl]; rw [if_pos (show frl m.1 (nI 0) k (32 + k) = nI 0 from c1)]
      have hR9 := RS_F (j := 32 + k) (v := -1) hR (by omega) (by omega) (by omega)
      rw [show 424 * rho + (32 + k) = 424 * rho + 32 + k by omega] at hR9
      exact ih (k + 1) _ _ (by omega) hS3 (sm_e_trans hE0 hE4) (by rw [hfr9]; exact hR9) (rfr_trans hf (rfr_u (by omega) (by omega))) hP
theorem rs_en_0_0 {w : Nat → Bool} {d : Nat} {h : am_Hp} {J : sm_I} {Y : sm_X} {am lm as_ ls : Nat} (hr : rk am as_) (hS : sm (tbr am lm as_ ls) h J Y) (hW : ∀ a, 62 ≤ a → a ≤ 88 → w a = true) (hWa : w as_ = true) {rho : Nat} {s : ms} (hp : prk J 0) (hn : ¬ J 11 0 = -1) (hrho : rwi J 0 = rho) (hls : 424 * rho + 424 ≤ ls) (hl31 : ls < 2 ^ 31) (hR : RS J rho s) (hl : s.2.1.length < 32) (hK : EK s.2.1) (hrk : rok s.2.1 (nI 0)) (hww : s.2.2.length + cw s.2.1 (nI 0) s.2.1.length ≤ 39) (hw1 : (mB s (nI 0)).2.2.length ≤ 40 ∧ (mB s (nI 0)).2.1.length ≤ 32) (hbk : ∀ m, m = (mB s (nI 0)) → bok (frl (uF m.1 (14 + 0) 0) (nI 0) 16, m.2.1, m.2.2)) (hd : 5 ≤ d) : am_Ev (am_prog w) d 151 [.ref 62, .int 0, .int 0] h (fun r h' => r = none ∧ ∃ K, sm (tbr am lm as_ ls) h' K Y ∧ sm_e (tbr am lm as_ ls) h h' ∧ RS K rho (mX (mB s (nI 0)) 0) ∧ rfr J K rho) := by
  obtain ⟨d, rfl⟩ : ∃ e, d = e + 1 := ⟨d - 1, by omega⟩
  refine ev_go rfl (Nat.le_of_ble_eq_true rfl) rfl ?_
  refine go_s (pc' := 1) rfl rfl rfl rfl ?_
  refine go_s (pc' := 2) (st' := [.int 0, .ref 62]) rfl rfl rfl rfl ?_
  refine go_callV (pc' := 3) rfl rfl rfl (Nat.le_of_ble_eq_true rfl) rfl (sm_o hS rfl) rfl rfl rfl (rt_at_0 hr hS hp hn (by omega)) (fun r h1 q2 => ?_)
  obtain ⟨rfl, rfl⟩ := q2
  rw [show rwi J 0 = rho from hrho]
  refine go_s (pc' := 4) (lo' := [some (.ref 62), some (.int 0), some (.int 0), some (.int (nI (424 * rho))), none]) rfl rfl rfl rfl ?_
  refine go_s (pc' := 5) rfl rfl rfl rfl ?_
  refine go_ifP (t' := 13) (pc' := 6) rfl rfl rfl (fun _ => ?_) (fun (c : ¬ ((0 : Int32) = 0)) => absurd (by decide) c)
  refine go_s (pc' := 14) rfl rfl rfl rfl ?_
  refine go_s (pc' := 15) rfl rfl rfl rfl ?_
  refine go_callV (pc' := 16) rfl rfl rfl (Nat.le_of_ble_eq_true rfl) rfl (sm_o hS rfl) rfl rfl rfl (rs_bo (t := nI 0) hr hS hW hWa hp hn hrho hls hl31 hR hl hK hrk (Nat.le_succ_of_le hww) (by omega)) (fun r h3 q4 => ?_)
  obtain ⟨rfl, K1, hS1, hE1, hR1, hf1⟩ := q4
  refine go_s (pc' := 17) (st' := [.int 0]) rfl rfl rfl rfl ?_
  refine go_s (pc' := 18) (lo' := [some (.ref 62), some (.int 0), some (.int 0), some (.int (nI (424 * rho))), some (.int 0)]) rfl rfl rfl rfl ?_
  change RS K1 rho (mB s (nI 0)) at hR1
  obtain ⟨m, em⟩ : ∃ m, m = (mB s (nI 0)) := ⟨_, rfl⟩
  rw [← em] at hR1 hw1
  refine lp_lk_0 (J := J) hr hp hn hrho hls hl31 hW hWa (m := m) (Nat.zero_le _) 16 0 K1 _ rfl hS1 hE1 hR1 hf1 ?_
  intro K2 h9 v4 hS2 hE2 hR2 hf2
  refine go_s (pc' := 43) rfl rfl rfl rfl ?_
  refine go_sget (pc' := 44) (v := .ref as_) hS2 rfl rfl rfl (by decide) rfl rfl ?_
  refine go_s (pc' := 45) rfl rfl rfl rfl ?_
  refine go_s (pc' := 46) (st' := [.int 14, .int (nI (424 * rho)), .ref as_]) rfl rfl rfl rfl ?_
  refine go_nadd (pc' := 47) (a := (424 * rho)) (b := 14) rfl rfl rfl rfl rfl ?_
  refine go_s (pc' := 48) rfl rfl rfl rfl ?_
  refine go_nadd (pc' := 49) (a := ((424 * rho) + 14)) (b := 0) rfl rfl rfl rfl rfl ?_
  refine go_s (pc' := 50) (st' := [.int 0, .int (nI (((424 * rho) + 14) + 0)), .ref as_]) rfl rfl rfl rfl ?_
  refine go_siast (pc' := 51) (q := (((424 * rho) + 14) + 0)) hS2 rfl (tr_as hr (by omega)) tbr_inj (Nat.le_of_ble_eq_true rfl) rfl (by omega) (rk_0 hr).2 hWa rfl (fun h5 hS6 hE7 => ?_)
  have hE8 := sm_e_trans hE2 hE7
  have efr := frl_u m.1 (nI 0) (14 + 0) 0 (by omega) 16
  obtain ⟨G, eG⟩ : ∃ G, G = frl m.1 (nI 0) 16 := ⟨_, rfl⟩
  obtain ⟨G2, eG2⟩ : ∃ G, G = frl (uF m.1 (14 + 0) 0) (nI 0) 16 := ⟨_, rfl⟩
  rw [← eG] at hR2 efr
  rw [← eG2] at efr
  have hR3 : RS (uI K2 51 (((424 * rho) + 14) + 0) 0) rho (G2, m.2.1, m.2.2) := by
    have z := RS_F (j := 14 + 0) (v := 0) hR2 (by decide) (by decide) (by decide)
    rw [efr]
    exact z
  have hg3 : rfr K2 (uI K2 51 (((424 * rho) + 14) + 0) 0) rho := rfr_trans (rfr_refl _ _) (rfr_u (by omega) (by omega))
  obtain ⟨J3, eJ3⟩ : ∃ y, y = (uI K2 51 (((424 * rho) + 14) + 0) 0) := ⟨_, rfl⟩
  change sm (tbr am lm as_ ls) _ (uI K2 51 (((424 * rho) + 14) + 0) 0) Y at hS6
  rw [← eJ3] at hR3 hg3 hS6
  have hf3 : rfr J J3 rho := rfr_trans hf2 hg3
  have hp3 : prk J3 0 := by unfold prk; rw [rfr_c hf3 (by omega)]; exact hp
  have hn3 : ¬ J3 11 0 = -1 := by rw [rfr_c hf3 (by omega)]; exact hn
  have hrho3 : rwi J3 0 = rho := (rfr_w hf3).trans hrho
  obtain ⟨m1, em1⟩ : ∃ y : ms, y = (G2, m.2.1, m.2.2) := ⟨_, rfl⟩
  rw [← em1] at hR3
  have hmX : mX m 0 = if mtr m1 = 0 then mG m1 else m1 := by rw [mX_def, ← eG2, ← em1]
  have hb1 : bok m1 := by
    have z := hbk m em
    rw [← eG2, ← em1] at z
    exact z
  have hw1m : m1.2.2.length ≤ 40 ∧ m1.2.1.length ≤ 32 := by rw [em1]; exact hw1
  refine go_s (pc' := 52) rfl rfl rfl rfl ?_
  refine go_callV (pc' := 53) rfl rfl rfl (Nat.le_of_ble_eq_true rfl) rfl (sm_o hS6 rfl) rfl rfl rfl (rs_tr hr hS6 hp3 hn3 hrho3 hls hl31 hR3 hb1 (by omega)) (fun r h9 q10 => ?_)
  obtain ⟨rfl, rfl⟩ := q10
  by_cases hm0 : mtr m1 = 0
  · skip
    refine go_ifP (t' := 55) (pc' := 54) rfl rfl rfl (fun _ => ?_) (fun (c : ¬ ((nI (mtr m1)) ≤ 0)) => absurd (by rw [hm0]; exact Int32.le_refl _) c)
    refine go_s (pc' := 56) rfl rfl rfl rfl ?_
    refine go_sget (pc' := 57) (v := .ref as_) hS6 rfl rfl rfl (by decide) rfl rfl ?_
    refine go_s (pc' := 58) rfl rfl rfl rfl ?_
    refine go_s (pc' := 59) (st' := [.int 1, .int (nI (424 * rho)), .ref as_]) rfl rfl rfl rfl ?_
    refine go_nadd (pc' := 60) (a := (424 * rho)) (b := 1) rfl rfl rfl rfl rfl ?_
    refine go_s (pc' := 61) rfl rfl rfl rfl ?_
    refine go_sald (pc' := 62) (q := ((424 * rho) + 1)) (v := .int (m1.1 1)) hS6 rfl (tr_as hr (by omega)) rfl rfl (by omega) (congrArg Value.int (hR3.1 1 (by decide) (by decide) (by decide))) rfl ?_
    refine go_s (pc' := 63) (st' := [.int 1, .int (m1.1 1), .int (nI ((424 * rho) + 1)), .ref as_]) rfl rfl rfl rfl ?_
    refine go_s (pc' := 64) rfl rfl rfl rfl ?_
    refine go_siast (pc' := 65) (q := ((424 * rho) + 1)) hS6 rfl (tr_as hr (by omega)) tbr_inj (Nat.le_of_ble_eq_true rfl) rfl (by omega) (rk_0 hr).2 hWa rfl (fun h11 hS12 hE13 => ?_)
    have hE14 := sm_e_trans hE8 hE13
    have hR4 : RS (uI J3 51 ((424 * rho) + 1) ((m1.1 1) + 1)) rho (uF m1.1 1 (m1.1 1 + 1), m1.2) := RS_F (j := 1) (v := m1.1 1 + 1) hR3 (by decide) (by decide) (by decide)
    have hg4 : rfr J3 (uI J3 51 ((424 * rho) + 1) ((m1.1 1) + 1)) rho := rfr_trans (rfr_refl _ _) (rfr_u (by omega) (by omega))
    obtain ⟨J4, eJ4⟩ : ∃ y, y = (uI J3 51 ((424 * rho) + 1) ((m1.1 1) + 1)) := ⟨_, rfl⟩
    change sm (tbr am lm as_ ls) _ (uI J3 51 ((424 * rho) + 1) ((m1.1 1) + 1)) Y at hS12
    rw [← eJ4] at hR4 hg4 hS12
    have hf4 : rfr J J4 rho := rfr_trans hf3 hg4
    have hp4 : prk J4 0 := by unfold prk; rw [rfr_c hf4 (by omega)]; exact hp
    have hn4 : ¬ J4 11 0 = -1 := by rw [rfr_c hf4 (by omega)]; exact hn
    have hrho4 : rwi J4 0 = rho := (rfr_w hf4).trans hrho
    refine go_s (pc' := 66) rfl rfl rfl rfl ?_
    refine go_sget (pc' := 67) (v := .ref as_) hS12 rfl rfl rfl (by decide) rfl rfl ?_
    refine go_s (pc' := 68) rfl rfl rfl rfl ?_
    refine go_s (pc' := 69) (st' := [.int 2, .int (nI (424 * rho)), .ref as_]) rfl rfl rfl rfl ?_
    refine go_nadd (pc' := 70) (a := (424 * rho)) (b := 2) rfl rfl rfl rfl rfl ?_
    refine go_s (pc' := 71) (st' := [.int 0, .int (nI ((424 * rho) + 2)), .ref as_]) rfl rfl rfl rfl ?_
    refine go_siast (pc' := 72) (q := ((424 * rho) + 2)) hS12 rfl (tr_as hr (by omega)) tbr_inj (Nat.le_of_ble_eq_true rfl) rfl (by omega) (rk_0 hr).2 hWa rfl (fun h15 hS16 hE17 => ?_)
    have hE18 := sm_e_trans hE14 hE17
    have hR5 : RS (uI J4 51 ((424 * rho) + 2) 0) rho (uF m1.1 1 (m1.1 1 + 1), [], m1.2.2) := RS_T hR4
    have hg5 : rfr J4 (uI J4 51 ((424 * rho) + 2) 0) rho := rfr_trans (rfr_refl _ _) (rfr_u (by omega) (by omega))
    obtain ⟨J5, eJ5⟩ : ∃ y, y = (uI J4 51 ((424 * rho) + 2) 0) := ⟨_, rfl⟩
    change sm (tbr am lm as_ ls) _ (uI J4 51 ((424 * rho) + 2) 0) Y at hS16
    rw [← eJ5] at hR5 hg5 hS16
    have hf5 : rfr J J5 rho := rfr_trans hf4 hg5
    have hp5 : prk J5 0 := by unfold prk; rw [rfr_c hf5 (by omega)]; exact hp
    have hn5 : ¬ J5 11 0 = -1 := by rw [rfr_c hf5 (by omega)]; exact hn
    have hrho5 : rwi J5 0 = rho := (rfr_w hf5).trans hrho
    refine go_s (pc' := 73) rfl rfl rfl rfl ?_
    refine go_s (pc' := 74) (st' := [.int 16, .ref 62]) rfl rfl rfl rfl ?_
    refine go_s (pc' := 75) rfl rfl rfl rfl ?_
    refine go_sget (pc' := 76) (v := .ref as_) hS16 rfl rfl rfl (by decide) rfl rfl ?_
    refine go_s (pc' := 77) rfl rfl rfl rfl ?_
    refine go_s (pc' := 78) (st' := [.int 1, .int (nI (424 * rho)), .ref as_, .int 16, .ref 62]) rfl rfl rfl rfl ?_
    refine go_nadd (pc' := 79) (a := (424 * rho)) (b := 1) rfl rfl rfl rfl rfl ?_
    refine go_sald (pc' := 80) (q := ((424 * rho) + 1)) (v := .int (m1.1 1 + 1)) hS16 rfl (tr_as hr (by omega)) rfl rfl (by omega) (congrArg Value.int (hR5.1 1 (by decide) (by decide) (by decide))) rfl ?_
    refine go_s (pc' := 81) rfl rfl rfl rfl ?_
    refine go_sget (pc' := 82) (v := .ref as_) hS16 rfl rfl rfl (by decide) rfl rfl ?_
    refine go_s (pc' := 83) rfl rfl rfl rfl ?_
    refine go_s (pc' := 84) (st' := [.int 0, .int (nI (424 * rho)), .ref as_, .int (m1.1 1 + 1), .int 16, .ref 62]) rfl rfl rfl rfl ?_
    refine go_nadd (pc' := 85) (a := (424 * rho)) (b := 0) rfl rfl rfl rfl rfl ?_
    refine go_sald (pc' := 86) (q := ((424 * rho) + 0)) (v := .int (m1.1 0)) hS16 rfl (tr_as hr (by omega)) rfl rfl (by omega) (congrArg Value.int (hR5.1 0 (by decide) (by decide) (by decide))) rfl ?_
    refine go_s (pc' := 87) (st' := [.int 0, .int (m1.1 0), .int (m1.1 1 + 1), .int 16, .ref 62]) rfl rfl rfl rfl ?_
    refine go_s (pc' := 88) (st' := [.int 0, .int 0, .int (m1.1 0), .int (m1.1 1 + 1), .int 16, .ref 62]) rfl rfl rfl rfl ?_
    refine go_s (pc' := 89) (st' := [.int 0, .int 0, .int 0, .int (m1.1 0), .int (m1.1 1 + 1), .int 16, .ref 62]) rfl rfl rfl rfl ?_
    refine go_callV (pc' := 90) rfl rfl rfl (Nat.le_of_ble_eq_true rfl) rfl (sm_o hS16 rfl) rfl rfl rfl (rs_aw hr hS16 hW hWa (s := (uF m1.1 1 (m1.1 1 + 1), [], m1.2.2)) hp5 hn5 hrho5 hls hl31 hR5 (by show m1.2.2.length < 41; omega) (by simp) (by omega)) (fun r h19 q20 => ?_)
    obtain ⟨rfl, K6, hS6, hE6, hR6, hf6⟩ := q20
    have hE21 := sm_e_trans hE18 hE6
    refine go_ret rfl rfl ?_
    exact ⟨rfl, K6, hS6, hE21, by rw [← em, hmX, if_pos hm0]; exact hR6, rfr_trans hf5 hf6⟩
  · skip
    refine go_ifP (t' := 55) (pc' := 54) rfl rfl rfl (fun (c : (nI (mtr m1)) ≤ 0) => absurd c (Int32.not_le.mpr (Int32.not_le.mp (nI_ge (a := 0) (show 0 < mtr m1 by omega) (by have := mtr_le m1; omega))))) (fun _ => ?_)
    refine go_ret rfl rfl ?_
    exact ⟨rfl, J3, hS6, hE8, by rw [← em, hmX, if_neg hm0]; exact hR3, hf3⟩
theorem rs_en_0_1 {w : Nat → Bool} {d : Nat} {h : am_Hp} {J : sm_I} {Y : sm_X} {am lm as_ ls : Nat} (hr : rk am as_) (hS : sm (tbr am lm as_ ls) h J Y) (hW : ∀ a, 62 ≤ a → a ≤ 88 → w a = true) (hWa : w as_ = true) {rho : Nat} {s : ms} (hp : prk J 0) (hn : ¬ J 11 0 = -1) (hrho : rwi J 0 = rho) (hls : 424 * rho + 424 ≤ ls) (hl31 : ls < 2 ^ 31) (hR : RS J rho s) (hl : s.2.1.length < 32) (hK : EK s.2.1) (hrk : rok s.2.1 (nI 0)) (hww : s.2.2.length + cw s.2.1 (nI 0) s.2.1.length ≤ 39) (hw1 : (mE s 2 (nI 0) 0 0).2.2.length ≤ 40 ∧ (mE s 2 (nI 0) 0 0).2.1.length ≤ 32) (hbk : ∀ m, m = (mE s 2 (nI 0) 0 0) → bok (frl (uF m.1 (14 + 0) 0) (nI 0) 16, m.2.1, m.2.2)) (hd : 5 ≤ d) : am_Ev (am_prog w) d 151 [.ref 62, .int 0, .int 1] h (fun r h' => r = none ∧ ∃ K, sm (tbr am lm as_ ls) h' K Y ∧ sm_e (tbr am lm as_ ls) h h' ∧ RS K rho (mX (mE s 2 (nI 0) 0 0) 0) ∧ rfr J K rho) := by
  obtain ⟨d, rfl⟩ : ∃ e, d = e + 1 := ⟨d - 1, by omega⟩
  refine ev_go rfl (Nat.le_of_ble_eq_true rfl) rfl ?_
  refine go_s (pc' := 1) rfl rfl rfl rfl ?_
  refine go_s (pc' := 2) (st' := [.int 0, .ref 62]) rfl rfl rfl rfl ?_
  refine go_callV (pc' := 3) rfl rfl rfl (Nat.le_of_ble_eq_true rfl) rfl (sm_o hS rfl) rfl rfl rfl (rt_at_0 hr hS hp hn (by omega)) (fun r h1 q2 => ?_)
  obtain ⟨rfl, rfl⟩ := q2
  rw [show rwi J 0 = rho from hrho]
  refine go_s (pc' := 4) (lo' := [some (.ref 62), some (.int 0), some (.int 1), some (.int (nI (424 * rho))), none]) rfl rfl rfl rfl ?_
  refine go_s (pc' := 5) rfl rfl rfl rfl ?_
  refine go_ifP (t' := 13) (pc' := 6) rfl rfl rfl (fun (c : (1 : Int32) = 0) => absurd c (by decide)) (fun _ => ?_)
  refine go_s (pc' := 7) rfl rfl rfl rfl ?_
  refine go_s (pc' := 8) (st' := [.int 2, .ref 62]) rfl rfl rfl rfl ?_
  refine go_s (pc' := 9) rfl rfl rfl rfl ?_
  refine go_s (pc' := 10) (st' := [.int 0, .int 0, .int 2, .ref 62]) rfl rfl rfl rfl ?_
  refine go_s (pc' := 11) (st' := [.int 0, .int 0, .int 0, .int 2, .ref 62]) rfl rfl rfl rfl ?_
  refine go_callV (pc' := 12) rfl rfl rfl (Nat.le_of_ble_eq_true rfl) rfl (sm_o hS rfl) rfl rfl rfl (rs_ae hr hS hW hWa hp hn hrho hls hl31 hR (by omega) hl (by omega)) (fun r h3 q4 => ?_)
  obtain ⟨rfl, K1, hS1, hE1, hR1, hf1⟩ := q4
  refine go_s (pc' := 16) rfl rfl rfl rfl ?_
  refine go_s (pc' := 17) (st' := [.int 0]) rfl rfl rfl rfl ?_
  refine go_s (pc' := 18) (lo' := [some (.ref 62), some (.int 0), some (.int 1), some (.int (nI (424 * rho))), some (.int 0)]) rfl rfl rfl rfl ?_
  change RS K1 rho (mE s 2 (nI 0) 0 0) at hR1
  obtain ⟨m, em⟩ : ∃ m, m = (mE s 2 (nI 0) 0 0) := ⟨_, rfl⟩
  rw [← em] at hR1 hw1
  refine lp_lk_0 (J := J) hr hp hn hrho hls hl31 hW hWa (m := m) (Nat.zero_le _) 16 0 K1 _ rfl hS1 hE1 hR1 hf1 ?_
  intro K2 h9 v4 hS2 hE2 hR2 hf2
  refine go_s (pc' := 43) rfl rfl rfl rfl ?_
  refine go_sget (pc' := 44) (v := .ref as_) hS2 rfl rfl rfl (by decide) rfl rfl ?_
  refine go_s (pc' := 45) rfl rfl rfl rfl ?_
  refine go_s (pc' := 46) (st' := [.int 14, .int (nI (424 * rho)), .ref as_]) rfl rfl rfl rfl ?_
  refine go_nadd (pc' := 47) (a := (424 * rho)) (b := 14) rfl rfl rfl rfl rfl ?_
  refine go_s (pc' := 48) rfl rfl rfl rfl ?_
  refine go_nadd (pc' := 49) (a := ((424 * rho) + 14)) (b := 0) rfl rfl rfl rfl rfl ?_
  refine go_s (pc' := 50) (st' := [.int 0, .int (nI (((424 * rho) + 14) + 0)), .ref as_]) rfl rfl rfl rfl ?_
  refine go_siast (pc' := 51) (q := (((424 * rho) + 14) + 0)) hS2 rfl (tr_as hr (by omega)) tbr_inj (Nat.le_of_ble_eq_true rfl) rfl (by omega) (rk_0 hr).2 hWa rfl (fun h5 hS6 hE7 => ?_)
  have hE8 := sm_e_trans hE2 hE7
  have efr := frl_u m.1 (nI 0) (14 + 0) 0 (by omega) 16
  obtain ⟨G, eG⟩ : ∃ G, G = frl m.1 (nI 0) 16 := ⟨_, rfl⟩
  obtain ⟨G2, eG2⟩ : ∃ G, G = frl (uF m.1 (14 + 0) 0) (nI 0) 16 := ⟨_, rfl⟩
  rw [← eG] at hR2 efr
  rw [← eG2] at efr
  have hR3 : RS (uI K2 51 (((424 * rho) + 14) + 0) 0) rho (G2, m.2.1, m.2.2) := by
    have z := RS_F (j := 14 + 0) (v := 0) hR2 (by decide) (by decide) (by decide)
    rw [efr]
    exact z
  have hg3 : rfr K2 (uI K2 51 (((424 * rho) + 14) + 0) 0) rho := rfr_trans (rfr_refl _ _) (rfr_u (by omega) (by omega))
  obtain ⟨J3, eJ3⟩ : ∃ y, y = (uI K2 51 (((424 * rho) + 14) + 0) 0) := ⟨_, rfl⟩
  change sm (tbr am lm as_ ls) _ (uI K2 51 (((424 * rho) + 14) + 0) 0) Y at hS6
  rw [← eJ3] at hR3 hg3 hS6
  have hf3 : rfr J J3 rho := rfr_trans hf2 hg3
  have hp3 : prk J3 0 := by unfold prk; rw [rfr_c hf3 (by omega)]; exact hp
  have hn3 : ¬ J3 11 0 = -1 := by rw [rfr_c hf3 (by omega)]; exact hn
  have hrho3 : rwi J3 0 = rho := (rfr_w hf3).trans hrho
  obtain ⟨m1, em1⟩ : ∃ y : ms, y = (G2, m.2.1, m.2.2) := ⟨_, rfl⟩
  rw [← em1] at hR3
  have hmX : mX m 0 = if mtr m1 = 0 then mG m1 else m1 := by rw [mX_def, ← eG2, ← em1]
  have hb1 : bok m1 := by
    have z := hbk m em
    rw [← eG2, ← em1] at z
    exact z
  have hw1m : m1.2.2.length ≤ 40 ∧ m1.2.1.length ≤ 32 := by rw [em1]; exact hw1
  refine go_s (pc' := 52) rfl rfl rfl rfl ?_
  refine go_callV (pc' := 53) rfl rfl rfl (Nat.le_of_ble_eq_true rfl) rfl (sm_o hS6 rfl) rfl rfl rfl (rs_tr hr hS6 hp3 hn3 hrho3 hls hl31 hR3 hb1 (by omega)) (fun r h9 q10 => ?_)
  obtain ⟨rfl, rfl⟩ := q10
  by_cases hm0 : mtr m1 = 0
  · skip
    refine go_ifP (t' := 55) (pc' := 54) rfl rfl rfl (fun _ => ?_) (fun (c : ¬ ((nI (mtr m1)) ≤ 0)) => absurd (by rw [hm0]; exact Int32.le_refl _) c)
    refine go_s (pc' := 56) rfl rfl rfl rfl ?_
    refine go_sget (pc' := 57) (v := .ref as_) hS6 rfl rfl rfl (by decide) rfl rfl ?_
    refine go_s (pc' := 58) rfl rfl rfl rfl ?_
    refine go_s (pc' := 59) (st' := [.int 1, .int (nI (424 * rho)), .ref as_]) rfl rfl rfl rfl ?_
    refine go_nadd (pc' := 60) (a := (424 * rho)) (b := 1) rfl rfl rfl rfl rfl ?_
    refine go_s (pc' := 61) rfl rfl rfl rfl ?_
    refine go_sald (pc' := 62) (q := ((424 * rho) + 1)) (v := .int (m1.1 1)) hS6 rfl (tr_as hr (by omega)) rfl rfl (by omega) (congrArg Value.int (hR3.1 1 (by decide) (by decide) (by decide))) rfl ?_
    refine go_s (pc' := 63) (st' := [.int 1, .int (m1.1 1), .int (nI ((424 * rho) + 1)), .ref as_]) rfl rfl rfl rfl ?_
    refine go_s (pc' := 64) rfl rfl rfl rfl ?_
    refine go_siast (pc' := 65) (q := ((424 * rho) + 1)) hS6 rfl (tr_as hr (by omega)) tbr_inj (Nat.le_of_ble_eq_true rfl) rfl (by omega) (rk_0 hr).2 hWa rfl (fun h11 hS12 hE13 => ?_)
    have hE14 := sm_e_trans hE8 hE13
    have hR4 : RS (uI J3 51 ((424 * rho) + 1) ((m1.1 1) + 1)) rho (uF m1.1 1 (m1.1 1 + 1), m1.2) := RS_F (j := 1) (v := m1.1 1 + 1) hR3 (by decide) (by decide) (by decide)
    have hg4 : rfr J3 (uI J3 51 ((424 * rho) + 1) ((m1.1 1) + 1)) rho := rfr_trans (rfr_refl _ _) (rfr_u (by omega) (by omega))
    obtain ⟨J4, eJ4⟩ : ∃ y, y = (uI J3 51 ((424 * rho) + 1) ((m1.1 1) + 1)) := ⟨_, rfl⟩
    change sm (tbr am lm as_ ls) _ (uI J3 51 ((424 * rho) + 1) ((m1.1 1) + 1)) Y at hS12
    rw [← eJ4] at hR4 hg4 hS12
    have hf4 : rfr J J4 rho := rfr_trans hf3 hg4
    have hp4 : prk J4 0 := by unfold prk; rw [rfr_c hf4 (by omega)]; exact hp
    have hn4 : ¬ J4 11 0 = -1 := by rw [rfr_c hf4 (by omega)]; exact hn
    have hrho4 : rwi J4 0 = rho := (rfr_w hf4).trans hrho
    refine go_s (pc' := 66) rfl rfl rfl rfl ?_
    refine go_sget (pc' := 67) (v := .ref as_) hS12 rfl rfl rfl (by decide) rfl rfl ?_
    refine go_s (pc' := 68) rfl rfl rfl rfl ?_
    refine go_s (pc' := 69) (st' := [.int 2, .int (nI (424 * rho)), .ref as_]) rfl rfl rfl rfl ?_
    refine go_nadd (pc' := 70) (a := (424 * rho)) (b := 2) rfl rfl rfl rfl rfl ?_
    refine go_s (pc' := 71) (st' := [.int 0, .int (nI ((424 * rho) + 2)), .ref as_]) rfl rfl rfl rfl ?_
    refine go_siast (pc' := 72) (q := ((424 * rho) + 2)) hS12 rfl (tr_as hr (by omega)) tbr_inj (Nat.le_of_ble_eq_true rfl) rfl (by omega) (rk_0 hr).2 hWa rfl (fun h15 hS16 hE17 => ?_)
    have hE18 := sm_e_trans hE14 hE17
    have hR5 : RS (uI J4 51 ((424 * rho) + 2) 0) rho (uF m1.1 1 (m1.1 1 + 1), [], m1.2.2) := RS_T hR4
    have hg5 : rfr J4 (uI J4 51 ((424 * rho) + 2) 0) rho := rfr_trans (rfr_refl _ _) (rfr_u (by omega) (by omega))
    obtain ⟨J5, eJ5⟩ : ∃ y, y = (uI J4 51 ((424 * rho) + 2) 0) := ⟨_, rfl⟩
    change sm (tbr am lm as_ ls) _ (uI J4 51 ((424 * rho) + 2) 0) Y at hS16
    rw [← eJ5] at hR5 hg5 hS16
    have hf5 : rfr J J5 rho := rfr_trans hf4 hg5
    have hp5 : prk J5 0 := by unfold prk; rw [rfr_c hf5 (by omega)]; exact hp
    have hn5 : ¬ J5 11 0 = -1 := by rw [rfr_c hf5 (by omega)]; exact hn
    have hrho5 : rwi J5 0 = rho := (rfr_w hf5).trans hrho
    refine go_s (pc' := 73) rfl rfl rfl rfl ?_
    refine go_s (pc' := 74) (st' := [.int 16, .ref 62]) rfl rfl rfl rfl ?_
    refine go_s (pc' := 75) rfl rfl rfl rfl ?_
    refine go_sget (pc' := 76) (v := .ref as_) hS16 rfl rfl rfl (by decide) rfl rfl ?_
    refine go_s (pc' := 77) rfl rfl rfl rfl ?_
    refine go_s (pc' := 78) (st' := [.int 1, .int (nI (424 * rho)), .ref as_, .int 16, .ref 62]) rfl rfl rfl rfl ?_
    refine go_nadd (pc' := 79) (a := (424 * rho)) (b := 1) rfl rfl rfl rfl rfl ?_
    refine go_sald (pc' := 80) (q := ((424 * rho) + 1)) (v := .int (m1.1 1 + 1)) hS16 rfl (tr_as hr (by omega)) rfl rfl (by omega) (congrArg Value.int (hR5.1 1 (by decide) (by decide) (by decide))) rfl ?_
    refine go_s (pc' := 81) rfl rfl rfl rfl ?_
    refine go_sget (pc' := 82) (v := .ref as_) hS16 rfl rfl rfl (by decide) rfl rfl ?_
    refine go_s (pc' := 83) rfl rfl rfl rfl ?_
    refine go_s (pc' := 84) (st' := [.int 0, .int (nI (424 * rho)), .ref as_, .int (m1.1 1 + 1), .int 16, .ref 62]) rfl rfl rfl rfl ?_
    refine go_nadd (pc' := 85) (a := (424 * rho)) (b := 0) rfl rfl rfl rfl rfl ?_
    refine go_sald (pc' := 86) (q := ((424 * rho) + 0)) (v := .int (m1.1 0)) hS16 rfl (tr_as hr (by omega)) rfl rfl (by omega) (congrArg Value.int (hR5.1 0 (by decide) (by decide) (by decide))) rfl ?_
    refine go_s (pc' := 87) (st' := [.int 0, .int (m1.1 0), .int (m1.1 1 + 1), .int 16, .ref 62]) rfl rfl rfl rfl ?_
    refine go_s (pc' := 88) (st' := [.int 0, .int 0, .int (m1.1 0), .int (m1.1 1 + 1), .int 16, .ref 62]) rfl rfl rfl rfl ?_
    refine go_s (pc' := 89) (st' := [.int 0, .int 0, .int 0, .int (m1.1 0), .int (m1.1 1 + 1), .int 16, .ref 62]) rfl rfl rfl rfl ?_
    refine go_callV (pc' := 90) rfl rfl rfl (Nat.le_of_ble_eq_true rfl) rfl (sm_o hS16 rfl) rfl rfl rfl (rs_aw hr hS16 hW hWa (s := (uF m1.1 1 (m1.1 1 + 1), [], m1.2.2)) hp5 hn5 hrho5 hls hl31 hR5 (by show m1.2.2.length < 41; omega) (by simp) (by omega)) (fun r h19 q20 => ?_)
    obtain ⟨rfl, K6, hS6, hE6, hR6, hf6⟩ := q20
    have hE21 := sm_e_trans hE18 hE6
    refine go_ret rfl rfl ?_
    exact ⟨rfl, K6, hS6, hE21, by rw [← em, hmX, if_pos hm0]; exact hR6, rfr_trans hf5 hf6⟩
  · skip
    refine go_ifP (t' := 55) (pc' := 54) rfl rfl rfl (fun (c : (nI (mtr m1)) ≤ 0) => absurd c (Int32.not_le.mpr (Int32.not_le.mp (nI_ge (a := 0) (show 0 < mtr m1 by omega) (by have := mtr_le m1; omega))))) (fun _ => ?_)
    refine go_ret rfl rfl ?_
    exact ⟨rfl, J3, hS6, hE8, by rw [← em, hmX, if_neg hm0]; exact hR3, hf3⟩
theorem lp_lk_1 {w : Nat → Bool} {d : Nat} {J : sm_I} {Y : sm_X} {am lm as_ ls : Nat} (hr : rk am as_) {rho : Nat} (hp : prk J 0) (hn : ¬ J 11 0 = -1) (hrho : rwi J 0 = rho) (hls : 424 * rho + 424 ≤ ls) (hl31 : ls < 2 ^ 31) (hW : ∀ a, 62 ≤ a → a ≤ 88 → w a = true) (hWa : w as_ = true) {m : ms} {v2 : Option Value} {h0 : am_Hp} {P : Option Value → am_Hp → Prop} (hd : 0 ≤ d) : ∀ (c k : Nat) (K : sm_I) (h : am_Hp), k + c = 16 → sm (tbr am lm as_ ls) h K Y → sm_e (tbr am lm as_ ls) h0 h → RS K rho (frl m.1 (nI 1) k, m.2) → rfr J K rho → (∀ K h v4, sm (tbr am lm as_ ls) h K Y → sm_e (tbr am lm as_ ls) h0 h → RS K rho (frl m.1 (nI 1) 16, m.2) → rfr J K rho → am_Go (am_prog w) d am_c151 none 42 [some (.ref 62), some (.int 1), v2, some (.int (nI (424 * rho))), v4] [] h P) → am_Go (am_prog w) d am_c151 none 18 [some (.ref 62), some (.int 1), v2, some (.int (nI (424 * rho))), some (.int (nI k))] [] h P := by
  intro c
  induction c with
  | zero =>
    intro k K h hk hS hE0 hR hf hP
    obtain rfl : k = 16 := by omega
    refine go_s (pc' := 19) rfl rfl rfl rfl ?_
    refine go_s (pc' := 20) (st' := [.int 16, .int (nI 16)]) rfl rfl rfl rfl ?_
    refine go_icmpP (t' := 42) (pc' := 21) rfl rfl rfl (fun _ => ?_) (fun (c : ¬ (16 ≤ (nI 16))) => absurd (by decide) c)
    exact hP K h _ hS hE0 hR hf
  | succ c ih =>
    intro k K h hk hS hE0 hR hf hP
    have hlk : K 51 (424 * rho + 32 + k) = frl m.1 (nI 1) k (32 + k) := by
      have z := hR.1 (32 + k) (by omega) (by omega) (by omega)
      rw [show 424 * rho + (32 + k) = 424 * rho + 32 + k by omega] at z
      exact z
    refine go_s (pc' := 19) rfl rfl rfl rfl ?_
    refine go_s (pc' := 20) (st' := [.int 16, .int (nI k)]) rfl rfl rfl rfl ?_
    refine go_icmpP (t' := 42) (pc' := 21) rfl rfl rfl (fun (c : 16 ≤ (nI k)) => absurd c (nI_ge (b := 16) (show k < 16 by omega) (by decide))) (fun _ => ?_)
    refine go_s (pc' := 22) rfl rfl rfl rfl ?_
    refine go_sget (pc' := 23) (v := .ref as_) hS rfl rfl rfl (by decide) rfl rfl ?_
    refine go_s (pc' := 24) rfl rfl rfl rfl ?_
    refine go_s (pc' := 25) (st' := [.int 32, .int (nI (424 * rho)), .ref as_]) rfl rfl rfl rfl ?_
    refine go_nadd (pc' := 26) (a := (424 * rho)) (b := 32) rfl rfl rfl rfl rfl ?_
    refine go_s (pc' := 27) rfl rfl rfl rfl ?_
    refine go_nadd (pc' := 28) (a := ((424 * rho) + 32)) (b := k) rfl rfl rfl rfl rfl ?_
    refine go_sald (pc' := 29) (q := (((424 * rho) + 32) + k)) (v := .int (frl m.1 (nI 1) k (32 + k))) hS rfl (tr_as hr (by omega)) rfl rfl (by omega) (congrArg Value.int hlk) rfl ?_
    refine go_s (pc' := 30) rfl rfl rfl rfl ?_
    refine go_icmpP (t' := 40) (pc' := 31) rfl rfl rfl (fun (c1 : ¬ (frl m.1 (nI 1) k (32 + k)) = 1) => ?_) (fun (c1' : ¬ ¬ (frl m.1 (nI 1) k (32 + k)) = 1) => ?_)
    · skip
      refine go_ninc (pc' := 41) (a := k) (n := 1) (lo' := [some (.ref 62), some (.int 1), v2, some (.int (nI (424 * rho))), some (.int (nI (k + 1)))]) rfl rfl rfl rfl rfl rfl ?_
      refine go_s (pc' := 18) rfl rfl rfl rfl ?_
      have hfr9 : frl m.1 (nI 1) (k + 1) = frl m.1 (nI 1) k := by simp only [frl]; rw [if_neg (show ¬ frl m.1 (nI 1) k (32 + k) = nI 1 from c1)]
      exact ih (k + 1) K _ (by omega) hS hE0 (by rw [hfr9]; exact hR) hf hP
    · skip
      have c1 : (frl m.1 (nI 1) k (32 + k)) = 1 := Decidable.not_not.mp c1'
      refine go_s (pc' := 32) rfl rfl rfl rfl ?_
      refine go_sget (pc' := 33) (v := .ref as_) hS rfl rfl rfl (by decide) rfl rfl ?_
      refine go_s (pc' := 34) rfl rfl rfl rfl ?_
      refine go_s (pc' := 35) (st' := [.int 32, .int (nI (424 * rho)), .ref as_]) rfl rfl rfl rfl ?_
      refine go_nadd (pc' := 36) (a := (424 * rho)) (b := 32) rfl rfl rfl rfl rfl ?_
      refine go_s (pc' := 37) rfl rfl rfl rfl ?_
      refine go_nadd (pc' := 38) (a := ((424 * rho) + 32)) (b := k) rfl rfl rfl rfl rfl ?_
      refine go_s (pc' := 39) (st' := [.int (-1), .int (nI (((424 * rho) + 32) + k)), .ref as_]) rfl rfl rfl rfl ?_
      refine go_siast (pc' := 40) (q := (((424 * rho) + 32) + k)) hS rfl (tr_as hr (by omega)) tbr_inj (Nat.le_of_ble_eq_true rfl) rfl (by omega) (rk_0 hr).2 hWa rfl (fun h2 hS3 hE4 => ?_)
      refine go_ninc (pc' := 41) (a := k) (n := 1) (lo' := [some (.ref 62), some (.int 1), v2, some (.int (nI (424 * rho))), some (.int (nI (k + 1)))]) rfl rfl rfl rfl rfl rfl ?_
      refine go_s (pc' := 18) rfl rfl rfl rfl ?_
      have hfr9 : frl m.1 (nI 1) (k + 1) = uF (frl m.1 (nI 1) k) (32 + k) (-1) := by simp only [frl]; rw [if_pos (show frl m.1 (nI 1) k (32 + k) = nI 1 from c1)]
      have hR9 := RS_F (j := 32 + k) (v := -1) hR (by omega) (by omega) (by omega)
      rw [show 424 * rho + (32 + k) = 424 * rho + 32 + k by omega] at hR9
      exact ih (k + 1) _ _ (by omega) hS3 (sm_e_trans hE0 hE4) (by rw [hfr9]; exact hR9) (rfr_trans hf (rfr_u (by omega) (by omega))) hP
theorem rs_en_1_0 {w : Nat → Bool} {d : Nat} {h : am_Hp} {J : sm_I} {Y : sm_X} {am lm as_ ls : Nat} (hr : rk am as_) (hS : sm (tbr am lm as_ ls) h J Y) (hW : ∀ a, 62 ≤ a → a ≤ 88 → w a = true) (hWa : w as_ = true) {rho : Nat} {s : ms} (hp : prk J 0) (hn : ¬ J 11 0 = -1) (hrho : rwi J 0 = rho) (hls : 424 * rho + 424 ≤ ls) (hl31 : ls < 2 ^ 31) (hR : RS J rho s) (hl : s.2.1.length < 32) (hK : EK s.2.1) (hrk : rok s.2.1 (nI 1)) (hww : s.2.2.length + cw s.2.1 (nI 1) s.2.1.length ≤ 39) (hw1 : (mB s (nI 1)).2.2.length ≤ 40 ∧ (mB s (nI 1)).2.1.length ≤ 32) (hbk : ∀ m, m = (mB s (nI 1)) → bok (frl (uF m.1 (14 + 1) 0) (nI 1) 16, m.2.1, m.2.2)) (hd : 5 ≤ d) : am_Ev (am_prog w) d 151 [.ref 62, .int 1, .int 0] h (fun r h' => r = none ∧ ∃ K, sm (tbr am lm as_ ls) h' K Y ∧ sm_e (tbr am lm as_ ls) h h' ∧ RS K rho (mX (mB s (nI 1)) 1) ∧ rfr J K rho) := by
  obtain ⟨d, rfl⟩ : ∃ e, d = e + 1 := ⟨d - 1, by omega⟩
  refine ev_go rfl (Nat.le_of_ble_eq_true rfl) rfl ?_
  refine go_s (pc' := 1) rfl rfl rfl rfl ?_
  refine go_s (pc' := 2) (st' := [.int 0, .ref 62]) rfl rfl rfl rfl ?_
  refine go_callV (pc' := 3) rfl rfl rfl (Nat.le_of_ble_eq_true rfl) rfl (sm_o hS rfl) rfl rfl rfl (rt_at_0 hr hS hp hn (by omega)) (fun r h1 q2 => ?_)
  obtain ⟨rfl, rfl⟩ := q2
  rw [show rwi J 0 = rho from hrho]
  refine go_s (pc' := 4) (lo' := [some (.ref 62), some (.int 1), some (.int 0), some (.int (nI (424 * rho))), none]) rfl rfl rfl rfl ?_
  refine go_s (pc' := 5) rfl rfl rfl rfl ?_
  refine go_ifP (t' := 13) (pc' := 6) rfl rfl rfl (fun _ => ?_) (fun (c : ¬ ((0 : Int32) = 0)) => absurd (by decide) c)
  refine go_s (pc' := 14) rfl rfl rfl rfl ?_
  refine go_s (pc' := 15) rfl rfl rfl rfl ?_
  refine go_callV (pc' := 16) rfl rfl rfl (Nat.le_of_ble_eq_true rfl) rfl (sm_o hS rfl) rfl rfl rfl (rs_bo (t := nI 1) hr hS hW hWa hp hn hrho hls hl31 hR hl hK hrk (Nat.le_succ_of_le hww) (by omega)) (fun r h3 q4 => ?_)
  obtain ⟨rfl, K1, hS1, hE1, hR1, hf1⟩ := q4
  refine go_s (pc' := 17) (st' := [.int 0]) rfl rfl rfl rfl ?_
  refine go_s (pc' := 18) (lo' := [some (.ref 62), some (.int 1), some (.int 0), some (.int (nI (424 * rho))), some (.int 0)]) rfl rfl rfl rfl ?_
  change RS K1 rho (mB s (nI 1)) at hR1
  obtain ⟨m, em⟩ : ∃ m, m = (mB s (nI 1)) := ⟨_, rfl⟩
  rw [← em] at hR1 hw1
  refine lp_lk_1 (J := J) hr hp hn hrho hls hl31 hW hWa (m := m) (Nat.zero_le _) 16 0 K1 _ rfl hS1 hE1 hR1 hf1 ?_
  intro K2 h9 v4 hS2 hE2 hR2 hf2
  refine go_s (pc' := 43) rfl rfl rfl rfl ?_
  refine go_sget (pc' := 44) (v := .ref as_) hS2 rfl rfl rfl (by decide) rfl rfl ?_
  refine go_s (pc' := 45) rfl rfl rfl rfl ?_
  refine go_s (pc' := 46) (st' := [.int 14, .int (nI (424 * rho)), .ref as_]) rfl rfl rfl rfl ?_
  refine go_nadd (pc' := 47) (a := (424 * rho)) (b := 14) rfl rfl rfl rfl rfl ?_
  refine go_s (pc' := 48) rfl rfl rfl rfl ?_
  refine go_nadd (pc' := 49) (a := ((424 * rho) + 14)) (b := 1) rfl rfl rfl rfl rfl ?_
  refine go_s (pc' := 50) (st' := [.int 0, .int (nI (((424 * rho) + 14) + 1)), .ref as_]) rfl rfl rfl rfl ?_
  refine go_siast (pc' := 51) (q := (((424 * rho) + 14) + 1)) hS2 rfl (tr_as hr (by omega)) tbr_inj (Nat.le_of_ble_eq_true rfl) rfl (by omega) (rk_0 hr).2 hWa rfl (fun h5 hS6 hE7 => ?_)
  have hE8 := sm_e_trans hE2 hE7
  have efr := frl_u m.1 (nI 1) (14 + 1) 0 (by omega) 16
  obtain ⟨G, eG⟩ : ∃ G, G = frl m.1 (nI 1) 16 := ⟨_, rfl⟩
  obtain ⟨G2, eG2⟩ : ∃ G, G = frl (uF m.1 (14 + 1) 0) (nI 1) 16 := ⟨_, rfl⟩
  rw [← eG] at hR2 efr
  rw [← eG2] at efr
  have hR3 : RS (uI K2 51 (((424 * rho) + 14) + 1) 0) rho (G2, m.2.1, m.2.2) := by
    have z := RS_F (j := 14 + 1) (v := 0) hR2 (by decide) (by decide) (by decide)
    rw [efr]
    exact z
  have hg3 : rfr K2 (uI K2 51 (((424 * rho) + 14) + 1) 0) rho := rfr_trans (rfr_refl _ _) (rfr_u (by omega) (by omega))
  obtain ⟨J3, eJ3⟩ : ∃ y, y = (uI K2 51 (((424 * rho) + 14) + 1) 0) := ⟨_, rfl⟩
  change sm (tbr am lm as_ ls) _ (uI K2 51 (((424 * rho) + 14) + 1) 0) Y at hS6
  rw [← eJ3] at hR3 hg3 hS6
  have hf3 : rfr J J3 rho := rfr_trans hf2 hg3
  have hp3 : prk J3 0 := by unfold prk; rw [rfr_c hf3 (by omega)]; exact hp
  have hn3 : ¬ J3 11 0 = -1 := by rw [rfr_c hf3 (by omega)]; exact hn
  have hrho3 : rwi J3 0 = rho := (rfr_w hf3).trans hrho
  obtain ⟨m1, em1⟩ : ∃ y : ms, y = (G2, m.2.1, m.2.2) := ⟨_, rfl⟩
  rw [← em1] at hR3
  have hmX : mX m 1 = if mtr m1 = 0 then mG m1 else m1 := by rw [mX_def, ← eG2, ← em1]
  have hb1 : bok m1 := by
    have z := hbk m em
    rw [← eG2, ← em1] at z
    exact z
  have hw1m : m1.2.2.length ≤ 40 ∧ m1.2.1.length ≤ 32 := by rw [em1]; exact hw1
  refine go_s (pc' := 52) rfl rfl rfl rfl ?_
  refine go_callV (pc' := 53) rfl rfl rfl (Nat.le_of_ble_eq_true rfl) rfl (sm_o hS6 rfl) rfl rfl rfl (rs_tr hr hS6 hp3 hn3 hrho3 hls hl31 hR3 hb1 (by omega)) (fun r h9 q10 => ?_)
  obtain ⟨rfl, rfl⟩ := q10
  by_cases hm0 : mtr m1 = 0
  · skip
    refine go_ifP (t' := 55) (pc' := 54) rfl rfl rfl (fun _ => ?_) (fun (c : ¬ ((nI (mtr m1)) ≤ 0)) => absurd (by rw [hm0]; exact Int32.le_refl _) c)
    refine go_s (pc' := 56) rfl rfl rfl rfl ?_
    refine go_sget (pc' := 57) (v := .ref as_) hS6 rfl rfl rfl (by decide) rfl rfl ?_
    refine go_s (pc' := 58) rfl rfl rfl rfl ?_
    refine go_s (pc' := 59) (st' := [.int 1, .int (nI (424 * rho)), .ref as_]) rfl rfl rfl rfl ?_
    refine go_nadd (pc' := 60) (a := (424 * rho)) (b := 1) rfl rfl rfl rfl rfl ?_
    refine go_s (pc' := 61) rfl rfl rfl rfl ?_
    refine go_sald (pc' := 62) (q := ((424 * rho) + 1)) (v := .int (m1.1 1)) hS6 rfl (tr_as hr (by omega)) rfl rfl (by omega) (congrArg Value.int (hR3.1 1 (by decide) (by decide) (by decide))) rfl ?_
    refine go_s (pc' := 63) (st' := [.int 1, .int (m1.1 1), .int (nI ((424 * rho) + 1)), .ref as_]) rfl rfl rfl rfl ?_
    refine go_s (pc' := 64) rfl rfl rfl rfl ?_
    refine go_siast (pc' := 65) (q := ((424 * rho) + 1)) hS6 rfl (tr_as hr (by omega)) tbr_inj (Nat.le_of_ble_eq_true rfl) rfl (by omega) (rk_0 hr).2 hWa rfl (fun h11 hS12 hE13 => ?_)
    have hE14 := sm_e_trans hE8 hE13
    have hR4 : RS (uI J3 51 ((424 * rho) + 1) ((m1.1 1) + 1)) rho (uF m1.1 1 (m1.1 1 + 1), m1.2) := RS_F (j := 1) (v := m1.1 1 + 1) hR3 (by decide) (by decide) (by decide)
    have hg4 : rfr J3 (uI J3 51 ((424 * rho) + 1) ((m1.1 1) + 1)) rho := rfr_trans (rfr_refl _ _) (rfr_u (by omega) (by omega))
    obtain ⟨J4, eJ4⟩ : ∃ y, y = (uI J3 51 ((424 * rho) + 1) ((m1.1 1) + 1)) := ⟨_, rfl⟩
    change sm (tbr am lm as_ ls) _ (uI J3 51 ((424 * rho) + 1) ((m1.1 1) + 1)) Y at hS12
    rw [← eJ4] at hR4 hg4 hS12
    have hf4 : rfr J J4 rho := rfr_trans hf3 hg4
    have hp4 : prk J4 0 := by unfold prk; rw [rfr_c hf4 (by omega)]; exact hp
    have hn4 : ¬ J4 11 0 = -1 := by rw [rfr_c hf4 (by omega)]; exact hn
    have hrho4 : rwi J4 0 = rho := (rfr_w hf4).trans hrho
    refine go_s (pc' := 66) rfl rfl rfl rfl ?_
    refine go_sget (pc' := 67) (v := .ref as_) hS12 rfl rfl rfl (by decide) rfl rfl ?_
    refine go_s (pc' := 68) rfl rfl rfl rfl ?_
    refine go_s (pc' := 69) (st' := [.int 2, .int (nI (424 * rho)), .ref as_]) rfl rfl rfl rfl ?_
    refine go_nadd (pc' := 70) (a := (424 * rho)) (b := 2) rfl rfl rfl rfl rfl ?_
    refine go_s (pc' := 71) (st' := [.int 0, .int (nI ((424 * rho) + 2)), .ref as_]) rfl rfl rfl rfl ?_
    refine go_siast (pc' := 72) (q := ((424 * rho) + 2)) hS12 rfl (tr_as hr (by omega)) tbr_inj (Nat.le_of_ble_eq_true rfl) rfl (by omega) (rk_0 hr).2 hWa rfl (fun h15 hS16 hE17 => ?_)
    have hE18 := sm_e_trans hE14 hE17
    have hR5 : RS (uI J4 51 ((424 * rho) + 2) 0) rho (uF m1.1 1 (m1.1 1 + 1), [], m1.2.2) := RS_T hR4
    have hg5 : rfr J4 (uI J4 51 ((424 * rho) + 2) 0) rho := rfr_trans (rfr_refl _ _) (rfr_u (by omega) (by omega))
    obtain ⟨J5, eJ5⟩ : ∃ y, y = (uI J4 51 ((424 * rho) + 2) 0) := ⟨_, rfl⟩
    change sm (tbr am lm as_ ls) _ (uI J4 51 ((424 * rho) + 2) 0) Y at hS16
    rw [← eJ5] at hR5 hg5 hS16
    have hf5 : rfr J J5 rho := rfr_trans hf4 hg5
    have hp5 : prk J5 0 := by unfold prk; rw [rfr_c hf5 (by omega)]; exact hp
    have hn5 : ¬ J5 11 0 = -1 := by rw [rfr_c hf5 (by omega)]; exact hn
    have hrho5 : rwi J5 0 = rho := (rfr_w hf5).trans hrho
    refine go_s (pc' := 73) rfl rfl rfl rfl ?_
    refine go_s (pc' := 74) (st' := [.int 16, .ref 62]) rfl rfl rfl rfl ?_
    refine go_s (pc' := 75) rfl rfl rfl rfl ?_
    refine go_sget (pc' := 76) (v := .ref as_) hS16 rfl rfl rfl (by decide) rfl rfl ?_
    refine go_s (pc' := 77) rfl rfl rfl rfl ?_
    refine go_s (pc' := 78) (st' := [.int 1, .int (nI (424 * rho)), .ref as_, .int 16, .ref 62]) rfl rfl rfl rfl ?_
    refine go_nadd (pc' := 79) (a := (424 * rho)) (b := 1) rfl rfl rfl rfl rfl ?_
    refine go_sald (pc' := 80) (q := ((424 * rho) + 1)) (v := .int (m1.1 1 + 1)) hS16 rfl (tr_as hr (by omega)) rfl rfl (by omega) (congrArg Value.int (hR5.1 1 (by decide) (by decide) (by decide))) rfl ?_
    refine go_s (pc' := 81) rfl rfl rfl rfl ?_
    refine go_sget (pc' := 82) (v := .ref as_) hS16 rfl rfl rfl (by decide) rfl rfl ?_
    refine go_s (pc' := 83) rfl rfl rfl rfl ?_
    refine go_s (pc' := 84) (st' := [.int 0, .int (nI (424 * rho)), .ref as_, .int (m1.1 1 + 1), .int 16, .ref 62]) rfl rfl rfl rfl ?_
    refine go_nadd (pc' := 85) (a := (424 * rho)) (b := 0) rfl rfl rfl rfl rfl ?_
    refine go_sald (pc' := 86) (q := ((424 * rho) + 0)) (v := .int (m1.1 0)) hS16 rfl (tr_as hr (by omega)) rfl rfl (by omega) (congrArg Value.int (hR5.1 0 (by decide) (by decide) (by decide))) rfl ?_
    refine go_s (pc' := 87) (st' := [.int 0, .int (m1.1 0), .int (m1.1 1 + 1), .int 16, .ref 62]) rfl rfl rfl rfl ?_
    refine go_s (pc' := 88) (st' := [.int 0, .int 0, .int (m1.1 0), .int (m1.1 1 + 1), .int 16, .ref 62]) rfl rfl rfl rfl ?_
    refine go_s (pc' := 89) (st' := [.int 0, .int 0, .int 0, .int (m1.1 0), .int (m1.1 1 + 1), .int 16, .ref 62]) rfl rfl rfl rfl ?_
    refine go_callV (pc' := 90) rfl rfl rfl (Nat.le_of_ble_eq_true rfl) rfl (sm_o hS16 rfl) rfl rfl rfl (rs_aw hr hS16 hW hWa (s := (uF m1.1 1 (m1.1 1 + 1), [], m1.2.2)) hp5 hn5 hrho5 hls hl31 hR5 (by show m1.2.2.length < 41; omega) (by simp) (by omega)) (fun r h19 q20 => ?_)
    obtain ⟨rfl, K6, hS6, hE6, hR6, hf6⟩ := q20
    have hE21 := sm_e_trans hE18 hE6
    refine go_ret rfl rfl ?_
    exact ⟨rfl, K6, hS6, hE21, by rw [← em, hmX, if_pos hm0]; exact hR6, rfr_trans hf5 hf6⟩
  · skip
    refine go_ifP (t' := 55) (pc' := 54) rfl rfl rfl (fun (c : (nI (mtr m1)) ≤ 0) => absurd c (Int32.not_le.mpr (Int32.not_le.mp (nI_ge (a := 0) (show 0 < mtr m1 by omega) (by have := mtr_le m1; omega))))) (fun _ => ?_)
    refine go_ret rfl rfl ?_
    exact ⟨rfl, J3, hS6, hE8, by rw [← em, hmX, if_neg hm0]; exact hR3, hf3⟩
theorem rs_en_1_1 {w : Nat → Bool} {d : Nat} {h : am_Hp} {J : sm_I} {Y : sm_X} {am lm as_ ls : Nat} (hr : rk am as_) (hS : sm (tbr am lm as_ ls) h J Y) (hW : ∀ a, 62 ≤ a → a ≤ 88 → w a = true) (hWa : w as_ = true) {rho : Nat} {s : ms} (hp : prk J 0) (hn : ¬ J 11 0 = -1) (hrho : rwi J 0 = rho) (hls : 424 * rho + 424 ≤ ls) (hl31 : ls < 2 ^ 31) (hR : RS J rho s) (hl : s.2.1.length < 32) (hK : EK s.2.1) (hrk : rok s.2.1 (nI 1)) (hww : s.2.2.length + cw s.2.1 (nI 1) s.2.1.length ≤ 39) (hw1 : (mE s 2 (nI 1) 0 0).2.2.length ≤ 40 ∧ (mE s 2 (nI 1) 0 0).2.1.length ≤ 32) (hbk : ∀ m, m = (mE s 2 (nI 1) 0 0) → bok (frl (uF m.1 (14 + 1) 0) (nI 1) 16, m.2.1, m.2.2)) (hd : 5 ≤ d) : am_Ev (am_prog w) d 151 [.ref 62, .int 1, .int 1] h (fun r h' => r = none ∧ ∃ K, sm (tbr am lm as_ ls) h' K Y ∧ sm_e (tbr am lm as_ ls) h h' ∧ RS K rho (mX (mE s 2 (nI 1) 0 0) 1) ∧ rfr J K rho) := by
  obtain ⟨d, rfl⟩ : ∃ e, d = e + 1 := ⟨d - 1, by omega⟩
  refine ev_go rfl (Nat.le_of_ble_eq_true rfl) rfl ?_
  refine go_s (pc' := 1) rfl rfl rfl rfl ?_
  refine go_s (pc' := 2) (st' := [.int 0, .ref 62]) rfl rfl rfl rfl ?_
  refine go_callV (pc' := 3) rfl rfl rfl (Nat.le_of_ble_eq_true rfl) rfl (sm_o hS rfl) rfl rfl rfl (rt_at_0 hr hS hp hn (by omega)) (fun r h1 q2 => ?_)
  obtain ⟨rfl, rfl⟩ := q2
  rw [show rwi J 0 = rho from hrho]
  refine go_s (pc' := 4) (lo' := [some (.ref 62), some (.int 1), some (.int 1), some (.int (nI (424 * rho))), none]) rfl rfl rfl rfl ?_
  refine go_s (pc' := 5) rfl rfl rfl rfl ?_
  refine go_ifP (t' := 13) (pc' := 6) rfl rfl rfl (fun (c : (1 : Int32) = 0) => absurd c (by decide)) (fun _ => ?_)
  refine go_s (pc' := 7) rfl rfl rfl rfl ?_
  refine go_s (pc' := 8) (st' := [.int 2, .ref 62]) rfl rfl rfl rfl ?_
  refine go_s (pc' := 9) rfl rfl rfl rfl ?_
  refine go_s (pc' := 10) (st' := [.int 0, .int 1, .int 2, .ref 62]) rfl rfl rfl rfl ?_
  refine go_s (pc' := 11) (st' := [.int 0, .int 0, .int 1, .int 2, .ref 62]) rfl rfl rfl rfl ?_
  refine go_callV (pc' := 12) rfl rfl rfl (Nat.le_of_ble_eq_true rfl) rfl (sm_o hS rfl) rfl rfl rfl (rs_ae hr hS hW hWa hp hn hrho hls hl31 hR (by omega) hl (by omega)) (fun r h3 q4 => ?_)
  obtain ⟨rfl, K1, hS1, hE1, hR1, hf1⟩ := q4
  refine go_s (pc' := 16) rfl rfl rfl rfl ?_
  refine go_s (pc' := 17) (st' := [.int 0]) rfl rfl rfl rfl ?_
  refine go_s (pc' := 18) (lo' := [some (.ref 62), some (.int 1), some (.int 1), some (.int (nI (424 * rho))), some (.int 0)]) rfl rfl rfl rfl ?_
  change RS K1 rho (mE s 2 (nI 1) 0 0) at hR1
  obtain ⟨m, em⟩ : ∃ m, m = (mE s 2 (nI 1) 0 0) := ⟨_, rfl⟩
  rw [← em] at hR1 hw1
  refine lp_lk_1 (J := J) hr hp hn hrho hls hl31 hW hWa (m := m) (Nat.zero_le _) 16 0 K1 _ rfl hS1 hE1 hR1 hf1 ?_
  intro K2 h9 v4 hS2 hE2 hR2 hf2
  refine go_s (pc' := 43) rfl rfl rfl rfl ?_
  refine go_sget (pc' := 44) (v := .ref as_) hS2 rfl rfl rfl (by decide) rfl rfl ?_
  refine go_s (pc' := 45) rfl rfl rfl rfl ?_
  refine go_s (pc' := 46) (st' := [.int 14, .int (nI (424 * rho)), .ref as_]) rfl rfl rfl rfl ?_
  refine go_nadd (pc' := 47) (a := (424 * rho)) (b := 14) rfl rfl rfl rfl rfl ?_
  refine go_s (pc' := 48) rfl rfl rfl rfl ?_
  refine go_nadd (pc' := 49) (a := ((424 * rho) + 14)) (b := 1) rfl rfl rfl rfl rfl ?_
  refine go_s (pc' := 50) (st' := [.int 0, .int (nI (((424 * rho) + 14) + 1)), .ref as_]) rfl rfl rfl rfl ?_
  refine go_siast (pc' := 51) (q := (((424 * rho) + 14) + 1)) hS2 rfl (tr_as hr (by omega)) tbr_inj (Nat.le_of_ble_eq_true rfl) rfl (by omega) (rk_0 hr).2 hWa rfl (fun h5 hS6 hE7 => ?_)
  have hE8 := sm_e_trans hE2 hE7
  have efr := frl_u m.1 (nI 1) (14 + 1) 0 (by omega) 16
  obtain ⟨G, eG⟩ : ∃ G, G = frl m.1 (nI 1) 16 := ⟨_, rfl⟩
  obtain ⟨G2, eG2⟩ : ∃ G, G = frl (uF m.1 (14 + 1) 0) (nI 1) 16 := ⟨_, rfl⟩
  rw [← eG] at hR2 efr
  rw [← eG2] at efr
  have hR3 : RS (uI K2 51 (((424 * rho) + 14) + 1) 0) rho (G2, m.2.1, m.2.2) := by
    have z := RS_F (j := 14 + 1) (v := 0) hR2 (by decide) (by decide) (by decide)
    rw [efr]
    exact z
  have hg3 : rfr K2 (uI K2 51 (((424 * rho) + 14) + 1) 0) rho := rfr_trans (rfr_refl _ _) (rfr_u (by omega) (by omega))
  obtain ⟨J3, eJ3⟩ : ∃ y, y = (uI K2 51 (((424 * rho) + 14) + 1) 0) := ⟨_, rfl⟩
  change sm (tbr am lm as_ ls) _ (uI K2 51 (((424 * rho) + 14) + 1) 0) Y at hS6
  rw [← eJ3] at hR3 hg3 hS6
  have hf3 : rfr J J3 rho := rfr_trans hf2 hg3
  have hp3 : prk J3 0 := by unfold prk; rw [rfr_c hf3 (by omega)]; exact hp
  have hn3 : ¬ J3 11 0 = -1 := by rw [rfr_c hf3 (by omega)]; exact hn
  have hrho3 : rwi J3 0 = rho := (rfr_w hf3).trans hrho
  obtain ⟨m1, em1⟩ : ∃ y : ms, y = (G2, m.2.1, m.2.2) := ⟨_, rfl⟩
  rw [← em1] at hR3
  have hmX : mX m 1 = if mtr m1 = 0 then mG m1 else m1 := by rw [mX_def, ← eG2, ← em1]
  have hb1 : bok m1 := by
    have z := hbk m em
    rw [← eG2, ← em1] at z
    exact z
  have hw1m : m1.2.2.length ≤ 40 ∧ m1.2.1.length ≤ 32 := by rw [em1]; exact hw1
  refine go_s (pc' := 52) rfl rfl rfl rfl ?_
  refine go_callV (pc' := 53) rfl rfl rfl (Nat.le_of_ble_eq_true rfl) rfl (sm_o hS6 rfl) rfl rfl rfl (rs_tr hr hS6 hp3 hn3 hrho3 hls hl31 hR3 hb1 (by omega)) (fun r h9 q10 => ?_)
  obtain ⟨rfl, rfl⟩ := q10
  by_cases hm0 : mtr m1 = 0
  · skip
    refine go_ifP (t' := 55) (pc' := 54) rfl rfl rfl (fun _ => ?_) (fun (c : ¬ ((nI (mtr m1)) ≤ 0)) => absurd (by rw [hm0]; exact Int32.le_refl _) c)
    refine go_s (pc' := 56) rfl rfl rfl rfl ?_
    refine go_sget (pc' := 57) (v := .ref as_) hS6 rfl rfl rfl (by decide) rfl rfl ?_
    refine go_s (pc' := 58) rfl rfl rfl rfl ?_
    refine go_s (pc' := 59) (st' := [.int 1, .int (nI (424 * rho)), .ref as_]) rfl rfl rfl rfl ?_
    refine go_nadd (pc' := 60) (a := (424 * rho)) (b := 1) rfl rfl rfl rfl rfl ?_
    refine go_s (pc' := 61) rfl rfl rfl rfl ?_
    refine go_sald (pc' := 62) (q := ((424 * rho) + 1)) (v := .int (m1.1 1)) hS6 rfl (tr_as hr (by omega)) rfl rfl (by omega) (congrArg Value.int (hR3.1 1 (by decide) (by decide) (by decide))) rfl ?_
    refine go_s (pc' := 63) (st' := [.int 1, .int (m1.1 1), .int (nI ((424 * rho) + 1)), .ref as_]) rfl rfl rfl rfl ?_
    refine go_s (pc' := 64) rfl rfl rfl rfl ?_
    refine go_siast (pc' := 65) (q := ((424 * rho) + 1)) hS6 rfl (tr_as hr (by omega)) tbr_inj (Nat.le_of_ble_eq_true rfl) rfl (by omega) (rk_0 hr).2 hWa rfl (fun h11 hS12 hE13 => ?_)
    have hE14 := sm_e_trans hE8 hE13
    have hR4 : RS (uI J3 51 ((424 * rho) + 1) ((m1.1 1) + 1)) rho (uF m1.1 1 (m1.1 1 + 1), m1.2) := RS_F (j := 1) (v := m1.1 1 + 1) hR3 (by decide) (by decide) (by decide)
    have hg4 : rfr J3 (uI J3 51 ((424 * rho) + 1) ((m1.1 1) + 1)) rho := rfr_trans (rfr_refl _ _) (rfr_u (by omega) (by omega))
    obtain ⟨J4, eJ4⟩ : ∃ y, y = (uI J3 51 ((424 * rho) + 1) ((m1.1 1) + 1)) := ⟨_, rfl⟩
    change sm (tbr am lm as_ ls) _ (uI J3 51 ((424 * rho) + 1) ((m1.1 1) + 1)) Y at hS12
    rw [← eJ4] at hR4 hg4 hS12
    have hf4 : rfr J J4 rho := rfr_trans hf3 hg4
    have hp4 : prk J4 0 := by unfold prk; rw [rfr_c hf4 (by omega)]; exact hp
    have hn4 : ¬ J4 11 0 = -1 := by rw [rfr_c hf4 (by omega)]; exact hn
    have hrho4 : rwi J4 0 = rho := (rfr_w hf4).trans hrho
    refine go_s (pc' := 66) rfl rfl rfl rfl ?_
    refine go_sget (pc' := 67) (v := .ref as_) hS12 rfl rfl rfl (by decide) rfl rfl ?_
    refine go_s (pc' := 68) rfl rfl rfl rfl ?_
    refine go_s (pc' := 69) (st' := [.int 2, .int (nI (424 * rho)), .ref as_]) rfl rfl rfl rfl ?_
    refine go_nadd (pc' := 70) (a := (424 * rho)) (b := 2) rfl rfl rfl rfl rfl ?_
    refine go_s (pc' := 71) (st' := [.int 0, .int (nI ((424 * rho) + 2)), .ref as_]) rfl rfl rfl rfl ?_
    refine go_siast (pc' := 72) (q := ((424 * rho) + 2)) hS12 rfl (tr_as hr (by omega)) tbr_inj (Nat.le_of_ble_eq_true rfl) rfl (by omega) (rk_0 hr).2 hWa rfl (fun h15 hS16 hE17 => ?_)
    have hE18 := sm_e_trans hE14 hE17
    have hR5 : RS (uI J4 51 ((424 * rho) + 2) 0) rho (uF m1.1 1 (m1.1 1 + 1), [], m1.2.2) := RS_T hR4
    have hg5 : rfr J4 (uI J4 51 ((424 * rho) + 2) 0) rho := rfr_trans (rfr_refl _ _) (rfr_u (by omega) (by omega))
    obtain ⟨J5, eJ5⟩ : ∃ y, y = (uI J4 51 ((424 * rho) + 2) 0) := ⟨_, rfl⟩
    change sm (tbr am lm as_ ls) _ (uI J4 51 ((424 * rho) + 2) 0) Y at hS16
    rw [← eJ5] at hR5 hg5 hS16
    have hf5 : rfr J J5 rho := rfr_trans hf4 hg5
    have hp5 : prk J5 0 := by unfold prk; rw [rfr_c hf5 (by omega)]; exact hp
    have hn5 : ¬ J5 11 0 = -1 := by rw [rfr_c hf5 (by omega)]; exact hn
    have hrho5 : rwi J5 0 = rho := (rfr_w hf5).trans hrho
    refine go_s (pc' := 73) rfl rfl rfl rfl ?_
    refine go_s (pc' := 74) (st' := [.int 16, .ref 62]) rfl rfl rfl rfl ?_
    refine go_s (pc' := 75) rfl rfl rfl rfl ?_
    refine go_sget (pc' := 76) (v := .ref as_) hS16 rfl rfl rfl (by decide) rfl rfl ?_
    refine go_s (pc' := 77) rfl rfl rfl rfl ?_
    refine go_s (pc' := 78) (st' := [.int 1, .int (nI (424 * rho)), .ref as_, .int 16, .ref 62]) rfl rfl rfl rfl ?_
    refine go_nadd (pc' := 79) (a := (424 * rho)) (b := 1) rfl rfl rfl rfl rfl ?_
    refine go_sald (pc' := 80) (q := ((424 * rho) + 1)) (v := .int (m1.1 1 + 1)) hS16 rfl (tr_as hr (by omega)) rfl rfl (by omega) (congrArg Value.int (hR5.1 1 (by decide) (by decide) (by decide))) rfl ?_
    refine go_s (pc' := 81) rfl rfl rfl rfl ?_
    refine go_sget (pc' := 82) (v := .ref as_) hS16 rfl rfl rfl (by decide) rfl rfl ?_
    refine go_s (pc' := 83) rfl rfl rfl rfl ?_
    refine go_s (pc' := 84) (st' := [.int 0, .int (nI (424 * rho)), .ref as_, .int (m1.1 1 + 1), .int 16, .ref 62]) rfl rfl rfl rfl ?_
    refine go_nadd (pc' := 85) (a := (424 * rho)) (b := 0) rfl rfl rfl rfl rfl ?_
    refine go_sald (pc' := 86) (q := ((424 * rho) + 0)) (v := .int (m1.1 0)) hS16 rfl (tr_as hr (by omega)) rfl rfl (by omega) (congrArg Value.int (hR5.1 0 (by decide) (by decide) (by decide))) rfl ?_
    refine go_s (pc' := 87) (st' := [.int 0, .int (m1.1 0), .int (m1.1 1 + 1), .int 16, .ref 62]) rfl rfl rfl rfl ?_
    refine go_s (pc' := 88) (st' := [.int 0, .int 0, .int (m1.1 0), .int (m1.1 1 + 1), .int 16, .ref 62]) rfl rfl rfl rfl ?_
    refine go_s (pc' := 89) (st' := [.int 0, .int 0, .int 0, .int (m1.1 0), .int (m1.1 1 + 1), .int 16, .ref 62]) rfl rfl rfl rfl ?_
    refine go_callV (pc' := 90) rfl rfl rfl (Nat.le_of_ble_eq_true rfl) rfl (sm_o hS16 rfl) rfl rfl rfl (rs_aw hr hS16 hW hWa (s := (uF m1.1 1 (m1.1 1 + 1), [], m1.2.2)) hp5 hn5 hrho5 hls hl31 hR5 (by show m1.2.2.length < 41; omega) (by simp) (by omega)) (fun r h19 q20 => ?_)
    obtain ⟨rfl, K6, hS6, hE6, hR6, hf6⟩ := q20
    have hE21 := sm_e_trans hE18 hE6
    refine go_ret rfl rfl ?_
    exact ⟨rfl, K6, hS6, hE21, by rw [← em, hmX, if_pos hm0]; exact hR6, rfr_trans hf5 hf6⟩
  · skip
    refine go_ifP (t' := 55) (pc' := 54) rfl rfl rfl (fun (c : (nI (mtr m1)) ≤ 0) => absurd c (Int32.not_le.mpr (Int32.not_le.mp (nI_ge (a := 0) (show 0 < mtr m1 by omega) (by have := mtr_le m1; omega))))) (fun _ => ?_)
    refine go_ret rfl rfl ?_
    exact ⟨rfl, J3, hS6, hE8, by rw [← em, hmX, if_neg hm0]; exact hR3, hf3⟩
