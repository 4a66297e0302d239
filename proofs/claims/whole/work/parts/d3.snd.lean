theorem uI_e {I : sm_I} {c j j' : Nat} {v : Int32} (h : j' = j) : uI I c j v c j' = v := if_pos ⟨rfl, h⟩
theorem nodup_le : ∀ {n : Nat} {L : List Nat}, L.Nodup → (∀ a, a ∈ L → a < n) → L.length ≤ n := by
  intro n
  induction n with
  | zero =>
    intro L h hb
    cases L with
    | nil => simp
    | cons x L => have := hb x (by simp); omega
  | succ n ih =>
    intro L h hb
    have z := ih (h.erase n) (fun a ha => by
      have y := (List.Nodup.mem_erase_iff h).mp ha
      have := hb a y.2
      omega)
    rw [List.length_erase] at z
    split at z <;> omega
theorem rx_snd_t {w : Nat → Bool} {d : Nat} {h : am_Hp} {I K : sm_I} {Y : sm_X} {am ln : Nat} (hr : rk am 77) (hS : sm (tbr am (13 * ln) 77 5088) h (jn I K) Y) (hln : ln < 2 ^ 20) (hW : ∀ a, 62 ≤ a → a ≤ 88 → w a = true) (hWm : w am = true) {f t x rm sr : Nat} {kd wh : Int32} {H : List (Nat × mg)} {hb : Bool} {Q : mQ} {L : Nat → List Nat} {F G : List Nat} {o ro : Nat → Nat} {P : Option Value → am_Hp → Prop} (hf : f < 4) (ht : t < 4) (hP : RP I K Q H hb L F G o ro 0 rm sr ln 0) (ox : o x = 18) (xr : x < rm) (hd : 1 ≤ d) (C : ∀ r h', (∃ K', r = some (.int (nI (13 * x))) ∧ sm (tbr am (13 * ln) 77 5088) h' (jn (appI I Q (4 * f + t)) K') Y ∧ sm_e (tbr am (13 * ln) 77 5088) h h' ∧ RP (appI I Q (4 * f + t)) K' (uQ Q (4 * f + t) (Q (4 * f + t) ++ [mo0])) H hb (uL L (4 * f + t) (L (4 * f + t) ++ [x])) F G (owx o x (1 + (4 * f + t))) ro (x + 1) rm sr ln 0 ∧ K' 50 (13 * x) = kd ∧ K' 50 (13 * x + 1) = I 9 (4 * f + t) + 1 ∧ K' 50 (13 * x + 5) = wh ∧ K' 50 (13 * x + 12) = -1 ∧ ∀ j, K' 51 j = K 51 j) → P r h') : am_Go (am_prog w) d am_c130 (some .int) 15 [some (.ref 62), some (.int (nI f)), some (.int (nI t)), some (.int kd), some (.int wh), some (.int (nI ((4 * f) + t))), none] [.int (nI (13 * x))] h P := by
  obtain ⟨l, hl⟩ : ∃ l, l = 4 * f + t := ⟨_, rfl⟩
  obtain ⟨⟨a1, a2, a3, a4, a5⟩, k2, k3, k4, -⟩ := id hP
  obtain ⟨b1, b2, b3, b4⟩ := k3 (4 * f + t) (by omega)
  obtain ⟨c1, c2⟩ := k4 (4 * f + t) (by omega)
  cases hL : L (4 * f + t) with
  | nil =>
    have e5 : K 55 (4 * f + t) = 0 := by rw [b2, hL]; rfl
    refine go_s (pc' := 16) (lo' := [some (.ref 62), some (.int (nI f)), some (.int (nI t)), some (.int kd), some (.int wh), some (.int (nI ((4 * f) + t))), some (.int (nI (13 * x)))]) rfl rfl rfl rfl ?_
    refine go_s (pc' := 17) rfl rfl rfl rfl ?_
    refine go_sget (pc' := 18) (v := .ref 75) hS rfl rfl rfl (by decide) rfl rfl ?_
    refine go_s (pc' := 19) rfl rfl rfl rfl ?_
    refine go_s (pc' := 20) rfl rfl rfl rfl ?_
    refine go_sald (pc' := 21) (q := ((4 * f) + t)) (v := .int (I 9 ((4 * f) + t))) hS rfl (tr_s hr (a := 75) rfl (by omega)) rfl rfl (by omega) rfl rfl ?_
    refine go_s (pc' := 22) (st' := [.int 1, .int (I 9 ((4 * f) + t)), .int (nI ((4 * f) + t)), .ref 75]) rfl rfl rfl rfl ?_
    refine go_s (pc' := 23) rfl rfl rfl rfl ?_
    refine go_siast (pc' := 24) (q := ((4 * f) + t)) hS rfl (tr_s hr (a := 75) rfl (by omega)) tbr_inj (Nat.le_of_ble_eq_true rfl) rfl (by omega) (by decide) (hW _ (by decide) (by decide)) rfl (fun h1 hS2 hE3 => ?_)
    refine go_s (pc' := 25) rfl rfl rfl rfl ?_
    refine go_sget (pc' := 26) (v := .ref am) hS2 rfl rfl rfl (by decide) rfl rfl ?_
    refine go_s (pc' := 27) rfl rfl rfl rfl ?_
    refine go_s (pc' := 28) (st' := [.int 0, .int (nI (13 * x)), .ref am]) rfl rfl rfl rfl ?_
    refine go_nadd (pc' := 29) (a := (13 * x)) (b := 0) rfl rfl rfl rfl rfl ?_
    refine go_s (pc' := 30) rfl rfl rfl rfl ?_
    refine go_siast (pc' := 31) (q := ((13 * x) + 0)) hS2 rfl (tr_ms hr (by omega)) tbr_inj (Nat.le_of_ble_eq_true rfl) rfl (by omega) (rk_0 hr).1 hWm rfl (fun h4 hS5 hE6 => ?_)
    have hE7 := sm_e_trans hE3 hE6
    refine go_s (pc' := 32) rfl rfl rfl rfl ?_
    refine go_sget (pc' := 33) (v := .ref am) hS5 rfl rfl rfl (by decide) rfl rfl ?_
    refine go_s (pc' := 34) rfl rfl rfl rfl ?_
    refine go_s (pc' := 35) (st' := [.int 1, .int (nI (13 * x)), .ref am]) rfl rfl rfl rfl ?_
    refine go_nadd (pc' := 36) (a := (13 * x)) (b := 1) rfl rfl rfl rfl rfl ?_
    refine go_s (pc' := 37) rfl rfl rfl rfl ?_
    refine go_sget (pc' := 38) (v := .ref 75) hS5 rfl rfl rfl (by decide) rfl rfl ?_
    refine go_s (pc' := 39) rfl rfl rfl rfl ?_
    refine go_sald (pc' := 40) (q := ((4 * f) + t)) (v := .int ((I 9 ((4 * f) + t)) + 1)) hS5 rfl (tr_s hr (a := 75) rfl (by omega)) rfl rfl (by omega) (by simp [sm_v, uI, jn]) rfl ?_
    refine go_siast (pc' := 41) (q := ((13 * x) + 1)) hS5 rfl (tr_ms hr (by omega)) tbr_inj (Nat.le_of_ble_eq_true rfl) rfl (by omega) (rk_0 hr).1 hWm rfl (fun h8 hS9 hE10 => ?_)
    have hE11 := sm_e_trans hE7 hE10
    refine go_s (pc' := 42) rfl rfl rfl rfl ?_
    refine go_sget (pc' := 43) (v := .ref am) hS9 rfl rfl rfl (by decide) rfl rfl ?_
    refine go_s (pc' := 44) rfl rfl rfl rfl ?_
    refine go_s (pc' := 45) (st' := [.int 2, .int (nI (13 * x)), .ref am]) rfl rfl rfl rfl ?_
    refine go_nadd (pc' := 46) (a := (13 * x)) (b := 2) rfl rfl rfl rfl rfl ?_
    refine go_s (pc' := 47) (st' := [.int (-1), .int (nI ((13 * x) + 2)), .ref am]) rfl rfl rfl rfl ?_
    refine go_siast (pc' := 48) (q := ((13 * x) + 2)) hS9 rfl (tr_ms hr (by omega)) tbr_inj (Nat.le_of_ble_eq_true rfl) rfl (by omega) (rk_0 hr).1 hWm rfl (fun h12 hS13 hE14 => ?_)
    have hE15 := sm_e_trans hE11 hE14
    refine go_s (pc' := 49) rfl rfl rfl rfl ?_
    refine go_sget (pc' := 50) (v := .ref am) hS13 rfl rfl rfl (by decide) rfl rfl ?_
    refine go_s (pc' := 51) rfl rfl rfl rfl ?_
    refine go_s (pc' := 52) (st' := [.int 3, .int (nI (13 * x)), .ref am]) rfl rfl rfl rfl ?_
    refine go_nadd (pc' := 53) (a := (13 * x)) (b := 3) rfl rfl rfl rfl rfl ?_
    refine go_s (pc' := 54) (st' := [.int (-1), .int (nI ((13 * x) + 3)), .ref am]) rfl rfl rfl rfl ?_
    refine go_siast (pc' := 55) (q := ((13 * x) + 3)) hS13 rfl (tr_ms hr (by omega)) tbr_inj (Nat.le_of_ble_eq_true rfl) rfl (by omega) (rk_0 hr).1 hWm rfl (fun h16 hS17 hE18 => ?_)
    have hE19 := sm_e_trans hE15 hE18
    refine go_s (pc' := 56) rfl rfl rfl rfl ?_
    refine go_sget (pc' := 57) (v := .ref am) hS17 rfl rfl rfl (by decide) rfl rfl ?_
    refine go_s (pc' := 58) rfl rfl rfl rfl ?_
    refine go_s (pc' := 59) (st' := [.int 4, .int (nI (13 * x)), .ref am]) rfl rfl rfl rfl ?_
    refine go_nadd (pc' := 60) (a := (13 * x)) (b := 4) rfl rfl rfl rfl rfl ?_
    refine go_s (pc' := 61) (st' := [.int (-1), .int (nI ((13 * x) + 4)), .ref am]) rfl rfl rfl rfl ?_
    refine go_siast (pc' := 62) (q := ((13 * x) + 4)) hS17 rfl (tr_ms hr (by omega)) tbr_inj (Nat.le_of_ble_eq_true rfl) rfl (by omega) (rk_0 hr).1 hWm rfl (fun h20 hS21 hE22 => ?_)
    have hE23 := sm_e_trans hE19 hE22
    refine go_s (pc' := 63) rfl rfl rfl rfl ?_
    refine go_sget (pc' := 64) (v := .ref am) hS21 rfl rfl rfl (by decide) rfl rfl ?_
    refine go_s (pc' := 65) rfl rfl rfl rfl ?_
    refine go_s (pc' := 66) (st' := [.int 5, .int (nI (13 * x)), .ref am]) rfl rfl rfl rfl ?_
    refine go_nadd (pc' := 67) (a := (13 * x)) (b := 5) rfl rfl rfl rfl rfl ?_
    refine go_s (pc' := 68) rfl rfl rfl rfl ?_
    refine go_siast (pc' := 69) (q := ((13 * x) + 5)) hS21 rfl (tr_ms hr (by omega)) tbr_inj (Nat.le_of_ble_eq_true rfl) rfl (by omega) (rk_0 hr).1 hWm rfl (fun h24 hS25 hE26 => ?_)
    have hE27 := sm_e_trans hE23 hE26
    refine go_s (pc' := 70) rfl rfl rfl rfl ?_
    refine go_sget (pc' := 71) (v := .ref am) hS25 rfl rfl rfl (by decide) rfl rfl ?_
    refine go_s (pc' := 72) rfl rfl rfl rfl ?_
    refine go_s (pc' := 73) (st' := [.int 12, .int (nI (13 * x)), .ref am]) rfl rfl rfl rfl ?_
    refine go_nadd (pc' := 74) (a := (13 * x)) (b := 12) rfl rfl rfl rfl rfl ?_
    refine go_s (pc' := 75) (st' := [.int (-1), .int (nI ((13 * x) + 12)), .ref am]) rfl rfl rfl rfl ?_
    refine go_siast (pc' := 76) (q := ((13 * x) + 12)) hS25 rfl (tr_ms hr (by omega)) tbr_inj (Nat.le_of_ble_eq_true rfl) rfl (by omega) (rk_0 hr).1 hWm rfl (fun h28 hS29 hE30 => ?_)
    have hE31 := sm_e_trans hE27 hE30
    refine go_s (pc' := 77) rfl rfl rfl rfl ?_
    refine go_sget (pc' := 78) (v := .ref 74) hS29 rfl rfl rfl (by decide) rfl rfl ?_
    refine go_s (pc' := 79) rfl rfl rfl rfl ?_
    refine go_sald (pc' := 80) (q := ((4 * f) + t)) (v := .int 0) hS29 rfl (tr_s hr (a := 74) rfl (by omega)) rfl rfl (by omega) (congrArg Value.int e5) rfl ?_
    refine go_ifP (t' := 90) (pc' := 81) rfl rfl rfl (fun (c : ¬ (0 : Int32) = 0) => absurd c (by decide)) (fun _ => ?_)
    refine go_s (pc' := 82) rfl rfl rfl rfl ?_
    refine go_sget (pc' := 83) (v := .ref 72) hS29 rfl rfl rfl (by decide) rfl rfl ?_
    refine go_s (pc' := 84) rfl rfl rfl rfl ?_
    refine go_s (pc' := 85) rfl rfl rfl rfl ?_
    refine go_siast (pc' := 86) (q := ((4 * f) + t)) hS29 rfl (tr_s hr (a := 72) rfl (by omega)) tbr_inj (Nat.le_of_ble_eq_true rfl) rfl (by omega) (by decide) (hW _ (by decide) (by decide)) rfl (fun h32 hS33 hE34 => ?_)
    have hE35 := sm_e_trans hE31 hE34
    refine go_s (pc' := 87) rfl rfl rfl rfl ?_
    refine go_s (pc' := 88) rfl rfl rfl rfl ?_
    refine go_callV (pc' := 89) rfl rfl rfl (Nat.le_of_ble_eq_true rfl) rfl (sm_o hS33 rfl) rfl rfl rfl (rt_leads hr hS33 hW hWm (m := (13 * x)) (by omega) (by omega) (by omega)) (fun r h36 q37 => ?_)
    obtain ⟨rfl, hS38, hE39⟩ := q37
    have hE40 := sm_e_trans hE35 hE39
    refine go_s (pc' := 100) rfl rfl rfl rfl ?_
    refine go_s (pc' := 101) rfl rfl rfl rfl ?_
    refine go_sget (pc' := 102) (v := .ref 73) hS38 rfl rfl rfl (by decide) rfl rfl ?_
    refine go_s (pc' := 103) rfl rfl rfl rfl ?_
    refine go_s (pc' := 104) rfl rfl rfl rfl ?_
    refine go_siast (pc' := 105) (q := ((4 * f) + t)) hS38 rfl (tr_s hr (a := 73) rfl (by omega)) tbr_inj (Nat.le_of_ble_eq_true rfl) rfl (by omega) (by decide) (hW _ (by decide) (by decide)) rfl (fun h41 hS42 hE43 => ?_)
    have hE44 := sm_e_trans hE40 hE43
    refine go_s (pc' := 106) rfl rfl rfl rfl ?_
    refine go_sget (pc' := 107) (v := .ref 74) hS42 rfl rfl rfl (by decide) rfl rfl ?_
    refine go_s (pc' := 108) rfl rfl rfl rfl ?_
    refine go_s (pc' := 109) rfl rfl rfl rfl ?_
    refine go_sald (pc' := 110) (q := ((4 * f) + t)) (v := .int 0) hS42 rfl (tr_s hr (a := 74) rfl (by omega)) rfl rfl (by omega) (congrArg Value.int e5) rfl ?_
    refine go_s (pc' := 111) (st' := [.int 1, .int 0, .int (nI ((4 * f) + t)), .ref 74]) rfl rfl rfl rfl ?_
    refine go_s (pc' := 112) (st' := [.int 1, .int (nI ((4 * f) + t)), .ref 74]) rfl rfl rfl rfl ?_
    refine go_siast (pc' := 113) (q := ((4 * f) + t)) hS42 rfl (tr_s hr (a := 74) rfl (by omega)) tbr_inj (Nat.le_of_ble_eq_true rfl) rfl (by omega) (by decide) (hW _ (by decide) (by decide)) rfl (fun h45 hS46 hE47 => ?_)
    have hE48 := sm_e_trans hE44 hE47
    refine go_s (pc' := 114) rfl rfl rfl rfl ?_
    refine go_ret rfl rfl ?_
    change sm (tbr am (13 * ln) 77 5088) _ (uI (uI (uI (uI (uI (uI (uI (uI (uI (uI (uI (uI (uI (jn I K) 9 ((4 * f) + t) ((I 9 ((4 * f) + t)) + 1)) 50 ((13 * x) + 0) kd) 50 ((13 * x) + 1) ((I 9 ((4 * f) + t)) + 1)) 50 ((13 * x) + 2) (-1)) 50 ((13 * x) + 3) (-1)) 50 ((13 * x) + 4) (-1)) 50 ((13 * x) + 5) wh) 50 ((13 * x) + 12) (-1)) 53 ((4 * f) + t) (nI (13 * x))) 50 ((13 * x) + 2) (fbu I)) 50 ((13 * x) + 3) (fbu I)) 54 ((4 * f) + t) (nI (13 * x))) 55 ((4 * f) + t) 1) Y at hS46
    rw [jn_lo (c := 9) (by decide), jn_hi (c := 50) (by decide), jn_hi (c := 50) (by decide), jn_hi (c := 50) (by decide), jn_hi (c := 50) (by decide), jn_hi (c := 50) (by decide), jn_hi (c := 50) (by decide), jn_hi (c := 50) (by decide), jn_hi (c := 53) (by decide), jn_hi (c := 50) (by decide), jn_hi (c := 50) (by decide), jn_hi (c := 54) (by decide), jn_hi (c := 55) (by decide)] at hS46
    obtain ⟨K9, e9⟩ : ∃ y, y = (uI (uI (uI (uI (uI (uI (uI (uI (uI (uI (uI (uI K 50 ((13 * x) + 0) kd) 50 ((13 * x) + 1) ((I 9 ((4 * f) + t)) + 1)) 50 ((13 * x) + 2) (-1)) 50 ((13 * x) + 3) (-1)) 50 ((13 * x) + 4) (-1)) 50 ((13 * x) + 5) wh) 50 ((13 * x) + 12) (-1)) 53 ((4 * f) + t) (nI (13 * x))) 50 ((13 * x) + 2) (fbu I)) 50 ((13 * x) + 3) (fbu I)) 54 ((4 * f) + t) (nI (13 * x))) 55 ((4 * f) + t) 1) := ⟨_, rfl⟩
    rw [← e9] at hS46
    have hQ0 : Q (4 * f + t) = [] := by
      rw [hL] at c1
      exact List.length_eq_zero_iff.mp c1.symm
    have hA : appI I Q (4 * f + t) = uI (uI (uI I 9 (4 * f + t) (I 9 (4 * f + t) + 1)) 24 (4 * f + t) (fbu I)) 25 (4 * f + t) (fbu I) := if_pos hQ0
    have hS9 : sm (tbr am (13 * ln) 77 5088) _ (jn (appI I Q (4 * f + t)) K9) Y := sm_jg hr hS46 (fun c j _ n1 n2 _ => by rw [hA]; rw [uI_c n2, uI_c n1])
    have o51 : ∀ j, K9 51 j = K 51 j := fun j => by
      rw [e9]
      simp [uI]
    have vk : K9 50 (13 * x) = kd ∧ K9 50 (13 * x + 1) = I 9 (4 * f + t) + 1 ∧ K9 50 (13 * x + 5) = wh ∧ K9 50 (13 * x + 12) = -1 ∧ K9 50 (13 * x + 4) = -1 ∧ K9 54 (4 * f + t) = nI (13 * x) ∧ K9 55 (4 * f + t) = nI (0 + 1) ∧ K9 53 (4 * f + t) = nI (13 * x) ∧ K9 50 (13 * x + 2) = fbu I ∧ K9 50 (13 * x + 3) = fbu I := by
      rw [e9]
      refine ⟨?_, ?_, ?_, ?_, ?_, ?_, ?_, ?_, ?_, ?_⟩ <;> (repeat (first | rw [uI_c (by decide)] | rw [uI_e (by omega)] | rw [uI_j (by omega)])) <;> (try rfl)
    obtain ⟨v1, v2, v3, v4, v5, v6, v7, v8, v9, v10⟩ := vk
    refine C _ _ ⟨K9, rfl, hS9, hE48, RP_push (by omega) hP ox xr mo0 mo0_s (fun i hi => by rw [hA]; rw [uI_c (by decide), uI_j hi, uI_c (by decide)]) (fun i hi => by rw [hA]; rw [uI_j hi, uI_c (by decide), uI_c (by decide)]) (fun c j g1 g2 g3 g4 => ?_) v5 v6 (by rw [v7, hL]; rfl) (fun e => ?_) (fun y hy => ?_), v1, v2, v3, v4, o51⟩
    · rw [e9]; simp only [uI]; rw [if_neg (by omega), if_neg (by omega), if_neg (by omega), if_neg (by omega), if_neg (by omega), if_neg (by omega), if_neg (by omega), if_neg (by omega), if_neg (by omega), if_neg (by omega), if_neg (by omega), if_neg (by omega)]
    · rw [hA]; exact ⟨v8, by rw [v9, uI_c (by decide), uI_s], by rw [v10, uI_s]⟩
    · rw [hL] at hy; simp at hy
  | cons y0 T =>
    have e5 : K 55 (4 * f + t) = nI (T.length + 1) := by rw [b2, hL]; rfl
    obtain ⟨y9, hy9⟩ : ∃ y9, (y0 :: T)[(y0 :: T).length - 1]? = some y9 := ⟨_, List.getElem?_eq_getElem (by simp)⟩
    have e4 : K 54 (4 * f + t) = nI (13 * y9) := by rw [b3 (by rw [hL]; simp), hL]; exact nxr_i hy9
    have zy := (k2 (4 * f + t) (by omega)).2 _ y9 (by rw [hL]; exact hy9)
    have tl : (y0 :: T).length ≤ rm := by
      have z := nodup_le (k2 (4 * f + t) (by omega)).1 (fun a ha => by
        obtain ⟨i, hi⟩ := List.getElem?_of_mem ha
        exact ((k2 (4 * f + t) (by omega)).2 i a hi).1)
      rw [hL] at z
      exact z
    simp at tl
    have yx : y9 ≠ x := fun e => by
      subst e
      omega
    refine go_s (pc' := 16) (lo' := [some (.ref 62), some (.int (nI f)), some (.int (nI t)), some (.int kd), some (.int wh), some (.int (nI ((4 * f) + t))), some (.int (nI (13 * x)))]) rfl rfl rfl rfl ?_
    refine go_s (pc' := 17) rfl rfl rfl rfl ?_
    refine go_sget (pc' := 18) (v := .ref 75) hS rfl rfl rfl (by decide) rfl rfl ?_
    refine go_s (pc' := 19) rfl rfl rfl rfl ?_
    refine go_s (pc' := 20) rfl rfl rfl rfl ?_
    refine go_sald (pc' := 21) (q := ((4 * f) + t)) (v := .int (I 9 ((4 * f) + t))) hS rfl (tr_s hr (a := 75) rfl (by omega)) rfl rfl (by omega) rfl rfl ?_
    refine go_s (pc' := 22) (st' := [.int 1, .int (I 9 ((4 * f) + t)), .int (nI ((4 * f) + t)), .ref 75]) rfl rfl rfl rfl ?_
    refine go_s (pc' := 23) rfl rfl rfl rfl ?_
    refine go_siast (pc' := 24) (q := ((4 * f) + t)) hS rfl (tr_s hr (a := 75) rfl (by omega)) tbr_inj (Nat.le_of_ble_eq_true rfl) rfl (by omega) (by decide) (hW _ (by decide) (by decide)) rfl (fun h49 hS50 hE51 => ?_)
    refine go_s (pc' := 25) rfl rfl rfl rfl ?_
    refine go_sget (pc' := 26) (v := .ref am) hS50 rfl rfl rfl (by decide) rfl rfl ?_
    refine go_s (pc' := 27) rfl rfl rfl rfl ?_
    refine go_s (pc' := 28) (st' := [.int 0, .int (nI (13 * x)), .ref am]) rfl rfl rfl rfl ?_
    refine go_nadd (pc' := 29) (a := (13 * x)) (b := 0) rfl rfl rfl rfl rfl ?_
    refine go_s (pc' := 30) rfl rfl rfl rfl ?_
    refine go_siast (pc' := 31) (q := ((13 * x) + 0)) hS50 rfl (tr_ms hr (by omega)) tbr_inj (Nat.le_of_ble_eq_true rfl) rfl (by omega) (rk_0 hr).1 hWm rfl (fun h52 hS53 hE54 => ?_)
    have hE55 := sm_e_trans hE51 hE54
    refine go_s (pc' := 32) rfl rfl rfl rfl ?_
    refine go_sget (pc' := 33) (v := .ref am) hS53 rfl rfl rfl (by decide) rfl rfl ?_
    refine go_s (pc' := 34) rfl rfl rfl rfl ?_
    refine go_s (pc' := 35) (st' := [.int 1, .int (nI (13 * x)), .ref am]) rfl rfl rfl rfl ?_
    refine go_nadd (pc' := 36) (a := (13 * x)) (b := 1) rfl rfl rfl rfl rfl ?_
    refine go_s (pc' := 37) rfl rfl rfl rfl ?_
    refine go_sget (pc' := 38) (v := .ref 75) hS53 rfl rfl rfl (by decide) rfl rfl ?_
    refine go_s (pc' := 39) rfl rfl rfl rfl ?_
    refine go_sald (pc' := 40) (q := ((4 * f) + t)) (v := .int ((I 9 ((4 * f) + t)) + 1)) hS53 rfl (tr_s hr (a := 75) rfl (by omega)) rfl rfl (by omega) (by simp [sm_v, uI, jn]) rfl ?_
    refine go_siast (pc' := 41) (q := ((13 * x) + 1)) hS53 rfl (tr_ms hr (by omega)) tbr_inj (Nat.le_of_ble_eq_true rfl) rfl (by omega) (rk_0 hr).1 hWm rfl (fun h56 hS57 hE58 => ?_)
    have hE59 := sm_e_trans hE55 hE58
    refine go_s (pc' := 42) rfl rfl rfl rfl ?_
    refine go_sget (pc' := 43) (v := .ref am) hS57 rfl rfl rfl (by decide) rfl rfl ?_
    refine go_s (pc' := 44) rfl rfl rfl rfl ?_
    refine go_s (pc' := 45) (st' := [.int 2, .int (nI (13 * x)), .ref am]) rfl rfl rfl rfl ?_
    refine go_nadd (pc' := 46) (a := (13 * x)) (b := 2) rfl rfl rfl rfl rfl ?_
    refine go_s (pc' := 47) (st' := [.int (-1), .int (nI ((13 * x) + 2)), .ref am]) rfl rfl rfl rfl ?_
    refine go_siast (pc' := 48) (q := ((13 * x) + 2)) hS57 rfl (tr_ms hr (by omega)) tbr_inj (Nat.le_of_ble_eq_true rfl) rfl (by omega) (rk_0 hr).1 hWm rfl (fun h60 hS61 hE62 => ?_)
    have hE63 := sm_e_trans hE59 hE62
    refine go_s (pc' := 49) rfl rfl rfl rfl ?_
    refine go_sget (pc' := 50) (v := .ref am) hS61 rfl rfl rfl (by decide) rfl rfl ?_
    refine go_s (pc' := 51) rfl rfl rfl rfl ?_
    refine go_s (pc' := 52) (st' := [.int 3, .int (nI (13 * x)), .ref am]) rfl rfl rfl rfl ?_
    refine go_nadd (pc' := 53) (a := (13 * x)) (b := 3) rfl rfl rfl rfl rfl ?_
    refine go_s (pc' := 54) (st' := [.int (-1), .int (nI ((13 * x) + 3)), .ref am]) rfl rfl rfl rfl ?_
    refine go_siast (pc' := 55) (q := ((13 * x) + 3)) hS61 rfl (tr_ms hr (by omega)) tbr_inj (Nat.le_of_ble_eq_true rfl) rfl (by omega) (rk_0 hr).1 hWm rfl (fun h64 hS65 hE66 => ?_)
    have hE67 := sm_e_trans hE63 hE66
    refine go_s (pc' := 56) rfl rfl rfl rfl ?_
    refine go_sget (pc' := 57) (v := .ref am) hS65 rfl rfl rfl (by decide) rfl rfl ?_
    refine go_s (pc' := 58) rfl rfl rfl rfl ?_
    refine go_s (pc' := 59) (st' := [.int 4, .int (nI (13 * x)), .ref am]) rfl rfl rfl rfl ?_
    refine go_nadd (pc' := 60) (a := (13 * x)) (b := 4) rfl rfl rfl rfl rfl ?_
    refine go_s (pc' := 61) (st' := [.int (-1), .int (nI ((13 * x) + 4)), .ref am]) rfl rfl rfl rfl ?_
    refine go_siast (pc' := 62) (q := ((13 * x) + 4)) hS65 rfl (tr_ms hr (by omega)) tbr_inj (Nat.le_of_ble_eq_true rfl) rfl (by omega) (rk_0 hr).1 hWm rfl (fun h68 hS69 hE70 => ?_)
    have hE71 := sm_e_trans hE67 hE70
    refine go_s (pc' := 63) rfl rfl rfl rfl ?_
    refine go_sget (pc' := 64) (v := .ref am) hS69 rfl rfl rfl (by decide) rfl rfl ?_
    refine go_s (pc' := 65) rfl rfl rfl rfl ?_
    refine go_s (pc' := 66) (st' := [.int 5, .int (nI (13 * x)), .ref am]) rfl rfl rfl rfl ?_
    refine go_nadd (pc' := 67) (a := (13 * x)) (b := 5) rfl rfl rfl rfl rfl ?_
    refine go_s (pc' := 68) rfl rfl rfl rfl ?_
    refine go_siast (pc' := 69) (q := ((13 * x) + 5)) hS69 rfl (tr_ms hr (by omega)) tbr_inj (Nat.le_of_ble_eq_true rfl) rfl (by omega) (rk_0 hr).1 hWm rfl (fun h72 hS73 hE74 => ?_)
    have hE75 := sm_e_trans hE71 hE74
    refine go_s (pc' := 70) rfl rfl rfl rfl ?_
    refine go_sget (pc' := 71) (v := .ref am) hS73 rfl rfl rfl (by decide) rfl rfl ?_
    refine go_s (pc' := 72) rfl rfl rfl rfl ?_
    refine go_s (pc' := 73) (st' := [.int 12, .int (nI (13 * x)), .ref am]) rfl rfl rfl rfl ?_
    refine go_nadd (pc' := 74) (a := (13 * x)) (b := 12) rfl rfl rfl rfl rfl ?_
    refine go_s (pc' := 75) (st' := [.int (-1), .int (nI ((13 * x) + 12)), .ref am]) rfl rfl rfl rfl ?_
    refine go_siast (pc' := 76) (q := ((13 * x) + 12)) hS73 rfl (tr_ms hr (by omega)) tbr_inj (Nat.le_of_ble_eq_true rfl) rfl (by omega) (rk_0 hr).1 hWm rfl (fun h76 hS77 hE78 => ?_)
    have hE79 := sm_e_trans hE75 hE78
    refine go_s (pc' := 77) rfl rfl rfl rfl ?_
    refine go_sget (pc' := 78) (v := .ref 74) hS77 rfl rfl rfl (by decide) rfl rfl ?_
    refine go_s (pc' := 79) rfl rfl rfl rfl ?_
    refine go_sald (pc' := 80) (q := ((4 * f) + t)) (v := .int (nI (List.length T + 1))) hS77 rfl (tr_s hr (a := 74) rfl (by omega)) rfl rfl (by omega) (congrArg Value.int e5) rfl ?_
    refine go_ifP (t' := 90) (pc' := 81) rfl rfl rfl (fun _ => ?_) (fun (c : ¬ (¬ (nI (List.length T + 1)) = 0)) => absurd (fun z => absurd ((nI_eq (b := 0) (by omega) (by omega)).mp z) (by omega)) c)
    refine go_s (pc' := 91) rfl rfl rfl rfl ?_
    refine go_sget (pc' := 92) (v := .ref am) hS77 rfl rfl rfl (by decide) rfl rfl ?_
    refine go_s (pc' := 93) rfl rfl rfl rfl ?_
    refine go_sget (pc' := 94) (v := .ref 73) hS77 rfl rfl rfl (by decide) rfl rfl ?_
    refine go_s (pc' := 95) rfl rfl rfl rfl ?_
    refine go_sald (pc' := 96) (q := ((4 * f) + t)) (v := .int (nI (13 * y9))) hS77 rfl (tr_s hr (a := 73) rfl (by omega)) rfl rfl (by omega) (congrArg Value.int e4) rfl ?_
    refine go_s (pc' := 97) (st' := [.int 4, .int (nI (13 * y9)), .ref am]) rfl rfl rfl rfl ?_
    refine go_nadd (pc' := 98) (a := (13 * y9)) (b := 4) rfl rfl rfl rfl rfl ?_
    refine go_s (pc' := 99) rfl rfl rfl rfl ?_
    refine go_siast (pc' := 100) (q := ((13 * y9) + 4)) hS77 rfl (tr_ms hr (by omega)) tbr_inj (Nat.le_of_ble_eq_true rfl) rfl (by omega) (rk_0 hr).1 hWm rfl (fun h80 hS81 hE82 => ?_)
    have hE83 := sm_e_trans hE79 hE82
    refine go_s (pc' := 101) rfl rfl rfl rfl ?_
    refine go_sget (pc' := 102) (v := .ref 73) hS81 rfl rfl rfl (by decide) rfl rfl ?_
    refine go_s (pc' := 103) rfl rfl rfl rfl ?_
    refine go_s (pc' := 104) rfl rfl rfl rfl ?_
    refine go_siast (pc' := 105) (q := ((4 * f) + t)) hS81 rfl (tr_s hr (a := 73) rfl (by omega)) tbr_inj (Nat.le_of_ble_eq_true rfl) rfl (by omega) (by decide) (hW _ (by decide) (by decide)) rfl (fun h84 hS85 hE86 => ?_)
    have hE87 := sm_e_trans hE83 hE86
    refine go_s (pc' := 106) rfl rfl rfl rfl ?_
    refine go_sget (pc' := 107) (v := .ref 74) hS85 rfl rfl rfl (by decide) rfl rfl ?_
    refine go_s (pc' := 108) rfl rfl rfl rfl ?_
    refine go_s (pc' := 109) rfl rfl rfl rfl ?_
    refine go_sald (pc' := 110) (q := ((4 * f) + t)) (v := .int (nI (List.length T + 1))) hS85 rfl (tr_s hr (a := 74) rfl (by omega)) rfl rfl (by omega) (congrArg Value.int e5) rfl ?_
    refine go_s (pc' := 111) (st' := [.int 1, .int (nI (List.length T + 1)), .int (nI ((4 * f) + t)), .ref 74]) rfl rfl rfl rfl ?_
    refine go_nadd (pc' := 112) (a := (List.length T + 1)) (b := 1) rfl rfl rfl rfl rfl ?_
    refine go_siast (pc' := 113) (q := ((4 * f) + t)) hS85 rfl (tr_s hr (a := 74) rfl (by omega)) tbr_inj (Nat.le_of_ble_eq_true rfl) rfl (by omega) (by decide) (hW _ (by decide) (by decide)) rfl (fun h88 hS89 hE90 => ?_)
    have hE91 := sm_e_trans hE87 hE90
    refine go_s (pc' := 114) rfl rfl rfl rfl ?_
    refine go_ret rfl rfl ?_
    change sm (tbr am (13 * ln) 77 5088) _ (uI (uI (uI (uI (uI (uI (uI (uI (uI (uI (uI (jn I K) 9 ((4 * f) + t) ((I 9 ((4 * f) + t)) + 1)) 50 ((13 * x) + 0) kd) 50 ((13 * x) + 1) ((I 9 ((4 * f) + t)) + 1)) 50 ((13 * x) + 2) (-1)) 50 ((13 * x) + 3) (-1)) 50 ((13 * x) + 4) (-1)) 50 ((13 * x) + 5) wh) 50 ((13 * x) + 12) (-1)) 50 ((13 * y9) + 4) (nI (13 * x))) 54 ((4 * f) + t) (nI (13 * x))) 55 ((4 * f) + t) (nI ((List.length T + 1) + 1))) Y at hS89
    rw [jn_lo (c := 9) (by decide), jn_hi (c := 50) (by decide), jn_hi (c := 50) (by decide), jn_hi (c := 50) (by decide), jn_hi (c := 50) (by decide), jn_hi (c := 50) (by decide), jn_hi (c := 50) (by decide), jn_hi (c := 50) (by decide), jn_hi (c := 50) (by decide), jn_hi (c := 54) (by decide), jn_hi (c := 55) (by decide)] at hS89
    obtain ⟨K9, e9⟩ : ∃ y, y = (uI (uI (uI (uI (uI (uI (uI (uI (uI (uI K 50 ((13 * x) + 0) kd) 50 ((13 * x) + 1) ((I 9 ((4 * f) + t)) + 1)) 50 ((13 * x) + 2) (-1)) 50 ((13 * x) + 3) (-1)) 50 ((13 * x) + 4) (-1)) 50 ((13 * x) + 5) wh) 50 ((13 * x) + 12) (-1)) 50 ((13 * y9) + 4) (nI (13 * x))) 54 ((4 * f) + t) (nI (13 * x))) 55 ((4 * f) + t) (nI ((List.length T + 1) + 1))) := ⟨_, rfl⟩
    rw [← e9] at hS89
    have hQ0 : ¬ Q (4 * f + t) = [] := fun e => by
      rw [hL, e] at c1
      simp at c1
    have hA : appI I Q (4 * f + t) = uI I 9 (4 * f + t) (I 9 (4 * f + t) + 1) := if_neg hQ0
    have hS9 : sm (tbr am (13 * ln) 77 5088) _ (jn (appI I Q (4 * f + t)) K9) Y := sm_jg hr hS89 (fun c j _ n1 n2 _ => by rw [hA])
    have o51 : ∀ j, K9 51 j = K 51 j := fun j => by
      rw [e9]
      simp [uI]
    have vk : K9 50 (13 * x) = kd ∧ K9 50 (13 * x + 1) = I 9 (4 * f + t) + 1 ∧ K9 50 (13 * x + 5) = wh ∧ K9 50 (13 * x + 12) = -1 ∧ K9 50 (13 * x + 4) = -1 ∧ K9 54 (4 * f + t) = nI (13 * x) ∧ K9 55 (4 * f + t) = nI (T.length + 1 + 1) ∧ K9 53 (4 * f + t) = K 53 (4 * f + t) ∧ K9 50 (13 * x + 2) = -1 ∧ K9 50 (13 * x + 3) = -1 ∧ K9 50 (13 * y9 + 4) = nI (13 * x) := by
      rw [e9]
      refine ⟨?_, ?_, ?_, ?_, ?_, ?_, ?_, ?_, ?_, ?_, ?_⟩ <;> (repeat (first | rw [uI_c (by decide)] | rw [uI_e (by omega)] | rw [uI_j (by omega)])) <;> (try rfl)
    obtain ⟨v1, v2, v3, v4, v5, v6, v7, v8, v9, v10, v11⟩ := vk
    refine C _ _ ⟨K9, rfl, hS9, hE91, RP_push (by omega) hP ox xr mo0 mo0_s (fun i hi => by rw [hA]; rw [uI_c (by decide)]) (fun i hi => by rw [hA]; rw [uI_c (by decide)]) (fun c j g1 g2 g3 g4 => ?_) v5 v6 (by rw [v7, hL]; rfl) (fun e => ?_) (fun y hy => ?_), v1, v2, v3, v4, o51⟩
    · have g5 : ¬ (c = 50 ∧ j = 13 * y9 + 4) := fun z => g4 y9 z.1 (by rw [hL]; exact hy9) z.2
      rw [e9]; simp only [uI]; rw [if_neg (by omega), if_neg (by omega), if_neg (by omega), if_neg (by omega), if_neg (by omega), if_neg (by omega), if_neg (by omega), if_neg (by omega), if_neg (by omega), if_neg (by omega)]
    · rw [hL] at e; cases e
    · rw [hL] at hy
      rw [hy9] at hy
      cases hy
      exact ⟨v8, v11, v9, v10, by rw [hA, uI_c (by decide)], by rw [hA, uI_c (by decide)]⟩
