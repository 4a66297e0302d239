/-! the discs -/
theorem put_uC {J : sm_I} {b q : Nat} {a0 a1 a2 a3 a4 : Int32} {f : Nat → Int32} (h0 : f 0 = a0) (h1 : f 1 = a1) (h2 : f 2 = a2) (h3 : f 3 = a3) (h4 : f 4 = a4) : uI (uI (uI (uI (uI J 7 (5 * (b + q)) a0) 7 (5 * (b + q) + 1) a1) 7 (5 * (b + q) + 2) a2) 7 (5 * (b + q) + 3) a3) 7 (5 * (b + q) + 4) a4 = uC J 7 (5 * b + q * 5) 5 f := by
  funext c j
  simp only [uI, uC]
  by_cases hc : c = 7
  · subst hc
    by_cases g : 5 * b + q * 5 ≤ j ∧ j < 5 * b + q * 5 + 5
    · rw [if_pos (show (7 : Nat) = 7 ∧ _ from ⟨rfl, g⟩)]
      obtain ⟨i, rfl⟩ : ∃ i, j = 5 * b + q * 5 + i := ⟨j - (5 * b + q * 5), by omega⟩
      rw [show 5 * b + q * 5 + i - (5 * b + q * 5) = i by omega]
      obtain rfl | rfl | rfl | rfl | rfl : i = 0 ∨ i = 1 ∨ i = 2 ∨ i = 3 ∨ i = 4 := by omega
      · rw [if_neg (by omega), if_neg (by omega), if_neg (by omega), if_neg (by omega), if_pos ⟨rfl, by omega⟩, h0]
      · rw [if_neg (by omega), if_neg (by omega), if_neg (by omega), if_pos ⟨rfl, by omega⟩, h1]
      · rw [if_neg (by omega), if_neg (by omega), if_pos ⟨rfl, by omega⟩, h2]
      · rw [if_neg (by omega), if_pos ⟨rfl, by omega⟩, h3]
      · rw [if_pos ⟨rfl, by omega⟩, h4]
    · rw [if_neg (by omega), if_neg (by omega), if_neg (by omega), if_neg (by omega), if_neg (by omega), if_neg (by omega)]
  · rw [if_neg (by omega), if_neg (by omega), if_neg (by omega), if_neg (by omega), if_neg (by omega), if_neg (by omega)]
theorem uC_jn {I K : sm_I} {c b n : Nat} {f : Nat → Int32} (h : c < 50) : uC (jn I K) c b n f = jn (uC I c b n f) K := by
  funext a j
  simp only [uC, jn]
  by_cases e : a = c ∧ b ≤ j ∧ j < b + n
  · rw [if_pos e, if_pos (by omega), if_pos e]
  · rw [if_neg e, if_neg e]
theorem uC_x {I : sm_I} {c b b' n n' : Nat} {f g : Nat → Int32} (h : b + n ≤ b' ∨ b' + n' ≤ b) : uC (uC I c b n f) c b' n' g = uC (uC I c b' n' g) c b n f := by
  funext a j
  simp only [uC]
  by_cases e : a = c ∧ b ≤ j ∧ j < b + n
  · rw [if_neg (by omega), if_pos e, if_pos e]
  · rw [if_neg e, if_neg e]
theorem ra_wr_0 {w : Nat → Bool} {d B R : Nat} {H : List (Nat × mg)} {hb : Bool} {h : am_Hp} {I : sm_I} {Q : mQ} {Z : mZ} (hA : RA w B R H hb h (I, Q, Z)) (hR : R + 4 < 40000) {X : Nat} (hM : MID X (I, Q, Z)) (hX : X + 50 < 2 ^ 28) (hhc : hc H hb = 0) (hd : 10 ≤ d) : am_Ev (am_prog w) d 137 [.ref 62, .int 0] h (fun r h' => r = some (.int (rwr 0 (I, Q, Z)).1) ∧ RA w B (R + 2) H hb h' (rwr 0 (I, Q, Z)).2) := by
  obtain ⟨K, Y, am, ln, hS, hU⟩ := RA_u.mp hA
  change sm (tbr am (13 * ln) 77 5088) h (jn I K) Y at hS
  obtain ⟨hW, hWm, -, -, hr, -⟩ := id hU.1
  have hln := RU_ln hU (by omega)
  obtain ⟨d, rfl⟩ : ∃ e, d = e + 1 := ⟨d - 1, by omega⟩
  refine ev_go rfl (Nat.le_of_ble_eq_true rfl) rfl ?_
  have hp0 : prk I 0 := (hM.2.2.1 0 (by decide)).1
  have hp1 : prk I 1 := (hM.2.2.1 1 (by decide)).1
  have hp2 : prk I 2 := (hM.2.2.1 2 (by decide)).1
  refine go_s (pc' := 1) rfl rfl rfl rfl ?_
  refine go_s (pc' := 2) (st' := [.int 0, .int 0]) rfl rfl rfl rfl ?_
  refine go_s (pc' := 3) (st' := [.int 1, .int 0, .int 0]) rfl rfl rfl rfl ?_
  refine go_callS (pc' := 4) rfl rfl rfl (Nat.le_of_ble_eq_true rfl) rfl rfl rfl (rt_within_t (q := 0) (n := 1) (by decide) (by decide) (by omega)) (fun r h1 q2 => ?_)
  obtain ⟨rfl, rfl⟩ := q2
  refine go_ifP (t' := 32) (pc' := 5) rfl rfl rfl (fun (c : (1 : Int32) = 0) => absurd c (by decide)) (fun _ => ?_)
  refine go_s (pc' := 6) rfl rfl rfl rfl ?_
  refine go_s (pc' := 7) (st' := [.int 0, .ref 62]) rfl rfl rfl rfl ?_
  refine go_callV (pc' := 8) rfl rfl rfl (Nat.le_of_ble_eq_true rfl) rfl (sm_o hS rfl) rfl rfl rfl (rt_lives_0 hr hS hp0 (by omega)) (fun r h3 q4 => ?_)
  obtain ⟨rfl, rfl⟩ := q4
  rw [show lv (jn I K) 0 = lv I 0 from rfl]
  cases u5 : lv I 0
  · skip
    show am_Go _ _ _ _ 8 _ [.int 0] _ _
    refine go_ifP (t' := 32) (pc' := 9) rfl rfl rfl (fun _ => ?_) (fun (c : ¬ ((0 : Int32) = 0)) => absurd (by decide) c)
    refine go_s (pc' := 33) (st' := [.int (-1)]) rfl rfl rfl rfl ?_
    refine go_ret rfl rfl ?_
    have hms : rwr 0 (I, Q, Z) = (-1, (I, Q, Z)) := if_neg (fun z => by rw [show lv (I, Q, Z).1 0 = false from u5] at z; exact absurd z.1 (by decide))
    rw [hms]
    exact ⟨rfl, RA_R (by omega) hA⟩
  · skip
    show am_Go _ _ _ _ 8 _ [.int 1] _ _
    refine go_ifP (t' := 32) (pc' := 9) rfl rfl rfl (fun (c : (1 : Int32) = 0) => absurd c (by decide)) (fun _ => ?_)
    refine go_s (pc' := 10) rfl rfl rfl rfl ?_
    refine go_sget (pc' := 11) (v := .ref 83) hS rfl rfl rfl (by decide) rfl rfl ?_
    refine go_s (pc' := 12) (st' := [.int 0, .ref 83]) rfl rfl rfl rfl ?_
    refine go_sald (pc' := 13) (q := 0) (v := .int (I 16 0)) hS rfl (tr_s hr (a := 83) rfl (by decide)) rfl rfl (by decide) rfl rfl ?_
    refine go_s (pc' := 14) (st' := [.int 2, .int (I 16 0)]) rfl rfl rfl rfl ?_
    refine go_icmpP (t' := 32) (pc' := 15) rfl rfl rfl (fun (c6 : ¬ (I 16 0) = 2) => ?_) (fun (c6' : ¬ ¬ (I 16 0) = 2) => ?_)
    · skip
      refine go_s (pc' := 33) (st' := [.int (-1)]) rfl rfl rfl rfl ?_
      refine go_ret rfl rfl ?_
      have hms : rwr 0 (I, Q, Z) = (-1, (I, Q, Z)) := if_neg (fun z => c6 z.2.1)
      rw [hms]
      exact ⟨rfl, RA_R (by omega) hA⟩
    · skip
      have c6 : (I 16 0) = 2 := Decidable.not_not.mp c6'
      refine go_s (pc' := 16) rfl rfl rfl rfl ?_
      refine go_s (pc' := 17) rfl rfl rfl rfl ?_
      refine go_callV (pc' := 18) rfl rfl rfl (Nat.le_of_ble_eq_true rfl) rfl (sm_o hS rfl) rfl rfl rfl (rt_us_0 hr hS (by omega)) (fun r h7 q8 => ?_)
      obtain ⟨rfl, rfl⟩ := q8
      rw [show us (jn I K) 0 = us I 0 from rfl]
      cases u9 : us I 0
      · skip
        show am_Go _ _ _ _ 18 _ [.int 0] _ _
        refine go_ifP (t' := 32) (pc' := 19) rfl rfl rfl (fun _ => ?_) (fun (c : ¬ ((0 : Int32) = 0)) => absurd (by decide) c)
        refine go_s (pc' := 33) (st' := [.int (-1)]) rfl rfl rfl rfl ?_
        refine go_ret rfl rfl ?_
        have hms : rwr 0 (I, Q, Z) = (-1, (I, Q, Z)) := if_neg (fun z => by rw [show us (I, Q, Z).1 0 = false from u9] at z; exact absurd z.2.2.1 (by decide))
        rw [hms]
        exact ⟨rfl, RA_R (by omega) hA⟩
      · skip
        show am_Go _ _ _ _ 18 _ [.int 1] _ _
        refine go_ifP (t' := 32) (pc' := 19) rfl rfl rfl (fun (c : (1 : Int32) = 0) => absurd c (by decide)) (fun _ => ?_)
        have hlv : lv I 0 = true := u5
        have h2 : I 16 0 = 2 := c6
        have hu : us I 0 = true := u9
        obtain ⟨g, hg, eg⟩ := hM.2.2.2.2.1.2.2.2.2.2.2 h2 0 (by decide) (us_5 hM.2.1 (by decide) hu).2
        change I 22 0 = nI g at eg
        change g ≤ (Z (rwi I 0)).2.2.length at hg
        have hOK := MID_OK hM
        have hwb := hOK.2.2.2.2.1
        rcases hp0 with e10 | e10 | e10
        · skip
          exact absurd e10 (lv_up hlv).1
        · skip
          have hrw : rwi I 0 = 0 := rwi_l (v := 0) e10 (by decide)
          change (Z (rwi I 0)).2.2.length ≤ 35 at hwb
          rw [hrw] at hg hwb
          refine go_s (pc' := 20) rfl rfl rfl rfl ?_
          refine go_sget (pc' := 21) (v := .ref 88) hS rfl rfl rfl (by decide) rfl rfl ?_
          refine go_s (pc' := 22) rfl rfl rfl rfl ?_
          refine go_sald (pc' := 23) (q := 0) (v := .int (nI g)) hS rfl (tr_s hr (a := 88) rfl (by decide)) rfl rfl (by decide) (congrArg Value.int eg) rfl ?_
          refine go_s (pc' := 24) rfl rfl rfl rfl ?_
          refine go_sget (pc' := 25) (v := .ref 77) hS rfl rfl rfl (by decide) rfl rfl ?_
          refine go_s (pc' := 26) rfl rfl rfl rfl ?_
          refine go_s (pc' := 27) (st' := [.int 0, .ref 62, .ref 77, .int (nI g)]) rfl rfl rfl rfl ?_
          refine go_callV (pc' := 28) rfl rfl rfl (Nat.le_of_ble_eq_true rfl) rfl (sm_o hS rfl) rfl rfl rfl (rt_at_0 hr hS (Or.inr (Or.inl e10)) (fun z => absurd (e10.symm.trans z) (by decide)) (by omega)) (fun r h11 q12 => ?_)
          obtain ⟨rfl, rfl⟩ := q12
          rw [show rwi (jn I K) 0 = 0 by unfold rwi pn; rw [show (jn I K) 11 0 = 0 from e10]; rfl]
          show am_Go _ _ _ _ 28 _ [.int 0, .ref 77, .int (nI g)] _ _
          refine go_s (pc' := 29) (st' := [.int 5, .int 0, .ref 77, .int (nI g)]) rfl rfl rfl rfl ?_
          refine go_s (pc' := 30) (st' := [.int 5, .ref 77, .int (nI g)]) rfl rfl rfl rfl ?_
          refine go_sald (pc' := 31) (q := 5) (v := .int (nI (List.length (Z 0).2.2))) hS rfl (tr_as hr (by omega)) rfl rfl (by decide) (congrArg Value.int (RR_row hU.2.1 (i := 0) (by decide)).1.2.2.1) rfl ?_
          refine go_icmpP (t' := 34) (pc' := 32) rfl rfl rfl (fun (c13 : ¬ (nI g) = (nI (List.length (Z 0).2.2))) => ?_) (fun (c13' : ¬ ¬ (nI g) = (nI (List.length (Z 0).2.2))) => ?_)
          · skip
            have hgl : g < (Z 0).2.2.length := by
              have z : g ≠ (Z 0).2.2.length := fun e => c13 (by rw [e])
              omega
            obtain ⟨x, hx⟩ : ∃ x, (Z 0).2.2[g]? = some x := ⟨_, List.getElem?_eq_getElem hgl⟩
            have hwbx : WB (Z 0) := by
              have z := hOK.2.1
              change WB (Z (rwi I 0)) at z
              rw [hrw] at z
              exact z
            obtain ⟨q, hq, eq⟩ := hwbx g x hx
            have hRw := (RR_row hU.2.1 (i := 0) (by decide)).1.2.2.2.2 g x hx
            refine go_s (pc' := 35) rfl rfl rfl rfl ?_
            refine go_s (pc' := 36) (st' := [.int 0, .ref 62]) rfl rfl rfl rfl ?_
            refine go_callV (pc' := 37) rfl rfl rfl (Nat.le_of_ble_eq_true rfl) rfl (sm_o hS rfl) rfl rfl rfl (rt_at_0 hr hS (Or.inr (Or.inl e10)) (fun z => absurd (e10.symm.trans z) (by decide)) (by omega)) (fun r h14 q15 => ?_)
            obtain ⟨rfl, rfl⟩ := q15
            rw [show rwi (jn I K) 0 = 0 by unfold rwi pn; rw [show (jn I K) 11 0 = 0 from e10]; rfl]
            show am_Go _ _ _ _ 37 _ [.int 0] _ _
            refine go_s (pc' := 38) (st' := [.int 176, .int 0]) rfl rfl rfl rfl ?_
            refine go_s (pc' := 39) (st' := [.int 176]) rfl rfl rfl rfl ?_
            refine go_s (pc' := 40) (st' := [.int 6, .int 176]) rfl rfl rfl rfl ?_
            refine go_s (pc' := 41) rfl rfl rfl rfl ?_
            refine go_sget (pc' := 42) (v := .ref 88) hS rfl rfl rfl (by decide) rfl rfl ?_
            refine go_s (pc' := 43) rfl rfl rfl rfl ?_
            refine go_sald (pc' := 44) (q := 0) (v := .int (nI g)) hS rfl (tr_s hr (a := 88) rfl (by decide)) rfl rfl (by decide) (congrArg Value.int eg) rfl ?_
            refine go_nmul (pc' := 45) (a := 6) (b := g) rfl rfl rfl rfl rfl ?_
            refine go_nadd (pc' := 46) (a := 176) (b := (6 * g)) rfl rfl rfl rfl rfl ?_
            refine go_s (pc' := 47) (lo' := [some (.ref 62), some (.int 0), some (.int (nI (176 + (6 * g)))), none, none]) rfl rfl rfl rfl ?_
            refine go_s (pc' := 48) rfl rfl rfl rfl ?_
            refine go_sget (pc' := 49) (v := .ref 77) hS rfl rfl rfl (by decide) rfl rfl ?_
            refine go_s (pc' := 50) rfl rfl rfl rfl ?_
            refine go_sald (pc' := 51) (q := (176 + (6 * g))) (v := .int (nI q)) hS rfl (tr_as hr (by omega)) rfl rfl (by omega) (congrArg Value.int ((hRw 0 (by decide)).trans eq)) rfl ?_
            refine go_s (pc' := 52) (lo' := [some (.ref 62), some (.int 0), some (.int (nI (176 + (6 * g)))), some (.int (nI q)), none]) rfl rfl rfl rfl ?_
            refine go_s (pc' := 53) (st' := [.int 0]) rfl rfl rfl rfl ?_
            refine go_s (pc' := 54) (lo' := [some (.ref 62), some (.int 0), some (.int (nI (176 + (6 * g)))), some (.int (nI q)), some (.int 0)]) rfl rfl rfl rfl ?_
            refine go_s (pc' := 55) rfl rfl rfl rfl ?_
            refine go_s (pc' := 56) (st' := [.int 2, .int 0]) rfl rfl rfl rfl ?_
            refine go_icmpP (t' := 106) (pc' := 57) rfl rfl rfl (fun (c : 2 ≤ (0 : Int32)) => absurd c (by decide)) (fun _ => ?_)
            refine go_s (pc' := 58) rfl rfl rfl rfl ?_
            refine go_s (pc' := 59) rfl rfl rfl rfl ?_
            refine go_icmpP (t' := 70) (pc' := 60) rfl rfl rfl (fun _ => ?_) (fun (c : ¬ ((0 : Int32) = 0)) => absurd (by decide) c)
            refine go_s (pc' := 71) rfl rfl rfl rfl ?_
            refine go_s (pc' := 72) rfl rfl rfl rfl ?_
            refine go_s (pc' := 73) rfl rfl rfl rfl ?_
            refine go_s (pc' := 74) rfl rfl rfl rfl ?_
            refine go_sget (pc' := 75) (v := .ref 77) hS rfl rfl rfl (by decide) rfl rfl ?_
            refine go_s (pc' := 76) rfl rfl rfl rfl ?_
            refine go_s (pc' := 77) (st' := [.int 1, .int (nI (176 + (6 * g))), .ref 77, .int (nI q), .int 0, .ref 62]) rfl rfl rfl rfl ?_
            refine go_nadd (pc' := 78) (a := (176 + (6 * g))) (b := 1) rfl rfl rfl rfl rfl ?_
            refine go_sald (pc' := 79) (q := ((176 + (6 * g)) + 1)) (v := .int (wn x 1)) hS rfl (tr_as hr (by omega)) rfl rfl (by omega) (congrArg Value.int (hRw 1 (by decide))) rfl ?_
            refine go_s (pc' := 80) rfl rfl rfl rfl ?_
            refine go_sget (pc' := 81) (v := .ref 77) hS rfl rfl rfl (by decide) rfl rfl ?_
            refine go_s (pc' := 82) rfl rfl rfl rfl ?_
            refine go_s (pc' := 83) (st' := [.int 2, .int (nI (176 + (6 * g))), .ref 77, .int (wn x 1), .int (nI q), .int 0, .ref 62]) rfl rfl rfl rfl ?_
            refine go_nadd (pc' := 84) (a := (176 + (6 * g))) (b := 2) rfl rfl rfl rfl rfl ?_
            refine go_sald (pc' := 85) (q := ((176 + (6 * g)) + 2)) (v := .int (wn x 2)) hS rfl (tr_as hr (by omega)) rfl rfl (by omega) (congrArg Value.int (hRw 2 (by decide))) rfl ?_
            refine go_s (pc' := 86) rfl rfl rfl rfl ?_
            refine go_sget (pc' := 87) (v := .ref 77) hS rfl rfl rfl (by decide) rfl rfl ?_
            refine go_s (pc' := 88) rfl rfl rfl rfl ?_
            refine go_s (pc' := 89) (st' := [.int 3, .int (nI (176 + (6 * g))), .ref 77, .int (wn x 2), .int (wn x 1), .int (nI q), .int 0, .ref 62]) rfl rfl rfl rfl ?_
            refine go_nadd (pc' := 90) (a := (176 + (6 * g))) (b := 3) rfl rfl rfl rfl rfl ?_
            refine go_sald (pc' := 91) (q := ((176 + (6 * g)) + 3)) (v := .int (wn x 3)) hS rfl (tr_as hr (by omega)) rfl rfl (by omega) (congrArg Value.int (hRw 3 (by decide))) rfl ?_
            refine go_s (pc' := 92) rfl rfl rfl rfl ?_
            refine go_sget (pc' := 93) (v := .ref 77) hS rfl rfl rfl (by decide) rfl rfl ?_
            refine go_s (pc' := 94) rfl rfl rfl rfl ?_
            refine go_s (pc' := 95) (st' := [.int 4, .int (nI (176 + (6 * g))), .ref 77, .int (wn x 3), .int (wn x 2), .int (wn x 1), .int (nI q), .int 0, .ref 62]) rfl rfl rfl rfl ?_
            refine go_nadd (pc' := 96) (a := (176 + (6 * g))) (b := 4) rfl rfl rfl rfl rfl ?_
            refine go_sald (pc' := 97) (q := ((176 + (6 * g)) + 4)) (v := .int (wn x 4)) hS rfl (tr_as hr (by omega)) rfl rfl (by omega) (congrArg Value.int (hRw 4 (by decide))) rfl ?_
            refine go_s (pc' := 98) rfl rfl rfl rfl ?_
            refine go_sget (pc' := 99) (v := .ref 77) hS rfl rfl rfl (by decide) rfl rfl ?_
            refine go_s (pc' := 100) rfl rfl rfl rfl ?_
            refine go_s (pc' := 101) (st' := [.int 5, .int (nI (176 + (6 * g))), .ref 77, .int (wn x 4), .int (wn x 3), .int (wn x 2), .int (wn x 1), .int (nI q), .int 0, .ref 62]) rfl rfl rfl rfl ?_
            refine go_nadd (pc' := 102) (a := (176 + (6 * g))) (b := 5) rfl rfl rfl rfl rfl ?_
            refine go_sald (pc' := 103) (q := ((176 + (6 * g)) + 5)) (v := .int (wn x 5)) hS rfl (tr_as hr (by omega)) rfl rfl (by omega) (congrArg Value.int (hRw 5 (by decide))) rfl ?_
            refine go_callV (pc' := 104) rfl rfl rfl (Nat.le_of_ble_eq_true rfl) rfl (sm_o hS rfl) rfl rfl rfl (rt_put_0 hr hS hW (q := q) hq (by omega)) (fun r h16 q17 => ?_)
            obtain ⟨rfl, hS18, hE19⟩ := q17
            rw [put_uC (f := (fun j => wn x (1 + j))) (a0 := (wn x 1)) (a1 := (wn x 2)) (a2 := (wn x 3)) (a3 := (wn x 4)) (a4 := (wn x 5)) rfl rfl rfl rfl rfl, uC_jn (by decide)] at hS18
            have hU20 : RU w B R H hb h16 am ln K ((uC I 7 (5 * 0 + q * 5) 5 (fun j => wn x (1 + j))), Q, Z) := RU_I hE19 (fun _ => rfl) (fun _ => rfl) (Nat.le_refl _) hU
            refine go_s (pc' := 105) (lo' := [some (.ref 62), some (.int 0), some (.int (nI (176 + (6 * g)))), some (.int (nI q)), some (.int 1)]) rfl rfl rfl rfl ?_
            refine go_s (pc' := 54) rfl rfl rfl rfl ?_
            refine go_s (pc' := 55) rfl rfl rfl rfl ?_
            refine go_s (pc' := 56) (st' := [.int 2, .int 1]) rfl rfl rfl rfl ?_
            refine go_icmpP (t' := 106) (pc' := 57) rfl rfl rfl (fun (c : 2 ≤ (1 : Int32)) => absurd c (by decide)) (fun _ => ?_)
            refine go_s (pc' := 58) rfl rfl rfl rfl ?_
            refine go_s (pc' := 59) rfl rfl rfl rfl ?_
            refine go_icmpP (t' := 70) (pc' := 60) rfl rfl rfl (fun (c : (1 : Int32) = 0) => absurd c (by decide)) (fun _ => ?_)
            refine go_s (pc' := 61) rfl rfl rfl rfl ?_
            refine go_s (pc' := 62) rfl rfl rfl rfl ?_
            refine go_callV (pc' := 63) rfl rfl rfl (Nat.le_of_ble_eq_true rfl) rfl (sm_o hS18 rfl) rfl rfl rfl (rt_rv_1 hr hS18 (by omega)) (fun r h21 q22 => ?_)
            obtain ⟨rfl, rfl⟩ := q22
            rw [show rv (jn (uC I 7 (5 * 0 + q * 5) 5 (fun j => wn x (1 + j))) K) 1 = rv I 1 from rfl]
            cases u23 : rv I 1
            · skip
              show am_Go _ _ _ _ 63 _ [.int 0] _ _
              refine go_ifP (t' := 104) (pc' := 64) rfl rfl rfl (fun _ => ?_) (fun (c : ¬ ((0 : Int32) = 0)) => absurd (by decide) c)
              refine go_s (pc' := 105) (lo' := [some (.ref 62), some (.int 0), some (.int (nI (176 + (6 * g)))), some (.int (nI q)), some (.int 2)]) rfl rfl rfl rfl ?_
              refine go_s (pc' := 54) rfl rfl rfl rfl ?_
              refine go_s (pc' := 55) rfl rfl rfl rfl ?_
              refine go_s (pc' := 56) (st' := [.int 2, .int 2]) rfl rfl rfl rfl ?_
              refine go_icmpP (t' := 106) (pc' := 57) rfl rfl rfl (fun _ => ?_) (fun (c : ¬ (2 ≤ (2 : Int32))) => absurd (by decide) c)
              refine go_s (pc' := 107) rfl rfl rfl rfl ?_
              refine go_sget (pc' := 108) (v := .ref 88) hS18 rfl rfl rfl (by decide) rfl rfl ?_
              refine go_s (pc' := 109) rfl rfl rfl rfl ?_
              refine go_s (pc' := 110) rfl rfl rfl rfl ?_
              refine go_sald (pc' := 111) (q := 0) (v := .int (nI g)) hS18 rfl (tr_s hr (a := 88) rfl (by decide)) rfl rfl (by decide) (congrArg Value.int eg) rfl ?_
              refine go_s (pc' := 112) (st' := [.int 1, .int (nI g), .int 0, .ref 88]) rfl rfl rfl rfl ?_
              refine go_nadd (pc' := 113) (a := g) (b := 1) rfl rfl rfl rfl rfl ?_
              refine go_siast (pc' := 114) (q := 0) hS18 rfl (tr_s hr (a := 88) rfl (by decide)) tbr_inj (Nat.le_of_ble_eq_true rfl) rfl (by decide) (by decide) (hW _ (by decide) (by decide)) rfl (fun h24 hS25 hE26 => ?_)
              have hmw : mwrI I 0 x.1.toNatClampNeg x = (uI (uC I 7 (5 * 0 + q * 5) 5 (fun j => wn x (1 + j))) 22 0 (nI (g + 1))) := by
                rw [eq, nI_clamp (by omega)]
                unfold mwrI
                rw [if_neg (fun z => by rw [u23] at z; exact absurd z.1 (by decide))]
                rw [eg, show nI g + 1 = nI (g + 1) from nI_add g 1]
              have hMw : MID X ((uI (uC I 7 (5 * 0 + q * 5) 5 (fun j => wn x (1 + j))) 22 0 (nI (g + 1))), Q, Z) := by
                rw [← hmw]
                exact MID_wr (M := (I, Q, Z)) hM (by decide) hlv h2 hu eg (by show (Z (rwi I 0)).2.2[g]? = some x; rw [hrw]; exact hx)
              refine go_s (pc' := 115) rfl rfl rfl rfl ?_
              change sm (tbr am (13 * ln) 77 5088) _ (uI (jn (uC I 7 (5 * 0 + q * 5) 5 (fun j => wn x (1 + j))) K) 22 0 (nI (g + 1))) Y at hS25
              rw [jn_lo (c := 22) (by decide)] at hS25
              have hU27 : RU w B R H hb h24 am ln K ((uI (uC I 7 (5 * 0 + q * 5) 5 (fun j => wn x (1 + j))) 22 0 (nI (g + 1))), Q, Z) := RU_I (hE26) (I' := (uI (uC I 7 (5 * 0 + q * 5) 5 (fun j => wn x (1 + j))) 22 0 (nI (g + 1)))) (fun _ => rfl) (fun _ => rfl) (Nat.le_refl _) hU20
              have hA28 : RA w B R H hb h24 ((uI (uC I 7 (5 * 0 + q * 5) 5 (fun j => wn x (1 + j))) 22 0 (nI (g + 1))), Q, Z) := RA_u.mpr ⟨_, _, _, _, hS25, hU27⟩
              refine go_callV (pc' := 116) rfl rfl rfl (Nat.le_of_ble_eq_true rfl) rfl (sm_o hS25 rfl) rfl rfl rfl (ra_set hA28 (by omega) (X := X) hMw (by omega) hhc (by omega)) (fun r h29 q30 => ?_)
              obtain ⟨rfl, hA31⟩ := q30
              refine go_s (pc' := 117) rfl rfl rfl rfl ?_
              refine go_ret rfl rfl ?_
              have hms : rwr 0 (I, Q, Z) = (x.1, rset 30 ((uI (uC I 7 (5 * 0 + q * 5) 5 (fun j => wn x (1 + j))) 22 0 (nI (g + 1))), Q, Z)) := by
                unfold rwr
                rw [if_pos ⟨hlv, h2, hu, (by show ¬ I 22 0 = nI (Z (rwi I 0)).2.2.length; rw [hrw, eg]; exact c13)⟩]
                have z : (Z (rwi I 0)).2.2[(I 22 0).toNatClampNeg]? = some x := by rw [hrw, eg, nI_clamp (by omega)]; exact hx
                show (match (Z (rwi I 0)).2.2[(I 22 0).toNatClampNeg]? with | some x => (x.1, rset 30 (mwrI I 0 x.1.toNatClampNeg x, Q, Z)) | none => (-1, (I, Q, Z))) = _
                rw [z]
                show (x.1, rset 30 (mwrI I 0 x.1.toNatClampNeg x, Q, Z)) = _
                rw [hmw]
              rw [hms]
              exact ⟨by rw [eq], hA31⟩
            · skip
              show am_Go _ _ _ _ 63 _ [.int 1] _ _
              refine go_ifP (t' := 104) (pc' := 64) rfl rfl rfl (fun (c : (1 : Int32) = 0) => absurd c (by decide)) (fun _ => ?_)
              refine go_s (pc' := 65) rfl rfl rfl rfl ?_
              refine go_s (pc' := 66) rfl rfl rfl rfl ?_
              refine go_sget (pc' := 67) (v := .ref 69) hS18 rfl rfl rfl (by decide) rfl rfl ?_
              refine go_s (pc' := 68) rfl rfl rfl rfl ?_
              refine go_sald (pc' := 69) (q := 1) (v := .int ((uC I 7 (5 * 0 + q * 5) 5 (fun j => wn x (1 + j))) 6 1)) hS18 rfl (tr_s hr (a := 69) rfl (by decide)) rfl rfl (by decide) rfl rfl ?_
              refine go_icmpP (t' := 104) (pc' := 70) rfl rfl rfl (fun (c32 : ((uC I 7 (5 * 0 + q * 5) 5 (fun j => wn x (1 + j))) 6 1) ≤ (nI q)) => ?_) (fun (c32 : ¬ ((uC I 7 (5 * 0 + q * 5) 5 (fun j => wn x (1 + j))) 6 1) ≤ (nI q)) => ?_)
              · skip
                refine go_s (pc' := 105) (lo' := [some (.ref 62), some (.int 0), some (.int (nI (176 + (6 * g)))), some (.int (nI q)), some (.int 2)]) rfl rfl rfl rfl ?_
                refine go_s (pc' := 54) rfl rfl rfl rfl ?_
                refine go_s (pc' := 55) rfl rfl rfl rfl ?_
                refine go_s (pc' := 56) (st' := [.int 2, .int 2]) rfl rfl rfl rfl ?_
                refine go_icmpP (t' := 106) (pc' := 57) rfl rfl rfl (fun _ => ?_) (fun (c : ¬ (2 ≤ (2 : Int32))) => absurd (by decide) c)
                refine go_s (pc' := 107) rfl rfl rfl rfl ?_
                refine go_sget (pc' := 108) (v := .ref 88) hS18 rfl rfl rfl (by decide) rfl rfl ?_
                refine go_s (pc' := 109) rfl rfl rfl rfl ?_
                refine go_s (pc' := 110) rfl rfl rfl rfl ?_
                refine go_sald (pc' := 111) (q := 0) (v := .int (nI g)) hS18 rfl (tr_s hr (a := 88) rfl (by decide)) rfl rfl (by decide) (congrArg Value.int eg) rfl ?_
                refine go_s (pc' := 112) (st' := [.int 1, .int (nI g), .int 0, .ref 88]) rfl rfl rfl rfl ?_
                refine go_nadd (pc' := 113) (a := g) (b := 1) rfl rfl rfl rfl rfl ?_
                refine go_siast (pc' := 114) (q := 0) hS18 rfl (tr_s hr (a := 88) rfl (by decide)) tbr_inj (Nat.le_of_ble_eq_true rfl) rfl (by decide) (by decide) (hW _ (by decide) (by decide)) rfl (fun h33 hS34 hE35 => ?_)
                have hmw : mwrI I 0 x.1.toNatClampNeg x = (uI (uC I 7 (5 * 0 + q * 5) 5 (fun j => wn x (1 + j))) 22 0 (nI (g + 1))) := by
                  rw [eq, nI_clamp (by omega)]
                  unfold mwrI
                  rw [if_neg (fun z => absurd z.2 (Int32.not_lt.mpr c32))]
                  rw [eg, show nI g + 1 = nI (g + 1) from nI_add g 1]
                have hMw : MID X ((uI (uC I 7 (5 * 0 + q * 5) 5 (fun j => wn x (1 + j))) 22 0 (nI (g + 1))), Q, Z) := by
                  rw [← hmw]
                  exact MID_wr (M := (I, Q, Z)) hM (by decide) hlv h2 hu eg (by show (Z (rwi I 0)).2.2[g]? = some x; rw [hrw]; exact hx)
                refine go_s (pc' := 115) rfl rfl rfl rfl ?_
                change sm (tbr am (13 * ln) 77 5088) _ (uI (jn (uC I 7 (5 * 0 + q * 5) 5 (fun j => wn x (1 + j))) K) 22 0 (nI (g + 1))) Y at hS34
                rw [jn_lo (c := 22) (by decide)] at hS34
                have hU36 : RU w B R H hb h33 am ln K ((uI (uC I 7 (5 * 0 + q * 5) 5 (fun j => wn x (1 + j))) 22 0 (nI (g + 1))), Q, Z) := RU_I (hE35) (I' := (uI (uC I 7 (5 * 0 + q * 5) 5 (fun j => wn x (1 + j))) 22 0 (nI (g + 1)))) (fun _ => rfl) (fun _ => rfl) (Nat.le_refl _) hU20
                have hA37 : RA w B R H hb h33 ((uI (uC I 7 (5 * 0 + q * 5) 5 (fun j => wn x (1 + j))) 22 0 (nI (g + 1))), Q, Z) := RA_u.mpr ⟨_, _, _, _, hS34, hU36⟩
                refine go_callV (pc' := 116) rfl rfl rfl (Nat.le_of_ble_eq_true rfl) rfl (sm_o hS34 rfl) rfl rfl rfl (ra_set hA37 (by omega) (X := X) hMw (by omega) hhc (by omega)) (fun r h38 q39 => ?_)
                obtain ⟨rfl, hA40⟩ := q39
                refine go_s (pc' := 117) rfl rfl rfl rfl ?_
                refine go_ret rfl rfl ?_
                have hms : rwr 0 (I, Q, Z) = (x.1, rset 30 ((uI (uC I 7 (5 * 0 + q * 5) 5 (fun j => wn x (1 + j))) 22 0 (nI (g + 1))), Q, Z)) := by
                  unfold rwr
                  rw [if_pos ⟨hlv, h2, hu, (by show ¬ I 22 0 = nI (Z (rwi I 0)).2.2.length; rw [hrw, eg]; exact c13)⟩]
                  have z : (Z (rwi I 0)).2.2[(I 22 0).toNatClampNeg]? = some x := by rw [hrw, eg, nI_clamp (by omega)]; exact hx
                  show (match (Z (rwi I 0)).2.2[(I 22 0).toNatClampNeg]? with | some x => (x.1, rset 30 (mwrI I 0 x.1.toNatClampNeg x, Q, Z)) | none => (-1, (I, Q, Z))) = _
                  rw [z]
                  show (x.1, rset 30 (mwrI I 0 x.1.toNatClampNeg x, Q, Z)) = _
                  rw [hmw]
                rw [hms]
                exact ⟨by rw [eq], hA40⟩
              · skip
                refine go_s (pc' := 71) rfl rfl rfl rfl ?_
                refine go_s (pc' := 72) rfl rfl rfl rfl ?_
                refine go_s (pc' := 73) rfl rfl rfl rfl ?_
                refine go_s (pc' := 74) rfl rfl rfl rfl ?_
                refine go_sget (pc' := 75) (v := .ref 77) hS18 rfl rfl rfl (by decide) rfl rfl ?_
                refine go_s (pc' := 76) rfl rfl rfl rfl ?_
                refine go_s (pc' := 77) (st' := [.int 1, .int (nI (176 + (6 * g))), .ref 77, .int (nI q), .int 1, .ref 62]) rfl rfl rfl rfl ?_
                refine go_nadd (pc' := 78) (a := (176 + (6 * g))) (b := 1) rfl rfl rfl rfl rfl ?_
                refine go_sald (pc' := 79) (q := ((176 + (6 * g)) + 1)) (v := .int (wn x 1)) hS18 rfl (tr_as hr (by omega)) rfl rfl (by omega) (congrArg Value.int (hRw 1 (by decide))) rfl ?_
                refine go_s (pc' := 80) rfl rfl rfl rfl ?_
                refine go_sget (pc' := 81) (v := .ref 77) hS18 rfl rfl rfl (by decide) rfl rfl ?_
                refine go_s (pc' := 82) rfl rfl rfl rfl ?_
                refine go_s (pc' := 83) (st' := [.int 2, .int (nI (176 + (6 * g))), .ref 77, .int (wn x 1), .int (nI q), .int 1, .ref 62]) rfl rfl rfl rfl ?_
                refine go_nadd (pc' := 84) (a := (176 + (6 * g))) (b := 2) rfl rfl rfl rfl rfl ?_
                refine go_sald (pc' := 85) (q := ((176 + (6 * g)) + 2)) (v := .int (wn x 2)) hS18 rfl (tr_as hr (by omega)) rfl rfl (by omega) (congrArg Value.int (hRw 2 (by decide))) rfl ?_
                refine go_s (pc' := 86) rfl rfl rfl rfl ?_
                refine go_sget (pc' := 87) (v := .ref 77) hS18 rfl rfl rfl (by decide) rfl rfl ?_
                refine go_s (pc' := 88) rfl rfl rfl rfl ?_
                refine go_s (pc' := 89) (st' := [.int 3, .int (nI (176 + (6 * g))), .ref 77, .int (wn x 2), .int (wn x 1), .int (nI q), .int 1, .ref 62]) rfl rfl rfl rfl ?_
                refine go_nadd (pc' := 90) (a := (176 + (6 * g))) (b := 3) rfl rfl rfl rfl rfl ?_
                refine go_sald (pc' := 91) (q := ((176 + (6 * g)) + 3)) (v := .int (wn x 3)) hS18 rfl (tr_as hr (by omega)) rfl rfl (by omega) (congrArg Value.int (hRw 3 (by decide))) rfl ?_
                refine go_s (pc' := 92) rfl rfl rfl rfl ?_
                refine go_sget (pc' := 93) (v := .ref 77) hS18 rfl rfl rfl (by decide) rfl rfl ?_
                refine go_s (pc' := 94) rfl rfl rfl rfl ?_
                refine go_s (pc' := 95) (st' := [.int 4, .int (nI (176 + (6 * g))), .ref 77, .int (wn x 3), .int (wn x 2), .int (wn x 1), .int (nI q), .int 1, .ref 62]) rfl rfl rfl rfl ?_
                refine go_nadd (pc' := 96) (a := (176 + (6 * g))) (b := 4) rfl rfl rfl rfl rfl ?_
                refine go_sald (pc' := 97) (q := ((176 + (6 * g)) + 4)) (v := .int (wn x 4)) hS18 rfl (tr_as hr (by omega)) rfl rfl (by omega) (congrArg Value.int (hRw 4 (by decide))) rfl ?_
                refine go_s (pc' := 98) rfl rfl rfl rfl ?_
                refine go_sget (pc' := 99) (v := .ref 77) hS18 rfl rfl rfl (by decide) rfl rfl ?_
                refine go_s (pc' := 100) rfl rfl rfl rfl ?_
                refine go_s (pc' := 101) (st' := [.int 5, .int (nI (176 + (6 * g))), .ref 77, .int (wn x 4), .int (wn x 3), .int (wn x 2), .int (wn x 1), .int (nI q), .int 1, .ref 62]) rfl rfl rfl rfl ?_
                refine go_nadd (pc' := 102) (a := (176 + (6 * g))) (b := 5) rfl rfl rfl rfl rfl ?_
                refine go_sald (pc' := 103) (q := ((176 + (6 * g)) + 5)) (v := .int (wn x 5)) hS18 rfl (tr_as hr (by omega)) rfl rfl (by omega) (congrArg Value.int (hRw 5 (by decide))) rfl ?_
                refine go_callV (pc' := 104) rfl rfl rfl (Nat.le_of_ble_eq_true rfl) rfl (sm_o hS18 rfl) rfl rfl rfl (rt_put_1 hr hS18 hW (q := q) hq (by omega)) (fun r h41 q42 => ?_)
                obtain ⟨rfl, hS43, hE44⟩ := q42
                rw [put_uC (f := (fun j => wn x (1 + j))) (a0 := (wn x 1)) (a1 := (wn x 2)) (a2 := (wn x 3)) (a3 := (wn x 4)) (a4 := (wn x 5)) rfl rfl rfl rfl rfl, uC_jn (by decide)] at hS43
                have hU45 : RU w B R H hb h41 am ln K ((uC (uC I 7 (5 * 0 + q * 5) 5 (fun j => wn x (1 + j))) 7 (5 * 49 + q * 5) 5 (fun j => wn x (1 + j))), Q, Z) := RU_I hE44 (fun _ => rfl) (fun _ => rfl) (Nat.le_refl _) hU20
                refine go_s (pc' := 105) (lo' := [some (.ref 62), some (.int 0), some (.int (nI (176 + (6 * g)))), some (.int (nI q)), some (.int 2)]) rfl rfl rfl rfl ?_
                refine go_s (pc' := 54) rfl rfl rfl rfl ?_
                refine go_s (pc' := 55) rfl rfl rfl rfl ?_
                refine go_s (pc' := 56) (st' := [.int 2, .int 2]) rfl rfl rfl rfl ?_
                refine go_icmpP (t' := 106) (pc' := 57) rfl rfl rfl (fun _ => ?_) (fun (c : ¬ (2 ≤ (2 : Int32))) => absurd (by decide) c)
                refine go_s (pc' := 107) rfl rfl rfl rfl ?_
                refine go_sget (pc' := 108) (v := .ref 88) hS43 rfl rfl rfl (by decide) rfl rfl ?_
                refine go_s (pc' := 109) rfl rfl rfl rfl ?_
                refine go_s (pc' := 110) rfl rfl rfl rfl ?_
                refine go_sald (pc' := 111) (q := 0) (v := .int (nI g)) hS43 rfl (tr_s hr (a := 88) rfl (by decide)) rfl rfl (by decide) (congrArg Value.int eg) rfl ?_
                refine go_s (pc' := 112) (st' := [.int 1, .int (nI g), .int 0, .ref 88]) rfl rfl rfl rfl ?_
                refine go_nadd (pc' := 113) (a := g) (b := 1) rfl rfl rfl rfl rfl ?_
                refine go_siast (pc' := 114) (q := 0) hS43 rfl (tr_s hr (a := 88) rfl (by decide)) tbr_inj (Nat.le_of_ble_eq_true rfl) rfl (by decide) (by decide) (hW _ (by decide) (by decide)) rfl (fun h46 hS47 hE48 => ?_)
                have hmw : mwrI I 0 x.1.toNatClampNeg x = (uI (uC (uC I 7 (5 * 0 + q * 5) 5 (fun j => wn x (1 + j))) 7 (5 * 49 + q * 5) 5 (fun j => wn x (1 + j))) 22 0 (nI (g + 1))) := by
                  rw [eq, nI_clamp (by omega)]
                  unfold mwrI
                  rw [if_pos ⟨u23, Int32.not_le.mp c32⟩]
                  rw [eg, show nI g + 1 = nI (g + 1) from nI_add g 1]
                have hMw : MID X ((uI (uC (uC I 7 (5 * 0 + q * 5) 5 (fun j => wn x (1 + j))) 7 (5 * 49 + q * 5) 5 (fun j => wn x (1 + j))) 22 0 (nI (g + 1))), Q, Z) := by
                  rw [← hmw]
                  exact MID_wr (M := (I, Q, Z)) hM (by decide) hlv h2 hu eg (by show (Z (rwi I 0)).2.2[g]? = some x; rw [hrw]; exact hx)
                refine go_s (pc' := 115) rfl rfl rfl rfl ?_
                change sm (tbr am (13 * ln) 77 5088) _ (uI (jn (uC (uC I 7 (5 * 0 + q * 5) 5 (fun j => wn x (1 + j))) 7 (5 * 49 + q * 5) 5 (fun j => wn x (1 + j))) K) 22 0 (nI (g + 1))) Y at hS47
                rw [jn_lo (c := 22) (by decide)] at hS47
                have hU49 : RU w B R H hb h46 am ln K ((uI (uC (uC I 7 (5 * 0 + q * 5) 5 (fun j => wn x (1 + j))) 7 (5 * 49 + q * 5) 5 (fun j => wn x (1 + j))) 22 0 (nI (g + 1))), Q, Z) := RU_I (hE48) (I' := (uI (uC (uC I 7 (5 * 0 + q * 5) 5 (fun j => wn x (1 + j))) 7 (5 * 49 + q * 5) 5 (fun j => wn x (1 + j))) 22 0 (nI (g + 1)))) (fun _ => rfl) (fun _ => rfl) (Nat.le_refl _) hU45
                have hA50 : RA w B R H hb h46 ((uI (uC (uC I 7 (5 * 0 + q * 5) 5 (fun j => wn x (1 + j))) 7 (5 * 49 + q * 5) 5 (fun j => wn x (1 + j))) 22 0 (nI (g + 1))), Q, Z) := RA_u.mpr ⟨_, _, _, _, hS47, hU49⟩
                refine go_callV (pc' := 116) rfl rfl rfl (Nat.le_of_ble_eq_true rfl) rfl (sm_o hS47 rfl) rfl rfl rfl (ra_set hA50 (by omega) (X := X) hMw (by omega) hhc (by omega)) (fun r h51 q52 => ?_)
                obtain ⟨rfl, hA53⟩ := q52
                refine go_s (pc' := 117) rfl rfl rfl rfl ?_
                refine go_ret rfl rfl ?_
                have hms : rwr 0 (I, Q, Z) = (x.1, rset 30 ((uI (uC (uC I 7 (5 * 0 + q * 5) 5 (fun j => wn x (1 + j))) 7 (5 * 49 + q * 5) 5 (fun j => wn x (1 + j))) 22 0 (nI (g + 1))), Q, Z)) := by
                  unfold rwr
                  rw [if_pos ⟨hlv, h2, hu, (by show ¬ I 22 0 = nI (Z (rwi I 0)).2.2.length; rw [hrw, eg]; exact c13)⟩]
                  have z : (Z (rwi I 0)).2.2[(I 22 0).toNatClampNeg]? = some x := by rw [hrw, eg, nI_clamp (by omega)]; exact hx
                  show (match (Z (rwi I 0)).2.2[(I 22 0).toNatClampNeg]? with | some x => (x.1, rset 30 (mwrI I 0 x.1.toNatClampNeg x, Q, Z)) | none => (-1, (I, Q, Z))) = _
                  rw [z]
                  show (x.1, rset 30 (mwrI I 0 x.1.toNatClampNeg x, Q, Z)) = _
                  rw [hmw]
                rw [hms]
                exact ⟨by rw [eq], hA53⟩
          · skip
            have c13 : (nI g) = (nI (List.length (Z 0).2.2)) := Decidable.not_not.mp c13'
            refine go_s (pc' := 33) (st' := [.int (-1)]) rfl rfl rfl rfl ?_
            refine go_ret rfl rfl ?_
            have hms : rwr 0 (I, Q, Z) = (-1, (I, Q, Z)) := if_neg (fun z => z.2.2.2 (by show I 22 0 = nI (Z (rwi I 0)).2.2.length; rw [hrw, eg]; exact c13))
            rw [hms]
            exact ⟨rfl, RA_R (by omega) hA⟩
        · skip
          have hrw : rwi I 0 = 1 := rwi_l (v := 1) e10 (by decide)
          change (Z (rwi I 0)).2.2.length ≤ 35 at hwb
          rw [hrw] at hg hwb
          refine go_s (pc' := 20) rfl rfl rfl rfl ?_
          refine go_sget (pc' := 21) (v := .ref 88) hS rfl rfl rfl (by decide) rfl rfl ?_
          refine go_s (pc' := 22) rfl rfl rfl rfl ?_
          refine go_sald (pc' := 23) (q := 0) (v := .int (nI g)) hS rfl (tr_s hr (a := 88) rfl (by decide)) rfl rfl (by decide) (congrArg Value.int eg) rfl ?_
          refine go_s (pc' := 24) rfl rfl rfl rfl ?_
          refine go_sget (pc' := 25) (v := .ref 77) hS rfl rfl rfl (by decide) rfl rfl ?_
          refine go_s (pc' := 26) rfl rfl rfl rfl ?_
          refine go_s (pc' := 27) (st' := [.int 0, .ref 62, .ref 77, .int (nI g)]) rfl rfl rfl rfl ?_
          refine go_callV (pc' := 28) rfl rfl rfl (Nat.le_of_ble_eq_true rfl) rfl (sm_o hS rfl) rfl rfl rfl (rt_at_0 hr hS (Or.inr (Or.inr e10)) (fun z => absurd (e10.symm.trans z) (by decide)) (by omega)) (fun r h54 q55 => ?_)
          obtain ⟨rfl, rfl⟩ := q55
          rw [show rwi (jn I K) 0 = 1 by unfold rwi pn; rw [show (jn I K) 11 0 = 1 from e10]; rfl]
          show am_Go _ _ _ _ 28 _ [.int 424, .ref 77, .int (nI g)] _ _
          refine go_s (pc' := 29) (st' := [.int 5, .int 424, .ref 77, .int (nI g)]) rfl rfl rfl rfl ?_
          refine go_s (pc' := 30) (st' := [.int 429, .ref 77, .int (nI g)]) rfl rfl rfl rfl ?_
          refine go_sald (pc' := 31) (q := 429) (v := .int (nI (List.length (Z 1).2.2))) hS rfl (tr_as hr (by omega)) rfl rfl (by decide) (congrArg Value.int (RR_row hU.2.1 (i := 1) (by decide)).1.2.2.1) rfl ?_
          refine go_icmpP (t' := 34) (pc' := 32) rfl rfl rfl (fun (c56 : ¬ (nI g) = (nI (List.length (Z 1).2.2))) => ?_) (fun (c56' : ¬ ¬ (nI g) = (nI (List.length (Z 1).2.2))) => ?_)
          · skip
            have hgl : g < (Z 1).2.2.length := by
              have z : g ≠ (Z 1).2.2.length := fun e => c56 (by rw [e])
              omega
            obtain ⟨x, hx⟩ : ∃ x, (Z 1).2.2[g]? = some x := ⟨_, List.getElem?_eq_getElem hgl⟩
            have hwbx : WB (Z 1) := by
              have z := hOK.2.1
              change WB (Z (rwi I 0)) at z
              rw [hrw] at z
              exact z
            obtain ⟨q, hq, eq⟩ := hwbx g x hx
            have hRw := (RR_row hU.2.1 (i := 1) (by decide)).1.2.2.2.2 g x hx
            refine go_s (pc' := 35) rfl rfl rfl rfl ?_
            refine go_s (pc' := 36) (st' := [.int 0, .ref 62]) rfl rfl rfl rfl ?_
            refine go_callV (pc' := 37) rfl rfl rfl (Nat.le_of_ble_eq_true rfl) rfl (sm_o hS rfl) rfl rfl rfl (rt_at_0 hr hS (Or.inr (Or.inr e10)) (fun z => absurd (e10.symm.trans z) (by decide)) (by omega)) (fun r h57 q58 => ?_)
            obtain ⟨rfl, rfl⟩ := q58
            rw [show rwi (jn I K) 0 = 1 by unfold rwi pn; rw [show (jn I K) 11 0 = 1 from e10]; rfl]
            show am_Go _ _ _ _ 37 _ [.int 424] _ _
            refine go_s (pc' := 38) (st' := [.int 176, .int 424]) rfl rfl rfl rfl ?_
            refine go_s (pc' := 39) (st' := [.int 600]) rfl rfl rfl rfl ?_
            refine go_s (pc' := 40) (st' := [.int 6, .int 600]) rfl rfl rfl rfl ?_
            refine go_s (pc' := 41) rfl rfl rfl rfl ?_
            refine go_sget (pc' := 42) (v := .ref 88) hS rfl rfl rfl (by decide) rfl rfl ?_
            refine go_s (pc' := 43) rfl rfl rfl rfl ?_
            refine go_sald (pc' := 44) (q := 0) (v := .int (nI g)) hS rfl (tr_s hr (a := 88) rfl (by decide)) rfl rfl (by decide) (congrArg Value.int eg) rfl ?_
            refine go_nmul (pc' := 45) (a := 6) (b := g) rfl rfl rfl rfl rfl ?_
            refine go_nadd (pc' := 46) (a := 600) (b := (6 * g)) rfl rfl rfl rfl rfl ?_
            refine go_s (pc' := 47) (lo' := [some (.ref 62), some (.int 0), some (.int (nI (600 + (6 * g)))), none, none]) rfl rfl rfl rfl ?_
            refine go_s (pc' := 48) rfl rfl rfl rfl ?_
            refine go_sget (pc' := 49) (v := .ref 77) hS rfl rfl rfl (by decide) rfl rfl ?_
            refine go_s (pc' := 50) rfl rfl rfl rfl ?_
            refine go_sald (pc' := 51) (q := (600 + (6 * g))) (v := .int (nI q)) hS rfl (tr_as hr (by omega)) rfl rfl (by omega) (congrArg Value.int ((hRw 0 (by decide)).trans eq)) rfl ?_
            refine go_s (pc' := 52) (lo' := [some (.ref 62), some (.int 0), some (.int (nI (600 + (6 * g)))), some (.int (nI q)), none]) rfl rfl rfl rfl ?_
            refine go_s (pc' := 53) (st' := [.int 0]) rfl rfl rfl rfl ?_
            refine go_s (pc' := 54) (lo' := [some (.ref 62), some (.int 0), some (.int (nI (600 + (6 * g)))), some (.int (nI q)), some (.int 0)]) rfl rfl rfl rfl ?_
            refine go_s (pc' := 55) rfl rfl rfl rfl ?_
            refine go_s (pc' := 56) (st' := [.int 2, .int 0]) rfl rfl rfl rfl ?_
            refine go_icmpP (t' := 106) (pc' := 57) rfl rfl rfl (fun (c : 2 ≤ (0 : Int32)) => absurd c (by decide)) (fun _ => ?_)
            refine go_s (pc' := 58) rfl rfl rfl rfl ?_
            refine go_s (pc' := 59) rfl rfl rfl rfl ?_
            refine go_icmpP (t' := 70) (pc' := 60) rfl rfl rfl (fun _ => ?_) (fun (c : ¬ ((0 : Int32) = 0)) => absurd (by decide) c)
            refine go_s (pc' := 71) rfl rfl rfl rfl ?_
            refine go_s (pc' := 72) rfl rfl rfl rfl ?_
            refine go_s (pc' := 73) rfl rfl rfl rfl ?_
            refine go_s (pc' := 74) rfl rfl rfl rfl ?_
            refine go_sget (pc' := 75) (v := .ref 77) hS rfl rfl rfl (by decide) rfl rfl ?_
            refine go_s (pc' := 76) rfl rfl rfl rfl ?_
            refine go_s (pc' := 77) (st' := [.int 1, .int (nI (600 + (6 * g))), .ref 77, .int (nI q), .int 0, .ref 62]) rfl rfl rfl rfl ?_
            refine go_nadd (pc' := 78) (a := (600 + (6 * g))) (b := 1) rfl rfl rfl rfl rfl ?_
            refine go_sald (pc' := 79) (q := ((600 + (6 * g)) + 1)) (v := .int (wn x 1)) hS rfl (tr_as hr (by omega)) rfl rfl (by omega) (congrArg Value.int (hRw 1 (by decide))) rfl ?_
            refine go_s (pc' := 80) rfl rfl rfl rfl ?_
            refine go_sget (pc' := 81) (v := .ref 77) hS rfl rfl rfl (by decide) rfl rfl ?_
            refine go_s (pc' := 82) rfl rfl rfl rfl ?_
            refine go_s (pc' := 83) (st' := [.int 2, .int (nI (600 + (6 * g))), .ref 77, .int (wn x 1), .int (nI q), .int 0, .ref 62]) rfl rfl rfl rfl ?_
            refine go_nadd (pc' := 84) (a := (600 + (6 * g))) (b := 2) rfl rfl rfl rfl rfl ?_
            refine go_sald (pc' := 85) (q := ((600 + (6 * g)) + 2)) (v := .int (wn x 2)) hS rfl (tr_as hr (by omega)) rfl rfl (by omega) (congrArg Value.int (hRw 2 (by decide))) rfl ?_
            refine go_s (pc' := 86) rfl rfl rfl rfl ?_
            refine go_sget (pc' := 87) (v := .ref 77) hS rfl rfl rfl (by decide) rfl rfl ?_
            refine go_s (pc' := 88) rfl rfl rfl rfl ?_
            refine go_s (pc' := 89) (st' := [.int 3, .int (nI (600 + (6 * g))), .ref 77, .int (wn x 2), .int (wn x 1), .int (nI q), .int 0, .ref 62]) rfl rfl rfl rfl ?_
            refine go_nadd (pc' := 90) (a := (600 + (6 * g))) (b := 3) rfl rfl rfl rfl rfl ?_
            refine go_sald (pc' := 91) (q := ((600 + (6 * g)) + 3)) (v := .int (wn x 3)) hS rfl (tr_as hr (by omega)) rfl rfl (by omega) (congrArg Value.int (hRw 3 (by decide))) rfl ?_
            refine go_s (pc' := 92) rfl rfl rfl rfl ?_
            refine go_sget (pc' := 93) (v := .ref 77) hS rfl rfl rfl (by decide) rfl rfl ?_
            refine go_s (pc' := 94) rfl rfl rfl rfl ?_
            refine go_s (pc' := 95) (st' := [.int 4, .int (nI (600 + (6 * g))), .ref 77, .int (wn x 3), .int (wn x 2), .int (wn x 1), .int (nI q), .int 0, .ref 62]) rfl rfl rfl rfl ?_
            refine go_nadd (pc' := 96) (a := (600 + (6 * g))) (b := 4) rfl rfl rfl rfl rfl ?_
            refine go_sald (pc' := 97) (q := ((600 + (6 * g)) + 4)) (v := .int (wn x 4)) hS rfl (tr_as hr (by omega)) rfl rfl (by omega) (congrArg Value.int (hRw 4 (by decide))) rfl ?_
            refine go_s (pc' := 98) rfl rfl rfl rfl ?_
            refine go_sget (pc' := 99) (v := .ref 77) hS rfl rfl rfl (by decide) rfl rfl ?_
            refine go_s (pc' := 100) rfl rfl rfl rfl ?_
            refine go_s (pc' := 101) (st' := [.int 5, .int (nI (600 + (6 * g))), .ref 77, .int (wn x 4), .int (wn x 3), .int (wn x 2), .int (wn x 1), .int (nI q), .int 0, .ref 62]) rfl rfl rfl rfl ?_
            refine go_nadd (pc' := 102) (a := (600 + (6 * g))) (b := 5) rfl rfl rfl rfl rfl ?_
            refine go_sald (pc' := 103) (q := ((600 + (6 * g)) + 5)) (v := .int (wn x 5)) hS rfl (tr_as hr (by omega)) rfl rfl (by omega) (congrArg Value.int (hRw 5 (by decide))) rfl ?_
            refine go_callV (pc' := 104) rfl rfl rfl (Nat.le_of_ble_eq_true rfl) rfl (sm_o hS rfl) rfl rfl rfl (rt_put_0 hr hS hW (q := q) hq (by omega)) (fun r h59 q60 => ?_)
            obtain ⟨rfl, hS61, hE62⟩ := q60
            rw [put_uC (f := (fun j => wn x (1 + j))) (a0 := (wn x 1)) (a1 := (wn x 2)) (a2 := (wn x 3)) (a3 := (wn x 4)) (a4 := (wn x 5)) rfl rfl rfl rfl rfl, uC_jn (by decide)] at hS61
            have hU63 : RU w B R H hb h59 am ln K ((uC I 7 (5 * 0 + q * 5) 5 (fun j => wn x (1 + j))), Q, Z) := RU_I hE62 (fun _ => rfl) (fun _ => rfl) (Nat.le_refl _) hU
            refine go_s (pc' := 105) (lo' := [some (.ref 62), some (.int 0), some (.int (nI (600 + (6 * g)))), some (.int (nI q)), some (.int 1)]) rfl rfl rfl rfl ?_
            refine go_s (pc' := 54) rfl rfl rfl rfl ?_
            refine go_s (pc' := 55) rfl rfl rfl rfl ?_
            refine go_s (pc' := 56) (st' := [.int 2, .int 1]) rfl rfl rfl rfl ?_
            refine go_icmpP (t' := 106) (pc' := 57) rfl rfl rfl (fun (c : 2 ≤ (1 : Int32)) => absurd c (by decide)) (fun _ => ?_)
            refine go_s (pc' := 58) rfl rfl rfl rfl ?_
            refine go_s (pc' := 59) rfl rfl rfl rfl ?_
            refine go_icmpP (t' := 70) (pc' := 60) rfl rfl rfl (fun (c : (1 : Int32) = 0) => absurd c (by decide)) (fun _ => ?_)
            refine go_s (pc' := 61) rfl rfl rfl rfl ?_
            refine go_s (pc' := 62) rfl rfl rfl rfl ?_
            refine go_callV (pc' := 63) rfl rfl rfl (Nat.le_of_ble_eq_true rfl) rfl (sm_o hS61 rfl) rfl rfl rfl (rt_rv_1 hr hS61 (by omega)) (fun r h64 q65 => ?_)
            obtain ⟨rfl, rfl⟩ := q65
            rw [show rv (jn (uC I 7 (5 * 0 + q * 5) 5 (fun j => wn x (1 + j))) K) 1 = rv I 1 from rfl]
            cases u66 : rv I 1
            · skip
              show am_Go _ _ _ _ 63 _ [.int 0] _ _
              refine go_ifP (t' := 104) (pc' := 64) rfl rfl rfl (fun _ => ?_) (fun (c : ¬ ((0 : Int32) = 0)) => absurd (by decide) c)
              refine go_s (pc' := 105) (lo' := [some (.ref 62), some (.int 0), some (.int (nI (600 + (6 * g)))), some (.int (nI q)), some (.int 2)]) rfl rfl rfl rfl ?_
              refine go_s (pc' := 54) rfl rfl rfl rfl ?_
              refine go_s (pc' := 55) rfl rfl rfl rfl ?_
              refine go_s (pc' := 56) (st' := [.int 2, .int 2]) rfl rfl rfl rfl ?_
              refine go_icmpP (t' := 106) (pc' := 57) rfl rfl rfl (fun _ => ?_) (fun (c : ¬ (2 ≤ (2 : Int32))) => absurd (by decide) c)
              refine go_s (pc' := 107) rfl rfl rfl rfl ?_
              refine go_sget (pc' := 108) (v := .ref 88) hS61 rfl rfl rfl (by decide) rfl rfl ?_
              refine go_s (pc' := 109) rfl rfl rfl rfl ?_
              refine go_s (pc' := 110) rfl rfl rfl rfl ?_
              refine go_sald (pc' := 111) (q := 0) (v := .int (nI g)) hS61 rfl (tr_s hr (a := 88) rfl (by decide)) rfl rfl (by decide) (congrArg Value.int eg) rfl ?_
              refine go_s (pc' := 112) (st' := [.int 1, .int (nI g), .int 0, .ref 88]) rfl rfl rfl rfl ?_
              refine go_nadd (pc' := 113) (a := g) (b := 1) rfl rfl rfl rfl rfl ?_
              refine go_siast (pc' := 114) (q := 0) hS61 rfl (tr_s hr (a := 88) rfl (by decide)) tbr_inj (Nat.le_of_ble_eq_true rfl) rfl (by decide) (by decide) (hW _ (by decide) (by decide)) rfl (fun h67 hS68 hE69 => ?_)
              have hmw : mwrI I 0 x.1.toNatClampNeg x = (uI (uC I 7 (5 * 0 + q * 5) 5 (fun j => wn x (1 + j))) 22 0 (nI (g + 1))) := by
                rw [eq, nI_clamp (by omega)]
                unfold mwrI
                rw [if_neg (fun z => by rw [u66] at z; exact absurd z.1 (by decide))]
                rw [eg, show nI g + 1 = nI (g + 1) from nI_add g 1]
              have hMw : MID X ((uI (uC I 7 (5 * 0 + q * 5) 5 (fun j => wn x (1 + j))) 22 0 (nI (g + 1))), Q, Z) := by
                rw [← hmw]
                exact MID_wr (M := (I, Q, Z)) hM (by decide) hlv h2 hu eg (by show (Z (rwi I 0)).2.2[g]? = some x; rw [hrw]; exact hx)
              refine go_s (pc' := 115) rfl rfl rfl rfl ?_
              change sm (tbr am (13 * ln) 77 5088) _ (uI (jn (uC I 7 (5 * 0 + q * 5) 5 (fun j => wn x (1 + j))) K) 22 0 (nI (g + 1))) Y at hS68
              rw [jn_lo (c := 22) (by decide)] at hS68
              have hU70 : RU w B R H hb h67 am ln K ((uI (uC I 7 (5 * 0 + q * 5) 5 (fun j => wn x (1 + j))) 22 0 (nI (g + 1))), Q, Z) := RU_I (hE69) (I' := (uI (uC I 7 (5 * 0 + q * 5) 5 (fun j => wn x (1 + j))) 22 0 (nI (g + 1)))) (fun _ => rfl) (fun _ => rfl) (Nat.le_refl _) hU63
              have hA71 : RA w B R H hb h67 ((uI (uC I 7 (5 * 0 + q * 5) 5 (fun j => wn x (1 + j))) 22 0 (nI (g + 1))), Q, Z) := RA_u.mpr ⟨_, _, _, _, hS68, hU70⟩
              refine go_callV (pc' := 116) rfl rfl rfl (Nat.le_of_ble_eq_true rfl) rfl (sm_o hS68 rfl) rfl rfl rfl (ra_set hA71 (by omega) (X := X) hMw (by omega) hhc (by omega)) (fun r h72 q73 => ?_)
              obtain ⟨rfl, hA74⟩ := q73
              refine go_s (pc' := 117) rfl rfl rfl rfl ?_
              refine go_ret rfl rfl ?_
              have hms : rwr 0 (I, Q, Z) = (x.1, rset 30 ((uI (uC I 7 (5 * 0 + q * 5) 5 (fun j => wn x (1 + j))) 22 0 (nI (g + 1))), Q, Z)) := by
                unfold rwr
                rw [if_pos ⟨hlv, h2, hu, (by show ¬ I 22 0 = nI (Z (rwi I 0)).2.2.length; rw [hrw, eg]; exact c56)⟩]
                have z : (Z (rwi I 0)).2.2[(I 22 0).toNatClampNeg]? = some x := by rw [hrw, eg, nI_clamp (by omega)]; exact hx
                show (match (Z (rwi I 0)).2.2[(I 22 0).toNatClampNeg]? with | some x => (x.1, rset 30 (mwrI I 0 x.1.toNatClampNeg x, Q, Z)) | none => (-1, (I, Q, Z))) = _
                rw [z]
                show (x.1, rset 30 (mwrI I 0 x.1.toNatClampNeg x, Q, Z)) = _
                rw [hmw]
              rw [hms]
              exact ⟨by rw [eq], hA74⟩
            · skip
              show am_Go _ _ _ _ 63 _ [.int 1] _ _
              refine go_ifP (t' := 104) (pc' := 64) rfl rfl rfl (fun (c : (1 : Int32) = 0) => absurd c (by decide)) (fun _ => ?_)
              refine go_s (pc' := 65) rfl rfl rfl rfl ?_
              refine go_s (pc' := 66) rfl rfl rfl rfl ?_
              refine go_sget (pc' := 67) (v := .ref 69) hS61 rfl rfl rfl (by decide) rfl rfl ?_
              refine go_s (pc' := 68) rfl rfl rfl rfl ?_
              refine go_sald (pc' := 69) (q := 1) (v := .int ((uC I 7 (5 * 0 + q * 5) 5 (fun j => wn x (1 + j))) 6 1)) hS61 rfl (tr_s hr (a := 69) rfl (by decide)) rfl rfl (by decide) rfl rfl ?_
              refine go_icmpP (t' := 104) (pc' := 70) rfl rfl rfl (fun (c75 : ((uC I 7 (5 * 0 + q * 5) 5 (fun j => wn x (1 + j))) 6 1) ≤ (nI q)) => ?_) (fun (c75 : ¬ ((uC I 7 (5 * 0 + q * 5) 5 (fun j => wn x (1 + j))) 6 1) ≤ (nI q)) => ?_)
              · skip
                refine go_s (pc' := 105) (lo' := [some (.ref 62), some (.int 0), some (.int (nI (600 + (6 * g)))), some (.int (nI q)), some (.int 2)]) rfl rfl rfl rfl ?_
                refine go_s (pc' := 54) rfl rfl rfl rfl ?_
                refine go_s (pc' := 55) rfl rfl rfl rfl ?_
                refine go_s (pc' := 56) (st' := [.int 2, .int 2]) rfl rfl rfl rfl ?_
                refine go_icmpP (t' := 106) (pc' := 57) rfl rfl rfl (fun _ => ?_) (fun (c : ¬ (2 ≤ (2 : Int32))) => absurd (by decide) c)
                refine go_s (pc' := 107) rfl rfl rfl rfl ?_
                refine go_sget (pc' := 108) (v := .ref 88) hS61 rfl rfl rfl (by decide) rfl rfl ?_
                refine go_s (pc' := 109) rfl rfl rfl rfl ?_
                refine go_s (pc' := 110) rfl rfl rfl rfl ?_
                refine go_sald (pc' := 111) (q := 0) (v := .int (nI g)) hS61 rfl (tr_s hr (a := 88) rfl (by decide)) rfl rfl (by decide) (congrArg Value.int eg) rfl ?_
                refine go_s (pc' := 112) (st' := [.int 1, .int (nI g), .int 0, .ref 88]) rfl rfl rfl rfl ?_
                refine go_nadd (pc' := 113) (a := g) (b := 1) rfl rfl rfl rfl rfl ?_
                refine go_siast (pc' := 114) (q := 0) hS61 rfl (tr_s hr (a := 88) rfl (by decide)) tbr_inj (Nat.le_of_ble_eq_true rfl) rfl (by decide) (by decide) (hW _ (by decide) (by decide)) rfl (fun h76 hS77 hE78 => ?_)
                have hmw : mwrI I 0 x.1.toNatClampNeg x = (uI (uC I 7 (5 * 0 + q * 5) 5 (fun j => wn x (1 + j))) 22 0 (nI (g + 1))) := by
                  rw [eq, nI_clamp (by omega)]
                  unfold mwrI
                  rw [if_neg (fun z => absurd z.2 (Int32.not_lt.mpr c75))]
                  rw [eg, show nI g + 1 = nI (g + 1) from nI_add g 1]
                have hMw : MID X ((uI (uC I 7 (5 * 0 + q * 5) 5 (fun j => wn x (1 + j))) 22 0 (nI (g + 1))), Q, Z) := by
                  rw [← hmw]
                  exact MID_wr (M := (I, Q, Z)) hM (by decide) hlv h2 hu eg (by show (Z (rwi I 0)).2.2[g]? = some x; rw [hrw]; exact hx)
                refine go_s (pc' := 115) rfl rfl rfl rfl ?_
                change sm (tbr am (13 * ln) 77 5088) _ (uI (jn (uC I 7 (5 * 0 + q * 5) 5 (fun j => wn x (1 + j))) K) 22 0 (nI (g + 1))) Y at hS77
                rw [jn_lo (c := 22) (by decide)] at hS77
                have hU79 : RU w B R H hb h76 am ln K ((uI (uC I 7 (5 * 0 + q * 5) 5 (fun j => wn x (1 + j))) 22 0 (nI (g + 1))), Q, Z) := RU_I (hE78) (I' := (uI (uC I 7 (5 * 0 + q * 5) 5 (fun j => wn x (1 + j))) 22 0 (nI (g + 1)))) (fun _ => rfl) (fun _ => rfl) (Nat.le_refl _) hU63
                have hA80 : RA w B R H hb h76 ((uI (uC I 7 (5 * 0 + q * 5) 5 (fun j => wn x (1 + j))) 22 0 (nI (g + 1))), Q, Z) := RA_u.mpr ⟨_, _, _, _, hS77, hU79⟩
                refine go_callV (pc' := 116) rfl rfl rfl (Nat.le_of_ble_eq_true rfl) rfl (sm_o hS77 rfl) rfl rfl rfl (ra_set hA80 (by omega) (X := X) hMw (by omega) hhc (by omega)) (fun r h81 q82 => ?_)
                obtain ⟨rfl, hA83⟩ := q82
                refine go_s (pc' := 117) rfl rfl rfl rfl ?_
                refine go_ret rfl rfl ?_
                have hms : rwr 0 (I, Q, Z) = (x.1, rset 30 ((uI (uC I 7 (5 * 0 + q * 5) 5 (fun j => wn x (1 + j))) 22 0 (nI (g + 1))), Q, Z)) := by
                  unfold rwr
                  rw [if_pos ⟨hlv, h2, hu, (by show ¬ I 22 0 = nI (Z (rwi I 0)).2.2.length; rw [hrw, eg]; exact c56)⟩]
                  have z : (Z (rwi I 0)).2.2[(I 22 0).toNatClampNeg]? = some x := by rw [hrw, eg, nI_clamp (by omega)]; exact hx
                  show (match (Z (rwi I 0)).2.2[(I 22 0).toNatClampNeg]? with | some x => (x.1, rset 30 (mwrI I 0 x.1.toNatClampNeg x, Q, Z)) | none => (-1, (I, Q, Z))) = _
                  rw [z]
                  show (x.1, rset 30 (mwrI I 0 x.1.toNatClampNeg x, Q, Z)) = _
                  rw [hmw]
                rw [hms]
                exact ⟨by rw [eq], hA83⟩
              · skip
                refine go_s (pc' := 71) rfl rfl rfl rfl ?_
                refine go_s (pc' := 72) rfl rfl rfl rfl ?_
                refine go_s (pc' := 73) rfl rfl rfl rfl ?_
                refine go_s (pc' := 74) rfl rfl rfl rfl ?_
                refine go_sget (pc' := 75) (v := .ref 77) hS61 rfl rfl rfl (by decide) rfl rfl ?_
                refine go_s (pc' := 76) rfl rfl rfl rfl ?_
                refine go_s (pc' := 77) (st' := [.int 1, .int (nI (600 + (6 * g))), .ref 77, .int (nI q), .int 1, .ref 62]) rfl rfl rfl rfl ?_
                refine go_nadd (pc' := 78) (a := (600 + (6 * g))) (b := 1) rfl rfl rfl rfl rfl ?_
                refine go_sald (pc' := 79) (q := ((600 + (6 * g)) + 1)) (v := .int (wn x 1)) hS61 rfl (tr_as hr (by omega)) rfl rfl (by omega) (congrArg Value.int (hRw 1 (by decide))) rfl ?_
                refine go_s (pc' := 80) rfl rfl rfl rfl ?_
                refine go_sget (pc' := 81) (v := .ref 77) hS61 rfl rfl rfl (by decide) rfl rfl ?_
                refine go_s (pc' := 82) rfl rfl rfl rfl ?_
                refine go_s (pc' := 83) (st' := [.int 2, .int (nI (600 + (6 * g))), .ref 77, .int (wn x 1), .int (nI q), .int 1, .ref 62]) rfl rfl rfl rfl ?_
                refine go_nadd (pc' := 84) (a := (600 + (6 * g))) (b := 2) rfl rfl rfl rfl rfl ?_
                refine go_sald (pc' := 85) (q := ((600 + (6 * g)) + 2)) (v := .int (wn x 2)) hS61 rfl (tr_as hr (by omega)) rfl rfl (by omega) (congrArg Value.int (hRw 2 (by decide))) rfl ?_
                refine go_s (pc' := 86) rfl rfl rfl rfl ?_
                refine go_sget (pc' := 87) (v := .ref 77) hS61 rfl rfl rfl (by decide) rfl rfl ?_
                refine go_s (pc' := 88) rfl rfl rfl rfl ?_
                refine go_s (pc' := 89) (st' := [.int 3, .int (nI (600 + (6 * g))), .ref 77, .int (wn x 2), .int (wn x 1), .int (nI q), .int 1, .ref 62]) rfl rfl rfl rfl ?_
                refine go_nadd (pc' := 90) (a := (600 + (6 * g))) (b := 3) rfl rfl rfl rfl rfl ?_
                refine go_sald (pc' := 91) (q := ((600 + (6 * g)) + 3)) (v := .int (wn x 3)) hS61 rfl (tr_as hr (by omega)) rfl rfl (by omega) (congrArg Value.int (hRw 3 (by decide))) rfl ?_
                refine go_s (pc' := 92) rfl rfl rfl rfl ?_
                refine go_sget (pc' := 93) (v := .ref 77) hS61 rfl rfl rfl (by decide) rfl rfl ?_
                refine go_s (pc' := 94) rfl rfl rfl rfl ?_
                refine go_s (pc' := 95) (st' := [.int 4, .int (nI (600 + (6 * g))), .ref 77, .int (wn x 3), .int (wn x 2), .int (wn x 1), .int (nI q), .int 1, .ref 62]) rfl rfl rfl rfl ?_
                refine go_nadd (pc' := 96) (a := (600 + (6 * g))) (b := 4) rfl rfl rfl rfl rfl ?_
                refine go_sald (pc' := 97) (q := ((600 + (6 * g)) + 4)) (v := .int (wn x 4)) hS61 rfl (tr_as hr (by omega)) rfl rfl (by omega) (congrArg Value.int (hRw 4 (by decide))) rfl ?_
                refine go_s (pc' := 98) rfl rfl rfl rfl ?_
                refine go_sget (pc' := 99) (v := .ref 77) hS61 rfl rfl rfl (by decide) rfl rfl ?_
                refine go_s (pc' := 100) rfl rfl rfl rfl ?_
                refine go_s (pc' := 101) (st' := [.int 5, .int (nI (600 + (6 * g))), .ref 77, .int (wn x 4), .int (wn x 3), .int (wn x 2), .int (wn x 1), .int (nI q), .int 1, .ref 62]) rfl rfl rfl rfl ?_
                refine go_nadd (pc' := 102) (a := (600 + (6 * g))) (b := 5) rfl rfl rfl rfl rfl ?_
                refine go_sald (pc' := 103) (q := ((600 + (6 * g)) + 5)) (v := .int (wn x 5)) hS61 rfl (tr_as hr (by omega)) rfl rfl (by omega) (congrArg Value.int (hRw 5 (by decide))) rfl ?_
                refine go_callV (pc' := 104) rfl rfl rfl (Nat.le_of_ble_eq_true rfl) rfl (sm_o hS61 rfl) rfl rfl rfl (rt_put_1 hr hS61 hW (q := q) hq (by omega)) (fun r h84 q85 => ?_)
                obtain ⟨rfl, hS86, hE87⟩ := q85
                rw [put_uC (f := (fun j => wn x (1 + j))) (a0 := (wn x 1)) (a1 := (wn x 2)) (a2 := (wn x 3)) (a3 := (wn x 4)) (a4 := (wn x 5)) rfl rfl rfl rfl rfl, uC_jn (by decide)] at hS86
                have hU88 : RU w B R H hb h84 am ln K ((uC (uC I 7 (5 * 0 + q * 5) 5 (fun j => wn x (1 + j))) 7 (5 * 49 + q * 5) 5 (fun j => wn x (1 + j))), Q, Z) := RU_I hE87 (fun _ => rfl) (fun _ => rfl) (Nat.le_refl _) hU63
                refine go_s (pc' := 105) (lo' := [some (.ref 62), some (.int 0), some (.int (nI (600 + (6 * g)))), some (.int (nI q)), some (.int 2)]) rfl rfl rfl rfl ?_
                refine go_s (pc' := 54) rfl rfl rfl rfl ?_
                refine go_s (pc' := 55) rfl rfl rfl rfl ?_
                refine go_s (pc' := 56) (st' := [.int 2, .int 2]) rfl rfl rfl rfl ?_
                refine go_icmpP (t' := 106) (pc' := 57) rfl rfl rfl (fun _ => ?_) (fun (c : ¬ (2 ≤ (2 : Int32))) => absurd (by decide) c)
                refine go_s (pc' := 107) rfl rfl rfl rfl ?_
                refine go_sget (pc' := 108) (v := .ref 88) hS86 rfl rfl rfl (by decide) rfl rfl ?_
                refine go_s (pc' := 109) rfl rfl rfl rfl ?_
                refine go_s (pc' := 110) rfl rfl rfl rfl ?_
                refine go_sald (pc' := 111) (q := 0) (v := .int (nI g)) hS86 rfl (tr_s hr (a := 88) rfl (by decide)) rfl rfl (by decide) (congrArg Value.int eg) rfl ?_
                refine go_s (pc' := 112) (st' := [.int 1, .int (nI g), .int 0, .ref 88]) rfl rfl rfl rfl ?_
                refine go_nadd (pc' := 113) (a := g) (b := 1) rfl rfl rfl rfl rfl ?_
                refine go_siast (pc' := 114) (q := 0) hS86 rfl (tr_s hr (a := 88) rfl (by decide)) tbr_inj (Nat.le_of_ble_eq_true rfl) rfl (by decide) (by decide) (hW _ (by decide) (by decide)) rfl (fun h89 hS90 hE91 => ?_)
                have hmw : mwrI I 0 x.1.toNatClampNeg x = (uI (uC (uC I 7 (5 * 0 + q * 5) 5 (fun j => wn x (1 + j))) 7 (5 * 49 + q * 5) 5 (fun j => wn x (1 + j))) 22 0 (nI (g + 1))) := by
                  rw [eq, nI_clamp (by omega)]
                  unfold mwrI
                  rw [if_pos ⟨u66, Int32.not_le.mp c75⟩]
                  rw [eg, show nI g + 1 = nI (g + 1) from nI_add g 1]
                have hMw : MID X ((uI (uC (uC I 7 (5 * 0 + q * 5) 5 (fun j => wn x (1 + j))) 7 (5 * 49 + q * 5) 5 (fun j => wn x (1 + j))) 22 0 (nI (g + 1))), Q, Z) := by
                  rw [← hmw]
                  exact MID_wr (M := (I, Q, Z)) hM (by decide) hlv h2 hu eg (by show (Z (rwi I 0)).2.2[g]? = some x; rw [hrw]; exact hx)
                refine go_s (pc' := 115) rfl rfl rfl rfl ?_
                change sm (tbr am (13 * ln) 77 5088) _ (uI (jn (uC (uC I 7 (5 * 0 + q * 5) 5 (fun j => wn x (1 + j))) 7 (5 * 49 + q * 5) 5 (fun j => wn x (1 + j))) K) 22 0 (nI (g + 1))) Y at hS90
                rw [jn_lo (c := 22) (by decide)] at hS90
                have hU92 : RU w B R H hb h89 am ln K ((uI (uC (uC I 7 (5 * 0 + q * 5) 5 (fun j => wn x (1 + j))) 7 (5 * 49 + q * 5) 5 (fun j => wn x (1 + j))) 22 0 (nI (g + 1))), Q, Z) := RU_I (hE91) (I' := (uI (uC (uC I 7 (5 * 0 + q * 5) 5 (fun j => wn x (1 + j))) 7 (5 * 49 + q * 5) 5 (fun j => wn x (1 + j))) 22 0 (nI (g + 1)))) (fun _ => rfl) (fun _ => rfl) (Nat.le_refl _) hU88
                have hA93 : RA w B R H hb h89 ((uI (uC (uC I 7 (5 * 0 + q * 5) 5 (fun j => wn x (1 + j))) 7 (5 * 49 + q * 5) 5 (fun j => wn x (1 + j))) 22 0 (nI (g + 1))), Q, Z) := RA_u.mpr ⟨_, _, _, _, hS90, hU92⟩
                refine go_callV (pc' := 116) rfl rfl rfl (Nat.le_of_ble_eq_true rfl) rfl (sm_o hS90 rfl) rfl rfl rfl (ra_set hA93 (by omega) (X := X) hMw (by omega) hhc (by omega)) (fun r h94 q95 => ?_)
                obtain ⟨rfl, hA96⟩ := q95
                refine go_s (pc' := 117) rfl rfl rfl rfl ?_
                refine go_ret rfl rfl ?_
                have hms : rwr 0 (I, Q, Z) = (x.1, rset 30 ((uI (uC (uC I 7 (5 * 0 + q * 5) 5 (fun j => wn x (1 + j))) 7 (5 * 49 + q * 5) 5 (fun j => wn x (1 + j))) 22 0 (nI (g + 1))), Q, Z)) := by
                  unfold rwr
                  rw [if_pos ⟨hlv, h2, hu, (by show ¬ I 22 0 = nI (Z (rwi I 0)).2.2.length; rw [hrw, eg]; exact c56)⟩]
                  have z : (Z (rwi I 0)).2.2[(I 22 0).toNatClampNeg]? = some x := by rw [hrw, eg, nI_clamp (by omega)]; exact hx
                  show (match (Z (rwi I 0)).2.2[(I 22 0).toNatClampNeg]? with | some x => (x.1, rset 30 (mwrI I 0 x.1.toNatClampNeg x, Q, Z)) | none => (-1, (I, Q, Z))) = _
                  rw [z]
                  show (x.1, rset 30 (mwrI I 0 x.1.toNatClampNeg x, Q, Z)) = _
                  rw [hmw]
                rw [hms]
                exact ⟨by rw [eq], hA96⟩
          · skip
            have c56 : (nI g) = (nI (List.length (Z 1).2.2)) := Decidable.not_not.mp c56'
            refine go_s (pc' := 33) (st' := [.int (-1)]) rfl rfl rfl rfl ?_
            refine go_ret rfl rfl ?_
            have hms : rwr 0 (I, Q, Z) = (-1, (I, Q, Z)) := if_neg (fun z => z.2.2.2 (by show I 22 0 = nI (Z (rwi I 0)).2.2.length; rw [hrw, eg]; exact c56))
            rw [hms]
            exact ⟨rfl, RA_R (by omega) hA⟩
theorem ra_wr_1 {w : Nat → Bool} {d B R : Nat} {H : List (Nat × mg)} {hb : Bool} {h : am_Hp} {I : sm_I} {Q : mQ} {Z : mZ} (hA : RA w B R H hb h (I, Q, Z)) (hR : R + 4 < 40000) {X : Nat} (hM : MID X (I, Q, Z)) (hX : X + 50 < 2 ^ 28) (hhc : hc H hb = 0) (hd : 10 ≤ d) : am_Ev (am_prog w) d 137 [.ref 62, .int 1] h (fun r h' => r = some (.int (rwr 1 (I, Q, Z)).1) ∧ RA w B (R + 2) H hb h' (rwr 1 (I, Q, Z)).2) := by
  obtain ⟨K, Y, am, ln, hS, hU⟩ := RA_u.mp hA
  change sm (tbr am (13 * ln) 77 5088) h (jn I K) Y at hS
  obtain ⟨hW, hWm, -, -, hr, -⟩ := id hU.1
  have hln := RU_ln hU (by omega)
  obtain ⟨d, rfl⟩ : ∃ e, d = e + 1 := ⟨d - 1, by omega⟩
  refine ev_go rfl (Nat.le_of_ble_eq_true rfl) rfl ?_
  have hp0 : prk I 0 := (hM.2.2.1 0 (by decide)).1
  have hp1 : prk I 1 := (hM.2.2.1 1 (by decide)).1
  have hp2 : prk I 2 := (hM.2.2.1 2 (by decide)).1
  refine go_s (pc' := 1) rfl rfl rfl rfl ?_
  refine go_s (pc' := 2) (st' := [.int 0, .int 1]) rfl rfl rfl rfl ?_
  refine go_s (pc' := 3) (st' := [.int 1, .int 0, .int 1]) rfl rfl rfl rfl ?_
  refine go_callS (pc' := 4) rfl rfl rfl (Nat.le_of_ble_eq_true rfl) rfl rfl rfl (rt_within_t (q := 1) (n := 1) (by decide) (by decide) (by omega)) (fun r h1 q2 => ?_)
  obtain ⟨rfl, rfl⟩ := q2
  refine go_ifP (t' := 32) (pc' := 5) rfl rfl rfl (fun (c : (1 : Int32) = 0) => absurd c (by decide)) (fun _ => ?_)
  refine go_s (pc' := 6) rfl rfl rfl rfl ?_
  refine go_s (pc' := 7) (st' := [.int 0, .ref 62]) rfl rfl rfl rfl ?_
  refine go_callV (pc' := 8) rfl rfl rfl (Nat.le_of_ble_eq_true rfl) rfl (sm_o hS rfl) rfl rfl rfl (rt_lives_0 hr hS hp0 (by omega)) (fun r h3 q4 => ?_)
  obtain ⟨rfl, rfl⟩ := q4
  rw [show lv (jn I K) 0 = lv I 0 from rfl]
  cases u5 : lv I 0
  · skip
    show am_Go _ _ _ _ 8 _ [.int 0] _ _
    refine go_ifP (t' := 32) (pc' := 9) rfl rfl rfl (fun _ => ?_) (fun (c : ¬ ((0 : Int32) = 0)) => absurd (by decide) c)
    refine go_s (pc' := 33) (st' := [.int (-1)]) rfl rfl rfl rfl ?_
    refine go_ret rfl rfl ?_
    have hms : rwr 1 (I, Q, Z) = (-1, (I, Q, Z)) := if_neg (fun z => by rw [show lv (I, Q, Z).1 0 = false from u5] at z; exact absurd z.1 (by decide))
    rw [hms]
    exact ⟨rfl, RA_R (by omega) hA⟩
  · skip
    show am_Go _ _ _ _ 8 _ [.int 1] _ _
    refine go_ifP (t' := 32) (pc' := 9) rfl rfl rfl (fun (c : (1 : Int32) = 0) => absurd c (by decide)) (fun _ => ?_)
    refine go_s (pc' := 10) rfl rfl rfl rfl ?_
    refine go_sget (pc' := 11) (v := .ref 83) hS rfl rfl rfl (by decide) rfl rfl ?_
    refine go_s (pc' := 12) (st' := [.int 0, .ref 83]) rfl rfl rfl rfl ?_
    refine go_sald (pc' := 13) (q := 0) (v := .int (I 16 0)) hS rfl (tr_s hr (a := 83) rfl (by decide)) rfl rfl (by decide) rfl rfl ?_
    refine go_s (pc' := 14) (st' := [.int 2, .int (I 16 0)]) rfl rfl rfl rfl ?_
    refine go_icmpP (t' := 32) (pc' := 15) rfl rfl rfl (fun (c6 : ¬ (I 16 0) = 2) => ?_) (fun (c6' : ¬ ¬ (I 16 0) = 2) => ?_)
    · skip
      refine go_s (pc' := 33) (st' := [.int (-1)]) rfl rfl rfl rfl ?_
      refine go_ret rfl rfl ?_
      have hms : rwr 1 (I, Q, Z) = (-1, (I, Q, Z)) := if_neg (fun z => c6 z.2.1)
      rw [hms]
      exact ⟨rfl, RA_R (by omega) hA⟩
    · skip
      have c6 : (I 16 0) = 2 := Decidable.not_not.mp c6'
      refine go_s (pc' := 16) rfl rfl rfl rfl ?_
      refine go_s (pc' := 17) rfl rfl rfl rfl ?_
      refine go_callV (pc' := 18) rfl rfl rfl (Nat.le_of_ble_eq_true rfl) rfl (sm_o hS rfl) rfl rfl rfl (rt_us_1 hr hS (by omega)) (fun r h7 q8 => ?_)
      obtain ⟨rfl, rfl⟩ := q8
      rw [show us (jn I K) 1 = us I 1 from rfl]
      cases u9 : us I 1
      · skip
        show am_Go _ _ _ _ 18 _ [.int 0] _ _
        refine go_ifP (t' := 32) (pc' := 19) rfl rfl rfl (fun _ => ?_) (fun (c : ¬ ((0 : Int32) = 0)) => absurd (by decide) c)
        refine go_s (pc' := 33) (st' := [.int (-1)]) rfl rfl rfl rfl ?_
        refine go_ret rfl rfl ?_
        have hms : rwr 1 (I, Q, Z) = (-1, (I, Q, Z)) := if_neg (fun z => by rw [show us (I, Q, Z).1 1 = false from u9] at z; exact absurd z.2.2.1 (by decide))
        rw [hms]
        exact ⟨rfl, RA_R (by omega) hA⟩
      · skip
        show am_Go _ _ _ _ 18 _ [.int 1] _ _
        refine go_ifP (t' := 32) (pc' := 19) rfl rfl rfl (fun (c : (1 : Int32) = 0) => absurd c (by decide)) (fun _ => ?_)
        have hlv : lv I 0 = true := u5
        have h2 : I 16 0 = 2 := c6
        have hu : us I 1 = true := u9
        obtain ⟨g, hg, eg⟩ := hM.2.2.2.2.1.2.2.2.2.2.2 h2 1 (by decide) (us_5 hM.2.1 (by decide) hu).2
        change I 22 1 = nI g at eg
        change g ≤ (Z (rwi I 0)).2.2.length at hg
        have hOK := MID_OK hM
        have hwb := hOK.2.2.2.2.1
        rcases hp0 with e10 | e10 | e10
        · skip
          exact absurd e10 (lv_up hlv).1
        · skip
          have hrw : rwi I 0 = 0 := rwi_l (v := 0) e10 (by decide)
          change (Z (rwi I 0)).2.2.length ≤ 35 at hwb
          rw [hrw] at hg hwb
          refine go_s (pc' := 20) rfl rfl rfl rfl ?_
          refine go_sget (pc' := 21) (v := .ref 88) hS rfl rfl rfl (by decide) rfl rfl ?_
          refine go_s (pc' := 22) rfl rfl rfl rfl ?_
          refine go_sald (pc' := 23) (q := 1) (v := .int (nI g)) hS rfl (tr_s hr (a := 88) rfl (by decide)) rfl rfl (by decide) (congrArg Value.int eg) rfl ?_
          refine go_s (pc' := 24) rfl rfl rfl rfl ?_
          refine go_sget (pc' := 25) (v := .ref 77) hS rfl rfl rfl (by decide) rfl rfl ?_
          refine go_s (pc' := 26) rfl rfl rfl rfl ?_
          refine go_s (pc' := 27) (st' := [.int 0, .ref 62, .ref 77, .int (nI g)]) rfl rfl rfl rfl ?_
          refine go_callV (pc' := 28) rfl rfl rfl (Nat.le_of_ble_eq_true rfl) rfl (sm_o hS rfl) rfl rfl rfl (rt_at_0 hr hS (Or.inr (Or.inl e10)) (fun z => absurd (e10.symm.trans z) (by decide)) (by omega)) (fun r h11 q12 => ?_)
          obtain ⟨rfl, rfl⟩ := q12
          rw [show rwi (jn I K) 0 = 0 by unfold rwi pn; rw [show (jn I K) 11 0 = 0 from e10]; rfl]
          show am_Go _ _ _ _ 28 _ [.int 0, .ref 77, .int (nI g)] _ _
          refine go_s (pc' := 29) (st' := [.int 5, .int 0, .ref 77, .int (nI g)]) rfl rfl rfl rfl ?_
          refine go_s (pc' := 30) (st' := [.int 5, .ref 77, .int (nI g)]) rfl rfl rfl rfl ?_
          refine go_sald (pc' := 31) (q := 5) (v := .int (nI (List.length (Z 0).2.2))) hS rfl (tr_as hr (by omega)) rfl rfl (by decide) (congrArg Value.int (RR_row hU.2.1 (i := 0) (by decide)).1.2.2.1) rfl ?_
          refine go_icmpP (t' := 34) (pc' := 32) rfl rfl rfl (fun (c13 : ¬ (nI g) = (nI (List.length (Z 0).2.2))) => ?_) (fun (c13' : ¬ ¬ (nI g) = (nI (List.length (Z 0).2.2))) => ?_)
          · skip
            have hgl : g < (Z 0).2.2.length := by
              have z : g ≠ (Z 0).2.2.length := fun e => c13 (by rw [e])
              omega
            obtain ⟨x, hx⟩ : ∃ x, (Z 0).2.2[g]? = some x := ⟨_, List.getElem?_eq_getElem hgl⟩
            have hwbx : WB (Z 0) := by
              have z := hOK.2.1
              change WB (Z (rwi I 0)) at z
              rw [hrw] at z
              exact z
            obtain ⟨q, hq, eq⟩ := hwbx g x hx
            have hRw := (RR_row hU.2.1 (i := 0) (by decide)).1.2.2.2.2 g x hx
            refine go_s (pc' := 35) rfl rfl rfl rfl ?_
            refine go_s (pc' := 36) (st' := [.int 0, .ref 62]) rfl rfl rfl rfl ?_
            refine go_callV (pc' := 37) rfl rfl rfl (Nat.le_of_ble_eq_true rfl) rfl (sm_o hS rfl) rfl rfl rfl (rt_at_0 hr hS (Or.inr (Or.inl e10)) (fun z => absurd (e10.symm.trans z) (by decide)) (by omega)) (fun r h14 q15 => ?_)
            obtain ⟨rfl, rfl⟩ := q15
            rw [show rwi (jn I K) 0 = 0 by unfold rwi pn; rw [show (jn I K) 11 0 = 0 from e10]; rfl]
            show am_Go _ _ _ _ 37 _ [.int 0] _ _
            refine go_s (pc' := 38) (st' := [.int 176, .int 0]) rfl rfl rfl rfl ?_
            refine go_s (pc' := 39) (st' := [.int 176]) rfl rfl rfl rfl ?_
            refine go_s (pc' := 40) (st' := [.int 6, .int 176]) rfl rfl rfl rfl ?_
            refine go_s (pc' := 41) rfl rfl rfl rfl ?_
            refine go_sget (pc' := 42) (v := .ref 88) hS rfl rfl rfl (by decide) rfl rfl ?_
            refine go_s (pc' := 43) rfl rfl rfl rfl ?_
            refine go_sald (pc' := 44) (q := 1) (v := .int (nI g)) hS rfl (tr_s hr (a := 88) rfl (by decide)) rfl rfl (by decide) (congrArg Value.int eg) rfl ?_
            refine go_nmul (pc' := 45) (a := 6) (b := g) rfl rfl rfl rfl rfl ?_
            refine go_nadd (pc' := 46) (a := 176) (b := (6 * g)) rfl rfl rfl rfl rfl ?_
            refine go_s (pc' := 47) (lo' := [some (.ref 62), some (.int 1), some (.int (nI (176 + (6 * g)))), none, none]) rfl rfl rfl rfl ?_
            refine go_s (pc' := 48) rfl rfl rfl rfl ?_
            refine go_sget (pc' := 49) (v := .ref 77) hS rfl rfl rfl (by decide) rfl rfl ?_
            refine go_s (pc' := 50) rfl rfl rfl rfl ?_
            refine go_sald (pc' := 51) (q := (176 + (6 * g))) (v := .int (nI q)) hS rfl (tr_as hr (by omega)) rfl rfl (by omega) (congrArg Value.int ((hRw 0 (by decide)).trans eq)) rfl ?_
            refine go_s (pc' := 52) (lo' := [some (.ref 62), some (.int 1), some (.int (nI (176 + (6 * g)))), some (.int (nI q)), none]) rfl rfl rfl rfl ?_
            refine go_s (pc' := 53) (st' := [.int 0]) rfl rfl rfl rfl ?_
            refine go_s (pc' := 54) (lo' := [some (.ref 62), some (.int 1), some (.int (nI (176 + (6 * g)))), some (.int (nI q)), some (.int 0)]) rfl rfl rfl rfl ?_
            refine go_s (pc' := 55) rfl rfl rfl rfl ?_
            refine go_s (pc' := 56) (st' := [.int 2, .int 0]) rfl rfl rfl rfl ?_
            refine go_icmpP (t' := 106) (pc' := 57) rfl rfl rfl (fun (c : 2 ≤ (0 : Int32)) => absurd c (by decide)) (fun _ => ?_)
            refine go_s (pc' := 58) rfl rfl rfl rfl ?_
            refine go_s (pc' := 59) rfl rfl rfl rfl ?_
            refine go_icmpP (t' := 70) (pc' := 60) rfl rfl rfl (fun (c : (0 : Int32) = 1) => absurd c (by decide)) (fun _ => ?_)
            refine go_s (pc' := 61) rfl rfl rfl rfl ?_
            refine go_s (pc' := 62) rfl rfl rfl rfl ?_
            refine go_callV (pc' := 63) rfl rfl rfl (Nat.le_of_ble_eq_true rfl) rfl (sm_o hS rfl) rfl rfl rfl (rt_rv_0 hr hS (by omega)) (fun r h16 q17 => ?_)
            obtain ⟨rfl, rfl⟩ := q17
            rw [show rv (jn I K) 0 = rv I 0 from rfl]
            cases u18 : rv I 0
            · skip
              show am_Go _ _ _ _ 63 _ [.int 0] _ _
              refine go_ifP (t' := 104) (pc' := 64) rfl rfl rfl (fun _ => ?_) (fun (c : ¬ ((0 : Int32) = 0)) => absurd (by decide) c)
              refine go_s (pc' := 105) (lo' := [some (.ref 62), some (.int 1), some (.int (nI (176 + (6 * g)))), some (.int (nI q)), some (.int 1)]) rfl rfl rfl rfl ?_
              refine go_s (pc' := 54) rfl rfl rfl rfl ?_
              refine go_s (pc' := 55) rfl rfl rfl rfl ?_
              refine go_s (pc' := 56) (st' := [.int 2, .int 1]) rfl rfl rfl rfl ?_
              refine go_icmpP (t' := 106) (pc' := 57) rfl rfl rfl (fun (c : 2 ≤ (1 : Int32)) => absurd c (by decide)) (fun _ => ?_)
              refine go_s (pc' := 58) rfl rfl rfl rfl ?_
              refine go_s (pc' := 59) rfl rfl rfl rfl ?_
              refine go_icmpP (t' := 70) (pc' := 60) rfl rfl rfl (fun _ => ?_) (fun (c : ¬ ((1 : Int32) = 1)) => absurd (by decide) c)
              refine go_s (pc' := 71) rfl rfl rfl rfl ?_
              refine go_s (pc' := 72) rfl rfl rfl rfl ?_
              refine go_s (pc' := 73) rfl rfl rfl rfl ?_
              refine go_s (pc' := 74) rfl rfl rfl rfl ?_
              refine go_sget (pc' := 75) (v := .ref 77) hS rfl rfl rfl (by decide) rfl rfl ?_
              refine go_s (pc' := 76) rfl rfl rfl rfl ?_
              refine go_s (pc' := 77) (st' := [.int 1, .int (nI (176 + (6 * g))), .ref 77, .int (nI q), .int 1, .ref 62]) rfl rfl rfl rfl ?_
              refine go_nadd (pc' := 78) (a := (176 + (6 * g))) (b := 1) rfl rfl rfl rfl rfl ?_
              refine go_sald (pc' := 79) (q := ((176 + (6 * g)) + 1)) (v := .int (wn x 1)) hS rfl (tr_as hr (by omega)) rfl rfl (by omega) (congrArg Value.int (hRw 1 (by decide))) rfl ?_
              refine go_s (pc' := 80) rfl rfl rfl rfl ?_
              refine go_sget (pc' := 81) (v := .ref 77) hS rfl rfl rfl (by decide) rfl rfl ?_
              refine go_s (pc' := 82) rfl rfl rfl rfl ?_
              refine go_s (pc' := 83) (st' := [.int 2, .int (nI (176 + (6 * g))), .ref 77, .int (wn x 1), .int (nI q), .int 1, .ref 62]) rfl rfl rfl rfl ?_
              refine go_nadd (pc' := 84) (a := (176 + (6 * g))) (b := 2) rfl rfl rfl rfl rfl ?_
              refine go_sald (pc' := 85) (q := ((176 + (6 * g)) + 2)) (v := .int (wn x 2)) hS rfl (tr_as hr (by omega)) rfl rfl (by omega) (congrArg Value.int (hRw 2 (by decide))) rfl ?_
              refine go_s (pc' := 86) rfl rfl rfl rfl ?_
              refine go_sget (pc' := 87) (v := .ref 77) hS rfl rfl rfl (by decide) rfl rfl ?_
              refine go_s (pc' := 88) rfl rfl rfl rfl ?_
              refine go_s (pc' := 89) (st' := [.int 3, .int (nI (176 + (6 * g))), .ref 77, .int (wn x 2), .int (wn x 1), .int (nI q), .int 1, .ref 62]) rfl rfl rfl rfl ?_
              refine go_nadd (pc' := 90) (a := (176 + (6 * g))) (b := 3) rfl rfl rfl rfl rfl ?_
              refine go_sald (pc' := 91) (q := ((176 + (6 * g)) + 3)) (v := .int (wn x 3)) hS rfl (tr_as hr (by omega)) rfl rfl (by omega) (congrArg Value.int (hRw 3 (by decide))) rfl ?_
              refine go_s (pc' := 92) rfl rfl rfl rfl ?_
              refine go_sget (pc' := 93) (v := .ref 77) hS rfl rfl rfl (by decide) rfl rfl ?_
              refine go_s (pc' := 94) rfl rfl rfl rfl ?_
              refine go_s (pc' := 95) (st' := [.int 4, .int (nI (176 + (6 * g))), .ref 77, .int (wn x 3), .int (wn x 2), .int (wn x 1), .int (nI q), .int 1, .ref 62]) rfl rfl rfl rfl ?_
              refine go_nadd (pc' := 96) (a := (176 + (6 * g))) (b := 4) rfl rfl rfl rfl rfl ?_
              refine go_sald (pc' := 97) (q := ((176 + (6 * g)) + 4)) (v := .int (wn x 4)) hS rfl (tr_as hr (by omega)) rfl rfl (by omega) (congrArg Value.int (hRw 4 (by decide))) rfl ?_
              refine go_s (pc' := 98) rfl rfl rfl rfl ?_
              refine go_sget (pc' := 99) (v := .ref 77) hS rfl rfl rfl (by decide) rfl rfl ?_
              refine go_s (pc' := 100) rfl rfl rfl rfl ?_
              refine go_s (pc' := 101) (st' := [.int 5, .int (nI (176 + (6 * g))), .ref 77, .int (wn x 4), .int (wn x 3), .int (wn x 2), .int (wn x 1), .int (nI q), .int 1, .ref 62]) rfl rfl rfl rfl ?_
              refine go_nadd (pc' := 102) (a := (176 + (6 * g))) (b := 5) rfl rfl rfl rfl rfl ?_
              refine go_sald (pc' := 103) (q := ((176 + (6 * g)) + 5)) (v := .int (wn x 5)) hS rfl (tr_as hr (by omega)) rfl rfl (by omega) (congrArg Value.int (hRw 5 (by decide))) rfl ?_
              refine go_callV (pc' := 104) rfl rfl rfl (Nat.le_of_ble_eq_true rfl) rfl (sm_o hS rfl) rfl rfl rfl (rt_put_1 hr hS hW (q := q) hq (by omega)) (fun r h19 q20 => ?_)
              obtain ⟨rfl, hS21, hE22⟩ := q20
              rw [put_uC (f := (fun j => wn x (1 + j))) (a0 := (wn x 1)) (a1 := (wn x 2)) (a2 := (wn x 3)) (a3 := (wn x 4)) (a4 := (wn x 5)) rfl rfl rfl rfl rfl, uC_jn (by decide)] at hS21
              have hU23 : RU w B R H hb h19 am ln K ((uC I 7 (5 * 49 + q * 5) 5 (fun j => wn x (1 + j))), Q, Z) := RU_I hE22 (fun _ => rfl) (fun _ => rfl) (Nat.le_refl _) hU
              refine go_s (pc' := 105) (lo' := [some (.ref 62), some (.int 1), some (.int (nI (176 + (6 * g)))), some (.int (nI q)), some (.int 2)]) rfl rfl rfl rfl ?_
              refine go_s (pc' := 54) rfl rfl rfl rfl ?_
              refine go_s (pc' := 55) rfl rfl rfl rfl ?_
              refine go_s (pc' := 56) (st' := [.int 2, .int 2]) rfl rfl rfl rfl ?_
              refine go_icmpP (t' := 106) (pc' := 57) rfl rfl rfl (fun _ => ?_) (fun (c : ¬ (2 ≤ (2 : Int32))) => absurd (by decide) c)
              refine go_s (pc' := 107) rfl rfl rfl rfl ?_
              refine go_sget (pc' := 108) (v := .ref 88) hS21 rfl rfl rfl (by decide) rfl rfl ?_
              refine go_s (pc' := 109) rfl rfl rfl rfl ?_
              refine go_s (pc' := 110) rfl rfl rfl rfl ?_
              refine go_sald (pc' := 111) (q := 1) (v := .int (nI g)) hS21 rfl (tr_s hr (a := 88) rfl (by decide)) rfl rfl (by decide) (congrArg Value.int eg) rfl ?_
              refine go_s (pc' := 112) (st' := [.int 1, .int (nI g), .int 1, .ref 88]) rfl rfl rfl rfl ?_
              refine go_nadd (pc' := 113) (a := g) (b := 1) rfl rfl rfl rfl rfl ?_
              refine go_siast (pc' := 114) (q := 1) hS21 rfl (tr_s hr (a := 88) rfl (by decide)) tbr_inj (Nat.le_of_ble_eq_true rfl) rfl (by decide) (by decide) (hW _ (by decide) (by decide)) rfl (fun h24 hS25 hE26 => ?_)
              have hmw : mwrI I 1 x.1.toNatClampNeg x = (uI (uC I 7 (5 * 49 + q * 5) 5 (fun j => wn x (1 + j))) 22 1 (nI (g + 1))) := by
                rw [eq, nI_clamp (by omega)]
                unfold mwrI
                rw [if_neg (fun z => by rw [u18] at z; exact absurd z.1 (by decide))]
                rw [eg, show nI g + 1 = nI (g + 1) from nI_add g 1]
              have hMw : MID X ((uI (uC I 7 (5 * 49 + q * 5) 5 (fun j => wn x (1 + j))) 22 1 (nI (g + 1))), Q, Z) := by
                rw [← hmw]
                exact MID_wr (M := (I, Q, Z)) hM (by decide) hlv h2 hu eg (by show (Z (rwi I 0)).2.2[g]? = some x; rw [hrw]; exact hx)
              refine go_s (pc' := 115) rfl rfl rfl rfl ?_
              change sm (tbr am (13 * ln) 77 5088) _ (uI (jn (uC I 7 (5 * 49 + q * 5) 5 (fun j => wn x (1 + j))) K) 22 1 (nI (g + 1))) Y at hS25
              rw [jn_lo (c := 22) (by decide)] at hS25
              have hU27 : RU w B R H hb h24 am ln K ((uI (uC I 7 (5 * 49 + q * 5) 5 (fun j => wn x (1 + j))) 22 1 (nI (g + 1))), Q, Z) := RU_I (hE26) (I' := (uI (uC I 7 (5 * 49 + q * 5) 5 (fun j => wn x (1 + j))) 22 1 (nI (g + 1)))) (fun _ => rfl) (fun _ => rfl) (Nat.le_refl _) hU23
              have hA28 : RA w B R H hb h24 ((uI (uC I 7 (5 * 49 + q * 5) 5 (fun j => wn x (1 + j))) 22 1 (nI (g + 1))), Q, Z) := RA_u.mpr ⟨_, _, _, _, hS25, hU27⟩
              refine go_callV (pc' := 116) rfl rfl rfl (Nat.le_of_ble_eq_true rfl) rfl (sm_o hS25 rfl) rfl rfl rfl (ra_set hA28 (by omega) (X := X) hMw (by omega) hhc (by omega)) (fun r h29 q30 => ?_)
              obtain ⟨rfl, hA31⟩ := q30
              refine go_s (pc' := 117) rfl rfl rfl rfl ?_
              refine go_ret rfl rfl ?_
              have hms : rwr 1 (I, Q, Z) = (x.1, rset 30 ((uI (uC I 7 (5 * 49 + q * 5) 5 (fun j => wn x (1 + j))) 22 1 (nI (g + 1))), Q, Z)) := by
                unfold rwr
                rw [if_pos ⟨hlv, h2, hu, (by show ¬ I 22 1 = nI (Z (rwi I 0)).2.2.length; rw [hrw, eg]; exact c13)⟩]
                have z : (Z (rwi I 0)).2.2[(I 22 1).toNatClampNeg]? = some x := by rw [hrw, eg, nI_clamp (by omega)]; exact hx
                show (match (Z (rwi I 0)).2.2[(I 22 1).toNatClampNeg]? with | some x => (x.1, rset 30 (mwrI I 1 x.1.toNatClampNeg x, Q, Z)) | none => (-1, (I, Q, Z))) = _
                rw [z]
                show (x.1, rset 30 (mwrI I 1 x.1.toNatClampNeg x, Q, Z)) = _
                rw [hmw]
              rw [hms]
              exact ⟨by rw [eq], hA31⟩
            · skip
              show am_Go _ _ _ _ 63 _ [.int 1] _ _
              refine go_ifP (t' := 104) (pc' := 64) rfl rfl rfl (fun (c : (1 : Int32) = 0) => absurd c (by decide)) (fun _ => ?_)
              refine go_s (pc' := 65) rfl rfl rfl rfl ?_
              refine go_s (pc' := 66) rfl rfl rfl rfl ?_
              refine go_sget (pc' := 67) (v := .ref 69) hS rfl rfl rfl (by decide) rfl rfl ?_
              refine go_s (pc' := 68) rfl rfl rfl rfl ?_
              refine go_sald (pc' := 69) (q := 0) (v := .int (I 6 0)) hS rfl (tr_s hr (a := 69) rfl (by decide)) rfl rfl (by decide) rfl rfl ?_
              refine go_icmpP (t' := 104) (pc' := 70) rfl rfl rfl (fun (c32 : (I 6 0) ≤ (nI q)) => ?_) (fun (c32 : ¬ (I 6 0) ≤ (nI q)) => ?_)
              · skip
                refine go_s (pc' := 105) (lo' := [some (.ref 62), some (.int 1), some (.int (nI (176 + (6 * g)))), some (.int (nI q)), some (.int 1)]) rfl rfl rfl rfl ?_
                refine go_s (pc' := 54) rfl rfl rfl rfl ?_
                refine go_s (pc' := 55) rfl rfl rfl rfl ?_
                refine go_s (pc' := 56) (st' := [.int 2, .int 1]) rfl rfl rfl rfl ?_
                refine go_icmpP (t' := 106) (pc' := 57) rfl rfl rfl (fun (c : 2 ≤ (1 : Int32)) => absurd c (by decide)) (fun _ => ?_)
                refine go_s (pc' := 58) rfl rfl rfl rfl ?_
                refine go_s (pc' := 59) rfl rfl rfl rfl ?_
                refine go_icmpP (t' := 70) (pc' := 60) rfl rfl rfl (fun _ => ?_) (fun (c : ¬ ((1 : Int32) = 1)) => absurd (by decide) c)
                refine go_s (pc' := 71) rfl rfl rfl rfl ?_
                refine go_s (pc' := 72) rfl rfl rfl rfl ?_
                refine go_s (pc' := 73) rfl rfl rfl rfl ?_
                refine go_s (pc' := 74) rfl rfl rfl rfl ?_
                refine go_sget (pc' := 75) (v := .ref 77) hS rfl rfl rfl (by decide) rfl rfl ?_
                refine go_s (pc' := 76) rfl rfl rfl rfl ?_
                refine go_s (pc' := 77) (st' := [.int 1, .int (nI (176 + (6 * g))), .ref 77, .int (nI q), .int 1, .ref 62]) rfl rfl rfl rfl ?_
                refine go_nadd (pc' := 78) (a := (176 + (6 * g))) (b := 1) rfl rfl rfl rfl rfl ?_
                refine go_sald (pc' := 79) (q := ((176 + (6 * g)) + 1)) (v := .int (wn x 1)) hS rfl (tr_as hr (by omega)) rfl rfl (by omega) (congrArg Value.int (hRw 1 (by decide))) rfl ?_
                refine go_s (pc' := 80) rfl rfl rfl rfl ?_
                refine go_sget (pc' := 81) (v := .ref 77) hS rfl rfl rfl (by decide) rfl rfl ?_
                refine go_s (pc' := 82) rfl rfl rfl rfl ?_
                refine go_s (pc' := 83) (st' := [.int 2, .int (nI (176 + (6 * g))), .ref 77, .int (wn x 1), .int (nI q), .int 1, .ref 62]) rfl rfl rfl rfl ?_
                refine go_nadd (pc' := 84) (a := (176 + (6 * g))) (b := 2) rfl rfl rfl rfl rfl ?_
                refine go_sald (pc' := 85) (q := ((176 + (6 * g)) + 2)) (v := .int (wn x 2)) hS rfl (tr_as hr (by omega)) rfl rfl (by omega) (congrArg Value.int (hRw 2 (by decide))) rfl ?_
                refine go_s (pc' := 86) rfl rfl rfl rfl ?_
                refine go_sget (pc' := 87) (v := .ref 77) hS rfl rfl rfl (by decide) rfl rfl ?_
                refine go_s (pc' := 88) rfl rfl rfl rfl ?_
                refine go_s (pc' := 89) (st' := [.int 3, .int (nI (176 + (6 * g))), .ref 77, .int (wn x 2), .int (wn x 1), .int (nI q), .int 1, .ref 62]) rfl rfl rfl rfl ?_
                refine go_nadd (pc' := 90) (a := (176 + (6 * g))) (b := 3) rfl rfl rfl rfl rfl ?_
                refine go_sald (pc' := 91) (q := ((176 + (6 * g)) + 3)) (v := .int (wn x 3)) hS rfl (tr_as hr (by omega)) rfl rfl (by omega) (congrArg Value.int (hRw 3 (by decide))) rfl ?_
                refine go_s (pc' := 92) rfl rfl rfl rfl ?_
                refine go_sget (pc' := 93) (v := .ref 77) hS rfl rfl rfl (by decide) rfl rfl ?_
                refine go_s (pc' := 94) rfl rfl rfl rfl ?_
                refine go_s (pc' := 95) (st' := [.int 4, .int (nI (176 + (6 * g))), .ref 77, .int (wn x 3), .int (wn x 2), .int (wn x 1), .int (nI q), .int 1, .ref 62]) rfl rfl rfl rfl ?_
                refine go_nadd (pc' := 96) (a := (176 + (6 * g))) (b := 4) rfl rfl rfl rfl rfl ?_
                refine go_sald (pc' := 97) (q := ((176 + (6 * g)) + 4)) (v := .int (wn x 4)) hS rfl (tr_as hr (by omega)) rfl rfl (by omega) (congrArg Value.int (hRw 4 (by decide))) rfl ?_
                refine go_s (pc' := 98) rfl rfl rfl rfl ?_
                refine go_sget (pc' := 99) (v := .ref 77) hS rfl rfl rfl (by decide) rfl rfl ?_
                refine go_s (pc' := 100) rfl rfl rfl rfl ?_
                refine go_s (pc' := 101) (st' := [.int 5, .int (nI (176 + (6 * g))), .ref 77, .int (wn x 4), .int (wn x 3), .int (wn x 2), .int (wn x 1), .int (nI q), .int 1, .ref 62]) rfl rfl rfl rfl ?_
                refine go_nadd (pc' := 102) (a := (176 + (6 * g))) (b := 5) rfl rfl rfl rfl rfl ?_
                refine go_sald (pc' := 103) (q := ((176 + (6 * g)) + 5)) (v := .int (wn x 5)) hS rfl (tr_as hr (by omega)) rfl rfl (by omega) (congrArg Value.int (hRw 5 (by decide))) rfl ?_
                refine go_callV (pc' := 104) rfl rfl rfl (Nat.le_of_ble_eq_true rfl) rfl (sm_o hS rfl) rfl rfl rfl (rt_put_1 hr hS hW (q := q) hq (by omega)) (fun r h33 q34 => ?_)
                obtain ⟨rfl, hS35, hE36⟩ := q34
                rw [put_uC (f := (fun j => wn x (1 + j))) (a0 := (wn x 1)) (a1 := (wn x 2)) (a2 := (wn x 3)) (a3 := (wn x 4)) (a4 := (wn x 5)) rfl rfl rfl rfl rfl, uC_jn (by decide)] at hS35
                have hU37 : RU w B R H hb h33 am ln K ((uC I 7 (5 * 49 + q * 5) 5 (fun j => wn x (1 + j))), Q, Z) := RU_I hE36 (fun _ => rfl) (fun _ => rfl) (Nat.le_refl _) hU
                refine go_s (pc' := 105) (lo' := [some (.ref 62), some (.int 1), some (.int (nI (176 + (6 * g)))), some (.int (nI q)), some (.int 2)]) rfl rfl rfl rfl ?_
                refine go_s (pc' := 54) rfl rfl rfl rfl ?_
                refine go_s (pc' := 55) rfl rfl rfl rfl ?_
                refine go_s (pc' := 56) (st' := [.int 2, .int 2]) rfl rfl rfl rfl ?_
                refine go_icmpP (t' := 106) (pc' := 57) rfl rfl rfl (fun _ => ?_) (fun (c : ¬ (2 ≤ (2 : Int32))) => absurd (by decide) c)
                refine go_s (pc' := 107) rfl rfl rfl rfl ?_
                refine go_sget (pc' := 108) (v := .ref 88) hS35 rfl rfl rfl (by decide) rfl rfl ?_
                refine go_s (pc' := 109) rfl rfl rfl rfl ?_
                refine go_s (pc' := 110) rfl rfl rfl rfl ?_
                refine go_sald (pc' := 111) (q := 1) (v := .int (nI g)) hS35 rfl (tr_s hr (a := 88) rfl (by decide)) rfl rfl (by decide) (congrArg Value.int eg) rfl ?_
                refine go_s (pc' := 112) (st' := [.int 1, .int (nI g), .int 1, .ref 88]) rfl rfl rfl rfl ?_
                refine go_nadd (pc' := 113) (a := g) (b := 1) rfl rfl rfl rfl rfl ?_
                refine go_siast (pc' := 114) (q := 1) hS35 rfl (tr_s hr (a := 88) rfl (by decide)) tbr_inj (Nat.le_of_ble_eq_true rfl) rfl (by decide) (by decide) (hW _ (by decide) (by decide)) rfl (fun h38 hS39 hE40 => ?_)
                have hmw : mwrI I 1 x.1.toNatClampNeg x = (uI (uC I 7 (5 * 49 + q * 5) 5 (fun j => wn x (1 + j))) 22 1 (nI (g + 1))) := by
                  rw [eq, nI_clamp (by omega)]
                  unfold mwrI
                  rw [if_neg (fun z => absurd z.2 (Int32.not_lt.mpr c32))]
                  rw [eg, show nI g + 1 = nI (g + 1) from nI_add g 1]
                have hMw : MID X ((uI (uC I 7 (5 * 49 + q * 5) 5 (fun j => wn x (1 + j))) 22 1 (nI (g + 1))), Q, Z) := by
                  rw [← hmw]
                  exact MID_wr (M := (I, Q, Z)) hM (by decide) hlv h2 hu eg (by show (Z (rwi I 0)).2.2[g]? = some x; rw [hrw]; exact hx)
                refine go_s (pc' := 115) rfl rfl rfl rfl ?_
                change sm (tbr am (13 * ln) 77 5088) _ (uI (jn (uC I 7 (5 * 49 + q * 5) 5 (fun j => wn x (1 + j))) K) 22 1 (nI (g + 1))) Y at hS39
                rw [jn_lo (c := 22) (by decide)] at hS39
                have hU41 : RU w B R H hb h38 am ln K ((uI (uC I 7 (5 * 49 + q * 5) 5 (fun j => wn x (1 + j))) 22 1 (nI (g + 1))), Q, Z) := RU_I (hE40) (I' := (uI (uC I 7 (5 * 49 + q * 5) 5 (fun j => wn x (1 + j))) 22 1 (nI (g + 1)))) (fun _ => rfl) (fun _ => rfl) (Nat.le_refl _) hU37
                have hA42 : RA w B R H hb h38 ((uI (uC I 7 (5 * 49 + q * 5) 5 (fun j => wn x (1 + j))) 22 1 (nI (g + 1))), Q, Z) := RA_u.mpr ⟨_, _, _, _, hS39, hU41⟩
                refine go_callV (pc' := 116) rfl rfl rfl (Nat.le_of_ble_eq_true rfl) rfl (sm_o hS39 rfl) rfl rfl rfl (ra_set hA42 (by omega) (X := X) hMw (by omega) hhc (by omega)) (fun r h43 q44 => ?_)
                obtain ⟨rfl, hA45⟩ := q44
                refine go_s (pc' := 117) rfl rfl rfl rfl ?_
                refine go_ret rfl rfl ?_
                have hms : rwr 1 (I, Q, Z) = (x.1, rset 30 ((uI (uC I 7 (5 * 49 + q * 5) 5 (fun j => wn x (1 + j))) 22 1 (nI (g + 1))), Q, Z)) := by
                  unfold rwr
                  rw [if_pos ⟨hlv, h2, hu, (by show ¬ I 22 1 = nI (Z (rwi I 0)).2.2.length; rw [hrw, eg]; exact c13)⟩]
                  have z : (Z (rwi I 0)).2.2[(I 22 1).toNatClampNeg]? = some x := by rw [hrw, eg, nI_clamp (by omega)]; exact hx
                  show (match (Z (rwi I 0)).2.2[(I 22 1).toNatClampNeg]? with | some x => (x.1, rset 30 (mwrI I 1 x.1.toNatClampNeg x, Q, Z)) | none => (-1, (I, Q, Z))) = _
                  rw [z]
                  show (x.1, rset 30 (mwrI I 1 x.1.toNatClampNeg x, Q, Z)) = _
                  rw [hmw]
                rw [hms]
                exact ⟨by rw [eq], hA45⟩
              · skip
                refine go_s (pc' := 71) rfl rfl rfl rfl ?_
                refine go_s (pc' := 72) rfl rfl rfl rfl ?_
                refine go_s (pc' := 73) rfl rfl rfl rfl ?_
                refine go_s (pc' := 74) rfl rfl rfl rfl ?_
                refine go_sget (pc' := 75) (v := .ref 77) hS rfl rfl rfl (by decide) rfl rfl ?_
                refine go_s (pc' := 76) rfl rfl rfl rfl ?_
                refine go_s (pc' := 77) (st' := [.int 1, .int (nI (176 + (6 * g))), .ref 77, .int (nI q), .int 0, .ref 62]) rfl rfl rfl rfl ?_
                refine go_nadd (pc' := 78) (a := (176 + (6 * g))) (b := 1) rfl rfl rfl rfl rfl ?_
                refine go_sald (pc' := 79) (q := ((176 + (6 * g)) + 1)) (v := .int (wn x 1)) hS rfl (tr_as hr (by omega)) rfl rfl (by omega) (congrArg Value.int (hRw 1 (by decide))) rfl ?_
                refine go_s (pc' := 80) rfl rfl rfl rfl ?_
                refine go_sget (pc' := 81) (v := .ref 77) hS rfl rfl rfl (by decide) rfl rfl ?_
                refine go_s (pc' := 82) rfl rfl rfl rfl ?_
                refine go_s (pc' := 83) (st' := [.int 2, .int (nI (176 + (6 * g))), .ref 77, .int (wn x 1), .int (nI q), .int 0, .ref 62]) rfl rfl rfl rfl ?_
                refine go_nadd (pc' := 84) (a := (176 + (6 * g))) (b := 2) rfl rfl rfl rfl rfl ?_
                refine go_sald (pc' := 85) (q := ((176 + (6 * g)) + 2)) (v := .int (wn x 2)) hS rfl (tr_as hr (by omega)) rfl rfl (by omega) (congrArg Value.int (hRw 2 (by decide))) rfl ?_
                refine go_s (pc' := 86) rfl rfl rfl rfl ?_
                refine go_sget (pc' := 87) (v := .ref 77) hS rfl rfl rfl (by decide) rfl rfl ?_
                refine go_s (pc' := 88) rfl rfl rfl rfl ?_
                refine go_s (pc' := 89) (st' := [.int 3, .int (nI (176 + (6 * g))), .ref 77, .int (wn x 2), .int (wn x 1), .int (nI q), .int 0, .ref 62]) rfl rfl rfl rfl ?_
                refine go_nadd (pc' := 90) (a := (176 + (6 * g))) (b := 3) rfl rfl rfl rfl rfl ?_
                refine go_sald (pc' := 91) (q := ((176 + (6 * g)) + 3)) (v := .int (wn x 3)) hS rfl (tr_as hr (by omega)) rfl rfl (by omega) (congrArg Value.int (hRw 3 (by decide))) rfl ?_
                refine go_s (pc' := 92) rfl rfl rfl rfl ?_
                refine go_sget (pc' := 93) (v := .ref 77) hS rfl rfl rfl (by decide) rfl rfl ?_
                refine go_s (pc' := 94) rfl rfl rfl rfl ?_
                refine go_s (pc' := 95) (st' := [.int 4, .int (nI (176 + (6 * g))), .ref 77, .int (wn x 3), .int (wn x 2), .int (wn x 1), .int (nI q), .int 0, .ref 62]) rfl rfl rfl rfl ?_
                refine go_nadd (pc' := 96) (a := (176 + (6 * g))) (b := 4) rfl rfl rfl rfl rfl ?_
                refine go_sald (pc' := 97) (q := ((176 + (6 * g)) + 4)) (v := .int (wn x 4)) hS rfl (tr_as hr (by omega)) rfl rfl (by omega) (congrArg Value.int (hRw 4 (by decide))) rfl ?_
                refine go_s (pc' := 98) rfl rfl rfl rfl ?_
                refine go_sget (pc' := 99) (v := .ref 77) hS rfl rfl rfl (by decide) rfl rfl ?_
                refine go_s (pc' := 100) rfl rfl rfl rfl ?_
                refine go_s (pc' := 101) (st' := [.int 5, .int (nI (176 + (6 * g))), .ref 77, .int (wn x 4), .int (wn x 3), .int (wn x 2), .int (wn x 1), .int (nI q), .int 0, .ref 62]) rfl rfl rfl rfl ?_
                refine go_nadd (pc' := 102) (a := (176 + (6 * g))) (b := 5) rfl rfl rfl rfl rfl ?_
                refine go_sald (pc' := 103) (q := ((176 + (6 * g)) + 5)) (v := .int (wn x 5)) hS rfl (tr_as hr (by omega)) rfl rfl (by omega) (congrArg Value.int (hRw 5 (by decide))) rfl ?_
                refine go_callV (pc' := 104) rfl rfl rfl (Nat.le_of_ble_eq_true rfl) rfl (sm_o hS rfl) rfl rfl rfl (rt_put_0 hr hS hW (q := q) hq (by omega)) (fun r h46 q47 => ?_)
                obtain ⟨rfl, hS48, hE49⟩ := q47
                rw [put_uC (f := (fun j => wn x (1 + j))) (a0 := (wn x 1)) (a1 := (wn x 2)) (a2 := (wn x 3)) (a3 := (wn x 4)) (a4 := (wn x 5)) rfl rfl rfl rfl rfl, uC_jn (by decide)] at hS48
                have hU50 : RU w B R H hb h46 am ln K ((uC I 7 (5 * 0 + q * 5) 5 (fun j => wn x (1 + j))), Q, Z) := RU_I hE49 (fun _ => rfl) (fun _ => rfl) (Nat.le_refl _) hU
                refine go_s (pc' := 105) (lo' := [some (.ref 62), some (.int 1), some (.int (nI (176 + (6 * g)))), some (.int (nI q)), some (.int 1)]) rfl rfl rfl rfl ?_
                refine go_s (pc' := 54) rfl rfl rfl rfl ?_
                refine go_s (pc' := 55) rfl rfl rfl rfl ?_
                refine go_s (pc' := 56) (st' := [.int 2, .int 1]) rfl rfl rfl rfl ?_
                refine go_icmpP (t' := 106) (pc' := 57) rfl rfl rfl (fun (c : 2 ≤ (1 : Int32)) => absurd c (by decide)) (fun _ => ?_)
                refine go_s (pc' := 58) rfl rfl rfl rfl ?_
                refine go_s (pc' := 59) rfl rfl rfl rfl ?_
                refine go_icmpP (t' := 70) (pc' := 60) rfl rfl rfl (fun _ => ?_) (fun (c : ¬ ((1 : Int32) = 1)) => absurd (by decide) c)
                refine go_s (pc' := 71) rfl rfl rfl rfl ?_
                refine go_s (pc' := 72) rfl rfl rfl rfl ?_
                refine go_s (pc' := 73) rfl rfl rfl rfl ?_
                refine go_s (pc' := 74) rfl rfl rfl rfl ?_
                refine go_sget (pc' := 75) (v := .ref 77) hS48 rfl rfl rfl (by decide) rfl rfl ?_
                refine go_s (pc' := 76) rfl rfl rfl rfl ?_
                refine go_s (pc' := 77) (st' := [.int 1, .int (nI (176 + (6 * g))), .ref 77, .int (nI q), .int 1, .ref 62]) rfl rfl rfl rfl ?_
                refine go_nadd (pc' := 78) (a := (176 + (6 * g))) (b := 1) rfl rfl rfl rfl rfl ?_
                refine go_sald (pc' := 79) (q := ((176 + (6 * g)) + 1)) (v := .int (wn x 1)) hS48 rfl (tr_as hr (by omega)) rfl rfl (by omega) (congrArg Value.int (hRw 1 (by decide))) rfl ?_
                refine go_s (pc' := 80) rfl rfl rfl rfl ?_
                refine go_sget (pc' := 81) (v := .ref 77) hS48 rfl rfl rfl (by decide) rfl rfl ?_
                refine go_s (pc' := 82) rfl rfl rfl rfl ?_
                refine go_s (pc' := 83) (st' := [.int 2, .int (nI (176 + (6 * g))), .ref 77, .int (wn x 1), .int (nI q), .int 1, .ref 62]) rfl rfl rfl rfl ?_
                refine go_nadd (pc' := 84) (a := (176 + (6 * g))) (b := 2) rfl rfl rfl rfl rfl ?_
                refine go_sald (pc' := 85) (q := ((176 + (6 * g)) + 2)) (v := .int (wn x 2)) hS48 rfl (tr_as hr (by omega)) rfl rfl (by omega) (congrArg Value.int (hRw 2 (by decide))) rfl ?_
                refine go_s (pc' := 86) rfl rfl rfl rfl ?_
                refine go_sget (pc' := 87) (v := .ref 77) hS48 rfl rfl rfl (by decide) rfl rfl ?_
                refine go_s (pc' := 88) rfl rfl rfl rfl ?_
                refine go_s (pc' := 89) (st' := [.int 3, .int (nI (176 + (6 * g))), .ref 77, .int (wn x 2), .int (wn x 1), .int (nI q), .int 1, .ref 62]) rfl rfl rfl rfl ?_
                refine go_nadd (pc' := 90) (a := (176 + (6 * g))) (b := 3) rfl rfl rfl rfl rfl ?_
                refine go_sald (pc' := 91) (q := ((176 + (6 * g)) + 3)) (v := .int (wn x 3)) hS48 rfl (tr_as hr (by omega)) rfl rfl (by omega) (congrArg Value.int (hRw 3 (by decide))) rfl ?_
                refine go_s (pc' := 92) rfl rfl rfl rfl ?_
                refine go_sget (pc' := 93) (v := .ref 77) hS48 rfl rfl rfl (by decide) rfl rfl ?_
                refine go_s (pc' := 94) rfl rfl rfl rfl ?_
                refine go_s (pc' := 95) (st' := [.int 4, .int (nI (176 + (6 * g))), .ref 77, .int (wn x 3), .int (wn x 2), .int (wn x 1), .int (nI q), .int 1, .ref 62]) rfl rfl rfl rfl ?_
                refine go_nadd (pc' := 96) (a := (176 + (6 * g))) (b := 4) rfl rfl rfl rfl rfl ?_
                refine go_sald (pc' := 97) (q := ((176 + (6 * g)) + 4)) (v := .int (wn x 4)) hS48 rfl (tr_as hr (by omega)) rfl rfl (by omega) (congrArg Value.int (hRw 4 (by decide))) rfl ?_
                refine go_s (pc' := 98) rfl rfl rfl rfl ?_
                refine go_sget (pc' := 99) (v := .ref 77) hS48 rfl rfl rfl (by decide) rfl rfl ?_
                refine go_s (pc' := 100) rfl rfl rfl rfl ?_
                refine go_s (pc' := 101) (st' := [.int 5, .int (nI (176 + (6 * g))), .ref 77, .int (wn x 4), .int (wn x 3), .int (wn x 2), .int (wn x 1), .int (nI q), .int 1, .ref 62]) rfl rfl rfl rfl ?_
                refine go_nadd (pc' := 102) (a := (176 + (6 * g))) (b := 5) rfl rfl rfl rfl rfl ?_
                refine go_sald (pc' := 103) (q := ((176 + (6 * g)) + 5)) (v := .int (wn x 5)) hS48 rfl (tr_as hr (by omega)) rfl rfl (by omega) (congrArg Value.int (hRw 5 (by decide))) rfl ?_
                refine go_callV (pc' := 104) rfl rfl rfl (Nat.le_of_ble_eq_true rfl) rfl (sm_o hS48 rfl) rfl rfl rfl (rt_put_1 hr hS48 hW (q := q) hq (by omega)) (fun r h51 q52 => ?_)
                obtain ⟨rfl, hS53, hE54⟩ := q52
                rw [put_uC (f := (fun j => wn x (1 + j))) (a0 := (wn x 1)) (a1 := (wn x 2)) (a2 := (wn x 3)) (a3 := (wn x 4)) (a4 := (wn x 5)) rfl rfl rfl rfl rfl, uC_jn (by decide)] at hS53
                have hU55 : RU w B R H hb h51 am ln K ((uC (uC I 7 (5 * 0 + q * 5) 5 (fun j => wn x (1 + j))) 7 (5 * 49 + q * 5) 5 (fun j => wn x (1 + j))), Q, Z) := RU_I hE54 (fun _ => rfl) (fun _ => rfl) (Nat.le_refl _) hU50
                refine go_s (pc' := 105) (lo' := [some (.ref 62), some (.int 1), some (.int (nI (176 + (6 * g)))), some (.int (nI q)), some (.int 2)]) rfl rfl rfl rfl ?_
                refine go_s (pc' := 54) rfl rfl rfl rfl ?_
                refine go_s (pc' := 55) rfl rfl rfl rfl ?_
                refine go_s (pc' := 56) (st' := [.int 2, .int 2]) rfl rfl rfl rfl ?_
                refine go_icmpP (t' := 106) (pc' := 57) rfl rfl rfl (fun _ => ?_) (fun (c : ¬ (2 ≤ (2 : Int32))) => absurd (by decide) c)
                refine go_s (pc' := 107) rfl rfl rfl rfl ?_
                refine go_sget (pc' := 108) (v := .ref 88) hS53 rfl rfl rfl (by decide) rfl rfl ?_
                refine go_s (pc' := 109) rfl rfl rfl rfl ?_
                refine go_s (pc' := 110) rfl rfl rfl rfl ?_
                refine go_sald (pc' := 111) (q := 1) (v := .int (nI g)) hS53 rfl (tr_s hr (a := 88) rfl (by decide)) rfl rfl (by decide) (congrArg Value.int eg) rfl ?_
                refine go_s (pc' := 112) (st' := [.int 1, .int (nI g), .int 1, .ref 88]) rfl rfl rfl rfl ?_
                refine go_nadd (pc' := 113) (a := g) (b := 1) rfl rfl rfl rfl rfl ?_
                refine go_siast (pc' := 114) (q := 1) hS53 rfl (tr_s hr (a := 88) rfl (by decide)) tbr_inj (Nat.le_of_ble_eq_true rfl) rfl (by decide) (by decide) (hW _ (by decide) (by decide)) rfl (fun h56 hS57 hE58 => ?_)
                have hmw : mwrI I 1 x.1.toNatClampNeg x = (uI (uC (uC I 7 (5 * 0 + q * 5) 5 (fun j => wn x (1 + j))) 7 (5 * 49 + q * 5) 5 (fun j => wn x (1 + j))) 22 1 (nI (g + 1))) := by
                  rw [eq, nI_clamp (by omega)]
                  unfold mwrI
                  rw [if_pos ⟨u18, Int32.not_le.mp c32⟩]
                  rw [uC_x (by omega)]
                  rw [eg, show nI g + 1 = nI (g + 1) from nI_add g 1]
                have hMw : MID X ((uI (uC (uC I 7 (5 * 0 + q * 5) 5 (fun j => wn x (1 + j))) 7 (5 * 49 + q * 5) 5 (fun j => wn x (1 + j))) 22 1 (nI (g + 1))), Q, Z) := by
                  rw [← hmw]
                  exact MID_wr (M := (I, Q, Z)) hM (by decide) hlv h2 hu eg (by show (Z (rwi I 0)).2.2[g]? = some x; rw [hrw]; exact hx)
                refine go_s (pc' := 115) rfl rfl rfl rfl ?_
                change sm (tbr am (13 * ln) 77 5088) _ (uI (jn (uC (uC I 7 (5 * 0 + q * 5) 5 (fun j => wn x (1 + j))) 7 (5 * 49 + q * 5) 5 (fun j => wn x (1 + j))) K) 22 1 (nI (g + 1))) Y at hS57
                rw [jn_lo (c := 22) (by decide)] at hS57
                have hU59 : RU w B R H hb h56 am ln K ((uI (uC (uC I 7 (5 * 0 + q * 5) 5 (fun j => wn x (1 + j))) 7 (5 * 49 + q * 5) 5 (fun j => wn x (1 + j))) 22 1 (nI (g + 1))), Q, Z) := RU_I (hE58) (I' := (uI (uC (uC I 7 (5 * 0 + q * 5) 5 (fun j => wn x (1 + j))) 7 (5 * 49 + q * 5) 5 (fun j => wn x (1 + j))) 22 1 (nI (g + 1)))) (fun _ => rfl) (fun _ => rfl) (Nat.le_refl _) hU55
                have hA60 : RA w B R H hb h56 ((uI (uC (uC I 7 (5 * 0 + q * 5) 5 (fun j => wn x (1 + j))) 7 (5 * 49 + q * 5) 5 (fun j => wn x (1 + j))) 22 1 (nI (g + 1))), Q, Z) := RA_u.mpr ⟨_, _, _, _, hS57, hU59⟩
                refine go_callV (pc' := 116) rfl rfl rfl (Nat.le_of_ble_eq_true rfl) rfl (sm_o hS57 rfl) rfl rfl rfl (ra_set hA60 (by omega) (X := X) hMw (by omega) hhc (by omega)) (fun r h61 q62 => ?_)
                obtain ⟨rfl, hA63⟩ := q62
                refine go_s (pc' := 117) rfl rfl rfl rfl ?_
                refine go_ret rfl rfl ?_
                have hms : rwr 1 (I, Q, Z) = (x.1, rset 30 ((uI (uC (uC I 7 (5 * 0 + q * 5) 5 (fun j => wn x (1 + j))) 7 (5 * 49 + q * 5) 5 (fun j => wn x (1 + j))) 22 1 (nI (g + 1))), Q, Z)) := by
                  unfold rwr
                  rw [if_pos ⟨hlv, h2, hu, (by show ¬ I 22 1 = nI (Z (rwi I 0)).2.2.length; rw [hrw, eg]; exact c13)⟩]
                  have z : (Z (rwi I 0)).2.2[(I 22 1).toNatClampNeg]? = some x := by rw [hrw, eg, nI_clamp (by omega)]; exact hx
                  show (match (Z (rwi I 0)).2.2[(I 22 1).toNatClampNeg]? with | some x => (x.1, rset 30 (mwrI I 1 x.1.toNatClampNeg x, Q, Z)) | none => (-1, (I, Q, Z))) = _
                  rw [z]
                  show (x.1, rset 30 (mwrI I 1 x.1.toNatClampNeg x, Q, Z)) = _
                  rw [hmw]
                rw [hms]
                exact ⟨by rw [eq], hA63⟩
          · skip
            have c13 : (nI g) = (nI (List.length (Z 0).2.2)) := Decidable.not_not.mp c13'
            refine go_s (pc' := 33) (st' := [.int (-1)]) rfl rfl rfl rfl ?_
            refine go_ret rfl rfl ?_
            have hms : rwr 1 (I, Q, Z) = (-1, (I, Q, Z)) := if_neg (fun z => z.2.2.2 (by show I 22 1 = nI (Z (rwi I 0)).2.2.length; rw [hrw, eg]; exact c13))
            rw [hms]
            exact ⟨rfl, RA_R (by omega) hA⟩
        · skip
          have hrw : rwi I 0 = 1 := rwi_l (v := 1) e10 (by decide)
          change (Z (rwi I 0)).2.2.length ≤ 35 at hwb
          rw [hrw] at hg hwb
          refine go_s (pc' := 20) rfl rfl rfl rfl ?_
          refine go_sget (pc' := 21) (v := .ref 88) hS rfl rfl rfl (by decide) rfl rfl ?_
          refine go_s (pc' := 22) rfl rfl rfl rfl ?_
          refine go_sald (pc' := 23) (q := 1) (v := .int (nI g)) hS rfl (tr_s hr (a := 88) rfl (by decide)) rfl rfl (by decide) (congrArg Value.int eg) rfl ?_
          refine go_s (pc' := 24) rfl rfl rfl rfl ?_
          refine go_sget (pc' := 25) (v := .ref 77) hS rfl rfl rfl (by decide) rfl rfl ?_
          refine go_s (pc' := 26) rfl rfl rfl rfl ?_
          refine go_s (pc' := 27) (st' := [.int 0, .ref 62, .ref 77, .int (nI g)]) rfl rfl rfl rfl ?_
          refine go_callV (pc' := 28) rfl rfl rfl (Nat.le_of_ble_eq_true rfl) rfl (sm_o hS rfl) rfl rfl rfl (rt_at_0 hr hS (Or.inr (Or.inr e10)) (fun z => absurd (e10.symm.trans z) (by decide)) (by omega)) (fun r h64 q65 => ?_)
          obtain ⟨rfl, rfl⟩ := q65
          rw [show rwi (jn I K) 0 = 1 by unfold rwi pn; rw [show (jn I K) 11 0 = 1 from e10]; rfl]
          show am_Go _ _ _ _ 28 _ [.int 424, .ref 77, .int (nI g)] _ _
          refine go_s (pc' := 29) (st' := [.int 5, .int 424, .ref 77, .int (nI g)]) rfl rfl rfl rfl ?_
          refine go_s (pc' := 30) (st' := [.int 429, .ref 77, .int (nI g)]) rfl rfl rfl rfl ?_
          refine go_sald (pc' := 31) (q := 429) (v := .int (nI (List.length (Z 1).2.2))) hS rfl (tr_as hr (by omega)) rfl rfl (by decide) (congrArg Value.int (RR_row hU.2.1 (i := 1) (by decide)).1.2.2.1) rfl ?_
          refine go_icmpP (t' := 34) (pc' := 32) rfl rfl rfl (fun (c66 : ¬ (nI g) = (nI (List.length (Z 1).2.2))) => ?_) (fun (c66' : ¬ ¬ (nI g) = (nI (List.length (Z 1).2.2))) => ?_)
          · skip
            have hgl : g < (Z 1).2.2.length := by
              have z : g ≠ (Z 1).2.2.length := fun e => c66 (by rw [e])
              omega
            obtain ⟨x, hx⟩ : ∃ x, (Z 1).2.2[g]? = some x := ⟨_, List.getElem?_eq_getElem hgl⟩
            have hwbx : WB (Z 1) := by
              have z := hOK.2.1
              change WB (Z (rwi I 0)) at z
              rw [hrw] at z
              exact z
            obtain ⟨q, hq, eq⟩ := hwbx g x hx
            have hRw := (RR_row hU.2.1 (i := 1) (by decide)).1.2.2.2.2 g x hx
            refine go_s (pc' := 35) rfl rfl rfl rfl ?_
            refine go_s (pc' := 36) (st' := [.int 0, .ref 62]) rfl rfl rfl rfl ?_
            refine go_callV (pc' := 37) rfl rfl rfl (Nat.le_of_ble_eq_true rfl) rfl (sm_o hS rfl) rfl rfl rfl (rt_at_0 hr hS (Or.inr (Or.inr e10)) (fun z => absurd (e10.symm.trans z) (by decide)) (by omega)) (fun r h67 q68 => ?_)
            obtain ⟨rfl, rfl⟩ := q68
            rw [show rwi (jn I K) 0 = 1 by unfold rwi pn; rw [show (jn I K) 11 0 = 1 from e10]; rfl]
            show am_Go _ _ _ _ 37 _ [.int 424] _ _
            refine go_s (pc' := 38) (st' := [.int 176, .int 424]) rfl rfl rfl rfl ?_
            refine go_s (pc' := 39) (st' := [.int 600]) rfl rfl rfl rfl ?_
            refine go_s (pc' := 40) (st' := [.int 6, .int 600]) rfl rfl rfl rfl ?_
            refine go_s (pc' := 41) rfl rfl rfl rfl ?_
            refine go_sget (pc' := 42) (v := .ref 88) hS rfl rfl rfl (by decide) rfl rfl ?_
            refine go_s (pc' := 43) rfl rfl rfl rfl ?_
            refine go_sald (pc' := 44) (q := 1) (v := .int (nI g)) hS rfl (tr_s hr (a := 88) rfl (by decide)) rfl rfl (by decide) (congrArg Value.int eg) rfl ?_
            refine go_nmul (pc' := 45) (a := 6) (b := g) rfl rfl rfl rfl rfl ?_
            refine go_nadd (pc' := 46) (a := 600) (b := (6 * g)) rfl rfl rfl rfl rfl ?_
            refine go_s (pc' := 47) (lo' := [some (.ref 62), some (.int 1), some (.int (nI (600 + (6 * g)))), none, none]) rfl rfl rfl rfl ?_
            refine go_s (pc' := 48) rfl rfl rfl rfl ?_
            refine go_sget (pc' := 49) (v := .ref 77) hS rfl rfl rfl (by decide) rfl rfl ?_
            refine go_s (pc' := 50) rfl rfl rfl rfl ?_
            refine go_sald (pc' := 51) (q := (600 + (6 * g))) (v := .int (nI q)) hS rfl (tr_as hr (by omega)) rfl rfl (by omega) (congrArg Value.int ((hRw 0 (by decide)).trans eq)) rfl ?_
            refine go_s (pc' := 52) (lo' := [some (.ref 62), some (.int 1), some (.int (nI (600 + (6 * g)))), some (.int (nI q)), none]) rfl rfl rfl rfl ?_
            refine go_s (pc' := 53) (st' := [.int 0]) rfl rfl rfl rfl ?_
            refine go_s (pc' := 54) (lo' := [some (.ref 62), some (.int 1), some (.int (nI (600 + (6 * g)))), some (.int (nI q)), some (.int 0)]) rfl rfl rfl rfl ?_
            refine go_s (pc' := 55) rfl rfl rfl rfl ?_
            refine go_s (pc' := 56) (st' := [.int 2, .int 0]) rfl rfl rfl rfl ?_
            refine go_icmpP (t' := 106) (pc' := 57) rfl rfl rfl (fun (c : 2 ≤ (0 : Int32)) => absurd c (by decide)) (fun _ => ?_)
            refine go_s (pc' := 58) rfl rfl rfl rfl ?_
            refine go_s (pc' := 59) rfl rfl rfl rfl ?_
            refine go_icmpP (t' := 70) (pc' := 60) rfl rfl rfl (fun (c : (0 : Int32) = 1) => absurd c (by decide)) (fun _ => ?_)
            refine go_s (pc' := 61) rfl rfl rfl rfl ?_
            refine go_s (pc' := 62) rfl rfl rfl rfl ?_
            refine go_callV (pc' := 63) rfl rfl rfl (Nat.le_of_ble_eq_true rfl) rfl (sm_o hS rfl) rfl rfl rfl (rt_rv_0 hr hS (by omega)) (fun r h69 q70 => ?_)
            obtain ⟨rfl, rfl⟩ := q70
            rw [show rv (jn I K) 0 = rv I 0 from rfl]
            cases u71 : rv I 0
            · skip
              show am_Go _ _ _ _ 63 _ [.int 0] _ _
              refine go_ifP (t' := 104) (pc' := 64) rfl rfl rfl (fun _ => ?_) (fun (c : ¬ ((0 : Int32) = 0)) => absurd (by decide) c)
              refine go_s (pc' := 105) (lo' := [some (.ref 62), some (.int 1), some (.int (nI (600 + (6 * g)))), some (.int (nI q)), some (.int 1)]) rfl rfl rfl rfl ?_
              refine go_s (pc' := 54) rfl rfl rfl rfl ?_
              refine go_s (pc' := 55) rfl rfl rfl rfl ?_
              refine go_s (pc' := 56) (st' := [.int 2, .int 1]) rfl rfl rfl rfl ?_
              refine go_icmpP (t' := 106) (pc' := 57) rfl rfl rfl (fun (c : 2 ≤ (1 : Int32)) => absurd c (by decide)) (fun _ => ?_)
              refine go_s (pc' := 58) rfl rfl rfl rfl ?_
              refine go_s (pc' := 59) rfl rfl rfl rfl ?_
              refine go_icmpP (t' := 70) (pc' := 60) rfl rfl rfl (fun _ => ?_) (fun (c : ¬ ((1 : Int32) = 1)) => absurd (by decide) c)
              refine go_s (pc' := 71) rfl rfl rfl rfl ?_
              refine go_s (pc' := 72) rfl rfl rfl rfl ?_
              refine go_s (pc' := 73) rfl rfl rfl rfl ?_
              refine go_s (pc' := 74) rfl rfl rfl rfl ?_
              refine go_sget (pc' := 75) (v := .ref 77) hS rfl rfl rfl (by decide) rfl rfl ?_
              refine go_s (pc' := 76) rfl rfl rfl rfl ?_
              refine go_s (pc' := 77) (st' := [.int 1, .int (nI (600 + (6 * g))), .ref 77, .int (nI q), .int 1, .ref 62]) rfl rfl rfl rfl ?_
              refine go_nadd (pc' := 78) (a := (600 + (6 * g))) (b := 1) rfl rfl rfl rfl rfl ?_
              refine go_sald (pc' := 79) (q := ((600 + (6 * g)) + 1)) (v := .int (wn x 1)) hS rfl (tr_as hr (by omega)) rfl rfl (by omega) (congrArg Value.int (hRw 1 (by decide))) rfl ?_
              refine go_s (pc' := 80) rfl rfl rfl rfl ?_
              refine go_sget (pc' := 81) (v := .ref 77) hS rfl rfl rfl (by decide) rfl rfl ?_
              refine go_s (pc' := 82) rfl rfl rfl rfl ?_
              refine go_s (pc' := 83) (st' := [.int 2, .int (nI (600 + (6 * g))), .ref 77, .int (wn x 1), .int (nI q), .int 1, .ref 62]) rfl rfl rfl rfl ?_
              refine go_nadd (pc' := 84) (a := (600 + (6 * g))) (b := 2) rfl rfl rfl rfl rfl ?_
              refine go_sald (pc' := 85) (q := ((600 + (6 * g)) + 2)) (v := .int (wn x 2)) hS rfl (tr_as hr (by omega)) rfl rfl (by omega) (congrArg Value.int (hRw 2 (by decide))) rfl ?_
              refine go_s (pc' := 86) rfl rfl rfl rfl ?_
              refine go_sget (pc' := 87) (v := .ref 77) hS rfl rfl rfl (by decide) rfl rfl ?_
              refine go_s (pc' := 88) rfl rfl rfl rfl ?_
              refine go_s (pc' := 89) (st' := [.int 3, .int (nI (600 + (6 * g))), .ref 77, .int (wn x 2), .int (wn x 1), .int (nI q), .int 1, .ref 62]) rfl rfl rfl rfl ?_
              refine go_nadd (pc' := 90) (a := (600 + (6 * g))) (b := 3) rfl rfl rfl rfl rfl ?_
              refine go_sald (pc' := 91) (q := ((600 + (6 * g)) + 3)) (v := .int (wn x 3)) hS rfl (tr_as hr (by omega)) rfl rfl (by omega) (congrArg Value.int (hRw 3 (by decide))) rfl ?_
              refine go_s (pc' := 92) rfl rfl rfl rfl ?_
              refine go_sget (pc' := 93) (v := .ref 77) hS rfl rfl rfl (by decide) rfl rfl ?_
              refine go_s (pc' := 94) rfl rfl rfl rfl ?_
              refine go_s (pc' := 95) (st' := [.int 4, .int (nI (600 + (6 * g))), .ref 77, .int (wn x 3), .int (wn x 2), .int (wn x 1), .int (nI q), .int 1, .ref 62]) rfl rfl rfl rfl ?_
              refine go_nadd (pc' := 96) (a := (600 + (6 * g))) (b := 4) rfl rfl rfl rfl rfl ?_
              refine go_sald (pc' := 97) (q := ((600 + (6 * g)) + 4)) (v := .int (wn x 4)) hS rfl (tr_as hr (by omega)) rfl rfl (by omega) (congrArg Value.int (hRw 4 (by decide))) rfl ?_
              refine go_s (pc' := 98) rfl rfl rfl rfl ?_
              refine go_sget (pc' := 99) (v := .ref 77) hS rfl rfl rfl (by decide) rfl rfl ?_
              refine go_s (pc' := 100) rfl rfl rfl rfl ?_
              refine go_s (pc' := 101) (st' := [.int 5, .int (nI (600 + (6 * g))), .ref 77, .int (wn x 4), .int (wn x 3), .int (wn x 2), .int (wn x 1), .int (nI q), .int 1, .ref 62]) rfl rfl rfl rfl ?_
              refine go_nadd (pc' := 102) (a := (600 + (6 * g))) (b := 5) rfl rfl rfl rfl rfl ?_
              refine go_sald (pc' := 103) (q := ((600 + (6 * g)) + 5)) (v := .int (wn x 5)) hS rfl (tr_as hr (by omega)) rfl rfl (by omega) (congrArg Value.int (hRw 5 (by decide))) rfl ?_
              refine go_callV (pc' := 104) rfl rfl rfl (Nat.le_of_ble_eq_true rfl) rfl (sm_o hS rfl) rfl rfl rfl (rt_put_1 hr hS hW (q := q) hq (by omega)) (fun r h72 q73 => ?_)
              obtain ⟨rfl, hS74, hE75⟩ := q73
              rw [put_uC (f := (fun j => wn x (1 + j))) (a0 := (wn x 1)) (a1 := (wn x 2)) (a2 := (wn x 3)) (a3 := (wn x 4)) (a4 := (wn x 5)) rfl rfl rfl rfl rfl, uC_jn (by decide)] at hS74
              have hU76 : RU w B R H hb h72 am ln K ((uC I 7 (5 * 49 + q * 5) 5 (fun j => wn x (1 + j))), Q, Z) := RU_I hE75 (fun _ => rfl) (fun _ => rfl) (Nat.le_refl _) hU
              refine go_s (pc' := 105) (lo' := [some (.ref 62), some (.int 1), some (.int (nI (600 + (6 * g)))), some (.int (nI q)), some (.int 2)]) rfl rfl rfl rfl ?_
              refine go_s (pc' := 54) rfl rfl rfl rfl ?_
              refine go_s (pc' := 55) rfl rfl rfl rfl ?_
              refine go_s (pc' := 56) (st' := [.int 2, .int 2]) rfl rfl rfl rfl ?_
              refine go_icmpP (t' := 106) (pc' := 57) rfl rfl rfl (fun _ => ?_) (fun (c : ¬ (2 ≤ (2 : Int32))) => absurd (by decide) c)
              refine go_s (pc' := 107) rfl rfl rfl rfl ?_
              refine go_sget (pc' := 108) (v := .ref 88) hS74 rfl rfl rfl (by decide) rfl rfl ?_
              refine go_s (pc' := 109) rfl rfl rfl rfl ?_
              refine go_s (pc' := 110) rfl rfl rfl rfl ?_
              refine go_sald (pc' := 111) (q := 1) (v := .int (nI g)) hS74 rfl (tr_s hr (a := 88) rfl (by decide)) rfl rfl (by decide) (congrArg Value.int eg) rfl ?_
              refine go_s (pc' := 112) (st' := [.int 1, .int (nI g), .int 1, .ref 88]) rfl rfl rfl rfl ?_
              refine go_nadd (pc' := 113) (a := g) (b := 1) rfl rfl rfl rfl rfl ?_
              refine go_siast (pc' := 114) (q := 1) hS74 rfl (tr_s hr (a := 88) rfl (by decide)) tbr_inj (Nat.le_of_ble_eq_true rfl) rfl (by decide) (by decide) (hW _ (by decide) (by decide)) rfl (fun h77 hS78 hE79 => ?_)
              have hmw : mwrI I 1 x.1.toNatClampNeg x = (uI (uC I 7 (5 * 49 + q * 5) 5 (fun j => wn x (1 + j))) 22 1 (nI (g + 1))) := by
                rw [eq, nI_clamp (by omega)]
                unfold mwrI
                rw [if_neg (fun z => by rw [u71] at z; exact absurd z.1 (by decide))]
                rw [eg, show nI g + 1 = nI (g + 1) from nI_add g 1]
              have hMw : MID X ((uI (uC I 7 (5 * 49 + q * 5) 5 (fun j => wn x (1 + j))) 22 1 (nI (g + 1))), Q, Z) := by
                rw [← hmw]
                exact MID_wr (M := (I, Q, Z)) hM (by decide) hlv h2 hu eg (by show (Z (rwi I 0)).2.2[g]? = some x; rw [hrw]; exact hx)
              refine go_s (pc' := 115) rfl rfl rfl rfl ?_
              change sm (tbr am (13 * ln) 77 5088) _ (uI (jn (uC I 7 (5 * 49 + q * 5) 5 (fun j => wn x (1 + j))) K) 22 1 (nI (g + 1))) Y at hS78
              rw [jn_lo (c := 22) (by decide)] at hS78
              have hU80 : RU w B R H hb h77 am ln K ((uI (uC I 7 (5 * 49 + q * 5) 5 (fun j => wn x (1 + j))) 22 1 (nI (g + 1))), Q, Z) := RU_I (hE79) (I' := (uI (uC I 7 (5 * 49 + q * 5) 5 (fun j => wn x (1 + j))) 22 1 (nI (g + 1)))) (fun _ => rfl) (fun _ => rfl) (Nat.le_refl _) hU76
              have hA81 : RA w B R H hb h77 ((uI (uC I 7 (5 * 49 + q * 5) 5 (fun j => wn x (1 + j))) 22 1 (nI (g + 1))), Q, Z) := RA_u.mpr ⟨_, _, _, _, hS78, hU80⟩
              refine go_callV (pc' := 116) rfl rfl rfl (Nat.le_of_ble_eq_true rfl) rfl (sm_o hS78 rfl) rfl rfl rfl (ra_set hA81 (by omega) (X := X) hMw (by omega) hhc (by omega)) (fun r h82 q83 => ?_)
              obtain ⟨rfl, hA84⟩ := q83
              refine go_s (pc' := 117) rfl rfl rfl rfl ?_
              refine go_ret rfl rfl ?_
              have hms : rwr 1 (I, Q, Z) = (x.1, rset 30 ((uI (uC I 7 (5 * 49 + q * 5) 5 (fun j => wn x (1 + j))) 22 1 (nI (g + 1))), Q, Z)) := by
                unfold rwr
                rw [if_pos ⟨hlv, h2, hu, (by show ¬ I 22 1 = nI (Z (rwi I 0)).2.2.length; rw [hrw, eg]; exact c66)⟩]
                have z : (Z (rwi I 0)).2.2[(I 22 1).toNatClampNeg]? = some x := by rw [hrw, eg, nI_clamp (by omega)]; exact hx
                show (match (Z (rwi I 0)).2.2[(I 22 1).toNatClampNeg]? with | some x => (x.1, rset 30 (mwrI I 1 x.1.toNatClampNeg x, Q, Z)) | none => (-1, (I, Q, Z))) = _
                rw [z]
                show (x.1, rset 30 (mwrI I 1 x.1.toNatClampNeg x, Q, Z)) = _
                rw [hmw]
              rw [hms]
              exact ⟨by rw [eq], hA84⟩
            · skip
              show am_Go _ _ _ _ 63 _ [.int 1] _ _
              refine go_ifP (t' := 104) (pc' := 64) rfl rfl rfl (fun (c : (1 : Int32) = 0) => absurd c (by decide)) (fun _ => ?_)
              refine go_s (pc' := 65) rfl rfl rfl rfl ?_
              refine go_s (pc' := 66) rfl rfl rfl rfl ?_
              refine go_sget (pc' := 67) (v := .ref 69) hS rfl rfl rfl (by decide) rfl rfl ?_
              refine go_s (pc' := 68) rfl rfl rfl rfl ?_
              refine go_sald (pc' := 69) (q := 0) (v := .int (I 6 0)) hS rfl (tr_s hr (a := 69) rfl (by decide)) rfl rfl (by decide) rfl rfl ?_
              refine go_icmpP (t' := 104) (pc' := 70) rfl rfl rfl (fun (c85 : (I 6 0) ≤ (nI q)) => ?_) (fun (c85 : ¬ (I 6 0) ≤ (nI q)) => ?_)
              · skip
                refine go_s (pc' := 105) (lo' := [some (.ref 62), some (.int 1), some (.int (nI (600 + (6 * g)))), some (.int (nI q)), some (.int 1)]) rfl rfl rfl rfl ?_
                refine go_s (pc' := 54) rfl rfl rfl rfl ?_
                refine go_s (pc' := 55) rfl rfl rfl rfl ?_
                refine go_s (pc' := 56) (st' := [.int 2, .int 1]) rfl rfl rfl rfl ?_
                refine go_icmpP (t' := 106) (pc' := 57) rfl rfl rfl (fun (c : 2 ≤ (1 : Int32)) => absurd c (by decide)) (fun _ => ?_)
                refine go_s (pc' := 58) rfl rfl rfl rfl ?_
                refine go_s (pc' := 59) rfl rfl rfl rfl ?_
                refine go_icmpP (t' := 70) (pc' := 60) rfl rfl rfl (fun _ => ?_) (fun (c : ¬ ((1 : Int32) = 1)) => absurd (by decide) c)
                refine go_s (pc' := 71) rfl rfl rfl rfl ?_
                refine go_s (pc' := 72) rfl rfl rfl rfl ?_
                refine go_s (pc' := 73) rfl rfl rfl rfl ?_
                refine go_s (pc' := 74) rfl rfl rfl rfl ?_
                refine go_sget (pc' := 75) (v := .ref 77) hS rfl rfl rfl (by decide) rfl rfl ?_
                refine go_s (pc' := 76) rfl rfl rfl rfl ?_
                refine go_s (pc' := 77) (st' := [.int 1, .int (nI (600 + (6 * g))), .ref 77, .int (nI q), .int 1, .ref 62]) rfl rfl rfl rfl ?_
                refine go_nadd (pc' := 78) (a := (600 + (6 * g))) (b := 1) rfl rfl rfl rfl rfl ?_
                refine go_sald (pc' := 79) (q := ((600 + (6 * g)) + 1)) (v := .int (wn x 1)) hS rfl (tr_as hr (by omega)) rfl rfl (by omega) (congrArg Value.int (hRw 1 (by decide))) rfl ?_
                refine go_s (pc' := 80) rfl rfl rfl rfl ?_
                refine go_sget (pc' := 81) (v := .ref 77) hS rfl rfl rfl (by decide) rfl rfl ?_
                refine go_s (pc' := 82) rfl rfl rfl rfl ?_
                refine go_s (pc' := 83) (st' := [.int 2, .int (nI (600 + (6 * g))), .ref 77, .int (wn x 1), .int (nI q), .int 1, .ref 62]) rfl rfl rfl rfl ?_
                refine go_nadd (pc' := 84) (a := (600 + (6 * g))) (b := 2) rfl rfl rfl rfl rfl ?_
                refine go_sald (pc' := 85) (q := ((600 + (6 * g)) + 2)) (v := .int (wn x 2)) hS rfl (tr_as hr (by omega)) rfl rfl (by omega) (congrArg Value.int (hRw 2 (by decide))) rfl ?_
                refine go_s (pc' := 86) rfl rfl rfl rfl ?_
                refine go_sget (pc' := 87) (v := .ref 77) hS rfl rfl rfl (by decide) rfl rfl ?_
                refine go_s (pc' := 88) rfl rfl rfl rfl ?_
                refine go_s (pc' := 89) (st' := [.int 3, .int (nI (600 + (6 * g))), .ref 77, .int (wn x 2), .int (wn x 1), .int (nI q), .int 1, .ref 62]) rfl rfl rfl rfl ?_
                refine go_nadd (pc' := 90) (a := (600 + (6 * g))) (b := 3) rfl rfl rfl rfl rfl ?_
                refine go_sald (pc' := 91) (q := ((600 + (6 * g)) + 3)) (v := .int (wn x 3)) hS rfl (tr_as hr (by omega)) rfl rfl (by omega) (congrArg Value.int (hRw 3 (by decide))) rfl ?_
                refine go_s (pc' := 92) rfl rfl rfl rfl ?_
                refine go_sget (pc' := 93) (v := .ref 77) hS rfl rfl rfl (by decide) rfl rfl ?_
                refine go_s (pc' := 94) rfl rfl rfl rfl ?_
                refine go_s (pc' := 95) (st' := [.int 4, .int (nI (600 + (6 * g))), .ref 77, .int (wn x 3), .int (wn x 2), .int (wn x 1), .int (nI q), .int 1, .ref 62]) rfl rfl rfl rfl ?_
                refine go_nadd (pc' := 96) (a := (600 + (6 * g))) (b := 4) rfl rfl rfl rfl rfl ?_
                refine go_sald (pc' := 97) (q := ((600 + (6 * g)) + 4)) (v := .int (wn x 4)) hS rfl (tr_as hr (by omega)) rfl rfl (by omega) (congrArg Value.int (hRw 4 (by decide))) rfl ?_
                refine go_s (pc' := 98) rfl rfl rfl rfl ?_
                refine go_sget (pc' := 99) (v := .ref 77) hS rfl rfl rfl (by decide) rfl rfl ?_
                refine go_s (pc' := 100) rfl rfl rfl rfl ?_
                refine go_s (pc' := 101) (st' := [.int 5, .int (nI (600 + (6 * g))), .ref 77, .int (wn x 4), .int (wn x 3), .int (wn x 2), .int (wn x 1), .int (nI q), .int 1, .ref 62]) rfl rfl rfl rfl ?_
                refine go_nadd (pc' := 102) (a := (600 + (6 * g))) (b := 5) rfl rfl rfl rfl rfl ?_
                refine go_sald (pc' := 103) (q := ((600 + (6 * g)) + 5)) (v := .int (wn x 5)) hS rfl (tr_as hr (by omega)) rfl rfl (by omega) (congrArg Value.int (hRw 5 (by decide))) rfl ?_
                refine go_callV (pc' := 104) rfl rfl rfl (Nat.le_of_ble_eq_true rfl) rfl (sm_o hS rfl) rfl rfl rfl (rt_put_1 hr hS hW (q := q) hq (by omega)) (fun r h86 q87 => ?_)
                obtain ⟨rfl, hS88, hE89⟩ := q87
                rw [put_uC (f := (fun j => wn x (1 + j))) (a0 := (wn x 1)) (a1 := (wn x 2)) (a2 := (wn x 3)) (a3 := (wn x 4)) (a4 := (wn x 5)) rfl rfl rfl rfl rfl, uC_jn (by decide)] at hS88
                have hU90 : RU w B R H hb h86 am ln K ((uC I 7 (5 * 49 + q * 5) 5 (fun j => wn x (1 + j))), Q, Z) := RU_I hE89 (fun _ => rfl) (fun _ => rfl) (Nat.le_refl _) hU
                refine go_s (pc' := 105) (lo' := [some (.ref 62), some (.int 1), some (.int (nI (600 + (6 * g)))), some (.int (nI q)), some (.int 2)]) rfl rfl rfl rfl ?_
                refine go_s (pc' := 54) rfl rfl rfl rfl ?_
                refine go_s (pc' := 55) rfl rfl rfl rfl ?_
                refine go_s (pc' := 56) (st' := [.int 2, .int 2]) rfl rfl rfl rfl ?_
                refine go_icmpP (t' := 106) (pc' := 57) rfl rfl rfl (fun _ => ?_) (fun (c : ¬ (2 ≤ (2 : Int32))) => absurd (by decide) c)
                refine go_s (pc' := 107) rfl rfl rfl rfl ?_
                refine go_sget (pc' := 108) (v := .ref 88) hS88 rfl rfl rfl (by decide) rfl rfl ?_
                refine go_s (pc' := 109) rfl rfl rfl rfl ?_
                refine go_s (pc' := 110) rfl rfl rfl rfl ?_
                refine go_sald (pc' := 111) (q := 1) (v := .int (nI g)) hS88 rfl (tr_s hr (a := 88) rfl (by decide)) rfl rfl (by decide) (congrArg Value.int eg) rfl ?_
                refine go_s (pc' := 112) (st' := [.int 1, .int (nI g), .int 1, .ref 88]) rfl rfl rfl rfl ?_
                refine go_nadd (pc' := 113) (a := g) (b := 1) rfl rfl rfl rfl rfl ?_
                refine go_siast (pc' := 114) (q := 1) hS88 rfl (tr_s hr (a := 88) rfl (by decide)) tbr_inj (Nat.le_of_ble_eq_true rfl) rfl (by decide) (by decide) (hW _ (by decide) (by decide)) rfl (fun h91 hS92 hE93 => ?_)
                have hmw : mwrI I 1 x.1.toNatClampNeg x = (uI (uC I 7 (5 * 49 + q * 5) 5 (fun j => wn x (1 + j))) 22 1 (nI (g + 1))) := by
                  rw [eq, nI_clamp (by omega)]
                  unfold mwrI
                  rw [if_neg (fun z => absurd z.2 (Int32.not_lt.mpr c85))]
                  rw [eg, show nI g + 1 = nI (g + 1) from nI_add g 1]
                have hMw : MID X ((uI (uC I 7 (5 * 49 + q * 5) 5 (fun j => wn x (1 + j))) 22 1 (nI (g + 1))), Q, Z) := by
                  rw [← hmw]
                  exact MID_wr (M := (I, Q, Z)) hM (by decide) hlv h2 hu eg (by show (Z (rwi I 0)).2.2[g]? = some x; rw [hrw]; exact hx)
                refine go_s (pc' := 115) rfl rfl rfl rfl ?_
                change sm (tbr am (13 * ln) 77 5088) _ (uI (jn (uC I 7 (5 * 49 + q * 5) 5 (fun j => wn x (1 + j))) K) 22 1 (nI (g + 1))) Y at hS92
                rw [jn_lo (c := 22) (by decide)] at hS92
                have hU94 : RU w B R H hb h91 am ln K ((uI (uC I 7 (5 * 49 + q * 5) 5 (fun j => wn x (1 + j))) 22 1 (nI (g + 1))), Q, Z) := RU_I (hE93) (I' := (uI (uC I 7 (5 * 49 + q * 5) 5 (fun j => wn x (1 + j))) 22 1 (nI (g + 1)))) (fun _ => rfl) (fun _ => rfl) (Nat.le_refl _) hU90
                have hA95 : RA w B R H hb h91 ((uI (uC I 7 (5 * 49 + q * 5) 5 (fun j => wn x (1 + j))) 22 1 (nI (g + 1))), Q, Z) := RA_u.mpr ⟨_, _, _, _, hS92, hU94⟩
                refine go_callV (pc' := 116) rfl rfl rfl (Nat.le_of_ble_eq_true rfl) rfl (sm_o hS92 rfl) rfl rfl rfl (ra_set hA95 (by omega) (X := X) hMw (by omega) hhc (by omega)) (fun r h96 q97 => ?_)
                obtain ⟨rfl, hA98⟩ := q97
                refine go_s (pc' := 117) rfl rfl rfl rfl ?_
                refine go_ret rfl rfl ?_
                have hms : rwr 1 (I, Q, Z) = (x.1, rset 30 ((uI (uC I 7 (5 * 49 + q * 5) 5 (fun j => wn x (1 + j))) 22 1 (nI (g + 1))), Q, Z)) := by
                  unfold rwr
                  rw [if_pos ⟨hlv, h2, hu, (by show ¬ I 22 1 = nI (Z (rwi I 0)).2.2.length; rw [hrw, eg]; exact c66)⟩]
                  have z : (Z (rwi I 0)).2.2[(I 22 1).toNatClampNeg]? = some x := by rw [hrw, eg, nI_clamp (by omega)]; exact hx
                  show (match (Z (rwi I 0)).2.2[(I 22 1).toNatClampNeg]? with | some x => (x.1, rset 30 (mwrI I 1 x.1.toNatClampNeg x, Q, Z)) | none => (-1, (I, Q, Z))) = _
                  rw [z]
                  show (x.1, rset 30 (mwrI I 1 x.1.toNatClampNeg x, Q, Z)) = _
                  rw [hmw]
                rw [hms]
                exact ⟨by rw [eq], hA98⟩
              · skip
                refine go_s (pc' := 71) rfl rfl rfl rfl ?_
                refine go_s (pc' := 72) rfl rfl rfl rfl ?_
                refine go_s (pc' := 73) rfl rfl rfl rfl ?_
                refine go_s (pc' := 74) rfl rfl rfl rfl ?_
                refine go_sget (pc' := 75) (v := .ref 77) hS rfl rfl rfl (by decide) rfl rfl ?_
                refine go_s (pc' := 76) rfl rfl rfl rfl ?_
                refine go_s (pc' := 77) (st' := [.int 1, .int (nI (600 + (6 * g))), .ref 77, .int (nI q), .int 0, .ref 62]) rfl rfl rfl rfl ?_
                refine go_nadd (pc' := 78) (a := (600 + (6 * g))) (b := 1) rfl rfl rfl rfl rfl ?_
                refine go_sald (pc' := 79) (q := ((600 + (6 * g)) + 1)) (v := .int (wn x 1)) hS rfl (tr_as hr (by omega)) rfl rfl (by omega) (congrArg Value.int (hRw 1 (by decide))) rfl ?_
                refine go_s (pc' := 80) rfl rfl rfl rfl ?_
                refine go_sget (pc' := 81) (v := .ref 77) hS rfl rfl rfl (by decide) rfl rfl ?_
                refine go_s (pc' := 82) rfl rfl rfl rfl ?_
                refine go_s (pc' := 83) (st' := [.int 2, .int (nI (600 + (6 * g))), .ref 77, .int (wn x 1), .int (nI q), .int 0, .ref 62]) rfl rfl rfl rfl ?_
                refine go_nadd (pc' := 84) (a := (600 + (6 * g))) (b := 2) rfl rfl rfl rfl rfl ?_
                refine go_sald (pc' := 85) (q := ((600 + (6 * g)) + 2)) (v := .int (wn x 2)) hS rfl (tr_as hr (by omega)) rfl rfl (by omega) (congrArg Value.int (hRw 2 (by decide))) rfl ?_
                refine go_s (pc' := 86) rfl rfl rfl rfl ?_
                refine go_sget (pc' := 87) (v := .ref 77) hS rfl rfl rfl (by decide) rfl rfl ?_
                refine go_s (pc' := 88) rfl rfl rfl rfl ?_
                refine go_s (pc' := 89) (st' := [.int 3, .int (nI (600 + (6 * g))), .ref 77, .int (wn x 2), .int (wn x 1), .int (nI q), .int 0, .ref 62]) rfl rfl rfl rfl ?_
                refine go_nadd (pc' := 90) (a := (600 + (6 * g))) (b := 3) rfl rfl rfl rfl rfl ?_
                refine go_sald (pc' := 91) (q := ((600 + (6 * g)) + 3)) (v := .int (wn x 3)) hS rfl (tr_as hr (by omega)) rfl rfl (by omega) (congrArg Value.int (hRw 3 (by decide))) rfl ?_
                refine go_s (pc' := 92) rfl rfl rfl rfl ?_
                refine go_sget (pc' := 93) (v := .ref 77) hS rfl rfl rfl (by decide) rfl rfl ?_
                refine go_s (pc' := 94) rfl rfl rfl rfl ?_
                refine go_s (pc' := 95) (st' := [.int 4, .int (nI (600 + (6 * g))), .ref 77, .int (wn x 3), .int (wn x 2), .int (wn x 1), .int (nI q), .int 0, .ref 62]) rfl rfl rfl rfl ?_
                refine go_nadd (pc' := 96) (a := (600 + (6 * g))) (b := 4) rfl rfl rfl rfl rfl ?_
                refine go_sald (pc' := 97) (q := ((600 + (6 * g)) + 4)) (v := .int (wn x 4)) hS rfl (tr_as hr (by omega)) rfl rfl (by omega) (congrArg Value.int (hRw 4 (by decide))) rfl ?_
                refine go_s (pc' := 98) rfl rfl rfl rfl ?_
                refine go_sget (pc' := 99) (v := .ref 77) hS rfl rfl rfl (by decide) rfl rfl ?_
                refine go_s (pc' := 100) rfl rfl rfl rfl ?_
                refine go_s (pc' := 101) (st' := [.int 5, .int (nI (600 + (6 * g))), .ref 77, .int (wn x 4), .int (wn x 3), .int (wn x 2), .int (wn x 1), .int (nI q), .int 0, .ref 62]) rfl rfl rfl rfl ?_
                refine go_nadd (pc' := 102) (a := (600 + (6 * g))) (b := 5) rfl rfl rfl rfl rfl ?_
                refine go_sald (pc' := 103) (q := ((600 + (6 * g)) + 5)) (v := .int (wn x 5)) hS rfl (tr_as hr (by omega)) rfl rfl (by omega) (congrArg Value.int (hRw 5 (by decide))) rfl ?_
                refine go_callV (pc' := 104) rfl rfl rfl (Nat.le_of_ble_eq_true rfl) rfl (sm_o hS rfl) rfl rfl rfl (rt_put_0 hr hS hW (q := q) hq (by omega)) (fun r h99 q100 => ?_)
                obtain ⟨rfl, hS101, hE102⟩ := q100
                rw [put_uC (f := (fun j => wn x (1 + j))) (a0 := (wn x 1)) (a1 := (wn x 2)) (a2 := (wn x 3)) (a3 := (wn x 4)) (a4 := (wn x 5)) rfl rfl rfl rfl rfl, uC_jn (by decide)] at hS101
                have hU103 : RU w B R H hb h99 am ln K ((uC I 7 (5 * 0 + q * 5) 5 (fun j => wn x (1 + j))), Q, Z) := RU_I hE102 (fun _ => rfl) (fun _ => rfl) (Nat.le_refl _) hU
                refine go_s (pc' := 105) (lo' := [some (.ref 62), some (.int 1), some (.int (nI (600 + (6 * g)))), some (.int (nI q)), some (.int 1)]) rfl rfl rfl rfl ?_
                refine go_s (pc' := 54) rfl rfl rfl rfl ?_
                refine go_s (pc' := 55) rfl rfl rfl rfl ?_
                refine go_s (pc' := 56) (st' := [.int 2, .int 1]) rfl rfl rfl rfl ?_
                refine go_icmpP (t' := 106) (pc' := 57) rfl rfl rfl (fun (c : 2 ≤ (1 : Int32)) => absurd c (by decide)) (fun _ => ?_)
                refine go_s (pc' := 58) rfl rfl rfl rfl ?_
                refine go_s (pc' := 59) rfl rfl rfl rfl ?_
                refine go_icmpP (t' := 70) (pc' := 60) rfl rfl rfl (fun _ => ?_) (fun (c : ¬ ((1 : Int32) = 1)) => absurd (by decide) c)
                refine go_s (pc' := 71) rfl rfl rfl rfl ?_
                refine go_s (pc' := 72) rfl rfl rfl rfl ?_
                refine go_s (pc' := 73) rfl rfl rfl rfl ?_
                refine go_s (pc' := 74) rfl rfl rfl rfl ?_
                refine go_sget (pc' := 75) (v := .ref 77) hS101 rfl rfl rfl (by decide) rfl rfl ?_
                refine go_s (pc' := 76) rfl rfl rfl rfl ?_
                refine go_s (pc' := 77) (st' := [.int 1, .int (nI (600 + (6 * g))), .ref 77, .int (nI q), .int 1, .ref 62]) rfl rfl rfl rfl ?_
                refine go_nadd (pc' := 78) (a := (600 + (6 * g))) (b := 1) rfl rfl rfl rfl rfl ?_
                refine go_sald (pc' := 79) (q := ((600 + (6 * g)) + 1)) (v := .int (wn x 1)) hS101 rfl (tr_as hr (by omega)) rfl rfl (by omega) (congrArg Value.int (hRw 1 (by decide))) rfl ?_
                refine go_s (pc' := 80) rfl rfl rfl rfl ?_
                refine go_sget (pc' := 81) (v := .ref 77) hS101 rfl rfl rfl (by decide) rfl rfl ?_
                refine go_s (pc' := 82) rfl rfl rfl rfl ?_
                refine go_s (pc' := 83) (st' := [.int 2, .int (nI (600 + (6 * g))), .ref 77, .int (wn x 1), .int (nI q), .int 1, .ref 62]) rfl rfl rfl rfl ?_
                refine go_nadd (pc' := 84) (a := (600 + (6 * g))) (b := 2) rfl rfl rfl rfl rfl ?_
                refine go_sald (pc' := 85) (q := ((600 + (6 * g)) + 2)) (v := .int (wn x 2)) hS101 rfl (tr_as hr (by omega)) rfl rfl (by omega) (congrArg Value.int (hRw 2 (by decide))) rfl ?_
                refine go_s (pc' := 86) rfl rfl rfl rfl ?_
                refine go_sget (pc' := 87) (v := .ref 77) hS101 rfl rfl rfl (by decide) rfl rfl ?_
                refine go_s (pc' := 88) rfl rfl rfl rfl ?_
                refine go_s (pc' := 89) (st' := [.int 3, .int (nI (600 + (6 * g))), .ref 77, .int (wn x 2), .int (wn x 1), .int (nI q), .int 1, .ref 62]) rfl rfl rfl rfl ?_
                refine go_nadd (pc' := 90) (a := (600 + (6 * g))) (b := 3) rfl rfl rfl rfl rfl ?_
                refine go_sald (pc' := 91) (q := ((600 + (6 * g)) + 3)) (v := .int (wn x 3)) hS101 rfl (tr_as hr (by omega)) rfl rfl (by omega) (congrArg Value.int (hRw 3 (by decide))) rfl ?_
                refine go_s (pc' := 92) rfl rfl rfl rfl ?_
                refine go_sget (pc' := 93) (v := .ref 77) hS101 rfl rfl rfl (by decide) rfl rfl ?_
                refine go_s (pc' := 94) rfl rfl rfl rfl ?_
                refine go_s (pc' := 95) (st' := [.int 4, .int (nI (600 + (6 * g))), .ref 77, .int (wn x 3), .int (wn x 2), .int (wn x 1), .int (nI q), .int 1, .ref 62]) rfl rfl rfl rfl ?_
                refine go_nadd (pc' := 96) (a := (600 + (6 * g))) (b := 4) rfl rfl rfl rfl rfl ?_
                refine go_sald (pc' := 97) (q := ((600 + (6 * g)) + 4)) (v := .int (wn x 4)) hS101 rfl (tr_as hr (by omega)) rfl rfl (by omega) (congrArg Value.int (hRw 4 (by decide))) rfl ?_
                refine go_s (pc' := 98) rfl rfl rfl rfl ?_
                refine go_sget (pc' := 99) (v := .ref 77) hS101 rfl rfl rfl (by decide) rfl rfl ?_
                refine go_s (pc' := 100) rfl rfl rfl rfl ?_
                refine go_s (pc' := 101) (st' := [.int 5, .int (nI (600 + (6 * g))), .ref 77, .int (wn x 4), .int (wn x 3), .int (wn x 2), .int (wn x 1), .int (nI q), .int 1, .ref 62]) rfl rfl rfl rfl ?_
                refine go_nadd (pc' := 102) (a := (600 + (6 * g))) (b := 5) rfl rfl rfl rfl rfl ?_
                refine go_sald (pc' := 103) (q := ((600 + (6 * g)) + 5)) (v := .int (wn x 5)) hS101 rfl (tr_as hr (by omega)) rfl rfl (by omega) (congrArg Value.int (hRw 5 (by decide))) rfl ?_
                refine go_callV (pc' := 104) rfl rfl rfl (Nat.le_of_ble_eq_true rfl) rfl (sm_o hS101 rfl) rfl rfl rfl (rt_put_1 hr hS101 hW (q := q) hq (by omega)) (fun r h104 q105 => ?_)
                obtain ⟨rfl, hS106, hE107⟩ := q105
                rw [put_uC (f := (fun j => wn x (1 + j))) (a0 := (wn x 1)) (a1 := (wn x 2)) (a2 := (wn x 3)) (a3 := (wn x 4)) (a4 := (wn x 5)) rfl rfl rfl rfl rfl, uC_jn (by decide)] at hS106
                have hU108 : RU w B R H hb h104 am ln K ((uC (uC I 7 (5 * 0 + q * 5) 5 (fun j => wn x (1 + j))) 7 (5 * 49 + q * 5) 5 (fun j => wn x (1 + j))), Q, Z) := RU_I hE107 (fun _ => rfl) (fun _ => rfl) (Nat.le_refl _) hU103
                refine go_s (pc' := 105) (lo' := [some (.ref 62), some (.int 1), some (.int (nI (600 + (6 * g)))), some (.int (nI q)), some (.int 2)]) rfl rfl rfl rfl ?_
                refine go_s (pc' := 54) rfl rfl rfl rfl ?_
                refine go_s (pc' := 55) rfl rfl rfl rfl ?_
                refine go_s (pc' := 56) (st' := [.int 2, .int 2]) rfl rfl rfl rfl ?_
                refine go_icmpP (t' := 106) (pc' := 57) rfl rfl rfl (fun _ => ?_) (fun (c : ¬ (2 ≤ (2 : Int32))) => absurd (by decide) c)
                refine go_s (pc' := 107) rfl rfl rfl rfl ?_
                refine go_sget (pc' := 108) (v := .ref 88) hS106 rfl rfl rfl (by decide) rfl rfl ?_
                refine go_s (pc' := 109) rfl rfl rfl rfl ?_
                refine go_s (pc' := 110) rfl rfl rfl rfl ?_
                refine go_sald (pc' := 111) (q := 1) (v := .int (nI g)) hS106 rfl (tr_s hr (a := 88) rfl (by decide)) rfl rfl (by decide) (congrArg Value.int eg) rfl ?_
                refine go_s (pc' := 112) (st' := [.int 1, .int (nI g), .int 1, .ref 88]) rfl rfl rfl rfl ?_
                refine go_nadd (pc' := 113) (a := g) (b := 1) rfl rfl rfl rfl rfl ?_
                refine go_siast (pc' := 114) (q := 1) hS106 rfl (tr_s hr (a := 88) rfl (by decide)) tbr_inj (Nat.le_of_ble_eq_true rfl) rfl (by decide) (by decide) (hW _ (by decide) (by decide)) rfl (fun h109 hS110 hE111 => ?_)
                have hmw : mwrI I 1 x.1.toNatClampNeg x = (uI (uC (uC I 7 (5 * 0 + q * 5) 5 (fun j => wn x (1 + j))) 7 (5 * 49 + q * 5) 5 (fun j => wn x (1 + j))) 22 1 (nI (g + 1))) := by
                  rw [eq, nI_clamp (by omega)]
                  unfold mwrI
                  rw [if_pos ⟨u71, Int32.not_le.mp c85⟩]
                  rw [uC_x (by omega)]
                  rw [eg, show nI g + 1 = nI (g + 1) from nI_add g 1]
                have hMw : MID X ((uI (uC (uC I 7 (5 * 0 + q * 5) 5 (fun j => wn x (1 + j))) 7 (5 * 49 + q * 5) 5 (fun j => wn x (1 + j))) 22 1 (nI (g + 1))), Q, Z) := by
                  rw [← hmw]
                  exact MID_wr (M := (I, Q, Z)) hM (by decide) hlv h2 hu eg (by show (Z (rwi I 0)).2.2[g]? = some x; rw [hrw]; exact hx)
                refine go_s (pc' := 115) rfl rfl rfl rfl ?_
                change sm (tbr am (13 * ln) 77 5088) _ (uI (jn (uC (uC I 7 (5 * 0 + q * 5) 5 (fun j => wn x (1 + j))) 7 (5 * 49 + q * 5) 5 (fun j => wn x (1 + j))) K) 22 1 (nI (g + 1))) Y at hS110
                rw [jn_lo (c := 22) (by decide)] at hS110
                have hU112 : RU w B R H hb h109 am ln K ((uI (uC (uC I 7 (5 * 0 + q * 5) 5 (fun j => wn x (1 + j))) 7 (5 * 49 + q * 5) 5 (fun j => wn x (1 + j))) 22 1 (nI (g + 1))), Q, Z) := RU_I (hE111) (I' := (uI (uC (uC I 7 (5 * 0 + q * 5) 5 (fun j => wn x (1 + j))) 7 (5 * 49 + q * 5) 5 (fun j => wn x (1 + j))) 22 1 (nI (g + 1)))) (fun _ => rfl) (fun _ => rfl) (Nat.le_refl _) hU108
                have hA113 : RA w B R H hb h109 ((uI (uC (uC I 7 (5 * 0 + q * 5) 5 (fun j => wn x (1 + j))) 7 (5 * 49 + q * 5) 5 (fun j => wn x (1 + j))) 22 1 (nI (g + 1))), Q, Z) := RA_u.mpr ⟨_, _, _, _, hS110, hU112⟩
                refine go_callV (pc' := 116) rfl rfl rfl (Nat.le_of_ble_eq_true rfl) rfl (sm_o hS110 rfl) rfl rfl rfl (ra_set hA113 (by omega) (X := X) hMw (by omega) hhc (by omega)) (fun r h114 q115 => ?_)
                obtain ⟨rfl, hA116⟩ := q115
                refine go_s (pc' := 117) rfl rfl rfl rfl ?_
                refine go_ret rfl rfl ?_
                have hms : rwr 1 (I, Q, Z) = (x.1, rset 30 ((uI (uC (uC I 7 (5 * 0 + q * 5) 5 (fun j => wn x (1 + j))) 7 (5 * 49 + q * 5) 5 (fun j => wn x (1 + j))) 22 1 (nI (g + 1))), Q, Z)) := by
                  unfold rwr
                  rw [if_pos ⟨hlv, h2, hu, (by show ¬ I 22 1 = nI (Z (rwi I 0)).2.2.length; rw [hrw, eg]; exact c66)⟩]
                  have z : (Z (rwi I 0)).2.2[(I 22 1).toNatClampNeg]? = some x := by rw [hrw, eg, nI_clamp (by omega)]; exact hx
                  show (match (Z (rwi I 0)).2.2[(I 22 1).toNatClampNeg]? with | some x => (x.1, rset 30 (mwrI I 1 x.1.toNatClampNeg x, Q, Z)) | none => (-1, (I, Q, Z))) = _
                  rw [z]
                  show (x.1, rset 30 (mwrI I 1 x.1.toNatClampNeg x, Q, Z)) = _
                  rw [hmw]
                rw [hms]
                exact ⟨by rw [eq], hA116⟩
          · skip
            have c66 : (nI g) = (nI (List.length (Z 1).2.2)) := Decidable.not_not.mp c66'
            refine go_s (pc' := 33) (st' := [.int (-1)]) rfl rfl rfl rfl ?_
            refine go_ret rfl rfl ?_
            have hms : rwr 1 (I, Q, Z) = (-1, (I, Q, Z)) := if_neg (fun z => z.2.2.2 (by show I 22 1 = nI (Z (rwi I 0)).2.2.length; rw [hrw, eg]; exact c66))
            rw [hms]
            exact ⟨rfl, RA_R (by omega) hA⟩
theorem ra_cp {w : Nat → Bool} {d B R : Nat} {H : List (Nat × mg)} {hb : Bool} {h : am_Hp} {I : sm_I} {Q : mQ} {Z : mZ} (hA : RA w B R H hb h (I, Q, Z)) (hR : R + 4 < 40000) {X : Nat} (hI : INV X (I, Q, Z)) (hX : X + 50 < 2 ^ 28) (hhc : hc H hb = 0) (hd : 10 ≤ d) : am_Ev (am_prog w) d 155 [.ref 62] h (fun r h' => r = some (.int (rcp (I, Q, Z)).1) ∧ RA w B (R + 2) H hb h' (rcp (I, Q, Z)).2) := by
  have hM := hI.1
  obtain ⟨K, Y, am, ln, hS, hU⟩ := RA_u.mp hA
  change sm (tbr am (13 * ln) 77 5088) h (jn I K) Y at hS
  obtain ⟨hW, hWm, -, -, hr, -⟩ := id hU.1
  have hln := RU_ln hU (by omega)
  obtain ⟨d, rfl⟩ : ∃ e, d = e + 1 := ⟨d - 1, by omega⟩
  refine ev_go rfl (Nat.le_of_ble_eq_true rfl) rfl ?_
  refine go_s (pc' := 1) rfl rfl rfl rfl ?_
  refine go_s (pc' := 2) (st' := [.int 0, .ref 62]) rfl rfl rfl rfl ?_
  refine go_callV (pc' := 3) rfl rfl rfl (Nat.le_of_ble_eq_true rfl) rfl (sm_o hS rfl) rfl rfl rfl (rt_rv_0 hr hS (by omega)) (fun r h1 q2 => ?_)
  obtain ⟨rfl, rfl⟩ := q2
  rw [show rv (jn I K) 0 = rv I 0 from rfl]
  cases u3 : rv I 0
  · skip
    show am_Go _ _ _ _ 3 _ [.int 0] _ _
    refine go_ifP (t' := 6) (pc' := 4) rfl rfl rfl (fun _ => ?_) (fun (c : ¬ ((0 : Int32) = 0)) => absurd (by decide) c)
    refine go_s (pc' := 7) rfl rfl rfl rfl ?_
    refine go_s (pc' := 8) (st' := [.int 1, .ref 62]) rfl rfl rfl rfl ?_
    refine go_callV (pc' := 9) rfl rfl rfl (Nat.le_of_ble_eq_true rfl) rfl (sm_o hS rfl) rfl rfl rfl (rt_rv_1 hr hS (by omega)) (fun r h4 q5 => ?_)
    obtain ⟨rfl, rfl⟩ := q5
    rw [show rv (jn I K) 1 = rv I 1 from rfl]
    cases u6 : rv I 1
    · skip
      show am_Go _ _ _ _ 9 _ [.int 0] _ _
      refine go_ifP (t' := 12) (pc' := 10) rfl rfl rfl (fun _ => ?_) (fun (c : ¬ ((0 : Int32) = 0)) => absurd (by decide) c)
      refine go_s (pc' := 13) (st' := [.int (-1)]) rfl rfl rfl rfl ?_
      refine go_s (pc' := 14) (lo' := [some (.ref 62), some (.int (-1)), none, none]) rfl rfl rfl rfl ?_
      refine go_s (pc' := 15) rfl rfl rfl rfl ?_
      refine go_s (pc' := 16) (st' := [.int (-1), .int (-1)]) rfl rfl rfl rfl ?_
      refine go_icmpP (t' := 19) (pc' := 17) rfl rfl rfl (fun (c : ¬ ((-1) : Int32) = (-1)) => absurd c (by decide)) (fun _ => ?_)
      refine go_s (pc' := 18) (st' := [.int (-1)]) rfl rfl rfl rfl ?_
      refine go_ret rfl rfl ?_
      have hms : rcp (I, Q, Z) = (-1, (I, Q, Z)) := by
        unfold rcp
        rw [if_neg (by rw [show rv (I, Q, Z).1 0 = false from u3]; decide), if_neg (by rw [show rv (I, Q, Z).1 1 = false from u6]; decide)]
      rw [hms]
      exact ⟨rfl, RA_R (by omega) hA⟩
    · skip
      show am_Go _ _ _ _ 9 _ [.int 1] _ _
      refine go_ifP (t' := 12) (pc' := 10) rfl rfl rfl (fun (c : (1 : Int32) = 0) => absurd c (by decide)) (fun _ => ?_)
      refine go_s (pc' := 11) (st' := [.int 1]) rfl rfl rfl rfl ?_
      refine go_s (pc' := 13) rfl rfl rfl rfl ?_
      refine go_s (pc' := 14) (lo' := [some (.ref 62), some (.int 1), none, none]) rfl rfl rfl rfl ?_
      refine go_s (pc' := 15) rfl rfl rfl rfl ?_
      refine go_s (pc' := 16) (st' := [.int (-1), .int 1]) rfl rfl rfl rfl ?_
      refine go_icmpP (t' := 19) (pc' := 17) rfl rfl rfl (fun _ => ?_) (fun (c : ¬ (¬ (1 : Int32) = (-1))) => absurd (by decide) c)
      have hrv : rv I 1 = true := u6
      obtain ⟨v1, v2, v3, v4, v5⟩ := rv_of hM.2.1 (by decide) hrv
      obtain ⟨q, hq, eq⟩ := (hM.2.1.1 1 (by decide)).2.2.2 v2
      change I 6 1 = nI q at eq
      refine go_s (pc' := 20) rfl rfl rfl rfl ?_
      refine go_sget (pc' := 21) (v := .ref 69) hS rfl rfl rfl (by decide) rfl rfl ?_
      refine go_s (pc' := 22) rfl rfl rfl rfl ?_
      refine go_sald (pc' := 23) (q := 1) (v := .int (nI q)) hS rfl (tr_s hr (a := 69) rfl (by decide)) rfl rfl (by decide) (congrArg Value.int eq) rfl ?_
      refine go_s (pc' := 24) (lo' := [some (.ref 62), some (.int 1), some (.int (nI q)), none]) rfl rfl rfl rfl ?_
      refine go_s (pc' := 25) (st' := [.int 5]) rfl rfl rfl rfl ?_
      refine go_s (pc' := 26) (st' := [.int 49, .int 5]) rfl rfl rfl rfl ?_
      refine go_s (pc' := 27) (st' := [.int 1, .int 49, .int 5]) rfl rfl rfl rfl ?_
      refine go_s (pc' := 28) rfl rfl rfl rfl ?_
      refine go_s (pc' := 29) (st' := [.int 0, .int 49, .int 5]) rfl rfl rfl rfl ?_
      refine go_s (pc' := 30) (st' := [.int 0, .int 5]) rfl rfl rfl rfl ?_
      refine go_s (pc' := 31) rfl rfl rfl rfl ?_
      refine go_nadd (pc' := 32) (a := 0) (b := q) rfl rfl rfl rfl rfl ?_
      refine go_nmul (pc' := 33) (a := 5) (b := (0 + q)) rfl rfl rfl rfl rfl ?_
      refine go_s (pc' := 34) (lo' := [some (.ref 62), some (.int 1), some (.int (nI q)), some (.int (nI (5 * (0 + q))))]) rfl rfl rfl rfl ?_
      refine go_s (pc' := 35) rfl rfl rfl rfl ?_
      refine go_s (pc' := 36) rfl rfl rfl rfl ?_
      refine go_s (pc' := 37) rfl rfl rfl rfl ?_
      refine go_s (pc' := 38) rfl rfl rfl rfl ?_
      refine go_sget (pc' := 39) (v := .ref 70) hS rfl rfl rfl (by decide) rfl rfl ?_
      refine go_s (pc' := 40) rfl rfl rfl rfl ?_
      refine go_sald (pc' := 41) (q := (5 * (0 + q))) (v := .int (I 7 (5 * (0 + q)))) hS rfl (tr_s hr (a := 70) rfl (by omega)) rfl rfl (by omega) rfl rfl ?_
      refine go_s (pc' := 42) rfl rfl rfl rfl ?_
      refine go_sget (pc' := 43) (v := .ref 70) hS rfl rfl rfl (by decide) rfl rfl ?_
      refine go_s (pc' := 44) rfl rfl rfl rfl ?_
      refine go_s (pc' := 45) (st' := [.int 1, .int (nI (5 * (0 + q))), .ref 70, .int (I 7 (5 * (0 + q))), .int (nI q), .int 1, .ref 62]) rfl rfl rfl rfl ?_
      refine go_nadd (pc' := 46) (a := (5 * (0 + q))) (b := 1) rfl rfl rfl rfl rfl ?_
      refine go_sald (pc' := 47) (q := ((5 * (0 + q)) + 1)) (v := .int (I 7 ((5 * (0 + q)) + 1))) hS rfl (tr_s hr (a := 70) rfl (by omega)) rfl rfl (by omega) rfl rfl ?_
      refine go_s (pc' := 48) rfl rfl rfl rfl ?_
      refine go_sget (pc' := 49) (v := .ref 70) hS rfl rfl rfl (by decide) rfl rfl ?_
      refine go_s (pc' := 50) rfl rfl rfl rfl ?_
      refine go_s (pc' := 51) (st' := [.int 2, .int (nI (5 * (0 + q))), .ref 70, .int (I 7 ((5 * (0 + q)) + 1)), .int (I 7 (5 * (0 + q))), .int (nI q), .int 1, .ref 62]) rfl rfl rfl rfl ?_
      refine go_nadd (pc' := 52) (a := (5 * (0 + q))) (b := 2) rfl rfl rfl rfl rfl ?_
      refine go_sald (pc' := 53) (q := ((5 * (0 + q)) + 2)) (v := .int (I 7 ((5 * (0 + q)) + 2))) hS rfl (tr_s hr (a := 70) rfl (by omega)) rfl rfl (by omega) rfl rfl ?_
      refine go_s (pc' := 54) rfl rfl rfl rfl ?_
      refine go_sget (pc' := 55) (v := .ref 70) hS rfl rfl rfl (by decide) rfl rfl ?_
      refine go_s (pc' := 56) rfl rfl rfl rfl ?_
      refine go_s (pc' := 57) (st' := [.int 3, .int (nI (5 * (0 + q))), .ref 70, .int (I 7 ((5 * (0 + q)) + 2)), .int (I 7 ((5 * (0 + q)) + 1)), .int (I 7 (5 * (0 + q))), .int (nI q), .int 1, .ref 62]) rfl rfl rfl rfl ?_
      refine go_nadd (pc' := 58) (a := (5 * (0 + q))) (b := 3) rfl rfl rfl rfl rfl ?_
      refine go_sald (pc' := 59) (q := ((5 * (0 + q)) + 3)) (v := .int (I 7 ((5 * (0 + q)) + 3))) hS rfl (tr_s hr (a := 70) rfl (by omega)) rfl rfl (by omega) rfl rfl ?_
      refine go_s (pc' := 60) rfl rfl rfl rfl ?_
      refine go_sget (pc' := 61) (v := .ref 70) hS rfl rfl rfl (by decide) rfl rfl ?_
      refine go_s (pc' := 62) rfl rfl rfl rfl ?_
      refine go_s (pc' := 63) (st' := [.int 4, .int (nI (5 * (0 + q))), .ref 70, .int (I 7 ((5 * (0 + q)) + 3)), .int (I 7 ((5 * (0 + q)) + 2)), .int (I 7 ((5 * (0 + q)) + 1)), .int (I 7 (5 * (0 + q))), .int (nI q), .int 1, .ref 62]) rfl rfl rfl rfl ?_
      refine go_nadd (pc' := 64) (a := (5 * (0 + q))) (b := 4) rfl rfl rfl rfl rfl ?_
      refine go_sald (pc' := 65) (q := ((5 * (0 + q)) + 4)) (v := .int (I 7 ((5 * (0 + q)) + 4))) hS rfl (tr_s hr (a := 70) rfl (by omega)) rfl rfl (by omega) rfl rfl ?_
      refine go_callV (pc' := 66) rfl rfl rfl (Nat.le_of_ble_eq_true rfl) rfl (sm_o hS rfl) rfl rfl rfl (rt_put_1 hr hS hW (q := q) hq (by omega)) (fun r h7 q8 => ?_)
      obtain ⟨rfl, hS9, hE10⟩ := q8
      rw [put_uC (f := (fun j => I 7 (5 * (0 + q) + j))) (a0 := (I 7 (5 * (0 + q)))) (a1 := (I 7 ((5 * (0 + q)) + 1))) (a2 := (I 7 ((5 * (0 + q)) + 2))) (a3 := (I 7 ((5 * (0 + q)) + 3))) (a4 := (I 7 ((5 * (0 + q)) + 4))) rfl rfl rfl rfl rfl, uC_jn (by decide)] at hS9
      have hU11 : RU w B R H hb h7 am ln K ((uC I 7 (5 * 49 + q * 5) 5 (fun j => I 7 (5 * (0 + q) + j))), Q, Z) := RU_I hE10 (fun _ => rfl) (fun _ => rfl) (Nat.le_refl _) hU
      refine go_s (pc' := 67) rfl rfl rfl rfl ?_
      refine go_sget (pc' := 68) (v := .ref 69) hS9 rfl rfl rfl (by decide) rfl rfl ?_
      refine go_s (pc' := 69) rfl rfl rfl rfl ?_
      refine go_s (pc' := 70) rfl rfl rfl rfl ?_
      refine go_sald (pc' := 71) (q := 1) (v := .int (nI q)) hS9 rfl (tr_s hr (a := 69) rfl (by decide)) rfl rfl (by decide) (congrArg Value.int eq) rfl ?_
      refine go_s (pc' := 72) (st' := [.int 1, .int (nI q), .int 1, .ref 69]) rfl rfl rfl rfl ?_
      refine go_nadd (pc' := 73) (a := q) (b := 1) rfl rfl rfl rfl rfl ?_
      refine go_siast (pc' := 74) (q := 1) hS9 rfl (tr_s hr (a := 69) rfl (by decide)) tbr_inj (Nat.le_of_ble_eq_true rfl) rfl (by decide) (by decide) (hW _ (by decide) (by decide)) rfl (fun h12 hS13 hE14 => ?_)
      change sm (tbr am (13 * ln) 77 5088) _ (uI (jn (uC I 7 (5 * 49 + q * 5) 5 (fun j => I 7 (5 * (0 + q) + j))) K) 6 1 (nI (q + 1))) Y at hS13
      rw [jn_lo (c := 6) (by decide)] at hS13
      have hU15 : RU w B R H hb h12 am ln K ((uI (uC I 7 (5 * 49 + q * 5) 5 (fun j => I 7 (5 * (0 + q) + j))) 6 1 (nI (q + 1))), Q, Z) := RU_I (hE14) (I' := (uI (uC I 7 (5 * 49 + q * 5) 5 (fun j => I 7 (5 * (0 + q) + j))) 6 1 (nI (q + 1)))) (fun _ => rfl) (fun _ => rfl) (Nat.le_refl _) hU11
      have hcp0 : mcp0 I 1 q = (uI (uC I 7 (5 * 49 + q * 5) 5 (fun j => I 7 (5 * (0 + q) + j))) 6 1 (nI (q + 1))) := by
        unfold mcp0
        congr 2
        funext j
        congr 1
        omega
      refine go_s (pc' := 75) rfl rfl rfl rfl ?_
      refine go_s (pc' := 76) (st' := [.int 48, .int (nI q)]) rfl rfl rfl rfl ?_
      refine go_icmpP (t' := 94) (pc' := 77) rfl rfl rfl (fun (c16 : ¬ (nI q) = 48) => ?_) (fun (c16' : ¬ ¬ (nI q) = 48) => ?_)
      · skip
        refine go_s (pc' := 95) rfl rfl rfl rfl ?_
        refine go_ret rfl rfl ?_
        have hcp : mcpI I 1 q = (uI (uC I 7 (5 * 49 + q * 5) 5 (fun j => I 7 (5 * (0 + q) + j))) 6 1 (nI (q + 1))) := by
          unfold mcpI
          rw [if_neg (fun z => c16 (by rw [show q = 48 by omega]; rfl)), hcp0]
        have hA17 : RA w B R H hb h12 ((uI (uC I 7 (5 * 49 + q * 5) 5 (fun j => I 7 (5 * (0 + q) + j))) 6 1 (nI (q + 1))), Q, Z) := RA_u.mpr ⟨_, _, _, _, hS13, hU15⟩
        have hms : rcp (I, Q, Z) = (nI q, ((uI (uC I 7 (5 * 49 + q * 5) 5 (fun j => I 7 (5 * (0 + q) + j))) 6 1 (nI (q + 1))), Q, Z)) := by
          unfold rcp rcp1
          rw [if_neg (by rw [show rv (I, Q, Z).1 0 = false from u3]; decide), if_pos (show rv (I, Q, Z).1 1 = true from hrv), show (I, Q, Z).1 6 1 = nI q from eq, nI_clamp (by omega), if_neg (show ¬ nI q = 48 from c16), hcp]
        rw [hms]
        exact ⟨rfl, RA_R (by omega) hA17⟩
      · skip
        have c16 : (nI q) = 48 := Decidable.not_not.mp c16'
        refine go_s (pc' := 78) rfl rfl rfl rfl ?_
        refine go_sget (pc' := 79) (v := .ref 68) hS13 rfl rfl rfl (by decide) rfl rfl ?_
        refine go_s (pc' := 80) rfl rfl rfl rfl ?_
        refine go_s (pc' := 81) (st' := [.int 1, .int 1, .ref 68]) rfl rfl rfl rfl ?_
        refine go_szast (pc' := 82) (q := 1) hS13 rfl (tr_s hr (a := 68) rfl (by decide)) tbr_inj (Nat.le_of_ble_eq_true rfl) rfl (by decide) (by decide) rfl (hW _ (by decide) (by decide)) rfl (fun h18 hS19 hE20 => ?_)
        refine go_s (pc' := 83) rfl rfl rfl rfl ?_
        refine go_sget (pc' := 84) (v := .ref 88) hS19 rfl rfl rfl (by decide) rfl rfl ?_
        refine go_s (pc' := 85) rfl rfl rfl rfl ?_
        refine go_s (pc' := 86) rfl rfl rfl rfl ?_
        refine go_sget (pc' := 87) (v := .ref 88) hS19 rfl rfl rfl (by decide) rfl rfl ?_
        refine go_s (pc' := 88) (st' := [.int 1, .ref 88, .int 1, .ref 88]) rfl rfl rfl rfl ?_
        refine go_s (pc' := 89) rfl rfl rfl rfl ?_
        refine go_s (pc' := 90) (st' := [.int 0, .ref 88, .int 1, .ref 88]) rfl rfl rfl rfl ?_
        refine go_sald (pc' := 91) (q := 0) (v := .int ((uI (uC I 7 (5 * 49 + q * 5) 5 (fun j => I 7 (5 * (0 + q) + j))) 6 1 (nI (q + 1))) 22 0)) hS19 rfl (tr_s hr (a := 88) rfl (by decide)) rfl rfl (by decide) rfl rfl ?_
        refine go_siast (pc' := 92) (q := 1) hS19 rfl (tr_s hr (a := 88) rfl (by decide)) tbr_inj (Nat.le_of_ble_eq_true rfl) rfl (by decide) (by decide) (hW _ (by decide) (by decide)) rfl (fun h21 hS22 hE23 => ?_)
        have hE24 := sm_e_trans hE20 hE23
        have q48 : q = 48 := (nI_eq (b := 48) (by omega) (by decide)).mp c16
        have hcp : mcpI I 1 q = (uI (uI (uI (uC I 7 (5 * 49 + q * 5) 5 (fun j => I 7 (5 * (0 + q) + j))) 6 1 (nI (q + 1))) 5 1 1) 22 1 ((uI (uC I 7 (5 * 49 + q * 5) 5 (fun j => I 7 (5 * (0 + q) + j))) 6 1 (nI (q + 1))) 22 0)) := by
          unfold mcpI
          rw [if_pos (by omega), hcp0]
          rfl
        have hMc : MID X ((uI (uI (uI (uC I 7 (5 * 49 + q * 5) 5 (fun j => I 7 (5 * (0 + q) + j))) 6 1 (nI (q + 1))) 5 1 1) 22 1 ((uI (uC I 7 (5 * 49 + q * 5) 5 (fun j => I 7 (5 * (0 + q) + j))) 6 1 (nI (q + 1))) 22 0)), Q, Z) := by
          rw [← hcp]
          exact (INV_cp1 (M := (I, Q, Z)) hI (by decide) hrv eq hq).1
        refine go_s (pc' := 93) rfl rfl rfl rfl ?_
        change sm (tbr am (13 * ln) 77 5088) _ (uI (uI (jn (uI (uC I 7 (5 * 49 + q * 5) 5 (fun j => I 7 (5 * (0 + q) + j))) 6 1 (nI (q + 1))) K) 5 1 1) 22 1 ((uI (uC I 7 (5 * 49 + q * 5) 5 (fun j => I 7 (5 * (0 + q) + j))) 6 1 (nI (q + 1))) 22 0)) Y at hS22
        rw [jn_lo (c := 5) (by decide), jn_lo (c := 22) (by decide)] at hS22
        have hU25 : RU w B R H hb h21 am ln K ((uI (uI (uI (uC I 7 (5 * 49 + q * 5) 5 (fun j => I 7 (5 * (0 + q) + j))) 6 1 (nI (q + 1))) 5 1 1) 22 1 ((uI (uC I 7 (5 * 49 + q * 5) 5 (fun j => I 7 (5 * (0 + q) + j))) 6 1 (nI (q + 1))) 22 0)), Q, Z) := RU_I (hE24) (I' := (uI (uI (uI (uC I 7 (5 * 49 + q * 5) 5 (fun j => I 7 (5 * (0 + q) + j))) 6 1 (nI (q + 1))) 5 1 1) 22 1 ((uI (uC I 7 (5 * 49 + q * 5) 5 (fun j => I 7 (5 * (0 + q) + j))) 6 1 (nI (q + 1))) 22 0))) (fun _ => rfl) (fun _ => rfl) (Nat.le_refl _) hU15
        have hA26 : RA w B R H hb h21 ((uI (uI (uI (uC I 7 (5 * 49 + q * 5) 5 (fun j => I 7 (5 * (0 + q) + j))) 6 1 (nI (q + 1))) 5 1 1) 22 1 ((uI (uC I 7 (5 * 49 + q * 5) 5 (fun j => I 7 (5 * (0 + q) + j))) 6 1 (nI (q + 1))) 22 0)), Q, Z) := RA_u.mpr ⟨_, _, _, _, hS22, hU25⟩
        refine go_callV (pc' := 94) rfl rfl rfl (Nat.le_of_ble_eq_true rfl) rfl (sm_o hS22 rfl) rfl rfl rfl (ra_set hA26 (by omega) (X := X) hMc (by omega) hhc (by omega)) (fun r h27 q28 => ?_)
        obtain ⟨rfl, hA29⟩ := q28
        refine go_s (pc' := 95) rfl rfl rfl rfl ?_
        refine go_ret rfl rfl ?_
        have hms : rcp (I, Q, Z) = (nI q, rset 30 ((uI (uI (uI (uC I 7 (5 * 49 + q * 5) 5 (fun j => I 7 (5 * (0 + q) + j))) 6 1 (nI (q + 1))) 5 1 1) 22 1 ((uI (uC I 7 (5 * 49 + q * 5) 5 (fun j => I 7 (5 * (0 + q) + j))) 6 1 (nI (q + 1))) 22 0)), Q, Z)) := by
          unfold rcp rcp1
          rw [if_neg (by rw [show rv (I, Q, Z).1 0 = false from u3]; decide), if_pos (show rv (I, Q, Z).1 1 = true from hrv), show (I, Q, Z).1 6 1 = nI q from eq, nI_clamp (by omega), if_pos (show nI q = 48 from c16), hcp]
        rw [hms]
        exact ⟨rfl, hA29⟩
  · skip
    show am_Go _ _ _ _ 3 _ [.int 1] _ _
    refine go_ifP (t' := 6) (pc' := 4) rfl rfl rfl (fun (c : (1 : Int32) = 0) => absurd c (by decide)) (fun _ => ?_)
    refine go_s (pc' := 5) (st' := [.int 0]) rfl rfl rfl rfl ?_
    refine go_s (pc' := 13) rfl rfl rfl rfl ?_
    refine go_s (pc' := 14) (lo' := [some (.ref 62), some (.int 0), none, none]) rfl rfl rfl rfl ?_
    refine go_s (pc' := 15) rfl rfl rfl rfl ?_
    refine go_s (pc' := 16) (st' := [.int (-1), .int 0]) rfl rfl rfl rfl ?_
    refine go_icmpP (t' := 19) (pc' := 17) rfl rfl rfl (fun _ => ?_) (fun (c : ¬ (¬ (0 : Int32) = (-1))) => absurd (by decide) c)
    have hrv : rv I 0 = true := u3
    obtain ⟨v1, v2, v3, v4, v5⟩ := rv_of hM.2.1 (by decide) hrv
    obtain ⟨q, hq, eq⟩ := (hM.2.1.1 0 (by decide)).2.2.2 v2
    change I 6 0 = nI q at eq
    refine go_s (pc' := 20) rfl rfl rfl rfl ?_
    refine go_sget (pc' := 21) (v := .ref 69) hS rfl rfl rfl (by decide) rfl rfl ?_
    refine go_s (pc' := 22) rfl rfl rfl rfl ?_
    refine go_sald (pc' := 23) (q := 0) (v := .int (nI q)) hS rfl (tr_s hr (a := 69) rfl (by decide)) rfl rfl (by decide) (congrArg Value.int eq) rfl ?_
    refine go_s (pc' := 24) (lo' := [some (.ref 62), some (.int 0), some (.int (nI q)), none]) rfl rfl rfl rfl ?_
    refine go_s (pc' := 25) (st' := [.int 5]) rfl rfl rfl rfl ?_
    refine go_s (pc' := 26) (st' := [.int 49, .int 5]) rfl rfl rfl rfl ?_
    refine go_s (pc' := 27) (st' := [.int 1, .int 49, .int 5]) rfl rfl rfl rfl ?_
    refine go_s (pc' := 28) rfl rfl rfl rfl ?_
    refine go_s (pc' := 29) (st' := [.int 1, .int 49, .int 5]) rfl rfl rfl rfl ?_
    refine go_s (pc' := 30) (st' := [.int 49, .int 5]) rfl rfl rfl rfl ?_
    refine go_s (pc' := 31) rfl rfl rfl rfl ?_
    refine go_nadd (pc' := 32) (a := 49) (b := q) rfl rfl rfl rfl rfl ?_
    refine go_nmul (pc' := 33) (a := 5) (b := (49 + q)) rfl rfl rfl rfl rfl ?_
    refine go_s (pc' := 34) (lo' := [some (.ref 62), some (.int 0), some (.int (nI q)), some (.int (nI (5 * (49 + q))))]) rfl rfl rfl rfl ?_
    refine go_s (pc' := 35) rfl rfl rfl rfl ?_
    refine go_s (pc' := 36) rfl rfl rfl rfl ?_
    refine go_s (pc' := 37) rfl rfl rfl rfl ?_
    refine go_s (pc' := 38) rfl rfl rfl rfl ?_
    refine go_sget (pc' := 39) (v := .ref 70) hS rfl rfl rfl (by decide) rfl rfl ?_
    refine go_s (pc' := 40) rfl rfl rfl rfl ?_
    refine go_sald (pc' := 41) (q := (5 * (49 + q))) (v := .int (I 7 (5 * (49 + q)))) hS rfl (tr_s hr (a := 70) rfl (by omega)) rfl rfl (by omega) rfl rfl ?_
    refine go_s (pc' := 42) rfl rfl rfl rfl ?_
    refine go_sget (pc' := 43) (v := .ref 70) hS rfl rfl rfl (by decide) rfl rfl ?_
    refine go_s (pc' := 44) rfl rfl rfl rfl ?_
    refine go_s (pc' := 45) (st' := [.int 1, .int (nI (5 * (49 + q))), .ref 70, .int (I 7 (5 * (49 + q))), .int (nI q), .int 0, .ref 62]) rfl rfl rfl rfl ?_
    refine go_nadd (pc' := 46) (a := (5 * (49 + q))) (b := 1) rfl rfl rfl rfl rfl ?_
    refine go_sald (pc' := 47) (q := ((5 * (49 + q)) + 1)) (v := .int (I 7 ((5 * (49 + q)) + 1))) hS rfl (tr_s hr (a := 70) rfl (by omega)) rfl rfl (by omega) rfl rfl ?_
    refine go_s (pc' := 48) rfl rfl rfl rfl ?_
    refine go_sget (pc' := 49) (v := .ref 70) hS rfl rfl rfl (by decide) rfl rfl ?_
    refine go_s (pc' := 50) rfl rfl rfl rfl ?_
    refine go_s (pc' := 51) (st' := [.int 2, .int (nI (5 * (49 + q))), .ref 70, .int (I 7 ((5 * (49 + q)) + 1)), .int (I 7 (5 * (49 + q))), .int (nI q), .int 0, .ref 62]) rfl rfl rfl rfl ?_
    refine go_nadd (pc' := 52) (a := (5 * (49 + q))) (b := 2) rfl rfl rfl rfl rfl ?_
    refine go_sald (pc' := 53) (q := ((5 * (49 + q)) + 2)) (v := .int (I 7 ((5 * (49 + q)) + 2))) hS rfl (tr_s hr (a := 70) rfl (by omega)) rfl rfl (by omega) rfl rfl ?_
    refine go_s (pc' := 54) rfl rfl rfl rfl ?_
    refine go_sget (pc' := 55) (v := .ref 70) hS rfl rfl rfl (by decide) rfl rfl ?_
    refine go_s (pc' := 56) rfl rfl rfl rfl ?_
    refine go_s (pc' := 57) (st' := [.int 3, .int (nI (5 * (49 + q))), .ref 70, .int (I 7 ((5 * (49 + q)) + 2)), .int (I 7 ((5 * (49 + q)) + 1)), .int (I 7 (5 * (49 + q))), .int (nI q), .int 0, .ref 62]) rfl rfl rfl rfl ?_
    refine go_nadd (pc' := 58) (a := (5 * (49 + q))) (b := 3) rfl rfl rfl rfl rfl ?_
    refine go_sald (pc' := 59) (q := ((5 * (49 + q)) + 3)) (v := .int (I 7 ((5 * (49 + q)) + 3))) hS rfl (tr_s hr (a := 70) rfl (by omega)) rfl rfl (by omega) rfl rfl ?_
    refine go_s (pc' := 60) rfl rfl rfl rfl ?_
    refine go_sget (pc' := 61) (v := .ref 70) hS rfl rfl rfl (by decide) rfl rfl ?_
    refine go_s (pc' := 62) rfl rfl rfl rfl ?_
    refine go_s (pc' := 63) (st' := [.int 4, .int (nI (5 * (49 + q))), .ref 70, .int (I 7 ((5 * (49 + q)) + 3)), .int (I 7 ((5 * (49 + q)) + 2)), .int (I 7 ((5 * (49 + q)) + 1)), .int (I 7 (5 * (49 + q))), .int (nI q), .int 0, .ref 62]) rfl rfl rfl rfl ?_
    refine go_nadd (pc' := 64) (a := (5 * (49 + q))) (b := 4) rfl rfl rfl rfl rfl ?_
    refine go_sald (pc' := 65) (q := ((5 * (49 + q)) + 4)) (v := .int (I 7 ((5 * (49 + q)) + 4))) hS rfl (tr_s hr (a := 70) rfl (by omega)) rfl rfl (by omega) rfl rfl ?_
    refine go_callV (pc' := 66) rfl rfl rfl (Nat.le_of_ble_eq_true rfl) rfl (sm_o hS rfl) rfl rfl rfl (rt_put_0 hr hS hW (q := q) hq (by omega)) (fun r h30 q31 => ?_)
    obtain ⟨rfl, hS32, hE33⟩ := q31
    rw [put_uC (f := (fun j => I 7 (5 * (49 + q) + j))) (a0 := (I 7 (5 * (49 + q)))) (a1 := (I 7 ((5 * (49 + q)) + 1))) (a2 := (I 7 ((5 * (49 + q)) + 2))) (a3 := (I 7 ((5 * (49 + q)) + 3))) (a4 := (I 7 ((5 * (49 + q)) + 4))) rfl rfl rfl rfl rfl, uC_jn (by decide)] at hS32
    have hU34 : RU w B R H hb h30 am ln K ((uC I 7 (5 * 0 + q * 5) 5 (fun j => I 7 (5 * (49 + q) + j))), Q, Z) := RU_I hE33 (fun _ => rfl) (fun _ => rfl) (Nat.le_refl _) hU
    refine go_s (pc' := 67) rfl rfl rfl rfl ?_
    refine go_sget (pc' := 68) (v := .ref 69) hS32 rfl rfl rfl (by decide) rfl rfl ?_
    refine go_s (pc' := 69) rfl rfl rfl rfl ?_
    refine go_s (pc' := 70) rfl rfl rfl rfl ?_
    refine go_sald (pc' := 71) (q := 0) (v := .int (nI q)) hS32 rfl (tr_s hr (a := 69) rfl (by decide)) rfl rfl (by decide) (congrArg Value.int eq) rfl ?_
    refine go_s (pc' := 72) (st' := [.int 1, .int (nI q), .int 0, .ref 69]) rfl rfl rfl rfl ?_
    refine go_nadd (pc' := 73) (a := q) (b := 1) rfl rfl rfl rfl rfl ?_
    refine go_siast (pc' := 74) (q := 0) hS32 rfl (tr_s hr (a := 69) rfl (by decide)) tbr_inj (Nat.le_of_ble_eq_true rfl) rfl (by decide) (by decide) (hW _ (by decide) (by decide)) rfl (fun h35 hS36 hE37 => ?_)
    change sm (tbr am (13 * ln) 77 5088) _ (uI (jn (uC I 7 (5 * 0 + q * 5) 5 (fun j => I 7 (5 * (49 + q) + j))) K) 6 0 (nI (q + 1))) Y at hS36
    rw [jn_lo (c := 6) (by decide)] at hS36
    have hU38 : RU w B R H hb h35 am ln K ((uI (uC I 7 (5 * 0 + q * 5) 5 (fun j => I 7 (5 * (49 + q) + j))) 6 0 (nI (q + 1))), Q, Z) := RU_I (hE37) (I' := (uI (uC I 7 (5 * 0 + q * 5) 5 (fun j => I 7 (5 * (49 + q) + j))) 6 0 (nI (q + 1)))) (fun _ => rfl) (fun _ => rfl) (Nat.le_refl _) hU34
    have hcp0 : mcp0 I 0 q = (uI (uC I 7 (5 * 0 + q * 5) 5 (fun j => I 7 (5 * (49 + q) + j))) 6 0 (nI (q + 1))) := by
      unfold mcp0
      congr 2
      funext j
      congr 1
      omega
    refine go_s (pc' := 75) rfl rfl rfl rfl ?_
    refine go_s (pc' := 76) (st' := [.int 48, .int (nI q)]) rfl rfl rfl rfl ?_
    refine go_icmpP (t' := 94) (pc' := 77) rfl rfl rfl (fun (c39 : ¬ (nI q) = 48) => ?_) (fun (c39' : ¬ ¬ (nI q) = 48) => ?_)
    · skip
      refine go_s (pc' := 95) rfl rfl rfl rfl ?_
      refine go_ret rfl rfl ?_
      have hcp : mcpI I 0 q = (uI (uC I 7 (5 * 0 + q * 5) 5 (fun j => I 7 (5 * (49 + q) + j))) 6 0 (nI (q + 1))) := by
        unfold mcpI
        rw [if_neg (fun z => c39 (by rw [show q = 48 by omega]; rfl)), hcp0]
      have hA40 : RA w B R H hb h35 ((uI (uC I 7 (5 * 0 + q * 5) 5 (fun j => I 7 (5 * (49 + q) + j))) 6 0 (nI (q + 1))), Q, Z) := RA_u.mpr ⟨_, _, _, _, hS36, hU38⟩
      have hms : rcp (I, Q, Z) = (nI q, ((uI (uC I 7 (5 * 0 + q * 5) 5 (fun j => I 7 (5 * (49 + q) + j))) 6 0 (nI (q + 1))), Q, Z)) := by
        unfold rcp rcp1
        rw [if_pos (show rv (I, Q, Z).1 0 = true from hrv), show (I, Q, Z).1 6 0 = nI q from eq, nI_clamp (by omega), if_neg (show ¬ nI q = 48 from c39), hcp]
      rw [hms]
      exact ⟨rfl, RA_R (by omega) hA40⟩
    · skip
      have c39 : (nI q) = 48 := Decidable.not_not.mp c39'
      refine go_s (pc' := 78) rfl rfl rfl rfl ?_
      refine go_sget (pc' := 79) (v := .ref 68) hS36 rfl rfl rfl (by decide) rfl rfl ?_
      refine go_s (pc' := 80) rfl rfl rfl rfl ?_
      refine go_s (pc' := 81) (st' := [.int 1, .int 0, .ref 68]) rfl rfl rfl rfl ?_
      refine go_szast (pc' := 82) (q := 0) hS36 rfl (tr_s hr (a := 68) rfl (by decide)) tbr_inj (Nat.le_of_ble_eq_true rfl) rfl (by decide) (by decide) rfl (hW _ (by decide) (by decide)) rfl (fun h41 hS42 hE43 => ?_)
      refine go_s (pc' := 83) rfl rfl rfl rfl ?_
      refine go_sget (pc' := 84) (v := .ref 88) hS42 rfl rfl rfl (by decide) rfl rfl ?_
      refine go_s (pc' := 85) rfl rfl rfl rfl ?_
      refine go_s (pc' := 86) rfl rfl rfl rfl ?_
      refine go_sget (pc' := 87) (v := .ref 88) hS42 rfl rfl rfl (by decide) rfl rfl ?_
      refine go_s (pc' := 88) (st' := [.int 1, .ref 88, .int 0, .ref 88]) rfl rfl rfl rfl ?_
      refine go_s (pc' := 89) rfl rfl rfl rfl ?_
      refine go_s (pc' := 90) (st' := [.int 1, .ref 88, .int 0, .ref 88]) rfl rfl rfl rfl ?_
      refine go_sald (pc' := 91) (q := 1) (v := .int ((uI (uC I 7 (5 * 0 + q * 5) 5 (fun j => I 7 (5 * (49 + q) + j))) 6 0 (nI (q + 1))) 22 1)) hS42 rfl (tr_s hr (a := 88) rfl (by decide)) rfl rfl (by decide) rfl rfl ?_
      refine go_siast (pc' := 92) (q := 0) hS42 rfl (tr_s hr (a := 88) rfl (by decide)) tbr_inj (Nat.le_of_ble_eq_true rfl) rfl (by decide) (by decide) (hW _ (by decide) (by decide)) rfl (fun h44 hS45 hE46 => ?_)
      have hE47 := sm_e_trans hE43 hE46
      have q48 : q = 48 := (nI_eq (b := 48) (by omega) (by decide)).mp c39
      have hcp : mcpI I 0 q = (uI (uI (uI (uC I 7 (5 * 0 + q * 5) 5 (fun j => I 7 (5 * (49 + q) + j))) 6 0 (nI (q + 1))) 5 0 1) 22 0 ((uI (uC I 7 (5 * 0 + q * 5) 5 (fun j => I 7 (5 * (49 + q) + j))) 6 0 (nI (q + 1))) 22 1)) := by
        unfold mcpI
        rw [if_pos (by omega), hcp0]
        rfl
      have hMc : MID X ((uI (uI (uI (uC I 7 (5 * 0 + q * 5) 5 (fun j => I 7 (5 * (49 + q) + j))) 6 0 (nI (q + 1))) 5 0 1) 22 0 ((uI (uC I 7 (5 * 0 + q * 5) 5 (fun j => I 7 (5 * (49 + q) + j))) 6 0 (nI (q + 1))) 22 1)), Q, Z) := by
        rw [← hcp]
        exact (INV_cp1 (M := (I, Q, Z)) hI (by decide) hrv eq hq).1
      refine go_s (pc' := 93) rfl rfl rfl rfl ?_
      change sm (tbr am (13 * ln) 77 5088) _ (uI (uI (jn (uI (uC I 7 (5 * 0 + q * 5) 5 (fun j => I 7 (5 * (49 + q) + j))) 6 0 (nI (q + 1))) K) 5 0 1) 22 0 ((uI (uC I 7 (5 * 0 + q * 5) 5 (fun j => I 7 (5 * (49 + q) + j))) 6 0 (nI (q + 1))) 22 1)) Y at hS45
      rw [jn_lo (c := 5) (by decide), jn_lo (c := 22) (by decide)] at hS45
      have hU48 : RU w B R H hb h44 am ln K ((uI (uI (uI (uC I 7 (5 * 0 + q * 5) 5 (fun j => I 7 (5 * (49 + q) + j))) 6 0 (nI (q + 1))) 5 0 1) 22 0 ((uI (uC I 7 (5 * 0 + q * 5) 5 (fun j => I 7 (5 * (49 + q) + j))) 6 0 (nI (q + 1))) 22 1)), Q, Z) := RU_I (hE47) (I' := (uI (uI (uI (uC I 7 (5 * 0 + q * 5) 5 (fun j => I 7 (5 * (49 + q) + j))) 6 0 (nI (q + 1))) 5 0 1) 22 0 ((uI (uC I 7 (5 * 0 + q * 5) 5 (fun j => I 7 (5 * (49 + q) + j))) 6 0 (nI (q + 1))) 22 1))) (fun _ => rfl) (fun _ => rfl) (Nat.le_refl _) hU38
      have hA49 : RA w B R H hb h44 ((uI (uI (uI (uC I 7 (5 * 0 + q * 5) 5 (fun j => I 7 (5 * (49 + q) + j))) 6 0 (nI (q + 1))) 5 0 1) 22 0 ((uI (uC I 7 (5 * 0 + q * 5) 5 (fun j => I 7 (5 * (49 + q) + j))) 6 0 (nI (q + 1))) 22 1)), Q, Z) := RA_u.mpr ⟨_, _, _, _, hS45, hU48⟩
      refine go_callV (pc' := 94) rfl rfl rfl (Nat.le_of_ble_eq_true rfl) rfl (sm_o hS45 rfl) rfl rfl rfl (ra_set hA49 (by omega) (X := X) hMc (by omega) hhc (by omega)) (fun r h50 q51 => ?_)
      obtain ⟨rfl, hA52⟩ := q51
      refine go_s (pc' := 95) rfl rfl rfl rfl ?_
      refine go_ret rfl rfl ?_
      have hms : rcp (I, Q, Z) = (nI q, rset 30 ((uI (uI (uI (uC I 7 (5 * 0 + q * 5) 5 (fun j => I 7 (5 * (49 + q) + j))) 6 0 (nI (q + 1))) 5 0 1) 22 0 ((uI (uC I 7 (5 * 0 + q * 5) 5 (fun j => I 7 (5 * (49 + q) + j))) 6 0 (nI (q + 1))) 22 1)), Q, Z)) := by
        unfold rcp rcp1
        rw [if_pos (show rv (I, Q, Z).1 0 = true from hrv), show (I, Q, Z).1 6 0 = nI q from eq, nI_clamp (by omega), if_pos (show nI q = 48 from c39), hcp]
      rw [hms]
      exact ⟨rfl, hA52⟩
