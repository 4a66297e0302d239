/-! a tick -/
def rwkM (N : mM) : mM := (rwkI N.1 N.2.1 16, N.2)
theorem rwk_0 {I : sm_I} {Q : mQ} : rwkI I Q 0 = I := by
  funext c j
  unfold rwkI
  rw [if_neg (by omega)]
theorem rwk_n {I : sm_I} {Q : mQ} {n : Nat} (h : rwkc I Q n = false) : rwkI I Q (n + 1) = rwkI I Q n := by
  funext c j
  unfold rwkI
  by_cases e : (c = 24 ∨ c = 25) ∧ j < n ∧ rwkc I Q j = true
  · rw [if_pos e, if_pos ⟨e.1, by omega, e.2.2⟩]
  · rw [if_neg e, if_neg (fun z => ?_)]
    by_cases ej : j = n
    · subst ej
      rw [h] at z
      exact absurd z.2.2 (by decide)
    · exact e ⟨z.1, by omega, z.2.2⟩
theorem rwk_y {I : sm_I} {Q : mQ} {n : Nat} (h : rwkc I Q n = true) : rwkI I Q (n + 1) = uI (uI (rwkI I Q n) 24 n (nxb I (I 25 n))) 25 n (nxb I (I 25 n)) := by
  funext c j
  simp only [uI]
  by_cases e1 : c = 25 ∧ j = n
  · rw [if_pos e1]
    obtain ⟨rfl, rfl⟩ := e1
    unfold rwkI
    rw [if_pos ⟨Or.inr rfl, by omega, h⟩]
  · rw [if_neg e1]
    by_cases e2 : c = 24 ∧ j = n
    · rw [if_pos e2]
      obtain ⟨rfl, rfl⟩ := e2
      unfold rwkI
      rw [if_pos ⟨Or.inl rfl, by omega, h⟩]
    · rw [if_neg e2]
      unfold rwkI
      by_cases e : (c = 24 ∨ c = 25) ∧ j < n ∧ rwkc I Q j = true
      · rw [if_pos e, if_pos ⟨e.1, by omega, e.2.2⟩]
      · rw [if_neg e, if_neg (fun z => ?_)]
        by_cases ej : j = n
        · subst ej
          rcases z.1 with y | y
          · exact e2 ⟨y, rfl⟩
          · exact e1 ⟨y, rfl⟩
        · exact e ⟨z.1, by omega, z.2.2⟩
theorem rwk_at {I : sm_I} {Q : mQ} {n c : Nat} : rwkI I Q n c n = I c n := by
  unfold rwkI
  rw [if_neg (by omega)]
theorem rwk_o {I : sm_I} {Q : mQ} {n c : Nat} (h4 : c ≠ 24) (h5 : c ≠ 25) : rwkI I Q n c = I c := by
  funext j
  unfold rwkI
  rw [if_neg (by omega)]
theorem rwk_nb {I : sm_I} {Q : mQ} {n : Nat} {b : Int32} : nxb (rwkI I Q n) b = nxb I b := by
  unfold nxb fbu
  rw [rwk_o (by decide) (by decide)]
theorem stT_0 {w : Nat → Bool} {d B R : Nat} {h : am_Hp} {I : sm_I} {Q : mQ} {Z : mZ} {P : Option Value → am_Hp → Prop} (hA : RA w B R [] true h (I, Q, Z)) (hR : R + 30 < 40000) {X : Nat} (hV : XV X (I, Q, Z)) (hX : X + 300 < 2 ^ 28) (hd : 11 ≤ d) (C : ∀ h', RA w B (R + 6) [] true h' (rtk1 0 (I, Q, Z)) → am_Go (am_prog w) d am_c168 (some .int) 8 [some (.ref 62), some (.int 1)] [] h' P) : am_Go (am_prog w) d am_c168 (some .int) 8 [some (.ref 62), some (.int 0)] [] h P := by
  obtain ⟨K, Y, am, ln, hS, hU⟩ := RA_u.mp hA
  change sm (tbr am (13 * ln) 77 5088) h (jn I K) Y at hS
  obtain ⟨hW, hWm, -, -, hr, -⟩ := id hU.1
  have hln := RU_ln hU (by omega)
  refine go_s (pc' := 9) rfl rfl rfl rfl ?_
  refine go_s (pc' := 10) (st' := [.int 4, .int 0]) rfl rfl rfl rfl ?_
  refine go_icmpP (t' := 51) (pc' := 11) rfl rfl rfl (fun (c : 4 ≤ (0 : Int32)) => absurd c (by decide)) (fun _ => ?_)
  refine go_s (pc' := 12) rfl rfl rfl rfl ?_
  refine go_sget (pc' := 13) (v := .ref 63) hS rfl rfl rfl (by decide) rfl rfl ?_
  refine go_s (pc' := 14) rfl rfl rfl rfl ?_
  refine go_sald (pc' := 15) (q := 0) (v := .int (I 0 0)) hS rfl (tr_s hr (a := 63) rfl (by decide)) rfl rfl (by decide) rfl rfl ?_
  refine go_ifP (t' := 49) (pc' := 16) rfl rfl rfl (fun (c1 : ¬ (I 0 0) = 0) => ?_) (fun (c1' : ¬ ¬ (I 0 0) = 0) => ?_)
  · skip
    refine go_s (pc' := 50) (lo' := [some (.ref 62), some (.int 1)]) rfl rfl rfl rfl ?_
    refine go_s (pc' := 8) rfl rfl rfl rfl ?_
    have hs : sil I 0 = false := by simp [sil, fbu, c1]
    have hms : rtk1 0 (I, Q, Z) = (I, Q, Z) := if_neg (by rw [show sil ((I, Q, Z) : mM).1 0 = false from hs]; decide)
    rw [hms] at C
    exact C _ (RA_R (by omega) hA)
  · skip
    have c1 : (I 0 0) = 0 := Decidable.not_not.mp c1'
    refine go_s (pc' := 17) rfl rfl rfl rfl ?_
    refine go_sget (pc' := 18) (v := .ref 64) hS rfl rfl rfl (by decide) rfl rfl ?_
    refine go_s (pc' := 19) rfl rfl rfl rfl ?_
    refine go_sald (pc' := 20) (q := 0) (v := .int (I 1 0)) hS rfl (tr_s hr (a := 64) rfl (by decide)) rfl rfl (by decide) rfl rfl ?_
    refine go_ifP (t' := 49) (pc' := 21) rfl rfl rfl (fun (c2 : ¬ (I 1 0) = 0) => ?_) (fun (c2' : ¬ ¬ (I 1 0) = 0) => ?_)
    · skip
      refine go_s (pc' := 50) (lo' := [some (.ref 62), some (.int 1)]) rfl rfl rfl rfl ?_
      refine go_s (pc' := 8) rfl rfl rfl rfl ?_
      have hs : sil I 0 = false := by simp [sil, fbu, c1, c2]
      have hms : rtk1 0 (I, Q, Z) = (I, Q, Z) := if_neg (by rw [show sil ((I, Q, Z) : mM).1 0 = false from hs]; decide)
      rw [hms] at C
      exact C _ (RA_R (by omega) hA)
    · skip
      have c2 : (I 1 0) = 0 := Decidable.not_not.mp c2'
      refine go_s (pc' := 22) rfl rfl rfl rfl ?_
      refine go_sget (pc' := 23) (v := .ref 66) hS rfl rfl rfl (by decide) rfl rfl ?_
      refine go_s (pc' := 24) (st' := [.int 0, .ref 66]) rfl rfl rfl rfl ?_
      refine go_sald (pc' := 25) (q := 0) (v := .int (I 3 0)) hS rfl (tr_s hr (a := 66) rfl (by decide)) rfl rfl (by decide) rfl rfl ?_
      refine go_ifP (t' := 32) (pc' := 26) rfl rfl rfl (fun (c3 : ¬ (I 3 0) = 0) => ?_) (fun (c3' : ¬ ¬ (I 3 0) = 0) => ?_)
      · skip
        refine go_s (pc' := 33) rfl rfl rfl rfl ?_
        refine go_sget (pc' := 34) (v := .ref 65) hS rfl rfl rfl (by decide) rfl rfl ?_
        refine go_s (pc' := 35) rfl rfl rfl rfl ?_
        refine go_s (pc' := 36) rfl rfl rfl rfl ?_
        refine go_sald (pc' := 37) (q := 0) (v := .int (I 2 0)) hS rfl (tr_s hr (a := 65) rfl (by decide)) rfl rfl (by decide) rfl rfl ?_
        refine go_s (pc' := 38) (st' := [.int 1, .int (I 2 0), .int 0, .ref 65]) rfl rfl rfl rfl ?_
        refine go_s (pc' := 39) rfl rfl rfl rfl ?_
        refine go_siast (pc' := 40) (q := 0) hS rfl (tr_s hr (a := 65) rfl (by decide)) tbr_inj (Nat.le_of_ble_eq_true rfl) rfl (by decide) (by decide) (hW _ (by decide) (by decide)) rfl (fun h4 hS5 hE6 => ?_)
        refine go_s (pc' := 41) rfl rfl rfl rfl ?_
        refine go_sget (pc' := 42) (v := .ref 65) hS5 rfl rfl rfl (by decide) rfl rfl ?_
        refine go_s (pc' := 43) rfl rfl rfl rfl ?_
        refine go_sald (pc' := 44) (q := 0) (v := .int ((I 2 0) + 1)) hS5 rfl (tr_s hr (a := 65) rfl (by decide)) rfl rfl (by decide) rfl rfl ?_
        refine go_s (pc' := 45) (st' := [.int 5, .int ((I 2 0) + 1)]) rfl rfl rfl rfl ?_
        refine go_icmpP (t' := 49) (pc' := 46) rfl rfl rfl (fun (c7 : ¬ ((I 2 0) + 1) = 5) => ?_) (fun (c7' : ¬ ¬ ((I 2 0) + 1) = 5) => ?_)
        · skip
          refine go_s (pc' := 50) (lo' := [some (.ref 62), some (.int 1)]) rfl rfl rfl rfl ?_
          refine go_s (pc' := 8) rfl rfl rfl rfl ?_
          have hs : sil I 0 = true := by simp [sil, fbu, c1, c2, c3]
          change sm (tbr am (13 * ln) 77 5088) _ (uI (jn I K) 2 0 ((I 2 0) + 1)) Y at hS5
          rw [jn_lo (c := 2) (by decide)] at hS5
          have hU8 : RU w B R [] true h4 am ln K ((uI I 2 0 ((I 2 0) + 1)), Q, Z) := RU_I (hE6) (I' := (uI I 2 0 ((I 2 0) + 1))) (fun _ => rfl) (fun _ => rfl) (Nat.le_refl _) hU
          have hA9 : RA w B R [] true h4 ((uI I 2 0 ((I 2 0) + 1)), Q, Z) := RA_u.mpr ⟨_, _, _, _, hS5, hU8⟩
          have hms : rtk1 0 (I, Q, Z) = ((uI I 2 0 ((I 2 0) + 1)), Q, Z) := (if_pos hs).trans (if_neg c7)
          rw [hms] at C
          exact C _ (RA_R (by omega) hA9)
        · skip
          have c7 : ((I 2 0) + 1) = 5 := Decidable.not_not.mp c7'
          refine go_s (pc' := 47) rfl rfl rfl rfl ?_
          refine go_s (pc' := 48) rfl rfl rfl rfl ?_
          change sm (tbr am (13 * ln) 77 5088) _ (uI (jn I K) 2 0 ((I 2 0) + 1)) Y at hS5
          rw [jn_lo (c := 2) (by decide)] at hS5
          have hU10 : RU w B R [] true h4 am ln K ((uI I 2 0 ((I 2 0) + 1)), Q, Z) := RU_I (hE6) (I' := (uI I 2 0 ((I 2 0) + 1))) (fun _ => rfl) (fun _ => rfl) (Nat.le_refl _) hU
          obtain ⟨s9, hs9, es9⟩ := hV.2.2 0 (by decide) c1 c2
          change I 2 0 = nI s9 at es9
          have hM9 : MID X ((uI I 2 0 ((I 2 0) + 1)), Q, Z) := by
            rw [show I 2 0 + 1 = nI (s9 + 1) by rw [es9]; exact nI_add s9 1]
            exact (INV_2 hV.1 (by decide) (by omega)).1
          have hU11 : RU w B R [] true h4 am ln K ((uI I 2 0 ((I 2 0) + 1)), Q, Z) := RU_I (sm_e_refl (tbr am (13 * ln) 77 5088) _) (I' := (uI I 2 0 ((I 2 0) + 1))) (fun _ => rfl) (fun _ => rfl) (Nat.le_refl _) hU10
          have hA12 : RA w B R [] true h4 ((uI I 2 0 ((I 2 0) + 1)), Q, Z) := RA_u.mpr ⟨_, _, _, _, hS5, hU11⟩
          refine go_callV (pc' := 49) rfl rfl rfl (Nat.le_of_ble_eq_true rfl) rfl (sm_o hS5 rfl) rfl rfl rfl (ra_dc_0 hA12 (by omega) hM9 (by omega) c1 (by omega)) (fun r h13 q14 => ?_)
          obtain ⟨rfl, hA15⟩ := q14
          refine go_s (pc' := 50) (lo' := [some (.ref 62), some (.int 1)]) rfl rfl rfl rfl ?_
          refine go_s (pc' := 8) rfl rfl rfl rfl ?_
          have hs : sil I 0 = true := by simp [sil, fbu, c1, c2, c3]
          have hms : rtk1 0 (I, Q, Z) = rdc 0 ((uI I 2 0 ((I 2 0) + 1)), Q, Z) := (if_pos hs).trans (if_pos c7)
          rw [hms] at C
          exact C _ hA15
      · skip
        have c3 : (I 3 0) = 0 := Decidable.not_not.mp c3'
        refine go_s (pc' := 27) rfl rfl rfl rfl ?_
        refine go_sget (pc' := 28) (v := .ref 66) hS rfl rfl rfl (by decide) rfl rfl ?_
        refine go_s (pc' := 29) (st' := [.int 1, .ref 66]) rfl rfl rfl rfl ?_
        refine go_sald (pc' := 30) (q := 1) (v := .int (I 3 1)) hS rfl (tr_s hr (a := 66) rfl (by decide)) rfl rfl (by decide) rfl rfl ?_
        refine go_ifP (t' := 32) (pc' := 31) rfl rfl rfl (fun (c16 : ¬ (I 3 1) = 0) => ?_) (fun (c16' : ¬ ¬ (I 3 1) = 0) => ?_)
        · skip
          refine go_s (pc' := 33) rfl rfl rfl rfl ?_
          refine go_sget (pc' := 34) (v := .ref 65) hS rfl rfl rfl (by decide) rfl rfl ?_
          refine go_s (pc' := 35) rfl rfl rfl rfl ?_
          refine go_s (pc' := 36) rfl rfl rfl rfl ?_
          refine go_sald (pc' := 37) (q := 0) (v := .int (I 2 0)) hS rfl (tr_s hr (a := 65) rfl (by decide)) rfl rfl (by decide) rfl rfl ?_
          refine go_s (pc' := 38) (st' := [.int 1, .int (I 2 0), .int 0, .ref 65]) rfl rfl rfl rfl ?_
          refine go_s (pc' := 39) rfl rfl rfl rfl ?_
          refine go_siast (pc' := 40) (q := 0) hS rfl (tr_s hr (a := 65) rfl (by decide)) tbr_inj (Nat.le_of_ble_eq_true rfl) rfl (by decide) (by decide) (hW _ (by decide) (by decide)) rfl (fun h17 hS18 hE19 => ?_)
          refine go_s (pc' := 41) rfl rfl rfl rfl ?_
          refine go_sget (pc' := 42) (v := .ref 65) hS18 rfl rfl rfl (by decide) rfl rfl ?_
          refine go_s (pc' := 43) rfl rfl rfl rfl ?_
          refine go_sald (pc' := 44) (q := 0) (v := .int ((I 2 0) + 1)) hS18 rfl (tr_s hr (a := 65) rfl (by decide)) rfl rfl (by decide) rfl rfl ?_
          refine go_s (pc' := 45) (st' := [.int 5, .int ((I 2 0) + 1)]) rfl rfl rfl rfl ?_
          refine go_icmpP (t' := 49) (pc' := 46) rfl rfl rfl (fun (c20 : ¬ ((I 2 0) + 1) = 5) => ?_) (fun (c20' : ¬ ¬ ((I 2 0) + 1) = 5) => ?_)
          · skip
            refine go_s (pc' := 50) (lo' := [some (.ref 62), some (.int 1)]) rfl rfl rfl rfl ?_
            refine go_s (pc' := 8) rfl rfl rfl rfl ?_
            have hs : sil I 0 = true := by simp [sil, fbu, c1, c2, c3, c16]
            change sm (tbr am (13 * ln) 77 5088) _ (uI (jn I K) 2 0 ((I 2 0) + 1)) Y at hS18
            rw [jn_lo (c := 2) (by decide)] at hS18
            have hU21 : RU w B R [] true h17 am ln K ((uI I 2 0 ((I 2 0) + 1)), Q, Z) := RU_I (hE19) (I' := (uI I 2 0 ((I 2 0) + 1))) (fun _ => rfl) (fun _ => rfl) (Nat.le_refl _) hU
            have hA22 : RA w B R [] true h17 ((uI I 2 0 ((I 2 0) + 1)), Q, Z) := RA_u.mpr ⟨_, _, _, _, hS18, hU21⟩
            have hms : rtk1 0 (I, Q, Z) = ((uI I 2 0 ((I 2 0) + 1)), Q, Z) := (if_pos hs).trans (if_neg c20)
            rw [hms] at C
            exact C _ (RA_R (by omega) hA22)
          · skip
            have c20 : ((I 2 0) + 1) = 5 := Decidable.not_not.mp c20'
            refine go_s (pc' := 47) rfl rfl rfl rfl ?_
            refine go_s (pc' := 48) rfl rfl rfl rfl ?_
            change sm (tbr am (13 * ln) 77 5088) _ (uI (jn I K) 2 0 ((I 2 0) + 1)) Y at hS18
            rw [jn_lo (c := 2) (by decide)] at hS18
            have hU23 : RU w B R [] true h17 am ln K ((uI I 2 0 ((I 2 0) + 1)), Q, Z) := RU_I (hE19) (I' := (uI I 2 0 ((I 2 0) + 1))) (fun _ => rfl) (fun _ => rfl) (Nat.le_refl _) hU
            obtain ⟨s9, hs9, es9⟩ := hV.2.2 0 (by decide) c1 c2
            change I 2 0 = nI s9 at es9
            have hM9 : MID X ((uI I 2 0 ((I 2 0) + 1)), Q, Z) := by
              rw [show I 2 0 + 1 = nI (s9 + 1) by rw [es9]; exact nI_add s9 1]
              exact (INV_2 hV.1 (by decide) (by omega)).1
            have hU24 : RU w B R [] true h17 am ln K ((uI I 2 0 ((I 2 0) + 1)), Q, Z) := RU_I (sm_e_refl (tbr am (13 * ln) 77 5088) _) (I' := (uI I 2 0 ((I 2 0) + 1))) (fun _ => rfl) (fun _ => rfl) (Nat.le_refl _) hU23
            have hA25 : RA w B R [] true h17 ((uI I 2 0 ((I 2 0) + 1)), Q, Z) := RA_u.mpr ⟨_, _, _, _, hS18, hU24⟩
            refine go_callV (pc' := 49) rfl rfl rfl (Nat.le_of_ble_eq_true rfl) rfl (sm_o hS18 rfl) rfl rfl rfl (ra_dc_0 hA25 (by omega) hM9 (by omega) c1 (by omega)) (fun r h26 q27 => ?_)
            obtain ⟨rfl, hA28⟩ := q27
            refine go_s (pc' := 50) (lo' := [some (.ref 62), some (.int 1)]) rfl rfl rfl rfl ?_
            refine go_s (pc' := 8) rfl rfl rfl rfl ?_
            have hs : sil I 0 = true := by simp [sil, fbu, c1, c2, c3, c16]
            have hms : rtk1 0 (I, Q, Z) = rdc 0 ((uI I 2 0 ((I 2 0) + 1)), Q, Z) := (if_pos hs).trans (if_pos c20)
            rw [hms] at C
            exact C _ hA28
        · skip
          have c16 : (I 3 1) = 0 := Decidable.not_not.mp c16'
          refine go_s (pc' := 49) rfl rfl rfl rfl ?_
          refine go_s (pc' := 50) (lo' := [some (.ref 62), some (.int 1)]) rfl rfl rfl rfl ?_
          refine go_s (pc' := 8) rfl rfl rfl rfl ?_
          have hs : sil I 0 = false := by simp [sil, fbu, c1, c2, c3, c16]
          have hms : rtk1 0 (I, Q, Z) = (I, Q, Z) := if_neg (by rw [show sil ((I, Q, Z) : mM).1 0 = false from hs]; decide)
          rw [hms] at C
          exact C _ (RA_R (by omega) hA)
theorem stT_1 {w : Nat → Bool} {d B R : Nat} {h : am_Hp} {I : sm_I} {Q : mQ} {Z : mZ} {P : Option Value → am_Hp → Prop} (hA : RA w B R [] true h (I, Q, Z)) (hR : R + 30 < 40000) {X : Nat} (hV : XV X (I, Q, Z)) (hX : X + 300 < 2 ^ 28) (hd : 11 ≤ d) (C : ∀ h', RA w B (R + 6) [] true h' (rtk1 1 (I, Q, Z)) → am_Go (am_prog w) d am_c168 (some .int) 8 [some (.ref 62), some (.int 2)] [] h' P) : am_Go (am_prog w) d am_c168 (some .int) 8 [some (.ref 62), some (.int 1)] [] h P := by
  obtain ⟨K, Y, am, ln, hS, hU⟩ := RA_u.mp hA
  change sm (tbr am (13 * ln) 77 5088) h (jn I K) Y at hS
  obtain ⟨hW, hWm, -, -, hr, -⟩ := id hU.1
  have hln := RU_ln hU (by omega)
  refine go_s (pc' := 9) rfl rfl rfl rfl ?_
  refine go_s (pc' := 10) (st' := [.int 4, .int 1]) rfl rfl rfl rfl ?_
  refine go_icmpP (t' := 51) (pc' := 11) rfl rfl rfl (fun (c : 4 ≤ (1 : Int32)) => absurd c (by decide)) (fun _ => ?_)
  refine go_s (pc' := 12) rfl rfl rfl rfl ?_
  refine go_sget (pc' := 13) (v := .ref 63) hS rfl rfl rfl (by decide) rfl rfl ?_
  refine go_s (pc' := 14) rfl rfl rfl rfl ?_
  refine go_sald (pc' := 15) (q := 1) (v := .int (I 0 1)) hS rfl (tr_s hr (a := 63) rfl (by decide)) rfl rfl (by decide) rfl rfl ?_
  refine go_ifP (t' := 49) (pc' := 16) rfl rfl rfl (fun (c1 : ¬ (I 0 1) = 0) => ?_) (fun (c1' : ¬ ¬ (I 0 1) = 0) => ?_)
  · skip
    refine go_s (pc' := 50) (lo' := [some (.ref 62), some (.int 2)]) rfl rfl rfl rfl ?_
    refine go_s (pc' := 8) rfl rfl rfl rfl ?_
    have hs : sil I 1 = false := by simp [sil, fbu, c1]
    have hms : rtk1 1 (I, Q, Z) = (I, Q, Z) := if_neg (by rw [show sil ((I, Q, Z) : mM).1 1 = false from hs]; decide)
    rw [hms] at C
    exact C _ (RA_R (by omega) hA)
  · skip
    have c1 : (I 0 1) = 0 := Decidable.not_not.mp c1'
    refine go_s (pc' := 17) rfl rfl rfl rfl ?_
    refine go_sget (pc' := 18) (v := .ref 64) hS rfl rfl rfl (by decide) rfl rfl ?_
    refine go_s (pc' := 19) rfl rfl rfl rfl ?_
    refine go_sald (pc' := 20) (q := 1) (v := .int (I 1 1)) hS rfl (tr_s hr (a := 64) rfl (by decide)) rfl rfl (by decide) rfl rfl ?_
    refine go_ifP (t' := 49) (pc' := 21) rfl rfl rfl (fun (c2 : ¬ (I 1 1) = 0) => ?_) (fun (c2' : ¬ ¬ (I 1 1) = 0) => ?_)
    · skip
      refine go_s (pc' := 50) (lo' := [some (.ref 62), some (.int 2)]) rfl rfl rfl rfl ?_
      refine go_s (pc' := 8) rfl rfl rfl rfl ?_
      have hs : sil I 1 = false := by simp [sil, fbu, c1, c2]
      have hms : rtk1 1 (I, Q, Z) = (I, Q, Z) := if_neg (by rw [show sil ((I, Q, Z) : mM).1 1 = false from hs]; decide)
      rw [hms] at C
      exact C _ (RA_R (by omega) hA)
    · skip
      have c2 : (I 1 1) = 0 := Decidable.not_not.mp c2'
      refine go_s (pc' := 22) rfl rfl rfl rfl ?_
      refine go_sget (pc' := 23) (v := .ref 66) hS rfl rfl rfl (by decide) rfl rfl ?_
      refine go_s (pc' := 24) (st' := [.int 0, .ref 66]) rfl rfl rfl rfl ?_
      refine go_sald (pc' := 25) (q := 0) (v := .int (I 3 0)) hS rfl (tr_s hr (a := 66) rfl (by decide)) rfl rfl (by decide) rfl rfl ?_
      refine go_ifP (t' := 32) (pc' := 26) rfl rfl rfl (fun (c3 : ¬ (I 3 0) = 0) => ?_) (fun (c3' : ¬ ¬ (I 3 0) = 0) => ?_)
      · skip
        refine go_s (pc' := 33) rfl rfl rfl rfl ?_
        refine go_sget (pc' := 34) (v := .ref 65) hS rfl rfl rfl (by decide) rfl rfl ?_
        refine go_s (pc' := 35) rfl rfl rfl rfl ?_
        refine go_s (pc' := 36) rfl rfl rfl rfl ?_
        refine go_sald (pc' := 37) (q := 1) (v := .int (I 2 1)) hS rfl (tr_s hr (a := 65) rfl (by decide)) rfl rfl (by decide) rfl rfl ?_
        refine go_s (pc' := 38) (st' := [.int 1, .int (I 2 1), .int 1, .ref 65]) rfl rfl rfl rfl ?_
        refine go_s (pc' := 39) rfl rfl rfl rfl ?_
        refine go_siast (pc' := 40) (q := 1) hS rfl (tr_s hr (a := 65) rfl (by decide)) tbr_inj (Nat.le_of_ble_eq_true rfl) rfl (by decide) (by decide) (hW _ (by decide) (by decide)) rfl (fun h4 hS5 hE6 => ?_)
        refine go_s (pc' := 41) rfl rfl rfl rfl ?_
        refine go_sget (pc' := 42) (v := .ref 65) hS5 rfl rfl rfl (by decide) rfl rfl ?_
        refine go_s (pc' := 43) rfl rfl rfl rfl ?_
        refine go_sald (pc' := 44) (q := 1) (v := .int ((I 2 1) + 1)) hS5 rfl (tr_s hr (a := 65) rfl (by decide)) rfl rfl (by decide) rfl rfl ?_
        refine go_s (pc' := 45) (st' := [.int 5, .int ((I 2 1) + 1)]) rfl rfl rfl rfl ?_
        refine go_icmpP (t' := 49) (pc' := 46) rfl rfl rfl (fun (c7 : ¬ ((I 2 1) + 1) = 5) => ?_) (fun (c7' : ¬ ¬ ((I 2 1) + 1) = 5) => ?_)
        · skip
          refine go_s (pc' := 50) (lo' := [some (.ref 62), some (.int 2)]) rfl rfl rfl rfl ?_
          refine go_s (pc' := 8) rfl rfl rfl rfl ?_
          have hs : sil I 1 = true := by simp [sil, fbu, c1, c2, c3]
          change sm (tbr am (13 * ln) 77 5088) _ (uI (jn I K) 2 1 ((I 2 1) + 1)) Y at hS5
          rw [jn_lo (c := 2) (by decide)] at hS5
          have hU8 : RU w B R [] true h4 am ln K ((uI I 2 1 ((I 2 1) + 1)), Q, Z) := RU_I (hE6) (I' := (uI I 2 1 ((I 2 1) + 1))) (fun _ => rfl) (fun _ => rfl) (Nat.le_refl _) hU
          have hA9 : RA w B R [] true h4 ((uI I 2 1 ((I 2 1) + 1)), Q, Z) := RA_u.mpr ⟨_, _, _, _, hS5, hU8⟩
          have hms : rtk1 1 (I, Q, Z) = ((uI I 2 1 ((I 2 1) + 1)), Q, Z) := (if_pos hs).trans (if_neg c7)
          rw [hms] at C
          exact C _ (RA_R (by omega) hA9)
        · skip
          have c7 : ((I 2 1) + 1) = 5 := Decidable.not_not.mp c7'
          refine go_s (pc' := 47) rfl rfl rfl rfl ?_
          refine go_s (pc' := 48) rfl rfl rfl rfl ?_
          change sm (tbr am (13 * ln) 77 5088) _ (uI (jn I K) 2 1 ((I 2 1) + 1)) Y at hS5
          rw [jn_lo (c := 2) (by decide)] at hS5
          have hU10 : RU w B R [] true h4 am ln K ((uI I 2 1 ((I 2 1) + 1)), Q, Z) := RU_I (hE6) (I' := (uI I 2 1 ((I 2 1) + 1))) (fun _ => rfl) (fun _ => rfl) (Nat.le_refl _) hU
          obtain ⟨s9, hs9, es9⟩ := hV.2.2 1 (by decide) c1 c2
          change I 2 1 = nI s9 at es9
          have hM9 : MID X ((uI I 2 1 ((I 2 1) + 1)), Q, Z) := by
            rw [show I 2 1 + 1 = nI (s9 + 1) by rw [es9]; exact nI_add s9 1]
            exact (INV_2 hV.1 (by decide) (by omega)).1
          have hU11 : RU w B R [] true h4 am ln K ((uI I 2 1 ((I 2 1) + 1)), Q, Z) := RU_I (sm_e_refl (tbr am (13 * ln) 77 5088) _) (I' := (uI I 2 1 ((I 2 1) + 1))) (fun _ => rfl) (fun _ => rfl) (Nat.le_refl _) hU10
          have hA12 : RA w B R [] true h4 ((uI I 2 1 ((I 2 1) + 1)), Q, Z) := RA_u.mpr ⟨_, _, _, _, hS5, hU11⟩
          refine go_callV (pc' := 49) rfl rfl rfl (Nat.le_of_ble_eq_true rfl) rfl (sm_o hS5 rfl) rfl rfl rfl (ra_dc_1 hA12 (by omega) hM9 (by omega) c1 (by omega)) (fun r h13 q14 => ?_)
          obtain ⟨rfl, hA15⟩ := q14
          refine go_s (pc' := 50) (lo' := [some (.ref 62), some (.int 2)]) rfl rfl rfl rfl ?_
          refine go_s (pc' := 8) rfl rfl rfl rfl ?_
          have hs : sil I 1 = true := by simp [sil, fbu, c1, c2, c3]
          have hms : rtk1 1 (I, Q, Z) = rdc 1 ((uI I 2 1 ((I 2 1) + 1)), Q, Z) := (if_pos hs).trans (if_pos c7)
          rw [hms] at C
          exact C _ hA15
      · skip
        have c3 : (I 3 0) = 0 := Decidable.not_not.mp c3'
        refine go_s (pc' := 27) rfl rfl rfl rfl ?_
        refine go_sget (pc' := 28) (v := .ref 66) hS rfl rfl rfl (by decide) rfl rfl ?_
        refine go_s (pc' := 29) (st' := [.int 1, .ref 66]) rfl rfl rfl rfl ?_
        refine go_sald (pc' := 30) (q := 1) (v := .int (I 3 1)) hS rfl (tr_s hr (a := 66) rfl (by decide)) rfl rfl (by decide) rfl rfl ?_
        refine go_ifP (t' := 32) (pc' := 31) rfl rfl rfl (fun (c16 : ¬ (I 3 1) = 0) => ?_) (fun (c16' : ¬ ¬ (I 3 1) = 0) => ?_)
        · skip
          refine go_s (pc' := 33) rfl rfl rfl rfl ?_
          refine go_sget (pc' := 34) (v := .ref 65) hS rfl rfl rfl (by decide) rfl rfl ?_
          refine go_s (pc' := 35) rfl rfl rfl rfl ?_
          refine go_s (pc' := 36) rfl rfl rfl rfl ?_
          refine go_sald (pc' := 37) (q := 1) (v := .int (I 2 1)) hS rfl (tr_s hr (a := 65) rfl (by decide)) rfl rfl (by decide) rfl rfl ?_
          refine go_s (pc' := 38) (st' := [.int 1, .int (I 2 1), .int 1, .ref 65]) rfl rfl rfl rfl ?_
          refine go_s (pc' := 39) rfl rfl rfl rfl ?_
          refine go_siast (pc' := 40) (q := 1) hS rfl (tr_s hr (a := 65) rfl (by decide)) tbr_inj (Nat.le_of_ble_eq_true rfl) rfl (by decide) (by decide) (hW _ (by decide) (by decide)) rfl (fun h17 hS18 hE19 => ?_)
          refine go_s (pc' := 41) rfl rfl rfl rfl ?_
          refine go_sget (pc' := 42) (v := .ref 65) hS18 rfl rfl rfl (by decide) rfl rfl ?_
          refine go_s (pc' := 43) rfl rfl rfl rfl ?_
          refine go_sald (pc' := 44) (q := 1) (v := .int ((I 2 1) + 1)) hS18 rfl (tr_s hr (a := 65) rfl (by decide)) rfl rfl (by decide) rfl rfl ?_
          refine go_s (pc' := 45) (st' := [.int 5, .int ((I 2 1) + 1)]) rfl rfl rfl rfl ?_
          refine go_icmpP (t' := 49) (pc' := 46) rfl rfl rfl (fun (c20 : ¬ ((I 2 1) + 1) = 5) => ?_) (fun (c20' : ¬ ¬ ((I 2 1) + 1) = 5) => ?_)
          · skip
            refine go_s (pc' := 50) (lo' := [some (.ref 62), some (.int 2)]) rfl rfl rfl rfl ?_
            refine go_s (pc' := 8) rfl rfl rfl rfl ?_
            have hs : sil I 1 = true := by simp [sil, fbu, c1, c2, c3, c16]
            change sm (tbr am (13 * ln) 77 5088) _ (uI (jn I K) 2 1 ((I 2 1) + 1)) Y at hS18
            rw [jn_lo (c := 2) (by decide)] at hS18
            have hU21 : RU w B R [] true h17 am ln K ((uI I 2 1 ((I 2 1) + 1)), Q, Z) := RU_I (hE19) (I' := (uI I 2 1 ((I 2 1) + 1))) (fun _ => rfl) (fun _ => rfl) (Nat.le_refl _) hU
            have hA22 : RA w B R [] true h17 ((uI I 2 1 ((I 2 1) + 1)), Q, Z) := RA_u.mpr ⟨_, _, _, _, hS18, hU21⟩
            have hms : rtk1 1 (I, Q, Z) = ((uI I 2 1 ((I 2 1) + 1)), Q, Z) := (if_pos hs).trans (if_neg c20)
            rw [hms] at C
            exact C _ (RA_R (by omega) hA22)
          · skip
            have c20 : ((I 2 1) + 1) = 5 := Decidable.not_not.mp c20'
            refine go_s (pc' := 47) rfl rfl rfl rfl ?_
            refine go_s (pc' := 48) rfl rfl rfl rfl ?_
            change sm (tbr am (13 * ln) 77 5088) _ (uI (jn I K) 2 1 ((I 2 1) + 1)) Y at hS18
            rw [jn_lo (c := 2) (by decide)] at hS18
            have hU23 : RU w B R [] true h17 am ln K ((uI I 2 1 ((I 2 1) + 1)), Q, Z) := RU_I (hE19) (I' := (uI I 2 1 ((I 2 1) + 1))) (fun _ => rfl) (fun _ => rfl) (Nat.le_refl _) hU
            obtain ⟨s9, hs9, es9⟩ := hV.2.2 1 (by decide) c1 c2
            change I 2 1 = nI s9 at es9
            have hM9 : MID X ((uI I 2 1 ((I 2 1) + 1)), Q, Z) := by
              rw [show I 2 1 + 1 = nI (s9 + 1) by rw [es9]; exact nI_add s9 1]
              exact (INV_2 hV.1 (by decide) (by omega)).1
            have hU24 : RU w B R [] true h17 am ln K ((uI I 2 1 ((I 2 1) + 1)), Q, Z) := RU_I (sm_e_refl (tbr am (13 * ln) 77 5088) _) (I' := (uI I 2 1 ((I 2 1) + 1))) (fun _ => rfl) (fun _ => rfl) (Nat.le_refl _) hU23
            have hA25 : RA w B R [] true h17 ((uI I 2 1 ((I 2 1) + 1)), Q, Z) := RA_u.mpr ⟨_, _, _, _, hS18, hU24⟩
            refine go_callV (pc' := 49) rfl rfl rfl (Nat.le_of_ble_eq_true rfl) rfl (sm_o hS18 rfl) rfl rfl rfl (ra_dc_1 hA25 (by omega) hM9 (by omega) c1 (by omega)) (fun r h26 q27 => ?_)
            obtain ⟨rfl, hA28⟩ := q27
            refine go_s (pc' := 50) (lo' := [some (.ref 62), some (.int 2)]) rfl rfl rfl rfl ?_
            refine go_s (pc' := 8) rfl rfl rfl rfl ?_
            have hs : sil I 1 = true := by simp [sil, fbu, c1, c2, c3, c16]
            have hms : rtk1 1 (I, Q, Z) = rdc 1 ((uI I 2 1 ((I 2 1) + 1)), Q, Z) := (if_pos hs).trans (if_pos c20)
            rw [hms] at C
            exact C _ hA28
        · skip
          have c16 : (I 3 1) = 0 := Decidable.not_not.mp c16'
          refine go_s (pc' := 49) rfl rfl rfl rfl ?_
          refine go_s (pc' := 50) (lo' := [some (.ref 62), some (.int 2)]) rfl rfl rfl rfl ?_
          refine go_s (pc' := 8) rfl rfl rfl rfl ?_
          have hs : sil I 1 = false := by simp [sil, fbu, c1, c2, c3, c16]
          have hms : rtk1 1 (I, Q, Z) = (I, Q, Z) := if_neg (by rw [show sil ((I, Q, Z) : mM).1 1 = false from hs]; decide)
          rw [hms] at C
          exact C _ (RA_R (by omega) hA)
theorem stT_2 {w : Nat → Bool} {d B R : Nat} {h : am_Hp} {I : sm_I} {Q : mQ} {Z : mZ} {P : Option Value → am_Hp → Prop} (hA : RA w B R [] true h (I, Q, Z)) (hR : R + 30 < 40000) {X : Nat} (hV : XV X (I, Q, Z)) (hX : X + 300 < 2 ^ 28) (hd : 11 ≤ d) (C : ∀ h', RA w B (R + 6) [] true h' (rtk1 2 (I, Q, Z)) → am_Go (am_prog w) d am_c168 (some .int) 8 [some (.ref 62), some (.int 3)] [] h' P) : am_Go (am_prog w) d am_c168 (some .int) 8 [some (.ref 62), some (.int 2)] [] h P := by
  obtain ⟨K, Y, am, ln, hS, hU⟩ := RA_u.mp hA
  change sm (tbr am (13 * ln) 77 5088) h (jn I K) Y at hS
  obtain ⟨hW, hWm, -, -, hr, -⟩ := id hU.1
  have hln := RU_ln hU (by omega)
  refine go_s (pc' := 9) rfl rfl rfl rfl ?_
  refine go_s (pc' := 10) (st' := [.int 4, .int 2]) rfl rfl rfl rfl ?_
  refine go_icmpP (t' := 51) (pc' := 11) rfl rfl rfl (fun (c : 4 ≤ (2 : Int32)) => absurd c (by decide)) (fun _ => ?_)
  refine go_s (pc' := 12) rfl rfl rfl rfl ?_
  refine go_sget (pc' := 13) (v := .ref 63) hS rfl rfl rfl (by decide) rfl rfl ?_
  refine go_s (pc' := 14) rfl rfl rfl rfl ?_
  refine go_sald (pc' := 15) (q := 2) (v := .int (I 0 2)) hS rfl (tr_s hr (a := 63) rfl (by decide)) rfl rfl (by decide) rfl rfl ?_
  refine go_ifP (t' := 49) (pc' := 16) rfl rfl rfl (fun (c1 : ¬ (I 0 2) = 0) => ?_) (fun (c1' : ¬ ¬ (I 0 2) = 0) => ?_)
  · skip
    refine go_s (pc' := 50) (lo' := [some (.ref 62), some (.int 3)]) rfl rfl rfl rfl ?_
    refine go_s (pc' := 8) rfl rfl rfl rfl ?_
    have hs : sil I 2 = false := by simp [sil, fbu, c1]
    have hms : rtk1 2 (I, Q, Z) = (I, Q, Z) := if_neg (by rw [show sil ((I, Q, Z) : mM).1 2 = false from hs]; decide)
    rw [hms] at C
    exact C _ (RA_R (by omega) hA)
  · skip
    have c1 : (I 0 2) = 0 := Decidable.not_not.mp c1'
    refine go_s (pc' := 17) rfl rfl rfl rfl ?_
    refine go_sget (pc' := 18) (v := .ref 64) hS rfl rfl rfl (by decide) rfl rfl ?_
    refine go_s (pc' := 19) rfl rfl rfl rfl ?_
    refine go_sald (pc' := 20) (q := 2) (v := .int (I 1 2)) hS rfl (tr_s hr (a := 64) rfl (by decide)) rfl rfl (by decide) rfl rfl ?_
    refine go_ifP (t' := 49) (pc' := 21) rfl rfl rfl (fun (c2 : ¬ (I 1 2) = 0) => ?_) (fun (c2' : ¬ ¬ (I 1 2) = 0) => ?_)
    · skip
      refine go_s (pc' := 50) (lo' := [some (.ref 62), some (.int 3)]) rfl rfl rfl rfl ?_
      refine go_s (pc' := 8) rfl rfl rfl rfl ?_
      have hs : sil I 2 = false := by simp [sil, fbu, c1, c2]
      have hms : rtk1 2 (I, Q, Z) = (I, Q, Z) := if_neg (by rw [show sil ((I, Q, Z) : mM).1 2 = false from hs]; decide)
      rw [hms] at C
      exact C _ (RA_R (by omega) hA)
    · skip
      have c2 : (I 1 2) = 0 := Decidable.not_not.mp c2'
      refine go_s (pc' := 22) rfl rfl rfl rfl ?_
      refine go_sget (pc' := 23) (v := .ref 66) hS rfl rfl rfl (by decide) rfl rfl ?_
      refine go_s (pc' := 24) (st' := [.int 0, .ref 66]) rfl rfl rfl rfl ?_
      refine go_sald (pc' := 25) (q := 0) (v := .int (I 3 0)) hS rfl (tr_s hr (a := 66) rfl (by decide)) rfl rfl (by decide) rfl rfl ?_
      refine go_ifP (t' := 32) (pc' := 26) rfl rfl rfl (fun (c3 : ¬ (I 3 0) = 0) => ?_) (fun (c3' : ¬ ¬ (I 3 0) = 0) => ?_)
      · skip
        refine go_s (pc' := 33) rfl rfl rfl rfl ?_
        refine go_sget (pc' := 34) (v := .ref 65) hS rfl rfl rfl (by decide) rfl rfl ?_
        refine go_s (pc' := 35) rfl rfl rfl rfl ?_
        refine go_s (pc' := 36) rfl rfl rfl rfl ?_
        refine go_sald (pc' := 37) (q := 2) (v := .int (I 2 2)) hS rfl (tr_s hr (a := 65) rfl (by decide)) rfl rfl (by decide) rfl rfl ?_
        refine go_s (pc' := 38) (st' := [.int 1, .int (I 2 2), .int 2, .ref 65]) rfl rfl rfl rfl ?_
        refine go_s (pc' := 39) rfl rfl rfl rfl ?_
        refine go_siast (pc' := 40) (q := 2) hS rfl (tr_s hr (a := 65) rfl (by decide)) tbr_inj (Nat.le_of_ble_eq_true rfl) rfl (by decide) (by decide) (hW _ (by decide) (by decide)) rfl (fun h4 hS5 hE6 => ?_)
        refine go_s (pc' := 41) rfl rfl rfl rfl ?_
        refine go_sget (pc' := 42) (v := .ref 65) hS5 rfl rfl rfl (by decide) rfl rfl ?_
        refine go_s (pc' := 43) rfl rfl rfl rfl ?_
        refine go_sald (pc' := 44) (q := 2) (v := .int ((I 2 2) + 1)) hS5 rfl (tr_s hr (a := 65) rfl (by decide)) rfl rfl (by decide) rfl rfl ?_
        refine go_s (pc' := 45) (st' := [.int 5, .int ((I 2 2) + 1)]) rfl rfl rfl rfl ?_
        refine go_icmpP (t' := 49) (pc' := 46) rfl rfl rfl (fun (c7 : ¬ ((I 2 2) + 1) = 5) => ?_) (fun (c7' : ¬ ¬ ((I 2 2) + 1) = 5) => ?_)
        · skip
          refine go_s (pc' := 50) (lo' := [some (.ref 62), some (.int 3)]) rfl rfl rfl rfl ?_
          refine go_s (pc' := 8) rfl rfl rfl rfl ?_
          have hs : sil I 2 = true := by simp [sil, fbu, c1, c2, c3]
          change sm (tbr am (13 * ln) 77 5088) _ (uI (jn I K) 2 2 ((I 2 2) + 1)) Y at hS5
          rw [jn_lo (c := 2) (by decide)] at hS5
          have hU8 : RU w B R [] true h4 am ln K ((uI I 2 2 ((I 2 2) + 1)), Q, Z) := RU_I (hE6) (I' := (uI I 2 2 ((I 2 2) + 1))) (fun _ => rfl) (fun _ => rfl) (Nat.le_refl _) hU
          have hA9 : RA w B R [] true h4 ((uI I 2 2 ((I 2 2) + 1)), Q, Z) := RA_u.mpr ⟨_, _, _, _, hS5, hU8⟩
          have hms : rtk1 2 (I, Q, Z) = ((uI I 2 2 ((I 2 2) + 1)), Q, Z) := (if_pos hs).trans (if_neg c7)
          rw [hms] at C
          exact C _ (RA_R (by omega) hA9)
        · skip
          have c7 : ((I 2 2) + 1) = 5 := Decidable.not_not.mp c7'
          refine go_s (pc' := 47) rfl rfl rfl rfl ?_
          refine go_s (pc' := 48) rfl rfl rfl rfl ?_
          change sm (tbr am (13 * ln) 77 5088) _ (uI (jn I K) 2 2 ((I 2 2) + 1)) Y at hS5
          rw [jn_lo (c := 2) (by decide)] at hS5
          have hU10 : RU w B R [] true h4 am ln K ((uI I 2 2 ((I 2 2) + 1)), Q, Z) := RU_I (hE6) (I' := (uI I 2 2 ((I 2 2) + 1))) (fun _ => rfl) (fun _ => rfl) (Nat.le_refl _) hU
          obtain ⟨s9, hs9, es9⟩ := hV.2.2 2 (by decide) c1 c2
          change I 2 2 = nI s9 at es9
          have hM9 : MID X ((uI I 2 2 ((I 2 2) + 1)), Q, Z) := by
            rw [show I 2 2 + 1 = nI (s9 + 1) by rw [es9]; exact nI_add s9 1]
            exact (INV_2 hV.1 (by decide) (by omega)).1
          have hU11 : RU w B R [] true h4 am ln K ((uI I 2 2 ((I 2 2) + 1)), Q, Z) := RU_I (sm_e_refl (tbr am (13 * ln) 77 5088) _) (I' := (uI I 2 2 ((I 2 2) + 1))) (fun _ => rfl) (fun _ => rfl) (Nat.le_refl _) hU10
          have hA12 : RA w B R [] true h4 ((uI I 2 2 ((I 2 2) + 1)), Q, Z) := RA_u.mpr ⟨_, _, _, _, hS5, hU11⟩
          refine go_callV (pc' := 49) rfl rfl rfl (Nat.le_of_ble_eq_true rfl) rfl (sm_o hS5 rfl) rfl rfl rfl (ra_dc_2 hA12 (by omega) hM9 (by omega) c1 (by omega)) (fun r h13 q14 => ?_)
          obtain ⟨rfl, hA15⟩ := q14
          refine go_s (pc' := 50) (lo' := [some (.ref 62), some (.int 3)]) rfl rfl rfl rfl ?_
          refine go_s (pc' := 8) rfl rfl rfl rfl ?_
          have hs : sil I 2 = true := by simp [sil, fbu, c1, c2, c3]
          have hms : rtk1 2 (I, Q, Z) = rdc 2 ((uI I 2 2 ((I 2 2) + 1)), Q, Z) := (if_pos hs).trans (if_pos c7)
          rw [hms] at C
          exact C _ hA15
      · skip
        have c3 : (I 3 0) = 0 := Decidable.not_not.mp c3'
        refine go_s (pc' := 27) rfl rfl rfl rfl ?_
        refine go_sget (pc' := 28) (v := .ref 66) hS rfl rfl rfl (by decide) rfl rfl ?_
        refine go_s (pc' := 29) (st' := [.int 1, .ref 66]) rfl rfl rfl rfl ?_
        refine go_sald (pc' := 30) (q := 1) (v := .int (I 3 1)) hS rfl (tr_s hr (a := 66) rfl (by decide)) rfl rfl (by decide) rfl rfl ?_
        refine go_ifP (t' := 32) (pc' := 31) rfl rfl rfl (fun (c16 : ¬ (I 3 1) = 0) => ?_) (fun (c16' : ¬ ¬ (I 3 1) = 0) => ?_)
        · skip
          refine go_s (pc' := 33) rfl rfl rfl rfl ?_
          refine go_sget (pc' := 34) (v := .ref 65) hS rfl rfl rfl (by decide) rfl rfl ?_
          refine go_s (pc' := 35) rfl rfl rfl rfl ?_
          refine go_s (pc' := 36) rfl rfl rfl rfl ?_
          refine go_sald (pc' := 37) (q := 2) (v := .int (I 2 2)) hS rfl (tr_s hr (a := 65) rfl (by decide)) rfl rfl (by decide) rfl rfl ?_
          refine go_s (pc' := 38) (st' := [.int 1, .int (I 2 2), .int 2, .ref 65]) rfl rfl rfl rfl ?_
          refine go_s (pc' := 39) rfl rfl rfl rfl ?_
          refine go_siast (pc' := 40) (q := 2) hS rfl (tr_s hr (a := 65) rfl (by decide)) tbr_inj (Nat.le_of_ble_eq_true rfl) rfl (by decide) (by decide) (hW _ (by decide) (by decide)) rfl (fun h17 hS18 hE19 => ?_)
          refine go_s (pc' := 41) rfl rfl rfl rfl ?_
          refine go_sget (pc' := 42) (v := .ref 65) hS18 rfl rfl rfl (by decide) rfl rfl ?_
          refine go_s (pc' := 43) rfl rfl rfl rfl ?_
          refine go_sald (pc' := 44) (q := 2) (v := .int ((I 2 2) + 1)) hS18 rfl (tr_s hr (a := 65) rfl (by decide)) rfl rfl (by decide) rfl rfl ?_
          refine go_s (pc' := 45) (st' := [.int 5, .int ((I 2 2) + 1)]) rfl rfl rfl rfl ?_
          refine go_icmpP (t' := 49) (pc' := 46) rfl rfl rfl (fun (c20 : ¬ ((I 2 2) + 1) = 5) => ?_) (fun (c20' : ¬ ¬ ((I 2 2) + 1) = 5) => ?_)
          · skip
            refine go_s (pc' := 50) (lo' := [some (.ref 62), some (.int 3)]) rfl rfl rfl rfl ?_
            refine go_s (pc' := 8) rfl rfl rfl rfl ?_
            have hs : sil I 2 = true := by simp [sil, fbu, c1, c2, c3, c16]
            change sm (tbr am (13 * ln) 77 5088) _ (uI (jn I K) 2 2 ((I 2 2) + 1)) Y at hS18
            rw [jn_lo (c := 2) (by decide)] at hS18
            have hU21 : RU w B R [] true h17 am ln K ((uI I 2 2 ((I 2 2) + 1)), Q, Z) := RU_I (hE19) (I' := (uI I 2 2 ((I 2 2) + 1))) (fun _ => rfl) (fun _ => rfl) (Nat.le_refl _) hU
            have hA22 : RA w B R [] true h17 ((uI I 2 2 ((I 2 2) + 1)), Q, Z) := RA_u.mpr ⟨_, _, _, _, hS18, hU21⟩
            have hms : rtk1 2 (I, Q, Z) = ((uI I 2 2 ((I 2 2) + 1)), Q, Z) := (if_pos hs).trans (if_neg c20)
            rw [hms] at C
            exact C _ (RA_R (by omega) hA22)
          · skip
            have c20 : ((I 2 2) + 1) = 5 := Decidable.not_not.mp c20'
            refine go_s (pc' := 47) rfl rfl rfl rfl ?_
            refine go_s (pc' := 48) rfl rfl rfl rfl ?_
            change sm (tbr am (13 * ln) 77 5088) _ (uI (jn I K) 2 2 ((I 2 2) + 1)) Y at hS18
            rw [jn_lo (c := 2) (by decide)] at hS18
            have hU23 : RU w B R [] true h17 am ln K ((uI I 2 2 ((I 2 2) + 1)), Q, Z) := RU_I (hE19) (I' := (uI I 2 2 ((I 2 2) + 1))) (fun _ => rfl) (fun _ => rfl) (Nat.le_refl _) hU
            obtain ⟨s9, hs9, es9⟩ := hV.2.2 2 (by decide) c1 c2
            change I 2 2 = nI s9 at es9
            have hM9 : MID X ((uI I 2 2 ((I 2 2) + 1)), Q, Z) := by
              rw [show I 2 2 + 1 = nI (s9 + 1) by rw [es9]; exact nI_add s9 1]
              exact (INV_2 hV.1 (by decide) (by omega)).1
            have hU24 : RU w B R [] true h17 am ln K ((uI I 2 2 ((I 2 2) + 1)), Q, Z) := RU_I (sm_e_refl (tbr am (13 * ln) 77 5088) _) (I' := (uI I 2 2 ((I 2 2) + 1))) (fun _ => rfl) (fun _ => rfl) (Nat.le_refl _) hU23
            have hA25 : RA w B R [] true h17 ((uI I 2 2 ((I 2 2) + 1)), Q, Z) := RA_u.mpr ⟨_, _, _, _, hS18, hU24⟩
            refine go_callV (pc' := 49) rfl rfl rfl (Nat.le_of_ble_eq_true rfl) rfl (sm_o hS18 rfl) rfl rfl rfl (ra_dc_2 hA25 (by omega) hM9 (by omega) c1 (by omega)) (fun r h26 q27 => ?_)
            obtain ⟨rfl, hA28⟩ := q27
            refine go_s (pc' := 50) (lo' := [some (.ref 62), some (.int 3)]) rfl rfl rfl rfl ?_
            refine go_s (pc' := 8) rfl rfl rfl rfl ?_
            have hs : sil I 2 = true := by simp [sil, fbu, c1, c2, c3, c16]
            have hms : rtk1 2 (I, Q, Z) = rdc 2 ((uI I 2 2 ((I 2 2) + 1)), Q, Z) := (if_pos hs).trans (if_pos c20)
            rw [hms] at C
            exact C _ hA28
        · skip
          have c16 : (I 3 1) = 0 := Decidable.not_not.mp c16'
          refine go_s (pc' := 49) rfl rfl rfl rfl ?_
          refine go_s (pc' := 50) (lo' := [some (.ref 62), some (.int 3)]) rfl rfl rfl rfl ?_
          refine go_s (pc' := 8) rfl rfl rfl rfl ?_
          have hs : sil I 2 = false := by simp [sil, fbu, c1, c2, c3, c16]
          have hms : rtk1 2 (I, Q, Z) = (I, Q, Z) := if_neg (by rw [show sil ((I, Q, Z) : mM).1 2 = false from hs]; decide)
          rw [hms] at C
          exact C _ (RA_R (by omega) hA)
theorem stT_3 {w : Nat → Bool} {d B R : Nat} {h : am_Hp} {I : sm_I} {Q : mQ} {Z : mZ} {P : Option Value → am_Hp → Prop} (hA : RA w B R [] true h (I, Q, Z)) (hR : R + 30 < 40000) {X : Nat} (hV : XV X (I, Q, Z)) (hX : X + 300 < 2 ^ 28) (hd : 11 ≤ d) (C : ∀ h', RA w B (R + 6) [] true h' (rtk1 3 (I, Q, Z)) → am_Go (am_prog w) d am_c168 (some .int) 8 [some (.ref 62), some (.int 4)] [] h' P) : am_Go (am_prog w) d am_c168 (some .int) 8 [some (.ref 62), some (.int 3)] [] h P := by
  obtain ⟨K, Y, am, ln, hS, hU⟩ := RA_u.mp hA
  change sm (tbr am (13 * ln) 77 5088) h (jn I K) Y at hS
  obtain ⟨hW, hWm, -, -, hr, -⟩ := id hU.1
  have hln := RU_ln hU (by omega)
  refine go_s (pc' := 9) rfl rfl rfl rfl ?_
  refine go_s (pc' := 10) (st' := [.int 4, .int 3]) rfl rfl rfl rfl ?_
  refine go_icmpP (t' := 51) (pc' := 11) rfl rfl rfl (fun (c : 4 ≤ (3 : Int32)) => absurd c (by decide)) (fun _ => ?_)
  refine go_s (pc' := 12) rfl rfl rfl rfl ?_
  refine go_sget (pc' := 13) (v := .ref 63) hS rfl rfl rfl (by decide) rfl rfl ?_
  refine go_s (pc' := 14) rfl rfl rfl rfl ?_
  refine go_sald (pc' := 15) (q := 3) (v := .int (I 0 3)) hS rfl (tr_s hr (a := 63) rfl (by decide)) rfl rfl (by decide) rfl rfl ?_
  refine go_ifP (t' := 49) (pc' := 16) rfl rfl rfl (fun (c1 : ¬ (I 0 3) = 0) => ?_) (fun (c1' : ¬ ¬ (I 0 3) = 0) => ?_)
  · skip
    refine go_s (pc' := 50) (lo' := [some (.ref 62), some (.int 4)]) rfl rfl rfl rfl ?_
    refine go_s (pc' := 8) rfl rfl rfl rfl ?_
    have hs : sil I 3 = false := by simp [sil, fbu, c1]
    have hms : rtk1 3 (I, Q, Z) = (I, Q, Z) := if_neg (by rw [show sil ((I, Q, Z) : mM).1 3 = false from hs]; decide)
    rw [hms] at C
    exact C _ (RA_R (by omega) hA)
  · skip
    have c1 : (I 0 3) = 0 := Decidable.not_not.mp c1'
    refine go_s (pc' := 17) rfl rfl rfl rfl ?_
    refine go_sget (pc' := 18) (v := .ref 64) hS rfl rfl rfl (by decide) rfl rfl ?_
    refine go_s (pc' := 19) rfl rfl rfl rfl ?_
    refine go_sald (pc' := 20) (q := 3) (v := .int (I 1 3)) hS rfl (tr_s hr (a := 64) rfl (by decide)) rfl rfl (by decide) rfl rfl ?_
    refine go_ifP (t' := 49) (pc' := 21) rfl rfl rfl (fun (c2 : ¬ (I 1 3) = 0) => ?_) (fun (c2' : ¬ ¬ (I 1 3) = 0) => ?_)
    · skip
      refine go_s (pc' := 50) (lo' := [some (.ref 62), some (.int 4)]) rfl rfl rfl rfl ?_
      refine go_s (pc' := 8) rfl rfl rfl rfl ?_
      have hs : sil I 3 = false := by simp [sil, fbu, c1, c2]
      have hms : rtk1 3 (I, Q, Z) = (I, Q, Z) := if_neg (by rw [show sil ((I, Q, Z) : mM).1 3 = false from hs]; decide)
      rw [hms] at C
      exact C _ (RA_R (by omega) hA)
    · skip
      have c2 : (I 1 3) = 0 := Decidable.not_not.mp c2'
      refine go_s (pc' := 22) rfl rfl rfl rfl ?_
      refine go_sget (pc' := 23) (v := .ref 66) hS rfl rfl rfl (by decide) rfl rfl ?_
      refine go_s (pc' := 24) (st' := [.int 0, .ref 66]) rfl rfl rfl rfl ?_
      refine go_sald (pc' := 25) (q := 0) (v := .int (I 3 0)) hS rfl (tr_s hr (a := 66) rfl (by decide)) rfl rfl (by decide) rfl rfl ?_
      refine go_ifP (t' := 32) (pc' := 26) rfl rfl rfl (fun (c3 : ¬ (I 3 0) = 0) => ?_) (fun (c3' : ¬ ¬ (I 3 0) = 0) => ?_)
      · skip
        refine go_s (pc' := 33) rfl rfl rfl rfl ?_
        refine go_sget (pc' := 34) (v := .ref 65) hS rfl rfl rfl (by decide) rfl rfl ?_
        refine go_s (pc' := 35) rfl rfl rfl rfl ?_
        refine go_s (pc' := 36) rfl rfl rfl rfl ?_
        refine go_sald (pc' := 37) (q := 3) (v := .int (I 2 3)) hS rfl (tr_s hr (a := 65) rfl (by decide)) rfl rfl (by decide) rfl rfl ?_
        refine go_s (pc' := 38) (st' := [.int 1, .int (I 2 3), .int 3, .ref 65]) rfl rfl rfl rfl ?_
        refine go_s (pc' := 39) rfl rfl rfl rfl ?_
        refine go_siast (pc' := 40) (q := 3) hS rfl (tr_s hr (a := 65) rfl (by decide)) tbr_inj (Nat.le_of_ble_eq_true rfl) rfl (by decide) (by decide) (hW _ (by decide) (by decide)) rfl (fun h4 hS5 hE6 => ?_)
        refine go_s (pc' := 41) rfl rfl rfl rfl ?_
        refine go_sget (pc' := 42) (v := .ref 65) hS5 rfl rfl rfl (by decide) rfl rfl ?_
        refine go_s (pc' := 43) rfl rfl rfl rfl ?_
        refine go_sald (pc' := 44) (q := 3) (v := .int ((I 2 3) + 1)) hS5 rfl (tr_s hr (a := 65) rfl (by decide)) rfl rfl (by decide) rfl rfl ?_
        refine go_s (pc' := 45) (st' := [.int 5, .int ((I 2 3) + 1)]) rfl rfl rfl rfl ?_
        refine go_icmpP (t' := 49) (pc' := 46) rfl rfl rfl (fun (c7 : ¬ ((I 2 3) + 1) = 5) => ?_) (fun (c7' : ¬ ¬ ((I 2 3) + 1) = 5) => ?_)
        · skip
          refine go_s (pc' := 50) (lo' := [some (.ref 62), some (.int 4)]) rfl rfl rfl rfl ?_
          refine go_s (pc' := 8) rfl rfl rfl rfl ?_
          have hs : sil I 3 = true := by simp [sil, fbu, c1, c2, c3]
          change sm (tbr am (13 * ln) 77 5088) _ (uI (jn I K) 2 3 ((I 2 3) + 1)) Y at hS5
          rw [jn_lo (c := 2) (by decide)] at hS5
          have hU8 : RU w B R [] true h4 am ln K ((uI I 2 3 ((I 2 3) + 1)), Q, Z) := RU_I (hE6) (I' := (uI I 2 3 ((I 2 3) + 1))) (fun _ => rfl) (fun _ => rfl) (Nat.le_refl _) hU
          have hA9 : RA w B R [] true h4 ((uI I 2 3 ((I 2 3) + 1)), Q, Z) := RA_u.mpr ⟨_, _, _, _, hS5, hU8⟩
          have hms : rtk1 3 (I, Q, Z) = ((uI I 2 3 ((I 2 3) + 1)), Q, Z) := (if_pos hs).trans (if_neg c7)
          rw [hms] at C
          exact C _ (RA_R (by omega) hA9)
        · skip
          have c7 : ((I 2 3) + 1) = 5 := Decidable.not_not.mp c7'
          refine go_s (pc' := 47) rfl rfl rfl rfl ?_
          refine go_s (pc' := 48) rfl rfl rfl rfl ?_
          change sm (tbr am (13 * ln) 77 5088) _ (uI (jn I K) 2 3 ((I 2 3) + 1)) Y at hS5
          rw [jn_lo (c := 2) (by decide)] at hS5
          have hU10 : RU w B R [] true h4 am ln K ((uI I 2 3 ((I 2 3) + 1)), Q, Z) := RU_I (hE6) (I' := (uI I 2 3 ((I 2 3) + 1))) (fun _ => rfl) (fun _ => rfl) (Nat.le_refl _) hU
          obtain ⟨s9, hs9, es9⟩ := hV.2.2 3 (by decide) c1 c2
          change I 2 3 = nI s9 at es9
          have hM9 : MID X ((uI I 2 3 ((I 2 3) + 1)), Q, Z) := by
            rw [show I 2 3 + 1 = nI (s9 + 1) by rw [es9]; exact nI_add s9 1]
            exact (INV_2 hV.1 (by decide) (by omega)).1
          have hU11 : RU w B R [] true h4 am ln K ((uI I 2 3 ((I 2 3) + 1)), Q, Z) := RU_I (sm_e_refl (tbr am (13 * ln) 77 5088) _) (I' := (uI I 2 3 ((I 2 3) + 1))) (fun _ => rfl) (fun _ => rfl) (Nat.le_refl _) hU10
          have hA12 : RA w B R [] true h4 ((uI I 2 3 ((I 2 3) + 1)), Q, Z) := RA_u.mpr ⟨_, _, _, _, hS5, hU11⟩
          refine go_callV (pc' := 49) rfl rfl rfl (Nat.le_of_ble_eq_true rfl) rfl (sm_o hS5 rfl) rfl rfl rfl (ra_dc_3 hA12 (by omega) hM9 (by omega) c1 (by omega)) (fun r h13 q14 => ?_)
          obtain ⟨rfl, hA15⟩ := q14
          refine go_s (pc' := 50) (lo' := [some (.ref 62), some (.int 4)]) rfl rfl rfl rfl ?_
          refine go_s (pc' := 8) rfl rfl rfl rfl ?_
          have hs : sil I 3 = true := by simp [sil, fbu, c1, c2, c3]
          have hms : rtk1 3 (I, Q, Z) = rdc 3 ((uI I 2 3 ((I 2 3) + 1)), Q, Z) := (if_pos hs).trans (if_pos c7)
          rw [hms] at C
          exact C _ hA15
      · skip
        have c3 : (I 3 0) = 0 := Decidable.not_not.mp c3'
        refine go_s (pc' := 27) rfl rfl rfl rfl ?_
        refine go_sget (pc' := 28) (v := .ref 66) hS rfl rfl rfl (by decide) rfl rfl ?_
        refine go_s (pc' := 29) (st' := [.int 1, .ref 66]) rfl rfl rfl rfl ?_
        refine go_sald (pc' := 30) (q := 1) (v := .int (I 3 1)) hS rfl (tr_s hr (a := 66) rfl (by decide)) rfl rfl (by decide) rfl rfl ?_
        refine go_ifP (t' := 32) (pc' := 31) rfl rfl rfl (fun (c16 : ¬ (I 3 1) = 0) => ?_) (fun (c16' : ¬ ¬ (I 3 1) = 0) => ?_)
        · skip
          refine go_s (pc' := 33) rfl rfl rfl rfl ?_
          refine go_sget (pc' := 34) (v := .ref 65) hS rfl rfl rfl (by decide) rfl rfl ?_
          refine go_s (pc' := 35) rfl rfl rfl rfl ?_
          refine go_s (pc' := 36) rfl rfl rfl rfl ?_
          refine go_sald (pc' := 37) (q := 3) (v := .int (I 2 3)) hS rfl (tr_s hr (a := 65) rfl (by decide)) rfl rfl (by decide) rfl rfl ?_
          refine go_s (pc' := 38) (st' := [.int 1, .int (I 2 3), .int 3, .ref 65]) rfl rfl rfl rfl ?_
          refine go_s (pc' := 39) rfl rfl rfl rfl ?_
          refine go_siast (pc' := 40) (q := 3) hS rfl (tr_s hr (a := 65) rfl (by decide)) tbr_inj (Nat.le_of_ble_eq_true rfl) rfl (by decide) (by decide) (hW _ (by decide) (by decide)) rfl (fun h17 hS18 hE19 => ?_)
          refine go_s (pc' := 41) rfl rfl rfl rfl ?_
          refine go_sget (pc' := 42) (v := .ref 65) hS18 rfl rfl rfl (by decide) rfl rfl ?_
          refine go_s (pc' := 43) rfl rfl rfl rfl ?_
          refine go_sald (pc' := 44) (q := 3) (v := .int ((I 2 3) + 1)) hS18 rfl (tr_s hr (a := 65) rfl (by decide)) rfl rfl (by decide) rfl rfl ?_
          refine go_s (pc' := 45) (st' := [.int 5, .int ((I 2 3) + 1)]) rfl rfl rfl rfl ?_
          refine go_icmpP (t' := 49) (pc' := 46) rfl rfl rfl (fun (c20 : ¬ ((I 2 3) + 1) = 5) => ?_) (fun (c20' : ¬ ¬ ((I 2 3) + 1) = 5) => ?_)
          · skip
            refine go_s (pc' := 50) (lo' := [some (.ref 62), some (.int 4)]) rfl rfl rfl rfl ?_
            refine go_s (pc' := 8) rfl rfl rfl rfl ?_
            have hs : sil I 3 = true := by simp [sil, fbu, c1, c2, c3, c16]
            change sm (tbr am (13 * ln) 77 5088) _ (uI (jn I K) 2 3 ((I 2 3) + 1)) Y at hS18
            rw [jn_lo (c := 2) (by decide)] at hS18
            have hU21 : RU w B R [] true h17 am ln K ((uI I 2 3 ((I 2 3) + 1)), Q, Z) := RU_I (hE19) (I' := (uI I 2 3 ((I 2 3) + 1))) (fun _ => rfl) (fun _ => rfl) (Nat.le_refl _) hU
            have hA22 : RA w B R [] true h17 ((uI I 2 3 ((I 2 3) + 1)), Q, Z) := RA_u.mpr ⟨_, _, _, _, hS18, hU21⟩
            have hms : rtk1 3 (I, Q, Z) = ((uI I 2 3 ((I 2 3) + 1)), Q, Z) := (if_pos hs).trans (if_neg c20)
            rw [hms] at C
            exact C _ (RA_R (by omega) hA22)
          · skip
            have c20 : ((I 2 3) + 1) = 5 := Decidable.not_not.mp c20'
            refine go_s (pc' := 47) rfl rfl rfl rfl ?_
            refine go_s (pc' := 48) rfl rfl rfl rfl ?_
            change sm (tbr am (13 * ln) 77 5088) _ (uI (jn I K) 2 3 ((I 2 3) + 1)) Y at hS18
            rw [jn_lo (c := 2) (by decide)] at hS18
            have hU23 : RU w B R [] true h17 am ln K ((uI I 2 3 ((I 2 3) + 1)), Q, Z) := RU_I (hE19) (I' := (uI I 2 3 ((I 2 3) + 1))) (fun _ => rfl) (fun _ => rfl) (Nat.le_refl _) hU
            obtain ⟨s9, hs9, es9⟩ := hV.2.2 3 (by decide) c1 c2
            change I 2 3 = nI s9 at es9
            have hM9 : MID X ((uI I 2 3 ((I 2 3) + 1)), Q, Z) := by
              rw [show I 2 3 + 1 = nI (s9 + 1) by rw [es9]; exact nI_add s9 1]
              exact (INV_2 hV.1 (by decide) (by omega)).1
            have hU24 : RU w B R [] true h17 am ln K ((uI I 2 3 ((I 2 3) + 1)), Q, Z) := RU_I (sm_e_refl (tbr am (13 * ln) 77 5088) _) (I' := (uI I 2 3 ((I 2 3) + 1))) (fun _ => rfl) (fun _ => rfl) (Nat.le_refl _) hU23
            have hA25 : RA w B R [] true h17 ((uI I 2 3 ((I 2 3) + 1)), Q, Z) := RA_u.mpr ⟨_, _, _, _, hS18, hU24⟩
            refine go_callV (pc' := 49) rfl rfl rfl (Nat.le_of_ble_eq_true rfl) rfl (sm_o hS18 rfl) rfl rfl rfl (ra_dc_3 hA25 (by omega) hM9 (by omega) c1 (by omega)) (fun r h26 q27 => ?_)
            obtain ⟨rfl, hA28⟩ := q27
            refine go_s (pc' := 50) (lo' := [some (.ref 62), some (.int 4)]) rfl rfl rfl rfl ?_
            refine go_s (pc' := 8) rfl rfl rfl rfl ?_
            have hs : sil I 3 = true := by simp [sil, fbu, c1, c2, c3, c16]
            have hms : rtk1 3 (I, Q, Z) = rdc 3 ((uI I 2 3 ((I 2 3) + 1)), Q, Z) := (if_pos hs).trans (if_pos c20)
            rw [hms] at C
            exact C _ hA28
        · skip
          have c16 : (I 3 1) = 0 := Decidable.not_not.mp c16'
          refine go_s (pc' := 49) rfl rfl rfl rfl ?_
          refine go_s (pc' := 50) (lo' := [some (.ref 62), some (.int 4)]) rfl rfl rfl rfl ?_
          refine go_s (pc' := 8) rfl rfl rfl rfl ?_
          have hs : sil I 3 = false := by simp [sil, fbu, c1, c2, c3, c16]
          have hms : rtk1 3 (I, Q, Z) = (I, Q, Z) := if_neg (by rw [show sil ((I, Q, Z) : mM).1 3 = false from hs]; decide)
          rw [hms] at C
          exact C _ (RA_R (by omega) hA)
theorem stW_0 {w : Nat → Bool} {d B R : Nat} {h : am_Hp} {I : sm_I} {Q : mQ} {Z : mZ} {P : Option Value → am_Hp → Prop} (hA : RA w B R [] true h (rwkI I Q 0, Q, Z)) (hR : R + 0 < 40000) (htri : tri (I 25 0)) (hd : 2 ≤ d) (C : ∀ h', RA w B (R + 0) [] true h' (rwkI I Q 1, Q, Z) → am_Go (am_prog w) d am_c168 (some .int) 53 [some (.ref 62), some (.int 1)] [] h' P) : am_Go (am_prog w) d am_c168 (some .int) 53 [some (.ref 62), some (.int 0)] [] h P := by
  obtain ⟨K, Y, am, ln, hS, hU⟩ := RA_u.mp hA
  change sm (tbr am (13 * ln) 77 5088) h (jn (rwkI I Q 0) K) Y at hS
  obtain ⟨hW, hWm, -, -, hr, -⟩ := id hU.1
  have hln := RU_ln hU (by omega)
  cases hQ : Q 0 with
  | nil =>
    have h55 : K 55 0 = 0 := by
      have z := (RU_lk (l := 0) hU (by decide)).1
      rw [hQ] at z
      exact z
    refine go_s (pc' := 54) rfl rfl rfl rfl ?_
    refine go_s (pc' := 55) (st' := [.int 16, .int 0]) rfl rfl rfl rfl ?_
    refine go_icmpP (t' := 94) (pc' := 56) rfl rfl rfl (fun (c : 16 ≤ (0 : Int32)) => absurd c (by decide)) (fun _ => ?_)
    refine go_s (pc' := 57) rfl rfl rfl rfl ?_
    refine go_sget (pc' := 58) (v := .ref 74) hS rfl rfl rfl (by decide) rfl rfl ?_
    refine go_s (pc' := 59) rfl rfl rfl rfl ?_
    refine go_sald (pc' := 60) (q := 0) (v := .int 0) hS rfl (tr_s hr (a := 74) rfl (by decide)) rfl rfl (by decide) (congrArg Value.int h55) rfl ?_
    refine go_ifP (t' := 92) (pc' := 61) rfl rfl rfl (fun _ => ?_) (fun (c : ¬ ((0 : Int32) ≤ 0)) => absurd (by decide) c)
    refine go_s (pc' := 93) (lo' := [some (.ref 62), some (.int 1)]) rfl rfl rfl rfl ?_
    refine go_s (pc' := 53) rfl rfl rfl rfl ?_
    have hc9 : rwkc I Q 0 = false := by
      unfold rwkc
      rw [hQ]
      rfl
    rw [rwk_n hc9] at C
    exact C _ hA
  | cons m q =>
    obtain ⟨hk55, hle, hxx⟩ := RU_lk (l := 0) hU (by decide)
    obtain ⟨x, h53, hx, hk2, hk3, hk0, hk1⟩ := hxx m q hQ
    rw [hQ] at hk55 hle
    have h55 : K 55 0 = nI (q.length + 1) := hk55
    have hle2 : q.length + 1 ≤ ln := hle
    rcases htri with hb25 | hb25 | hb25
    · skip
      refine go_s (pc' := 54) rfl rfl rfl rfl ?_
      refine go_s (pc' := 55) (st' := [.int 16, .int 0]) rfl rfl rfl rfl ?_
      refine go_icmpP (t' := 94) (pc' := 56) rfl rfl rfl (fun (c : 16 ≤ (0 : Int32)) => absurd c (by decide)) (fun _ => ?_)
      refine go_s (pc' := 57) rfl rfl rfl rfl ?_
      refine go_sget (pc' := 58) (v := .ref 74) hS rfl rfl rfl (by decide) rfl rfl ?_
      refine go_s (pc' := 59) rfl rfl rfl rfl ?_
      refine go_sald (pc' := 60) (q := 0) (v := .int (nI (q.length + 1))) hS rfl (tr_s hr (a := 74) rfl (by decide)) rfl rfl (by decide) (congrArg Value.int h55) rfl ?_
      refine go_ifP (t' := 92) (pc' := 61) rfl rfl rfl (fun (c : (nI (q.length + 1)) ≤ 0) => absurd c (nI_p1 (by omega))) (fun _ => ?_)
      refine go_s (pc' := 62) rfl rfl rfl rfl ?_
      refine go_sget (pc' := 63) (v := .ref am) hS rfl rfl rfl (by decide) rfl rfl ?_
      refine go_s (pc' := 64) rfl rfl rfl rfl ?_
      refine go_sget (pc' := 65) (v := .ref 72) hS rfl rfl rfl (by decide) rfl rfl ?_
      refine go_s (pc' := 66) rfl rfl rfl rfl ?_
      refine go_sald (pc' := 67) (q := 0) (v := .int (nI (13 * x))) hS rfl (tr_s hr (a := 72) rfl (by decide)) rfl rfl (by decide) (congrArg Value.int h53) rfl ?_
      refine go_s (pc' := 68) (st' := [.int 2, .int (nI (13 * x)), .ref am]) rfl rfl rfl rfl ?_
      refine go_nadd (pc' := 69) (a := (13 * x)) (b := 2) rfl rfl rfl rfl rfl ?_
      refine go_sald (pc' := 70) (q := ((13 * x) + 2)) (v := .int (I 24 0)) hS rfl (tr_ms hr (by omega)) rfl rfl (by omega) (congrArg Value.int (hk2.trans rwk_at)) rfl ?_
      refine go_s (pc' := 71) (st' := [.int (-1), .int (I 24 0)]) rfl rfl rfl rfl ?_
      refine go_icmpP (t' := 92) (pc' := 72) rfl rfl rfl (fun (c1 : ¬ (I 24 0) = (-1)) => ?_) (fun (c1' : ¬ ¬ (I 24 0) = (-1)) => ?_)
      · skip
        refine go_s (pc' := 93) (lo' := [some (.ref 62), some (.int 1)]) rfl rfl rfl rfl ?_
        refine go_s (pc' := 53) rfl rfl rfl rfl ?_
        have hc9 : rwkc I Q 0 = false := by
          unfold rwkc
          simp [show ¬ I 24 0 = -1 from c1]
        rw [rwk_n hc9] at C
        exact C _ hA
      · skip
        have c1 : (I 24 0) = (-1) := Decidable.not_not.mp c1'
        refine go_s (pc' := 73) rfl rfl rfl rfl ?_
        refine go_sget (pc' := 74) (v := .ref 63) hS rfl rfl rfl (by decide) rfl rfl ?_
        refine go_s (pc' := 75) rfl rfl rfl rfl ?_
        refine go_s (pc' := 76) (st' := [.int 4, .int 0, .ref 63]) rfl rfl rfl rfl ?_
        refine go_s (pc' := 77) (st' := [.int 0, .ref 63]) rfl rfl rfl rfl ?_
        refine go_sald (pc' := 78) (q := 0) (v := .int ((rwkI I Q 0) 0 0)) hS rfl (tr_s hr (a := 63) rfl (by decide)) rfl rfl (by decide) rfl rfl ?_
        refine go_ifP (t' := 92) (pc' := 79) rfl rfl rfl (fun (c2 : ((rwkI I Q 0) 0 0) = 0) => ?_) (fun (c2 : ¬ ((rwkI I Q 0) 0 0) = 0) => ?_)
        · skip
          refine go_s (pc' := 93) (lo' := [some (.ref 62), some (.int 1)]) rfl rfl rfl rfl ?_
          refine go_s (pc' := 53) rfl rfl rfl rfl ?_
          have hc9 : rwkc I Q 0 = false := by
            unfold rwkc
            simp [show I 0 (0 / 4) = 0 from c2]
          rw [rwk_n hc9] at C
          exact C _ hA
        · skip
          refine go_s (pc' := 80) rfl rfl rfl rfl ?_
          refine go_sget (pc' := 81) (v := .ref 63) hS rfl rfl rfl (by decide) rfl rfl ?_
          refine go_s (pc' := 82) rfl rfl rfl rfl ?_
          refine go_s (pc' := 83) (st' := [.int 4, .int 0, .ref 63]) rfl rfl rfl rfl ?_
          refine go_s (pc' := 84) (st' := [.int 0, .ref 63]) rfl rfl rfl rfl ?_
          refine go_sald (pc' := 85) (q := 0) (v := .int ((rwkI I Q 0) 0 0)) hS rfl (tr_s hr (a := 63) rfl (by decide)) rfl rfl (by decide) rfl rfl ?_
          refine go_ifP (t' := 92) (pc' := 86) rfl rfl rfl (fun (c : ((rwkI I Q 0) 0 0) = 0) => absurd c c2) (fun _ => ?_)
          refine go_s (pc' := 87) rfl rfl rfl rfl ?_
          refine go_s (pc' := 88) rfl rfl rfl rfl ?_
          refine go_sget (pc' := 89) (v := .ref 72) hS rfl rfl rfl (by decide) rfl rfl ?_
          refine go_s (pc' := 90) rfl rfl rfl rfl ?_
          refine go_sald (pc' := 91) (q := 0) (v := .int (nI (13 * x))) hS rfl (tr_s hr (a := 72) rfl (by decide)) rfl rfl (by decide) (congrArg Value.int h53) rfl ?_
          have hU3 : RU w B R [] true h am ln K ((rwkI I Q 0), Q, Z) := RU_I (sm_e_refl (tbr am (13 * ln) 77 5088) _) (I' := (rwkI I Q 0)) (fun _ => rfl) (fun _ => rfl) (Nat.le_refl _) hU
          refine go_callV (pc' := 92) rfl rfl rfl (Nat.le_of_ble_eq_true rfl) rfl (sm_o hS rfl) rfl rfl rfl (rt_boards_m hr hS hW hWm (m := 13 * x) (by omega) (by omega) (hk3.trans (rwk_at.trans hb25)) (by omega)) (fun r h4 q5 => ?_)
          obtain ⟨rfl, hS6, hE7⟩ := q5
          rw [show nxb (jn (rwkI I Q 0) K) (-1) = nxb I (-1) from rwk_nb (Q := Q) (n := 0)] at hS6
          refine go_s (pc' := 93) (lo' := [some (.ref 62), some (.int 1)]) rfl rfl rfl rfl ?_
          refine go_s (pc' := 53) rfl rfl rfl rfl ?_
          by_cases hnb : nxb I (-1) = -1
          · rw [if_pos hnb] at hS6
            have hc9 : rwkc I Q 0 = false := by
              unfold rwkc
              rw [hb25]
              simp [hnb]
            rw [rwk_n hc9] at C
            exact C _ (RA_u.mpr ⟨K, Y, am, ln, hS6, RU_I hE7 (fun _ => rfl) (fun _ => rfl) (Nat.le_refl _) hU3⟩)
          · rw [if_neg hnb] at hS6
            have hc9 : rwkc I Q 0 = true := by
              unfold rwkc
              rw [hQ, hb25]
              simp [hnb, show I 24 0 = -1 from c1, show ¬ I 0 (0 / 4) = 0 from c2, show ¬ I 0 (0 % 4) = 0 from c2]
            rw [rwk_y hc9, hb25] at C
            rw [jn_hi (c := 50) (by decide), jn_hi (c := 50) (by decide)] at hS6
            exact C _ (RA_u.mpr ⟨_, Y, am, ln, sm_jg hr hS6 (fun c j _ n1 n2 _ => (uI_c n2).trans (uI_c n1)), RU_bus (by decide) hU3 hln hE7 hQ h53 hx (fun i hi => by rw [uI_c (by decide), uI_j hi]) (fun i hi => by rw [uI_j hi, uI_c (by decide)]) rfl (fun c j _ hc => by
              simp only [uI]
              rw [if_neg (fun z => hc ⟨z.1, Or.inr z.2⟩), if_neg (fun z => hc ⟨z.1, Or.inl z.2⟩)]) (by rw [uI_j (by omega), uI_s, uI_c (by decide), uI_s]) (by rw [uI_s, uI_s])⟩)
    · skip
      refine go_s (pc' := 54) rfl rfl rfl rfl ?_
      refine go_s (pc' := 55) (st' := [.int 16, .int 0]) rfl rfl rfl rfl ?_
      refine go_icmpP (t' := 94) (pc' := 56) rfl rfl rfl (fun (c : 16 ≤ (0 : Int32)) => absurd c (by decide)) (fun _ => ?_)
      refine go_s (pc' := 57) rfl rfl rfl rfl ?_
      refine go_sget (pc' := 58) (v := .ref 74) hS rfl rfl rfl (by decide) rfl rfl ?_
      refine go_s (pc' := 59) rfl rfl rfl rfl ?_
      refine go_sald (pc' := 60) (q := 0) (v := .int (nI (q.length + 1))) hS rfl (tr_s hr (a := 74) rfl (by decide)) rfl rfl (by decide) (congrArg Value.int h55) rfl ?_
      refine go_ifP (t' := 92) (pc' := 61) rfl rfl rfl (fun (c : (nI (q.length + 1)) ≤ 0) => absurd c (nI_p1 (by omega))) (fun _ => ?_)
      refine go_s (pc' := 62) rfl rfl rfl rfl ?_
      refine go_sget (pc' := 63) (v := .ref am) hS rfl rfl rfl (by decide) rfl rfl ?_
      refine go_s (pc' := 64) rfl rfl rfl rfl ?_
      refine go_sget (pc' := 65) (v := .ref 72) hS rfl rfl rfl (by decide) rfl rfl ?_
      refine go_s (pc' := 66) rfl rfl rfl rfl ?_
      refine go_sald (pc' := 67) (q := 0) (v := .int (nI (13 * x))) hS rfl (tr_s hr (a := 72) rfl (by decide)) rfl rfl (by decide) (congrArg Value.int h53) rfl ?_
      refine go_s (pc' := 68) (st' := [.int 2, .int (nI (13 * x)), .ref am]) rfl rfl rfl rfl ?_
      refine go_nadd (pc' := 69) (a := (13 * x)) (b := 2) rfl rfl rfl rfl rfl ?_
      refine go_sald (pc' := 70) (q := ((13 * x) + 2)) (v := .int (I 24 0)) hS rfl (tr_ms hr (by omega)) rfl rfl (by omega) (congrArg Value.int (hk2.trans rwk_at)) rfl ?_
      refine go_s (pc' := 71) (st' := [.int (-1), .int (I 24 0)]) rfl rfl rfl rfl ?_
      refine go_icmpP (t' := 92) (pc' := 72) rfl rfl rfl (fun (c8 : ¬ (I 24 0) = (-1)) => ?_) (fun (c8' : ¬ ¬ (I 24 0) = (-1)) => ?_)
      · skip
        refine go_s (pc' := 93) (lo' := [some (.ref 62), some (.int 1)]) rfl rfl rfl rfl ?_
        refine go_s (pc' := 53) rfl rfl rfl rfl ?_
        have hc9 : rwkc I Q 0 = false := by
          unfold rwkc
          simp [show ¬ I 24 0 = -1 from c8]
        rw [rwk_n hc9] at C
        exact C _ hA
      · skip
        have c8 : (I 24 0) = (-1) := Decidable.not_not.mp c8'
        refine go_s (pc' := 73) rfl rfl rfl rfl ?_
        refine go_sget (pc' := 74) (v := .ref 63) hS rfl rfl rfl (by decide) rfl rfl ?_
        refine go_s (pc' := 75) rfl rfl rfl rfl ?_
        refine go_s (pc' := 76) (st' := [.int 4, .int 0, .ref 63]) rfl rfl rfl rfl ?_
        refine go_s (pc' := 77) (st' := [.int 0, .ref 63]) rfl rfl rfl rfl ?_
        refine go_sald (pc' := 78) (q := 0) (v := .int ((rwkI I Q 0) 0 0)) hS rfl (tr_s hr (a := 63) rfl (by decide)) rfl rfl (by decide) rfl rfl ?_
        refine go_ifP (t' := 92) (pc' := 79) rfl rfl rfl (fun (c9 : ((rwkI I Q 0) 0 0) = 0) => ?_) (fun (c9 : ¬ ((rwkI I Q 0) 0 0) = 0) => ?_)
        · skip
          refine go_s (pc' := 93) (lo' := [some (.ref 62), some (.int 1)]) rfl rfl rfl rfl ?_
          refine go_s (pc' := 53) rfl rfl rfl rfl ?_
          have hc9 : rwkc I Q 0 = false := by
            unfold rwkc
            simp [show I 0 (0 / 4) = 0 from c9]
          rw [rwk_n hc9] at C
          exact C _ hA
        · skip
          refine go_s (pc' := 80) rfl rfl rfl rfl ?_
          refine go_sget (pc' := 81) (v := .ref 63) hS rfl rfl rfl (by decide) rfl rfl ?_
          refine go_s (pc' := 82) rfl rfl rfl rfl ?_
          refine go_s (pc' := 83) (st' := [.int 4, .int 0, .ref 63]) rfl rfl rfl rfl ?_
          refine go_s (pc' := 84) (st' := [.int 0, .ref 63]) rfl rfl rfl rfl ?_
          refine go_sald (pc' := 85) (q := 0) (v := .int ((rwkI I Q 0) 0 0)) hS rfl (tr_s hr (a := 63) rfl (by decide)) rfl rfl (by decide) rfl rfl ?_
          refine go_ifP (t' := 92) (pc' := 86) rfl rfl rfl (fun (c : ((rwkI I Q 0) 0 0) = 0) => absurd c c9) (fun _ => ?_)
          refine go_s (pc' := 87) rfl rfl rfl rfl ?_
          refine go_s (pc' := 88) rfl rfl rfl rfl ?_
          refine go_sget (pc' := 89) (v := .ref 72) hS rfl rfl rfl (by decide) rfl rfl ?_
          refine go_s (pc' := 90) rfl rfl rfl rfl ?_
          refine go_sald (pc' := 91) (q := 0) (v := .int (nI (13 * x))) hS rfl (tr_s hr (a := 72) rfl (by decide)) rfl rfl (by decide) (congrArg Value.int h53) rfl ?_
          have hU10 : RU w B R [] true h am ln K ((rwkI I Q 0), Q, Z) := RU_I (sm_e_refl (tbr am (13 * ln) 77 5088) _) (I' := (rwkI I Q 0)) (fun _ => rfl) (fun _ => rfl) (Nat.le_refl _) hU
          refine go_callV (pc' := 92) rfl rfl rfl (Nat.le_of_ble_eq_true rfl) rfl (sm_o hS rfl) rfl rfl rfl (rt_boards_0 hr hS hW hWm (m := 13 * x) (by omega) (by omega) (hk3.trans (rwk_at.trans hb25)) (by omega)) (fun r h11 q12 => ?_)
          obtain ⟨rfl, hS13, hE14⟩ := q12
          rw [show nxb (jn (rwkI I Q 0) K) 0 = nxb I 0 from rwk_nb (Q := Q) (n := 0)] at hS13
          refine go_s (pc' := 93) (lo' := [some (.ref 62), some (.int 1)]) rfl rfl rfl rfl ?_
          refine go_s (pc' := 53) rfl rfl rfl rfl ?_
          by_cases hnb : nxb I 0 = -1
          · rw [if_pos hnb] at hS13
            have hc9 : rwkc I Q 0 = false := by
              unfold rwkc
              rw [hb25]
              simp [hnb]
            rw [rwk_n hc9] at C
            exact C _ (RA_u.mpr ⟨K, Y, am, ln, hS13, RU_I hE14 (fun _ => rfl) (fun _ => rfl) (Nat.le_refl _) hU10⟩)
          · rw [if_neg hnb] at hS13
            have hc9 : rwkc I Q 0 = true := by
              unfold rwkc
              rw [hQ, hb25]
              simp [hnb, show I 24 0 = -1 from c8, show ¬ I 0 (0 / 4) = 0 from c9, show ¬ I 0 (0 % 4) = 0 from c9]
            rw [rwk_y hc9, hb25] at C
            rw [jn_hi (c := 50) (by decide), jn_hi (c := 50) (by decide)] at hS13
            exact C _ (RA_u.mpr ⟨_, Y, am, ln, sm_jg hr hS13 (fun c j _ n1 n2 _ => (uI_c n2).trans (uI_c n1)), RU_bus (by decide) hU10 hln hE14 hQ h53 hx (fun i hi => by rw [uI_c (by decide), uI_j hi]) (fun i hi => by rw [uI_j hi, uI_c (by decide)]) rfl (fun c j _ hc => by
              simp only [uI]
              rw [if_neg (fun z => hc ⟨z.1, Or.inr z.2⟩), if_neg (fun z => hc ⟨z.1, Or.inl z.2⟩)]) (by rw [uI_j (by omega), uI_s, uI_c (by decide), uI_s]) (by rw [uI_s, uI_s])⟩)
    · skip
      refine go_s (pc' := 54) rfl rfl rfl rfl ?_
      refine go_s (pc' := 55) (st' := [.int 16, .int 0]) rfl rfl rfl rfl ?_
      refine go_icmpP (t' := 94) (pc' := 56) rfl rfl rfl (fun (c : 16 ≤ (0 : Int32)) => absurd c (by decide)) (fun _ => ?_)
      refine go_s (pc' := 57) rfl rfl rfl rfl ?_
      refine go_sget (pc' := 58) (v := .ref 74) hS rfl rfl rfl (by decide) rfl rfl ?_
      refine go_s (pc' := 59) rfl rfl rfl rfl ?_
      refine go_sald (pc' := 60) (q := 0) (v := .int (nI (q.length + 1))) hS rfl (tr_s hr (a := 74) rfl (by decide)) rfl rfl (by decide) (congrArg Value.int h55) rfl ?_
      refine go_ifP (t' := 92) (pc' := 61) rfl rfl rfl (fun (c : (nI (q.length + 1)) ≤ 0) => absurd c (nI_p1 (by omega))) (fun _ => ?_)
      refine go_s (pc' := 62) rfl rfl rfl rfl ?_
      refine go_sget (pc' := 63) (v := .ref am) hS rfl rfl rfl (by decide) rfl rfl ?_
      refine go_s (pc' := 64) rfl rfl rfl rfl ?_
      refine go_sget (pc' := 65) (v := .ref 72) hS rfl rfl rfl (by decide) rfl rfl ?_
      refine go_s (pc' := 66) rfl rfl rfl rfl ?_
      refine go_sald (pc' := 67) (q := 0) (v := .int (nI (13 * x))) hS rfl (tr_s hr (a := 72) rfl (by decide)) rfl rfl (by decide) (congrArg Value.int h53) rfl ?_
      refine go_s (pc' := 68) (st' := [.int 2, .int (nI (13 * x)), .ref am]) rfl rfl rfl rfl ?_
      refine go_nadd (pc' := 69) (a := (13 * x)) (b := 2) rfl rfl rfl rfl rfl ?_
      refine go_sald (pc' := 70) (q := ((13 * x) + 2)) (v := .int (I 24 0)) hS rfl (tr_ms hr (by omega)) rfl rfl (by omega) (congrArg Value.int (hk2.trans rwk_at)) rfl ?_
      refine go_s (pc' := 71) (st' := [.int (-1), .int (I 24 0)]) rfl rfl rfl rfl ?_
      refine go_icmpP (t' := 92) (pc' := 72) rfl rfl rfl (fun (c15 : ¬ (I 24 0) = (-1)) => ?_) (fun (c15' : ¬ ¬ (I 24 0) = (-1)) => ?_)
      · skip
        refine go_s (pc' := 93) (lo' := [some (.ref 62), some (.int 1)]) rfl rfl rfl rfl ?_
        refine go_s (pc' := 53) rfl rfl rfl rfl ?_
        have hc9 : rwkc I Q 0 = false := by
          unfold rwkc
          simp [show ¬ I 24 0 = -1 from c15]
        rw [rwk_n hc9] at C
        exact C _ hA
      · skip
        have c15 : (I 24 0) = (-1) := Decidable.not_not.mp c15'
        refine go_s (pc' := 73) rfl rfl rfl rfl ?_
        refine go_sget (pc' := 74) (v := .ref 63) hS rfl rfl rfl (by decide) rfl rfl ?_
        refine go_s (pc' := 75) rfl rfl rfl rfl ?_
        refine go_s (pc' := 76) (st' := [.int 4, .int 0, .ref 63]) rfl rfl rfl rfl ?_
        refine go_s (pc' := 77) (st' := [.int 0, .ref 63]) rfl rfl rfl rfl ?_
        refine go_sald (pc' := 78) (q := 0) (v := .int ((rwkI I Q 0) 0 0)) hS rfl (tr_s hr (a := 63) rfl (by decide)) rfl rfl (by decide) rfl rfl ?_
        refine go_ifP (t' := 92) (pc' := 79) rfl rfl rfl (fun (c16 : ((rwkI I Q 0) 0 0) = 0) => ?_) (fun (c16 : ¬ ((rwkI I Q 0) 0 0) = 0) => ?_)
        · skip
          refine go_s (pc' := 93) (lo' := [some (.ref 62), some (.int 1)]) rfl rfl rfl rfl ?_
          refine go_s (pc' := 53) rfl rfl rfl rfl ?_
          have hc9 : rwkc I Q 0 = false := by
            unfold rwkc
            simp [show I 0 (0 / 4) = 0 from c16]
          rw [rwk_n hc9] at C
          exact C _ hA
        · skip
          refine go_s (pc' := 80) rfl rfl rfl rfl ?_
          refine go_sget (pc' := 81) (v := .ref 63) hS rfl rfl rfl (by decide) rfl rfl ?_
          refine go_s (pc' := 82) rfl rfl rfl rfl ?_
          refine go_s (pc' := 83) (st' := [.int 4, .int 0, .ref 63]) rfl rfl rfl rfl ?_
          refine go_s (pc' := 84) (st' := [.int 0, .ref 63]) rfl rfl rfl rfl ?_
          refine go_sald (pc' := 85) (q := 0) (v := .int ((rwkI I Q 0) 0 0)) hS rfl (tr_s hr (a := 63) rfl (by decide)) rfl rfl (by decide) rfl rfl ?_
          refine go_ifP (t' := 92) (pc' := 86) rfl rfl rfl (fun (c : ((rwkI I Q 0) 0 0) = 0) => absurd c c16) (fun _ => ?_)
          refine go_s (pc' := 87) rfl rfl rfl rfl ?_
          refine go_s (pc' := 88) rfl rfl rfl rfl ?_
          refine go_sget (pc' := 89) (v := .ref 72) hS rfl rfl rfl (by decide) rfl rfl ?_
          refine go_s (pc' := 90) rfl rfl rfl rfl ?_
          refine go_sald (pc' := 91) (q := 0) (v := .int (nI (13 * x))) hS rfl (tr_s hr (a := 72) rfl (by decide)) rfl rfl (by decide) (congrArg Value.int h53) rfl ?_
          have hU17 : RU w B R [] true h am ln K ((rwkI I Q 0), Q, Z) := RU_I (sm_e_refl (tbr am (13 * ln) 77 5088) _) (I' := (rwkI I Q 0)) (fun _ => rfl) (fun _ => rfl) (Nat.le_refl _) hU
          refine go_callV (pc' := 92) rfl rfl rfl (Nat.le_of_ble_eq_true rfl) rfl (sm_o hS rfl) rfl rfl rfl (rt_boards_1 hr hS hW hWm (m := 13 * x) (by omega) (by omega) (hk3.trans (rwk_at.trans hb25)) (by omega)) (fun r h18 q19 => ?_)
          obtain ⟨rfl, hS20, hE21⟩ := q19
          rw [show nxb (jn (rwkI I Q 0) K) 1 = nxb I 1 from rwk_nb (Q := Q) (n := 0)] at hS20
          refine go_s (pc' := 93) (lo' := [some (.ref 62), some (.int 1)]) rfl rfl rfl rfl ?_
          refine go_s (pc' := 53) rfl rfl rfl rfl ?_
          by_cases hnb : nxb I 1 = -1
          · rw [if_pos hnb] at hS20
            have hc9 : rwkc I Q 0 = false := by
              unfold rwkc
              rw [hb25]
              simp [hnb]
            rw [rwk_n hc9] at C
            exact C _ (RA_u.mpr ⟨K, Y, am, ln, hS20, RU_I hE21 (fun _ => rfl) (fun _ => rfl) (Nat.le_refl _) hU17⟩)
          · rw [if_neg hnb] at hS20
            have hc9 : rwkc I Q 0 = true := by
              unfold rwkc
              rw [hQ, hb25]
              simp [hnb, show I 24 0 = -1 from c15, show ¬ I 0 (0 / 4) = 0 from c16, show ¬ I 0 (0 % 4) = 0 from c16]
            rw [rwk_y hc9, hb25] at C
            rw [jn_hi (c := 50) (by decide), jn_hi (c := 50) (by decide)] at hS20
            exact C _ (RA_u.mpr ⟨_, Y, am, ln, sm_jg hr hS20 (fun c j _ n1 n2 _ => (uI_c n2).trans (uI_c n1)), RU_bus (by decide) hU17 hln hE21 hQ h53 hx (fun i hi => by rw [uI_c (by decide), uI_j hi]) (fun i hi => by rw [uI_j hi, uI_c (by decide)]) rfl (fun c j _ hc => by
              simp only [uI]
              rw [if_neg (fun z => hc ⟨z.1, Or.inr z.2⟩), if_neg (fun z => hc ⟨z.1, Or.inl z.2⟩)]) (by rw [uI_j (by omega), uI_s, uI_c (by decide), uI_s]) (by rw [uI_s, uI_s])⟩)
theorem stW_1 {w : Nat → Bool} {d B R : Nat} {h : am_Hp} {I : sm_I} {Q : mQ} {Z : mZ} {P : Option Value → am_Hp → Prop} (hA : RA w B R [] true h (rwkI I Q 1, Q, Z)) (hR : R + 0 < 40000) (htri : tri (I 25 1)) (hd : 2 ≤ d) (C : ∀ h', RA w B (R + 0) [] true h' (rwkI I Q 2, Q, Z) → am_Go (am_prog w) d am_c168 (some .int) 53 [some (.ref 62), some (.int 2)] [] h' P) : am_Go (am_prog w) d am_c168 (some .int) 53 [some (.ref 62), some (.int 1)] [] h P := by
  obtain ⟨K, Y, am, ln, hS, hU⟩ := RA_u.mp hA
  change sm (tbr am (13 * ln) 77 5088) h (jn (rwkI I Q 1) K) Y at hS
  obtain ⟨hW, hWm, -, -, hr, -⟩ := id hU.1
  have hln := RU_ln hU (by omega)
  cases hQ : Q 1 with
  | nil =>
    have h55 : K 55 1 = 0 := by
      have z := (RU_lk (l := 1) hU (by decide)).1
      rw [hQ] at z
      exact z
    refine go_s (pc' := 54) rfl rfl rfl rfl ?_
    refine go_s (pc' := 55) (st' := [.int 16, .int 1]) rfl rfl rfl rfl ?_
    refine go_icmpP (t' := 94) (pc' := 56) rfl rfl rfl (fun (c : 16 ≤ (1 : Int32)) => absurd c (by decide)) (fun _ => ?_)
    refine go_s (pc' := 57) rfl rfl rfl rfl ?_
    refine go_sget (pc' := 58) (v := .ref 74) hS rfl rfl rfl (by decide) rfl rfl ?_
    refine go_s (pc' := 59) rfl rfl rfl rfl ?_
    refine go_sald (pc' := 60) (q := 1) (v := .int 0) hS rfl (tr_s hr (a := 74) rfl (by decide)) rfl rfl (by decide) (congrArg Value.int h55) rfl ?_
    refine go_ifP (t' := 92) (pc' := 61) rfl rfl rfl (fun _ => ?_) (fun (c : ¬ ((0 : Int32) ≤ 0)) => absurd (by decide) c)
    refine go_s (pc' := 93) (lo' := [some (.ref 62), some (.int 2)]) rfl rfl rfl rfl ?_
    refine go_s (pc' := 53) rfl rfl rfl rfl ?_
    have hc9 : rwkc I Q 1 = false := by
      unfold rwkc
      rw [hQ]
      rfl
    rw [rwk_n hc9] at C
    exact C _ hA
  | cons m q =>
    obtain ⟨hk55, hle, hxx⟩ := RU_lk (l := 1) hU (by decide)
    obtain ⟨x, h53, hx, hk2, hk3, hk0, hk1⟩ := hxx m q hQ
    rw [hQ] at hk55 hle
    have h55 : K 55 1 = nI (q.length + 1) := hk55
    have hle2 : q.length + 1 ≤ ln := hle
    rcases htri with hb25 | hb25 | hb25
    · skip
      refine go_s (pc' := 54) rfl rfl rfl rfl ?_
      refine go_s (pc' := 55) (st' := [.int 16, .int 1]) rfl rfl rfl rfl ?_
      refine go_icmpP (t' := 94) (pc' := 56) rfl rfl rfl (fun (c : 16 ≤ (1 : Int32)) => absurd c (by decide)) (fun _ => ?_)
      refine go_s (pc' := 57) rfl rfl rfl rfl ?_
      refine go_sget (pc' := 58) (v := .ref 74) hS rfl rfl rfl (by decide) rfl rfl ?_
      refine go_s (pc' := 59) rfl rfl rfl rfl ?_
      refine go_sald (pc' := 60) (q := 1) (v := .int (nI (q.length + 1))) hS rfl (tr_s hr (a := 74) rfl (by decide)) rfl rfl (by decide) (congrArg Value.int h55) rfl ?_
      refine go_ifP (t' := 92) (pc' := 61) rfl rfl rfl (fun (c : (nI (q.length + 1)) ≤ 0) => absurd c (nI_p1 (by omega))) (fun _ => ?_)
      refine go_s (pc' := 62) rfl rfl rfl rfl ?_
      refine go_sget (pc' := 63) (v := .ref am) hS rfl rfl rfl (by decide) rfl rfl ?_
      refine go_s (pc' := 64) rfl rfl rfl rfl ?_
      refine go_sget (pc' := 65) (v := .ref 72) hS rfl rfl rfl (by decide) rfl rfl ?_
      refine go_s (pc' := 66) rfl rfl rfl rfl ?_
      refine go_sald (pc' := 67) (q := 1) (v := .int (nI (13 * x))) hS rfl (tr_s hr (a := 72) rfl (by decide)) rfl rfl (by decide) (congrArg Value.int h53) rfl ?_
      refine go_s (pc' := 68) (st' := [.int 2, .int (nI (13 * x)), .ref am]) rfl rfl rfl rfl ?_
      refine go_nadd (pc' := 69) (a := (13 * x)) (b := 2) rfl rfl rfl rfl rfl ?_
      refine go_sald (pc' := 70) (q := ((13 * x) + 2)) (v := .int (I 24 1)) hS rfl (tr_ms hr (by omega)) rfl rfl (by omega) (congrArg Value.int (hk2.trans rwk_at)) rfl ?_
      refine go_s (pc' := 71) (st' := [.int (-1), .int (I 24 1)]) rfl rfl rfl rfl ?_
      refine go_icmpP (t' := 92) (pc' := 72) rfl rfl rfl (fun (c1 : ¬ (I 24 1) = (-1)) => ?_) (fun (c1' : ¬ ¬ (I 24 1) = (-1)) => ?_)
      · skip
        refine go_s (pc' := 93) (lo' := [some (.ref 62), some (.int 2)]) rfl rfl rfl rfl ?_
        refine go_s (pc' := 53) rfl rfl rfl rfl ?_
        have hc9 : rwkc I Q 1 = false := by
          unfold rwkc
          simp [show ¬ I 24 1 = -1 from c1]
        rw [rwk_n hc9] at C
        exact C _ hA
      · skip
        have c1 : (I 24 1) = (-1) := Decidable.not_not.mp c1'
        refine go_s (pc' := 73) rfl rfl rfl rfl ?_
        refine go_sget (pc' := 74) (v := .ref 63) hS rfl rfl rfl (by decide) rfl rfl ?_
        refine go_s (pc' := 75) rfl rfl rfl rfl ?_
        refine go_s (pc' := 76) (st' := [.int 4, .int 1, .ref 63]) rfl rfl rfl rfl ?_
        refine go_s (pc' := 77) (st' := [.int 0, .ref 63]) rfl rfl rfl rfl ?_
        refine go_sald (pc' := 78) (q := 0) (v := .int ((rwkI I Q 1) 0 0)) hS rfl (tr_s hr (a := 63) rfl (by decide)) rfl rfl (by decide) rfl rfl ?_
        refine go_ifP (t' := 92) (pc' := 79) rfl rfl rfl (fun (c2 : ((rwkI I Q 1) 0 0) = 0) => ?_) (fun (c2 : ¬ ((rwkI I Q 1) 0 0) = 0) => ?_)
        · skip
          refine go_s (pc' := 93) (lo' := [some (.ref 62), some (.int 2)]) rfl rfl rfl rfl ?_
          refine go_s (pc' := 53) rfl rfl rfl rfl ?_
          have hc9 : rwkc I Q 1 = false := by
            unfold rwkc
            simp [show I 0 (1 / 4) = 0 from c2]
          rw [rwk_n hc9] at C
          exact C _ hA
        · skip
          refine go_s (pc' := 80) rfl rfl rfl rfl ?_
          refine go_sget (pc' := 81) (v := .ref 63) hS rfl rfl rfl (by decide) rfl rfl ?_
          refine go_s (pc' := 82) rfl rfl rfl rfl ?_
          refine go_s (pc' := 83) (st' := [.int 4, .int 1, .ref 63]) rfl rfl rfl rfl ?_
          refine go_s (pc' := 84) (st' := [.int 1, .ref 63]) rfl rfl rfl rfl ?_
          refine go_sald (pc' := 85) (q := 1) (v := .int ((rwkI I Q 1) 0 1)) hS rfl (tr_s hr (a := 63) rfl (by decide)) rfl rfl (by decide) rfl rfl ?_
          refine go_ifP (t' := 92) (pc' := 86) rfl rfl rfl (fun (c3 : ((rwkI I Q 1) 0 1) = 0) => ?_) (fun (c3 : ¬ ((rwkI I Q 1) 0 1) = 0) => ?_)
          · skip
            refine go_s (pc' := 93) (lo' := [some (.ref 62), some (.int 2)]) rfl rfl rfl rfl ?_
            refine go_s (pc' := 53) rfl rfl rfl rfl ?_
            have hc9 : rwkc I Q 1 = false := by
              unfold rwkc
              simp [show I 0 (1 % 4) = 0 from c3]
            rw [rwk_n hc9] at C
            exact C _ hA
          · skip
            refine go_s (pc' := 87) rfl rfl rfl rfl ?_
            refine go_s (pc' := 88) rfl rfl rfl rfl ?_
            refine go_sget (pc' := 89) (v := .ref 72) hS rfl rfl rfl (by decide) rfl rfl ?_
            refine go_s (pc' := 90) rfl rfl rfl rfl ?_
            refine go_sald (pc' := 91) (q := 1) (v := .int (nI (13 * x))) hS rfl (tr_s hr (a := 72) rfl (by decide)) rfl rfl (by decide) (congrArg Value.int h53) rfl ?_
            have hU4 : RU w B R [] true h am ln K ((rwkI I Q 1), Q, Z) := RU_I (sm_e_refl (tbr am (13 * ln) 77 5088) _) (I' := (rwkI I Q 1)) (fun _ => rfl) (fun _ => rfl) (Nat.le_refl _) hU
            refine go_callV (pc' := 92) rfl rfl rfl (Nat.le_of_ble_eq_true rfl) rfl (sm_o hS rfl) rfl rfl rfl (rt_boards_m hr hS hW hWm (m := 13 * x) (by omega) (by omega) (hk3.trans (rwk_at.trans hb25)) (by omega)) (fun r h5 q6 => ?_)
            obtain ⟨rfl, hS7, hE8⟩ := q6
            rw [show nxb (jn (rwkI I Q 1) K) (-1) = nxb I (-1) from rwk_nb (Q := Q) (n := 1)] at hS7
            refine go_s (pc' := 93) (lo' := [some (.ref 62), some (.int 2)]) rfl rfl rfl rfl ?_
            refine go_s (pc' := 53) rfl rfl rfl rfl ?_
            by_cases hnb : nxb I (-1) = -1
            · rw [if_pos hnb] at hS7
              have hc9 : rwkc I Q 1 = false := by
                unfold rwkc
                rw [hb25]
                simp [hnb]
              rw [rwk_n hc9] at C
              exact C _ (RA_u.mpr ⟨K, Y, am, ln, hS7, RU_I hE8 (fun _ => rfl) (fun _ => rfl) (Nat.le_refl _) hU4⟩)
            · rw [if_neg hnb] at hS7
              have hc9 : rwkc I Q 1 = true := by
                unfold rwkc
                rw [hQ, hb25]
                simp [hnb, show I 24 1 = -1 from c1, show ¬ I 0 (1 / 4) = 0 from c2, show ¬ I 0 (1 % 4) = 0 from c3]
              rw [rwk_y hc9, hb25] at C
              rw [jn_hi (c := 50) (by decide), jn_hi (c := 50) (by decide)] at hS7
              exact C _ (RA_u.mpr ⟨_, Y, am, ln, sm_jg hr hS7 (fun c j _ n1 n2 _ => (uI_c n2).trans (uI_c n1)), RU_bus (by decide) hU4 hln hE8 hQ h53 hx (fun i hi => by rw [uI_c (by decide), uI_j hi]) (fun i hi => by rw [uI_j hi, uI_c (by decide)]) rfl (fun c j _ hc => by
                simp only [uI]
                rw [if_neg (fun z => hc ⟨z.1, Or.inr z.2⟩), if_neg (fun z => hc ⟨z.1, Or.inl z.2⟩)]) (by rw [uI_j (by omega), uI_s, uI_c (by decide), uI_s]) (by rw [uI_s, uI_s])⟩)
    · skip
      refine go_s (pc' := 54) rfl rfl rfl rfl ?_
      refine go_s (pc' := 55) (st' := [.int 16, .int 1]) rfl rfl rfl rfl ?_
      refine go_icmpP (t' := 94) (pc' := 56) rfl rfl rfl (fun (c : 16 ≤ (1 : Int32)) => absurd c (by decide)) (fun _ => ?_)
      refine go_s (pc' := 57) rfl rfl rfl rfl ?_
      refine go_sget (pc' := 58) (v := .ref 74) hS rfl rfl rfl (by decide) rfl rfl ?_
      refine go_s (pc' := 59) rfl rfl rfl rfl ?_
      refine go_sald (pc' := 60) (q := 1) (v := .int (nI (q.length + 1))) hS rfl (tr_s hr (a := 74) rfl (by decide)) rfl rfl (by decide) (congrArg Value.int h55) rfl ?_
      refine go_ifP (t' := 92) (pc' := 61) rfl rfl rfl (fun (c : (nI (q.length + 1)) ≤ 0) => absurd c (nI_p1 (by omega))) (fun _ => ?_)
      refine go_s (pc' := 62) rfl rfl rfl rfl ?_
      refine go_sget (pc' := 63) (v := .ref am) hS rfl rfl rfl (by decide) rfl rfl ?_
      refine go_s (pc' := 64) rfl rfl rfl rfl ?_
      refine go_sget (pc' := 65) (v := .ref 72) hS rfl rfl rfl (by decide) rfl rfl ?_
      refine go_s (pc' := 66) rfl rfl rfl rfl ?_
      refine go_sald (pc' := 67) (q := 1) (v := .int (nI (13 * x))) hS rfl (tr_s hr (a := 72) rfl (by decide)) rfl rfl (by decide) (congrArg Value.int h53) rfl ?_
      refine go_s (pc' := 68) (st' := [.int 2, .int (nI (13 * x)), .ref am]) rfl rfl rfl rfl ?_
      refine go_nadd (pc' := 69) (a := (13 * x)) (b := 2) rfl rfl rfl rfl rfl ?_
      refine go_sald (pc' := 70) (q := ((13 * x) + 2)) (v := .int (I 24 1)) hS rfl (tr_ms hr (by omega)) rfl rfl (by omega) (congrArg Value.int (hk2.trans rwk_at)) rfl ?_
      refine go_s (pc' := 71) (st' := [.int (-1), .int (I 24 1)]) rfl rfl rfl rfl ?_
      refine go_icmpP (t' := 92) (pc' := 72) rfl rfl rfl (fun (c9 : ¬ (I 24 1) = (-1)) => ?_) (fun (c9' : ¬ ¬ (I 24 1) = (-1)) => ?_)
      · skip
        refine go_s (pc' := 93) (lo' := [some (.ref 62), some (.int 2)]) rfl rfl rfl rfl ?_
        refine go_s (pc' := 53) rfl rfl rfl rfl ?_
        have hc9 : rwkc I Q 1 = false := by
          unfold rwkc
          simp [show ¬ I 24 1 = -1 from c9]
        rw [rwk_n hc9] at C
        exact C _ hA
      · skip
        have c9 : (I 24 1) = (-1) := Decidable.not_not.mp c9'
        refine go_s (pc' := 73) rfl rfl rfl rfl ?_
        refine go_sget (pc' := 74) (v := .ref 63) hS rfl rfl rfl (by decide) rfl rfl ?_
        refine go_s (pc' := 75) rfl rfl rfl rfl ?_
        refine go_s (pc' := 76) (st' := [.int 4, .int 1, .ref 63]) rfl rfl rfl rfl ?_
        refine go_s (pc' := 77) (st' := [.int 0, .ref 63]) rfl rfl rfl rfl ?_
        refine go_sald (pc' := 78) (q := 0) (v := .int ((rwkI I Q 1) 0 0)) hS rfl (tr_s hr (a := 63) rfl (by decide)) rfl rfl (by decide) rfl rfl ?_
        refine go_ifP (t' := 92) (pc' := 79) rfl rfl rfl (fun (c10 : ((rwkI I Q 1) 0 0) = 0) => ?_) (fun (c10 : ¬ ((rwkI I Q 1) 0 0) = 0) => ?_)
        · skip
          refine go_s (pc' := 93) (lo' := [some (.ref 62), some (.int 2)]) rfl rfl rfl rfl ?_
          refine go_s (pc' := 53) rfl rfl rfl rfl ?_
          have hc9 : rwkc I Q 1 = false := by
            unfold rwkc
            simp [show I 0 (1 / 4) = 0 from c10]
          rw [rwk_n hc9] at C
          exact C _ hA
        · skip
          refine go_s (pc' := 80) rfl rfl rfl rfl ?_
          refine go_sget (pc' := 81) (v := .ref 63) hS rfl rfl rfl (by decide) rfl rfl ?_
          refine go_s (pc' := 82) rfl rfl rfl rfl ?_
          refine go_s (pc' := 83) (st' := [.int 4, .int 1, .ref 63]) rfl rfl rfl rfl ?_
          refine go_s (pc' := 84) (st' := [.int 1, .ref 63]) rfl rfl rfl rfl ?_
          refine go_sald (pc' := 85) (q := 1) (v := .int ((rwkI I Q 1) 0 1)) hS rfl (tr_s hr (a := 63) rfl (by decide)) rfl rfl (by decide) rfl rfl ?_
          refine go_ifP (t' := 92) (pc' := 86) rfl rfl rfl (fun (c11 : ((rwkI I Q 1) 0 1) = 0) => ?_) (fun (c11 : ¬ ((rwkI I Q 1) 0 1) = 0) => ?_)
          · skip
            refine go_s (pc' := 93) (lo' := [some (.ref 62), some (.int 2)]) rfl rfl rfl rfl ?_
            refine go_s (pc' := 53) rfl rfl rfl rfl ?_
            have hc9 : rwkc I Q 1 = false := by
              unfold rwkc
              simp [show I 0 (1 % 4) = 0 from c11]
            rw [rwk_n hc9] at C
            exact C _ hA
          · skip
            refine go_s (pc' := 87) rfl rfl rfl rfl ?_
            refine go_s (pc' := 88) rfl rfl rfl rfl ?_
            refine go_sget (pc' := 89) (v := .ref 72) hS rfl rfl rfl (by decide) rfl rfl ?_
            refine go_s (pc' := 90) rfl rfl rfl rfl ?_
            refine go_sald (pc' := 91) (q := 1) (v := .int (nI (13 * x))) hS rfl (tr_s hr (a := 72) rfl (by decide)) rfl rfl (by decide) (congrArg Value.int h53) rfl ?_
            have hU12 : RU w B R [] true h am ln K ((rwkI I Q 1), Q, Z) := RU_I (sm_e_refl (tbr am (13 * ln) 77 5088) _) (I' := (rwkI I Q 1)) (fun _ => rfl) (fun _ => rfl) (Nat.le_refl _) hU
            refine go_callV (pc' := 92) rfl rfl rfl (Nat.le_of_ble_eq_true rfl) rfl (sm_o hS rfl) rfl rfl rfl (rt_boards_0 hr hS hW hWm (m := 13 * x) (by omega) (by omega) (hk3.trans (rwk_at.trans hb25)) (by omega)) (fun r h13 q14 => ?_)
            obtain ⟨rfl, hS15, hE16⟩ := q14
            rw [show nxb (jn (rwkI I Q 1) K) 0 = nxb I 0 from rwk_nb (Q := Q) (n := 1)] at hS15
            refine go_s (pc' := 93) (lo' := [some (.ref 62), some (.int 2)]) rfl rfl rfl rfl ?_
            refine go_s (pc' := 53) rfl rfl rfl rfl ?_
            by_cases hnb : nxb I 0 = -1
            · rw [if_pos hnb] at hS15
              have hc9 : rwkc I Q 1 = false := by
                unfold rwkc
                rw [hb25]
                simp [hnb]
              rw [rwk_n hc9] at C
              exact C _ (RA_u.mpr ⟨K, Y, am, ln, hS15, RU_I hE16 (fun _ => rfl) (fun _ => rfl) (Nat.le_refl _) hU12⟩)
            · rw [if_neg hnb] at hS15
              have hc9 : rwkc I Q 1 = true := by
                unfold rwkc
                rw [hQ, hb25]
                simp [hnb, show I 24 1 = -1 from c9, show ¬ I 0 (1 / 4) = 0 from c10, show ¬ I 0 (1 % 4) = 0 from c11]
              rw [rwk_y hc9, hb25] at C
              rw [jn_hi (c := 50) (by decide), jn_hi (c := 50) (by decide)] at hS15
              exact C _ (RA_u.mpr ⟨_, Y, am, ln, sm_jg hr hS15 (fun c j _ n1 n2 _ => (uI_c n2).trans (uI_c n1)), RU_bus (by decide) hU12 hln hE16 hQ h53 hx (fun i hi => by rw [uI_c (by decide), uI_j hi]) (fun i hi => by rw [uI_j hi, uI_c (by decide)]) rfl (fun c j _ hc => by
                simp only [uI]
                rw [if_neg (fun z => hc ⟨z.1, Or.inr z.2⟩), if_neg (fun z => hc ⟨z.1, Or.inl z.2⟩)]) (by rw [uI_j (by omega), uI_s, uI_c (by decide), uI_s]) (by rw [uI_s, uI_s])⟩)
    · skip
      refine go_s (pc' := 54) rfl rfl rfl rfl ?_
      refine go_s (pc' := 55) (st' := [.int 16, .int 1]) rfl rfl rfl rfl ?_
      refine go_icmpP (t' := 94) (pc' := 56) rfl rfl rfl (fun (c : 16 ≤ (1 : Int32)) => absurd c (by decide)) (fun _ => ?_)
      refine go_s (pc' := 57) rfl rfl rfl rfl ?_
      refine go_sget (pc' := 58) (v := .ref 74) hS rfl rfl rfl (by decide) rfl rfl ?_
      refine go_s (pc' := 59) rfl rfl rfl rfl ?_
      refine go_sald (pc' := 60) (q := 1) (v := .int (nI (q.length + 1))) hS rfl (tr_s hr (a := 74) rfl (by decide)) rfl rfl (by decide) (congrArg Value.int h55) rfl ?_
      refine go_ifP (t' := 92) (pc' := 61) rfl rfl rfl (fun (c : (nI (q.length + 1)) ≤ 0) => absurd c (nI_p1 (by omega))) (fun _ => ?_)
      refine go_s (pc' := 62) rfl rfl rfl rfl ?_
      refine go_sget (pc' := 63) (v := .ref am) hS rfl rfl rfl (by decide) rfl rfl ?_
      refine go_s (pc' := 64) rfl rfl rfl rfl ?_
      refine go_sget (pc' := 65) (v := .ref 72) hS rfl rfl rfl (by decide) rfl rfl ?_
      refine go_s (pc' := 66) rfl rfl rfl rfl ?_
      refine go_sald (pc' := 67) (q := 1) (v := .int (nI (13 * x))) hS rfl (tr_s hr (a := 72) rfl (by decide)) rfl rfl (by decide) (congrArg Value.int h53) rfl ?_
      refine go_s (pc' := 68) (st' := [.int 2, .int (nI (13 * x)), .ref am]) rfl rfl rfl rfl ?_
      refine go_nadd (pc' := 69) (a := (13 * x)) (b := 2) rfl rfl rfl rfl rfl ?_
      refine go_sald (pc' := 70) (q := ((13 * x) + 2)) (v := .int (I 24 1)) hS rfl (tr_ms hr (by omega)) rfl rfl (by omega) (congrArg Value.int (hk2.trans rwk_at)) rfl ?_
      refine go_s (pc' := 71) (st' := [.int (-1), .int (I 24 1)]) rfl rfl rfl rfl ?_
      refine go_icmpP (t' := 92) (pc' := 72) rfl rfl rfl (fun (c17 : ¬ (I 24 1) = (-1)) => ?_) (fun (c17' : ¬ ¬ (I 24 1) = (-1)) => ?_)
      · skip
        refine go_s (pc' := 93) (lo' := [some (.ref 62), some (.int 2)]) rfl rfl rfl rfl ?_
        refine go_s (pc' := 53) rfl rfl rfl rfl ?_
        have hc9 : rwkc I Q 1 = false := by
          unfold rwkc
          simp [show ¬ I 24 1 = -1 from c17]
        rw [rwk_n hc9] at C
        exact C _ hA
      · skip
        have c17 : (I 24 1) = (-1) := Decidable.not_not.mp c17'
        refine go_s (pc' := 73) rfl rfl rfl rfl ?_
        refine go_sget (pc' := 74) (v := .ref 63) hS rfl rfl rfl (by decide) rfl rfl ?_
        refine go_s (pc' := 75) rfl rfl rfl rfl ?_
        refine go_s (pc' := 76) (st' := [.int 4, .int 1, .ref 63]) rfl rfl rfl rfl ?_
        refine go_s (pc' := 77) (st' := [.int 0, .ref 63]) rfl rfl rfl rfl ?_
        refine go_sald (pc' := 78) (q := 0) (v := .int ((rwkI I Q 1) 0 0)) hS rfl (tr_s hr (a := 63) rfl (by decide)) rfl rfl (by decide) rfl rfl ?_
        refine go_ifP (t' := 92) (pc' := 79) rfl rfl rfl (fun (c18 : ((rwkI I Q 1) 0 0) = 0) => ?_) (fun (c18 : ¬ ((rwkI I Q 1) 0 0) = 0) => ?_)
        · skip
          refine go_s (pc' := 93) (lo' := [some (.ref 62), some (.int 2)]) rfl rfl rfl rfl ?_
          refine go_s (pc' := 53) rfl rfl rfl rfl ?_
          have hc9 : rwkc I Q 1 = false := by
            unfold rwkc
            simp [show I 0 (1 / 4) = 0 from c18]
          rw [rwk_n hc9] at C
          exact C _ hA
        · skip
          refine go_s (pc' := 80) rfl rfl rfl rfl ?_
          refine go_sget (pc' := 81) (v := .ref 63) hS rfl rfl rfl (by decide) rfl rfl ?_
          refine go_s (pc' := 82) rfl rfl rfl rfl ?_
          refine go_s (pc' := 83) (st' := [.int 4, .int 1, .ref 63]) rfl rfl rfl rfl ?_
          refine go_s (pc' := 84) (st' := [.int 1, .ref 63]) rfl rfl rfl rfl ?_
          refine go_sald (pc' := 85) (q := 1) (v := .int ((rwkI I Q 1) 0 1)) hS rfl (tr_s hr (a := 63) rfl (by decide)) rfl rfl (by decide) rfl rfl ?_
          refine go_ifP (t' := 92) (pc' := 86) rfl rfl rfl (fun (c19 : ((rwkI I Q 1) 0 1) = 0) => ?_) (fun (c19 : ¬ ((rwkI I Q 1) 0 1) = 0) => ?_)
          · skip
            refine go_s (pc' := 93) (lo' := [some (.ref 62), some (.int 2)]) rfl rfl rfl rfl ?_
            refine go_s (pc' := 53) rfl rfl rfl rfl ?_
            have hc9 : rwkc I Q 1 = false := by
              unfold rwkc
              simp [show I 0 (1 % 4) = 0 from c19]
            rw [rwk_n hc9] at C
            exact C _ hA
          · skip
            refine go_s (pc' := 87) rfl rfl rfl rfl ?_
            refine go_s (pc' := 88) rfl rfl rfl rfl ?_
            refine go_sget (pc' := 89) (v := .ref 72) hS rfl rfl rfl (by decide) rfl rfl ?_
            refine go_s (pc' := 90) rfl rfl rfl rfl ?_
            refine go_sald (pc' := 91) (q := 1) (v := .int (nI (13 * x))) hS rfl (tr_s hr (a := 72) rfl (by decide)) rfl rfl (by decide) (congrArg Value.int h53) rfl ?_
            have hU20 : RU w B R [] true h am ln K ((rwkI I Q 1), Q, Z) := RU_I (sm_e_refl (tbr am (13 * ln) 77 5088) _) (I' := (rwkI I Q 1)) (fun _ => rfl) (fun _ => rfl) (Nat.le_refl _) hU
            refine go_callV (pc' := 92) rfl rfl rfl (Nat.le_of_ble_eq_true rfl) rfl (sm_o hS rfl) rfl rfl rfl (rt_boards_1 hr hS hW hWm (m := 13 * x) (by omega) (by omega) (hk3.trans (rwk_at.trans hb25)) (by omega)) (fun r h21 q22 => ?_)
            obtain ⟨rfl, hS23, hE24⟩ := q22
            rw [show nxb (jn (rwkI I Q 1) K) 1 = nxb I 1 from rwk_nb (Q := Q) (n := 1)] at hS23
            refine go_s (pc' := 93) (lo' := [some (.ref 62), some (.int 2)]) rfl rfl rfl rfl ?_
            refine go_s (pc' := 53) rfl rfl rfl rfl ?_
            by_cases hnb : nxb I 1 = -1
            · rw [if_pos hnb] at hS23
              have hc9 : rwkc I Q 1 = false := by
                unfold rwkc
                rw [hb25]
                simp [hnb]
              rw [rwk_n hc9] at C
              exact C _ (RA_u.mpr ⟨K, Y, am, ln, hS23, RU_I hE24 (fun _ => rfl) (fun _ => rfl) (Nat.le_refl _) hU20⟩)
            · rw [if_neg hnb] at hS23
              have hc9 : rwkc I Q 1 = true := by
                unfold rwkc
                rw [hQ, hb25]
                simp [hnb, show I 24 1 = -1 from c17, show ¬ I 0 (1 / 4) = 0 from c18, show ¬ I 0 (1 % 4) = 0 from c19]
              rw [rwk_y hc9, hb25] at C
              rw [jn_hi (c := 50) (by decide), jn_hi (c := 50) (by decide)] at hS23
              exact C _ (RA_u.mpr ⟨_, Y, am, ln, sm_jg hr hS23 (fun c j _ n1 n2 _ => (uI_c n2).trans (uI_c n1)), RU_bus (by decide) hU20 hln hE24 hQ h53 hx (fun i hi => by rw [uI_c (by decide), uI_j hi]) (fun i hi => by rw [uI_j hi, uI_c (by decide)]) rfl (fun c j _ hc => by
                simp only [uI]
                rw [if_neg (fun z => hc ⟨z.1, Or.inr z.2⟩), if_neg (fun z => hc ⟨z.1, Or.inl z.2⟩)]) (by rw [uI_j (by omega), uI_s, uI_c (by decide), uI_s]) (by rw [uI_s, uI_s])⟩)
theorem stW_2 {w : Nat → Bool} {d B R : Nat} {h : am_Hp} {I : sm_I} {Q : mQ} {Z : mZ} {P : Option Value → am_Hp → Prop} (hA : RA w B R [] true h (rwkI I Q 2, Q, Z)) (hR : R + 0 < 40000) (htri : tri (I 25 2)) (hd : 2 ≤ d) (C : ∀ h', RA w B (R + 0) [] true h' (rwkI I Q 3, Q, Z) → am_Go (am_prog w) d am_c168 (some .int) 53 [some (.ref 62), some (.int 3)] [] h' P) : am_Go (am_prog w) d am_c168 (some .int) 53 [some (.ref 62), some (.int 2)] [] h P := by
  obtain ⟨K, Y, am, ln, hS, hU⟩ := RA_u.mp hA
  change sm (tbr am (13 * ln) 77 5088) h (jn (rwkI I Q 2) K) Y at hS
  obtain ⟨hW, hWm, -, -, hr, -⟩ := id hU.1
  have hln := RU_ln hU (by omega)
  cases hQ : Q 2 with
  | nil =>
    have h55 : K 55 2 = 0 := by
      have z := (RU_lk (l := 2) hU (by decide)).1
      rw [hQ] at z
      exact z
    refine go_s (pc' := 54) rfl rfl rfl rfl ?_
    refine go_s (pc' := 55) (st' := [.int 16, .int 2]) rfl rfl rfl rfl ?_
    refine go_icmpP (t' := 94) (pc' := 56) rfl rfl rfl (fun (c : 16 ≤ (2 : Int32)) => absurd c (by decide)) (fun _ => ?_)
    refine go_s (pc' := 57) rfl rfl rfl rfl ?_
    refine go_sget (pc' := 58) (v := .ref 74) hS rfl rfl rfl (by decide) rfl rfl ?_
    refine go_s (pc' := 59) rfl rfl rfl rfl ?_
    refine go_sald (pc' := 60) (q := 2) (v := .int 0) hS rfl (tr_s hr (a := 74) rfl (by decide)) rfl rfl (by decide) (congrArg Value.int h55) rfl ?_
    refine go_ifP (t' := 92) (pc' := 61) rfl rfl rfl (fun _ => ?_) (fun (c : ¬ ((0 : Int32) ≤ 0)) => absurd (by decide) c)
    refine go_s (pc' := 93) (lo' := [some (.ref 62), some (.int 3)]) rfl rfl rfl rfl ?_
    refine go_s (pc' := 53) rfl rfl rfl rfl ?_
    have hc9 : rwkc I Q 2 = false := by
      unfold rwkc
      rw [hQ]
      rfl
    rw [rwk_n hc9] at C
    exact C _ hA
  | cons m q =>
    obtain ⟨hk55, hle, hxx⟩ := RU_lk (l := 2) hU (by decide)
    obtain ⟨x, h53, hx, hk2, hk3, hk0, hk1⟩ := hxx m q hQ
    rw [hQ] at hk55 hle
    have h55 : K 55 2 = nI (q.length + 1) := hk55
    have hle2 : q.length + 1 ≤ ln := hle
    rcases htri with hb25 | hb25 | hb25
    · skip
      refine go_s (pc' := 54) rfl rfl rfl rfl ?_
      refine go_s (pc' := 55) (st' := [.int 16, .int 2]) rfl rfl rfl rfl ?_
      refine go_icmpP (t' := 94) (pc' := 56) rfl rfl rfl (fun (c : 16 ≤ (2 : Int32)) => absurd c (by decide)) (fun _ => ?_)
      refine go_s (pc' := 57) rfl rfl rfl rfl ?_
      refine go_sget (pc' := 58) (v := .ref 74) hS rfl rfl rfl (by decide) rfl rfl ?_
      refine go_s (pc' := 59) rfl rfl rfl rfl ?_
      refine go_sald (pc' := 60) (q := 2) (v := .int (nI (q.length + 1))) hS rfl (tr_s hr (a := 74) rfl (by decide)) rfl rfl (by decide) (congrArg Value.int h55) rfl ?_
      refine go_ifP (t' := 92) (pc' := 61) rfl rfl rfl (fun (c : (nI (q.length + 1)) ≤ 0) => absurd c (nI_p1 (by omega))) (fun _ => ?_)
      refine go_s (pc' := 62) rfl rfl rfl rfl ?_
      refine go_sget (pc' := 63) (v := .ref am) hS rfl rfl rfl (by decide) rfl rfl ?_
      refine go_s (pc' := 64) rfl rfl rfl rfl ?_
      refine go_sget (pc' := 65) (v := .ref 72) hS rfl rfl rfl (by decide) rfl rfl ?_
      refine go_s (pc' := 66) rfl rfl rfl rfl ?_
      refine go_sald (pc' := 67) (q := 2) (v := .int (nI (13 * x))) hS rfl (tr_s hr (a := 72) rfl (by decide)) rfl rfl (by decide) (congrArg Value.int h53) rfl ?_
      refine go_s (pc' := 68) (st' := [.int 2, .int (nI (13 * x)), .ref am]) rfl rfl rfl rfl ?_
      refine go_nadd (pc' := 69) (a := (13 * x)) (b := 2) rfl rfl rfl rfl rfl ?_
      refine go_sald (pc' := 70) (q := ((13 * x) + 2)) (v := .int (I 24 2)) hS rfl (tr_ms hr (by omega)) rfl rfl (by omega) (congrArg Value.int (hk2.trans rwk_at)) rfl ?_
      refine go_s (pc' := 71) (st' := [.int (-1), .int (I 24 2)]) rfl rfl rfl rfl ?_
      refine go_icmpP (t' := 92) (pc' := 72) rfl rfl rfl (fun (c1 : ¬ (I 24 2) = (-1)) => ?_) (fun (c1' : ¬ ¬ (I 24 2) = (-1)) => ?_)
      · skip
        refine go_s (pc' := 93) (lo' := [some (.ref 62), some (.int 3)]) rfl rfl rfl rfl ?_
        refine go_s (pc' := 53) rfl rfl rfl rfl ?_
        have hc9 : rwkc I Q 2 = false := by
          unfold rwkc
          simp [show ¬ I 24 2 = -1 from c1]
        rw [rwk_n hc9] at C
        exact C _ hA
      · skip
        have c1 : (I 24 2) = (-1) := Decidable.not_not.mp c1'
        refine go_s (pc' := 73) rfl rfl rfl rfl ?_
        refine go_sget (pc' := 74) (v := .ref 63) hS rfl rfl rfl (by decide) rfl rfl ?_
        refine go_s (pc' := 75) rfl rfl rfl rfl ?_
        refine go_s (pc' := 76) (st' := [.int 4, .int 2, .ref 63]) rfl rfl rfl rfl ?_
        refine go_s (pc' := 77) (st' := [.int 0, .ref 63]) rfl rfl rfl rfl ?_
        refine go_sald (pc' := 78) (q := 0) (v := .int ((rwkI I Q 2) 0 0)) hS rfl (tr_s hr (a := 63) rfl (by decide)) rfl rfl (by decide) rfl rfl ?_
        refine go_ifP (t' := 92) (pc' := 79) rfl rfl rfl (fun (c2 : ((rwkI I Q 2) 0 0) = 0) => ?_) (fun (c2 : ¬ ((rwkI I Q 2) 0 0) = 0) => ?_)
        · skip
          refine go_s (pc' := 93) (lo' := [some (.ref 62), some (.int 3)]) rfl rfl rfl rfl ?_
          refine go_s (pc' := 53) rfl rfl rfl rfl ?_
          have hc9 : rwkc I Q 2 = false := by
            unfold rwkc
            simp [show I 0 (2 / 4) = 0 from c2]
          rw [rwk_n hc9] at C
          exact C _ hA
        · skip
          refine go_s (pc' := 80) rfl rfl rfl rfl ?_
          refine go_sget (pc' := 81) (v := .ref 63) hS rfl rfl rfl (by decide) rfl rfl ?_
          refine go_s (pc' := 82) rfl rfl rfl rfl ?_
          refine go_s (pc' := 83) (st' := [.int 4, .int 2, .ref 63]) rfl rfl rfl rfl ?_
          refine go_s (pc' := 84) (st' := [.int 2, .ref 63]) rfl rfl rfl rfl ?_
          refine go_sald (pc' := 85) (q := 2) (v := .int ((rwkI I Q 2) 0 2)) hS rfl (tr_s hr (a := 63) rfl (by decide)) rfl rfl (by decide) rfl rfl ?_
          refine go_ifP (t' := 92) (pc' := 86) rfl rfl rfl (fun (c3 : ((rwkI I Q 2) 0 2) = 0) => ?_) (fun (c3 : ¬ ((rwkI I Q 2) 0 2) = 0) => ?_)
          · skip
            refine go_s (pc' := 93) (lo' := [some (.ref 62), some (.int 3)]) rfl rfl rfl rfl ?_
            refine go_s (pc' := 53) rfl rfl rfl rfl ?_
            have hc9 : rwkc I Q 2 = false := by
              unfold rwkc
              simp [show I 0 (2 % 4) = 0 from c3]
            rw [rwk_n hc9] at C
            exact C _ hA
          · skip
            refine go_s (pc' := 87) rfl rfl rfl rfl ?_
            refine go_s (pc' := 88) rfl rfl rfl rfl ?_
            refine go_sget (pc' := 89) (v := .ref 72) hS rfl rfl rfl (by decide) rfl rfl ?_
            refine go_s (pc' := 90) rfl rfl rfl rfl ?_
            refine go_sald (pc' := 91) (q := 2) (v := .int (nI (13 * x))) hS rfl (tr_s hr (a := 72) rfl (by decide)) rfl rfl (by decide) (congrArg Value.int h53) rfl ?_
            have hU4 : RU w B R [] true h am ln K ((rwkI I Q 2), Q, Z) := RU_I (sm_e_refl (tbr am (13 * ln) 77 5088) _) (I' := (rwkI I Q 2)) (fun _ => rfl) (fun _ => rfl) (Nat.le_refl _) hU
            refine go_callV (pc' := 92) rfl rfl rfl (Nat.le_of_ble_eq_true rfl) rfl (sm_o hS rfl) rfl rfl rfl (rt_boards_m hr hS hW hWm (m := 13 * x) (by omega) (by omega) (hk3.trans (rwk_at.trans hb25)) (by omega)) (fun r h5 q6 => ?_)
            obtain ⟨rfl, hS7, hE8⟩ := q6
            rw [show nxb (jn (rwkI I Q 2) K) (-1) = nxb I (-1) from rwk_nb (Q := Q) (n := 2)] at hS7
            refine go_s (pc' := 93) (lo' := [some (.ref 62), some (.int 3)]) rfl rfl rfl rfl ?_
            refine go_s (pc' := 53) rfl rfl rfl rfl ?_
            by_cases hnb : nxb I (-1) = -1
            · rw [if_pos hnb] at hS7
              have hc9 : rwkc I Q 2 = false := by
                unfold rwkc
                rw [hb25]
                simp [hnb]
              rw [rwk_n hc9] at C
              exact C _ (RA_u.mpr ⟨K, Y, am, ln, hS7, RU_I hE8 (fun _ => rfl) (fun _ => rfl) (Nat.le_refl _) hU4⟩)
            · rw [if_neg hnb] at hS7
              have hc9 : rwkc I Q 2 = true := by
                unfold rwkc
                rw [hQ, hb25]
                simp [hnb, show I 24 2 = -1 from c1, show ¬ I 0 (2 / 4) = 0 from c2, show ¬ I 0 (2 % 4) = 0 from c3]
              rw [rwk_y hc9, hb25] at C
              rw [jn_hi (c := 50) (by decide), jn_hi (c := 50) (by decide)] at hS7
              exact C _ (RA_u.mpr ⟨_, Y, am, ln, sm_jg hr hS7 (fun c j _ n1 n2 _ => (uI_c n2).trans (uI_c n1)), RU_bus (by decide) hU4 hln hE8 hQ h53 hx (fun i hi => by rw [uI_c (by decide), uI_j hi]) (fun i hi => by rw [uI_j hi, uI_c (by decide)]) rfl (fun c j _ hc => by
                simp only [uI]
                rw [if_neg (fun z => hc ⟨z.1, Or.inr z.2⟩), if_neg (fun z => hc ⟨z.1, Or.inl z.2⟩)]) (by rw [uI_j (by omega), uI_s, uI_c (by decide), uI_s]) (by rw [uI_s, uI_s])⟩)
    · skip
      refine go_s (pc' := 54) rfl rfl rfl rfl ?_
      refine go_s (pc' := 55) (st' := [.int 16, .int 2]) rfl rfl rfl rfl ?_
      refine go_icmpP (t' := 94) (pc' := 56) rfl rfl rfl (fun (c : 16 ≤ (2 : Int32)) => absurd c (by decide)) (fun _ => ?_)
      refine go_s (pc' := 57) rfl rfl rfl rfl ?_
      refine go_sget (pc' := 58) (v := .ref 74) hS rfl rfl rfl (by decide) rfl rfl ?_
      refine go_s (pc' := 59) rfl rfl rfl rfl ?_
      refine go_sald (pc' := 60) (q := 2) (v := .int (nI (q.length + 1))) hS rfl (tr_s hr (a := 74) rfl (by decide)) rfl rfl (by decide) (congrArg Value.int h55) rfl ?_
      refine go_ifP (t' := 92) (pc' := 61) rfl rfl rfl (fun (c : (nI (q.length + 1)) ≤ 0) => absurd c (nI_p1 (by omega))) (fun _ => ?_)
      refine go_s (pc' := 62) rfl rfl rfl rfl ?_
      refine go_sget (pc' := 63) (v := .ref am) hS rfl rfl rfl (by decide) rfl rfl ?_
      refine go_s (pc' := 64) rfl rfl rfl rfl ?_
      refine go_sget (pc' := 65) (v := .ref 72) hS rfl rfl rfl (by decide) rfl rfl ?_
      refine go_s (pc' := 66) rfl rfl rfl rfl ?_
      refine go_sald (pc' := 67) (q := 2) (v := .int (nI (13 * x))) hS rfl (tr_s hr (a := 72) rfl (by decide)) rfl rfl (by decide) (congrArg Value.int h53) rfl ?_
      refine go_s (pc' := 68) (st' := [.int 2, .int (nI (13 * x)), .ref am]) rfl rfl rfl rfl ?_
      refine go_nadd (pc' := 69) (a := (13 * x)) (b := 2) rfl rfl rfl rfl rfl ?_
      refine go_sald (pc' := 70) (q := ((13 * x) + 2)) (v := .int (I 24 2)) hS rfl (tr_ms hr (by omega)) rfl rfl (by omega) (congrArg Value.int (hk2.trans rwk_at)) rfl ?_
      refine go_s (pc' := 71) (st' := [.int (-1), .int (I 24 2)]) rfl rfl rfl rfl ?_
      refine go_icmpP (t' := 92) (pc' := 72) rfl rfl rfl (fun (c9 : ¬ (I 24 2) = (-1)) => ?_) (fun (c9' : ¬ ¬ (I 24 2) = (-1)) => ?_)
      · skip
        refine go_s (pc' := 93) (lo' := [some (.ref 62), some (.int 3)]) rfl rfl rfl rfl ?_
        refine go_s (pc' := 53) rfl rfl rfl rfl ?_
        have hc9 : rwkc I Q 2 = false := by
          unfold rwkc
          simp [show ¬ I 24 2 = -1 from c9]
        rw [rwk_n hc9] at C
        exact C _ hA
      · skip
        have c9 : (I 24 2) = (-1) := Decidable.not_not.mp c9'
        refine go_s (pc' := 73) rfl rfl rfl rfl ?_
        refine go_sget (pc' := 74) (v := .ref 63) hS rfl rfl rfl (by decide) rfl rfl ?_
        refine go_s (pc' := 75) rfl rfl rfl rfl ?_
        refine go_s (pc' := 76) (st' := [.int 4, .int 2, .ref 63]) rfl rfl rfl rfl ?_
        refine go_s (pc' := 77) (st' := [.int 0, .ref 63]) rfl rfl rfl rfl ?_
        refine go_sald (pc' := 78) (q := 0) (v := .int ((rwkI I Q 2) 0 0)) hS rfl (tr_s hr (a := 63) rfl (by decide)) rfl rfl (by decide) rfl rfl ?_
        refine go_ifP (t' := 92) (pc' := 79) rfl rfl rfl (fun (c10 : ((rwkI I Q 2) 0 0) = 0) => ?_) (fun (c10 : ¬ ((rwkI I Q 2) 0 0) = 0) => ?_)
        · skip
          refine go_s (pc' := 93) (lo' := [some (.ref 62), some (.int 3)]) rfl rfl rfl rfl ?_
          refine go_s (pc' := 53) rfl rfl rfl rfl ?_
          have hc9 : rwkc I Q 2 = false := by
            unfold rwkc
            simp [show I 0 (2 / 4) = 0 from c10]
          rw [rwk_n hc9] at C
          exact C _ hA
        · skip
          refine go_s (pc' := 80) rfl rfl rfl rfl ?_
          refine go_sget (pc' := 81) (v := .ref 63) hS rfl rfl rfl (by decide) rfl rfl ?_
          refine go_s (pc' := 82) rfl rfl rfl rfl ?_
          refine go_s (pc' := 83) (st' := [.int 4, .int 2, .ref 63]) rfl rfl rfl rfl ?_
          refine go_s (pc' := 84) (st' := [.int 2, .ref 63]) rfl rfl rfl rfl ?_
          refine go_sald (pc' := 85) (q := 2) (v := .int ((rwkI I Q 2) 0 2)) hS rfl (tr_s hr (a := 63) rfl (by decide)) rfl rfl (by decide) rfl rfl ?_
          refine go_ifP (t' := 92) (pc' := 86) rfl rfl rfl (fun (c11 : ((rwkI I Q 2) 0 2) = 0) => ?_) (fun (c11 : ¬ ((rwkI I Q 2) 0 2) = 0) => ?_)
          · skip
            refine go_s (pc' := 93) (lo' := [some (.ref 62), some (.int 3)]) rfl rfl rfl rfl ?_
            refine go_s (pc' := 53) rfl rfl rfl rfl ?_
            have hc9 : rwkc I Q 2 = false := by
              unfold rwkc
              simp [show I 0 (2 % 4) = 0 from c11]
            rw [rwk_n hc9] at C
            exact C _ hA
          · skip
            refine go_s (pc' := 87) rfl rfl rfl rfl ?_
            refine go_s (pc' := 88) rfl rfl rfl rfl ?_
            refine go_sget (pc' := 89) (v := .ref 72) hS rfl rfl rfl (by decide) rfl rfl ?_
            refine go_s (pc' := 90) rfl rfl rfl rfl ?_
            refine go_sald (pc' := 91) (q := 2) (v := .int (nI (13 * x))) hS rfl (tr_s hr (a := 72) rfl (by decide)) rfl rfl (by decide) (congrArg Value.int h53) rfl ?_
            have hU12 : RU w B R [] true h am ln K ((rwkI I Q 2), Q, Z) := RU_I (sm_e_refl (tbr am (13 * ln) 77 5088) _) (I' := (rwkI I Q 2)) (fun _ => rfl) (fun _ => rfl) (Nat.le_refl _) hU
            refine go_callV (pc' := 92) rfl rfl rfl (Nat.le_of_ble_eq_true rfl) rfl (sm_o hS rfl) rfl rfl rfl (rt_boards_0 hr hS hW hWm (m := 13 * x) (by omega) (by omega) (hk3.trans (rwk_at.trans hb25)) (by omega)) (fun r h13 q14 => ?_)
            obtain ⟨rfl, hS15, hE16⟩ := q14
            rw [show nxb (jn (rwkI I Q 2) K) 0 = nxb I 0 from rwk_nb (Q := Q) (n := 2)] at hS15
            refine go_s (pc' := 93) (lo' := [some (.ref 62), some (.int 3)]) rfl rfl rfl rfl ?_
            refine go_s (pc' := 53) rfl rfl rfl rfl ?_
            by_cases hnb : nxb I 0 = -1
            · rw [if_pos hnb] at hS15
              have hc9 : rwkc I Q 2 = false := by
                unfold rwkc
                rw [hb25]
                simp [hnb]
              rw [rwk_n hc9] at C
              exact C _ (RA_u.mpr ⟨K, Y, am, ln, hS15, RU_I hE16 (fun _ => rfl) (fun _ => rfl) (Nat.le_refl _) hU12⟩)
            · rw [if_neg hnb] at hS15
              have hc9 : rwkc I Q 2 = true := by
                unfold rwkc
                rw [hQ, hb25]
                simp [hnb, show I 24 2 = -1 from c9, show ¬ I 0 (2 / 4) = 0 from c10, show ¬ I 0 (2 % 4) = 0 from c11]
              rw [rwk_y hc9, hb25] at C
              rw [jn_hi (c := 50) (by decide), jn_hi (c := 50) (by decide)] at hS15
              exact C _ (RA_u.mpr ⟨_, Y, am, ln, sm_jg hr hS15 (fun c j _ n1 n2 _ => (uI_c n2).trans (uI_c n1)), RU_bus (by decide) hU12 hln hE16 hQ h53 hx (fun i hi => by rw [uI_c (by decide), uI_j hi]) (fun i hi => by rw [uI_j hi, uI_c (by decide)]) rfl (fun c j _ hc => by
                simp only [uI]
                rw [if_neg (fun z => hc ⟨z.1, Or.inr z.2⟩), if_neg (fun z => hc ⟨z.1, Or.inl z.2⟩)]) (by rw [uI_j (by omega), uI_s, uI_c (by decide), uI_s]) (by rw [uI_s, uI_s])⟩)
    · skip
      refine go_s (pc' := 54) rfl rfl rfl rfl ?_
      refine go_s (pc' := 55) (st' := [.int 16, .int 2]) rfl rfl rfl rfl ?_
      refine go_icmpP (t' := 94) (pc' := 56) rfl rfl rfl (fun (c : 16 ≤ (2 : Int32)) => absurd c (by decide)) (fun _ => ?_)
      refine go_s (pc' := 57) rfl rfl rfl rfl ?_
      refine go_sget (pc' := 58) (v := .ref 74) hS rfl rfl rfl (by decide) rfl rfl ?_
      refine go_s (pc' := 59) rfl rfl rfl rfl ?_
      refine go_sald (pc' := 60) (q := 2) (v := .int (nI (q.length + 1))) hS rfl (tr_s hr (a := 74) rfl (by decide)) rfl rfl (by decide) (congrArg Value.int h55) rfl ?_
      refine go_ifP (t' := 92) (pc' := 61) rfl rfl rfl (fun (c : (nI (q.length + 1)) ≤ 0) => absurd c (nI_p1 (by omega))) (fun _ => ?_)
      refine go_s (pc' := 62) rfl rfl rfl rfl ?_
      refine go_sget (pc' := 63) (v := .ref am) hS rfl rfl rfl (by decide) rfl rfl ?_
      refine go_s (pc' := 64) rfl rfl rfl rfl ?_
      refine go_sget (pc' := 65) (v := .ref 72) hS rfl rfl rfl (by decide) rfl rfl ?_
      refine go_s (pc' := 66) rfl rfl rfl rfl ?_
      refine go_sald (pc' := 67) (q := 2) (v := .int (nI (13 * x))) hS rfl (tr_s hr (a := 72) rfl (by decide)) rfl rfl (by decide) (congrArg Value.int h53) rfl ?_
      refine go_s (pc' := 68) (st' := [.int 2, .int (nI (13 * x)), .ref am]) rfl rfl rfl rfl ?_
      refine go_nadd (pc' := 69) (a := (13 * x)) (b := 2) rfl rfl rfl rfl rfl ?_
      refine go_sald (pc' := 70) (q := ((13 * x) + 2)) (v := .int (I 24 2)) hS rfl (tr_ms hr (by omega)) rfl rfl (by omega) (congrArg Value.int (hk2.trans rwk_at)) rfl ?_
      refine go_s (pc' := 71) (st' := [.int (-1), .int (I 24 2)]) rfl rfl rfl rfl ?_
      refine go_icmpP (t' := 92) (pc' := 72) rfl rfl rfl (fun (c17 : ¬ (I 24 2) = (-1)) => ?_) (fun (c17' : ¬ ¬ (I 24 2) = (-1)) => ?_)
      · skip
        refine go_s (pc' := 93) (lo' := [some (.ref 62), some (.int 3)]) rfl rfl rfl rfl ?_
        refine go_s (pc' := 53) rfl rfl rfl rfl ?_
        have hc9 : rwkc I Q 2 = false := by
          unfold rwkc
          simp [show ¬ I 24 2 = -1 from c17]
        rw [rwk_n hc9] at C
        exact C _ hA
      · skip
        have c17 : (I 24 2) = (-1) := Decidable.not_not.mp c17'
        refine go_s (pc' := 73) rfl rfl rfl rfl ?_
        refine go_sget (pc' := 74) (v := .ref 63) hS rfl rfl rfl (by decide) rfl rfl ?_
        refine go_s (pc' := 75) rfl rfl rfl rfl ?_
        refine go_s (pc' := 76) (st' := [.int 4, .int 2, .ref 63]) rfl rfl rfl rfl ?_
        refine go_s (pc' := 77) (st' := [.int 0, .ref 63]) rfl rfl rfl rfl ?_
        refine go_sald (pc' := 78) (q := 0) (v := .int ((rwkI I Q 2) 0 0)) hS rfl (tr_s hr (a := 63) rfl (by decide)) rfl rfl (by decide) rfl rfl ?_
        refine go_ifP (t' := 92) (pc' := 79) rfl rfl rfl (fun (c18 : ((rwkI I Q 2) 0 0) = 0) => ?_) (fun (c18 : ¬ ((rwkI I Q 2) 0 0) = 0) => ?_)
        · skip
          refine go_s (pc' := 93) (lo' := [some (.ref 62), some (.int 3)]) rfl rfl rfl rfl ?_
          refine go_s (pc' := 53) rfl rfl rfl rfl ?_
          have hc9 : rwkc I Q 2 = false := by
            unfold rwkc
            simp [show I 0 (2 / 4) = 0 from c18]
          rw [rwk_n hc9] at C
          exact C _ hA
        · skip
          refine go_s (pc' := 80) rfl rfl rfl rfl ?_
          refine go_sget (pc' := 81) (v := .ref 63) hS rfl rfl rfl (by decide) rfl rfl ?_
          refine go_s (pc' := 82) rfl rfl rfl rfl ?_
          refine go_s (pc' := 83) (st' := [.int 4, .int 2, .ref 63]) rfl rfl rfl rfl ?_
          refine go_s (pc' := 84) (st' := [.int 2, .ref 63]) rfl rfl rfl rfl ?_
          refine go_sald (pc' := 85) (q := 2) (v := .int ((rwkI I Q 2) 0 2)) hS rfl (tr_s hr (a := 63) rfl (by decide)) rfl rfl (by decide) rfl rfl ?_
          refine go_ifP (t' := 92) (pc' := 86) rfl rfl rfl (fun (c19 : ((rwkI I Q 2) 0 2) = 0) => ?_) (fun (c19 : ¬ ((rwkI I Q 2) 0 2) = 0) => ?_)
          · skip
            refine go_s (pc' := 93) (lo' := [some (.ref 62), some (.int 3)]) rfl rfl rfl rfl ?_
            refine go_s (pc' := 53) rfl rfl rfl rfl ?_
            have hc9 : rwkc I Q 2 = false := by
              unfold rwkc
              simp [show I 0 (2 % 4) = 0 from c19]
            rw [rwk_n hc9] at C
            exact C _ hA
          · skip
            refine go_s (pc' := 87) rfl rfl rfl rfl ?_
            refine go_s (pc' := 88) rfl rfl rfl rfl ?_
            refine go_sget (pc' := 89) (v := .ref 72) hS rfl rfl rfl (by decide) rfl rfl ?_
            refine go_s (pc' := 90) rfl rfl rfl rfl ?_
            refine go_sald (pc' := 91) (q := 2) (v := .int (nI (13 * x))) hS rfl (tr_s hr (a := 72) rfl (by decide)) rfl rfl (by decide) (congrArg Value.int h53) rfl ?_
            have hU20 : RU w B R [] true h am ln K ((rwkI I Q 2), Q, Z) := RU_I (sm_e_refl (tbr am (13 * ln) 77 5088) _) (I' := (rwkI I Q 2)) (fun _ => rfl) (fun _ => rfl) (Nat.le_refl _) hU
            refine go_callV (pc' := 92) rfl rfl rfl (Nat.le_of_ble_eq_true rfl) rfl (sm_o hS rfl) rfl rfl rfl (rt_boards_1 hr hS hW hWm (m := 13 * x) (by omega) (by omega) (hk3.trans (rwk_at.trans hb25)) (by omega)) (fun r h21 q22 => ?_)
            obtain ⟨rfl, hS23, hE24⟩ := q22
            rw [show nxb (jn (rwkI I Q 2) K) 1 = nxb I 1 from rwk_nb (Q := Q) (n := 2)] at hS23
            refine go_s (pc' := 93) (lo' := [some (.ref 62), some (.int 3)]) rfl rfl rfl rfl ?_
            refine go_s (pc' := 53) rfl rfl rfl rfl ?_
            by_cases hnb : nxb I 1 = -1
            · rw [if_pos hnb] at hS23
              have hc9 : rwkc I Q 2 = false := by
                unfold rwkc
                rw [hb25]
                simp [hnb]
              rw [rwk_n hc9] at C
              exact C _ (RA_u.mpr ⟨K, Y, am, ln, hS23, RU_I hE24 (fun _ => rfl) (fun _ => rfl) (Nat.le_refl _) hU20⟩)
            · rw [if_neg hnb] at hS23
              have hc9 : rwkc I Q 2 = true := by
                unfold rwkc
                rw [hQ, hb25]
                simp [hnb, show I 24 2 = -1 from c17, show ¬ I 0 (2 / 4) = 0 from c18, show ¬ I 0 (2 % 4) = 0 from c19]
              rw [rwk_y hc9, hb25] at C
              rw [jn_hi (c := 50) (by decide), jn_hi (c := 50) (by decide)] at hS23
              exact C _ (RA_u.mpr ⟨_, Y, am, ln, sm_jg hr hS23 (fun c j _ n1 n2 _ => (uI_c n2).trans (uI_c n1)), RU_bus (by decide) hU20 hln hE24 hQ h53 hx (fun i hi => by rw [uI_c (by decide), uI_j hi]) (fun i hi => by rw [uI_j hi, uI_c (by decide)]) rfl (fun c j _ hc => by
                simp only [uI]
                rw [if_neg (fun z => hc ⟨z.1, Or.inr z.2⟩), if_neg (fun z => hc ⟨z.1, Or.inl z.2⟩)]) (by rw [uI_j (by omega), uI_s, uI_c (by decide), uI_s]) (by rw [uI_s, uI_s])⟩)
theorem stW_3 {w : Nat → Bool} {d B R : Nat} {h : am_Hp} {I : sm_I} {Q : mQ} {Z : mZ} {P : Option Value → am_Hp → Prop} (hA : RA w B R [] true h (rwkI I Q 3, Q, Z)) (hR : R + 0 < 40000) (htri : tri (I 25 3)) (hd : 2 ≤ d) (C : ∀ h', RA w B (R + 0) [] true h' (rwkI I Q 4, Q, Z) → am_Go (am_prog w) d am_c168 (some .int) 53 [some (.ref 62), some (.int 4)] [] h' P) : am_Go (am_prog w) d am_c168 (some .int) 53 [some (.ref 62), some (.int 3)] [] h P := by
  obtain ⟨K, Y, am, ln, hS, hU⟩ := RA_u.mp hA
  change sm (tbr am (13 * ln) 77 5088) h (jn (rwkI I Q 3) K) Y at hS
  obtain ⟨hW, hWm, -, -, hr, -⟩ := id hU.1
  have hln := RU_ln hU (by omega)
  cases hQ : Q 3 with
  | nil =>
    have h55 : K 55 3 = 0 := by
      have z := (RU_lk (l := 3) hU (by decide)).1
      rw [hQ] at z
      exact z
    refine go_s (pc' := 54) rfl rfl rfl rfl ?_
    refine go_s (pc' := 55) (st' := [.int 16, .int 3]) rfl rfl rfl rfl ?_
    refine go_icmpP (t' := 94) (pc' := 56) rfl rfl rfl (fun (c : 16 ≤ (3 : Int32)) => absurd c (by decide)) (fun _ => ?_)
    refine go_s (pc' := 57) rfl rfl rfl rfl ?_
    refine go_sget (pc' := 58) (v := .ref 74) hS rfl rfl rfl (by decide) rfl rfl ?_
    refine go_s (pc' := 59) rfl rfl rfl rfl ?_
    refine go_sald (pc' := 60) (q := 3) (v := .int 0) hS rfl (tr_s hr (a := 74) rfl (by decide)) rfl rfl (by decide) (congrArg Value.int h55) rfl ?_
    refine go_ifP (t' := 92) (pc' := 61) rfl rfl rfl (fun _ => ?_) (fun (c : ¬ ((0 : Int32) ≤ 0)) => absurd (by decide) c)
    refine go_s (pc' := 93) (lo' := [some (.ref 62), some (.int 4)]) rfl rfl rfl rfl ?_
    refine go_s (pc' := 53) rfl rfl rfl rfl ?_
    have hc9 : rwkc I Q 3 = false := by
      unfold rwkc
      rw [hQ]
      rfl
    rw [rwk_n hc9] at C
    exact C _ hA
  | cons m q =>
    obtain ⟨hk55, hle, hxx⟩ := RU_lk (l := 3) hU (by decide)
    obtain ⟨x, h53, hx, hk2, hk3, hk0, hk1⟩ := hxx m q hQ
    rw [hQ] at hk55 hle
    have h55 : K 55 3 = nI (q.length + 1) := hk55
    have hle2 : q.length + 1 ≤ ln := hle
    rcases htri with hb25 | hb25 | hb25
    · skip
      refine go_s (pc' := 54) rfl rfl rfl rfl ?_
      refine go_s (pc' := 55) (st' := [.int 16, .int 3]) rfl rfl rfl rfl ?_
      refine go_icmpP (t' := 94) (pc' := 56) rfl rfl rfl (fun (c : 16 ≤ (3 : Int32)) => absurd c (by decide)) (fun _ => ?_)
      refine go_s (pc' := 57) rfl rfl rfl rfl ?_
      refine go_sget (pc' := 58) (v := .ref 74) hS rfl rfl rfl (by decide) rfl rfl ?_
      refine go_s (pc' := 59) rfl rfl rfl rfl ?_
      refine go_sald (pc' := 60) (q := 3) (v := .int (nI (q.length + 1))) hS rfl (tr_s hr (a := 74) rfl (by decide)) rfl rfl (by decide) (congrArg Value.int h55) rfl ?_
      refine go_ifP (t' := 92) (pc' := 61) rfl rfl rfl (fun (c : (nI (q.length + 1)) ≤ 0) => absurd c (nI_p1 (by omega))) (fun _ => ?_)
      refine go_s (pc' := 62) rfl rfl rfl rfl ?_
      refine go_sget (pc' := 63) (v := .ref am) hS rfl rfl rfl (by decide) rfl rfl ?_
      refine go_s (pc' := 64) rfl rfl rfl rfl ?_
      refine go_sget (pc' := 65) (v := .ref 72) hS rfl rfl rfl (by decide) rfl rfl ?_
      refine go_s (pc' := 66) rfl rfl rfl rfl ?_
      refine go_sald (pc' := 67) (q := 3) (v := .int (nI (13 * x))) hS rfl (tr_s hr (a := 72) rfl (by decide)) rfl rfl (by decide) (congrArg Value.int h53) rfl ?_
      refine go_s (pc' := 68) (st' := [.int 2, .int (nI (13 * x)), .ref am]) rfl rfl rfl rfl ?_
      refine go_nadd (pc' := 69) (a := (13 * x)) (b := 2) rfl rfl rfl rfl rfl ?_
      refine go_sald (pc' := 70) (q := ((13 * x) + 2)) (v := .int (I 24 3)) hS rfl (tr_ms hr (by omega)) rfl rfl (by omega) (congrArg Value.int (hk2.trans rwk_at)) rfl ?_
      refine go_s (pc' := 71) (st' := [.int (-1), .int (I 24 3)]) rfl rfl rfl rfl ?_
      refine go_icmpP (t' := 92) (pc' := 72) rfl rfl rfl (fun (c1 : ¬ (I 24 3) = (-1)) => ?_) (fun (c1' : ¬ ¬ (I 24 3) = (-1)) => ?_)
      · skip
        refine go_s (pc' := 93) (lo' := [some (.ref 62), some (.int 4)]) rfl rfl rfl rfl ?_
        refine go_s (pc' := 53) rfl rfl rfl rfl ?_
        have hc9 : rwkc I Q 3 = false := by
          unfold rwkc
          simp [show ¬ I 24 3 = -1 from c1]
        rw [rwk_n hc9] at C
        exact C _ hA
      · skip
        have c1 : (I 24 3) = (-1) := Decidable.not_not.mp c1'
        refine go_s (pc' := 73) rfl rfl rfl rfl ?_
        refine go_sget (pc' := 74) (v := .ref 63) hS rfl rfl rfl (by decide) rfl rfl ?_
        refine go_s (pc' := 75) rfl rfl rfl rfl ?_
        refine go_s (pc' := 76) (st' := [.int 4, .int 3, .ref 63]) rfl rfl rfl rfl ?_
        refine go_s (pc' := 77) (st' := [.int 0, .ref 63]) rfl rfl rfl rfl ?_
        refine go_sald (pc' := 78) (q := 0) (v := .int ((rwkI I Q 3) 0 0)) hS rfl (tr_s hr (a := 63) rfl (by decide)) rfl rfl (by decide) rfl rfl ?_
        refine go_ifP (t' := 92) (pc' := 79) rfl rfl rfl (fun (c2 : ((rwkI I Q 3) 0 0) = 0) => ?_) (fun (c2 : ¬ ((rwkI I Q 3) 0 0) = 0) => ?_)
        · skip
          refine go_s (pc' := 93) (lo' := [some (.ref 62), some (.int 4)]) rfl rfl rfl rfl ?_
          refine go_s (pc' := 53) rfl rfl rfl rfl ?_
          have hc9 : rwkc I Q 3 = false := by
            unfold rwkc
            simp [show I 0 (3 / 4) = 0 from c2]
          rw [rwk_n hc9] at C
          exact C _ hA
        · skip
          refine go_s (pc' := 80) rfl rfl rfl rfl ?_
          refine go_sget (pc' := 81) (v := .ref 63) hS rfl rfl rfl (by decide) rfl rfl ?_
          refine go_s (pc' := 82) rfl rfl rfl rfl ?_
          refine go_s (pc' := 83) (st' := [.int 4, .int 3, .ref 63]) rfl rfl rfl rfl ?_
          refine go_s (pc' := 84) (st' := [.int 3, .ref 63]) rfl rfl rfl rfl ?_
          refine go_sald (pc' := 85) (q := 3) (v := .int ((rwkI I Q 3) 0 3)) hS rfl (tr_s hr (a := 63) rfl (by decide)) rfl rfl (by decide) rfl rfl ?_
          refine go_ifP (t' := 92) (pc' := 86) rfl rfl rfl (fun (c3 : ((rwkI I Q 3) 0 3) = 0) => ?_) (fun (c3 : ¬ ((rwkI I Q 3) 0 3) = 0) => ?_)
          · skip
            refine go_s (pc' := 93) (lo' := [some (.ref 62), some (.int 4)]) rfl rfl rfl rfl ?_
            refine go_s (pc' := 53) rfl rfl rfl rfl ?_
            have hc9 : rwkc I Q 3 = false := by
              unfold rwkc
              simp [show I 0 (3 % 4) = 0 from c3]
            rw [rwk_n hc9] at C
            exact C _ hA
          · skip
            refine go_s (pc' := 87) rfl rfl rfl rfl ?_
            refine go_s (pc' := 88) rfl rfl rfl rfl ?_
            refine go_sget (pc' := 89) (v := .ref 72) hS rfl rfl rfl (by decide) rfl rfl ?_
            refine go_s (pc' := 90) rfl rfl rfl rfl ?_
            refine go_sald (pc' := 91) (q := 3) (v := .int (nI (13 * x))) hS rfl (tr_s hr (a := 72) rfl (by decide)) rfl rfl (by decide) (congrArg Value.int h53) rfl ?_
            have hU4 : RU w B R [] true h am ln K ((rwkI I Q 3), Q, Z) := RU_I (sm_e_refl (tbr am (13 * ln) 77 5088) _) (I' := (rwkI I Q 3)) (fun _ => rfl) (fun _ => rfl) (Nat.le_refl _) hU
            refine go_callV (pc' := 92) rfl rfl rfl (Nat.le_of_ble_eq_true rfl) rfl (sm_o hS rfl) rfl rfl rfl (rt_boards_m hr hS hW hWm (m := 13 * x) (by omega) (by omega) (hk3.trans (rwk_at.trans hb25)) (by omega)) (fun r h5 q6 => ?_)
            obtain ⟨rfl, hS7, hE8⟩ := q6
            rw [show nxb (jn (rwkI I Q 3) K) (-1) = nxb I (-1) from rwk_nb (Q := Q) (n := 3)] at hS7
            refine go_s (pc' := 93) (lo' := [some (.ref 62), some (.int 4)]) rfl rfl rfl rfl ?_
            refine go_s (pc' := 53) rfl rfl rfl rfl ?_
            by_cases hnb : nxb I (-1) = -1
            · rw [if_pos hnb] at hS7
              have hc9 : rwkc I Q 3 = false := by
                unfold rwkc
                rw [hb25]
                simp [hnb]
              rw [rwk_n hc9] at C
              exact C _ (RA_u.mpr ⟨K, Y, am, ln, hS7, RU_I hE8 (fun _ => rfl) (fun _ => rfl) (Nat.le_refl _) hU4⟩)
            · rw [if_neg hnb] at hS7
              have hc9 : rwkc I Q 3 = true := by
                unfold rwkc
                rw [hQ, hb25]
                simp [hnb, show I 24 3 = -1 from c1, show ¬ I 0 (3 / 4) = 0 from c2, show ¬ I 0 (3 % 4) = 0 from c3]
              rw [rwk_y hc9, hb25] at C
              rw [jn_hi (c := 50) (by decide), jn_hi (c := 50) (by decide)] at hS7
              exact C _ (RA_u.mpr ⟨_, Y, am, ln, sm_jg hr hS7 (fun c j _ n1 n2 _ => (uI_c n2).trans (uI_c n1)), RU_bus (by decide) hU4 hln hE8 hQ h53 hx (fun i hi => by rw [uI_c (by decide), uI_j hi]) (fun i hi => by rw [uI_j hi, uI_c (by decide)]) rfl (fun c j _ hc => by
                simp only [uI]
                rw [if_neg (fun z => hc ⟨z.1, Or.inr z.2⟩), if_neg (fun z => hc ⟨z.1, Or.inl z.2⟩)]) (by rw [uI_j (by omega), uI_s, uI_c (by decide), uI_s]) (by rw [uI_s, uI_s])⟩)
    · skip
      refine go_s (pc' := 54) rfl rfl rfl rfl ?_
      refine go_s (pc' := 55) (st' := [.int 16, .int 3]) rfl rfl rfl rfl ?_
      refine go_icmpP (t' := 94) (pc' := 56) rfl rfl rfl (fun (c : 16 ≤ (3 : Int32)) => absurd c (by decide)) (fun _ => ?_)
      refine go_s (pc' := 57) rfl rfl rfl rfl ?_
      refine go_sget (pc' := 58) (v := .ref 74) hS rfl rfl rfl (by decide) rfl rfl ?_
      refine go_s (pc' := 59) rfl rfl rfl rfl ?_
      refine go_sald (pc' := 60) (q := 3) (v := .int (nI (q.length + 1))) hS rfl (tr_s hr (a := 74) rfl (by decide)) rfl rfl (by decide) (congrArg Value.int h55) rfl ?_
      refine go_ifP (t' := 92) (pc' := 61) rfl rfl rfl (fun (c : (nI (q.length + 1)) ≤ 0) => absurd c (nI_p1 (by omega))) (fun _ => ?_)
      refine go_s (pc' := 62) rfl rfl rfl rfl ?_
      refine go_sget (pc' := 63) (v := .ref am) hS rfl rfl rfl (by decide) rfl rfl ?_
      refine go_s (pc' := 64) rfl rfl rfl rfl ?_
      refine go_sget (pc' := 65) (v := .ref 72) hS rfl rfl rfl (by decide) rfl rfl ?_
      refine go_s (pc' := 66) rfl rfl rfl rfl ?_
      refine go_sald (pc' := 67) (q := 3) (v := .int (nI (13 * x))) hS rfl (tr_s hr (a := 72) rfl (by decide)) rfl rfl (by decide) (congrArg Value.int h53) rfl ?_
      refine go_s (pc' := 68) (st' := [.int 2, .int (nI (13 * x)), .ref am]) rfl rfl rfl rfl ?_
      refine go_nadd (pc' := 69) (a := (13 * x)) (b := 2) rfl rfl rfl rfl rfl ?_
      refine go_sald (pc' := 70) (q := ((13 * x) + 2)) (v := .int (I 24 3)) hS rfl (tr_ms hr (by omega)) rfl rfl (by omega) (congrArg Value.int (hk2.trans rwk_at)) rfl ?_
      refine go_s (pc' := 71) (st' := [.int (-1), .int (I 24 3)]) rfl rfl rfl rfl ?_
      refine go_icmpP (t' := 92) (pc' := 72) rfl rfl rfl (fun (c9 : ¬ (I 24 3) = (-1)) => ?_) (fun (c9' : ¬ ¬ (I 24 3) = (-1)) => ?_)
      · skip
        refine go_s (pc' := 93) (lo' := [some (.ref 62), some (.int 4)]) rfl rfl rfl rfl ?_
        refine go_s (pc' := 53) rfl rfl rfl rfl ?_
        have hc9 : rwkc I Q 3 = false := by
          unfold rwkc
          simp [show ¬ I 24 3 = -1 from c9]
        rw [rwk_n hc9] at C
        exact C _ hA
      · skip
        have c9 : (I 24 3) = (-1) := Decidable.not_not.mp c9'
        refine go_s (pc' := 73) rfl rfl rfl rfl ?_
        refine go_sget (pc' := 74) (v := .ref 63) hS rfl rfl rfl (by decide) rfl rfl ?_
        refine go_s (pc' := 75) rfl rfl rfl rfl ?_
        refine go_s (pc' := 76) (st' := [.int 4, .int 3, .ref 63]) rfl rfl rfl rfl ?_
        refine go_s (pc' := 77) (st' := [.int 0, .ref 63]) rfl rfl rfl rfl ?_
        refine go_sald (pc' := 78) (q := 0) (v := .int ((rwkI I Q 3) 0 0)) hS rfl (tr_s hr (a := 63) rfl (by decide)) rfl rfl (by decide) rfl rfl ?_
        refine go_ifP (t' := 92) (pc' := 79) rfl rfl rfl (fun (c10 : ((rwkI I Q 3) 0 0) = 0) => ?_) (fun (c10 : ¬ ((rwkI I Q 3) 0 0) = 0) => ?_)
        · skip
          refine go_s (pc' := 93) (lo' := [some (.ref 62), some (.int 4)]) rfl rfl rfl rfl ?_
          refine go_s (pc' := 53) rfl rfl rfl rfl ?_
          have hc9 : rwkc I Q 3 = false := by
            unfold rwkc
            simp [show I 0 (3 / 4) = 0 from c10]
          rw [rwk_n hc9] at C
          exact C _ hA
        · skip
          refine go_s (pc' := 80) rfl rfl rfl rfl ?_
          refine go_sget (pc' := 81) (v := .ref 63) hS rfl rfl rfl (by decide) rfl rfl ?_
          refine go_s (pc' := 82) rfl rfl rfl rfl ?_
          refine go_s (pc' := 83) (st' := [.int 4, .int 3, .ref 63]) rfl rfl rfl rfl ?_
          refine go_s (pc' := 84) (st' := [.int 3, .ref 63]) rfl rfl rfl rfl ?_
          refine go_sald (pc' := 85) (q := 3) (v := .int ((rwkI I Q 3) 0 3)) hS rfl (tr_s hr (a := 63) rfl (by decide)) rfl rfl (by decide) rfl rfl ?_
          refine go_ifP (t' := 92) (pc' := 86) rfl rfl rfl (fun (c11 : ((rwkI I Q 3) 0 3) = 0) => ?_) (fun (c11 : ¬ ((rwkI I Q 3) 0 3) = 0) => ?_)
          · skip
            refine go_s (pc' := 93) (lo' := [some (.ref 62), some (.int 4)]) rfl rfl rfl rfl ?_
            refine go_s (pc' := 53) rfl rfl rfl rfl ?_
            have hc9 : rwkc I Q 3 = false := by
              unfold rwkc
              simp [show I 0 (3 % 4) = 0 from c11]
            rw [rwk_n hc9] at C
            exact C _ hA
          · skip
            refine go_s (pc' := 87) rfl rfl rfl rfl ?_
            refine go_s (pc' := 88) rfl rfl rfl rfl ?_
            refine go_sget (pc' := 89) (v := .ref 72) hS rfl rfl rfl (by decide) rfl rfl ?_
            refine go_s (pc' := 90) rfl rfl rfl rfl ?_
            refine go_sald (pc' := 91) (q := 3) (v := .int (nI (13 * x))) hS rfl (tr_s hr (a := 72) rfl (by decide)) rfl rfl (by decide) (congrArg Value.int h53) rfl ?_
            have hU12 : RU w B R [] true h am ln K ((rwkI I Q 3), Q, Z) := RU_I (sm_e_refl (tbr am (13 * ln) 77 5088) _) (I' := (rwkI I Q 3)) (fun _ => rfl) (fun _ => rfl) (Nat.le_refl _) hU
            refine go_callV (pc' := 92) rfl rfl rfl (Nat.le_of_ble_eq_true rfl) rfl (sm_o hS rfl) rfl rfl rfl (rt_boards_0 hr hS hW hWm (m := 13 * x) (by omega) (by omega) (hk3.trans (rwk_at.trans hb25)) (by omega)) (fun r h13 q14 => ?_)
            obtain ⟨rfl, hS15, hE16⟩ := q14
            rw [show nxb (jn (rwkI I Q 3) K) 0 = nxb I 0 from rwk_nb (Q := Q) (n := 3)] at hS15
            refine go_s (pc' := 93) (lo' := [some (.ref 62), some (.int 4)]) rfl rfl rfl rfl ?_
            refine go_s (pc' := 53) rfl rfl rfl rfl ?_
            by_cases hnb : nxb I 0 = -1
            · rw [if_pos hnb] at hS15
              have hc9 : rwkc I Q 3 = false := by
                unfold rwkc
                rw [hb25]
                simp [hnb]
              rw [rwk_n hc9] at C
              exact C _ (RA_u.mpr ⟨K, Y, am, ln, hS15, RU_I hE16 (fun _ => rfl) (fun _ => rfl) (Nat.le_refl _) hU12⟩)
            · rw [if_neg hnb] at hS15
              have hc9 : rwkc I Q 3 = true := by
                unfold rwkc
                rw [hQ, hb25]
                simp [hnb, show I 24 3 = -1 from c9, show ¬ I 0 (3 / 4) = 0 from c10, show ¬ I 0 (3 % 4) = 0 from c11]
              rw [rwk_y hc9, hb25] at C
              rw [jn_hi (c := 50) (by decide), jn_hi (c := 50) (by decide)] at hS15
              exact C _ (RA_u.mpr ⟨_, Y, am, ln, sm_jg hr hS15 (fun c j _ n1 n2 _ => (uI_c n2).trans (uI_c n1)), RU_bus (by decide) hU12 hln hE16 hQ h53 hx (fun i hi => by rw [uI_c (by decide), uI_j hi]) (fun i hi => by rw [uI_j hi, uI_c (by decide)]) rfl (fun c j _ hc => by
                simp only [uI]
                rw [if_neg (fun z => hc ⟨z.1, Or.inr z.2⟩), if_neg (fun z => hc ⟨z.1, Or.inl z.2⟩)]) (by rw [uI_j (by omega), uI_s, uI_c (by decide), uI_s]) (by rw [uI_s, uI_s])⟩)
    · skip
      refine go_s (pc' := 54) rfl rfl rfl rfl ?_
      refine go_s (pc' := 55) (st' := [.int 16, .int 3]) rfl rfl rfl rfl ?_
      refine go_icmpP (t' := 94) (pc' := 56) rfl rfl rfl (fun (c : 16 ≤ (3 : Int32)) => absurd c (by decide)) (fun _ => ?_)
      refine go_s (pc' := 57) rfl rfl rfl rfl ?_
      refine go_sget (pc' := 58) (v := .ref 74) hS rfl rfl rfl (by decide) rfl rfl ?_
      refine go_s (pc' := 59) rfl rfl rfl rfl ?_
      refine go_sald (pc' := 60) (q := 3) (v := .int (nI (q.length + 1))) hS rfl (tr_s hr (a := 74) rfl (by decide)) rfl rfl (by decide) (congrArg Value.int h55) rfl ?_
      refine go_ifP (t' := 92) (pc' := 61) rfl rfl rfl (fun (c : (nI (q.length + 1)) ≤ 0) => absurd c (nI_p1 (by omega))) (fun _ => ?_)
      refine go_s (pc' := 62) rfl rfl rfl rfl ?_
      refine go_sget (pc' := 63) (v := .ref am) hS rfl rfl rfl (by decide) rfl rfl ?_
      refine go_s (pc' := 64) rfl rfl rfl rfl ?_
      refine go_sget (pc' := 65) (v := .ref 72) hS rfl rfl rfl (by decide) rfl rfl ?_
      refine go_s (pc' := 66) rfl rfl rfl rfl ?_
      refine go_sald (pc' := 67) (q := 3) (v := .int (nI (13 * x))) hS rfl (tr_s hr (a := 72) rfl (by decide)) rfl rfl (by decide) (congrArg Value.int h53) rfl ?_
      refine go_s (pc' := 68) (st' := [.int 2, .int (nI (13 * x)), .ref am]) rfl rfl rfl rfl ?_
      refine go_nadd (pc' := 69) (a := (13 * x)) (b := 2) rfl rfl rfl rfl rfl ?_
      refine go_sald (pc' := 70) (q := ((13 * x) + 2)) (v := .int (I 24 3)) hS rfl (tr_ms hr (by omega)) rfl rfl (by omega) (congrArg Value.int (hk2.trans rwk_at)) rfl ?_
      refine go_s (pc' := 71) (st' := [.int (-1), .int (I 24 3)]) rfl rfl rfl rfl ?_
      refine go_icmpP (t' := 92) (pc' := 72) rfl rfl rfl (fun (c17 : ¬ (I 24 3) = (-1)) => ?_) (fun (c17' : ¬ ¬ (I 24 3) = (-1)) => ?_)
      · skip
        refine go_s (pc' := 93) (lo' := [some (.ref 62), some (.int 4)]) rfl rfl rfl rfl ?_
        refine go_s (pc' := 53) rfl rfl rfl rfl ?_
        have hc9 : rwkc I Q 3 = false := by
          unfold rwkc
          simp [show ¬ I 24 3 = -1 from c17]
        rw [rwk_n hc9] at C
        exact C _ hA
      · skip
        have c17 : (I 24 3) = (-1) := Decidable.not_not.mp c17'
        refine go_s (pc' := 73) rfl rfl rfl rfl ?_
        refine go_sget (pc' := 74) (v := .ref 63) hS rfl rfl rfl (by decide) rfl rfl ?_
        refine go_s (pc' := 75) rfl rfl rfl rfl ?_
        refine go_s (pc' := 76) (st' := [.int 4, .int 3, .ref 63]) rfl rfl rfl rfl ?_
        refine go_s (pc' := 77) (st' := [.int 0, .ref 63]) rfl rfl rfl rfl ?_
        refine go_sald (pc' := 78) (q := 0) (v := .int ((rwkI I Q 3) 0 0)) hS rfl (tr_s hr (a := 63) rfl (by decide)) rfl rfl (by decide) rfl rfl ?_
        refine go_ifP (t' := 92) (pc' := 79) rfl rfl rfl (fun (c18 : ((rwkI I Q 3) 0 0) = 0) => ?_) (fun (c18 : ¬ ((rwkI I Q 3) 0 0) = 0) => ?_)
        · skip
          refine go_s (pc' := 93) (lo' := [some (.ref 62), some (.int 4)]) rfl rfl rfl rfl ?_
          refine go_s (pc' := 53) rfl rfl rfl rfl ?_
          have hc9 : rwkc I Q 3 = false := by
            unfold rwkc
            simp [show I 0 (3 / 4) = 0 from c18]
          rw [rwk_n hc9] at C
          exact C _ hA
        · skip
          refine go_s (pc' := 80) rfl rfl rfl rfl ?_
          refine go_sget (pc' := 81) (v := .ref 63) hS rfl rfl rfl (by decide) rfl rfl ?_
          refine go_s (pc' := 82) rfl rfl rfl rfl ?_
          refine go_s (pc' := 83) (st' := [.int 4, .int 3, .ref 63]) rfl rfl rfl rfl ?_
          refine go_s (pc' := 84) (st' := [.int 3, .ref 63]) rfl rfl rfl rfl ?_
          refine go_sald (pc' := 85) (q := 3) (v := .int ((rwkI I Q 3) 0 3)) hS rfl (tr_s hr (a := 63) rfl (by decide)) rfl rfl (by decide) rfl rfl ?_
          refine go_ifP (t' := 92) (pc' := 86) rfl rfl rfl (fun (c19 : ((rwkI I Q 3) 0 3) = 0) => ?_) (fun (c19 : ¬ ((rwkI I Q 3) 0 3) = 0) => ?_)
          · skip
            refine go_s (pc' := 93) (lo' := [some (.ref 62), some (.int 4)]) rfl rfl rfl rfl ?_
            refine go_s (pc' := 53) rfl rfl rfl rfl ?_
            have hc9 : rwkc I Q 3 = false := by
              unfold rwkc
              simp [show I 0 (3 % 4) = 0 from c19]
            rw [rwk_n hc9] at C
            exact C _ hA
          · skip
            refine go_s (pc' := 87) rfl rfl rfl rfl ?_
            refine go_s (pc' := 88) rfl rfl rfl rfl ?_
            refine go_sget (pc' := 89) (v := .ref 72) hS rfl rfl rfl (by decide) rfl rfl ?_
            refine go_s (pc' := 90) rfl rfl rfl rfl ?_
            refine go_sald (pc' := 91) (q := 3) (v := .int (nI (13 * x))) hS rfl (tr_s hr (a := 72) rfl (by decide)) rfl rfl (by decide) (congrArg Value.int h53) rfl ?_
            have hU20 : RU w B R [] true h am ln K ((rwkI I Q 3), Q, Z) := RU_I (sm_e_refl (tbr am (13 * ln) 77 5088) _) (I' := (rwkI I Q 3)) (fun _ => rfl) (fun _ => rfl) (Nat.le_refl _) hU
            refine go_callV (pc' := 92) rfl rfl rfl (Nat.le_of_ble_eq_true rfl) rfl (sm_o hS rfl) rfl rfl rfl (rt_boards_1 hr hS hW hWm (m := 13 * x) (by omega) (by omega) (hk3.trans (rwk_at.trans hb25)) (by omega)) (fun r h21 q22 => ?_)
            obtain ⟨rfl, hS23, hE24⟩ := q22
            rw [show nxb (jn (rwkI I Q 3) K) 1 = nxb I 1 from rwk_nb (Q := Q) (n := 3)] at hS23
            refine go_s (pc' := 93) (lo' := [some (.ref 62), some (.int 4)]) rfl rfl rfl rfl ?_
            refine go_s (pc' := 53) rfl rfl rfl rfl ?_
            by_cases hnb : nxb I 1 = -1
            · rw [if_pos hnb] at hS23
              have hc9 : rwkc I Q 3 = false := by
                unfold rwkc
                rw [hb25]
                simp [hnb]
              rw [rwk_n hc9] at C
              exact C _ (RA_u.mpr ⟨K, Y, am, ln, hS23, RU_I hE24 (fun _ => rfl) (fun _ => rfl) (Nat.le_refl _) hU20⟩)
            · rw [if_neg hnb] at hS23
              have hc9 : rwkc I Q 3 = true := by
                unfold rwkc
                rw [hQ, hb25]
                simp [hnb, show I 24 3 = -1 from c17, show ¬ I 0 (3 / 4) = 0 from c18, show ¬ I 0 (3 % 4) = 0 from c19]
              rw [rwk_y hc9, hb25] at C
              rw [jn_hi (c := 50) (by decide), jn_hi (c := 50) (by decide)] at hS23
              exact C _ (RA_u.mpr ⟨_, Y, am, ln, sm_jg hr hS23 (fun c j _ n1 n2 _ => (uI_c n2).trans (uI_c n1)), RU_bus (by decide) hU20 hln hE24 hQ h53 hx (fun i hi => by rw [uI_c (by decide), uI_j hi]) (fun i hi => by rw [uI_j hi, uI_c (by decide)]) rfl (fun c j _ hc => by
                simp only [uI]
                rw [if_neg (fun z => hc ⟨z.1, Or.inr z.2⟩), if_neg (fun z => hc ⟨z.1, Or.inl z.2⟩)]) (by rw [uI_j (by omega), uI_s, uI_c (by decide), uI_s]) (by rw [uI_s, uI_s])⟩)
theorem stW_4 {w : Nat → Bool} {d B R : Nat} {h : am_Hp} {I : sm_I} {Q : mQ} {Z : mZ} {P : Option Value → am_Hp → Prop} (hA : RA w B R [] true h (rwkI I Q 4, Q, Z)) (hR : R + 0 < 40000) (htri : tri (I 25 4)) (hd : 2 ≤ d) (C : ∀ h', RA w B (R + 0) [] true h' (rwkI I Q 5, Q, Z) → am_Go (am_prog w) d am_c168 (some .int) 53 [some (.ref 62), some (.int 5)] [] h' P) : am_Go (am_prog w) d am_c168 (some .int) 53 [some (.ref 62), some (.int 4)] [] h P := by
  obtain ⟨K, Y, am, ln, hS, hU⟩ := RA_u.mp hA
  change sm (tbr am (13 * ln) 77 5088) h (jn (rwkI I Q 4) K) Y at hS
  obtain ⟨hW, hWm, -, -, hr, -⟩ := id hU.1
  have hln := RU_ln hU (by omega)
  cases hQ : Q 4 with
  | nil =>
    have h55 : K 55 4 = 0 := by
      have z := (RU_lk (l := 4) hU (by decide)).1
      rw [hQ] at z
      exact z
    refine go_s (pc' := 54) rfl rfl rfl rfl ?_
    refine go_s (pc' := 55) (st' := [.int 16, .int 4]) rfl rfl rfl rfl ?_
    refine go_icmpP (t' := 94) (pc' := 56) rfl rfl rfl (fun (c : 16 ≤ (4 : Int32)) => absurd c (by decide)) (fun _ => ?_)
    refine go_s (pc' := 57) rfl rfl rfl rfl ?_
    refine go_sget (pc' := 58) (v := .ref 74) hS rfl rfl rfl (by decide) rfl rfl ?_
    refine go_s (pc' := 59) rfl rfl rfl rfl ?_
    refine go_sald (pc' := 60) (q := 4) (v := .int 0) hS rfl (tr_s hr (a := 74) rfl (by decide)) rfl rfl (by decide) (congrArg Value.int h55) rfl ?_
    refine go_ifP (t' := 92) (pc' := 61) rfl rfl rfl (fun _ => ?_) (fun (c : ¬ ((0 : Int32) ≤ 0)) => absurd (by decide) c)
    refine go_s (pc' := 93) (lo' := [some (.ref 62), some (.int 5)]) rfl rfl rfl rfl ?_
    refine go_s (pc' := 53) rfl rfl rfl rfl ?_
    have hc9 : rwkc I Q 4 = false := by
      unfold rwkc
      rw [hQ]
      rfl
    rw [rwk_n hc9] at C
    exact C _ hA
  | cons m q =>
    obtain ⟨hk55, hle, hxx⟩ := RU_lk (l := 4) hU (by decide)
    obtain ⟨x, h53, hx, hk2, hk3, hk0, hk1⟩ := hxx m q hQ
    rw [hQ] at hk55 hle
    have h55 : K 55 4 = nI (q.length + 1) := hk55
    have hle2 : q.length + 1 ≤ ln := hle
    rcases htri with hb25 | hb25 | hb25
    · skip
      refine go_s (pc' := 54) rfl rfl rfl rfl ?_
      refine go_s (pc' := 55) (st' := [.int 16, .int 4]) rfl rfl rfl rfl ?_
      refine go_icmpP (t' := 94) (pc' := 56) rfl rfl rfl (fun (c : 16 ≤ (4 : Int32)) => absurd c (by decide)) (fun _ => ?_)
      refine go_s (pc' := 57) rfl rfl rfl rfl ?_
      refine go_sget (pc' := 58) (v := .ref 74) hS rfl rfl rfl (by decide) rfl rfl ?_
      refine go_s (pc' := 59) rfl rfl rfl rfl ?_
      refine go_sald (pc' := 60) (q := 4) (v := .int (nI (q.length + 1))) hS rfl (tr_s hr (a := 74) rfl (by decide)) rfl rfl (by decide) (congrArg Value.int h55) rfl ?_
      refine go_ifP (t' := 92) (pc' := 61) rfl rfl rfl (fun (c : (nI (q.length + 1)) ≤ 0) => absurd c (nI_p1 (by omega))) (fun _ => ?_)
      refine go_s (pc' := 62) rfl rfl rfl rfl ?_
      refine go_sget (pc' := 63) (v := .ref am) hS rfl rfl rfl (by decide) rfl rfl ?_
      refine go_s (pc' := 64) rfl rfl rfl rfl ?_
      refine go_sget (pc' := 65) (v := .ref 72) hS rfl rfl rfl (by decide) rfl rfl ?_
      refine go_s (pc' := 66) rfl rfl rfl rfl ?_
      refine go_sald (pc' := 67) (q := 4) (v := .int (nI (13 * x))) hS rfl (tr_s hr (a := 72) rfl (by decide)) rfl rfl (by decide) (congrArg Value.int h53) rfl ?_
      refine go_s (pc' := 68) (st' := [.int 2, .int (nI (13 * x)), .ref am]) rfl rfl rfl rfl ?_
      refine go_nadd (pc' := 69) (a := (13 * x)) (b := 2) rfl rfl rfl rfl rfl ?_
      refine go_sald (pc' := 70) (q := ((13 * x) + 2)) (v := .int (I 24 4)) hS rfl (tr_ms hr (by omega)) rfl rfl (by omega) (congrArg Value.int (hk2.trans rwk_at)) rfl ?_
      refine go_s (pc' := 71) (st' := [.int (-1), .int (I 24 4)]) rfl rfl rfl rfl ?_
      refine go_icmpP (t' := 92) (pc' := 72) rfl rfl rfl (fun (c1 : ¬ (I 24 4) = (-1)) => ?_) (fun (c1' : ¬ ¬ (I 24 4) = (-1)) => ?_)
      · skip
        refine go_s (pc' := 93) (lo' := [some (.ref 62), some (.int 5)]) rfl rfl rfl rfl ?_
        refine go_s (pc' := 53) rfl rfl rfl rfl ?_
        have hc9 : rwkc I Q 4 = false := by
          unfold rwkc
          simp [show ¬ I 24 4 = -1 from c1]
        rw [rwk_n hc9] at C
        exact C _ hA
      · skip
        have c1 : (I 24 4) = (-1) := Decidable.not_not.mp c1'
        refine go_s (pc' := 73) rfl rfl rfl rfl ?_
        refine go_sget (pc' := 74) (v := .ref 63) hS rfl rfl rfl (by decide) rfl rfl ?_
        refine go_s (pc' := 75) rfl rfl rfl rfl ?_
        refine go_s (pc' := 76) (st' := [.int 4, .int 4, .ref 63]) rfl rfl rfl rfl ?_
        refine go_s (pc' := 77) (st' := [.int 1, .ref 63]) rfl rfl rfl rfl ?_
        refine go_sald (pc' := 78) (q := 1) (v := .int ((rwkI I Q 4) 0 1)) hS rfl (tr_s hr (a := 63) rfl (by decide)) rfl rfl (by decide) rfl rfl ?_
        refine go_ifP (t' := 92) (pc' := 79) rfl rfl rfl (fun (c2 : ((rwkI I Q 4) 0 1) = 0) => ?_) (fun (c2 : ¬ ((rwkI I Q 4) 0 1) = 0) => ?_)
        · skip
          refine go_s (pc' := 93) (lo' := [some (.ref 62), some (.int 5)]) rfl rfl rfl rfl ?_
          refine go_s (pc' := 53) rfl rfl rfl rfl ?_
          have hc9 : rwkc I Q 4 = false := by
            unfold rwkc
            simp [show I 0 (4 / 4) = 0 from c2]
          rw [rwk_n hc9] at C
          exact C _ hA
        · skip
          refine go_s (pc' := 80) rfl rfl rfl rfl ?_
          refine go_sget (pc' := 81) (v := .ref 63) hS rfl rfl rfl (by decide) rfl rfl ?_
          refine go_s (pc' := 82) rfl rfl rfl rfl ?_
          refine go_s (pc' := 83) (st' := [.int 4, .int 4, .ref 63]) rfl rfl rfl rfl ?_
          refine go_s (pc' := 84) (st' := [.int 0, .ref 63]) rfl rfl rfl rfl ?_
          refine go_sald (pc' := 85) (q := 0) (v := .int ((rwkI I Q 4) 0 0)) hS rfl (tr_s hr (a := 63) rfl (by decide)) rfl rfl (by decide) rfl rfl ?_
          refine go_ifP (t' := 92) (pc' := 86) rfl rfl rfl (fun (c3 : ((rwkI I Q 4) 0 0) = 0) => ?_) (fun (c3 : ¬ ((rwkI I Q 4) 0 0) = 0) => ?_)
          · skip
            refine go_s (pc' := 93) (lo' := [some (.ref 62), some (.int 5)]) rfl rfl rfl rfl ?_
            refine go_s (pc' := 53) rfl rfl rfl rfl ?_
            have hc9 : rwkc I Q 4 = false := by
              unfold rwkc
              simp [show I 0 (4 % 4) = 0 from c3]
            rw [rwk_n hc9] at C
            exact C _ hA
          · skip
            refine go_s (pc' := 87) rfl rfl rfl rfl ?_
            refine go_s (pc' := 88) rfl rfl rfl rfl ?_
            refine go_sget (pc' := 89) (v := .ref 72) hS rfl rfl rfl (by decide) rfl rfl ?_
            refine go_s (pc' := 90) rfl rfl rfl rfl ?_
            refine go_sald (pc' := 91) (q := 4) (v := .int (nI (13 * x))) hS rfl (tr_s hr (a := 72) rfl (by decide)) rfl rfl (by decide) (congrArg Value.int h53) rfl ?_
            have hU4 : RU w B R [] true h am ln K ((rwkI I Q 4), Q, Z) := RU_I (sm_e_refl (tbr am (13 * ln) 77 5088) _) (I' := (rwkI I Q 4)) (fun _ => rfl) (fun _ => rfl) (Nat.le_refl _) hU
            refine go_callV (pc' := 92) rfl rfl rfl (Nat.le_of_ble_eq_true rfl) rfl (sm_o hS rfl) rfl rfl rfl (rt_boards_m hr hS hW hWm (m := 13 * x) (by omega) (by omega) (hk3.trans (rwk_at.trans hb25)) (by omega)) (fun r h5 q6 => ?_)
            obtain ⟨rfl, hS7, hE8⟩ := q6
            rw [show nxb (jn (rwkI I Q 4) K) (-1) = nxb I (-1) from rwk_nb (Q := Q) (n := 4)] at hS7
            refine go_s (pc' := 93) (lo' := [some (.ref 62), some (.int 5)]) rfl rfl rfl rfl ?_
            refine go_s (pc' := 53) rfl rfl rfl rfl ?_
            by_cases hnb : nxb I (-1) = -1
            · rw [if_pos hnb] at hS7
              have hc9 : rwkc I Q 4 = false := by
                unfold rwkc
                rw [hb25]
                simp [hnb]
              rw [rwk_n hc9] at C
              exact C _ (RA_u.mpr ⟨K, Y, am, ln, hS7, RU_I hE8 (fun _ => rfl) (fun _ => rfl) (Nat.le_refl _) hU4⟩)
            · rw [if_neg hnb] at hS7
              have hc9 : rwkc I Q 4 = true := by
                unfold rwkc
                rw [hQ, hb25]
                simp [hnb, show I 24 4 = -1 from c1, show ¬ I 0 (4 / 4) = 0 from c2, show ¬ I 0 (4 % 4) = 0 from c3]
              rw [rwk_y hc9, hb25] at C
              rw [jn_hi (c := 50) (by decide), jn_hi (c := 50) (by decide)] at hS7
              exact C _ (RA_u.mpr ⟨_, Y, am, ln, sm_jg hr hS7 (fun c j _ n1 n2 _ => (uI_c n2).trans (uI_c n1)), RU_bus (by decide) hU4 hln hE8 hQ h53 hx (fun i hi => by rw [uI_c (by decide), uI_j hi]) (fun i hi => by rw [uI_j hi, uI_c (by decide)]) rfl (fun c j _ hc => by
                simp only [uI]
                rw [if_neg (fun z => hc ⟨z.1, Or.inr z.2⟩), if_neg (fun z => hc ⟨z.1, Or.inl z.2⟩)]) (by rw [uI_j (by omega), uI_s, uI_c (by decide), uI_s]) (by rw [uI_s, uI_s])⟩)
    · skip
      refine go_s (pc' := 54) rfl rfl rfl rfl ?_
      refine go_s (pc' := 55) (st' := [.int 16, .int 4]) rfl rfl rfl rfl ?_
      refine go_icmpP (t' := 94) (pc' := 56) rfl rfl rfl (fun (c : 16 ≤ (4 : Int32)) => absurd c (by decide)) (fun _ => ?_)
      refine go_s (pc' := 57) rfl rfl rfl rfl ?_
      refine go_sget (pc' := 58) (v := .ref 74) hS rfl rfl rfl (by decide) rfl rfl ?_
      refine go_s (pc' := 59) rfl rfl rfl rfl ?_
      refine go_sald (pc' := 60) (q := 4) (v := .int (nI (q.length + 1))) hS rfl (tr_s hr (a := 74) rfl (by decide)) rfl rfl (by decide) (congrArg Value.int h55) rfl ?_
      refine go_ifP (t' := 92) (pc' := 61) rfl rfl rfl (fun (c : (nI (q.length + 1)) ≤ 0) => absurd c (nI_p1 (by omega))) (fun _ => ?_)
      refine go_s (pc' := 62) rfl rfl rfl rfl ?_
      refine go_sget (pc' := 63) (v := .ref am) hS rfl rfl rfl (by decide) rfl rfl ?_
      refine go_s (pc' := 64) rfl rfl rfl rfl ?_
      refine go_sget (pc' := 65) (v := .ref 72) hS rfl rfl rfl (by decide) rfl rfl ?_
      refine go_s (pc' := 66) rfl rfl rfl rfl ?_
      refine go_sald (pc' := 67) (q := 4) (v := .int (nI (13 * x))) hS rfl (tr_s hr (a := 72) rfl (by decide)) rfl rfl (by decide) (congrArg Value.int h53) rfl ?_
      refine go_s (pc' := 68) (st' := [.int 2, .int (nI (13 * x)), .ref am]) rfl rfl rfl rfl ?_
      refine go_nadd (pc' := 69) (a := (13 * x)) (b := 2) rfl rfl rfl rfl rfl ?_
      refine go_sald (pc' := 70) (q := ((13 * x) + 2)) (v := .int (I 24 4)) hS rfl (tr_ms hr (by omega)) rfl rfl (by omega) (congrArg Value.int (hk2.trans rwk_at)) rfl ?_
      refine go_s (pc' := 71) (st' := [.int (-1), .int (I 24 4)]) rfl rfl rfl rfl ?_
      refine go_icmpP (t' := 92) (pc' := 72) rfl rfl rfl (fun (c9 : ¬ (I 24 4) = (-1)) => ?_) (fun (c9' : ¬ ¬ (I 24 4) = (-1)) => ?_)
      · skip
        refine go_s (pc' := 93) (lo' := [some (.ref 62), some (.int 5)]) rfl rfl rfl rfl ?_
        refine go_s (pc' := 53) rfl rfl rfl rfl ?_
        have hc9 : rwkc I Q 4 = false := by
          unfold rwkc
          simp [show ¬ I 24 4 = -1 from c9]
        rw [rwk_n hc9] at C
        exact C _ hA
      · skip
        have c9 : (I 24 4) = (-1) := Decidable.not_not.mp c9'
        refine go_s (pc' := 73) rfl rfl rfl rfl ?_
        refine go_sget (pc' := 74) (v := .ref 63) hS rfl rfl rfl (by decide) rfl rfl ?_
        refine go_s (pc' := 75) rfl rfl rfl rfl ?_
        refine go_s (pc' := 76) (st' := [.int 4, .int 4, .ref 63]) rfl rfl rfl rfl ?_
        refine go_s (pc' := 77) (st' := [.int 1, .ref 63]) rfl rfl rfl rfl ?_
        refine go_sald (pc' := 78) (q := 1) (v := .int ((rwkI I Q 4) 0 1)) hS rfl (tr_s hr (a := 63) rfl (by decide)) rfl rfl (by decide) rfl rfl ?_
        refine go_ifP (t' := 92) (pc' := 79) rfl rfl rfl (fun (c10 : ((rwkI I Q 4) 0 1) = 0) => ?_) (fun (c10 : ¬ ((rwkI I Q 4) 0 1) = 0) => ?_)
        · skip
          refine go_s (pc' := 93) (lo' := [some (.ref 62), some (.int 5)]) rfl rfl rfl rfl ?_
          refine go_s (pc' := 53) rfl rfl rfl rfl ?_
          have hc9 : rwkc I Q 4 = false := by
            unfold rwkc
            simp [show I 0 (4 / 4) = 0 from c10]
          rw [rwk_n hc9] at C
          exact C _ hA
        · skip
          refine go_s (pc' := 80) rfl rfl rfl rfl ?_
          refine go_sget (pc' := 81) (v := .ref 63) hS rfl rfl rfl (by decide) rfl rfl ?_
          refine go_s (pc' := 82) rfl rfl rfl rfl ?_
          refine go_s (pc' := 83) (st' := [.int 4, .int 4, .ref 63]) rfl rfl rfl rfl ?_
          refine go_s (pc' := 84) (st' := [.int 0, .ref 63]) rfl rfl rfl rfl ?_
          refine go_sald (pc' := 85) (q := 0) (v := .int ((rwkI I Q 4) 0 0)) hS rfl (tr_s hr (a := 63) rfl (by decide)) rfl rfl (by decide) rfl rfl ?_
          refine go_ifP (t' := 92) (pc' := 86) rfl rfl rfl (fun (c11 : ((rwkI I Q 4) 0 0) = 0) => ?_) (fun (c11 : ¬ ((rwkI I Q 4) 0 0) = 0) => ?_)
          · skip
            refine go_s (pc' := 93) (lo' := [some (.ref 62), some (.int 5)]) rfl rfl rfl rfl ?_
            refine go_s (pc' := 53) rfl rfl rfl rfl ?_
            have hc9 : rwkc I Q 4 = false := by
              unfold rwkc
              simp [show I 0 (4 % 4) = 0 from c11]
            rw [rwk_n hc9] at C
            exact C _ hA
          · skip
            refine go_s (pc' := 87) rfl rfl rfl rfl ?_
            refine go_s (pc' := 88) rfl rfl rfl rfl ?_
            refine go_sget (pc' := 89) (v := .ref 72) hS rfl rfl rfl (by decide) rfl rfl ?_
            refine go_s (pc' := 90) rfl rfl rfl rfl ?_
            refine go_sald (pc' := 91) (q := 4) (v := .int (nI (13 * x))) hS rfl (tr_s hr (a := 72) rfl (by decide)) rfl rfl (by decide) (congrArg Value.int h53) rfl ?_
            have hU12 : RU w B R [] true h am ln K ((rwkI I Q 4), Q, Z) := RU_I (sm_e_refl (tbr am (13 * ln) 77 5088) _) (I' := (rwkI I Q 4)) (fun _ => rfl) (fun _ => rfl) (Nat.le_refl _) hU
            refine go_callV (pc' := 92) rfl rfl rfl (Nat.le_of_ble_eq_true rfl) rfl (sm_o hS rfl) rfl rfl rfl (rt_boards_0 hr hS hW hWm (m := 13 * x) (by omega) (by omega) (hk3.trans (rwk_at.trans hb25)) (by omega)) (fun r h13 q14 => ?_)
            obtain ⟨rfl, hS15, hE16⟩ := q14
            rw [show nxb (jn (rwkI I Q 4) K) 0 = nxb I 0 from rwk_nb (Q := Q) (n := 4)] at hS15
            refine go_s (pc' := 93) (lo' := [some (.ref 62), some (.int 5)]) rfl rfl rfl rfl ?_
            refine go_s (pc' := 53) rfl rfl rfl rfl ?_
            by_cases hnb : nxb I 0 = -1
            · rw [if_pos hnb] at hS15
              have hc9 : rwkc I Q 4 = false := by
                unfold rwkc
                rw [hb25]
                simp [hnb]
              rw [rwk_n hc9] at C
              exact C _ (RA_u.mpr ⟨K, Y, am, ln, hS15, RU_I hE16 (fun _ => rfl) (fun _ => rfl) (Nat.le_refl _) hU12⟩)
            · rw [if_neg hnb] at hS15
              have hc9 : rwkc I Q 4 = true := by
                unfold rwkc
                rw [hQ, hb25]
                simp [hnb, show I 24 4 = -1 from c9, show ¬ I 0 (4 / 4) = 0 from c10, show ¬ I 0 (4 % 4) = 0 from c11]
              rw [rwk_y hc9, hb25] at C
              rw [jn_hi (c := 50) (by decide), jn_hi (c := 50) (by decide)] at hS15
              exact C _ (RA_u.mpr ⟨_, Y, am, ln, sm_jg hr hS15 (fun c j _ n1 n2 _ => (uI_c n2).trans (uI_c n1)), RU_bus (by decide) hU12 hln hE16 hQ h53 hx (fun i hi => by rw [uI_c (by decide), uI_j hi]) (fun i hi => by rw [uI_j hi, uI_c (by decide)]) rfl (fun c j _ hc => by
                simp only [uI]
                rw [if_neg (fun z => hc ⟨z.1, Or.inr z.2⟩), if_neg (fun z => hc ⟨z.1, Or.inl z.2⟩)]) (by rw [uI_j (by omega), uI_s, uI_c (by decide), uI_s]) (by rw [uI_s, uI_s])⟩)
    · skip
      refine go_s (pc' := 54) rfl rfl rfl rfl ?_
      refine go_s (pc' := 55) (st' := [.int 16, .int 4]) rfl rfl rfl rfl ?_
      refine go_icmpP (t' := 94) (pc' := 56) rfl rfl rfl (fun (c : 16 ≤ (4 : Int32)) => absurd c (by decide)) (fun _ => ?_)
      refine go_s (pc' := 57) rfl rfl rfl rfl ?_
      refine go_sget (pc' := 58) (v := .ref 74) hS rfl rfl rfl (by decide) rfl rfl ?_
      refine go_s (pc' := 59) rfl rfl rfl rfl ?_
      refine go_sald (pc' := 60) (q := 4) (v := .int (nI (q.length + 1))) hS rfl (tr_s hr (a := 74) rfl (by decide)) rfl rfl (by decide) (congrArg Value.int h55) rfl ?_
      refine go_ifP (t' := 92) (pc' := 61) rfl rfl rfl (fun (c : (nI (q.length + 1)) ≤ 0) => absurd c (nI_p1 (by omega))) (fun _ => ?_)
      refine go_s (pc' := 62) rfl rfl rfl rfl ?_
      refine go_sget (pc' := 63) (v := .ref am) hS rfl rfl rfl (by decide) rfl rfl ?_
      refine go_s (pc' := 64) rfl rfl rfl rfl ?_
      refine go_sget (pc' := 65) (v := .ref 72) hS rfl rfl rfl (by decide) rfl rfl ?_
      refine go_s (pc' := 66) rfl rfl rfl rfl ?_
      refine go_sald (pc' := 67) (q := 4) (v := .int (nI (13 * x))) hS rfl (tr_s hr (a := 72) rfl (by decide)) rfl rfl (by decide) (congrArg Value.int h53) rfl ?_
      refine go_s (pc' := 68) (st' := [.int 2, .int (nI (13 * x)), .ref am]) rfl rfl rfl rfl ?_
      refine go_nadd (pc' := 69) (a := (13 * x)) (b := 2) rfl rfl rfl rfl rfl ?_
      refine go_sald (pc' := 70) (q := ((13 * x) + 2)) (v := .int (I 24 4)) hS rfl (tr_ms hr (by omega)) rfl rfl (by omega) (congrArg Value.int (hk2.trans rwk_at)) rfl ?_
      refine go_s (pc' := 71) (st' := [.int (-1), .int (I 24 4)]) rfl rfl rfl rfl ?_
      refine go_icmpP (t' := 92) (pc' := 72) rfl rfl rfl (fun (c17 : ¬ (I 24 4) = (-1)) => ?_) (fun (c17' : ¬ ¬ (I 24 4) = (-1)) => ?_)
      · skip
        refine go_s (pc' := 93) (lo' := [some (.ref 62), some (.int 5)]) rfl rfl rfl rfl ?_
        refine go_s (pc' := 53) rfl rfl rfl rfl ?_
        have hc9 : rwkc I Q 4 = false := by
          unfold rwkc
          simp [show ¬ I 24 4 = -1 from c17]
        rw [rwk_n hc9] at C
        exact C _ hA
      · skip
        have c17 : (I 24 4) = (-1) := Decidable.not_not.mp c17'
        refine go_s (pc' := 73) rfl rfl rfl rfl ?_
        refine go_sget (pc' := 74) (v := .ref 63) hS rfl rfl rfl (by decide) rfl rfl ?_
        refine go_s (pc' := 75) rfl rfl rfl rfl ?_
        refine go_s (pc' := 76) (st' := [.int 4, .int 4, .ref 63]) rfl rfl rfl rfl ?_
        refine go_s (pc' := 77) (st' := [.int 1, .ref 63]) rfl rfl rfl rfl ?_
        refine go_sald (pc' := 78) (q := 1) (v := .int ((rwkI I Q 4) 0 1)) hS rfl (tr_s hr (a := 63) rfl (by decide)) rfl rfl (by decide) rfl rfl ?_
        refine go_ifP (t' := 92) (pc' := 79) rfl rfl rfl (fun (c18 : ((rwkI I Q 4) 0 1) = 0) => ?_) (fun (c18 : ¬ ((rwkI I Q 4) 0 1) = 0) => ?_)
        · skip
          refine go_s (pc' := 93) (lo' := [some (.ref 62), some (.int 5)]) rfl rfl rfl rfl ?_
          refine go_s (pc' := 53) rfl rfl rfl rfl ?_
          have hc9 : rwkc I Q 4 = false := by
            unfold rwkc
            simp [show I 0 (4 / 4) = 0 from c18]
          rw [rwk_n hc9] at C
          exact C _ hA
        · skip
          refine go_s (pc' := 80) rfl rfl rfl rfl ?_
          refine go_sget (pc' := 81) (v := .ref 63) hS rfl rfl rfl (by decide) rfl rfl ?_
          refine go_s (pc' := 82) rfl rfl rfl rfl ?_
          refine go_s (pc' := 83) (st' := [.int 4, .int 4, .ref 63]) rfl rfl rfl rfl ?_
          refine go_s (pc' := 84) (st' := [.int 0, .ref 63]) rfl rfl rfl rfl ?_
          refine go_sald (pc' := 85) (q := 0) (v := .int ((rwkI I Q 4) 0 0)) hS rfl (tr_s hr (a := 63) rfl (by decide)) rfl rfl (by decide) rfl rfl ?_
          refine go_ifP (t' := 92) (pc' := 86) rfl rfl rfl (fun (c19 : ((rwkI I Q 4) 0 0) = 0) => ?_) (fun (c19 : ¬ ((rwkI I Q 4) 0 0) = 0) => ?_)
          · skip
            refine go_s (pc' := 93) (lo' := [some (.ref 62), some (.int 5)]) rfl rfl rfl rfl ?_
            refine go_s (pc' := 53) rfl rfl rfl rfl ?_
            have hc9 : rwkc I Q 4 = false := by
              unfold rwkc
              simp [show I 0 (4 % 4) = 0 from c19]
            rw [rwk_n hc9] at C
            exact C _ hA
          · skip
            refine go_s (pc' := 87) rfl rfl rfl rfl ?_
            refine go_s (pc' := 88) rfl rfl rfl rfl ?_
            refine go_sget (pc' := 89) (v := .ref 72) hS rfl rfl rfl (by decide) rfl rfl ?_
            refine go_s (pc' := 90) rfl rfl rfl rfl ?_
            refine go_sald (pc' := 91) (q := 4) (v := .int (nI (13 * x))) hS rfl (tr_s hr (a := 72) rfl (by decide)) rfl rfl (by decide) (congrArg Value.int h53) rfl ?_
            have hU20 : RU w B R [] true h am ln K ((rwkI I Q 4), Q, Z) := RU_I (sm_e_refl (tbr am (13 * ln) 77 5088) _) (I' := (rwkI I Q 4)) (fun _ => rfl) (fun _ => rfl) (Nat.le_refl _) hU
            refine go_callV (pc' := 92) rfl rfl rfl (Nat.le_of_ble_eq_true rfl) rfl (sm_o hS rfl) rfl rfl rfl (rt_boards_1 hr hS hW hWm (m := 13 * x) (by omega) (by omega) (hk3.trans (rwk_at.trans hb25)) (by omega)) (fun r h21 q22 => ?_)
            obtain ⟨rfl, hS23, hE24⟩ := q22
            rw [show nxb (jn (rwkI I Q 4) K) 1 = nxb I 1 from rwk_nb (Q := Q) (n := 4)] at hS23
            refine go_s (pc' := 93) (lo' := [some (.ref 62), some (.int 5)]) rfl rfl rfl rfl ?_
            refine go_s (pc' := 53) rfl rfl rfl rfl ?_
            by_cases hnb : nxb I 1 = -1
            · rw [if_pos hnb] at hS23
              have hc9 : rwkc I Q 4 = false := by
                unfold rwkc
                rw [hb25]
                simp [hnb]
              rw [rwk_n hc9] at C
              exact C _ (RA_u.mpr ⟨K, Y, am, ln, hS23, RU_I hE24 (fun _ => rfl) (fun _ => rfl) (Nat.le_refl _) hU20⟩)
            · rw [if_neg hnb] at hS23
              have hc9 : rwkc I Q 4 = true := by
                unfold rwkc
                rw [hQ, hb25]
                simp [hnb, show I 24 4 = -1 from c17, show ¬ I 0 (4 / 4) = 0 from c18, show ¬ I 0 (4 % 4) = 0 from c19]
              rw [rwk_y hc9, hb25] at C
              rw [jn_hi (c := 50) (by decide), jn_hi (c := 50) (by decide)] at hS23
              exact C _ (RA_u.mpr ⟨_, Y, am, ln, sm_jg hr hS23 (fun c j _ n1 n2 _ => (uI_c n2).trans (uI_c n1)), RU_bus (by decide) hU20 hln hE24 hQ h53 hx (fun i hi => by rw [uI_c (by decide), uI_j hi]) (fun i hi => by rw [uI_j hi, uI_c (by decide)]) rfl (fun c j _ hc => by
                simp only [uI]
                rw [if_neg (fun z => hc ⟨z.1, Or.inr z.2⟩), if_neg (fun z => hc ⟨z.1, Or.inl z.2⟩)]) (by rw [uI_j (by omega), uI_s, uI_c (by decide), uI_s]) (by rw [uI_s, uI_s])⟩)
theorem stW_5 {w : Nat → Bool} {d B R : Nat} {h : am_Hp} {I : sm_I} {Q : mQ} {Z : mZ} {P : Option Value → am_Hp → Prop} (hA : RA w B R [] true h (rwkI I Q 5, Q, Z)) (hR : R + 0 < 40000) (htri : tri (I 25 5)) (hd : 2 ≤ d) (C : ∀ h', RA w B (R + 0) [] true h' (rwkI I Q 6, Q, Z) → am_Go (am_prog w) d am_c168 (some .int) 53 [some (.ref 62), some (.int 6)] [] h' P) : am_Go (am_prog w) d am_c168 (some .int) 53 [some (.ref 62), some (.int 5)] [] h P := by
  obtain ⟨K, Y, am, ln, hS, hU⟩ := RA_u.mp hA
  change sm (tbr am (13 * ln) 77 5088) h (jn (rwkI I Q 5) K) Y at hS
  obtain ⟨hW, hWm, -, -, hr, -⟩ := id hU.1
  have hln := RU_ln hU (by omega)
  cases hQ : Q 5 with
  | nil =>
    have h55 : K 55 5 = 0 := by
      have z := (RU_lk (l := 5) hU (by decide)).1
      rw [hQ] at z
      exact z
    refine go_s (pc' := 54) rfl rfl rfl rfl ?_
    refine go_s (pc' := 55) (st' := [.int 16, .int 5]) rfl rfl rfl rfl ?_
    refine go_icmpP (t' := 94) (pc' := 56) rfl rfl rfl (fun (c : 16 ≤ (5 : Int32)) => absurd c (by decide)) (fun _ => ?_)
    refine go_s (pc' := 57) rfl rfl rfl rfl ?_
    refine go_sget (pc' := 58) (v := .ref 74) hS rfl rfl rfl (by decide) rfl rfl ?_
    refine go_s (pc' := 59) rfl rfl rfl rfl ?_
    refine go_sald (pc' := 60) (q := 5) (v := .int 0) hS rfl (tr_s hr (a := 74) rfl (by decide)) rfl rfl (by decide) (congrArg Value.int h55) rfl ?_
    refine go_ifP (t' := 92) (pc' := 61) rfl rfl rfl (fun _ => ?_) (fun (c : ¬ ((0 : Int32) ≤ 0)) => absurd (by decide) c)
    refine go_s (pc' := 93) (lo' := [some (.ref 62), some (.int 6)]) rfl rfl rfl rfl ?_
    refine go_s (pc' := 53) rfl rfl rfl rfl ?_
    have hc9 : rwkc I Q 5 = false := by
      unfold rwkc
      rw [hQ]
      rfl
    rw [rwk_n hc9] at C
    exact C _ hA
  | cons m q =>
    obtain ⟨hk55, hle, hxx⟩ := RU_lk (l := 5) hU (by decide)
    obtain ⟨x, h53, hx, hk2, hk3, hk0, hk1⟩ := hxx m q hQ
    rw [hQ] at hk55 hle
    have h55 : K 55 5 = nI (q.length + 1) := hk55
    have hle2 : q.length + 1 ≤ ln := hle
    rcases htri with hb25 | hb25 | hb25
    · skip
      refine go_s (pc' := 54) rfl rfl rfl rfl ?_
      refine go_s (pc' := 55) (st' := [.int 16, .int 5]) rfl rfl rfl rfl ?_
      refine go_icmpP (t' := 94) (pc' := 56) rfl rfl rfl (fun (c : 16 ≤ (5 : Int32)) => absurd c (by decide)) (fun _ => ?_)
      refine go_s (pc' := 57) rfl rfl rfl rfl ?_
      refine go_sget (pc' := 58) (v := .ref 74) hS rfl rfl rfl (by decide) rfl rfl ?_
      refine go_s (pc' := 59) rfl rfl rfl rfl ?_
      refine go_sald (pc' := 60) (q := 5) (v := .int (nI (q.length + 1))) hS rfl (tr_s hr (a := 74) rfl (by decide)) rfl rfl (by decide) (congrArg Value.int h55) rfl ?_
      refine go_ifP (t' := 92) (pc' := 61) rfl rfl rfl (fun (c : (nI (q.length + 1)) ≤ 0) => absurd c (nI_p1 (by omega))) (fun _ => ?_)
      refine go_s (pc' := 62) rfl rfl rfl rfl ?_
      refine go_sget (pc' := 63) (v := .ref am) hS rfl rfl rfl (by decide) rfl rfl ?_
      refine go_s (pc' := 64) rfl rfl rfl rfl ?_
      refine go_sget (pc' := 65) (v := .ref 72) hS rfl rfl rfl (by decide) rfl rfl ?_
      refine go_s (pc' := 66) rfl rfl rfl rfl ?_
      refine go_sald (pc' := 67) (q := 5) (v := .int (nI (13 * x))) hS rfl (tr_s hr (a := 72) rfl (by decide)) rfl rfl (by decide) (congrArg Value.int h53) rfl ?_
      refine go_s (pc' := 68) (st' := [.int 2, .int (nI (13 * x)), .ref am]) rfl rfl rfl rfl ?_
      refine go_nadd (pc' := 69) (a := (13 * x)) (b := 2) rfl rfl rfl rfl rfl ?_
      refine go_sald (pc' := 70) (q := ((13 * x) + 2)) (v := .int (I 24 5)) hS rfl (tr_ms hr (by omega)) rfl rfl (by omega) (congrArg Value.int (hk2.trans rwk_at)) rfl ?_
      refine go_s (pc' := 71) (st' := [.int (-1), .int (I 24 5)]) rfl rfl rfl rfl ?_
      refine go_icmpP (t' := 92) (pc' := 72) rfl rfl rfl (fun (c1 : ¬ (I 24 5) = (-1)) => ?_) (fun (c1' : ¬ ¬ (I 24 5) = (-1)) => ?_)
      · skip
        refine go_s (pc' := 93) (lo' := [some (.ref 62), some (.int 6)]) rfl rfl rfl rfl ?_
        refine go_s (pc' := 53) rfl rfl rfl rfl ?_
        have hc9 : rwkc I Q 5 = false := by
          unfold rwkc
          simp [show ¬ I 24 5 = -1 from c1]
        rw [rwk_n hc9] at C
        exact C _ hA
      · skip
        have c1 : (I 24 5) = (-1) := Decidable.not_not.mp c1'
        refine go_s (pc' := 73) rfl rfl rfl rfl ?_
        refine go_sget (pc' := 74) (v := .ref 63) hS rfl rfl rfl (by decide) rfl rfl ?_
        refine go_s (pc' := 75) rfl rfl rfl rfl ?_
        refine go_s (pc' := 76) (st' := [.int 4, .int 5, .ref 63]) rfl rfl rfl rfl ?_
        refine go_s (pc' := 77) (st' := [.int 1, .ref 63]) rfl rfl rfl rfl ?_
        refine go_sald (pc' := 78) (q := 1) (v := .int ((rwkI I Q 5) 0 1)) hS rfl (tr_s hr (a := 63) rfl (by decide)) rfl rfl (by decide) rfl rfl ?_
        refine go_ifP (t' := 92) (pc' := 79) rfl rfl rfl (fun (c2 : ((rwkI I Q 5) 0 1) = 0) => ?_) (fun (c2 : ¬ ((rwkI I Q 5) 0 1) = 0) => ?_)
        · skip
          refine go_s (pc' := 93) (lo' := [some (.ref 62), some (.int 6)]) rfl rfl rfl rfl ?_
          refine go_s (pc' := 53) rfl rfl rfl rfl ?_
          have hc9 : rwkc I Q 5 = false := by
            unfold rwkc
            simp [show I 0 (5 / 4) = 0 from c2]
          rw [rwk_n hc9] at C
          exact C _ hA
        · skip
          refine go_s (pc' := 80) rfl rfl rfl rfl ?_
          refine go_sget (pc' := 81) (v := .ref 63) hS rfl rfl rfl (by decide) rfl rfl ?_
          refine go_s (pc' := 82) rfl rfl rfl rfl ?_
          refine go_s (pc' := 83) (st' := [.int 4, .int 5, .ref 63]) rfl rfl rfl rfl ?_
          refine go_s (pc' := 84) (st' := [.int 1, .ref 63]) rfl rfl rfl rfl ?_
          refine go_sald (pc' := 85) (q := 1) (v := .int ((rwkI I Q 5) 0 1)) hS rfl (tr_s hr (a := 63) rfl (by decide)) rfl rfl (by decide) rfl rfl ?_
          refine go_ifP (t' := 92) (pc' := 86) rfl rfl rfl (fun (c : ((rwkI I Q 5) 0 1) = 0) => absurd c c2) (fun _ => ?_)
          refine go_s (pc' := 87) rfl rfl rfl rfl ?_
          refine go_s (pc' := 88) rfl rfl rfl rfl ?_
          refine go_sget (pc' := 89) (v := .ref 72) hS rfl rfl rfl (by decide) rfl rfl ?_
          refine go_s (pc' := 90) rfl rfl rfl rfl ?_
          refine go_sald (pc' := 91) (q := 5) (v := .int (nI (13 * x))) hS rfl (tr_s hr (a := 72) rfl (by decide)) rfl rfl (by decide) (congrArg Value.int h53) rfl ?_
          have hU3 : RU w B R [] true h am ln K ((rwkI I Q 5), Q, Z) := RU_I (sm_e_refl (tbr am (13 * ln) 77 5088) _) (I' := (rwkI I Q 5)) (fun _ => rfl) (fun _ => rfl) (Nat.le_refl _) hU
          refine go_callV (pc' := 92) rfl rfl rfl (Nat.le_of_ble_eq_true rfl) rfl (sm_o hS rfl) rfl rfl rfl (rt_boards_m hr hS hW hWm (m := 13 * x) (by omega) (by omega) (hk3.trans (rwk_at.trans hb25)) (by omega)) (fun r h4 q5 => ?_)
          obtain ⟨rfl, hS6, hE7⟩ := q5
          rw [show nxb (jn (rwkI I Q 5) K) (-1) = nxb I (-1) from rwk_nb (Q := Q) (n := 5)] at hS6
          refine go_s (pc' := 93) (lo' := [some (.ref 62), some (.int 6)]) rfl rfl rfl rfl ?_
          refine go_s (pc' := 53) rfl rfl rfl rfl ?_
          by_cases hnb : nxb I (-1) = -1
          · rw [if_pos hnb] at hS6
            have hc9 : rwkc I Q 5 = false := by
              unfold rwkc
              rw [hb25]
              simp [hnb]
            rw [rwk_n hc9] at C
            exact C _ (RA_u.mpr ⟨K, Y, am, ln, hS6, RU_I hE7 (fun _ => rfl) (fun _ => rfl) (Nat.le_refl _) hU3⟩)
          · rw [if_neg hnb] at hS6
            have hc9 : rwkc I Q 5 = true := by
              unfold rwkc
              rw [hQ, hb25]
              simp [hnb, show I 24 5 = -1 from c1, show ¬ I 0 (5 / 4) = 0 from c2, show ¬ I 0 (5 % 4) = 0 from c2]
            rw [rwk_y hc9, hb25] at C
            rw [jn_hi (c := 50) (by decide), jn_hi (c := 50) (by decide)] at hS6
            exact C _ (RA_u.mpr ⟨_, Y, am, ln, sm_jg hr hS6 (fun c j _ n1 n2 _ => (uI_c n2).trans (uI_c n1)), RU_bus (by decide) hU3 hln hE7 hQ h53 hx (fun i hi => by rw [uI_c (by decide), uI_j hi]) (fun i hi => by rw [uI_j hi, uI_c (by decide)]) rfl (fun c j _ hc => by
              simp only [uI]
              rw [if_neg (fun z => hc ⟨z.1, Or.inr z.2⟩), if_neg (fun z => hc ⟨z.1, Or.inl z.2⟩)]) (by rw [uI_j (by omega), uI_s, uI_c (by decide), uI_s]) (by rw [uI_s, uI_s])⟩)
    · skip
      refine go_s (pc' := 54) rfl rfl rfl rfl ?_
      refine go_s (pc' := 55) (st' := [.int 16, .int 5]) rfl rfl rfl rfl ?_
      refine go_icmpP (t' := 94) (pc' := 56) rfl rfl rfl (fun (c : 16 ≤ (5 : Int32)) => absurd c (by decide)) (fun _ => ?_)
      refine go_s (pc' := 57) rfl rfl rfl rfl ?_
      refine go_sget (pc' := 58) (v := .ref 74) hS rfl rfl rfl (by decide) rfl rfl ?_
      refine go_s (pc' := 59) rfl rfl rfl rfl ?_
      refine go_sald (pc' := 60) (q := 5) (v := .int (nI (q.length + 1))) hS rfl (tr_s hr (a := 74) rfl (by decide)) rfl rfl (by decide) (congrArg Value.int h55) rfl ?_
      refine go_ifP (t' := 92) (pc' := 61) rfl rfl rfl (fun (c : (nI (q.length + 1)) ≤ 0) => absurd c (nI_p1 (by omega))) (fun _ => ?_)
      refine go_s (pc' := 62) rfl rfl rfl rfl ?_
      refine go_sget (pc' := 63) (v := .ref am) hS rfl rfl rfl (by decide) rfl rfl ?_
      refine go_s (pc' := 64) rfl rfl rfl rfl ?_
      refine go_sget (pc' := 65) (v := .ref 72) hS rfl rfl rfl (by decide) rfl rfl ?_
      refine go_s (pc' := 66) rfl rfl rfl rfl ?_
      refine go_sald (pc' := 67) (q := 5) (v := .int (nI (13 * x))) hS rfl (tr_s hr (a := 72) rfl (by decide)) rfl rfl (by decide) (congrArg Value.int h53) rfl ?_
      refine go_s (pc' := 68) (st' := [.int 2, .int (nI (13 * x)), .ref am]) rfl rfl rfl rfl ?_
      refine go_nadd (pc' := 69) (a := (13 * x)) (b := 2) rfl rfl rfl rfl rfl ?_
      refine go_sald (pc' := 70) (q := ((13 * x) + 2)) (v := .int (I 24 5)) hS rfl (tr_ms hr (by omega)) rfl rfl (by omega) (congrArg Value.int (hk2.trans rwk_at)) rfl ?_
      refine go_s (pc' := 71) (st' := [.int (-1), .int (I 24 5)]) rfl rfl rfl rfl ?_
      refine go_icmpP (t' := 92) (pc' := 72) rfl rfl rfl (fun (c8 : ¬ (I 24 5) = (-1)) => ?_) (fun (c8' : ¬ ¬ (I 24 5) = (-1)) => ?_)
      · skip
        refine go_s (pc' := 93) (lo' := [some (.ref 62), some (.int 6)]) rfl rfl rfl rfl ?_
        refine go_s (pc' := 53) rfl rfl rfl rfl ?_
        have hc9 : rwkc I Q 5 = false := by
          unfold rwkc
          simp [show ¬ I 24 5 = -1 from c8]
        rw [rwk_n hc9] at C
        exact C _ hA
      · skip
        have c8 : (I 24 5) = (-1) := Decidable.not_not.mp c8'
        refine go_s (pc' := 73) rfl rfl rfl rfl ?_
        refine go_sget (pc' := 74) (v := .ref 63) hS rfl rfl rfl (by decide) rfl rfl ?_
        refine go_s (pc' := 75) rfl rfl rfl rfl ?_
        refine go_s (pc' := 76) (st' := [.int 4, .int 5, .ref 63]) rfl rfl rfl rfl ?_
        refine go_s (pc' := 77) (st' := [.int 1, .ref 63]) rfl rfl rfl rfl ?_
        refine go_sald (pc' := 78) (q := 1) (v := .int ((rwkI I Q 5) 0 1)) hS rfl (tr_s hr (a := 63) rfl (by decide)) rfl rfl (by decide) rfl rfl ?_
        refine go_ifP (t' := 92) (pc' := 79) rfl rfl rfl (fun (c9 : ((rwkI I Q 5) 0 1) = 0) => ?_) (fun (c9 : ¬ ((rwkI I Q 5) 0 1) = 0) => ?_)
        · skip
          refine go_s (pc' := 93) (lo' := [some (.ref 62), some (.int 6)]) rfl rfl rfl rfl ?_
          refine go_s (pc' := 53) rfl rfl rfl rfl ?_
          have hc9 : rwkc I Q 5 = false := by
            unfold rwkc
            simp [show I 0 (5 / 4) = 0 from c9]
          rw [rwk_n hc9] at C
          exact C _ hA
        · skip
          refine go_s (pc' := 80) rfl rfl rfl rfl ?_
          refine go_sget (pc' := 81) (v := .ref 63) hS rfl rfl rfl (by decide) rfl rfl ?_
          refine go_s (pc' := 82) rfl rfl rfl rfl ?_
          refine go_s (pc' := 83) (st' := [.int 4, .int 5, .ref 63]) rfl rfl rfl rfl ?_
          refine go_s (pc' := 84) (st' := [.int 1, .ref 63]) rfl rfl rfl rfl ?_
          refine go_sald (pc' := 85) (q := 1) (v := .int ((rwkI I Q 5) 0 1)) hS rfl (tr_s hr (a := 63) rfl (by decide)) rfl rfl (by decide) rfl rfl ?_
          refine go_ifP (t' := 92) (pc' := 86) rfl rfl rfl (fun (c : ((rwkI I Q 5) 0 1) = 0) => absurd c c9) (fun _ => ?_)
          refine go_s (pc' := 87) rfl rfl rfl rfl ?_
          refine go_s (pc' := 88) rfl rfl rfl rfl ?_
          refine go_sget (pc' := 89) (v := .ref 72) hS rfl rfl rfl (by decide) rfl rfl ?_
          refine go_s (pc' := 90) rfl rfl rfl rfl ?_
          refine go_sald (pc' := 91) (q := 5) (v := .int (nI (13 * x))) hS rfl (tr_s hr (a := 72) rfl (by decide)) rfl rfl (by decide) (congrArg Value.int h53) rfl ?_
          have hU10 : RU w B R [] true h am ln K ((rwkI I Q 5), Q, Z) := RU_I (sm_e_refl (tbr am (13 * ln) 77 5088) _) (I' := (rwkI I Q 5)) (fun _ => rfl) (fun _ => rfl) (Nat.le_refl _) hU
          refine go_callV (pc' := 92) rfl rfl rfl (Nat.le_of_ble_eq_true rfl) rfl (sm_o hS rfl) rfl rfl rfl (rt_boards_0 hr hS hW hWm (m := 13 * x) (by omega) (by omega) (hk3.trans (rwk_at.trans hb25)) (by omega)) (fun r h11 q12 => ?_)
          obtain ⟨rfl, hS13, hE14⟩ := q12
          rw [show nxb (jn (rwkI I Q 5) K) 0 = nxb I 0 from rwk_nb (Q := Q) (n := 5)] at hS13
          refine go_s (pc' := 93) (lo' := [some (.ref 62), some (.int 6)]) rfl rfl rfl rfl ?_
          refine go_s (pc' := 53) rfl rfl rfl rfl ?_
          by_cases hnb : nxb I 0 = -1
          · rw [if_pos hnb] at hS13
            have hc9 : rwkc I Q 5 = false := by
              unfold rwkc
              rw [hb25]
              simp [hnb]
            rw [rwk_n hc9] at C
            exact C _ (RA_u.mpr ⟨K, Y, am, ln, hS13, RU_I hE14 (fun _ => rfl) (fun _ => rfl) (Nat.le_refl _) hU10⟩)
          · rw [if_neg hnb] at hS13
            have hc9 : rwkc I Q 5 = true := by
              unfold rwkc
              rw [hQ, hb25]
              simp [hnb, show I 24 5 = -1 from c8, show ¬ I 0 (5 / 4) = 0 from c9, show ¬ I 0 (5 % 4) = 0 from c9]
            rw [rwk_y hc9, hb25] at C
            rw [jn_hi (c := 50) (by decide), jn_hi (c := 50) (by decide)] at hS13
            exact C _ (RA_u.mpr ⟨_, Y, am, ln, sm_jg hr hS13 (fun c j _ n1 n2 _ => (uI_c n2).trans (uI_c n1)), RU_bus (by decide) hU10 hln hE14 hQ h53 hx (fun i hi => by rw [uI_c (by decide), uI_j hi]) (fun i hi => by rw [uI_j hi, uI_c (by decide)]) rfl (fun c j _ hc => by
              simp only [uI]
              rw [if_neg (fun z => hc ⟨z.1, Or.inr z.2⟩), if_neg (fun z => hc ⟨z.1, Or.inl z.2⟩)]) (by rw [uI_j (by omega), uI_s, uI_c (by decide), uI_s]) (by rw [uI_s, uI_s])⟩)
    · skip
      refine go_s (pc' := 54) rfl rfl rfl rfl ?_
      refine go_s (pc' := 55) (st' := [.int 16, .int 5]) rfl rfl rfl rfl ?_
      refine go_icmpP (t' := 94) (pc' := 56) rfl rfl rfl (fun (c : 16 ≤ (5 : Int32)) => absurd c (by decide)) (fun _ => ?_)
      refine go_s (pc' := 57) rfl rfl rfl rfl ?_
      refine go_sget (pc' := 58) (v := .ref 74) hS rfl rfl rfl (by decide) rfl rfl ?_
      refine go_s (pc' := 59) rfl rfl rfl rfl ?_
      refine go_sald (pc' := 60) (q := 5) (v := .int (nI (q.length + 1))) hS rfl (tr_s hr (a := 74) rfl (by decide)) rfl rfl (by decide) (congrArg Value.int h55) rfl ?_
      refine go_ifP (t' := 92) (pc' := 61) rfl rfl rfl (fun (c : (nI (q.length + 1)) ≤ 0) => absurd c (nI_p1 (by omega))) (fun _ => ?_)
      refine go_s (pc' := 62) rfl rfl rfl rfl ?_
      refine go_sget (pc' := 63) (v := .ref am) hS rfl rfl rfl (by decide) rfl rfl ?_
      refine go_s (pc' := 64) rfl rfl rfl rfl ?_
      refine go_sget (pc' := 65) (v := .ref 72) hS rfl rfl rfl (by decide) rfl rfl ?_
      refine go_s (pc' := 66) rfl rfl rfl rfl ?_
      refine go_sald (pc' := 67) (q := 5) (v := .int (nI (13 * x))) hS rfl (tr_s hr (a := 72) rfl (by decide)) rfl rfl (by decide) (congrArg Value.int h53) rfl ?_
      refine go_s (pc' := 68) (st' := [.int 2, .int (nI (13 * x)), .ref am]) rfl rfl rfl rfl ?_
      refine go_nadd (pc' := 69) (a := (13 * x)) (b := 2) rfl rfl rfl rfl rfl ?_
      refine go_sald (pc' := 70) (q := ((13 * x) + 2)) (v := .int (I 24 5)) hS rfl (tr_ms hr (by omega)) rfl rfl (by omega) (congrArg Value.int (hk2.trans rwk_at)) rfl ?_
      refine go_s (pc' := 71) (st' := [.int (-1), .int (I 24 5)]) rfl rfl rfl rfl ?_
      refine go_icmpP (t' := 92) (pc' := 72) rfl rfl rfl (fun (c15 : ¬ (I 24 5) = (-1)) => ?_) (fun (c15' : ¬ ¬ (I 24 5) = (-1)) => ?_)
      · skip
        refine go_s (pc' := 93) (lo' := [some (.ref 62), some (.int 6)]) rfl rfl rfl rfl ?_
        refine go_s (pc' := 53) rfl rfl rfl rfl ?_
        have hc9 : rwkc I Q 5 = false := by
          unfold rwkc
          simp [show ¬ I 24 5 = -1 from c15]
        rw [rwk_n hc9] at C
        exact C _ hA
      · skip
        have c15 : (I 24 5) = (-1) := Decidable.not_not.mp c15'
        refine go_s (pc' := 73) rfl rfl rfl rfl ?_
        refine go_sget (pc' := 74) (v := .ref 63) hS rfl rfl rfl (by decide) rfl rfl ?_
        refine go_s (pc' := 75) rfl rfl rfl rfl ?_
        refine go_s (pc' := 76) (st' := [.int 4, .int 5, .ref 63]) rfl rfl rfl rfl ?_
        refine go_s (pc' := 77) (st' := [.int 1, .ref 63]) rfl rfl rfl rfl ?_
        refine go_sald (pc' := 78) (q := 1) (v := .int ((rwkI I Q 5) 0 1)) hS rfl (tr_s hr (a := 63) rfl (by decide)) rfl rfl (by decide) rfl rfl ?_
        refine go_ifP (t' := 92) (pc' := 79) rfl rfl rfl (fun (c16 : ((rwkI I Q 5) 0 1) = 0) => ?_) (fun (c16 : ¬ ((rwkI I Q 5) 0 1) = 0) => ?_)
        · skip
          refine go_s (pc' := 93) (lo' := [some (.ref 62), some (.int 6)]) rfl rfl rfl rfl ?_
          refine go_s (pc' := 53) rfl rfl rfl rfl ?_
          have hc9 : rwkc I Q 5 = false := by
            unfold rwkc
            simp [show I 0 (5 / 4) = 0 from c16]
          rw [rwk_n hc9] at C
          exact C _ hA
        · skip
          refine go_s (pc' := 80) rfl rfl rfl rfl ?_
          refine go_sget (pc' := 81) (v := .ref 63) hS rfl rfl rfl (by decide) rfl rfl ?_
          refine go_s (pc' := 82) rfl rfl rfl rfl ?_
          refine go_s (pc' := 83) (st' := [.int 4, .int 5, .ref 63]) rfl rfl rfl rfl ?_
          refine go_s (pc' := 84) (st' := [.int 1, .ref 63]) rfl rfl rfl rfl ?_
          refine go_sald (pc' := 85) (q := 1) (v := .int ((rwkI I Q 5) 0 1)) hS rfl (tr_s hr (a := 63) rfl (by decide)) rfl rfl (by decide) rfl rfl ?_
          refine go_ifP (t' := 92) (pc' := 86) rfl rfl rfl (fun (c : ((rwkI I Q 5) 0 1) = 0) => absurd c c16) (fun _ => ?_)
          refine go_s (pc' := 87) rfl rfl rfl rfl ?_
          refine go_s (pc' := 88) rfl rfl rfl rfl ?_
          refine go_sget (pc' := 89) (v := .ref 72) hS rfl rfl rfl (by decide) rfl rfl ?_
          refine go_s (pc' := 90) rfl rfl rfl rfl ?_
          refine go_sald (pc' := 91) (q := 5) (v := .int (nI (13 * x))) hS rfl (tr_s hr (a := 72) rfl (by decide)) rfl rfl (by decide) (congrArg Value.int h53) rfl ?_
          have hU17 : RU w B R [] true h am ln K ((rwkI I Q 5), Q, Z) := RU_I (sm_e_refl (tbr am (13 * ln) 77 5088) _) (I' := (rwkI I Q 5)) (fun _ => rfl) (fun _ => rfl) (Nat.le_refl _) hU
          refine go_callV (pc' := 92) rfl rfl rfl (Nat.le_of_ble_eq_true rfl) rfl (sm_o hS rfl) rfl rfl rfl (rt_boards_1 hr hS hW hWm (m := 13 * x) (by omega) (by omega) (hk3.trans (rwk_at.trans hb25)) (by omega)) (fun r h18 q19 => ?_)
          obtain ⟨rfl, hS20, hE21⟩ := q19
          rw [show nxb (jn (rwkI I Q 5) K) 1 = nxb I 1 from rwk_nb (Q := Q) (n := 5)] at hS20
          refine go_s (pc' := 93) (lo' := [some (.ref 62), some (.int 6)]) rfl rfl rfl rfl ?_
          refine go_s (pc' := 53) rfl rfl rfl rfl ?_
          by_cases hnb : nxb I 1 = -1
          · rw [if_pos hnb] at hS20
            have hc9 : rwkc I Q 5 = false := by
              unfold rwkc
              rw [hb25]
              simp [hnb]
            rw [rwk_n hc9] at C
            exact C _ (RA_u.mpr ⟨K, Y, am, ln, hS20, RU_I hE21 (fun _ => rfl) (fun _ => rfl) (Nat.le_refl _) hU17⟩)
          · rw [if_neg hnb] at hS20
            have hc9 : rwkc I Q 5 = true := by
              unfold rwkc
              rw [hQ, hb25]
              simp [hnb, show I 24 5 = -1 from c15, show ¬ I 0 (5 / 4) = 0 from c16, show ¬ I 0 (5 % 4) = 0 from c16]
            rw [rwk_y hc9, hb25] at C
            rw [jn_hi (c := 50) (by decide), jn_hi (c := 50) (by decide)] at hS20
            exact C _ (RA_u.mpr ⟨_, Y, am, ln, sm_jg hr hS20 (fun c j _ n1 n2 _ => (uI_c n2).trans (uI_c n1)), RU_bus (by decide) hU17 hln hE21 hQ h53 hx (fun i hi => by rw [uI_c (by decide), uI_j hi]) (fun i hi => by rw [uI_j hi, uI_c (by decide)]) rfl (fun c j _ hc => by
              simp only [uI]
              rw [if_neg (fun z => hc ⟨z.1, Or.inr z.2⟩), if_neg (fun z => hc ⟨z.1, Or.inl z.2⟩)]) (by rw [uI_j (by omega), uI_s, uI_c (by decide), uI_s]) (by rw [uI_s, uI_s])⟩)
theorem stW_6 {w : Nat → Bool} {d B R : Nat} {h : am_Hp} {I : sm_I} {Q : mQ} {Z : mZ} {P : Option Value → am_Hp → Prop} (hA : RA w B R [] true h (rwkI I Q 6, Q, Z)) (hR : R + 0 < 40000) (htri : tri (I 25 6)) (hd : 2 ≤ d) (C : ∀ h', RA w B (R + 0) [] true h' (rwkI I Q 7, Q, Z) → am_Go (am_prog w) d am_c168 (some .int) 53 [some (.ref 62), some (.int 7)] [] h' P) : am_Go (am_prog w) d am_c168 (some .int) 53 [some (.ref 62), some (.int 6)] [] h P := by
  obtain ⟨K, Y, am, ln, hS, hU⟩ := RA_u.mp hA
  change sm (tbr am (13 * ln) 77 5088) h (jn (rwkI I Q 6) K) Y at hS
  obtain ⟨hW, hWm, -, -, hr, -⟩ := id hU.1
  have hln := RU_ln hU (by omega)
  cases hQ : Q 6 with
  | nil =>
    have h55 : K 55 6 = 0 := by
      have z := (RU_lk (l := 6) hU (by decide)).1
      rw [hQ] at z
      exact z
    refine go_s (pc' := 54) rfl rfl rfl rfl ?_
    refine go_s (pc' := 55) (st' := [.int 16, .int 6]) rfl rfl rfl rfl ?_
    refine go_icmpP (t' := 94) (pc' := 56) rfl rfl rfl (fun (c : 16 ≤ (6 : Int32)) => absurd c (by decide)) (fun _ => ?_)
    refine go_s (pc' := 57) rfl rfl rfl rfl ?_
    refine go_sget (pc' := 58) (v := .ref 74) hS rfl rfl rfl (by decide) rfl rfl ?_
    refine go_s (pc' := 59) rfl rfl rfl rfl ?_
    refine go_sald (pc' := 60) (q := 6) (v := .int 0) hS rfl (tr_s hr (a := 74) rfl (by decide)) rfl rfl (by decide) (congrArg Value.int h55) rfl ?_
    refine go_ifP (t' := 92) (pc' := 61) rfl rfl rfl (fun _ => ?_) (fun (c : ¬ ((0 : Int32) ≤ 0)) => absurd (by decide) c)
    refine go_s (pc' := 93) (lo' := [some (.ref 62), some (.int 7)]) rfl rfl rfl rfl ?_
    refine go_s (pc' := 53) rfl rfl rfl rfl ?_
    have hc9 : rwkc I Q 6 = false := by
      unfold rwkc
      rw [hQ]
      rfl
    rw [rwk_n hc9] at C
    exact C _ hA
  | cons m q =>
    obtain ⟨hk55, hle, hxx⟩ := RU_lk (l := 6) hU (by decide)
    obtain ⟨x, h53, hx, hk2, hk3, hk0, hk1⟩ := hxx m q hQ
    rw [hQ] at hk55 hle
    have h55 : K 55 6 = nI (q.length + 1) := hk55
    have hle2 : q.length + 1 ≤ ln := hle
    rcases htri with hb25 | hb25 | hb25
    · skip
      refine go_s (pc' := 54) rfl rfl rfl rfl ?_
      refine go_s (pc' := 55) (st' := [.int 16, .int 6]) rfl rfl rfl rfl ?_
      refine go_icmpP (t' := 94) (pc' := 56) rfl rfl rfl (fun (c : 16 ≤ (6 : Int32)) => absurd c (by decide)) (fun _ => ?_)
      refine go_s (pc' := 57) rfl rfl rfl rfl ?_
      refine go_sget (pc' := 58) (v := .ref 74) hS rfl rfl rfl (by decide) rfl rfl ?_
      refine go_s (pc' := 59) rfl rfl rfl rfl ?_
      refine go_sald (pc' := 60) (q := 6) (v := .int (nI (q.length + 1))) hS rfl (tr_s hr (a := 74) rfl (by decide)) rfl rfl (by decide) (congrArg Value.int h55) rfl ?_
      refine go_ifP (t' := 92) (pc' := 61) rfl rfl rfl (fun (c : (nI (q.length + 1)) ≤ 0) => absurd c (nI_p1 (by omega))) (fun _ => ?_)
      refine go_s (pc' := 62) rfl rfl rfl rfl ?_
      refine go_sget (pc' := 63) (v := .ref am) hS rfl rfl rfl (by decide) rfl rfl ?_
      refine go_s (pc' := 64) rfl rfl rfl rfl ?_
      refine go_sget (pc' := 65) (v := .ref 72) hS rfl rfl rfl (by decide) rfl rfl ?_
      refine go_s (pc' := 66) rfl rfl rfl rfl ?_
      refine go_sald (pc' := 67) (q := 6) (v := .int (nI (13 * x))) hS rfl (tr_s hr (a := 72) rfl (by decide)) rfl rfl (by decide) (congrArg Value.int h53) rfl ?_
      refine go_s (pc' := 68) (st' := [.int 2, .int (nI (13 * x)), .ref am]) rfl rfl rfl rfl ?_
      refine go_nadd (pc' := 69) (a := (13 * x)) (b := 2) rfl rfl rfl rfl rfl ?_
      refine go_sald (pc' := 70) (q := ((13 * x) + 2)) (v := .int (I 24 6)) hS rfl (tr_ms hr (by omega)) rfl rfl (by omega) (congrArg Value.int (hk2.trans rwk_at)) rfl ?_
      refine go_s (pc' := 71) (st' := [.int (-1), .int (I 24 6)]) rfl rfl rfl rfl ?_
      refine go_icmpP (t' := 92) (pc' := 72) rfl rfl rfl (fun (c1 : ¬ (I 24 6) = (-1)) => ?_) (fun (c1' : ¬ ¬ (I 24 6) = (-1)) => ?_)
      · skip
        refine go_s (pc' := 93) (lo' := [some (.ref 62), some (.int 7)]) rfl rfl rfl rfl ?_
        refine go_s (pc' := 53) rfl rfl rfl rfl ?_
        have hc9 : rwkc I Q 6 = false := by
          unfold rwkc
          simp [show ¬ I 24 6 = -1 from c1]
        rw [rwk_n hc9] at C
        exact C _ hA
      · skip
        have c1 : (I 24 6) = (-1) := Decidable.not_not.mp c1'
        refine go_s (pc' := 73) rfl rfl rfl rfl ?_
        refine go_sget (pc' := 74) (v := .ref 63) hS rfl rfl rfl (by decide) rfl rfl ?_
        refine go_s (pc' := 75) rfl rfl rfl rfl ?_
        refine go_s (pc' := 76) (st' := [.int 4, .int 6, .ref 63]) rfl rfl rfl rfl ?_
        refine go_s (pc' := 77) (st' := [.int 1, .ref 63]) rfl rfl rfl rfl ?_
        refine go_sald (pc' := 78) (q := 1) (v := .int ((rwkI I Q 6) 0 1)) hS rfl (tr_s hr (a := 63) rfl (by decide)) rfl rfl (by decide) rfl rfl ?_
        refine go_ifP (t' := 92) (pc' := 79) rfl rfl rfl (fun (c2 : ((rwkI I Q 6) 0 1) = 0) => ?_) (fun (c2 : ¬ ((rwkI I Q 6) 0 1) = 0) => ?_)
        · skip
          refine go_s (pc' := 93) (lo' := [some (.ref 62), some (.int 7)]) rfl rfl rfl rfl ?_
          refine go_s (pc' := 53) rfl rfl rfl rfl ?_
          have hc9 : rwkc I Q 6 = false := by
            unfold rwkc
            simp [show I 0 (6 / 4) = 0 from c2]
          rw [rwk_n hc9] at C
          exact C _ hA
        · skip
          refine go_s (pc' := 80) rfl rfl rfl rfl ?_
          refine go_sget (pc' := 81) (v := .ref 63) hS rfl rfl rfl (by decide) rfl rfl ?_
          refine go_s (pc' := 82) rfl rfl rfl rfl ?_
          refine go_s (pc' := 83) (st' := [.int 4, .int 6, .ref 63]) rfl rfl rfl rfl ?_
          refine go_s (pc' := 84) (st' := [.int 2, .ref 63]) rfl rfl rfl rfl ?_
          refine go_sald (pc' := 85) (q := 2) (v := .int ((rwkI I Q 6) 0 2)) hS rfl (tr_s hr (a := 63) rfl (by decide)) rfl rfl (by decide) rfl rfl ?_
          refine go_ifP (t' := 92) (pc' := 86) rfl rfl rfl (fun (c3 : ((rwkI I Q 6) 0 2) = 0) => ?_) (fun (c3 : ¬ ((rwkI I Q 6) 0 2) = 0) => ?_)
          · skip
            refine go_s (pc' := 93) (lo' := [some (.ref 62), some (.int 7)]) rfl rfl rfl rfl ?_
            refine go_s (pc' := 53) rfl rfl rfl rfl ?_
            have hc9 : rwkc I Q 6 = false := by
              unfold rwkc
              simp [show I 0 (6 % 4) = 0 from c3]
            rw [rwk_n hc9] at C
            exact C _ hA
          · skip
            refine go_s (pc' := 87) rfl rfl rfl rfl ?_
            refine go_s (pc' := 88) rfl rfl rfl rfl ?_
            refine go_sget (pc' := 89) (v := .ref 72) hS rfl rfl rfl (by decide) rfl rfl ?_
            refine go_s (pc' := 90) rfl rfl rfl rfl ?_
            refine go_sald (pc' := 91) (q := 6) (v := .int (nI (13 * x))) hS rfl (tr_s hr (a := 72) rfl (by decide)) rfl rfl (by decide) (congrArg Value.int h53) rfl ?_
            have hU4 : RU w B R [] true h am ln K ((rwkI I Q 6), Q, Z) := RU_I (sm_e_refl (tbr am (13 * ln) 77 5088) _) (I' := (rwkI I Q 6)) (fun _ => rfl) (fun _ => rfl) (Nat.le_refl _) hU
            refine go_callV (pc' := 92) rfl rfl rfl (Nat.le_of_ble_eq_true rfl) rfl (sm_o hS rfl) rfl rfl rfl (rt_boards_m hr hS hW hWm (m := 13 * x) (by omega) (by omega) (hk3.trans (rwk_at.trans hb25)) (by omega)) (fun r h5 q6 => ?_)
            obtain ⟨rfl, hS7, hE8⟩ := q6
            rw [show nxb (jn (rwkI I Q 6) K) (-1) = nxb I (-1) from rwk_nb (Q := Q) (n := 6)] at hS7
            refine go_s (pc' := 93) (lo' := [some (.ref 62), some (.int 7)]) rfl rfl rfl rfl ?_
            refine go_s (pc' := 53) rfl rfl rfl rfl ?_
            by_cases hnb : nxb I (-1) = -1
            · rw [if_pos hnb] at hS7
              have hc9 : rwkc I Q 6 = false := by
                unfold rwkc
                rw [hb25]
                simp [hnb]
              rw [rwk_n hc9] at C
              exact C _ (RA_u.mpr ⟨K, Y, am, ln, hS7, RU_I hE8 (fun _ => rfl) (fun _ => rfl) (Nat.le_refl _) hU4⟩)
            · rw [if_neg hnb] at hS7
              have hc9 : rwkc I Q 6 = true := by
                unfold rwkc
                rw [hQ, hb25]
                simp [hnb, show I 24 6 = -1 from c1, show ¬ I 0 (6 / 4) = 0 from c2, show ¬ I 0 (6 % 4) = 0 from c3]
              rw [rwk_y hc9, hb25] at C
              rw [jn_hi (c := 50) (by decide), jn_hi (c := 50) (by decide)] at hS7
              exact C _ (RA_u.mpr ⟨_, Y, am, ln, sm_jg hr hS7 (fun c j _ n1 n2 _ => (uI_c n2).trans (uI_c n1)), RU_bus (by decide) hU4 hln hE8 hQ h53 hx (fun i hi => by rw [uI_c (by decide), uI_j hi]) (fun i hi => by rw [uI_j hi, uI_c (by decide)]) rfl (fun c j _ hc => by
                simp only [uI]
                rw [if_neg (fun z => hc ⟨z.1, Or.inr z.2⟩), if_neg (fun z => hc ⟨z.1, Or.inl z.2⟩)]) (by rw [uI_j (by omega), uI_s, uI_c (by decide), uI_s]) (by rw [uI_s, uI_s])⟩)
    · skip
      refine go_s (pc' := 54) rfl rfl rfl rfl ?_
      refine go_s (pc' := 55) (st' := [.int 16, .int 6]) rfl rfl rfl rfl ?_
      refine go_icmpP (t' := 94) (pc' := 56) rfl rfl rfl (fun (c : 16 ≤ (6 : Int32)) => absurd c (by decide)) (fun _ => ?_)
      refine go_s (pc' := 57) rfl rfl rfl rfl ?_
      refine go_sget (pc' := 58) (v := .ref 74) hS rfl rfl rfl (by decide) rfl rfl ?_
      refine go_s (pc' := 59) rfl rfl rfl rfl ?_
      refine go_sald (pc' := 60) (q := 6) (v := .int (nI (q.length + 1))) hS rfl (tr_s hr (a := 74) rfl (by decide)) rfl rfl (by decide) (congrArg Value.int h55) rfl ?_
      refine go_ifP (t' := 92) (pc' := 61) rfl rfl rfl (fun (c : (nI (q.length + 1)) ≤ 0) => absurd c (nI_p1 (by omega))) (fun _ => ?_)
      refine go_s (pc' := 62) rfl rfl rfl rfl ?_
      refine go_sget (pc' := 63) (v := .ref am) hS rfl rfl rfl (by decide) rfl rfl ?_
      refine go_s (pc' := 64) rfl rfl rfl rfl ?_
      refine go_sget (pc' := 65) (v := .ref 72) hS rfl rfl rfl (by decide) rfl rfl ?_
      refine go_s (pc' := 66) rfl rfl rfl rfl ?_
      refine go_sald (pc' := 67) (q := 6) (v := .int (nI (13 * x))) hS rfl (tr_s hr (a := 72) rfl (by decide)) rfl rfl (by decide) (congrArg Value.int h53) rfl ?_
      refine go_s (pc' := 68) (st' := [.int 2, .int (nI (13 * x)), .ref am]) rfl rfl rfl rfl ?_
      refine go_nadd (pc' := 69) (a := (13 * x)) (b := 2) rfl rfl rfl rfl rfl ?_
      refine go_sald (pc' := 70) (q := ((13 * x) + 2)) (v := .int (I 24 6)) hS rfl (tr_ms hr (by omega)) rfl rfl (by omega) (congrArg Value.int (hk2.trans rwk_at)) rfl ?_
      refine go_s (pc' := 71) (st' := [.int (-1), .int (I 24 6)]) rfl rfl rfl rfl ?_
      refine go_icmpP (t' := 92) (pc' := 72) rfl rfl rfl (fun (c9 : ¬ (I 24 6) = (-1)) => ?_) (fun (c9' : ¬ ¬ (I 24 6) = (-1)) => ?_)
      · skip
        refine go_s (pc' := 93) (lo' := [some (.ref 62), some (.int 7)]) rfl rfl rfl rfl ?_
        refine go_s (pc' := 53) rfl rfl rfl rfl ?_
        have hc9 : rwkc I Q 6 = false := by
          unfold rwkc
          simp [show ¬ I 24 6 = -1 from c9]
        rw [rwk_n hc9] at C
        exact C _ hA
      · skip
        have c9 : (I 24 6) = (-1) := Decidable.not_not.mp c9'
        refine go_s (pc' := 73) rfl rfl rfl rfl ?_
        refine go_sget (pc' := 74) (v := .ref 63) hS rfl rfl rfl (by decide) rfl rfl ?_
        refine go_s (pc' := 75) rfl rfl rfl rfl ?_
        refine go_s (pc' := 76) (st' := [.int 4, .int 6, .ref 63]) rfl rfl rfl rfl ?_
        refine go_s (pc' := 77) (st' := [.int 1, .ref 63]) rfl rfl rfl rfl ?_
        refine go_sald (pc' := 78) (q := 1) (v := .int ((rwkI I Q 6) 0 1)) hS rfl (tr_s hr (a := 63) rfl (by decide)) rfl rfl (by decide) rfl rfl ?_
        refine go_ifP (t' := 92) (pc' := 79) rfl rfl rfl (fun (c10 : ((rwkI I Q 6) 0 1) = 0) => ?_) (fun (c10 : ¬ ((rwkI I Q 6) 0 1) = 0) => ?_)
        · skip
          refine go_s (pc' := 93) (lo' := [some (.ref 62), some (.int 7)]) rfl rfl rfl rfl ?_
          refine go_s (pc' := 53) rfl rfl rfl rfl ?_
          have hc9 : rwkc I Q 6 = false := by
            unfold rwkc
            simp [show I 0 (6 / 4) = 0 from c10]
          rw [rwk_n hc9] at C
          exact C _ hA
        · skip
          refine go_s (pc' := 80) rfl rfl rfl rfl ?_
          refine go_sget (pc' := 81) (v := .ref 63) hS rfl rfl rfl (by decide) rfl rfl ?_
          refine go_s (pc' := 82) rfl rfl rfl rfl ?_
          refine go_s (pc' := 83) (st' := [.int 4, .int 6, .ref 63]) rfl rfl rfl rfl ?_
          refine go_s (pc' := 84) (st' := [.int 2, .ref 63]) rfl rfl rfl rfl ?_
          refine go_sald (pc' := 85) (q := 2) (v := .int ((rwkI I Q 6) 0 2)) hS rfl (tr_s hr (a := 63) rfl (by decide)) rfl rfl (by decide) rfl rfl ?_
          refine go_ifP (t' := 92) (pc' := 86) rfl rfl rfl (fun (c11 : ((rwkI I Q 6) 0 2) = 0) => ?_) (fun (c11 : ¬ ((rwkI I Q 6) 0 2) = 0) => ?_)
          · skip
            refine go_s (pc' := 93) (lo' := [some (.ref 62), some (.int 7)]) rfl rfl rfl rfl ?_
            refine go_s (pc' := 53) rfl rfl rfl rfl ?_
            have hc9 : rwkc I Q 6 = false := by
              unfold rwkc
              simp [show I 0 (6 % 4) = 0 from c11]
            rw [rwk_n hc9] at C
            exact C _ hA
          · skip
            refine go_s (pc' := 87) rfl rfl rfl rfl ?_
            refine go_s (pc' := 88) rfl rfl rfl rfl ?_
            refine go_sget (pc' := 89) (v := .ref 72) hS rfl rfl rfl (by decide) rfl rfl ?_
            refine go_s (pc' := 90) rfl rfl rfl rfl ?_
            refine go_sald (pc' := 91) (q := 6) (v := .int (nI (13 * x))) hS rfl (tr_s hr (a := 72) rfl (by decide)) rfl rfl (by decide) (congrArg Value.int h53) rfl ?_
            have hU12 : RU w B R [] true h am ln K ((rwkI I Q 6), Q, Z) := RU_I (sm_e_refl (tbr am (13 * ln) 77 5088) _) (I' := (rwkI I Q 6)) (fun _ => rfl) (fun _ => rfl) (Nat.le_refl _) hU
            refine go_callV (pc' := 92) rfl rfl rfl (Nat.le_of_ble_eq_true rfl) rfl (sm_o hS rfl) rfl rfl rfl (rt_boards_0 hr hS hW hWm (m := 13 * x) (by omega) (by omega) (hk3.trans (rwk_at.trans hb25)) (by omega)) (fun r h13 q14 => ?_)
            obtain ⟨rfl, hS15, hE16⟩ := q14
            rw [show nxb (jn (rwkI I Q 6) K) 0 = nxb I 0 from rwk_nb (Q := Q) (n := 6)] at hS15
            refine go_s (pc' := 93) (lo' := [some (.ref 62), some (.int 7)]) rfl rfl rfl rfl ?_
            refine go_s (pc' := 53) rfl rfl rfl rfl ?_
            by_cases hnb : nxb I 0 = -1
            · rw [if_pos hnb] at hS15
              have hc9 : rwkc I Q 6 = false := by
                unfold rwkc
                rw [hb25]
                simp [hnb]
              rw [rwk_n hc9] at C
              exact C _ (RA_u.mpr ⟨K, Y, am, ln, hS15, RU_I hE16 (fun _ => rfl) (fun _ => rfl) (Nat.le_refl _) hU12⟩)
            · rw [if_neg hnb] at hS15
              have hc9 : rwkc I Q 6 = true := by
                unfold rwkc
                rw [hQ, hb25]
                simp [hnb, show I 24 6 = -1 from c9, show ¬ I 0 (6 / 4) = 0 from c10, show ¬ I 0 (6 % 4) = 0 from c11]
              rw [rwk_y hc9, hb25] at C
              rw [jn_hi (c := 50) (by decide), jn_hi (c := 50) (by decide)] at hS15
              exact C _ (RA_u.mpr ⟨_, Y, am, ln, sm_jg hr hS15 (fun c j _ n1 n2 _ => (uI_c n2).trans (uI_c n1)), RU_bus (by decide) hU12 hln hE16 hQ h53 hx (fun i hi => by rw [uI_c (by decide), uI_j hi]) (fun i hi => by rw [uI_j hi, uI_c (by decide)]) rfl (fun c j _ hc => by
                simp only [uI]
                rw [if_neg (fun z => hc ⟨z.1, Or.inr z.2⟩), if_neg (fun z => hc ⟨z.1, Or.inl z.2⟩)]) (by rw [uI_j (by omega), uI_s, uI_c (by decide), uI_s]) (by rw [uI_s, uI_s])⟩)
    · skip
      refine go_s (pc' := 54) rfl rfl rfl rfl ?_
      refine go_s (pc' := 55) (st' := [.int 16, .int 6]) rfl rfl rfl rfl ?_
      refine go_icmpP (t' := 94) (pc' := 56) rfl rfl rfl (fun (c : 16 ≤ (6 : Int32)) => absurd c (by decide)) (fun _ => ?_)
      refine go_s (pc' := 57) rfl rfl rfl rfl ?_
      refine go_sget (pc' := 58) (v := .ref 74) hS rfl rfl rfl (by decide) rfl rfl ?_
      refine go_s (pc' := 59) rfl rfl rfl rfl ?_
      refine go_sald (pc' := 60) (q := 6) (v := .int (nI (q.length + 1))) hS rfl (tr_s hr (a := 74) rfl (by decide)) rfl rfl (by decide) (congrArg Value.int h55) rfl ?_
      refine go_ifP (t' := 92) (pc' := 61) rfl rfl rfl (fun (c : (nI (q.length + 1)) ≤ 0) => absurd c (nI_p1 (by omega))) (fun _ => ?_)
      refine go_s (pc' := 62) rfl rfl rfl rfl ?_
      refine go_sget (pc' := 63) (v := .ref am) hS rfl rfl rfl (by decide) rfl rfl ?_
      refine go_s (pc' := 64) rfl rfl rfl rfl ?_
      refine go_sget (pc' := 65) (v := .ref 72) hS rfl rfl rfl (by decide) rfl rfl ?_
      refine go_s (pc' := 66) rfl rfl rfl rfl ?_
      refine go_sald (pc' := 67) (q := 6) (v := .int (nI (13 * x))) hS rfl (tr_s hr (a := 72) rfl (by decide)) rfl rfl (by decide) (congrArg Value.int h53) rfl ?_
      refine go_s (pc' := 68) (st' := [.int 2, .int (nI (13 * x)), .ref am]) rfl rfl rfl rfl ?_
      refine go_nadd (pc' := 69) (a := (13 * x)) (b := 2) rfl rfl rfl rfl rfl ?_
      refine go_sald (pc' := 70) (q := ((13 * x) + 2)) (v := .int (I 24 6)) hS rfl (tr_ms hr (by omega)) rfl rfl (by omega) (congrArg Value.int (hk2.trans rwk_at)) rfl ?_
      refine go_s (pc' := 71) (st' := [.int (-1), .int (I 24 6)]) rfl rfl rfl rfl ?_
      refine go_icmpP (t' := 92) (pc' := 72) rfl rfl rfl (fun (c17 : ¬ (I 24 6) = (-1)) => ?_) (fun (c17' : ¬ ¬ (I 24 6) = (-1)) => ?_)
      · skip
        refine go_s (pc' := 93) (lo' := [some (.ref 62), some (.int 7)]) rfl rfl rfl rfl ?_
        refine go_s (pc' := 53) rfl rfl rfl rfl ?_
        have hc9 : rwkc I Q 6 = false := by
          unfold rwkc
          simp [show ¬ I 24 6 = -1 from c17]
        rw [rwk_n hc9] at C
        exact C _ hA
      · skip
        have c17 : (I 24 6) = (-1) := Decidable.not_not.mp c17'
        refine go_s (pc' := 73) rfl rfl rfl rfl ?_
        refine go_sget (pc' := 74) (v := .ref 63) hS rfl rfl rfl (by decide) rfl rfl ?_
        refine go_s (pc' := 75) rfl rfl rfl rfl ?_
        refine go_s (pc' := 76) (st' := [.int 4, .int 6, .ref 63]) rfl rfl rfl rfl ?_
        refine go_s (pc' := 77) (st' := [.int 1, .ref 63]) rfl rfl rfl rfl ?_
        refine go_sald (pc' := 78) (q := 1) (v := .int ((rwkI I Q 6) 0 1)) hS rfl (tr_s hr (a := 63) rfl (by decide)) rfl rfl (by decide) rfl rfl ?_
        refine go_ifP (t' := 92) (pc' := 79) rfl rfl rfl (fun (c18 : ((rwkI I Q 6) 0 1) = 0) => ?_) (fun (c18 : ¬ ((rwkI I Q 6) 0 1) = 0) => ?_)
        · skip
          refine go_s (pc' := 93) (lo' := [some (.ref 62), some (.int 7)]) rfl rfl rfl rfl ?_
          refine go_s (pc' := 53) rfl rfl rfl rfl ?_
          have hc9 : rwkc I Q 6 = false := by
            unfold rwkc
            simp [show I 0 (6 / 4) = 0 from c18]
          rw [rwk_n hc9] at C
          exact C _ hA
        · skip
          refine go_s (pc' := 80) rfl rfl rfl rfl ?_
          refine go_sget (pc' := 81) (v := .ref 63) hS rfl rfl rfl (by decide) rfl rfl ?_
          refine go_s (pc' := 82) rfl rfl rfl rfl ?_
          refine go_s (pc' := 83) (st' := [.int 4, .int 6, .ref 63]) rfl rfl rfl rfl ?_
          refine go_s (pc' := 84) (st' := [.int 2, .ref 63]) rfl rfl rfl rfl ?_
          refine go_sald (pc' := 85) (q := 2) (v := .int ((rwkI I Q 6) 0 2)) hS rfl (tr_s hr (a := 63) rfl (by decide)) rfl rfl (by decide) rfl rfl ?_
          refine go_ifP (t' := 92) (pc' := 86) rfl rfl rfl (fun (c19 : ((rwkI I Q 6) 0 2) = 0) => ?_) (fun (c19 : ¬ ((rwkI I Q 6) 0 2) = 0) => ?_)
          · skip
            refine go_s (pc' := 93) (lo' := [some (.ref 62), some (.int 7)]) rfl rfl rfl rfl ?_
            refine go_s (pc' := 53) rfl rfl rfl rfl ?_
            have hc9 : rwkc I Q 6 = false := by
              unfold rwkc
              simp [show I 0 (6 % 4) = 0 from c19]
            rw [rwk_n hc9] at C
            exact C _ hA
          · skip
            refine go_s (pc' := 87) rfl rfl rfl rfl ?_
            refine go_s (pc' := 88) rfl rfl rfl rfl ?_
            refine go_sget (pc' := 89) (v := .ref 72) hS rfl rfl rfl (by decide) rfl rfl ?_
            refine go_s (pc' := 90) rfl rfl rfl rfl ?_
            refine go_sald (pc' := 91) (q := 6) (v := .int (nI (13 * x))) hS rfl (tr_s hr (a := 72) rfl (by decide)) rfl rfl (by decide) (congrArg Value.int h53) rfl ?_
            have hU20 : RU w B R [] true h am ln K ((rwkI I Q 6), Q, Z) := RU_I (sm_e_refl (tbr am (13 * ln) 77 5088) _) (I' := (rwkI I Q 6)) (fun _ => rfl) (fun _ => rfl) (Nat.le_refl _) hU
            refine go_callV (pc' := 92) rfl rfl rfl (Nat.le_of_ble_eq_true rfl) rfl (sm_o hS rfl) rfl rfl rfl (rt_boards_1 hr hS hW hWm (m := 13 * x) (by omega) (by omega) (hk3.trans (rwk_at.trans hb25)) (by omega)) (fun r h21 q22 => ?_)
            obtain ⟨rfl, hS23, hE24⟩ := q22
            rw [show nxb (jn (rwkI I Q 6) K) 1 = nxb I 1 from rwk_nb (Q := Q) (n := 6)] at hS23
            refine go_s (pc' := 93) (lo' := [some (.ref 62), some (.int 7)]) rfl rfl rfl rfl ?_
            refine go_s (pc' := 53) rfl rfl rfl rfl ?_
            by_cases hnb : nxb I 1 = -1
            · rw [if_pos hnb] at hS23
              have hc9 : rwkc I Q 6 = false := by
                unfold rwkc
                rw [hb25]
                simp [hnb]
              rw [rwk_n hc9] at C
              exact C _ (RA_u.mpr ⟨K, Y, am, ln, hS23, RU_I hE24 (fun _ => rfl) (fun _ => rfl) (Nat.le_refl _) hU20⟩)
            · rw [if_neg hnb] at hS23
              have hc9 : rwkc I Q 6 = true := by
                unfold rwkc
                rw [hQ, hb25]
                simp [hnb, show I 24 6 = -1 from c17, show ¬ I 0 (6 / 4) = 0 from c18, show ¬ I 0 (6 % 4) = 0 from c19]
              rw [rwk_y hc9, hb25] at C
              rw [jn_hi (c := 50) (by decide), jn_hi (c := 50) (by decide)] at hS23
              exact C _ (RA_u.mpr ⟨_, Y, am, ln, sm_jg hr hS23 (fun c j _ n1 n2 _ => (uI_c n2).trans (uI_c n1)), RU_bus (by decide) hU20 hln hE24 hQ h53 hx (fun i hi => by rw [uI_c (by decide), uI_j hi]) (fun i hi => by rw [uI_j hi, uI_c (by decide)]) rfl (fun c j _ hc => by
                simp only [uI]
                rw [if_neg (fun z => hc ⟨z.1, Or.inr z.2⟩), if_neg (fun z => hc ⟨z.1, Or.inl z.2⟩)]) (by rw [uI_j (by omega), uI_s, uI_c (by decide), uI_s]) (by rw [uI_s, uI_s])⟩)
theorem stW_7 {w : Nat → Bool} {d B R : Nat} {h : am_Hp} {I : sm_I} {Q : mQ} {Z : mZ} {P : Option Value → am_Hp → Prop} (hA : RA w B R [] true h (rwkI I Q 7, Q, Z)) (hR : R + 0 < 40000) (htri : tri (I 25 7)) (hd : 2 ≤ d) (C : ∀ h', RA w B (R + 0) [] true h' (rwkI I Q 8, Q, Z) → am_Go (am_prog w) d am_c168 (some .int) 53 [some (.ref 62), some (.int 8)] [] h' P) : am_Go (am_prog w) d am_c168 (some .int) 53 [some (.ref 62), some (.int 7)] [] h P := by
  obtain ⟨K, Y, am, ln, hS, hU⟩ := RA_u.mp hA
  change sm (tbr am (13 * ln) 77 5088) h (jn (rwkI I Q 7) K) Y at hS
  obtain ⟨hW, hWm, -, -, hr, -⟩ := id hU.1
  have hln := RU_ln hU (by omega)
  cases hQ : Q 7 with
  | nil =>
    have h55 : K 55 7 = 0 := by
      have z := (RU_lk (l := 7) hU (by decide)).1
      rw [hQ] at z
      exact z
    refine go_s (pc' := 54) rfl rfl rfl rfl ?_
    refine go_s (pc' := 55) (st' := [.int 16, .int 7]) rfl rfl rfl rfl ?_
    refine go_icmpP (t' := 94) (pc' := 56) rfl rfl rfl (fun (c : 16 ≤ (7 : Int32)) => absurd c (by decide)) (fun _ => ?_)
    refine go_s (pc' := 57) rfl rfl rfl rfl ?_
    refine go_sget (pc' := 58) (v := .ref 74) hS rfl rfl rfl (by decide) rfl rfl ?_
    refine go_s (pc' := 59) rfl rfl rfl rfl ?_
    refine go_sald (pc' := 60) (q := 7) (v := .int 0) hS rfl (tr_s hr (a := 74) rfl (by decide)) rfl rfl (by decide) (congrArg Value.int h55) rfl ?_
    refine go_ifP (t' := 92) (pc' := 61) rfl rfl rfl (fun _ => ?_) (fun (c : ¬ ((0 : Int32) ≤ 0)) => absurd (by decide) c)
    refine go_s (pc' := 93) (lo' := [some (.ref 62), some (.int 8)]) rfl rfl rfl rfl ?_
    refine go_s (pc' := 53) rfl rfl rfl rfl ?_
    have hc9 : rwkc I Q 7 = false := by
      unfold rwkc
      rw [hQ]
      rfl
    rw [rwk_n hc9] at C
    exact C _ hA
  | cons m q =>
    obtain ⟨hk55, hle, hxx⟩ := RU_lk (l := 7) hU (by decide)
    obtain ⟨x, h53, hx, hk2, hk3, hk0, hk1⟩ := hxx m q hQ
    rw [hQ] at hk55 hle
    have h55 : K 55 7 = nI (q.length + 1) := hk55
    have hle2 : q.length + 1 ≤ ln := hle
    rcases htri with hb25 | hb25 | hb25
    · skip
      refine go_s (pc' := 54) rfl rfl rfl rfl ?_
      refine go_s (pc' := 55) (st' := [.int 16, .int 7]) rfl rfl rfl rfl ?_
      refine go_icmpP (t' := 94) (pc' := 56) rfl rfl rfl (fun (c : 16 ≤ (7 : Int32)) => absurd c (by decide)) (fun _ => ?_)
      refine go_s (pc' := 57) rfl rfl rfl rfl ?_
      refine go_sget (pc' := 58) (v := .ref 74) hS rfl rfl rfl (by decide) rfl rfl ?_
      refine go_s (pc' := 59) rfl rfl rfl rfl ?_
      refine go_sald (pc' := 60) (q := 7) (v := .int (nI (q.length + 1))) hS rfl (tr_s hr (a := 74) rfl (by decide)) rfl rfl (by decide) (congrArg Value.int h55) rfl ?_
      refine go_ifP (t' := 92) (pc' := 61) rfl rfl rfl (fun (c : (nI (q.length + 1)) ≤ 0) => absurd c (nI_p1 (by omega))) (fun _ => ?_)
      refine go_s (pc' := 62) rfl rfl rfl rfl ?_
      refine go_sget (pc' := 63) (v := .ref am) hS rfl rfl rfl (by decide) rfl rfl ?_
      refine go_s (pc' := 64) rfl rfl rfl rfl ?_
      refine go_sget (pc' := 65) (v := .ref 72) hS rfl rfl rfl (by decide) rfl rfl ?_
      refine go_s (pc' := 66) rfl rfl rfl rfl ?_
      refine go_sald (pc' := 67) (q := 7) (v := .int (nI (13 * x))) hS rfl (tr_s hr (a := 72) rfl (by decide)) rfl rfl (by decide) (congrArg Value.int h53) rfl ?_
      refine go_s (pc' := 68) (st' := [.int 2, .int (nI (13 * x)), .ref am]) rfl rfl rfl rfl ?_
      refine go_nadd (pc' := 69) (a := (13 * x)) (b := 2) rfl rfl rfl rfl rfl ?_
      refine go_sald (pc' := 70) (q := ((13 * x) + 2)) (v := .int (I 24 7)) hS rfl (tr_ms hr (by omega)) rfl rfl (by omega) (congrArg Value.int (hk2.trans rwk_at)) rfl ?_
      refine go_s (pc' := 71) (st' := [.int (-1), .int (I 24 7)]) rfl rfl rfl rfl ?_
      refine go_icmpP (t' := 92) (pc' := 72) rfl rfl rfl (fun (c1 : ¬ (I 24 7) = (-1)) => ?_) (fun (c1' : ¬ ¬ (I 24 7) = (-1)) => ?_)
      · skip
        refine go_s (pc' := 93) (lo' := [some (.ref 62), some (.int 8)]) rfl rfl rfl rfl ?_
        refine go_s (pc' := 53) rfl rfl rfl rfl ?_
        have hc9 : rwkc I Q 7 = false := by
          unfold rwkc
          simp [show ¬ I 24 7 = -1 from c1]
        rw [rwk_n hc9] at C
        exact C _ hA
      · skip
        have c1 : (I 24 7) = (-1) := Decidable.not_not.mp c1'
        refine go_s (pc' := 73) rfl rfl rfl rfl ?_
        refine go_sget (pc' := 74) (v := .ref 63) hS rfl rfl rfl (by decide) rfl rfl ?_
        refine go_s (pc' := 75) rfl rfl rfl rfl ?_
        refine go_s (pc' := 76) (st' := [.int 4, .int 7, .ref 63]) rfl rfl rfl rfl ?_
        refine go_s (pc' := 77) (st' := [.int 1, .ref 63]) rfl rfl rfl rfl ?_
        refine go_sald (pc' := 78) (q := 1) (v := .int ((rwkI I Q 7) 0 1)) hS rfl (tr_s hr (a := 63) rfl (by decide)) rfl rfl (by decide) rfl rfl ?_
        refine go_ifP (t' := 92) (pc' := 79) rfl rfl rfl (fun (c2 : ((rwkI I Q 7) 0 1) = 0) => ?_) (fun (c2 : ¬ ((rwkI I Q 7) 0 1) = 0) => ?_)
        · skip
          refine go_s (pc' := 93) (lo' := [some (.ref 62), some (.int 8)]) rfl rfl rfl rfl ?_
          refine go_s (pc' := 53) rfl rfl rfl rfl ?_
          have hc9 : rwkc I Q 7 = false := by
            unfold rwkc
            simp [show I 0 (7 / 4) = 0 from c2]
          rw [rwk_n hc9] at C
          exact C _ hA
        · skip
          refine go_s (pc' := 80) rfl rfl rfl rfl ?_
          refine go_sget (pc' := 81) (v := .ref 63) hS rfl rfl rfl (by decide) rfl rfl ?_
          refine go_s (pc' := 82) rfl rfl rfl rfl ?_
          refine go_s (pc' := 83) (st' := [.int 4, .int 7, .ref 63]) rfl rfl rfl rfl ?_
          refine go_s (pc' := 84) (st' := [.int 3, .ref 63]) rfl rfl rfl rfl ?_
          refine go_sald (pc' := 85) (q := 3) (v := .int ((rwkI I Q 7) 0 3)) hS rfl (tr_s hr (a := 63) rfl (by decide)) rfl rfl (by decide) rfl rfl ?_
          refine go_ifP (t' := 92) (pc' := 86) rfl rfl rfl (fun (c3 : ((rwkI I Q 7) 0 3) = 0) => ?_) (fun (c3 : ¬ ((rwkI I Q 7) 0 3) = 0) => ?_)
          · skip
            refine go_s (pc' := 93) (lo' := [some (.ref 62), some (.int 8)]) rfl rfl rfl rfl ?_
            refine go_s (pc' := 53) rfl rfl rfl rfl ?_
            have hc9 : rwkc I Q 7 = false := by
              unfold rwkc
              simp [show I 0 (7 % 4) = 0 from c3]
            rw [rwk_n hc9] at C
            exact C _ hA
          · skip
            refine go_s (pc' := 87) rfl rfl rfl rfl ?_
            refine go_s (pc' := 88) rfl rfl rfl rfl ?_
            refine go_sget (pc' := 89) (v := .ref 72) hS rfl rfl rfl (by decide) rfl rfl ?_
            refine go_s (pc' := 90) rfl rfl rfl rfl ?_
            refine go_sald (pc' := 91) (q := 7) (v := .int (nI (13 * x))) hS rfl (tr_s hr (a := 72) rfl (by decide)) rfl rfl (by decide) (congrArg Value.int h53) rfl ?_
            have hU4 : RU w B R [] true h am ln K ((rwkI I Q 7), Q, Z) := RU_I (sm_e_refl (tbr am (13 * ln) 77 5088) _) (I' := (rwkI I Q 7)) (fun _ => rfl) (fun _ => rfl) (Nat.le_refl _) hU
            refine go_callV (pc' := 92) rfl rfl rfl (Nat.le_of_ble_eq_true rfl) rfl (sm_o hS rfl) rfl rfl rfl (rt_boards_m hr hS hW hWm (m := 13 * x) (by omega) (by omega) (hk3.trans (rwk_at.trans hb25)) (by omega)) (fun r h5 q6 => ?_)
            obtain ⟨rfl, hS7, hE8⟩ := q6
            rw [show nxb (jn (rwkI I Q 7) K) (-1) = nxb I (-1) from rwk_nb (Q := Q) (n := 7)] at hS7
            refine go_s (pc' := 93) (lo' := [some (.ref 62), some (.int 8)]) rfl rfl rfl rfl ?_
            refine go_s (pc' := 53) rfl rfl rfl rfl ?_
            by_cases hnb : nxb I (-1) = -1
            · rw [if_pos hnb] at hS7
              have hc9 : rwkc I Q 7 = false := by
                unfold rwkc
                rw [hb25]
                simp [hnb]
              rw [rwk_n hc9] at C
              exact C _ (RA_u.mpr ⟨K, Y, am, ln, hS7, RU_I hE8 (fun _ => rfl) (fun _ => rfl) (Nat.le_refl _) hU4⟩)
            · rw [if_neg hnb] at hS7
              have hc9 : rwkc I Q 7 = true := by
                unfold rwkc
                rw [hQ, hb25]
                simp [hnb, show I 24 7 = -1 from c1, show ¬ I 0 (7 / 4) = 0 from c2, show ¬ I 0 (7 % 4) = 0 from c3]
              rw [rwk_y hc9, hb25] at C
              rw [jn_hi (c := 50) (by decide), jn_hi (c := 50) (by decide)] at hS7
              exact C _ (RA_u.mpr ⟨_, Y, am, ln, sm_jg hr hS7 (fun c j _ n1 n2 _ => (uI_c n2).trans (uI_c n1)), RU_bus (by decide) hU4 hln hE8 hQ h53 hx (fun i hi => by rw [uI_c (by decide), uI_j hi]) (fun i hi => by rw [uI_j hi, uI_c (by decide)]) rfl (fun c j _ hc => by
                simp only [uI]
                rw [if_neg (fun z => hc ⟨z.1, Or.inr z.2⟩), if_neg (fun z => hc ⟨z.1, Or.inl z.2⟩)]) (by rw [uI_j (by omega), uI_s, uI_c (by decide), uI_s]) (by rw [uI_s, uI_s])⟩)
    · skip
      refine go_s (pc' := 54) rfl rfl rfl rfl ?_
      refine go_s (pc' := 55) (st' := [.int 16, .int 7]) rfl rfl rfl rfl ?_
      refine go_icmpP (t' := 94) (pc' := 56) rfl rfl rfl (fun (c : 16 ≤ (7 : Int32)) => absurd c (by decide)) (fun _ => ?_)
      refine go_s (pc' := 57) rfl rfl rfl rfl ?_
      refine go_sget (pc' := 58) (v := .ref 74) hS rfl rfl rfl (by decide) rfl rfl ?_
      refine go_s (pc' := 59) rfl rfl rfl rfl ?_
      refine go_sald (pc' := 60) (q := 7) (v := .int (nI (q.length + 1))) hS rfl (tr_s hr (a := 74) rfl (by decide)) rfl rfl (by decide) (congrArg Value.int h55) rfl ?_
      refine go_ifP (t' := 92) (pc' := 61) rfl rfl rfl (fun (c : (nI (q.length + 1)) ≤ 0) => absurd c (nI_p1 (by omega))) (fun _ => ?_)
      refine go_s (pc' := 62) rfl rfl rfl rfl ?_
      refine go_sget (pc' := 63) (v := .ref am) hS rfl rfl rfl (by decide) rfl rfl ?_
      refine go_s (pc' := 64) rfl rfl rfl rfl ?_
      refine go_sget (pc' := 65) (v := .ref 72) hS rfl rfl rfl (by decide) rfl rfl ?_
      refine go_s (pc' := 66) rfl rfl rfl rfl ?_
      refine go_sald (pc' := 67) (q := 7) (v := .int (nI (13 * x))) hS rfl (tr_s hr (a := 72) rfl (by decide)) rfl rfl (by decide) (congrArg Value.int h53) rfl ?_
      refine go_s (pc' := 68) (st' := [.int 2, .int (nI (13 * x)), .ref am]) rfl rfl rfl rfl ?_
      refine go_nadd (pc' := 69) (a := (13 * x)) (b := 2) rfl rfl rfl rfl rfl ?_
      refine go_sald (pc' := 70) (q := ((13 * x) + 2)) (v := .int (I 24 7)) hS rfl (tr_ms hr (by omega)) rfl rfl (by omega) (congrArg Value.int (hk2.trans rwk_at)) rfl ?_
      refine go_s (pc' := 71) (st' := [.int (-1), .int (I 24 7)]) rfl rfl rfl rfl ?_
      refine go_icmpP (t' := 92) (pc' := 72) rfl rfl rfl (fun (c9 : ¬ (I 24 7) = (-1)) => ?_) (fun (c9' : ¬ ¬ (I 24 7) = (-1)) => ?_)
      · skip
        refine go_s (pc' := 93) (lo' := [some (.ref 62), some (.int 8)]) rfl rfl rfl rfl ?_
        refine go_s (pc' := 53) rfl rfl rfl rfl ?_
        have hc9 : rwkc I Q 7 = false := by
          unfold rwkc
          simp [show ¬ I 24 7 = -1 from c9]
        rw [rwk_n hc9] at C
        exact C _ hA
      · skip
        have c9 : (I 24 7) = (-1) := Decidable.not_not.mp c9'
        refine go_s (pc' := 73) rfl rfl rfl rfl ?_
        refine go_sget (pc' := 74) (v := .ref 63) hS rfl rfl rfl (by decide) rfl rfl ?_
        refine go_s (pc' := 75) rfl rfl rfl rfl ?_
        refine go_s (pc' := 76) (st' := [.int 4, .int 7, .ref 63]) rfl rfl rfl rfl ?_
        refine go_s (pc' := 77) (st' := [.int 1, .ref 63]) rfl rfl rfl rfl ?_
        refine go_sald (pc' := 78) (q := 1) (v := .int ((rwkI I Q 7) 0 1)) hS rfl (tr_s hr (a := 63) rfl (by decide)) rfl rfl (by decide) rfl rfl ?_
        refine go_ifP (t' := 92) (pc' := 79) rfl rfl rfl (fun (c10 : ((rwkI I Q 7) 0 1) = 0) => ?_) (fun (c10 : ¬ ((rwkI I Q 7) 0 1) = 0) => ?_)
        · skip
          refine go_s (pc' := 93) (lo' := [some (.ref 62), some (.int 8)]) rfl rfl rfl rfl ?_
          refine go_s (pc' := 53) rfl rfl rfl rfl ?_
          have hc9 : rwkc I Q 7 = false := by
            unfold rwkc
            simp [show I 0 (7 / 4) = 0 from c10]
          rw [rwk_n hc9] at C
          exact C _ hA
        · skip
          refine go_s (pc' := 80) rfl rfl rfl rfl ?_
          refine go_sget (pc' := 81) (v := .ref 63) hS rfl rfl rfl (by decide) rfl rfl ?_
          refine go_s (pc' := 82) rfl rfl rfl rfl ?_
          refine go_s (pc' := 83) (st' := [.int 4, .int 7, .ref 63]) rfl rfl rfl rfl ?_
          refine go_s (pc' := 84) (st' := [.int 3, .ref 63]) rfl rfl rfl rfl ?_
          refine go_sald (pc' := 85) (q := 3) (v := .int ((rwkI I Q 7) 0 3)) hS rfl (tr_s hr (a := 63) rfl (by decide)) rfl rfl (by decide) rfl rfl ?_
          refine go_ifP (t' := 92) (pc' := 86) rfl rfl rfl (fun (c11 : ((rwkI I Q 7) 0 3) = 0) => ?_) (fun (c11 : ¬ ((rwkI I Q 7) 0 3) = 0) => ?_)
          · skip
            refine go_s (pc' := 93) (lo' := [some (.ref 62), some (.int 8)]) rfl rfl rfl rfl ?_
            refine go_s (pc' := 53) rfl rfl rfl rfl ?_
            have hc9 : rwkc I Q 7 = false := by
              unfold rwkc
              simp [show I 0 (7 % 4) = 0 from c11]
            rw [rwk_n hc9] at C
            exact C _ hA
          · skip
            refine go_s (pc' := 87) rfl rfl rfl rfl ?_
            refine go_s (pc' := 88) rfl rfl rfl rfl ?_
            refine go_sget (pc' := 89) (v := .ref 72) hS rfl rfl rfl (by decide) rfl rfl ?_
            refine go_s (pc' := 90) rfl rfl rfl rfl ?_
            refine go_sald (pc' := 91) (q := 7) (v := .int (nI (13 * x))) hS rfl (tr_s hr (a := 72) rfl (by decide)) rfl rfl (by decide) (congrArg Value.int h53) rfl ?_
            have hU12 : RU w B R [] true h am ln K ((rwkI I Q 7), Q, Z) := RU_I (sm_e_refl (tbr am (13 * ln) 77 5088) _) (I' := (rwkI I Q 7)) (fun _ => rfl) (fun _ => rfl) (Nat.le_refl _) hU
            refine go_callV (pc' := 92) rfl rfl rfl (Nat.le_of_ble_eq_true rfl) rfl (sm_o hS rfl) rfl rfl rfl (rt_boards_0 hr hS hW hWm (m := 13 * x) (by omega) (by omega) (hk3.trans (rwk_at.trans hb25)) (by omega)) (fun r h13 q14 => ?_)
            obtain ⟨rfl, hS15, hE16⟩ := q14
            rw [show nxb (jn (rwkI I Q 7) K) 0 = nxb I 0 from rwk_nb (Q := Q) (n := 7)] at hS15
            refine go_s (pc' := 93) (lo' := [some (.ref 62), some (.int 8)]) rfl rfl rfl rfl ?_
            refine go_s (pc' := 53) rfl rfl rfl rfl ?_
            by_cases hnb : nxb I 0 = -1
            · rw [if_pos hnb] at hS15
              have hc9 : rwkc I Q 7 = false := by
                unfold rwkc
                rw [hb25]
                simp [hnb]
              rw [rwk_n hc9] at C
              exact C _ (RA_u.mpr ⟨K, Y, am, ln, hS15, RU_I hE16 (fun _ => rfl) (fun _ => rfl) (Nat.le_refl _) hU12⟩)
            · rw [if_neg hnb] at hS15
              have hc9 : rwkc I Q 7 = true := by
                unfold rwkc
                rw [hQ, hb25]
                simp [hnb, show I 24 7 = -1 from c9, show ¬ I 0 (7 / 4) = 0 from c10, show ¬ I 0 (7 % 4) = 0 from c11]
              rw [rwk_y hc9, hb25] at C
              rw [jn_hi (c := 50) (by decide), jn_hi (c := 50) (by decide)] at hS15
              exact C _ (RA_u.mpr ⟨_, Y, am, ln, sm_jg hr hS15 (fun c j _ n1 n2 _ => (uI_c n2).trans (uI_c n1)), RU_bus (by decide) hU12 hln hE16 hQ h53 hx (fun i hi => by rw [uI_c (by decide), uI_j hi]) (fun i hi => by rw [uI_j hi, uI_c (by decide)]) rfl (fun c j _ hc => by
                simp only [uI]
                rw [if_neg (fun z => hc ⟨z.1, Or.inr z.2⟩), if_neg (fun z => hc ⟨z.1, Or.inl z.2⟩)]) (by rw [uI_j (by omega), uI_s, uI_c (by decide), uI_s]) (by rw [uI_s, uI_s])⟩)
    · skip
      refine go_s (pc' := 54) rfl rfl rfl rfl ?_
      refine go_s (pc' := 55) (st' := [.int 16, .int 7]) rfl rfl rfl rfl ?_
      refine go_icmpP (t' := 94) (pc' := 56) rfl rfl rfl (fun (c : 16 ≤ (7 : Int32)) => absurd c (by decide)) (fun _ => ?_)
      refine go_s (pc' := 57) rfl rfl rfl rfl ?_
      refine go_sget (pc' := 58) (v := .ref 74) hS rfl rfl rfl (by decide) rfl rfl ?_
      refine go_s (pc' := 59) rfl rfl rfl rfl ?_
      refine go_sald (pc' := 60) (q := 7) (v := .int (nI (q.length + 1))) hS rfl (tr_s hr (a := 74) rfl (by decide)) rfl rfl (by decide) (congrArg Value.int h55) rfl ?_
      refine go_ifP (t' := 92) (pc' := 61) rfl rfl rfl (fun (c : (nI (q.length + 1)) ≤ 0) => absurd c (nI_p1 (by omega))) (fun _ => ?_)
      refine go_s (pc' := 62) rfl rfl rfl rfl ?_
      refine go_sget (pc' := 63) (v := .ref am) hS rfl rfl rfl (by decide) rfl rfl ?_
      refine go_s (pc' := 64) rfl rfl rfl rfl ?_
      refine go_sget (pc' := 65) (v := .ref 72) hS rfl rfl rfl (by decide) rfl rfl ?_
      refine go_s (pc' := 66) rfl rfl rfl rfl ?_
      refine go_sald (pc' := 67) (q := 7) (v := .int (nI (13 * x))) hS rfl (tr_s hr (a := 72) rfl (by decide)) rfl rfl (by decide) (congrArg Value.int h53) rfl ?_
      refine go_s (pc' := 68) (st' := [.int 2, .int (nI (13 * x)), .ref am]) rfl rfl rfl rfl ?_
      refine go_nadd (pc' := 69) (a := (13 * x)) (b := 2) rfl rfl rfl rfl rfl ?_
      refine go_sald (pc' := 70) (q := ((13 * x) + 2)) (v := .int (I 24 7)) hS rfl (tr_ms hr (by omega)) rfl rfl (by omega) (congrArg Value.int (hk2.trans rwk_at)) rfl ?_
      refine go_s (pc' := 71) (st' := [.int (-1), .int (I 24 7)]) rfl rfl rfl rfl ?_
      refine go_icmpP (t' := 92) (pc' := 72) rfl rfl rfl (fun (c17 : ¬ (I 24 7) = (-1)) => ?_) (fun (c17' : ¬ ¬ (I 24 7) = (-1)) => ?_)
      · skip
        refine go_s (pc' := 93) (lo' := [some (.ref 62), some (.int 8)]) rfl rfl rfl rfl ?_
        refine go_s (pc' := 53) rfl rfl rfl rfl ?_
        have hc9 : rwkc I Q 7 = false := by
          unfold rwkc
          simp [show ¬ I 24 7 = -1 from c17]
        rw [rwk_n hc9] at C
        exact C _ hA
      · skip
        have c17 : (I 24 7) = (-1) := Decidable.not_not.mp c17'
        refine go_s (pc' := 73) rfl rfl rfl rfl ?_
        refine go_sget (pc' := 74) (v := .ref 63) hS rfl rfl rfl (by decide) rfl rfl ?_
        refine go_s (pc' := 75) rfl rfl rfl rfl ?_
        refine go_s (pc' := 76) (st' := [.int 4, .int 7, .ref 63]) rfl rfl rfl rfl ?_
        refine go_s (pc' := 77) (st' := [.int 1, .ref 63]) rfl rfl rfl rfl ?_
        refine go_sald (pc' := 78) (q := 1) (v := .int ((rwkI I Q 7) 0 1)) hS rfl (tr_s hr (a := 63) rfl (by decide)) rfl rfl (by decide) rfl rfl ?_
        refine go_ifP (t' := 92) (pc' := 79) rfl rfl rfl (fun (c18 : ((rwkI I Q 7) 0 1) = 0) => ?_) (fun (c18 : ¬ ((rwkI I Q 7) 0 1) = 0) => ?_)
        · skip
          refine go_s (pc' := 93) (lo' := [some (.ref 62), some (.int 8)]) rfl rfl rfl rfl ?_
          refine go_s (pc' := 53) rfl rfl rfl rfl ?_
          have hc9 : rwkc I Q 7 = false := by
            unfold rwkc
            simp [show I 0 (7 / 4) = 0 from c18]
          rw [rwk_n hc9] at C
          exact C _ hA
        · skip
          refine go_s (pc' := 80) rfl rfl rfl rfl ?_
          refine go_sget (pc' := 81) (v := .ref 63) hS rfl rfl rfl (by decide) rfl rfl ?_
          refine go_s (pc' := 82) rfl rfl rfl rfl ?_
          refine go_s (pc' := 83) (st' := [.int 4, .int 7, .ref 63]) rfl rfl rfl rfl ?_
          refine go_s (pc' := 84) (st' := [.int 3, .ref 63]) rfl rfl rfl rfl ?_
          refine go_sald (pc' := 85) (q := 3) (v := .int ((rwkI I Q 7) 0 3)) hS rfl (tr_s hr (a := 63) rfl (by decide)) rfl rfl (by decide) rfl rfl ?_
          refine go_ifP (t' := 92) (pc' := 86) rfl rfl rfl (fun (c19 : ((rwkI I Q 7) 0 3) = 0) => ?_) (fun (c19 : ¬ ((rwkI I Q 7) 0 3) = 0) => ?_)
          · skip
            refine go_s (pc' := 93) (lo' := [some (.ref 62), some (.int 8)]) rfl rfl rfl rfl ?_
            refine go_s (pc' := 53) rfl rfl rfl rfl ?_
            have hc9 : rwkc I Q 7 = false := by
              unfold rwkc
              simp [show I 0 (7 % 4) = 0 from c19]
            rw [rwk_n hc9] at C
            exact C _ hA
          · skip
            refine go_s (pc' := 87) rfl rfl rfl rfl ?_
            refine go_s (pc' := 88) rfl rfl rfl rfl ?_
            refine go_sget (pc' := 89) (v := .ref 72) hS rfl rfl rfl (by decide) rfl rfl ?_
            refine go_s (pc' := 90) rfl rfl rfl rfl ?_
            refine go_sald (pc' := 91) (q := 7) (v := .int (nI (13 * x))) hS rfl (tr_s hr (a := 72) rfl (by decide)) rfl rfl (by decide) (congrArg Value.int h53) rfl ?_
            have hU20 : RU w B R [] true h am ln K ((rwkI I Q 7), Q, Z) := RU_I (sm_e_refl (tbr am (13 * ln) 77 5088) _) (I' := (rwkI I Q 7)) (fun _ => rfl) (fun _ => rfl) (Nat.le_refl _) hU
            refine go_callV (pc' := 92) rfl rfl rfl (Nat.le_of_ble_eq_true rfl) rfl (sm_o hS rfl) rfl rfl rfl (rt_boards_1 hr hS hW hWm (m := 13 * x) (by omega) (by omega) (hk3.trans (rwk_at.trans hb25)) (by omega)) (fun r h21 q22 => ?_)
            obtain ⟨rfl, hS23, hE24⟩ := q22
            rw [show nxb (jn (rwkI I Q 7) K) 1 = nxb I 1 from rwk_nb (Q := Q) (n := 7)] at hS23
            refine go_s (pc' := 93) (lo' := [some (.ref 62), some (.int 8)]) rfl rfl rfl rfl ?_
            refine go_s (pc' := 53) rfl rfl rfl rfl ?_
            by_cases hnb : nxb I 1 = -1
            · rw [if_pos hnb] at hS23
              have hc9 : rwkc I Q 7 = false := by
                unfold rwkc
                rw [hb25]
                simp [hnb]
              rw [rwk_n hc9] at C
              exact C _ (RA_u.mpr ⟨K, Y, am, ln, hS23, RU_I hE24 (fun _ => rfl) (fun _ => rfl) (Nat.le_refl _) hU20⟩)
            · rw [if_neg hnb] at hS23
              have hc9 : rwkc I Q 7 = true := by
                unfold rwkc
                rw [hQ, hb25]
                simp [hnb, show I 24 7 = -1 from c17, show ¬ I 0 (7 / 4) = 0 from c18, show ¬ I 0 (7 % 4) = 0 from c19]
              rw [rwk_y hc9, hb25] at C
              rw [jn_hi (c := 50) (by decide), jn_hi (c := 50) (by decide)] at hS23
              exact C _ (RA_u.mpr ⟨_, Y, am, ln, sm_jg hr hS23 (fun c j _ n1 n2 _ => (uI_c n2).trans (uI_c n1)), RU_bus (by decide) hU20 hln hE24 hQ h53 hx (fun i hi => by rw [uI_c (by decide), uI_j hi]) (fun i hi => by rw [uI_j hi, uI_c (by decide)]) rfl (fun c j _ hc => by
                simp only [uI]
                rw [if_neg (fun z => hc ⟨z.1, Or.inr z.2⟩), if_neg (fun z => hc ⟨z.1, Or.inl z.2⟩)]) (by rw [uI_j (by omega), uI_s, uI_c (by decide), uI_s]) (by rw [uI_s, uI_s])⟩)
theorem stW_8 {w : Nat → Bool} {d B R : Nat} {h : am_Hp} {I : sm_I} {Q : mQ} {Z : mZ} {P : Option Value → am_Hp → Prop} (hA : RA w B R [] true h (rwkI I Q 8, Q, Z)) (hR : R + 0 < 40000) (htri : tri (I 25 8)) (hd : 2 ≤ d) (C : ∀ h', RA w B (R + 0) [] true h' (rwkI I Q 9, Q, Z) → am_Go (am_prog w) d am_c168 (some .int) 53 [some (.ref 62), some (.int 9)] [] h' P) : am_Go (am_prog w) d am_c168 (some .int) 53 [some (.ref 62), some (.int 8)] [] h P := by
  obtain ⟨K, Y, am, ln, hS, hU⟩ := RA_u.mp hA
  change sm (tbr am (13 * ln) 77 5088) h (jn (rwkI I Q 8) K) Y at hS
  obtain ⟨hW, hWm, -, -, hr, -⟩ := id hU.1
  have hln := RU_ln hU (by omega)
  cases hQ : Q 8 with
  | nil =>
    have h55 : K 55 8 = 0 := by
      have z := (RU_lk (l := 8) hU (by decide)).1
      rw [hQ] at z
      exact z
    refine go_s (pc' := 54) rfl rfl rfl rfl ?_
    refine go_s (pc' := 55) (st' := [.int 16, .int 8]) rfl rfl rfl rfl ?_
    refine go_icmpP (t' := 94) (pc' := 56) rfl rfl rfl (fun (c : 16 ≤ (8 : Int32)) => absurd c (by decide)) (fun _ => ?_)
    refine go_s (pc' := 57) rfl rfl rfl rfl ?_
    refine go_sget (pc' := 58) (v := .ref 74) hS rfl rfl rfl (by decide) rfl rfl ?_
    refine go_s (pc' := 59) rfl rfl rfl rfl ?_
    refine go_sald (pc' := 60) (q := 8) (v := .int 0) hS rfl (tr_s hr (a := 74) rfl (by decide)) rfl rfl (by decide) (congrArg Value.int h55) rfl ?_
    refine go_ifP (t' := 92) (pc' := 61) rfl rfl rfl (fun _ => ?_) (fun (c : ¬ ((0 : Int32) ≤ 0)) => absurd (by decide) c)
    refine go_s (pc' := 93) (lo' := [some (.ref 62), some (.int 9)]) rfl rfl rfl rfl ?_
    refine go_s (pc' := 53) rfl rfl rfl rfl ?_
    have hc9 : rwkc I Q 8 = false := by
      unfold rwkc
      rw [hQ]
      rfl
    rw [rwk_n hc9] at C
    exact C _ hA
  | cons m q =>
    obtain ⟨hk55, hle, hxx⟩ := RU_lk (l := 8) hU (by decide)
    obtain ⟨x, h53, hx, hk2, hk3, hk0, hk1⟩ := hxx m q hQ
    rw [hQ] at hk55 hle
    have h55 : K 55 8 = nI (q.length + 1) := hk55
    have hle2 : q.length + 1 ≤ ln := hle
    rcases htri with hb25 | hb25 | hb25
    · skip
      refine go_s (pc' := 54) rfl rfl rfl rfl ?_
      refine go_s (pc' := 55) (st' := [.int 16, .int 8]) rfl rfl rfl rfl ?_
      refine go_icmpP (t' := 94) (pc' := 56) rfl rfl rfl (fun (c : 16 ≤ (8 : Int32)) => absurd c (by decide)) (fun _ => ?_)
      refine go_s (pc' := 57) rfl rfl rfl rfl ?_
      refine go_sget (pc' := 58) (v := .ref 74) hS rfl rfl rfl (by decide) rfl rfl ?_
      refine go_s (pc' := 59) rfl rfl rfl rfl ?_
      refine go_sald (pc' := 60) (q := 8) (v := .int (nI (q.length + 1))) hS rfl (tr_s hr (a := 74) rfl (by decide)) rfl rfl (by decide) (congrArg Value.int h55) rfl ?_
      refine go_ifP (t' := 92) (pc' := 61) rfl rfl rfl (fun (c : (nI (q.length + 1)) ≤ 0) => absurd c (nI_p1 (by omega))) (fun _ => ?_)
      refine go_s (pc' := 62) rfl rfl rfl rfl ?_
      refine go_sget (pc' := 63) (v := .ref am) hS rfl rfl rfl (by decide) rfl rfl ?_
      refine go_s (pc' := 64) rfl rfl rfl rfl ?_
      refine go_sget (pc' := 65) (v := .ref 72) hS rfl rfl rfl (by decide) rfl rfl ?_
      refine go_s (pc' := 66) rfl rfl rfl rfl ?_
      refine go_sald (pc' := 67) (q := 8) (v := .int (nI (13 * x))) hS rfl (tr_s hr (a := 72) rfl (by decide)) rfl rfl (by decide) (congrArg Value.int h53) rfl ?_
      refine go_s (pc' := 68) (st' := [.int 2, .int (nI (13 * x)), .ref am]) rfl rfl rfl rfl ?_
      refine go_nadd (pc' := 69) (a := (13 * x)) (b := 2) rfl rfl rfl rfl rfl ?_
      refine go_sald (pc' := 70) (q := ((13 * x) + 2)) (v := .int (I 24 8)) hS rfl (tr_ms hr (by omega)) rfl rfl (by omega) (congrArg Value.int (hk2.trans rwk_at)) rfl ?_
      refine go_s (pc' := 71) (st' := [.int (-1), .int (I 24 8)]) rfl rfl rfl rfl ?_
      refine go_icmpP (t' := 92) (pc' := 72) rfl rfl rfl (fun (c1 : ¬ (I 24 8) = (-1)) => ?_) (fun (c1' : ¬ ¬ (I 24 8) = (-1)) => ?_)
      · skip
        refine go_s (pc' := 93) (lo' := [some (.ref 62), some (.int 9)]) rfl rfl rfl rfl ?_
        refine go_s (pc' := 53) rfl rfl rfl rfl ?_
        have hc9 : rwkc I Q 8 = false := by
          unfold rwkc
          simp [show ¬ I 24 8 = -1 from c1]
        rw [rwk_n hc9] at C
        exact C _ hA
      · skip
        have c1 : (I 24 8) = (-1) := Decidable.not_not.mp c1'
        refine go_s (pc' := 73) rfl rfl rfl rfl ?_
        refine go_sget (pc' := 74) (v := .ref 63) hS rfl rfl rfl (by decide) rfl rfl ?_
        refine go_s (pc' := 75) rfl rfl rfl rfl ?_
        refine go_s (pc' := 76) (st' := [.int 4, .int 8, .ref 63]) rfl rfl rfl rfl ?_
        refine go_s (pc' := 77) (st' := [.int 2, .ref 63]) rfl rfl rfl rfl ?_
        refine go_sald (pc' := 78) (q := 2) (v := .int ((rwkI I Q 8) 0 2)) hS rfl (tr_s hr (a := 63) rfl (by decide)) rfl rfl (by decide) rfl rfl ?_
        refine go_ifP (t' := 92) (pc' := 79) rfl rfl rfl (fun (c2 : ((rwkI I Q 8) 0 2) = 0) => ?_) (fun (c2 : ¬ ((rwkI I Q 8) 0 2) = 0) => ?_)
        · skip
          refine go_s (pc' := 93) (lo' := [some (.ref 62), some (.int 9)]) rfl rfl rfl rfl ?_
          refine go_s (pc' := 53) rfl rfl rfl rfl ?_
          have hc9 : rwkc I Q 8 = false := by
            unfold rwkc
            simp [show I 0 (8 / 4) = 0 from c2]
          rw [rwk_n hc9] at C
          exact C _ hA
        · skip
          refine go_s (pc' := 80) rfl rfl rfl rfl ?_
          refine go_sget (pc' := 81) (v := .ref 63) hS rfl rfl rfl (by decide) rfl rfl ?_
          refine go_s (pc' := 82) rfl rfl rfl rfl ?_
          refine go_s (pc' := 83) (st' := [.int 4, .int 8, .ref 63]) rfl rfl rfl rfl ?_
          refine go_s (pc' := 84) (st' := [.int 0, .ref 63]) rfl rfl rfl rfl ?_
          refine go_sald (pc' := 85) (q := 0) (v := .int ((rwkI I Q 8) 0 0)) hS rfl (tr_s hr (a := 63) rfl (by decide)) rfl rfl (by decide) rfl rfl ?_
          refine go_ifP (t' := 92) (pc' := 86) rfl rfl rfl (fun (c3 : ((rwkI I Q 8) 0 0) = 0) => ?_) (fun (c3 : ¬ ((rwkI I Q 8) 0 0) = 0) => ?_)
          · skip
            refine go_s (pc' := 93) (lo' := [some (.ref 62), some (.int 9)]) rfl rfl rfl rfl ?_
            refine go_s (pc' := 53) rfl rfl rfl rfl ?_
            have hc9 : rwkc I Q 8 = false := by
              unfold rwkc
              simp [show I 0 (8 % 4) = 0 from c3]
            rw [rwk_n hc9] at C
            exact C _ hA
          · skip
            refine go_s (pc' := 87) rfl rfl rfl rfl ?_
            refine go_s (pc' := 88) rfl rfl rfl rfl ?_
            refine go_sget (pc' := 89) (v := .ref 72) hS rfl rfl rfl (by decide) rfl rfl ?_
            refine go_s (pc' := 90) rfl rfl rfl rfl ?_
            refine go_sald (pc' := 91) (q := 8) (v := .int (nI (13 * x))) hS rfl (tr_s hr (a := 72) rfl (by decide)) rfl rfl (by decide) (congrArg Value.int h53) rfl ?_
            have hU4 : RU w B R [] true h am ln K ((rwkI I Q 8), Q, Z) := RU_I (sm_e_refl (tbr am (13 * ln) 77 5088) _) (I' := (rwkI I Q 8)) (fun _ => rfl) (fun _ => rfl) (Nat.le_refl _) hU
            refine go_callV (pc' := 92) rfl rfl rfl (Nat.le_of_ble_eq_true rfl) rfl (sm_o hS rfl) rfl rfl rfl (rt_boards_m hr hS hW hWm (m := 13 * x) (by omega) (by omega) (hk3.trans (rwk_at.trans hb25)) (by omega)) (fun r h5 q6 => ?_)
            obtain ⟨rfl, hS7, hE8⟩ := q6
            rw [show nxb (jn (rwkI I Q 8) K) (-1) = nxb I (-1) from rwk_nb (Q := Q) (n := 8)] at hS7
            refine go_s (pc' := 93) (lo' := [some (.ref 62), some (.int 9)]) rfl rfl rfl rfl ?_
            refine go_s (pc' := 53) rfl rfl rfl rfl ?_
            by_cases hnb : nxb I (-1) = -1
            · rw [if_pos hnb] at hS7
              have hc9 : rwkc I Q 8 = false := by
                unfold rwkc
                rw [hb25]
                simp [hnb]
              rw [rwk_n hc9] at C
              exact C _ (RA_u.mpr ⟨K, Y, am, ln, hS7, RU_I hE8 (fun _ => rfl) (fun _ => rfl) (Nat.le_refl _) hU4⟩)
            · rw [if_neg hnb] at hS7
              have hc9 : rwkc I Q 8 = true := by
                unfold rwkc
                rw [hQ, hb25]
                simp [hnb, show I 24 8 = -1 from c1, show ¬ I 0 (8 / 4) = 0 from c2, show ¬ I 0 (8 % 4) = 0 from c3]
              rw [rwk_y hc9, hb25] at C
              rw [jn_hi (c := 50) (by decide), jn_hi (c := 50) (by decide)] at hS7
              exact C _ (RA_u.mpr ⟨_, Y, am, ln, sm_jg hr hS7 (fun c j _ n1 n2 _ => (uI_c n2).trans (uI_c n1)), RU_bus (by decide) hU4 hln hE8 hQ h53 hx (fun i hi => by rw [uI_c (by decide), uI_j hi]) (fun i hi => by rw [uI_j hi, uI_c (by decide)]) rfl (fun c j _ hc => by
                simp only [uI]
                rw [if_neg (fun z => hc ⟨z.1, Or.inr z.2⟩), if_neg (fun z => hc ⟨z.1, Or.inl z.2⟩)]) (by rw [uI_j (by omega), uI_s, uI_c (by decide), uI_s]) (by rw [uI_s, uI_s])⟩)
    · skip
      refine go_s (pc' := 54) rfl rfl rfl rfl ?_
      refine go_s (pc' := 55) (st' := [.int 16, .int 8]) rfl rfl rfl rfl ?_
      refine go_icmpP (t' := 94) (pc' := 56) rfl rfl rfl (fun (c : 16 ≤ (8 : Int32)) => absurd c (by decide)) (fun _ => ?_)
      refine go_s (pc' := 57) rfl rfl rfl rfl ?_
      refine go_sget (pc' := 58) (v := .ref 74) hS rfl rfl rfl (by decide) rfl rfl ?_
      refine go_s (pc' := 59) rfl rfl rfl rfl ?_
      refine go_sald (pc' := 60) (q := 8) (v := .int (nI (q.length + 1))) hS rfl (tr_s hr (a := 74) rfl (by decide)) rfl rfl (by decide) (congrArg Value.int h55) rfl ?_
      refine go_ifP (t' := 92) (pc' := 61) rfl rfl rfl (fun (c : (nI (q.length + 1)) ≤ 0) => absurd c (nI_p1 (by omega))) (fun _ => ?_)
      refine go_s (pc' := 62) rfl rfl rfl rfl ?_
      refine go_sget (pc' := 63) (v := .ref am) hS rfl rfl rfl (by decide) rfl rfl ?_
      refine go_s (pc' := 64) rfl rfl rfl rfl ?_
      refine go_sget (pc' := 65) (v := .ref 72) hS rfl rfl rfl (by decide) rfl rfl ?_
      refine go_s (pc' := 66) rfl rfl rfl rfl ?_
      refine go_sald (pc' := 67) (q := 8) (v := .int (nI (13 * x))) hS rfl (tr_s hr (a := 72) rfl (by decide)) rfl rfl (by decide) (congrArg Value.int h53) rfl ?_
      refine go_s (pc' := 68) (st' := [.int 2, .int (nI (13 * x)), .ref am]) rfl rfl rfl rfl ?_
      refine go_nadd (pc' := 69) (a := (13 * x)) (b := 2) rfl rfl rfl rfl rfl ?_
      refine go_sald (pc' := 70) (q := ((13 * x) + 2)) (v := .int (I 24 8)) hS rfl (tr_ms hr (by omega)) rfl rfl (by omega) (congrArg Value.int (hk2.trans rwk_at)) rfl ?_
      refine go_s (pc' := 71) (st' := [.int (-1), .int (I 24 8)]) rfl rfl rfl rfl ?_
      refine go_icmpP (t' := 92) (pc' := 72) rfl rfl rfl (fun (c9 : ¬ (I 24 8) = (-1)) => ?_) (fun (c9' : ¬ ¬ (I 24 8) = (-1)) => ?_)
      · skip
        refine go_s (pc' := 93) (lo' := [some (.ref 62), some (.int 9)]) rfl rfl rfl rfl ?_
        refine go_s (pc' := 53) rfl rfl rfl rfl ?_
        have hc9 : rwkc I Q 8 = false := by
          unfold rwkc
          simp [show ¬ I 24 8 = -1 from c9]
        rw [rwk_n hc9] at C
        exact C _ hA
      · skip
        have c9 : (I 24 8) = (-1) := Decidable.not_not.mp c9'
        refine go_s (pc' := 73) rfl rfl rfl rfl ?_
        refine go_sget (pc' := 74) (v := .ref 63) hS rfl rfl rfl (by decide) rfl rfl ?_
        refine go_s (pc' := 75) rfl rfl rfl rfl ?_
        refine go_s (pc' := 76) (st' := [.int 4, .int 8, .ref 63]) rfl rfl rfl rfl ?_
        refine go_s (pc' := 77) (st' := [.int 2, .ref 63]) rfl rfl rfl rfl ?_
        refine go_sald (pc' := 78) (q := 2) (v := .int ((rwkI I Q 8) 0 2)) hS rfl (tr_s hr (a := 63) rfl (by decide)) rfl rfl (by decide) rfl rfl ?_
        refine go_ifP (t' := 92) (pc' := 79) rfl rfl rfl (fun (c10 : ((rwkI I Q 8) 0 2) = 0) => ?_) (fun (c10 : ¬ ((rwkI I Q 8) 0 2) = 0) => ?_)
        · skip
          refine go_s (pc' := 93) (lo' := [some (.ref 62), some (.int 9)]) rfl rfl rfl rfl ?_
          refine go_s (pc' := 53) rfl rfl rfl rfl ?_
          have hc9 : rwkc I Q 8 = false := by
            unfold rwkc
            simp [show I 0 (8 / 4) = 0 from c10]
          rw [rwk_n hc9] at C
          exact C _ hA
        · skip
          refine go_s (pc' := 80) rfl rfl rfl rfl ?_
          refine go_sget (pc' := 81) (v := .ref 63) hS rfl rfl rfl (by decide) rfl rfl ?_
          refine go_s (pc' := 82) rfl rfl rfl rfl ?_
          refine go_s (pc' := 83) (st' := [.int 4, .int 8, .ref 63]) rfl rfl rfl rfl ?_
          refine go_s (pc' := 84) (st' := [.int 0, .ref 63]) rfl rfl rfl rfl ?_
          refine go_sald (pc' := 85) (q := 0) (v := .int ((rwkI I Q 8) 0 0)) hS rfl (tr_s hr (a := 63) rfl (by decide)) rfl rfl (by decide) rfl rfl ?_
          refine go_ifP (t' := 92) (pc' := 86) rfl rfl rfl (fun (c11 : ((rwkI I Q 8) 0 0) = 0) => ?_) (fun (c11 : ¬ ((rwkI I Q 8) 0 0) = 0) => ?_)
          · skip
            refine go_s (pc' := 93) (lo' := [some (.ref 62), some (.int 9)]) rfl rfl rfl rfl ?_
            refine go_s (pc' := 53) rfl rfl rfl rfl ?_
            have hc9 : rwkc I Q 8 = false := by
              unfold rwkc
              simp [show I 0 (8 % 4) = 0 from c11]
            rw [rwk_n hc9] at C
            exact C _ hA
          · skip
            refine go_s (pc' := 87) rfl rfl rfl rfl ?_
            refine go_s (pc' := 88) rfl rfl rfl rfl ?_
            refine go_sget (pc' := 89) (v := .ref 72) hS rfl rfl rfl (by decide) rfl rfl ?_
            refine go_s (pc' := 90) rfl rfl rfl rfl ?_
            refine go_sald (pc' := 91) (q := 8) (v := .int (nI (13 * x))) hS rfl (tr_s hr (a := 72) rfl (by decide)) rfl rfl (by decide) (congrArg Value.int h53) rfl ?_
            have hU12 : RU w B R [] true h am ln K ((rwkI I Q 8), Q, Z) := RU_I (sm_e_refl (tbr am (13 * ln) 77 5088) _) (I' := (rwkI I Q 8)) (fun _ => rfl) (fun _ => rfl) (Nat.le_refl _) hU
            refine go_callV (pc' := 92) rfl rfl rfl (Nat.le_of_ble_eq_true rfl) rfl (sm_o hS rfl) rfl rfl rfl (rt_boards_0 hr hS hW hWm (m := 13 * x) (by omega) (by omega) (hk3.trans (rwk_at.trans hb25)) (by omega)) (fun r h13 q14 => ?_)
            obtain ⟨rfl, hS15, hE16⟩ := q14
            rw [show nxb (jn (rwkI I Q 8) K) 0 = nxb I 0 from rwk_nb (Q := Q) (n := 8)] at hS15
            refine go_s (pc' := 93) (lo' := [some (.ref 62), some (.int 9)]) rfl rfl rfl rfl ?_
            refine go_s (pc' := 53) rfl rfl rfl rfl ?_
            by_cases hnb : nxb I 0 = -1
            · rw [if_pos hnb] at hS15
              have hc9 : rwkc I Q 8 = false := by
                unfold rwkc
                rw [hb25]
                simp [hnb]
              rw [rwk_n hc9] at C
              exact C _ (RA_u.mpr ⟨K, Y, am, ln, hS15, RU_I hE16 (fun _ => rfl) (fun _ => rfl) (Nat.le_refl _) hU12⟩)
            · rw [if_neg hnb] at hS15
              have hc9 : rwkc I Q 8 = true := by
                unfold rwkc
                rw [hQ, hb25]
                simp [hnb, show I 24 8 = -1 from c9, show ¬ I 0 (8 / 4) = 0 from c10, show ¬ I 0 (8 % 4) = 0 from c11]
              rw [rwk_y hc9, hb25] at C
              rw [jn_hi (c := 50) (by decide), jn_hi (c := 50) (by decide)] at hS15
              exact C _ (RA_u.mpr ⟨_, Y, am, ln, sm_jg hr hS15 (fun c j _ n1 n2 _ => (uI_c n2).trans (uI_c n1)), RU_bus (by decide) hU12 hln hE16 hQ h53 hx (fun i hi => by rw [uI_c (by decide), uI_j hi]) (fun i hi => by rw [uI_j hi, uI_c (by decide)]) rfl (fun c j _ hc => by
                simp only [uI]
                rw [if_neg (fun z => hc ⟨z.1, Or.inr z.2⟩), if_neg (fun z => hc ⟨z.1, Or.inl z.2⟩)]) (by rw [uI_j (by omega), uI_s, uI_c (by decide), uI_s]) (by rw [uI_s, uI_s])⟩)
    · skip
      refine go_s (pc' := 54) rfl rfl rfl rfl ?_
      refine go_s (pc' := 55) (st' := [.int 16, .int 8]) rfl rfl rfl rfl ?_
      refine go_icmpP (t' := 94) (pc' := 56) rfl rfl rfl (fun (c : 16 ≤ (8 : Int32)) => absurd c (by decide)) (fun _ => ?_)
      refine go_s (pc' := 57) rfl rfl rfl rfl ?_
      refine go_sget (pc' := 58) (v := .ref 74) hS rfl rfl rfl (by decide) rfl rfl ?_
      refine go_s (pc' := 59) rfl rfl rfl rfl ?_
      refine go_sald (pc' := 60) (q := 8) (v := .int (nI (q.length + 1))) hS rfl (tr_s hr (a := 74) rfl (by decide)) rfl rfl (by decide) (congrArg Value.int h55) rfl ?_
      refine go_ifP (t' := 92) (pc' := 61) rfl rfl rfl (fun (c : (nI (q.length + 1)) ≤ 0) => absurd c (nI_p1 (by omega))) (fun _ => ?_)
      refine go_s (pc' := 62) rfl rfl rfl rfl ?_
      refine go_sget (pc' := 63) (v := .ref am) hS rfl rfl rfl (by decide) rfl rfl ?_
      refine go_s (pc' := 64) rfl rfl rfl rfl ?_
      refine go_sget (pc' := 65) (v := .ref 72) hS rfl rfl rfl (by decide) rfl rfl ?_
      refine go_s (pc' := 66) rfl rfl rfl rfl ?_
      refine go_sald (pc' := 67) (q := 8) (v := .int (nI (13 * x))) hS rfl (tr_s hr (a := 72) rfl (by decide)) rfl rfl (by decide) (congrArg Value.int h53) rfl ?_
      refine go_s (pc' := 68) (st' := [.int 2, .int (nI (13 * x)), .ref am]) rfl rfl rfl rfl ?_
      refine go_nadd (pc' := 69) (a := (13 * x)) (b := 2) rfl rfl rfl rfl rfl ?_
      refine go_sald (pc' := 70) (q := ((13 * x) + 2)) (v := .int (I 24 8)) hS rfl (tr_ms hr (by omega)) rfl rfl (by omega) (congrArg Value.int (hk2.trans rwk_at)) rfl ?_
      refine go_s (pc' := 71) (st' := [.int (-1), .int (I 24 8)]) rfl rfl rfl rfl ?_
      refine go_icmpP (t' := 92) (pc' := 72) rfl rfl rfl (fun (c17 : ¬ (I 24 8) = (-1)) => ?_) (fun (c17' : ¬ ¬ (I 24 8) = (-1)) => ?_)
      · skip
        refine go_s (pc' := 93) (lo' := [some (.ref 62), some (.int 9)]) rfl rfl rfl rfl ?_
        refine go_s (pc' := 53) rfl rfl rfl rfl ?_
        have hc9 : rwkc I Q 8 = false := by
          unfold rwkc
          simp [show ¬ I 24 8 = -1 from c17]
        rw [rwk_n hc9] at C
        exact C _ hA
      · skip
        have c17 : (I 24 8) = (-1) := Decidable.not_not.mp c17'
        refine go_s (pc' := 73) rfl rfl rfl rfl ?_
        refine go_sget (pc' := 74) (v := .ref 63) hS rfl rfl rfl (by decide) rfl rfl ?_
        refine go_s (pc' := 75) rfl rfl rfl rfl ?_
        refine go_s (pc' := 76) (st' := [.int 4, .int 8, .ref 63]) rfl rfl rfl rfl ?_
        refine go_s (pc' := 77) (st' := [.int 2, .ref 63]) rfl rfl rfl rfl ?_
        refine go_sald (pc' := 78) (q := 2) (v := .int ((rwkI I Q 8) 0 2)) hS rfl (tr_s hr (a := 63) rfl (by decide)) rfl rfl (by decide) rfl rfl ?_
        refine go_ifP (t' := 92) (pc' := 79) rfl rfl rfl (fun (c18 : ((rwkI I Q 8) 0 2) = 0) => ?_) (fun (c18 : ¬ ((rwkI I Q 8) 0 2) = 0) => ?_)
        · skip
          refine go_s (pc' := 93) (lo' := [some (.ref 62), some (.int 9)]) rfl rfl rfl rfl ?_
          refine go_s (pc' := 53) rfl rfl rfl rfl ?_
          have hc9 : rwkc I Q 8 = false := by
            unfold rwkc
            simp [show I 0 (8 / 4) = 0 from c18]
          rw [rwk_n hc9] at C
          exact C _ hA
        · skip
          refine go_s (pc' := 80) rfl rfl rfl rfl ?_
          refine go_sget (pc' := 81) (v := .ref 63) hS rfl rfl rfl (by decide) rfl rfl ?_
          refine go_s (pc' := 82) rfl rfl rfl rfl ?_
          refine go_s (pc' := 83) (st' := [.int 4, .int 8, .ref 63]) rfl rfl rfl rfl ?_
          refine go_s (pc' := 84) (st' := [.int 0, .ref 63]) rfl rfl rfl rfl ?_
          refine go_sald (pc' := 85) (q := 0) (v := .int ((rwkI I Q 8) 0 0)) hS rfl (tr_s hr (a := 63) rfl (by decide)) rfl rfl (by decide) rfl rfl ?_
          refine go_ifP (t' := 92) (pc' := 86) rfl rfl rfl (fun (c19 : ((rwkI I Q 8) 0 0) = 0) => ?_) (fun (c19 : ¬ ((rwkI I Q 8) 0 0) = 0) => ?_)
          · skip
            refine go_s (pc' := 93) (lo' := [some (.ref 62), some (.int 9)]) rfl rfl rfl rfl ?_
            refine go_s (pc' := 53) rfl rfl rfl rfl ?_
            have hc9 : rwkc I Q 8 = false := by
              unfold rwkc
              simp [show I 0 (8 % 4) = 0 from c19]
            rw [rwk_n hc9] at C
            exact C _ hA
          · skip
            refine go_s (pc' := 87) rfl rfl rfl rfl ?_
            refine go_s (pc' := 88) rfl rfl rfl rfl ?_
            refine go_sget (pc' := 89) (v := .ref 72) hS rfl rfl rfl (by decide) rfl rfl ?_
            refine go_s (pc' := 90) rfl rfl rfl rfl ?_
            refine go_sald (pc' := 91) (q := 8) (v := .int (nI (13 * x))) hS rfl (tr_s hr (a := 72) rfl (by decide)) rfl rfl (by decide) (congrArg Value.int h53) rfl ?_
            have hU20 : RU w B R [] true h am ln K ((rwkI I Q 8), Q, Z) := RU_I (sm_e_refl (tbr am (13 * ln) 77 5088) _) (I' := (rwkI I Q 8)) (fun _ => rfl) (fun _ => rfl) (Nat.le_refl _) hU
            refine go_callV (pc' := 92) rfl rfl rfl (Nat.le_of_ble_eq_true rfl) rfl (sm_o hS rfl) rfl rfl rfl (rt_boards_1 hr hS hW hWm (m := 13 * x) (by omega) (by omega) (hk3.trans (rwk_at.trans hb25)) (by omega)) (fun r h21 q22 => ?_)
            obtain ⟨rfl, hS23, hE24⟩ := q22
            rw [show nxb (jn (rwkI I Q 8) K) 1 = nxb I 1 from rwk_nb (Q := Q) (n := 8)] at hS23
            refine go_s (pc' := 93) (lo' := [some (.ref 62), some (.int 9)]) rfl rfl rfl rfl ?_
            refine go_s (pc' := 53) rfl rfl rfl rfl ?_
            by_cases hnb : nxb I 1 = -1
            · rw [if_pos hnb] at hS23
              have hc9 : rwkc I Q 8 = false := by
                unfold rwkc
                rw [hb25]
                simp [hnb]
              rw [rwk_n hc9] at C
              exact C _ (RA_u.mpr ⟨K, Y, am, ln, hS23, RU_I hE24 (fun _ => rfl) (fun _ => rfl) (Nat.le_refl _) hU20⟩)
            · rw [if_neg hnb] at hS23
              have hc9 : rwkc I Q 8 = true := by
                unfold rwkc
                rw [hQ, hb25]
                simp [hnb, show I 24 8 = -1 from c17, show ¬ I 0 (8 / 4) = 0 from c18, show ¬ I 0 (8 % 4) = 0 from c19]
              rw [rwk_y hc9, hb25] at C
              rw [jn_hi (c := 50) (by decide), jn_hi (c := 50) (by decide)] at hS23
              exact C _ (RA_u.mpr ⟨_, Y, am, ln, sm_jg hr hS23 (fun c j _ n1 n2 _ => (uI_c n2).trans (uI_c n1)), RU_bus (by decide) hU20 hln hE24 hQ h53 hx (fun i hi => by rw [uI_c (by decide), uI_j hi]) (fun i hi => by rw [uI_j hi, uI_c (by decide)]) rfl (fun c j _ hc => by
                simp only [uI]
                rw [if_neg (fun z => hc ⟨z.1, Or.inr z.2⟩), if_neg (fun z => hc ⟨z.1, Or.inl z.2⟩)]) (by rw [uI_j (by omega), uI_s, uI_c (by decide), uI_s]) (by rw [uI_s, uI_s])⟩)
theorem stW_9 {w : Nat → Bool} {d B R : Nat} {h : am_Hp} {I : sm_I} {Q : mQ} {Z : mZ} {P : Option Value → am_Hp → Prop} (hA : RA w B R [] true h (rwkI I Q 9, Q, Z)) (hR : R + 0 < 40000) (htri : tri (I 25 9)) (hd : 2 ≤ d) (C : ∀ h', RA w B (R + 0) [] true h' (rwkI I Q 10, Q, Z) → am_Go (am_prog w) d am_c168 (some .int) 53 [some (.ref 62), some (.int 10)] [] h' P) : am_Go (am_prog w) d am_c168 (some .int) 53 [some (.ref 62), some (.int 9)] [] h P := by
  obtain ⟨K, Y, am, ln, hS, hU⟩ := RA_u.mp hA
  change sm (tbr am (13 * ln) 77 5088) h (jn (rwkI I Q 9) K) Y at hS
  obtain ⟨hW, hWm, -, -, hr, -⟩ := id hU.1
  have hln := RU_ln hU (by omega)
  cases hQ : Q 9 with
  | nil =>
    have h55 : K 55 9 = 0 := by
      have z := (RU_lk (l := 9) hU (by decide)).1
      rw [hQ] at z
      exact z
    refine go_s (pc' := 54) rfl rfl rfl rfl ?_
    refine go_s (pc' := 55) (st' := [.int 16, .int 9]) rfl rfl rfl rfl ?_
    refine go_icmpP (t' := 94) (pc' := 56) rfl rfl rfl (fun (c : 16 ≤ (9 : Int32)) => absurd c (by decide)) (fun _ => ?_)
    refine go_s (pc' := 57) rfl rfl rfl rfl ?_
    refine go_sget (pc' := 58) (v := .ref 74) hS rfl rfl rfl (by decide) rfl rfl ?_
    refine go_s (pc' := 59) rfl rfl rfl rfl ?_
    refine go_sald (pc' := 60) (q := 9) (v := .int 0) hS rfl (tr_s hr (a := 74) rfl (by decide)) rfl rfl (by decide) (congrArg Value.int h55) rfl ?_
    refine go_ifP (t' := 92) (pc' := 61) rfl rfl rfl (fun _ => ?_) (fun (c : ¬ ((0 : Int32) ≤ 0)) => absurd (by decide) c)
    refine go_s (pc' := 93) (lo' := [some (.ref 62), some (.int 10)]) rfl rfl rfl rfl ?_
    refine go_s (pc' := 53) rfl rfl rfl rfl ?_
    have hc9 : rwkc I Q 9 = false := by
      unfold rwkc
      rw [hQ]
      rfl
    rw [rwk_n hc9] at C
    exact C _ hA
  | cons m q =>
    obtain ⟨hk55, hle, hxx⟩ := RU_lk (l := 9) hU (by decide)
    obtain ⟨x, h53, hx, hk2, hk3, hk0, hk1⟩ := hxx m q hQ
    rw [hQ] at hk55 hle
    have h55 : K 55 9 = nI (q.length + 1) := hk55
    have hle2 : q.length + 1 ≤ ln := hle
    rcases htri with hb25 | hb25 | hb25
    · skip
      refine go_s (pc' := 54) rfl rfl rfl rfl ?_
      refine go_s (pc' := 55) (st' := [.int 16, .int 9]) rfl rfl rfl rfl ?_
      refine go_icmpP (t' := 94) (pc' := 56) rfl rfl rfl (fun (c : 16 ≤ (9 : Int32)) => absurd c (by decide)) (fun _ => ?_)
      refine go_s (pc' := 57) rfl rfl rfl rfl ?_
      refine go_sget (pc' := 58) (v := .ref 74) hS rfl rfl rfl (by decide) rfl rfl ?_
      refine go_s (pc' := 59) rfl rfl rfl rfl ?_
      refine go_sald (pc' := 60) (q := 9) (v := .int (nI (q.length + 1))) hS rfl (tr_s hr (a := 74) rfl (by decide)) rfl rfl (by decide) (congrArg Value.int h55) rfl ?_
      refine go_ifP (t' := 92) (pc' := 61) rfl rfl rfl (fun (c : (nI (q.length + 1)) ≤ 0) => absurd c (nI_p1 (by omega))) (fun _ => ?_)
      refine go_s (pc' := 62) rfl rfl rfl rfl ?_
      refine go_sget (pc' := 63) (v := .ref am) hS rfl rfl rfl (by decide) rfl rfl ?_
      refine go_s (pc' := 64) rfl rfl rfl rfl ?_
      refine go_sget (pc' := 65) (v := .ref 72) hS rfl rfl rfl (by decide) rfl rfl ?_
      refine go_s (pc' := 66) rfl rfl rfl rfl ?_
      refine go_sald (pc' := 67) (q := 9) (v := .int (nI (13 * x))) hS rfl (tr_s hr (a := 72) rfl (by decide)) rfl rfl (by decide) (congrArg Value.int h53) rfl ?_
      refine go_s (pc' := 68) (st' := [.int 2, .int (nI (13 * x)), .ref am]) rfl rfl rfl rfl ?_
      refine go_nadd (pc' := 69) (a := (13 * x)) (b := 2) rfl rfl rfl rfl rfl ?_
      refine go_sald (pc' := 70) (q := ((13 * x) + 2)) (v := .int (I 24 9)) hS rfl (tr_ms hr (by omega)) rfl rfl (by omega) (congrArg Value.int (hk2.trans rwk_at)) rfl ?_
      refine go_s (pc' := 71) (st' := [.int (-1), .int (I 24 9)]) rfl rfl rfl rfl ?_
      refine go_icmpP (t' := 92) (pc' := 72) rfl rfl rfl (fun (c1 : ¬ (I 24 9) = (-1)) => ?_) (fun (c1' : ¬ ¬ (I 24 9) = (-1)) => ?_)
      · skip
        refine go_s (pc' := 93) (lo' := [some (.ref 62), some (.int 10)]) rfl rfl rfl rfl ?_
        refine go_s (pc' := 53) rfl rfl rfl rfl ?_
        have hc9 : rwkc I Q 9 = false := by
          unfold rwkc
          simp [show ¬ I 24 9 = -1 from c1]
        rw [rwk_n hc9] at C
        exact C _ hA
      · skip
        have c1 : (I 24 9) = (-1) := Decidable.not_not.mp c1'
        refine go_s (pc' := 73) rfl rfl rfl rfl ?_
        refine go_sget (pc' := 74) (v := .ref 63) hS rfl rfl rfl (by decide) rfl rfl ?_
        refine go_s (pc' := 75) rfl rfl rfl rfl ?_
        refine go_s (pc' := 76) (st' := [.int 4, .int 9, .ref 63]) rfl rfl rfl rfl ?_
        refine go_s (pc' := 77) (st' := [.int 2, .ref 63]) rfl rfl rfl rfl ?_
        refine go_sald (pc' := 78) (q := 2) (v := .int ((rwkI I Q 9) 0 2)) hS rfl (tr_s hr (a := 63) rfl (by decide)) rfl rfl (by decide) rfl rfl ?_
        refine go_ifP (t' := 92) (pc' := 79) rfl rfl rfl (fun (c2 : ((rwkI I Q 9) 0 2) = 0) => ?_) (fun (c2 : ¬ ((rwkI I Q 9) 0 2) = 0) => ?_)
        · skip
          refine go_s (pc' := 93) (lo' := [some (.ref 62), some (.int 10)]) rfl rfl rfl rfl ?_
          refine go_s (pc' := 53) rfl rfl rfl rfl ?_
          have hc9 : rwkc I Q 9 = false := by
            unfold rwkc
            simp [show I 0 (9 / 4) = 0 from c2]
          rw [rwk_n hc9] at C
          exact C _ hA
        · skip
          refine go_s (pc' := 80) rfl rfl rfl rfl ?_
          refine go_sget (pc' := 81) (v := .ref 63) hS rfl rfl rfl (by decide) rfl rfl ?_
          refine go_s (pc' := 82) rfl rfl rfl rfl ?_
          refine go_s (pc' := 83) (st' := [.int 4, .int 9, .ref 63]) rfl rfl rfl rfl ?_
          refine go_s (pc' := 84) (st' := [.int 1, .ref 63]) rfl rfl rfl rfl ?_
          refine go_sald (pc' := 85) (q := 1) (v := .int ((rwkI I Q 9) 0 1)) hS rfl (tr_s hr (a := 63) rfl (by decide)) rfl rfl (by decide) rfl rfl ?_
          refine go_ifP (t' := 92) (pc' := 86) rfl rfl rfl (fun (c3 : ((rwkI I Q 9) 0 1) = 0) => ?_) (fun (c3 : ¬ ((rwkI I Q 9) 0 1) = 0) => ?_)
          · skip
            refine go_s (pc' := 93) (lo' := [some (.ref 62), some (.int 10)]) rfl rfl rfl rfl ?_
            refine go_s (pc' := 53) rfl rfl rfl rfl ?_
            have hc9 : rwkc I Q 9 = false := by
              unfold rwkc
              simp [show I 0 (9 % 4) = 0 from c3]
            rw [rwk_n hc9] at C
            exact C _ hA
          · skip
            refine go_s (pc' := 87) rfl rfl rfl rfl ?_
            refine go_s (pc' := 88) rfl rfl rfl rfl ?_
            refine go_sget (pc' := 89) (v := .ref 72) hS rfl rfl rfl (by decide) rfl rfl ?_
            refine go_s (pc' := 90) rfl rfl rfl rfl ?_
            refine go_sald (pc' := 91) (q := 9) (v := .int (nI (13 * x))) hS rfl (tr_s hr (a := 72) rfl (by decide)) rfl rfl (by decide) (congrArg Value.int h53) rfl ?_
            have hU4 : RU w B R [] true h am ln K ((rwkI I Q 9), Q, Z) := RU_I (sm_e_refl (tbr am (13 * ln) 77 5088) _) (I' := (rwkI I Q 9)) (fun _ => rfl) (fun _ => rfl) (Nat.le_refl _) hU
            refine go_callV (pc' := 92) rfl rfl rfl (Nat.le_of_ble_eq_true rfl) rfl (sm_o hS rfl) rfl rfl rfl (rt_boards_m hr hS hW hWm (m := 13 * x) (by omega) (by omega) (hk3.trans (rwk_at.trans hb25)) (by omega)) (fun r h5 q6 => ?_)
            obtain ⟨rfl, hS7, hE8⟩ := q6
            rw [show nxb (jn (rwkI I Q 9) K) (-1) = nxb I (-1) from rwk_nb (Q := Q) (n := 9)] at hS7
            refine go_s (pc' := 93) (lo' := [some (.ref 62), some (.int 10)]) rfl rfl rfl rfl ?_
            refine go_s (pc' := 53) rfl rfl rfl rfl ?_
            by_cases hnb : nxb I (-1) = -1
            · rw [if_pos hnb] at hS7
              have hc9 : rwkc I Q 9 = false := by
                unfold rwkc
                rw [hb25]
                simp [hnb]
              rw [rwk_n hc9] at C
              exact C _ (RA_u.mpr ⟨K, Y, am, ln, hS7, RU_I hE8 (fun _ => rfl) (fun _ => rfl) (Nat.le_refl _) hU4⟩)
            · rw [if_neg hnb] at hS7
              have hc9 : rwkc I Q 9 = true := by
                unfold rwkc
                rw [hQ, hb25]
                simp [hnb, show I 24 9 = -1 from c1, show ¬ I 0 (9 / 4) = 0 from c2, show ¬ I 0 (9 % 4) = 0 from c3]
              rw [rwk_y hc9, hb25] at C
              rw [jn_hi (c := 50) (by decide), jn_hi (c := 50) (by decide)] at hS7
              exact C _ (RA_u.mpr ⟨_, Y, am, ln, sm_jg hr hS7 (fun c j _ n1 n2 _ => (uI_c n2).trans (uI_c n1)), RU_bus (by decide) hU4 hln hE8 hQ h53 hx (fun i hi => by rw [uI_c (by decide), uI_j hi]) (fun i hi => by rw [uI_j hi, uI_c (by decide)]) rfl (fun c j _ hc => by
                simp only [uI]
                rw [if_neg (fun z => hc ⟨z.1, Or.inr z.2⟩), if_neg (fun z => hc ⟨z.1, Or.inl z.2⟩)]) (by rw [uI_j (by omega), uI_s, uI_c (by decide), uI_s]) (by rw [uI_s, uI_s])⟩)
    · skip
      refine go_s (pc' := 54) rfl rfl rfl rfl ?_
      refine go_s (pc' := 55) (st' := [.int 16, .int 9]) rfl rfl rfl rfl ?_
      refine go_icmpP (t' := 94) (pc' := 56) rfl rfl rfl (fun (c : 16 ≤ (9 : Int32)) => absurd c (by decide)) (fun _ => ?_)
      refine go_s (pc' := 57) rfl rfl rfl rfl ?_
      refine go_sget (pc' := 58) (v := .ref 74) hS rfl rfl rfl (by decide) rfl rfl ?_
      refine go_s (pc' := 59) rfl rfl rfl rfl ?_
      refine go_sald (pc' := 60) (q := 9) (v := .int (nI (q.length + 1))) hS rfl (tr_s hr (a := 74) rfl (by decide)) rfl rfl (by decide) (congrArg Value.int h55) rfl ?_
      refine go_ifP (t' := 92) (pc' := 61) rfl rfl rfl (fun (c : (nI (q.length + 1)) ≤ 0) => absurd c (nI_p1 (by omega))) (fun _ => ?_)
      refine go_s (pc' := 62) rfl rfl rfl rfl ?_
      refine go_sget (pc' := 63) (v := .ref am) hS rfl rfl rfl (by decide) rfl rfl ?_
      refine go_s (pc' := 64) rfl rfl rfl rfl ?_
      refine go_sget (pc' := 65) (v := .ref 72) hS rfl rfl rfl (by decide) rfl rfl ?_
      refine go_s (pc' := 66) rfl rfl rfl rfl ?_
      refine go_sald (pc' := 67) (q := 9) (v := .int (nI (13 * x))) hS rfl (tr_s hr (a := 72) rfl (by decide)) rfl rfl (by decide) (congrArg Value.int h53) rfl ?_
      refine go_s (pc' := 68) (st' := [.int 2, .int (nI (13 * x)), .ref am]) rfl rfl rfl rfl ?_
      refine go_nadd (pc' := 69) (a := (13 * x)) (b := 2) rfl rfl rfl rfl rfl ?_
      refine go_sald (pc' := 70) (q := ((13 * x) + 2)) (v := .int (I 24 9)) hS rfl (tr_ms hr (by omega)) rfl rfl (by omega) (congrArg Value.int (hk2.trans rwk_at)) rfl ?_
      refine go_s (pc' := 71) (st' := [.int (-1), .int (I 24 9)]) rfl rfl rfl rfl ?_
      refine go_icmpP (t' := 92) (pc' := 72) rfl rfl rfl (fun (c9 : ¬ (I 24 9) = (-1)) => ?_) (fun (c9' : ¬ ¬ (I 24 9) = (-1)) => ?_)
      · skip
        refine go_s (pc' := 93) (lo' := [some (.ref 62), some (.int 10)]) rfl rfl rfl rfl ?_
        refine go_s (pc' := 53) rfl rfl rfl rfl ?_
        have hc9 : rwkc I Q 9 = false := by
          unfold rwkc
          simp [show ¬ I 24 9 = -1 from c9]
        rw [rwk_n hc9] at C
        exact C _ hA
      · skip
        have c9 : (I 24 9) = (-1) := Decidable.not_not.mp c9'
        refine go_s (pc' := 73) rfl rfl rfl rfl ?_
        refine go_sget (pc' := 74) (v := .ref 63) hS rfl rfl rfl (by decide) rfl rfl ?_
        refine go_s (pc' := 75) rfl rfl rfl rfl ?_
        refine go_s (pc' := 76) (st' := [.int 4, .int 9, .ref 63]) rfl rfl rfl rfl ?_
        refine go_s (pc' := 77) (st' := [.int 2, .ref 63]) rfl rfl rfl rfl ?_
        refine go_sald (pc' := 78) (q := 2) (v := .int ((rwkI I Q 9) 0 2)) hS rfl (tr_s hr (a := 63) rfl (by decide)) rfl rfl (by decide) rfl rfl ?_
        refine go_ifP (t' := 92) (pc' := 79) rfl rfl rfl (fun (c10 : ((rwkI I Q 9) 0 2) = 0) => ?_) (fun (c10 : ¬ ((rwkI I Q 9) 0 2) = 0) => ?_)
        · skip
          refine go_s (pc' := 93) (lo' := [some (.ref 62), some (.int 10)]) rfl rfl rfl rfl ?_
          refine go_s (pc' := 53) rfl rfl rfl rfl ?_
          have hc9 : rwkc I Q 9 = false := by
            unfold rwkc
            simp [show I 0 (9 / 4) = 0 from c10]
          rw [rwk_n hc9] at C
          exact C _ hA
        · skip
          refine go_s (pc' := 80) rfl rfl rfl rfl ?_
          refine go_sget (pc' := 81) (v := .ref 63) hS rfl rfl rfl (by decide) rfl rfl ?_
          refine go_s (pc' := 82) rfl rfl rfl rfl ?_
          refine go_s (pc' := 83) (st' := [.int 4, .int 9, .ref 63]) rfl rfl rfl rfl ?_
          refine go_s (pc' := 84) (st' := [.int 1, .ref 63]) rfl rfl rfl rfl ?_
          refine go_sald (pc' := 85) (q := 1) (v := .int ((rwkI I Q 9) 0 1)) hS rfl (tr_s hr (a := 63) rfl (by decide)) rfl rfl (by decide) rfl rfl ?_
          refine go_ifP (t' := 92) (pc' := 86) rfl rfl rfl (fun (c11 : ((rwkI I Q 9) 0 1) = 0) => ?_) (fun (c11 : ¬ ((rwkI I Q 9) 0 1) = 0) => ?_)
          · skip
            refine go_s (pc' := 93) (lo' := [some (.ref 62), some (.int 10)]) rfl rfl rfl rfl ?_
            refine go_s (pc' := 53) rfl rfl rfl rfl ?_
            have hc9 : rwkc I Q 9 = false := by
              unfold rwkc
              simp [show I 0 (9 % 4) = 0 from c11]
            rw [rwk_n hc9] at C
            exact C _ hA
          · skip
            refine go_s (pc' := 87) rfl rfl rfl rfl ?_
            refine go_s (pc' := 88) rfl rfl rfl rfl ?_
            refine go_sget (pc' := 89) (v := .ref 72) hS rfl rfl rfl (by decide) rfl rfl ?_
            refine go_s (pc' := 90) rfl rfl rfl rfl ?_
            refine go_sald (pc' := 91) (q := 9) (v := .int (nI (13 * x))) hS rfl (tr_s hr (a := 72) rfl (by decide)) rfl rfl (by decide) (congrArg Value.int h53) rfl ?_
            have hU12 : RU w B R [] true h am ln K ((rwkI I Q 9), Q, Z) := RU_I (sm_e_refl (tbr am (13 * ln) 77 5088) _) (I' := (rwkI I Q 9)) (fun _ => rfl) (fun _ => rfl) (Nat.le_refl _) hU
            refine go_callV (pc' := 92) rfl rfl rfl (Nat.le_of_ble_eq_true rfl) rfl (sm_o hS rfl) rfl rfl rfl (rt_boards_0 hr hS hW hWm (m := 13 * x) (by omega) (by omega) (hk3.trans (rwk_at.trans hb25)) (by omega)) (fun r h13 q14 => ?_)
            obtain ⟨rfl, hS15, hE16⟩ := q14
            rw [show nxb (jn (rwkI I Q 9) K) 0 = nxb I 0 from rwk_nb (Q := Q) (n := 9)] at hS15
            refine go_s (pc' := 93) (lo' := [some (.ref 62), some (.int 10)]) rfl rfl rfl rfl ?_
            refine go_s (pc' := 53) rfl rfl rfl rfl ?_
            by_cases hnb : nxb I 0 = -1
            · rw [if_pos hnb] at hS15
              have hc9 : rwkc I Q 9 = false := by
                unfold rwkc
                rw [hb25]
                simp [hnb]
              rw [rwk_n hc9] at C
              exact C _ (RA_u.mpr ⟨K, Y, am, ln, hS15, RU_I hE16 (fun _ => rfl) (fun _ => rfl) (Nat.le_refl _) hU12⟩)
            · rw [if_neg hnb] at hS15
              have hc9 : rwkc I Q 9 = true := by
                unfold rwkc
                rw [hQ, hb25]
                simp [hnb, show I 24 9 = -1 from c9, show ¬ I 0 (9 / 4) = 0 from c10, show ¬ I 0 (9 % 4) = 0 from c11]
              rw [rwk_y hc9, hb25] at C
              rw [jn_hi (c := 50) (by decide), jn_hi (c := 50) (by decide)] at hS15
              exact C _ (RA_u.mpr ⟨_, Y, am, ln, sm_jg hr hS15 (fun c j _ n1 n2 _ => (uI_c n2).trans (uI_c n1)), RU_bus (by decide) hU12 hln hE16 hQ h53 hx (fun i hi => by rw [uI_c (by decide), uI_j hi]) (fun i hi => by rw [uI_j hi, uI_c (by decide)]) rfl (fun c j _ hc => by
                simp only [uI]
                rw [if_neg (fun z => hc ⟨z.1, Or.inr z.2⟩), if_neg (fun z => hc ⟨z.1, Or.inl z.2⟩)]) (by rw [uI_j (by omega), uI_s, uI_c (by decide), uI_s]) (by rw [uI_s, uI_s])⟩)
    · skip
      refine go_s (pc' := 54) rfl rfl rfl rfl ?_
      refine go_s (pc' := 55) (st' := [.int 16, .int 9]) rfl rfl rfl rfl ?_
      refine go_icmpP (t' := 94) (pc' := 56) rfl rfl rfl (fun (c : 16 ≤ (9 : Int32)) => absurd c (by decide)) (fun _ => ?_)
      refine go_s (pc' := 57) rfl rfl rfl rfl ?_
      refine go_sget (pc' := 58) (v := .ref 74) hS rfl rfl rfl (by decide) rfl rfl ?_
      refine go_s (pc' := 59) rfl rfl rfl rfl ?_
      refine go_sald (pc' := 60) (q := 9) (v := .int (nI (q.length + 1))) hS rfl (tr_s hr (a := 74) rfl (by decide)) rfl rfl (by decide) (congrArg Value.int h55) rfl ?_
      refine go_ifP (t' := 92) (pc' := 61) rfl rfl rfl (fun (c : (nI (q.length + 1)) ≤ 0) => absurd c (nI_p1 (by omega))) (fun _ => ?_)
      refine go_s (pc' := 62) rfl rfl rfl rfl ?_
      refine go_sget (pc' := 63) (v := .ref am) hS rfl rfl rfl (by decide) rfl rfl ?_
      refine go_s (pc' := 64) rfl rfl rfl rfl ?_
      refine go_sget (pc' := 65) (v := .ref 72) hS rfl rfl rfl (by decide) rfl rfl ?_
      refine go_s (pc' := 66) rfl rfl rfl rfl ?_
      refine go_sald (pc' := 67) (q := 9) (v := .int (nI (13 * x))) hS rfl (tr_s hr (a := 72) rfl (by decide)) rfl rfl (by decide) (congrArg Value.int h53) rfl ?_
      refine go_s (pc' := 68) (st' := [.int 2, .int (nI (13 * x)), .ref am]) rfl rfl rfl rfl ?_
      refine go_nadd (pc' := 69) (a := (13 * x)) (b := 2) rfl rfl rfl rfl rfl ?_
      refine go_sald (pc' := 70) (q := ((13 * x) + 2)) (v := .int (I 24 9)) hS rfl (tr_ms hr (by omega)) rfl rfl (by omega) (congrArg Value.int (hk2.trans rwk_at)) rfl ?_
      refine go_s (pc' := 71) (st' := [.int (-1), .int (I 24 9)]) rfl rfl rfl rfl ?_
      refine go_icmpP (t' := 92) (pc' := 72) rfl rfl rfl (fun (c17 : ¬ (I 24 9) = (-1)) => ?_) (fun (c17' : ¬ ¬ (I 24 9) = (-1)) => ?_)
      · skip
        refine go_s (pc' := 93) (lo' := [some (.ref 62), some (.int 10)]) rfl rfl rfl rfl ?_
        refine go_s (pc' := 53) rfl rfl rfl rfl ?_
        have hc9 : rwkc I Q 9 = false := by
          unfold rwkc
          simp [show ¬ I 24 9 = -1 from c17]
        rw [rwk_n hc9] at C
        exact C _ hA
      · skip
        have c17 : (I 24 9) = (-1) := Decidable.not_not.mp c17'
        refine go_s (pc' := 73) rfl rfl rfl rfl ?_
        refine go_sget (pc' := 74) (v := .ref 63) hS rfl rfl rfl (by decide) rfl rfl ?_
        refine go_s (pc' := 75) rfl rfl rfl rfl ?_
        refine go_s (pc' := 76) (st' := [.int 4, .int 9, .ref 63]) rfl rfl rfl rfl ?_
        refine go_s (pc' := 77) (st' := [.int 2, .ref 63]) rfl rfl rfl rfl ?_
        refine go_sald (pc' := 78) (q := 2) (v := .int ((rwkI I Q 9) 0 2)) hS rfl (tr_s hr (a := 63) rfl (by decide)) rfl rfl (by decide) rfl rfl ?_
        refine go_ifP (t' := 92) (pc' := 79) rfl rfl rfl (fun (c18 : ((rwkI I Q 9) 0 2) = 0) => ?_) (fun (c18 : ¬ ((rwkI I Q 9) 0 2) = 0) => ?_)
        · skip
          refine go_s (pc' := 93) (lo' := [some (.ref 62), some (.int 10)]) rfl rfl rfl rfl ?_
          refine go_s (pc' := 53) rfl rfl rfl rfl ?_
          have hc9 : rwkc I Q 9 = false := by
            unfold rwkc
            simp [show I 0 (9 / 4) = 0 from c18]
          rw [rwk_n hc9] at C
          exact C _ hA
        · skip
          refine go_s (pc' := 80) rfl rfl rfl rfl ?_
          refine go_sget (pc' := 81) (v := .ref 63) hS rfl rfl rfl (by decide) rfl rfl ?_
          refine go_s (pc' := 82) rfl rfl rfl rfl ?_
          refine go_s (pc' := 83) (st' := [.int 4, .int 9, .ref 63]) rfl rfl rfl rfl ?_
          refine go_s (pc' := 84) (st' := [.int 1, .ref 63]) rfl rfl rfl rfl ?_
          refine go_sald (pc' := 85) (q := 1) (v := .int ((rwkI I Q 9) 0 1)) hS rfl (tr_s hr (a := 63) rfl (by decide)) rfl rfl (by decide) rfl rfl ?_
          refine go_ifP (t' := 92) (pc' := 86) rfl rfl rfl (fun (c19 : ((rwkI I Q 9) 0 1) = 0) => ?_) (fun (c19 : ¬ ((rwkI I Q 9) 0 1) = 0) => ?_)
          · skip
            refine go_s (pc' := 93) (lo' := [some (.ref 62), some (.int 10)]) rfl rfl rfl rfl ?_
            refine go_s (pc' := 53) rfl rfl rfl rfl ?_
            have hc9 : rwkc I Q 9 = false := by
              unfold rwkc
              simp [show I 0 (9 % 4) = 0 from c19]
            rw [rwk_n hc9] at C
            exact C _ hA
          · skip
            refine go_s (pc' := 87) rfl rfl rfl rfl ?_
            refine go_s (pc' := 88) rfl rfl rfl rfl ?_
            refine go_sget (pc' := 89) (v := .ref 72) hS rfl rfl rfl (by decide) rfl rfl ?_
            refine go_s (pc' := 90) rfl rfl rfl rfl ?_
            refine go_sald (pc' := 91) (q := 9) (v := .int (nI (13 * x))) hS rfl (tr_s hr (a := 72) rfl (by decide)) rfl rfl (by decide) (congrArg Value.int h53) rfl ?_
            have hU20 : RU w B R [] true h am ln K ((rwkI I Q 9), Q, Z) := RU_I (sm_e_refl (tbr am (13 * ln) 77 5088) _) (I' := (rwkI I Q 9)) (fun _ => rfl) (fun _ => rfl) (Nat.le_refl _) hU
            refine go_callV (pc' := 92) rfl rfl rfl (Nat.le_of_ble_eq_true rfl) rfl (sm_o hS rfl) rfl rfl rfl (rt_boards_1 hr hS hW hWm (m := 13 * x) (by omega) (by omega) (hk3.trans (rwk_at.trans hb25)) (by omega)) (fun r h21 q22 => ?_)
            obtain ⟨rfl, hS23, hE24⟩ := q22
            rw [show nxb (jn (rwkI I Q 9) K) 1 = nxb I 1 from rwk_nb (Q := Q) (n := 9)] at hS23
            refine go_s (pc' := 93) (lo' := [some (.ref 62), some (.int 10)]) rfl rfl rfl rfl ?_
            refine go_s (pc' := 53) rfl rfl rfl rfl ?_
            by_cases hnb : nxb I 1 = -1
            · rw [if_pos hnb] at hS23
              have hc9 : rwkc I Q 9 = false := by
                unfold rwkc
                rw [hb25]
                simp [hnb]
              rw [rwk_n hc9] at C
              exact C _ (RA_u.mpr ⟨K, Y, am, ln, hS23, RU_I hE24 (fun _ => rfl) (fun _ => rfl) (Nat.le_refl _) hU20⟩)
            · rw [if_neg hnb] at hS23
              have hc9 : rwkc I Q 9 = true := by
                unfold rwkc
                rw [hQ, hb25]
                simp [hnb, show I 24 9 = -1 from c17, show ¬ I 0 (9 / 4) = 0 from c18, show ¬ I 0 (9 % 4) = 0 from c19]
              rw [rwk_y hc9, hb25] at C
              rw [jn_hi (c := 50) (by decide), jn_hi (c := 50) (by decide)] at hS23
              exact C _ (RA_u.mpr ⟨_, Y, am, ln, sm_jg hr hS23 (fun c j _ n1 n2 _ => (uI_c n2).trans (uI_c n1)), RU_bus (by decide) hU20 hln hE24 hQ h53 hx (fun i hi => by rw [uI_c (by decide), uI_j hi]) (fun i hi => by rw [uI_j hi, uI_c (by decide)]) rfl (fun c j _ hc => by
                simp only [uI]
                rw [if_neg (fun z => hc ⟨z.1, Or.inr z.2⟩), if_neg (fun z => hc ⟨z.1, Or.inl z.2⟩)]) (by rw [uI_j (by omega), uI_s, uI_c (by decide), uI_s]) (by rw [uI_s, uI_s])⟩)
theorem stW_10 {w : Nat → Bool} {d B R : Nat} {h : am_Hp} {I : sm_I} {Q : mQ} {Z : mZ} {P : Option Value → am_Hp → Prop} (hA : RA w B R [] true h (rwkI I Q 10, Q, Z)) (hR : R + 0 < 40000) (htri : tri (I 25 10)) (hd : 2 ≤ d) (C : ∀ h', RA w B (R + 0) [] true h' (rwkI I Q 11, Q, Z) → am_Go (am_prog w) d am_c168 (some .int) 53 [some (.ref 62), some (.int 11)] [] h' P) : am_Go (am_prog w) d am_c168 (some .int) 53 [some (.ref 62), some (.int 10)] [] h P := by
  obtain ⟨K, Y, am, ln, hS, hU⟩ := RA_u.mp hA
  change sm (tbr am (13 * ln) 77 5088) h (jn (rwkI I Q 10) K) Y at hS
  obtain ⟨hW, hWm, -, -, hr, -⟩ := id hU.1
  have hln := RU_ln hU (by omega)
  cases hQ : Q 10 with
  | nil =>
    have h55 : K 55 10 = 0 := by
      have z := (RU_lk (l := 10) hU (by decide)).1
      rw [hQ] at z
      exact z
    refine go_s (pc' := 54) rfl rfl rfl rfl ?_
    refine go_s (pc' := 55) (st' := [.int 16, .int 10]) rfl rfl rfl rfl ?_
    refine go_icmpP (t' := 94) (pc' := 56) rfl rfl rfl (fun (c : 16 ≤ (10 : Int32)) => absurd c (by decide)) (fun _ => ?_)
    refine go_s (pc' := 57) rfl rfl rfl rfl ?_
    refine go_sget (pc' := 58) (v := .ref 74) hS rfl rfl rfl (by decide) rfl rfl ?_
    refine go_s (pc' := 59) rfl rfl rfl rfl ?_
    refine go_sald (pc' := 60) (q := 10) (v := .int 0) hS rfl (tr_s hr (a := 74) rfl (by decide)) rfl rfl (by decide) (congrArg Value.int h55) rfl ?_
    refine go_ifP (t' := 92) (pc' := 61) rfl rfl rfl (fun _ => ?_) (fun (c : ¬ ((0 : Int32) ≤ 0)) => absurd (by decide) c)
    refine go_s (pc' := 93) (lo' := [some (.ref 62), some (.int 11)]) rfl rfl rfl rfl ?_
    refine go_s (pc' := 53) rfl rfl rfl rfl ?_
    have hc9 : rwkc I Q 10 = false := by
      unfold rwkc
      rw [hQ]
      rfl
    rw [rwk_n hc9] at C
    exact C _ hA
  | cons m q =>
    obtain ⟨hk55, hle, hxx⟩ := RU_lk (l := 10) hU (by decide)
    obtain ⟨x, h53, hx, hk2, hk3, hk0, hk1⟩ := hxx m q hQ
    rw [hQ] at hk55 hle
    have h55 : K 55 10 = nI (q.length + 1) := hk55
    have hle2 : q.length + 1 ≤ ln := hle
    rcases htri with hb25 | hb25 | hb25
    · skip
      refine go_s (pc' := 54) rfl rfl rfl rfl ?_
      refine go_s (pc' := 55) (st' := [.int 16, .int 10]) rfl rfl rfl rfl ?_
      refine go_icmpP (t' := 94) (pc' := 56) rfl rfl rfl (fun (c : 16 ≤ (10 : Int32)) => absurd c (by decide)) (fun _ => ?_)
      refine go_s (pc' := 57) rfl rfl rfl rfl ?_
      refine go_sget (pc' := 58) (v := .ref 74) hS rfl rfl rfl (by decide) rfl rfl ?_
      refine go_s (pc' := 59) rfl rfl rfl rfl ?_
      refine go_sald (pc' := 60) (q := 10) (v := .int (nI (q.length + 1))) hS rfl (tr_s hr (a := 74) rfl (by decide)) rfl rfl (by decide) (congrArg Value.int h55) rfl ?_
      refine go_ifP (t' := 92) (pc' := 61) rfl rfl rfl (fun (c : (nI (q.length + 1)) ≤ 0) => absurd c (nI_p1 (by omega))) (fun _ => ?_)
      refine go_s (pc' := 62) rfl rfl rfl rfl ?_
      refine go_sget (pc' := 63) (v := .ref am) hS rfl rfl rfl (by decide) rfl rfl ?_
      refine go_s (pc' := 64) rfl rfl rfl rfl ?_
      refine go_sget (pc' := 65) (v := .ref 72) hS rfl rfl rfl (by decide) rfl rfl ?_
      refine go_s (pc' := 66) rfl rfl rfl rfl ?_
      refine go_sald (pc' := 67) (q := 10) (v := .int (nI (13 * x))) hS rfl (tr_s hr (a := 72) rfl (by decide)) rfl rfl (by decide) (congrArg Value.int h53) rfl ?_
      refine go_s (pc' := 68) (st' := [.int 2, .int (nI (13 * x)), .ref am]) rfl rfl rfl rfl ?_
      refine go_nadd (pc' := 69) (a := (13 * x)) (b := 2) rfl rfl rfl rfl rfl ?_
      refine go_sald (pc' := 70) (q := ((13 * x) + 2)) (v := .int (I 24 10)) hS rfl (tr_ms hr (by omega)) rfl rfl (by omega) (congrArg Value.int (hk2.trans rwk_at)) rfl ?_
      refine go_s (pc' := 71) (st' := [.int (-1), .int (I 24 10)]) rfl rfl rfl rfl ?_
      refine go_icmpP (t' := 92) (pc' := 72) rfl rfl rfl (fun (c1 : ¬ (I 24 10) = (-1)) => ?_) (fun (c1' : ¬ ¬ (I 24 10) = (-1)) => ?_)
      · skip
        refine go_s (pc' := 93) (lo' := [some (.ref 62), some (.int 11)]) rfl rfl rfl rfl ?_
        refine go_s (pc' := 53) rfl rfl rfl rfl ?_
        have hc9 : rwkc I Q 10 = false := by
          unfold rwkc
          simp [show ¬ I 24 10 = -1 from c1]
        rw [rwk_n hc9] at C
        exact C _ hA
      · skip
        have c1 : (I 24 10) = (-1) := Decidable.not_not.mp c1'
        refine go_s (pc' := 73) rfl rfl rfl rfl ?_
        refine go_sget (pc' := 74) (v := .ref 63) hS rfl rfl rfl (by decide) rfl rfl ?_
        refine go_s (pc' := 75) rfl rfl rfl rfl ?_
        refine go_s (pc' := 76) (st' := [.int 4, .int 10, .ref 63]) rfl rfl rfl rfl ?_
        refine go_s (pc' := 77) (st' := [.int 2, .ref 63]) rfl rfl rfl rfl ?_
        refine go_sald (pc' := 78) (q := 2) (v := .int ((rwkI I Q 10) 0 2)) hS rfl (tr_s hr (a := 63) rfl (by decide)) rfl rfl (by decide) rfl rfl ?_
        refine go_ifP (t' := 92) (pc' := 79) rfl rfl rfl (fun (c2 : ((rwkI I Q 10) 0 2) = 0) => ?_) (fun (c2 : ¬ ((rwkI I Q 10) 0 2) = 0) => ?_)
        · skip
          refine go_s (pc' := 93) (lo' := [some (.ref 62), some (.int 11)]) rfl rfl rfl rfl ?_
          refine go_s (pc' := 53) rfl rfl rfl rfl ?_
          have hc9 : rwkc I Q 10 = false := by
            unfold rwkc
            simp [show I 0 (10 / 4) = 0 from c2]
          rw [rwk_n hc9] at C
          exact C _ hA
        · skip
          refine go_s (pc' := 80) rfl rfl rfl rfl ?_
          refine go_sget (pc' := 81) (v := .ref 63) hS rfl rfl rfl (by decide) rfl rfl ?_
          refine go_s (pc' := 82) rfl rfl rfl rfl ?_
          refine go_s (pc' := 83) (st' := [.int 4, .int 10, .ref 63]) rfl rfl rfl rfl ?_
          refine go_s (pc' := 84) (st' := [.int 2, .ref 63]) rfl rfl rfl rfl ?_
          refine go_sald (pc' := 85) (q := 2) (v := .int ((rwkI I Q 10) 0 2)) hS rfl (tr_s hr (a := 63) rfl (by decide)) rfl rfl (by decide) rfl rfl ?_
          refine go_ifP (t' := 92) (pc' := 86) rfl rfl rfl (fun (c : ((rwkI I Q 10) 0 2) = 0) => absurd c c2) (fun _ => ?_)
          refine go_s (pc' := 87) rfl rfl rfl rfl ?_
          refine go_s (pc' := 88) rfl rfl rfl rfl ?_
          refine go_sget (pc' := 89) (v := .ref 72) hS rfl rfl rfl (by decide) rfl rfl ?_
          refine go_s (pc' := 90) rfl rfl rfl rfl ?_
          refine go_sald (pc' := 91) (q := 10) (v := .int (nI (13 * x))) hS rfl (tr_s hr (a := 72) rfl (by decide)) rfl rfl (by decide) (congrArg Value.int h53) rfl ?_
          have hU3 : RU w B R [] true h am ln K ((rwkI I Q 10), Q, Z) := RU_I (sm_e_refl (tbr am (13 * ln) 77 5088) _) (I' := (rwkI I Q 10)) (fun _ => rfl) (fun _ => rfl) (Nat.le_refl _) hU
          refine go_callV (pc' := 92) rfl rfl rfl (Nat.le_of_ble_eq_true rfl) rfl (sm_o hS rfl) rfl rfl rfl (rt_boards_m hr hS hW hWm (m := 13 * x) (by omega) (by omega) (hk3.trans (rwk_at.trans hb25)) (by omega)) (fun r h4 q5 => ?_)
          obtain ⟨rfl, hS6, hE7⟩ := q5
          rw [show nxb (jn (rwkI I Q 10) K) (-1) = nxb I (-1) from rwk_nb (Q := Q) (n := 10)] at hS6
          refine go_s (pc' := 93) (lo' := [some (.ref 62), some (.int 11)]) rfl rfl rfl rfl ?_
          refine go_s (pc' := 53) rfl rfl rfl rfl ?_
          by_cases hnb : nxb I (-1) = -1
          · rw [if_pos hnb] at hS6
            have hc9 : rwkc I Q 10 = false := by
              unfold rwkc
              rw [hb25]
              simp [hnb]
            rw [rwk_n hc9] at C
            exact C _ (RA_u.mpr ⟨K, Y, am, ln, hS6, RU_I hE7 (fun _ => rfl) (fun _ => rfl) (Nat.le_refl _) hU3⟩)
          · rw [if_neg hnb] at hS6
            have hc9 : rwkc I Q 10 = true := by
              unfold rwkc
              rw [hQ, hb25]
              simp [hnb, show I 24 10 = -1 from c1, show ¬ I 0 (10 / 4) = 0 from c2, show ¬ I 0 (10 % 4) = 0 from c2]
            rw [rwk_y hc9, hb25] at C
            rw [jn_hi (c := 50) (by decide), jn_hi (c := 50) (by decide)] at hS6
            exact C _ (RA_u.mpr ⟨_, Y, am, ln, sm_jg hr hS6 (fun c j _ n1 n2 _ => (uI_c n2).trans (uI_c n1)), RU_bus (by decide) hU3 hln hE7 hQ h53 hx (fun i hi => by rw [uI_c (by decide), uI_j hi]) (fun i hi => by rw [uI_j hi, uI_c (by decide)]) rfl (fun c j _ hc => by
              simp only [uI]
              rw [if_neg (fun z => hc ⟨z.1, Or.inr z.2⟩), if_neg (fun z => hc ⟨z.1, Or.inl z.2⟩)]) (by rw [uI_j (by omega), uI_s, uI_c (by decide), uI_s]) (by rw [uI_s, uI_s])⟩)
    · skip
      refine go_s (pc' := 54) rfl rfl rfl rfl ?_
      refine go_s (pc' := 55) (st' := [.int 16, .int 10]) rfl rfl rfl rfl ?_
      refine go_icmpP (t' := 94) (pc' := 56) rfl rfl rfl (fun (c : 16 ≤ (10 : Int32)) => absurd c (by decide)) (fun _ => ?_)
      refine go_s (pc' := 57) rfl rfl rfl rfl ?_
      refine go_sget (pc' := 58) (v := .ref 74) hS rfl rfl rfl (by decide) rfl rfl ?_
      refine go_s (pc' := 59) rfl rfl rfl rfl ?_
      refine go_sald (pc' := 60) (q := 10) (v := .int (nI (q.length + 1))) hS rfl (tr_s hr (a := 74) rfl (by decide)) rfl rfl (by decide) (congrArg Value.int h55) rfl ?_
      refine go_ifP (t' := 92) (pc' := 61) rfl rfl rfl (fun (c : (nI (q.length + 1)) ≤ 0) => absurd c (nI_p1 (by omega))) (fun _ => ?_)
      refine go_s (pc' := 62) rfl rfl rfl rfl ?_
      refine go_sget (pc' := 63) (v := .ref am) hS rfl rfl rfl (by decide) rfl rfl ?_
      refine go_s (pc' := 64) rfl rfl rfl rfl ?_
      refine go_sget (pc' := 65) (v := .ref 72) hS rfl rfl rfl (by decide) rfl rfl ?_
      refine go_s (pc' := 66) rfl rfl rfl rfl ?_
      refine go_sald (pc' := 67) (q := 10) (v := .int (nI (13 * x))) hS rfl (tr_s hr (a := 72) rfl (by decide)) rfl rfl (by decide) (congrArg Value.int h53) rfl ?_
      refine go_s (pc' := 68) (st' := [.int 2, .int (nI (13 * x)), .ref am]) rfl rfl rfl rfl ?_
      refine go_nadd (pc' := 69) (a := (13 * x)) (b := 2) rfl rfl rfl rfl rfl ?_
      refine go_sald (pc' := 70) (q := ((13 * x) + 2)) (v := .int (I 24 10)) hS rfl (tr_ms hr (by omega)) rfl rfl (by omega) (congrArg Value.int (hk2.trans rwk_at)) rfl ?_
      refine go_s (pc' := 71) (st' := [.int (-1), .int (I 24 10)]) rfl rfl rfl rfl ?_
      refine go_icmpP (t' := 92) (pc' := 72) rfl rfl rfl (fun (c8 : ¬ (I 24 10) = (-1)) => ?_) (fun (c8' : ¬ ¬ (I 24 10) = (-1)) => ?_)
      · skip
        refine go_s (pc' := 93) (lo' := [some (.ref 62), some (.int 11)]) rfl rfl rfl rfl ?_
        refine go_s (pc' := 53) rfl rfl rfl rfl ?_
        have hc9 : rwkc I Q 10 = false := by
          unfold rwkc
          simp [show ¬ I 24 10 = -1 from c8]
        rw [rwk_n hc9] at C
        exact C _ hA
      · skip
        have c8 : (I 24 10) = (-1) := Decidable.not_not.mp c8'
        refine go_s (pc' := 73) rfl rfl rfl rfl ?_
        refine go_sget (pc' := 74) (v := .ref 63) hS rfl rfl rfl (by decide) rfl rfl ?_
        refine go_s (pc' := 75) rfl rfl rfl rfl ?_
        refine go_s (pc' := 76) (st' := [.int 4, .int 10, .ref 63]) rfl rfl rfl rfl ?_
        refine go_s (pc' := 77) (st' := [.int 2, .ref 63]) rfl rfl rfl rfl ?_
        refine go_sald (pc' := 78) (q := 2) (v := .int ((rwkI I Q 10) 0 2)) hS rfl (tr_s hr (a := 63) rfl (by decide)) rfl rfl (by decide) rfl rfl ?_
        refine go_ifP (t' := 92) (pc' := 79) rfl rfl rfl (fun (c9 : ((rwkI I Q 10) 0 2) = 0) => ?_) (fun (c9 : ¬ ((rwkI I Q 10) 0 2) = 0) => ?_)
        · skip
          refine go_s (pc' := 93) (lo' := [some (.ref 62), some (.int 11)]) rfl rfl rfl rfl ?_
          refine go_s (pc' := 53) rfl rfl rfl rfl ?_
          have hc9 : rwkc I Q 10 = false := by
            unfold rwkc
            simp [show I 0 (10 / 4) = 0 from c9]
          rw [rwk_n hc9] at C
          exact C _ hA
        · skip
          refine go_s (pc' := 80) rfl rfl rfl rfl ?_
          refine go_sget (pc' := 81) (v := .ref 63) hS rfl rfl rfl (by decide) rfl rfl ?_
          refine go_s (pc' := 82) rfl rfl rfl rfl ?_
          refine go_s (pc' := 83) (st' := [.int 4, .int 10, .ref 63]) rfl rfl rfl rfl ?_
          refine go_s (pc' := 84) (st' := [.int 2, .ref 63]) rfl rfl rfl rfl ?_
          refine go_sald (pc' := 85) (q := 2) (v := .int ((rwkI I Q 10) 0 2)) hS rfl (tr_s hr (a := 63) rfl (by decide)) rfl rfl (by decide) rfl rfl ?_
          refine go_ifP (t' := 92) (pc' := 86) rfl rfl rfl (fun (c : ((rwkI I Q 10) 0 2) = 0) => absurd c c9) (fun _ => ?_)
          refine go_s (pc' := 87) rfl rfl rfl rfl ?_
          refine go_s (pc' := 88) rfl rfl rfl rfl ?_
          refine go_sget (pc' := 89) (v := .ref 72) hS rfl rfl rfl (by decide) rfl rfl ?_
          refine go_s (pc' := 90) rfl rfl rfl rfl ?_
          refine go_sald (pc' := 91) (q := 10) (v := .int (nI (13 * x))) hS rfl (tr_s hr (a := 72) rfl (by decide)) rfl rfl (by decide) (congrArg Value.int h53) rfl ?_
          have hU10 : RU w B R [] true h am ln K ((rwkI I Q 10), Q, Z) := RU_I (sm_e_refl (tbr am (13 * ln) 77 5088) _) (I' := (rwkI I Q 10)) (fun _ => rfl) (fun _ => rfl) (Nat.le_refl _) hU
          refine go_callV (pc' := 92) rfl rfl rfl (Nat.le_of_ble_eq_true rfl) rfl (sm_o hS rfl) rfl rfl rfl (rt_boards_0 hr hS hW hWm (m := 13 * x) (by omega) (by omega) (hk3.trans (rwk_at.trans hb25)) (by omega)) (fun r h11 q12 => ?_)
          obtain ⟨rfl, hS13, hE14⟩ := q12
          rw [show nxb (jn (rwkI I Q 10) K) 0 = nxb I 0 from rwk_nb (Q := Q) (n := 10)] at hS13
          refine go_s (pc' := 93) (lo' := [some (.ref 62), some (.int 11)]) rfl rfl rfl rfl ?_
          refine go_s (pc' := 53) rfl rfl rfl rfl ?_
          by_cases hnb : nxb I 0 = -1
          · rw [if_pos hnb] at hS13
            have hc9 : rwkc I Q 10 = false := by
              unfold rwkc
              rw [hb25]
              simp [hnb]
            rw [rwk_n hc9] at C
            exact C _ (RA_u.mpr ⟨K, Y, am, ln, hS13, RU_I hE14 (fun _ => rfl) (fun _ => rfl) (Nat.le_refl _) hU10⟩)
          · rw [if_neg hnb] at hS13
            have hc9 : rwkc I Q 10 = true := by
              unfold rwkc
              rw [hQ, hb25]
              simp [hnb, show I 24 10 = -1 from c8, show ¬ I 0 (10 / 4) = 0 from c9, show ¬ I 0 (10 % 4) = 0 from c9]
            rw [rwk_y hc9, hb25] at C
            rw [jn_hi (c := 50) (by decide), jn_hi (c := 50) (by decide)] at hS13
            exact C _ (RA_u.mpr ⟨_, Y, am, ln, sm_jg hr hS13 (fun c j _ n1 n2 _ => (uI_c n2).trans (uI_c n1)), RU_bus (by decide) hU10 hln hE14 hQ h53 hx (fun i hi => by rw [uI_c (by decide), uI_j hi]) (fun i hi => by rw [uI_j hi, uI_c (by decide)]) rfl (fun c j _ hc => by
              simp only [uI]
              rw [if_neg (fun z => hc ⟨z.1, Or.inr z.2⟩), if_neg (fun z => hc ⟨z.1, Or.inl z.2⟩)]) (by rw [uI_j (by omega), uI_s, uI_c (by decide), uI_s]) (by rw [uI_s, uI_s])⟩)
    · skip
      refine go_s (pc' := 54) rfl rfl rfl rfl ?_
      refine go_s (pc' := 55) (st' := [.int 16, .int 10]) rfl rfl rfl rfl ?_
      refine go_icmpP (t' := 94) (pc' := 56) rfl rfl rfl (fun (c : 16 ≤ (10 : Int32)) => absurd c (by decide)) (fun _ => ?_)
      refine go_s (pc' := 57) rfl rfl rfl rfl ?_
      refine go_sget (pc' := 58) (v := .ref 74) hS rfl rfl rfl (by decide) rfl rfl ?_
      refine go_s (pc' := 59) rfl rfl rfl rfl ?_
      refine go_sald (pc' := 60) (q := 10) (v := .int (nI (q.length + 1))) hS rfl (tr_s hr (a := 74) rfl (by decide)) rfl rfl (by decide) (congrArg Value.int h55) rfl ?_
      refine go_ifP (t' := 92) (pc' := 61) rfl rfl rfl (fun (c : (nI (q.length + 1)) ≤ 0) => absurd c (nI_p1 (by omega))) (fun _ => ?_)
      refine go_s (pc' := 62) rfl rfl rfl rfl ?_
      refine go_sget (pc' := 63) (v := .ref am) hS rfl rfl rfl (by decide) rfl rfl ?_
      refine go_s (pc' := 64) rfl rfl rfl rfl ?_
      refine go_sget (pc' := 65) (v := .ref 72) hS rfl rfl rfl (by decide) rfl rfl ?_
      refine go_s (pc' := 66) rfl rfl rfl rfl ?_
      refine go_sald (pc' := 67) (q := 10) (v := .int (nI (13 * x))) hS rfl (tr_s hr (a := 72) rfl (by decide)) rfl rfl (by decide) (congrArg Value.int h53) rfl ?_
      refine go_s (pc' := 68) (st' := [.int 2, .int (nI (13 * x)), .ref am]) rfl rfl rfl rfl ?_
      refine go_nadd (pc' := 69) (a := (13 * x)) (b := 2) rfl rfl rfl rfl rfl ?_
      refine go_sald (pc' := 70) (q := ((13 * x) + 2)) (v := .int (I 24 10)) hS rfl (tr_ms hr (by omega)) rfl rfl (by omega) (congrArg Value.int (hk2.trans rwk_at)) rfl ?_
      refine go_s (pc' := 71) (st' := [.int (-1), .int (I 24 10)]) rfl rfl rfl rfl ?_
      refine go_icmpP (t' := 92) (pc' := 72) rfl rfl rfl (fun (c15 : ¬ (I 24 10) = (-1)) => ?_) (fun (c15' : ¬ ¬ (I 24 10) = (-1)) => ?_)
      · skip
        refine go_s (pc' := 93) (lo' := [some (.ref 62), some (.int 11)]) rfl rfl rfl rfl ?_
        refine go_s (pc' := 53) rfl rfl rfl rfl ?_
        have hc9 : rwkc I Q 10 = false := by
          unfold rwkc
          simp [show ¬ I 24 10 = -1 from c15]
        rw [rwk_n hc9] at C
        exact C _ hA
      · skip
        have c15 : (I 24 10) = (-1) := Decidable.not_not.mp c15'
        refine go_s (pc' := 73) rfl rfl rfl rfl ?_
        refine go_sget (pc' := 74) (v := .ref 63) hS rfl rfl rfl (by decide) rfl rfl ?_
        refine go_s (pc' := 75) rfl rfl rfl rfl ?_
        refine go_s (pc' := 76) (st' := [.int 4, .int 10, .ref 63]) rfl rfl rfl rfl ?_
        refine go_s (pc' := 77) (st' := [.int 2, .ref 63]) rfl rfl rfl rfl ?_
        refine go_sald (pc' := 78) (q := 2) (v := .int ((rwkI I Q 10) 0 2)) hS rfl (tr_s hr (a := 63) rfl (by decide)) rfl rfl (by decide) rfl rfl ?_
        refine go_ifP (t' := 92) (pc' := 79) rfl rfl rfl (fun (c16 : ((rwkI I Q 10) 0 2) = 0) => ?_) (fun (c16 : ¬ ((rwkI I Q 10) 0 2) = 0) => ?_)
        · skip
          refine go_s (pc' := 93) (lo' := [some (.ref 62), some (.int 11)]) rfl rfl rfl rfl ?_
          refine go_s (pc' := 53) rfl rfl rfl rfl ?_
          have hc9 : rwkc I Q 10 = false := by
            unfold rwkc
            simp [show I 0 (10 / 4) = 0 from c16]
          rw [rwk_n hc9] at C
          exact C _ hA
        · skip
          refine go_s (pc' := 80) rfl rfl rfl rfl ?_
          refine go_sget (pc' := 81) (v := .ref 63) hS rfl rfl rfl (by decide) rfl rfl ?_
          refine go_s (pc' := 82) rfl rfl rfl rfl ?_
          refine go_s (pc' := 83) (st' := [.int 4, .int 10, .ref 63]) rfl rfl rfl rfl ?_
          refine go_s (pc' := 84) (st' := [.int 2, .ref 63]) rfl rfl rfl rfl ?_
          refine go_sald (pc' := 85) (q := 2) (v := .int ((rwkI I Q 10) 0 2)) hS rfl (tr_s hr (a := 63) rfl (by decide)) rfl rfl (by decide) rfl rfl ?_
          refine go_ifP (t' := 92) (pc' := 86) rfl rfl rfl (fun (c : ((rwkI I Q 10) 0 2) = 0) => absurd c c16) (fun _ => ?_)
          refine go_s (pc' := 87) rfl rfl rfl rfl ?_
          refine go_s (pc' := 88) rfl rfl rfl rfl ?_
          refine go_sget (pc' := 89) (v := .ref 72) hS rfl rfl rfl (by decide) rfl rfl ?_
          refine go_s (pc' := 90) rfl rfl rfl rfl ?_
          refine go_sald (pc' := 91) (q := 10) (v := .int (nI (13 * x))) hS rfl (tr_s hr (a := 72) rfl (by decide)) rfl rfl (by decide) (congrArg Value.int h53) rfl ?_
          have hU17 : RU w B R [] true h am ln K ((rwkI I Q 10), Q, Z) := RU_I (sm_e_refl (tbr am (13 * ln) 77 5088) _) (I' := (rwkI I Q 10)) (fun _ => rfl) (fun _ => rfl) (Nat.le_refl _) hU
          refine go_callV (pc' := 92) rfl rfl rfl (Nat.le_of_ble_eq_true rfl) rfl (sm_o hS rfl) rfl rfl rfl (rt_boards_1 hr hS hW hWm (m := 13 * x) (by omega) (by omega) (hk3.trans (rwk_at.trans hb25)) (by omega)) (fun r h18 q19 => ?_)
          obtain ⟨rfl, hS20, hE21⟩ := q19
          rw [show nxb (jn (rwkI I Q 10) K) 1 = nxb I 1 from rwk_nb (Q := Q) (n := 10)] at hS20
          refine go_s (pc' := 93) (lo' := [some (.ref 62), some (.int 11)]) rfl rfl rfl rfl ?_
          refine go_s (pc' := 53) rfl rfl rfl rfl ?_
          by_cases hnb : nxb I 1 = -1
          · rw [if_pos hnb] at hS20
            have hc9 : rwkc I Q 10 = false := by
              unfold rwkc
              rw [hb25]
              simp [hnb]
            rw [rwk_n hc9] at C
            exact C _ (RA_u.mpr ⟨K, Y, am, ln, hS20, RU_I hE21 (fun _ => rfl) (fun _ => rfl) (Nat.le_refl _) hU17⟩)
          · rw [if_neg hnb] at hS20
            have hc9 : rwkc I Q 10 = true := by
              unfold rwkc
              rw [hQ, hb25]
              simp [hnb, show I 24 10 = -1 from c15, show ¬ I 0 (10 / 4) = 0 from c16, show ¬ I 0 (10 % 4) = 0 from c16]
            rw [rwk_y hc9, hb25] at C
            rw [jn_hi (c := 50) (by decide), jn_hi (c := 50) (by decide)] at hS20
            exact C _ (RA_u.mpr ⟨_, Y, am, ln, sm_jg hr hS20 (fun c j _ n1 n2 _ => (uI_c n2).trans (uI_c n1)), RU_bus (by decide) hU17 hln hE21 hQ h53 hx (fun i hi => by rw [uI_c (by decide), uI_j hi]) (fun i hi => by rw [uI_j hi, uI_c (by decide)]) rfl (fun c j _ hc => by
              simp only [uI]
              rw [if_neg (fun z => hc ⟨z.1, Or.inr z.2⟩), if_neg (fun z => hc ⟨z.1, Or.inl z.2⟩)]) (by rw [uI_j (by omega), uI_s, uI_c (by decide), uI_s]) (by rw [uI_s, uI_s])⟩)
theorem stW_11 {w : Nat → Bool} {d B R : Nat} {h : am_Hp} {I : sm_I} {Q : mQ} {Z : mZ} {P : Option Value → am_Hp → Prop} (hA : RA w B R [] true h (rwkI I Q 11, Q, Z)) (hR : R + 0 < 40000) (htri : tri (I 25 11)) (hd : 2 ≤ d) (C : ∀ h', RA w B (R + 0) [] true h' (rwkI I Q 12, Q, Z) → am_Go (am_prog w) d am_c168 (some .int) 53 [some (.ref 62), some (.int 12)] [] h' P) : am_Go (am_prog w) d am_c168 (some .int) 53 [some (.ref 62), some (.int 11)] [] h P := by
  obtain ⟨K, Y, am, ln, hS, hU⟩ := RA_u.mp hA
  change sm (tbr am (13 * ln) 77 5088) h (jn (rwkI I Q 11) K) Y at hS
  obtain ⟨hW, hWm, -, -, hr, -⟩ := id hU.1
  have hln := RU_ln hU (by omega)
  cases hQ : Q 11 with
  | nil =>
    have h55 : K 55 11 = 0 := by
      have z := (RU_lk (l := 11) hU (by decide)).1
      rw [hQ] at z
      exact z
    refine go_s (pc' := 54) rfl rfl rfl rfl ?_
    refine go_s (pc' := 55) (st' := [.int 16, .int 11]) rfl rfl rfl rfl ?_
    refine go_icmpP (t' := 94) (pc' := 56) rfl rfl rfl (fun (c : 16 ≤ (11 : Int32)) => absurd c (by decide)) (fun _ => ?_)
    refine go_s (pc' := 57) rfl rfl rfl rfl ?_
    refine go_sget (pc' := 58) (v := .ref 74) hS rfl rfl rfl (by decide) rfl rfl ?_
    refine go_s (pc' := 59) rfl rfl rfl rfl ?_
    refine go_sald (pc' := 60) (q := 11) (v := .int 0) hS rfl (tr_s hr (a := 74) rfl (by decide)) rfl rfl (by decide) (congrArg Value.int h55) rfl ?_
    refine go_ifP (t' := 92) (pc' := 61) rfl rfl rfl (fun _ => ?_) (fun (c : ¬ ((0 : Int32) ≤ 0)) => absurd (by decide) c)
    refine go_s (pc' := 93) (lo' := [some (.ref 62), some (.int 12)]) rfl rfl rfl rfl ?_
    refine go_s (pc' := 53) rfl rfl rfl rfl ?_
    have hc9 : rwkc I Q 11 = false := by
      unfold rwkc
      rw [hQ]
      rfl
    rw [rwk_n hc9] at C
    exact C _ hA
  | cons m q =>
    obtain ⟨hk55, hle, hxx⟩ := RU_lk (l := 11) hU (by decide)
    obtain ⟨x, h53, hx, hk2, hk3, hk0, hk1⟩ := hxx m q hQ
    rw [hQ] at hk55 hle
    have h55 : K 55 11 = nI (q.length + 1) := hk55
    have hle2 : q.length + 1 ≤ ln := hle
    rcases htri with hb25 | hb25 | hb25
    · skip
      refine go_s (pc' := 54) rfl rfl rfl rfl ?_
      refine go_s (pc' := 55) (st' := [.int 16, .int 11]) rfl rfl rfl rfl ?_
      refine go_icmpP (t' := 94) (pc' := 56) rfl rfl rfl (fun (c : 16 ≤ (11 : Int32)) => absurd c (by decide)) (fun _ => ?_)
      refine go_s (pc' := 57) rfl rfl rfl rfl ?_
      refine go_sget (pc' := 58) (v := .ref 74) hS rfl rfl rfl (by decide) rfl rfl ?_
      refine go_s (pc' := 59) rfl rfl rfl rfl ?_
      refine go_sald (pc' := 60) (q := 11) (v := .int (nI (q.length + 1))) hS rfl (tr_s hr (a := 74) rfl (by decide)) rfl rfl (by decide) (congrArg Value.int h55) rfl ?_
      refine go_ifP (t' := 92) (pc' := 61) rfl rfl rfl (fun (c : (nI (q.length + 1)) ≤ 0) => absurd c (nI_p1 (by omega))) (fun _ => ?_)
      refine go_s (pc' := 62) rfl rfl rfl rfl ?_
      refine go_sget (pc' := 63) (v := .ref am) hS rfl rfl rfl (by decide) rfl rfl ?_
      refine go_s (pc' := 64) rfl rfl rfl rfl ?_
      refine go_sget (pc' := 65) (v := .ref 72) hS rfl rfl rfl (by decide) rfl rfl ?_
      refine go_s (pc' := 66) rfl rfl rfl rfl ?_
      refine go_sald (pc' := 67) (q := 11) (v := .int (nI (13 * x))) hS rfl (tr_s hr (a := 72) rfl (by decide)) rfl rfl (by decide) (congrArg Value.int h53) rfl ?_
      refine go_s (pc' := 68) (st' := [.int 2, .int (nI (13 * x)), .ref am]) rfl rfl rfl rfl ?_
      refine go_nadd (pc' := 69) (a := (13 * x)) (b := 2) rfl rfl rfl rfl rfl ?_
      refine go_sald (pc' := 70) (q := ((13 * x) + 2)) (v := .int (I 24 11)) hS rfl (tr_ms hr (by omega)) rfl rfl (by omega) (congrArg Value.int (hk2.trans rwk_at)) rfl ?_
      refine go_s (pc' := 71) (st' := [.int (-1), .int (I 24 11)]) rfl rfl rfl rfl ?_
      refine go_icmpP (t' := 92) (pc' := 72) rfl rfl rfl (fun (c1 : ¬ (I 24 11) = (-1)) => ?_) (fun (c1' : ¬ ¬ (I 24 11) = (-1)) => ?_)
      · skip
        refine go_s (pc' := 93) (lo' := [some (.ref 62), some (.int 12)]) rfl rfl rfl rfl ?_
        refine go_s (pc' := 53) rfl rfl rfl rfl ?_
        have hc9 : rwkc I Q 11 = false := by
          unfold rwkc
          simp [show ¬ I 24 11 = -1 from c1]
        rw [rwk_n hc9] at C
        exact C _ hA
      · skip
        have c1 : (I 24 11) = (-1) := Decidable.not_not.mp c1'
        refine go_s (pc' := 73) rfl rfl rfl rfl ?_
        refine go_sget (pc' := 74) (v := .ref 63) hS rfl rfl rfl (by decide) rfl rfl ?_
        refine go_s (pc' := 75) rfl rfl rfl rfl ?_
        refine go_s (pc' := 76) (st' := [.int 4, .int 11, .ref 63]) rfl rfl rfl rfl ?_
        refine go_s (pc' := 77) (st' := [.int 2, .ref 63]) rfl rfl rfl rfl ?_
        refine go_sald (pc' := 78) (q := 2) (v := .int ((rwkI I Q 11) 0 2)) hS rfl (tr_s hr (a := 63) rfl (by decide)) rfl rfl (by decide) rfl rfl ?_
        refine go_ifP (t' := 92) (pc' := 79) rfl rfl rfl (fun (c2 : ((rwkI I Q 11) 0 2) = 0) => ?_) (fun (c2 : ¬ ((rwkI I Q 11) 0 2) = 0) => ?_)
        · skip
          refine go_s (pc' := 93) (lo' := [some (.ref 62), some (.int 12)]) rfl rfl rfl rfl ?_
          refine go_s (pc' := 53) rfl rfl rfl rfl ?_
          have hc9 : rwkc I Q 11 = false := by
            unfold rwkc
            simp [show I 0 (11 / 4) = 0 from c2]
          rw [rwk_n hc9] at C
          exact C _ hA
        · skip
          refine go_s (pc' := 80) rfl rfl rfl rfl ?_
          refine go_sget (pc' := 81) (v := .ref 63) hS rfl rfl rfl (by decide) rfl rfl ?_
          refine go_s (pc' := 82) rfl rfl rfl rfl ?_
          refine go_s (pc' := 83) (st' := [.int 4, .int 11, .ref 63]) rfl rfl rfl rfl ?_
          refine go_s (pc' := 84) (st' := [.int 3, .ref 63]) rfl rfl rfl rfl ?_
          refine go_sald (pc' := 85) (q := 3) (v := .int ((rwkI I Q 11) 0 3)) hS rfl (tr_s hr (a := 63) rfl (by decide)) rfl rfl (by decide) rfl rfl ?_
          refine go_ifP (t' := 92) (pc' := 86) rfl rfl rfl (fun (c3 : ((rwkI I Q 11) 0 3) = 0) => ?_) (fun (c3 : ¬ ((rwkI I Q 11) 0 3) = 0) => ?_)
          · skip
            refine go_s (pc' := 93) (lo' := [some (.ref 62), some (.int 12)]) rfl rfl rfl rfl ?_
            refine go_s (pc' := 53) rfl rfl rfl rfl ?_
            have hc9 : rwkc I Q 11 = false := by
              unfold rwkc
              simp [show I 0 (11 % 4) = 0 from c3]
            rw [rwk_n hc9] at C
            exact C _ hA
          · skip
            refine go_s (pc' := 87) rfl rfl rfl rfl ?_
            refine go_s (pc' := 88) rfl rfl rfl rfl ?_
            refine go_sget (pc' := 89) (v := .ref 72) hS rfl rfl rfl (by decide) rfl rfl ?_
            refine go_s (pc' := 90) rfl rfl rfl rfl ?_
            refine go_sald (pc' := 91) (q := 11) (v := .int (nI (13 * x))) hS rfl (tr_s hr (a := 72) rfl (by decide)) rfl rfl (by decide) (congrArg Value.int h53) rfl ?_
            have hU4 : RU w B R [] true h am ln K ((rwkI I Q 11), Q, Z) := RU_I (sm_e_refl (tbr am (13 * ln) 77 5088) _) (I' := (rwkI I Q 11)) (fun _ => rfl) (fun _ => rfl) (Nat.le_refl _) hU
            refine go_callV (pc' := 92) rfl rfl rfl (Nat.le_of_ble_eq_true rfl) rfl (sm_o hS rfl) rfl rfl rfl (rt_boards_m hr hS hW hWm (m := 13 * x) (by omega) (by omega) (hk3.trans (rwk_at.trans hb25)) (by omega)) (fun r h5 q6 => ?_)
            obtain ⟨rfl, hS7, hE8⟩ := q6
            rw [show nxb (jn (rwkI I Q 11) K) (-1) = nxb I (-1) from rwk_nb (Q := Q) (n := 11)] at hS7
            refine go_s (pc' := 93) (lo' := [some (.ref 62), some (.int 12)]) rfl rfl rfl rfl ?_
            refine go_s (pc' := 53) rfl rfl rfl rfl ?_
            by_cases hnb : nxb I (-1) = -1
            · rw [if_pos hnb] at hS7
              have hc9 : rwkc I Q 11 = false := by
                unfold rwkc
                rw [hb25]
                simp [hnb]
              rw [rwk_n hc9] at C
              exact C _ (RA_u.mpr ⟨K, Y, am, ln, hS7, RU_I hE8 (fun _ => rfl) (fun _ => rfl) (Nat.le_refl _) hU4⟩)
            · rw [if_neg hnb] at hS7
              have hc9 : rwkc I Q 11 = true := by
                unfold rwkc
                rw [hQ, hb25]
                simp [hnb, show I 24 11 = -1 from c1, show ¬ I 0 (11 / 4) = 0 from c2, show ¬ I 0 (11 % 4) = 0 from c3]
              rw [rwk_y hc9, hb25] at C
              rw [jn_hi (c := 50) (by decide), jn_hi (c := 50) (by decide)] at hS7
              exact C _ (RA_u.mpr ⟨_, Y, am, ln, sm_jg hr hS7 (fun c j _ n1 n2 _ => (uI_c n2).trans (uI_c n1)), RU_bus (by decide) hU4 hln hE8 hQ h53 hx (fun i hi => by rw [uI_c (by decide), uI_j hi]) (fun i hi => by rw [uI_j hi, uI_c (by decide)]) rfl (fun c j _ hc => by
                simp only [uI]
                rw [if_neg (fun z => hc ⟨z.1, Or.inr z.2⟩), if_neg (fun z => hc ⟨z.1, Or.inl z.2⟩)]) (by rw [uI_j (by omega), uI_s, uI_c (by decide), uI_s]) (by rw [uI_s, uI_s])⟩)
    · skip
      refine go_s (pc' := 54) rfl rfl rfl rfl ?_
      refine go_s (pc' := 55) (st' := [.int 16, .int 11]) rfl rfl rfl rfl ?_
      refine go_icmpP (t' := 94) (pc' := 56) rfl rfl rfl (fun (c : 16 ≤ (11 : Int32)) => absurd c (by decide)) (fun _ => ?_)
      refine go_s (pc' := 57) rfl rfl rfl rfl ?_
      refine go_sget (pc' := 58) (v := .ref 74) hS rfl rfl rfl (by decide) rfl rfl ?_
      refine go_s (pc' := 59) rfl rfl rfl rfl ?_
      refine go_sald (pc' := 60) (q := 11) (v := .int (nI (q.length + 1))) hS rfl (tr_s hr (a := 74) rfl (by decide)) rfl rfl (by decide) (congrArg Value.int h55) rfl ?_
      refine go_ifP (t' := 92) (pc' := 61) rfl rfl rfl (fun (c : (nI (q.length + 1)) ≤ 0) => absurd c (nI_p1 (by omega))) (fun _ => ?_)
      refine go_s (pc' := 62) rfl rfl rfl rfl ?_
      refine go_sget (pc' := 63) (v := .ref am) hS rfl rfl rfl (by decide) rfl rfl ?_
      refine go_s (pc' := 64) rfl rfl rfl rfl ?_
      refine go_sget (pc' := 65) (v := .ref 72) hS rfl rfl rfl (by decide) rfl rfl ?_
      refine go_s (pc' := 66) rfl rfl rfl rfl ?_
      refine go_sald (pc' := 67) (q := 11) (v := .int (nI (13 * x))) hS rfl (tr_s hr (a := 72) rfl (by decide)) rfl rfl (by decide) (congrArg Value.int h53) rfl ?_
      refine go_s (pc' := 68) (st' := [.int 2, .int (nI (13 * x)), .ref am]) rfl rfl rfl rfl ?_
      refine go_nadd (pc' := 69) (a := (13 * x)) (b := 2) rfl rfl rfl rfl rfl ?_
      refine go_sald (pc' := 70) (q := ((13 * x) + 2)) (v := .int (I 24 11)) hS rfl (tr_ms hr (by omega)) rfl rfl (by omega) (congrArg Value.int (hk2.trans rwk_at)) rfl ?_
      refine go_s (pc' := 71) (st' := [.int (-1), .int (I 24 11)]) rfl rfl rfl rfl ?_
      refine go_icmpP (t' := 92) (pc' := 72) rfl rfl rfl (fun (c9 : ¬ (I 24 11) = (-1)) => ?_) (fun (c9' : ¬ ¬ (I 24 11) = (-1)) => ?_)
      · skip
        refine go_s (pc' := 93) (lo' := [some (.ref 62), some (.int 12)]) rfl rfl rfl rfl ?_
        refine go_s (pc' := 53) rfl rfl rfl rfl ?_
        have hc9 : rwkc I Q 11 = false := by
          unfold rwkc
          simp [show ¬ I 24 11 = -1 from c9]
        rw [rwk_n hc9] at C
        exact C _ hA
      · skip
        have c9 : (I 24 11) = (-1) := Decidable.not_not.mp c9'
        refine go_s (pc' := 73) rfl rfl rfl rfl ?_
        refine go_sget (pc' := 74) (v := .ref 63) hS rfl rfl rfl (by decide) rfl rfl ?_
        refine go_s (pc' := 75) rfl rfl rfl rfl ?_
        refine go_s (pc' := 76) (st' := [.int 4, .int 11, .ref 63]) rfl rfl rfl rfl ?_
        refine go_s (pc' := 77) (st' := [.int 2, .ref 63]) rfl rfl rfl rfl ?_
        refine go_sald (pc' := 78) (q := 2) (v := .int ((rwkI I Q 11) 0 2)) hS rfl (tr_s hr (a := 63) rfl (by decide)) rfl rfl (by decide) rfl rfl ?_
        refine go_ifP (t' := 92) (pc' := 79) rfl rfl rfl (fun (c10 : ((rwkI I Q 11) 0 2) = 0) => ?_) (fun (c10 : ¬ ((rwkI I Q 11) 0 2) = 0) => ?_)
        · skip
          refine go_s (pc' := 93) (lo' := [some (.ref 62), some (.int 12)]) rfl rfl rfl rfl ?_
          refine go_s (pc' := 53) rfl rfl rfl rfl ?_
          have hc9 : rwkc I Q 11 = false := by
            unfold rwkc
            simp [show I 0 (11 / 4) = 0 from c10]
          rw [rwk_n hc9] at C
          exact C _ hA
        · skip
          refine go_s (pc' := 80) rfl rfl rfl rfl ?_
          refine go_sget (pc' := 81) (v := .ref 63) hS rfl rfl rfl (by decide) rfl rfl ?_
          refine go_s (pc' := 82) rfl rfl rfl rfl ?_
          refine go_s (pc' := 83) (st' := [.int 4, .int 11, .ref 63]) rfl rfl rfl rfl ?_
          refine go_s (pc' := 84) (st' := [.int 3, .ref 63]) rfl rfl rfl rfl ?_
          refine go_sald (pc' := 85) (q := 3) (v := .int ((rwkI I Q 11) 0 3)) hS rfl (tr_s hr (a := 63) rfl (by decide)) rfl rfl (by decide) rfl rfl ?_
          refine go_ifP (t' := 92) (pc' := 86) rfl rfl rfl (fun (c11 : ((rwkI I Q 11) 0 3) = 0) => ?_) (fun (c11 : ¬ ((rwkI I Q 11) 0 3) = 0) => ?_)
          · skip
            refine go_s (pc' := 93) (lo' := [some (.ref 62), some (.int 12)]) rfl rfl rfl rfl ?_
            refine go_s (pc' := 53) rfl rfl rfl rfl ?_
            have hc9 : rwkc I Q 11 = false := by
              unfold rwkc
              simp [show I 0 (11 % 4) = 0 from c11]
            rw [rwk_n hc9] at C
            exact C _ hA
          · skip
            refine go_s (pc' := 87) rfl rfl rfl rfl ?_
            refine go_s (pc' := 88) rfl rfl rfl rfl ?_
            refine go_sget (pc' := 89) (v := .ref 72) hS rfl rfl rfl (by decide) rfl rfl ?_
            refine go_s (pc' := 90) rfl rfl rfl rfl ?_
            refine go_sald (pc' := 91) (q := 11) (v := .int (nI (13 * x))) hS rfl (tr_s hr (a := 72) rfl (by decide)) rfl rfl (by decide) (congrArg Value.int h53) rfl ?_
            have hU12 : RU w B R [] true h am ln K ((rwkI I Q 11), Q, Z) := RU_I (sm_e_refl (tbr am (13 * ln) 77 5088) _) (I' := (rwkI I Q 11)) (fun _ => rfl) (fun _ => rfl) (Nat.le_refl _) hU
            refine go_callV (pc' := 92) rfl rfl rfl (Nat.le_of_ble_eq_true rfl) rfl (sm_o hS rfl) rfl rfl rfl (rt_boards_0 hr hS hW hWm (m := 13 * x) (by omega) (by omega) (hk3.trans (rwk_at.trans hb25)) (by omega)) (fun r h13 q14 => ?_)
            obtain ⟨rfl, hS15, hE16⟩ := q14
            rw [show nxb (jn (rwkI I Q 11) K) 0 = nxb I 0 from rwk_nb (Q := Q) (n := 11)] at hS15
            refine go_s (pc' := 93) (lo' := [some (.ref 62), some (.int 12)]) rfl rfl rfl rfl ?_
            refine go_s (pc' := 53) rfl rfl rfl rfl ?_
            by_cases hnb : nxb I 0 = -1
            · rw [if_pos hnb] at hS15
              have hc9 : rwkc I Q 11 = false := by
                unfold rwkc
                rw [hb25]
                simp [hnb]
              rw [rwk_n hc9] at C
              exact C _ (RA_u.mpr ⟨K, Y, am, ln, hS15, RU_I hE16 (fun _ => rfl) (fun _ => rfl) (Nat.le_refl _) hU12⟩)
            · rw [if_neg hnb] at hS15
              have hc9 : rwkc I Q 11 = true := by
                unfold rwkc
                rw [hQ, hb25]
                simp [hnb, show I 24 11 = -1 from c9, show ¬ I 0 (11 / 4) = 0 from c10, show ¬ I 0 (11 % 4) = 0 from c11]
              rw [rwk_y hc9, hb25] at C
              rw [jn_hi (c := 50) (by decide), jn_hi (c := 50) (by decide)] at hS15
              exact C _ (RA_u.mpr ⟨_, Y, am, ln, sm_jg hr hS15 (fun c j _ n1 n2 _ => (uI_c n2).trans (uI_c n1)), RU_bus (by decide) hU12 hln hE16 hQ h53 hx (fun i hi => by rw [uI_c (by decide), uI_j hi]) (fun i hi => by rw [uI_j hi, uI_c (by decide)]) rfl (fun c j _ hc => by
                simp only [uI]
                rw [if_neg (fun z => hc ⟨z.1, Or.inr z.2⟩), if_neg (fun z => hc ⟨z.1, Or.inl z.2⟩)]) (by rw [uI_j (by omega), uI_s, uI_c (by decide), uI_s]) (by rw [uI_s, uI_s])⟩)
    · skip
      refine go_s (pc' := 54) rfl rfl rfl rfl ?_
      refine go_s (pc' := 55) (st' := [.int 16, .int 11]) rfl rfl rfl rfl ?_
      refine go_icmpP (t' := 94) (pc' := 56) rfl rfl rfl (fun (c : 16 ≤ (11 : Int32)) => absurd c (by decide)) (fun _ => ?_)
      refine go_s (pc' := 57) rfl rfl rfl rfl ?_
      refine go_sget (pc' := 58) (v := .ref 74) hS rfl rfl rfl (by decide) rfl rfl ?_
      refine go_s (pc' := 59) rfl rfl rfl rfl ?_
      refine go_sald (pc' := 60) (q := 11) (v := .int (nI (q.length + 1))) hS rfl (tr_s hr (a := 74) rfl (by decide)) rfl rfl (by decide) (congrArg Value.int h55) rfl ?_
      refine go_ifP (t' := 92) (pc' := 61) rfl rfl rfl (fun (c : (nI (q.length + 1)) ≤ 0) => absurd c (nI_p1 (by omega))) (fun _ => ?_)
      refine go_s (pc' := 62) rfl rfl rfl rfl ?_
      refine go_sget (pc' := 63) (v := .ref am) hS rfl rfl rfl (by decide) rfl rfl ?_
      refine go_s (pc' := 64) rfl rfl rfl rfl ?_
      refine go_sget (pc' := 65) (v := .ref 72) hS rfl rfl rfl (by decide) rfl rfl ?_
      refine go_s (pc' := 66) rfl rfl rfl rfl ?_
      refine go_sald (pc' := 67) (q := 11) (v := .int (nI (13 * x))) hS rfl (tr_s hr (a := 72) rfl (by decide)) rfl rfl (by decide) (congrArg Value.int h53) rfl ?_
      refine go_s (pc' := 68) (st' := [.int 2, .int (nI (13 * x)), .ref am]) rfl rfl rfl rfl ?_
      refine go_nadd (pc' := 69) (a := (13 * x)) (b := 2) rfl rfl rfl rfl rfl ?_
      refine go_sald (pc' := 70) (q := ((13 * x) + 2)) (v := .int (I 24 11)) hS rfl (tr_ms hr (by omega)) rfl rfl (by omega) (congrArg Value.int (hk2.trans rwk_at)) rfl ?_
      refine go_s (pc' := 71) (st' := [.int (-1), .int (I 24 11)]) rfl rfl rfl rfl ?_
      refine go_icmpP (t' := 92) (pc' := 72) rfl rfl rfl (fun (c17 : ¬ (I 24 11) = (-1)) => ?_) (fun (c17' : ¬ ¬ (I 24 11) = (-1)) => ?_)
      · skip
        refine go_s (pc' := 93) (lo' := [some (.ref 62), some (.int 12)]) rfl rfl rfl rfl ?_
        refine go_s (pc' := 53) rfl rfl rfl rfl ?_
        have hc9 : rwkc I Q 11 = false := by
          unfold rwkc
          simp [show ¬ I 24 11 = -1 from c17]
        rw [rwk_n hc9] at C
        exact C _ hA
      · skip
        have c17 : (I 24 11) = (-1) := Decidable.not_not.mp c17'
        refine go_s (pc' := 73) rfl rfl rfl rfl ?_
        refine go_sget (pc' := 74) (v := .ref 63) hS rfl rfl rfl (by decide) rfl rfl ?_
        refine go_s (pc' := 75) rfl rfl rfl rfl ?_
        refine go_s (pc' := 76) (st' := [.int 4, .int 11, .ref 63]) rfl rfl rfl rfl ?_
        refine go_s (pc' := 77) (st' := [.int 2, .ref 63]) rfl rfl rfl rfl ?_
        refine go_sald (pc' := 78) (q := 2) (v := .int ((rwkI I Q 11) 0 2)) hS rfl (tr_s hr (a := 63) rfl (by decide)) rfl rfl (by decide) rfl rfl ?_
        refine go_ifP (t' := 92) (pc' := 79) rfl rfl rfl (fun (c18 : ((rwkI I Q 11) 0 2) = 0) => ?_) (fun (c18 : ¬ ((rwkI I Q 11) 0 2) = 0) => ?_)
        · skip
          refine go_s (pc' := 93) (lo' := [some (.ref 62), some (.int 12)]) rfl rfl rfl rfl ?_
          refine go_s (pc' := 53) rfl rfl rfl rfl ?_
          have hc9 : rwkc I Q 11 = false := by
            unfold rwkc
            simp [show I 0 (11 / 4) = 0 from c18]
          rw [rwk_n hc9] at C
          exact C _ hA
        · skip
          refine go_s (pc' := 80) rfl rfl rfl rfl ?_
          refine go_sget (pc' := 81) (v := .ref 63) hS rfl rfl rfl (by decide) rfl rfl ?_
          refine go_s (pc' := 82) rfl rfl rfl rfl ?_
          refine go_s (pc' := 83) (st' := [.int 4, .int 11, .ref 63]) rfl rfl rfl rfl ?_
          refine go_s (pc' := 84) (st' := [.int 3, .ref 63]) rfl rfl rfl rfl ?_
          refine go_sald (pc' := 85) (q := 3) (v := .int ((rwkI I Q 11) 0 3)) hS rfl (tr_s hr (a := 63) rfl (by decide)) rfl rfl (by decide) rfl rfl ?_
          refine go_ifP (t' := 92) (pc' := 86) rfl rfl rfl (fun (c19 : ((rwkI I Q 11) 0 3) = 0) => ?_) (fun (c19 : ¬ ((rwkI I Q 11) 0 3) = 0) => ?_)
          · skip
            refine go_s (pc' := 93) (lo' := [some (.ref 62), some (.int 12)]) rfl rfl rfl rfl ?_
            refine go_s (pc' := 53) rfl rfl rfl rfl ?_
            have hc9 : rwkc I Q 11 = false := by
              unfold rwkc
              simp [show I 0 (11 % 4) = 0 from c19]
            rw [rwk_n hc9] at C
            exact C _ hA
          · skip
            refine go_s (pc' := 87) rfl rfl rfl rfl ?_
            refine go_s (pc' := 88) rfl rfl rfl rfl ?_
            refine go_sget (pc' := 89) (v := .ref 72) hS rfl rfl rfl (by decide) rfl rfl ?_
            refine go_s (pc' := 90) rfl rfl rfl rfl ?_
            refine go_sald (pc' := 91) (q := 11) (v := .int (nI (13 * x))) hS rfl (tr_s hr (a := 72) rfl (by decide)) rfl rfl (by decide) (congrArg Value.int h53) rfl ?_
            have hU20 : RU w B R [] true h am ln K ((rwkI I Q 11), Q, Z) := RU_I (sm_e_refl (tbr am (13 * ln) 77 5088) _) (I' := (rwkI I Q 11)) (fun _ => rfl) (fun _ => rfl) (Nat.le_refl _) hU
            refine go_callV (pc' := 92) rfl rfl rfl (Nat.le_of_ble_eq_true rfl) rfl (sm_o hS rfl) rfl rfl rfl (rt_boards_1 hr hS hW hWm (m := 13 * x) (by omega) (by omega) (hk3.trans (rwk_at.trans hb25)) (by omega)) (fun r h21 q22 => ?_)
            obtain ⟨rfl, hS23, hE24⟩ := q22
            rw [show nxb (jn (rwkI I Q 11) K) 1 = nxb I 1 from rwk_nb (Q := Q) (n := 11)] at hS23
            refine go_s (pc' := 93) (lo' := [some (.ref 62), some (.int 12)]) rfl rfl rfl rfl ?_
            refine go_s (pc' := 53) rfl rfl rfl rfl ?_
            by_cases hnb : nxb I 1 = -1
            · rw [if_pos hnb] at hS23
              have hc9 : rwkc I Q 11 = false := by
                unfold rwkc
                rw [hb25]
                simp [hnb]
              rw [rwk_n hc9] at C
              exact C _ (RA_u.mpr ⟨K, Y, am, ln, hS23, RU_I hE24 (fun _ => rfl) (fun _ => rfl) (Nat.le_refl _) hU20⟩)
            · rw [if_neg hnb] at hS23
              have hc9 : rwkc I Q 11 = true := by
                unfold rwkc
                rw [hQ, hb25]
                simp [hnb, show I 24 11 = -1 from c17, show ¬ I 0 (11 / 4) = 0 from c18, show ¬ I 0 (11 % 4) = 0 from c19]
              rw [rwk_y hc9, hb25] at C
              rw [jn_hi (c := 50) (by decide), jn_hi (c := 50) (by decide)] at hS23
              exact C _ (RA_u.mpr ⟨_, Y, am, ln, sm_jg hr hS23 (fun c j _ n1 n2 _ => (uI_c n2).trans (uI_c n1)), RU_bus (by decide) hU20 hln hE24 hQ h53 hx (fun i hi => by rw [uI_c (by decide), uI_j hi]) (fun i hi => by rw [uI_j hi, uI_c (by decide)]) rfl (fun c j _ hc => by
                simp only [uI]
                rw [if_neg (fun z => hc ⟨z.1, Or.inr z.2⟩), if_neg (fun z => hc ⟨z.1, Or.inl z.2⟩)]) (by rw [uI_j (by omega), uI_s, uI_c (by decide), uI_s]) (by rw [uI_s, uI_s])⟩)
theorem stW_12 {w : Nat → Bool} {d B R : Nat} {h : am_Hp} {I : sm_I} {Q : mQ} {Z : mZ} {P : Option Value → am_Hp → Prop} (hA : RA w B R [] true h (rwkI I Q 12, Q, Z)) (hR : R + 0 < 40000) (htri : tri (I 25 12)) (hd : 2 ≤ d) (C : ∀ h', RA w B (R + 0) [] true h' (rwkI I Q 13, Q, Z) → am_Go (am_prog w) d am_c168 (some .int) 53 [some (.ref 62), some (.int 13)] [] h' P) : am_Go (am_prog w) d am_c168 (some .int) 53 [some (.ref 62), some (.int 12)] [] h P := by
  obtain ⟨K, Y, am, ln, hS, hU⟩ := RA_u.mp hA
  change sm (tbr am (13 * ln) 77 5088) h (jn (rwkI I Q 12) K) Y at hS
  obtain ⟨hW, hWm, -, -, hr, -⟩ := id hU.1
  have hln := RU_ln hU (by omega)
  cases hQ : Q 12 with
  | nil =>
    have h55 : K 55 12 = 0 := by
      have z := (RU_lk (l := 12) hU (by decide)).1
      rw [hQ] at z
      exact z
    refine go_s (pc' := 54) rfl rfl rfl rfl ?_
    refine go_s (pc' := 55) (st' := [.int 16, .int 12]) rfl rfl rfl rfl ?_
    refine go_icmpP (t' := 94) (pc' := 56) rfl rfl rfl (fun (c : 16 ≤ (12 : Int32)) => absurd c (by decide)) (fun _ => ?_)
    refine go_s (pc' := 57) rfl rfl rfl rfl ?_
    refine go_sget (pc' := 58) (v := .ref 74) hS rfl rfl rfl (by decide) rfl rfl ?_
    refine go_s (pc' := 59) rfl rfl rfl rfl ?_
    refine go_sald (pc' := 60) (q := 12) (v := .int 0) hS rfl (tr_s hr (a := 74) rfl (by decide)) rfl rfl (by decide) (congrArg Value.int h55) rfl ?_
    refine go_ifP (t' := 92) (pc' := 61) rfl rfl rfl (fun _ => ?_) (fun (c : ¬ ((0 : Int32) ≤ 0)) => absurd (by decide) c)
    refine go_s (pc' := 93) (lo' := [some (.ref 62), some (.int 13)]) rfl rfl rfl rfl ?_
    refine go_s (pc' := 53) rfl rfl rfl rfl ?_
    have hc9 : rwkc I Q 12 = false := by
      unfold rwkc
      rw [hQ]
      rfl
    rw [rwk_n hc9] at C
    exact C _ hA
  | cons m q =>
    obtain ⟨hk55, hle, hxx⟩ := RU_lk (l := 12) hU (by decide)
    obtain ⟨x, h53, hx, hk2, hk3, hk0, hk1⟩ := hxx m q hQ
    rw [hQ] at hk55 hle
    have h55 : K 55 12 = nI (q.length + 1) := hk55
    have hle2 : q.length + 1 ≤ ln := hle
    rcases htri with hb25 | hb25 | hb25
    · skip
      refine go_s (pc' := 54) rfl rfl rfl rfl ?_
      refine go_s (pc' := 55) (st' := [.int 16, .int 12]) rfl rfl rfl rfl ?_
      refine go_icmpP (t' := 94) (pc' := 56) rfl rfl rfl (fun (c : 16 ≤ (12 : Int32)) => absurd c (by decide)) (fun _ => ?_)
      refine go_s (pc' := 57) rfl rfl rfl rfl ?_
      refine go_sget (pc' := 58) (v := .ref 74) hS rfl rfl rfl (by decide) rfl rfl ?_
      refine go_s (pc' := 59) rfl rfl rfl rfl ?_
      refine go_sald (pc' := 60) (q := 12) (v := .int (nI (q.length + 1))) hS rfl (tr_s hr (a := 74) rfl (by decide)) rfl rfl (by decide) (congrArg Value.int h55) rfl ?_
      refine go_ifP (t' := 92) (pc' := 61) rfl rfl rfl (fun (c : (nI (q.length + 1)) ≤ 0) => absurd c (nI_p1 (by omega))) (fun _ => ?_)
      refine go_s (pc' := 62) rfl rfl rfl rfl ?_
      refine go_sget (pc' := 63) (v := .ref am) hS rfl rfl rfl (by decide) rfl rfl ?_
      refine go_s (pc' := 64) rfl rfl rfl rfl ?_
      refine go_sget (pc' := 65) (v := .ref 72) hS rfl rfl rfl (by decide) rfl rfl ?_
      refine go_s (pc' := 66) rfl rfl rfl rfl ?_
      refine go_sald (pc' := 67) (q := 12) (v := .int (nI (13 * x))) hS rfl (tr_s hr (a := 72) rfl (by decide)) rfl rfl (by decide) (congrArg Value.int h53) rfl ?_
      refine go_s (pc' := 68) (st' := [.int 2, .int (nI (13 * x)), .ref am]) rfl rfl rfl rfl ?_
      refine go_nadd (pc' := 69) (a := (13 * x)) (b := 2) rfl rfl rfl rfl rfl ?_
      refine go_sald (pc' := 70) (q := ((13 * x) + 2)) (v := .int (I 24 12)) hS rfl (tr_ms hr (by omega)) rfl rfl (by omega) (congrArg Value.int (hk2.trans rwk_at)) rfl ?_
      refine go_s (pc' := 71) (st' := [.int (-1), .int (I 24 12)]) rfl rfl rfl rfl ?_
      refine go_icmpP (t' := 92) (pc' := 72) rfl rfl rfl (fun (c1 : ¬ (I 24 12) = (-1)) => ?_) (fun (c1' : ¬ ¬ (I 24 12) = (-1)) => ?_)
      · skip
        refine go_s (pc' := 93) (lo' := [some (.ref 62), some (.int 13)]) rfl rfl rfl rfl ?_
        refine go_s (pc' := 53) rfl rfl rfl rfl ?_
        have hc9 : rwkc I Q 12 = false := by
          unfold rwkc
          simp [show ¬ I 24 12 = -1 from c1]
        rw [rwk_n hc9] at C
        exact C _ hA
      · skip
        have c1 : (I 24 12) = (-1) := Decidable.not_not.mp c1'
        refine go_s (pc' := 73) rfl rfl rfl rfl ?_
        refine go_sget (pc' := 74) (v := .ref 63) hS rfl rfl rfl (by decide) rfl rfl ?_
        refine go_s (pc' := 75) rfl rfl rfl rfl ?_
        refine go_s (pc' := 76) (st' := [.int 4, .int 12, .ref 63]) rfl rfl rfl rfl ?_
        refine go_s (pc' := 77) (st' := [.int 3, .ref 63]) rfl rfl rfl rfl ?_
        refine go_sald (pc' := 78) (q := 3) (v := .int ((rwkI I Q 12) 0 3)) hS rfl (tr_s hr (a := 63) rfl (by decide)) rfl rfl (by decide) rfl rfl ?_
        refine go_ifP (t' := 92) (pc' := 79) rfl rfl rfl (fun (c2 : ((rwkI I Q 12) 0 3) = 0) => ?_) (fun (c2 : ¬ ((rwkI I Q 12) 0 3) = 0) => ?_)
        · skip
          refine go_s (pc' := 93) (lo' := [some (.ref 62), some (.int 13)]) rfl rfl rfl rfl ?_
          refine go_s (pc' := 53) rfl rfl rfl rfl ?_
          have hc9 : rwkc I Q 12 = false := by
            unfold rwkc
            simp [show I 0 (12 / 4) = 0 from c2]
          rw [rwk_n hc9] at C
          exact C _ hA
        · skip
          refine go_s (pc' := 80) rfl rfl rfl rfl ?_
          refine go_sget (pc' := 81) (v := .ref 63) hS rfl rfl rfl (by decide) rfl rfl ?_
          refine go_s (pc' := 82) rfl rfl rfl rfl ?_
          refine go_s (pc' := 83) (st' := [.int 4, .int 12, .ref 63]) rfl rfl rfl rfl ?_
          refine go_s (pc' := 84) (st' := [.int 0, .ref 63]) rfl rfl rfl rfl ?_
          refine go_sald (pc' := 85) (q := 0) (v := .int ((rwkI I Q 12) 0 0)) hS rfl (tr_s hr (a := 63) rfl (by decide)) rfl rfl (by decide) rfl rfl ?_
          refine go_ifP (t' := 92) (pc' := 86) rfl rfl rfl (fun (c3 : ((rwkI I Q 12) 0 0) = 0) => ?_) (fun (c3 : ¬ ((rwkI I Q 12) 0 0) = 0) => ?_)
          · skip
            refine go_s (pc' := 93) (lo' := [some (.ref 62), some (.int 13)]) rfl rfl rfl rfl ?_
            refine go_s (pc' := 53) rfl rfl rfl rfl ?_
            have hc9 : rwkc I Q 12 = false := by
              unfold rwkc
              simp [show I 0 (12 % 4) = 0 from c3]
            rw [rwk_n hc9] at C
            exact C _ hA
          · skip
            refine go_s (pc' := 87) rfl rfl rfl rfl ?_
            refine go_s (pc' := 88) rfl rfl rfl rfl ?_
            refine go_sget (pc' := 89) (v := .ref 72) hS rfl rfl rfl (by decide) rfl rfl ?_
            refine go_s (pc' := 90) rfl rfl rfl rfl ?_
            refine go_sald (pc' := 91) (q := 12) (v := .int (nI (13 * x))) hS rfl (tr_s hr (a := 72) rfl (by decide)) rfl rfl (by decide) (congrArg Value.int h53) rfl ?_
            have hU4 : RU w B R [] true h am ln K ((rwkI I Q 12), Q, Z) := RU_I (sm_e_refl (tbr am (13 * ln) 77 5088) _) (I' := (rwkI I Q 12)) (fun _ => rfl) (fun _ => rfl) (Nat.le_refl _) hU
            refine go_callV (pc' := 92) rfl rfl rfl (Nat.le_of_ble_eq_true rfl) rfl (sm_o hS rfl) rfl rfl rfl (rt_boards_m hr hS hW hWm (m := 13 * x) (by omega) (by omega) (hk3.trans (rwk_at.trans hb25)) (by omega)) (fun r h5 q6 => ?_)
            obtain ⟨rfl, hS7, hE8⟩ := q6
            rw [show nxb (jn (rwkI I Q 12) K) (-1) = nxb I (-1) from rwk_nb (Q := Q) (n := 12)] at hS7
            refine go_s (pc' := 93) (lo' := [some (.ref 62), some (.int 13)]) rfl rfl rfl rfl ?_
            refine go_s (pc' := 53) rfl rfl rfl rfl ?_
            by_cases hnb : nxb I (-1) = -1
            · rw [if_pos hnb] at hS7
              have hc9 : rwkc I Q 12 = false := by
                unfold rwkc
                rw [hb25]
                simp [hnb]
              rw [rwk_n hc9] at C
              exact C _ (RA_u.mpr ⟨K, Y, am, ln, hS7, RU_I hE8 (fun _ => rfl) (fun _ => rfl) (Nat.le_refl _) hU4⟩)
            · rw [if_neg hnb] at hS7
              have hc9 : rwkc I Q 12 = true := by
                unfold rwkc
                rw [hQ, hb25]
                simp [hnb, show I 24 12 = -1 from c1, show ¬ I 0 (12 / 4) = 0 from c2, show ¬ I 0 (12 % 4) = 0 from c3]
              rw [rwk_y hc9, hb25] at C
              rw [jn_hi (c := 50) (by decide), jn_hi (c := 50) (by decide)] at hS7
              exact C _ (RA_u.mpr ⟨_, Y, am, ln, sm_jg hr hS7 (fun c j _ n1 n2 _ => (uI_c n2).trans (uI_c n1)), RU_bus (by decide) hU4 hln hE8 hQ h53 hx (fun i hi => by rw [uI_c (by decide), uI_j hi]) (fun i hi => by rw [uI_j hi, uI_c (by decide)]) rfl (fun c j _ hc => by
                simp only [uI]
                rw [if_neg (fun z => hc ⟨z.1, Or.inr z.2⟩), if_neg (fun z => hc ⟨z.1, Or.inl z.2⟩)]) (by rw [uI_j (by omega), uI_s, uI_c (by decide), uI_s]) (by rw [uI_s, uI_s])⟩)
    · skip
      refine go_s (pc' := 54) rfl rfl rfl rfl ?_
      refine go_s (pc' := 55) (st' := [.int 16, .int 12]) rfl rfl rfl rfl ?_
      refine go_icmpP (t' := 94) (pc' := 56) rfl rfl rfl (fun (c : 16 ≤ (12 : Int32)) => absurd c (by decide)) (fun _ => ?_)
      refine go_s (pc' := 57) rfl rfl rfl rfl ?_
      refine go_sget (pc' := 58) (v := .ref 74) hS rfl rfl rfl (by decide) rfl rfl ?_
      refine go_s (pc' := 59) rfl rfl rfl rfl ?_
      refine go_sald (pc' := 60) (q := 12) (v := .int (nI (q.length + 1))) hS rfl (tr_s hr (a := 74) rfl (by decide)) rfl rfl (by decide) (congrArg Value.int h55) rfl ?_
      refine go_ifP (t' := 92) (pc' := 61) rfl rfl rfl (fun (c : (nI (q.length + 1)) ≤ 0) => absurd c (nI_p1 (by omega))) (fun _ => ?_)
      refine go_s (pc' := 62) rfl rfl rfl rfl ?_
      refine go_sget (pc' := 63) (v := .ref am) hS rfl rfl rfl (by decide) rfl rfl ?_
      refine go_s (pc' := 64) rfl rfl rfl rfl ?_
      refine go_sget (pc' := 65) (v := .ref 72) hS rfl rfl rfl (by decide) rfl rfl ?_
      refine go_s (pc' := 66) rfl rfl rfl rfl ?_
      refine go_sald (pc' := 67) (q := 12) (v := .int (nI (13 * x))) hS rfl (tr_s hr (a := 72) rfl (by decide)) rfl rfl (by decide) (congrArg Value.int h53) rfl ?_
      refine go_s (pc' := 68) (st' := [.int 2, .int (nI (13 * x)), .ref am]) rfl rfl rfl rfl ?_
      refine go_nadd (pc' := 69) (a := (13 * x)) (b := 2) rfl rfl rfl rfl rfl ?_
      refine go_sald (pc' := 70) (q := ((13 * x) + 2)) (v := .int (I 24 12)) hS rfl (tr_ms hr (by omega)) rfl rfl (by omega) (congrArg Value.int (hk2.trans rwk_at)) rfl ?_
      refine go_s (pc' := 71) (st' := [.int (-1), .int (I 24 12)]) rfl rfl rfl rfl ?_
      refine go_icmpP (t' := 92) (pc' := 72) rfl rfl rfl (fun (c9 : ¬ (I 24 12) = (-1)) => ?_) (fun (c9' : ¬ ¬ (I 24 12) = (-1)) => ?_)
      · skip
        refine go_s (pc' := 93) (lo' := [some (.ref 62), some (.int 13)]) rfl rfl rfl rfl ?_
        refine go_s (pc' := 53) rfl rfl rfl rfl ?_
        have hc9 : rwkc I Q 12 = false := by
          unfold rwkc
          simp [show ¬ I 24 12 = -1 from c9]
        rw [rwk_n hc9] at C
        exact C _ hA
      · skip
        have c9 : (I 24 12) = (-1) := Decidable.not_not.mp c9'
        refine go_s (pc' := 73) rfl rfl rfl rfl ?_
        refine go_sget (pc' := 74) (v := .ref 63) hS rfl rfl rfl (by decide) rfl rfl ?_
        refine go_s (pc' := 75) rfl rfl rfl rfl ?_
        refine go_s (pc' := 76) (st' := [.int 4, .int 12, .ref 63]) rfl rfl rfl rfl ?_
        refine go_s (pc' := 77) (st' := [.int 3, .ref 63]) rfl rfl rfl rfl ?_
        refine go_sald (pc' := 78) (q := 3) (v := .int ((rwkI I Q 12) 0 3)) hS rfl (tr_s hr (a := 63) rfl (by decide)) rfl rfl (by decide) rfl rfl ?_
        refine go_ifP (t' := 92) (pc' := 79) rfl rfl rfl (fun (c10 : ((rwkI I Q 12) 0 3) = 0) => ?_) (fun (c10 : ¬ ((rwkI I Q 12) 0 3) = 0) => ?_)
        · skip
          refine go_s (pc' := 93) (lo' := [some (.ref 62), some (.int 13)]) rfl rfl rfl rfl ?_
          refine go_s (pc' := 53) rfl rfl rfl rfl ?_
          have hc9 : rwkc I Q 12 = false := by
            unfold rwkc
            simp [show I 0 (12 / 4) = 0 from c10]
          rw [rwk_n hc9] at C
          exact C _ hA
        · skip
          refine go_s (pc' := 80) rfl rfl rfl rfl ?_
          refine go_sget (pc' := 81) (v := .ref 63) hS rfl rfl rfl (by decide) rfl rfl ?_
          refine go_s (pc' := 82) rfl rfl rfl rfl ?_
          refine go_s (pc' := 83) (st' := [.int 4, .int 12, .ref 63]) rfl rfl rfl rfl ?_
          refine go_s (pc' := 84) (st' := [.int 0, .ref 63]) rfl rfl rfl rfl ?_
          refine go_sald (pc' := 85) (q := 0) (v := .int ((rwkI I Q 12) 0 0)) hS rfl (tr_s hr (a := 63) rfl (by decide)) rfl rfl (by decide) rfl rfl ?_
          refine go_ifP (t' := 92) (pc' := 86) rfl rfl rfl (fun (c11 : ((rwkI I Q 12) 0 0) = 0) => ?_) (fun (c11 : ¬ ((rwkI I Q 12) 0 0) = 0) => ?_)
          · skip
            refine go_s (pc' := 93) (lo' := [some (.ref 62), some (.int 13)]) rfl rfl rfl rfl ?_
            refine go_s (pc' := 53) rfl rfl rfl rfl ?_
            have hc9 : rwkc I Q 12 = false := by
              unfold rwkc
              simp [show I 0 (12 % 4) = 0 from c11]
            rw [rwk_n hc9] at C
            exact C _ hA
          · skip
            refine go_s (pc' := 87) rfl rfl rfl rfl ?_
            refine go_s (pc' := 88) rfl rfl rfl rfl ?_
            refine go_sget (pc' := 89) (v := .ref 72) hS rfl rfl rfl (by decide) rfl rfl ?_
            refine go_s (pc' := 90) rfl rfl rfl rfl ?_
            refine go_sald (pc' := 91) (q := 12) (v := .int (nI (13 * x))) hS rfl (tr_s hr (a := 72) rfl (by decide)) rfl rfl (by decide) (congrArg Value.int h53) rfl ?_
            have hU12 : RU w B R [] true h am ln K ((rwkI I Q 12), Q, Z) := RU_I (sm_e_refl (tbr am (13 * ln) 77 5088) _) (I' := (rwkI I Q 12)) (fun _ => rfl) (fun _ => rfl) (Nat.le_refl _) hU
            refine go_callV (pc' := 92) rfl rfl rfl (Nat.le_of_ble_eq_true rfl) rfl (sm_o hS rfl) rfl rfl rfl (rt_boards_0 hr hS hW hWm (m := 13 * x) (by omega) (by omega) (hk3.trans (rwk_at.trans hb25)) (by omega)) (fun r h13 q14 => ?_)
            obtain ⟨rfl, hS15, hE16⟩ := q14
            rw [show nxb (jn (rwkI I Q 12) K) 0 = nxb I 0 from rwk_nb (Q := Q) (n := 12)] at hS15
            refine go_s (pc' := 93) (lo' := [some (.ref 62), some (.int 13)]) rfl rfl rfl rfl ?_
            refine go_s (pc' := 53) rfl rfl rfl rfl ?_
            by_cases hnb : nxb I 0 = -1
            · rw [if_pos hnb] at hS15
              have hc9 : rwkc I Q 12 = false := by
                unfold rwkc
                rw [hb25]
                simp [hnb]
              rw [rwk_n hc9] at C
              exact C _ (RA_u.mpr ⟨K, Y, am, ln, hS15, RU_I hE16 (fun _ => rfl) (fun _ => rfl) (Nat.le_refl _) hU12⟩)
            · rw [if_neg hnb] at hS15
              have hc9 : rwkc I Q 12 = true := by
                unfold rwkc
                rw [hQ, hb25]
                simp [hnb, show I 24 12 = -1 from c9, show ¬ I 0 (12 / 4) = 0 from c10, show ¬ I 0 (12 % 4) = 0 from c11]
              rw [rwk_y hc9, hb25] at C
              rw [jn_hi (c := 50) (by decide), jn_hi (c := 50) (by decide)] at hS15
              exact C _ (RA_u.mpr ⟨_, Y, am, ln, sm_jg hr hS15 (fun c j _ n1 n2 _ => (uI_c n2).trans (uI_c n1)), RU_bus (by decide) hU12 hln hE16 hQ h53 hx (fun i hi => by rw [uI_c (by decide), uI_j hi]) (fun i hi => by rw [uI_j hi, uI_c (by decide)]) rfl (fun c j _ hc => by
                simp only [uI]
                rw [if_neg (fun z => hc ⟨z.1, Or.inr z.2⟩), if_neg (fun z => hc ⟨z.1, Or.inl z.2⟩)]) (by rw [uI_j (by omega), uI_s, uI_c (by decide), uI_s]) (by rw [uI_s, uI_s])⟩)
    · skip
      refine go_s (pc' := 54) rfl rfl rfl rfl ?_
      refine go_s (pc' := 55) (st' := [.int 16, .int 12]) rfl rfl rfl rfl ?_
      refine go_icmpP (t' := 94) (pc' := 56) rfl rfl rfl (fun (c : 16 ≤ (12 : Int32)) => absurd c (by decide)) (fun _ => ?_)
      refine go_s (pc' := 57) rfl rfl rfl rfl ?_
      refine go_sget (pc' := 58) (v := .ref 74) hS rfl rfl rfl (by decide) rfl rfl ?_
      refine go_s (pc' := 59) rfl rfl rfl rfl ?_
      refine go_sald (pc' := 60) (q := 12) (v := .int (nI (q.length + 1))) hS rfl (tr_s hr (a := 74) rfl (by decide)) rfl rfl (by decide) (congrArg Value.int h55) rfl ?_
      refine go_ifP (t' := 92) (pc' := 61) rfl rfl rfl (fun (c : (nI (q.length + 1)) ≤ 0) => absurd c (nI_p1 (by omega))) (fun _ => ?_)
      refine go_s (pc' := 62) rfl rfl rfl rfl ?_
      refine go_sget (pc' := 63) (v := .ref am) hS rfl rfl rfl (by decide) rfl rfl ?_
      refine go_s (pc' := 64) rfl rfl rfl rfl ?_
      refine go_sget (pc' := 65) (v := .ref 72) hS rfl rfl rfl (by decide) rfl rfl ?_
      refine go_s (pc' := 66) rfl rfl rfl rfl ?_
      refine go_sald (pc' := 67) (q := 12) (v := .int (nI (13 * x))) hS rfl (tr_s hr (a := 72) rfl (by decide)) rfl rfl (by decide) (congrArg Value.int h53) rfl ?_
      refine go_s (pc' := 68) (st' := [.int 2, .int (nI (13 * x)), .ref am]) rfl rfl rfl rfl ?_
      refine go_nadd (pc' := 69) (a := (13 * x)) (b := 2) rfl rfl rfl rfl rfl ?_
      refine go_sald (pc' := 70) (q := ((13 * x) + 2)) (v := .int (I 24 12)) hS rfl (tr_ms hr (by omega)) rfl rfl (by omega) (congrArg Value.int (hk2.trans rwk_at)) rfl ?_
      refine go_s (pc' := 71) (st' := [.int (-1), .int (I 24 12)]) rfl rfl rfl rfl ?_
      refine go_icmpP (t' := 92) (pc' := 72) rfl rfl rfl (fun (c17 : ¬ (I 24 12) = (-1)) => ?_) (fun (c17' : ¬ ¬ (I 24 12) = (-1)) => ?_)
      · skip
        refine go_s (pc' := 93) (lo' := [some (.ref 62), some (.int 13)]) rfl rfl rfl rfl ?_
        refine go_s (pc' := 53) rfl rfl rfl rfl ?_
        have hc9 : rwkc I Q 12 = false := by
          unfold rwkc
          simp [show ¬ I 24 12 = -1 from c17]
        rw [rwk_n hc9] at C
        exact C _ hA
      · skip
        have c17 : (I 24 12) = (-1) := Decidable.not_not.mp c17'
        refine go_s (pc' := 73) rfl rfl rfl rfl ?_
        refine go_sget (pc' := 74) (v := .ref 63) hS rfl rfl rfl (by decide) rfl rfl ?_
        refine go_s (pc' := 75) rfl rfl rfl rfl ?_
        refine go_s (pc' := 76) (st' := [.int 4, .int 12, .ref 63]) rfl rfl rfl rfl ?_
        refine go_s (pc' := 77) (st' := [.int 3, .ref 63]) rfl rfl rfl rfl ?_
        refine go_sald (pc' := 78) (q := 3) (v := .int ((rwkI I Q 12) 0 3)) hS rfl (tr_s hr (a := 63) rfl (by decide)) rfl rfl (by decide) rfl rfl ?_
        refine go_ifP (t' := 92) (pc' := 79) rfl rfl rfl (fun (c18 : ((rwkI I Q 12) 0 3) = 0) => ?_) (fun (c18 : ¬ ((rwkI I Q 12) 0 3) = 0) => ?_)
        · skip
          refine go_s (pc' := 93) (lo' := [some (.ref 62), some (.int 13)]) rfl rfl rfl rfl ?_
          refine go_s (pc' := 53) rfl rfl rfl rfl ?_
          have hc9 : rwkc I Q 12 = false := by
            unfold rwkc
            simp [show I 0 (12 / 4) = 0 from c18]
          rw [rwk_n hc9] at C
          exact C _ hA
        · skip
          refine go_s (pc' := 80) rfl rfl rfl rfl ?_
          refine go_sget (pc' := 81) (v := .ref 63) hS rfl rfl rfl (by decide) rfl rfl ?_
          refine go_s (pc' := 82) rfl rfl rfl rfl ?_
          refine go_s (pc' := 83) (st' := [.int 4, .int 12, .ref 63]) rfl rfl rfl rfl ?_
          refine go_s (pc' := 84) (st' := [.int 0, .ref 63]) rfl rfl rfl rfl ?_
          refine go_sald (pc' := 85) (q := 0) (v := .int ((rwkI I Q 12) 0 0)) hS rfl (tr_s hr (a := 63) rfl (by decide)) rfl rfl (by decide) rfl rfl ?_
          refine go_ifP (t' := 92) (pc' := 86) rfl rfl rfl (fun (c19 : ((rwkI I Q 12) 0 0) = 0) => ?_) (fun (c19 : ¬ ((rwkI I Q 12) 0 0) = 0) => ?_)
          · skip
            refine go_s (pc' := 93) (lo' := [some (.ref 62), some (.int 13)]) rfl rfl rfl rfl ?_
            refine go_s (pc' := 53) rfl rfl rfl rfl ?_
            have hc9 : rwkc I Q 12 = false := by
              unfold rwkc
              simp [show I 0 (12 % 4) = 0 from c19]
            rw [rwk_n hc9] at C
            exact C _ hA
          · skip
            refine go_s (pc' := 87) rfl rfl rfl rfl ?_
            refine go_s (pc' := 88) rfl rfl rfl rfl ?_
            refine go_sget (pc' := 89) (v := .ref 72) hS rfl rfl rfl (by decide) rfl rfl ?_
            refine go_s (pc' := 90) rfl rfl rfl rfl ?_
            refine go_sald (pc' := 91) (q := 12) (v := .int (nI (13 * x))) hS rfl (tr_s hr (a := 72) rfl (by decide)) rfl rfl (by decide) (congrArg Value.int h53) rfl ?_
            have hU20 : RU w B R [] true h am ln K ((rwkI I Q 12), Q, Z) := RU_I (sm_e_refl (tbr am (13 * ln) 77 5088) _) (I' := (rwkI I Q 12)) (fun _ => rfl) (fun _ => rfl) (Nat.le_refl _) hU
            refine go_callV (pc' := 92) rfl rfl rfl (Nat.le_of_ble_eq_true rfl) rfl (sm_o hS rfl) rfl rfl rfl (rt_boards_1 hr hS hW hWm (m := 13 * x) (by omega) (by omega) (hk3.trans (rwk_at.trans hb25)) (by omega)) (fun r h21 q22 => ?_)
            obtain ⟨rfl, hS23, hE24⟩ := q22
            rw [show nxb (jn (rwkI I Q 12) K) 1 = nxb I 1 from rwk_nb (Q := Q) (n := 12)] at hS23
            refine go_s (pc' := 93) (lo' := [some (.ref 62), some (.int 13)]) rfl rfl rfl rfl ?_
            refine go_s (pc' := 53) rfl rfl rfl rfl ?_
            by_cases hnb : nxb I 1 = -1
            · rw [if_pos hnb] at hS23
              have hc9 : rwkc I Q 12 = false := by
                unfold rwkc
                rw [hb25]
                simp [hnb]
              rw [rwk_n hc9] at C
              exact C _ (RA_u.mpr ⟨K, Y, am, ln, hS23, RU_I hE24 (fun _ => rfl) (fun _ => rfl) (Nat.le_refl _) hU20⟩)
            · rw [if_neg hnb] at hS23
              have hc9 : rwkc I Q 12 = true := by
                unfold rwkc
                rw [hQ, hb25]
                simp [hnb, show I 24 12 = -1 from c17, show ¬ I 0 (12 / 4) = 0 from c18, show ¬ I 0 (12 % 4) = 0 from c19]
              rw [rwk_y hc9, hb25] at C
              rw [jn_hi (c := 50) (by decide), jn_hi (c := 50) (by decide)] at hS23
              exact C _ (RA_u.mpr ⟨_, Y, am, ln, sm_jg hr hS23 (fun c j _ n1 n2 _ => (uI_c n2).trans (uI_c n1)), RU_bus (by decide) hU20 hln hE24 hQ h53 hx (fun i hi => by rw [uI_c (by decide), uI_j hi]) (fun i hi => by rw [uI_j hi, uI_c (by decide)]) rfl (fun c j _ hc => by
                simp only [uI]
                rw [if_neg (fun z => hc ⟨z.1, Or.inr z.2⟩), if_neg (fun z => hc ⟨z.1, Or.inl z.2⟩)]) (by rw [uI_j (by omega), uI_s, uI_c (by decide), uI_s]) (by rw [uI_s, uI_s])⟩)
theorem stW_13 {w : Nat → Bool} {d B R : Nat} {h : am_Hp} {I : sm_I} {Q : mQ} {Z : mZ} {P : Option Value → am_Hp → Prop} (hA : RA w B R [] true h (rwkI I Q 13, Q, Z)) (hR : R + 0 < 40000) (htri : tri (I 25 13)) (hd : 2 ≤ d) (C : ∀ h', RA w B (R + 0) [] true h' (rwkI I Q 14, Q, Z) → am_Go (am_prog w) d am_c168 (some .int) 53 [some (.ref 62), some (.int 14)] [] h' P) : am_Go (am_prog w) d am_c168 (some .int) 53 [some (.ref 62), some (.int 13)] [] h P := by
  obtain ⟨K, Y, am, ln, hS, hU⟩ := RA_u.mp hA
  change sm (tbr am (13 * ln) 77 5088) h (jn (rwkI I Q 13) K) Y at hS
  obtain ⟨hW, hWm, -, -, hr, -⟩ := id hU.1
  have hln := RU_ln hU (by omega)
  cases hQ : Q 13 with
  | nil =>
    have h55 : K 55 13 = 0 := by
      have z := (RU_lk (l := 13) hU (by decide)).1
      rw [hQ] at z
      exact z
    refine go_s (pc' := 54) rfl rfl rfl rfl ?_
    refine go_s (pc' := 55) (st' := [.int 16, .int 13]) rfl rfl rfl rfl ?_
    refine go_icmpP (t' := 94) (pc' := 56) rfl rfl rfl (fun (c : 16 ≤ (13 : Int32)) => absurd c (by decide)) (fun _ => ?_)
    refine go_s (pc' := 57) rfl rfl rfl rfl ?_
    refine go_sget (pc' := 58) (v := .ref 74) hS rfl rfl rfl (by decide) rfl rfl ?_
    refine go_s (pc' := 59) rfl rfl rfl rfl ?_
    refine go_sald (pc' := 60) (q := 13) (v := .int 0) hS rfl (tr_s hr (a := 74) rfl (by decide)) rfl rfl (by decide) (congrArg Value.int h55) rfl ?_
    refine go_ifP (t' := 92) (pc' := 61) rfl rfl rfl (fun _ => ?_) (fun (c : ¬ ((0 : Int32) ≤ 0)) => absurd (by decide) c)
    refine go_s (pc' := 93) (lo' := [some (.ref 62), some (.int 14)]) rfl rfl rfl rfl ?_
    refine go_s (pc' := 53) rfl rfl rfl rfl ?_
    have hc9 : rwkc I Q 13 = false := by
      unfold rwkc
      rw [hQ]
      rfl
    rw [rwk_n hc9] at C
    exact C _ hA
  | cons m q =>
    obtain ⟨hk55, hle, hxx⟩ := RU_lk (l := 13) hU (by decide)
    obtain ⟨x, h53, hx, hk2, hk3, hk0, hk1⟩ := hxx m q hQ
    rw [hQ] at hk55 hle
    have h55 : K 55 13 = nI (q.length + 1) := hk55
    have hle2 : q.length + 1 ≤ ln := hle
    rcases htri with hb25 | hb25 | hb25
    · skip
      refine go_s (pc' := 54) rfl rfl rfl rfl ?_
      refine go_s (pc' := 55) (st' := [.int 16, .int 13]) rfl rfl rfl rfl ?_
      refine go_icmpP (t' := 94) (pc' := 56) rfl rfl rfl (fun (c : 16 ≤ (13 : Int32)) => absurd c (by decide)) (fun _ => ?_)
      refine go_s (pc' := 57) rfl rfl rfl rfl ?_
      refine go_sget (pc' := 58) (v := .ref 74) hS rfl rfl rfl (by decide) rfl rfl ?_
      refine go_s (pc' := 59) rfl rfl rfl rfl ?_
      refine go_sald (pc' := 60) (q := 13) (v := .int (nI (q.length + 1))) hS rfl (tr_s hr (a := 74) rfl (by decide)) rfl rfl (by decide) (congrArg Value.int h55) rfl ?_
      refine go_ifP (t' := 92) (pc' := 61) rfl rfl rfl (fun (c : (nI (q.length + 1)) ≤ 0) => absurd c (nI_p1 (by omega))) (fun _ => ?_)
      refine go_s (pc' := 62) rfl rfl rfl rfl ?_
      refine go_sget (pc' := 63) (v := .ref am) hS rfl rfl rfl (by decide) rfl rfl ?_
      refine go_s (pc' := 64) rfl rfl rfl rfl ?_
      refine go_sget (pc' := 65) (v := .ref 72) hS rfl rfl rfl (by decide) rfl rfl ?_
      refine go_s (pc' := 66) rfl rfl rfl rfl ?_
      refine go_sald (pc' := 67) (q := 13) (v := .int (nI (13 * x))) hS rfl (tr_s hr (a := 72) rfl (by decide)) rfl rfl (by decide) (congrArg Value.int h53) rfl ?_
      refine go_s (pc' := 68) (st' := [.int 2, .int (nI (13 * x)), .ref am]) rfl rfl rfl rfl ?_
      refine go_nadd (pc' := 69) (a := (13 * x)) (b := 2) rfl rfl rfl rfl rfl ?_
      refine go_sald (pc' := 70) (q := ((13 * x) + 2)) (v := .int (I 24 13)) hS rfl (tr_ms hr (by omega)) rfl rfl (by omega) (congrArg Value.int (hk2.trans rwk_at)) rfl ?_
      refine go_s (pc' := 71) (st' := [.int (-1), .int (I 24 13)]) rfl rfl rfl rfl ?_
      refine go_icmpP (t' := 92) (pc' := 72) rfl rfl rfl (fun (c1 : ¬ (I 24 13) = (-1)) => ?_) (fun (c1' : ¬ ¬ (I 24 13) = (-1)) => ?_)
      · skip
        refine go_s (pc' := 93) (lo' := [some (.ref 62), some (.int 14)]) rfl rfl rfl rfl ?_
        refine go_s (pc' := 53) rfl rfl rfl rfl ?_
        have hc9 : rwkc I Q 13 = false := by
          unfold rwkc
          simp [show ¬ I 24 13 = -1 from c1]
        rw [rwk_n hc9] at C
        exact C _ hA
      · skip
        have c1 : (I 24 13) = (-1) := Decidable.not_not.mp c1'
        refine go_s (pc' := 73) rfl rfl rfl rfl ?_
        refine go_sget (pc' := 74) (v := .ref 63) hS rfl rfl rfl (by decide) rfl rfl ?_
        refine go_s (pc' := 75) rfl rfl rfl rfl ?_
        refine go_s (pc' := 76) (st' := [.int 4, .int 13, .ref 63]) rfl rfl rfl rfl ?_
        refine go_s (pc' := 77) (st' := [.int 3, .ref 63]) rfl rfl rfl rfl ?_
        refine go_sald (pc' := 78) (q := 3) (v := .int ((rwkI I Q 13) 0 3)) hS rfl (tr_s hr (a := 63) rfl (by decide)) rfl rfl (by decide) rfl rfl ?_
        refine go_ifP (t' := 92) (pc' := 79) rfl rfl rfl (fun (c2 : ((rwkI I Q 13) 0 3) = 0) => ?_) (fun (c2 : ¬ ((rwkI I Q 13) 0 3) = 0) => ?_)
        · skip
          refine go_s (pc' := 93) (lo' := [some (.ref 62), some (.int 14)]) rfl rfl rfl rfl ?_
          refine go_s (pc' := 53) rfl rfl rfl rfl ?_
          have hc9 : rwkc I Q 13 = false := by
            unfold rwkc
            simp [show I 0 (13 / 4) = 0 from c2]
          rw [rwk_n hc9] at C
          exact C _ hA
        · skip
          refine go_s (pc' := 80) rfl rfl rfl rfl ?_
          refine go_sget (pc' := 81) (v := .ref 63) hS rfl rfl rfl (by decide) rfl rfl ?_
          refine go_s (pc' := 82) rfl rfl rfl rfl ?_
          refine go_s (pc' := 83) (st' := [.int 4, .int 13, .ref 63]) rfl rfl rfl rfl ?_
          refine go_s (pc' := 84) (st' := [.int 1, .ref 63]) rfl rfl rfl rfl ?_
          refine go_sald (pc' := 85) (q := 1) (v := .int ((rwkI I Q 13) 0 1)) hS rfl (tr_s hr (a := 63) rfl (by decide)) rfl rfl (by decide) rfl rfl ?_
          refine go_ifP (t' := 92) (pc' := 86) rfl rfl rfl (fun (c3 : ((rwkI I Q 13) 0 1) = 0) => ?_) (fun (c3 : ¬ ((rwkI I Q 13) 0 1) = 0) => ?_)
          · skip
            refine go_s (pc' := 93) (lo' := [some (.ref 62), some (.int 14)]) rfl rfl rfl rfl ?_
            refine go_s (pc' := 53) rfl rfl rfl rfl ?_
            have hc9 : rwkc I Q 13 = false := by
              unfold rwkc
              simp [show I 0 (13 % 4) = 0 from c3]
            rw [rwk_n hc9] at C
            exact C _ hA
          · skip
            refine go_s (pc' := 87) rfl rfl rfl rfl ?_
            refine go_s (pc' := 88) rfl rfl rfl rfl ?_
            refine go_sget (pc' := 89) (v := .ref 72) hS rfl rfl rfl (by decide) rfl rfl ?_
            refine go_s (pc' := 90) rfl rfl rfl rfl ?_
            refine go_sald (pc' := 91) (q := 13) (v := .int (nI (13 * x))) hS rfl (tr_s hr (a := 72) rfl (by decide)) rfl rfl (by decide) (congrArg Value.int h53) rfl ?_
            have hU4 : RU w B R [] true h am ln K ((rwkI I Q 13), Q, Z) := RU_I (sm_e_refl (tbr am (13 * ln) 77 5088) _) (I' := (rwkI I Q 13)) (fun _ => rfl) (fun _ => rfl) (Nat.le_refl _) hU
            refine go_callV (pc' := 92) rfl rfl rfl (Nat.le_of_ble_eq_true rfl) rfl (sm_o hS rfl) rfl rfl rfl (rt_boards_m hr hS hW hWm (m := 13 * x) (by omega) (by omega) (hk3.trans (rwk_at.trans hb25)) (by omega)) (fun r h5 q6 => ?_)
            obtain ⟨rfl, hS7, hE8⟩ := q6
            rw [show nxb (jn (rwkI I Q 13) K) (-1) = nxb I (-1) from rwk_nb (Q := Q) (n := 13)] at hS7
            refine go_s (pc' := 93) (lo' := [some (.ref 62), some (.int 14)]) rfl rfl rfl rfl ?_
            refine go_s (pc' := 53) rfl rfl rfl rfl ?_
            by_cases hnb : nxb I (-1) = -1
            · rw [if_pos hnb] at hS7
              have hc9 : rwkc I Q 13 = false := by
                unfold rwkc
                rw [hb25]
                simp [hnb]
              rw [rwk_n hc9] at C
              exact C _ (RA_u.mpr ⟨K, Y, am, ln, hS7, RU_I hE8 (fun _ => rfl) (fun _ => rfl) (Nat.le_refl _) hU4⟩)
            · rw [if_neg hnb] at hS7
              have hc9 : rwkc I Q 13 = true := by
                unfold rwkc
                rw [hQ, hb25]
                simp [hnb, show I 24 13 = -1 from c1, show ¬ I 0 (13 / 4) = 0 from c2, show ¬ I 0 (13 % 4) = 0 from c3]
              rw [rwk_y hc9, hb25] at C
              rw [jn_hi (c := 50) (by decide), jn_hi (c := 50) (by decide)] at hS7
              exact C _ (RA_u.mpr ⟨_, Y, am, ln, sm_jg hr hS7 (fun c j _ n1 n2 _ => (uI_c n2).trans (uI_c n1)), RU_bus (by decide) hU4 hln hE8 hQ h53 hx (fun i hi => by rw [uI_c (by decide), uI_j hi]) (fun i hi => by rw [uI_j hi, uI_c (by decide)]) rfl (fun c j _ hc => by
                simp only [uI]
                rw [if_neg (fun z => hc ⟨z.1, Or.inr z.2⟩), if_neg (fun z => hc ⟨z.1, Or.inl z.2⟩)]) (by rw [uI_j (by omega), uI_s, uI_c (by decide), uI_s]) (by rw [uI_s, uI_s])⟩)
    · skip
      refine go_s (pc' := 54) rfl rfl rfl rfl ?_
      refine go_s (pc' := 55) (st' := [.int 16, .int 13]) rfl rfl rfl rfl ?_
      refine go_icmpP (t' := 94) (pc' := 56) rfl rfl rfl (fun (c : 16 ≤ (13 : Int32)) => absurd c (by decide)) (fun _ => ?_)
      refine go_s (pc' := 57) rfl rfl rfl rfl ?_
      refine go_sget (pc' := 58) (v := .ref 74) hS rfl rfl rfl (by decide) rfl rfl ?_
      refine go_s (pc' := 59) rfl rfl rfl rfl ?_
      refine go_sald (pc' := 60) (q := 13) (v := .int (nI (q.length + 1))) hS rfl (tr_s hr (a := 74) rfl (by decide)) rfl rfl (by decide) (congrArg Value.int h55) rfl ?_
      refine go_ifP (t' := 92) (pc' := 61) rfl rfl rfl (fun (c : (nI (q.length + 1)) ≤ 0) => absurd c (nI_p1 (by omega))) (fun _ => ?_)
      refine go_s (pc' := 62) rfl rfl rfl rfl ?_
      refine go_sget (pc' := 63) (v := .ref am) hS rfl rfl rfl (by decide) rfl rfl ?_
      refine go_s (pc' := 64) rfl rfl rfl rfl ?_
      refine go_sget (pc' := 65) (v := .ref 72) hS rfl rfl rfl (by decide) rfl rfl ?_
      refine go_s (pc' := 66) rfl rfl rfl rfl ?_
      refine go_sald (pc' := 67) (q := 13) (v := .int (nI (13 * x))) hS rfl (tr_s hr (a := 72) rfl (by decide)) rfl rfl (by decide) (congrArg Value.int h53) rfl ?_
      refine go_s (pc' := 68) (st' := [.int 2, .int (nI (13 * x)), .ref am]) rfl rfl rfl rfl ?_
      refine go_nadd (pc' := 69) (a := (13 * x)) (b := 2) rfl rfl rfl rfl rfl ?_
      refine go_sald (pc' := 70) (q := ((13 * x) + 2)) (v := .int (I 24 13)) hS rfl (tr_ms hr (by omega)) rfl rfl (by omega) (congrArg Value.int (hk2.trans rwk_at)) rfl ?_
      refine go_s (pc' := 71) (st' := [.int (-1), .int (I 24 13)]) rfl rfl rfl rfl ?_
      refine go_icmpP (t' := 92) (pc' := 72) rfl rfl rfl (fun (c9 : ¬ (I 24 13) = (-1)) => ?_) (fun (c9' : ¬ ¬ (I 24 13) = (-1)) => ?_)
      · skip
        refine go_s (pc' := 93) (lo' := [some (.ref 62), some (.int 14)]) rfl rfl rfl rfl ?_
        refine go_s (pc' := 53) rfl rfl rfl rfl ?_
        have hc9 : rwkc I Q 13 = false := by
          unfold rwkc
          simp [show ¬ I 24 13 = -1 from c9]
        rw [rwk_n hc9] at C
        exact C _ hA
      · skip
        have c9 : (I 24 13) = (-1) := Decidable.not_not.mp c9'
        refine go_s (pc' := 73) rfl rfl rfl rfl ?_
        refine go_sget (pc' := 74) (v := .ref 63) hS rfl rfl rfl (by decide) rfl rfl ?_
        refine go_s (pc' := 75) rfl rfl rfl rfl ?_
        refine go_s (pc' := 76) (st' := [.int 4, .int 13, .ref 63]) rfl rfl rfl rfl ?_
        refine go_s (pc' := 77) (st' := [.int 3, .ref 63]) rfl rfl rfl rfl ?_
        refine go_sald (pc' := 78) (q := 3) (v := .int ((rwkI I Q 13) 0 3)) hS rfl (tr_s hr (a := 63) rfl (by decide)) rfl rfl (by decide) rfl rfl ?_
        refine go_ifP (t' := 92) (pc' := 79) rfl rfl rfl (fun (c10 : ((rwkI I Q 13) 0 3) = 0) => ?_) (fun (c10 : ¬ ((rwkI I Q 13) 0 3) = 0) => ?_)
        · skip
          refine go_s (pc' := 93) (lo' := [some (.ref 62), some (.int 14)]) rfl rfl rfl rfl ?_
          refine go_s (pc' := 53) rfl rfl rfl rfl ?_
          have hc9 : rwkc I Q 13 = false := by
            unfold rwkc
            simp [show I 0 (13 / 4) = 0 from c10]
          rw [rwk_n hc9] at C
          exact C _ hA
        · skip
          refine go_s (pc' := 80) rfl rfl rfl rfl ?_
          refine go_sget (pc' := 81) (v := .ref 63) hS rfl rfl rfl (by decide) rfl rfl ?_
          refine go_s (pc' := 82) rfl rfl rfl rfl ?_
          refine go_s (pc' := 83) (st' := [.int 4, .int 13, .ref 63]) rfl rfl rfl rfl ?_
          refine go_s (pc' := 84) (st' := [.int 1, .ref 63]) rfl rfl rfl rfl ?_
          refine go_sald (pc' := 85) (q := 1) (v := .int ((rwkI I Q 13) 0 1)) hS rfl (tr_s hr (a := 63) rfl (by decide)) rfl rfl (by decide) rfl rfl ?_
          refine go_ifP (t' := 92) (pc' := 86) rfl rfl rfl (fun (c11 : ((rwkI I Q 13) 0 1) = 0) => ?_) (fun (c11 : ¬ ((rwkI I Q 13) 0 1) = 0) => ?_)
          · skip
            refine go_s (pc' := 93) (lo' := [some (.ref 62), some (.int 14)]) rfl rfl rfl rfl ?_
            refine go_s (pc' := 53) rfl rfl rfl rfl ?_
            have hc9 : rwkc I Q 13 = false := by
              unfold rwkc
              simp [show I 0 (13 % 4) = 0 from c11]
            rw [rwk_n hc9] at C
            exact C _ hA
          · skip
            refine go_s (pc' := 87) rfl rfl rfl rfl ?_
            refine go_s (pc' := 88) rfl rfl rfl rfl ?_
            refine go_sget (pc' := 89) (v := .ref 72) hS rfl rfl rfl (by decide) rfl rfl ?_
            refine go_s (pc' := 90) rfl rfl rfl rfl ?_
            refine go_sald (pc' := 91) (q := 13) (v := .int (nI (13 * x))) hS rfl (tr_s hr (a := 72) rfl (by decide)) rfl rfl (by decide) (congrArg Value.int h53) rfl ?_
            have hU12 : RU w B R [] true h am ln K ((rwkI I Q 13), Q, Z) := RU_I (sm_e_refl (tbr am (13 * ln) 77 5088) _) (I' := (rwkI I Q 13)) (fun _ => rfl) (fun _ => rfl) (Nat.le_refl _) hU
            refine go_callV (pc' := 92) rfl rfl rfl (Nat.le_of_ble_eq_true rfl) rfl (sm_o hS rfl) rfl rfl rfl (rt_boards_0 hr hS hW hWm (m := 13 * x) (by omega) (by omega) (hk3.trans (rwk_at.trans hb25)) (by omega)) (fun r h13 q14 => ?_)
            obtain ⟨rfl, hS15, hE16⟩ := q14
            rw [show nxb (jn (rwkI I Q 13) K) 0 = nxb I 0 from rwk_nb (Q := Q) (n := 13)] at hS15
            refine go_s (pc' := 93) (lo' := [some (.ref 62), some (.int 14)]) rfl rfl rfl rfl ?_
            refine go_s (pc' := 53) rfl rfl rfl rfl ?_
            by_cases hnb : nxb I 0 = -1
            · rw [if_pos hnb] at hS15
              have hc9 : rwkc I Q 13 = false := by
                unfold rwkc
                rw [hb25]
                simp [hnb]
              rw [rwk_n hc9] at C
              exact C _ (RA_u.mpr ⟨K, Y, am, ln, hS15, RU_I hE16 (fun _ => rfl) (fun _ => rfl) (Nat.le_refl _) hU12⟩)
            · rw [if_neg hnb] at hS15
              have hc9 : rwkc I Q 13 = true := by
                unfold rwkc
                rw [hQ, hb25]
                simp [hnb, show I 24 13 = -1 from c9, show ¬ I 0 (13 / 4) = 0 from c10, show ¬ I 0 (13 % 4) = 0 from c11]
              rw [rwk_y hc9, hb25] at C
              rw [jn_hi (c := 50) (by decide), jn_hi (c := 50) (by decide)] at hS15
              exact C _ (RA_u.mpr ⟨_, Y, am, ln, sm_jg hr hS15 (fun c j _ n1 n2 _ => (uI_c n2).trans (uI_c n1)), RU_bus (by decide) hU12 hln hE16 hQ h53 hx (fun i hi => by rw [uI_c (by decide), uI_j hi]) (fun i hi => by rw [uI_j hi, uI_c (by decide)]) rfl (fun c j _ hc => by
                simp only [uI]
                rw [if_neg (fun z => hc ⟨z.1, Or.inr z.2⟩), if_neg (fun z => hc ⟨z.1, Or.inl z.2⟩)]) (by rw [uI_j (by omega), uI_s, uI_c (by decide), uI_s]) (by rw [uI_s, uI_s])⟩)
    · skip
      refine go_s (pc' := 54) rfl rfl rfl rfl ?_
      refine go_s (pc' := 55) (st' := [.int 16, .int 13]) rfl rfl rfl rfl ?_
      refine go_icmpP (t' := 94) (pc' := 56) rfl rfl rfl (fun (c : 16 ≤ (13 : Int32)) => absurd c (by decide)) (fun _ => ?_)
      refine go_s (pc' := 57) rfl rfl rfl rfl ?_
      refine go_sget (pc' := 58) (v := .ref 74) hS rfl rfl rfl (by decide) rfl rfl ?_
      refine go_s (pc' := 59) rfl rfl rfl rfl ?_
      refine go_sald (pc' := 60) (q := 13) (v := .int (nI (q.length + 1))) hS rfl (tr_s hr (a := 74) rfl (by decide)) rfl rfl (by decide) (congrArg Value.int h55) rfl ?_
      refine go_ifP (t' := 92) (pc' := 61) rfl rfl rfl (fun (c : (nI (q.length + 1)) ≤ 0) => absurd c (nI_p1 (by omega))) (fun _ => ?_)
      refine go_s (pc' := 62) rfl rfl rfl rfl ?_
      refine go_sget (pc' := 63) (v := .ref am) hS rfl rfl rfl (by decide) rfl rfl ?_
      refine go_s (pc' := 64) rfl rfl rfl rfl ?_
      refine go_sget (pc' := 65) (v := .ref 72) hS rfl rfl rfl (by decide) rfl rfl ?_
      refine go_s (pc' := 66) rfl rfl rfl rfl ?_
      refine go_sald (pc' := 67) (q := 13) (v := .int (nI (13 * x))) hS rfl (tr_s hr (a := 72) rfl (by decide)) rfl rfl (by decide) (congrArg Value.int h53) rfl ?_
      refine go_s (pc' := 68) (st' := [.int 2, .int (nI (13 * x)), .ref am]) rfl rfl rfl rfl ?_
      refine go_nadd (pc' := 69) (a := (13 * x)) (b := 2) rfl rfl rfl rfl rfl ?_
      refine go_sald (pc' := 70) (q := ((13 * x) + 2)) (v := .int (I 24 13)) hS rfl (tr_ms hr (by omega)) rfl rfl (by omega) (congrArg Value.int (hk2.trans rwk_at)) rfl ?_
      refine go_s (pc' := 71) (st' := [.int (-1), .int (I 24 13)]) rfl rfl rfl rfl ?_
      refine go_icmpP (t' := 92) (pc' := 72) rfl rfl rfl (fun (c17 : ¬ (I 24 13) = (-1)) => ?_) (fun (c17' : ¬ ¬ (I 24 13) = (-1)) => ?_)
      · skip
        refine go_s (pc' := 93) (lo' := [some (.ref 62), some (.int 14)]) rfl rfl rfl rfl ?_
        refine go_s (pc' := 53) rfl rfl rfl rfl ?_
        have hc9 : rwkc I Q 13 = false := by
          unfold rwkc
          simp [show ¬ I 24 13 = -1 from c17]
        rw [rwk_n hc9] at C
        exact C _ hA
      · skip
        have c17 : (I 24 13) = (-1) := Decidable.not_not.mp c17'
        refine go_s (pc' := 73) rfl rfl rfl rfl ?_
        refine go_sget (pc' := 74) (v := .ref 63) hS rfl rfl rfl (by decide) rfl rfl ?_
        refine go_s (pc' := 75) rfl rfl rfl rfl ?_
        refine go_s (pc' := 76) (st' := [.int 4, .int 13, .ref 63]) rfl rfl rfl rfl ?_
        refine go_s (pc' := 77) (st' := [.int 3, .ref 63]) rfl rfl rfl rfl ?_
        refine go_sald (pc' := 78) (q := 3) (v := .int ((rwkI I Q 13) 0 3)) hS rfl (tr_s hr (a := 63) rfl (by decide)) rfl rfl (by decide) rfl rfl ?_
        refine go_ifP (t' := 92) (pc' := 79) rfl rfl rfl (fun (c18 : ((rwkI I Q 13) 0 3) = 0) => ?_) (fun (c18 : ¬ ((rwkI I Q 13) 0 3) = 0) => ?_)
        · skip
          refine go_s (pc' := 93) (lo' := [some (.ref 62), some (.int 14)]) rfl rfl rfl rfl ?_
          refine go_s (pc' := 53) rfl rfl rfl rfl ?_
          have hc9 : rwkc I Q 13 = false := by
            unfold rwkc
            simp [show I 0 (13 / 4) = 0 from c18]
          rw [rwk_n hc9] at C
          exact C _ hA
        · skip
          refine go_s (pc' := 80) rfl rfl rfl rfl ?_
          refine go_sget (pc' := 81) (v := .ref 63) hS rfl rfl rfl (by decide) rfl rfl ?_
          refine go_s (pc' := 82) rfl rfl rfl rfl ?_
          refine go_s (pc' := 83) (st' := [.int 4, .int 13, .ref 63]) rfl rfl rfl rfl ?_
          refine go_s (pc' := 84) (st' := [.int 1, .ref 63]) rfl rfl rfl rfl ?_
          refine go_sald (pc' := 85) (q := 1) (v := .int ((rwkI I Q 13) 0 1)) hS rfl (tr_s hr (a := 63) rfl (by decide)) rfl rfl (by decide) rfl rfl ?_
          refine go_ifP (t' := 92) (pc' := 86) rfl rfl rfl (fun (c19 : ((rwkI I Q 13) 0 1) = 0) => ?_) (fun (c19 : ¬ ((rwkI I Q 13) 0 1) = 0) => ?_)
          · skip
            refine go_s (pc' := 93) (lo' := [some (.ref 62), some (.int 14)]) rfl rfl rfl rfl ?_
            refine go_s (pc' := 53) rfl rfl rfl rfl ?_
            have hc9 : rwkc I Q 13 = false := by
              unfold rwkc
              simp [show I 0 (13 % 4) = 0 from c19]
            rw [rwk_n hc9] at C
            exact C _ hA
          · skip
            refine go_s (pc' := 87) rfl rfl rfl rfl ?_
            refine go_s (pc' := 88) rfl rfl rfl rfl ?_
            refine go_sget (pc' := 89) (v := .ref 72) hS rfl rfl rfl (by decide) rfl rfl ?_
            refine go_s (pc' := 90) rfl rfl rfl rfl ?_
            refine go_sald (pc' := 91) (q := 13) (v := .int (nI (13 * x))) hS rfl (tr_s hr (a := 72) rfl (by decide)) rfl rfl (by decide) (congrArg Value.int h53) rfl ?_
            have hU20 : RU w B R [] true h am ln K ((rwkI I Q 13), Q, Z) := RU_I (sm_e_refl (tbr am (13 * ln) 77 5088) _) (I' := (rwkI I Q 13)) (fun _ => rfl) (fun _ => rfl) (Nat.le_refl _) hU
            refine go_callV (pc' := 92) rfl rfl rfl (Nat.le_of_ble_eq_true rfl) rfl (sm_o hS rfl) rfl rfl rfl (rt_boards_1 hr hS hW hWm (m := 13 * x) (by omega) (by omega) (hk3.trans (rwk_at.trans hb25)) (by omega)) (fun r h21 q22 => ?_)
            obtain ⟨rfl, hS23, hE24⟩ := q22
            rw [show nxb (jn (rwkI I Q 13) K) 1 = nxb I 1 from rwk_nb (Q := Q) (n := 13)] at hS23
            refine go_s (pc' := 93) (lo' := [some (.ref 62), some (.int 14)]) rfl rfl rfl rfl ?_
            refine go_s (pc' := 53) rfl rfl rfl rfl ?_
            by_cases hnb : nxb I 1 = -1
            · rw [if_pos hnb] at hS23
              have hc9 : rwkc I Q 13 = false := by
                unfold rwkc
                rw [hb25]
                simp [hnb]
              rw [rwk_n hc9] at C
              exact C _ (RA_u.mpr ⟨K, Y, am, ln, hS23, RU_I hE24 (fun _ => rfl) (fun _ => rfl) (Nat.le_refl _) hU20⟩)
            · rw [if_neg hnb] at hS23
              have hc9 : rwkc I Q 13 = true := by
                unfold rwkc
                rw [hQ, hb25]
                simp [hnb, show I 24 13 = -1 from c17, show ¬ I 0 (13 / 4) = 0 from c18, show ¬ I 0 (13 % 4) = 0 from c19]
              rw [rwk_y hc9, hb25] at C
              rw [jn_hi (c := 50) (by decide), jn_hi (c := 50) (by decide)] at hS23
              exact C _ (RA_u.mpr ⟨_, Y, am, ln, sm_jg hr hS23 (fun c j _ n1 n2 _ => (uI_c n2).trans (uI_c n1)), RU_bus (by decide) hU20 hln hE24 hQ h53 hx (fun i hi => by rw [uI_c (by decide), uI_j hi]) (fun i hi => by rw [uI_j hi, uI_c (by decide)]) rfl (fun c j _ hc => by
                simp only [uI]
                rw [if_neg (fun z => hc ⟨z.1, Or.inr z.2⟩), if_neg (fun z => hc ⟨z.1, Or.inl z.2⟩)]) (by rw [uI_j (by omega), uI_s, uI_c (by decide), uI_s]) (by rw [uI_s, uI_s])⟩)
theorem stW_14 {w : Nat → Bool} {d B R : Nat} {h : am_Hp} {I : sm_I} {Q : mQ} {Z : mZ} {P : Option Value → am_Hp → Prop} (hA : RA w B R [] true h (rwkI I Q 14, Q, Z)) (hR : R + 0 < 40000) (htri : tri (I 25 14)) (hd : 2 ≤ d) (C : ∀ h', RA w B (R + 0) [] true h' (rwkI I Q 15, Q, Z) → am_Go (am_prog w) d am_c168 (some .int) 53 [some (.ref 62), some (.int 15)] [] h' P) : am_Go (am_prog w) d am_c168 (some .int) 53 [some (.ref 62), some (.int 14)] [] h P := by
  obtain ⟨K, Y, am, ln, hS, hU⟩ := RA_u.mp hA
  change sm (tbr am (13 * ln) 77 5088) h (jn (rwkI I Q 14) K) Y at hS
  obtain ⟨hW, hWm, -, -, hr, -⟩ := id hU.1
  have hln := RU_ln hU (by omega)
  cases hQ : Q 14 with
  | nil =>
    have h55 : K 55 14 = 0 := by
      have z := (RU_lk (l := 14) hU (by decide)).1
      rw [hQ] at z
      exact z
    refine go_s (pc' := 54) rfl rfl rfl rfl ?_
    refine go_s (pc' := 55) (st' := [.int 16, .int 14]) rfl rfl rfl rfl ?_
    refine go_icmpP (t' := 94) (pc' := 56) rfl rfl rfl (fun (c : 16 ≤ (14 : Int32)) => absurd c (by decide)) (fun _ => ?_)
    refine go_s (pc' := 57) rfl rfl rfl rfl ?_
    refine go_sget (pc' := 58) (v := .ref 74) hS rfl rfl rfl (by decide) rfl rfl ?_
    refine go_s (pc' := 59) rfl rfl rfl rfl ?_
    refine go_sald (pc' := 60) (q := 14) (v := .int 0) hS rfl (tr_s hr (a := 74) rfl (by decide)) rfl rfl (by decide) (congrArg Value.int h55) rfl ?_
    refine go_ifP (t' := 92) (pc' := 61) rfl rfl rfl (fun _ => ?_) (fun (c : ¬ ((0 : Int32) ≤ 0)) => absurd (by decide) c)
    refine go_s (pc' := 93) (lo' := [some (.ref 62), some (.int 15)]) rfl rfl rfl rfl ?_
    refine go_s (pc' := 53) rfl rfl rfl rfl ?_
    have hc9 : rwkc I Q 14 = false := by
      unfold rwkc
      rw [hQ]
      rfl
    rw [rwk_n hc9] at C
    exact C _ hA
  | cons m q =>
    obtain ⟨hk55, hle, hxx⟩ := RU_lk (l := 14) hU (by decide)
    obtain ⟨x, h53, hx, hk2, hk3, hk0, hk1⟩ := hxx m q hQ
    rw [hQ] at hk55 hle
    have h55 : K 55 14 = nI (q.length + 1) := hk55
    have hle2 : q.length + 1 ≤ ln := hle
    rcases htri with hb25 | hb25 | hb25
    · skip
      refine go_s (pc' := 54) rfl rfl rfl rfl ?_
      refine go_s (pc' := 55) (st' := [.int 16, .int 14]) rfl rfl rfl rfl ?_
      refine go_icmpP (t' := 94) (pc' := 56) rfl rfl rfl (fun (c : 16 ≤ (14 : Int32)) => absurd c (by decide)) (fun _ => ?_)
      refine go_s (pc' := 57) rfl rfl rfl rfl ?_
      refine go_sget (pc' := 58) (v := .ref 74) hS rfl rfl rfl (by decide) rfl rfl ?_
      refine go_s (pc' := 59) rfl rfl rfl rfl ?_
      refine go_sald (pc' := 60) (q := 14) (v := .int (nI (q.length + 1))) hS rfl (tr_s hr (a := 74) rfl (by decide)) rfl rfl (by decide) (congrArg Value.int h55) rfl ?_
      refine go_ifP (t' := 92) (pc' := 61) rfl rfl rfl (fun (c : (nI (q.length + 1)) ≤ 0) => absurd c (nI_p1 (by omega))) (fun _ => ?_)
      refine go_s (pc' := 62) rfl rfl rfl rfl ?_
      refine go_sget (pc' := 63) (v := .ref am) hS rfl rfl rfl (by decide) rfl rfl ?_
      refine go_s (pc' := 64) rfl rfl rfl rfl ?_
      refine go_sget (pc' := 65) (v := .ref 72) hS rfl rfl rfl (by decide) rfl rfl ?_
      refine go_s (pc' := 66) rfl rfl rfl rfl ?_
      refine go_sald (pc' := 67) (q := 14) (v := .int (nI (13 * x))) hS rfl (tr_s hr (a := 72) rfl (by decide)) rfl rfl (by decide) (congrArg Value.int h53) rfl ?_
      refine go_s (pc' := 68) (st' := [.int 2, .int (nI (13 * x)), .ref am]) rfl rfl rfl rfl ?_
      refine go_nadd (pc' := 69) (a := (13 * x)) (b := 2) rfl rfl rfl rfl rfl ?_
      refine go_sald (pc' := 70) (q := ((13 * x) + 2)) (v := .int (I 24 14)) hS rfl (tr_ms hr (by omega)) rfl rfl (by omega) (congrArg Value.int (hk2.trans rwk_at)) rfl ?_
      refine go_s (pc' := 71) (st' := [.int (-1), .int (I 24 14)]) rfl rfl rfl rfl ?_
      refine go_icmpP (t' := 92) (pc' := 72) rfl rfl rfl (fun (c1 : ¬ (I 24 14) = (-1)) => ?_) (fun (c1' : ¬ ¬ (I 24 14) = (-1)) => ?_)
      · skip
        refine go_s (pc' := 93) (lo' := [some (.ref 62), some (.int 15)]) rfl rfl rfl rfl ?_
        refine go_s (pc' := 53) rfl rfl rfl rfl ?_
        have hc9 : rwkc I Q 14 = false := by
          unfold rwkc
          simp [show ¬ I 24 14 = -1 from c1]
        rw [rwk_n hc9] at C
        exact C _ hA
      · skip
        have c1 : (I 24 14) = (-1) := Decidable.not_not.mp c1'
        refine go_s (pc' := 73) rfl rfl rfl rfl ?_
        refine go_sget (pc' := 74) (v := .ref 63) hS rfl rfl rfl (by decide) rfl rfl ?_
        refine go_s (pc' := 75) rfl rfl rfl rfl ?_
        refine go_s (pc' := 76) (st' := [.int 4, .int 14, .ref 63]) rfl rfl rfl rfl ?_
        refine go_s (pc' := 77) (st' := [.int 3, .ref 63]) rfl rfl rfl rfl ?_
        refine go_sald (pc' := 78) (q := 3) (v := .int ((rwkI I Q 14) 0 3)) hS rfl (tr_s hr (a := 63) rfl (by decide)) rfl rfl (by decide) rfl rfl ?_
        refine go_ifP (t' := 92) (pc' := 79) rfl rfl rfl (fun (c2 : ((rwkI I Q 14) 0 3) = 0) => ?_) (fun (c2 : ¬ ((rwkI I Q 14) 0 3) = 0) => ?_)
        · skip
          refine go_s (pc' := 93) (lo' := [some (.ref 62), some (.int 15)]) rfl rfl rfl rfl ?_
          refine go_s (pc' := 53) rfl rfl rfl rfl ?_
          have hc9 : rwkc I Q 14 = false := by
            unfold rwkc
            simp [show I 0 (14 / 4) = 0 from c2]
          rw [rwk_n hc9] at C
          exact C _ hA
        · skip
          refine go_s (pc' := 80) rfl rfl rfl rfl ?_
          refine go_sget (pc' := 81) (v := .ref 63) hS rfl rfl rfl (by decide) rfl rfl ?_
          refine go_s (pc' := 82) rfl rfl rfl rfl ?_
          refine go_s (pc' := 83) (st' := [.int 4, .int 14, .ref 63]) rfl rfl rfl rfl ?_
          refine go_s (pc' := 84) (st' := [.int 2, .ref 63]) rfl rfl rfl rfl ?_
          refine go_sald (pc' := 85) (q := 2) (v := .int ((rwkI I Q 14) 0 2)) hS rfl (tr_s hr (a := 63) rfl (by decide)) rfl rfl (by decide) rfl rfl ?_
          refine go_ifP (t' := 92) (pc' := 86) rfl rfl rfl (fun (c3 : ((rwkI I Q 14) 0 2) = 0) => ?_) (fun (c3 : ¬ ((rwkI I Q 14) 0 2) = 0) => ?_)
          · skip
            refine go_s (pc' := 93) (lo' := [some (.ref 62), some (.int 15)]) rfl rfl rfl rfl ?_
            refine go_s (pc' := 53) rfl rfl rfl rfl ?_
            have hc9 : rwkc I Q 14 = false := by
              unfold rwkc
              simp [show I 0 (14 % 4) = 0 from c3]
            rw [rwk_n hc9] at C
            exact C _ hA
          · skip
            refine go_s (pc' := 87) rfl rfl rfl rfl ?_
            refine go_s (pc' := 88) rfl rfl rfl rfl ?_
            refine go_sget (pc' := 89) (v := .ref 72) hS rfl rfl rfl (by decide) rfl rfl ?_
            refine go_s (pc' := 90) rfl rfl rfl rfl ?_
            refine go_sald (pc' := 91) (q := 14) (v := .int (nI (13 * x))) hS rfl (tr_s hr (a := 72) rfl (by decide)) rfl rfl (by decide) (congrArg Value.int h53) rfl ?_
            have hU4 : RU w B R [] true h am ln K ((rwkI I Q 14), Q, Z) := RU_I (sm_e_refl (tbr am (13 * ln) 77 5088) _) (I' := (rwkI I Q 14)) (fun _ => rfl) (fun _ => rfl) (Nat.le_refl _) hU
            refine go_callV (pc' := 92) rfl rfl rfl (Nat.le_of_ble_eq_true rfl) rfl (sm_o hS rfl) rfl rfl rfl (rt_boards_m hr hS hW hWm (m := 13 * x) (by omega) (by omega) (hk3.trans (rwk_at.trans hb25)) (by omega)) (fun r h5 q6 => ?_)
            obtain ⟨rfl, hS7, hE8⟩ := q6
            rw [show nxb (jn (rwkI I Q 14) K) (-1) = nxb I (-1) from rwk_nb (Q := Q) (n := 14)] at hS7
            refine go_s (pc' := 93) (lo' := [some (.ref 62), some (.int 15)]) rfl rfl rfl rfl ?_
            refine go_s (pc' := 53) rfl rfl rfl rfl ?_
            by_cases hnb : nxb I (-1) = -1
            · rw [if_pos hnb] at hS7
              have hc9 : rwkc I Q 14 = false := by
                unfold rwkc
                rw [hb25]
                simp [hnb]
              rw [rwk_n hc9] at C
              exact C _ (RA_u.mpr ⟨K, Y, am, ln, hS7, RU_I hE8 (fun _ => rfl) (fun _ => rfl) (Nat.le_refl _) hU4⟩)
            · rw [if_neg hnb] at hS7
              have hc9 : rwkc I Q 14 = true := by
                unfold rwkc
                rw [hQ, hb25]
                simp [hnb, show I 24 14 = -1 from c1, show ¬ I 0 (14 / 4) = 0 from c2, show ¬ I 0 (14 % 4) = 0 from c3]
              rw [rwk_y hc9, hb25] at C
              rw [jn_hi (c := 50) (by decide), jn_hi (c := 50) (by decide)] at hS7
              exact C _ (RA_u.mpr ⟨_, Y, am, ln, sm_jg hr hS7 (fun c j _ n1 n2 _ => (uI_c n2).trans (uI_c n1)), RU_bus (by decide) hU4 hln hE8 hQ h53 hx (fun i hi => by rw [uI_c (by decide), uI_j hi]) (fun i hi => by rw [uI_j hi, uI_c (by decide)]) rfl (fun c j _ hc => by
                simp only [uI]
                rw [if_neg (fun z => hc ⟨z.1, Or.inr z.2⟩), if_neg (fun z => hc ⟨z.1, Or.inl z.2⟩)]) (by rw [uI_j (by omega), uI_s, uI_c (by decide), uI_s]) (by rw [uI_s, uI_s])⟩)
    · skip
      refine go_s (pc' := 54) rfl rfl rfl rfl ?_
      refine go_s (pc' := 55) (st' := [.int 16, .int 14]) rfl rfl rfl rfl ?_
      refine go_icmpP (t' := 94) (pc' := 56) rfl rfl rfl (fun (c : 16 ≤ (14 : Int32)) => absurd c (by decide)) (fun _ => ?_)
      refine go_s (pc' := 57) rfl rfl rfl rfl ?_
      refine go_sget (pc' := 58) (v := .ref 74) hS rfl rfl rfl (by decide) rfl rfl ?_
      refine go_s (pc' := 59) rfl rfl rfl rfl ?_
      refine go_sald (pc' := 60) (q := 14) (v := .int (nI (q.length + 1))) hS rfl (tr_s hr (a := 74) rfl (by decide)) rfl rfl (by decide) (congrArg Value.int h55) rfl ?_
      refine go_ifP (t' := 92) (pc' := 61) rfl rfl rfl (fun (c : (nI (q.length + 1)) ≤ 0) => absurd c (nI_p1 (by omega))) (fun _ => ?_)
      refine go_s (pc' := 62) rfl rfl rfl rfl ?_
      refine go_sget (pc' := 63) (v := .ref am) hS rfl rfl rfl (by decide) rfl rfl ?_
      refine go_s (pc' := 64) rfl rfl rfl rfl ?_
      refine go_sget (pc' := 65) (v := .ref 72) hS rfl rfl rfl (by decide) rfl rfl ?_
      refine go_s (pc' := 66) rfl rfl rfl rfl ?_
      refine go_sald (pc' := 67) (q := 14) (v := .int (nI (13 * x))) hS rfl (tr_s hr (a := 72) rfl (by decide)) rfl rfl (by decide) (congrArg Value.int h53) rfl ?_
      refine go_s (pc' := 68) (st' := [.int 2, .int (nI (13 * x)), .ref am]) rfl rfl rfl rfl ?_
      refine go_nadd (pc' := 69) (a := (13 * x)) (b := 2) rfl rfl rfl rfl rfl ?_
      refine go_sald (pc' := 70) (q := ((13 * x) + 2)) (v := .int (I 24 14)) hS rfl (tr_ms hr (by omega)) rfl rfl (by omega) (congrArg Value.int (hk2.trans rwk_at)) rfl ?_
      refine go_s (pc' := 71) (st' := [.int (-1), .int (I 24 14)]) rfl rfl rfl rfl ?_
      refine go_icmpP (t' := 92) (pc' := 72) rfl rfl rfl (fun (c9 : ¬ (I 24 14) = (-1)) => ?_) (fun (c9' : ¬ ¬ (I 24 14) = (-1)) => ?_)
      · skip
        refine go_s (pc' := 93) (lo' := [some (.ref 62), some (.int 15)]) rfl rfl rfl rfl ?_
        refine go_s (pc' := 53) rfl rfl rfl rfl ?_
        have hc9 : rwkc I Q 14 = false := by
          unfold rwkc
          simp [show ¬ I 24 14 = -1 from c9]
        rw [rwk_n hc9] at C
        exact C _ hA
      · skip
        have c9 : (I 24 14) = (-1) := Decidable.not_not.mp c9'
        refine go_s (pc' := 73) rfl rfl rfl rfl ?_
        refine go_sget (pc' := 74) (v := .ref 63) hS rfl rfl rfl (by decide) rfl rfl ?_
        refine go_s (pc' := 75) rfl rfl rfl rfl ?_
        refine go_s (pc' := 76) (st' := [.int 4, .int 14, .ref 63]) rfl rfl rfl rfl ?_
        refine go_s (pc' := 77) (st' := [.int 3, .ref 63]) rfl rfl rfl rfl ?_
        refine go_sald (pc' := 78) (q := 3) (v := .int ((rwkI I Q 14) 0 3)) hS rfl (tr_s hr (a := 63) rfl (by decide)) rfl rfl (by decide) rfl rfl ?_
        refine go_ifP (t' := 92) (pc' := 79) rfl rfl rfl (fun (c10 : ((rwkI I Q 14) 0 3) = 0) => ?_) (fun (c10 : ¬ ((rwkI I Q 14) 0 3) = 0) => ?_)
        · skip
          refine go_s (pc' := 93) (lo' := [some (.ref 62), some (.int 15)]) rfl rfl rfl rfl ?_
          refine go_s (pc' := 53) rfl rfl rfl rfl ?_
          have hc9 : rwkc I Q 14 = false := by
            unfold rwkc
            simp [show I 0 (14 / 4) = 0 from c10]
          rw [rwk_n hc9] at C
          exact C _ hA
        · skip
          refine go_s (pc' := 80) rfl rfl rfl rfl ?_
          refine go_sget (pc' := 81) (v := .ref 63) hS rfl rfl rfl (by decide) rfl rfl ?_
          refine go_s (pc' := 82) rfl rfl rfl rfl ?_
          refine go_s (pc' := 83) (st' := [.int 4, .int 14, .ref 63]) rfl rfl rfl rfl ?_
          refine go_s (pc' := 84) (st' := [.int 2, .ref 63]) rfl rfl rfl rfl ?_
          refine go_sald (pc' := 85) (q := 2) (v := .int ((rwkI I Q 14) 0 2)) hS rfl (tr_s hr (a := 63) rfl (by decide)) rfl rfl (by decide) rfl rfl ?_
          refine go_ifP (t' := 92) (pc' := 86) rfl rfl rfl (fun (c11 : ((rwkI I Q 14) 0 2) = 0) => ?_) (fun (c11 : ¬ ((rwkI I Q 14) 0 2) = 0) => ?_)
          · skip
            refine go_s (pc' := 93) (lo' := [some (.ref 62), some (.int 15)]) rfl rfl rfl rfl ?_
            refine go_s (pc' := 53) rfl rfl rfl rfl ?_
            have hc9 : rwkc I Q 14 = false := by
              unfold rwkc
              simp [show I 0 (14 % 4) = 0 from c11]
            rw [rwk_n hc9] at C
            exact C _ hA
          · skip
            refine go_s (pc' := 87) rfl rfl rfl rfl ?_
            refine go_s (pc' := 88) rfl rfl rfl rfl ?_
            refine go_sget (pc' := 89) (v := .ref 72) hS rfl rfl rfl (by decide) rfl rfl ?_
            refine go_s (pc' := 90) rfl rfl rfl rfl ?_
            refine go_sald (pc' := 91) (q := 14) (v := .int (nI (13 * x))) hS rfl (tr_s hr (a := 72) rfl (by decide)) rfl rfl (by decide) (congrArg Value.int h53) rfl ?_
            have hU12 : RU w B R [] true h am ln K ((rwkI I Q 14), Q, Z) := RU_I (sm_e_refl (tbr am (13 * ln) 77 5088) _) (I' := (rwkI I Q 14)) (fun _ => rfl) (fun _ => rfl) (Nat.le_refl _) hU
            refine go_callV (pc' := 92) rfl rfl rfl (Nat.le_of_ble_eq_true rfl) rfl (sm_o hS rfl) rfl rfl rfl (rt_boards_0 hr hS hW hWm (m := 13 * x) (by omega) (by omega) (hk3.trans (rwk_at.trans hb25)) (by omega)) (fun r h13 q14 => ?_)
            obtain ⟨rfl, hS15, hE16⟩ := q14
            rw [show nxb (jn (rwkI I Q 14) K) 0 = nxb I 0 from rwk_nb (Q := Q) (n := 14)] at hS15
            refine go_s (pc' := 93) (lo' := [some (.ref 62), some (.int 15)]) rfl rfl rfl rfl ?_
            refine go_s (pc' := 53) rfl rfl rfl rfl ?_
            by_cases hnb : nxb I 0 = -1
            · rw [if_pos hnb] at hS15
              have hc9 : rwkc I Q 14 = false := by
                unfold rwkc
                rw [hb25]
                simp [hnb]
              rw [rwk_n hc9] at C
              exact C _ (RA_u.mpr ⟨K, Y, am, ln, hS15, RU_I hE16 (fun _ => rfl) (fun _ => rfl) (Nat.le_refl _) hU12⟩)
            · rw [if_neg hnb] at hS15
              have hc9 : rwkc I Q 14 = true := by
                unfold rwkc
                rw [hQ, hb25]
                simp [hnb, show I 24 14 = -1 from c9, show ¬ I 0 (14 / 4) = 0 from c10, show ¬ I 0 (14 % 4) = 0 from c11]
              rw [rwk_y hc9, hb25] at C
              rw [jn_hi (c := 50) (by decide), jn_hi (c := 50) (by decide)] at hS15
              exact C _ (RA_u.mpr ⟨_, Y, am, ln, sm_jg hr hS15 (fun c j _ n1 n2 _ => (uI_c n2).trans (uI_c n1)), RU_bus (by decide) hU12 hln hE16 hQ h53 hx (fun i hi => by rw [uI_c (by decide), uI_j hi]) (fun i hi => by rw [uI_j hi, uI_c (by decide)]) rfl (fun c j _ hc => by
                simp only [uI]
                rw [if_neg (fun z => hc ⟨z.1, Or.inr z.2⟩), if_neg (fun z => hc ⟨z.1, Or.inl z.2⟩)]) (by rw [uI_j (by omega), uI_s, uI_c (by decide), uI_s]) (by rw [uI_s, uI_s])⟩)
    · skip
      refine go_s (pc' := 54) rfl rfl rfl rfl ?_
      refine go_s (pc' := 55) (st' := [.int 16, .int 14]) rfl rfl rfl rfl ?_
      refine go_icmpP (t' := 94) (pc' := 56) rfl rfl rfl (fun (c : 16 ≤ (14 : Int32)) => absurd c (by decide)) (fun _ => ?_)
      refine go_s (pc' := 57) rfl rfl rfl rfl ?_
      refine go_sget (pc' := 58) (v := .ref 74) hS rfl rfl rfl (by decide) rfl rfl ?_
      refine go_s (pc' := 59) rfl rfl rfl rfl ?_
      refine go_sald (pc' := 60) (q := 14) (v := .int (nI (q.length + 1))) hS rfl (tr_s hr (a := 74) rfl (by decide)) rfl rfl (by decide) (congrArg Value.int h55) rfl ?_
      refine go_ifP (t' := 92) (pc' := 61) rfl rfl rfl (fun (c : (nI (q.length + 1)) ≤ 0) => absurd c (nI_p1 (by omega))) (fun _ => ?_)
      refine go_s (pc' := 62) rfl rfl rfl rfl ?_
      refine go_sget (pc' := 63) (v := .ref am) hS rfl rfl rfl (by decide) rfl rfl ?_
      refine go_s (pc' := 64) rfl rfl rfl rfl ?_
      refine go_sget (pc' := 65) (v := .ref 72) hS rfl rfl rfl (by decide) rfl rfl ?_
      refine go_s (pc' := 66) rfl rfl rfl rfl ?_
      refine go_sald (pc' := 67) (q := 14) (v := .int (nI (13 * x))) hS rfl (tr_s hr (a := 72) rfl (by decide)) rfl rfl (by decide) (congrArg Value.int h53) rfl ?_
      refine go_s (pc' := 68) (st' := [.int 2, .int (nI (13 * x)), .ref am]) rfl rfl rfl rfl ?_
      refine go_nadd (pc' := 69) (a := (13 * x)) (b := 2) rfl rfl rfl rfl rfl ?_
      refine go_sald (pc' := 70) (q := ((13 * x) + 2)) (v := .int (I 24 14)) hS rfl (tr_ms hr (by omega)) rfl rfl (by omega) (congrArg Value.int (hk2.trans rwk_at)) rfl ?_
      refine go_s (pc' := 71) (st' := [.int (-1), .int (I 24 14)]) rfl rfl rfl rfl ?_
      refine go_icmpP (t' := 92) (pc' := 72) rfl rfl rfl (fun (c17 : ¬ (I 24 14) = (-1)) => ?_) (fun (c17' : ¬ ¬ (I 24 14) = (-1)) => ?_)
      · skip
        refine go_s (pc' := 93) (lo' := [some (.ref 62), some (.int 15)]) rfl rfl rfl rfl ?_
        refine go_s (pc' := 53) rfl rfl rfl rfl ?_
        have hc9 : rwkc I Q 14 = false := by
          unfold rwkc
          simp [show ¬ I 24 14 = -1 from c17]
        rw [rwk_n hc9] at C
        exact C _ hA
      · skip
        have c17 : (I 24 14) = (-1) := Decidable.not_not.mp c17'
        refine go_s (pc' := 73) rfl rfl rfl rfl ?_
        refine go_sget (pc' := 74) (v := .ref 63) hS rfl rfl rfl (by decide) rfl rfl ?_
        refine go_s (pc' := 75) rfl rfl rfl rfl ?_
        refine go_s (pc' := 76) (st' := [.int 4, .int 14, .ref 63]) rfl rfl rfl rfl ?_
        refine go_s (pc' := 77) (st' := [.int 3, .ref 63]) rfl rfl rfl rfl ?_
        refine go_sald (pc' := 78) (q := 3) (v := .int ((rwkI I Q 14) 0 3)) hS rfl (tr_s hr (a := 63) rfl (by decide)) rfl rfl (by decide) rfl rfl ?_
        refine go_ifP (t' := 92) (pc' := 79) rfl rfl rfl (fun (c18 : ((rwkI I Q 14) 0 3) = 0) => ?_) (fun (c18 : ¬ ((rwkI I Q 14) 0 3) = 0) => ?_)
        · skip
          refine go_s (pc' := 93) (lo' := [some (.ref 62), some (.int 15)]) rfl rfl rfl rfl ?_
          refine go_s (pc' := 53) rfl rfl rfl rfl ?_
          have hc9 : rwkc I Q 14 = false := by
            unfold rwkc
            simp [show I 0 (14 / 4) = 0 from c18]
          rw [rwk_n hc9] at C
          exact C _ hA
        · skip
          refine go_s (pc' := 80) rfl rfl rfl rfl ?_
          refine go_sget (pc' := 81) (v := .ref 63) hS rfl rfl rfl (by decide) rfl rfl ?_
          refine go_s (pc' := 82) rfl rfl rfl rfl ?_
          refine go_s (pc' := 83) (st' := [.int 4, .int 14, .ref 63]) rfl rfl rfl rfl ?_
          refine go_s (pc' := 84) (st' := [.int 2, .ref 63]) rfl rfl rfl rfl ?_
          refine go_sald (pc' := 85) (q := 2) (v := .int ((rwkI I Q 14) 0 2)) hS rfl (tr_s hr (a := 63) rfl (by decide)) rfl rfl (by decide) rfl rfl ?_
          refine go_ifP (t' := 92) (pc' := 86) rfl rfl rfl (fun (c19 : ((rwkI I Q 14) 0 2) = 0) => ?_) (fun (c19 : ¬ ((rwkI I Q 14) 0 2) = 0) => ?_)
          · skip
            refine go_s (pc' := 93) (lo' := [some (.ref 62), some (.int 15)]) rfl rfl rfl rfl ?_
            refine go_s (pc' := 53) rfl rfl rfl rfl ?_
            have hc9 : rwkc I Q 14 = false := by
              unfold rwkc
              simp [show I 0 (14 % 4) = 0 from c19]
            rw [rwk_n hc9] at C
            exact C _ hA
          · skip
            refine go_s (pc' := 87) rfl rfl rfl rfl ?_
            refine go_s (pc' := 88) rfl rfl rfl rfl ?_
            refine go_sget (pc' := 89) (v := .ref 72) hS rfl rfl rfl (by decide) rfl rfl ?_
            refine go_s (pc' := 90) rfl rfl rfl rfl ?_
            refine go_sald (pc' := 91) (q := 14) (v := .int (nI (13 * x))) hS rfl (tr_s hr (a := 72) rfl (by decide)) rfl rfl (by decide) (congrArg Value.int h53) rfl ?_
            have hU20 : RU w B R [] true h am ln K ((rwkI I Q 14), Q, Z) := RU_I (sm_e_refl (tbr am (13 * ln) 77 5088) _) (I' := (rwkI I Q 14)) (fun _ => rfl) (fun _ => rfl) (Nat.le_refl _) hU
            refine go_callV (pc' := 92) rfl rfl rfl (Nat.le_of_ble_eq_true rfl) rfl (sm_o hS rfl) rfl rfl rfl (rt_boards_1 hr hS hW hWm (m := 13 * x) (by omega) (by omega) (hk3.trans (rwk_at.trans hb25)) (by omega)) (fun r h21 q22 => ?_)
            obtain ⟨rfl, hS23, hE24⟩ := q22
            rw [show nxb (jn (rwkI I Q 14) K) 1 = nxb I 1 from rwk_nb (Q := Q) (n := 14)] at hS23
            refine go_s (pc' := 93) (lo' := [some (.ref 62), some (.int 15)]) rfl rfl rfl rfl ?_
            refine go_s (pc' := 53) rfl rfl rfl rfl ?_
            by_cases hnb : nxb I 1 = -1
            · rw [if_pos hnb] at hS23
              have hc9 : rwkc I Q 14 = false := by
                unfold rwkc
                rw [hb25]
                simp [hnb]
              rw [rwk_n hc9] at C
              exact C _ (RA_u.mpr ⟨K, Y, am, ln, hS23, RU_I hE24 (fun _ => rfl) (fun _ => rfl) (Nat.le_refl _) hU20⟩)
            · rw [if_neg hnb] at hS23
              have hc9 : rwkc I Q 14 = true := by
                unfold rwkc
                rw [hQ, hb25]
                simp [hnb, show I 24 14 = -1 from c17, show ¬ I 0 (14 / 4) = 0 from c18, show ¬ I 0 (14 % 4) = 0 from c19]
              rw [rwk_y hc9, hb25] at C
              rw [jn_hi (c := 50) (by decide), jn_hi (c := 50) (by decide)] at hS23
              exact C _ (RA_u.mpr ⟨_, Y, am, ln, sm_jg hr hS23 (fun c j _ n1 n2 _ => (uI_c n2).trans (uI_c n1)), RU_bus (by decide) hU20 hln hE24 hQ h53 hx (fun i hi => by rw [uI_c (by decide), uI_j hi]) (fun i hi => by rw [uI_j hi, uI_c (by decide)]) rfl (fun c j _ hc => by
                simp only [uI]
                rw [if_neg (fun z => hc ⟨z.1, Or.inr z.2⟩), if_neg (fun z => hc ⟨z.1, Or.inl z.2⟩)]) (by rw [uI_j (by omega), uI_s, uI_c (by decide), uI_s]) (by rw [uI_s, uI_s])⟩)
theorem stW_15 {w : Nat → Bool} {d B R : Nat} {h : am_Hp} {I : sm_I} {Q : mQ} {Z : mZ} {P : Option Value → am_Hp → Prop} (hA : RA w B R [] true h (rwkI I Q 15, Q, Z)) (hR : R + 0 < 40000) (htri : tri (I 25 15)) (hd : 2 ≤ d) (C : ∀ h', RA w B (R + 0) [] true h' (rwkI I Q 16, Q, Z) → am_Go (am_prog w) d am_c168 (some .int) 53 [some (.ref 62), some (.int 16)] [] h' P) : am_Go (am_prog w) d am_c168 (some .int) 53 [some (.ref 62), some (.int 15)] [] h P := by
  obtain ⟨K, Y, am, ln, hS, hU⟩ := RA_u.mp hA
  change sm (tbr am (13 * ln) 77 5088) h (jn (rwkI I Q 15) K) Y at hS
  obtain ⟨hW, hWm, -, -, hr, -⟩ := id hU.1
  have hln := RU_ln hU (by omega)
  cases hQ : Q 15 with
  | nil =>
    have h55 : K 55 15 = 0 := by
      have z := (RU_lk (l := 15) hU (by decide)).1
      rw [hQ] at z
      exact z
    refine go_s (pc' := 54) rfl rfl rfl rfl ?_
    refine go_s (pc' := 55) (st' := [.int 16, .int 15]) rfl rfl rfl rfl ?_
    refine go_icmpP (t' := 94) (pc' := 56) rfl rfl rfl (fun (c : 16 ≤ (15 : Int32)) => absurd c (by decide)) (fun _ => ?_)
    refine go_s (pc' := 57) rfl rfl rfl rfl ?_
    refine go_sget (pc' := 58) (v := .ref 74) hS rfl rfl rfl (by decide) rfl rfl ?_
    refine go_s (pc' := 59) rfl rfl rfl rfl ?_
    refine go_sald (pc' := 60) (q := 15) (v := .int 0) hS rfl (tr_s hr (a := 74) rfl (by decide)) rfl rfl (by decide) (congrArg Value.int h55) rfl ?_
    refine go_ifP (t' := 92) (pc' := 61) rfl rfl rfl (fun _ => ?_) (fun (c : ¬ ((0 : Int32) ≤ 0)) => absurd (by decide) c)
    refine go_s (pc' := 93) (lo' := [some (.ref 62), some (.int 16)]) rfl rfl rfl rfl ?_
    refine go_s (pc' := 53) rfl rfl rfl rfl ?_
    have hc9 : rwkc I Q 15 = false := by
      unfold rwkc
      rw [hQ]
      rfl
    rw [rwk_n hc9] at C
    exact C _ hA
  | cons m q =>
    obtain ⟨hk55, hle, hxx⟩ := RU_lk (l := 15) hU (by decide)
    obtain ⟨x, h53, hx, hk2, hk3, hk0, hk1⟩ := hxx m q hQ
    rw [hQ] at hk55 hle
    have h55 : K 55 15 = nI (q.length + 1) := hk55
    have hle2 : q.length + 1 ≤ ln := hle
    rcases htri with hb25 | hb25 | hb25
    · skip
      refine go_s (pc' := 54) rfl rfl rfl rfl ?_
      refine go_s (pc' := 55) (st' := [.int 16, .int 15]) rfl rfl rfl rfl ?_
      refine go_icmpP (t' := 94) (pc' := 56) rfl rfl rfl (fun (c : 16 ≤ (15 : Int32)) => absurd c (by decide)) (fun _ => ?_)
      refine go_s (pc' := 57) rfl rfl rfl rfl ?_
      refine go_sget (pc' := 58) (v := .ref 74) hS rfl rfl rfl (by decide) rfl rfl ?_
      refine go_s (pc' := 59) rfl rfl rfl rfl ?_
      refine go_sald (pc' := 60) (q := 15) (v := .int (nI (q.length + 1))) hS rfl (tr_s hr (a := 74) rfl (by decide)) rfl rfl (by decide) (congrArg Value.int h55) rfl ?_
      refine go_ifP (t' := 92) (pc' := 61) rfl rfl rfl (fun (c : (nI (q.length + 1)) ≤ 0) => absurd c (nI_p1 (by omega))) (fun _ => ?_)
      refine go_s (pc' := 62) rfl rfl rfl rfl ?_
      refine go_sget (pc' := 63) (v := .ref am) hS rfl rfl rfl (by decide) rfl rfl ?_
      refine go_s (pc' := 64) rfl rfl rfl rfl ?_
      refine go_sget (pc' := 65) (v := .ref 72) hS rfl rfl rfl (by decide) rfl rfl ?_
      refine go_s (pc' := 66) rfl rfl rfl rfl ?_
      refine go_sald (pc' := 67) (q := 15) (v := .int (nI (13 * x))) hS rfl (tr_s hr (a := 72) rfl (by decide)) rfl rfl (by decide) (congrArg Value.int h53) rfl ?_
      refine go_s (pc' := 68) (st' := [.int 2, .int (nI (13 * x)), .ref am]) rfl rfl rfl rfl ?_
      refine go_nadd (pc' := 69) (a := (13 * x)) (b := 2) rfl rfl rfl rfl rfl ?_
      refine go_sald (pc' := 70) (q := ((13 * x) + 2)) (v := .int (I 24 15)) hS rfl (tr_ms hr (by omega)) rfl rfl (by omega) (congrArg Value.int (hk2.trans rwk_at)) rfl ?_
      refine go_s (pc' := 71) (st' := [.int (-1), .int (I 24 15)]) rfl rfl rfl rfl ?_
      refine go_icmpP (t' := 92) (pc' := 72) rfl rfl rfl (fun (c1 : ¬ (I 24 15) = (-1)) => ?_) (fun (c1' : ¬ ¬ (I 24 15) = (-1)) => ?_)
      · skip
        refine go_s (pc' := 93) (lo' := [some (.ref 62), some (.int 16)]) rfl rfl rfl rfl ?_
        refine go_s (pc' := 53) rfl rfl rfl rfl ?_
        have hc9 : rwkc I Q 15 = false := by
          unfold rwkc
          simp [show ¬ I 24 15 = -1 from c1]
        rw [rwk_n hc9] at C
        exact C _ hA
      · skip
        have c1 : (I 24 15) = (-1) := Decidable.not_not.mp c1'
        refine go_s (pc' := 73) rfl rfl rfl rfl ?_
        refine go_sget (pc' := 74) (v := .ref 63) hS rfl rfl rfl (by decide) rfl rfl ?_
        refine go_s (pc' := 75) rfl rfl rfl rfl ?_
        refine go_s (pc' := 76) (st' := [.int 4, .int 15, .ref 63]) rfl rfl rfl rfl ?_
        refine go_s (pc' := 77) (st' := [.int 3, .ref 63]) rfl rfl rfl rfl ?_
        refine go_sald (pc' := 78) (q := 3) (v := .int ((rwkI I Q 15) 0 3)) hS rfl (tr_s hr (a := 63) rfl (by decide)) rfl rfl (by decide) rfl rfl ?_
        refine go_ifP (t' := 92) (pc' := 79) rfl rfl rfl (fun (c2 : ((rwkI I Q 15) 0 3) = 0) => ?_) (fun (c2 : ¬ ((rwkI I Q 15) 0 3) = 0) => ?_)
        · skip
          refine go_s (pc' := 93) (lo' := [some (.ref 62), some (.int 16)]) rfl rfl rfl rfl ?_
          refine go_s (pc' := 53) rfl rfl rfl rfl ?_
          have hc9 : rwkc I Q 15 = false := by
            unfold rwkc
            simp [show I 0 (15 / 4) = 0 from c2]
          rw [rwk_n hc9] at C
          exact C _ hA
        · skip
          refine go_s (pc' := 80) rfl rfl rfl rfl ?_
          refine go_sget (pc' := 81) (v := .ref 63) hS rfl rfl rfl (by decide) rfl rfl ?_
          refine go_s (pc' := 82) rfl rfl rfl rfl ?_
          refine go_s (pc' := 83) (st' := [.int 4, .int 15, .ref 63]) rfl rfl rfl rfl ?_
          refine go_s (pc' := 84) (st' := [.int 3, .ref 63]) rfl rfl rfl rfl ?_
          refine go_sald (pc' := 85) (q := 3) (v := .int ((rwkI I Q 15) 0 3)) hS rfl (tr_s hr (a := 63) rfl (by decide)) rfl rfl (by decide) rfl rfl ?_
          refine go_ifP (t' := 92) (pc' := 86) rfl rfl rfl (fun (c : ((rwkI I Q 15) 0 3) = 0) => absurd c c2) (fun _ => ?_)
          refine go_s (pc' := 87) rfl rfl rfl rfl ?_
          refine go_s (pc' := 88) rfl rfl rfl rfl ?_
          refine go_sget (pc' := 89) (v := .ref 72) hS rfl rfl rfl (by decide) rfl rfl ?_
          refine go_s (pc' := 90) rfl rfl rfl rfl ?_
          refine go_sald (pc' := 91) (q := 15) (v := .int (nI (13 * x))) hS rfl (tr_s hr (a := 72) rfl (by decide)) rfl rfl (by decide) (congrArg Value.int h53) rfl ?_
          have hU3 : RU w B R [] true h am ln K ((rwkI I Q 15), Q, Z) := RU_I (sm_e_refl (tbr am (13 * ln) 77 5088) _) (I' := (rwkI I Q 15)) (fun _ => rfl) (fun _ => rfl) (Nat.le_refl _) hU
          refine go_callV (pc' := 92) rfl rfl rfl (Nat.le_of_ble_eq_true rfl) rfl (sm_o hS rfl) rfl rfl rfl (rt_boards_m hr hS hW hWm (m := 13 * x) (by omega) (by omega) (hk3.trans (rwk_at.trans hb25)) (by omega)) (fun r h4 q5 => ?_)
          obtain ⟨rfl, hS6, hE7⟩ := q5
          rw [show nxb (jn (rwkI I Q 15) K) (-1) = nxb I (-1) from rwk_nb (Q := Q) (n := 15)] at hS6
          refine go_s (pc' := 93) (lo' := [some (.ref 62), some (.int 16)]) rfl rfl rfl rfl ?_
          refine go_s (pc' := 53) rfl rfl rfl rfl ?_
          by_cases hnb : nxb I (-1) = -1
          · rw [if_pos hnb] at hS6
            have hc9 : rwkc I Q 15 = false := by
              unfold rwkc
              rw [hb25]
              simp [hnb]
            rw [rwk_n hc9] at C
            exact C _ (RA_u.mpr ⟨K, Y, am, ln, hS6, RU_I hE7 (fun _ => rfl) (fun _ => rfl) (Nat.le_refl _) hU3⟩)
          · rw [if_neg hnb] at hS6
            have hc9 : rwkc I Q 15 = true := by
              unfold rwkc
              rw [hQ, hb25]
              simp [hnb, show I 24 15 = -1 from c1, show ¬ I 0 (15 / 4) = 0 from c2, show ¬ I 0 (15 % 4) = 0 from c2]
            rw [rwk_y hc9, hb25] at C
            rw [jn_hi (c := 50) (by decide), jn_hi (c := 50) (by decide)] at hS6
            exact C _ (RA_u.mpr ⟨_, Y, am, ln, sm_jg hr hS6 (fun c j _ n1 n2 _ => (uI_c n2).trans (uI_c n1)), RU_bus (by decide) hU3 hln hE7 hQ h53 hx (fun i hi => by rw [uI_c (by decide), uI_j hi]) (fun i hi => by rw [uI_j hi, uI_c (by decide)]) rfl (fun c j _ hc => by
              simp only [uI]
              rw [if_neg (fun z => hc ⟨z.1, Or.inr z.2⟩), if_neg (fun z => hc ⟨z.1, Or.inl z.2⟩)]) (by rw [uI_j (by omega), uI_s, uI_c (by decide), uI_s]) (by rw [uI_s, uI_s])⟩)
    · skip
      refine go_s (pc' := 54) rfl rfl rfl rfl ?_
      refine go_s (pc' := 55) (st' := [.int 16, .int 15]) rfl rfl rfl rfl ?_
      refine go_icmpP (t' := 94) (pc' := 56) rfl rfl rfl (fun (c : 16 ≤ (15 : Int32)) => absurd c (by decide)) (fun _ => ?_)
      refine go_s (pc' := 57) rfl rfl rfl rfl ?_
      refine go_sget (pc' := 58) (v := .ref 74) hS rfl rfl rfl (by decide) rfl rfl ?_
      refine go_s (pc' := 59) rfl rfl rfl rfl ?_
      refine go_sald (pc' := 60) (q := 15) (v := .int (nI (q.length + 1))) hS rfl (tr_s hr (a := 74) rfl (by decide)) rfl rfl (by decide) (congrArg Value.int h55) rfl ?_
      refine go_ifP (t' := 92) (pc' := 61) rfl rfl rfl (fun (c : (nI (q.length + 1)) ≤ 0) => absurd c (nI_p1 (by omega))) (fun _ => ?_)
      refine go_s (pc' := 62) rfl rfl rfl rfl ?_
      refine go_sget (pc' := 63) (v := .ref am) hS rfl rfl rfl (by decide) rfl rfl ?_
      refine go_s (pc' := 64) rfl rfl rfl rfl ?_
      refine go_sget (pc' := 65) (v := .ref 72) hS rfl rfl rfl (by decide) rfl rfl ?_
      refine go_s (pc' := 66) rfl rfl rfl rfl ?_
      refine go_sald (pc' := 67) (q := 15) (v := .int (nI (13 * x))) hS rfl (tr_s hr (a := 72) rfl (by decide)) rfl rfl (by decide) (congrArg Value.int h53) rfl ?_
      refine go_s (pc' := 68) (st' := [.int 2, .int (nI (13 * x)), .ref am]) rfl rfl rfl rfl ?_
      refine go_nadd (pc' := 69) (a := (13 * x)) (b := 2) rfl rfl rfl rfl rfl ?_
      refine go_sald (pc' := 70) (q := ((13 * x) + 2)) (v := .int (I 24 15)) hS rfl (tr_ms hr (by omega)) rfl rfl (by omega) (congrArg Value.int (hk2.trans rwk_at)) rfl ?_
      refine go_s (pc' := 71) (st' := [.int (-1), .int (I 24 15)]) rfl rfl rfl rfl ?_
      refine go_icmpP (t' := 92) (pc' := 72) rfl rfl rfl (fun (c8 : ¬ (I 24 15) = (-1)) => ?_) (fun (c8' : ¬ ¬ (I 24 15) = (-1)) => ?_)
      · skip
        refine go_s (pc' := 93) (lo' := [some (.ref 62), some (.int 16)]) rfl rfl rfl rfl ?_
        refine go_s (pc' := 53) rfl rfl rfl rfl ?_
        have hc9 : rwkc I Q 15 = false := by
          unfold rwkc
          simp [show ¬ I 24 15 = -1 from c8]
        rw [rwk_n hc9] at C
        exact C _ hA
      · skip
        have c8 : (I 24 15) = (-1) := Decidable.not_not.mp c8'
        refine go_s (pc' := 73) rfl rfl rfl rfl ?_
        refine go_sget (pc' := 74) (v := .ref 63) hS rfl rfl rfl (by decide) rfl rfl ?_
        refine go_s (pc' := 75) rfl rfl rfl rfl ?_
        refine go_s (pc' := 76) (st' := [.int 4, .int 15, .ref 63]) rfl rfl rfl rfl ?_
        refine go_s (pc' := 77) (st' := [.int 3, .ref 63]) rfl rfl rfl rfl ?_
        refine go_sald (pc' := 78) (q := 3) (v := .int ((rwkI I Q 15) 0 3)) hS rfl (tr_s hr (a := 63) rfl (by decide)) rfl rfl (by decide) rfl rfl ?_
        refine go_ifP (t' := 92) (pc' := 79) rfl rfl rfl (fun (c9 : ((rwkI I Q 15) 0 3) = 0) => ?_) (fun (c9 : ¬ ((rwkI I Q 15) 0 3) = 0) => ?_)
        · skip
          refine go_s (pc' := 93) (lo' := [some (.ref 62), some (.int 16)]) rfl rfl rfl rfl ?_
          refine go_s (pc' := 53) rfl rfl rfl rfl ?_
          have hc9 : rwkc I Q 15 = false := by
            unfold rwkc
            simp [show I 0 (15 / 4) = 0 from c9]
          rw [rwk_n hc9] at C
          exact C _ hA
        · skip
          refine go_s (pc' := 80) rfl rfl rfl rfl ?_
          refine go_sget (pc' := 81) (v := .ref 63) hS rfl rfl rfl (by decide) rfl rfl ?_
          refine go_s (pc' := 82) rfl rfl rfl rfl ?_
          refine go_s (pc' := 83) (st' := [.int 4, .int 15, .ref 63]) rfl rfl rfl rfl ?_
          refine go_s (pc' := 84) (st' := [.int 3, .ref 63]) rfl rfl rfl rfl ?_
          refine go_sald (pc' := 85) (q := 3) (v := .int ((rwkI I Q 15) 0 3)) hS rfl (tr_s hr (a := 63) rfl (by decide)) rfl rfl (by decide) rfl rfl ?_
          refine go_ifP (t' := 92) (pc' := 86) rfl rfl rfl (fun (c : ((rwkI I Q 15) 0 3) = 0) => absurd c c9) (fun _ => ?_)
          refine go_s (pc' := 87) rfl rfl rfl rfl ?_
          refine go_s (pc' := 88) rfl rfl rfl rfl ?_
          refine go_sget (pc' := 89) (v := .ref 72) hS rfl rfl rfl (by decide) rfl rfl ?_
          refine go_s (pc' := 90) rfl rfl rfl rfl ?_
          refine go_sald (pc' := 91) (q := 15) (v := .int (nI (13 * x))) hS rfl (tr_s hr (a := 72) rfl (by decide)) rfl rfl (by decide) (congrArg Value.int h53) rfl ?_
          have hU10 : RU w B R [] true h am ln K ((rwkI I Q 15), Q, Z) := RU_I (sm_e_refl (tbr am (13 * ln) 77 5088) _) (I' := (rwkI I Q 15)) (fun _ => rfl) (fun _ => rfl) (Nat.le_refl _) hU
          refine go_callV (pc' := 92) rfl rfl rfl (Nat.le_of_ble_eq_true rfl) rfl (sm_o hS rfl) rfl rfl rfl (rt_boards_0 hr hS hW hWm (m := 13 * x) (by omega) (by omega) (hk3.trans (rwk_at.trans hb25)) (by omega)) (fun r h11 q12 => ?_)
          obtain ⟨rfl, hS13, hE14⟩ := q12
          rw [show nxb (jn (rwkI I Q 15) K) 0 = nxb I 0 from rwk_nb (Q := Q) (n := 15)] at hS13
          refine go_s (pc' := 93) (lo' := [some (.ref 62), some (.int 16)]) rfl rfl rfl rfl ?_
          refine go_s (pc' := 53) rfl rfl rfl rfl ?_
          by_cases hnb : nxb I 0 = -1
          · rw [if_pos hnb] at hS13
            have hc9 : rwkc I Q 15 = false := by
              unfold rwkc
              rw [hb25]
              simp [hnb]
            rw [rwk_n hc9] at C
            exact C _ (RA_u.mpr ⟨K, Y, am, ln, hS13, RU_I hE14 (fun _ => rfl) (fun _ => rfl) (Nat.le_refl _) hU10⟩)
          · rw [if_neg hnb] at hS13
            have hc9 : rwkc I Q 15 = true := by
              unfold rwkc
              rw [hQ, hb25]
              simp [hnb, show I 24 15 = -1 from c8, show ¬ I 0 (15 / 4) = 0 from c9, show ¬ I 0 (15 % 4) = 0 from c9]
            rw [rwk_y hc9, hb25] at C
            rw [jn_hi (c := 50) (by decide), jn_hi (c := 50) (by decide)] at hS13
            exact C _ (RA_u.mpr ⟨_, Y, am, ln, sm_jg hr hS13 (fun c j _ n1 n2 _ => (uI_c n2).trans (uI_c n1)), RU_bus (by decide) hU10 hln hE14 hQ h53 hx (fun i hi => by rw [uI_c (by decide), uI_j hi]) (fun i hi => by rw [uI_j hi, uI_c (by decide)]) rfl (fun c j _ hc => by
              simp only [uI]
              rw [if_neg (fun z => hc ⟨z.1, Or.inr z.2⟩), if_neg (fun z => hc ⟨z.1, Or.inl z.2⟩)]) (by rw [uI_j (by omega), uI_s, uI_c (by decide), uI_s]) (by rw [uI_s, uI_s])⟩)
    · skip
      refine go_s (pc' := 54) rfl rfl rfl rfl ?_
      refine go_s (pc' := 55) (st' := [.int 16, .int 15]) rfl rfl rfl rfl ?_
      refine go_icmpP (t' := 94) (pc' := 56) rfl rfl rfl (fun (c : 16 ≤ (15 : Int32)) => absurd c (by decide)) (fun _ => ?_)
      refine go_s (pc' := 57) rfl rfl rfl rfl ?_
      refine go_sget (pc' := 58) (v := .ref 74) hS rfl rfl rfl (by decide) rfl rfl ?_
      refine go_s (pc' := 59) rfl rfl rfl rfl ?_
      refine go_sald (pc' := 60) (q := 15) (v := .int (nI (q.length + 1))) hS rfl (tr_s hr (a := 74) rfl (by decide)) rfl rfl (by decide) (congrArg Value.int h55) rfl ?_
      refine go_ifP (t' := 92) (pc' := 61) rfl rfl rfl (fun (c : (nI (q.length + 1)) ≤ 0) => absurd c (nI_p1 (by omega))) (fun _ => ?_)
      refine go_s (pc' := 62) rfl rfl rfl rfl ?_
      refine go_sget (pc' := 63) (v := .ref am) hS rfl rfl rfl (by decide) rfl rfl ?_
      refine go_s (pc' := 64) rfl rfl rfl rfl ?_
      refine go_sget (pc' := 65) (v := .ref 72) hS rfl rfl rfl (by decide) rfl rfl ?_
      refine go_s (pc' := 66) rfl rfl rfl rfl ?_
      refine go_sald (pc' := 67) (q := 15) (v := .int (nI (13 * x))) hS rfl (tr_s hr (a := 72) rfl (by decide)) rfl rfl (by decide) (congrArg Value.int h53) rfl ?_
      refine go_s (pc' := 68) (st' := [.int 2, .int (nI (13 * x)), .ref am]) rfl rfl rfl rfl ?_
      refine go_nadd (pc' := 69) (a := (13 * x)) (b := 2) rfl rfl rfl rfl rfl ?_
      refine go_sald (pc' := 70) (q := ((13 * x) + 2)) (v := .int (I 24 15)) hS rfl (tr_ms hr (by omega)) rfl rfl (by omega) (congrArg Value.int (hk2.trans rwk_at)) rfl ?_
      refine go_s (pc' := 71) (st' := [.int (-1), .int (I 24 15)]) rfl rfl rfl rfl ?_
      refine go_icmpP (t' := 92) (pc' := 72) rfl rfl rfl (fun (c15 : ¬ (I 24 15) = (-1)) => ?_) (fun (c15' : ¬ ¬ (I 24 15) = (-1)) => ?_)
      · skip
        refine go_s (pc' := 93) (lo' := [some (.ref 62), some (.int 16)]) rfl rfl rfl rfl ?_
        refine go_s (pc' := 53) rfl rfl rfl rfl ?_
        have hc9 : rwkc I Q 15 = false := by
          unfold rwkc
          simp [show ¬ I 24 15 = -1 from c15]
        rw [rwk_n hc9] at C
        exact C _ hA
      · skip
        have c15 : (I 24 15) = (-1) := Decidable.not_not.mp c15'
        refine go_s (pc' := 73) rfl rfl rfl rfl ?_
        refine go_sget (pc' := 74) (v := .ref 63) hS rfl rfl rfl (by decide) rfl rfl ?_
        refine go_s (pc' := 75) rfl rfl rfl rfl ?_
        refine go_s (pc' := 76) (st' := [.int 4, .int 15, .ref 63]) rfl rfl rfl rfl ?_
        refine go_s (pc' := 77) (st' := [.int 3, .ref 63]) rfl rfl rfl rfl ?_
        refine go_sald (pc' := 78) (q := 3) (v := .int ((rwkI I Q 15) 0 3)) hS rfl (tr_s hr (a := 63) rfl (by decide)) rfl rfl (by decide) rfl rfl ?_
        refine go_ifP (t' := 92) (pc' := 79) rfl rfl rfl (fun (c16 : ((rwkI I Q 15) 0 3) = 0) => ?_) (fun (c16 : ¬ ((rwkI I Q 15) 0 3) = 0) => ?_)
        · skip
          refine go_s (pc' := 93) (lo' := [some (.ref 62), some (.int 16)]) rfl rfl rfl rfl ?_
          refine go_s (pc' := 53) rfl rfl rfl rfl ?_
          have hc9 : rwkc I Q 15 = false := by
            unfold rwkc
            simp [show I 0 (15 / 4) = 0 from c16]
          rw [rwk_n hc9] at C
          exact C _ hA
        · skip
          refine go_s (pc' := 80) rfl rfl rfl rfl ?_
          refine go_sget (pc' := 81) (v := .ref 63) hS rfl rfl rfl (by decide) rfl rfl ?_
          refine go_s (pc' := 82) rfl rfl rfl rfl ?_
          refine go_s (pc' := 83) (st' := [.int 4, .int 15, .ref 63]) rfl rfl rfl rfl ?_
          refine go_s (pc' := 84) (st' := [.int 3, .ref 63]) rfl rfl rfl rfl ?_
          refine go_sald (pc' := 85) (q := 3) (v := .int ((rwkI I Q 15) 0 3)) hS rfl (tr_s hr (a := 63) rfl (by decide)) rfl rfl (by decide) rfl rfl ?_
          refine go_ifP (t' := 92) (pc' := 86) rfl rfl rfl (fun (c : ((rwkI I Q 15) 0 3) = 0) => absurd c c16) (fun _ => ?_)
          refine go_s (pc' := 87) rfl rfl rfl rfl ?_
          refine go_s (pc' := 88) rfl rfl rfl rfl ?_
          refine go_sget (pc' := 89) (v := .ref 72) hS rfl rfl rfl (by decide) rfl rfl ?_
          refine go_s (pc' := 90) rfl rfl rfl rfl ?_
          refine go_sald (pc' := 91) (q := 15) (v := .int (nI (13 * x))) hS rfl (tr_s hr (a := 72) rfl (by decide)) rfl rfl (by decide) (congrArg Value.int h53) rfl ?_
          have hU17 : RU w B R [] true h am ln K ((rwkI I Q 15), Q, Z) := RU_I (sm_e_refl (tbr am (13 * ln) 77 5088) _) (I' := (rwkI I Q 15)) (fun _ => rfl) (fun _ => rfl) (Nat.le_refl _) hU
          refine go_callV (pc' := 92) rfl rfl rfl (Nat.le_of_ble_eq_true rfl) rfl (sm_o hS rfl) rfl rfl rfl (rt_boards_1 hr hS hW hWm (m := 13 * x) (by omega) (by omega) (hk3.trans (rwk_at.trans hb25)) (by omega)) (fun r h18 q19 => ?_)
          obtain ⟨rfl, hS20, hE21⟩ := q19
          rw [show nxb (jn (rwkI I Q 15) K) 1 = nxb I 1 from rwk_nb (Q := Q) (n := 15)] at hS20
          refine go_s (pc' := 93) (lo' := [some (.ref 62), some (.int 16)]) rfl rfl rfl rfl ?_
          refine go_s (pc' := 53) rfl rfl rfl rfl ?_
          by_cases hnb : nxb I 1 = -1
          · rw [if_pos hnb] at hS20
            have hc9 : rwkc I Q 15 = false := by
              unfold rwkc
              rw [hb25]
              simp [hnb]
            rw [rwk_n hc9] at C
            exact C _ (RA_u.mpr ⟨K, Y, am, ln, hS20, RU_I hE21 (fun _ => rfl) (fun _ => rfl) (Nat.le_refl _) hU17⟩)
          · rw [if_neg hnb] at hS20
            have hc9 : rwkc I Q 15 = true := by
              unfold rwkc
              rw [hQ, hb25]
              simp [hnb, show I 24 15 = -1 from c15, show ¬ I 0 (15 / 4) = 0 from c16, show ¬ I 0 (15 % 4) = 0 from c16]
            rw [rwk_y hc9, hb25] at C
            rw [jn_hi (c := 50) (by decide), jn_hi (c := 50) (by decide)] at hS20
            exact C _ (RA_u.mpr ⟨_, Y, am, ln, sm_jg hr hS20 (fun c j _ n1 n2 _ => (uI_c n2).trans (uI_c n1)), RU_bus (by decide) hU17 hln hE21 hQ h53 hx (fun i hi => by rw [uI_c (by decide), uI_j hi]) (fun i hi => by rw [uI_j hi, uI_c (by decide)]) rfl (fun c j _ hc => by
              simp only [uI]
              rw [if_neg (fun z => hc ⟨z.1, Or.inr z.2⟩), if_neg (fun z => hc ⟨z.1, Or.inl z.2⟩)]) (by rw [uI_j (by omega), uI_s, uI_c (by decide), uI_s]) (by rw [uI_s, uI_s])⟩)
theorem ra_tk {w : Nat → Bool} {d B R : Nat} {h : am_Hp} {I : sm_I} {Q : mQ} {Z : mZ} (hA : RA w B R [] true h (I, Q, Z)) (hR : R + 80 < 40000) {X : Nat} (hV : XV X (I, Q, Z)) (hX : X + 600 < 2 ^ 28) (hd : 12 ≤ d) : am_Ev (am_prog w) d 168 [.ref 62] h (fun r h' => r = some (.int ((rtk (I, Q, Z)).1 8 0)) ∧ RA w B (R + 27) [] true h' (rtk (I, Q, Z))) := by
  obtain ⟨K, Y, am, ln, hS, hU⟩ := RA_u.mp hA
  change sm (tbr am (13 * ln) 77 5088) h (jn I K) Y at hS
  obtain ⟨hW, hWm, -, -, hr, -⟩ := id hU.1
  have hln := RU_ln hU (by omega)
  obtain ⟨d, rfl⟩ : ∃ e, d = e + 1 := ⟨d - 1, by omega⟩
  refine ev_go rfl (Nat.le_of_ble_eq_true rfl) rfl ?_
  refine go_s (pc' := 1) rfl rfl rfl rfl ?_
  refine go_s (pc' := 2) rfl rfl rfl rfl ?_
  refine go_sget (pc' := 3) (v := .int (I 8 0)) hS rfl rfl rfl (by decide) rfl rfl ?_
  refine go_s (pc' := 4) (st' := [.int 1, .int (I 8 0), .ref 62]) rfl rfl rfl rfl ?_
  refine go_s (pc' := 5) rfl rfl rfl rfl ?_
  refine go_sput (pc' := 6) hS rfl rfl rfl (by decide) tbr_inj (Nat.le_of_ble_eq_true rfl) rfl (hW _ (by decide) (by decide)) rfl (fun h1 hS2 hE3 => ?_)
  refine go_s (pc' := 7) (st' := [.int 0]) rfl rfl rfl rfl ?_
  refine go_s (pc' := 8) (lo' := [some (.ref 62), some (.int 0)]) rfl rfl rfl rfl ?_
  change sm (tbr am (13 * ln) 77 5088) _ (uI (jn I K) 8 0 ((I 8 0) + 1)) Y at hS2
  rw [jn_lo (c := 8) (by decide)] at hS2
  have hU4 : RU w B R [] true h1 am ln K ((uI I 8 0 ((I 8 0) + 1)), Q, Z) := RU_I (hE3) (I' := (uI I 8 0 ((I 8 0) + 1))) (fun _ => rfl) (fun _ => rfl) (Nat.le_refl _) hU
  have hA5 : RA w B R [] true h1 ((uI I 8 0 ((I 8 0) + 1)), Q, Z) := RA_u.mpr ⟨_, _, _, _, hS2, hU4⟩
  have hV6 : XV X ((uI I 8 0 ((I 8 0) + 1)), Q, Z) := ⟨INV_8 hV.1, hV.2⟩
  refine stT_0 hA5 (by omega) hV6 (by omega) (by omega) (fun h7 hA8 => ?_)
  obtain ⟨M9, eM9⟩ : ∃ y : mM, y = (rtk1 0 ((uI I 8 0 ((I 8 0) + 1)), Q, Z)) := ⟨_, rfl⟩
  rw [← eM9] at hA8
  obtain ⟨I9, Q9, Z9⟩ := M9
  obtain ⟨K9, Y9, am9, ln9, hS9, hU9⟩ := RA_u.mp hA8
  change sm (tbr am9 (13 * ln9) 77 5088) h7 (jn I9 K9) Y9 at hS9
  obtain ⟨-, hWm9, -, -, hr9, -⟩ := id hU9.1
  have hln9 := RU_ln hU9 (by omega)
  have hV10 : XV (X + 44) (I9, Q9, Z9) := by
    have z := TK (p := 0) (by omega) hV6.1 hV6.2.1 hV6.2.2 (by decide)
    rw [← z.1] at z
    rw [eM9]
    exact ⟨z.2.1, z.2.2.1, z.2.2.2.1⟩
  refine stT_1 hA8 (by omega) hV10 (by omega) (by omega) (fun h11 hA12 => ?_)
  obtain ⟨M13, eM13⟩ : ∃ y : mM, y = (rtk1 1 (I9, Q9, Z9)) := ⟨_, rfl⟩
  rw [← eM13] at hA12
  obtain ⟨I13, Q13, Z13⟩ := M13
  obtain ⟨K13, Y13, am13, ln13, hS13, hU13⟩ := RA_u.mp hA12
  change sm (tbr am13 (13 * ln13) 77 5088) h11 (jn I13 K13) Y13 at hS13
  obtain ⟨-, hWm13, -, -, hr13, -⟩ := id hU13.1
  have hln13 := RU_ln hU13 (by omega)
  have hV14 : XV (X + 88) (I13, Q13, Z13) := by
    have z := TK (p := 1) (by omega) hV10.1 hV10.2.1 hV10.2.2 (by decide)
    rw [← z.1] at z
    rw [eM13]
    exact ⟨z.2.1, z.2.2.1, z.2.2.2.1⟩
  refine stT_2 hA12 (by omega) hV14 (by omega) (by omega) (fun h15 hA16 => ?_)
  obtain ⟨M17, eM17⟩ : ∃ y : mM, y = (rtk1 2 (I13, Q13, Z13)) := ⟨_, rfl⟩
  rw [← eM17] at hA16
  obtain ⟨I17, Q17, Z17⟩ := M17
  obtain ⟨K17, Y17, am17, ln17, hS17, hU17⟩ := RA_u.mp hA16
  change sm (tbr am17 (13 * ln17) 77 5088) h15 (jn I17 K17) Y17 at hS17
  obtain ⟨-, hWm17, -, -, hr17, -⟩ := id hU17.1
  have hln17 := RU_ln hU17 (by omega)
  have hV18 : XV (X + 132) (I17, Q17, Z17) := by
    have z := TK (p := 2) (by omega) hV14.1 hV14.2.1 hV14.2.2 (by decide)
    rw [← z.1] at z
    rw [eM17]
    exact ⟨z.2.1, z.2.2.1, z.2.2.2.1⟩
  refine stT_3 hA16 (by omega) hV18 (by omega) (by omega) (fun h19 hA20 => ?_)
  obtain ⟨M21, eM21⟩ : ∃ y : mM, y = (rtk1 3 (I17, Q17, Z17)) := ⟨_, rfl⟩
  rw [← eM21] at hA20
  obtain ⟨I21, Q21, Z21⟩ := M21
  obtain ⟨K21, Y21, am21, ln21, hS21, hU21⟩ := RA_u.mp hA20
  change sm (tbr am21 (13 * ln21) 77 5088) h19 (jn I21 K21) Y21 at hS21
  obtain ⟨-, hWm21, -, -, hr21, -⟩ := id hU21.1
  have hln21 := RU_ln hU21 (by omega)
  have hV22 : XV (X + 176) (I21, Q21, Z21) := by
    have z := TK (p := 3) (by omega) hV18.1 hV18.2.1 hV18.2.2 (by decide)
    rw [← z.1] at z
    rw [eM21]
    exact ⟨z.2.1, z.2.2.1, z.2.2.2.1⟩
  refine go_s (pc' := 9) rfl rfl rfl rfl ?_
  refine go_s (pc' := 10) (st' := [.int 4, .int 4]) rfl rfl rfl rfl ?_
  refine go_icmpP (t' := 51) (pc' := 11) rfl rfl rfl (fun _ => ?_) (fun (c : ¬ (4 ≤ (4 : Int32))) => absurd (by decide) c)
  refine go_s (pc' := 52) (st' := [.int 0]) rfl rfl rfl rfl ?_
  refine go_s (pc' := 53) (lo' := [some (.ref 62), some (.int 0)]) rfl rfl rfl rfl ?_
  have hA23 : RA w B ((((R + 6) + 6) + 6) + 6) [] true h19 (rwkI I21 Q21 0, Q21, Z21) := by
    rw [rwk_0]
    exact hA20
  refine stW_0 hA23 (by omega) (hV22.1.1.2.2.2.2.2.1 0 (by decide)).2.2.2.1 (by omega) (fun h24 hA25 => ?_)
  refine stW_1 hA25 (by omega) (hV22.1.1.2.2.2.2.2.1 1 (by decide)).2.2.2.1 (by omega) (fun h26 hA27 => ?_)
  refine stW_2 hA27 (by omega) (hV22.1.1.2.2.2.2.2.1 2 (by decide)).2.2.2.1 (by omega) (fun h28 hA29 => ?_)
  refine stW_3 hA29 (by omega) (hV22.1.1.2.2.2.2.2.1 3 (by decide)).2.2.2.1 (by omega) (fun h30 hA31 => ?_)
  refine stW_4 hA31 (by omega) (hV22.1.1.2.2.2.2.2.1 4 (by decide)).2.2.2.1 (by omega) (fun h32 hA33 => ?_)
  refine stW_5 hA33 (by omega) (hV22.1.1.2.2.2.2.2.1 5 (by decide)).2.2.2.1 (by omega) (fun h34 hA35 => ?_)
  refine stW_6 hA35 (by omega) (hV22.1.1.2.2.2.2.2.1 6 (by decide)).2.2.2.1 (by omega) (fun h36 hA37 => ?_)
  refine stW_7 hA37 (by omega) (hV22.1.1.2.2.2.2.2.1 7 (by decide)).2.2.2.1 (by omega) (fun h38 hA39 => ?_)
  refine stW_8 hA39 (by omega) (hV22.1.1.2.2.2.2.2.1 8 (by decide)).2.2.2.1 (by omega) (fun h40 hA41 => ?_)
  refine stW_9 hA41 (by omega) (hV22.1.1.2.2.2.2.2.1 9 (by decide)).2.2.2.1 (by omega) (fun h42 hA43 => ?_)
  refine stW_10 hA43 (by omega) (hV22.1.1.2.2.2.2.2.1 10 (by decide)).2.2.2.1 (by omega) (fun h44 hA45 => ?_)
  refine stW_11 hA45 (by omega) (hV22.1.1.2.2.2.2.2.1 11 (by decide)).2.2.2.1 (by omega) (fun h46 hA47 => ?_)
  refine stW_12 hA47 (by omega) (hV22.1.1.2.2.2.2.2.1 12 (by decide)).2.2.2.1 (by omega) (fun h48 hA49 => ?_)
  refine stW_13 hA49 (by omega) (hV22.1.1.2.2.2.2.2.1 13 (by decide)).2.2.2.1 (by omega) (fun h50 hA51 => ?_)
  refine stW_14 hA51 (by omega) (hV22.1.1.2.2.2.2.2.1 14 (by decide)).2.2.2.1 (by omega) (fun h52 hA53 => ?_)
  refine stW_15 hA53 (by omega) (hV22.1.1.2.2.2.2.2.1 15 (by decide)).2.2.2.1 (by omega) (fun h54 hA55 => ?_)
  have hwk : ((rwkI I21 Q21 16, Q21, Z21) : mM) = mwk (I21, Q21, Z21) := e_wk hV22.1
  obtain ⟨M56, eM56⟩ : ∃ y : mM, y = ((rwkI I21 Q21 16, Q21, Z21) : mM) := ⟨_, rfl⟩
  rw [← eM56] at hA55
  obtain ⟨I56, Q56, Z56⟩ := M56
  obtain ⟨K56, Y56, am56, ln56, hS56, hU56⟩ := RA_u.mp hA55
  change sm (tbr am56 (13 * ln56) 77 5088) h54 (jn I56 K56) Y56 at hS56
  obtain ⟨-, hWm56, -, -, hr56, -⟩ := id hU56.1
  have hln56 := RU_ln hU56 (by omega)
  have hI57 : INV (X + 176) (I56, Q56, Z56) ∧ KD I56 := by
    have z := INV_wk hV22.1
    rw [← hwk] at z
    have z2 : KD ((rwkI I21 Q21 16, Q21, Z21) : mM).1 := KD_c (I := I21) (rwk_o (I := I21) (Q := Q21) (n := 16) (c := 1) (by decide) (by decide)) (rwk_o (I := I21) (Q := Q21) (n := 16) (c := 11) (by decide) (by decide)) (rwk_o (I := I21) (Q := Q21) (n := 16) (c := 12) (by decide) (by decide)) (rwk_o (I := I21) (Q := Q21) (n := 16) (c := 13) (by decide) (by decide)) hV22.2.1
    rw [← eM56] at z z2
    exact ⟨z, z2⟩
  refine go_s (pc' := 54) rfl rfl rfl rfl ?_
  refine go_s (pc' := 55) (st' := [.int 16, .int 16]) rfl rfl rfl rfl ?_
  refine go_icmpP (t' := 94) (pc' := 56) rfl rfl rfl (fun _ => ?_) (fun (c : ¬ (16 ≤ (16 : Int32))) => absurd (by decide) c)
  refine go_s (pc' := 95) (st' := [.int 0]) rfl rfl rfl rfl ?_
  refine go_s (pc' := 96) (lo' := [some (.ref 62), some (.int 0)]) rfl rfl rfl rfl ?_
  refine go_s (pc' := 97) rfl rfl rfl rfl ?_
  refine go_s (pc' := 98) (st' := [.int 3, .int 0]) rfl rfl rfl rfl ?_
  refine go_icmpP (t' := 104) (pc' := 99) rfl rfl rfl (fun (c : 3 ≤ (0 : Int32)) => absurd c (by decide)) (fun _ => ?_)
  refine go_s (pc' := 100) rfl rfl rfl rfl ?_
  refine go_s (pc' := 101) rfl rfl rfl rfl ?_
  have hU58 : RU w B ((((R + 6) + 6) + 6) + 6) [] true h54 am56 ln56 K56 (I56, Q56, Z56) := RU_I (sm_e_refl (tbr am56 (13 * ln56) 77 5088) _) (I' := I56) (fun _ => rfl) (fun _ => rfl) (Nat.le_refl _) hU56
  have hA59 : RA w B ((((R + 6) + 6) + 6) + 6) [] true h54 (I56, Q56, Z56) := RA_u.mpr ⟨_, _, _, _, hS56, hU58⟩
  refine go_callV (pc' := 102) rfl rfl rfl (Nat.le_of_ble_eq_true rfl) rfl (sm_o hS56 rfl) rfl rfl rfl (ra_rs_0 hA59 (by omega) hI57.1.1 (by omega) (by omega)) (fun r h60 q61 => ?_)
  obtain ⟨rfl, hA62⟩ := q61
  change RA w B (((((R + 6) + 6) + 6) + 6) + 1) [] true h60 (rrs 0 (I56, Q56, Z56)) at hA62
  obtain ⟨M63, eM63⟩ : ∃ y : mM, y = (rrs 0 (I56, Q56, Z56)) := ⟨_, rfl⟩
  rw [← eM63] at hA62
  obtain ⟨I63, Q63, Z63⟩ := M63
  obtain ⟨K63, Y63, am63, ln63, hS63, hU63⟩ := RA_u.mp hA62
  change sm (tbr am63 (13 * ln63) 77 5088) h60 (jn I63 K63) Y63 at hS63
  obtain ⟨-, hWm63, -, -, hr63, -⟩ := id hU63.1
  have hln63 := RU_ln hU63 (by omega)
  have hI64 : INV (X + 178) (I63, Q63, Z63) ∧ KD I63 := by
    have z := INV_rs (k := 0) (by omega) hI57.1 hI57.2 (by decide)
    have z1 := z.2.1
    have z2 := z.2.2.1
    rw [← eM63] at z1 z2
    exact ⟨z1, z2⟩
  refine go_s (pc' := 103) (lo' := [some (.ref 62), some (.int 1)]) rfl rfl rfl rfl ?_
  refine go_s (pc' := 96) rfl rfl rfl rfl ?_
  refine go_s (pc' := 97) rfl rfl rfl rfl ?_
  refine go_s (pc' := 98) (st' := [.int 3, .int 1]) rfl rfl rfl rfl ?_
  refine go_icmpP (t' := 104) (pc' := 99) rfl rfl rfl (fun (c : 3 ≤ (1 : Int32)) => absurd c (by decide)) (fun _ => ?_)
  refine go_s (pc' := 100) rfl rfl rfl rfl ?_
  refine go_s (pc' := 101) rfl rfl rfl rfl ?_
  have hU65 : RU w B (((((R + 6) + 6) + 6) + 6) + 1) [] true h60 am63 ln63 K63 (I63, Q63, Z63) := RU_I (sm_e_refl (tbr am63 (13 * ln63) 77 5088) _) (I' := I63) (fun _ => rfl) (fun _ => rfl) (Nat.le_refl _) hU63
  have hA66 : RA w B (((((R + 6) + 6) + 6) + 6) + 1) [] true h60 (I63, Q63, Z63) := RA_u.mpr ⟨_, _, _, _, hS63, hU65⟩
  refine go_callV (pc' := 102) rfl rfl rfl (Nat.le_of_ble_eq_true rfl) rfl (sm_o hS63 rfl) rfl rfl rfl (ra_rs_1 hA66 (by omega) hI64.1.1 (by omega) (by omega)) (fun r h67 q68 => ?_)
  obtain ⟨rfl, hA69⟩ := q68
  change RA w B ((((((R + 6) + 6) + 6) + 6) + 1) + 1) [] true h67 (rrs 1 (I63, Q63, Z63)) at hA69
  obtain ⟨M70, eM70⟩ : ∃ y : mM, y = (rrs 1 (I63, Q63, Z63)) := ⟨_, rfl⟩
  rw [← eM70] at hA69
  obtain ⟨I70, Q70, Z70⟩ := M70
  obtain ⟨K70, Y70, am70, ln70, hS70, hU70⟩ := RA_u.mp hA69
  change sm (tbr am70 (13 * ln70) 77 5088) h67 (jn I70 K70) Y70 at hS70
  obtain ⟨-, hWm70, -, -, hr70, -⟩ := id hU70.1
  have hln70 := RU_ln hU70 (by omega)
  have hI71 : INV (X + 180) (I70, Q70, Z70) ∧ KD I70 := by
    have z := INV_rs (k := 1) (by omega) hI64.1 hI64.2 (by decide)
    have z1 := z.2.1
    have z2 := z.2.2.1
    rw [← eM70] at z1 z2
    exact ⟨z1, z2⟩
  refine go_s (pc' := 103) (lo' := [some (.ref 62), some (.int 2)]) rfl rfl rfl rfl ?_
  refine go_s (pc' := 96) rfl rfl rfl rfl ?_
  refine go_s (pc' := 97) rfl rfl rfl rfl ?_
  refine go_s (pc' := 98) (st' := [.int 3, .int 2]) rfl rfl rfl rfl ?_
  refine go_icmpP (t' := 104) (pc' := 99) rfl rfl rfl (fun (c : 3 ≤ (2 : Int32)) => absurd c (by decide)) (fun _ => ?_)
  refine go_s (pc' := 100) rfl rfl rfl rfl ?_
  refine go_s (pc' := 101) rfl rfl rfl rfl ?_
  have hU72 : RU w B ((((((R + 6) + 6) + 6) + 6) + 1) + 1) [] true h67 am70 ln70 K70 (I70, Q70, Z70) := RU_I (sm_e_refl (tbr am70 (13 * ln70) 77 5088) _) (I' := I70) (fun _ => rfl) (fun _ => rfl) (Nat.le_refl _) hU70
  have hA73 : RA w B ((((((R + 6) + 6) + 6) + 6) + 1) + 1) [] true h67 (I70, Q70, Z70) := RA_u.mpr ⟨_, _, _, _, hS70, hU72⟩
  refine go_callV (pc' := 102) rfl rfl rfl (Nat.le_of_ble_eq_true rfl) rfl (sm_o hS70 rfl) rfl rfl rfl (ra_rs_2 hA73 (by omega) hI71.1.1 (by omega) (by omega)) (fun r h74 q75 => ?_)
  obtain ⟨rfl, hA76⟩ := q75
  change RA w B (((((((R + 6) + 6) + 6) + 6) + 1) + 1) + 1) [] true h74 (rrs 2 (I70, Q70, Z70)) at hA76
  obtain ⟨M77, eM77⟩ : ∃ y : mM, y = (rrs 2 (I70, Q70, Z70)) := ⟨_, rfl⟩
  rw [← eM77] at hA76
  obtain ⟨I77, Q77, Z77⟩ := M77
  obtain ⟨K77, Y77, am77, ln77, hS77, hU77⟩ := RA_u.mp hA76
  change sm (tbr am77 (13 * ln77) 77 5088) h74 (jn I77 K77) Y77 at hS77
  obtain ⟨-, hWm77, -, -, hr77, -⟩ := id hU77.1
  have hln77 := RU_ln hU77 (by omega)
  have hI78 : INV (X + 182) (I77, Q77, Z77) ∧ KD I77 := by
    have z := INV_rs (k := 2) (by omega) hI71.1 hI71.2 (by decide)
    have z1 := z.2.1
    have z2 := z.2.2.1
    rw [← eM77] at z1 z2
    exact ⟨z1, z2⟩
  refine go_s (pc' := 103) (lo' := [some (.ref 62), some (.int 3)]) rfl rfl rfl rfl ?_
  refine go_s (pc' := 96) rfl rfl rfl rfl ?_
  refine go_s (pc' := 97) rfl rfl rfl rfl ?_
  refine go_s (pc' := 98) (st' := [.int 3, .int 3]) rfl rfl rfl rfl ?_
  refine go_icmpP (t' := 104) (pc' := 99) rfl rfl rfl (fun _ => ?_) (fun (c : ¬ (3 ≤ (3 : Int32))) => absurd (by decide) c)
  refine go_s (pc' := 105) rfl rfl rfl rfl ?_
  refine go_sget (pc' := 106) (v := .int (I77 8 0)) hS77 rfl rfl rfl (by decide) rfl rfl ?_
  refine go_ret rfl rfl ?_
  have hA79 : RA w B (((((((R + 6) + 6) + 6) + 6) + 1) + 1) + 1) [] true h74 (I77, Q77, Z77) := RA_u.mpr ⟨_, _, _, _, hS77, hU77⟩
  have hms : rtk (I, Q, Z) = (I77, Q77, Z77) := by
    rw [eM77, eM70, eM63, eM56, show ((rwkI I21 Q21 16, Q21, Z21) : mM) = rwkM (I21, Q21, Z21) from rfl, eM21, eM17, eM13, eM9]
    rfl
  rw [hms]
  exact ⟨rfl, RA_R (by omega) hA79⟩
