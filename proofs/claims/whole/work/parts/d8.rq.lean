theorem ra_sa {w : Nat → Bool} {d B R : Nat} {H : List (Nat × mg)} {hb : Bool} {h : am_Hp} {I : sm_I} {Q : mQ} {Z : mZ} (hA : RA w B R H hb h (I, Q, Z)) (hR : R + 2 < 40000) (hp0 : prk I 0) (hp1 : prk I 1) (hp2 : prk I 2) (hd : 4 ≤ d) : am_Ev (am_prog w) d 144 [.ref 62] h (fun r h' => r = none ∧ RA w B (R + 2) H hb h' (rsa (I, Q, Z))) := by
  obtain ⟨K, Y, am, ln, hS, hU⟩ := RA_u.mp hA
  change sm (tbr am (13 * ln) 77 5088) h (jn I K) Y at hS
  obtain ⟨hW, hWm, -, -, hr, -⟩ := id hU.1
  have hln := RU_ln hU (by omega)
  obtain ⟨d, rfl⟩ : ∃ e, d = e + 1 := ⟨d - 1, by omega⟩
  refine ev_go rfl (Nat.le_of_ble_eq_true rfl) rfl ?_
  refine go_s (pc' := 1) (st' := [.int 1]) rfl rfl rfl rfl ?_
  refine go_s (pc' := 2) (lo' := [some (.ref 62), some (.int 1)]) rfl rfl rfl rfl ?_
  refine go_s (pc' := 3) rfl rfl rfl rfl ?_
  refine go_s (pc' := 4) (st' := [.int 3, .int 1]) rfl rfl rfl rfl ?_
  refine go_icmpP (t' := 20) (pc' := 5) rfl rfl rfl (fun (c : 3 ≤ (1 : Int32)) => absurd c (by decide)) (fun _ => ?_)
  refine go_s (pc' := 6) rfl rfl rfl rfl ?_
  refine go_s (pc' := 7) rfl rfl rfl rfl ?_
  refine go_callV (pc' := 8) rfl rfl rfl (Nat.le_of_ble_eq_true rfl) rfl (sm_o hS rfl) rfl rfl rfl (rt_lives_1 hr hS hp1 (by omega)) (fun r h1 q2 => ?_)
  obtain ⟨rfl, rfl⟩ := q2
  rw [show lv (jn I K) 1 = lv I 1 from rfl]
  cases u3 : lv I 1
  · skip
    show am_Go _ _ _ _ 8 _ [.int 0] _ _
    refine go_ifP (t' := 18) (pc' := 9) rfl rfl rfl (fun _ => ?_) (fun (c : ¬ ((0 : Int32) = 0)) => absurd (by decide) c)
    have ms4 : rsa1 0 (I, Q, Z) = (I, Q, Z) := if_neg (fun y => by rw [show lv (I, Q, Z).1 (1 + 0) = false from u3] at y; exact absurd y.1 (by decide))
    refine go_s (pc' := 19) (lo' := [some (.ref 62), some (.int 2)]) rfl rfl rfl rfl ?_
    refine go_s (pc' := 2) rfl rfl rfl rfl ?_
    refine go_s (pc' := 3) rfl rfl rfl rfl ?_
    refine go_s (pc' := 4) (st' := [.int 3, .int 2]) rfl rfl rfl rfl ?_
    refine go_icmpP (t' := 20) (pc' := 5) rfl rfl rfl (fun (c : 3 ≤ (2 : Int32)) => absurd c (by decide)) (fun _ => ?_)
    refine go_s (pc' := 6) rfl rfl rfl rfl ?_
    refine go_s (pc' := 7) rfl rfl rfl rfl ?_
    refine go_callV (pc' := 8) rfl rfl rfl (Nat.le_of_ble_eq_true rfl) rfl (sm_o hS rfl) rfl rfl rfl (rt_lives_2 hr hS hp2 (by omega)) (fun r h5 q6 => ?_)
    obtain ⟨rfl, rfl⟩ := q6
    rw [show lv (jn I K) 2 = lv I 2 from rfl]
    cases u7 : lv I 2
    · skip
      show am_Go _ _ _ _ 8 _ [.int 0] _ _
      refine go_ifP (t' := 18) (pc' := 9) rfl rfl rfl (fun _ => ?_) (fun (c : ¬ ((0 : Int32) = 0)) => absurd (by decide) c)
      have ms8 : rsa1 1 (I, Q, Z) = (I, Q, Z) := if_neg (fun y => by rw [show lv (I, Q, Z).1 (1 + 1) = false from u7] at y; exact absurd y.1 (by decide))
      refine go_s (pc' := 19) (lo' := [some (.ref 62), some (.int 3)]) rfl rfl rfl rfl ?_
      refine go_s (pc' := 2) rfl rfl rfl rfl ?_
      refine go_s (pc' := 3) rfl rfl rfl rfl ?_
      refine go_s (pc' := 4) (st' := [.int 3, .int 3]) rfl rfl rfl rfl ?_
      refine go_icmpP (t' := 20) (pc' := 5) rfl rfl rfl (fun _ => ?_) (fun (c : ¬ (3 ≤ (3 : Int32))) => absurd (by decide) c)
      refine go_ret rfl rfl ?_
      have hA9 : RA w B R H hb h5 (I, Q, Z) := RA_u.mpr ⟨_, _, _, _, hS, hU⟩
      have hms : rsa (I, Q, Z) = (I, Q, Z) := by
        unfold rsa
        rw [ms4, ms8]
      rw [hms]
      exact ⟨rfl, RA_R (by omega) hA9⟩
    · skip
      show am_Go _ _ _ _ 8 _ [.int 1] _ _
      refine go_ifP (t' := 18) (pc' := 9) rfl rfl rfl (fun (c : (1 : Int32) = 0) => absurd c (by decide)) (fun _ => ?_)
      refine go_s (pc' := 10) rfl rfl rfl rfl ?_
      refine go_sget (pc' := 11) (v := .ref 83) hS rfl rfl rfl (by decide) rfl rfl ?_
      refine go_s (pc' := 12) rfl rfl rfl rfl ?_
      refine go_sald (pc' := 13) (q := 2) (v := .int (I 16 2)) hS rfl (tr_s hr (a := 83) rfl (by decide)) rfl rfl (by decide) rfl rfl ?_
      refine go_s (pc' := 14) (st' := [.int 2, .int (I 16 2)]) rfl rfl rfl rfl ?_
      refine go_icmpP (t' := 18) (pc' := 15) rfl rfl rfl (fun (c10 : ¬ (I 16 2) = 2) => ?_) (fun (c10' : ¬ ¬ (I 16 2) = 2) => ?_)
      · skip
        have ms11 : rsa1 1 (I, Q, Z) = (I, Q, Z) := if_neg (fun y => c10 y.2)
        refine go_s (pc' := 19) (lo' := [some (.ref 62), some (.int 3)]) rfl rfl rfl rfl ?_
        refine go_s (pc' := 2) rfl rfl rfl rfl ?_
        refine go_s (pc' := 3) rfl rfl rfl rfl ?_
        refine go_s (pc' := 4) (st' := [.int 3, .int 3]) rfl rfl rfl rfl ?_
        refine go_icmpP (t' := 20) (pc' := 5) rfl rfl rfl (fun _ => ?_) (fun (c : ¬ (3 ≤ (3 : Int32))) => absurd (by decide) c)
        refine go_ret rfl rfl ?_
        have hA12 : RA w B R H hb h5 (I, Q, Z) := RA_u.mpr ⟨_, _, _, _, hS, hU⟩
        have hms : rsa (I, Q, Z) = (I, Q, Z) := by
          unfold rsa
          rw [ms4, ms11]
        rw [hms]
        exact ⟨rfl, RA_R (by omega) hA12⟩
      · skip
        have c10 : (I 16 2) = 2 := Decidable.not_not.mp c10'
        refine go_s (pc' := 16) rfl rfl rfl rfl ?_
        refine go_s (pc' := 17) rfl rfl rfl rfl ?_
        have hn13 := (lv_up u7).1
        have hU14 : RU w B R H hb h5 am ln K (I, Q, Z) := RU_I (sm_e_refl (tbr am (13 * ln) 77 5088) _) (I' := I) (fun _ => rfl) (fun _ => rfl) (Nat.le_refl _) hU
        have hA15 : RA w B R H hb h5 (I, Q, Z) := RA_u.mpr ⟨_, _, _, _, hS, hU14⟩
        refine go_callV (pc' := 18) rfl rfl rfl (Nat.le_of_ble_eq_true rfl) rfl (sm_o hS rfl) rfl rfl rfl (ra_sr_2 hA15 (by omega) hp0 hp2 hn13 (by omega)) (fun r h16 q17 => ?_)
        obtain ⟨rfl, hA18⟩ := q17
        change RA w B (R + 1) H hb h16 (rsr 1 (I, Q, Z)) at hA18
        obtain ⟨M19, eM19⟩ : ∃ y : mM, y = (rsr 1 (I, Q, Z)) := ⟨_, rfl⟩
        rw [← eM19] at hA18
        obtain ⟨I19, Q19, Z19⟩ := M19
        obtain ⟨K19, Y19, am19, ln19, hS19, hU19⟩ := RA_u.mp hA18
        change sm (tbr am19 (13 * ln19) 77 5088) h16 (jn I19 K19) Y19 at hS19
        obtain ⟨-, hWm19, -, -, hr19, -⟩ := id hU19.1
        have hln19 := RU_ln hU19 (by omega)
        have hp20 : prk I19 0 := (prk_p (congrFun (by rw [show I19 = (I19, Q19, Z19).1 from rfl, eM19]; exact (rsr_F (by decide) (by decide) (by decide)).1) 0)).mpr hp0
        have hp21 : prk I19 1 := (prk_p (congrFun (by rw [show I19 = (I19, Q19, Z19).1 from rfl, eM19]; exact (rsr_F (by decide) (by decide) (by decide)).1) 1)).mpr hp1
        have hp22 : prk I19 2 := (prk_p (congrFun (by rw [show I19 = (I19, Q19, Z19).1 from rfl, eM19]; exact (rsr_F (by decide) (by decide) (by decide)).1) 2)).mpr hp2
        have e1623 : I19 16 = I 16 := by rw [show I19 = (I19, Q19, Z19).1 from rfl, eM19]; exact (rsr_F (by decide) (by decide) (by decide)).1
        have ms24 : rsa1 1 (I, Q, Z) = (I19, Q19, Z19) := (if_pos ⟨u7, c10⟩).trans eM19.symm
        refine go_s (pc' := 19) (lo' := [some (.ref 62), some (.int 3)]) rfl rfl rfl rfl ?_
        refine go_s (pc' := 2) rfl rfl rfl rfl ?_
        refine go_s (pc' := 3) rfl rfl rfl rfl ?_
        refine go_s (pc' := 4) (st' := [.int 3, .int 3]) rfl rfl rfl rfl ?_
        refine go_icmpP (t' := 20) (pc' := 5) rfl rfl rfl (fun _ => ?_) (fun (c : ¬ (3 ≤ (3 : Int32))) => absurd (by decide) c)
        refine go_ret rfl rfl ?_
        have hA25 : RA w B (R + 1) H hb h16 (I19, Q19, Z19) := RA_u.mpr ⟨_, _, _, _, hS19, hU19⟩
        have hms : rsa (I, Q, Z) = (I19, Q19, Z19) := by
          unfold rsa
          rw [ms4, ms24]
        rw [hms]
        exact ⟨rfl, RA_R (by omega) hA25⟩
  · skip
    show am_Go _ _ _ _ 8 _ [.int 1] _ _
    refine go_ifP (t' := 18) (pc' := 9) rfl rfl rfl (fun (c : (1 : Int32) = 0) => absurd c (by decide)) (fun _ => ?_)
    refine go_s (pc' := 10) rfl rfl rfl rfl ?_
    refine go_sget (pc' := 11) (v := .ref 83) hS rfl rfl rfl (by decide) rfl rfl ?_
    refine go_s (pc' := 12) rfl rfl rfl rfl ?_
    refine go_sald (pc' := 13) (q := 1) (v := .int (I 16 1)) hS rfl (tr_s hr (a := 83) rfl (by decide)) rfl rfl (by decide) rfl rfl ?_
    refine go_s (pc' := 14) (st' := [.int 2, .int (I 16 1)]) rfl rfl rfl rfl ?_
    refine go_icmpP (t' := 18) (pc' := 15) rfl rfl rfl (fun (c26 : ¬ (I 16 1) = 2) => ?_) (fun (c26' : ¬ ¬ (I 16 1) = 2) => ?_)
    · skip
      have ms27 : rsa1 0 (I, Q, Z) = (I, Q, Z) := if_neg (fun y => c26 y.2)
      refine go_s (pc' := 19) (lo' := [some (.ref 62), some (.int 2)]) rfl rfl rfl rfl ?_
      refine go_s (pc' := 2) rfl rfl rfl rfl ?_
      refine go_s (pc' := 3) rfl rfl rfl rfl ?_
      refine go_s (pc' := 4) (st' := [.int 3, .int 2]) rfl rfl rfl rfl ?_
      refine go_icmpP (t' := 20) (pc' := 5) rfl rfl rfl (fun (c : 3 ≤ (2 : Int32)) => absurd c (by decide)) (fun _ => ?_)
      refine go_s (pc' := 6) rfl rfl rfl rfl ?_
      refine go_s (pc' := 7) rfl rfl rfl rfl ?_
      refine go_callV (pc' := 8) rfl rfl rfl (Nat.le_of_ble_eq_true rfl) rfl (sm_o hS rfl) rfl rfl rfl (rt_lives_2 hr hS hp2 (by omega)) (fun r h28 q29 => ?_)
      obtain ⟨rfl, rfl⟩ := q29
      rw [show lv (jn I K) 2 = lv I 2 from rfl]
      cases u30 : lv I 2
      · skip
        show am_Go _ _ _ _ 8 _ [.int 0] _ _
        refine go_ifP (t' := 18) (pc' := 9) rfl rfl rfl (fun _ => ?_) (fun (c : ¬ ((0 : Int32) = 0)) => absurd (by decide) c)
        have ms31 : rsa1 1 (I, Q, Z) = (I, Q, Z) := if_neg (fun y => by rw [show lv (I, Q, Z).1 (1 + 1) = false from u30] at y; exact absurd y.1 (by decide))
        refine go_s (pc' := 19) (lo' := [some (.ref 62), some (.int 3)]) rfl rfl rfl rfl ?_
        refine go_s (pc' := 2) rfl rfl rfl rfl ?_
        refine go_s (pc' := 3) rfl rfl rfl rfl ?_
        refine go_s (pc' := 4) (st' := [.int 3, .int 3]) rfl rfl rfl rfl ?_
        refine go_icmpP (t' := 20) (pc' := 5) rfl rfl rfl (fun _ => ?_) (fun (c : ¬ (3 ≤ (3 : Int32))) => absurd (by decide) c)
        refine go_ret rfl rfl ?_
        have hA32 : RA w B R H hb h28 (I, Q, Z) := RA_u.mpr ⟨_, _, _, _, hS, hU⟩
        have hms : rsa (I, Q, Z) = (I, Q, Z) := by
          unfold rsa
          rw [ms27, ms31]
        rw [hms]
        exact ⟨rfl, RA_R (by omega) hA32⟩
      · skip
        show am_Go _ _ _ _ 8 _ [.int 1] _ _
        refine go_ifP (t' := 18) (pc' := 9) rfl rfl rfl (fun (c : (1 : Int32) = 0) => absurd c (by decide)) (fun _ => ?_)
        refine go_s (pc' := 10) rfl rfl rfl rfl ?_
        refine go_sget (pc' := 11) (v := .ref 83) hS rfl rfl rfl (by decide) rfl rfl ?_
        refine go_s (pc' := 12) rfl rfl rfl rfl ?_
        refine go_sald (pc' := 13) (q := 2) (v := .int (I 16 2)) hS rfl (tr_s hr (a := 83) rfl (by decide)) rfl rfl (by decide) rfl rfl ?_
        refine go_s (pc' := 14) (st' := [.int 2, .int (I 16 2)]) rfl rfl rfl rfl ?_
        refine go_icmpP (t' := 18) (pc' := 15) rfl rfl rfl (fun (c33 : ¬ (I 16 2) = 2) => ?_) (fun (c33' : ¬ ¬ (I 16 2) = 2) => ?_)
        · skip
          have ms34 : rsa1 1 (I, Q, Z) = (I, Q, Z) := if_neg (fun y => c33 y.2)
          refine go_s (pc' := 19) (lo' := [some (.ref 62), some (.int 3)]) rfl rfl rfl rfl ?_
          refine go_s (pc' := 2) rfl rfl rfl rfl ?_
          refine go_s (pc' := 3) rfl rfl rfl rfl ?_
          refine go_s (pc' := 4) (st' := [.int 3, .int 3]) rfl rfl rfl rfl ?_
          refine go_icmpP (t' := 20) (pc' := 5) rfl rfl rfl (fun _ => ?_) (fun (c : ¬ (3 ≤ (3 : Int32))) => absurd (by decide) c)
          refine go_ret rfl rfl ?_
          have hA35 : RA w B R H hb h28 (I, Q, Z) := RA_u.mpr ⟨_, _, _, _, hS, hU⟩
          have hms : rsa (I, Q, Z) = (I, Q, Z) := by
            unfold rsa
            rw [ms27, ms34]
          rw [hms]
          exact ⟨rfl, RA_R (by omega) hA35⟩
        · skip
          have c33 : (I 16 2) = 2 := Decidable.not_not.mp c33'
          refine go_s (pc' := 16) rfl rfl rfl rfl ?_
          refine go_s (pc' := 17) rfl rfl rfl rfl ?_
          have hn36 := (lv_up u30).1
          have hU37 : RU w B R H hb h28 am ln K (I, Q, Z) := RU_I (sm_e_refl (tbr am (13 * ln) 77 5088) _) (I' := I) (fun _ => rfl) (fun _ => rfl) (Nat.le_refl _) hU
          have hA38 : RA w B R H hb h28 (I, Q, Z) := RA_u.mpr ⟨_, _, _, _, hS, hU37⟩
          refine go_callV (pc' := 18) rfl rfl rfl (Nat.le_of_ble_eq_true rfl) rfl (sm_o hS rfl) rfl rfl rfl (ra_sr_2 hA38 (by omega) hp0 hp2 hn36 (by omega)) (fun r h39 q40 => ?_)
          obtain ⟨rfl, hA41⟩ := q40
          change RA w B (R + 1) H hb h39 (rsr 1 (I, Q, Z)) at hA41
          obtain ⟨M42, eM42⟩ : ∃ y : mM, y = (rsr 1 (I, Q, Z)) := ⟨_, rfl⟩
          rw [← eM42] at hA41
          obtain ⟨I42, Q42, Z42⟩ := M42
          obtain ⟨K42, Y42, am42, ln42, hS42, hU42⟩ := RA_u.mp hA41
          change sm (tbr am42 (13 * ln42) 77 5088) h39 (jn I42 K42) Y42 at hS42
          obtain ⟨-, hWm42, -, -, hr42, -⟩ := id hU42.1
          have hln42 := RU_ln hU42 (by omega)
          have hp43 : prk I42 0 := (prk_p (congrFun (by rw [show I42 = (I42, Q42, Z42).1 from rfl, eM42]; exact (rsr_F (by decide) (by decide) (by decide)).1) 0)).mpr hp0
          have hp44 : prk I42 1 := (prk_p (congrFun (by rw [show I42 = (I42, Q42, Z42).1 from rfl, eM42]; exact (rsr_F (by decide) (by decide) (by decide)).1) 1)).mpr hp1
          have hp45 : prk I42 2 := (prk_p (congrFun (by rw [show I42 = (I42, Q42, Z42).1 from rfl, eM42]; exact (rsr_F (by decide) (by decide) (by decide)).1) 2)).mpr hp2
          have e1646 : I42 16 = I 16 := by rw [show I42 = (I42, Q42, Z42).1 from rfl, eM42]; exact (rsr_F (by decide) (by decide) (by decide)).1
          have ms47 : rsa1 1 (I, Q, Z) = (I42, Q42, Z42) := (if_pos ⟨u30, c33⟩).trans eM42.symm
          refine go_s (pc' := 19) (lo' := [some (.ref 62), some (.int 3)]) rfl rfl rfl rfl ?_
          refine go_s (pc' := 2) rfl rfl rfl rfl ?_
          refine go_s (pc' := 3) rfl rfl rfl rfl ?_
          refine go_s (pc' := 4) (st' := [.int 3, .int 3]) rfl rfl rfl rfl ?_
          refine go_icmpP (t' := 20) (pc' := 5) rfl rfl rfl (fun _ => ?_) (fun (c : ¬ (3 ≤ (3 : Int32))) => absurd (by decide) c)
          refine go_ret rfl rfl ?_
          have hA48 : RA w B (R + 1) H hb h39 (I42, Q42, Z42) := RA_u.mpr ⟨_, _, _, _, hS42, hU42⟩
          have hms : rsa (I, Q, Z) = (I42, Q42, Z42) := by
            unfold rsa
            rw [ms27, ms47]
          rw [hms]
          exact ⟨rfl, RA_R (by omega) hA48⟩
    · skip
      have c26 : (I 16 1) = 2 := Decidable.not_not.mp c26'
      refine go_s (pc' := 16) rfl rfl rfl rfl ?_
      refine go_s (pc' := 17) rfl rfl rfl rfl ?_
      have hn49 := (lv_up u3).1
      have hU50 : RU w B R H hb h1 am ln K (I, Q, Z) := RU_I (sm_e_refl (tbr am (13 * ln) 77 5088) _) (I' := I) (fun _ => rfl) (fun _ => rfl) (Nat.le_refl _) hU
      have hA51 : RA w B R H hb h1 (I, Q, Z) := RA_u.mpr ⟨_, _, _, _, hS, hU50⟩
      refine go_callV (pc' := 18) rfl rfl rfl (Nat.le_of_ble_eq_true rfl) rfl (sm_o hS rfl) rfl rfl rfl (ra_sr_1 hA51 (by omega) hp0 hp1 hn49 (by omega)) (fun r h52 q53 => ?_)
      obtain ⟨rfl, hA54⟩ := q53
      change RA w B (R + 1) H hb h52 (rsr 0 (I, Q, Z)) at hA54
      obtain ⟨M55, eM55⟩ : ∃ y : mM, y = (rsr 0 (I, Q, Z)) := ⟨_, rfl⟩
      rw [← eM55] at hA54
      obtain ⟨I55, Q55, Z55⟩ := M55
      obtain ⟨K55, Y55, am55, ln55, hS55, hU55⟩ := RA_u.mp hA54
      change sm (tbr am55 (13 * ln55) 77 5088) h52 (jn I55 K55) Y55 at hS55
      obtain ⟨-, hWm55, -, -, hr55, -⟩ := id hU55.1
      have hln55 := RU_ln hU55 (by omega)
      have hp56 : prk I55 0 := (prk_p (congrFun (by rw [show I55 = (I55, Q55, Z55).1 from rfl, eM55]; exact (rsr_F (by decide) (by decide) (by decide)).1) 0)).mpr hp0
      have hp57 : prk I55 1 := (prk_p (congrFun (by rw [show I55 = (I55, Q55, Z55).1 from rfl, eM55]; exact (rsr_F (by decide) (by decide) (by decide)).1) 1)).mpr hp1
      have hp58 : prk I55 2 := (prk_p (congrFun (by rw [show I55 = (I55, Q55, Z55).1 from rfl, eM55]; exact (rsr_F (by decide) (by decide) (by decide)).1) 2)).mpr hp2
      have e1659 : I55 16 = I 16 := by rw [show I55 = (I55, Q55, Z55).1 from rfl, eM55]; exact (rsr_F (by decide) (by decide) (by decide)).1
      have ms60 : rsa1 0 (I, Q, Z) = (I55, Q55, Z55) := (if_pos ⟨u3, c26⟩).trans eM55.symm
      refine go_s (pc' := 19) (lo' := [some (.ref 62), some (.int 2)]) rfl rfl rfl rfl ?_
      refine go_s (pc' := 2) rfl rfl rfl rfl ?_
      refine go_s (pc' := 3) rfl rfl rfl rfl ?_
      refine go_s (pc' := 4) (st' := [.int 3, .int 2]) rfl rfl rfl rfl ?_
      refine go_icmpP (t' := 20) (pc' := 5) rfl rfl rfl (fun (c : 3 ≤ (2 : Int32)) => absurd c (by decide)) (fun _ => ?_)
      refine go_s (pc' := 6) rfl rfl rfl rfl ?_
      refine go_s (pc' := 7) rfl rfl rfl rfl ?_
      refine go_callV (pc' := 8) rfl rfl rfl (Nat.le_of_ble_eq_true rfl) rfl (sm_o hS55 rfl) rfl rfl rfl (rt_lives_2 hr55 hS55 hp58 (by omega)) (fun r h61 q62 => ?_)
      obtain ⟨rfl, rfl⟩ := q62
      rw [show lv (jn I55 K55) 2 = lv I55 2 from rfl]
      cases u63 : lv I55 2
      · skip
        show am_Go _ _ _ _ 8 _ [.int 0] _ _
        refine go_ifP (t' := 18) (pc' := 9) rfl rfl rfl (fun _ => ?_) (fun (c : ¬ ((0 : Int32) = 0)) => absurd (by decide) c)
        have ms64 : rsa1 1 (I55, Q55, Z55) = (I55, Q55, Z55) := if_neg (fun y => by rw [show lv (I55, Q55, Z55).1 (1 + 1) = false from u63] at y; exact absurd y.1 (by decide))
        refine go_s (pc' := 19) (lo' := [some (.ref 62), some (.int 3)]) rfl rfl rfl rfl ?_
        refine go_s (pc' := 2) rfl rfl rfl rfl ?_
        refine go_s (pc' := 3) rfl rfl rfl rfl ?_
        refine go_s (pc' := 4) (st' := [.int 3, .int 3]) rfl rfl rfl rfl ?_
        refine go_icmpP (t' := 20) (pc' := 5) rfl rfl rfl (fun _ => ?_) (fun (c : ¬ (3 ≤ (3 : Int32))) => absurd (by decide) c)
        refine go_ret rfl rfl ?_
        have hA65 : RA w B (R + 1) H hb h61 (I55, Q55, Z55) := RA_u.mpr ⟨_, _, _, _, hS55, hU55⟩
        have hms : rsa (I, Q, Z) = (I55, Q55, Z55) := by
          unfold rsa
          rw [ms60, ms64]
        rw [hms]
        exact ⟨rfl, RA_R (by omega) hA65⟩
      · skip
        show am_Go _ _ _ _ 8 _ [.int 1] _ _
        refine go_ifP (t' := 18) (pc' := 9) rfl rfl rfl (fun (c : (1 : Int32) = 0) => absurd c (by decide)) (fun _ => ?_)
        refine go_s (pc' := 10) rfl rfl rfl rfl ?_
        refine go_sget (pc' := 11) (v := .ref 83) hS55 rfl rfl rfl (by decide) rfl rfl ?_
        refine go_s (pc' := 12) rfl rfl rfl rfl ?_
        refine go_sald (pc' := 13) (q := 2) (v := .int (I55 16 2)) hS55 rfl (tr_s hr55 (a := 83) rfl (by decide)) rfl rfl (by decide) rfl rfl ?_
        refine go_s (pc' := 14) (st' := [.int 2, .int (I55 16 2)]) rfl rfl rfl rfl ?_
        refine go_icmpP (t' := 18) (pc' := 15) rfl rfl rfl (fun (c66 : ¬ (I55 16 2) = 2) => ?_) (fun (c66' : ¬ ¬ (I55 16 2) = 2) => ?_)
        · skip
          have ms67 : rsa1 1 (I55, Q55, Z55) = (I55, Q55, Z55) := if_neg (fun y => c66 y.2)
          refine go_s (pc' := 19) (lo' := [some (.ref 62), some (.int 3)]) rfl rfl rfl rfl ?_
          refine go_s (pc' := 2) rfl rfl rfl rfl ?_
          refine go_s (pc' := 3) rfl rfl rfl rfl ?_
          refine go_s (pc' := 4) (st' := [.int 3, .int 3]) rfl rfl rfl rfl ?_
          refine go_icmpP (t' := 20) (pc' := 5) rfl rfl rfl (fun _ => ?_) (fun (c : ¬ (3 ≤ (3 : Int32))) => absurd (by decide) c)
          refine go_ret rfl rfl ?_
          have hA68 : RA w B (R + 1) H hb h61 (I55, Q55, Z55) := RA_u.mpr ⟨_, _, _, _, hS55, hU55⟩
          have hms : rsa (I, Q, Z) = (I55, Q55, Z55) := by
            unfold rsa
            rw [ms60, ms67]
          rw [hms]
          exact ⟨rfl, RA_R (by omega) hA68⟩
        · skip
          have c66 : (I55 16 2) = 2 := Decidable.not_not.mp c66'
          refine go_s (pc' := 16) rfl rfl rfl rfl ?_
          refine go_s (pc' := 17) rfl rfl rfl rfl ?_
          have hn69 := (lv_up u63).1
          have hU70 : RU w B (R + 1) H hb h61 am55 ln55 K55 (I55, Q55, Z55) := RU_I (sm_e_refl (tbr am55 (13 * ln55) 77 5088) _) (I' := I55) (fun _ => rfl) (fun _ => rfl) (Nat.le_refl _) hU55
          have hA71 : RA w B (R + 1) H hb h61 (I55, Q55, Z55) := RA_u.mpr ⟨_, _, _, _, hS55, hU70⟩
          refine go_callV (pc' := 18) rfl rfl rfl (Nat.le_of_ble_eq_true rfl) rfl (sm_o hS55 rfl) rfl rfl rfl (ra_sr_2 hA71 (by omega) hp56 hp58 hn69 (by omega)) (fun r h72 q73 => ?_)
          obtain ⟨rfl, hA74⟩ := q73
          change RA w B ((R + 1) + 1) H hb h72 (rsr 1 (I55, Q55, Z55)) at hA74
          obtain ⟨M75, eM75⟩ : ∃ y : mM, y = (rsr 1 (I55, Q55, Z55)) := ⟨_, rfl⟩
          rw [← eM75] at hA74
          obtain ⟨I75, Q75, Z75⟩ := M75
          obtain ⟨K75, Y75, am75, ln75, hS75, hU75⟩ := RA_u.mp hA74
          change sm (tbr am75 (13 * ln75) 77 5088) h72 (jn I75 K75) Y75 at hS75
          obtain ⟨-, hWm75, -, -, hr75, -⟩ := id hU75.1
          have hln75 := RU_ln hU75 (by omega)
          have hp76 : prk I75 0 := (prk_p (congrFun (by rw [show I75 = (I75, Q75, Z75).1 from rfl, eM75]; exact (rsr_F (by decide) (by decide) (by decide)).1) 0)).mpr hp56
          have hp77 : prk I75 1 := (prk_p (congrFun (by rw [show I75 = (I75, Q75, Z75).1 from rfl, eM75]; exact (rsr_F (by decide) (by decide) (by decide)).1) 1)).mpr hp57
          have hp78 : prk I75 2 := (prk_p (congrFun (by rw [show I75 = (I75, Q75, Z75).1 from rfl, eM75]; exact (rsr_F (by decide) (by decide) (by decide)).1) 2)).mpr hp58
          have e1679 : I75 16 = I55 16 := by rw [show I75 = (I75, Q75, Z75).1 from rfl, eM75]; exact (rsr_F (by decide) (by decide) (by decide)).1
          have ms80 : rsa1 1 (I55, Q55, Z55) = (I75, Q75, Z75) := (if_pos ⟨u63, c66⟩).trans eM75.symm
          refine go_s (pc' := 19) (lo' := [some (.ref 62), some (.int 3)]) rfl rfl rfl rfl ?_
          refine go_s (pc' := 2) rfl rfl rfl rfl ?_
          refine go_s (pc' := 3) rfl rfl rfl rfl ?_
          refine go_s (pc' := 4) (st' := [.int 3, .int 3]) rfl rfl rfl rfl ?_
          refine go_icmpP (t' := 20) (pc' := 5) rfl rfl rfl (fun _ => ?_) (fun (c : ¬ (3 ≤ (3 : Int32))) => absurd (by decide) c)
          refine go_ret rfl rfl ?_
          have hA81 : RA w B ((R + 1) + 1) H hb h72 (I75, Q75, Z75) := RA_u.mpr ⟨_, _, _, _, hS75, hU75⟩
          have hms : rsa (I, Q, Z) = (I75, Q75, Z75) := by
            unfold rsa
            rw [ms60, ms80]
          rw [hms]
          exact ⟨rfl, RA_R (by omega) hA81⟩
theorem ra_rq_0 {w : Nat → Bool} {d B R : Nat} {H : List (Nat × mg)} {hb : Bool} {h : am_Hp} {I : sm_I} {Q : mQ} {Z : mZ} (hA : RA w B R H hb h (I, Q, Z)) (hR : R + 1 < 40000) {kd rc vl : Int32} (hp0 : prk I 0) (hpk : prk I 1) (hoh : ¬ I 12 1 = -1 → I 12 1 = ohI I 1) (h5 : ¬ I 12 1 = -1 → sq Q + hc H hb ≤ 5) (hd : 6 ≤ d) : am_Ev (am_prog w) d 123 [.ref 62, .int 0, .int kd, .int rc, .int vl] h (fun r h' => r = some (.int (rreq 0 kd rc vl (I, Q, Z)).1) ∧ RA w B (R + 1) H hb h' (rreq 0 kd rc vl (I, Q, Z)).2) := by
  obtain ⟨K, Y, am, ln, hS, hU⟩ := RA_u.mp hA
  change sm (tbr am (13 * ln) 77 5088) h (jn I K) Y at hS
  obtain ⟨hW, hWm, -, -, hr, -⟩ := id hU.1
  have hln := RU_ln hU (by omega)
  obtain ⟨d, rfl⟩ : ∃ e, d = e + 1 := ⟨d - 1, by omega⟩
  refine ev_go rfl (Nat.le_of_ble_eq_true rfl) rfl ?_
  refine go_s (pc' := 1) rfl rfl rfl rfl ?_
  refine go_s (pc' := 2) (st' := [.int 0, .int 0]) rfl rfl rfl rfl ?_
  refine go_s (pc' := 3) (st' := [.int 1, .int 0, .int 0]) rfl rfl rfl rfl ?_
  refine go_callS (pc' := 4) rfl rfl rfl (Nat.le_of_ble_eq_true rfl) rfl rfl rfl (rt_within_t (q := 0) (n := 1) (by decide) (by decide) (by omega)) (fun r h1 q2 => ?_)
  obtain ⟨rfl, rfl⟩ := q2
  refine go_ifP (t' := 11) (pc' := 5) rfl rfl rfl (fun (c : (1 : Int32) = 0) => absurd c (by decide)) (fun _ => ?_)
  refine go_s (pc' := 6) rfl rfl rfl rfl ?_
  refine go_s (pc' := 7) (st' := [.int 1, .ref 62]) rfl rfl rfl rfl ?_
  refine go_s (pc' := 8) rfl rfl rfl rfl ?_
  refine go_s (pc' := 9) (st' := [.int 1, .ref 62]) rfl rfl rfl rfl ?_
  refine go_callV (pc' := 10) rfl rfl rfl (Nat.le_of_ble_eq_true rfl) rfl (sm_o hS rfl) rfl rfl rfl (rt_lives_1 hr hS hpk (by omega)) (fun r h3 q4 => ?_)
  obtain ⟨rfl, rfl⟩ := q4
  rw [show lv (jn I K) 1 = lv I 1 from rfl]
  cases u5 : lv I 1
  · skip
    show am_Go _ _ _ _ 10 _ [.int 0] _ _
    refine go_ifP (t' := 13) (pc' := 11) rfl rfl rfl (fun (c : ¬ (0 : Int32) = 0) => absurd c (by decide)) (fun _ => ?_)
    refine go_s (pc' := 12) (st' := [.int (-1)]) rfl rfl rfl rfl ?_
    refine go_ret rfl rfl ?_
    have hms : rreq 0 kd rc vl (I, Q, Z) = (-1, (I, Q, Z)) := if_neg (by rw [show lv (I, Q, Z).1 (1 + 0) = false from u5]; decide)
    rw [hms]
    exact ⟨rfl, RA_R (by omega) hA⟩
  · skip
    show am_Go _ _ _ _ 10 _ [.int 1] _ _
    refine go_ifP (t' := 13) (pc' := 11) rfl rfl rfl (fun _ => ?_) (fun (c : ¬ (¬ (1 : Int32) = 0)) => absurd (by decide) c)
    have hnk := (lv_up u5).1
    rcases hpk with e6 | e6 | e6
    · skip
      exact absurd e6 hnk
    · skip
      have hnk := (lv_up u5).1
      refine go_s (pc' := 14) (st' := [.int 1]) rfl rfl rfl rfl ?_
      refine go_s (pc' := 15) rfl rfl rfl rfl ?_
      refine go_s (pc' := 16) (st' := [.int 1]) rfl rfl rfl rfl ?_
      refine go_s (pc' := 17) (lo' := [some (.ref 62), some (.int 0), some (.int kd), some (.int rc), some (.int vl), some (.int 1), none, none]) rfl rfl rfl rfl ?_
      refine go_s (pc' := 18) rfl rfl rfl rfl ?_
      refine go_s (pc' := 19) rfl rfl rfl rfl ?_
      refine go_callV (pc' := 20) rfl rfl rfl (Nat.le_of_ble_eq_true rfl) rfl (sm_o hS rfl) rfl rfl rfl (rt_at_1 hr hS (Or.inr (Or.inl e6)) (fun z => absurd (e6.symm.trans z) (by decide)) (by omega)) (fun r h7 q8 => ?_)
      obtain ⟨rfl, rfl⟩ := q8
      rw [show rwi (jn I K) 1 = 2 by unfold rwi pn; rw [show (jn I K) 11 1 = 2 from e6]; rfl]
      show am_Go _ _ _ _ 20 _ [.int 848] _ _
      refine go_s (pc' := 21) (lo' := [some (.ref 62), some (.int 0), some (.int kd), some (.int rc), some (.int vl), some (.int 1), some (.int 848), none]) rfl rfl rfl rfl ?_
      refine go_s (pc' := 22) rfl rfl rfl rfl ?_
      refine go_sget (pc' := 23) (v := .ref 77) hS rfl rfl rfl (by decide) rfl rfl ?_
      refine go_s (pc' := 24) rfl rfl rfl rfl ?_
      refine go_s (pc' := 25) (st' := [.int 1, .int 848, .ref 77]) rfl rfl rfl rfl ?_
      refine go_s (pc' := 26) (st' := [.int 849, .ref 77]) rfl rfl rfl rfl ?_
      refine go_sald (pc' := 27) (q := 849) (v := .int ((Z 2).1 1)) hS rfl (tr_as hr (by omega)) rfl rfl (by decide) (congrArg Value.int (RR_t hU.2.1 (i := 2) (by decide) (by decide) 1 (by decide))) rfl ?_
      refine go_s (pc' := 28) (st' := [.int 1, .int ((Z 2).1 1)]) rfl rfl rfl rfl ?_
      refine go_icmpP (t' := 35) (pc' := 29) rfl rfl rfl (fun (c9 : ((Z 2).1 1) = 1) => ?_) (fun (c9 : ¬ ((Z 2).1 1) = 1) => ?_)
      · skip
        refine go_s (pc' := 36) (st' := [.int (-1)]) rfl rfl rfl rfl ?_
        refine go_ret rfl rfl ?_
        have hms : rreq 0 kd rc vl (I, Q, Z) = (-1, (I, Q, Z)) := by
          unfold rreq
          rw [if_pos (show lv (I, Q, Z).1 (1 + 0) = true from u5), show row1 (I, Q, Z) (1 + 0) = (Z 2).1 from row1_l (v := 2) e6 (by decide), if_pos (Or.inl c9)]
        rw [hms]
        exact ⟨rfl, RA_R (by omega) hA⟩
      · skip
        refine go_s (pc' := 30) rfl rfl rfl rfl ?_
        refine go_sget (pc' := 31) (v := .ref 83) hS rfl rfl rfl (by decide) rfl rfl ?_
        refine go_s (pc' := 32) rfl rfl rfl rfl ?_
        refine go_sald (pc' := 33) (q := 1) (v := .int (I 16 1)) hS rfl (tr_s hr (a := 83) rfl (by decide)) rfl rfl (by decide) rfl rfl ?_
        refine go_s (pc' := 34) (st' := [.int 1, .int (I 16 1)]) rfl rfl rfl rfl ?_
        refine go_icmpP (t' := 37) (pc' := 35) rfl rfl rfl (fun (c10 : ¬ (I 16 1) = 1) => ?_) (fun (c10' : ¬ ¬ (I 16 1) = 1) => ?_)
        · skip
          refine go_s (pc' := 38) rfl rfl rfl rfl ?_
          refine go_sget (pc' := 39) (v := .ref 77) hS rfl rfl rfl (by decide) rfl rfl ?_
          refine go_s (pc' := 40) rfl rfl rfl rfl ?_
          refine go_s (pc' := 41) (st' := [.int 0, .int 848, .ref 77]) rfl rfl rfl rfl ?_
          refine go_s (pc' := 42) (st' := [.int 848, .ref 77]) rfl rfl rfl rfl ?_
          refine go_s (pc' := 43) rfl rfl rfl rfl ?_
          refine go_sald (pc' := 44) (q := 848) (v := .int ((Z 2).1 0)) hS rfl (tr_as hr (by omega)) rfl rfl (by decide) (congrArg Value.int (RR_t hU.2.1 (i := 2) (by decide) (by decide) 0 (by decide))) rfl ?_
          refine go_s (pc' := 45) (st' := [.int 1, .int ((Z 2).1 0), .int 848, .ref 77]) rfl rfl rfl rfl ?_
          refine go_s (pc' := 46) rfl rfl rfl rfl ?_
          refine go_siast (pc' := 47) (q := 848) hS rfl (tr_as hr (by omega)) tbr_inj (Nat.le_of_ble_eq_true rfl) rfl (by decide) (by decide) (hW _ (by decide) (by decide)) rfl (fun h11 hS12 hE13 => ?_)
          refine go_s (pc' := 48) rfl rfl rfl rfl ?_
          refine go_sget (pc' := 49) (v := .ref 77) hS12 rfl rfl rfl (by decide) rfl rfl ?_
          refine go_s (pc' := 50) rfl rfl rfl rfl ?_
          refine go_s (pc' := 51) (st' := [.int 1, .int 848, .ref 77]) rfl rfl rfl rfl ?_
          refine go_s (pc' := 52) (st' := [.int 849, .ref 77]) rfl rfl rfl rfl ?_
          refine go_s (pc' := 53) (st' := [.int 1, .int 849, .ref 77]) rfl rfl rfl rfl ?_
          refine go_siast (pc' := 54) (q := 849) hS12 rfl (tr_as hr (by omega)) tbr_inj (Nat.le_of_ble_eq_true rfl) rfl (by decide) (by decide) (hW _ (by decide) (by decide)) rfl (fun h14 hS15 hE16 => ?_)
          have hE17 := sm_e_trans hE13 hE16
          refine go_s (pc' := 55) rfl rfl rfl rfl ?_
          refine go_sget (pc' := 56) (v := .ref 77) hS15 rfl rfl rfl (by decide) rfl rfl ?_
          refine go_s (pc' := 57) rfl rfl rfl rfl ?_
          refine go_s (pc' := 58) (st' := [.int 2, .int 848, .ref 77]) rfl rfl rfl rfl ?_
          refine go_s (pc' := 59) (st' := [.int 850, .ref 77]) rfl rfl rfl rfl ?_
          refine go_s (pc' := 60) rfl rfl rfl rfl ?_
          refine go_siast (pc' := 61) (q := 850) hS15 rfl (tr_as hr (by omega)) tbr_inj (Nat.le_of_ble_eq_true rfl) rfl (by decide) (by decide) (hW _ (by decide) (by decide)) rfl (fun h18 hS19 hE20 => ?_)
          have hE21 := sm_e_trans hE17 hE20
          refine go_s (pc' := 62) rfl rfl rfl rfl ?_
          refine go_sget (pc' := 63) (v := .ref 77) hS19 rfl rfl rfl (by decide) rfl rfl ?_
          refine go_s (pc' := 64) rfl rfl rfl rfl ?_
          refine go_s (pc' := 65) (st' := [.int 3, .int 848, .ref 77]) rfl rfl rfl rfl ?_
          refine go_s (pc' := 66) (st' := [.int 851, .ref 77]) rfl rfl rfl rfl ?_
          refine go_s (pc' := 67) rfl rfl rfl rfl ?_
          refine go_siast (pc' := 68) (q := 851) hS19 rfl (tr_as hr (by omega)) tbr_inj (Nat.le_of_ble_eq_true rfl) rfl (by decide) (by decide) (hW _ (by decide) (by decide)) rfl (fun h22 hS23 hE24 => ?_)
          have hE25 := sm_e_trans hE21 hE24
          refine go_s (pc' := 69) rfl rfl rfl rfl ?_
          refine go_sget (pc' := 70) (v := .ref 77) hS23 rfl rfl rfl (by decide) rfl rfl ?_
          refine go_s (pc' := 71) rfl rfl rfl rfl ?_
          refine go_s (pc' := 72) (st' := [.int 4, .int 848, .ref 77]) rfl rfl rfl rfl ?_
          refine go_s (pc' := 73) (st' := [.int 852, .ref 77]) rfl rfl rfl rfl ?_
          refine go_s (pc' := 74) rfl rfl rfl rfl ?_
          refine go_siast (pc' := 75) (q := 852) hS23 rfl (tr_as hr (by omega)) tbr_inj (Nat.le_of_ble_eq_true rfl) rfl (by decide) (by decide) (hW _ (by decide) (by decide)) rfl (fun h26 hS27 hE28 => ?_)
          have hE29 := sm_e_trans hE25 hE28
          refine go_s (pc' := 76) rfl rfl rfl rfl ?_
          refine go_sget (pc' := 77) (v := .ref 77) hS27 rfl rfl rfl (by decide) rfl rfl ?_
          refine go_s (pc' := 78) rfl rfl rfl rfl ?_
          refine go_s (pc' := 79) (st' := [.int 0, .int 848, .ref 77]) rfl rfl rfl rfl ?_
          refine go_s (pc' := 80) (st' := [.int 848, .ref 77]) rfl rfl rfl rfl ?_
          refine go_sald (pc' := 81) (q := 848) (v := .int (((Z 2).1 0) + 1)) hS27 rfl (tr_as hr (by omega)) rfl rfl (by decide) rfl rfl ?_
          refine go_s (pc' := 82) (lo' := [some (.ref 62), some (.int 0), some (.int kd), some (.int rc), some (.int vl), some (.int 1), some (.int 848), some (.int (((Z 2).1 0) + 1))]) rfl rfl rfl rfl ?_
          refine go_s (pc' := 83) rfl rfl rfl rfl ?_
          refine go_s (pc' := 84) rfl rfl rfl rfl ?_
          change sm (tbr am (13 * ln) 77 5088) _ (uI (uI (uI (uI (uI (jn I K) 51 848 (((Z 2).1 0) + 1)) 51 849 1) 51 850 kd) 51 851 rc) 51 852 vl) Y at hS27
          rw [jn_hi (c := 51) (by decide), jn_hi (c := 51) (by decide), jn_hi (c := 51) (by decide), jn_hi (c := 51) (by decide), jn_hi (c := 51) (by decide)] at hS27
          have hU30 : RU w B R H hb h26 am ln (uI (uI (uI (uI (uI K 51 848 (((Z 2).1 0) + 1)) 51 849 1) 51 850 kd) 51 851 rc) 51 852 vl) (I, Q, (uZ Z 2 (mrqr (Z 2).1 kd rc vl, (Z 2).2))) := RU_row (K' := (uI (uI (uI (uI (uI K 51 848 (((Z 2).1 0) + 1)) 51 849 1) 51 850 kd) 51 851 rc) 51 852 vl)) (s := (mrqr (Z 2).1 kd rc vl, (Z 2).2)) (by decide) (fun c j _ hc => by
            simp only [uI]
            rw [if_neg (by omega), if_neg (by omega), if_neg (by omega), if_neg (by omega), if_neg (by omega)]) (⟨fun h => absurd h (by decide), fun _ j hj => by
            match j, hj with
            | 0, _ => (repeat (first | rw [uI_e (by decide)] | rw [uI_j (by decide)])) <;> first | rfl | exact RR_t hU.2.1 (i := 2) (by decide) (by decide) 0 (by decide)
            | 1, _ => (repeat (first | rw [uI_e (by decide)] | rw [uI_j (by decide)])) <;> first | rfl | exact RR_t hU.2.1 (i := 2) (by decide) (by decide) 1 (by decide)
            | 2, _ => (repeat (first | rw [uI_e (by decide)] | rw [uI_j (by decide)])) <;> first | rfl | exact RR_t hU.2.1 (i := 2) (by decide) (by decide) 2 (by decide)
            | 3, _ => (repeat (first | rw [uI_e (by decide)] | rw [uI_j (by decide)])) <;> first | rfl | exact RR_t hU.2.1 (i := 2) (by decide) (by decide) 3 (by decide)
            | 4, _ => (repeat (first | rw [uI_e (by decide)] | rw [uI_j (by decide)])) <;> first | rfl | exact RR_t hU.2.1 (i := 2) (by decide) (by decide) 4 (by decide)
            | 5, _ => (repeat (first | rw [uI_e (by decide)] | rw [uI_j (by decide)])) <;> first | rfl | exact RR_t hU.2.1 (i := 2) (by decide) (by decide) 5 (by decide)
            | 6, _ => (repeat (first | rw [uI_e (by decide)] | rw [uI_j (by decide)])) <;> first | rfl | exact RR_t hU.2.1 (i := 2) (by decide) (by decide) 6 (by decide)
            | 7, _ => (repeat (first | rw [uI_e (by decide)] | rw [uI_j (by decide)])) <;> first | rfl | exact RR_t hU.2.1 (i := 2) (by decide) (by decide) 7 (by decide)
            | 8, _ => (repeat (first | rw [uI_e (by decide)] | rw [uI_j (by decide)])) <;> first | rfl | exact RR_t hU.2.1 (i := 2) (by decide) (by decide) 8 (by decide)
            | 9, _ => (repeat (first | rw [uI_e (by decide)] | rw [uI_j (by decide)])) <;> first | rfl | exact RR_t hU.2.1 (i := 2) (by decide) (by decide) 9 (by decide)
            | 10, _ => (repeat (first | rw [uI_e (by decide)] | rw [uI_j (by decide)])) <;> first | rfl | exact RR_t hU.2.1 (i := 2) (by decide) (by decide) 10 (by decide)
            | 11, _ => (repeat (first | rw [uI_e (by decide)] | rw [uI_j (by decide)])) <;> first | rfl | exact RR_t hU.2.1 (i := 2) (by decide) (by decide) 11 (by decide)⟩) (RU_I (hE29) (I' := I) (fun _ => rfl) (fun _ => rfl) (Nat.le_refl _) hU)
          have hA31 : RA w B R H hb h26 (I, Q, (uZ Z 2 (mrqr (Z 2).1 kd rc vl, (Z 2).2))) := RA_u.mpr ⟨_, _, _, _, hS27, hU30⟩
          refine go_callV (pc' := 85) rfl rfl rfl (Nat.le_of_ble_eq_true rfl) rfl (sm_o hS27 rfl) rfl rfl rfl (ra_tl_1 hA31 (by omega) hp0 (Or.inr (Or.inl e6)) (fun z => absurd (e6.symm.trans z) (by decide)) hoh h5 (by omega)) (fun r h32 q33 => ?_)
          obtain ⟨rfl, hA34⟩ := q33
          refine go_s (pc' := 86) rfl rfl rfl rfl ?_
          refine go_ret rfl rfl ?_
          have hms : rreq 0 kd rc vl (I, Q, Z) = ((Z 2).1 0 + 1, rtl 1 (mrqZ 0 kd rc vl (I, Q, Z))) := by
            unfold rreq
            rw [if_pos (show lv (I, Q, Z).1 (1 + 0) = true from u5), show row1 (I, Q, Z) (1 + 0) = (Z 2).1 from row1_l (v := 2) e6 (by decide), if_neg (fun z => z.elim c9 c10)]
          have hz9 : mrqZ 0 kd rc vl (I, Q, Z) = (I, Q, (uZ Z 2 (mrqr (Z 2).1 kd rc vl, (Z 2).2))) := by
            unfold mrqZ
            rw [show row1 (I, Q, Z) (1 + 0) = (Z 2).1 from row1_l (v := 2) e6 (by decide), show rwi (I, Q, Z).1 (1 + 0) = 2 from rwi_l (v := 2) e6 (by decide)]
          rw [hms, hz9]
          exact ⟨rfl, hA34⟩
        · skip
          have c10 : (I 16 1) = 1 := Decidable.not_not.mp c10'
          refine go_s (pc' := 36) (st' := [.int (-1)]) rfl rfl rfl rfl ?_
          refine go_ret rfl rfl ?_
          have hms : rreq 0 kd rc vl (I, Q, Z) = (-1, (I, Q, Z)) := by
            unfold rreq
            rw [if_pos (show lv (I, Q, Z).1 (1 + 0) = true from u5), show row1 (I, Q, Z) (1 + 0) = (Z 2).1 from row1_l (v := 2) e6 (by decide), if_pos (Or.inr c10)]
          rw [hms]
          exact ⟨rfl, RA_R (by omega) hA⟩
    · skip
      have hnk := (lv_up u5).1
      refine go_s (pc' := 14) (st' := [.int 1]) rfl rfl rfl rfl ?_
      refine go_s (pc' := 15) rfl rfl rfl rfl ?_
      refine go_s (pc' := 16) (st' := [.int 1]) rfl rfl rfl rfl ?_
      refine go_s (pc' := 17) (lo' := [some (.ref 62), some (.int 0), some (.int kd), some (.int rc), some (.int vl), some (.int 1), none, none]) rfl rfl rfl rfl ?_
      refine go_s (pc' := 18) rfl rfl rfl rfl ?_
      refine go_s (pc' := 19) rfl rfl rfl rfl ?_
      refine go_callV (pc' := 20) rfl rfl rfl (Nat.le_of_ble_eq_true rfl) rfl (sm_o hS rfl) rfl rfl rfl (rt_at_1 hr hS (Or.inr (Or.inr e6)) (fun z => absurd (e6.symm.trans z) (by decide)) (by omega)) (fun r h35 q36 => ?_)
      obtain ⟨rfl, rfl⟩ := q36
      rw [show rwi (jn I K) 1 = 3 by unfold rwi pn; rw [show (jn I K) 11 1 = 3 from e6]; rfl]
      show am_Go _ _ _ _ 20 _ [.int 1272] _ _
      refine go_s (pc' := 21) (lo' := [some (.ref 62), some (.int 0), some (.int kd), some (.int rc), some (.int vl), some (.int 1), some (.int 1272), none]) rfl rfl rfl rfl ?_
      refine go_s (pc' := 22) rfl rfl rfl rfl ?_
      refine go_sget (pc' := 23) (v := .ref 77) hS rfl rfl rfl (by decide) rfl rfl ?_
      refine go_s (pc' := 24) rfl rfl rfl rfl ?_
      refine go_s (pc' := 25) (st' := [.int 1, .int 1272, .ref 77]) rfl rfl rfl rfl ?_
      refine go_s (pc' := 26) (st' := [.int 1273, .ref 77]) rfl rfl rfl rfl ?_
      refine go_sald (pc' := 27) (q := 1273) (v := .int ((Z 3).1 1)) hS rfl (tr_as hr (by omega)) rfl rfl (by decide) (congrArg Value.int (RR_t hU.2.1 (i := 3) (by decide) (by decide) 1 (by decide))) rfl ?_
      refine go_s (pc' := 28) (st' := [.int 1, .int ((Z 3).1 1)]) rfl rfl rfl rfl ?_
      refine go_icmpP (t' := 35) (pc' := 29) rfl rfl rfl (fun (c37 : ((Z 3).1 1) = 1) => ?_) (fun (c37 : ¬ ((Z 3).1 1) = 1) => ?_)
      · skip
        refine go_s (pc' := 36) (st' := [.int (-1)]) rfl rfl rfl rfl ?_
        refine go_ret rfl rfl ?_
        have hms : rreq 0 kd rc vl (I, Q, Z) = (-1, (I, Q, Z)) := by
          unfold rreq
          rw [if_pos (show lv (I, Q, Z).1 (1 + 0) = true from u5), show row1 (I, Q, Z) (1 + 0) = (Z 3).1 from row1_l (v := 3) e6 (by decide), if_pos (Or.inl c37)]
        rw [hms]
        exact ⟨rfl, RA_R (by omega) hA⟩
      · skip
        refine go_s (pc' := 30) rfl rfl rfl rfl ?_
        refine go_sget (pc' := 31) (v := .ref 83) hS rfl rfl rfl (by decide) rfl rfl ?_
        refine go_s (pc' := 32) rfl rfl rfl rfl ?_
        refine go_sald (pc' := 33) (q := 1) (v := .int (I 16 1)) hS rfl (tr_s hr (a := 83) rfl (by decide)) rfl rfl (by decide) rfl rfl ?_
        refine go_s (pc' := 34) (st' := [.int 1, .int (I 16 1)]) rfl rfl rfl rfl ?_
        refine go_icmpP (t' := 37) (pc' := 35) rfl rfl rfl (fun (c38 : ¬ (I 16 1) = 1) => ?_) (fun (c38' : ¬ ¬ (I 16 1) = 1) => ?_)
        · skip
          refine go_s (pc' := 38) rfl rfl rfl rfl ?_
          refine go_sget (pc' := 39) (v := .ref 77) hS rfl rfl rfl (by decide) rfl rfl ?_
          refine go_s (pc' := 40) rfl rfl rfl rfl ?_
          refine go_s (pc' := 41) (st' := [.int 0, .int 1272, .ref 77]) rfl rfl rfl rfl ?_
          refine go_s (pc' := 42) (st' := [.int 1272, .ref 77]) rfl rfl rfl rfl ?_
          refine go_s (pc' := 43) rfl rfl rfl rfl ?_
          refine go_sald (pc' := 44) (q := 1272) (v := .int ((Z 3).1 0)) hS rfl (tr_as hr (by omega)) rfl rfl (by decide) (congrArg Value.int (RR_t hU.2.1 (i := 3) (by decide) (by decide) 0 (by decide))) rfl ?_
          refine go_s (pc' := 45) (st' := [.int 1, .int ((Z 3).1 0), .int 1272, .ref 77]) rfl rfl rfl rfl ?_
          refine go_s (pc' := 46) rfl rfl rfl rfl ?_
          refine go_siast (pc' := 47) (q := 1272) hS rfl (tr_as hr (by omega)) tbr_inj (Nat.le_of_ble_eq_true rfl) rfl (by decide) (by decide) (hW _ (by decide) (by decide)) rfl (fun h39 hS40 hE41 => ?_)
          refine go_s (pc' := 48) rfl rfl rfl rfl ?_
          refine go_sget (pc' := 49) (v := .ref 77) hS40 rfl rfl rfl (by decide) rfl rfl ?_
          refine go_s (pc' := 50) rfl rfl rfl rfl ?_
          refine go_s (pc' := 51) (st' := [.int 1, .int 1272, .ref 77]) rfl rfl rfl rfl ?_
          refine go_s (pc' := 52) (st' := [.int 1273, .ref 77]) rfl rfl rfl rfl ?_
          refine go_s (pc' := 53) (st' := [.int 1, .int 1273, .ref 77]) rfl rfl rfl rfl ?_
          refine go_siast (pc' := 54) (q := 1273) hS40 rfl (tr_as hr (by omega)) tbr_inj (Nat.le_of_ble_eq_true rfl) rfl (by decide) (by decide) (hW _ (by decide) (by decide)) rfl (fun h42 hS43 hE44 => ?_)
          have hE45 := sm_e_trans hE41 hE44
          refine go_s (pc' := 55) rfl rfl rfl rfl ?_
          refine go_sget (pc' := 56) (v := .ref 77) hS43 rfl rfl rfl (by decide) rfl rfl ?_
          refine go_s (pc' := 57) rfl rfl rfl rfl ?_
          refine go_s (pc' := 58) (st' := [.int 2, .int 1272, .ref 77]) rfl rfl rfl rfl ?_
          refine go_s (pc' := 59) (st' := [.int 1274, .ref 77]) rfl rfl rfl rfl ?_
          refine go_s (pc' := 60) rfl rfl rfl rfl ?_
          refine go_siast (pc' := 61) (q := 1274) hS43 rfl (tr_as hr (by omega)) tbr_inj (Nat.le_of_ble_eq_true rfl) rfl (by decide) (by decide) (hW _ (by decide) (by decide)) rfl (fun h46 hS47 hE48 => ?_)
          have hE49 := sm_e_trans hE45 hE48
          refine go_s (pc' := 62) rfl rfl rfl rfl ?_
          refine go_sget (pc' := 63) (v := .ref 77) hS47 rfl rfl rfl (by decide) rfl rfl ?_
          refine go_s (pc' := 64) rfl rfl rfl rfl ?_
          refine go_s (pc' := 65) (st' := [.int 3, .int 1272, .ref 77]) rfl rfl rfl rfl ?_
          refine go_s (pc' := 66) (st' := [.int 1275, .ref 77]) rfl rfl rfl rfl ?_
          refine go_s (pc' := 67) rfl rfl rfl rfl ?_
          refine go_siast (pc' := 68) (q := 1275) hS47 rfl (tr_as hr (by omega)) tbr_inj (Nat.le_of_ble_eq_true rfl) rfl (by decide) (by decide) (hW _ (by decide) (by decide)) rfl (fun h50 hS51 hE52 => ?_)
          have hE53 := sm_e_trans hE49 hE52
          refine go_s (pc' := 69) rfl rfl rfl rfl ?_
          refine go_sget (pc' := 70) (v := .ref 77) hS51 rfl rfl rfl (by decide) rfl rfl ?_
          refine go_s (pc' := 71) rfl rfl rfl rfl ?_
          refine go_s (pc' := 72) (st' := [.int 4, .int 1272, .ref 77]) rfl rfl rfl rfl ?_
          refine go_s (pc' := 73) (st' := [.int 1276, .ref 77]) rfl rfl rfl rfl ?_
          refine go_s (pc' := 74) rfl rfl rfl rfl ?_
          refine go_siast (pc' := 75) (q := 1276) hS51 rfl (tr_as hr (by omega)) tbr_inj (Nat.le_of_ble_eq_true rfl) rfl (by decide) (by decide) (hW _ (by decide) (by decide)) rfl (fun h54 hS55 hE56 => ?_)
          have hE57 := sm_e_trans hE53 hE56
          refine go_s (pc' := 76) rfl rfl rfl rfl ?_
          refine go_sget (pc' := 77) (v := .ref 77) hS55 rfl rfl rfl (by decide) rfl rfl ?_
          refine go_s (pc' := 78) rfl rfl rfl rfl ?_
          refine go_s (pc' := 79) (st' := [.int 0, .int 1272, .ref 77]) rfl rfl rfl rfl ?_
          refine go_s (pc' := 80) (st' := [.int 1272, .ref 77]) rfl rfl rfl rfl ?_
          refine go_sald (pc' := 81) (q := 1272) (v := .int (((Z 3).1 0) + 1)) hS55 rfl (tr_as hr (by omega)) rfl rfl (by decide) rfl rfl ?_
          refine go_s (pc' := 82) (lo' := [some (.ref 62), some (.int 0), some (.int kd), some (.int rc), some (.int vl), some (.int 1), some (.int 1272), some (.int (((Z 3).1 0) + 1))]) rfl rfl rfl rfl ?_
          refine go_s (pc' := 83) rfl rfl rfl rfl ?_
          refine go_s (pc' := 84) rfl rfl rfl rfl ?_
          change sm (tbr am (13 * ln) 77 5088) _ (uI (uI (uI (uI (uI (jn I K) 51 1272 (((Z 3).1 0) + 1)) 51 1273 1) 51 1274 kd) 51 1275 rc) 51 1276 vl) Y at hS55
          rw [jn_hi (c := 51) (by decide), jn_hi (c := 51) (by decide), jn_hi (c := 51) (by decide), jn_hi (c := 51) (by decide), jn_hi (c := 51) (by decide)] at hS55
          have hU58 : RU w B R H hb h54 am ln (uI (uI (uI (uI (uI K 51 1272 (((Z 3).1 0) + 1)) 51 1273 1) 51 1274 kd) 51 1275 rc) 51 1276 vl) (I, Q, (uZ Z 3 (mrqr (Z 3).1 kd rc vl, (Z 3).2))) := RU_row (K' := (uI (uI (uI (uI (uI K 51 1272 (((Z 3).1 0) + 1)) 51 1273 1) 51 1274 kd) 51 1275 rc) 51 1276 vl)) (s := (mrqr (Z 3).1 kd rc vl, (Z 3).2)) (by decide) (fun c j _ hc => by
            simp only [uI]
            rw [if_neg (by omega), if_neg (by omega), if_neg (by omega), if_neg (by omega), if_neg (by omega)]) (⟨fun h => absurd h (by decide), fun _ j hj => by
            match j, hj with
            | 0, _ => (repeat (first | rw [uI_e (by decide)] | rw [uI_j (by decide)])) <;> first | rfl | exact RR_t hU.2.1 (i := 3) (by decide) (by decide) 0 (by decide)
            | 1, _ => (repeat (first | rw [uI_e (by decide)] | rw [uI_j (by decide)])) <;> first | rfl | exact RR_t hU.2.1 (i := 3) (by decide) (by decide) 1 (by decide)
            | 2, _ => (repeat (first | rw [uI_e (by decide)] | rw [uI_j (by decide)])) <;> first | rfl | exact RR_t hU.2.1 (i := 3) (by decide) (by decide) 2 (by decide)
            | 3, _ => (repeat (first | rw [uI_e (by decide)] | rw [uI_j (by decide)])) <;> first | rfl | exact RR_t hU.2.1 (i := 3) (by decide) (by decide) 3 (by decide)
            | 4, _ => (repeat (first | rw [uI_e (by decide)] | rw [uI_j (by decide)])) <;> first | rfl | exact RR_t hU.2.1 (i := 3) (by decide) (by decide) 4 (by decide)
            | 5, _ => (repeat (first | rw [uI_e (by decide)] | rw [uI_j (by decide)])) <;> first | rfl | exact RR_t hU.2.1 (i := 3) (by decide) (by decide) 5 (by decide)
            | 6, _ => (repeat (first | rw [uI_e (by decide)] | rw [uI_j (by decide)])) <;> first | rfl | exact RR_t hU.2.1 (i := 3) (by decide) (by decide) 6 (by decide)
            | 7, _ => (repeat (first | rw [uI_e (by decide)] | rw [uI_j (by decide)])) <;> first | rfl | exact RR_t hU.2.1 (i := 3) (by decide) (by decide) 7 (by decide)
            | 8, _ => (repeat (first | rw [uI_e (by decide)] | rw [uI_j (by decide)])) <;> first | rfl | exact RR_t hU.2.1 (i := 3) (by decide) (by decide) 8 (by decide)
            | 9, _ => (repeat (first | rw [uI_e (by decide)] | rw [uI_j (by decide)])) <;> first | rfl | exact RR_t hU.2.1 (i := 3) (by decide) (by decide) 9 (by decide)
            | 10, _ => (repeat (first | rw [uI_e (by decide)] | rw [uI_j (by decide)])) <;> first | rfl | exact RR_t hU.2.1 (i := 3) (by decide) (by decide) 10 (by decide)
            | 11, _ => (repeat (first | rw [uI_e (by decide)] | rw [uI_j (by decide)])) <;> first | rfl | exact RR_t hU.2.1 (i := 3) (by decide) (by decide) 11 (by decide)⟩) (RU_I (hE57) (I' := I) (fun _ => rfl) (fun _ => rfl) (Nat.le_refl _) hU)
          have hA59 : RA w B R H hb h54 (I, Q, (uZ Z 3 (mrqr (Z 3).1 kd rc vl, (Z 3).2))) := RA_u.mpr ⟨_, _, _, _, hS55, hU58⟩
          refine go_callV (pc' := 85) rfl rfl rfl (Nat.le_of_ble_eq_true rfl) rfl (sm_o hS55 rfl) rfl rfl rfl (ra_tl_1 hA59 (by omega) hp0 (Or.inr (Or.inr e6)) (fun z => absurd (e6.symm.trans z) (by decide)) hoh h5 (by omega)) (fun r h60 q61 => ?_)
          obtain ⟨rfl, hA62⟩ := q61
          refine go_s (pc' := 86) rfl rfl rfl rfl ?_
          refine go_ret rfl rfl ?_
          have hms : rreq 0 kd rc vl (I, Q, Z) = ((Z 3).1 0 + 1, rtl 1 (mrqZ 0 kd rc vl (I, Q, Z))) := by
            unfold rreq
            rw [if_pos (show lv (I, Q, Z).1 (1 + 0) = true from u5), show row1 (I, Q, Z) (1 + 0) = (Z 3).1 from row1_l (v := 3) e6 (by decide), if_neg (fun z => z.elim c37 c38)]
          have hz9 : mrqZ 0 kd rc vl (I, Q, Z) = (I, Q, (uZ Z 3 (mrqr (Z 3).1 kd rc vl, (Z 3).2))) := by
            unfold mrqZ
            rw [show row1 (I, Q, Z) (1 + 0) = (Z 3).1 from row1_l (v := 3) e6 (by decide), show rwi (I, Q, Z).1 (1 + 0) = 3 from rwi_l (v := 3) e6 (by decide)]
          rw [hms, hz9]
          exact ⟨rfl, hA62⟩
        · skip
          have c38 : (I 16 1) = 1 := Decidable.not_not.mp c38'
          refine go_s (pc' := 36) (st' := [.int (-1)]) rfl rfl rfl rfl ?_
          refine go_ret rfl rfl ?_
          have hms : rreq 0 kd rc vl (I, Q, Z) = (-1, (I, Q, Z)) := by
            unfold rreq
            rw [if_pos (show lv (I, Q, Z).1 (1 + 0) = true from u5), show row1 (I, Q, Z) (1 + 0) = (Z 3).1 from row1_l (v := 3) e6 (by decide), if_pos (Or.inr c38)]
          rw [hms]
          exact ⟨rfl, RA_R (by omega) hA⟩
theorem ra_rq_1 {w : Nat → Bool} {d B R : Nat} {H : List (Nat × mg)} {hb : Bool} {h : am_Hp} {I : sm_I} {Q : mQ} {Z : mZ} (hA : RA w B R H hb h (I, Q, Z)) (hR : R + 1 < 40000) {kd rc vl : Int32} (hp0 : prk I 0) (hpk : prk I 2) (hoh : ¬ I 12 2 = -1 → I 12 2 = ohI I 2) (h5 : ¬ I 12 2 = -1 → sq Q + hc H hb ≤ 5) (hd : 6 ≤ d) : am_Ev (am_prog w) d 123 [.ref 62, .int 1, .int kd, .int rc, .int vl] h (fun r h' => r = some (.int (rreq 1 kd rc vl (I, Q, Z)).1) ∧ RA w B (R + 1) H hb h' (rreq 1 kd rc vl (I, Q, Z)).2) := by
  obtain ⟨K, Y, am, ln, hS, hU⟩ := RA_u.mp hA
  change sm (tbr am (13 * ln) 77 5088) h (jn I K) Y at hS
  obtain ⟨hW, hWm, -, -, hr, -⟩ := id hU.1
  have hln := RU_ln hU (by omega)
  obtain ⟨d, rfl⟩ : ∃ e, d = e + 1 := ⟨d - 1, by omega⟩
  refine ev_go rfl (Nat.le_of_ble_eq_true rfl) rfl ?_
  refine go_s (pc' := 1) rfl rfl rfl rfl ?_
  refine go_s (pc' := 2) (st' := [.int 0, .int 1]) rfl rfl rfl rfl ?_
  refine go_s (pc' := 3) (st' := [.int 1, .int 0, .int 1]) rfl rfl rfl rfl ?_
  refine go_callS (pc' := 4) rfl rfl rfl (Nat.le_of_ble_eq_true rfl) rfl rfl rfl (rt_within_t (q := 1) (n := 1) (by decide) (by decide) (by omega)) (fun r h1 q2 => ?_)
  obtain ⟨rfl, rfl⟩ := q2
  refine go_ifP (t' := 11) (pc' := 5) rfl rfl rfl (fun (c : (1 : Int32) = 0) => absurd c (by decide)) (fun _ => ?_)
  refine go_s (pc' := 6) rfl rfl rfl rfl ?_
  refine go_s (pc' := 7) (st' := [.int 1, .ref 62]) rfl rfl rfl rfl ?_
  refine go_s (pc' := 8) rfl rfl rfl rfl ?_
  refine go_s (pc' := 9) (st' := [.int 2, .ref 62]) rfl rfl rfl rfl ?_
  refine go_callV (pc' := 10) rfl rfl rfl (Nat.le_of_ble_eq_true rfl) rfl (sm_o hS rfl) rfl rfl rfl (rt_lives_2 hr hS hpk (by omega)) (fun r h3 q4 => ?_)
  obtain ⟨rfl, rfl⟩ := q4
  rw [show lv (jn I K) 2 = lv I 2 from rfl]
  cases u5 : lv I 2
  · skip
    show am_Go _ _ _ _ 10 _ [.int 0] _ _
    refine go_ifP (t' := 13) (pc' := 11) rfl rfl rfl (fun (c : ¬ (0 : Int32) = 0) => absurd c (by decide)) (fun _ => ?_)
    refine go_s (pc' := 12) (st' := [.int (-1)]) rfl rfl rfl rfl ?_
    refine go_ret rfl rfl ?_
    have hms : rreq 1 kd rc vl (I, Q, Z) = (-1, (I, Q, Z)) := if_neg (by rw [show lv (I, Q, Z).1 (1 + 1) = false from u5]; decide)
    rw [hms]
    exact ⟨rfl, RA_R (by omega) hA⟩
  · skip
    show am_Go _ _ _ _ 10 _ [.int 1] _ _
    refine go_ifP (t' := 13) (pc' := 11) rfl rfl rfl (fun _ => ?_) (fun (c : ¬ (¬ (1 : Int32) = 0)) => absurd (by decide) c)
    have hnk := (lv_up u5).1
    rcases hpk with e6 | e6 | e6
    · skip
      exact absurd e6 hnk
    · skip
      have hnk := (lv_up u5).1
      refine go_s (pc' := 14) (st' := [.int 1]) rfl rfl rfl rfl ?_
      refine go_s (pc' := 15) rfl rfl rfl rfl ?_
      refine go_s (pc' := 16) (st' := [.int 2]) rfl rfl rfl rfl ?_
      refine go_s (pc' := 17) (lo' := [some (.ref 62), some (.int 1), some (.int kd), some (.int rc), some (.int vl), some (.int 2), none, none]) rfl rfl rfl rfl ?_
      refine go_s (pc' := 18) rfl rfl rfl rfl ?_
      refine go_s (pc' := 19) rfl rfl rfl rfl ?_
      refine go_callV (pc' := 20) rfl rfl rfl (Nat.le_of_ble_eq_true rfl) rfl (sm_o hS rfl) rfl rfl rfl (rt_at_2 hr hS (Or.inr (Or.inl e6)) (fun z => absurd (e6.symm.trans z) (by decide)) (by omega)) (fun r h7 q8 => ?_)
      obtain ⟨rfl, rfl⟩ := q8
      rw [show rwi (jn I K) 2 = 4 by unfold rwi pn; rw [show (jn I K) 11 2 = 2 from e6]; rfl]
      show am_Go _ _ _ _ 20 _ [.int 1696] _ _
      refine go_s (pc' := 21) (lo' := [some (.ref 62), some (.int 1), some (.int kd), some (.int rc), some (.int vl), some (.int 2), some (.int 1696), none]) rfl rfl rfl rfl ?_
      refine go_s (pc' := 22) rfl rfl rfl rfl ?_
      refine go_sget (pc' := 23) (v := .ref 77) hS rfl rfl rfl (by decide) rfl rfl ?_
      refine go_s (pc' := 24) rfl rfl rfl rfl ?_
      refine go_s (pc' := 25) (st' := [.int 1, .int 1696, .ref 77]) rfl rfl rfl rfl ?_
      refine go_s (pc' := 26) (st' := [.int 1697, .ref 77]) rfl rfl rfl rfl ?_
      refine go_sald (pc' := 27) (q := 1697) (v := .int ((Z 4).1 1)) hS rfl (tr_as hr (by omega)) rfl rfl (by decide) (congrArg Value.int (RR_t hU.2.1 (i := 4) (by decide) (by decide) 1 (by decide))) rfl ?_
      refine go_s (pc' := 28) (st' := [.int 1, .int ((Z 4).1 1)]) rfl rfl rfl rfl ?_
      refine go_icmpP (t' := 35) (pc' := 29) rfl rfl rfl (fun (c9 : ((Z 4).1 1) = 1) => ?_) (fun (c9 : ¬ ((Z 4).1 1) = 1) => ?_)
      · skip
        refine go_s (pc' := 36) (st' := [.int (-1)]) rfl rfl rfl rfl ?_
        refine go_ret rfl rfl ?_
        have hms : rreq 1 kd rc vl (I, Q, Z) = (-1, (I, Q, Z)) := by
          unfold rreq
          rw [if_pos (show lv (I, Q, Z).1 (1 + 1) = true from u5), show row1 (I, Q, Z) (1 + 1) = (Z 4).1 from row1_l (v := 2) e6 (by decide), if_pos (Or.inl c9)]
        rw [hms]
        exact ⟨rfl, RA_R (by omega) hA⟩
      · skip
        refine go_s (pc' := 30) rfl rfl rfl rfl ?_
        refine go_sget (pc' := 31) (v := .ref 83) hS rfl rfl rfl (by decide) rfl rfl ?_
        refine go_s (pc' := 32) rfl rfl rfl rfl ?_
        refine go_sald (pc' := 33) (q := 2) (v := .int (I 16 2)) hS rfl (tr_s hr (a := 83) rfl (by decide)) rfl rfl (by decide) rfl rfl ?_
        refine go_s (pc' := 34) (st' := [.int 1, .int (I 16 2)]) rfl rfl rfl rfl ?_
        refine go_icmpP (t' := 37) (pc' := 35) rfl rfl rfl (fun (c10 : ¬ (I 16 2) = 1) => ?_) (fun (c10' : ¬ ¬ (I 16 2) = 1) => ?_)
        · skip
          refine go_s (pc' := 38) rfl rfl rfl rfl ?_
          refine go_sget (pc' := 39) (v := .ref 77) hS rfl rfl rfl (by decide) rfl rfl ?_
          refine go_s (pc' := 40) rfl rfl rfl rfl ?_
          refine go_s (pc' := 41) (st' := [.int 0, .int 1696, .ref 77]) rfl rfl rfl rfl ?_
          refine go_s (pc' := 42) (st' := [.int 1696, .ref 77]) rfl rfl rfl rfl ?_
          refine go_s (pc' := 43) rfl rfl rfl rfl ?_
          refine go_sald (pc' := 44) (q := 1696) (v := .int ((Z 4).1 0)) hS rfl (tr_as hr (by omega)) rfl rfl (by decide) (congrArg Value.int (RR_t hU.2.1 (i := 4) (by decide) (by decide) 0 (by decide))) rfl ?_
          refine go_s (pc' := 45) (st' := [.int 1, .int ((Z 4).1 0), .int 1696, .ref 77]) rfl rfl rfl rfl ?_
          refine go_s (pc' := 46) rfl rfl rfl rfl ?_
          refine go_siast (pc' := 47) (q := 1696) hS rfl (tr_as hr (by omega)) tbr_inj (Nat.le_of_ble_eq_true rfl) rfl (by decide) (by decide) (hW _ (by decide) (by decide)) rfl (fun h11 hS12 hE13 => ?_)
          refine go_s (pc' := 48) rfl rfl rfl rfl ?_
          refine go_sget (pc' := 49) (v := .ref 77) hS12 rfl rfl rfl (by decide) rfl rfl ?_
          refine go_s (pc' := 50) rfl rfl rfl rfl ?_
          refine go_s (pc' := 51) (st' := [.int 1, .int 1696, .ref 77]) rfl rfl rfl rfl ?_
          refine go_s (pc' := 52) (st' := [.int 1697, .ref 77]) rfl rfl rfl rfl ?_
          refine go_s (pc' := 53) (st' := [.int 1, .int 1697, .ref 77]) rfl rfl rfl rfl ?_
          refine go_siast (pc' := 54) (q := 1697) hS12 rfl (tr_as hr (by omega)) tbr_inj (Nat.le_of_ble_eq_true rfl) rfl (by decide) (by decide) (hW _ (by decide) (by decide)) rfl (fun h14 hS15 hE16 => ?_)
          have hE17 := sm_e_trans hE13 hE16
          refine go_s (pc' := 55) rfl rfl rfl rfl ?_
          refine go_sget (pc' := 56) (v := .ref 77) hS15 rfl rfl rfl (by decide) rfl rfl ?_
          refine go_s (pc' := 57) rfl rfl rfl rfl ?_
          refine go_s (pc' := 58) (st' := [.int 2, .int 1696, .ref 77]) rfl rfl rfl rfl ?_
          refine go_s (pc' := 59) (st' := [.int 1698, .ref 77]) rfl rfl rfl rfl ?_
          refine go_s (pc' := 60) rfl rfl rfl rfl ?_
          refine go_siast (pc' := 61) (q := 1698) hS15 rfl (tr_as hr (by omega)) tbr_inj (Nat.le_of_ble_eq_true rfl) rfl (by decide) (by decide) (hW _ (by decide) (by decide)) rfl (fun h18 hS19 hE20 => ?_)
          have hE21 := sm_e_trans hE17 hE20
          refine go_s (pc' := 62) rfl rfl rfl rfl ?_
          refine go_sget (pc' := 63) (v := .ref 77) hS19 rfl rfl rfl (by decide) rfl rfl ?_
          refine go_s (pc' := 64) rfl rfl rfl rfl ?_
          refine go_s (pc' := 65) (st' := [.int 3, .int 1696, .ref 77]) rfl rfl rfl rfl ?_
          refine go_s (pc' := 66) (st' := [.int 1699, .ref 77]) rfl rfl rfl rfl ?_
          refine go_s (pc' := 67) rfl rfl rfl rfl ?_
          refine go_siast (pc' := 68) (q := 1699) hS19 rfl (tr_as hr (by omega)) tbr_inj (Nat.le_of_ble_eq_true rfl) rfl (by decide) (by decide) (hW _ (by decide) (by decide)) rfl (fun h22 hS23 hE24 => ?_)
          have hE25 := sm_e_trans hE21 hE24
          refine go_s (pc' := 69) rfl rfl rfl rfl ?_
          refine go_sget (pc' := 70) (v := .ref 77) hS23 rfl rfl rfl (by decide) rfl rfl ?_
          refine go_s (pc' := 71) rfl rfl rfl rfl ?_
          refine go_s (pc' := 72) (st' := [.int 4, .int 1696, .ref 77]) rfl rfl rfl rfl ?_
          refine go_s (pc' := 73) (st' := [.int 1700, .ref 77]) rfl rfl rfl rfl ?_
          refine go_s (pc' := 74) rfl rfl rfl rfl ?_
          refine go_siast (pc' := 75) (q := 1700) hS23 rfl (tr_as hr (by omega)) tbr_inj (Nat.le_of_ble_eq_true rfl) rfl (by decide) (by decide) (hW _ (by decide) (by decide)) rfl (fun h26 hS27 hE28 => ?_)
          have hE29 := sm_e_trans hE25 hE28
          refine go_s (pc' := 76) rfl rfl rfl rfl ?_
          refine go_sget (pc' := 77) (v := .ref 77) hS27 rfl rfl rfl (by decide) rfl rfl ?_
          refine go_s (pc' := 78) rfl rfl rfl rfl ?_
          refine go_s (pc' := 79) (st' := [.int 0, .int 1696, .ref 77]) rfl rfl rfl rfl ?_
          refine go_s (pc' := 80) (st' := [.int 1696, .ref 77]) rfl rfl rfl rfl ?_
          refine go_sald (pc' := 81) (q := 1696) (v := .int (((Z 4).1 0) + 1)) hS27 rfl (tr_as hr (by omega)) rfl rfl (by decide) rfl rfl ?_
          refine go_s (pc' := 82) (lo' := [some (.ref 62), some (.int 1), some (.int kd), some (.int rc), some (.int vl), some (.int 2), some (.int 1696), some (.int (((Z 4).1 0) + 1))]) rfl rfl rfl rfl ?_
          refine go_s (pc' := 83) rfl rfl rfl rfl ?_
          refine go_s (pc' := 84) rfl rfl rfl rfl ?_
          change sm (tbr am (13 * ln) 77 5088) _ (uI (uI (uI (uI (uI (jn I K) 51 1696 (((Z 4).1 0) + 1)) 51 1697 1) 51 1698 kd) 51 1699 rc) 51 1700 vl) Y at hS27
          rw [jn_hi (c := 51) (by decide), jn_hi (c := 51) (by decide), jn_hi (c := 51) (by decide), jn_hi (c := 51) (by decide), jn_hi (c := 51) (by decide)] at hS27
          have hU30 : RU w B R H hb h26 am ln (uI (uI (uI (uI (uI K 51 1696 (((Z 4).1 0) + 1)) 51 1697 1) 51 1698 kd) 51 1699 rc) 51 1700 vl) (I, Q, (uZ Z 4 (mrqr (Z 4).1 kd rc vl, (Z 4).2))) := RU_row (K' := (uI (uI (uI (uI (uI K 51 1696 (((Z 4).1 0) + 1)) 51 1697 1) 51 1698 kd) 51 1699 rc) 51 1700 vl)) (s := (mrqr (Z 4).1 kd rc vl, (Z 4).2)) (by decide) (fun c j _ hc => by
            simp only [uI]
            rw [if_neg (by omega), if_neg (by omega), if_neg (by omega), if_neg (by omega), if_neg (by omega)]) (⟨fun h => absurd h (by decide), fun _ j hj => by
            match j, hj with
            | 0, _ => (repeat (first | rw [uI_e (by decide)] | rw [uI_j (by decide)])) <;> first | rfl | exact RR_t hU.2.1 (i := 4) (by decide) (by decide) 0 (by decide)
            | 1, _ => (repeat (first | rw [uI_e (by decide)] | rw [uI_j (by decide)])) <;> first | rfl | exact RR_t hU.2.1 (i := 4) (by decide) (by decide) 1 (by decide)
            | 2, _ => (repeat (first | rw [uI_e (by decide)] | rw [uI_j (by decide)])) <;> first | rfl | exact RR_t hU.2.1 (i := 4) (by decide) (by decide) 2 (by decide)
            | 3, _ => (repeat (first | rw [uI_e (by decide)] | rw [uI_j (by decide)])) <;> first | rfl | exact RR_t hU.2.1 (i := 4) (by decide) (by decide) 3 (by decide)
            | 4, _ => (repeat (first | rw [uI_e (by decide)] | rw [uI_j (by decide)])) <;> first | rfl | exact RR_t hU.2.1 (i := 4) (by decide) (by decide) 4 (by decide)
            | 5, _ => (repeat (first | rw [uI_e (by decide)] | rw [uI_j (by decide)])) <;> first | rfl | exact RR_t hU.2.1 (i := 4) (by decide) (by decide) 5 (by decide)
            | 6, _ => (repeat (first | rw [uI_e (by decide)] | rw [uI_j (by decide)])) <;> first | rfl | exact RR_t hU.2.1 (i := 4) (by decide) (by decide) 6 (by decide)
            | 7, _ => (repeat (first | rw [uI_e (by decide)] | rw [uI_j (by decide)])) <;> first | rfl | exact RR_t hU.2.1 (i := 4) (by decide) (by decide) 7 (by decide)
            | 8, _ => (repeat (first | rw [uI_e (by decide)] | rw [uI_j (by decide)])) <;> first | rfl | exact RR_t hU.2.1 (i := 4) (by decide) (by decide) 8 (by decide)
            | 9, _ => (repeat (first | rw [uI_e (by decide)] | rw [uI_j (by decide)])) <;> first | rfl | exact RR_t hU.2.1 (i := 4) (by decide) (by decide) 9 (by decide)
            | 10, _ => (repeat (first | rw [uI_e (by decide)] | rw [uI_j (by decide)])) <;> first | rfl | exact RR_t hU.2.1 (i := 4) (by decide) (by decide) 10 (by decide)
            | 11, _ => (repeat (first | rw [uI_e (by decide)] | rw [uI_j (by decide)])) <;> first | rfl | exact RR_t hU.2.1 (i := 4) (by decide) (by decide) 11 (by decide)⟩) (RU_I (hE29) (I' := I) (fun _ => rfl) (fun _ => rfl) (Nat.le_refl _) hU)
          have hA31 : RA w B R H hb h26 (I, Q, (uZ Z 4 (mrqr (Z 4).1 kd rc vl, (Z 4).2))) := RA_u.mpr ⟨_, _, _, _, hS27, hU30⟩
          refine go_callV (pc' := 85) rfl rfl rfl (Nat.le_of_ble_eq_true rfl) rfl (sm_o hS27 rfl) rfl rfl rfl (ra_tl_2 hA31 (by omega) hp0 (Or.inr (Or.inl e6)) (fun z => absurd (e6.symm.trans z) (by decide)) hoh h5 (by omega)) (fun r h32 q33 => ?_)
          obtain ⟨rfl, hA34⟩ := q33
          refine go_s (pc' := 86) rfl rfl rfl rfl ?_
          refine go_ret rfl rfl ?_
          have hms : rreq 1 kd rc vl (I, Q, Z) = ((Z 4).1 0 + 1, rtl 2 (mrqZ 1 kd rc vl (I, Q, Z))) := by
            unfold rreq
            rw [if_pos (show lv (I, Q, Z).1 (1 + 1) = true from u5), show row1 (I, Q, Z) (1 + 1) = (Z 4).1 from row1_l (v := 2) e6 (by decide), if_neg (fun z => z.elim c9 c10)]
          have hz9 : mrqZ 1 kd rc vl (I, Q, Z) = (I, Q, (uZ Z 4 (mrqr (Z 4).1 kd rc vl, (Z 4).2))) := by
            unfold mrqZ
            rw [show row1 (I, Q, Z) (1 + 1) = (Z 4).1 from row1_l (v := 2) e6 (by decide), show rwi (I, Q, Z).1 (1 + 1) = 4 from rwi_l (v := 2) e6 (by decide)]
          rw [hms, hz9]
          exact ⟨rfl, hA34⟩
        · skip
          have c10 : (I 16 2) = 1 := Decidable.not_not.mp c10'
          refine go_s (pc' := 36) (st' := [.int (-1)]) rfl rfl rfl rfl ?_
          refine go_ret rfl rfl ?_
          have hms : rreq 1 kd rc vl (I, Q, Z) = (-1, (I, Q, Z)) := by
            unfold rreq
            rw [if_pos (show lv (I, Q, Z).1 (1 + 1) = true from u5), show row1 (I, Q, Z) (1 + 1) = (Z 4).1 from row1_l (v := 2) e6 (by decide), if_pos (Or.inr c10)]
          rw [hms]
          exact ⟨rfl, RA_R (by omega) hA⟩
    · skip
      have hnk := (lv_up u5).1
      refine go_s (pc' := 14) (st' := [.int 1]) rfl rfl rfl rfl ?_
      refine go_s (pc' := 15) rfl rfl rfl rfl ?_
      refine go_s (pc' := 16) (st' := [.int 2]) rfl rfl rfl rfl ?_
      refine go_s (pc' := 17) (lo' := [some (.ref 62), some (.int 1), some (.int kd), some (.int rc), some (.int vl), some (.int 2), none, none]) rfl rfl rfl rfl ?_
      refine go_s (pc' := 18) rfl rfl rfl rfl ?_
      refine go_s (pc' := 19) rfl rfl rfl rfl ?_
      refine go_callV (pc' := 20) rfl rfl rfl (Nat.le_of_ble_eq_true rfl) rfl (sm_o hS rfl) rfl rfl rfl (rt_at_2 hr hS (Or.inr (Or.inr e6)) (fun z => absurd (e6.symm.trans z) (by decide)) (by omega)) (fun r h35 q36 => ?_)
      obtain ⟨rfl, rfl⟩ := q36
      rw [show rwi (jn I K) 2 = 5 by unfold rwi pn; rw [show (jn I K) 11 2 = 3 from e6]; rfl]
      show am_Go _ _ _ _ 20 _ [.int 2120] _ _
      refine go_s (pc' := 21) (lo' := [some (.ref 62), some (.int 1), some (.int kd), some (.int rc), some (.int vl), some (.int 2), some (.int 2120), none]) rfl rfl rfl rfl ?_
      refine go_s (pc' := 22) rfl rfl rfl rfl ?_
      refine go_sget (pc' := 23) (v := .ref 77) hS rfl rfl rfl (by decide) rfl rfl ?_
      refine go_s (pc' := 24) rfl rfl rfl rfl ?_
      refine go_s (pc' := 25) (st' := [.int 1, .int 2120, .ref 77]) rfl rfl rfl rfl ?_
      refine go_s (pc' := 26) (st' := [.int 2121, .ref 77]) rfl rfl rfl rfl ?_
      refine go_sald (pc' := 27) (q := 2121) (v := .int ((Z 5).1 1)) hS rfl (tr_as hr (by omega)) rfl rfl (by decide) (congrArg Value.int (RR_t hU.2.1 (i := 5) (by decide) (by decide) 1 (by decide))) rfl ?_
      refine go_s (pc' := 28) (st' := [.int 1, .int ((Z 5).1 1)]) rfl rfl rfl rfl ?_
      refine go_icmpP (t' := 35) (pc' := 29) rfl rfl rfl (fun (c37 : ((Z 5).1 1) = 1) => ?_) (fun (c37 : ¬ ((Z 5).1 1) = 1) => ?_)
      · skip
        refine go_s (pc' := 36) (st' := [.int (-1)]) rfl rfl rfl rfl ?_
        refine go_ret rfl rfl ?_
        have hms : rreq 1 kd rc vl (I, Q, Z) = (-1, (I, Q, Z)) := by
          unfold rreq
          rw [if_pos (show lv (I, Q, Z).1 (1 + 1) = true from u5), show row1 (I, Q, Z) (1 + 1) = (Z 5).1 from row1_l (v := 3) e6 (by decide), if_pos (Or.inl c37)]
        rw [hms]
        exact ⟨rfl, RA_R (by omega) hA⟩
      · skip
        refine go_s (pc' := 30) rfl rfl rfl rfl ?_
        refine go_sget (pc' := 31) (v := .ref 83) hS rfl rfl rfl (by decide) rfl rfl ?_
        refine go_s (pc' := 32) rfl rfl rfl rfl ?_
        refine go_sald (pc' := 33) (q := 2) (v := .int (I 16 2)) hS rfl (tr_s hr (a := 83) rfl (by decide)) rfl rfl (by decide) rfl rfl ?_
        refine go_s (pc' := 34) (st' := [.int 1, .int (I 16 2)]) rfl rfl rfl rfl ?_
        refine go_icmpP (t' := 37) (pc' := 35) rfl rfl rfl (fun (c38 : ¬ (I 16 2) = 1) => ?_) (fun (c38' : ¬ ¬ (I 16 2) = 1) => ?_)
        · skip
          refine go_s (pc' := 38) rfl rfl rfl rfl ?_
          refine go_sget (pc' := 39) (v := .ref 77) hS rfl rfl rfl (by decide) rfl rfl ?_
          refine go_s (pc' := 40) rfl rfl rfl rfl ?_
          refine go_s (pc' := 41) (st' := [.int 0, .int 2120, .ref 77]) rfl rfl rfl rfl ?_
          refine go_s (pc' := 42) (st' := [.int 2120, .ref 77]) rfl rfl rfl rfl ?_
          refine go_s (pc' := 43) rfl rfl rfl rfl ?_
          refine go_sald (pc' := 44) (q := 2120) (v := .int ((Z 5).1 0)) hS rfl (tr_as hr (by omega)) rfl rfl (by decide) (congrArg Value.int (RR_t hU.2.1 (i := 5) (by decide) (by decide) 0 (by decide))) rfl ?_
          refine go_s (pc' := 45) (st' := [.int 1, .int ((Z 5).1 0), .int 2120, .ref 77]) rfl rfl rfl rfl ?_
          refine go_s (pc' := 46) rfl rfl rfl rfl ?_
          refine go_siast (pc' := 47) (q := 2120) hS rfl (tr_as hr (by omega)) tbr_inj (Nat.le_of_ble_eq_true rfl) rfl (by decide) (by decide) (hW _ (by decide) (by decide)) rfl (fun h39 hS40 hE41 => ?_)
          refine go_s (pc' := 48) rfl rfl rfl rfl ?_
          refine go_sget (pc' := 49) (v := .ref 77) hS40 rfl rfl rfl (by decide) rfl rfl ?_
          refine go_s (pc' := 50) rfl rfl rfl rfl ?_
          refine go_s (pc' := 51) (st' := [.int 1, .int 2120, .ref 77]) rfl rfl rfl rfl ?_
          refine go_s (pc' := 52) (st' := [.int 2121, .ref 77]) rfl rfl rfl rfl ?_
          refine go_s (pc' := 53) (st' := [.int 1, .int 2121, .ref 77]) rfl rfl rfl rfl ?_
          refine go_siast (pc' := 54) (q := 2121) hS40 rfl (tr_as hr (by omega)) tbr_inj (Nat.le_of_ble_eq_true rfl) rfl (by decide) (by decide) (hW _ (by decide) (by decide)) rfl (fun h42 hS43 hE44 => ?_)
          have hE45 := sm_e_trans hE41 hE44
          refine go_s (pc' := 55) rfl rfl rfl rfl ?_
          refine go_sget (pc' := 56) (v := .ref 77) hS43 rfl rfl rfl (by decide) rfl rfl ?_
          refine go_s (pc' := 57) rfl rfl rfl rfl ?_
          refine go_s (pc' := 58) (st' := [.int 2, .int 2120, .ref 77]) rfl rfl rfl rfl ?_
          refine go_s (pc' := 59) (st' := [.int 2122, .ref 77]) rfl rfl rfl rfl ?_
          refine go_s (pc' := 60) rfl rfl rfl rfl ?_
          refine go_siast (pc' := 61) (q := 2122) hS43 rfl (tr_as hr (by omega)) tbr_inj (Nat.le_of_ble_eq_true rfl) rfl (by decide) (by decide) (hW _ (by decide) (by decide)) rfl (fun h46 hS47 hE48 => ?_)
          have hE49 := sm_e_trans hE45 hE48
          refine go_s (pc' := 62) rfl rfl rfl rfl ?_
          refine go_sget (pc' := 63) (v := .ref 77) hS47 rfl rfl rfl (by decide) rfl rfl ?_
          refine go_s (pc' := 64) rfl rfl rfl rfl ?_
          refine go_s (pc' := 65) (st' := [.int 3, .int 2120, .ref 77]) rfl rfl rfl rfl ?_
          refine go_s (pc' := 66) (st' := [.int 2123, .ref 77]) rfl rfl rfl rfl ?_
          refine go_s (pc' := 67) rfl rfl rfl rfl ?_
          refine go_siast (pc' := 68) (q := 2123) hS47 rfl (tr_as hr (by omega)) tbr_inj (Nat.le_of_ble_eq_true rfl) rfl (by decide) (by decide) (hW _ (by decide) (by decide)) rfl (fun h50 hS51 hE52 => ?_)
          have hE53 := sm_e_trans hE49 hE52
          refine go_s (pc' := 69) rfl rfl rfl rfl ?_
          refine go_sget (pc' := 70) (v := .ref 77) hS51 rfl rfl rfl (by decide) rfl rfl ?_
          refine go_s (pc' := 71) rfl rfl rfl rfl ?_
          refine go_s (pc' := 72) (st' := [.int 4, .int 2120, .ref 77]) rfl rfl rfl rfl ?_
          refine go_s (pc' := 73) (st' := [.int 2124, .ref 77]) rfl rfl rfl rfl ?_
          refine go_s (pc' := 74) rfl rfl rfl rfl ?_
          refine go_siast (pc' := 75) (q := 2124) hS51 rfl (tr_as hr (by omega)) tbr_inj (Nat.le_of_ble_eq_true rfl) rfl (by decide) (by decide) (hW _ (by decide) (by decide)) rfl (fun h54 hS55 hE56 => ?_)
          have hE57 := sm_e_trans hE53 hE56
          refine go_s (pc' := 76) rfl rfl rfl rfl ?_
          refine go_sget (pc' := 77) (v := .ref 77) hS55 rfl rfl rfl (by decide) rfl rfl ?_
          refine go_s (pc' := 78) rfl rfl rfl rfl ?_
          refine go_s (pc' := 79) (st' := [.int 0, .int 2120, .ref 77]) rfl rfl rfl rfl ?_
          refine go_s (pc' := 80) (st' := [.int 2120, .ref 77]) rfl rfl rfl rfl ?_
          refine go_sald (pc' := 81) (q := 2120) (v := .int (((Z 5).1 0) + 1)) hS55 rfl (tr_as hr (by omega)) rfl rfl (by decide) rfl rfl ?_
          refine go_s (pc' := 82) (lo' := [some (.ref 62), some (.int 1), some (.int kd), some (.int rc), some (.int vl), some (.int 2), some (.int 2120), some (.int (((Z 5).1 0) + 1))]) rfl rfl rfl rfl ?_
          refine go_s (pc' := 83) rfl rfl rfl rfl ?_
          refine go_s (pc' := 84) rfl rfl rfl rfl ?_
          change sm (tbr am (13 * ln) 77 5088) _ (uI (uI (uI (uI (uI (jn I K) 51 2120 (((Z 5).1 0) + 1)) 51 2121 1) 51 2122 kd) 51 2123 rc) 51 2124 vl) Y at hS55
          rw [jn_hi (c := 51) (by decide), jn_hi (c := 51) (by decide), jn_hi (c := 51) (by decide), jn_hi (c := 51) (by decide), jn_hi (c := 51) (by decide)] at hS55
          have hU58 : RU w B R H hb h54 am ln (uI (uI (uI (uI (uI K 51 2120 (((Z 5).1 0) + 1)) 51 2121 1) 51 2122 kd) 51 2123 rc) 51 2124 vl) (I, Q, (uZ Z 5 (mrqr (Z 5).1 kd rc vl, (Z 5).2))) := RU_row (K' := (uI (uI (uI (uI (uI K 51 2120 (((Z 5).1 0) + 1)) 51 2121 1) 51 2122 kd) 51 2123 rc) 51 2124 vl)) (s := (mrqr (Z 5).1 kd rc vl, (Z 5).2)) (by decide) (fun c j _ hc => by
            simp only [uI]
            rw [if_neg (by omega), if_neg (by omega), if_neg (by omega), if_neg (by omega), if_neg (by omega)]) (⟨fun h => absurd h (by decide), fun _ j hj => by
            match j, hj with
            | 0, _ => (repeat (first | rw [uI_e (by decide)] | rw [uI_j (by decide)])) <;> first | rfl | exact RR_t hU.2.1 (i := 5) (by decide) (by decide) 0 (by decide)
            | 1, _ => (repeat (first | rw [uI_e (by decide)] | rw [uI_j (by decide)])) <;> first | rfl | exact RR_t hU.2.1 (i := 5) (by decide) (by decide) 1 (by decide)
            | 2, _ => (repeat (first | rw [uI_e (by decide)] | rw [uI_j (by decide)])) <;> first | rfl | exact RR_t hU.2.1 (i := 5) (by decide) (by decide) 2 (by decide)
            | 3, _ => (repeat (first | rw [uI_e (by decide)] | rw [uI_j (by decide)])) <;> first | rfl | exact RR_t hU.2.1 (i := 5) (by decide) (by decide) 3 (by decide)
            | 4, _ => (repeat (first | rw [uI_e (by decide)] | rw [uI_j (by decide)])) <;> first | rfl | exact RR_t hU.2.1 (i := 5) (by decide) (by decide) 4 (by decide)
            | 5, _ => (repeat (first | rw [uI_e (by decide)] | rw [uI_j (by decide)])) <;> first | rfl | exact RR_t hU.2.1 (i := 5) (by decide) (by decide) 5 (by decide)
            | 6, _ => (repeat (first | rw [uI_e (by decide)] | rw [uI_j (by decide)])) <;> first | rfl | exact RR_t hU.2.1 (i := 5) (by decide) (by decide) 6 (by decide)
            | 7, _ => (repeat (first | rw [uI_e (by decide)] | rw [uI_j (by decide)])) <;> first | rfl | exact RR_t hU.2.1 (i := 5) (by decide) (by decide) 7 (by decide)
            | 8, _ => (repeat (first | rw [uI_e (by decide)] | rw [uI_j (by decide)])) <;> first | rfl | exact RR_t hU.2.1 (i := 5) (by decide) (by decide) 8 (by decide)
            | 9, _ => (repeat (first | rw [uI_e (by decide)] | rw [uI_j (by decide)])) <;> first | rfl | exact RR_t hU.2.1 (i := 5) (by decide) (by decide) 9 (by decide)
            | 10, _ => (repeat (first | rw [uI_e (by decide)] | rw [uI_j (by decide)])) <;> first | rfl | exact RR_t hU.2.1 (i := 5) (by decide) (by decide) 10 (by decide)
            | 11, _ => (repeat (first | rw [uI_e (by decide)] | rw [uI_j (by decide)])) <;> first | rfl | exact RR_t hU.2.1 (i := 5) (by decide) (by decide) 11 (by decide)⟩) (RU_I (hE57) (I' := I) (fun _ => rfl) (fun _ => rfl) (Nat.le_refl _) hU)
          have hA59 : RA w B R H hb h54 (I, Q, (uZ Z 5 (mrqr (Z 5).1 kd rc vl, (Z 5).2))) := RA_u.mpr ⟨_, _, _, _, hS55, hU58⟩
          refine go_callV (pc' := 85) rfl rfl rfl (Nat.le_of_ble_eq_true rfl) rfl (sm_o hS55 rfl) rfl rfl rfl (ra_tl_2 hA59 (by omega) hp0 (Or.inr (Or.inr e6)) (fun z => absurd (e6.symm.trans z) (by decide)) hoh h5 (by omega)) (fun r h60 q61 => ?_)
          obtain ⟨rfl, hA62⟩ := q61
          refine go_s (pc' := 86) rfl rfl rfl rfl ?_
          refine go_ret rfl rfl ?_
          have hms : rreq 1 kd rc vl (I, Q, Z) = ((Z 5).1 0 + 1, rtl 2 (mrqZ 1 kd rc vl (I, Q, Z))) := by
            unfold rreq
            rw [if_pos (show lv (I, Q, Z).1 (1 + 1) = true from u5), show row1 (I, Q, Z) (1 + 1) = (Z 5).1 from row1_l (v := 3) e6 (by decide), if_neg (fun z => z.elim c37 c38)]
          have hz9 : mrqZ 1 kd rc vl (I, Q, Z) = (I, Q, (uZ Z 5 (mrqr (Z 5).1 kd rc vl, (Z 5).2))) := by
            unfold mrqZ
            rw [show row1 (I, Q, Z) (1 + 1) = (Z 5).1 from row1_l (v := 3) e6 (by decide), show rwi (I, Q, Z).1 (1 + 1) = 5 from rwi_l (v := 3) e6 (by decide)]
          rw [hms, hz9]
          exact ⟨rfl, hA62⟩
        · skip
          have c38 : (I 16 2) = 1 := Decidable.not_not.mp c38'
          refine go_s (pc' := 36) (st' := [.int (-1)]) rfl rfl rfl rfl ?_
          refine go_ret rfl rfl ?_
          have hms : rreq 1 kd rc vl (I, Q, Z) = (-1, (I, Q, Z)) := by
            unfold rreq
            rw [if_pos (show lv (I, Q, Z).1 (1 + 1) = true from u5), show row1 (I, Q, Z) (1 + 1) = (Z 5).1 from row1_l (v := 3) e6 (by decide), if_pos (Or.inr c38)]
          rw [hms]
          exact ⟨rfl, RA_R (by omega) hA⟩
theorem RU_h {w : Nat → Bool} {B R : Nat} {H : List (Nat × mg)} {hb : Bool} {h : am_Hp} {am ln x : Nat} {K : sm_I} {M : mM} {m : mg} (k : RU w B R H hb h am ln K M) (hx : (x, m) ∈ H) : x < ln ∧ K 50 (13 * x) = m.1 0 ∧ K 50 (13 * x + 1) = m.1 1 ∧ K 50 (13 * x + 5) = m.1 5 ∧ (∀ i, i < mwn (m.1 0) → K 50 (13 * x + 6 + i) = m.1 (6 + i)) ∧ (isS m = true → ∃ r, 6 ≤ r ∧ r < 12 ∧ K 50 (13 * x + 12) = nI r ∧ RZ K (decide (m.1 5 = 0)) r m.2) := by
  obtain ⟨-, -, L, F, G, o, ro, rm, sr, a1, -⟩ := k
  obtain ⟨⟨-, p2, -⟩, -, -, -, -, p6, -⟩ := a1
  obtain ⟨q1, q2, ⟨s1, s2, s3, s4, s5, s6⟩, -⟩ := p6 x m hx
  refine ⟨by omega, s1, s2, s3, s4, fun z => ?_⟩
  obtain ⟨r, r1, r2, r3, -, r5⟩ := s6 z
  exact ⟨r, r1, r2, r3, r5⟩
theorem ra_rd_0 {w : Nat → Bool} {d B R : Nat} {x : Nat} {m : mg} {hb : Bool} {h : am_Hp} {I : sm_I} {Q : mQ} {Z : mZ} (hA : RA w B R [(x, m)] hb h (I, Q, Z)) (hR : R + 1 < 40000) (hm0 : m.1 0 = 2) (hp0 : prk I 0) (hpk : prk I 1) (hnk : ¬ I 11 1 = -1) (hoh : ¬ I 12 1 = -1 → I 12 1 = ohI I 1) (h5 : ¬ I 12 1 = -1 → sq Q + hc [(x, m)] hb ≤ 5) (hd : 6 ≤ d) : am_Ev (am_prog w) d 182 [.ref 62, .int 1, .int (nI (13 * x))] h (fun r h' => r = none ∧ RA w B (R + 1) [(x, m)] hb h' (rrd 0 (fun i => m.1 (5 + i)) (I, Q, Z))) := by
  obtain ⟨K, Y, am, ln, hS, hU⟩ := RA_u.mp hA
  change sm (tbr am (13 * ln) 77 5088) h (jn I K) Y at hS
  obtain ⟨hW, hWm, -, -, hr, -⟩ := id hU.1
  have hln := RU_ln hU (by omega)
  obtain ⟨d, rfl⟩ : ∃ e, d = e + 1 := ⟨d - 1, by omega⟩
  refine ev_go rfl (Nat.le_of_ble_eq_true rfl) rfl ?_
  have hx := RU_h hU (x := x) (m := m) (by simp)
  have hxl := hx.1
  rcases hpk with e1 | e1 | e1
  · skip
    exact absurd e1 hnk
  · skip
    refine go_s (pc' := 1) rfl rfl rfl rfl ?_
    refine go_s (pc' := 2) rfl rfl rfl rfl ?_
    refine go_callV (pc' := 3) rfl rfl rfl (Nat.le_of_ble_eq_true rfl) rfl (sm_o hS rfl) rfl rfl rfl (rt_at_1 hr hS (Or.inr (Or.inl e1)) (fun z => absurd (e1.symm.trans z) (by decide)) (by omega)) (fun r h2 q3 => ?_)
    obtain ⟨rfl, rfl⟩ := q3
    rw [show rwi (jn I K) 1 = 2 by unfold rwi pn; rw [show (jn I K) 11 1 = 2 from e1]; rfl]
    show am_Go _ _ _ _ 3 _ [.int 848] _ _
    refine go_s (pc' := 4) (lo' := [some (.ref 62), some (.int 1), some (.int (nI (13 * x))), some (.int 848), none]) rfl rfl rfl rfl ?_
    refine go_s (pc' := 5) rfl rfl rfl rfl ?_
    refine go_sget (pc' := 6) (v := .ref 83) hS rfl rfl rfl (by decide) rfl rfl ?_
    refine go_s (pc' := 7) rfl rfl rfl rfl ?_
    refine go_sald (pc' := 8) (q := 1) (v := .int (I 16 1)) hS rfl (tr_s hr (a := 83) rfl (by decide)) rfl rfl (by decide) rfl rfl ?_
    refine go_s (pc' := 9) (st' := [.int 2, .int (I 16 1)]) rfl rfl rfl rfl ?_
    refine go_icmpP (t' := 36) (pc' := 10) rfl rfl rfl (fun (c4 : ¬ (I 16 1) = 2) => ?_) (fun (c4' : ¬ ¬ (I 16 1) = 2) => ?_)
    · skip
      refine go_ret rfl rfl ?_
      have hms : rrd 0 (fun i => m.1 (5 + i)) (I, Q, Z) = (I, Q, Z) := by
        unfold rrd
        rw [show row1 (I, Q, Z) (1 + 0) = (Z 2).1 from row1_l (v := 2) e1 (by decide), if_pos (Or.inl c4)]
      rw [hms]
      exact ⟨rfl, RA_R (by omega) hA⟩
    · skip
      have c4 : (I 16 1) = 2 := Decidable.not_not.mp c4'
      refine go_s (pc' := 11) rfl rfl rfl rfl ?_
      refine go_sget (pc' := 12) (v := .ref am) hS rfl rfl rfl (by decide) rfl rfl ?_
      refine go_s (pc' := 13) rfl rfl rfl rfl ?_
      refine go_s (pc' := 14) (st' := [.int 6, .int (nI (13 * x)), .ref am]) rfl rfl rfl rfl ?_
      refine go_nadd (pc' := 15) (a := (13 * x)) (b := 6) rfl rfl rfl rfl rfl ?_
      refine go_sald (pc' := 16) (q := ((13 * x) + 6)) (v := .int (m.1 6)) hS rfl (tr_ms hr (by omega)) rfl rfl (by omega) (congrArg Value.int (hx.2.2.2.2.1 0 (by rw [hm0]; decide))) rfl ?_
      refine go_s (pc' := 17) rfl rfl rfl rfl ?_
      refine go_sget (pc' := 18) (v := .ref 77) hS rfl rfl rfl (by decide) rfl rfl ?_
      refine go_s (pc' := 19) rfl rfl rfl rfl ?_
      refine go_s (pc' := 20) (st' := [.int 11, .int 848, .ref 77, .int (m.1 6)]) rfl rfl rfl rfl ?_
      refine go_s (pc' := 21) (st' := [.int 859, .ref 77, .int (m.1 6)]) rfl rfl rfl rfl ?_
      refine go_sald (pc' := 22) (q := 859) (v := .int ((Z 2).1 11)) hS rfl (tr_as hr (by omega)) rfl rfl (by decide) (congrArg Value.int (RR_t hU.2.1 (i := 2) (by decide) (by decide) 11 (by decide))) rfl ?_
      refine go_icmpP (t' := 36) (pc' := 23) rfl rfl rfl (fun (c5 : ¬ (m.1 6) = ((Z 2).1 11)) => ?_) (fun (c5' : ¬ ¬ (m.1 6) = ((Z 2).1 11)) => ?_)
      · skip
        refine go_ret rfl rfl ?_
        have hms : rrd 0 (fun i => m.1 (5 + i)) (I, Q, Z) = (I, Q, Z) := by
          unfold rrd
          rw [show row1 (I, Q, Z) (1 + 0) = (Z 2).1 from row1_l (v := 2) e1 (by decide), if_pos (Or.inr (Or.inl c5))]
        rw [hms]
        exact ⟨rfl, RA_R (by omega) hA⟩
      · skip
        have c5 : (m.1 6) = ((Z 2).1 11) := Decidable.not_not.mp c5'
        refine go_s (pc' := 24) rfl rfl rfl rfl ?_
        refine go_sget (pc' := 25) (v := .ref am) hS rfl rfl rfl (by decide) rfl rfl ?_
        refine go_s (pc' := 26) rfl rfl rfl rfl ?_
        refine go_s (pc' := 27) (st' := [.int 7, .int (nI (13 * x)), .ref am]) rfl rfl rfl rfl ?_
        refine go_nadd (pc' := 28) (a := (13 * x)) (b := 7) rfl rfl rfl rfl rfl ?_
        refine go_sald (pc' := 29) (q := ((13 * x) + 7)) (v := .int (m.1 7)) hS rfl (tr_ms hr (by omega)) rfl rfl (by omega) (congrArg Value.int (hx.2.2.2.2.1 1 (by rw [hm0]; decide))) rfl ?_
        refine go_s (pc' := 30) rfl rfl rfl rfl ?_
        refine go_sget (pc' := 31) (v := .ref 77) hS rfl rfl rfl (by decide) rfl rfl ?_
        refine go_s (pc' := 32) rfl rfl rfl rfl ?_
        refine go_s (pc' := 33) (st' := [.int 0, .int 848, .ref 77, .int (m.1 7)]) rfl rfl rfl rfl ?_
        refine go_s (pc' := 34) (st' := [.int 848, .ref 77, .int (m.1 7)]) rfl rfl rfl rfl ?_
        refine go_sald (pc' := 35) (q := 848) (v := .int ((Z 2).1 0)) hS rfl (tr_as hr (by omega)) rfl rfl (by decide) (congrArg Value.int (RR_t hU.2.1 (i := 2) (by decide) (by decide) 0 (by decide))) rfl ?_
        refine go_icmpP (t' := 37) (pc' := 36) rfl rfl rfl (fun (c6 : (m.1 7) = ((Z 2).1 0)) => ?_) (fun (c6 : ¬ (m.1 7) = ((Z 2).1 0)) => ?_)
        · skip
          refine go_s (pc' := 38) rfl rfl rfl rfl ?_
          refine go_sget (pc' := 39) (v := .ref 77) hS rfl rfl rfl (by decide) rfl rfl ?_
          refine go_s (pc' := 40) rfl rfl rfl rfl ?_
          refine go_s (pc' := 41) (st' := [.int 1, .int 848, .ref 77]) rfl rfl rfl rfl ?_
          refine go_s (pc' := 42) (st' := [.int 849, .ref 77]) rfl rfl rfl rfl ?_
          refine go_s (pc' := 43) (st' := [.int 0, .int 849, .ref 77]) rfl rfl rfl rfl ?_
          refine go_siast (pc' := 44) (q := 849) hS rfl (tr_as hr (by omega)) tbr_inj (Nat.le_of_ble_eq_true rfl) rfl (by decide) (by decide) (hW _ (by decide) (by decide)) rfl (fun h7 hS8 hE9 => ?_)
          refine go_s (pc' := 45) rfl rfl rfl rfl ?_
          refine go_sget (pc' := 46) (v := .ref 77) hS8 rfl rfl rfl (by decide) rfl rfl ?_
          refine go_s (pc' := 47) rfl rfl rfl rfl ?_
          refine go_s (pc' := 48) (st' := [.int 6, .int 848, .ref 77]) rfl rfl rfl rfl ?_
          refine go_s (pc' := 49) (st' := [.int 854, .ref 77]) rfl rfl rfl rfl ?_
          refine go_s (pc' := 50) (st' := [.int 1, .int 854, .ref 77]) rfl rfl rfl rfl ?_
          refine go_siast (pc' := 51) (q := 854) hS8 rfl (tr_as hr (by omega)) tbr_inj (Nat.le_of_ble_eq_true rfl) rfl (by decide) (by decide) (hW _ (by decide) (by decide)) rfl (fun h10 hS11 hE12 => ?_)
          have hE13 := sm_e_trans hE9 hE12
          refine go_s (pc' := 52) (st' := [.int 0]) rfl rfl rfl rfl ?_
          refine go_s (pc' := 53) (lo' := [some (.ref 62), some (.int 1), some (.int (nI (13 * x))), some (.int 848), some (.int 0)]) rfl rfl rfl rfl ?_
          refine go_s (pc' := 54) rfl rfl rfl rfl ?_
          refine go_s (pc' := 55) (st' := [.int 4, .int 0]) rfl rfl rfl rfl ?_
          refine go_icmpP (t' := 74) (pc' := 56) rfl rfl rfl (fun (c : 4 ≤ (0 : Int32)) => absurd c (by decide)) (fun _ => ?_)
          refine go_s (pc' := 57) rfl rfl rfl rfl ?_
          refine go_sget (pc' := 58) (v := .ref 77) hS11 rfl rfl rfl (by decide) rfl rfl ?_
          refine go_s (pc' := 59) rfl rfl rfl rfl ?_
          refine go_s (pc' := 60) (st' := [.int 7, .int 848, .ref 77]) rfl rfl rfl rfl ?_
          refine go_s (pc' := 61) (st' := [.int 855, .ref 77]) rfl rfl rfl rfl ?_
          refine go_s (pc' := 62) rfl rfl rfl rfl ?_
          refine go_s (pc' := 63) (st' := [.int 855, .ref 77]) rfl rfl rfl rfl ?_
          refine go_s (pc' := 64) rfl rfl rfl rfl ?_
          refine go_sget (pc' := 65) (v := .ref am) hS11 rfl rfl rfl (by decide) rfl rfl ?_
          refine go_s (pc' := 66) rfl rfl rfl rfl ?_
          refine go_s (pc' := 67) (st' := [.int 7, .int (nI (13 * x)), .ref am, .int 855, .ref 77]) rfl rfl rfl rfl ?_
          refine go_nadd (pc' := 68) (a := (13 * x)) (b := 7) rfl rfl rfl rfl rfl ?_
          refine go_s (pc' := 69) rfl rfl rfl rfl ?_
          refine go_nadd (pc' := 70) (a := ((13 * x) + 7)) (b := 0) rfl rfl rfl rfl rfl ?_
          refine go_sald (pc' := 71) (q := (((13 * x) + 7) + 0)) (v := .int (m.1 7)) hS11 rfl (tr_ms hr (by omega)) rfl rfl (by omega) (congrArg Value.int (hx.2.2.2.2.1 1 (by rw [hm0]; decide))) rfl ?_
          refine go_siast (pc' := 72) (q := 855) hS11 rfl (tr_as hr (by omega)) tbr_inj (Nat.le_of_ble_eq_true rfl) rfl (by decide) (by decide) (hW _ (by decide) (by decide)) rfl (fun h14 hS15 hE16 => ?_)
          have hE17 := sm_e_trans hE13 hE16
          refine go_s (pc' := 73) (lo' := [some (.ref 62), some (.int 1), some (.int (nI (13 * x))), some (.int 848), some (.int 1)]) rfl rfl rfl rfl ?_
          refine go_s (pc' := 53) rfl rfl rfl rfl ?_
          refine go_s (pc' := 54) rfl rfl rfl rfl ?_
          refine go_s (pc' := 55) (st' := [.int 4, .int 1]) rfl rfl rfl rfl ?_
          refine go_icmpP (t' := 74) (pc' := 56) rfl rfl rfl (fun (c : 4 ≤ (1 : Int32)) => absurd c (by decide)) (fun _ => ?_)
          refine go_s (pc' := 57) rfl rfl rfl rfl ?_
          refine go_sget (pc' := 58) (v := .ref 77) hS15 rfl rfl rfl (by decide) rfl rfl ?_
          refine go_s (pc' := 59) rfl rfl rfl rfl ?_
          refine go_s (pc' := 60) (st' := [.int 7, .int 848, .ref 77]) rfl rfl rfl rfl ?_
          refine go_s (pc' := 61) (st' := [.int 855, .ref 77]) rfl rfl rfl rfl ?_
          refine go_s (pc' := 62) rfl rfl rfl rfl ?_
          refine go_s (pc' := 63) (st' := [.int 856, .ref 77]) rfl rfl rfl rfl ?_
          refine go_s (pc' := 64) rfl rfl rfl rfl ?_
          refine go_sget (pc' := 65) (v := .ref am) hS15 rfl rfl rfl (by decide) rfl rfl ?_
          refine go_s (pc' := 66) rfl rfl rfl rfl ?_
          refine go_s (pc' := 67) (st' := [.int 7, .int (nI (13 * x)), .ref am, .int 856, .ref 77]) rfl rfl rfl rfl ?_
          refine go_nadd (pc' := 68) (a := (13 * x)) (b := 7) rfl rfl rfl rfl rfl ?_
          refine go_s (pc' := 69) rfl rfl rfl rfl ?_
          refine go_nadd (pc' := 70) (a := ((13 * x) + 7)) (b := 1) rfl rfl rfl rfl rfl ?_
          refine go_sald (pc' := 71) (q := (((13 * x) + 7) + 1)) (v := .int (m.1 8)) hS15 rfl (tr_ms hr (by omega)) rfl rfl (by omega) (congrArg Value.int (hx.2.2.2.2.1 2 (by rw [hm0]; decide))) rfl ?_
          refine go_siast (pc' := 72) (q := 856) hS15 rfl (tr_as hr (by omega)) tbr_inj (Nat.le_of_ble_eq_true rfl) rfl (by decide) (by decide) (hW _ (by decide) (by decide)) rfl (fun h18 hS19 hE20 => ?_)
          have hE21 := sm_e_trans hE17 hE20
          refine go_s (pc' := 73) (lo' := [some (.ref 62), some (.int 1), some (.int (nI (13 * x))), some (.int 848), some (.int 2)]) rfl rfl rfl rfl ?_
          refine go_s (pc' := 53) rfl rfl rfl rfl ?_
          refine go_s (pc' := 54) rfl rfl rfl rfl ?_
          refine go_s (pc' := 55) (st' := [.int 4, .int 2]) rfl rfl rfl rfl ?_
          refine go_icmpP (t' := 74) (pc' := 56) rfl rfl rfl (fun (c : 4 ≤ (2 : Int32)) => absurd c (by decide)) (fun _ => ?_)
          refine go_s (pc' := 57) rfl rfl rfl rfl ?_
          refine go_sget (pc' := 58) (v := .ref 77) hS19 rfl rfl rfl (by decide) rfl rfl ?_
          refine go_s (pc' := 59) rfl rfl rfl rfl ?_
          refine go_s (pc' := 60) (st' := [.int 7, .int 848, .ref 77]) rfl rfl rfl rfl ?_
          refine go_s (pc' := 61) (st' := [.int 855, .ref 77]) rfl rfl rfl rfl ?_
          refine go_s (pc' := 62) rfl rfl rfl rfl ?_
          refine go_s (pc' := 63) (st' := [.int 857, .ref 77]) rfl rfl rfl rfl ?_
          refine go_s (pc' := 64) rfl rfl rfl rfl ?_
          refine go_sget (pc' := 65) (v := .ref am) hS19 rfl rfl rfl (by decide) rfl rfl ?_
          refine go_s (pc' := 66) rfl rfl rfl rfl ?_
          refine go_s (pc' := 67) (st' := [.int 7, .int (nI (13 * x)), .ref am, .int 857, .ref 77]) rfl rfl rfl rfl ?_
          refine go_nadd (pc' := 68) (a := (13 * x)) (b := 7) rfl rfl rfl rfl rfl ?_
          refine go_s (pc' := 69) rfl rfl rfl rfl ?_
          refine go_nadd (pc' := 70) (a := ((13 * x) + 7)) (b := 2) rfl rfl rfl rfl rfl ?_
          refine go_sald (pc' := 71) (q := (((13 * x) + 7) + 2)) (v := .int (m.1 9)) hS19 rfl (tr_ms hr (by omega)) rfl rfl (by omega) (congrArg Value.int (hx.2.2.2.2.1 3 (by rw [hm0]; decide))) rfl ?_
          refine go_siast (pc' := 72) (q := 857) hS19 rfl (tr_as hr (by omega)) tbr_inj (Nat.le_of_ble_eq_true rfl) rfl (by decide) (by decide) (hW _ (by decide) (by decide)) rfl (fun h22 hS23 hE24 => ?_)
          have hE25 := sm_e_trans hE21 hE24
          refine go_s (pc' := 73) (lo' := [some (.ref 62), some (.int 1), some (.int (nI (13 * x))), some (.int 848), some (.int 3)]) rfl rfl rfl rfl ?_
          refine go_s (pc' := 53) rfl rfl rfl rfl ?_
          refine go_s (pc' := 54) rfl rfl rfl rfl ?_
          refine go_s (pc' := 55) (st' := [.int 4, .int 3]) rfl rfl rfl rfl ?_
          refine go_icmpP (t' := 74) (pc' := 56) rfl rfl rfl (fun (c : 4 ≤ (3 : Int32)) => absurd c (by decide)) (fun _ => ?_)
          refine go_s (pc' := 57) rfl rfl rfl rfl ?_
          refine go_sget (pc' := 58) (v := .ref 77) hS23 rfl rfl rfl (by decide) rfl rfl ?_
          refine go_s (pc' := 59) rfl rfl rfl rfl ?_
          refine go_s (pc' := 60) (st' := [.int 7, .int 848, .ref 77]) rfl rfl rfl rfl ?_
          refine go_s (pc' := 61) (st' := [.int 855, .ref 77]) rfl rfl rfl rfl ?_
          refine go_s (pc' := 62) rfl rfl rfl rfl ?_
          refine go_s (pc' := 63) (st' := [.int 858, .ref 77]) rfl rfl rfl rfl ?_
          refine go_s (pc' := 64) rfl rfl rfl rfl ?_
          refine go_sget (pc' := 65) (v := .ref am) hS23 rfl rfl rfl (by decide) rfl rfl ?_
          refine go_s (pc' := 66) rfl rfl rfl rfl ?_
          refine go_s (pc' := 67) (st' := [.int 7, .int (nI (13 * x)), .ref am, .int 858, .ref 77]) rfl rfl rfl rfl ?_
          refine go_nadd (pc' := 68) (a := (13 * x)) (b := 7) rfl rfl rfl rfl rfl ?_
          refine go_s (pc' := 69) rfl rfl rfl rfl ?_
          refine go_nadd (pc' := 70) (a := ((13 * x) + 7)) (b := 3) rfl rfl rfl rfl rfl ?_
          refine go_sald (pc' := 71) (q := (((13 * x) + 7) + 3)) (v := .int (m.1 10)) hS23 rfl (tr_ms hr (by omega)) rfl rfl (by omega) (congrArg Value.int (hx.2.2.2.2.1 4 (by rw [hm0]; decide))) rfl ?_
          refine go_siast (pc' := 72) (q := 858) hS23 rfl (tr_as hr (by omega)) tbr_inj (Nat.le_of_ble_eq_true rfl) rfl (by decide) (by decide) (hW _ (by decide) (by decide)) rfl (fun h26 hS27 hE28 => ?_)
          have hE29 := sm_e_trans hE25 hE28
          refine go_s (pc' := 73) (lo' := [some (.ref 62), some (.int 1), some (.int (nI (13 * x))), some (.int 848), some (.int 4)]) rfl rfl rfl rfl ?_
          refine go_s (pc' := 53) rfl rfl rfl rfl ?_
          refine go_s (pc' := 54) rfl rfl rfl rfl ?_
          refine go_s (pc' := 55) (st' := [.int 4, .int 4]) rfl rfl rfl rfl ?_
          refine go_icmpP (t' := 74) (pc' := 56) rfl rfl rfl (fun _ => ?_) (fun (c : ¬ (4 ≤ (4 : Int32))) => absurd (by decide) c)
          refine go_s (pc' := 75) rfl rfl rfl rfl ?_
          refine go_sget (pc' := 76) (v := .ref 77) hS27 rfl rfl rfl (by decide) rfl rfl ?_
          refine go_s (pc' := 77) rfl rfl rfl rfl ?_
          refine go_s (pc' := 78) (st' := [.int 5, .int 848, .ref 77]) rfl rfl rfl rfl ?_
          refine go_s (pc' := 79) (st' := [.int 853, .ref 77]) rfl rfl rfl rfl ?_
          refine go_s (pc' := 80) rfl rfl rfl rfl ?_
          refine go_sget (pc' := 81) (v := .ref am) hS27 rfl rfl rfl (by decide) rfl rfl ?_
          refine go_s (pc' := 82) rfl rfl rfl rfl ?_
          refine go_s (pc' := 83) (st' := [.int 10, .int (nI (13 * x)), .ref am, .int 853, .ref 77]) rfl rfl rfl rfl ?_
          refine go_nadd (pc' := 84) (a := (13 * x)) (b := 10) rfl rfl rfl rfl rfl ?_
          refine go_sald (pc' := 85) (q := ((13 * x) + 10)) (v := .int (m.1 10)) hS27 rfl (tr_ms hr (by omega)) rfl rfl (by omega) (congrArg Value.int (hx.2.2.2.2.1 4 (by rw [hm0]; decide))) rfl ?_
          refine go_siast (pc' := 86) (q := 853) hS27 rfl (tr_as hr (by omega)) tbr_inj (Nat.le_of_ble_eq_true rfl) rfl (by decide) (by decide) (hW _ (by decide) (by decide)) rfl (fun h30 hS31 hE32 => ?_)
          have hE33 := sm_e_trans hE29 hE32
          refine go_s (pc' := 87) rfl rfl rfl rfl ?_
          refine go_s (pc' := 88) rfl rfl rfl rfl ?_
          change sm (tbr am (13 * ln) 77 5088) _ (uI (uI (uI (uI (uI (uI (uI (jn I K) 51 849 0) 51 854 1) 51 855 (m.1 7)) 51 856 (m.1 8)) 51 857 (m.1 9)) 51 858 (m.1 10)) 51 853 (m.1 10)) Y at hS31
          rw [jn_hi (c := 51) (by decide), jn_hi (c := 51) (by decide), jn_hi (c := 51) (by decide), jn_hi (c := 51) (by decide), jn_hi (c := 51) (by decide), jn_hi (c := 51) (by decide), jn_hi (c := 51) (by decide)] at hS31
          have hU34 : RU w B R [(x, m)] hb h30 am ln (uI (uI (uI (uI (uI (uI (uI K 51 849 0) 51 854 1) 51 855 (m.1 7)) 51 856 (m.1 8)) 51 857 (m.1 9)) 51 858 (m.1 10)) 51 853 (m.1 10)) (I, Q, (uZ Z 2 (mans (Z 2).1 (fun i => m.1 (5 + i)), (Z 2).2))) := RU_row (K' := (uI (uI (uI (uI (uI (uI (uI K 51 849 0) 51 854 1) 51 855 (m.1 7)) 51 856 (m.1 8)) 51 857 (m.1 9)) 51 858 (m.1 10)) 51 853 (m.1 10))) (s := (mans (Z 2).1 (fun i => m.1 (5 + i)), (Z 2).2)) (by decide) (fun c j _ hc => by
            simp only [uI]
            rw [if_neg (by omega), if_neg (by omega), if_neg (by omega), if_neg (by omega), if_neg (by omega), if_neg (by omega), if_neg (by omega)]) (⟨fun h => absurd h (by decide), fun _ j hj => by
            match j, hj with
            | 0, _ => (repeat (first | rw [uI_e (by decide)] | rw [uI_j (by decide)])) <;> first | rfl | exact RR_t hU.2.1 (i := 2) (by decide) (by decide) 0 (by decide)
            | 1, _ => (repeat (first | rw [uI_e (by decide)] | rw [uI_j (by decide)])) <;> first | rfl | exact RR_t hU.2.1 (i := 2) (by decide) (by decide) 1 (by decide)
            | 2, _ => (repeat (first | rw [uI_e (by decide)] | rw [uI_j (by decide)])) <;> first | rfl | exact RR_t hU.2.1 (i := 2) (by decide) (by decide) 2 (by decide)
            | 3, _ => (repeat (first | rw [uI_e (by decide)] | rw [uI_j (by decide)])) <;> first | rfl | exact RR_t hU.2.1 (i := 2) (by decide) (by decide) 3 (by decide)
            | 4, _ => (repeat (first | rw [uI_e (by decide)] | rw [uI_j (by decide)])) <;> first | rfl | exact RR_t hU.2.1 (i := 2) (by decide) (by decide) 4 (by decide)
            | 5, _ => (repeat (first | rw [uI_e (by decide)] | rw [uI_j (by decide)])) <;> first | rfl | exact RR_t hU.2.1 (i := 2) (by decide) (by decide) 5 (by decide)
            | 6, _ => (repeat (first | rw [uI_e (by decide)] | rw [uI_j (by decide)])) <;> first | rfl | exact RR_t hU.2.1 (i := 2) (by decide) (by decide) 6 (by decide)
            | 7, _ => (repeat (first | rw [uI_e (by decide)] | rw [uI_j (by decide)])) <;> first | rfl | exact RR_t hU.2.1 (i := 2) (by decide) (by decide) 7 (by decide)
            | 8, _ => (repeat (first | rw [uI_e (by decide)] | rw [uI_j (by decide)])) <;> first | rfl | exact RR_t hU.2.1 (i := 2) (by decide) (by decide) 8 (by decide)
            | 9, _ => (repeat (first | rw [uI_e (by decide)] | rw [uI_j (by decide)])) <;> first | rfl | exact RR_t hU.2.1 (i := 2) (by decide) (by decide) 9 (by decide)
            | 10, _ => (repeat (first | rw [uI_e (by decide)] | rw [uI_j (by decide)])) <;> first | rfl | exact RR_t hU.2.1 (i := 2) (by decide) (by decide) 10 (by decide)
            | 11, _ => (repeat (first | rw [uI_e (by decide)] | rw [uI_j (by decide)])) <;> first | rfl | exact RR_t hU.2.1 (i := 2) (by decide) (by decide) 11 (by decide)⟩) (RU_I (hE33) (I' := I) (fun _ => rfl) (fun _ => rfl) (Nat.le_refl _) hU)
          have hA35 : RA w B R [(x, m)] hb h30 (I, Q, (uZ Z 2 (mans (Z 2).1 (fun i => m.1 (5 + i)), (Z 2).2))) := RA_u.mpr ⟨_, _, _, _, hS31, hU34⟩
          refine go_callV (pc' := 89) rfl rfl rfl (Nat.le_of_ble_eq_true rfl) rfl (sm_o hS31 rfl) rfl rfl rfl (ra_tl_1 hA35 (by omega) hp0 (Or.inr (Or.inl e1)) (fun z => absurd (e1.symm.trans z) (by decide)) hoh h5 (by omega)) (fun r h36 q37 => ?_)
          obtain ⟨rfl, hA38⟩ := q37
          refine go_ret rfl rfl ?_
          have hms : rrd 0 (fun i => m.1 (5 + i)) (I, Q, Z) = rtl 1 (mrdZ 0 (fun i => m.1 (5 + i)) (I, Q, Z)) := by
            unfold rrd
            rw [show row1 (I, Q, Z) (1 + 0) = (Z 2).1 from row1_l (v := 2) e1 (by decide), if_neg (fun z => z.elim (fun y => y c4) (fun y => y.elim (fun y => y c5) (fun y => y c6)))]
          have hz9 : mrdZ 0 (fun i => m.1 (5 + i)) (I, Q, Z) = (I, Q, (uZ Z 2 (mans (Z 2).1 (fun i => m.1 (5 + i)), (Z 2).2))) := by
            unfold mrdZ
            rw [show row1 (I, Q, Z) (1 + 0) = (Z 2).1 from row1_l (v := 2) e1 (by decide), show rwi (I, Q, Z).1 (1 + 0) = 2 from rwi_l (v := 2) e1 (by decide)]
          rw [hms, hz9]
          exact ⟨rfl, hA38⟩
        · skip
          refine go_ret rfl rfl ?_
          have hms : rrd 0 (fun i => m.1 (5 + i)) (I, Q, Z) = (I, Q, Z) := by
            unfold rrd
            rw [show row1 (I, Q, Z) (1 + 0) = (Z 2).1 from row1_l (v := 2) e1 (by decide), if_pos (Or.inr (Or.inr c6))]
          rw [hms]
          exact ⟨rfl, RA_R (by omega) hA⟩
  · skip
    refine go_s (pc' := 1) rfl rfl rfl rfl ?_
    refine go_s (pc' := 2) rfl rfl rfl rfl ?_
    refine go_callV (pc' := 3) rfl rfl rfl (Nat.le_of_ble_eq_true rfl) rfl (sm_o hS rfl) rfl rfl rfl (rt_at_1 hr hS (Or.inr (Or.inr e1)) (fun z => absurd (e1.symm.trans z) (by decide)) (by omega)) (fun r h39 q40 => ?_)
    obtain ⟨rfl, rfl⟩ := q40
    rw [show rwi (jn I K) 1 = 3 by unfold rwi pn; rw [show (jn I K) 11 1 = 3 from e1]; rfl]
    show am_Go _ _ _ _ 3 _ [.int 1272] _ _
    refine go_s (pc' := 4) (lo' := [some (.ref 62), some (.int 1), some (.int (nI (13 * x))), some (.int 1272), none]) rfl rfl rfl rfl ?_
    refine go_s (pc' := 5) rfl rfl rfl rfl ?_
    refine go_sget (pc' := 6) (v := .ref 83) hS rfl rfl rfl (by decide) rfl rfl ?_
    refine go_s (pc' := 7) rfl rfl rfl rfl ?_
    refine go_sald (pc' := 8) (q := 1) (v := .int (I 16 1)) hS rfl (tr_s hr (a := 83) rfl (by decide)) rfl rfl (by decide) rfl rfl ?_
    refine go_s (pc' := 9) (st' := [.int 2, .int (I 16 1)]) rfl rfl rfl rfl ?_
    refine go_icmpP (t' := 36) (pc' := 10) rfl rfl rfl (fun (c41 : ¬ (I 16 1) = 2) => ?_) (fun (c41' : ¬ ¬ (I 16 1) = 2) => ?_)
    · skip
      refine go_ret rfl rfl ?_
      have hms : rrd 0 (fun i => m.1 (5 + i)) (I, Q, Z) = (I, Q, Z) := by
        unfold rrd
        rw [show row1 (I, Q, Z) (1 + 0) = (Z 3).1 from row1_l (v := 3) e1 (by decide), if_pos (Or.inl c41)]
      rw [hms]
      exact ⟨rfl, RA_R (by omega) hA⟩
    · skip
      have c41 : (I 16 1) = 2 := Decidable.not_not.mp c41'
      refine go_s (pc' := 11) rfl rfl rfl rfl ?_
      refine go_sget (pc' := 12) (v := .ref am) hS rfl rfl rfl (by decide) rfl rfl ?_
      refine go_s (pc' := 13) rfl rfl rfl rfl ?_
      refine go_s (pc' := 14) (st' := [.int 6, .int (nI (13 * x)), .ref am]) rfl rfl rfl rfl ?_
      refine go_nadd (pc' := 15) (a := (13 * x)) (b := 6) rfl rfl rfl rfl rfl ?_
      refine go_sald (pc' := 16) (q := ((13 * x) + 6)) (v := .int (m.1 6)) hS rfl (tr_ms hr (by omega)) rfl rfl (by omega) (congrArg Value.int (hx.2.2.2.2.1 0 (by rw [hm0]; decide))) rfl ?_
      refine go_s (pc' := 17) rfl rfl rfl rfl ?_
      refine go_sget (pc' := 18) (v := .ref 77) hS rfl rfl rfl (by decide) rfl rfl ?_
      refine go_s (pc' := 19) rfl rfl rfl rfl ?_
      refine go_s (pc' := 20) (st' := [.int 11, .int 1272, .ref 77, .int (m.1 6)]) rfl rfl rfl rfl ?_
      refine go_s (pc' := 21) (st' := [.int 1283, .ref 77, .int (m.1 6)]) rfl rfl rfl rfl ?_
      refine go_sald (pc' := 22) (q := 1283) (v := .int ((Z 3).1 11)) hS rfl (tr_as hr (by omega)) rfl rfl (by decide) (congrArg Value.int (RR_t hU.2.1 (i := 3) (by decide) (by decide) 11 (by decide))) rfl ?_
      refine go_icmpP (t' := 36) (pc' := 23) rfl rfl rfl (fun (c42 : ¬ (m.1 6) = ((Z 3).1 11)) => ?_) (fun (c42' : ¬ ¬ (m.1 6) = ((Z 3).1 11)) => ?_)
      · skip
        refine go_ret rfl rfl ?_
        have hms : rrd 0 (fun i => m.1 (5 + i)) (I, Q, Z) = (I, Q, Z) := by
          unfold rrd
          rw [show row1 (I, Q, Z) (1 + 0) = (Z 3).1 from row1_l (v := 3) e1 (by decide), if_pos (Or.inr (Or.inl c42))]
        rw [hms]
        exact ⟨rfl, RA_R (by omega) hA⟩
      · skip
        have c42 : (m.1 6) = ((Z 3).1 11) := Decidable.not_not.mp c42'
        refine go_s (pc' := 24) rfl rfl rfl rfl ?_
        refine go_sget (pc' := 25) (v := .ref am) hS rfl rfl rfl (by decide) rfl rfl ?_
        refine go_s (pc' := 26) rfl rfl rfl rfl ?_
        refine go_s (pc' := 27) (st' := [.int 7, .int (nI (13 * x)), .ref am]) rfl rfl rfl rfl ?_
        refine go_nadd (pc' := 28) (a := (13 * x)) (b := 7) rfl rfl rfl rfl rfl ?_
        refine go_sald (pc' := 29) (q := ((13 * x) + 7)) (v := .int (m.1 7)) hS rfl (tr_ms hr (by omega)) rfl rfl (by omega) (congrArg Value.int (hx.2.2.2.2.1 1 (by rw [hm0]; decide))) rfl ?_
        refine go_s (pc' := 30) rfl rfl rfl rfl ?_
        refine go_sget (pc' := 31) (v := .ref 77) hS rfl rfl rfl (by decide) rfl rfl ?_
        refine go_s (pc' := 32) rfl rfl rfl rfl ?_
        refine go_s (pc' := 33) (st' := [.int 0, .int 1272, .ref 77, .int (m.1 7)]) rfl rfl rfl rfl ?_
        refine go_s (pc' := 34) (st' := [.int 1272, .ref 77, .int (m.1 7)]) rfl rfl rfl rfl ?_
        refine go_sald (pc' := 35) (q := 1272) (v := .int ((Z 3).1 0)) hS rfl (tr_as hr (by omega)) rfl rfl (by decide) (congrArg Value.int (RR_t hU.2.1 (i := 3) (by decide) (by decide) 0 (by decide))) rfl ?_
        refine go_icmpP (t' := 37) (pc' := 36) rfl rfl rfl (fun (c43 : (m.1 7) = ((Z 3).1 0)) => ?_) (fun (c43 : ¬ (m.1 7) = ((Z 3).1 0)) => ?_)
        · skip
          refine go_s (pc' := 38) rfl rfl rfl rfl ?_
          refine go_sget (pc' := 39) (v := .ref 77) hS rfl rfl rfl (by decide) rfl rfl ?_
          refine go_s (pc' := 40) rfl rfl rfl rfl ?_
          refine go_s (pc' := 41) (st' := [.int 1, .int 1272, .ref 77]) rfl rfl rfl rfl ?_
          refine go_s (pc' := 42) (st' := [.int 1273, .ref 77]) rfl rfl rfl rfl ?_
          refine go_s (pc' := 43) (st' := [.int 0, .int 1273, .ref 77]) rfl rfl rfl rfl ?_
          refine go_siast (pc' := 44) (q := 1273) hS rfl (tr_as hr (by omega)) tbr_inj (Nat.le_of_ble_eq_true rfl) rfl (by decide) (by decide) (hW _ (by decide) (by decide)) rfl (fun h44 hS45 hE46 => ?_)
          refine go_s (pc' := 45) rfl rfl rfl rfl ?_
          refine go_sget (pc' := 46) (v := .ref 77) hS45 rfl rfl rfl (by decide) rfl rfl ?_
          refine go_s (pc' := 47) rfl rfl rfl rfl ?_
          refine go_s (pc' := 48) (st' := [.int 6, .int 1272, .ref 77]) rfl rfl rfl rfl ?_
          refine go_s (pc' := 49) (st' := [.int 1278, .ref 77]) rfl rfl rfl rfl ?_
          refine go_s (pc' := 50) (st' := [.int 1, .int 1278, .ref 77]) rfl rfl rfl rfl ?_
          refine go_siast (pc' := 51) (q := 1278) hS45 rfl (tr_as hr (by omega)) tbr_inj (Nat.le_of_ble_eq_true rfl) rfl (by decide) (by decide) (hW _ (by decide) (by decide)) rfl (fun h47 hS48 hE49 => ?_)
          have hE50 := sm_e_trans hE46 hE49
          refine go_s (pc' := 52) (st' := [.int 0]) rfl rfl rfl rfl ?_
          refine go_s (pc' := 53) (lo' := [some (.ref 62), some (.int 1), some (.int (nI (13 * x))), some (.int 1272), some (.int 0)]) rfl rfl rfl rfl ?_
          refine go_s (pc' := 54) rfl rfl rfl rfl ?_
          refine go_s (pc' := 55) (st' := [.int 4, .int 0]) rfl rfl rfl rfl ?_
          refine go_icmpP (t' := 74) (pc' := 56) rfl rfl rfl (fun (c : 4 ≤ (0 : Int32)) => absurd c (by decide)) (fun _ => ?_)
          refine go_s (pc' := 57) rfl rfl rfl rfl ?_
          refine go_sget (pc' := 58) (v := .ref 77) hS48 rfl rfl rfl (by decide) rfl rfl ?_
          refine go_s (pc' := 59) rfl rfl rfl rfl ?_
          refine go_s (pc' := 60) (st' := [.int 7, .int 1272, .ref 77]) rfl rfl rfl rfl ?_
          refine go_s (pc' := 61) (st' := [.int 1279, .ref 77]) rfl rfl rfl rfl ?_
          refine go_s (pc' := 62) rfl rfl rfl rfl ?_
          refine go_s (pc' := 63) (st' := [.int 1279, .ref 77]) rfl rfl rfl rfl ?_
          refine go_s (pc' := 64) rfl rfl rfl rfl ?_
          refine go_sget (pc' := 65) (v := .ref am) hS48 rfl rfl rfl (by decide) rfl rfl ?_
          refine go_s (pc' := 66) rfl rfl rfl rfl ?_
          refine go_s (pc' := 67) (st' := [.int 7, .int (nI (13 * x)), .ref am, .int 1279, .ref 77]) rfl rfl rfl rfl ?_
          refine go_nadd (pc' := 68) (a := (13 * x)) (b := 7) rfl rfl rfl rfl rfl ?_
          refine go_s (pc' := 69) rfl rfl rfl rfl ?_
          refine go_nadd (pc' := 70) (a := ((13 * x) + 7)) (b := 0) rfl rfl rfl rfl rfl ?_
          refine go_sald (pc' := 71) (q := (((13 * x) + 7) + 0)) (v := .int (m.1 7)) hS48 rfl (tr_ms hr (by omega)) rfl rfl (by omega) (congrArg Value.int (hx.2.2.2.2.1 1 (by rw [hm0]; decide))) rfl ?_
          refine go_siast (pc' := 72) (q := 1279) hS48 rfl (tr_as hr (by omega)) tbr_inj (Nat.le_of_ble_eq_true rfl) rfl (by decide) (by decide) (hW _ (by decide) (by decide)) rfl (fun h51 hS52 hE53 => ?_)
          have hE54 := sm_e_trans hE50 hE53
          refine go_s (pc' := 73) (lo' := [some (.ref 62), some (.int 1), some (.int (nI (13 * x))), some (.int 1272), some (.int 1)]) rfl rfl rfl rfl ?_
          refine go_s (pc' := 53) rfl rfl rfl rfl ?_
          refine go_s (pc' := 54) rfl rfl rfl rfl ?_
          refine go_s (pc' := 55) (st' := [.int 4, .int 1]) rfl rfl rfl rfl ?_
          refine go_icmpP (t' := 74) (pc' := 56) rfl rfl rfl (fun (c : 4 ≤ (1 : Int32)) => absurd c (by decide)) (fun _ => ?_)
          refine go_s (pc' := 57) rfl rfl rfl rfl ?_
          refine go_sget (pc' := 58) (v := .ref 77) hS52 rfl rfl rfl (by decide) rfl rfl ?_
          refine go_s (pc' := 59) rfl rfl rfl rfl ?_
          refine go_s (pc' := 60) (st' := [.int 7, .int 1272, .ref 77]) rfl rfl rfl rfl ?_
          refine go_s (pc' := 61) (st' := [.int 1279, .ref 77]) rfl rfl rfl rfl ?_
          refine go_s (pc' := 62) rfl rfl rfl rfl ?_
          refine go_s (pc' := 63) (st' := [.int 1280, .ref 77]) rfl rfl rfl rfl ?_
          refine go_s (pc' := 64) rfl rfl rfl rfl ?_
          refine go_sget (pc' := 65) (v := .ref am) hS52 rfl rfl rfl (by decide) rfl rfl ?_
          refine go_s (pc' := 66) rfl rfl rfl rfl ?_
          refine go_s (pc' := 67) (st' := [.int 7, .int (nI (13 * x)), .ref am, .int 1280, .ref 77]) rfl rfl rfl rfl ?_
          refine go_nadd (pc' := 68) (a := (13 * x)) (b := 7) rfl rfl rfl rfl rfl ?_
          refine go_s (pc' := 69) rfl rfl rfl rfl ?_
          refine go_nadd (pc' := 70) (a := ((13 * x) + 7)) (b := 1) rfl rfl rfl rfl rfl ?_
          refine go_sald (pc' := 71) (q := (((13 * x) + 7) + 1)) (v := .int (m.1 8)) hS52 rfl (tr_ms hr (by omega)) rfl rfl (by omega) (congrArg Value.int (hx.2.2.2.2.1 2 (by rw [hm0]; decide))) rfl ?_
          refine go_siast (pc' := 72) (q := 1280) hS52 rfl (tr_as hr (by omega)) tbr_inj (Nat.le_of_ble_eq_true rfl) rfl (by decide) (by decide) (hW _ (by decide) (by decide)) rfl (fun h55 hS56 hE57 => ?_)
          have hE58 := sm_e_trans hE54 hE57
          refine go_s (pc' := 73) (lo' := [some (.ref 62), some (.int 1), some (.int (nI (13 * x))), some (.int 1272), some (.int 2)]) rfl rfl rfl rfl ?_
          refine go_s (pc' := 53) rfl rfl rfl rfl ?_
          refine go_s (pc' := 54) rfl rfl rfl rfl ?_
          refine go_s (pc' := 55) (st' := [.int 4, .int 2]) rfl rfl rfl rfl ?_
          refine go_icmpP (t' := 74) (pc' := 56) rfl rfl rfl (fun (c : 4 ≤ (2 : Int32)) => absurd c (by decide)) (fun _ => ?_)
          refine go_s (pc' := 57) rfl rfl rfl rfl ?_
          refine go_sget (pc' := 58) (v := .ref 77) hS56 rfl rfl rfl (by decide) rfl rfl ?_
          refine go_s (pc' := 59) rfl rfl rfl rfl ?_
          refine go_s (pc' := 60) (st' := [.int 7, .int 1272, .ref 77]) rfl rfl rfl rfl ?_
          refine go_s (pc' := 61) (st' := [.int 1279, .ref 77]) rfl rfl rfl rfl ?_
          refine go_s (pc' := 62) rfl rfl rfl rfl ?_
          refine go_s (pc' := 63) (st' := [.int 1281, .ref 77]) rfl rfl rfl rfl ?_
          refine go_s (pc' := 64) rfl rfl rfl rfl ?_
          refine go_sget (pc' := 65) (v := .ref am) hS56 rfl rfl rfl (by decide) rfl rfl ?_
          refine go_s (pc' := 66) rfl rfl rfl rfl ?_
          refine go_s (pc' := 67) (st' := [.int 7, .int (nI (13 * x)), .ref am, .int 1281, .ref 77]) rfl rfl rfl rfl ?_
          refine go_nadd (pc' := 68) (a := (13 * x)) (b := 7) rfl rfl rfl rfl rfl ?_
          refine go_s (pc' := 69) rfl rfl rfl rfl ?_
          refine go_nadd (pc' := 70) (a := ((13 * x) + 7)) (b := 2) rfl rfl rfl rfl rfl ?_
          refine go_sald (pc' := 71) (q := (((13 * x) + 7) + 2)) (v := .int (m.1 9)) hS56 rfl (tr_ms hr (by omega)) rfl rfl (by omega) (congrArg Value.int (hx.2.2.2.2.1 3 (by rw [hm0]; decide))) rfl ?_
          refine go_siast (pc' := 72) (q := 1281) hS56 rfl (tr_as hr (by omega)) tbr_inj (Nat.le_of_ble_eq_true rfl) rfl (by decide) (by decide) (hW _ (by decide) (by decide)) rfl (fun h59 hS60 hE61 => ?_)
          have hE62 := sm_e_trans hE58 hE61
          refine go_s (pc' := 73) (lo' := [some (.ref 62), some (.int 1), some (.int (nI (13 * x))), some (.int 1272), some (.int 3)]) rfl rfl rfl rfl ?_
          refine go_s (pc' := 53) rfl rfl rfl rfl ?_
          refine go_s (pc' := 54) rfl rfl rfl rfl ?_
          refine go_s (pc' := 55) (st' := [.int 4, .int 3]) rfl rfl rfl rfl ?_
          refine go_icmpP (t' := 74) (pc' := 56) rfl rfl rfl (fun (c : 4 ≤ (3 : Int32)) => absurd c (by decide)) (fun _ => ?_)
          refine go_s (pc' := 57) rfl rfl rfl rfl ?_
          refine go_sget (pc' := 58) (v := .ref 77) hS60 rfl rfl rfl (by decide) rfl rfl ?_
          refine go_s (pc' := 59) rfl rfl rfl rfl ?_
          refine go_s (pc' := 60) (st' := [.int 7, .int 1272, .ref 77]) rfl rfl rfl rfl ?_
          refine go_s (pc' := 61) (st' := [.int 1279, .ref 77]) rfl rfl rfl rfl ?_
          refine go_s (pc' := 62) rfl rfl rfl rfl ?_
          refine go_s (pc' := 63) (st' := [.int 1282, .ref 77]) rfl rfl rfl rfl ?_
          refine go_s (pc' := 64) rfl rfl rfl rfl ?_
          refine go_sget (pc' := 65) (v := .ref am) hS60 rfl rfl rfl (by decide) rfl rfl ?_
          refine go_s (pc' := 66) rfl rfl rfl rfl ?_
          refine go_s (pc' := 67) (st' := [.int 7, .int (nI (13 * x)), .ref am, .int 1282, .ref 77]) rfl rfl rfl rfl ?_
          refine go_nadd (pc' := 68) (a := (13 * x)) (b := 7) rfl rfl rfl rfl rfl ?_
          refine go_s (pc' := 69) rfl rfl rfl rfl ?_
          refine go_nadd (pc' := 70) (a := ((13 * x) + 7)) (b := 3) rfl rfl rfl rfl rfl ?_
          refine go_sald (pc' := 71) (q := (((13 * x) + 7) + 3)) (v := .int (m.1 10)) hS60 rfl (tr_ms hr (by omega)) rfl rfl (by omega) (congrArg Value.int (hx.2.2.2.2.1 4 (by rw [hm0]; decide))) rfl ?_
          refine go_siast (pc' := 72) (q := 1282) hS60 rfl (tr_as hr (by omega)) tbr_inj (Nat.le_of_ble_eq_true rfl) rfl (by decide) (by decide) (hW _ (by decide) (by decide)) rfl (fun h63 hS64 hE65 => ?_)
          have hE66 := sm_e_trans hE62 hE65
          refine go_s (pc' := 73) (lo' := [some (.ref 62), some (.int 1), some (.int (nI (13 * x))), some (.int 1272), some (.int 4)]) rfl rfl rfl rfl ?_
          refine go_s (pc' := 53) rfl rfl rfl rfl ?_
          refine go_s (pc' := 54) rfl rfl rfl rfl ?_
          refine go_s (pc' := 55) (st' := [.int 4, .int 4]) rfl rfl rfl rfl ?_
          refine go_icmpP (t' := 74) (pc' := 56) rfl rfl rfl (fun _ => ?_) (fun (c : ¬ (4 ≤ (4 : Int32))) => absurd (by decide) c)
          refine go_s (pc' := 75) rfl rfl rfl rfl ?_
          refine go_sget (pc' := 76) (v := .ref 77) hS64 rfl rfl rfl (by decide) rfl rfl ?_
          refine go_s (pc' := 77) rfl rfl rfl rfl ?_
          refine go_s (pc' := 78) (st' := [.int 5, .int 1272, .ref 77]) rfl rfl rfl rfl ?_
          refine go_s (pc' := 79) (st' := [.int 1277, .ref 77]) rfl rfl rfl rfl ?_
          refine go_s (pc' := 80) rfl rfl rfl rfl ?_
          refine go_sget (pc' := 81) (v := .ref am) hS64 rfl rfl rfl (by decide) rfl rfl ?_
          refine go_s (pc' := 82) rfl rfl rfl rfl ?_
          refine go_s (pc' := 83) (st' := [.int 10, .int (nI (13 * x)), .ref am, .int 1277, .ref 77]) rfl rfl rfl rfl ?_
          refine go_nadd (pc' := 84) (a := (13 * x)) (b := 10) rfl rfl rfl rfl rfl ?_
          refine go_sald (pc' := 85) (q := ((13 * x) + 10)) (v := .int (m.1 10)) hS64 rfl (tr_ms hr (by omega)) rfl rfl (by omega) (congrArg Value.int (hx.2.2.2.2.1 4 (by rw [hm0]; decide))) rfl ?_
          refine go_siast (pc' := 86) (q := 1277) hS64 rfl (tr_as hr (by omega)) tbr_inj (Nat.le_of_ble_eq_true rfl) rfl (by decide) (by decide) (hW _ (by decide) (by decide)) rfl (fun h67 hS68 hE69 => ?_)
          have hE70 := sm_e_trans hE66 hE69
          refine go_s (pc' := 87) rfl rfl rfl rfl ?_
          refine go_s (pc' := 88) rfl rfl rfl rfl ?_
          change sm (tbr am (13 * ln) 77 5088) _ (uI (uI (uI (uI (uI (uI (uI (jn I K) 51 1273 0) 51 1278 1) 51 1279 (m.1 7)) 51 1280 (m.1 8)) 51 1281 (m.1 9)) 51 1282 (m.1 10)) 51 1277 (m.1 10)) Y at hS68
          rw [jn_hi (c := 51) (by decide), jn_hi (c := 51) (by decide), jn_hi (c := 51) (by decide), jn_hi (c := 51) (by decide), jn_hi (c := 51) (by decide), jn_hi (c := 51) (by decide), jn_hi (c := 51) (by decide)] at hS68
          have hU71 : RU w B R [(x, m)] hb h67 am ln (uI (uI (uI (uI (uI (uI (uI K 51 1273 0) 51 1278 1) 51 1279 (m.1 7)) 51 1280 (m.1 8)) 51 1281 (m.1 9)) 51 1282 (m.1 10)) 51 1277 (m.1 10)) (I, Q, (uZ Z 3 (mans (Z 3).1 (fun i => m.1 (5 + i)), (Z 3).2))) := RU_row (K' := (uI (uI (uI (uI (uI (uI (uI K 51 1273 0) 51 1278 1) 51 1279 (m.1 7)) 51 1280 (m.1 8)) 51 1281 (m.1 9)) 51 1282 (m.1 10)) 51 1277 (m.1 10))) (s := (mans (Z 3).1 (fun i => m.1 (5 + i)), (Z 3).2)) (by decide) (fun c j _ hc => by
            simp only [uI]
            rw [if_neg (by omega), if_neg (by omega), if_neg (by omega), if_neg (by omega), if_neg (by omega), if_neg (by omega), if_neg (by omega)]) (⟨fun h => absurd h (by decide), fun _ j hj => by
            match j, hj with
            | 0, _ => (repeat (first | rw [uI_e (by decide)] | rw [uI_j (by decide)])) <;> first | rfl | exact RR_t hU.2.1 (i := 3) (by decide) (by decide) 0 (by decide)
            | 1, _ => (repeat (first | rw [uI_e (by decide)] | rw [uI_j (by decide)])) <;> first | rfl | exact RR_t hU.2.1 (i := 3) (by decide) (by decide) 1 (by decide)
            | 2, _ => (repeat (first | rw [uI_e (by decide)] | rw [uI_j (by decide)])) <;> first | rfl | exact RR_t hU.2.1 (i := 3) (by decide) (by decide) 2 (by decide)
            | 3, _ => (repeat (first | rw [uI_e (by decide)] | rw [uI_j (by decide)])) <;> first | rfl | exact RR_t hU.2.1 (i := 3) (by decide) (by decide) 3 (by decide)
            | 4, _ => (repeat (first | rw [uI_e (by decide)] | rw [uI_j (by decide)])) <;> first | rfl | exact RR_t hU.2.1 (i := 3) (by decide) (by decide) 4 (by decide)
            | 5, _ => (repeat (first | rw [uI_e (by decide)] | rw [uI_j (by decide)])) <;> first | rfl | exact RR_t hU.2.1 (i := 3) (by decide) (by decide) 5 (by decide)
            | 6, _ => (repeat (first | rw [uI_e (by decide)] | rw [uI_j (by decide)])) <;> first | rfl | exact RR_t hU.2.1 (i := 3) (by decide) (by decide) 6 (by decide)
            | 7, _ => (repeat (first | rw [uI_e (by decide)] | rw [uI_j (by decide)])) <;> first | rfl | exact RR_t hU.2.1 (i := 3) (by decide) (by decide) 7 (by decide)
            | 8, _ => (repeat (first | rw [uI_e (by decide)] | rw [uI_j (by decide)])) <;> first | rfl | exact RR_t hU.2.1 (i := 3) (by decide) (by decide) 8 (by decide)
            | 9, _ => (repeat (first | rw [uI_e (by decide)] | rw [uI_j (by decide)])) <;> first | rfl | exact RR_t hU.2.1 (i := 3) (by decide) (by decide) 9 (by decide)
            | 10, _ => (repeat (first | rw [uI_e (by decide)] | rw [uI_j (by decide)])) <;> first | rfl | exact RR_t hU.2.1 (i := 3) (by decide) (by decide) 10 (by decide)
            | 11, _ => (repeat (first | rw [uI_e (by decide)] | rw [uI_j (by decide)])) <;> first | rfl | exact RR_t hU.2.1 (i := 3) (by decide) (by decide) 11 (by decide)⟩) (RU_I (hE70) (I' := I) (fun _ => rfl) (fun _ => rfl) (Nat.le_refl _) hU)
          have hA72 : RA w B R [(x, m)] hb h67 (I, Q, (uZ Z 3 (mans (Z 3).1 (fun i => m.1 (5 + i)), (Z 3).2))) := RA_u.mpr ⟨_, _, _, _, hS68, hU71⟩
          refine go_callV (pc' := 89) rfl rfl rfl (Nat.le_of_ble_eq_true rfl) rfl (sm_o hS68 rfl) rfl rfl rfl (ra_tl_1 hA72 (by omega) hp0 (Or.inr (Or.inr e1)) (fun z => absurd (e1.symm.trans z) (by decide)) hoh h5 (by omega)) (fun r h73 q74 => ?_)
          obtain ⟨rfl, hA75⟩ := q74
          refine go_ret rfl rfl ?_
          have hms : rrd 0 (fun i => m.1 (5 + i)) (I, Q, Z) = rtl 1 (mrdZ 0 (fun i => m.1 (5 + i)) (I, Q, Z)) := by
            unfold rrd
            rw [show row1 (I, Q, Z) (1 + 0) = (Z 3).1 from row1_l (v := 3) e1 (by decide), if_neg (fun z => z.elim (fun y => y c41) (fun y => y.elim (fun y => y c42) (fun y => y c43)))]
          have hz9 : mrdZ 0 (fun i => m.1 (5 + i)) (I, Q, Z) = (I, Q, (uZ Z 3 (mans (Z 3).1 (fun i => m.1 (5 + i)), (Z 3).2))) := by
            unfold mrdZ
            rw [show row1 (I, Q, Z) (1 + 0) = (Z 3).1 from row1_l (v := 3) e1 (by decide), show rwi (I, Q, Z).1 (1 + 0) = 3 from rwi_l (v := 3) e1 (by decide)]
          rw [hms, hz9]
          exact ⟨rfl, hA75⟩
        · skip
          refine go_ret rfl rfl ?_
          have hms : rrd 0 (fun i => m.1 (5 + i)) (I, Q, Z) = (I, Q, Z) := by
            unfold rrd
            rw [show row1 (I, Q, Z) (1 + 0) = (Z 3).1 from row1_l (v := 3) e1 (by decide), if_pos (Or.inr (Or.inr c43))]
          rw [hms]
          exact ⟨rfl, RA_R (by omega) hA⟩
theorem ra_rd_1 {w : Nat → Bool} {d B R : Nat} {x : Nat} {m : mg} {hb : Bool} {h : am_Hp} {I : sm_I} {Q : mQ} {Z : mZ} (hA : RA w B R [(x, m)] hb h (I, Q, Z)) (hR : R + 1 < 40000) (hm0 : m.1 0 = 2) (hp0 : prk I 0) (hpk : prk I 2) (hnk : ¬ I 11 2 = -1) (hoh : ¬ I 12 2 = -1 → I 12 2 = ohI I 2) (h5 : ¬ I 12 2 = -1 → sq Q + hc [(x, m)] hb ≤ 5) (hd : 6 ≤ d) : am_Ev (am_prog w) d 182 [.ref 62, .int 2, .int (nI (13 * x))] h (fun r h' => r = none ∧ RA w B (R + 1) [(x, m)] hb h' (rrd 1 (fun i => m.1 (5 + i)) (I, Q, Z))) := by
  obtain ⟨K, Y, am, ln, hS, hU⟩ := RA_u.mp hA
  change sm (tbr am (13 * ln) 77 5088) h (jn I K) Y at hS
  obtain ⟨hW, hWm, -, -, hr, -⟩ := id hU.1
  have hln := RU_ln hU (by omega)
  obtain ⟨d, rfl⟩ : ∃ e, d = e + 1 := ⟨d - 1, by omega⟩
  refine ev_go rfl (Nat.le_of_ble_eq_true rfl) rfl ?_
  have hx := RU_h hU (x := x) (m := m) (by simp)
  have hxl := hx.1
  rcases hpk with e1 | e1 | e1
  · skip
    exact absurd e1 hnk
  · skip
    refine go_s (pc' := 1) rfl rfl rfl rfl ?_
    refine go_s (pc' := 2) rfl rfl rfl rfl ?_
    refine go_callV (pc' := 3) rfl rfl rfl (Nat.le_of_ble_eq_true rfl) rfl (sm_o hS rfl) rfl rfl rfl (rt_at_2 hr hS (Or.inr (Or.inl e1)) (fun z => absurd (e1.symm.trans z) (by decide)) (by omega)) (fun r h2 q3 => ?_)
    obtain ⟨rfl, rfl⟩ := q3
    rw [show rwi (jn I K) 2 = 4 by unfold rwi pn; rw [show (jn I K) 11 2 = 2 from e1]; rfl]
    show am_Go _ _ _ _ 3 _ [.int 1696] _ _
    refine go_s (pc' := 4) (lo' := [some (.ref 62), some (.int 2), some (.int (nI (13 * x))), some (.int 1696), none]) rfl rfl rfl rfl ?_
    refine go_s (pc' := 5) rfl rfl rfl rfl ?_
    refine go_sget (pc' := 6) (v := .ref 83) hS rfl rfl rfl (by decide) rfl rfl ?_
    refine go_s (pc' := 7) rfl rfl rfl rfl ?_
    refine go_sald (pc' := 8) (q := 2) (v := .int (I 16 2)) hS rfl (tr_s hr (a := 83) rfl (by decide)) rfl rfl (by decide) rfl rfl ?_
    refine go_s (pc' := 9) (st' := [.int 2, .int (I 16 2)]) rfl rfl rfl rfl ?_
    refine go_icmpP (t' := 36) (pc' := 10) rfl rfl rfl (fun (c4 : ¬ (I 16 2) = 2) => ?_) (fun (c4' : ¬ ¬ (I 16 2) = 2) => ?_)
    · skip
      refine go_ret rfl rfl ?_
      have hms : rrd 1 (fun i => m.1 (5 + i)) (I, Q, Z) = (I, Q, Z) := by
        unfold rrd
        rw [show row1 (I, Q, Z) (1 + 1) = (Z 4).1 from row1_l (v := 2) e1 (by decide), if_pos (Or.inl c4)]
      rw [hms]
      exact ⟨rfl, RA_R (by omega) hA⟩
    · skip
      have c4 : (I 16 2) = 2 := Decidable.not_not.mp c4'
      refine go_s (pc' := 11) rfl rfl rfl rfl ?_
      refine go_sget (pc' := 12) (v := .ref am) hS rfl rfl rfl (by decide) rfl rfl ?_
      refine go_s (pc' := 13) rfl rfl rfl rfl ?_
      refine go_s (pc' := 14) (st' := [.int 6, .int (nI (13 * x)), .ref am]) rfl rfl rfl rfl ?_
      refine go_nadd (pc' := 15) (a := (13 * x)) (b := 6) rfl rfl rfl rfl rfl ?_
      refine go_sald (pc' := 16) (q := ((13 * x) + 6)) (v := .int (m.1 6)) hS rfl (tr_ms hr (by omega)) rfl rfl (by omega) (congrArg Value.int (hx.2.2.2.2.1 0 (by rw [hm0]; decide))) rfl ?_
      refine go_s (pc' := 17) rfl rfl rfl rfl ?_
      refine go_sget (pc' := 18) (v := .ref 77) hS rfl rfl rfl (by decide) rfl rfl ?_
      refine go_s (pc' := 19) rfl rfl rfl rfl ?_
      refine go_s (pc' := 20) (st' := [.int 11, .int 1696, .ref 77, .int (m.1 6)]) rfl rfl rfl rfl ?_
      refine go_s (pc' := 21) (st' := [.int 1707, .ref 77, .int (m.1 6)]) rfl rfl rfl rfl ?_
      refine go_sald (pc' := 22) (q := 1707) (v := .int ((Z 4).1 11)) hS rfl (tr_as hr (by omega)) rfl rfl (by decide) (congrArg Value.int (RR_t hU.2.1 (i := 4) (by decide) (by decide) 11 (by decide))) rfl ?_
      refine go_icmpP (t' := 36) (pc' := 23) rfl rfl rfl (fun (c5 : ¬ (m.1 6) = ((Z 4).1 11)) => ?_) (fun (c5' : ¬ ¬ (m.1 6) = ((Z 4).1 11)) => ?_)
      · skip
        refine go_ret rfl rfl ?_
        have hms : rrd 1 (fun i => m.1 (5 + i)) (I, Q, Z) = (I, Q, Z) := by
          unfold rrd
          rw [show row1 (I, Q, Z) (1 + 1) = (Z 4).1 from row1_l (v := 2) e1 (by decide), if_pos (Or.inr (Or.inl c5))]
        rw [hms]
        exact ⟨rfl, RA_R (by omega) hA⟩
      · skip
        have c5 : (m.1 6) = ((Z 4).1 11) := Decidable.not_not.mp c5'
        refine go_s (pc' := 24) rfl rfl rfl rfl ?_
        refine go_sget (pc' := 25) (v := .ref am) hS rfl rfl rfl (by decide) rfl rfl ?_
        refine go_s (pc' := 26) rfl rfl rfl rfl ?_
        refine go_s (pc' := 27) (st' := [.int 7, .int (nI (13 * x)), .ref am]) rfl rfl rfl rfl ?_
        refine go_nadd (pc' := 28) (a := (13 * x)) (b := 7) rfl rfl rfl rfl rfl ?_
        refine go_sald (pc' := 29) (q := ((13 * x) + 7)) (v := .int (m.1 7)) hS rfl (tr_ms hr (by omega)) rfl rfl (by omega) (congrArg Value.int (hx.2.2.2.2.1 1 (by rw [hm0]; decide))) rfl ?_
        refine go_s (pc' := 30) rfl rfl rfl rfl ?_
        refine go_sget (pc' := 31) (v := .ref 77) hS rfl rfl rfl (by decide) rfl rfl ?_
        refine go_s (pc' := 32) rfl rfl rfl rfl ?_
        refine go_s (pc' := 33) (st' := [.int 0, .int 1696, .ref 77, .int (m.1 7)]) rfl rfl rfl rfl ?_
        refine go_s (pc' := 34) (st' := [.int 1696, .ref 77, .int (m.1 7)]) rfl rfl rfl rfl ?_
        refine go_sald (pc' := 35) (q := 1696) (v := .int ((Z 4).1 0)) hS rfl (tr_as hr (by omega)) rfl rfl (by decide) (congrArg Value.int (RR_t hU.2.1 (i := 4) (by decide) (by decide) 0 (by decide))) rfl ?_
        refine go_icmpP (t' := 37) (pc' := 36) rfl rfl rfl (fun (c6 : (m.1 7) = ((Z 4).1 0)) => ?_) (fun (c6 : ¬ (m.1 7) = ((Z 4).1 0)) => ?_)
        · skip
          refine go_s (pc' := 38) rfl rfl rfl rfl ?_
          refine go_sget (pc' := 39) (v := .ref 77) hS rfl rfl rfl (by decide) rfl rfl ?_
          refine go_s (pc' := 40) rfl rfl rfl rfl ?_
          refine go_s (pc' := 41) (st' := [.int 1, .int 1696, .ref 77]) rfl rfl rfl rfl ?_
          refine go_s (pc' := 42) (st' := [.int 1697, .ref 77]) rfl rfl rfl rfl ?_
          refine go_s (pc' := 43) (st' := [.int 0, .int 1697, .ref 77]) rfl rfl rfl rfl ?_
          refine go_siast (pc' := 44) (q := 1697) hS rfl (tr_as hr (by omega)) tbr_inj (Nat.le_of_ble_eq_true rfl) rfl (by decide) (by decide) (hW _ (by decide) (by decide)) rfl (fun h7 hS8 hE9 => ?_)
          refine go_s (pc' := 45) rfl rfl rfl rfl ?_
          refine go_sget (pc' := 46) (v := .ref 77) hS8 rfl rfl rfl (by decide) rfl rfl ?_
          refine go_s (pc' := 47) rfl rfl rfl rfl ?_
          refine go_s (pc' := 48) (st' := [.int 6, .int 1696, .ref 77]) rfl rfl rfl rfl ?_
          refine go_s (pc' := 49) (st' := [.int 1702, .ref 77]) rfl rfl rfl rfl ?_
          refine go_s (pc' := 50) (st' := [.int 1, .int 1702, .ref 77]) rfl rfl rfl rfl ?_
          refine go_siast (pc' := 51) (q := 1702) hS8 rfl (tr_as hr (by omega)) tbr_inj (Nat.le_of_ble_eq_true rfl) rfl (by decide) (by decide) (hW _ (by decide) (by decide)) rfl (fun h10 hS11 hE12 => ?_)
          have hE13 := sm_e_trans hE9 hE12
          refine go_s (pc' := 52) (st' := [.int 0]) rfl rfl rfl rfl ?_
          refine go_s (pc' := 53) (lo' := [some (.ref 62), some (.int 2), some (.int (nI (13 * x))), some (.int 1696), some (.int 0)]) rfl rfl rfl rfl ?_
          refine go_s (pc' := 54) rfl rfl rfl rfl ?_
          refine go_s (pc' := 55) (st' := [.int 4, .int 0]) rfl rfl rfl rfl ?_
          refine go_icmpP (t' := 74) (pc' := 56) rfl rfl rfl (fun (c : 4 ≤ (0 : Int32)) => absurd c (by decide)) (fun _ => ?_)
          refine go_s (pc' := 57) rfl rfl rfl rfl ?_
          refine go_sget (pc' := 58) (v := .ref 77) hS11 rfl rfl rfl (by decide) rfl rfl ?_
          refine go_s (pc' := 59) rfl rfl rfl rfl ?_
          refine go_s (pc' := 60) (st' := [.int 7, .int 1696, .ref 77]) rfl rfl rfl rfl ?_
          refine go_s (pc' := 61) (st' := [.int 1703, .ref 77]) rfl rfl rfl rfl ?_
          refine go_s (pc' := 62) rfl rfl rfl rfl ?_
          refine go_s (pc' := 63) (st' := [.int 1703, .ref 77]) rfl rfl rfl rfl ?_
          refine go_s (pc' := 64) rfl rfl rfl rfl ?_
          refine go_sget (pc' := 65) (v := .ref am) hS11 rfl rfl rfl (by decide) rfl rfl ?_
          refine go_s (pc' := 66) rfl rfl rfl rfl ?_
          refine go_s (pc' := 67) (st' := [.int 7, .int (nI (13 * x)), .ref am, .int 1703, .ref 77]) rfl rfl rfl rfl ?_
          refine go_nadd (pc' := 68) (a := (13 * x)) (b := 7) rfl rfl rfl rfl rfl ?_
          refine go_s (pc' := 69) rfl rfl rfl rfl ?_
          refine go_nadd (pc' := 70) (a := ((13 * x) + 7)) (b := 0) rfl rfl rfl rfl rfl ?_
          refine go_sald (pc' := 71) (q := (((13 * x) + 7) + 0)) (v := .int (m.1 7)) hS11 rfl (tr_ms hr (by omega)) rfl rfl (by omega) (congrArg Value.int (hx.2.2.2.2.1 1 (by rw [hm0]; decide))) rfl ?_
          refine go_siast (pc' := 72) (q := 1703) hS11 rfl (tr_as hr (by omega)) tbr_inj (Nat.le_of_ble_eq_true rfl) rfl (by decide) (by decide) (hW _ (by decide) (by decide)) rfl (fun h14 hS15 hE16 => ?_)
          have hE17 := sm_e_trans hE13 hE16
          refine go_s (pc' := 73) (lo' := [some (.ref 62), some (.int 2), some (.int (nI (13 * x))), some (.int 1696), some (.int 1)]) rfl rfl rfl rfl ?_
          refine go_s (pc' := 53) rfl rfl rfl rfl ?_
          refine go_s (pc' := 54) rfl rfl rfl rfl ?_
          refine go_s (pc' := 55) (st' := [.int 4, .int 1]) rfl rfl rfl rfl ?_
          refine go_icmpP (t' := 74) (pc' := 56) rfl rfl rfl (fun (c : 4 ≤ (1 : Int32)) => absurd c (by decide)) (fun _ => ?_)
          refine go_s (pc' := 57) rfl rfl rfl rfl ?_
          refine go_sget (pc' := 58) (v := .ref 77) hS15 rfl rfl rfl (by decide) rfl rfl ?_
          refine go_s (pc' := 59) rfl rfl rfl rfl ?_
          refine go_s (pc' := 60) (st' := [.int 7, .int 1696, .ref 77]) rfl rfl rfl rfl ?_
          refine go_s (pc' := 61) (st' := [.int 1703, .ref 77]) rfl rfl rfl rfl ?_
          refine go_s (pc' := 62) rfl rfl rfl rfl ?_
          refine go_s (pc' := 63) (st' := [.int 1704, .ref 77]) rfl rfl rfl rfl ?_
          refine go_s (pc' := 64) rfl rfl rfl rfl ?_
          refine go_sget (pc' := 65) (v := .ref am) hS15 rfl rfl rfl (by decide) rfl rfl ?_
          refine go_s (pc' := 66) rfl rfl rfl rfl ?_
          refine go_s (pc' := 67) (st' := [.int 7, .int (nI (13 * x)), .ref am, .int 1704, .ref 77]) rfl rfl rfl rfl ?_
          refine go_nadd (pc' := 68) (a := (13 * x)) (b := 7) rfl rfl rfl rfl rfl ?_
          refine go_s (pc' := 69) rfl rfl rfl rfl ?_
          refine go_nadd (pc' := 70) (a := ((13 * x) + 7)) (b := 1) rfl rfl rfl rfl rfl ?_
          refine go_sald (pc' := 71) (q := (((13 * x) + 7) + 1)) (v := .int (m.1 8)) hS15 rfl (tr_ms hr (by omega)) rfl rfl (by omega) (congrArg Value.int (hx.2.2.2.2.1 2 (by rw [hm0]; decide))) rfl ?_
          refine go_siast (pc' := 72) (q := 1704) hS15 rfl (tr_as hr (by omega)) tbr_inj (Nat.le_of_ble_eq_true rfl) rfl (by decide) (by decide) (hW _ (by decide) (by decide)) rfl (fun h18 hS19 hE20 => ?_)
          have hE21 := sm_e_trans hE17 hE20
          refine go_s (pc' := 73) (lo' := [some (.ref 62), some (.int 2), some (.int (nI (13 * x))), some (.int 1696), some (.int 2)]) rfl rfl rfl rfl ?_
          refine go_s (pc' := 53) rfl rfl rfl rfl ?_
          refine go_s (pc' := 54) rfl rfl rfl rfl ?_
          refine go_s (pc' := 55) (st' := [.int 4, .int 2]) rfl rfl rfl rfl ?_
          refine go_icmpP (t' := 74) (pc' := 56) rfl rfl rfl (fun (c : 4 ≤ (2 : Int32)) => absurd c (by decide)) (fun _ => ?_)
          refine go_s (pc' := 57) rfl rfl rfl rfl ?_
          refine go_sget (pc' := 58) (v := .ref 77) hS19 rfl rfl rfl (by decide) rfl rfl ?_
          refine go_s (pc' := 59) rfl rfl rfl rfl ?_
          refine go_s (pc' := 60) (st' := [.int 7, .int 1696, .ref 77]) rfl rfl rfl rfl ?_
          refine go_s (pc' := 61) (st' := [.int 1703, .ref 77]) rfl rfl rfl rfl ?_
          refine go_s (pc' := 62) rfl rfl rfl rfl ?_
          refine go_s (pc' := 63) (st' := [.int 1705, .ref 77]) rfl rfl rfl rfl ?_
          refine go_s (pc' := 64) rfl rfl rfl rfl ?_
          refine go_sget (pc' := 65) (v := .ref am) hS19 rfl rfl rfl (by decide) rfl rfl ?_
          refine go_s (pc' := 66) rfl rfl rfl rfl ?_
          refine go_s (pc' := 67) (st' := [.int 7, .int (nI (13 * x)), .ref am, .int 1705, .ref 77]) rfl rfl rfl rfl ?_
          refine go_nadd (pc' := 68) (a := (13 * x)) (b := 7) rfl rfl rfl rfl rfl ?_
          refine go_s (pc' := 69) rfl rfl rfl rfl ?_
          refine go_nadd (pc' := 70) (a := ((13 * x) + 7)) (b := 2) rfl rfl rfl rfl rfl ?_
          refine go_sald (pc' := 71) (q := (((13 * x) + 7) + 2)) (v := .int (m.1 9)) hS19 rfl (tr_ms hr (by omega)) rfl rfl (by omega) (congrArg Value.int (hx.2.2.2.2.1 3 (by rw [hm0]; decide))) rfl ?_
          refine go_siast (pc' := 72) (q := 1705) hS19 rfl (tr_as hr (by omega)) tbr_inj (Nat.le_of_ble_eq_true rfl) rfl (by decide) (by decide) (hW _ (by decide) (by decide)) rfl (fun h22 hS23 hE24 => ?_)
          have hE25 := sm_e_trans hE21 hE24
          refine go_s (pc' := 73) (lo' := [some (.ref 62), some (.int 2), some (.int (nI (13 * x))), some (.int 1696), some (.int 3)]) rfl rfl rfl rfl ?_
          refine go_s (pc' := 53) rfl rfl rfl rfl ?_
          refine go_s (pc' := 54) rfl rfl rfl rfl ?_
          refine go_s (pc' := 55) (st' := [.int 4, .int 3]) rfl rfl rfl rfl ?_
          refine go_icmpP (t' := 74) (pc' := 56) rfl rfl rfl (fun (c : 4 ≤ (3 : Int32)) => absurd c (by decide)) (fun _ => ?_)
          refine go_s (pc' := 57) rfl rfl rfl rfl ?_
          refine go_sget (pc' := 58) (v := .ref 77) hS23 rfl rfl rfl (by decide) rfl rfl ?_
          refine go_s (pc' := 59) rfl rfl rfl rfl ?_
          refine go_s (pc' := 60) (st' := [.int 7, .int 1696, .ref 77]) rfl rfl rfl rfl ?_
          refine go_s (pc' := 61) (st' := [.int 1703, .ref 77]) rfl rfl rfl rfl ?_
          refine go_s (pc' := 62) rfl rfl rfl rfl ?_
          refine go_s (pc' := 63) (st' := [.int 1706, .ref 77]) rfl rfl rfl rfl ?_
          refine go_s (pc' := 64) rfl rfl rfl rfl ?_
          refine go_sget (pc' := 65) (v := .ref am) hS23 rfl rfl rfl (by decide) rfl rfl ?_
          refine go_s (pc' := 66) rfl rfl rfl rfl ?_
          refine go_s (pc' := 67) (st' := [.int 7, .int (nI (13 * x)), .ref am, .int 1706, .ref 77]) rfl rfl rfl rfl ?_
          refine go_nadd (pc' := 68) (a := (13 * x)) (b := 7) rfl rfl rfl rfl rfl ?_
          refine go_s (pc' := 69) rfl rfl rfl rfl ?_
          refine go_nadd (pc' := 70) (a := ((13 * x) + 7)) (b := 3) rfl rfl rfl rfl rfl ?_
          refine go_sald (pc' := 71) (q := (((13 * x) + 7) + 3)) (v := .int (m.1 10)) hS23 rfl (tr_ms hr (by omega)) rfl rfl (by omega) (congrArg Value.int (hx.2.2.2.2.1 4 (by rw [hm0]; decide))) rfl ?_
          refine go_siast (pc' := 72) (q := 1706) hS23 rfl (tr_as hr (by omega)) tbr_inj (Nat.le_of_ble_eq_true rfl) rfl (by decide) (by decide) (hW _ (by decide) (by decide)) rfl (fun h26 hS27 hE28 => ?_)
          have hE29 := sm_e_trans hE25 hE28
          refine go_s (pc' := 73) (lo' := [some (.ref 62), some (.int 2), some (.int (nI (13 * x))), some (.int 1696), some (.int 4)]) rfl rfl rfl rfl ?_
          refine go_s (pc' := 53) rfl rfl rfl rfl ?_
          refine go_s (pc' := 54) rfl rfl rfl rfl ?_
          refine go_s (pc' := 55) (st' := [.int 4, .int 4]) rfl rfl rfl rfl ?_
          refine go_icmpP (t' := 74) (pc' := 56) rfl rfl rfl (fun _ => ?_) (fun (c : ¬ (4 ≤ (4 : Int32))) => absurd (by decide) c)
          refine go_s (pc' := 75) rfl rfl rfl rfl ?_
          refine go_sget (pc' := 76) (v := .ref 77) hS27 rfl rfl rfl (by decide) rfl rfl ?_
          refine go_s (pc' := 77) rfl rfl rfl rfl ?_
          refine go_s (pc' := 78) (st' := [.int 5, .int 1696, .ref 77]) rfl rfl rfl rfl ?_
          refine go_s (pc' := 79) (st' := [.int 1701, .ref 77]) rfl rfl rfl rfl ?_
          refine go_s (pc' := 80) rfl rfl rfl rfl ?_
          refine go_sget (pc' := 81) (v := .ref am) hS27 rfl rfl rfl (by decide) rfl rfl ?_
          refine go_s (pc' := 82) rfl rfl rfl rfl ?_
          refine go_s (pc' := 83) (st' := [.int 10, .int (nI (13 * x)), .ref am, .int 1701, .ref 77]) rfl rfl rfl rfl ?_
          refine go_nadd (pc' := 84) (a := (13 * x)) (b := 10) rfl rfl rfl rfl rfl ?_
          refine go_sald (pc' := 85) (q := ((13 * x) + 10)) (v := .int (m.1 10)) hS27 rfl (tr_ms hr (by omega)) rfl rfl (by omega) (congrArg Value.int (hx.2.2.2.2.1 4 (by rw [hm0]; decide))) rfl ?_
          refine go_siast (pc' := 86) (q := 1701) hS27 rfl (tr_as hr (by omega)) tbr_inj (Nat.le_of_ble_eq_true rfl) rfl (by decide) (by decide) (hW _ (by decide) (by decide)) rfl (fun h30 hS31 hE32 => ?_)
          have hE33 := sm_e_trans hE29 hE32
          refine go_s (pc' := 87) rfl rfl rfl rfl ?_
          refine go_s (pc' := 88) rfl rfl rfl rfl ?_
          change sm (tbr am (13 * ln) 77 5088) _ (uI (uI (uI (uI (uI (uI (uI (jn I K) 51 1697 0) 51 1702 1) 51 1703 (m.1 7)) 51 1704 (m.1 8)) 51 1705 (m.1 9)) 51 1706 (m.1 10)) 51 1701 (m.1 10)) Y at hS31
          rw [jn_hi (c := 51) (by decide), jn_hi (c := 51) (by decide), jn_hi (c := 51) (by decide), jn_hi (c := 51) (by decide), jn_hi (c := 51) (by decide), jn_hi (c := 51) (by decide), jn_hi (c := 51) (by decide)] at hS31
          have hU34 : RU w B R [(x, m)] hb h30 am ln (uI (uI (uI (uI (uI (uI (uI K 51 1697 0) 51 1702 1) 51 1703 (m.1 7)) 51 1704 (m.1 8)) 51 1705 (m.1 9)) 51 1706 (m.1 10)) 51 1701 (m.1 10)) (I, Q, (uZ Z 4 (mans (Z 4).1 (fun i => m.1 (5 + i)), (Z 4).2))) := RU_row (K' := (uI (uI (uI (uI (uI (uI (uI K 51 1697 0) 51 1702 1) 51 1703 (m.1 7)) 51 1704 (m.1 8)) 51 1705 (m.1 9)) 51 1706 (m.1 10)) 51 1701 (m.1 10))) (s := (mans (Z 4).1 (fun i => m.1 (5 + i)), (Z 4).2)) (by decide) (fun c j _ hc => by
            simp only [uI]
            rw [if_neg (by omega), if_neg (by omega), if_neg (by omega), if_neg (by omega), if_neg (by omega), if_neg (by omega), if_neg (by omega)]) (⟨fun h => absurd h (by decide), fun _ j hj => by
            match j, hj with
            | 0, _ => (repeat (first | rw [uI_e (by decide)] | rw [uI_j (by decide)])) <;> first | rfl | exact RR_t hU.2.1 (i := 4) (by decide) (by decide) 0 (by decide)
            | 1, _ => (repeat (first | rw [uI_e (by decide)] | rw [uI_j (by decide)])) <;> first | rfl | exact RR_t hU.2.1 (i := 4) (by decide) (by decide) 1 (by decide)
            | 2, _ => (repeat (first | rw [uI_e (by decide)] | rw [uI_j (by decide)])) <;> first | rfl | exact RR_t hU.2.1 (i := 4) (by decide) (by decide) 2 (by decide)
            | 3, _ => (repeat (first | rw [uI_e (by decide)] | rw [uI_j (by decide)])) <;> first | rfl | exact RR_t hU.2.1 (i := 4) (by decide) (by decide) 3 (by decide)
            | 4, _ => (repeat (first | rw [uI_e (by decide)] | rw [uI_j (by decide)])) <;> first | rfl | exact RR_t hU.2.1 (i := 4) (by decide) (by decide) 4 (by decide)
            | 5, _ => (repeat (first | rw [uI_e (by decide)] | rw [uI_j (by decide)])) <;> first | rfl | exact RR_t hU.2.1 (i := 4) (by decide) (by decide) 5 (by decide)
            | 6, _ => (repeat (first | rw [uI_e (by decide)] | rw [uI_j (by decide)])) <;> first | rfl | exact RR_t hU.2.1 (i := 4) (by decide) (by decide) 6 (by decide)
            | 7, _ => (repeat (first | rw [uI_e (by decide)] | rw [uI_j (by decide)])) <;> first | rfl | exact RR_t hU.2.1 (i := 4) (by decide) (by decide) 7 (by decide)
            | 8, _ => (repeat (first | rw [uI_e (by decide)] | rw [uI_j (by decide)])) <;> first | rfl | exact RR_t hU.2.1 (i := 4) (by decide) (by decide) 8 (by decide)
            | 9, _ => (repeat (first | rw [uI_e (by decide)] | rw [uI_j (by decide)])) <;> first | rfl | exact RR_t hU.2.1 (i := 4) (by decide) (by decide) 9 (by decide)
            | 10, _ => (repeat (first | rw [uI_e (by decide)] | rw [uI_j (by decide)])) <;> first | rfl | exact RR_t hU.2.1 (i := 4) (by decide) (by decide) 10 (by decide)
            | 11, _ => (repeat (first | rw [uI_e (by decide)] | rw [uI_j (by decide)])) <;> first | rfl | exact RR_t hU.2.1 (i := 4) (by decide) (by decide) 11 (by decide)⟩) (RU_I (hE33) (I' := I) (fun _ => rfl) (fun _ => rfl) (Nat.le_refl _) hU)
          have hA35 : RA w B R [(x, m)] hb h30 (I, Q, (uZ Z 4 (mans (Z 4).1 (fun i => m.1 (5 + i)), (Z 4).2))) := RA_u.mpr ⟨_, _, _, _, hS31, hU34⟩
          refine go_callV (pc' := 89) rfl rfl rfl (Nat.le_of_ble_eq_true rfl) rfl (sm_o hS31 rfl) rfl rfl rfl (ra_tl_2 hA35 (by omega) hp0 (Or.inr (Or.inl e1)) (fun z => absurd (e1.symm.trans z) (by decide)) hoh h5 (by omega)) (fun r h36 q37 => ?_)
          obtain ⟨rfl, hA38⟩ := q37
          refine go_ret rfl rfl ?_
          have hms : rrd 1 (fun i => m.1 (5 + i)) (I, Q, Z) = rtl 2 (mrdZ 1 (fun i => m.1 (5 + i)) (I, Q, Z)) := by
            unfold rrd
            rw [show row1 (I, Q, Z) (1 + 1) = (Z 4).1 from row1_l (v := 2) e1 (by decide), if_neg (fun z => z.elim (fun y => y c4) (fun y => y.elim (fun y => y c5) (fun y => y c6)))]
          have hz9 : mrdZ 1 (fun i => m.1 (5 + i)) (I, Q, Z) = (I, Q, (uZ Z 4 (mans (Z 4).1 (fun i => m.1 (5 + i)), (Z 4).2))) := by
            unfold mrdZ
            rw [show row1 (I, Q, Z) (1 + 1) = (Z 4).1 from row1_l (v := 2) e1 (by decide), show rwi (I, Q, Z).1 (1 + 1) = 4 from rwi_l (v := 2) e1 (by decide)]
          rw [hms, hz9]
          exact ⟨rfl, hA38⟩
        · skip
          refine go_ret rfl rfl ?_
          have hms : rrd 1 (fun i => m.1 (5 + i)) (I, Q, Z) = (I, Q, Z) := by
            unfold rrd
            rw [show row1 (I, Q, Z) (1 + 1) = (Z 4).1 from row1_l (v := 2) e1 (by decide), if_pos (Or.inr (Or.inr c6))]
          rw [hms]
          exact ⟨rfl, RA_R (by omega) hA⟩
  · skip
    refine go_s (pc' := 1) rfl rfl rfl rfl ?_
    refine go_s (pc' := 2) rfl rfl rfl rfl ?_
    refine go_callV (pc' := 3) rfl rfl rfl (Nat.le_of_ble_eq_true rfl) rfl (sm_o hS rfl) rfl rfl rfl (rt_at_2 hr hS (Or.inr (Or.inr e1)) (fun z => absurd (e1.symm.trans z) (by decide)) (by omega)) (fun r h39 q40 => ?_)
    obtain ⟨rfl, rfl⟩ := q40
    rw [show rwi (jn I K) 2 = 5 by unfold rwi pn; rw [show (jn I K) 11 2 = 3 from e1]; rfl]
    show am_Go _ _ _ _ 3 _ [.int 2120] _ _
    refine go_s (pc' := 4) (lo' := [some (.ref 62), some (.int 2), some (.int (nI (13 * x))), some (.int 2120), none]) rfl rfl rfl rfl ?_
    refine go_s (pc' := 5) rfl rfl rfl rfl ?_
    refine go_sget (pc' := 6) (v := .ref 83) hS rfl rfl rfl (by decide) rfl rfl ?_
    refine go_s (pc' := 7) rfl rfl rfl rfl ?_
    refine go_sald (pc' := 8) (q := 2) (v := .int (I 16 2)) hS rfl (tr_s hr (a := 83) rfl (by decide)) rfl rfl (by decide) rfl rfl ?_
    refine go_s (pc' := 9) (st' := [.int 2, .int (I 16 2)]) rfl rfl rfl rfl ?_
    refine go_icmpP (t' := 36) (pc' := 10) rfl rfl rfl (fun (c41 : ¬ (I 16 2) = 2) => ?_) (fun (c41' : ¬ ¬ (I 16 2) = 2) => ?_)
    · skip
      refine go_ret rfl rfl ?_
      have hms : rrd 1 (fun i => m.1 (5 + i)) (I, Q, Z) = (I, Q, Z) := by
        unfold rrd
        rw [show row1 (I, Q, Z) (1 + 1) = (Z 5).1 from row1_l (v := 3) e1 (by decide), if_pos (Or.inl c41)]
      rw [hms]
      exact ⟨rfl, RA_R (by omega) hA⟩
    · skip
      have c41 : (I 16 2) = 2 := Decidable.not_not.mp c41'
      refine go_s (pc' := 11) rfl rfl rfl rfl ?_
      refine go_sget (pc' := 12) (v := .ref am) hS rfl rfl rfl (by decide) rfl rfl ?_
      refine go_s (pc' := 13) rfl rfl rfl rfl ?_
      refine go_s (pc' := 14) (st' := [.int 6, .int (nI (13 * x)), .ref am]) rfl rfl rfl rfl ?_
      refine go_nadd (pc' := 15) (a := (13 * x)) (b := 6) rfl rfl rfl rfl rfl ?_
      refine go_sald (pc' := 16) (q := ((13 * x) + 6)) (v := .int (m.1 6)) hS rfl (tr_ms hr (by omega)) rfl rfl (by omega) (congrArg Value.int (hx.2.2.2.2.1 0 (by rw [hm0]; decide))) rfl ?_
      refine go_s (pc' := 17) rfl rfl rfl rfl ?_
      refine go_sget (pc' := 18) (v := .ref 77) hS rfl rfl rfl (by decide) rfl rfl ?_
      refine go_s (pc' := 19) rfl rfl rfl rfl ?_
      refine go_s (pc' := 20) (st' := [.int 11, .int 2120, .ref 77, .int (m.1 6)]) rfl rfl rfl rfl ?_
      refine go_s (pc' := 21) (st' := [.int 2131, .ref 77, .int (m.1 6)]) rfl rfl rfl rfl ?_
      refine go_sald (pc' := 22) (q := 2131) (v := .int ((Z 5).1 11)) hS rfl (tr_as hr (by omega)) rfl rfl (by decide) (congrArg Value.int (RR_t hU.2.1 (i := 5) (by decide) (by decide) 11 (by decide))) rfl ?_
      refine go_icmpP (t' := 36) (pc' := 23) rfl rfl rfl (fun (c42 : ¬ (m.1 6) = ((Z 5).1 11)) => ?_) (fun (c42' : ¬ ¬ (m.1 6) = ((Z 5).1 11)) => ?_)
      · skip
        refine go_ret rfl rfl ?_
        have hms : rrd 1 (fun i => m.1 (5 + i)) (I, Q, Z) = (I, Q, Z) := by
          unfold rrd
          rw [show row1 (I, Q, Z) (1 + 1) = (Z 5).1 from row1_l (v := 3) e1 (by decide), if_pos (Or.inr (Or.inl c42))]
        rw [hms]
        exact ⟨rfl, RA_R (by omega) hA⟩
      · skip
        have c42 : (m.1 6) = ((Z 5).1 11) := Decidable.not_not.mp c42'
        refine go_s (pc' := 24) rfl rfl rfl rfl ?_
        refine go_sget (pc' := 25) (v := .ref am) hS rfl rfl rfl (by decide) rfl rfl ?_
        refine go_s (pc' := 26) rfl rfl rfl rfl ?_
        refine go_s (pc' := 27) (st' := [.int 7, .int (nI (13 * x)), .ref am]) rfl rfl rfl rfl ?_
        refine go_nadd (pc' := 28) (a := (13 * x)) (b := 7) rfl rfl rfl rfl rfl ?_
        refine go_sald (pc' := 29) (q := ((13 * x) + 7)) (v := .int (m.1 7)) hS rfl (tr_ms hr (by omega)) rfl rfl (by omega) (congrArg Value.int (hx.2.2.2.2.1 1 (by rw [hm0]; decide))) rfl ?_
        refine go_s (pc' := 30) rfl rfl rfl rfl ?_
        refine go_sget (pc' := 31) (v := .ref 77) hS rfl rfl rfl (by decide) rfl rfl ?_
        refine go_s (pc' := 32) rfl rfl rfl rfl ?_
        refine go_s (pc' := 33) (st' := [.int 0, .int 2120, .ref 77, .int (m.1 7)]) rfl rfl rfl rfl ?_
        refine go_s (pc' := 34) (st' := [.int 2120, .ref 77, .int (m.1 7)]) rfl rfl rfl rfl ?_
        refine go_sald (pc' := 35) (q := 2120) (v := .int ((Z 5).1 0)) hS rfl (tr_as hr (by omega)) rfl rfl (by decide) (congrArg Value.int (RR_t hU.2.1 (i := 5) (by decide) (by decide) 0 (by decide))) rfl ?_
        refine go_icmpP (t' := 37) (pc' := 36) rfl rfl rfl (fun (c43 : (m.1 7) = ((Z 5).1 0)) => ?_) (fun (c43 : ¬ (m.1 7) = ((Z 5).1 0)) => ?_)
        · skip
          refine go_s (pc' := 38) rfl rfl rfl rfl ?_
          refine go_sget (pc' := 39) (v := .ref 77) hS rfl rfl rfl (by decide) rfl rfl ?_
          refine go_s (pc' := 40) rfl rfl rfl rfl ?_
          refine go_s (pc' := 41) (st' := [.int 1, .int 2120, .ref 77]) rfl rfl rfl rfl ?_
          refine go_s (pc' := 42) (st' := [.int 2121, .ref 77]) rfl rfl rfl rfl ?_
          refine go_s (pc' := 43) (st' := [.int 0, .int 2121, .ref 77]) rfl rfl rfl rfl ?_
          refine go_siast (pc' := 44) (q := 2121) hS rfl (tr_as hr (by omega)) tbr_inj (Nat.le_of_ble_eq_true rfl) rfl (by decide) (by decide) (hW _ (by decide) (by decide)) rfl (fun h44 hS45 hE46 => ?_)
          refine go_s (pc' := 45) rfl rfl rfl rfl ?_
          refine go_sget (pc' := 46) (v := .ref 77) hS45 rfl rfl rfl (by decide) rfl rfl ?_
          refine go_s (pc' := 47) rfl rfl rfl rfl ?_
          refine go_s (pc' := 48) (st' := [.int 6, .int 2120, .ref 77]) rfl rfl rfl rfl ?_
          refine go_s (pc' := 49) (st' := [.int 2126, .ref 77]) rfl rfl rfl rfl ?_
          refine go_s (pc' := 50) (st' := [.int 1, .int 2126, .ref 77]) rfl rfl rfl rfl ?_
          refine go_siast (pc' := 51) (q := 2126) hS45 rfl (tr_as hr (by omega)) tbr_inj (Nat.le_of_ble_eq_true rfl) rfl (by decide) (by decide) (hW _ (by decide) (by decide)) rfl (fun h47 hS48 hE49 => ?_)
          have hE50 := sm_e_trans hE46 hE49
          refine go_s (pc' := 52) (st' := [.int 0]) rfl rfl rfl rfl ?_
          refine go_s (pc' := 53) (lo' := [some (.ref 62), some (.int 2), some (.int (nI (13 * x))), some (.int 2120), some (.int 0)]) rfl rfl rfl rfl ?_
          refine go_s (pc' := 54) rfl rfl rfl rfl ?_
          refine go_s (pc' := 55) (st' := [.int 4, .int 0]) rfl rfl rfl rfl ?_
          refine go_icmpP (t' := 74) (pc' := 56) rfl rfl rfl (fun (c : 4 ≤ (0 : Int32)) => absurd c (by decide)) (fun _ => ?_)
          refine go_s (pc' := 57) rfl rfl rfl rfl ?_
          refine go_sget (pc' := 58) (v := .ref 77) hS48 rfl rfl rfl (by decide) rfl rfl ?_
          refine go_s (pc' := 59) rfl rfl rfl rfl ?_
          refine go_s (pc' := 60) (st' := [.int 7, .int 2120, .ref 77]) rfl rfl rfl rfl ?_
          refine go_s (pc' := 61) (st' := [.int 2127, .ref 77]) rfl rfl rfl rfl ?_
          refine go_s (pc' := 62) rfl rfl rfl rfl ?_
          refine go_s (pc' := 63) (st' := [.int 2127, .ref 77]) rfl rfl rfl rfl ?_
          refine go_s (pc' := 64) rfl rfl rfl rfl ?_
          refine go_sget (pc' := 65) (v := .ref am) hS48 rfl rfl rfl (by decide) rfl rfl ?_
          refine go_s (pc' := 66) rfl rfl rfl rfl ?_
          refine go_s (pc' := 67) (st' := [.int 7, .int (nI (13 * x)), .ref am, .int 2127, .ref 77]) rfl rfl rfl rfl ?_
          refine go_nadd (pc' := 68) (a := (13 * x)) (b := 7) rfl rfl rfl rfl rfl ?_
          refine go_s (pc' := 69) rfl rfl rfl rfl ?_
          refine go_nadd (pc' := 70) (a := ((13 * x) + 7)) (b := 0) rfl rfl rfl rfl rfl ?_
          refine go_sald (pc' := 71) (q := (((13 * x) + 7) + 0)) (v := .int (m.1 7)) hS48 rfl (tr_ms hr (by omega)) rfl rfl (by omega) (congrArg Value.int (hx.2.2.2.2.1 1 (by rw [hm0]; decide))) rfl ?_
          refine go_siast (pc' := 72) (q := 2127) hS48 rfl (tr_as hr (by omega)) tbr_inj (Nat.le_of_ble_eq_true rfl) rfl (by decide) (by decide) (hW _ (by decide) (by decide)) rfl (fun h51 hS52 hE53 => ?_)
          have hE54 := sm_e_trans hE50 hE53
          refine go_s (pc' := 73) (lo' := [some (.ref 62), some (.int 2), some (.int (nI (13 * x))), some (.int 2120), some (.int 1)]) rfl rfl rfl rfl ?_
          refine go_s (pc' := 53) rfl rfl rfl rfl ?_
          refine go_s (pc' := 54) rfl rfl rfl rfl ?_
          refine go_s (pc' := 55) (st' := [.int 4, .int 1]) rfl rfl rfl rfl ?_
          refine go_icmpP (t' := 74) (pc' := 56) rfl rfl rfl (fun (c : 4 ≤ (1 : Int32)) => absurd c (by decide)) (fun _ => ?_)
          refine go_s (pc' := 57) rfl rfl rfl rfl ?_
          refine go_sget (pc' := 58) (v := .ref 77) hS52 rfl rfl rfl (by decide) rfl rfl ?_
          refine go_s (pc' := 59) rfl rfl rfl rfl ?_
          refine go_s (pc' := 60) (st' := [.int 7, .int 2120, .ref 77]) rfl rfl rfl rfl ?_
          refine go_s (pc' := 61) (st' := [.int 2127, .ref 77]) rfl rfl rfl rfl ?_
          refine go_s (pc' := 62) rfl rfl rfl rfl ?_
          refine go_s (pc' := 63) (st' := [.int 2128, .ref 77]) rfl rfl rfl rfl ?_
          refine go_s (pc' := 64) rfl rfl rfl rfl ?_
          refine go_sget (pc' := 65) (v := .ref am) hS52 rfl rfl rfl (by decide) rfl rfl ?_
          refine go_s (pc' := 66) rfl rfl rfl rfl ?_
          refine go_s (pc' := 67) (st' := [.int 7, .int (nI (13 * x)), .ref am, .int 2128, .ref 77]) rfl rfl rfl rfl ?_
          refine go_nadd (pc' := 68) (a := (13 * x)) (b := 7) rfl rfl rfl rfl rfl ?_
          refine go_s (pc' := 69) rfl rfl rfl rfl ?_
          refine go_nadd (pc' := 70) (a := ((13 * x) + 7)) (b := 1) rfl rfl rfl rfl rfl ?_
          refine go_sald (pc' := 71) (q := (((13 * x) + 7) + 1)) (v := .int (m.1 8)) hS52 rfl (tr_ms hr (by omega)) rfl rfl (by omega) (congrArg Value.int (hx.2.2.2.2.1 2 (by rw [hm0]; decide))) rfl ?_
          refine go_siast (pc' := 72) (q := 2128) hS52 rfl (tr_as hr (by omega)) tbr_inj (Nat.le_of_ble_eq_true rfl) rfl (by decide) (by decide) (hW _ (by decide) (by decide)) rfl (fun h55 hS56 hE57 => ?_)
          have hE58 := sm_e_trans hE54 hE57
          refine go_s (pc' := 73) (lo' := [some (.ref 62), some (.int 2), some (.int (nI (13 * x))), some (.int 2120), some (.int 2)]) rfl rfl rfl rfl ?_
          refine go_s (pc' := 53) rfl rfl rfl rfl ?_
          refine go_s (pc' := 54) rfl rfl rfl rfl ?_
          refine go_s (pc' := 55) (st' := [.int 4, .int 2]) rfl rfl rfl rfl ?_
          refine go_icmpP (t' := 74) (pc' := 56) rfl rfl rfl (fun (c : 4 ≤ (2 : Int32)) => absurd c (by decide)) (fun _ => ?_)
          refine go_s (pc' := 57) rfl rfl rfl rfl ?_
          refine go_sget (pc' := 58) (v := .ref 77) hS56 rfl rfl rfl (by decide) rfl rfl ?_
          refine go_s (pc' := 59) rfl rfl rfl rfl ?_
          refine go_s (pc' := 60) (st' := [.int 7, .int 2120, .ref 77]) rfl rfl rfl rfl ?_
          refine go_s (pc' := 61) (st' := [.int 2127, .ref 77]) rfl rfl rfl rfl ?_
          refine go_s (pc' := 62) rfl rfl rfl rfl ?_
          refine go_s (pc' := 63) (st' := [.int 2129, .ref 77]) rfl rfl rfl rfl ?_
          refine go_s (pc' := 64) rfl rfl rfl rfl ?_
          refine go_sget (pc' := 65) (v := .ref am) hS56 rfl rfl rfl (by decide) rfl rfl ?_
          refine go_s (pc' := 66) rfl rfl rfl rfl ?_
          refine go_s (pc' := 67) (st' := [.int 7, .int (nI (13 * x)), .ref am, .int 2129, .ref 77]) rfl rfl rfl rfl ?_
          refine go_nadd (pc' := 68) (a := (13 * x)) (b := 7) rfl rfl rfl rfl rfl ?_
          refine go_s (pc' := 69) rfl rfl rfl rfl ?_
          refine go_nadd (pc' := 70) (a := ((13 * x) + 7)) (b := 2) rfl rfl rfl rfl rfl ?_
          refine go_sald (pc' := 71) (q := (((13 * x) + 7) + 2)) (v := .int (m.1 9)) hS56 rfl (tr_ms hr (by omega)) rfl rfl (by omega) (congrArg Value.int (hx.2.2.2.2.1 3 (by rw [hm0]; decide))) rfl ?_
          refine go_siast (pc' := 72) (q := 2129) hS56 rfl (tr_as hr (by omega)) tbr_inj (Nat.le_of_ble_eq_true rfl) rfl (by decide) (by decide) (hW _ (by decide) (by decide)) rfl (fun h59 hS60 hE61 => ?_)
          have hE62 := sm_e_trans hE58 hE61
          refine go_s (pc' := 73) (lo' := [some (.ref 62), some (.int 2), some (.int (nI (13 * x))), some (.int 2120), some (.int 3)]) rfl rfl rfl rfl ?_
          refine go_s (pc' := 53) rfl rfl rfl rfl ?_
          refine go_s (pc' := 54) rfl rfl rfl rfl ?_
          refine go_s (pc' := 55) (st' := [.int 4, .int 3]) rfl rfl rfl rfl ?_
          refine go_icmpP (t' := 74) (pc' := 56) rfl rfl rfl (fun (c : 4 ≤ (3 : Int32)) => absurd c (by decide)) (fun _ => ?_)
          refine go_s (pc' := 57) rfl rfl rfl rfl ?_
          refine go_sget (pc' := 58) (v := .ref 77) hS60 rfl rfl rfl (by decide) rfl rfl ?_
          refine go_s (pc' := 59) rfl rfl rfl rfl ?_
          refine go_s (pc' := 60) (st' := [.int 7, .int 2120, .ref 77]) rfl rfl rfl rfl ?_
          refine go_s (pc' := 61) (st' := [.int 2127, .ref 77]) rfl rfl rfl rfl ?_
          refine go_s (pc' := 62) rfl rfl rfl rfl ?_
          refine go_s (pc' := 63) (st' := [.int 2130, .ref 77]) rfl rfl rfl rfl ?_
          refine go_s (pc' := 64) rfl rfl rfl rfl ?_
          refine go_sget (pc' := 65) (v := .ref am) hS60 rfl rfl rfl (by decide) rfl rfl ?_
          refine go_s (pc' := 66) rfl rfl rfl rfl ?_
          refine go_s (pc' := 67) (st' := [.int 7, .int (nI (13 * x)), .ref am, .int 2130, .ref 77]) rfl rfl rfl rfl ?_
          refine go_nadd (pc' := 68) (a := (13 * x)) (b := 7) rfl rfl rfl rfl rfl ?_
          refine go_s (pc' := 69) rfl rfl rfl rfl ?_
          refine go_nadd (pc' := 70) (a := ((13 * x) + 7)) (b := 3) rfl rfl rfl rfl rfl ?_
          refine go_sald (pc' := 71) (q := (((13 * x) + 7) + 3)) (v := .int (m.1 10)) hS60 rfl (tr_ms hr (by omega)) rfl rfl (by omega) (congrArg Value.int (hx.2.2.2.2.1 4 (by rw [hm0]; decide))) rfl ?_
          refine go_siast (pc' := 72) (q := 2130) hS60 rfl (tr_as hr (by omega)) tbr_inj (Nat.le_of_ble_eq_true rfl) rfl (by decide) (by decide) (hW _ (by decide) (by decide)) rfl (fun h63 hS64 hE65 => ?_)
          have hE66 := sm_e_trans hE62 hE65
          refine go_s (pc' := 73) (lo' := [some (.ref 62), some (.int 2), some (.int (nI (13 * x))), some (.int 2120), some (.int 4)]) rfl rfl rfl rfl ?_
          refine go_s (pc' := 53) rfl rfl rfl rfl ?_
          refine go_s (pc' := 54) rfl rfl rfl rfl ?_
          refine go_s (pc' := 55) (st' := [.int 4, .int 4]) rfl rfl rfl rfl ?_
          refine go_icmpP (t' := 74) (pc' := 56) rfl rfl rfl (fun _ => ?_) (fun (c : ¬ (4 ≤ (4 : Int32))) => absurd (by decide) c)
          refine go_s (pc' := 75) rfl rfl rfl rfl ?_
          refine go_sget (pc' := 76) (v := .ref 77) hS64 rfl rfl rfl (by decide) rfl rfl ?_
          refine go_s (pc' := 77) rfl rfl rfl rfl ?_
          refine go_s (pc' := 78) (st' := [.int 5, .int 2120, .ref 77]) rfl rfl rfl rfl ?_
          refine go_s (pc' := 79) (st' := [.int 2125, .ref 77]) rfl rfl rfl rfl ?_
          refine go_s (pc' := 80) rfl rfl rfl rfl ?_
          refine go_sget (pc' := 81) (v := .ref am) hS64 rfl rfl rfl (by decide) rfl rfl ?_
          refine go_s (pc' := 82) rfl rfl rfl rfl ?_
          refine go_s (pc' := 83) (st' := [.int 10, .int (nI (13 * x)), .ref am, .int 2125, .ref 77]) rfl rfl rfl rfl ?_
          refine go_nadd (pc' := 84) (a := (13 * x)) (b := 10) rfl rfl rfl rfl rfl ?_
          refine go_sald (pc' := 85) (q := ((13 * x) + 10)) (v := .int (m.1 10)) hS64 rfl (tr_ms hr (by omega)) rfl rfl (by omega) (congrArg Value.int (hx.2.2.2.2.1 4 (by rw [hm0]; decide))) rfl ?_
          refine go_siast (pc' := 86) (q := 2125) hS64 rfl (tr_as hr (by omega)) tbr_inj (Nat.le_of_ble_eq_true rfl) rfl (by decide) (by decide) (hW _ (by decide) (by decide)) rfl (fun h67 hS68 hE69 => ?_)
          have hE70 := sm_e_trans hE66 hE69
          refine go_s (pc' := 87) rfl rfl rfl rfl ?_
          refine go_s (pc' := 88) rfl rfl rfl rfl ?_
          change sm (tbr am (13 * ln) 77 5088) _ (uI (uI (uI (uI (uI (uI (uI (jn I K) 51 2121 0) 51 2126 1) 51 2127 (m.1 7)) 51 2128 (m.1 8)) 51 2129 (m.1 9)) 51 2130 (m.1 10)) 51 2125 (m.1 10)) Y at hS68
          rw [jn_hi (c := 51) (by decide), jn_hi (c := 51) (by decide), jn_hi (c := 51) (by decide), jn_hi (c := 51) (by decide), jn_hi (c := 51) (by decide), jn_hi (c := 51) (by decide), jn_hi (c := 51) (by decide)] at hS68
          have hU71 : RU w B R [(x, m)] hb h67 am ln (uI (uI (uI (uI (uI (uI (uI K 51 2121 0) 51 2126 1) 51 2127 (m.1 7)) 51 2128 (m.1 8)) 51 2129 (m.1 9)) 51 2130 (m.1 10)) 51 2125 (m.1 10)) (I, Q, (uZ Z 5 (mans (Z 5).1 (fun i => m.1 (5 + i)), (Z 5).2))) := RU_row (K' := (uI (uI (uI (uI (uI (uI (uI K 51 2121 0) 51 2126 1) 51 2127 (m.1 7)) 51 2128 (m.1 8)) 51 2129 (m.1 9)) 51 2130 (m.1 10)) 51 2125 (m.1 10))) (s := (mans (Z 5).1 (fun i => m.1 (5 + i)), (Z 5).2)) (by decide) (fun c j _ hc => by
            simp only [uI]
            rw [if_neg (by omega), if_neg (by omega), if_neg (by omega), if_neg (by omega), if_neg (by omega), if_neg (by omega), if_neg (by omega)]) (⟨fun h => absurd h (by decide), fun _ j hj => by
            match j, hj with
            | 0, _ => (repeat (first | rw [uI_e (by decide)] | rw [uI_j (by decide)])) <;> first | rfl | exact RR_t hU.2.1 (i := 5) (by decide) (by decide) 0 (by decide)
            | 1, _ => (repeat (first | rw [uI_e (by decide)] | rw [uI_j (by decide)])) <;> first | rfl | exact RR_t hU.2.1 (i := 5) (by decide) (by decide) 1 (by decide)
            | 2, _ => (repeat (first | rw [uI_e (by decide)] | rw [uI_j (by decide)])) <;> first | rfl | exact RR_t hU.2.1 (i := 5) (by decide) (by decide) 2 (by decide)
            | 3, _ => (repeat (first | rw [uI_e (by decide)] | rw [uI_j (by decide)])) <;> first | rfl | exact RR_t hU.2.1 (i := 5) (by decide) (by decide) 3 (by decide)
            | 4, _ => (repeat (first | rw [uI_e (by decide)] | rw [uI_j (by decide)])) <;> first | rfl | exact RR_t hU.2.1 (i := 5) (by decide) (by decide) 4 (by decide)
            | 5, _ => (repeat (first | rw [uI_e (by decide)] | rw [uI_j (by decide)])) <;> first | rfl | exact RR_t hU.2.1 (i := 5) (by decide) (by decide) 5 (by decide)
            | 6, _ => (repeat (first | rw [uI_e (by decide)] | rw [uI_j (by decide)])) <;> first | rfl | exact RR_t hU.2.1 (i := 5) (by decide) (by decide) 6 (by decide)
            | 7, _ => (repeat (first | rw [uI_e (by decide)] | rw [uI_j (by decide)])) <;> first | rfl | exact RR_t hU.2.1 (i := 5) (by decide) (by decide) 7 (by decide)
            | 8, _ => (repeat (first | rw [uI_e (by decide)] | rw [uI_j (by decide)])) <;> first | rfl | exact RR_t hU.2.1 (i := 5) (by decide) (by decide) 8 (by decide)
            | 9, _ => (repeat (first | rw [uI_e (by decide)] | rw [uI_j (by decide)])) <;> first | rfl | exact RR_t hU.2.1 (i := 5) (by decide) (by decide) 9 (by decide)
            | 10, _ => (repeat (first | rw [uI_e (by decide)] | rw [uI_j (by decide)])) <;> first | rfl | exact RR_t hU.2.1 (i := 5) (by decide) (by decide) 10 (by decide)
            | 11, _ => (repeat (first | rw [uI_e (by decide)] | rw [uI_j (by decide)])) <;> first | rfl | exact RR_t hU.2.1 (i := 5) (by decide) (by decide) 11 (by decide)⟩) (RU_I (hE70) (I' := I) (fun _ => rfl) (fun _ => rfl) (Nat.le_refl _) hU)
          have hA72 : RA w B R [(x, m)] hb h67 (I, Q, (uZ Z 5 (mans (Z 5).1 (fun i => m.1 (5 + i)), (Z 5).2))) := RA_u.mpr ⟨_, _, _, _, hS68, hU71⟩
          refine go_callV (pc' := 89) rfl rfl rfl (Nat.le_of_ble_eq_true rfl) rfl (sm_o hS68 rfl) rfl rfl rfl (ra_tl_2 hA72 (by omega) hp0 (Or.inr (Or.inr e1)) (fun z => absurd (e1.symm.trans z) (by decide)) hoh h5 (by omega)) (fun r h73 q74 => ?_)
          obtain ⟨rfl, hA75⟩ := q74
          refine go_ret rfl rfl ?_
          have hms : rrd 1 (fun i => m.1 (5 + i)) (I, Q, Z) = rtl 2 (mrdZ 1 (fun i => m.1 (5 + i)) (I, Q, Z)) := by
            unfold rrd
            rw [show row1 (I, Q, Z) (1 + 1) = (Z 5).1 from row1_l (v := 3) e1 (by decide), if_neg (fun z => z.elim (fun y => y c41) (fun y => y.elim (fun y => y c42) (fun y => y c43)))]
          have hz9 : mrdZ 1 (fun i => m.1 (5 + i)) (I, Q, Z) = (I, Q, (uZ Z 5 (mans (Z 5).1 (fun i => m.1 (5 + i)), (Z 5).2))) := by
            unfold mrdZ
            rw [show row1 (I, Q, Z) (1 + 1) = (Z 5).1 from row1_l (v := 3) e1 (by decide), show rwi (I, Q, Z).1 (1 + 1) = 5 from rwi_l (v := 3) e1 (by decide)]
          rw [hms, hz9]
          exact ⟨rfl, hA75⟩
        · skip
          refine go_ret rfl rfl ?_
          have hms : rrd 1 (fun i => m.1 (5 + i)) (I, Q, Z) = (I, Q, Z) := by
            unfold rrd
            rw [show row1 (I, Q, Z) (1 + 1) = (Z 5).1 from row1_l (v := 3) e1 (by decide), if_pos (Or.inr (Or.inr c43))]
          rw [hms]
          exact ⟨rfl, RA_R (by omega) hA⟩
