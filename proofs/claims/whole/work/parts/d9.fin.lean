theorem ra_aw {w : Nat → Bool} {d B R : Nat} {H : List (Nat × mg)} {hb : Bool} {h : am_Hp} {I : sm_I} {Q : mQ} {Z : mZ} (hA : RA w B R H hb h (I, Q, Z)) (hR : R + 0 < 40000) (hp0 : prk I 0) (hn0 : ¬ I 11 0 = -1) (hd : 2 ≤ d) : am_Ev (am_prog w) d 141 [.ref 62] h (fun r h' => r = some (.int (b2i (raw (I, Q, Z)))) ∧ h' = h) := by
  obtain ⟨K, Y, am, ln, hS, hU⟩ := RA_u.mp hA
  change sm (tbr am (13 * ln) 77 5088) h (jn I K) Y at hS
  obtain ⟨hW, hWm, -, -, hr, -⟩ := id hU.1
  have hln := RU_ln hU (by omega)
  obtain ⟨d, rfl⟩ : ∃ e, d = e + 1 := ⟨d - 1, by omega⟩
  refine ev_go rfl (Nat.le_of_ble_eq_true rfl) rfl ?_
  rcases hp0 with e1 | e1 | e1
  · skip
    exact absurd e1 hn0
  · skip
    refine go_s (pc' := 1) rfl rfl rfl rfl ?_
    refine go_sget (pc' := 2) (v := .ref 77) hS rfl rfl rfl (by decide) rfl rfl ?_
    refine go_s (pc' := 3) rfl rfl rfl rfl ?_
    refine go_s (pc' := 4) (st' := [.int 0, .ref 62, .ref 77]) rfl rfl rfl rfl ?_
    refine go_callV (pc' := 5) rfl rfl rfl (Nat.le_of_ble_eq_true rfl) rfl (sm_o hS rfl) rfl rfl rfl (rt_at_0 hr hS (Or.inr (Or.inl e1)) (fun z => absurd (e1.symm.trans z) (by decide)) (by omega)) (fun r h2 q3 => ?_)
    obtain ⟨rfl, rfl⟩ := q3
    rw [show rwi (jn I K) 0 = 0 by unfold rwi pn; rw [show (jn I K) 11 0 = 0 from e1]; rfl]
    show am_Go _ _ _ _ 5 _ [.int 0, .ref 77] _ _
    refine go_s (pc' := 6) (st' := [.int 5, .int 0, .ref 77]) rfl rfl rfl rfl ?_
    refine go_s (pc' := 7) (st' := [.int 5, .ref 77]) rfl rfl rfl rfl ?_
    refine go_sald (pc' := 8) (q := 5) (v := .int (nI (List.length (Z 0).2.2))) hS rfl (tr_as hr (by omega)) rfl rfl (by decide) (congrArg Value.int (RR_row hU.2.1 (i := 0) (by decide)).1.2.2.1) rfl ?_
    refine go_s (pc' := 9) (lo' := [some (.ref 62), some (.int (nI (List.length (Z 0).2.2))), none, none]) rfl rfl rfl rfl ?_
    refine go_s (pc' := 10) rfl rfl rfl rfl ?_
    refine go_ifP (t' := 13) (pc' := 11) rfl rfl rfl (fun (c4 : ¬ (nI (List.length (Z 0).2.2)) = 0) => ?_) (fun (c4' : ¬ ¬ (nI (List.length (Z 0).2.2)) = 0) => ?_)
    · skip
      refine go_s (pc' := 14) rfl rfl rfl rfl ?_
      refine go_s (pc' := 15) (st' := [.int 0, .ref 62]) rfl rfl rfl rfl ?_
      refine go_callV (pc' := 16) rfl rfl rfl (Nat.le_of_ble_eq_true rfl) rfl (sm_o hS rfl) rfl rfl rfl (rt_us_0 hr hS (by omega)) (fun r h5 q6 => ?_)
      obtain ⟨rfl, rfl⟩ := q6
      rw [show us (jn I K) 0 = us I 0 from rfl]
      cases u7 : us I 0
      · skip
        show am_Go _ _ _ _ 16 _ [.int 0] _ _
        refine go_ifP (t' := 21) (pc' := 17) rfl rfl rfl (fun (c : ¬ (0 : Int32) = 0) => absurd c (by decide)) (fun _ => ?_)
        refine go_s (pc' := 18) rfl rfl rfl rfl ?_
        refine go_s (pc' := 19) (st' := [.int 1, .ref 62]) rfl rfl rfl rfl ?_
        refine go_callV (pc' := 20) rfl rfl rfl (Nat.le_of_ble_eq_true rfl) rfl (sm_o hS rfl) rfl rfl rfl (rt_us_1 hr hS (by omega)) (fun r h8 q9 => ?_)
        obtain ⟨rfl, rfl⟩ := q9
        rw [show us (jn I K) 1 = us I 1 from rfl]
        cases u10 : us I 1
        · skip
          show am_Go _ _ _ _ 20 _ [.int 0] _ _
          refine go_ifP (t' := 23) (pc' := 21) rfl rfl rfl (fun _ => ?_) (fun (c : ¬ ((0 : Int32) = 0)) => absurd (by decide) c)
          refine go_s (pc' := 24) (st' := [.int 0]) rfl rfl rfl rfl ?_
          refine go_s (pc' := 25) (lo' := [some (.ref 62), some (.int (nI (List.length (Z 0).2.2))), some (.int 0), none]) rfl rfl rfl rfl ?_
          refine go_s (pc' := 26) (st' := [.int 0]) rfl rfl rfl rfl ?_
          refine go_s (pc' := 27) (lo' := [some (.ref 62), some (.int (nI (List.length (Z 0).2.2))), some (.int 0), some (.int 0)]) rfl rfl rfl rfl ?_
          refine go_s (pc' := 28) rfl rfl rfl rfl ?_
          refine go_s (pc' := 29) (st' := [.int 2, .int 0]) rfl rfl rfl rfl ?_
          refine go_icmpP (t' := 48) (pc' := 30) rfl rfl rfl (fun (c : 2 ≤ (0 : Int32)) => absurd c (by decide)) (fun _ => ?_)
          refine go_s (pc' := 31) rfl rfl rfl rfl ?_
          refine go_ifP (t' := 44) (pc' := 32) rfl rfl rfl (fun _ => ?_) (fun (c : ¬ ((0 : Int32) = 0)) => absurd (by decide) c)
          refine go_s (pc' := 45) (st' := [.int 0]) rfl rfl rfl rfl ?_
          refine go_s (pc' := 46) (lo' := [some (.ref 62), some (.int (nI (List.length (Z 0).2.2))), some (.int 0), some (.int 0)]) rfl rfl rfl rfl ?_
          refine go_s (pc' := 47) (lo' := [some (.ref 62), some (.int (nI (List.length (Z 0).2.2))), some (.int 0), some (.int 1)]) rfl rfl rfl rfl ?_
          refine go_s (pc' := 27) rfl rfl rfl rfl ?_
          refine go_s (pc' := 28) rfl rfl rfl rfl ?_
          refine go_s (pc' := 29) (st' := [.int 2, .int 1]) rfl rfl rfl rfl ?_
          refine go_icmpP (t' := 48) (pc' := 30) rfl rfl rfl (fun (c : 2 ≤ (1 : Int32)) => absurd c (by decide)) (fun _ => ?_)
          refine go_s (pc' := 31) rfl rfl rfl rfl ?_
          refine go_ifP (t' := 44) (pc' := 32) rfl rfl rfl (fun _ => ?_) (fun (c : ¬ ((0 : Int32) = 0)) => absurd (by decide) c)
          refine go_s (pc' := 45) (st' := [.int 0]) rfl rfl rfl rfl ?_
          refine go_s (pc' := 46) (lo' := [some (.ref 62), some (.int (nI (List.length (Z 0).2.2))), some (.int 0), some (.int 1)]) rfl rfl rfl rfl ?_
          refine go_s (pc' := 47) (lo' := [some (.ref 62), some (.int (nI (List.length (Z 0).2.2))), some (.int 0), some (.int 2)]) rfl rfl rfl rfl ?_
          refine go_s (pc' := 27) rfl rfl rfl rfl ?_
          refine go_s (pc' := 28) rfl rfl rfl rfl ?_
          refine go_s (pc' := 29) (st' := [.int 2, .int 2]) rfl rfl rfl rfl ?_
          refine go_icmpP (t' := 48) (pc' := 30) rfl rfl rfl (fun _ => ?_) (fun (c : ¬ (2 ≤ (2 : Int32))) => absurd (by decide) c)
          refine go_s (pc' := 49) rfl rfl rfl rfl ?_
          refine go_ret rfl rfl ?_
          have hraw : raw (I, Q, Z) = false := by
            unfold raw raw1
            rw [show rwi (I, Q, Z).1 0 = 0 from rwi_l (v := 0) e1 (by decide)]
            simp [c4, u7, u10]
          rw [hraw]
          exact ⟨rfl, rfl⟩
        · skip
          show am_Go _ _ _ _ 20 _ [.int 1] _ _
          refine go_ifP (t' := 23) (pc' := 21) rfl rfl rfl (fun (c : (1 : Int32) = 0) => absurd c (by decide)) (fun _ => ?_)
          refine go_s (pc' := 22) (st' := [.int 1]) rfl rfl rfl rfl ?_
          refine go_s (pc' := 24) rfl rfl rfl rfl ?_
          refine go_s (pc' := 25) (lo' := [some (.ref 62), some (.int (nI (List.length (Z 0).2.2))), some (.int 1), none]) rfl rfl rfl rfl ?_
          refine go_s (pc' := 26) (st' := [.int 0]) rfl rfl rfl rfl ?_
          refine go_s (pc' := 27) (lo' := [some (.ref 62), some (.int (nI (List.length (Z 0).2.2))), some (.int 1), some (.int 0)]) rfl rfl rfl rfl ?_
          refine go_s (pc' := 28) rfl rfl rfl rfl ?_
          refine go_s (pc' := 29) (st' := [.int 2, .int 0]) rfl rfl rfl rfl ?_
          refine go_icmpP (t' := 48) (pc' := 30) rfl rfl rfl (fun (c : 2 ≤ (0 : Int32)) => absurd c (by decide)) (fun _ => ?_)
          refine go_s (pc' := 31) rfl rfl rfl rfl ?_
          refine go_ifP (t' := 44) (pc' := 32) rfl rfl rfl (fun (c : (1 : Int32) = 0) => absurd c (by decide)) (fun _ => ?_)
          refine go_s (pc' := 33) rfl rfl rfl rfl ?_
          refine go_s (pc' := 34) rfl rfl rfl rfl ?_
          refine go_callV (pc' := 35) rfl rfl rfl (Nat.le_of_ble_eq_true rfl) rfl (sm_o hS rfl) rfl rfl rfl (rt_us_0 hr hS (by omega)) (fun r h11 q12 => ?_)
          obtain ⟨rfl, rfl⟩ := q12
          rw [show us (jn I K) 0 = us I 0 from rfl]
          rw [u7]
          show am_Go _ _ _ _ 35 _ [.int 0] _ _
          refine go_ifP (t' := 42) (pc' := 36) rfl rfl rfl (fun _ => ?_) (fun (c : ¬ ((0 : Int32) = 0)) => absurd (by decide) c)
          refine go_s (pc' := 43) (st' := [.int 1]) rfl rfl rfl rfl ?_
          refine go_s (pc' := 45) rfl rfl rfl rfl ?_
          refine go_s (pc' := 46) (lo' := [some (.ref 62), some (.int (nI (List.length (Z 0).2.2))), some (.int 1), some (.int 0)]) rfl rfl rfl rfl ?_
          refine go_s (pc' := 47) (lo' := [some (.ref 62), some (.int (nI (List.length (Z 0).2.2))), some (.int 1), some (.int 1)]) rfl rfl rfl rfl ?_
          refine go_s (pc' := 27) rfl rfl rfl rfl ?_
          refine go_s (pc' := 28) rfl rfl rfl rfl ?_
          refine go_s (pc' := 29) (st' := [.int 2, .int 1]) rfl rfl rfl rfl ?_
          refine go_icmpP (t' := 48) (pc' := 30) rfl rfl rfl (fun (c : 2 ≤ (1 : Int32)) => absurd c (by decide)) (fun _ => ?_)
          refine go_s (pc' := 31) rfl rfl rfl rfl ?_
          refine go_ifP (t' := 44) (pc' := 32) rfl rfl rfl (fun (c : (1 : Int32) = 0) => absurd c (by decide)) (fun _ => ?_)
          refine go_s (pc' := 33) rfl rfl rfl rfl ?_
          refine go_s (pc' := 34) rfl rfl rfl rfl ?_
          refine go_callV (pc' := 35) rfl rfl rfl (Nat.le_of_ble_eq_true rfl) rfl (sm_o hS rfl) rfl rfl rfl (rt_us_1 hr hS (by omega)) (fun r h13 q14 => ?_)
          obtain ⟨rfl, rfl⟩ := q14
          rw [show us (jn I K) 1 = us I 1 from rfl]
          rw [u10]
          show am_Go _ _ _ _ 35 _ [.int 1] _ _
          refine go_ifP (t' := 42) (pc' := 36) rfl rfl rfl (fun (c : (1 : Int32) = 0) => absurd c (by decide)) (fun _ => ?_)
          refine go_s (pc' := 37) rfl rfl rfl rfl ?_
          refine go_sget (pc' := 38) (v := .ref 88) hS rfl rfl rfl (by decide) rfl rfl ?_
          refine go_s (pc' := 39) rfl rfl rfl rfl ?_
          refine go_sald (pc' := 40) (q := 1) (v := .int (I 22 1)) hS rfl (tr_s hr (a := 88) rfl (by decide)) rfl rfl (by decide) rfl rfl ?_
          refine go_s (pc' := 41) rfl rfl rfl rfl ?_
          refine go_icmpP (t' := 44) (pc' := 42) rfl rfl rfl (fun (c15 : ¬ (I 22 1) = (nI (List.length (Z 0).2.2))) => ?_) (fun (c15' : ¬ ¬ (I 22 1) = (nI (List.length (Z 0).2.2))) => ?_)
          · skip
            refine go_s (pc' := 45) (st' := [.int 0]) rfl rfl rfl rfl ?_
            refine go_s (pc' := 46) (lo' := [some (.ref 62), some (.int (nI (List.length (Z 0).2.2))), some (.int 0), some (.int 1)]) rfl rfl rfl rfl ?_
            refine go_s (pc' := 47) (lo' := [some (.ref 62), some (.int (nI (List.length (Z 0).2.2))), some (.int 0), some (.int 2)]) rfl rfl rfl rfl ?_
            refine go_s (pc' := 27) rfl rfl rfl rfl ?_
            refine go_s (pc' := 28) rfl rfl rfl rfl ?_
            refine go_s (pc' := 29) (st' := [.int 2, .int 2]) rfl rfl rfl rfl ?_
            refine go_icmpP (t' := 48) (pc' := 30) rfl rfl rfl (fun _ => ?_) (fun (c : ¬ (2 ≤ (2 : Int32))) => absurd (by decide) c)
            refine go_s (pc' := 49) rfl rfl rfl rfl ?_
            refine go_ret rfl rfl ?_
            have hraw : raw (I, Q, Z) = false := by
              unfold raw raw1
              rw [show rwi (I, Q, Z).1 0 = 0 from rwi_l (v := 0) e1 (by decide)]
              simp [c4, u7, u10, c15]
            rw [hraw]
            exact ⟨rfl, rfl⟩
          · skip
            have c15 : (I 22 1) = (nI (List.length (Z 0).2.2)) := Decidable.not_not.mp c15'
            refine go_s (pc' := 43) (st' := [.int 1]) rfl rfl rfl rfl ?_
            refine go_s (pc' := 45) rfl rfl rfl rfl ?_
            refine go_s (pc' := 46) (lo' := [some (.ref 62), some (.int (nI (List.length (Z 0).2.2))), some (.int 1), some (.int 1)]) rfl rfl rfl rfl ?_
            refine go_s (pc' := 47) (lo' := [some (.ref 62), some (.int (nI (List.length (Z 0).2.2))), some (.int 1), some (.int 2)]) rfl rfl rfl rfl ?_
            refine go_s (pc' := 27) rfl rfl rfl rfl ?_
            refine go_s (pc' := 28) rfl rfl rfl rfl ?_
            refine go_s (pc' := 29) (st' := [.int 2, .int 2]) rfl rfl rfl rfl ?_
            refine go_icmpP (t' := 48) (pc' := 30) rfl rfl rfl (fun _ => ?_) (fun (c : ¬ (2 ≤ (2 : Int32))) => absurd (by decide) c)
            refine go_s (pc' := 49) rfl rfl rfl rfl ?_
            refine go_ret rfl rfl ?_
            have hraw : raw (I, Q, Z) = true := by
              unfold raw raw1
              rw [show rwi (I, Q, Z).1 0 = 0 from rwi_l (v := 0) e1 (by decide)]
              simp [c4, u7, u10, c15]
            rw [hraw]
            exact ⟨rfl, rfl⟩
      · skip
        show am_Go _ _ _ _ 16 _ [.int 1] _ _
        refine go_ifP (t' := 21) (pc' := 17) rfl rfl rfl (fun _ => ?_) (fun (c : ¬ (¬ (1 : Int32) = 0)) => absurd (by decide) c)
        refine go_s (pc' := 22) (st' := [.int 1]) rfl rfl rfl rfl ?_
        refine go_s (pc' := 24) rfl rfl rfl rfl ?_
        refine go_s (pc' := 25) (lo' := [some (.ref 62), some (.int (nI (List.length (Z 0).2.2))), some (.int 1), none]) rfl rfl rfl rfl ?_
        refine go_s (pc' := 26) (st' := [.int 0]) rfl rfl rfl rfl ?_
        refine go_s (pc' := 27) (lo' := [some (.ref 62), some (.int (nI (List.length (Z 0).2.2))), some (.int 1), some (.int 0)]) rfl rfl rfl rfl ?_
        refine go_s (pc' := 28) rfl rfl rfl rfl ?_
        refine go_s (pc' := 29) (st' := [.int 2, .int 0]) rfl rfl rfl rfl ?_
        refine go_icmpP (t' := 48) (pc' := 30) rfl rfl rfl (fun (c : 2 ≤ (0 : Int32)) => absurd c (by decide)) (fun _ => ?_)
        refine go_s (pc' := 31) rfl rfl rfl rfl ?_
        refine go_ifP (t' := 44) (pc' := 32) rfl rfl rfl (fun (c : (1 : Int32) = 0) => absurd c (by decide)) (fun _ => ?_)
        refine go_s (pc' := 33) rfl rfl rfl rfl ?_
        refine go_s (pc' := 34) rfl rfl rfl rfl ?_
        refine go_callV (pc' := 35) rfl rfl rfl (Nat.le_of_ble_eq_true rfl) rfl (sm_o hS rfl) rfl rfl rfl (rt_us_0 hr hS (by omega)) (fun r h16 q17 => ?_)
        obtain ⟨rfl, rfl⟩ := q17
        rw [show us (jn I K) 0 = us I 0 from rfl]
        rw [u7]
        show am_Go _ _ _ _ 35 _ [.int 1] _ _
        refine go_ifP (t' := 42) (pc' := 36) rfl rfl rfl (fun (c : (1 : Int32) = 0) => absurd c (by decide)) (fun _ => ?_)
        refine go_s (pc' := 37) rfl rfl rfl rfl ?_
        refine go_sget (pc' := 38) (v := .ref 88) hS rfl rfl rfl (by decide) rfl rfl ?_
        refine go_s (pc' := 39) rfl rfl rfl rfl ?_
        refine go_sald (pc' := 40) (q := 0) (v := .int (I 22 0)) hS rfl (tr_s hr (a := 88) rfl (by decide)) rfl rfl (by decide) rfl rfl ?_
        refine go_s (pc' := 41) rfl rfl rfl rfl ?_
        refine go_icmpP (t' := 44) (pc' := 42) rfl rfl rfl (fun (c18 : ¬ (I 22 0) = (nI (List.length (Z 0).2.2))) => ?_) (fun (c18' : ¬ ¬ (I 22 0) = (nI (List.length (Z 0).2.2))) => ?_)
        · skip
          refine go_s (pc' := 45) (st' := [.int 0]) rfl rfl rfl rfl ?_
          refine go_s (pc' := 46) (lo' := [some (.ref 62), some (.int (nI (List.length (Z 0).2.2))), some (.int 0), some (.int 0)]) rfl rfl rfl rfl ?_
          refine go_s (pc' := 47) (lo' := [some (.ref 62), some (.int (nI (List.length (Z 0).2.2))), some (.int 0), some (.int 1)]) rfl rfl rfl rfl ?_
          refine go_s (pc' := 27) rfl rfl rfl rfl ?_
          refine go_s (pc' := 28) rfl rfl rfl rfl ?_
          refine go_s (pc' := 29) (st' := [.int 2, .int 1]) rfl rfl rfl rfl ?_
          refine go_icmpP (t' := 48) (pc' := 30) rfl rfl rfl (fun (c : 2 ≤ (1 : Int32)) => absurd c (by decide)) (fun _ => ?_)
          refine go_s (pc' := 31) rfl rfl rfl rfl ?_
          refine go_ifP (t' := 44) (pc' := 32) rfl rfl rfl (fun _ => ?_) (fun (c : ¬ ((0 : Int32) = 0)) => absurd (by decide) c)
          refine go_s (pc' := 45) (st' := [.int 0]) rfl rfl rfl rfl ?_
          refine go_s (pc' := 46) (lo' := [some (.ref 62), some (.int (nI (List.length (Z 0).2.2))), some (.int 0), some (.int 1)]) rfl rfl rfl rfl ?_
          refine go_s (pc' := 47) (lo' := [some (.ref 62), some (.int (nI (List.length (Z 0).2.2))), some (.int 0), some (.int 2)]) rfl rfl rfl rfl ?_
          refine go_s (pc' := 27) rfl rfl rfl rfl ?_
          refine go_s (pc' := 28) rfl rfl rfl rfl ?_
          refine go_s (pc' := 29) (st' := [.int 2, .int 2]) rfl rfl rfl rfl ?_
          refine go_icmpP (t' := 48) (pc' := 30) rfl rfl rfl (fun _ => ?_) (fun (c : ¬ (2 ≤ (2 : Int32))) => absurd (by decide) c)
          refine go_s (pc' := 49) rfl rfl rfl rfl ?_
          refine go_ret rfl rfl ?_
          have hraw : raw (I, Q, Z) = false := by
            unfold raw raw1
            rw [show rwi (I, Q, Z).1 0 = 0 from rwi_l (v := 0) e1 (by decide)]
            simp [c4, u7, c18]
          rw [hraw]
          exact ⟨rfl, rfl⟩
        · skip
          have c18 : (I 22 0) = (nI (List.length (Z 0).2.2)) := Decidable.not_not.mp c18'
          refine go_s (pc' := 43) (st' := [.int 1]) rfl rfl rfl rfl ?_
          refine go_s (pc' := 45) rfl rfl rfl rfl ?_
          refine go_s (pc' := 46) (lo' := [some (.ref 62), some (.int (nI (List.length (Z 0).2.2))), some (.int 1), some (.int 0)]) rfl rfl rfl rfl ?_
          refine go_s (pc' := 47) (lo' := [some (.ref 62), some (.int (nI (List.length (Z 0).2.2))), some (.int 1), some (.int 1)]) rfl rfl rfl rfl ?_
          refine go_s (pc' := 27) rfl rfl rfl rfl ?_
          refine go_s (pc' := 28) rfl rfl rfl rfl ?_
          refine go_s (pc' := 29) (st' := [.int 2, .int 1]) rfl rfl rfl rfl ?_
          refine go_icmpP (t' := 48) (pc' := 30) rfl rfl rfl (fun (c : 2 ≤ (1 : Int32)) => absurd c (by decide)) (fun _ => ?_)
          refine go_s (pc' := 31) rfl rfl rfl rfl ?_
          refine go_ifP (t' := 44) (pc' := 32) rfl rfl rfl (fun (c : (1 : Int32) = 0) => absurd c (by decide)) (fun _ => ?_)
          refine go_s (pc' := 33) rfl rfl rfl rfl ?_
          refine go_s (pc' := 34) rfl rfl rfl rfl ?_
          refine go_callV (pc' := 35) rfl rfl rfl (Nat.le_of_ble_eq_true rfl) rfl (sm_o hS rfl) rfl rfl rfl (rt_us_1 hr hS (by omega)) (fun r h19 q20 => ?_)
          obtain ⟨rfl, rfl⟩ := q20
          rw [show us (jn I K) 1 = us I 1 from rfl]
          cases u21 : us I 1
          · skip
            show am_Go _ _ _ _ 35 _ [.int 0] _ _
            refine go_ifP (t' := 42) (pc' := 36) rfl rfl rfl (fun _ => ?_) (fun (c : ¬ ((0 : Int32) = 0)) => absurd (by decide) c)
            refine go_s (pc' := 43) (st' := [.int 1]) rfl rfl rfl rfl ?_
            refine go_s (pc' := 45) rfl rfl rfl rfl ?_
            refine go_s (pc' := 46) (lo' := [some (.ref 62), some (.int (nI (List.length (Z 0).2.2))), some (.int 1), some (.int 1)]) rfl rfl rfl rfl ?_
            refine go_s (pc' := 47) (lo' := [some (.ref 62), some (.int (nI (List.length (Z 0).2.2))), some (.int 1), some (.int 2)]) rfl rfl rfl rfl ?_
            refine go_s (pc' := 27) rfl rfl rfl rfl ?_
            refine go_s (pc' := 28) rfl rfl rfl rfl ?_
            refine go_s (pc' := 29) (st' := [.int 2, .int 2]) rfl rfl rfl rfl ?_
            refine go_icmpP (t' := 48) (pc' := 30) rfl rfl rfl (fun _ => ?_) (fun (c : ¬ (2 ≤ (2 : Int32))) => absurd (by decide) c)
            refine go_s (pc' := 49) rfl rfl rfl rfl ?_
            refine go_ret rfl rfl ?_
            have hraw : raw (I, Q, Z) = true := by
              unfold raw raw1
              rw [show rwi (I, Q, Z).1 0 = 0 from rwi_l (v := 0) e1 (by decide)]
              simp [c4, u7, c18, u21]
            rw [hraw]
            exact ⟨rfl, rfl⟩
          · skip
            show am_Go _ _ _ _ 35 _ [.int 1] _ _
            refine go_ifP (t' := 42) (pc' := 36) rfl rfl rfl (fun (c : (1 : Int32) = 0) => absurd c (by decide)) (fun _ => ?_)
            refine go_s (pc' := 37) rfl rfl rfl rfl ?_
            refine go_sget (pc' := 38) (v := .ref 88) hS rfl rfl rfl (by decide) rfl rfl ?_
            refine go_s (pc' := 39) rfl rfl rfl rfl ?_
            refine go_sald (pc' := 40) (q := 1) (v := .int (I 22 1)) hS rfl (tr_s hr (a := 88) rfl (by decide)) rfl rfl (by decide) rfl rfl ?_
            refine go_s (pc' := 41) rfl rfl rfl rfl ?_
            refine go_icmpP (t' := 44) (pc' := 42) rfl rfl rfl (fun (c22 : ¬ (I 22 1) = (nI (List.length (Z 0).2.2))) => ?_) (fun (c22' : ¬ ¬ (I 22 1) = (nI (List.length (Z 0).2.2))) => ?_)
            · skip
              refine go_s (pc' := 45) (st' := [.int 0]) rfl rfl rfl rfl ?_
              refine go_s (pc' := 46) (lo' := [some (.ref 62), some (.int (nI (List.length (Z 0).2.2))), some (.int 0), some (.int 1)]) rfl rfl rfl rfl ?_
              refine go_s (pc' := 47) (lo' := [some (.ref 62), some (.int (nI (List.length (Z 0).2.2))), some (.int 0), some (.int 2)]) rfl rfl rfl rfl ?_
              refine go_s (pc' := 27) rfl rfl rfl rfl ?_
              refine go_s (pc' := 28) rfl rfl rfl rfl ?_
              refine go_s (pc' := 29) (st' := [.int 2, .int 2]) rfl rfl rfl rfl ?_
              refine go_icmpP (t' := 48) (pc' := 30) rfl rfl rfl (fun _ => ?_) (fun (c : ¬ (2 ≤ (2 : Int32))) => absurd (by decide) c)
              refine go_s (pc' := 49) rfl rfl rfl rfl ?_
              refine go_ret rfl rfl ?_
              have hraw : raw (I, Q, Z) = false := by
                unfold raw raw1
                rw [show rwi (I, Q, Z).1 0 = 0 from rwi_l (v := 0) e1 (by decide)]
                simp [c4, u7, c18, u21, c22]
              rw [hraw]
              exact ⟨rfl, rfl⟩
            · skip
              have c22 : (I 22 1) = (nI (List.length (Z 0).2.2)) := Decidable.not_not.mp c22'
              refine go_s (pc' := 43) (st' := [.int 1]) rfl rfl rfl rfl ?_
              refine go_s (pc' := 45) rfl rfl rfl rfl ?_
              refine go_s (pc' := 46) (lo' := [some (.ref 62), some (.int (nI (List.length (Z 0).2.2))), some (.int 1), some (.int 1)]) rfl rfl rfl rfl ?_
              refine go_s (pc' := 47) (lo' := [some (.ref 62), some (.int (nI (List.length (Z 0).2.2))), some (.int 1), some (.int 2)]) rfl rfl rfl rfl ?_
              refine go_s (pc' := 27) rfl rfl rfl rfl ?_
              refine go_s (pc' := 28) rfl rfl rfl rfl ?_
              refine go_s (pc' := 29) (st' := [.int 2, .int 2]) rfl rfl rfl rfl ?_
              refine go_icmpP (t' := 48) (pc' := 30) rfl rfl rfl (fun _ => ?_) (fun (c : ¬ (2 ≤ (2 : Int32))) => absurd (by decide) c)
              refine go_s (pc' := 49) rfl rfl rfl rfl ?_
              refine go_ret rfl rfl ?_
              have hraw : raw (I, Q, Z) = true := by
                unfold raw raw1
                rw [show rwi (I, Q, Z).1 0 = 0 from rwi_l (v := 0) e1 (by decide)]
                simp [c4, u7, c18, u21, c22]
              rw [hraw]
              exact ⟨rfl, rfl⟩
    · skip
      have c4 : (nI (List.length (Z 0).2.2)) = 0 := Decidable.not_not.mp c4'
      refine go_s (pc' := 12) (st' := [.int 1]) rfl rfl rfl rfl ?_
      refine go_ret rfl rfl ?_
      have hraw : raw (I, Q, Z) = true := by
        unfold raw raw1
        rw [show rwi (I, Q, Z).1 0 = 0 from rwi_l (v := 0) e1 (by decide)]
        simp [c4]
      rw [hraw]
      exact ⟨rfl, rfl⟩
  · skip
    refine go_s (pc' := 1) rfl rfl rfl rfl ?_
    refine go_sget (pc' := 2) (v := .ref 77) hS rfl rfl rfl (by decide) rfl rfl ?_
    refine go_s (pc' := 3) rfl rfl rfl rfl ?_
    refine go_s (pc' := 4) (st' := [.int 0, .ref 62, .ref 77]) rfl rfl rfl rfl ?_
    refine go_callV (pc' := 5) rfl rfl rfl (Nat.le_of_ble_eq_true rfl) rfl (sm_o hS rfl) rfl rfl rfl (rt_at_0 hr hS (Or.inr (Or.inr e1)) (fun z => absurd (e1.symm.trans z) (by decide)) (by omega)) (fun r h23 q24 => ?_)
    obtain ⟨rfl, rfl⟩ := q24
    rw [show rwi (jn I K) 0 = 1 by unfold rwi pn; rw [show (jn I K) 11 0 = 1 from e1]; rfl]
    show am_Go _ _ _ _ 5 _ [.int 424, .ref 77] _ _
    refine go_s (pc' := 6) (st' := [.int 5, .int 424, .ref 77]) rfl rfl rfl rfl ?_
    refine go_s (pc' := 7) (st' := [.int 429, .ref 77]) rfl rfl rfl rfl ?_
    refine go_sald (pc' := 8) (q := 429) (v := .int (nI (List.length (Z 1).2.2))) hS rfl (tr_as hr (by omega)) rfl rfl (by decide) (congrArg Value.int (RR_row hU.2.1 (i := 1) (by decide)).1.2.2.1) rfl ?_
    refine go_s (pc' := 9) (lo' := [some (.ref 62), some (.int (nI (List.length (Z 1).2.2))), none, none]) rfl rfl rfl rfl ?_
    refine go_s (pc' := 10) rfl rfl rfl rfl ?_
    refine go_ifP (t' := 13) (pc' := 11) rfl rfl rfl (fun (c25 : ¬ (nI (List.length (Z 1).2.2)) = 0) => ?_) (fun (c25' : ¬ ¬ (nI (List.length (Z 1).2.2)) = 0) => ?_)
    · skip
      refine go_s (pc' := 14) rfl rfl rfl rfl ?_
      refine go_s (pc' := 15) (st' := [.int 0, .ref 62]) rfl rfl rfl rfl ?_
      refine go_callV (pc' := 16) rfl rfl rfl (Nat.le_of_ble_eq_true rfl) rfl (sm_o hS rfl) rfl rfl rfl (rt_us_0 hr hS (by omega)) (fun r h26 q27 => ?_)
      obtain ⟨rfl, rfl⟩ := q27
      rw [show us (jn I K) 0 = us I 0 from rfl]
      cases u28 : us I 0
      · skip
        show am_Go _ _ _ _ 16 _ [.int 0] _ _
        refine go_ifP (t' := 21) (pc' := 17) rfl rfl rfl (fun (c : ¬ (0 : Int32) = 0) => absurd c (by decide)) (fun _ => ?_)
        refine go_s (pc' := 18) rfl rfl rfl rfl ?_
        refine go_s (pc' := 19) (st' := [.int 1, .ref 62]) rfl rfl rfl rfl ?_
        refine go_callV (pc' := 20) rfl rfl rfl (Nat.le_of_ble_eq_true rfl) rfl (sm_o hS rfl) rfl rfl rfl (rt_us_1 hr hS (by omega)) (fun r h29 q30 => ?_)
        obtain ⟨rfl, rfl⟩ := q30
        rw [show us (jn I K) 1 = us I 1 from rfl]
        cases u31 : us I 1
        · skip
          show am_Go _ _ _ _ 20 _ [.int 0] _ _
          refine go_ifP (t' := 23) (pc' := 21) rfl rfl rfl (fun _ => ?_) (fun (c : ¬ ((0 : Int32) = 0)) => absurd (by decide) c)
          refine go_s (pc' := 24) (st' := [.int 0]) rfl rfl rfl rfl ?_
          refine go_s (pc' := 25) (lo' := [some (.ref 62), some (.int (nI (List.length (Z 1).2.2))), some (.int 0), none]) rfl rfl rfl rfl ?_
          refine go_s (pc' := 26) (st' := [.int 0]) rfl rfl rfl rfl ?_
          refine go_s (pc' := 27) (lo' := [some (.ref 62), some (.int (nI (List.length (Z 1).2.2))), some (.int 0), some (.int 0)]) rfl rfl rfl rfl ?_
          refine go_s (pc' := 28) rfl rfl rfl rfl ?_
          refine go_s (pc' := 29) (st' := [.int 2, .int 0]) rfl rfl rfl rfl ?_
          refine go_icmpP (t' := 48) (pc' := 30) rfl rfl rfl (fun (c : 2 ≤ (0 : Int32)) => absurd c (by decide)) (fun _ => ?_)
          refine go_s (pc' := 31) rfl rfl rfl rfl ?_
          refine go_ifP (t' := 44) (pc' := 32) rfl rfl rfl (fun _ => ?_) (fun (c : ¬ ((0 : Int32) = 0)) => absurd (by decide) c)
          refine go_s (pc' := 45) (st' := [.int 0]) rfl rfl rfl rfl ?_
          refine go_s (pc' := 46) (lo' := [some (.ref 62), some (.int (nI (List.length (Z 1).2.2))), some (.int 0), some (.int 0)]) rfl rfl rfl rfl ?_
          refine go_s (pc' := 47) (lo' := [some (.ref 62), some (.int (nI (List.length (Z 1).2.2))), some (.int 0), some (.int 1)]) rfl rfl rfl rfl ?_
          refine go_s (pc' := 27) rfl rfl rfl rfl ?_
          refine go_s (pc' := 28) rfl rfl rfl rfl ?_
          refine go_s (pc' := 29) (st' := [.int 2, .int 1]) rfl rfl rfl rfl ?_
          refine go_icmpP (t' := 48) (pc' := 30) rfl rfl rfl (fun (c : 2 ≤ (1 : Int32)) => absurd c (by decide)) (fun _ => ?_)
          refine go_s (pc' := 31) rfl rfl rfl rfl ?_
          refine go_ifP (t' := 44) (pc' := 32) rfl rfl rfl (fun _ => ?_) (fun (c : ¬ ((0 : Int32) = 0)) => absurd (by decide) c)
          refine go_s (pc' := 45) (st' := [.int 0]) rfl rfl rfl rfl ?_
          refine go_s (pc' := 46) (lo' := [some (.ref 62), some (.int (nI (List.length (Z 1).2.2))), some (.int 0), some (.int 1)]) rfl rfl rfl rfl ?_
          refine go_s (pc' := 47) (lo' := [some (.ref 62), some (.int (nI (List.length (Z 1).2.2))), some (.int 0), some (.int 2)]) rfl rfl rfl rfl ?_
          refine go_s (pc' := 27) rfl rfl rfl rfl ?_
          refine go_s (pc' := 28) rfl rfl rfl rfl ?_
          refine go_s (pc' := 29) (st' := [.int 2, .int 2]) rfl rfl rfl rfl ?_
          refine go_icmpP (t' := 48) (pc' := 30) rfl rfl rfl (fun _ => ?_) (fun (c : ¬ (2 ≤ (2 : Int32))) => absurd (by decide) c)
          refine go_s (pc' := 49) rfl rfl rfl rfl ?_
          refine go_ret rfl rfl ?_
          have hraw : raw (I, Q, Z) = false := by
            unfold raw raw1
            rw [show rwi (I, Q, Z).1 0 = 1 from rwi_l (v := 1) e1 (by decide)]
            simp [c25, u28, u31]
          rw [hraw]
          exact ⟨rfl, rfl⟩
        · skip
          show am_Go _ _ _ _ 20 _ [.int 1] _ _
          refine go_ifP (t' := 23) (pc' := 21) rfl rfl rfl (fun (c : (1 : Int32) = 0) => absurd c (by decide)) (fun _ => ?_)
          refine go_s (pc' := 22) (st' := [.int 1]) rfl rfl rfl rfl ?_
          refine go_s (pc' := 24) rfl rfl rfl rfl ?_
          refine go_s (pc' := 25) (lo' := [some (.ref 62), some (.int (nI (List.length (Z 1).2.2))), some (.int 1), none]) rfl rfl rfl rfl ?_
          refine go_s (pc' := 26) (st' := [.int 0]) rfl rfl rfl rfl ?_
          refine go_s (pc' := 27) (lo' := [some (.ref 62), some (.int (nI (List.length (Z 1).2.2))), some (.int 1), some (.int 0)]) rfl rfl rfl rfl ?_
          refine go_s (pc' := 28) rfl rfl rfl rfl ?_
          refine go_s (pc' := 29) (st' := [.int 2, .int 0]) rfl rfl rfl rfl ?_
          refine go_icmpP (t' := 48) (pc' := 30) rfl rfl rfl (fun (c : 2 ≤ (0 : Int32)) => absurd c (by decide)) (fun _ => ?_)
          refine go_s (pc' := 31) rfl rfl rfl rfl ?_
          refine go_ifP (t' := 44) (pc' := 32) rfl rfl rfl (fun (c : (1 : Int32) = 0) => absurd c (by decide)) (fun _ => ?_)
          refine go_s (pc' := 33) rfl rfl rfl rfl ?_
          refine go_s (pc' := 34) rfl rfl rfl rfl ?_
          refine go_callV (pc' := 35) rfl rfl rfl (Nat.le_of_ble_eq_true rfl) rfl (sm_o hS rfl) rfl rfl rfl (rt_us_0 hr hS (by omega)) (fun r h32 q33 => ?_)
          obtain ⟨rfl, rfl⟩ := q33
          rw [show us (jn I K) 0 = us I 0 from rfl]
          rw [u28]
          show am_Go _ _ _ _ 35 _ [.int 0] _ _
          refine go_ifP (t' := 42) (pc' := 36) rfl rfl rfl (fun _ => ?_) (fun (c : ¬ ((0 : Int32) = 0)) => absurd (by decide) c)
          refine go_s (pc' := 43) (st' := [.int 1]) rfl rfl rfl rfl ?_
          refine go_s (pc' := 45) rfl rfl rfl rfl ?_
          refine go_s (pc' := 46) (lo' := [some (.ref 62), some (.int (nI (List.length (Z 1).2.2))), some (.int 1), some (.int 0)]) rfl rfl rfl rfl ?_
          refine go_s (pc' := 47) (lo' := [some (.ref 62), some (.int (nI (List.length (Z 1).2.2))), some (.int 1), some (.int 1)]) rfl rfl rfl rfl ?_
          refine go_s (pc' := 27) rfl rfl rfl rfl ?_
          refine go_s (pc' := 28) rfl rfl rfl rfl ?_
          refine go_s (pc' := 29) (st' := [.int 2, .int 1]) rfl rfl rfl rfl ?_
          refine go_icmpP (t' := 48) (pc' := 30) rfl rfl rfl (fun (c : 2 ≤ (1 : Int32)) => absurd c (by decide)) (fun _ => ?_)
          refine go_s (pc' := 31) rfl rfl rfl rfl ?_
          refine go_ifP (t' := 44) (pc' := 32) rfl rfl rfl (fun (c : (1 : Int32) = 0) => absurd c (by decide)) (fun _ => ?_)
          refine go_s (pc' := 33) rfl rfl rfl rfl ?_
          refine go_s (pc' := 34) rfl rfl rfl rfl ?_
          refine go_callV (pc' := 35) rfl rfl rfl (Nat.le_of_ble_eq_true rfl) rfl (sm_o hS rfl) rfl rfl rfl (rt_us_1 hr hS (by omega)) (fun r h34 q35 => ?_)
          obtain ⟨rfl, rfl⟩ := q35
          rw [show us (jn I K) 1 = us I 1 from rfl]
          rw [u31]
          show am_Go _ _ _ _ 35 _ [.int 1] _ _
          refine go_ifP (t' := 42) (pc' := 36) rfl rfl rfl (fun (c : (1 : Int32) = 0) => absurd c (by decide)) (fun _ => ?_)
          refine go_s (pc' := 37) rfl rfl rfl rfl ?_
          refine go_sget (pc' := 38) (v := .ref 88) hS rfl rfl rfl (by decide) rfl rfl ?_
          refine go_s (pc' := 39) rfl rfl rfl rfl ?_
          refine go_sald (pc' := 40) (q := 1) (v := .int (I 22 1)) hS rfl (tr_s hr (a := 88) rfl (by decide)) rfl rfl (by decide) rfl rfl ?_
          refine go_s (pc' := 41) rfl rfl rfl rfl ?_
          refine go_icmpP (t' := 44) (pc' := 42) rfl rfl rfl (fun (c36 : ¬ (I 22 1) = (nI (List.length (Z 1).2.2))) => ?_) (fun (c36' : ¬ ¬ (I 22 1) = (nI (List.length (Z 1).2.2))) => ?_)
          · skip
            refine go_s (pc' := 45) (st' := [.int 0]) rfl rfl rfl rfl ?_
            refine go_s (pc' := 46) (lo' := [some (.ref 62), some (.int (nI (List.length (Z 1).2.2))), some (.int 0), some (.int 1)]) rfl rfl rfl rfl ?_
            refine go_s (pc' := 47) (lo' := [some (.ref 62), some (.int (nI (List.length (Z 1).2.2))), some (.int 0), some (.int 2)]) rfl rfl rfl rfl ?_
            refine go_s (pc' := 27) rfl rfl rfl rfl ?_
            refine go_s (pc' := 28) rfl rfl rfl rfl ?_
            refine go_s (pc' := 29) (st' := [.int 2, .int 2]) rfl rfl rfl rfl ?_
            refine go_icmpP (t' := 48) (pc' := 30) rfl rfl rfl (fun _ => ?_) (fun (c : ¬ (2 ≤ (2 : Int32))) => absurd (by decide) c)
            refine go_s (pc' := 49) rfl rfl rfl rfl ?_
            refine go_ret rfl rfl ?_
            have hraw : raw (I, Q, Z) = false := by
              unfold raw raw1
              rw [show rwi (I, Q, Z).1 0 = 1 from rwi_l (v := 1) e1 (by decide)]
              simp [c25, u28, u31, c36]
            rw [hraw]
            exact ⟨rfl, rfl⟩
          · skip
            have c36 : (I 22 1) = (nI (List.length (Z 1).2.2)) := Decidable.not_not.mp c36'
            refine go_s (pc' := 43) (st' := [.int 1]) rfl rfl rfl rfl ?_
            refine go_s (pc' := 45) rfl rfl rfl rfl ?_
            refine go_s (pc' := 46) (lo' := [some (.ref 62), some (.int (nI (List.length (Z 1).2.2))), some (.int 1), some (.int 1)]) rfl rfl rfl rfl ?_
            refine go_s (pc' := 47) (lo' := [some (.ref 62), some (.int (nI (List.length (Z 1).2.2))), some (.int 1), some (.int 2)]) rfl rfl rfl rfl ?_
            refine go_s (pc' := 27) rfl rfl rfl rfl ?_
            refine go_s (pc' := 28) rfl rfl rfl rfl ?_
            refine go_s (pc' := 29) (st' := [.int 2, .int 2]) rfl rfl rfl rfl ?_
            refine go_icmpP (t' := 48) (pc' := 30) rfl rfl rfl (fun _ => ?_) (fun (c : ¬ (2 ≤ (2 : Int32))) => absurd (by decide) c)
            refine go_s (pc' := 49) rfl rfl rfl rfl ?_
            refine go_ret rfl rfl ?_
            have hraw : raw (I, Q, Z) = true := by
              unfold raw raw1
              rw [show rwi (I, Q, Z).1 0 = 1 from rwi_l (v := 1) e1 (by decide)]
              simp [c25, u28, u31, c36]
            rw [hraw]
            exact ⟨rfl, rfl⟩
      · skip
        show am_Go _ _ _ _ 16 _ [.int 1] _ _
        refine go_ifP (t' := 21) (pc' := 17) rfl rfl rfl (fun _ => ?_) (fun (c : ¬ (¬ (1 : Int32) = 0)) => absurd (by decide) c)
        refine go_s (pc' := 22) (st' := [.int 1]) rfl rfl rfl rfl ?_
        refine go_s (pc' := 24) rfl rfl rfl rfl ?_
        refine go_s (pc' := 25) (lo' := [some (.ref 62), some (.int (nI (List.length (Z 1).2.2))), some (.int 1), none]) rfl rfl rfl rfl ?_
        refine go_s (pc' := 26) (st' := [.int 0]) rfl rfl rfl rfl ?_
        refine go_s (pc' := 27) (lo' := [some (.ref 62), some (.int (nI (List.length (Z 1).2.2))), some (.int 1), some (.int 0)]) rfl rfl rfl rfl ?_
        refine go_s (pc' := 28) rfl rfl rfl rfl ?_
        refine go_s (pc' := 29) (st' := [.int 2, .int 0]) rfl rfl rfl rfl ?_
        refine go_icmpP (t' := 48) (pc' := 30) rfl rfl rfl (fun (c : 2 ≤ (0 : Int32)) => absurd c (by decide)) (fun _ => ?_)
        refine go_s (pc' := 31) rfl rfl rfl rfl ?_
        refine go_ifP (t' := 44) (pc' := 32) rfl rfl rfl (fun (c : (1 : Int32) = 0) => absurd c (by decide)) (fun _ => ?_)
        refine go_s (pc' := 33) rfl rfl rfl rfl ?_
        refine go_s (pc' := 34) rfl rfl rfl rfl ?_
        refine go_callV (pc' := 35) rfl rfl rfl (Nat.le_of_ble_eq_true rfl) rfl (sm_o hS rfl) rfl rfl rfl (rt_us_0 hr hS (by omega)) (fun r h37 q38 => ?_)
        obtain ⟨rfl, rfl⟩ := q38
        rw [show us (jn I K) 0 = us I 0 from rfl]
        rw [u28]
        show am_Go _ _ _ _ 35 _ [.int 1] _ _
        refine go_ifP (t' := 42) (pc' := 36) rfl rfl rfl (fun (c : (1 : Int32) = 0) => absurd c (by decide)) (fun _ => ?_)
        refine go_s (pc' := 37) rfl rfl rfl rfl ?_
        refine go_sget (pc' := 38) (v := .ref 88) hS rfl rfl rfl (by decide) rfl rfl ?_
        refine go_s (pc' := 39) rfl rfl rfl rfl ?_
        refine go_sald (pc' := 40) (q := 0) (v := .int (I 22 0)) hS rfl (tr_s hr (a := 88) rfl (by decide)) rfl rfl (by decide) rfl rfl ?_
        refine go_s (pc' := 41) rfl rfl rfl rfl ?_
        refine go_icmpP (t' := 44) (pc' := 42) rfl rfl rfl (fun (c39 : ¬ (I 22 0) = (nI (List.length (Z 1).2.2))) => ?_) (fun (c39' : ¬ ¬ (I 22 0) = (nI (List.length (Z 1).2.2))) => ?_)
        · skip
          refine go_s (pc' := 45) (st' := [.int 0]) rfl rfl rfl rfl ?_
          refine go_s (pc' := 46) (lo' := [some (.ref 62), some (.int (nI (List.length (Z 1).2.2))), some (.int 0), some (.int 0)]) rfl rfl rfl rfl ?_
          refine go_s (pc' := 47) (lo' := [some (.ref 62), some (.int (nI (List.length (Z 1).2.2))), some (.int 0), some (.int 1)]) rfl rfl rfl rfl ?_
          refine go_s (pc' := 27) rfl rfl rfl rfl ?_
          refine go_s (pc' := 28) rfl rfl rfl rfl ?_
          refine go_s (pc' := 29) (st' := [.int 2, .int 1]) rfl rfl rfl rfl ?_
          refine go_icmpP (t' := 48) (pc' := 30) rfl rfl rfl (fun (c : 2 ≤ (1 : Int32)) => absurd c (by decide)) (fun _ => ?_)
          refine go_s (pc' := 31) rfl rfl rfl rfl ?_
          refine go_ifP (t' := 44) (pc' := 32) rfl rfl rfl (fun _ => ?_) (fun (c : ¬ ((0 : Int32) = 0)) => absurd (by decide) c)
          refine go_s (pc' := 45) (st' := [.int 0]) rfl rfl rfl rfl ?_
          refine go_s (pc' := 46) (lo' := [some (.ref 62), some (.int (nI (List.length (Z 1).2.2))), some (.int 0), some (.int 1)]) rfl rfl rfl rfl ?_
          refine go_s (pc' := 47) (lo' := [some (.ref 62), some (.int (nI (List.length (Z 1).2.2))), some (.int 0), some (.int 2)]) rfl rfl rfl rfl ?_
          refine go_s (pc' := 27) rfl rfl rfl rfl ?_
          refine go_s (pc' := 28) rfl rfl rfl rfl ?_
          refine go_s (pc' := 29) (st' := [.int 2, .int 2]) rfl rfl rfl rfl ?_
          refine go_icmpP (t' := 48) (pc' := 30) rfl rfl rfl (fun _ => ?_) (fun (c : ¬ (2 ≤ (2 : Int32))) => absurd (by decide) c)
          refine go_s (pc' := 49) rfl rfl rfl rfl ?_
          refine go_ret rfl rfl ?_
          have hraw : raw (I, Q, Z) = false := by
            unfold raw raw1
            rw [show rwi (I, Q, Z).1 0 = 1 from rwi_l (v := 1) e1 (by decide)]
            simp [c25, u28, c39]
          rw [hraw]
          exact ⟨rfl, rfl⟩
        · skip
          have c39 : (I 22 0) = (nI (List.length (Z 1).2.2)) := Decidable.not_not.mp c39'
          refine go_s (pc' := 43) (st' := [.int 1]) rfl rfl rfl rfl ?_
          refine go_s (pc' := 45) rfl rfl rfl rfl ?_
          refine go_s (pc' := 46) (lo' := [some (.ref 62), some (.int (nI (List.length (Z 1).2.2))), some (.int 1), some (.int 0)]) rfl rfl rfl rfl ?_
          refine go_s (pc' := 47) (lo' := [some (.ref 62), some (.int (nI (List.length (Z 1).2.2))), some (.int 1), some (.int 1)]) rfl rfl rfl rfl ?_
          refine go_s (pc' := 27) rfl rfl rfl rfl ?_
          refine go_s (pc' := 28) rfl rfl rfl rfl ?_
          refine go_s (pc' := 29) (st' := [.int 2, .int 1]) rfl rfl rfl rfl ?_
          refine go_icmpP (t' := 48) (pc' := 30) rfl rfl rfl (fun (c : 2 ≤ (1 : Int32)) => absurd c (by decide)) (fun _ => ?_)
          refine go_s (pc' := 31) rfl rfl rfl rfl ?_
          refine go_ifP (t' := 44) (pc' := 32) rfl rfl rfl (fun (c : (1 : Int32) = 0) => absurd c (by decide)) (fun _ => ?_)
          refine go_s (pc' := 33) rfl rfl rfl rfl ?_
          refine go_s (pc' := 34) rfl rfl rfl rfl ?_
          refine go_callV (pc' := 35) rfl rfl rfl (Nat.le_of_ble_eq_true rfl) rfl (sm_o hS rfl) rfl rfl rfl (rt_us_1 hr hS (by omega)) (fun r h40 q41 => ?_)
          obtain ⟨rfl, rfl⟩ := q41
          rw [show us (jn I K) 1 = us I 1 from rfl]
          cases u42 : us I 1
          · skip
            show am_Go _ _ _ _ 35 _ [.int 0] _ _
            refine go_ifP (t' := 42) (pc' := 36) rfl rfl rfl (fun _ => ?_) (fun (c : ¬ ((0 : Int32) = 0)) => absurd (by decide) c)
            refine go_s (pc' := 43) (st' := [.int 1]) rfl rfl rfl rfl ?_
            refine go_s (pc' := 45) rfl rfl rfl rfl ?_
            refine go_s (pc' := 46) (lo' := [some (.ref 62), some (.int (nI (List.length (Z 1).2.2))), some (.int 1), some (.int 1)]) rfl rfl rfl rfl ?_
            refine go_s (pc' := 47) (lo' := [some (.ref 62), some (.int (nI (List.length (Z 1).2.2))), some (.int 1), some (.int 2)]) rfl rfl rfl rfl ?_
            refine go_s (pc' := 27) rfl rfl rfl rfl ?_
            refine go_s (pc' := 28) rfl rfl rfl rfl ?_
            refine go_s (pc' := 29) (st' := [.int 2, .int 2]) rfl rfl rfl rfl ?_
            refine go_icmpP (t' := 48) (pc' := 30) rfl rfl rfl (fun _ => ?_) (fun (c : ¬ (2 ≤ (2 : Int32))) => absurd (by decide) c)
            refine go_s (pc' := 49) rfl rfl rfl rfl ?_
            refine go_ret rfl rfl ?_
            have hraw : raw (I, Q, Z) = true := by
              unfold raw raw1
              rw [show rwi (I, Q, Z).1 0 = 1 from rwi_l (v := 1) e1 (by decide)]
              simp [c25, u28, c39, u42]
            rw [hraw]
            exact ⟨rfl, rfl⟩
          · skip
            show am_Go _ _ _ _ 35 _ [.int 1] _ _
            refine go_ifP (t' := 42) (pc' := 36) rfl rfl rfl (fun (c : (1 : Int32) = 0) => absurd c (by decide)) (fun _ => ?_)
            refine go_s (pc' := 37) rfl rfl rfl rfl ?_
            refine go_sget (pc' := 38) (v := .ref 88) hS rfl rfl rfl (by decide) rfl rfl ?_
            refine go_s (pc' := 39) rfl rfl rfl rfl ?_
            refine go_sald (pc' := 40) (q := 1) (v := .int (I 22 1)) hS rfl (tr_s hr (a := 88) rfl (by decide)) rfl rfl (by decide) rfl rfl ?_
            refine go_s (pc' := 41) rfl rfl rfl rfl ?_
            refine go_icmpP (t' := 44) (pc' := 42) rfl rfl rfl (fun (c43 : ¬ (I 22 1) = (nI (List.length (Z 1).2.2))) => ?_) (fun (c43' : ¬ ¬ (I 22 1) = (nI (List.length (Z 1).2.2))) => ?_)
            · skip
              refine go_s (pc' := 45) (st' := [.int 0]) rfl rfl rfl rfl ?_
              refine go_s (pc' := 46) (lo' := [some (.ref 62), some (.int (nI (List.length (Z 1).2.2))), some (.int 0), some (.int 1)]) rfl rfl rfl rfl ?_
              refine go_s (pc' := 47) (lo' := [some (.ref 62), some (.int (nI (List.length (Z 1).2.2))), some (.int 0), some (.int 2)]) rfl rfl rfl rfl ?_
              refine go_s (pc' := 27) rfl rfl rfl rfl ?_
              refine go_s (pc' := 28) rfl rfl rfl rfl ?_
              refine go_s (pc' := 29) (st' := [.int 2, .int 2]) rfl rfl rfl rfl ?_
              refine go_icmpP (t' := 48) (pc' := 30) rfl rfl rfl (fun _ => ?_) (fun (c : ¬ (2 ≤ (2 : Int32))) => absurd (by decide) c)
              refine go_s (pc' := 49) rfl rfl rfl rfl ?_
              refine go_ret rfl rfl ?_
              have hraw : raw (I, Q, Z) = false := by
                unfold raw raw1
                rw [show rwi (I, Q, Z).1 0 = 1 from rwi_l (v := 1) e1 (by decide)]
                simp [c25, u28, c39, u42, c43]
              rw [hraw]
              exact ⟨rfl, rfl⟩
            · skip
              have c43 : (I 22 1) = (nI (List.length (Z 1).2.2)) := Decidable.not_not.mp c43'
              refine go_s (pc' := 43) (st' := [.int 1]) rfl rfl rfl rfl ?_
              refine go_s (pc' := 45) rfl rfl rfl rfl ?_
              refine go_s (pc' := 46) (lo' := [some (.ref 62), some (.int (nI (List.length (Z 1).2.2))), some (.int 1), some (.int 1)]) rfl rfl rfl rfl ?_
              refine go_s (pc' := 47) (lo' := [some (.ref 62), some (.int (nI (List.length (Z 1).2.2))), some (.int 1), some (.int 2)]) rfl rfl rfl rfl ?_
              refine go_s (pc' := 27) rfl rfl rfl rfl ?_
              refine go_s (pc' := 28) rfl rfl rfl rfl ?_
              refine go_s (pc' := 29) (st' := [.int 2, .int 2]) rfl rfl rfl rfl ?_
              refine go_icmpP (t' := 48) (pc' := 30) rfl rfl rfl (fun _ => ?_) (fun (c : ¬ (2 ≤ (2 : Int32))) => absurd (by decide) c)
              refine go_s (pc' := 49) rfl rfl rfl rfl ?_
              refine go_ret rfl rfl ?_
              have hraw : raw (I, Q, Z) = true := by
                unfold raw raw1
                rw [show rwi (I, Q, Z).1 0 = 1 from rwi_l (v := 1) e1 (by decide)]
                simp [c25, u28, c39, u42, c43]
              rw [hraw]
              exact ⟨rfl, rfl⟩
    · skip
      have c25 : (nI (List.length (Z 1).2.2)) = 0 := Decidable.not_not.mp c25'
      refine go_s (pc' := 12) (st' := [.int 1]) rfl rfl rfl rfl ?_
      refine go_ret rfl rfl ?_
      have hraw : raw (I, Q, Z) = true := by
        unfold raw raw1
        rw [show rwi (I, Q, Z).1 0 = 1 from rwi_l (v := 1) e1 (by decide)]
        simp [c25]
      rw [hraw]
      exact ⟨rfl, rfl⟩
theorem RS_w0 {J : sm_I} {r : Nat} {s : ms} (k : RS J r s) : RS (uI J 51 (424 * r + 5) 0) r (s.1, s.2.1, []) := by
  obtain ⟨k1, k2, k3, k4, k5⟩ := k
  have o : ∀ i, i ≠ 424 * r + 5 → uI J 51 (424 * r + 5) 0 51 i = J 51 i := fun i hi => by simp [uI, hi]
  refine ⟨fun i h1 h2 h3 => ?_, ?_, by simp [uI]; rfl, fun i e hi q hq => ?_, fun i y hi => by simp at hi⟩
  · rw [o _ (by omega)]; exact k1 i h1 h2 h3
  · rw [o _ (by omega)]; exact k2
  · rw [o _ (by omega)]; exact k4 i e hi q hq
theorem LKs_F {s : ms} {j : Nat} {v : Int32} {L : List ms_E} {W : List ms_W} (h : LKs s) (hj : j < 32) : LKs (uF s.1 j v, L, W) := fun q hq => by
  have z : uF s.1 j v (32 + q) = s.1 (32 + q) := by
    unfold uF
    rw [if_neg (by omega)]
  show uF s.1 j v (32 + q) = -1 ∨ uF s.1 j v (32 + q) = 0 ∨ uF s.1 j v (32 + q) = 1
  rw [z]
  exact h q hq
theorem LKs_c {s s' : ms} (e : s'.1 = s.1) (h : LKs s) : LKs s' := by
  unfold LKs
  rw [e]
  exact h
theorem ra_fin {w : Nat → Bool} {d B R : Nat} {H : List (Nat × mg)} {hb : Bool} {h : am_Hp} {I : sm_I} {Q : mQ} {Z : mZ} (hA : RA w B R H hb h (I, Q, Z)) (hR : R + 2 < 40000) (hp0 : prk I 0) (hp1 : prk I 1) (hp2 : prk I 2) (hn0 : ¬ I 11 0 = -1) (h4 : (Z (rwi I 0)).1 4 = 0 ∨ (Z (rwi I 0)).1 4 = 1) (h23 : I 23 0 = 0 ∨ I 23 0 = 1) (hd : 5 ≤ d) : am_Ev (am_prog w) d 142 [.ref 62] h (fun r h' => r = none ∧ RA w B (R + if row1 (I, Q, Z) 0 3 = 1 then 1 else 2) H hb h' (rfin (I, Q, Z))) := by
  obtain ⟨K, Y, am, ln, hS, hU⟩ := RA_u.mp hA
  change sm (tbr am (13 * ln) 77 5088) h (jn I K) Y at hS
  obtain ⟨hW, hWm, -, -, hr, -⟩ := id hU.1
  have hln := RU_ln hU (by omega)
  obtain ⟨d, rfl⟩ : ∃ e, d = e + 1 := ⟨d - 1, by omega⟩
  refine ev_go rfl (Nat.le_of_ble_eq_true rfl) rfl ?_
  rcases hp0 with e1 | e1 | e1
  · skip
    exact absurd e1 hn0
  · skip
    have h4x : (Z 0).1 4 = 0 ∨ (Z 0).1 4 = 1 := by
      have z := h4
      rw [show rwi I 0 = 0 from rwi_l (v := 0) e1 (by decide)] at z
      exact z
    rcases h4x with e4 | e4
    · skip
      refine go_s (pc' := 1) rfl rfl rfl rfl ?_
      refine go_s (pc' := 2) (st' := [.int 0, .ref 62]) rfl rfl rfl rfl ?_
      refine go_callV (pc' := 3) rfl rfl rfl (Nat.le_of_ble_eq_true rfl) rfl (sm_o hS rfl) rfl rfl rfl (rt_at_0 hr hS (Or.inr (Or.inl e1)) (fun z => absurd (e1.symm.trans z) (by decide)) (by omega)) (fun r h2 q3 => ?_)
      obtain ⟨rfl, rfl⟩ := q3
      rw [show rwi (jn I K) 0 = 0 by unfold rwi pn; rw [show (jn I K) 11 0 = 0 from e1]; rfl]
      show am_Go _ _ _ _ 3 _ [.int 0] _ _
      refine go_s (pc' := 4) (lo' := [some (.ref 62), some (.int 0), none]) rfl rfl rfl rfl ?_
      refine go_s (pc' := 5) rfl rfl rfl rfl ?_
      refine go_sget (pc' := 6) (v := .ref 77) hS rfl rfl rfl (by decide) rfl rfl ?_
      refine go_s (pc' := 7) rfl rfl rfl rfl ?_
      refine go_s (pc' := 8) (st' := [.int 3, .int 0, .ref 77]) rfl rfl rfl rfl ?_
      refine go_s (pc' := 9) (st' := [.int 3, .ref 77]) rfl rfl rfl rfl ?_
      refine go_sald (pc' := 10) (q := 3) (v := .int ((Z 0).1 3)) hS rfl (tr_as hr (by omega)) rfl rfl (by decide) (congrArg Value.int ((RR_row hU.2.1 (i := 0) (by decide)).1.1 3 (by decide) (by decide) (by decide))) rfl ?_
      refine go_s (pc' := 11) (lo' := [some (.ref 62), some (.int 0), some (.int ((Z 0).1 3))]) rfl rfl rfl rfl ?_
      refine go_s (pc' := 12) rfl rfl rfl rfl ?_
      refine go_sget (pc' := 13) (v := .ref 77) hS rfl rfl rfl (by decide) rfl rfl ?_
      refine go_s (pc' := 14) rfl rfl rfl rfl ?_
      refine go_s (pc' := 15) (st' := [.int 3, .int 0, .ref 77]) rfl rfl rfl rfl ?_
      refine go_s (pc' := 16) (st' := [.int 3, .ref 77]) rfl rfl rfl rfl ?_
      refine go_s (pc' := 17) (st' := [.int 0, .int 3, .ref 77]) rfl rfl rfl rfl ?_
      refine go_siast (pc' := 18) (q := 3) hS rfl (tr_as hr (by omega)) tbr_inj (Nat.le_of_ble_eq_true rfl) rfl (by decide) (by decide) (hW _ (by decide) (by decide)) rfl (fun h4 hS5 hE6 => ?_)
      refine go_s (pc' := 19) rfl rfl rfl rfl ?_
      refine go_sget (pc' := 20) (v := .ref 77) hS5 rfl rfl rfl (by decide) rfl rfl ?_
      refine go_s (pc' := 21) rfl rfl rfl rfl ?_
      refine go_s (pc' := 22) (st' := [.int 5, .int 0, .ref 77]) rfl rfl rfl rfl ?_
      refine go_s (pc' := 23) (st' := [.int 5, .ref 77]) rfl rfl rfl rfl ?_
      refine go_s (pc' := 24) (st' := [.int 0, .int 5, .ref 77]) rfl rfl rfl rfl ?_
      refine go_siast (pc' := 25) (q := 5) hS5 rfl (tr_as hr (by omega)) tbr_inj (Nat.le_of_ble_eq_true rfl) rfl (by decide) (by decide) (hW _ (by decide) (by decide)) rfl (fun h7 hS8 hE9 => ?_)
      have hE10 := sm_e_trans hE6 hE9
      refine go_s (pc' := 26) rfl rfl rfl rfl ?_
      refine go_sget (pc' := 27) (v := .ref 83) hS8 rfl rfl rfl (by decide) rfl rfl ?_
      refine go_s (pc' := 28) (st' := [.int 0, .ref 83]) rfl rfl rfl rfl ?_
      refine go_s (pc' := 29) (st' := [.int 0, .int 0, .ref 83]) rfl rfl rfl rfl ?_
      refine go_siast (pc' := 30) (q := 0) hS8 rfl (tr_s hr (a := 83) rfl (by decide)) tbr_inj (Nat.le_of_ble_eq_true rfl) rfl (by decide) (by decide) (hW _ (by decide) (by decide)) rfl (fun h11 hS12 hE13 => ?_)
      have hE14 := sm_e_trans hE10 hE13
      refine go_s (pc' := 31) rfl rfl rfl rfl ?_
      refine go_s (pc' := 32) (st' := [.int 1, .int ((Z 0).1 3)]) rfl rfl rfl rfl ?_
      refine go_icmpP (t' := 42) (pc' := 33) rfl rfl rfl (fun (c15 : ¬ ((Z 0).1 3) = 1) => ?_) (fun (c15' : ¬ ¬ ((Z 0).1 3) = 1) => ?_)
      · skip
        refine go_s (pc' := 43) rfl rfl rfl rfl ?_
        refine go_sget (pc' := 44) (v := .int (I 23 0)) hS12 rfl rfl rfl (by decide) rfl rfl ?_
        refine go_ifP (t' := 47) (pc' := 45) rfl rfl rfl (fun (c16 : (I 23 0) = 0) => ?_) (fun (c16 : ¬ (I 23 0) = 0) => ?_)
        · skip
          change sm (tbr am (13 * ln) 77 5088) _ (uI (uI (uI (jn I K) 51 3 0) 51 5 0) 16 0 0) Y at hS12
          rw [jn_hi (c := 51) (by decide), jn_hi (c := 51) (by decide), jn_lo (c := 16) (by decide)] at hS12
          have hU17 : RU w B R H hb h11 am ln (uI (uI K 51 3 0) 51 5 0) ((uI I 16 0 0), Q, (uZ Z 0 (mfs (Z 0)))) := RU_row (K' := (uI (uI K 51 3 0) 51 5 0)) (s := (mfs (Z 0))) (by decide) (fun c j _ hc => by
            simp only [uI]
            rw [if_neg (by omega), if_neg (by omega)]) (⟨fun _ => ⟨RS_w0 (RS_F (j := 3) (v := 0) (RR_row hU.2.1 (i := 0) (by decide)).1 (by decide) (by decide) (by decide)), (RR_row hU.2.1 (i := 0) (by decide)).2.1, Nat.zero_le _, LKs_F (RR_row hU.2.1 (i := 0) (by decide)).2.2.2 (by decide)⟩, fun h => absurd h (by decide)⟩) (RU_I (hE14) (I' := (uI I 16 0 0)) (fun _ => rfl) (fun _ => rfl) (Nat.le_refl _) hU)
          refine go_s (pc' := 48) rfl rfl rfl rfl ?_
          refine go_s (pc' := 49) rfl rfl rfl rfl ?_
          refine go_s (pc' := 50) (st' := [.int 2, .int ((Z 0).1 3), .ref 62]) rfl rfl rfl rfl ?_
          refine go_icmpP (t' := 56) (pc' := 51) rfl rfl rfl (fun (c18 : ((Z 0).1 3) = 2) => ?_) (fun (c18 : ¬ ((Z 0).1 3) = 2) => ?_)
          · skip
            refine go_s (pc' := 57) (st' := [.int 0, .ref 62]) rfl rfl rfl rfl ?_
            refine go_sput (pc' := 58) hS12 rfl rfl rfl (by decide) tbr_inj (Nat.le_of_ble_eq_true rfl) rfl (hW _ (by decide) (by decide)) rfl (fun h19 hS20 hE21 => ?_)
            refine go_ret rfl rfl ?_
            change sm (tbr am (13 * ln) 77 5088) _ (uI (jn (uI I 16 0 0) (uI (uI K 51 3 0) 51 5 0)) 23 0 0) Y at hS20
            rw [jn_lo (c := 23) (by decide)] at hS20
            have hU22 : RU w B R H hb h19 am ln (uI (uI K 51 3 0) 51 5 0) ((uI (uI I 16 0 0) 23 0 0), Q, (uZ Z 0 (mfs (Z 0)))) := RU_I (hE21) (I' := (uI (uI I 16 0 0) 23 0 0)) (fun _ => rfl) (fun _ => rfl) (Nat.le_refl _) hU17
            have hA23 : RA w B R H hb h19 ((uI (uI I 16 0 0) 23 0 0), Q, (uZ Z 0 (mfs (Z 0)))) := RA_u.mpr ⟨_, _, _, _, hS20, hU22⟩
            have h0f : mfin0 (I, Q, Z) = ((uI I 16 0 0, Q, uZ Z 0 (mfs (Z 0))) : mM) := by
              unfold mfin0
              rw [show rwi (I, Q, Z).1 0 = 0 from rwi_l (v := 0) e1 (by decide)]
            have hrow : row1 (I, Q, Z) 0 = (Z 0).1 := row1_l (v := 0) e1 (by decide)
            have h1f : rfin1 (I, Q, Z) = ((uI I 16 0 0), Q, (uZ Z 0 (mfs (Z 0)))) := by
              unfold rfin1
              rw [hrow, if_neg c15, if_pos c16, h0f]
            have hlast : (if row1 (I, Q, Z) 0 3 = 2 then (0 : Int32) else (rfin1 (I, Q, Z)).1 23 0) = 0 := by
              rw [hrow]
              exact if_pos c18
            refine ⟨rfl, RA_R (Nat.le_add_right R _) ?_⟩
            show RA w B _ H hb _ (uI (rfin1 (I, Q, Z)).1 23 0 (if row1 (I, Q, Z) 0 3 = 2 then 0 else (rfin1 (I, Q, Z)).1 23 0), (rfin1 (I, Q, Z)).2)
            rw [hlast, h1f]
            exact hA23
          · skip
            refine go_s (pc' := 52) rfl rfl rfl rfl ?_
            refine go_sget (pc' := 53) (v := .int (I 23 0)) hS12 rfl rfl rfl (by decide) rfl rfl ?_
            refine go_ifP (t' := 56) (pc' := 54) rfl rfl rfl (fun _ => ?_) (fun (c : ¬ ((I 23 0) = 0)) => absurd (by rw [c16] <;> decide) c)
            refine go_s (pc' := 57) (st' := [.int 0, .ref 62]) rfl rfl rfl rfl ?_
            refine go_sput (pc' := 58) hS12 rfl rfl rfl (by decide) tbr_inj (Nat.le_of_ble_eq_true rfl) rfl (hW _ (by decide) (by decide)) rfl (fun h24 hS25 hE26 => ?_)
            refine go_ret rfl rfl ?_
            change sm (tbr am (13 * ln) 77 5088) _ (uI (jn (uI I 16 0 0) (uI (uI K 51 3 0) 51 5 0)) 23 0 0) Y at hS25
            rw [jn_lo (c := 23) (by decide)] at hS25
            have hU27 : RU w B R H hb h24 am ln (uI (uI K 51 3 0) 51 5 0) ((uI (uI I 16 0 0) 23 0 0), Q, (uZ Z 0 (mfs (Z 0)))) := RU_I (hE26) (I' := (uI (uI I 16 0 0) 23 0 0)) (fun _ => rfl) (fun _ => rfl) (Nat.le_refl _) hU17
            have hA28 : RA w B R H hb h24 ((uI (uI I 16 0 0) 23 0 0), Q, (uZ Z 0 (mfs (Z 0)))) := RA_u.mpr ⟨_, _, _, _, hS25, hU27⟩
            have h0f : mfin0 (I, Q, Z) = ((uI I 16 0 0, Q, uZ Z 0 (mfs (Z 0))) : mM) := by
              unfold mfin0
              rw [show rwi (I, Q, Z).1 0 = 0 from rwi_l (v := 0) e1 (by decide)]
            have hrow : row1 (I, Q, Z) 0 = (Z 0).1 := row1_l (v := 0) e1 (by decide)
            have h1f : rfin1 (I, Q, Z) = ((uI I 16 0 0), Q, (uZ Z 0 (mfs (Z 0)))) := by
              unfold rfin1
              rw [hrow, if_neg c15, if_pos c16, h0f]
            have hlast : (if row1 (I, Q, Z) 0 3 = 2 then (0 : Int32) else (rfin1 (I, Q, Z)).1 23 0) = 0 := by
              rw [hrow, if_neg c18, h1f]
              exact (show (uI I 16 0 0) 23 0 = I 23 0 from rfl).trans c16
            refine ⟨rfl, RA_R (Nat.le_add_right R _) ?_⟩
            show RA w B _ H hb _ (uI (rfin1 (I, Q, Z)).1 23 0 (if row1 (I, Q, Z) 0 3 = 2 then 0 else (rfin1 (I, Q, Z)).1 23 0), (rfin1 (I, Q, Z)).2)
            rw [hlast, h1f]
            exact hA28
        · skip
          refine go_s (pc' := 46) rfl rfl rfl rfl ?_
          change sm (tbr am (13 * ln) 77 5088) _ (uI (uI (uI (jn I K) 51 3 0) 51 5 0) 16 0 0) Y at hS12
          rw [jn_hi (c := 51) (by decide), jn_hi (c := 51) (by decide), jn_lo (c := 16) (by decide)] at hS12
          have hU29 : RU w B R H hb h11 am ln (uI (uI K 51 3 0) 51 5 0) ((uI I 16 0 0), Q, (uZ Z 0 (mfs (Z 0)))) := RU_row (K' := (uI (uI K 51 3 0) 51 5 0)) (s := (mfs (Z 0))) (by decide) (fun c j _ hc => by
            simp only [uI]
            rw [if_neg (by omega), if_neg (by omega)]) (⟨fun _ => ⟨RS_w0 (RS_F (j := 3) (v := 0) (RR_row hU.2.1 (i := 0) (by decide)).1 (by decide) (by decide) (by decide)), (RR_row hU.2.1 (i := 0) (by decide)).2.1, Nat.zero_le _, LKs_F (RR_row hU.2.1 (i := 0) (by decide)).2.2.2 (by decide)⟩, fun h => absurd h (by decide)⟩) (RU_I (hE14) (I' := (uI I 16 0 0)) (fun _ => rfl) (fun _ => rfl) (Nat.le_refl _) hU)
          have hA30 : RA w B R H hb h11 ((uI I 16 0 0), Q, (uZ Z 0 (mfs (Z 0)))) := RA_u.mpr ⟨_, _, _, _, hS12, hU29⟩
          refine go_callV (pc' := 47) rfl rfl rfl (Nat.le_of_ble_eq_true rfl) rfl (sm_o hS12 rfl) rfl rfl rfl (ra_sa hA30 (by omega) (Or.inr (Or.inl e1)) hp1 hp2 (by omega)) (fun r h31 q32 => ?_)
          obtain ⟨rfl, hA33⟩ := q32
          change RA w B (R + 2) H hb h31 (rsa ((uI I 16 0 0), Q, (uZ Z 0 (mfs (Z 0))))) at hA33
          obtain ⟨M34, eM34⟩ : ∃ y : mM, y = (rsa ((uI I 16 0 0), Q, (uZ Z 0 (mfs (Z 0))))) := ⟨_, rfl⟩
          rw [← eM34] at hA33
          obtain ⟨I34, Q34, Z34⟩ := M34
          obtain ⟨K34, Y34, am34, ln34, hS34, hU34⟩ := RA_u.mp hA33
          change sm (tbr am34 (13 * ln34) 77 5088) h31 (jn I34 K34) Y34 at hS34
          obtain ⟨-, hWm34, -, -, hr34, -⟩ := id hU34.1
          have hln34 := RU_ln hU34 (by omega)
          have e23 : I34 23 = (uI I 16 0 0) 23 := by rw [show I34 = (I34, Q34, Z34).1 from rfl, eM34]; exact rsa_I (by decide) (by decide) (by decide)
          refine go_s (pc' := 48) rfl rfl rfl rfl ?_
          refine go_s (pc' := 49) rfl rfl rfl rfl ?_
          refine go_s (pc' := 50) (st' := [.int 2, .int ((Z 0).1 3), .ref 62]) rfl rfl rfl rfl ?_
          refine go_icmpP (t' := 56) (pc' := 51) rfl rfl rfl (fun (c35 : ((Z 0).1 3) = 2) => ?_) (fun (c35 : ¬ ((Z 0).1 3) = 2) => ?_)
          · skip
            refine go_s (pc' := 57) (st' := [.int 0, .ref 62]) rfl rfl rfl rfl ?_
            refine go_sput (pc' := 58) hS34 rfl rfl rfl (by decide) tbr_inj (Nat.le_of_ble_eq_true rfl) rfl (hW _ (by decide) (by decide)) rfl (fun h36 hS37 hE38 => ?_)
            refine go_ret rfl rfl ?_
            change sm (tbr am34 (13 * ln34) 77 5088) _ (uI (jn I34 K34) 23 0 0) Y34 at hS37
            rw [jn_lo (c := 23) (by decide)] at hS37
            have hU39 : RU w B (R + 2) H hb h36 am34 ln34 K34 ((uI I34 23 0 0), Q34, Z34) := RU_I (hE38) (I' := (uI I34 23 0 0)) (fun _ => rfl) (fun _ => rfl) (Nat.le_refl _) hU34
            have hA40 : RA w B (R + 2) H hb h36 ((uI I34 23 0 0), Q34, Z34) := RA_u.mpr ⟨_, _, _, _, hS37, hU39⟩
            have h0f : mfin0 (I, Q, Z) = ((uI I 16 0 0, Q, uZ Z 0 (mfs (Z 0))) : mM) := by
              unfold mfin0
              rw [show rwi (I, Q, Z).1 0 = 0 from rwi_l (v := 0) e1 (by decide)]
            have hrow : row1 (I, Q, Z) 0 = (Z 0).1 := row1_l (v := 0) e1 (by decide)
            have h1f : rfin1 (I, Q, Z) = (I34, Q34, Z34) := by
              unfold rfin1
              rw [hrow, if_neg c15, if_neg c16, h0f]
              exact eM34.symm
            have hlast : (if row1 (I, Q, Z) 0 3 = 2 then (0 : Int32) else (rfin1 (I, Q, Z)).1 23 0) = 0 := by
              rw [hrow]
              exact if_pos c35
            refine ⟨rfl, RA_R (by rw [if_neg (by rw [hrow]; exact c15)]; exact Nat.le_refl _) ?_⟩
            show RA w B _ H hb _ (uI (rfin1 (I, Q, Z)).1 23 0 (if row1 (I, Q, Z) 0 3 = 2 then 0 else (rfin1 (I, Q, Z)).1 23 0), (rfin1 (I, Q, Z)).2)
            rw [hlast, h1f]
            exact hA40
          · skip
            refine go_s (pc' := 52) rfl rfl rfl rfl ?_
            refine go_sget (pc' := 53) (v := .int (I 23 0)) hS34 rfl rfl rfl (by decide) (congrArg Value.int (congrFun e23 0)) rfl ?_
            refine go_ifP (t' := 56) (pc' := 54) rfl rfl rfl (fun (c : (I 23 0) = 0) => absurd c c16) (fun _ => ?_)
            refine go_s (pc' := 55) (st' := [.int 1, .ref 62]) rfl rfl rfl rfl ?_
            refine go_s (pc' := 57) rfl rfl rfl rfl ?_
            refine go_sput (pc' := 58) hS34 rfl rfl rfl (by decide) tbr_inj (Nat.le_of_ble_eq_true rfl) rfl (hW _ (by decide) (by decide)) rfl (fun h41 hS42 hE43 => ?_)
            refine go_ret rfl rfl ?_
            change sm (tbr am34 (13 * ln34) 77 5088) _ (uI (jn I34 K34) 23 0 1) Y34 at hS42
            rw [jn_lo (c := 23) (by decide)] at hS42
            have hU44 : RU w B (R + 2) H hb h41 am34 ln34 K34 ((uI I34 23 0 1), Q34, Z34) := RU_I (hE43) (I' := (uI I34 23 0 1)) (fun _ => rfl) (fun _ => rfl) (Nat.le_refl _) hU34
            have hA45 : RA w B (R + 2) H hb h41 ((uI I34 23 0 1), Q34, Z34) := RA_u.mpr ⟨_, _, _, _, hS42, hU44⟩
            have h0f : mfin0 (I, Q, Z) = ((uI I 16 0 0, Q, uZ Z 0 (mfs (Z 0))) : mM) := by
              unfold mfin0
              rw [show rwi (I, Q, Z).1 0 = 0 from rwi_l (v := 0) e1 (by decide)]
            have hrow : row1 (I, Q, Z) 0 = (Z 0).1 := row1_l (v := 0) e1 (by decide)
            have h1f : rfin1 (I, Q, Z) = (I34, Q34, Z34) := by
              unfold rfin1
              rw [hrow, if_neg c15, if_neg c16, h0f]
              exact eM34.symm
            have hlast : (if row1 (I, Q, Z) 0 3 = 2 then (0 : Int32) else (rfin1 (I, Q, Z)).1 23 0) = 1 := by
              rw [hrow, if_neg c35, h1f]
              exact (show I34 23 0 = I 23 0 from congrFun e23 0).trans (h23.elim (fun z => absurd z c16) id)
            refine ⟨rfl, RA_R (by rw [if_neg (by rw [hrow]; exact c15)]; exact Nat.le_refl _) ?_⟩
            show RA w B _ H hb _ (uI (rfin1 (I, Q, Z)).1 23 0 (if row1 (I, Q, Z) 0 3 = 2 then 0 else (rfin1 (I, Q, Z)).1 23 0), (rfin1 (I, Q, Z)).2)
            rw [hlast, h1f]
            exact hA45
      · skip
        have c15 : ((Z 0).1 3) = 1 := Decidable.not_not.mp c15'
        refine go_s (pc' := 34) rfl rfl rfl rfl ?_
        refine go_s (pc' := 35) rfl rfl rfl rfl ?_
        refine go_sget (pc' := 36) (v := .ref 77) hS12 rfl rfl rfl (by decide) rfl rfl ?_
        refine go_s (pc' := 37) rfl rfl rfl rfl ?_
        refine go_s (pc' := 38) (st' := [.int 4, .int 0, .ref 77, .ref 62]) rfl rfl rfl rfl ?_
        refine go_s (pc' := 39) (st' := [.int 4, .ref 77, .ref 62]) rfl rfl rfl rfl ?_
        refine go_sald (pc' := 40) (q := 4) (v := .int 0) hS12 rfl (tr_as hr (by omega)) rfl rfl (by decide) (congrArg Value.int (((RR_row hU.2.1 (i := 0) (by decide)).1.1 4 (by decide) (by decide) (by decide)).trans e4)) rfl ?_
        change sm (tbr am (13 * ln) 77 5088) _ (uI (uI (uI (jn I K) 51 3 0) 51 5 0) 16 0 0) Y at hS12
        rw [jn_hi (c := 51) (by decide), jn_hi (c := 51) (by decide), jn_lo (c := 16) (by decide)] at hS12
        have hU46 : RU w B R H hb h11 am ln (uI (uI K 51 3 0) 51 5 0) ((uI I 16 0 0), Q, (uZ Z 0 (mfs (Z 0)))) := RU_row (K' := (uI (uI K 51 3 0) 51 5 0)) (s := (mfs (Z 0))) (by decide) (fun c j _ hc => by
          simp only [uI]
          rw [if_neg (by omega), if_neg (by omega)]) (⟨fun _ => ⟨RS_w0 (RS_F (j := 3) (v := 0) (RR_row hU.2.1 (i := 0) (by decide)).1 (by decide) (by decide) (by decide)), (RR_row hU.2.1 (i := 0) (by decide)).2.1, Nat.zero_le _, LKs_F (RR_row hU.2.1 (i := 0) (by decide)).2.2.2 (by decide)⟩, fun h => absurd h (by decide)⟩) (RU_I (hE14) (I' := (uI I 16 0 0)) (fun _ => rfl) (fun _ => rfl) (Nat.le_refl _) hU)
        have hA47 : RA w B R H hb h11 ((uI I 16 0 0), Q, (uZ Z 0 (mfs (Z 0)))) := RA_u.mpr ⟨_, _, _, _, hS12, hU46⟩
        refine go_callV (pc' := 41) rfl rfl rfl (Nat.le_of_ble_eq_true rfl) rfl (sm_o hS12 rfl) rfl rfl rfl (ra_rp_0 hA47 (by omega) (Or.inr (Or.inl e1)) (show ¬ (uI I 16 0 0) 11 0 = -1 from hn0) hp1 (by omega)) (fun r h48 q49 => ?_)
        obtain ⟨rfl, hA50⟩ := q49
        change RA w B (R + 1) H hb h48 (rrp 0 ((uI I 16 0 0), Q, (uZ Z 0 (mfs (Z 0))))) at hA50
        obtain ⟨M51, eM51⟩ : ∃ y : mM, y = (rrp 0 ((uI I 16 0 0), Q, (uZ Z 0 (mfs (Z 0))))) := ⟨_, rfl⟩
        rw [← eM51] at hA50
        obtain ⟨I51, Q51, Z51⟩ := M51
        obtain ⟨K51, Y51, am51, ln51, hS51, hU51⟩ := RA_u.mp hA50
        change sm (tbr am51 (13 * ln51) 77 5088) h48 (jn I51 K51) Y51 at hS51
        obtain ⟨-, hWm51, -, -, hr51, -⟩ := id hU51.1
        have hln51 := RU_ln hU51 (by omega)
        have e23 : I51 23 = (uI I 16 0 0) 23 := by rw [show I51 = (I51, Q51, Z51).1 from rfl, eM51]; exact rrp_I (by decide) (by decide) (by decide)
        refine go_s (pc' := 47) rfl rfl rfl rfl ?_
        refine go_s (pc' := 48) rfl rfl rfl rfl ?_
        refine go_s (pc' := 49) rfl rfl rfl rfl ?_
        refine go_s (pc' := 50) (st' := [.int 2, .int ((Z 0).1 3), .ref 62]) rfl rfl rfl rfl ?_
        refine go_icmpP (t' := 56) (pc' := 51) rfl rfl rfl (fun (c : ((Z 0).1 3) = 2) => absurd c (by rw [c15] <;> decide)) (fun _ => ?_)
        refine go_s (pc' := 52) rfl rfl rfl rfl ?_
        refine go_sget (pc' := 53) (v := .int (I 23 0)) hS51 rfl rfl rfl (by decide) (congrArg Value.int (congrFun e23 0)) rfl ?_
        refine go_ifP (t' := 56) (pc' := 54) rfl rfl rfl (fun (c52 : (I 23 0) = 0) => ?_) (fun (c52 : ¬ (I 23 0) = 0) => ?_)
        · skip
          refine go_s (pc' := 57) (st' := [.int 0, .ref 62]) rfl rfl rfl rfl ?_
          refine go_sput (pc' := 58) hS51 rfl rfl rfl (by decide) tbr_inj (Nat.le_of_ble_eq_true rfl) rfl (hW _ (by decide) (by decide)) rfl (fun h53 hS54 hE55 => ?_)
          refine go_ret rfl rfl ?_
          change sm (tbr am51 (13 * ln51) 77 5088) _ (uI (jn I51 K51) 23 0 0) Y51 at hS54
          rw [jn_lo (c := 23) (by decide)] at hS54
          have hU56 : RU w B (R + 1) H hb h53 am51 ln51 K51 ((uI I51 23 0 0), Q51, Z51) := RU_I (hE55) (I' := (uI I51 23 0 0)) (fun _ => rfl) (fun _ => rfl) (Nat.le_refl _) hU51
          have hA57 : RA w B (R + 1) H hb h53 ((uI I51 23 0 0), Q51, Z51) := RA_u.mpr ⟨_, _, _, _, hS54, hU56⟩
          have h0f : mfin0 (I, Q, Z) = ((uI I 16 0 0, Q, uZ Z 0 (mfs (Z 0))) : mM) := by
            unfold mfin0
            rw [show rwi (I, Q, Z).1 0 = 0 from rwi_l (v := 0) e1 (by decide)]
          have hrow : row1 (I, Q, Z) 0 = (Z 0).1 := row1_l (v := 0) e1 (by decide)
          have h1f : rfin1 (I, Q, Z) = (I51, Q51, Z51) := by
            unfold rfin1
            rw [hrow, if_pos c15, e4, h0f]
            exact eM51.symm
          have hlast : (if row1 (I, Q, Z) 0 3 = 2 then (0 : Int32) else (rfin1 (I, Q, Z)).1 23 0) = 0 := by
            rw [hrow, if_neg (by rw [c15]; decide), h1f]
            exact (show I51 23 0 = I 23 0 from congrFun e23 0).trans c52
          refine ⟨rfl, RA_R (by rw [show row1 (I, Q, Z) 0 3 = 1 from (congrFun hrow 3).trans c15]; exact Nat.le_refl _) ?_⟩
          show RA w B _ H hb _ (uI (rfin1 (I, Q, Z)).1 23 0 (if row1 (I, Q, Z) 0 3 = 2 then 0 else (rfin1 (I, Q, Z)).1 23 0), (rfin1 (I, Q, Z)).2)
          rw [hlast, h1f]
          exact hA57
        · skip
          refine go_s (pc' := 55) (st' := [.int 1, .ref 62]) rfl rfl rfl rfl ?_
          refine go_s (pc' := 57) rfl rfl rfl rfl ?_
          refine go_sput (pc' := 58) hS51 rfl rfl rfl (by decide) tbr_inj (Nat.le_of_ble_eq_true rfl) rfl (hW _ (by decide) (by decide)) rfl (fun h58 hS59 hE60 => ?_)
          refine go_ret rfl rfl ?_
          change sm (tbr am51 (13 * ln51) 77 5088) _ (uI (jn I51 K51) 23 0 1) Y51 at hS59
          rw [jn_lo (c := 23) (by decide)] at hS59
          have hU61 : RU w B (R + 1) H hb h58 am51 ln51 K51 ((uI I51 23 0 1), Q51, Z51) := RU_I (hE60) (I' := (uI I51 23 0 1)) (fun _ => rfl) (fun _ => rfl) (Nat.le_refl _) hU51
          have hA62 : RA w B (R + 1) H hb h58 ((uI I51 23 0 1), Q51, Z51) := RA_u.mpr ⟨_, _, _, _, hS59, hU61⟩
          have h0f : mfin0 (I, Q, Z) = ((uI I 16 0 0, Q, uZ Z 0 (mfs (Z 0))) : mM) := by
            unfold mfin0
            rw [show rwi (I, Q, Z).1 0 = 0 from rwi_l (v := 0) e1 (by decide)]
          have hrow : row1 (I, Q, Z) 0 = (Z 0).1 := row1_l (v := 0) e1 (by decide)
          have h1f : rfin1 (I, Q, Z) = (I51, Q51, Z51) := by
            unfold rfin1
            rw [hrow, if_pos c15, e4, h0f]
            exact eM51.symm
          have hlast : (if row1 (I, Q, Z) 0 3 = 2 then (0 : Int32) else (rfin1 (I, Q, Z)).1 23 0) = 1 := by
            rw [hrow, if_neg (by rw [c15]; decide), h1f]
            exact (show I51 23 0 = I 23 0 from congrFun e23 0).trans (h23.elim (fun z => absurd z c52) id)
          refine ⟨rfl, RA_R (by rw [show row1 (I, Q, Z) 0 3 = 1 from (congrFun hrow 3).trans c15]; exact Nat.le_refl _) ?_⟩
          show RA w B _ H hb _ (uI (rfin1 (I, Q, Z)).1 23 0 (if row1 (I, Q, Z) 0 3 = 2 then 0 else (rfin1 (I, Q, Z)).1 23 0), (rfin1 (I, Q, Z)).2)
          rw [hlast, h1f]
          exact hA62
    · skip
      refine go_s (pc' := 1) rfl rfl rfl rfl ?_
      refine go_s (pc' := 2) (st' := [.int 0, .ref 62]) rfl rfl rfl rfl ?_
      refine go_callV (pc' := 3) rfl rfl rfl (Nat.le_of_ble_eq_true rfl) rfl (sm_o hS rfl) rfl rfl rfl (rt_at_0 hr hS (Or.inr (Or.inl e1)) (fun z => absurd (e1.symm.trans z) (by decide)) (by omega)) (fun r h63 q64 => ?_)
      obtain ⟨rfl, rfl⟩ := q64
      rw [show rwi (jn I K) 0 = 0 by unfold rwi pn; rw [show (jn I K) 11 0 = 0 from e1]; rfl]
      show am_Go _ _ _ _ 3 _ [.int 0] _ _
      refine go_s (pc' := 4) (lo' := [some (.ref 62), some (.int 0), none]) rfl rfl rfl rfl ?_
      refine go_s (pc' := 5) rfl rfl rfl rfl ?_
      refine go_sget (pc' := 6) (v := .ref 77) hS rfl rfl rfl (by decide) rfl rfl ?_
      refine go_s (pc' := 7) rfl rfl rfl rfl ?_
      refine go_s (pc' := 8) (st' := [.int 3, .int 0, .ref 77]) rfl rfl rfl rfl ?_
      refine go_s (pc' := 9) (st' := [.int 3, .ref 77]) rfl rfl rfl rfl ?_
      refine go_sald (pc' := 10) (q := 3) (v := .int ((Z 0).1 3)) hS rfl (tr_as hr (by omega)) rfl rfl (by decide) (congrArg Value.int ((RR_row hU.2.1 (i := 0) (by decide)).1.1 3 (by decide) (by decide) (by decide))) rfl ?_
      refine go_s (pc' := 11) (lo' := [some (.ref 62), some (.int 0), some (.int ((Z 0).1 3))]) rfl rfl rfl rfl ?_
      refine go_s (pc' := 12) rfl rfl rfl rfl ?_
      refine go_sget (pc' := 13) (v := .ref 77) hS rfl rfl rfl (by decide) rfl rfl ?_
      refine go_s (pc' := 14) rfl rfl rfl rfl ?_
      refine go_s (pc' := 15) (st' := [.int 3, .int 0, .ref 77]) rfl rfl rfl rfl ?_
      refine go_s (pc' := 16) (st' := [.int 3, .ref 77]) rfl rfl rfl rfl ?_
      refine go_s (pc' := 17) (st' := [.int 0, .int 3, .ref 77]) rfl rfl rfl rfl ?_
      refine go_siast (pc' := 18) (q := 3) hS rfl (tr_as hr (by omega)) tbr_inj (Nat.le_of_ble_eq_true rfl) rfl (by decide) (by decide) (hW _ (by decide) (by decide)) rfl (fun h65 hS66 hE67 => ?_)
      refine go_s (pc' := 19) rfl rfl rfl rfl ?_
      refine go_sget (pc' := 20) (v := .ref 77) hS66 rfl rfl rfl (by decide) rfl rfl ?_
      refine go_s (pc' := 21) rfl rfl rfl rfl ?_
      refine go_s (pc' := 22) (st' := [.int 5, .int 0, .ref 77]) rfl rfl rfl rfl ?_
      refine go_s (pc' := 23) (st' := [.int 5, .ref 77]) rfl rfl rfl rfl ?_
      refine go_s (pc' := 24) (st' := [.int 0, .int 5, .ref 77]) rfl rfl rfl rfl ?_
      refine go_siast (pc' := 25) (q := 5) hS66 rfl (tr_as hr (by omega)) tbr_inj (Nat.le_of_ble_eq_true rfl) rfl (by decide) (by decide) (hW _ (by decide) (by decide)) rfl (fun h68 hS69 hE70 => ?_)
      have hE71 := sm_e_trans hE67 hE70
      refine go_s (pc' := 26) rfl rfl rfl rfl ?_
      refine go_sget (pc' := 27) (v := .ref 83) hS69 rfl rfl rfl (by decide) rfl rfl ?_
      refine go_s (pc' := 28) (st' := [.int 0, .ref 83]) rfl rfl rfl rfl ?_
      refine go_s (pc' := 29) (st' := [.int 0, .int 0, .ref 83]) rfl rfl rfl rfl ?_
      refine go_siast (pc' := 30) (q := 0) hS69 rfl (tr_s hr (a := 83) rfl (by decide)) tbr_inj (Nat.le_of_ble_eq_true rfl) rfl (by decide) (by decide) (hW _ (by decide) (by decide)) rfl (fun h72 hS73 hE74 => ?_)
      have hE75 := sm_e_trans hE71 hE74
      refine go_s (pc' := 31) rfl rfl rfl rfl ?_
      refine go_s (pc' := 32) (st' := [.int 1, .int ((Z 0).1 3)]) rfl rfl rfl rfl ?_
      refine go_icmpP (t' := 42) (pc' := 33) rfl rfl rfl (fun (c76 : ¬ ((Z 0).1 3) = 1) => ?_) (fun (c76' : ¬ ¬ ((Z 0).1 3) = 1) => ?_)
      · skip
        refine go_s (pc' := 43) rfl rfl rfl rfl ?_
        refine go_sget (pc' := 44) (v := .int (I 23 0)) hS73 rfl rfl rfl (by decide) rfl rfl ?_
        refine go_ifP (t' := 47) (pc' := 45) rfl rfl rfl (fun (c77 : (I 23 0) = 0) => ?_) (fun (c77 : ¬ (I 23 0) = 0) => ?_)
        · skip
          change sm (tbr am (13 * ln) 77 5088) _ (uI (uI (uI (jn I K) 51 3 0) 51 5 0) 16 0 0) Y at hS73
          rw [jn_hi (c := 51) (by decide), jn_hi (c := 51) (by decide), jn_lo (c := 16) (by decide)] at hS73
          have hU78 : RU w B R H hb h72 am ln (uI (uI K 51 3 0) 51 5 0) ((uI I 16 0 0), Q, (uZ Z 0 (mfs (Z 0)))) := RU_row (K' := (uI (uI K 51 3 0) 51 5 0)) (s := (mfs (Z 0))) (by decide) (fun c j _ hc => by
            simp only [uI]
            rw [if_neg (by omega), if_neg (by omega)]) (⟨fun _ => ⟨RS_w0 (RS_F (j := 3) (v := 0) (RR_row hU.2.1 (i := 0) (by decide)).1 (by decide) (by decide) (by decide)), (RR_row hU.2.1 (i := 0) (by decide)).2.1, Nat.zero_le _, LKs_F (RR_row hU.2.1 (i := 0) (by decide)).2.2.2 (by decide)⟩, fun h => absurd h (by decide)⟩) (RU_I (hE75) (I' := (uI I 16 0 0)) (fun _ => rfl) (fun _ => rfl) (Nat.le_refl _) hU)
          refine go_s (pc' := 48) rfl rfl rfl rfl ?_
          refine go_s (pc' := 49) rfl rfl rfl rfl ?_
          refine go_s (pc' := 50) (st' := [.int 2, .int ((Z 0).1 3), .ref 62]) rfl rfl rfl rfl ?_
          refine go_icmpP (t' := 56) (pc' := 51) rfl rfl rfl (fun (c79 : ((Z 0).1 3) = 2) => ?_) (fun (c79 : ¬ ((Z 0).1 3) = 2) => ?_)
          · skip
            refine go_s (pc' := 57) (st' := [.int 0, .ref 62]) rfl rfl rfl rfl ?_
            refine go_sput (pc' := 58) hS73 rfl rfl rfl (by decide) tbr_inj (Nat.le_of_ble_eq_true rfl) rfl (hW _ (by decide) (by decide)) rfl (fun h80 hS81 hE82 => ?_)
            refine go_ret rfl rfl ?_
            change sm (tbr am (13 * ln) 77 5088) _ (uI (jn (uI I 16 0 0) (uI (uI K 51 3 0) 51 5 0)) 23 0 0) Y at hS81
            rw [jn_lo (c := 23) (by decide)] at hS81
            have hU83 : RU w B R H hb h80 am ln (uI (uI K 51 3 0) 51 5 0) ((uI (uI I 16 0 0) 23 0 0), Q, (uZ Z 0 (mfs (Z 0)))) := RU_I (hE82) (I' := (uI (uI I 16 0 0) 23 0 0)) (fun _ => rfl) (fun _ => rfl) (Nat.le_refl _) hU78
            have hA84 : RA w B R H hb h80 ((uI (uI I 16 0 0) 23 0 0), Q, (uZ Z 0 (mfs (Z 0)))) := RA_u.mpr ⟨_, _, _, _, hS81, hU83⟩
            have h0f : mfin0 (I, Q, Z) = ((uI I 16 0 0, Q, uZ Z 0 (mfs (Z 0))) : mM) := by
              unfold mfin0
              rw [show rwi (I, Q, Z).1 0 = 0 from rwi_l (v := 0) e1 (by decide)]
            have hrow : row1 (I, Q, Z) 0 = (Z 0).1 := row1_l (v := 0) e1 (by decide)
            have h1f : rfin1 (I, Q, Z) = ((uI I 16 0 0), Q, (uZ Z 0 (mfs (Z 0)))) := by
              unfold rfin1
              rw [hrow, if_neg c76, if_pos c77, h0f]
            have hlast : (if row1 (I, Q, Z) 0 3 = 2 then (0 : Int32) else (rfin1 (I, Q, Z)).1 23 0) = 0 := by
              rw [hrow]
              exact if_pos c79
            refine ⟨rfl, RA_R (Nat.le_add_right R _) ?_⟩
            show RA w B _ H hb _ (uI (rfin1 (I, Q, Z)).1 23 0 (if row1 (I, Q, Z) 0 3 = 2 then 0 else (rfin1 (I, Q, Z)).1 23 0), (rfin1 (I, Q, Z)).2)
            rw [hlast, h1f]
            exact hA84
          · skip
            refine go_s (pc' := 52) rfl rfl rfl rfl ?_
            refine go_sget (pc' := 53) (v := .int (I 23 0)) hS73 rfl rfl rfl (by decide) rfl rfl ?_
            refine go_ifP (t' := 56) (pc' := 54) rfl rfl rfl (fun _ => ?_) (fun (c : ¬ ((I 23 0) = 0)) => absurd (by rw [c77] <;> decide) c)
            refine go_s (pc' := 57) (st' := [.int 0, .ref 62]) rfl rfl rfl rfl ?_
            refine go_sput (pc' := 58) hS73 rfl rfl rfl (by decide) tbr_inj (Nat.le_of_ble_eq_true rfl) rfl (hW _ (by decide) (by decide)) rfl (fun h85 hS86 hE87 => ?_)
            refine go_ret rfl rfl ?_
            change sm (tbr am (13 * ln) 77 5088) _ (uI (jn (uI I 16 0 0) (uI (uI K 51 3 0) 51 5 0)) 23 0 0) Y at hS86
            rw [jn_lo (c := 23) (by decide)] at hS86
            have hU88 : RU w B R H hb h85 am ln (uI (uI K 51 3 0) 51 5 0) ((uI (uI I 16 0 0) 23 0 0), Q, (uZ Z 0 (mfs (Z 0)))) := RU_I (hE87) (I' := (uI (uI I 16 0 0) 23 0 0)) (fun _ => rfl) (fun _ => rfl) (Nat.le_refl _) hU78
            have hA89 : RA w B R H hb h85 ((uI (uI I 16 0 0) 23 0 0), Q, (uZ Z 0 (mfs (Z 0)))) := RA_u.mpr ⟨_, _, _, _, hS86, hU88⟩
            have h0f : mfin0 (I, Q, Z) = ((uI I 16 0 0, Q, uZ Z 0 (mfs (Z 0))) : mM) := by
              unfold mfin0
              rw [show rwi (I, Q, Z).1 0 = 0 from rwi_l (v := 0) e1 (by decide)]
            have hrow : row1 (I, Q, Z) 0 = (Z 0).1 := row1_l (v := 0) e1 (by decide)
            have h1f : rfin1 (I, Q, Z) = ((uI I 16 0 0), Q, (uZ Z 0 (mfs (Z 0)))) := by
              unfold rfin1
              rw [hrow, if_neg c76, if_pos c77, h0f]
            have hlast : (if row1 (I, Q, Z) 0 3 = 2 then (0 : Int32) else (rfin1 (I, Q, Z)).1 23 0) = 0 := by
              rw [hrow, if_neg c79, h1f]
              exact (show (uI I 16 0 0) 23 0 = I 23 0 from rfl).trans c77
            refine ⟨rfl, RA_R (Nat.le_add_right R _) ?_⟩
            show RA w B _ H hb _ (uI (rfin1 (I, Q, Z)).1 23 0 (if row1 (I, Q, Z) 0 3 = 2 then 0 else (rfin1 (I, Q, Z)).1 23 0), (rfin1 (I, Q, Z)).2)
            rw [hlast, h1f]
            exact hA89
        · skip
          refine go_s (pc' := 46) rfl rfl rfl rfl ?_
          change sm (tbr am (13 * ln) 77 5088) _ (uI (uI (uI (jn I K) 51 3 0) 51 5 0) 16 0 0) Y at hS73
          rw [jn_hi (c := 51) (by decide), jn_hi (c := 51) (by decide), jn_lo (c := 16) (by decide)] at hS73
          have hU90 : RU w B R H hb h72 am ln (uI (uI K 51 3 0) 51 5 0) ((uI I 16 0 0), Q, (uZ Z 0 (mfs (Z 0)))) := RU_row (K' := (uI (uI K 51 3 0) 51 5 0)) (s := (mfs (Z 0))) (by decide) (fun c j _ hc => by
            simp only [uI]
            rw [if_neg (by omega), if_neg (by omega)]) (⟨fun _ => ⟨RS_w0 (RS_F (j := 3) (v := 0) (RR_row hU.2.1 (i := 0) (by decide)).1 (by decide) (by decide) (by decide)), (RR_row hU.2.1 (i := 0) (by decide)).2.1, Nat.zero_le _, LKs_F (RR_row hU.2.1 (i := 0) (by decide)).2.2.2 (by decide)⟩, fun h => absurd h (by decide)⟩) (RU_I (hE75) (I' := (uI I 16 0 0)) (fun _ => rfl) (fun _ => rfl) (Nat.le_refl _) hU)
          have hA91 : RA w B R H hb h72 ((uI I 16 0 0), Q, (uZ Z 0 (mfs (Z 0)))) := RA_u.mpr ⟨_, _, _, _, hS73, hU90⟩
          refine go_callV (pc' := 47) rfl rfl rfl (Nat.le_of_ble_eq_true rfl) rfl (sm_o hS73 rfl) rfl rfl rfl (ra_sa hA91 (by omega) (Or.inr (Or.inl e1)) hp1 hp2 (by omega)) (fun r h92 q93 => ?_)
          obtain ⟨rfl, hA94⟩ := q93
          change RA w B (R + 2) H hb h92 (rsa ((uI I 16 0 0), Q, (uZ Z 0 (mfs (Z 0))))) at hA94
          obtain ⟨M95, eM95⟩ : ∃ y : mM, y = (rsa ((uI I 16 0 0), Q, (uZ Z 0 (mfs (Z 0))))) := ⟨_, rfl⟩
          rw [← eM95] at hA94
          obtain ⟨I95, Q95, Z95⟩ := M95
          obtain ⟨K95, Y95, am95, ln95, hS95, hU95⟩ := RA_u.mp hA94
          change sm (tbr am95 (13 * ln95) 77 5088) h92 (jn I95 K95) Y95 at hS95
          obtain ⟨-, hWm95, -, -, hr95, -⟩ := id hU95.1
          have hln95 := RU_ln hU95 (by omega)
          have e23 : I95 23 = (uI I 16 0 0) 23 := by rw [show I95 = (I95, Q95, Z95).1 from rfl, eM95]; exact rsa_I (by decide) (by decide) (by decide)
          refine go_s (pc' := 48) rfl rfl rfl rfl ?_
          refine go_s (pc' := 49) rfl rfl rfl rfl ?_
          refine go_s (pc' := 50) (st' := [.int 2, .int ((Z 0).1 3), .ref 62]) rfl rfl rfl rfl ?_
          refine go_icmpP (t' := 56) (pc' := 51) rfl rfl rfl (fun (c96 : ((Z 0).1 3) = 2) => ?_) (fun (c96 : ¬ ((Z 0).1 3) = 2) => ?_)
          · skip
            refine go_s (pc' := 57) (st' := [.int 0, .ref 62]) rfl rfl rfl rfl ?_
            refine go_sput (pc' := 58) hS95 rfl rfl rfl (by decide) tbr_inj (Nat.le_of_ble_eq_true rfl) rfl (hW _ (by decide) (by decide)) rfl (fun h97 hS98 hE99 => ?_)
            refine go_ret rfl rfl ?_
            change sm (tbr am95 (13 * ln95) 77 5088) _ (uI (jn I95 K95) 23 0 0) Y95 at hS98
            rw [jn_lo (c := 23) (by decide)] at hS98
            have hU100 : RU w B (R + 2) H hb h97 am95 ln95 K95 ((uI I95 23 0 0), Q95, Z95) := RU_I (hE99) (I' := (uI I95 23 0 0)) (fun _ => rfl) (fun _ => rfl) (Nat.le_refl _) hU95
            have hA101 : RA w B (R + 2) H hb h97 ((uI I95 23 0 0), Q95, Z95) := RA_u.mpr ⟨_, _, _, _, hS98, hU100⟩
            have h0f : mfin0 (I, Q, Z) = ((uI I 16 0 0, Q, uZ Z 0 (mfs (Z 0))) : mM) := by
              unfold mfin0
              rw [show rwi (I, Q, Z).1 0 = 0 from rwi_l (v := 0) e1 (by decide)]
            have hrow : row1 (I, Q, Z) 0 = (Z 0).1 := row1_l (v := 0) e1 (by decide)
            have h1f : rfin1 (I, Q, Z) = (I95, Q95, Z95) := by
              unfold rfin1
              rw [hrow, if_neg c76, if_neg c77, h0f]
              exact eM95.symm
            have hlast : (if row1 (I, Q, Z) 0 3 = 2 then (0 : Int32) else (rfin1 (I, Q, Z)).1 23 0) = 0 := by
              rw [hrow]
              exact if_pos c96
            refine ⟨rfl, RA_R (by rw [if_neg (by rw [hrow]; exact c76)]; exact Nat.le_refl _) ?_⟩
            show RA w B _ H hb _ (uI (rfin1 (I, Q, Z)).1 23 0 (if row1 (I, Q, Z) 0 3 = 2 then 0 else (rfin1 (I, Q, Z)).1 23 0), (rfin1 (I, Q, Z)).2)
            rw [hlast, h1f]
            exact hA101
          · skip
            refine go_s (pc' := 52) rfl rfl rfl rfl ?_
            refine go_sget (pc' := 53) (v := .int (I 23 0)) hS95 rfl rfl rfl (by decide) (congrArg Value.int (congrFun e23 0)) rfl ?_
            refine go_ifP (t' := 56) (pc' := 54) rfl rfl rfl (fun (c : (I 23 0) = 0) => absurd c c77) (fun _ => ?_)
            refine go_s (pc' := 55) (st' := [.int 1, .ref 62]) rfl rfl rfl rfl ?_
            refine go_s (pc' := 57) rfl rfl rfl rfl ?_
            refine go_sput (pc' := 58) hS95 rfl rfl rfl (by decide) tbr_inj (Nat.le_of_ble_eq_true rfl) rfl (hW _ (by decide) (by decide)) rfl (fun h102 hS103 hE104 => ?_)
            refine go_ret rfl rfl ?_
            change sm (tbr am95 (13 * ln95) 77 5088) _ (uI (jn I95 K95) 23 0 1) Y95 at hS103
            rw [jn_lo (c := 23) (by decide)] at hS103
            have hU105 : RU w B (R + 2) H hb h102 am95 ln95 K95 ((uI I95 23 0 1), Q95, Z95) := RU_I (hE104) (I' := (uI I95 23 0 1)) (fun _ => rfl) (fun _ => rfl) (Nat.le_refl _) hU95
            have hA106 : RA w B (R + 2) H hb h102 ((uI I95 23 0 1), Q95, Z95) := RA_u.mpr ⟨_, _, _, _, hS103, hU105⟩
            have h0f : mfin0 (I, Q, Z) = ((uI I 16 0 0, Q, uZ Z 0 (mfs (Z 0))) : mM) := by
              unfold mfin0
              rw [show rwi (I, Q, Z).1 0 = 0 from rwi_l (v := 0) e1 (by decide)]
            have hrow : row1 (I, Q, Z) 0 = (Z 0).1 := row1_l (v := 0) e1 (by decide)
            have h1f : rfin1 (I, Q, Z) = (I95, Q95, Z95) := by
              unfold rfin1
              rw [hrow, if_neg c76, if_neg c77, h0f]
              exact eM95.symm
            have hlast : (if row1 (I, Q, Z) 0 3 = 2 then (0 : Int32) else (rfin1 (I, Q, Z)).1 23 0) = 1 := by
              rw [hrow, if_neg c96, h1f]
              exact (show I95 23 0 = I 23 0 from congrFun e23 0).trans (h23.elim (fun z => absurd z c77) id)
            refine ⟨rfl, RA_R (by rw [if_neg (by rw [hrow]; exact c76)]; exact Nat.le_refl _) ?_⟩
            show RA w B _ H hb _ (uI (rfin1 (I, Q, Z)).1 23 0 (if row1 (I, Q, Z) 0 3 = 2 then 0 else (rfin1 (I, Q, Z)).1 23 0), (rfin1 (I, Q, Z)).2)
            rw [hlast, h1f]
            exact hA106
      · skip
        have c76 : ((Z 0).1 3) = 1 := Decidable.not_not.mp c76'
        refine go_s (pc' := 34) rfl rfl rfl rfl ?_
        refine go_s (pc' := 35) rfl rfl rfl rfl ?_
        refine go_sget (pc' := 36) (v := .ref 77) hS73 rfl rfl rfl (by decide) rfl rfl ?_
        refine go_s (pc' := 37) rfl rfl rfl rfl ?_
        refine go_s (pc' := 38) (st' := [.int 4, .int 0, .ref 77, .ref 62]) rfl rfl rfl rfl ?_
        refine go_s (pc' := 39) (st' := [.int 4, .ref 77, .ref 62]) rfl rfl rfl rfl ?_
        refine go_sald (pc' := 40) (q := 4) (v := .int 1) hS73 rfl (tr_as hr (by omega)) rfl rfl (by decide) (congrArg Value.int (((RR_row hU.2.1 (i := 0) (by decide)).1.1 4 (by decide) (by decide) (by decide)).trans e4)) rfl ?_
        change sm (tbr am (13 * ln) 77 5088) _ (uI (uI (uI (jn I K) 51 3 0) 51 5 0) 16 0 0) Y at hS73
        rw [jn_hi (c := 51) (by decide), jn_hi (c := 51) (by decide), jn_lo (c := 16) (by decide)] at hS73
        have hU107 : RU w B R H hb h72 am ln (uI (uI K 51 3 0) 51 5 0) ((uI I 16 0 0), Q, (uZ Z 0 (mfs (Z 0)))) := RU_row (K' := (uI (uI K 51 3 0) 51 5 0)) (s := (mfs (Z 0))) (by decide) (fun c j _ hc => by
          simp only [uI]
          rw [if_neg (by omega), if_neg (by omega)]) (⟨fun _ => ⟨RS_w0 (RS_F (j := 3) (v := 0) (RR_row hU.2.1 (i := 0) (by decide)).1 (by decide) (by decide) (by decide)), (RR_row hU.2.1 (i := 0) (by decide)).2.1, Nat.zero_le _, LKs_F (RR_row hU.2.1 (i := 0) (by decide)).2.2.2 (by decide)⟩, fun h => absurd h (by decide)⟩) (RU_I (hE75) (I' := (uI I 16 0 0)) (fun _ => rfl) (fun _ => rfl) (Nat.le_refl _) hU)
        have hA108 : RA w B R H hb h72 ((uI I 16 0 0), Q, (uZ Z 0 (mfs (Z 0)))) := RA_u.mpr ⟨_, _, _, _, hS73, hU107⟩
        refine go_callV (pc' := 41) rfl rfl rfl (Nat.le_of_ble_eq_true rfl) rfl (sm_o hS73 rfl) rfl rfl rfl (ra_rp_1 hA108 (by omega) (Or.inr (Or.inl e1)) (show ¬ (uI I 16 0 0) 11 0 = -1 from hn0) hp2 (by omega)) (fun r h109 q110 => ?_)
        obtain ⟨rfl, hA111⟩ := q110
        change RA w B (R + 1) H hb h109 (rrp 1 ((uI I 16 0 0), Q, (uZ Z 0 (mfs (Z 0))))) at hA111
        obtain ⟨M112, eM112⟩ : ∃ y : mM, y = (rrp 1 ((uI I 16 0 0), Q, (uZ Z 0 (mfs (Z 0))))) := ⟨_, rfl⟩
        rw [← eM112] at hA111
        obtain ⟨I112, Q112, Z112⟩ := M112
        obtain ⟨K112, Y112, am112, ln112, hS112, hU112⟩ := RA_u.mp hA111
        change sm (tbr am112 (13 * ln112) 77 5088) h109 (jn I112 K112) Y112 at hS112
        obtain ⟨-, hWm112, -, -, hr112, -⟩ := id hU112.1
        have hln112 := RU_ln hU112 (by omega)
        have e23 : I112 23 = (uI I 16 0 0) 23 := by rw [show I112 = (I112, Q112, Z112).1 from rfl, eM112]; exact rrp_I (by decide) (by decide) (by decide)
        refine go_s (pc' := 47) rfl rfl rfl rfl ?_
        refine go_s (pc' := 48) rfl rfl rfl rfl ?_
        refine go_s (pc' := 49) rfl rfl rfl rfl ?_
        refine go_s (pc' := 50) (st' := [.int 2, .int ((Z 0).1 3), .ref 62]) rfl rfl rfl rfl ?_
        refine go_icmpP (t' := 56) (pc' := 51) rfl rfl rfl (fun (c : ((Z 0).1 3) = 2) => absurd c (by rw [c76] <;> decide)) (fun _ => ?_)
        refine go_s (pc' := 52) rfl rfl rfl rfl ?_
        refine go_sget (pc' := 53) (v := .int (I 23 0)) hS112 rfl rfl rfl (by decide) (congrArg Value.int (congrFun e23 0)) rfl ?_
        refine go_ifP (t' := 56) (pc' := 54) rfl rfl rfl (fun (c113 : (I 23 0) = 0) => ?_) (fun (c113 : ¬ (I 23 0) = 0) => ?_)
        · skip
          refine go_s (pc' := 57) (st' := [.int 0, .ref 62]) rfl rfl rfl rfl ?_
          refine go_sput (pc' := 58) hS112 rfl rfl rfl (by decide) tbr_inj (Nat.le_of_ble_eq_true rfl) rfl (hW _ (by decide) (by decide)) rfl (fun h114 hS115 hE116 => ?_)
          refine go_ret rfl rfl ?_
          change sm (tbr am112 (13 * ln112) 77 5088) _ (uI (jn I112 K112) 23 0 0) Y112 at hS115
          rw [jn_lo (c := 23) (by decide)] at hS115
          have hU117 : RU w B (R + 1) H hb h114 am112 ln112 K112 ((uI I112 23 0 0), Q112, Z112) := RU_I (hE116) (I' := (uI I112 23 0 0)) (fun _ => rfl) (fun _ => rfl) (Nat.le_refl _) hU112
          have hA118 : RA w B (R + 1) H hb h114 ((uI I112 23 0 0), Q112, Z112) := RA_u.mpr ⟨_, _, _, _, hS115, hU117⟩
          have h0f : mfin0 (I, Q, Z) = ((uI I 16 0 0, Q, uZ Z 0 (mfs (Z 0))) : mM) := by
            unfold mfin0
            rw [show rwi (I, Q, Z).1 0 = 0 from rwi_l (v := 0) e1 (by decide)]
          have hrow : row1 (I, Q, Z) 0 = (Z 0).1 := row1_l (v := 0) e1 (by decide)
          have h1f : rfin1 (I, Q, Z) = (I112, Q112, Z112) := by
            unfold rfin1
            rw [hrow, if_pos c76, e4, h0f]
            exact eM112.symm
          have hlast : (if row1 (I, Q, Z) 0 3 = 2 then (0 : Int32) else (rfin1 (I, Q, Z)).1 23 0) = 0 := by
            rw [hrow, if_neg (by rw [c76]; decide), h1f]
            exact (show I112 23 0 = I 23 0 from congrFun e23 0).trans c113
          refine ⟨rfl, RA_R (by rw [show row1 (I, Q, Z) 0 3 = 1 from (congrFun hrow 3).trans c76]; exact Nat.le_refl _) ?_⟩
          show RA w B _ H hb _ (uI (rfin1 (I, Q, Z)).1 23 0 (if row1 (I, Q, Z) 0 3 = 2 then 0 else (rfin1 (I, Q, Z)).1 23 0), (rfin1 (I, Q, Z)).2)
          rw [hlast, h1f]
          exact hA118
        · skip
          refine go_s (pc' := 55) (st' := [.int 1, .ref 62]) rfl rfl rfl rfl ?_
          refine go_s (pc' := 57) rfl rfl rfl rfl ?_
          refine go_sput (pc' := 58) hS112 rfl rfl rfl (by decide) tbr_inj (Nat.le_of_ble_eq_true rfl) rfl (hW _ (by decide) (by decide)) rfl (fun h119 hS120 hE121 => ?_)
          refine go_ret rfl rfl ?_
          change sm (tbr am112 (13 * ln112) 77 5088) _ (uI (jn I112 K112) 23 0 1) Y112 at hS120
          rw [jn_lo (c := 23) (by decide)] at hS120
          have hU122 : RU w B (R + 1) H hb h119 am112 ln112 K112 ((uI I112 23 0 1), Q112, Z112) := RU_I (hE121) (I' := (uI I112 23 0 1)) (fun _ => rfl) (fun _ => rfl) (Nat.le_refl _) hU112
          have hA123 : RA w B (R + 1) H hb h119 ((uI I112 23 0 1), Q112, Z112) := RA_u.mpr ⟨_, _, _, _, hS120, hU122⟩
          have h0f : mfin0 (I, Q, Z) = ((uI I 16 0 0, Q, uZ Z 0 (mfs (Z 0))) : mM) := by
            unfold mfin0
            rw [show rwi (I, Q, Z).1 0 = 0 from rwi_l (v := 0) e1 (by decide)]
          have hrow : row1 (I, Q, Z) 0 = (Z 0).1 := row1_l (v := 0) e1 (by decide)
          have h1f : rfin1 (I, Q, Z) = (I112, Q112, Z112) := by
            unfold rfin1
            rw [hrow, if_pos c76, e4, h0f]
            exact eM112.symm
          have hlast : (if row1 (I, Q, Z) 0 3 = 2 then (0 : Int32) else (rfin1 (I, Q, Z)).1 23 0) = 1 := by
            rw [hrow, if_neg (by rw [c76]; decide), h1f]
            exact (show I112 23 0 = I 23 0 from congrFun e23 0).trans (h23.elim (fun z => absurd z c113) id)
          refine ⟨rfl, RA_R (by rw [show row1 (I, Q, Z) 0 3 = 1 from (congrFun hrow 3).trans c76]; exact Nat.le_refl _) ?_⟩
          show RA w B _ H hb _ (uI (rfin1 (I, Q, Z)).1 23 0 (if row1 (I, Q, Z) 0 3 = 2 then 0 else (rfin1 (I, Q, Z)).1 23 0), (rfin1 (I, Q, Z)).2)
          rw [hlast, h1f]
          exact hA123
  · skip
    have h4x : (Z 1).1 4 = 0 ∨ (Z 1).1 4 = 1 := by
      have z := h4
      rw [show rwi I 0 = 1 from rwi_l (v := 1) e1 (by decide)] at z
      exact z
    rcases h4x with e4 | e4
    · skip
      refine go_s (pc' := 1) rfl rfl rfl rfl ?_
      refine go_s (pc' := 2) (st' := [.int 0, .ref 62]) rfl rfl rfl rfl ?_
      refine go_callV (pc' := 3) rfl rfl rfl (Nat.le_of_ble_eq_true rfl) rfl (sm_o hS rfl) rfl rfl rfl (rt_at_0 hr hS (Or.inr (Or.inr e1)) (fun z => absurd (e1.symm.trans z) (by decide)) (by omega)) (fun r h124 q125 => ?_)
      obtain ⟨rfl, rfl⟩ := q125
      rw [show rwi (jn I K) 0 = 1 by unfold rwi pn; rw [show (jn I K) 11 0 = 1 from e1]; rfl]
      show am_Go _ _ _ _ 3 _ [.int 424] _ _
      refine go_s (pc' := 4) (lo' := [some (.ref 62), some (.int 424), none]) rfl rfl rfl rfl ?_
      refine go_s (pc' := 5) rfl rfl rfl rfl ?_
      refine go_sget (pc' := 6) (v := .ref 77) hS rfl rfl rfl (by decide) rfl rfl ?_
      refine go_s (pc' := 7) rfl rfl rfl rfl ?_
      refine go_s (pc' := 8) (st' := [.int 3, .int 424, .ref 77]) rfl rfl rfl rfl ?_
      refine go_s (pc' := 9) (st' := [.int 427, .ref 77]) rfl rfl rfl rfl ?_
      refine go_sald (pc' := 10) (q := 427) (v := .int ((Z 1).1 3)) hS rfl (tr_as hr (by omega)) rfl rfl (by decide) (congrArg Value.int ((RR_row hU.2.1 (i := 1) (by decide)).1.1 3 (by decide) (by decide) (by decide))) rfl ?_
      refine go_s (pc' := 11) (lo' := [some (.ref 62), some (.int 424), some (.int ((Z 1).1 3))]) rfl rfl rfl rfl ?_
      refine go_s (pc' := 12) rfl rfl rfl rfl ?_
      refine go_sget (pc' := 13) (v := .ref 77) hS rfl rfl rfl (by decide) rfl rfl ?_
      refine go_s (pc' := 14) rfl rfl rfl rfl ?_
      refine go_s (pc' := 15) (st' := [.int 3, .int 424, .ref 77]) rfl rfl rfl rfl ?_
      refine go_s (pc' := 16) (st' := [.int 427, .ref 77]) rfl rfl rfl rfl ?_
      refine go_s (pc' := 17) (st' := [.int 0, .int 427, .ref 77]) rfl rfl rfl rfl ?_
      refine go_siast (pc' := 18) (q := 427) hS rfl (tr_as hr (by omega)) tbr_inj (Nat.le_of_ble_eq_true rfl) rfl (by decide) (by decide) (hW _ (by decide) (by decide)) rfl (fun h126 hS127 hE128 => ?_)
      refine go_s (pc' := 19) rfl rfl rfl rfl ?_
      refine go_sget (pc' := 20) (v := .ref 77) hS127 rfl rfl rfl (by decide) rfl rfl ?_
      refine go_s (pc' := 21) rfl rfl rfl rfl ?_
      refine go_s (pc' := 22) (st' := [.int 5, .int 424, .ref 77]) rfl rfl rfl rfl ?_
      refine go_s (pc' := 23) (st' := [.int 429, .ref 77]) rfl rfl rfl rfl ?_
      refine go_s (pc' := 24) (st' := [.int 0, .int 429, .ref 77]) rfl rfl rfl rfl ?_
      refine go_siast (pc' := 25) (q := 429) hS127 rfl (tr_as hr (by omega)) tbr_inj (Nat.le_of_ble_eq_true rfl) rfl (by decide) (by decide) (hW _ (by decide) (by decide)) rfl (fun h129 hS130 hE131 => ?_)
      have hE132 := sm_e_trans hE128 hE131
      refine go_s (pc' := 26) rfl rfl rfl rfl ?_
      refine go_sget (pc' := 27) (v := .ref 83) hS130 rfl rfl rfl (by decide) rfl rfl ?_
      refine go_s (pc' := 28) (st' := [.int 0, .ref 83]) rfl rfl rfl rfl ?_
      refine go_s (pc' := 29) (st' := [.int 0, .int 0, .ref 83]) rfl rfl rfl rfl ?_
      refine go_siast (pc' := 30) (q := 0) hS130 rfl (tr_s hr (a := 83) rfl (by decide)) tbr_inj (Nat.le_of_ble_eq_true rfl) rfl (by decide) (by decide) (hW _ (by decide) (by decide)) rfl (fun h133 hS134 hE135 => ?_)
      have hE136 := sm_e_trans hE132 hE135
      refine go_s (pc' := 31) rfl rfl rfl rfl ?_
      refine go_s (pc' := 32) (st' := [.int 1, .int ((Z 1).1 3)]) rfl rfl rfl rfl ?_
      refine go_icmpP (t' := 42) (pc' := 33) rfl rfl rfl (fun (c137 : ¬ ((Z 1).1 3) = 1) => ?_) (fun (c137' : ¬ ¬ ((Z 1).1 3) = 1) => ?_)
      · skip
        refine go_s (pc' := 43) rfl rfl rfl rfl ?_
        refine go_sget (pc' := 44) (v := .int (I 23 0)) hS134 rfl rfl rfl (by decide) rfl rfl ?_
        refine go_ifP (t' := 47) (pc' := 45) rfl rfl rfl (fun (c138 : (I 23 0) = 0) => ?_) (fun (c138 : ¬ (I 23 0) = 0) => ?_)
        · skip
          change sm (tbr am (13 * ln) 77 5088) _ (uI (uI (uI (jn I K) 51 427 0) 51 429 0) 16 0 0) Y at hS134
          rw [jn_hi (c := 51) (by decide), jn_hi (c := 51) (by decide), jn_lo (c := 16) (by decide)] at hS134
          have hU139 : RU w B R H hb h133 am ln (uI (uI K 51 427 0) 51 429 0) ((uI I 16 0 0), Q, (uZ Z 1 (mfs (Z 1)))) := RU_row (K' := (uI (uI K 51 427 0) 51 429 0)) (s := (mfs (Z 1))) (by decide) (fun c j _ hc => by
            simp only [uI]
            rw [if_neg (by omega), if_neg (by omega)]) (⟨fun _ => ⟨RS_w0 (RS_F (j := 3) (v := 0) (RR_row hU.2.1 (i := 1) (by decide)).1 (by decide) (by decide) (by decide)), (RR_row hU.2.1 (i := 1) (by decide)).2.1, Nat.zero_le _, LKs_F (RR_row hU.2.1 (i := 1) (by decide)).2.2.2 (by decide)⟩, fun h => absurd h (by decide)⟩) (RU_I (hE136) (I' := (uI I 16 0 0)) (fun _ => rfl) (fun _ => rfl) (Nat.le_refl _) hU)
          refine go_s (pc' := 48) rfl rfl rfl rfl ?_
          refine go_s (pc' := 49) rfl rfl rfl rfl ?_
          refine go_s (pc' := 50) (st' := [.int 2, .int ((Z 1).1 3), .ref 62]) rfl rfl rfl rfl ?_
          refine go_icmpP (t' := 56) (pc' := 51) rfl rfl rfl (fun (c140 : ((Z 1).1 3) = 2) => ?_) (fun (c140 : ¬ ((Z 1).1 3) = 2) => ?_)
          · skip
            refine go_s (pc' := 57) (st' := [.int 0, .ref 62]) rfl rfl rfl rfl ?_
            refine go_sput (pc' := 58) hS134 rfl rfl rfl (by decide) tbr_inj (Nat.le_of_ble_eq_true rfl) rfl (hW _ (by decide) (by decide)) rfl (fun h141 hS142 hE143 => ?_)
            refine go_ret rfl rfl ?_
            change sm (tbr am (13 * ln) 77 5088) _ (uI (jn (uI I 16 0 0) (uI (uI K 51 427 0) 51 429 0)) 23 0 0) Y at hS142
            rw [jn_lo (c := 23) (by decide)] at hS142
            have hU144 : RU w B R H hb h141 am ln (uI (uI K 51 427 0) 51 429 0) ((uI (uI I 16 0 0) 23 0 0), Q, (uZ Z 1 (mfs (Z 1)))) := RU_I (hE143) (I' := (uI (uI I 16 0 0) 23 0 0)) (fun _ => rfl) (fun _ => rfl) (Nat.le_refl _) hU139
            have hA145 : RA w B R H hb h141 ((uI (uI I 16 0 0) 23 0 0), Q, (uZ Z 1 (mfs (Z 1)))) := RA_u.mpr ⟨_, _, _, _, hS142, hU144⟩
            have h0f : mfin0 (I, Q, Z) = ((uI I 16 0 0, Q, uZ Z 1 (mfs (Z 1))) : mM) := by
              unfold mfin0
              rw [show rwi (I, Q, Z).1 0 = 1 from rwi_l (v := 1) e1 (by decide)]
            have hrow : row1 (I, Q, Z) 0 = (Z 1).1 := row1_l (v := 1) e1 (by decide)
            have h1f : rfin1 (I, Q, Z) = ((uI I 16 0 0), Q, (uZ Z 1 (mfs (Z 1)))) := by
              unfold rfin1
              rw [hrow, if_neg c137, if_pos c138, h0f]
            have hlast : (if row1 (I, Q, Z) 0 3 = 2 then (0 : Int32) else (rfin1 (I, Q, Z)).1 23 0) = 0 := by
              rw [hrow]
              exact if_pos c140
            refine ⟨rfl, RA_R (Nat.le_add_right R _) ?_⟩
            show RA w B _ H hb _ (uI (rfin1 (I, Q, Z)).1 23 0 (if row1 (I, Q, Z) 0 3 = 2 then 0 else (rfin1 (I, Q, Z)).1 23 0), (rfin1 (I, Q, Z)).2)
            rw [hlast, h1f]
            exact hA145
          · skip
            refine go_s (pc' := 52) rfl rfl rfl rfl ?_
            refine go_sget (pc' := 53) (v := .int (I 23 0)) hS134 rfl rfl rfl (by decide) rfl rfl ?_
            refine go_ifP (t' := 56) (pc' := 54) rfl rfl rfl (fun _ => ?_) (fun (c : ¬ ((I 23 0) = 0)) => absurd (by rw [c138] <;> decide) c)
            refine go_s (pc' := 57) (st' := [.int 0, .ref 62]) rfl rfl rfl rfl ?_
            refine go_sput (pc' := 58) hS134 rfl rfl rfl (by decide) tbr_inj (Nat.le_of_ble_eq_true rfl) rfl (hW _ (by decide) (by decide)) rfl (fun h146 hS147 hE148 => ?_)
            refine go_ret rfl rfl ?_
            change sm (tbr am (13 * ln) 77 5088) _ (uI (jn (uI I 16 0 0) (uI (uI K 51 427 0) 51 429 0)) 23 0 0) Y at hS147
            rw [jn_lo (c := 23) (by decide)] at hS147
            have hU149 : RU w B R H hb h146 am ln (uI (uI K 51 427 0) 51 429 0) ((uI (uI I 16 0 0) 23 0 0), Q, (uZ Z 1 (mfs (Z 1)))) := RU_I (hE148) (I' := (uI (uI I 16 0 0) 23 0 0)) (fun _ => rfl) (fun _ => rfl) (Nat.le_refl _) hU139
            have hA150 : RA w B R H hb h146 ((uI (uI I 16 0 0) 23 0 0), Q, (uZ Z 1 (mfs (Z 1)))) := RA_u.mpr ⟨_, _, _, _, hS147, hU149⟩
            have h0f : mfin0 (I, Q, Z) = ((uI I 16 0 0, Q, uZ Z 1 (mfs (Z 1))) : mM) := by
              unfold mfin0
              rw [show rwi (I, Q, Z).1 0 = 1 from rwi_l (v := 1) e1 (by decide)]
            have hrow : row1 (I, Q, Z) 0 = (Z 1).1 := row1_l (v := 1) e1 (by decide)
            have h1f : rfin1 (I, Q, Z) = ((uI I 16 0 0), Q, (uZ Z 1 (mfs (Z 1)))) := by
              unfold rfin1
              rw [hrow, if_neg c137, if_pos c138, h0f]
            have hlast : (if row1 (I, Q, Z) 0 3 = 2 then (0 : Int32) else (rfin1 (I, Q, Z)).1 23 0) = 0 := by
              rw [hrow, if_neg c140, h1f]
              exact (show (uI I 16 0 0) 23 0 = I 23 0 from rfl).trans c138
            refine ⟨rfl, RA_R (Nat.le_add_right R _) ?_⟩
            show RA w B _ H hb _ (uI (rfin1 (I, Q, Z)).1 23 0 (if row1 (I, Q, Z) 0 3 = 2 then 0 else (rfin1 (I, Q, Z)).1 23 0), (rfin1 (I, Q, Z)).2)
            rw [hlast, h1f]
            exact hA150
        · skip
          refine go_s (pc' := 46) rfl rfl rfl rfl ?_
          change sm (tbr am (13 * ln) 77 5088) _ (uI (uI (uI (jn I K) 51 427 0) 51 429 0) 16 0 0) Y at hS134
          rw [jn_hi (c := 51) (by decide), jn_hi (c := 51) (by decide), jn_lo (c := 16) (by decide)] at hS134
          have hU151 : RU w B R H hb h133 am ln (uI (uI K 51 427 0) 51 429 0) ((uI I 16 0 0), Q, (uZ Z 1 (mfs (Z 1)))) := RU_row (K' := (uI (uI K 51 427 0) 51 429 0)) (s := (mfs (Z 1))) (by decide) (fun c j _ hc => by
            simp only [uI]
            rw [if_neg (by omega), if_neg (by omega)]) (⟨fun _ => ⟨RS_w0 (RS_F (j := 3) (v := 0) (RR_row hU.2.1 (i := 1) (by decide)).1 (by decide) (by decide) (by decide)), (RR_row hU.2.1 (i := 1) (by decide)).2.1, Nat.zero_le _, LKs_F (RR_row hU.2.1 (i := 1) (by decide)).2.2.2 (by decide)⟩, fun h => absurd h (by decide)⟩) (RU_I (hE136) (I' := (uI I 16 0 0)) (fun _ => rfl) (fun _ => rfl) (Nat.le_refl _) hU)
          have hA152 : RA w B R H hb h133 ((uI I 16 0 0), Q, (uZ Z 1 (mfs (Z 1)))) := RA_u.mpr ⟨_, _, _, _, hS134, hU151⟩
          refine go_callV (pc' := 47) rfl rfl rfl (Nat.le_of_ble_eq_true rfl) rfl (sm_o hS134 rfl) rfl rfl rfl (ra_sa hA152 (by omega) (Or.inr (Or.inr e1)) hp1 hp2 (by omega)) (fun r h153 q154 => ?_)
          obtain ⟨rfl, hA155⟩ := q154
          change RA w B (R + 2) H hb h153 (rsa ((uI I 16 0 0), Q, (uZ Z 1 (mfs (Z 1))))) at hA155
          obtain ⟨M156, eM156⟩ : ∃ y : mM, y = (rsa ((uI I 16 0 0), Q, (uZ Z 1 (mfs (Z 1))))) := ⟨_, rfl⟩
          rw [← eM156] at hA155
          obtain ⟨I156, Q156, Z156⟩ := M156
          obtain ⟨K156, Y156, am156, ln156, hS156, hU156⟩ := RA_u.mp hA155
          change sm (tbr am156 (13 * ln156) 77 5088) h153 (jn I156 K156) Y156 at hS156
          obtain ⟨-, hWm156, -, -, hr156, -⟩ := id hU156.1
          have hln156 := RU_ln hU156 (by omega)
          have e23 : I156 23 = (uI I 16 0 0) 23 := by rw [show I156 = (I156, Q156, Z156).1 from rfl, eM156]; exact rsa_I (by decide) (by decide) (by decide)
          refine go_s (pc' := 48) rfl rfl rfl rfl ?_
          refine go_s (pc' := 49) rfl rfl rfl rfl ?_
          refine go_s (pc' := 50) (st' := [.int 2, .int ((Z 1).1 3), .ref 62]) rfl rfl rfl rfl ?_
          refine go_icmpP (t' := 56) (pc' := 51) rfl rfl rfl (fun (c157 : ((Z 1).1 3) = 2) => ?_) (fun (c157 : ¬ ((Z 1).1 3) = 2) => ?_)
          · skip
            refine go_s (pc' := 57) (st' := [.int 0, .ref 62]) rfl rfl rfl rfl ?_
            refine go_sput (pc' := 58) hS156 rfl rfl rfl (by decide) tbr_inj (Nat.le_of_ble_eq_true rfl) rfl (hW _ (by decide) (by decide)) rfl (fun h158 hS159 hE160 => ?_)
            refine go_ret rfl rfl ?_
            change sm (tbr am156 (13 * ln156) 77 5088) _ (uI (jn I156 K156) 23 0 0) Y156 at hS159
            rw [jn_lo (c := 23) (by decide)] at hS159
            have hU161 : RU w B (R + 2) H hb h158 am156 ln156 K156 ((uI I156 23 0 0), Q156, Z156) := RU_I (hE160) (I' := (uI I156 23 0 0)) (fun _ => rfl) (fun _ => rfl) (Nat.le_refl _) hU156
            have hA162 : RA w B (R + 2) H hb h158 ((uI I156 23 0 0), Q156, Z156) := RA_u.mpr ⟨_, _, _, _, hS159, hU161⟩
            have h0f : mfin0 (I, Q, Z) = ((uI I 16 0 0, Q, uZ Z 1 (mfs (Z 1))) : mM) := by
              unfold mfin0
              rw [show rwi (I, Q, Z).1 0 = 1 from rwi_l (v := 1) e1 (by decide)]
            have hrow : row1 (I, Q, Z) 0 = (Z 1).1 := row1_l (v := 1) e1 (by decide)
            have h1f : rfin1 (I, Q, Z) = (I156, Q156, Z156) := by
              unfold rfin1
              rw [hrow, if_neg c137, if_neg c138, h0f]
              exact eM156.symm
            have hlast : (if row1 (I, Q, Z) 0 3 = 2 then (0 : Int32) else (rfin1 (I, Q, Z)).1 23 0) = 0 := by
              rw [hrow]
              exact if_pos c157
            refine ⟨rfl, RA_R (by rw [if_neg (by rw [hrow]; exact c137)]; exact Nat.le_refl _) ?_⟩
            show RA w B _ H hb _ (uI (rfin1 (I, Q, Z)).1 23 0 (if row1 (I, Q, Z) 0 3 = 2 then 0 else (rfin1 (I, Q, Z)).1 23 0), (rfin1 (I, Q, Z)).2)
            rw [hlast, h1f]
            exact hA162
          · skip
            refine go_s (pc' := 52) rfl rfl rfl rfl ?_
            refine go_sget (pc' := 53) (v := .int (I 23 0)) hS156 rfl rfl rfl (by decide) (congrArg Value.int (congrFun e23 0)) rfl ?_
            refine go_ifP (t' := 56) (pc' := 54) rfl rfl rfl (fun (c : (I 23 0) = 0) => absurd c c138) (fun _ => ?_)
            refine go_s (pc' := 55) (st' := [.int 1, .ref 62]) rfl rfl rfl rfl ?_
            refine go_s (pc' := 57) rfl rfl rfl rfl ?_
            refine go_sput (pc' := 58) hS156 rfl rfl rfl (by decide) tbr_inj (Nat.le_of_ble_eq_true rfl) rfl (hW _ (by decide) (by decide)) rfl (fun h163 hS164 hE165 => ?_)
            refine go_ret rfl rfl ?_
            change sm (tbr am156 (13 * ln156) 77 5088) _ (uI (jn I156 K156) 23 0 1) Y156 at hS164
            rw [jn_lo (c := 23) (by decide)] at hS164
            have hU166 : RU w B (R + 2) H hb h163 am156 ln156 K156 ((uI I156 23 0 1), Q156, Z156) := RU_I (hE165) (I' := (uI I156 23 0 1)) (fun _ => rfl) (fun _ => rfl) (Nat.le_refl _) hU156
            have hA167 : RA w B (R + 2) H hb h163 ((uI I156 23 0 1), Q156, Z156) := RA_u.mpr ⟨_, _, _, _, hS164, hU166⟩
            have h0f : mfin0 (I, Q, Z) = ((uI I 16 0 0, Q, uZ Z 1 (mfs (Z 1))) : mM) := by
              unfold mfin0
              rw [show rwi (I, Q, Z).1 0 = 1 from rwi_l (v := 1) e1 (by decide)]
            have hrow : row1 (I, Q, Z) 0 = (Z 1).1 := row1_l (v := 1) e1 (by decide)
            have h1f : rfin1 (I, Q, Z) = (I156, Q156, Z156) := by
              unfold rfin1
              rw [hrow, if_neg c137, if_neg c138, h0f]
              exact eM156.symm
            have hlast : (if row1 (I, Q, Z) 0 3 = 2 then (0 : Int32) else (rfin1 (I, Q, Z)).1 23 0) = 1 := by
              rw [hrow, if_neg c157, h1f]
              exact (show I156 23 0 = I 23 0 from congrFun e23 0).trans (h23.elim (fun z => absurd z c138) id)
            refine ⟨rfl, RA_R (by rw [if_neg (by rw [hrow]; exact c137)]; exact Nat.le_refl _) ?_⟩
            show RA w B _ H hb _ (uI (rfin1 (I, Q, Z)).1 23 0 (if row1 (I, Q, Z) 0 3 = 2 then 0 else (rfin1 (I, Q, Z)).1 23 0), (rfin1 (I, Q, Z)).2)
            rw [hlast, h1f]
            exact hA167
      · skip
        have c137 : ((Z 1).1 3) = 1 := Decidable.not_not.mp c137'
        refine go_s (pc' := 34) rfl rfl rfl rfl ?_
        refine go_s (pc' := 35) rfl rfl rfl rfl ?_
        refine go_sget (pc' := 36) (v := .ref 77) hS134 rfl rfl rfl (by decide) rfl rfl ?_
        refine go_s (pc' := 37) rfl rfl rfl rfl ?_
        refine go_s (pc' := 38) (st' := [.int 4, .int 424, .ref 77, .ref 62]) rfl rfl rfl rfl ?_
        refine go_s (pc' := 39) (st' := [.int 428, .ref 77, .ref 62]) rfl rfl rfl rfl ?_
        refine go_sald (pc' := 40) (q := 428) (v := .int 0) hS134 rfl (tr_as hr (by omega)) rfl rfl (by decide) (congrArg Value.int (((RR_row hU.2.1 (i := 1) (by decide)).1.1 4 (by decide) (by decide) (by decide)).trans e4)) rfl ?_
        change sm (tbr am (13 * ln) 77 5088) _ (uI (uI (uI (jn I K) 51 427 0) 51 429 0) 16 0 0) Y at hS134
        rw [jn_hi (c := 51) (by decide), jn_hi (c := 51) (by decide), jn_lo (c := 16) (by decide)] at hS134
        have hU168 : RU w B R H hb h133 am ln (uI (uI K 51 427 0) 51 429 0) ((uI I 16 0 0), Q, (uZ Z 1 (mfs (Z 1)))) := RU_row (K' := (uI (uI K 51 427 0) 51 429 0)) (s := (mfs (Z 1))) (by decide) (fun c j _ hc => by
          simp only [uI]
          rw [if_neg (by omega), if_neg (by omega)]) (⟨fun _ => ⟨RS_w0 (RS_F (j := 3) (v := 0) (RR_row hU.2.1 (i := 1) (by decide)).1 (by decide) (by decide) (by decide)), (RR_row hU.2.1 (i := 1) (by decide)).2.1, Nat.zero_le _, LKs_F (RR_row hU.2.1 (i := 1) (by decide)).2.2.2 (by decide)⟩, fun h => absurd h (by decide)⟩) (RU_I (hE136) (I' := (uI I 16 0 0)) (fun _ => rfl) (fun _ => rfl) (Nat.le_refl _) hU)
        have hA169 : RA w B R H hb h133 ((uI I 16 0 0), Q, (uZ Z 1 (mfs (Z 1)))) := RA_u.mpr ⟨_, _, _, _, hS134, hU168⟩
        refine go_callV (pc' := 41) rfl rfl rfl (Nat.le_of_ble_eq_true rfl) rfl (sm_o hS134 rfl) rfl rfl rfl (ra_rp_0 hA169 (by omega) (Or.inr (Or.inr e1)) (show ¬ (uI I 16 0 0) 11 0 = -1 from hn0) hp1 (by omega)) (fun r h170 q171 => ?_)
        obtain ⟨rfl, hA172⟩ := q171
        change RA w B (R + 1) H hb h170 (rrp 0 ((uI I 16 0 0), Q, (uZ Z 1 (mfs (Z 1))))) at hA172
        obtain ⟨M173, eM173⟩ : ∃ y : mM, y = (rrp 0 ((uI I 16 0 0), Q, (uZ Z 1 (mfs (Z 1))))) := ⟨_, rfl⟩
        rw [← eM173] at hA172
        obtain ⟨I173, Q173, Z173⟩ := M173
        obtain ⟨K173, Y173, am173, ln173, hS173, hU173⟩ := RA_u.mp hA172
        change sm (tbr am173 (13 * ln173) 77 5088) h170 (jn I173 K173) Y173 at hS173
        obtain ⟨-, hWm173, -, -, hr173, -⟩ := id hU173.1
        have hln173 := RU_ln hU173 (by omega)
        have e23 : I173 23 = (uI I 16 0 0) 23 := by rw [show I173 = (I173, Q173, Z173).1 from rfl, eM173]; exact rrp_I (by decide) (by decide) (by decide)
        refine go_s (pc' := 47) rfl rfl rfl rfl ?_
        refine go_s (pc' := 48) rfl rfl rfl rfl ?_
        refine go_s (pc' := 49) rfl rfl rfl rfl ?_
        refine go_s (pc' := 50) (st' := [.int 2, .int ((Z 1).1 3), .ref 62]) rfl rfl rfl rfl ?_
        refine go_icmpP (t' := 56) (pc' := 51) rfl rfl rfl (fun (c : ((Z 1).1 3) = 2) => absurd c (by rw [c137] <;> decide)) (fun _ => ?_)
        refine go_s (pc' := 52) rfl rfl rfl rfl ?_
        refine go_sget (pc' := 53) (v := .int (I 23 0)) hS173 rfl rfl rfl (by decide) (congrArg Value.int (congrFun e23 0)) rfl ?_
        refine go_ifP (t' := 56) (pc' := 54) rfl rfl rfl (fun (c174 : (I 23 0) = 0) => ?_) (fun (c174 : ¬ (I 23 0) = 0) => ?_)
        · skip
          refine go_s (pc' := 57) (st' := [.int 0, .ref 62]) rfl rfl rfl rfl ?_
          refine go_sput (pc' := 58) hS173 rfl rfl rfl (by decide) tbr_inj (Nat.le_of_ble_eq_true rfl) rfl (hW _ (by decide) (by decide)) rfl (fun h175 hS176 hE177 => ?_)
          refine go_ret rfl rfl ?_
          change sm (tbr am173 (13 * ln173) 77 5088) _ (uI (jn I173 K173) 23 0 0) Y173 at hS176
          rw [jn_lo (c := 23) (by decide)] at hS176
          have hU178 : RU w B (R + 1) H hb h175 am173 ln173 K173 ((uI I173 23 0 0), Q173, Z173) := RU_I (hE177) (I' := (uI I173 23 0 0)) (fun _ => rfl) (fun _ => rfl) (Nat.le_refl _) hU173
          have hA179 : RA w B (R + 1) H hb h175 ((uI I173 23 0 0), Q173, Z173) := RA_u.mpr ⟨_, _, _, _, hS176, hU178⟩
          have h0f : mfin0 (I, Q, Z) = ((uI I 16 0 0, Q, uZ Z 1 (mfs (Z 1))) : mM) := by
            unfold mfin0
            rw [show rwi (I, Q, Z).1 0 = 1 from rwi_l (v := 1) e1 (by decide)]
          have hrow : row1 (I, Q, Z) 0 = (Z 1).1 := row1_l (v := 1) e1 (by decide)
          have h1f : rfin1 (I, Q, Z) = (I173, Q173, Z173) := by
            unfold rfin1
            rw [hrow, if_pos c137, e4, h0f]
            exact eM173.symm
          have hlast : (if row1 (I, Q, Z) 0 3 = 2 then (0 : Int32) else (rfin1 (I, Q, Z)).1 23 0) = 0 := by
            rw [hrow, if_neg (by rw [c137]; decide), h1f]
            exact (show I173 23 0 = I 23 0 from congrFun e23 0).trans c174
          refine ⟨rfl, RA_R (by rw [show row1 (I, Q, Z) 0 3 = 1 from (congrFun hrow 3).trans c137]; exact Nat.le_refl _) ?_⟩
          show RA w B _ H hb _ (uI (rfin1 (I, Q, Z)).1 23 0 (if row1 (I, Q, Z) 0 3 = 2 then 0 else (rfin1 (I, Q, Z)).1 23 0), (rfin1 (I, Q, Z)).2)
          rw [hlast, h1f]
          exact hA179
        · skip
          refine go_s (pc' := 55) (st' := [.int 1, .ref 62]) rfl rfl rfl rfl ?_
          refine go_s (pc' := 57) rfl rfl rfl rfl ?_
          refine go_sput (pc' := 58) hS173 rfl rfl rfl (by decide) tbr_inj (Nat.le_of_ble_eq_true rfl) rfl (hW _ (by decide) (by decide)) rfl (fun h180 hS181 hE182 => ?_)
          refine go_ret rfl rfl ?_
          change sm (tbr am173 (13 * ln173) 77 5088) _ (uI (jn I173 K173) 23 0 1) Y173 at hS181
          rw [jn_lo (c := 23) (by decide)] at hS181
          have hU183 : RU w B (R + 1) H hb h180 am173 ln173 K173 ((uI I173 23 0 1), Q173, Z173) := RU_I (hE182) (I' := (uI I173 23 0 1)) (fun _ => rfl) (fun _ => rfl) (Nat.le_refl _) hU173
          have hA184 : RA w B (R + 1) H hb h180 ((uI I173 23 0 1), Q173, Z173) := RA_u.mpr ⟨_, _, _, _, hS181, hU183⟩
          have h0f : mfin0 (I, Q, Z) = ((uI I 16 0 0, Q, uZ Z 1 (mfs (Z 1))) : mM) := by
            unfold mfin0
            rw [show rwi (I, Q, Z).1 0 = 1 from rwi_l (v := 1) e1 (by decide)]
          have hrow : row1 (I, Q, Z) 0 = (Z 1).1 := row1_l (v := 1) e1 (by decide)
          have h1f : rfin1 (I, Q, Z) = (I173, Q173, Z173) := by
            unfold rfin1
            rw [hrow, if_pos c137, e4, h0f]
            exact eM173.symm
          have hlast : (if row1 (I, Q, Z) 0 3 = 2 then (0 : Int32) else (rfin1 (I, Q, Z)).1 23 0) = 1 := by
            rw [hrow, if_neg (by rw [c137]; decide), h1f]
            exact (show I173 23 0 = I 23 0 from congrFun e23 0).trans (h23.elim (fun z => absurd z c174) id)
          refine ⟨rfl, RA_R (by rw [show row1 (I, Q, Z) 0 3 = 1 from (congrFun hrow 3).trans c137]; exact Nat.le_refl _) ?_⟩
          show RA w B _ H hb _ (uI (rfin1 (I, Q, Z)).1 23 0 (if row1 (I, Q, Z) 0 3 = 2 then 0 else (rfin1 (I, Q, Z)).1 23 0), (rfin1 (I, Q, Z)).2)
          rw [hlast, h1f]
          exact hA184
    · skip
      refine go_s (pc' := 1) rfl rfl rfl rfl ?_
      refine go_s (pc' := 2) (st' := [.int 0, .ref 62]) rfl rfl rfl rfl ?_
      refine go_callV (pc' := 3) rfl rfl rfl (Nat.le_of_ble_eq_true rfl) rfl (sm_o hS rfl) rfl rfl rfl (rt_at_0 hr hS (Or.inr (Or.inr e1)) (fun z => absurd (e1.symm.trans z) (by decide)) (by omega)) (fun r h185 q186 => ?_)
      obtain ⟨rfl, rfl⟩ := q186
      rw [show rwi (jn I K) 0 = 1 by unfold rwi pn; rw [show (jn I K) 11 0 = 1 from e1]; rfl]
      show am_Go _ _ _ _ 3 _ [.int 424] _ _
      refine go_s (pc' := 4) (lo' := [some (.ref 62), some (.int 424), none]) rfl rfl rfl rfl ?_
      refine go_s (pc' := 5) rfl rfl rfl rfl ?_
      refine go_sget (pc' := 6) (v := .ref 77) hS rfl rfl rfl (by decide) rfl rfl ?_
      refine go_s (pc' := 7) rfl rfl rfl rfl ?_
      refine go_s (pc' := 8) (st' := [.int 3, .int 424, .ref 77]) rfl rfl rfl rfl ?_
      refine go_s (pc' := 9) (st' := [.int 427, .ref 77]) rfl rfl rfl rfl ?_
      refine go_sald (pc' := 10) (q := 427) (v := .int ((Z 1).1 3)) hS rfl (tr_as hr (by omega)) rfl rfl (by decide) (congrArg Value.int ((RR_row hU.2.1 (i := 1) (by decide)).1.1 3 (by decide) (by decide) (by decide))) rfl ?_
      refine go_s (pc' := 11) (lo' := [some (.ref 62), some (.int 424), some (.int ((Z 1).1 3))]) rfl rfl rfl rfl ?_
      refine go_s (pc' := 12) rfl rfl rfl rfl ?_
      refine go_sget (pc' := 13) (v := .ref 77) hS rfl rfl rfl (by decide) rfl rfl ?_
      refine go_s (pc' := 14) rfl rfl rfl rfl ?_
      refine go_s (pc' := 15) (st' := [.int 3, .int 424, .ref 77]) rfl rfl rfl rfl ?_
      refine go_s (pc' := 16) (st' := [.int 427, .ref 77]) rfl rfl rfl rfl ?_
      refine go_s (pc' := 17) (st' := [.int 0, .int 427, .ref 77]) rfl rfl rfl rfl ?_
      refine go_siast (pc' := 18) (q := 427) hS rfl (tr_as hr (by omega)) tbr_inj (Nat.le_of_ble_eq_true rfl) rfl (by decide) (by decide) (hW _ (by decide) (by decide)) rfl (fun h187 hS188 hE189 => ?_)
      refine go_s (pc' := 19) rfl rfl rfl rfl ?_
      refine go_sget (pc' := 20) (v := .ref 77) hS188 rfl rfl rfl (by decide) rfl rfl ?_
      refine go_s (pc' := 21) rfl rfl rfl rfl ?_
      refine go_s (pc' := 22) (st' := [.int 5, .int 424, .ref 77]) rfl rfl rfl rfl ?_
      refine go_s (pc' := 23) (st' := [.int 429, .ref 77]) rfl rfl rfl rfl ?_
      refine go_s (pc' := 24) (st' := [.int 0, .int 429, .ref 77]) rfl rfl rfl rfl ?_
      refine go_siast (pc' := 25) (q := 429) hS188 rfl (tr_as hr (by omega)) tbr_inj (Nat.le_of_ble_eq_true rfl) rfl (by decide) (by decide) (hW _ (by decide) (by decide)) rfl (fun h190 hS191 hE192 => ?_)
      have hE193 := sm_e_trans hE189 hE192
      refine go_s (pc' := 26) rfl rfl rfl rfl ?_
      refine go_sget (pc' := 27) (v := .ref 83) hS191 rfl rfl rfl (by decide) rfl rfl ?_
      refine go_s (pc' := 28) (st' := [.int 0, .ref 83]) rfl rfl rfl rfl ?_
      refine go_s (pc' := 29) (st' := [.int 0, .int 0, .ref 83]) rfl rfl rfl rfl ?_
      refine go_siast (pc' := 30) (q := 0) hS191 rfl (tr_s hr (a := 83) rfl (by decide)) tbr_inj (Nat.le_of_ble_eq_true rfl) rfl (by decide) (by decide) (hW _ (by decide) (by decide)) rfl (fun h194 hS195 hE196 => ?_)
      have hE197 := sm_e_trans hE193 hE196
      refine go_s (pc' := 31) rfl rfl rfl rfl ?_
      refine go_s (pc' := 32) (st' := [.int 1, .int ((Z 1).1 3)]) rfl rfl rfl rfl ?_
      refine go_icmpP (t' := 42) (pc' := 33) rfl rfl rfl (fun (c198 : ¬ ((Z 1).1 3) = 1) => ?_) (fun (c198' : ¬ ¬ ((Z 1).1 3) = 1) => ?_)
      · skip
        refine go_s (pc' := 43) rfl rfl rfl rfl ?_
        refine go_sget (pc' := 44) (v := .int (I 23 0)) hS195 rfl rfl rfl (by decide) rfl rfl ?_
        refine go_ifP (t' := 47) (pc' := 45) rfl rfl rfl (fun (c199 : (I 23 0) = 0) => ?_) (fun (c199 : ¬ (I 23 0) = 0) => ?_)
        · skip
          change sm (tbr am (13 * ln) 77 5088) _ (uI (uI (uI (jn I K) 51 427 0) 51 429 0) 16 0 0) Y at hS195
          rw [jn_hi (c := 51) (by decide), jn_hi (c := 51) (by decide), jn_lo (c := 16) (by decide)] at hS195
          have hU200 : RU w B R H hb h194 am ln (uI (uI K 51 427 0) 51 429 0) ((uI I 16 0 0), Q, (uZ Z 1 (mfs (Z 1)))) := RU_row (K' := (uI (uI K 51 427 0) 51 429 0)) (s := (mfs (Z 1))) (by decide) (fun c j _ hc => by
            simp only [uI]
            rw [if_neg (by omega), if_neg (by omega)]) (⟨fun _ => ⟨RS_w0 (RS_F (j := 3) (v := 0) (RR_row hU.2.1 (i := 1) (by decide)).1 (by decide) (by decide) (by decide)), (RR_row hU.2.1 (i := 1) (by decide)).2.1, Nat.zero_le _, LKs_F (RR_row hU.2.1 (i := 1) (by decide)).2.2.2 (by decide)⟩, fun h => absurd h (by decide)⟩) (RU_I (hE197) (I' := (uI I 16 0 0)) (fun _ => rfl) (fun _ => rfl) (Nat.le_refl _) hU)
          refine go_s (pc' := 48) rfl rfl rfl rfl ?_
          refine go_s (pc' := 49) rfl rfl rfl rfl ?_
          refine go_s (pc' := 50) (st' := [.int 2, .int ((Z 1).1 3), .ref 62]) rfl rfl rfl rfl ?_
          refine go_icmpP (t' := 56) (pc' := 51) rfl rfl rfl (fun (c201 : ((Z 1).1 3) = 2) => ?_) (fun (c201 : ¬ ((Z 1).1 3) = 2) => ?_)
          · skip
            refine go_s (pc' := 57) (st' := [.int 0, .ref 62]) rfl rfl rfl rfl ?_
            refine go_sput (pc' := 58) hS195 rfl rfl rfl (by decide) tbr_inj (Nat.le_of_ble_eq_true rfl) rfl (hW _ (by decide) (by decide)) rfl (fun h202 hS203 hE204 => ?_)
            refine go_ret rfl rfl ?_
            change sm (tbr am (13 * ln) 77 5088) _ (uI (jn (uI I 16 0 0) (uI (uI K 51 427 0) 51 429 0)) 23 0 0) Y at hS203
            rw [jn_lo (c := 23) (by decide)] at hS203
            have hU205 : RU w B R H hb h202 am ln (uI (uI K 51 427 0) 51 429 0) ((uI (uI I 16 0 0) 23 0 0), Q, (uZ Z 1 (mfs (Z 1)))) := RU_I (hE204) (I' := (uI (uI I 16 0 0) 23 0 0)) (fun _ => rfl) (fun _ => rfl) (Nat.le_refl _) hU200
            have hA206 : RA w B R H hb h202 ((uI (uI I 16 0 0) 23 0 0), Q, (uZ Z 1 (mfs (Z 1)))) := RA_u.mpr ⟨_, _, _, _, hS203, hU205⟩
            have h0f : mfin0 (I, Q, Z) = ((uI I 16 0 0, Q, uZ Z 1 (mfs (Z 1))) : mM) := by
              unfold mfin0
              rw [show rwi (I, Q, Z).1 0 = 1 from rwi_l (v := 1) e1 (by decide)]
            have hrow : row1 (I, Q, Z) 0 = (Z 1).1 := row1_l (v := 1) e1 (by decide)
            have h1f : rfin1 (I, Q, Z) = ((uI I 16 0 0), Q, (uZ Z 1 (mfs (Z 1)))) := by
              unfold rfin1
              rw [hrow, if_neg c198, if_pos c199, h0f]
            have hlast : (if row1 (I, Q, Z) 0 3 = 2 then (0 : Int32) else (rfin1 (I, Q, Z)).1 23 0) = 0 := by
              rw [hrow]
              exact if_pos c201
            refine ⟨rfl, RA_R (Nat.le_add_right R _) ?_⟩
            show RA w B _ H hb _ (uI (rfin1 (I, Q, Z)).1 23 0 (if row1 (I, Q, Z) 0 3 = 2 then 0 else (rfin1 (I, Q, Z)).1 23 0), (rfin1 (I, Q, Z)).2)
            rw [hlast, h1f]
            exact hA206
          · skip
            refine go_s (pc' := 52) rfl rfl rfl rfl ?_
            refine go_sget (pc' := 53) (v := .int (I 23 0)) hS195 rfl rfl rfl (by decide) rfl rfl ?_
            refine go_ifP (t' := 56) (pc' := 54) rfl rfl rfl (fun _ => ?_) (fun (c : ¬ ((I 23 0) = 0)) => absurd (by rw [c199] <;> decide) c)
            refine go_s (pc' := 57) (st' := [.int 0, .ref 62]) rfl rfl rfl rfl ?_
            refine go_sput (pc' := 58) hS195 rfl rfl rfl (by decide) tbr_inj (Nat.le_of_ble_eq_true rfl) rfl (hW _ (by decide) (by decide)) rfl (fun h207 hS208 hE209 => ?_)
            refine go_ret rfl rfl ?_
            change sm (tbr am (13 * ln) 77 5088) _ (uI (jn (uI I 16 0 0) (uI (uI K 51 427 0) 51 429 0)) 23 0 0) Y at hS208
            rw [jn_lo (c := 23) (by decide)] at hS208
            have hU210 : RU w B R H hb h207 am ln (uI (uI K 51 427 0) 51 429 0) ((uI (uI I 16 0 0) 23 0 0), Q, (uZ Z 1 (mfs (Z 1)))) := RU_I (hE209) (I' := (uI (uI I 16 0 0) 23 0 0)) (fun _ => rfl) (fun _ => rfl) (Nat.le_refl _) hU200
            have hA211 : RA w B R H hb h207 ((uI (uI I 16 0 0) 23 0 0), Q, (uZ Z 1 (mfs (Z 1)))) := RA_u.mpr ⟨_, _, _, _, hS208, hU210⟩
            have h0f : mfin0 (I, Q, Z) = ((uI I 16 0 0, Q, uZ Z 1 (mfs (Z 1))) : mM) := by
              unfold mfin0
              rw [show rwi (I, Q, Z).1 0 = 1 from rwi_l (v := 1) e1 (by decide)]
            have hrow : row1 (I, Q, Z) 0 = (Z 1).1 := row1_l (v := 1) e1 (by decide)
            have h1f : rfin1 (I, Q, Z) = ((uI I 16 0 0), Q, (uZ Z 1 (mfs (Z 1)))) := by
              unfold rfin1
              rw [hrow, if_neg c198, if_pos c199, h0f]
            have hlast : (if row1 (I, Q, Z) 0 3 = 2 then (0 : Int32) else (rfin1 (I, Q, Z)).1 23 0) = 0 := by
              rw [hrow, if_neg c201, h1f]
              exact (show (uI I 16 0 0) 23 0 = I 23 0 from rfl).trans c199
            refine ⟨rfl, RA_R (Nat.le_add_right R _) ?_⟩
            show RA w B _ H hb _ (uI (rfin1 (I, Q, Z)).1 23 0 (if row1 (I, Q, Z) 0 3 = 2 then 0 else (rfin1 (I, Q, Z)).1 23 0), (rfin1 (I, Q, Z)).2)
            rw [hlast, h1f]
            exact hA211
        · skip
          refine go_s (pc' := 46) rfl rfl rfl rfl ?_
          change sm (tbr am (13 * ln) 77 5088) _ (uI (uI (uI (jn I K) 51 427 0) 51 429 0) 16 0 0) Y at hS195
          rw [jn_hi (c := 51) (by decide), jn_hi (c := 51) (by decide), jn_lo (c := 16) (by decide)] at hS195
          have hU212 : RU w B R H hb h194 am ln (uI (uI K 51 427 0) 51 429 0) ((uI I 16 0 0), Q, (uZ Z 1 (mfs (Z 1)))) := RU_row (K' := (uI (uI K 51 427 0) 51 429 0)) (s := (mfs (Z 1))) (by decide) (fun c j _ hc => by
            simp only [uI]
            rw [if_neg (by omega), if_neg (by omega)]) (⟨fun _ => ⟨RS_w0 (RS_F (j := 3) (v := 0) (RR_row hU.2.1 (i := 1) (by decide)).1 (by decide) (by decide) (by decide)), (RR_row hU.2.1 (i := 1) (by decide)).2.1, Nat.zero_le _, LKs_F (RR_row hU.2.1 (i := 1) (by decide)).2.2.2 (by decide)⟩, fun h => absurd h (by decide)⟩) (RU_I (hE197) (I' := (uI I 16 0 0)) (fun _ => rfl) (fun _ => rfl) (Nat.le_refl _) hU)
          have hA213 : RA w B R H hb h194 ((uI I 16 0 0), Q, (uZ Z 1 (mfs (Z 1)))) := RA_u.mpr ⟨_, _, _, _, hS195, hU212⟩
          refine go_callV (pc' := 47) rfl rfl rfl (Nat.le_of_ble_eq_true rfl) rfl (sm_o hS195 rfl) rfl rfl rfl (ra_sa hA213 (by omega) (Or.inr (Or.inr e1)) hp1 hp2 (by omega)) (fun r h214 q215 => ?_)
          obtain ⟨rfl, hA216⟩ := q215
          change RA w B (R + 2) H hb h214 (rsa ((uI I 16 0 0), Q, (uZ Z 1 (mfs (Z 1))))) at hA216
          obtain ⟨M217, eM217⟩ : ∃ y : mM, y = (rsa ((uI I 16 0 0), Q, (uZ Z 1 (mfs (Z 1))))) := ⟨_, rfl⟩
          rw [← eM217] at hA216
          obtain ⟨I217, Q217, Z217⟩ := M217
          obtain ⟨K217, Y217, am217, ln217, hS217, hU217⟩ := RA_u.mp hA216
          change sm (tbr am217 (13 * ln217) 77 5088) h214 (jn I217 K217) Y217 at hS217
          obtain ⟨-, hWm217, -, -, hr217, -⟩ := id hU217.1
          have hln217 := RU_ln hU217 (by omega)
          have e23 : I217 23 = (uI I 16 0 0) 23 := by rw [show I217 = (I217, Q217, Z217).1 from rfl, eM217]; exact rsa_I (by decide) (by decide) (by decide)
          refine go_s (pc' := 48) rfl rfl rfl rfl ?_
          refine go_s (pc' := 49) rfl rfl rfl rfl ?_
          refine go_s (pc' := 50) (st' := [.int 2, .int ((Z 1).1 3), .ref 62]) rfl rfl rfl rfl ?_
          refine go_icmpP (t' := 56) (pc' := 51) rfl rfl rfl (fun (c218 : ((Z 1).1 3) = 2) => ?_) (fun (c218 : ¬ ((Z 1).1 3) = 2) => ?_)
          · skip
            refine go_s (pc' := 57) (st' := [.int 0, .ref 62]) rfl rfl rfl rfl ?_
            refine go_sput (pc' := 58) hS217 rfl rfl rfl (by decide) tbr_inj (Nat.le_of_ble_eq_true rfl) rfl (hW _ (by decide) (by decide)) rfl (fun h219 hS220 hE221 => ?_)
            refine go_ret rfl rfl ?_
            change sm (tbr am217 (13 * ln217) 77 5088) _ (uI (jn I217 K217) 23 0 0) Y217 at hS220
            rw [jn_lo (c := 23) (by decide)] at hS220
            have hU222 : RU w B (R + 2) H hb h219 am217 ln217 K217 ((uI I217 23 0 0), Q217, Z217) := RU_I (hE221) (I' := (uI I217 23 0 0)) (fun _ => rfl) (fun _ => rfl) (Nat.le_refl _) hU217
            have hA223 : RA w B (R + 2) H hb h219 ((uI I217 23 0 0), Q217, Z217) := RA_u.mpr ⟨_, _, _, _, hS220, hU222⟩
            have h0f : mfin0 (I, Q, Z) = ((uI I 16 0 0, Q, uZ Z 1 (mfs (Z 1))) : mM) := by
              unfold mfin0
              rw [show rwi (I, Q, Z).1 0 = 1 from rwi_l (v := 1) e1 (by decide)]
            have hrow : row1 (I, Q, Z) 0 = (Z 1).1 := row1_l (v := 1) e1 (by decide)
            have h1f : rfin1 (I, Q, Z) = (I217, Q217, Z217) := by
              unfold rfin1
              rw [hrow, if_neg c198, if_neg c199, h0f]
              exact eM217.symm
            have hlast : (if row1 (I, Q, Z) 0 3 = 2 then (0 : Int32) else (rfin1 (I, Q, Z)).1 23 0) = 0 := by
              rw [hrow]
              exact if_pos c218
            refine ⟨rfl, RA_R (by rw [if_neg (by rw [hrow]; exact c198)]; exact Nat.le_refl _) ?_⟩
            show RA w B _ H hb _ (uI (rfin1 (I, Q, Z)).1 23 0 (if row1 (I, Q, Z) 0 3 = 2 then 0 else (rfin1 (I, Q, Z)).1 23 0), (rfin1 (I, Q, Z)).2)
            rw [hlast, h1f]
            exact hA223
          · skip
            refine go_s (pc' := 52) rfl rfl rfl rfl ?_
            refine go_sget (pc' := 53) (v := .int (I 23 0)) hS217 rfl rfl rfl (by decide) (congrArg Value.int (congrFun e23 0)) rfl ?_
            refine go_ifP (t' := 56) (pc' := 54) rfl rfl rfl (fun (c : (I 23 0) = 0) => absurd c c199) (fun _ => ?_)
            refine go_s (pc' := 55) (st' := [.int 1, .ref 62]) rfl rfl rfl rfl ?_
            refine go_s (pc' := 57) rfl rfl rfl rfl ?_
            refine go_sput (pc' := 58) hS217 rfl rfl rfl (by decide) tbr_inj (Nat.le_of_ble_eq_true rfl) rfl (hW _ (by decide) (by decide)) rfl (fun h224 hS225 hE226 => ?_)
            refine go_ret rfl rfl ?_
            change sm (tbr am217 (13 * ln217) 77 5088) _ (uI (jn I217 K217) 23 0 1) Y217 at hS225
            rw [jn_lo (c := 23) (by decide)] at hS225
            have hU227 : RU w B (R + 2) H hb h224 am217 ln217 K217 ((uI I217 23 0 1), Q217, Z217) := RU_I (hE226) (I' := (uI I217 23 0 1)) (fun _ => rfl) (fun _ => rfl) (Nat.le_refl _) hU217
            have hA228 : RA w B (R + 2) H hb h224 ((uI I217 23 0 1), Q217, Z217) := RA_u.mpr ⟨_, _, _, _, hS225, hU227⟩
            have h0f : mfin0 (I, Q, Z) = ((uI I 16 0 0, Q, uZ Z 1 (mfs (Z 1))) : mM) := by
              unfold mfin0
              rw [show rwi (I, Q, Z).1 0 = 1 from rwi_l (v := 1) e1 (by decide)]
            have hrow : row1 (I, Q, Z) 0 = (Z 1).1 := row1_l (v := 1) e1 (by decide)
            have h1f : rfin1 (I, Q, Z) = (I217, Q217, Z217) := by
              unfold rfin1
              rw [hrow, if_neg c198, if_neg c199, h0f]
              exact eM217.symm
            have hlast : (if row1 (I, Q, Z) 0 3 = 2 then (0 : Int32) else (rfin1 (I, Q, Z)).1 23 0) = 1 := by
              rw [hrow, if_neg c218, h1f]
              exact (show I217 23 0 = I 23 0 from congrFun e23 0).trans (h23.elim (fun z => absurd z c199) id)
            refine ⟨rfl, RA_R (by rw [if_neg (by rw [hrow]; exact c198)]; exact Nat.le_refl _) ?_⟩
            show RA w B _ H hb _ (uI (rfin1 (I, Q, Z)).1 23 0 (if row1 (I, Q, Z) 0 3 = 2 then 0 else (rfin1 (I, Q, Z)).1 23 0), (rfin1 (I, Q, Z)).2)
            rw [hlast, h1f]
            exact hA228
      · skip
        have c198 : ((Z 1).1 3) = 1 := Decidable.not_not.mp c198'
        refine go_s (pc' := 34) rfl rfl rfl rfl ?_
        refine go_s (pc' := 35) rfl rfl rfl rfl ?_
        refine go_sget (pc' := 36) (v := .ref 77) hS195 rfl rfl rfl (by decide) rfl rfl ?_
        refine go_s (pc' := 37) rfl rfl rfl rfl ?_
        refine go_s (pc' := 38) (st' := [.int 4, .int 424, .ref 77, .ref 62]) rfl rfl rfl rfl ?_
        refine go_s (pc' := 39) (st' := [.int 428, .ref 77, .ref 62]) rfl rfl rfl rfl ?_
        refine go_sald (pc' := 40) (q := 428) (v := .int 1) hS195 rfl (tr_as hr (by omega)) rfl rfl (by decide) (congrArg Value.int (((RR_row hU.2.1 (i := 1) (by decide)).1.1 4 (by decide) (by decide) (by decide)).trans e4)) rfl ?_
        change sm (tbr am (13 * ln) 77 5088) _ (uI (uI (uI (jn I K) 51 427 0) 51 429 0) 16 0 0) Y at hS195
        rw [jn_hi (c := 51) (by decide), jn_hi (c := 51) (by decide), jn_lo (c := 16) (by decide)] at hS195
        have hU229 : RU w B R H hb h194 am ln (uI (uI K 51 427 0) 51 429 0) ((uI I 16 0 0), Q, (uZ Z 1 (mfs (Z 1)))) := RU_row (K' := (uI (uI K 51 427 0) 51 429 0)) (s := (mfs (Z 1))) (by decide) (fun c j _ hc => by
          simp only [uI]
          rw [if_neg (by omega), if_neg (by omega)]) (⟨fun _ => ⟨RS_w0 (RS_F (j := 3) (v := 0) (RR_row hU.2.1 (i := 1) (by decide)).1 (by decide) (by decide) (by decide)), (RR_row hU.2.1 (i := 1) (by decide)).2.1, Nat.zero_le _, LKs_F (RR_row hU.2.1 (i := 1) (by decide)).2.2.2 (by decide)⟩, fun h => absurd h (by decide)⟩) (RU_I (hE197) (I' := (uI I 16 0 0)) (fun _ => rfl) (fun _ => rfl) (Nat.le_refl _) hU)
        have hA230 : RA w B R H hb h194 ((uI I 16 0 0), Q, (uZ Z 1 (mfs (Z 1)))) := RA_u.mpr ⟨_, _, _, _, hS195, hU229⟩
        refine go_callV (pc' := 41) rfl rfl rfl (Nat.le_of_ble_eq_true rfl) rfl (sm_o hS195 rfl) rfl rfl rfl (ra_rp_1 hA230 (by omega) (Or.inr (Or.inr e1)) (show ¬ (uI I 16 0 0) 11 0 = -1 from hn0) hp2 (by omega)) (fun r h231 q232 => ?_)
        obtain ⟨rfl, hA233⟩ := q232
        change RA w B (R + 1) H hb h231 (rrp 1 ((uI I 16 0 0), Q, (uZ Z 1 (mfs (Z 1))))) at hA233
        obtain ⟨M234, eM234⟩ : ∃ y : mM, y = (rrp 1 ((uI I 16 0 0), Q, (uZ Z 1 (mfs (Z 1))))) := ⟨_, rfl⟩
        rw [← eM234] at hA233
        obtain ⟨I234, Q234, Z234⟩ := M234
        obtain ⟨K234, Y234, am234, ln234, hS234, hU234⟩ := RA_u.mp hA233
        change sm (tbr am234 (13 * ln234) 77 5088) h231 (jn I234 K234) Y234 at hS234
        obtain ⟨-, hWm234, -, -, hr234, -⟩ := id hU234.1
        have hln234 := RU_ln hU234 (by omega)
        have e23 : I234 23 = (uI I 16 0 0) 23 := by rw [show I234 = (I234, Q234, Z234).1 from rfl, eM234]; exact rrp_I (by decide) (by decide) (by decide)
        refine go_s (pc' := 47) rfl rfl rfl rfl ?_
        refine go_s (pc' := 48) rfl rfl rfl rfl ?_
        refine go_s (pc' := 49) rfl rfl rfl rfl ?_
        refine go_s (pc' := 50) (st' := [.int 2, .int ((Z 1).1 3), .ref 62]) rfl rfl rfl rfl ?_
        refine go_icmpP (t' := 56) (pc' := 51) rfl rfl rfl (fun (c : ((Z 1).1 3) = 2) => absurd c (by rw [c198] <;> decide)) (fun _ => ?_)
        refine go_s (pc' := 52) rfl rfl rfl rfl ?_
        refine go_sget (pc' := 53) (v := .int (I 23 0)) hS234 rfl rfl rfl (by decide) (congrArg Value.int (congrFun e23 0)) rfl ?_
        refine go_ifP (t' := 56) (pc' := 54) rfl rfl rfl (fun (c235 : (I 23 0) = 0) => ?_) (fun (c235 : ¬ (I 23 0) = 0) => ?_)
        · skip
          refine go_s (pc' := 57) (st' := [.int 0, .ref 62]) rfl rfl rfl rfl ?_
          refine go_sput (pc' := 58) hS234 rfl rfl rfl (by decide) tbr_inj (Nat.le_of_ble_eq_true rfl) rfl (hW _ (by decide) (by decide)) rfl (fun h236 hS237 hE238 => ?_)
          refine go_ret rfl rfl ?_
          change sm (tbr am234 (13 * ln234) 77 5088) _ (uI (jn I234 K234) 23 0 0) Y234 at hS237
          rw [jn_lo (c := 23) (by decide)] at hS237
          have hU239 : RU w B (R + 1) H hb h236 am234 ln234 K234 ((uI I234 23 0 0), Q234, Z234) := RU_I (hE238) (I' := (uI I234 23 0 0)) (fun _ => rfl) (fun _ => rfl) (Nat.le_refl _) hU234
          have hA240 : RA w B (R + 1) H hb h236 ((uI I234 23 0 0), Q234, Z234) := RA_u.mpr ⟨_, _, _, _, hS237, hU239⟩
          have h0f : mfin0 (I, Q, Z) = ((uI I 16 0 0, Q, uZ Z 1 (mfs (Z 1))) : mM) := by
            unfold mfin0
            rw [show rwi (I, Q, Z).1 0 = 1 from rwi_l (v := 1) e1 (by decide)]
          have hrow : row1 (I, Q, Z) 0 = (Z 1).1 := row1_l (v := 1) e1 (by decide)
          have h1f : rfin1 (I, Q, Z) = (I234, Q234, Z234) := by
            unfold rfin1
            rw [hrow, if_pos c198, e4, h0f]
            exact eM234.symm
          have hlast : (if row1 (I, Q, Z) 0 3 = 2 then (0 : Int32) else (rfin1 (I, Q, Z)).1 23 0) = 0 := by
            rw [hrow, if_neg (by rw [c198]; decide), h1f]
            exact (show I234 23 0 = I 23 0 from congrFun e23 0).trans c235
          refine ⟨rfl, RA_R (by rw [show row1 (I, Q, Z) 0 3 = 1 from (congrFun hrow 3).trans c198]; exact Nat.le_refl _) ?_⟩
          show RA w B _ H hb _ (uI (rfin1 (I, Q, Z)).1 23 0 (if row1 (I, Q, Z) 0 3 = 2 then 0 else (rfin1 (I, Q, Z)).1 23 0), (rfin1 (I, Q, Z)).2)
          rw [hlast, h1f]
          exact hA240
        · skip
          refine go_s (pc' := 55) (st' := [.int 1, .ref 62]) rfl rfl rfl rfl ?_
          refine go_s (pc' := 57) rfl rfl rfl rfl ?_
          refine go_sput (pc' := 58) hS234 rfl rfl rfl (by decide) tbr_inj (Nat.le_of_ble_eq_true rfl) rfl (hW _ (by decide) (by decide)) rfl (fun h241 hS242 hE243 => ?_)
          refine go_ret rfl rfl ?_
          change sm (tbr am234 (13 * ln234) 77 5088) _ (uI (jn I234 K234) 23 0 1) Y234 at hS242
          rw [jn_lo (c := 23) (by decide)] at hS242
          have hU244 : RU w B (R + 1) H hb h241 am234 ln234 K234 ((uI I234 23 0 1), Q234, Z234) := RU_I (hE243) (I' := (uI I234 23 0 1)) (fun _ => rfl) (fun _ => rfl) (Nat.le_refl _) hU234
          have hA245 : RA w B (R + 1) H hb h241 ((uI I234 23 0 1), Q234, Z234) := RA_u.mpr ⟨_, _, _, _, hS242, hU244⟩
          have h0f : mfin0 (I, Q, Z) = ((uI I 16 0 0, Q, uZ Z 1 (mfs (Z 1))) : mM) := by
            unfold mfin0
            rw [show rwi (I, Q, Z).1 0 = 1 from rwi_l (v := 1) e1 (by decide)]
          have hrow : row1 (I, Q, Z) 0 = (Z 1).1 := row1_l (v := 1) e1 (by decide)
          have h1f : rfin1 (I, Q, Z) = (I234, Q234, Z234) := by
            unfold rfin1
            rw [hrow, if_pos c198, e4, h0f]
            exact eM234.symm
          have hlast : (if row1 (I, Q, Z) 0 3 = 2 then (0 : Int32) else (rfin1 (I, Q, Z)).1 23 0) = 1 := by
            rw [hrow, if_neg (by rw [c198]; decide), h1f]
            exact (show I234 23 0 = I 23 0 from congrFun e23 0).trans (h23.elim (fun z => absurd z c235) id)
          refine ⟨rfl, RA_R (by rw [show row1 (I, Q, Z) 0 3 = 1 from (congrFun hrow 3).trans c198]; exact Nat.le_refl _) ?_⟩
          show RA w B _ H hb _ (uI (rfin1 (I, Q, Z)).1 23 0 (if row1 (I, Q, Z) 0 3 = 2 then 0 else (rfin1 (I, Q, Z)).1 23 0), (rfin1 (I, Q, Z)).2)
          rw [hlast, h1f]
          exact hA245
