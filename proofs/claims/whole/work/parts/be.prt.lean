theorem go_lsw {T : am_T} {d : Nat} {code : List Instr} {rt : Option FieldType} {pc t' : Nat} {lo : am_Lo} {st : List Value} {h : am_Hp} {Q : Option Value → am_Hp → Prop} {x : Int32} {dd : Int} {ps : Array (Int × Int)} (hi : code[pc]? = some (.lookupswitch dd ps)) (hv : (Op.lookupswitch.offset ps.toList dd x.toInt).toNat = t') (kk : am_Go T d code rt t' lo st h Q) : am_Go T d code rt pc lo (.int x :: st) h Q := by
  subst hv
  exact go_x (ch := none) hi rfl rfl rfl kk
theorem out_3 {x : Int32} (h0 : ¬ x = 0) (h1 : ¬ x = 1) (h2 : ¬ x = 2) : x < 0 ∨ nI 2 < x := by
  rw [← Int32.toInt_inj] at h0 h1 h2
  rw [Int32.lt_iff_toInt_lt, Int32.lt_iff_toInt_lt]
  have e1 : (nI 2).toInt = 2 := rfl
  simp at h0 h1 h2 ⊢
  omega
theorem rq_prt_0_30 {w : Nat → Bool} {d : Nat} {h : am_Hp} {J : sm_I} {Y : sm_X} {am lm as_ ls : Nat} (hr : rk am as_) (hS : sm (tbr am lm as_ ls) h J Y) {Q : mQ} {Z : mZ} (hd : 3 ≤ d) : am_Ev (am_prog w) d 188 [.ref 62, .int 30, .int 0] h (fun r h' => r = some (.int (mqpt 0 30 (J, Q, Z))) ∧ h' = h) := by
  obtain ⟨d, rfl⟩ : ∃ e, d = e + 1 := ⟨d - 1, by omega⟩
  refine ev_go rfl (Nat.le_of_ble_eq_true rfl) rfl ?_
  refine go_s (pc' := 1) rfl rfl rfl rfl ?_
  refine go_s (pc' := 2) (st' := [.int 30, .int 30]) rfl rfl rfl rfl ?_
  refine go_icmpP (t' := 6) (pc' := 3) rfl rfl rfl (fun (c : ¬ (30 : Int32) = 30) => absurd c (by decide)) (fun _ => ?_)
  refine go_s (pc' := 4) rfl rfl rfl rfl ?_
  refine go_sget (pc' := 5) (v := .int (J 8 0)) hS rfl rfl rfl (by decide) rfl rfl ?_
  refine go_ret rfl rfl ?_
  exact ⟨rfl, rfl⟩
theorem rq_prt_0_0 {w : Nat → Bool} {d : Nat} {h : am_Hp} {J : sm_I} {Y : sm_X} {am lm as_ ls : Nat} (hr : rk am as_) (hS : sm (tbr am lm as_ ls) h J Y) {Q : mQ} {Z : mZ} (hd : 3 ≤ d) : am_Ev (am_prog w) d 188 [.ref 62, .int 0, .int 0] h (fun r h' => r = some (.int (mqpt 0 0 (J, Q, Z))) ∧ h' = h) := by
  obtain ⟨d, rfl⟩ : ∃ e, d = e + 1 := ⟨d - 1, by omega⟩
  refine ev_go rfl (Nat.le_of_ble_eq_true rfl) rfl ?_
  refine go_s (pc' := 1) rfl rfl rfl rfl ?_
  refine go_s (pc' := 2) (st' := [.int 30, .int 0]) rfl rfl rfl rfl ?_
  refine go_icmpP (t' := 6) (pc' := 3) rfl rfl rfl (fun _ => ?_) (fun (c : ¬ (¬ (0 : Int32) = 30)) => absurd (by decide) c)
  refine go_s (pc' := 7) rfl rfl rfl rfl ?_
  refine go_s (pc' := 8) (st' := [.int 0, .int 0]) rfl rfl rfl rfl ?_
  refine go_s (pc' := 9) (st' := [.int 2, .int 0, .int 0]) rfl rfl rfl rfl ?_
  refine go_callS (pc' := 10) rfl rfl rfl (Nat.le_of_ble_eq_true rfl) rfl rfl rfl (rt_within_t (q := 0) (n := 2) (by decide) (by decide) (by omega)) (fun r h1 q2 => ?_)
  obtain ⟨rfl, rfl⟩ := q2
  refine go_ifP (t' := 44) (pc' := 11) rfl rfl rfl (fun (c : (1 : Int32) = 0) => absurd c (by decide)) (fun _ => ?_)
  refine go_s (pc' := 12) rfl rfl rfl rfl ?_
  refine go_s (pc' := 13) (st' := [.int 0, .int 0]) rfl rfl rfl rfl ?_
  refine go_s (pc' := 14) (st' := [.int 3, .int 0, .int 0]) rfl rfl rfl rfl ?_
  refine go_callS (pc' := 15) rfl rfl rfl (Nat.le_of_ble_eq_true rfl) rfl rfl rfl (rt_within_t (q := 0) (n := 3) (by decide) (by decide) (by omega)) (fun r h3 q4 => ?_)
  obtain ⟨rfl, rfl⟩ := q4
  refine go_ifP (t' := 44) (pc' := 16) rfl rfl rfl (fun (c : (1 : Int32) = 0) => absurd c (by decide)) (fun _ => ?_)
  refine go_s (pc' := 17) rfl rfl rfl rfl ?_
  refine go_ifP (t' := 27) (pc' := 18) rfl rfl rfl (fun (c : ¬ (0 : Int32) = 0) => absurd c (by decide)) (fun _ => ?_)
  refine go_s (pc' := 19) rfl rfl rfl rfl ?_
  refine go_sget (pc' := 20) (v := .ref 63) hS rfl rfl rfl (by decide) rfl rfl ?_
  refine go_s (pc' := 21) rfl rfl rfl rfl ?_
  refine go_sald (pc' := 22) (q := 0) (v := .int (J 0 0)) hS rfl (tr_s hr (a := 63) rfl (by decide)) rfl rfl (by decide) rfl rfl ?_
  refine go_ifP (t' := 25) (pc' := 23) rfl rfl rfl (fun (c5 : (J 0 0) = 0) => ?_) (fun (c5 : ¬ (J 0 0) = 0) => ?_)
  · skip
    refine go_s (pc' := 26) (st' := [.int 0]) rfl rfl rfl rfl ?_
    refine go_s (pc' := 43) rfl rfl rfl rfl ?_
    refine go_ret rfl rfl ?_
    exact ⟨by show _ = some (Value.int (bI (J 0 0))); simp [bI, c5], rfl⟩
  · skip
    refine go_s (pc' := 24) (st' := [.int 1]) rfl rfl rfl rfl ?_
    refine go_s (pc' := 43) rfl rfl rfl rfl ?_
    refine go_ret rfl rfl ?_
    exact ⟨by show _ = some (Value.int (bI (J 0 0))); simp [bI, c5], rfl⟩
theorem rq_prt_0_1 {w : Nat → Bool} {d : Nat} {h : am_Hp} {J : sm_I} {Y : sm_X} {am lm as_ ls : Nat} (hr : rk am as_) (hS : sm (tbr am lm as_ ls) h J Y) {Q : mQ} {Z : mZ} (hd : 3 ≤ d) : am_Ev (am_prog w) d 188 [.ref 62, .int 1, .int 0] h (fun r h' => r = some (.int (mqpt 0 1 (J, Q, Z))) ∧ h' = h) := by
  obtain ⟨d, rfl⟩ : ∃ e, d = e + 1 := ⟨d - 1, by omega⟩
  refine ev_go rfl (Nat.le_of_ble_eq_true rfl) rfl ?_
  refine go_s (pc' := 1) rfl rfl rfl rfl ?_
  refine go_s (pc' := 2) (st' := [.int 30, .int 1]) rfl rfl rfl rfl ?_
  refine go_icmpP (t' := 6) (pc' := 3) rfl rfl rfl (fun _ => ?_) (fun (c : ¬ (¬ (1 : Int32) = 30)) => absurd (by decide) c)
  refine go_s (pc' := 7) rfl rfl rfl rfl ?_
  refine go_s (pc' := 8) (st' := [.int 0, .int 1]) rfl rfl rfl rfl ?_
  refine go_s (pc' := 9) (st' := [.int 2, .int 0, .int 1]) rfl rfl rfl rfl ?_
  refine go_callS (pc' := 10) rfl rfl rfl (Nat.le_of_ble_eq_true rfl) rfl rfl rfl (rt_within_t (q := 1) (n := 2) (by decide) (by decide) (by omega)) (fun r h1 q2 => ?_)
  obtain ⟨rfl, rfl⟩ := q2
  refine go_ifP (t' := 44) (pc' := 11) rfl rfl rfl (fun (c : (1 : Int32) = 0) => absurd c (by decide)) (fun _ => ?_)
  refine go_s (pc' := 12) rfl rfl rfl rfl ?_
  refine go_s (pc' := 13) (st' := [.int 0, .int 0]) rfl rfl rfl rfl ?_
  refine go_s (pc' := 14) (st' := [.int 3, .int 0, .int 0]) rfl rfl rfl rfl ?_
  refine go_callS (pc' := 15) rfl rfl rfl (Nat.le_of_ble_eq_true rfl) rfl rfl rfl (rt_within_t (q := 0) (n := 3) (by decide) (by decide) (by omega)) (fun r h3 q4 => ?_)
  obtain ⟨rfl, rfl⟩ := q4
  refine go_ifP (t' := 44) (pc' := 16) rfl rfl rfl (fun (c : (1 : Int32) = 0) => absurd c (by decide)) (fun _ => ?_)
  refine go_s (pc' := 17) rfl rfl rfl rfl ?_
  refine go_ifP (t' := 27) (pc' := 18) rfl rfl rfl (fun _ => ?_) (fun (c : ¬ (¬ (1 : Int32) = 0)) => absurd (by decide) c)
  refine go_s (pc' := 28) rfl rfl rfl rfl ?_
  refine go_s (pc' := 29) (st' := [.int 1, .int 1]) rfl rfl rfl rfl ?_
  refine go_icmpP (t' := 39) (pc' := 30) rfl rfl rfl (fun (c : ¬ (1 : Int32) = 1) => absurd c (by decide)) (fun _ => ?_)
  refine go_s (pc' := 31) rfl rfl rfl rfl ?_
  refine go_sget (pc' := 32) (v := .ref 64) hS rfl rfl rfl (by decide) rfl rfl ?_
  refine go_s (pc' := 33) rfl rfl rfl rfl ?_
  refine go_sald (pc' := 34) (q := 0) (v := .int (J 1 0)) hS rfl (tr_s hr (a := 64) rfl (by decide)) rfl rfl (by decide) rfl rfl ?_
  refine go_ifP (t' := 37) (pc' := 35) rfl rfl rfl (fun (c5 : (J 1 0) = 0) => ?_) (fun (c5 : ¬ (J 1 0) = 0) => ?_)
  · skip
    refine go_s (pc' := 38) (st' := [.int 0]) rfl rfl rfl rfl ?_
    refine go_s (pc' := 43) rfl rfl rfl rfl ?_
    refine go_ret rfl rfl ?_
    exact ⟨by show _ = some (Value.int (bI (J 1 0))); simp [bI, c5], rfl⟩
  · skip
    refine go_s (pc' := 36) (st' := [.int 1]) rfl rfl rfl rfl ?_
    refine go_s (pc' := 43) rfl rfl rfl rfl ?_
    refine go_ret rfl rfl ?_
    exact ⟨by show _ = some (Value.int (bI (J 1 0))); simp [bI, c5], rfl⟩
theorem rq_prt_0_2 {w : Nat → Bool} {d : Nat} {h : am_Hp} {J : sm_I} {Y : sm_X} {am lm as_ ls : Nat} (hr : rk am as_) (hS : sm (tbr am lm as_ ls) h J Y) {Q : mQ} {Z : mZ} (hd : 3 ≤ d) : am_Ev (am_prog w) d 188 [.ref 62, .int 2, .int 0] h (fun r h' => r = some (.int (mqpt 0 2 (J, Q, Z))) ∧ h' = h) := by
  obtain ⟨d, rfl⟩ : ∃ e, d = e + 1 := ⟨d - 1, by omega⟩
  refine ev_go rfl (Nat.le_of_ble_eq_true rfl) rfl ?_
  refine go_s (pc' := 1) rfl rfl rfl rfl ?_
  refine go_s (pc' := 2) (st' := [.int 30, .int 2]) rfl rfl rfl rfl ?_
  refine go_icmpP (t' := 6) (pc' := 3) rfl rfl rfl (fun _ => ?_) (fun (c : ¬ (¬ (2 : Int32) = 30)) => absurd (by decide) c)
  refine go_s (pc' := 7) rfl rfl rfl rfl ?_
  refine go_s (pc' := 8) (st' := [.int 0, .int 2]) rfl rfl rfl rfl ?_
  refine go_s (pc' := 9) (st' := [.int 2, .int 0, .int 2]) rfl rfl rfl rfl ?_
  refine go_callS (pc' := 10) rfl rfl rfl (Nat.le_of_ble_eq_true rfl) rfl rfl rfl (rt_within_t (q := 2) (n := 2) (by decide) (by decide) (by omega)) (fun r h1 q2 => ?_)
  obtain ⟨rfl, rfl⟩ := q2
  refine go_ifP (t' := 44) (pc' := 11) rfl rfl rfl (fun (c : (1 : Int32) = 0) => absurd c (by decide)) (fun _ => ?_)
  refine go_s (pc' := 12) rfl rfl rfl rfl ?_
  refine go_s (pc' := 13) (st' := [.int 0, .int 0]) rfl rfl rfl rfl ?_
  refine go_s (pc' := 14) (st' := [.int 3, .int 0, .int 0]) rfl rfl rfl rfl ?_
  refine go_callS (pc' := 15) rfl rfl rfl (Nat.le_of_ble_eq_true rfl) rfl rfl rfl (rt_within_t (q := 0) (n := 3) (by decide) (by decide) (by omega)) (fun r h3 q4 => ?_)
  obtain ⟨rfl, rfl⟩ := q4
  refine go_ifP (t' := 44) (pc' := 16) rfl rfl rfl (fun (c : (1 : Int32) = 0) => absurd c (by decide)) (fun _ => ?_)
  refine go_s (pc' := 17) rfl rfl rfl rfl ?_
  refine go_ifP (t' := 27) (pc' := 18) rfl rfl rfl (fun _ => ?_) (fun (c : ¬ (¬ (2 : Int32) = 0)) => absurd (by decide) c)
  refine go_s (pc' := 28) rfl rfl rfl rfl ?_
  refine go_s (pc' := 29) (st' := [.int 1, .int 2]) rfl rfl rfl rfl ?_
  refine go_icmpP (t' := 39) (pc' := 30) rfl rfl rfl (fun _ => ?_) (fun (c : ¬ (¬ (2 : Int32) = 1)) => absurd (by decide) c)
  refine go_s (pc' := 40) rfl rfl rfl rfl ?_
  refine go_sget (pc' := 41) (v := .ref 65) hS rfl rfl rfl (by decide) rfl rfl ?_
  refine go_s (pc' := 42) rfl rfl rfl rfl ?_
  refine go_sald (pc' := 43) (q := 0) (v := .int (J 2 0)) hS rfl (tr_s hr (a := 65) rfl (by decide)) rfl rfl (by decide) rfl rfl ?_
  refine go_ret rfl rfl ?_
  exact ⟨rfl, rfl⟩
theorem rq_prt_0_10 {w : Nat → Bool} {d : Nat} {h : am_Hp} {J : sm_I} {Y : sm_X} {am lm as_ ls : Nat} (hr : rk am as_) (hS : sm (tbr am lm as_ ls) h J Y) {Q : mQ} {Z : mZ} (hd : 3 ≤ d) : am_Ev (am_prog w) d 188 [.ref 62, .int 10, .int 0] h (fun r h' => r = some (.int (mqpt 0 10 (J, Q, Z))) ∧ h' = h) := by
  obtain ⟨d, rfl⟩ : ∃ e, d = e + 1 := ⟨d - 1, by omega⟩
  refine ev_go rfl (Nat.le_of_ble_eq_true rfl) rfl ?_
  refine go_s (pc' := 1) rfl rfl rfl rfl ?_
  refine go_s (pc' := 2) (st' := [.int 30, .int 10]) rfl rfl rfl rfl ?_
  refine go_icmpP (t' := 6) (pc' := 3) rfl rfl rfl (fun _ => ?_) (fun (c : ¬ (¬ (10 : Int32) = 30)) => absurd (by decide) c)
  refine go_s (pc' := 7) rfl rfl rfl rfl ?_
  refine go_s (pc' := 8) (st' := [.int 0, .int 10]) rfl rfl rfl rfl ?_
  refine go_s (pc' := 9) (st' := [.int 2, .int 0, .int 10]) rfl rfl rfl rfl ?_
  refine go_callS (pc' := 10) rfl rfl rfl (Nat.le_of_ble_eq_true rfl) rfl rfl rfl (rt_within_f (a := 10) (n := 2) (by decide) (by omega)) (fun r h1 q2 => ?_)
  obtain ⟨rfl, rfl⟩ := q2
  refine go_ifP (t' := 44) (pc' := 11) rfl rfl rfl (fun _ => ?_) (fun (c : ¬ ((0 : Int32) = 0)) => absurd (by decide) c)
  refine go_s (pc' := 45) rfl rfl rfl rfl ?_
  refine go_s (pc' := 46) (st' := [.int 0, .int 0]) rfl rfl rfl rfl ?_
  refine go_s (pc' := 47) (st' := [.int 1, .int 0, .int 0]) rfl rfl rfl rfl ?_
  refine go_callS (pc' := 48) rfl rfl rfl (Nat.le_of_ble_eq_true rfl) rfl rfl rfl (rt_within_t (q := 0) (n := 1) (by decide) (by decide) (by omega)) (fun r h3 q4 => ?_)
  obtain ⟨rfl, rfl⟩ := q4
  refine go_ifP (t' := 51) (pc' := 49) rfl rfl rfl (fun _ => ?_) (fun (c : ¬ (¬ (1 : Int32) = 0)) => absurd (by decide) c)
  refine go_s (pc' := 52) rfl rfl rfl rfl ?_
  refine go_lsw (t' := 53) rfl (by rfl) ?_
  refine go_s (pc' := 54) rfl rfl rfl rfl ?_
  refine go_sget (pc' := 55) (v := .ref 66) hS rfl rfl rfl (by decide) rfl rfl ?_
  refine go_s (pc' := 56) rfl rfl rfl rfl ?_
  refine go_sald (pc' := 57) (q := 0) (v := .int (J 3 0)) hS rfl (tr_s hr (a := 66) rfl (by decide)) rfl rfl (by decide) rfl rfl ?_
  refine go_ifP (t' := 60) (pc' := 58) rfl rfl rfl (fun (c5 : (J 3 0) = 0) => ?_) (fun (c5 : ¬ (J 3 0) = 0) => ?_)
  · skip
    refine go_s (pc' := 61) (st' := [.int 0]) rfl rfl rfl rfl ?_
    refine go_ret rfl rfl ?_
    exact ⟨by show _ = some (Value.int (bI (J 3 0))); simp [bI, c5], rfl⟩
  · skip
    refine go_s (pc' := 59) (st' := [.int 1]) rfl rfl rfl rfl ?_
    refine go_s (pc' := 61) rfl rfl rfl rfl ?_
    refine go_ret rfl rfl ?_
    exact ⟨by show _ = some (Value.int (bI (J 3 0))); simp [bI, c5], rfl⟩
theorem rq_prt_0_20 {w : Nat → Bool} {d : Nat} {h : am_Hp} {J : sm_I} {Y : sm_X} {am lm as_ ls : Nat} (hr : rk am as_) (hS : sm (tbr am lm as_ ls) h J Y) {Q : mQ} {Z : mZ} (hd : 3 ≤ d) : am_Ev (am_prog w) d 188 [.ref 62, .int 20, .int 0] h (fun r h' => r = some (.int (mqpt 0 20 (J, Q, Z))) ∧ h' = h) := by
  obtain ⟨d, rfl⟩ : ∃ e, d = e + 1 := ⟨d - 1, by omega⟩
  refine ev_go rfl (Nat.le_of_ble_eq_true rfl) rfl ?_
  refine go_s (pc' := 1) rfl rfl rfl rfl ?_
  refine go_s (pc' := 2) (st' := [.int 30, .int 20]) rfl rfl rfl rfl ?_
  refine go_icmpP (t' := 6) (pc' := 3) rfl rfl rfl (fun _ => ?_) (fun (c : ¬ (¬ (20 : Int32) = 30)) => absurd (by decide) c)
  refine go_s (pc' := 7) rfl rfl rfl rfl ?_
  refine go_s (pc' := 8) (st' := [.int 0, .int 20]) rfl rfl rfl rfl ?_
  refine go_s (pc' := 9) (st' := [.int 2, .int 0, .int 20]) rfl rfl rfl rfl ?_
  refine go_callS (pc' := 10) rfl rfl rfl (Nat.le_of_ble_eq_true rfl) rfl rfl rfl (rt_within_f (a := 20) (n := 2) (by decide) (by omega)) (fun r h1 q2 => ?_)
  obtain ⟨rfl, rfl⟩ := q2
  refine go_ifP (t' := 44) (pc' := 11) rfl rfl rfl (fun _ => ?_) (fun (c : ¬ ((0 : Int32) = 0)) => absurd (by decide) c)
  refine go_s (pc' := 45) rfl rfl rfl rfl ?_
  refine go_s (pc' := 46) (st' := [.int 0, .int 0]) rfl rfl rfl rfl ?_
  refine go_s (pc' := 47) (st' := [.int 1, .int 0, .int 0]) rfl rfl rfl rfl ?_
  refine go_callS (pc' := 48) rfl rfl rfl (Nat.le_of_ble_eq_true rfl) rfl rfl rfl (rt_within_t (q := 0) (n := 1) (by decide) (by decide) (by omega)) (fun r h3 q4 => ?_)
  obtain ⟨rfl, rfl⟩ := q4
  refine go_ifP (t' := 51) (pc' := 49) rfl rfl rfl (fun _ => ?_) (fun (c : ¬ (¬ (1 : Int32) = 0)) => absurd (by decide) c)
  refine go_s (pc' := 52) rfl rfl rfl rfl ?_
  refine go_lsw (t' := 62) rfl (by rfl) ?_
  refine go_s (pc' := 63) rfl rfl rfl rfl ?_
  refine go_sget (pc' := 64) (v := .ref 67) hS rfl rfl rfl (by decide) rfl rfl ?_
  refine go_s (pc' := 65) rfl rfl rfl rfl ?_
  refine go_sald (pc' := 66) (q := 0) (v := .int (J 4 0)) hS rfl (tr_s hr (a := 67) rfl (by decide)) rfl rfl (by decide) rfl rfl ?_
  refine go_ifP (t' := 69) (pc' := 67) rfl rfl rfl (fun (c5 : (J 4 0) = 0) => ?_) (fun (c5 : ¬ (J 4 0) = 0) => ?_)
  · skip
    refine go_s (pc' := 70) (st' := [.int 0]) rfl rfl rfl rfl ?_
    refine go_ret rfl rfl ?_
    exact ⟨by show _ = some (Value.int (bI (J 4 0))); simp [bI, c5], rfl⟩
  · skip
    refine go_s (pc' := 68) (st' := [.int 1]) rfl rfl rfl rfl ?_
    refine go_s (pc' := 70) rfl rfl rfl rfl ?_
    refine go_ret rfl rfl ?_
    exact ⟨by show _ = some (Value.int (bI (J 4 0))); simp [bI, c5], rfl⟩
theorem rq_prt_0_21 {w : Nat → Bool} {d : Nat} {h : am_Hp} {J : sm_I} {Y : sm_X} {am lm as_ ls : Nat} (hr : rk am as_) (hS : sm (tbr am lm as_ ls) h J Y) {Q : mQ} {Z : mZ} (hd : 3 ≤ d) : am_Ev (am_prog w) d 188 [.ref 62, .int 21, .int 0] h (fun r h' => r = some (.int (mqpt 0 21 (J, Q, Z))) ∧ h' = h) := by
  obtain ⟨d, rfl⟩ : ∃ e, d = e + 1 := ⟨d - 1, by omega⟩
  refine ev_go rfl (Nat.le_of_ble_eq_true rfl) rfl ?_
  refine go_s (pc' := 1) rfl rfl rfl rfl ?_
  refine go_s (pc' := 2) (st' := [.int 30, .int 21]) rfl rfl rfl rfl ?_
  refine go_icmpP (t' := 6) (pc' := 3) rfl rfl rfl (fun _ => ?_) (fun (c : ¬ (¬ (21 : Int32) = 30)) => absurd (by decide) c)
  refine go_s (pc' := 7) rfl rfl rfl rfl ?_
  refine go_s (pc' := 8) (st' := [.int 0, .int 21]) rfl rfl rfl rfl ?_
  refine go_s (pc' := 9) (st' := [.int 2, .int 0, .int 21]) rfl rfl rfl rfl ?_
  refine go_callS (pc' := 10) rfl rfl rfl (Nat.le_of_ble_eq_true rfl) rfl rfl rfl (rt_within_f (a := 21) (n := 2) (by decide) (by omega)) (fun r h1 q2 => ?_)
  obtain ⟨rfl, rfl⟩ := q2
  refine go_ifP (t' := 44) (pc' := 11) rfl rfl rfl (fun _ => ?_) (fun (c : ¬ ((0 : Int32) = 0)) => absurd (by decide) c)
  refine go_s (pc' := 45) rfl rfl rfl rfl ?_
  refine go_s (pc' := 46) (st' := [.int 0, .int 0]) rfl rfl rfl rfl ?_
  refine go_s (pc' := 47) (st' := [.int 1, .int 0, .int 0]) rfl rfl rfl rfl ?_
  refine go_callS (pc' := 48) rfl rfl rfl (Nat.le_of_ble_eq_true rfl) rfl rfl rfl (rt_within_t (q := 0) (n := 1) (by decide) (by decide) (by omega)) (fun r h3 q4 => ?_)
  obtain ⟨rfl, rfl⟩ := q4
  refine go_ifP (t' := 51) (pc' := 49) rfl rfl rfl (fun _ => ?_) (fun (c : ¬ (¬ (1 : Int32) = 0)) => absurd (by decide) c)
  refine go_s (pc' := 52) rfl rfl rfl rfl ?_
  refine go_lsw (t' := 71) rfl (by rfl) ?_
  refine go_s (pc' := 72) rfl rfl rfl rfl ?_
  refine go_sget (pc' := 73) (v := .ref 68) hS rfl rfl rfl (by decide) rfl rfl ?_
  refine go_s (pc' := 74) rfl rfl rfl rfl ?_
  refine go_sald (pc' := 75) (q := 0) (v := .int (J 5 0)) hS rfl (tr_s hr (a := 68) rfl (by decide)) rfl rfl (by decide) rfl rfl ?_
  refine go_ifP (t' := 78) (pc' := 76) rfl rfl rfl (fun (c5 : (J 5 0) = 0) => ?_) (fun (c5 : ¬ (J 5 0) = 0) => ?_)
  · skip
    refine go_s (pc' := 79) (st' := [.int 0]) rfl rfl rfl rfl ?_
    refine go_ret rfl rfl ?_
    exact ⟨by show _ = some (Value.int (bI (J 5 0))); simp [bI, c5], rfl⟩
  · skip
    refine go_s (pc' := 77) (st' := [.int 1]) rfl rfl rfl rfl ?_
    refine go_s (pc' := 79) rfl rfl rfl rfl ?_
    refine go_ret rfl rfl ?_
    exact ⟨by show _ = some (Value.int (bI (J 5 0))); simp [bI, c5], rfl⟩
theorem rq_prt_0_22 {w : Nat → Bool} {d : Nat} {h : am_Hp} {J : sm_I} {Y : sm_X} {am lm as_ ls : Nat} (hr : rk am as_) (hS : sm (tbr am lm as_ ls) h J Y) {Q : mQ} {Z : mZ} (hd : 3 ≤ d) : am_Ev (am_prog w) d 188 [.ref 62, .int 22, .int 0] h (fun r h' => r = some (.int (mqpt 0 22 (J, Q, Z))) ∧ h' = h) := by
  obtain ⟨d, rfl⟩ : ∃ e, d = e + 1 := ⟨d - 1, by omega⟩
  refine ev_go rfl (Nat.le_of_ble_eq_true rfl) rfl ?_
  refine go_s (pc' := 1) rfl rfl rfl rfl ?_
  refine go_s (pc' := 2) (st' := [.int 30, .int 22]) rfl rfl rfl rfl ?_
  refine go_icmpP (t' := 6) (pc' := 3) rfl rfl rfl (fun _ => ?_) (fun (c : ¬ (¬ (22 : Int32) = 30)) => absurd (by decide) c)
  refine go_s (pc' := 7) rfl rfl rfl rfl ?_
  refine go_s (pc' := 8) (st' := [.int 0, .int 22]) rfl rfl rfl rfl ?_
  refine go_s (pc' := 9) (st' := [.int 2, .int 0, .int 22]) rfl rfl rfl rfl ?_
  refine go_callS (pc' := 10) rfl rfl rfl (Nat.le_of_ble_eq_true rfl) rfl rfl rfl (rt_within_f (a := 22) (n := 2) (by decide) (by omega)) (fun r h1 q2 => ?_)
  obtain ⟨rfl, rfl⟩ := q2
  refine go_ifP (t' := 44) (pc' := 11) rfl rfl rfl (fun _ => ?_) (fun (c : ¬ ((0 : Int32) = 0)) => absurd (by decide) c)
  refine go_s (pc' := 45) rfl rfl rfl rfl ?_
  refine go_s (pc' := 46) (st' := [.int 0, .int 0]) rfl rfl rfl rfl ?_
  refine go_s (pc' := 47) (st' := [.int 1, .int 0, .int 0]) rfl rfl rfl rfl ?_
  refine go_callS (pc' := 48) rfl rfl rfl (Nat.le_of_ble_eq_true rfl) rfl rfl rfl (rt_within_t (q := 0) (n := 1) (by decide) (by decide) (by omega)) (fun r h3 q4 => ?_)
  obtain ⟨rfl, rfl⟩ := q4
  refine go_ifP (t' := 51) (pc' := 49) rfl rfl rfl (fun _ => ?_) (fun (c : ¬ (¬ (1 : Int32) = 0)) => absurd (by decide) c)
  refine go_s (pc' := 52) rfl rfl rfl rfl ?_
  refine go_lsw (t' := 80) rfl (by rfl) ?_
  refine go_s (pc' := 81) rfl rfl rfl rfl ?_
  refine go_s (pc' := 82) rfl rfl rfl rfl ?_
  refine go_callV (pc' := 83) rfl rfl rfl (Nat.le_of_ble_eq_true rfl) rfl (sm_o hS rfl) rfl rfl rfl (rt_rv_0 hr hS (by omega)) (fun r h5 q6 => ?_)
  obtain ⟨rfl, rfl⟩ := q6
  cases u7 : rv J 0
  · skip
    show am_Go _ _ _ _ 83 _ [.int 0] _ _
    refine go_ifP (t' := 89) (pc' := 84) rfl rfl rfl (fun _ => ?_) (fun (c : ¬ ((0 : Int32) = 0)) => absurd (by decide) c)
    refine go_s (pc' := 90) (st' := [.int (-1)]) rfl rfl rfl rfl ?_
    refine go_ret rfl rfl ?_
    exact ⟨by show _ = some (Value.int (if rv J 0 = true then J 6 0 else -1)); simp [u7], rfl⟩
  · skip
    show am_Go _ _ _ _ 83 _ [.int 1] _ _
    refine go_ifP (t' := 89) (pc' := 84) rfl rfl rfl (fun (c : (1 : Int32) = 0) => absurd c (by decide)) (fun _ => ?_)
    refine go_s (pc' := 85) rfl rfl rfl rfl ?_
    refine go_sget (pc' := 86) (v := .ref 69) hS rfl rfl rfl (by decide) rfl rfl ?_
    refine go_s (pc' := 87) rfl rfl rfl rfl ?_
    refine go_sald (pc' := 88) (q := 0) (v := .int (J 6 0)) hS rfl (tr_s hr (a := 69) rfl (by decide)) rfl rfl (by decide) rfl rfl ?_
    refine go_s (pc' := 90) rfl rfl rfl rfl ?_
    refine go_ret rfl rfl ?_
    exact ⟨by show _ = some (Value.int (if rv J 0 = true then J 6 0 else -1)); simp [u7], rfl⟩
theorem rq_prt_0_n {w : Nat → Bool} {d : Nat} {h : am_Hp} {J : sm_I} {Y : sm_X} {am lm as_ ls : Nat} (hr : rk am as_) (hS : sm (tbr am lm as_ ls) h J Y) {Q : mQ} {Z : mZ} {x : Int32} (x30 : ¬ x = 30) (x0 : ¬ x = 0) (x1 : ¬ x = 1) (x2 : ¬ x = 2) (x10 : ¬ x = 10) (x20 : ¬ x = 20) (x21 : ¬ x = 21) (x22 : ¬ x = 22) (hd : 3 ≤ d) : am_Ev (am_prog w) d 188 [.ref 62, .int x, .int 0] h (fun r h' => r = some (.int (mqpt 0 x (J, Q, Z))) ∧ h' = h) := by
  obtain ⟨d, rfl⟩ : ∃ e, d = e + 1 := ⟨d - 1, by omega⟩
  refine ev_go rfl (Nat.le_of_ble_eq_true rfl) rfl ?_
  refine go_s (pc' := 1) rfl rfl rfl rfl ?_
  refine go_s (pc' := 2) (st' := [.int 30, .int x]) rfl rfl rfl rfl ?_
  refine go_icmpP (t' := 6) (pc' := 3) rfl rfl rfl (fun _ => ?_) (fun (c : ¬ (¬ x = 30)) => absurd x30 c)
  refine go_s (pc' := 7) rfl rfl rfl rfl ?_
  refine go_s (pc' := 8) (st' := [.int 0, .int x]) rfl rfl rfl rfl ?_
  refine go_s (pc' := 9) (st' := [.int 2, .int 0, .int x]) rfl rfl rfl rfl ?_
  refine go_callS (pc' := 10) rfl rfl rfl (Nat.le_of_ble_eq_true rfl) rfl rfl rfl (rt_within_f (a := x) (n := 2) (out_3 x0 x1 x2) (by omega)) (fun r h1 q2 => ?_)
  obtain ⟨rfl, rfl⟩ := q2
  refine go_ifP (t' := 44) (pc' := 11) rfl rfl rfl (fun _ => ?_) (fun (c : ¬ ((0 : Int32) = 0)) => absurd (by decide) c)
  refine go_s (pc' := 45) rfl rfl rfl rfl ?_
  refine go_s (pc' := 46) (st' := [.int 0, .int 0]) rfl rfl rfl rfl ?_
  refine go_s (pc' := 47) (st' := [.int 1, .int 0, .int 0]) rfl rfl rfl rfl ?_
  refine go_callS (pc' := 48) rfl rfl rfl (Nat.le_of_ble_eq_true rfl) rfl rfl rfl (rt_within_t (q := 0) (n := 1) (by decide) (by decide) (by omega)) (fun r h3 q4 => ?_)
  obtain ⟨rfl, rfl⟩ := q4
  refine go_ifP (t' := 51) (pc' := 49) rfl rfl rfl (fun _ => ?_) (fun (c : ¬ (¬ (1 : Int32) = 0)) => absurd (by decide) c)
  refine go_s (pc' := 52) rfl rfl rfl rfl ?_
  refine go_lsw (t' := 91) rfl (by rw [← Int32.toInt_inj] at x10 x20 x21 x22; simp at x10 x20 x21 x22; simp [Op.lookupswitch.offset, x10, x20, x21, x22, Ne.symm x10, Ne.symm x20, Ne.symm x21, Ne.symm x22]) ?_
  refine go_s (pc' := 92) (st' := [.int (-1)]) rfl rfl rfl rfl ?_
  refine go_ret rfl rfl ?_
  exact ⟨by unfold mqpt; simp [x30, x0, x1, x2, x10, x20, x21, x22], rfl⟩
theorem rq_prt_1_30 {w : Nat → Bool} {d : Nat} {h : am_Hp} {J : sm_I} {Y : sm_X} {am lm as_ ls : Nat} (hr : rk am as_) (hS : sm (tbr am lm as_ ls) h J Y) {Q : mQ} {Z : mZ} (hd : 3 ≤ d) : am_Ev (am_prog w) d 188 [.ref 62, .int 30, .int 1] h (fun r h' => r = some (.int (mqpt 1 30 (J, Q, Z))) ∧ h' = h) := by
  obtain ⟨d, rfl⟩ : ∃ e, d = e + 1 := ⟨d - 1, by omega⟩
  refine ev_go rfl (Nat.le_of_ble_eq_true rfl) rfl ?_
  refine go_s (pc' := 1) rfl rfl rfl rfl ?_
  refine go_s (pc' := 2) (st' := [.int 30, .int 30]) rfl rfl rfl rfl ?_
  refine go_icmpP (t' := 6) (pc' := 3) rfl rfl rfl (fun (c : ¬ (30 : Int32) = 30) => absurd c (by decide)) (fun _ => ?_)
  refine go_s (pc' := 4) rfl rfl rfl rfl ?_
  refine go_sget (pc' := 5) (v := .int (J 8 0)) hS rfl rfl rfl (by decide) rfl rfl ?_
  refine go_ret rfl rfl ?_
  exact ⟨rfl, rfl⟩
theorem rq_prt_1_0 {w : Nat → Bool} {d : Nat} {h : am_Hp} {J : sm_I} {Y : sm_X} {am lm as_ ls : Nat} (hr : rk am as_) (hS : sm (tbr am lm as_ ls) h J Y) {Q : mQ} {Z : mZ} (hd : 3 ≤ d) : am_Ev (am_prog w) d 188 [.ref 62, .int 0, .int 1] h (fun r h' => r = some (.int (mqpt 1 0 (J, Q, Z))) ∧ h' = h) := by
  obtain ⟨d, rfl⟩ : ∃ e, d = e + 1 := ⟨d - 1, by omega⟩
  refine ev_go rfl (Nat.le_of_ble_eq_true rfl) rfl ?_
  refine go_s (pc' := 1) rfl rfl rfl rfl ?_
  refine go_s (pc' := 2) (st' := [.int 30, .int 0]) rfl rfl rfl rfl ?_
  refine go_icmpP (t' := 6) (pc' := 3) rfl rfl rfl (fun _ => ?_) (fun (c : ¬ (¬ (0 : Int32) = 30)) => absurd (by decide) c)
  refine go_s (pc' := 7) rfl rfl rfl rfl ?_
  refine go_s (pc' := 8) (st' := [.int 0, .int 0]) rfl rfl rfl rfl ?_
  refine go_s (pc' := 9) (st' := [.int 2, .int 0, .int 0]) rfl rfl rfl rfl ?_
  refine go_callS (pc' := 10) rfl rfl rfl (Nat.le_of_ble_eq_true rfl) rfl rfl rfl (rt_within_t (q := 0) (n := 2) (by decide) (by decide) (by omega)) (fun r h1 q2 => ?_)
  obtain ⟨rfl, rfl⟩ := q2
  refine go_ifP (t' := 44) (pc' := 11) rfl rfl rfl (fun (c : (1 : Int32) = 0) => absurd c (by decide)) (fun _ => ?_)
  refine go_s (pc' := 12) rfl rfl rfl rfl ?_
  refine go_s (pc' := 13) (st' := [.int 0, .int 1]) rfl rfl rfl rfl ?_
  refine go_s (pc' := 14) (st' := [.int 3, .int 0, .int 1]) rfl rfl rfl rfl ?_
  refine go_callS (pc' := 15) rfl rfl rfl (Nat.le_of_ble_eq_true rfl) rfl rfl rfl (rt_within_t (q := 1) (n := 3) (by decide) (by decide) (by omega)) (fun r h3 q4 => ?_)
  obtain ⟨rfl, rfl⟩ := q4
  refine go_ifP (t' := 44) (pc' := 16) rfl rfl rfl (fun (c : (1 : Int32) = 0) => absurd c (by decide)) (fun _ => ?_)
  refine go_s (pc' := 17) rfl rfl rfl rfl ?_
  refine go_ifP (t' := 27) (pc' := 18) rfl rfl rfl (fun (c : ¬ (0 : Int32) = 0) => absurd c (by decide)) (fun _ => ?_)
  refine go_s (pc' := 19) rfl rfl rfl rfl ?_
  refine go_sget (pc' := 20) (v := .ref 63) hS rfl rfl rfl (by decide) rfl rfl ?_
  refine go_s (pc' := 21) rfl rfl rfl rfl ?_
  refine go_sald (pc' := 22) (q := 1) (v := .int (J 0 1)) hS rfl (tr_s hr (a := 63) rfl (by decide)) rfl rfl (by decide) rfl rfl ?_
  refine go_ifP (t' := 25) (pc' := 23) rfl rfl rfl (fun (c5 : (J 0 1) = 0) => ?_) (fun (c5 : ¬ (J 0 1) = 0) => ?_)
  · skip
    refine go_s (pc' := 26) (st' := [.int 0]) rfl rfl rfl rfl ?_
    refine go_s (pc' := 43) rfl rfl rfl rfl ?_
    refine go_ret rfl rfl ?_
    exact ⟨by show _ = some (Value.int (bI (J 0 1))); simp [bI, c5], rfl⟩
  · skip
    refine go_s (pc' := 24) (st' := [.int 1]) rfl rfl rfl rfl ?_
    refine go_s (pc' := 43) rfl rfl rfl rfl ?_
    refine go_ret rfl rfl ?_
    exact ⟨by show _ = some (Value.int (bI (J 0 1))); simp [bI, c5], rfl⟩
theorem rq_prt_1_1 {w : Nat → Bool} {d : Nat} {h : am_Hp} {J : sm_I} {Y : sm_X} {am lm as_ ls : Nat} (hr : rk am as_) (hS : sm (tbr am lm as_ ls) h J Y) {Q : mQ} {Z : mZ} (hd : 3 ≤ d) : am_Ev (am_prog w) d 188 [.ref 62, .int 1, .int 1] h (fun r h' => r = some (.int (mqpt 1 1 (J, Q, Z))) ∧ h' = h) := by
  obtain ⟨d, rfl⟩ : ∃ e, d = e + 1 := ⟨d - 1, by omega⟩
  refine ev_go rfl (Nat.le_of_ble_eq_true rfl) rfl ?_
  refine go_s (pc' := 1) rfl rfl rfl rfl ?_
  refine go_s (pc' := 2) (st' := [.int 30, .int 1]) rfl rfl rfl rfl ?_
  refine go_icmpP (t' := 6) (pc' := 3) rfl rfl rfl (fun _ => ?_) (fun (c : ¬ (¬ (1 : Int32) = 30)) => absurd (by decide) c)
  refine go_s (pc' := 7) rfl rfl rfl rfl ?_
  refine go_s (pc' := 8) (st' := [.int 0, .int 1]) rfl rfl rfl rfl ?_
  refine go_s (pc' := 9) (st' := [.int 2, .int 0, .int 1]) rfl rfl rfl rfl ?_
  refine go_callS (pc' := 10) rfl rfl rfl (Nat.le_of_ble_eq_true rfl) rfl rfl rfl (rt_within_t (q := 1) (n := 2) (by decide) (by decide) (by omega)) (fun r h1 q2 => ?_)
  obtain ⟨rfl, rfl⟩ := q2
  refine go_ifP (t' := 44) (pc' := 11) rfl rfl rfl (fun (c : (1 : Int32) = 0) => absurd c (by decide)) (fun _ => ?_)
  refine go_s (pc' := 12) rfl rfl rfl rfl ?_
  refine go_s (pc' := 13) (st' := [.int 0, .int 1]) rfl rfl rfl rfl ?_
  refine go_s (pc' := 14) (st' := [.int 3, .int 0, .int 1]) rfl rfl rfl rfl ?_
  refine go_callS (pc' := 15) rfl rfl rfl (Nat.le_of_ble_eq_true rfl) rfl rfl rfl (rt_within_t (q := 1) (n := 3) (by decide) (by decide) (by omega)) (fun r h3 q4 => ?_)
  obtain ⟨rfl, rfl⟩ := q4
  refine go_ifP (t' := 44) (pc' := 16) rfl rfl rfl (fun (c : (1 : Int32) = 0) => absurd c (by decide)) (fun _ => ?_)
  refine go_s (pc' := 17) rfl rfl rfl rfl ?_
  refine go_ifP (t' := 27) (pc' := 18) rfl rfl rfl (fun _ => ?_) (fun (c : ¬ (¬ (1 : Int32) = 0)) => absurd (by decide) c)
  refine go_s (pc' := 28) rfl rfl rfl rfl ?_
  refine go_s (pc' := 29) (st' := [.int 1, .int 1]) rfl rfl rfl rfl ?_
  refine go_icmpP (t' := 39) (pc' := 30) rfl rfl rfl (fun (c : ¬ (1 : Int32) = 1) => absurd c (by decide)) (fun _ => ?_)
  refine go_s (pc' := 31) rfl rfl rfl rfl ?_
  refine go_sget (pc' := 32) (v := .ref 64) hS rfl rfl rfl (by decide) rfl rfl ?_
  refine go_s (pc' := 33) rfl rfl rfl rfl ?_
  refine go_sald (pc' := 34) (q := 1) (v := .int (J 1 1)) hS rfl (tr_s hr (a := 64) rfl (by decide)) rfl rfl (by decide) rfl rfl ?_
  refine go_ifP (t' := 37) (pc' := 35) rfl rfl rfl (fun (c5 : (J 1 1) = 0) => ?_) (fun (c5 : ¬ (J 1 1) = 0) => ?_)
  · skip
    refine go_s (pc' := 38) (st' := [.int 0]) rfl rfl rfl rfl ?_
    refine go_s (pc' := 43) rfl rfl rfl rfl ?_
    refine go_ret rfl rfl ?_
    exact ⟨by show _ = some (Value.int (bI (J 1 1))); simp [bI, c5], rfl⟩
  · skip
    refine go_s (pc' := 36) (st' := [.int 1]) rfl rfl rfl rfl ?_
    refine go_s (pc' := 43) rfl rfl rfl rfl ?_
    refine go_ret rfl rfl ?_
    exact ⟨by show _ = some (Value.int (bI (J 1 1))); simp [bI, c5], rfl⟩
theorem rq_prt_1_2 {w : Nat → Bool} {d : Nat} {h : am_Hp} {J : sm_I} {Y : sm_X} {am lm as_ ls : Nat} (hr : rk am as_) (hS : sm (tbr am lm as_ ls) h J Y) {Q : mQ} {Z : mZ} (hd : 3 ≤ d) : am_Ev (am_prog w) d 188 [.ref 62, .int 2, .int 1] h (fun r h' => r = some (.int (mqpt 1 2 (J, Q, Z))) ∧ h' = h) := by
  obtain ⟨d, rfl⟩ : ∃ e, d = e + 1 := ⟨d - 1, by omega⟩
  refine ev_go rfl (Nat.le_of_ble_eq_true rfl) rfl ?_
  refine go_s (pc' := 1) rfl rfl rfl rfl ?_
  refine go_s (pc' := 2) (st' := [.int 30, .int 2]) rfl rfl rfl rfl ?_
  refine go_icmpP (t' := 6) (pc' := 3) rfl rfl rfl (fun _ => ?_) (fun (c : ¬ (¬ (2 : Int32) = 30)) => absurd (by decide) c)
  refine go_s (pc' := 7) rfl rfl rfl rfl ?_
  refine go_s (pc' := 8) (st' := [.int 0, .int 2]) rfl rfl rfl rfl ?_
  refine go_s (pc' := 9) (st' := [.int 2, .int 0, .int 2]) rfl rfl rfl rfl ?_
  refine go_callS (pc' := 10) rfl rfl rfl (Nat.le_of_ble_eq_true rfl) rfl rfl rfl (rt_within_t (q := 2) (n := 2) (by decide) (by decide) (by omega)) (fun r h1 q2 => ?_)
  obtain ⟨rfl, rfl⟩ := q2
  refine go_ifP (t' := 44) (pc' := 11) rfl rfl rfl (fun (c : (1 : Int32) = 0) => absurd c (by decide)) (fun _ => ?_)
  refine go_s (pc' := 12) rfl rfl rfl rfl ?_
  refine go_s (pc' := 13) (st' := [.int 0, .int 1]) rfl rfl rfl rfl ?_
  refine go_s (pc' := 14) (st' := [.int 3, .int 0, .int 1]) rfl rfl rfl rfl ?_
  refine go_callS (pc' := 15) rfl rfl rfl (Nat.le_of_ble_eq_true rfl) rfl rfl rfl (rt_within_t (q := 1) (n := 3) (by decide) (by decide) (by omega)) (fun r h3 q4 => ?_)
  obtain ⟨rfl, rfl⟩ := q4
  refine go_ifP (t' := 44) (pc' := 16) rfl rfl rfl (fun (c : (1 : Int32) = 0) => absurd c (by decide)) (fun _ => ?_)
  refine go_s (pc' := 17) rfl rfl rfl rfl ?_
  refine go_ifP (t' := 27) (pc' := 18) rfl rfl rfl (fun _ => ?_) (fun (c : ¬ (¬ (2 : Int32) = 0)) => absurd (by decide) c)
  refine go_s (pc' := 28) rfl rfl rfl rfl ?_
  refine go_s (pc' := 29) (st' := [.int 1, .int 2]) rfl rfl rfl rfl ?_
  refine go_icmpP (t' := 39) (pc' := 30) rfl rfl rfl (fun _ => ?_) (fun (c : ¬ (¬ (2 : Int32) = 1)) => absurd (by decide) c)
  refine go_s (pc' := 40) rfl rfl rfl rfl ?_
  refine go_sget (pc' := 41) (v := .ref 65) hS rfl rfl rfl (by decide) rfl rfl ?_
  refine go_s (pc' := 42) rfl rfl rfl rfl ?_
  refine go_sald (pc' := 43) (q := 1) (v := .int (J 2 1)) hS rfl (tr_s hr (a := 65) rfl (by decide)) rfl rfl (by decide) rfl rfl ?_
  refine go_ret rfl rfl ?_
  exact ⟨rfl, rfl⟩
theorem rq_prt_1_10 {w : Nat → Bool} {d : Nat} {h : am_Hp} {J : sm_I} {Y : sm_X} {am lm as_ ls : Nat} (hr : rk am as_) (hS : sm (tbr am lm as_ ls) h J Y) {Q : mQ} {Z : mZ} (hd : 3 ≤ d) : am_Ev (am_prog w) d 188 [.ref 62, .int 10, .int 1] h (fun r h' => r = some (.int (mqpt 1 10 (J, Q, Z))) ∧ h' = h) := by
  obtain ⟨d, rfl⟩ : ∃ e, d = e + 1 := ⟨d - 1, by omega⟩
  refine ev_go rfl (Nat.le_of_ble_eq_true rfl) rfl ?_
  refine go_s (pc' := 1) rfl rfl rfl rfl ?_
  refine go_s (pc' := 2) (st' := [.int 30, .int 10]) rfl rfl rfl rfl ?_
  refine go_icmpP (t' := 6) (pc' := 3) rfl rfl rfl (fun _ => ?_) (fun (c : ¬ (¬ (10 : Int32) = 30)) => absurd (by decide) c)
  refine go_s (pc' := 7) rfl rfl rfl rfl ?_
  refine go_s (pc' := 8) (st' := [.int 0, .int 10]) rfl rfl rfl rfl ?_
  refine go_s (pc' := 9) (st' := [.int 2, .int 0, .int 10]) rfl rfl rfl rfl ?_
  refine go_callS (pc' := 10) rfl rfl rfl (Nat.le_of_ble_eq_true rfl) rfl rfl rfl (rt_within_f (a := 10) (n := 2) (by decide) (by omega)) (fun r h1 q2 => ?_)
  obtain ⟨rfl, rfl⟩ := q2
  refine go_ifP (t' := 44) (pc' := 11) rfl rfl rfl (fun _ => ?_) (fun (c : ¬ ((0 : Int32) = 0)) => absurd (by decide) c)
  refine go_s (pc' := 45) rfl rfl rfl rfl ?_
  refine go_s (pc' := 46) (st' := [.int 0, .int 1]) rfl rfl rfl rfl ?_
  refine go_s (pc' := 47) (st' := [.int 1, .int 0, .int 1]) rfl rfl rfl rfl ?_
  refine go_callS (pc' := 48) rfl rfl rfl (Nat.le_of_ble_eq_true rfl) rfl rfl rfl (rt_within_t (q := 1) (n := 1) (by decide) (by decide) (by omega)) (fun r h3 q4 => ?_)
  obtain ⟨rfl, rfl⟩ := q4
  refine go_ifP (t' := 51) (pc' := 49) rfl rfl rfl (fun _ => ?_) (fun (c : ¬ (¬ (1 : Int32) = 0)) => absurd (by decide) c)
  refine go_s (pc' := 52) rfl rfl rfl rfl ?_
  refine go_lsw (t' := 53) rfl (by rfl) ?_
  refine go_s (pc' := 54) rfl rfl rfl rfl ?_
  refine go_sget (pc' := 55) (v := .ref 66) hS rfl rfl rfl (by decide) rfl rfl ?_
  refine go_s (pc' := 56) rfl rfl rfl rfl ?_
  refine go_sald (pc' := 57) (q := 1) (v := .int (J 3 1)) hS rfl (tr_s hr (a := 66) rfl (by decide)) rfl rfl (by decide) rfl rfl ?_
  refine go_ifP (t' := 60) (pc' := 58) rfl rfl rfl (fun (c5 : (J 3 1) = 0) => ?_) (fun (c5 : ¬ (J 3 1) = 0) => ?_)
  · skip
    refine go_s (pc' := 61) (st' := [.int 0]) rfl rfl rfl rfl ?_
    refine go_ret rfl rfl ?_
    exact ⟨by show _ = some (Value.int (bI (J 3 1))); simp [bI, c5], rfl⟩
  · skip
    refine go_s (pc' := 59) (st' := [.int 1]) rfl rfl rfl rfl ?_
    refine go_s (pc' := 61) rfl rfl rfl rfl ?_
    refine go_ret rfl rfl ?_
    exact ⟨by show _ = some (Value.int (bI (J 3 1))); simp [bI, c5], rfl⟩
theorem rq_prt_1_20 {w : Nat → Bool} {d : Nat} {h : am_Hp} {J : sm_I} {Y : sm_X} {am lm as_ ls : Nat} (hr : rk am as_) (hS : sm (tbr am lm as_ ls) h J Y) {Q : mQ} {Z : mZ} (hd : 3 ≤ d) : am_Ev (am_prog w) d 188 [.ref 62, .int 20, .int 1] h (fun r h' => r = some (.int (mqpt 1 20 (J, Q, Z))) ∧ h' = h) := by
  obtain ⟨d, rfl⟩ : ∃ e, d = e + 1 := ⟨d - 1, by omega⟩
  refine ev_go rfl (Nat.le_of_ble_eq_true rfl) rfl ?_
  refine go_s (pc' := 1) rfl rfl rfl rfl ?_
  refine go_s (pc' := 2) (st' := [.int 30, .int 20]) rfl rfl rfl rfl ?_
  refine go_icmpP (t' := 6) (pc' := 3) rfl rfl rfl (fun _ => ?_) (fun (c : ¬ (¬ (20 : Int32) = 30)) => absurd (by decide) c)
  refine go_s (pc' := 7) rfl rfl rfl rfl ?_
  refine go_s (pc' := 8) (st' := [.int 0, .int 20]) rfl rfl rfl rfl ?_
  refine go_s (pc' := 9) (st' := [.int 2, .int 0, .int 20]) rfl rfl rfl rfl ?_
  refine go_callS (pc' := 10) rfl rfl rfl (Nat.le_of_ble_eq_true rfl) rfl rfl rfl (rt_within_f (a := 20) (n := 2) (by decide) (by omega)) (fun r h1 q2 => ?_)
  obtain ⟨rfl, rfl⟩ := q2
  refine go_ifP (t' := 44) (pc' := 11) rfl rfl rfl (fun _ => ?_) (fun (c : ¬ ((0 : Int32) = 0)) => absurd (by decide) c)
  refine go_s (pc' := 45) rfl rfl rfl rfl ?_
  refine go_s (pc' := 46) (st' := [.int 0, .int 1]) rfl rfl rfl rfl ?_
  refine go_s (pc' := 47) (st' := [.int 1, .int 0, .int 1]) rfl rfl rfl rfl ?_
  refine go_callS (pc' := 48) rfl rfl rfl (Nat.le_of_ble_eq_true rfl) rfl rfl rfl (rt_within_t (q := 1) (n := 1) (by decide) (by decide) (by omega)) (fun r h3 q4 => ?_)
  obtain ⟨rfl, rfl⟩ := q4
  refine go_ifP (t' := 51) (pc' := 49) rfl rfl rfl (fun _ => ?_) (fun (c : ¬ (¬ (1 : Int32) = 0)) => absurd (by decide) c)
  refine go_s (pc' := 52) rfl rfl rfl rfl ?_
  refine go_lsw (t' := 62) rfl (by rfl) ?_
  refine go_s (pc' := 63) rfl rfl rfl rfl ?_
  refine go_sget (pc' := 64) (v := .ref 67) hS rfl rfl rfl (by decide) rfl rfl ?_
  refine go_s (pc' := 65) rfl rfl rfl rfl ?_
  refine go_sald (pc' := 66) (q := 1) (v := .int (J 4 1)) hS rfl (tr_s hr (a := 67) rfl (by decide)) rfl rfl (by decide) rfl rfl ?_
  refine go_ifP (t' := 69) (pc' := 67) rfl rfl rfl (fun (c5 : (J 4 1) = 0) => ?_) (fun (c5 : ¬ (J 4 1) = 0) => ?_)
  · skip
    refine go_s (pc' := 70) (st' := [.int 0]) rfl rfl rfl rfl ?_
    refine go_ret rfl rfl ?_
    exact ⟨by show _ = some (Value.int (bI (J 4 1))); simp [bI, c5], rfl⟩
  · skip
    refine go_s (pc' := 68) (st' := [.int 1]) rfl rfl rfl rfl ?_
    refine go_s (pc' := 70) rfl rfl rfl rfl ?_
    refine go_ret rfl rfl ?_
    exact ⟨by show _ = some (Value.int (bI (J 4 1))); simp [bI, c5], rfl⟩
theorem rq_prt_1_21 {w : Nat → Bool} {d : Nat} {h : am_Hp} {J : sm_I} {Y : sm_X} {am lm as_ ls : Nat} (hr : rk am as_) (hS : sm (tbr am lm as_ ls) h J Y) {Q : mQ} {Z : mZ} (hd : 3 ≤ d) : am_Ev (am_prog w) d 188 [.ref 62, .int 21, .int 1] h (fun r h' => r = some (.int (mqpt 1 21 (J, Q, Z))) ∧ h' = h) := by
  obtain ⟨d, rfl⟩ : ∃ e, d = e + 1 := ⟨d - 1, by omega⟩
  refine ev_go rfl (Nat.le_of_ble_eq_true rfl) rfl ?_
  refine go_s (pc' := 1) rfl rfl rfl rfl ?_
  refine go_s (pc' := 2) (st' := [.int 30, .int 21]) rfl rfl rfl rfl ?_
  refine go_icmpP (t' := 6) (pc' := 3) rfl rfl rfl (fun _ => ?_) (fun (c : ¬ (¬ (21 : Int32) = 30)) => absurd (by decide) c)
  refine go_s (pc' := 7) rfl rfl rfl rfl ?_
  refine go_s (pc' := 8) (st' := [.int 0, .int 21]) rfl rfl rfl rfl ?_
  refine go_s (pc' := 9) (st' := [.int 2, .int 0, .int 21]) rfl rfl rfl rfl ?_
  refine go_callS (pc' := 10) rfl rfl rfl (Nat.le_of_ble_eq_true rfl) rfl rfl rfl (rt_within_f (a := 21) (n := 2) (by decide) (by omega)) (fun r h1 q2 => ?_)
  obtain ⟨rfl, rfl⟩ := q2
  refine go_ifP (t' := 44) (pc' := 11) rfl rfl rfl (fun _ => ?_) (fun (c : ¬ ((0 : Int32) = 0)) => absurd (by decide) c)
  refine go_s (pc' := 45) rfl rfl rfl rfl ?_
  refine go_s (pc' := 46) (st' := [.int 0, .int 1]) rfl rfl rfl rfl ?_
  refine go_s (pc' := 47) (st' := [.int 1, .int 0, .int 1]) rfl rfl rfl rfl ?_
  refine go_callS (pc' := 48) rfl rfl rfl (Nat.le_of_ble_eq_true rfl) rfl rfl rfl (rt_within_t (q := 1) (n := 1) (by decide) (by decide) (by omega)) (fun r h3 q4 => ?_)
  obtain ⟨rfl, rfl⟩ := q4
  refine go_ifP (t' := 51) (pc' := 49) rfl rfl rfl (fun _ => ?_) (fun (c : ¬ (¬ (1 : Int32) = 0)) => absurd (by decide) c)
  refine go_s (pc' := 52) rfl rfl rfl rfl ?_
  refine go_lsw (t' := 71) rfl (by rfl) ?_
  refine go_s (pc' := 72) rfl rfl rfl rfl ?_
  refine go_sget (pc' := 73) (v := .ref 68) hS rfl rfl rfl (by decide) rfl rfl ?_
  refine go_s (pc' := 74) rfl rfl rfl rfl ?_
  refine go_sald (pc' := 75) (q := 1) (v := .int (J 5 1)) hS rfl (tr_s hr (a := 68) rfl (by decide)) rfl rfl (by decide) rfl rfl ?_
  refine go_ifP (t' := 78) (pc' := 76) rfl rfl rfl (fun (c5 : (J 5 1) = 0) => ?_) (fun (c5 : ¬ (J 5 1) = 0) => ?_)
  · skip
    refine go_s (pc' := 79) (st' := [.int 0]) rfl rfl rfl rfl ?_
    refine go_ret rfl rfl ?_
    exact ⟨by show _ = some (Value.int (bI (J 5 1))); simp [bI, c5], rfl⟩
  · skip
    refine go_s (pc' := 77) (st' := [.int 1]) rfl rfl rfl rfl ?_
    refine go_s (pc' := 79) rfl rfl rfl rfl ?_
    refine go_ret rfl rfl ?_
    exact ⟨by show _ = some (Value.int (bI (J 5 1))); simp [bI, c5], rfl⟩
theorem rq_prt_1_22 {w : Nat → Bool} {d : Nat} {h : am_Hp} {J : sm_I} {Y : sm_X} {am lm as_ ls : Nat} (hr : rk am as_) (hS : sm (tbr am lm as_ ls) h J Y) {Q : mQ} {Z : mZ} (hd : 3 ≤ d) : am_Ev (am_prog w) d 188 [.ref 62, .int 22, .int 1] h (fun r h' => r = some (.int (mqpt 1 22 (J, Q, Z))) ∧ h' = h) := by
  obtain ⟨d, rfl⟩ : ∃ e, d = e + 1 := ⟨d - 1, by omega⟩
  refine ev_go rfl (Nat.le_of_ble_eq_true rfl) rfl ?_
  refine go_s (pc' := 1) rfl rfl rfl rfl ?_
  refine go_s (pc' := 2) (st' := [.int 30, .int 22]) rfl rfl rfl rfl ?_
  refine go_icmpP (t' := 6) (pc' := 3) rfl rfl rfl (fun _ => ?_) (fun (c : ¬ (¬ (22 : Int32) = 30)) => absurd (by decide) c)
  refine go_s (pc' := 7) rfl rfl rfl rfl ?_
  refine go_s (pc' := 8) (st' := [.int 0, .int 22]) rfl rfl rfl rfl ?_
  refine go_s (pc' := 9) (st' := [.int 2, .int 0, .int 22]) rfl rfl rfl rfl ?_
  refine go_callS (pc' := 10) rfl rfl rfl (Nat.le_of_ble_eq_true rfl) rfl rfl rfl (rt_within_f (a := 22) (n := 2) (by decide) (by omega)) (fun r h1 q2 => ?_)
  obtain ⟨rfl, rfl⟩ := q2
  refine go_ifP (t' := 44) (pc' := 11) rfl rfl rfl (fun _ => ?_) (fun (c : ¬ ((0 : Int32) = 0)) => absurd (by decide) c)
  refine go_s (pc' := 45) rfl rfl rfl rfl ?_
  refine go_s (pc' := 46) (st' := [.int 0, .int 1]) rfl rfl rfl rfl ?_
  refine go_s (pc' := 47) (st' := [.int 1, .int 0, .int 1]) rfl rfl rfl rfl ?_
  refine go_callS (pc' := 48) rfl rfl rfl (Nat.le_of_ble_eq_true rfl) rfl rfl rfl (rt_within_t (q := 1) (n := 1) (by decide) (by decide) (by omega)) (fun r h3 q4 => ?_)
  obtain ⟨rfl, rfl⟩ := q4
  refine go_ifP (t' := 51) (pc' := 49) rfl rfl rfl (fun _ => ?_) (fun (c : ¬ (¬ (1 : Int32) = 0)) => absurd (by decide) c)
  refine go_s (pc' := 52) rfl rfl rfl rfl ?_
  refine go_lsw (t' := 80) rfl (by rfl) ?_
  refine go_s (pc' := 81) rfl rfl rfl rfl ?_
  refine go_s (pc' := 82) rfl rfl rfl rfl ?_
  refine go_callV (pc' := 83) rfl rfl rfl (Nat.le_of_ble_eq_true rfl) rfl (sm_o hS rfl) rfl rfl rfl (rt_rv_1 hr hS (by omega)) (fun r h5 q6 => ?_)
  obtain ⟨rfl, rfl⟩ := q6
  cases u7 : rv J 1
  · skip
    show am_Go _ _ _ _ 83 _ [.int 0] _ _
    refine go_ifP (t' := 89) (pc' := 84) rfl rfl rfl (fun _ => ?_) (fun (c : ¬ ((0 : Int32) = 0)) => absurd (by decide) c)
    refine go_s (pc' := 90) (st' := [.int (-1)]) rfl rfl rfl rfl ?_
    refine go_ret rfl rfl ?_
    exact ⟨by show _ = some (Value.int (if rv J 1 = true then J 6 1 else -1)); simp [u7], rfl⟩
  · skip
    show am_Go _ _ _ _ 83 _ [.int 1] _ _
    refine go_ifP (t' := 89) (pc' := 84) rfl rfl rfl (fun (c : (1 : Int32) = 0) => absurd c (by decide)) (fun _ => ?_)
    refine go_s (pc' := 85) rfl rfl rfl rfl ?_
    refine go_sget (pc' := 86) (v := .ref 69) hS rfl rfl rfl (by decide) rfl rfl ?_
    refine go_s (pc' := 87) rfl rfl rfl rfl ?_
    refine go_sald (pc' := 88) (q := 1) (v := .int (J 6 1)) hS rfl (tr_s hr (a := 69) rfl (by decide)) rfl rfl (by decide) rfl rfl ?_
    refine go_s (pc' := 90) rfl rfl rfl rfl ?_
    refine go_ret rfl rfl ?_
    exact ⟨by show _ = some (Value.int (if rv J 1 = true then J 6 1 else -1)); simp [u7], rfl⟩
theorem rq_prt_1_n {w : Nat → Bool} {d : Nat} {h : am_Hp} {J : sm_I} {Y : sm_X} {am lm as_ ls : Nat} (hr : rk am as_) (hS : sm (tbr am lm as_ ls) h J Y) {Q : mQ} {Z : mZ} {x : Int32} (x30 : ¬ x = 30) (x0 : ¬ x = 0) (x1 : ¬ x = 1) (x2 : ¬ x = 2) (x10 : ¬ x = 10) (x20 : ¬ x = 20) (x21 : ¬ x = 21) (x22 : ¬ x = 22) (hd : 3 ≤ d) : am_Ev (am_prog w) d 188 [.ref 62, .int x, .int 1] h (fun r h' => r = some (.int (mqpt 1 x (J, Q, Z))) ∧ h' = h) := by
  obtain ⟨d, rfl⟩ : ∃ e, d = e + 1 := ⟨d - 1, by omega⟩
  refine ev_go rfl (Nat.le_of_ble_eq_true rfl) rfl ?_
  refine go_s (pc' := 1) rfl rfl rfl rfl ?_
  refine go_s (pc' := 2) (st' := [.int 30, .int x]) rfl rfl rfl rfl ?_
  refine go_icmpP (t' := 6) (pc' := 3) rfl rfl rfl (fun _ => ?_) (fun (c : ¬ (¬ x = 30)) => absurd x30 c)
  refine go_s (pc' := 7) rfl rfl rfl rfl ?_
  refine go_s (pc' := 8) (st' := [.int 0, .int x]) rfl rfl rfl rfl ?_
  refine go_s (pc' := 9) (st' := [.int 2, .int 0, .int x]) rfl rfl rfl rfl ?_
  refine go_callS (pc' := 10) rfl rfl rfl (Nat.le_of_ble_eq_true rfl) rfl rfl rfl (rt_within_f (a := x) (n := 2) (out_3 x0 x1 x2) (by omega)) (fun r h1 q2 => ?_)
  obtain ⟨rfl, rfl⟩ := q2
  refine go_ifP (t' := 44) (pc' := 11) rfl rfl rfl (fun _ => ?_) (fun (c : ¬ ((0 : Int32) = 0)) => absurd (by decide) c)
  refine go_s (pc' := 45) rfl rfl rfl rfl ?_
  refine go_s (pc' := 46) (st' := [.int 0, .int 1]) rfl rfl rfl rfl ?_
  refine go_s (pc' := 47) (st' := [.int 1, .int 0, .int 1]) rfl rfl rfl rfl ?_
  refine go_callS (pc' := 48) rfl rfl rfl (Nat.le_of_ble_eq_true rfl) rfl rfl rfl (rt_within_t (q := 1) (n := 1) (by decide) (by decide) (by omega)) (fun r h3 q4 => ?_)
  obtain ⟨rfl, rfl⟩ := q4
  refine go_ifP (t' := 51) (pc' := 49) rfl rfl rfl (fun _ => ?_) (fun (c : ¬ (¬ (1 : Int32) = 0)) => absurd (by decide) c)
  refine go_s (pc' := 52) rfl rfl rfl rfl ?_
  refine go_lsw (t' := 91) rfl (by rw [← Int32.toInt_inj] at x10 x20 x21 x22; simp at x10 x20 x21 x22; simp [Op.lookupswitch.offset, x10, x20, x21, x22, Ne.symm x10, Ne.symm x20, Ne.symm x21, Ne.symm x22]) ?_
  refine go_s (pc' := 92) (st' := [.int (-1)]) rfl rfl rfl rfl ?_
  refine go_ret rfl rfl ?_
  exact ⟨by unfold mqpt; simp [x30, x0, x1, x2, x10, x20, x21, x22], rfl⟩
theorem rq_prt_2_30 {w : Nat → Bool} {d : Nat} {h : am_Hp} {J : sm_I} {Y : sm_X} {am lm as_ ls : Nat} (hr : rk am as_) (hS : sm (tbr am lm as_ ls) h J Y) {Q : mQ} {Z : mZ} (hd : 3 ≤ d) : am_Ev (am_prog w) d 188 [.ref 62, .int 30, .int 2] h (fun r h' => r = some (.int (mqpt 2 30 (J, Q, Z))) ∧ h' = h) := by
  obtain ⟨d, rfl⟩ : ∃ e, d = e + 1 := ⟨d - 1, by omega⟩
  refine ev_go rfl (Nat.le_of_ble_eq_true rfl) rfl ?_
  refine go_s (pc' := 1) rfl rfl rfl rfl ?_
  refine go_s (pc' := 2) (st' := [.int 30, .int 30]) rfl rfl rfl rfl ?_
  refine go_icmpP (t' := 6) (pc' := 3) rfl rfl rfl (fun (c : ¬ (30 : Int32) = 30) => absurd c (by decide)) (fun _ => ?_)
  refine go_s (pc' := 4) rfl rfl rfl rfl ?_
  refine go_sget (pc' := 5) (v := .int (J 8 0)) hS rfl rfl rfl (by decide) rfl rfl ?_
  refine go_ret rfl rfl ?_
  exact ⟨rfl, rfl⟩
theorem rq_prt_2_0 {w : Nat → Bool} {d : Nat} {h : am_Hp} {J : sm_I} {Y : sm_X} {am lm as_ ls : Nat} (hr : rk am as_) (hS : sm (tbr am lm as_ ls) h J Y) {Q : mQ} {Z : mZ} (hd : 3 ≤ d) : am_Ev (am_prog w) d 188 [.ref 62, .int 0, .int 2] h (fun r h' => r = some (.int (mqpt 2 0 (J, Q, Z))) ∧ h' = h) := by
  obtain ⟨d, rfl⟩ : ∃ e, d = e + 1 := ⟨d - 1, by omega⟩
  refine ev_go rfl (Nat.le_of_ble_eq_true rfl) rfl ?_
  refine go_s (pc' := 1) rfl rfl rfl rfl ?_
  refine go_s (pc' := 2) (st' := [.int 30, .int 0]) rfl rfl rfl rfl ?_
  refine go_icmpP (t' := 6) (pc' := 3) rfl rfl rfl (fun _ => ?_) (fun (c : ¬ (¬ (0 : Int32) = 30)) => absurd (by decide) c)
  refine go_s (pc' := 7) rfl rfl rfl rfl ?_
  refine go_s (pc' := 8) (st' := [.int 0, .int 0]) rfl rfl rfl rfl ?_
  refine go_s (pc' := 9) (st' := [.int 2, .int 0, .int 0]) rfl rfl rfl rfl ?_
  refine go_callS (pc' := 10) rfl rfl rfl (Nat.le_of_ble_eq_true rfl) rfl rfl rfl (rt_within_t (q := 0) (n := 2) (by decide) (by decide) (by omega)) (fun r h1 q2 => ?_)
  obtain ⟨rfl, rfl⟩ := q2
  refine go_ifP (t' := 44) (pc' := 11) rfl rfl rfl (fun (c : (1 : Int32) = 0) => absurd c (by decide)) (fun _ => ?_)
  refine go_s (pc' := 12) rfl rfl rfl rfl ?_
  refine go_s (pc' := 13) (st' := [.int 0, .int 2]) rfl rfl rfl rfl ?_
  refine go_s (pc' := 14) (st' := [.int 3, .int 0, .int 2]) rfl rfl rfl rfl ?_
  refine go_callS (pc' := 15) rfl rfl rfl (Nat.le_of_ble_eq_true rfl) rfl rfl rfl (rt_within_t (q := 2) (n := 3) (by decide) (by decide) (by omega)) (fun r h3 q4 => ?_)
  obtain ⟨rfl, rfl⟩ := q4
  refine go_ifP (t' := 44) (pc' := 16) rfl rfl rfl (fun (c : (1 : Int32) = 0) => absurd c (by decide)) (fun _ => ?_)
  refine go_s (pc' := 17) rfl rfl rfl rfl ?_
  refine go_ifP (t' := 27) (pc' := 18) rfl rfl rfl (fun (c : ¬ (0 : Int32) = 0) => absurd c (by decide)) (fun _ => ?_)
  refine go_s (pc' := 19) rfl rfl rfl rfl ?_
  refine go_sget (pc' := 20) (v := .ref 63) hS rfl rfl rfl (by decide) rfl rfl ?_
  refine go_s (pc' := 21) rfl rfl rfl rfl ?_
  refine go_sald (pc' := 22) (q := 2) (v := .int (J 0 2)) hS rfl (tr_s hr (a := 63) rfl (by decide)) rfl rfl (by decide) rfl rfl ?_
  refine go_ifP (t' := 25) (pc' := 23) rfl rfl rfl (fun (c5 : (J 0 2) = 0) => ?_) (fun (c5 : ¬ (J 0 2) = 0) => ?_)
  · skip
    refine go_s (pc' := 26) (st' := [.int 0]) rfl rfl rfl rfl ?_
    refine go_s (pc' := 43) rfl rfl rfl rfl ?_
    refine go_ret rfl rfl ?_
    exact ⟨by show _ = some (Value.int (bI (J 0 2))); simp [bI, c5], rfl⟩
  · skip
    refine go_s (pc' := 24) (st' := [.int 1]) rfl rfl rfl rfl ?_
    refine go_s (pc' := 43) rfl rfl rfl rfl ?_
    refine go_ret rfl rfl ?_
    exact ⟨by show _ = some (Value.int (bI (J 0 2))); simp [bI, c5], rfl⟩
theorem rq_prt_2_1 {w : Nat → Bool} {d : Nat} {h : am_Hp} {J : sm_I} {Y : sm_X} {am lm as_ ls : Nat} (hr : rk am as_) (hS : sm (tbr am lm as_ ls) h J Y) {Q : mQ} {Z : mZ} (hd : 3 ≤ d) : am_Ev (am_prog w) d 188 [.ref 62, .int 1, .int 2] h (fun r h' => r = some (.int (mqpt 2 1 (J, Q, Z))) ∧ h' = h) := by
  obtain ⟨d, rfl⟩ : ∃ e, d = e + 1 := ⟨d - 1, by omega⟩
  refine ev_go rfl (Nat.le_of_ble_eq_true rfl) rfl ?_
  refine go_s (pc' := 1) rfl rfl rfl rfl ?_
  refine go_s (pc' := 2) (st' := [.int 30, .int 1]) rfl rfl rfl rfl ?_
  refine go_icmpP (t' := 6) (pc' := 3) rfl rfl rfl (fun _ => ?_) (fun (c : ¬ (¬ (1 : Int32) = 30)) => absurd (by decide) c)
  refine go_s (pc' := 7) rfl rfl rfl rfl ?_
  refine go_s (pc' := 8) (st' := [.int 0, .int 1]) rfl rfl rfl rfl ?_
  refine go_s (pc' := 9) (st' := [.int 2, .int 0, .int 1]) rfl rfl rfl rfl ?_
  refine go_callS (pc' := 10) rfl rfl rfl (Nat.le_of_ble_eq_true rfl) rfl rfl rfl (rt_within_t (q := 1) (n := 2) (by decide) (by decide) (by omega)) (fun r h1 q2 => ?_)
  obtain ⟨rfl, rfl⟩ := q2
  refine go_ifP (t' := 44) (pc' := 11) rfl rfl rfl (fun (c : (1 : Int32) = 0) => absurd c (by decide)) (fun _ => ?_)
  refine go_s (pc' := 12) rfl rfl rfl rfl ?_
  refine go_s (pc' := 13) (st' := [.int 0, .int 2]) rfl rfl rfl rfl ?_
  refine go_s (pc' := 14) (st' := [.int 3, .int 0, .int 2]) rfl rfl rfl rfl ?_
  refine go_callS (pc' := 15) rfl rfl rfl (Nat.le_of_ble_eq_true rfl) rfl rfl rfl (rt_within_t (q := 2) (n := 3) (by decide) (by decide) (by omega)) (fun r h3 q4 => ?_)
  obtain ⟨rfl, rfl⟩ := q4
  refine go_ifP (t' := 44) (pc' := 16) rfl rfl rfl (fun (c : (1 : Int32) = 0) => absurd c (by decide)) (fun _ => ?_)
  refine go_s (pc' := 17) rfl rfl rfl rfl ?_
  refine go_ifP (t' := 27) (pc' := 18) rfl rfl rfl (fun _ => ?_) (fun (c : ¬ (¬ (1 : Int32) = 0)) => absurd (by decide) c)
  refine go_s (pc' := 28) rfl rfl rfl rfl ?_
  refine go_s (pc' := 29) (st' := [.int 1, .int 1]) rfl rfl rfl rfl ?_
  refine go_icmpP (t' := 39) (pc' := 30) rfl rfl rfl (fun (c : ¬ (1 : Int32) = 1) => absurd c (by decide)) (fun _ => ?_)
  refine go_s (pc' := 31) rfl rfl rfl rfl ?_
  refine go_sget (pc' := 32) (v := .ref 64) hS rfl rfl rfl (by decide) rfl rfl ?_
  refine go_s (pc' := 33) rfl rfl rfl rfl ?_
  refine go_sald (pc' := 34) (q := 2) (v := .int (J 1 2)) hS rfl (tr_s hr (a := 64) rfl (by decide)) rfl rfl (by decide) rfl rfl ?_
  refine go_ifP (t' := 37) (pc' := 35) rfl rfl rfl (fun (c5 : (J 1 2) = 0) => ?_) (fun (c5 : ¬ (J 1 2) = 0) => ?_)
  · skip
    refine go_s (pc' := 38) (st' := [.int 0]) rfl rfl rfl rfl ?_
    refine go_s (pc' := 43) rfl rfl rfl rfl ?_
    refine go_ret rfl rfl ?_
    exact ⟨by show _ = some (Value.int (bI (J 1 2))); simp [bI, c5], rfl⟩
  · skip
    refine go_s (pc' := 36) (st' := [.int 1]) rfl rfl rfl rfl ?_
    refine go_s (pc' := 43) rfl rfl rfl rfl ?_
    refine go_ret rfl rfl ?_
    exact ⟨by show _ = some (Value.int (bI (J 1 2))); simp [bI, c5], rfl⟩
theorem rq_prt_2_2 {w : Nat → Bool} {d : Nat} {h : am_Hp} {J : sm_I} {Y : sm_X} {am lm as_ ls : Nat} (hr : rk am as_) (hS : sm (tbr am lm as_ ls) h J Y) {Q : mQ} {Z : mZ} (hd : 3 ≤ d) : am_Ev (am_prog w) d 188 [.ref 62, .int 2, .int 2] h (fun r h' => r = some (.int (mqpt 2 2 (J, Q, Z))) ∧ h' = h) := by
  obtain ⟨d, rfl⟩ : ∃ e, d = e + 1 := ⟨d - 1, by omega⟩
  refine ev_go rfl (Nat.le_of_ble_eq_true rfl) rfl ?_
  refine go_s (pc' := 1) rfl rfl rfl rfl ?_
  refine go_s (pc' := 2) (st' := [.int 30, .int 2]) rfl rfl rfl rfl ?_
  refine go_icmpP (t' := 6) (pc' := 3) rfl rfl rfl (fun _ => ?_) (fun (c : ¬ (¬ (2 : Int32) = 30)) => absurd (by decide) c)
  refine go_s (pc' := 7) rfl rfl rfl rfl ?_
  refine go_s (pc' := 8) (st' := [.int 0, .int 2]) rfl rfl rfl rfl ?_
  refine go_s (pc' := 9) (st' := [.int 2, .int 0, .int 2]) rfl rfl rfl rfl ?_
  refine go_callS (pc' := 10) rfl rfl rfl (Nat.le_of_ble_eq_true rfl) rfl rfl rfl (rt_within_t (q := 2) (n := 2) (by decide) (by decide) (by omega)) (fun r h1 q2 => ?_)
  obtain ⟨rfl, rfl⟩ := q2
  refine go_ifP (t' := 44) (pc' := 11) rfl rfl rfl (fun (c : (1 : Int32) = 0) => absurd c (by decide)) (fun _ => ?_)
  refine go_s (pc' := 12) rfl rfl rfl rfl ?_
  refine go_s (pc' := 13) (st' := [.int 0, .int 2]) rfl rfl rfl rfl ?_
  refine go_s (pc' := 14) (st' := [.int 3, .int 0, .int 2]) rfl rfl rfl rfl ?_
  refine go_callS (pc' := 15) rfl rfl rfl (Nat.le_of_ble_eq_true rfl) rfl rfl rfl (rt_within_t (q := 2) (n := 3) (by decide) (by decide) (by omega)) (fun r h3 q4 => ?_)
  obtain ⟨rfl, rfl⟩ := q4
  refine go_ifP (t' := 44) (pc' := 16) rfl rfl rfl (fun (c : (1 : Int32) = 0) => absurd c (by decide)) (fun _ => ?_)
  refine go_s (pc' := 17) rfl rfl rfl rfl ?_
  refine go_ifP (t' := 27) (pc' := 18) rfl rfl rfl (fun _ => ?_) (fun (c : ¬ (¬ (2 : Int32) = 0)) => absurd (by decide) c)
  refine go_s (pc' := 28) rfl rfl rfl rfl ?_
  refine go_s (pc' := 29) (st' := [.int 1, .int 2]) rfl rfl rfl rfl ?_
  refine go_icmpP (t' := 39) (pc' := 30) rfl rfl rfl (fun _ => ?_) (fun (c : ¬ (¬ (2 : Int32) = 1)) => absurd (by decide) c)
  refine go_s (pc' := 40) rfl rfl rfl rfl ?_
  refine go_sget (pc' := 41) (v := .ref 65) hS rfl rfl rfl (by decide) rfl rfl ?_
  refine go_s (pc' := 42) rfl rfl rfl rfl ?_
  refine go_sald (pc' := 43) (q := 2) (v := .int (J 2 2)) hS rfl (tr_s hr (a := 65) rfl (by decide)) rfl rfl (by decide) rfl rfl ?_
  refine go_ret rfl rfl ?_
  exact ⟨rfl, rfl⟩
theorem rq_prt_2_10 {w : Nat → Bool} {d : Nat} {h : am_Hp} {J : sm_I} {Y : sm_X} {am lm as_ ls : Nat} (hr : rk am as_) (hS : sm (tbr am lm as_ ls) h J Y) {Q : mQ} {Z : mZ} (hd : 3 ≤ d) : am_Ev (am_prog w) d 188 [.ref 62, .int 10, .int 2] h (fun r h' => r = some (.int (mqpt 2 10 (J, Q, Z))) ∧ h' = h) := by
  obtain ⟨d, rfl⟩ : ∃ e, d = e + 1 := ⟨d - 1, by omega⟩
  refine ev_go rfl (Nat.le_of_ble_eq_true rfl) rfl ?_
  refine go_s (pc' := 1) rfl rfl rfl rfl ?_
  refine go_s (pc' := 2) (st' := [.int 30, .int 10]) rfl rfl rfl rfl ?_
  refine go_icmpP (t' := 6) (pc' := 3) rfl rfl rfl (fun _ => ?_) (fun (c : ¬ (¬ (10 : Int32) = 30)) => absurd (by decide) c)
  refine go_s (pc' := 7) rfl rfl rfl rfl ?_
  refine go_s (pc' := 8) (st' := [.int 0, .int 10]) rfl rfl rfl rfl ?_
  refine go_s (pc' := 9) (st' := [.int 2, .int 0, .int 10]) rfl rfl rfl rfl ?_
  refine go_callS (pc' := 10) rfl rfl rfl (Nat.le_of_ble_eq_true rfl) rfl rfl rfl (rt_within_f (a := 10) (n := 2) (by decide) (by omega)) (fun r h1 q2 => ?_)
  obtain ⟨rfl, rfl⟩ := q2
  refine go_ifP (t' := 44) (pc' := 11) rfl rfl rfl (fun _ => ?_) (fun (c : ¬ ((0 : Int32) = 0)) => absurd (by decide) c)
  refine go_s (pc' := 45) rfl rfl rfl rfl ?_
  refine go_s (pc' := 46) (st' := [.int 0, .int 2]) rfl rfl rfl rfl ?_
  refine go_s (pc' := 47) (st' := [.int 1, .int 0, .int 2]) rfl rfl rfl rfl ?_
  refine go_callS (pc' := 48) rfl rfl rfl (Nat.le_of_ble_eq_true rfl) rfl rfl rfl (rt_within_f (a := 2) (n := 1) (by decide) (by omega)) (fun r h3 q4 => ?_)
  obtain ⟨rfl, rfl⟩ := q4
  refine go_ifP (t' := 51) (pc' := 49) rfl rfl rfl (fun (c : ¬ (0 : Int32) = 0) => absurd c (by decide)) (fun _ => ?_)
  refine go_s (pc' := 50) (st' := [.int (-1)]) rfl rfl rfl rfl ?_
  refine go_ret rfl rfl ?_
  exact ⟨rfl, rfl⟩
theorem rq_prt_2_20 {w : Nat → Bool} {d : Nat} {h : am_Hp} {J : sm_I} {Y : sm_X} {am lm as_ ls : Nat} (hr : rk am as_) (hS : sm (tbr am lm as_ ls) h J Y) {Q : mQ} {Z : mZ} (hd : 3 ≤ d) : am_Ev (am_prog w) d 188 [.ref 62, .int 20, .int 2] h (fun r h' => r = some (.int (mqpt 2 20 (J, Q, Z))) ∧ h' = h) := by
  obtain ⟨d, rfl⟩ : ∃ e, d = e + 1 := ⟨d - 1, by omega⟩
  refine ev_go rfl (Nat.le_of_ble_eq_true rfl) rfl ?_
  refine go_s (pc' := 1) rfl rfl rfl rfl ?_
  refine go_s (pc' := 2) (st' := [.int 30, .int 20]) rfl rfl rfl rfl ?_
  refine go_icmpP (t' := 6) (pc' := 3) rfl rfl rfl (fun _ => ?_) (fun (c : ¬ (¬ (20 : Int32) = 30)) => absurd (by decide) c)
  refine go_s (pc' := 7) rfl rfl rfl rfl ?_
  refine go_s (pc' := 8) (st' := [.int 0, .int 20]) rfl rfl rfl rfl ?_
  refine go_s (pc' := 9) (st' := [.int 2, .int 0, .int 20]) rfl rfl rfl rfl ?_
  refine go_callS (pc' := 10) rfl rfl rfl (Nat.le_of_ble_eq_true rfl) rfl rfl rfl (rt_within_f (a := 20) (n := 2) (by decide) (by omega)) (fun r h1 q2 => ?_)
  obtain ⟨rfl, rfl⟩ := q2
  refine go_ifP (t' := 44) (pc' := 11) rfl rfl rfl (fun _ => ?_) (fun (c : ¬ ((0 : Int32) = 0)) => absurd (by decide) c)
  refine go_s (pc' := 45) rfl rfl rfl rfl ?_
  refine go_s (pc' := 46) (st' := [.int 0, .int 2]) rfl rfl rfl rfl ?_
  refine go_s (pc' := 47) (st' := [.int 1, .int 0, .int 2]) rfl rfl rfl rfl ?_
  refine go_callS (pc' := 48) rfl rfl rfl (Nat.le_of_ble_eq_true rfl) rfl rfl rfl (rt_within_f (a := 2) (n := 1) (by decide) (by omega)) (fun r h3 q4 => ?_)
  obtain ⟨rfl, rfl⟩ := q4
  refine go_ifP (t' := 51) (pc' := 49) rfl rfl rfl (fun (c : ¬ (0 : Int32) = 0) => absurd c (by decide)) (fun _ => ?_)
  refine go_s (pc' := 50) (st' := [.int (-1)]) rfl rfl rfl rfl ?_
  refine go_ret rfl rfl ?_
  exact ⟨rfl, rfl⟩
theorem rq_prt_2_21 {w : Nat → Bool} {d : Nat} {h : am_Hp} {J : sm_I} {Y : sm_X} {am lm as_ ls : Nat} (hr : rk am as_) (hS : sm (tbr am lm as_ ls) h J Y) {Q : mQ} {Z : mZ} (hd : 3 ≤ d) : am_Ev (am_prog w) d 188 [.ref 62, .int 21, .int 2] h (fun r h' => r = some (.int (mqpt 2 21 (J, Q, Z))) ∧ h' = h) := by
  obtain ⟨d, rfl⟩ : ∃ e, d = e + 1 := ⟨d - 1, by omega⟩
  refine ev_go rfl (Nat.le_of_ble_eq_true rfl) rfl ?_
  refine go_s (pc' := 1) rfl rfl rfl rfl ?_
  refine go_s (pc' := 2) (st' := [.int 30, .int 21]) rfl rfl rfl rfl ?_
  refine go_icmpP (t' := 6) (pc' := 3) rfl rfl rfl (fun _ => ?_) (fun (c : ¬ (¬ (21 : Int32) = 30)) => absurd (by decide) c)
  refine go_s (pc' := 7) rfl rfl rfl rfl ?_
  refine go_s (pc' := 8) (st' := [.int 0, .int 21]) rfl rfl rfl rfl ?_
  refine go_s (pc' := 9) (st' := [.int 2, .int 0, .int 21]) rfl rfl rfl rfl ?_
  refine go_callS (pc' := 10) rfl rfl rfl (Nat.le_of_ble_eq_true rfl) rfl rfl rfl (rt_within_f (a := 21) (n := 2) (by decide) (by omega)) (fun r h1 q2 => ?_)
  obtain ⟨rfl, rfl⟩ := q2
  refine go_ifP (t' := 44) (pc' := 11) rfl rfl rfl (fun _ => ?_) (fun (c : ¬ ((0 : Int32) = 0)) => absurd (by decide) c)
  refine go_s (pc' := 45) rfl rfl rfl rfl ?_
  refine go_s (pc' := 46) (st' := [.int 0, .int 2]) rfl rfl rfl rfl ?_
  refine go_s (pc' := 47) (st' := [.int 1, .int 0, .int 2]) rfl rfl rfl rfl ?_
  refine go_callS (pc' := 48) rfl rfl rfl (Nat.le_of_ble_eq_true rfl) rfl rfl rfl (rt_within_f (a := 2) (n := 1) (by decide) (by omega)) (fun r h3 q4 => ?_)
  obtain ⟨rfl, rfl⟩ := q4
  refine go_ifP (t' := 51) (pc' := 49) rfl rfl rfl (fun (c : ¬ (0 : Int32) = 0) => absurd c (by decide)) (fun _ => ?_)
  refine go_s (pc' := 50) (st' := [.int (-1)]) rfl rfl rfl rfl ?_
  refine go_ret rfl rfl ?_
  exact ⟨rfl, rfl⟩
theorem rq_prt_2_22 {w : Nat → Bool} {d : Nat} {h : am_Hp} {J : sm_I} {Y : sm_X} {am lm as_ ls : Nat} (hr : rk am as_) (hS : sm (tbr am lm as_ ls) h J Y) {Q : mQ} {Z : mZ} (hd : 3 ≤ d) : am_Ev (am_prog w) d 188 [.ref 62, .int 22, .int 2] h (fun r h' => r = some (.int (mqpt 2 22 (J, Q, Z))) ∧ h' = h) := by
  obtain ⟨d, rfl⟩ : ∃ e, d = e + 1 := ⟨d - 1, by omega⟩
  refine ev_go rfl (Nat.le_of_ble_eq_true rfl) rfl ?_
  refine go_s (pc' := 1) rfl rfl rfl rfl ?_
  refine go_s (pc' := 2) (st' := [.int 30, .int 22]) rfl rfl rfl rfl ?_
  refine go_icmpP (t' := 6) (pc' := 3) rfl rfl rfl (fun _ => ?_) (fun (c : ¬ (¬ (22 : Int32) = 30)) => absurd (by decide) c)
  refine go_s (pc' := 7) rfl rfl rfl rfl ?_
  refine go_s (pc' := 8) (st' := [.int 0, .int 22]) rfl rfl rfl rfl ?_
  refine go_s (pc' := 9) (st' := [.int 2, .int 0, .int 22]) rfl rfl rfl rfl ?_
  refine go_callS (pc' := 10) rfl rfl rfl (Nat.le_of_ble_eq_true rfl) rfl rfl rfl (rt_within_f (a := 22) (n := 2) (by decide) (by omega)) (fun r h1 q2 => ?_)
  obtain ⟨rfl, rfl⟩ := q2
  refine go_ifP (t' := 44) (pc' := 11) rfl rfl rfl (fun _ => ?_) (fun (c : ¬ ((0 : Int32) = 0)) => absurd (by decide) c)
  refine go_s (pc' := 45) rfl rfl rfl rfl ?_
  refine go_s (pc' := 46) (st' := [.int 0, .int 2]) rfl rfl rfl rfl ?_
  refine go_s (pc' := 47) (st' := [.int 1, .int 0, .int 2]) rfl rfl rfl rfl ?_
  refine go_callS (pc' := 48) rfl rfl rfl (Nat.le_of_ble_eq_true rfl) rfl rfl rfl (rt_within_f (a := 2) (n := 1) (by decide) (by omega)) (fun r h3 q4 => ?_)
  obtain ⟨rfl, rfl⟩ := q4
  refine go_ifP (t' := 51) (pc' := 49) rfl rfl rfl (fun (c : ¬ (0 : Int32) = 0) => absurd c (by decide)) (fun _ => ?_)
  refine go_s (pc' := 50) (st' := [.int (-1)]) rfl rfl rfl rfl ?_
  refine go_ret rfl rfl ?_
  exact ⟨rfl, rfl⟩
theorem rq_prt_2_n {w : Nat → Bool} {d : Nat} {h : am_Hp} {J : sm_I} {Y : sm_X} {am lm as_ ls : Nat} (hr : rk am as_) (hS : sm (tbr am lm as_ ls) h J Y) {Q : mQ} {Z : mZ} {x : Int32} (x30 : ¬ x = 30) (x0 : ¬ x = 0) (x1 : ¬ x = 1) (x2 : ¬ x = 2) (x10 : ¬ x = 10) (x20 : ¬ x = 20) (x21 : ¬ x = 21) (x22 : ¬ x = 22) (hd : 3 ≤ d) : am_Ev (am_prog w) d 188 [.ref 62, .int x, .int 2] h (fun r h' => r = some (.int (mqpt 2 x (J, Q, Z))) ∧ h' = h) := by
  obtain ⟨d, rfl⟩ : ∃ e, d = e + 1 := ⟨d - 1, by omega⟩
  refine ev_go rfl (Nat.le_of_ble_eq_true rfl) rfl ?_
  refine go_s (pc' := 1) rfl rfl rfl rfl ?_
  refine go_s (pc' := 2) (st' := [.int 30, .int x]) rfl rfl rfl rfl ?_
  refine go_icmpP (t' := 6) (pc' := 3) rfl rfl rfl (fun _ => ?_) (fun (c : ¬ (¬ x = 30)) => absurd x30 c)
  refine go_s (pc' := 7) rfl rfl rfl rfl ?_
  refine go_s (pc' := 8) (st' := [.int 0, .int x]) rfl rfl rfl rfl ?_
  refine go_s (pc' := 9) (st' := [.int 2, .int 0, .int x]) rfl rfl rfl rfl ?_
  refine go_callS (pc' := 10) rfl rfl rfl (Nat.le_of_ble_eq_true rfl) rfl rfl rfl (rt_within_f (a := x) (n := 2) (out_3 x0 x1 x2) (by omega)) (fun r h1 q2 => ?_)
  obtain ⟨rfl, rfl⟩ := q2
  refine go_ifP (t' := 44) (pc' := 11) rfl rfl rfl (fun _ => ?_) (fun (c : ¬ ((0 : Int32) = 0)) => absurd (by decide) c)
  refine go_s (pc' := 45) rfl rfl rfl rfl ?_
  refine go_s (pc' := 46) (st' := [.int 0, .int 2]) rfl rfl rfl rfl ?_
  refine go_s (pc' := 47) (st' := [.int 1, .int 0, .int 2]) rfl rfl rfl rfl ?_
  refine go_callS (pc' := 48) rfl rfl rfl (Nat.le_of_ble_eq_true rfl) rfl rfl rfl (rt_within_f (a := 2) (n := 1) (by decide) (by omega)) (fun r h3 q4 => ?_)
  obtain ⟨rfl, rfl⟩ := q4
  refine go_ifP (t' := 51) (pc' := 49) rfl rfl rfl (fun (c : ¬ (0 : Int32) = 0) => absurd c (by decide)) (fun _ => ?_)
  refine go_s (pc' := 50) (st' := [.int (-1)]) rfl rfl rfl rfl ?_
  refine go_ret rfl rfl ?_
  exact ⟨by unfold mqpt; simp [x30, x0, x1, x2, x10, x20, x21, x22], rfl⟩
theorem rq_prt_3_30 {w : Nat → Bool} {d : Nat} {h : am_Hp} {J : sm_I} {Y : sm_X} {am lm as_ ls : Nat} (hr : rk am as_) (hS : sm (tbr am lm as_ ls) h J Y) {Q : mQ} {Z : mZ} (hd : 3 ≤ d) : am_Ev (am_prog w) d 188 [.ref 62, .int 30, .int 3] h (fun r h' => r = some (.int (mqpt 3 30 (J, Q, Z))) ∧ h' = h) := by
  obtain ⟨d, rfl⟩ : ∃ e, d = e + 1 := ⟨d - 1, by omega⟩
  refine ev_go rfl (Nat.le_of_ble_eq_true rfl) rfl ?_
  refine go_s (pc' := 1) rfl rfl rfl rfl ?_
  refine go_s (pc' := 2) (st' := [.int 30, .int 30]) rfl rfl rfl rfl ?_
  refine go_icmpP (t' := 6) (pc' := 3) rfl rfl rfl (fun (c : ¬ (30 : Int32) = 30) => absurd c (by decide)) (fun _ => ?_)
  refine go_s (pc' := 4) rfl rfl rfl rfl ?_
  refine go_sget (pc' := 5) (v := .int (J 8 0)) hS rfl rfl rfl (by decide) rfl rfl ?_
  refine go_ret rfl rfl ?_
  exact ⟨rfl, rfl⟩
theorem rq_prt_3_0 {w : Nat → Bool} {d : Nat} {h : am_Hp} {J : sm_I} {Y : sm_X} {am lm as_ ls : Nat} (hr : rk am as_) (hS : sm (tbr am lm as_ ls) h J Y) {Q : mQ} {Z : mZ} (hd : 3 ≤ d) : am_Ev (am_prog w) d 188 [.ref 62, .int 0, .int 3] h (fun r h' => r = some (.int (mqpt 3 0 (J, Q, Z))) ∧ h' = h) := by
  obtain ⟨d, rfl⟩ : ∃ e, d = e + 1 := ⟨d - 1, by omega⟩
  refine ev_go rfl (Nat.le_of_ble_eq_true rfl) rfl ?_
  refine go_s (pc' := 1) rfl rfl rfl rfl ?_
  refine go_s (pc' := 2) (st' := [.int 30, .int 0]) rfl rfl rfl rfl ?_
  refine go_icmpP (t' := 6) (pc' := 3) rfl rfl rfl (fun _ => ?_) (fun (c : ¬ (¬ (0 : Int32) = 30)) => absurd (by decide) c)
  refine go_s (pc' := 7) rfl rfl rfl rfl ?_
  refine go_s (pc' := 8) (st' := [.int 0, .int 0]) rfl rfl rfl rfl ?_
  refine go_s (pc' := 9) (st' := [.int 2, .int 0, .int 0]) rfl rfl rfl rfl ?_
  refine go_callS (pc' := 10) rfl rfl rfl (Nat.le_of_ble_eq_true rfl) rfl rfl rfl (rt_within_t (q := 0) (n := 2) (by decide) (by decide) (by omega)) (fun r h1 q2 => ?_)
  obtain ⟨rfl, rfl⟩ := q2
  refine go_ifP (t' := 44) (pc' := 11) rfl rfl rfl (fun (c : (1 : Int32) = 0) => absurd c (by decide)) (fun _ => ?_)
  refine go_s (pc' := 12) rfl rfl rfl rfl ?_
  refine go_s (pc' := 13) (st' := [.int 0, .int 3]) rfl rfl rfl rfl ?_
  refine go_s (pc' := 14) (st' := [.int 3, .int 0, .int 3]) rfl rfl rfl rfl ?_
  refine go_callS (pc' := 15) rfl rfl rfl (Nat.le_of_ble_eq_true rfl) rfl rfl rfl (rt_within_t (q := 3) (n := 3) (by decide) (by decide) (by omega)) (fun r h3 q4 => ?_)
  obtain ⟨rfl, rfl⟩ := q4
  refine go_ifP (t' := 44) (pc' := 16) rfl rfl rfl (fun (c : (1 : Int32) = 0) => absurd c (by decide)) (fun _ => ?_)
  refine go_s (pc' := 17) rfl rfl rfl rfl ?_
  refine go_ifP (t' := 27) (pc' := 18) rfl rfl rfl (fun (c : ¬ (0 : Int32) = 0) => absurd c (by decide)) (fun _ => ?_)
  refine go_s (pc' := 19) rfl rfl rfl rfl ?_
  refine go_sget (pc' := 20) (v := .ref 63) hS rfl rfl rfl (by decide) rfl rfl ?_
  refine go_s (pc' := 21) rfl rfl rfl rfl ?_
  refine go_sald (pc' := 22) (q := 3) (v := .int (J 0 3)) hS rfl (tr_s hr (a := 63) rfl (by decide)) rfl rfl (by decide) rfl rfl ?_
  refine go_ifP (t' := 25) (pc' := 23) rfl rfl rfl (fun (c5 : (J 0 3) = 0) => ?_) (fun (c5 : ¬ (J 0 3) = 0) => ?_)
  · skip
    refine go_s (pc' := 26) (st' := [.int 0]) rfl rfl rfl rfl ?_
    refine go_s (pc' := 43) rfl rfl rfl rfl ?_
    refine go_ret rfl rfl ?_
    exact ⟨by show _ = some (Value.int (bI (J 0 3))); simp [bI, c5], rfl⟩
  · skip
    refine go_s (pc' := 24) (st' := [.int 1]) rfl rfl rfl rfl ?_
    refine go_s (pc' := 43) rfl rfl rfl rfl ?_
    refine go_ret rfl rfl ?_
    exact ⟨by show _ = some (Value.int (bI (J 0 3))); simp [bI, c5], rfl⟩
theorem rq_prt_3_1 {w : Nat → Bool} {d : Nat} {h : am_Hp} {J : sm_I} {Y : sm_X} {am lm as_ ls : Nat} (hr : rk am as_) (hS : sm (tbr am lm as_ ls) h J Y) {Q : mQ} {Z : mZ} (hd : 3 ≤ d) : am_Ev (am_prog w) d 188 [.ref 62, .int 1, .int 3] h (fun r h' => r = some (.int (mqpt 3 1 (J, Q, Z))) ∧ h' = h) := by
  obtain ⟨d, rfl⟩ : ∃ e, d = e + 1 := ⟨d - 1, by omega⟩
  refine ev_go rfl (Nat.le_of_ble_eq_true rfl) rfl ?_
  refine go_s (pc' := 1) rfl rfl rfl rfl ?_
  refine go_s (pc' := 2) (st' := [.int 30, .int 1]) rfl rfl rfl rfl ?_
  refine go_icmpP (t' := 6) (pc' := 3) rfl rfl rfl (fun _ => ?_) (fun (c : ¬ (¬ (1 : Int32) = 30)) => absurd (by decide) c)
  refine go_s (pc' := 7) rfl rfl rfl rfl ?_
  refine go_s (pc' := 8) (st' := [.int 0, .int 1]) rfl rfl rfl rfl ?_
  refine go_s (pc' := 9) (st' := [.int 2, .int 0, .int 1]) rfl rfl rfl rfl ?_
  refine go_callS (pc' := 10) rfl rfl rfl (Nat.le_of_ble_eq_true rfl) rfl rfl rfl (rt_within_t (q := 1) (n := 2) (by decide) (by decide) (by omega)) (fun r h1 q2 => ?_)
  obtain ⟨rfl, rfl⟩ := q2
  refine go_ifP (t' := 44) (pc' := 11) rfl rfl rfl (fun (c : (1 : Int32) = 0) => absurd c (by decide)) (fun _ => ?_)
  refine go_s (pc' := 12) rfl rfl rfl rfl ?_
  refine go_s (pc' := 13) (st' := [.int 0, .int 3]) rfl rfl rfl rfl ?_
  refine go_s (pc' := 14) (st' := [.int 3, .int 0, .int 3]) rfl rfl rfl rfl ?_
  refine go_callS (pc' := 15) rfl rfl rfl (Nat.le_of_ble_eq_true rfl) rfl rfl rfl (rt_within_t (q := 3) (n := 3) (by decide) (by decide) (by omega)) (fun r h3 q4 => ?_)
  obtain ⟨rfl, rfl⟩ := q4
  refine go_ifP (t' := 44) (pc' := 16) rfl rfl rfl (fun (c : (1 : Int32) = 0) => absurd c (by decide)) (fun _ => ?_)
  refine go_s (pc' := 17) rfl rfl rfl rfl ?_
  refine go_ifP (t' := 27) (pc' := 18) rfl rfl rfl (fun _ => ?_) (fun (c : ¬ (¬ (1 : Int32) = 0)) => absurd (by decide) c)
  refine go_s (pc' := 28) rfl rfl rfl rfl ?_
  refine go_s (pc' := 29) (st' := [.int 1, .int 1]) rfl rfl rfl rfl ?_
  refine go_icmpP (t' := 39) (pc' := 30) rfl rfl rfl (fun (c : ¬ (1 : Int32) = 1) => absurd c (by decide)) (fun _ => ?_)
  refine go_s (pc' := 31) rfl rfl rfl rfl ?_
  refine go_sget (pc' := 32) (v := .ref 64) hS rfl rfl rfl (by decide) rfl rfl ?_
  refine go_s (pc' := 33) rfl rfl rfl rfl ?_
  refine go_sald (pc' := 34) (q := 3) (v := .int (J 1 3)) hS rfl (tr_s hr (a := 64) rfl (by decide)) rfl rfl (by decide) rfl rfl ?_
  refine go_ifP (t' := 37) (pc' := 35) rfl rfl rfl (fun (c5 : (J 1 3) = 0) => ?_) (fun (c5 : ¬ (J 1 3) = 0) => ?_)
  · skip
    refine go_s (pc' := 38) (st' := [.int 0]) rfl rfl rfl rfl ?_
    refine go_s (pc' := 43) rfl rfl rfl rfl ?_
    refine go_ret rfl rfl ?_
    exact ⟨by show _ = some (Value.int (bI (J 1 3))); simp [bI, c5], rfl⟩
  · skip
    refine go_s (pc' := 36) (st' := [.int 1]) rfl rfl rfl rfl ?_
    refine go_s (pc' := 43) rfl rfl rfl rfl ?_
    refine go_ret rfl rfl ?_
    exact ⟨by show _ = some (Value.int (bI (J 1 3))); simp [bI, c5], rfl⟩
theorem rq_prt_3_2 {w : Nat → Bool} {d : Nat} {h : am_Hp} {J : sm_I} {Y : sm_X} {am lm as_ ls : Nat} (hr : rk am as_) (hS : sm (tbr am lm as_ ls) h J Y) {Q : mQ} {Z : mZ} (hd : 3 ≤ d) : am_Ev (am_prog w) d 188 [.ref 62, .int 2, .int 3] h (fun r h' => r = some (.int (mqpt 3 2 (J, Q, Z))) ∧ h' = h) := by
  obtain ⟨d, rfl⟩ : ∃ e, d = e + 1 := ⟨d - 1, by omega⟩
  refine ev_go rfl (Nat.le_of_ble_eq_true rfl) rfl ?_
  refine go_s (pc' := 1) rfl rfl rfl rfl ?_
  refine go_s (pc' := 2) (st' := [.int 30, .int 2]) rfl rfl rfl rfl ?_
  refine go_icmpP (t' := 6) (pc' := 3) rfl rfl rfl (fun _ => ?_) (fun (c : ¬ (¬ (2 : Int32) = 30)) => absurd (by decide) c)
  refine go_s (pc' := 7) rfl rfl rfl rfl ?_
  refine go_s (pc' := 8) (st' := [.int 0, .int 2]) rfl rfl rfl rfl ?_
  refine go_s (pc' := 9) (st' := [.int 2, .int 0, .int 2]) rfl rfl rfl rfl ?_
  refine go_callS (pc' := 10) rfl rfl rfl (Nat.le_of_ble_eq_true rfl) rfl rfl rfl (rt_within_t (q := 2) (n := 2) (by decide) (by decide) (by omega)) (fun r h1 q2 => ?_)
  obtain ⟨rfl, rfl⟩ := q2
  refine go_ifP (t' := 44) (pc' := 11) rfl rfl rfl (fun (c : (1 : Int32) = 0) => absurd c (by decide)) (fun _ => ?_)
  refine go_s (pc' := 12) rfl rfl rfl rfl ?_
  refine go_s (pc' := 13) (st' := [.int 0, .int 3]) rfl rfl rfl rfl ?_
  refine go_s (pc' := 14) (st' := [.int 3, .int 0, .int 3]) rfl rfl rfl rfl ?_
  refine go_callS (pc' := 15) rfl rfl rfl (Nat.le_of_ble_eq_true rfl) rfl rfl rfl (rt_within_t (q := 3) (n := 3) (by decide) (by decide) (by omega)) (fun r h3 q4 => ?_)
  obtain ⟨rfl, rfl⟩ := q4
  refine go_ifP (t' := 44) (pc' := 16) rfl rfl rfl (fun (c : (1 : Int32) = 0) => absurd c (by decide)) (fun _ => ?_)
  refine go_s (pc' := 17) rfl rfl rfl rfl ?_
  refine go_ifP (t' := 27) (pc' := 18) rfl rfl rfl (fun _ => ?_) (fun (c : ¬ (¬ (2 : Int32) = 0)) => absurd (by decide) c)
  refine go_s (pc' := 28) rfl rfl rfl rfl ?_
  refine go_s (pc' := 29) (st' := [.int 1, .int 2]) rfl rfl rfl rfl ?_
  refine go_icmpP (t' := 39) (pc' := 30) rfl rfl rfl (fun _ => ?_) (fun (c : ¬ (¬ (2 : Int32) = 1)) => absurd (by decide) c)
  refine go_s (pc' := 40) rfl rfl rfl rfl ?_
  refine go_sget (pc' := 41) (v := .ref 65) hS rfl rfl rfl (by decide) rfl rfl ?_
  refine go_s (pc' := 42) rfl rfl rfl rfl ?_
  refine go_sald (pc' := 43) (q := 3) (v := .int (J 2 3)) hS rfl (tr_s hr (a := 65) rfl (by decide)) rfl rfl (by decide) rfl rfl ?_
  refine go_ret rfl rfl ?_
  exact ⟨rfl, rfl⟩
theorem rq_prt_3_10 {w : Nat → Bool} {d : Nat} {h : am_Hp} {J : sm_I} {Y : sm_X} {am lm as_ ls : Nat} (hr : rk am as_) (hS : sm (tbr am lm as_ ls) h J Y) {Q : mQ} {Z : mZ} (hd : 3 ≤ d) : am_Ev (am_prog w) d 188 [.ref 62, .int 10, .int 3] h (fun r h' => r = some (.int (mqpt 3 10 (J, Q, Z))) ∧ h' = h) := by
  obtain ⟨d, rfl⟩ : ∃ e, d = e + 1 := ⟨d - 1, by omega⟩
  refine ev_go rfl (Nat.le_of_ble_eq_true rfl) rfl ?_
  refine go_s (pc' := 1) rfl rfl rfl rfl ?_
  refine go_s (pc' := 2) (st' := [.int 30, .int 10]) rfl rfl rfl rfl ?_
  refine go_icmpP (t' := 6) (pc' := 3) rfl rfl rfl (fun _ => ?_) (fun (c : ¬ (¬ (10 : Int32) = 30)) => absurd (by decide) c)
  refine go_s (pc' := 7) rfl rfl rfl rfl ?_
  refine go_s (pc' := 8) (st' := [.int 0, .int 10]) rfl rfl rfl rfl ?_
  refine go_s (pc' := 9) (st' := [.int 2, .int 0, .int 10]) rfl rfl rfl rfl ?_
  refine go_callS (pc' := 10) rfl rfl rfl (Nat.le_of_ble_eq_true rfl) rfl rfl rfl (rt_within_f (a := 10) (n := 2) (by decide) (by omega)) (fun r h1 q2 => ?_)
  obtain ⟨rfl, rfl⟩ := q2
  refine go_ifP (t' := 44) (pc' := 11) rfl rfl rfl (fun _ => ?_) (fun (c : ¬ ((0 : Int32) = 0)) => absurd (by decide) c)
  refine go_s (pc' := 45) rfl rfl rfl rfl ?_
  refine go_s (pc' := 46) (st' := [.int 0, .int 3]) rfl rfl rfl rfl ?_
  refine go_s (pc' := 47) (st' := [.int 1, .int 0, .int 3]) rfl rfl rfl rfl ?_
  refine go_callS (pc' := 48) rfl rfl rfl (Nat.le_of_ble_eq_true rfl) rfl rfl rfl (rt_within_f (a := 3) (n := 1) (by decide) (by omega)) (fun r h3 q4 => ?_)
  obtain ⟨rfl, rfl⟩ := q4
  refine go_ifP (t' := 51) (pc' := 49) rfl rfl rfl (fun (c : ¬ (0 : Int32) = 0) => absurd c (by decide)) (fun _ => ?_)
  refine go_s (pc' := 50) (st' := [.int (-1)]) rfl rfl rfl rfl ?_
  refine go_ret rfl rfl ?_
  exact ⟨rfl, rfl⟩
theorem rq_prt_3_20 {w : Nat → Bool} {d : Nat} {h : am_Hp} {J : sm_I} {Y : sm_X} {am lm as_ ls : Nat} (hr : rk am as_) (hS : sm (tbr am lm as_ ls) h J Y) {Q : mQ} {Z : mZ} (hd : 3 ≤ d) : am_Ev (am_prog w) d 188 [.ref 62, .int 20, .int 3] h (fun r h' => r = some (.int (mqpt 3 20 (J, Q, Z))) ∧ h' = h) := by
  obtain ⟨d, rfl⟩ : ∃ e, d = e + 1 := ⟨d - 1, by omega⟩
  refine ev_go rfl (Nat.le_of_ble_eq_true rfl) rfl ?_
  refine go_s (pc' := 1) rfl rfl rfl rfl ?_
  refine go_s (pc' := 2) (st' := [.int 30, .int 20]) rfl rfl rfl rfl ?_
  refine go_icmpP (t' := 6) (pc' := 3) rfl rfl rfl (fun _ => ?_) (fun (c : ¬ (¬ (20 : Int32) = 30)) => absurd (by decide) c)
  refine go_s (pc' := 7) rfl rfl rfl rfl ?_
  refine go_s (pc' := 8) (st' := [.int 0, .int 20]) rfl rfl rfl rfl ?_
  refine go_s (pc' := 9) (st' := [.int 2, .int 0, .int 20]) rfl rfl rfl rfl ?_
  refine go_callS (pc' := 10) rfl rfl rfl (Nat.le_of_ble_eq_true rfl) rfl rfl rfl (rt_within_f (a := 20) (n := 2) (by decide) (by omega)) (fun r h1 q2 => ?_)
  obtain ⟨rfl, rfl⟩ := q2
  refine go_ifP (t' := 44) (pc' := 11) rfl rfl rfl (fun _ => ?_) (fun (c : ¬ ((0 : Int32) = 0)) => absurd (by decide) c)
  refine go_s (pc' := 45) rfl rfl rfl rfl ?_
  refine go_s (pc' := 46) (st' := [.int 0, .int 3]) rfl rfl rfl rfl ?_
  refine go_s (pc' := 47) (st' := [.int 1, .int 0, .int 3]) rfl rfl rfl rfl ?_
  refine go_callS (pc' := 48) rfl rfl rfl (Nat.le_of_ble_eq_true rfl) rfl rfl rfl (rt_within_f (a := 3) (n := 1) (by decide) (by omega)) (fun r h3 q4 => ?_)
  obtain ⟨rfl, rfl⟩ := q4
  refine go_ifP (t' := 51) (pc' := 49) rfl rfl rfl (fun (c : ¬ (0 : Int32) = 0) => absurd c (by decide)) (fun _ => ?_)
  refine go_s (pc' := 50) (st' := [.int (-1)]) rfl rfl rfl rfl ?_
  refine go_ret rfl rfl ?_
  exact ⟨rfl, rfl⟩
theorem rq_prt_3_21 {w : Nat → Bool} {d : Nat} {h : am_Hp} {J : sm_I} {Y : sm_X} {am lm as_ ls : Nat} (hr : rk am as_) (hS : sm (tbr am lm as_ ls) h J Y) {Q : mQ} {Z : mZ} (hd : 3 ≤ d) : am_Ev (am_prog w) d 188 [.ref 62, .int 21, .int 3] h (fun r h' => r = some (.int (mqpt 3 21 (J, Q, Z))) ∧ h' = h) := by
  obtain ⟨d, rfl⟩ : ∃ e, d = e + 1 := ⟨d - 1, by omega⟩
  refine ev_go rfl (Nat.le_of_ble_eq_true rfl) rfl ?_
  refine go_s (pc' := 1) rfl rfl rfl rfl ?_
  refine go_s (pc' := 2) (st' := [.int 30, .int 21]) rfl rfl rfl rfl ?_
  refine go_icmpP (t' := 6) (pc' := 3) rfl rfl rfl (fun _ => ?_) (fun (c : ¬ (¬ (21 : Int32) = 30)) => absurd (by decide) c)
  refine go_s (pc' := 7) rfl rfl rfl rfl ?_
  refine go_s (pc' := 8) (st' := [.int 0, .int 21]) rfl rfl rfl rfl ?_
  refine go_s (pc' := 9) (st' := [.int 2, .int 0, .int 21]) rfl rfl rfl rfl ?_
  refine go_callS (pc' := 10) rfl rfl rfl (Nat.le_of_ble_eq_true rfl) rfl rfl rfl (rt_within_f (a := 21) (n := 2) (by decide) (by omega)) (fun r h1 q2 => ?_)
  obtain ⟨rfl, rfl⟩ := q2
  refine go_ifP (t' := 44) (pc' := 11) rfl rfl rfl (fun _ => ?_) (fun (c : ¬ ((0 : Int32) = 0)) => absurd (by decide) c)
  refine go_s (pc' := 45) rfl rfl rfl rfl ?_
  refine go_s (pc' := 46) (st' := [.int 0, .int 3]) rfl rfl rfl rfl ?_
  refine go_s (pc' := 47) (st' := [.int 1, .int 0, .int 3]) rfl rfl rfl rfl ?_
  refine go_callS (pc' := 48) rfl rfl rfl (Nat.le_of_ble_eq_true rfl) rfl rfl rfl (rt_within_f (a := 3) (n := 1) (by decide) (by omega)) (fun r h3 q4 => ?_)
  obtain ⟨rfl, rfl⟩ := q4
  refine go_ifP (t' := 51) (pc' := 49) rfl rfl rfl (fun (c : ¬ (0 : Int32) = 0) => absurd c (by decide)) (fun _ => ?_)
  refine go_s (pc' := 50) (st' := [.int (-1)]) rfl rfl rfl rfl ?_
  refine go_ret rfl rfl ?_
  exact ⟨rfl, rfl⟩
theorem rq_prt_3_22 {w : Nat → Bool} {d : Nat} {h : am_Hp} {J : sm_I} {Y : sm_X} {am lm as_ ls : Nat} (hr : rk am as_) (hS : sm (tbr am lm as_ ls) h J Y) {Q : mQ} {Z : mZ} (hd : 3 ≤ d) : am_Ev (am_prog w) d 188 [.ref 62, .int 22, .int 3] h (fun r h' => r = some (.int (mqpt 3 22 (J, Q, Z))) ∧ h' = h) := by
  obtain ⟨d, rfl⟩ : ∃ e, d = e + 1 := ⟨d - 1, by omega⟩
  refine ev_go rfl (Nat.le_of_ble_eq_true rfl) rfl ?_
  refine go_s (pc' := 1) rfl rfl rfl rfl ?_
  refine go_s (pc' := 2) (st' := [.int 30, .int 22]) rfl rfl rfl rfl ?_
  refine go_icmpP (t' := 6) (pc' := 3) rfl rfl rfl (fun _ => ?_) (fun (c : ¬ (¬ (22 : Int32) = 30)) => absurd (by decide) c)
  refine go_s (pc' := 7) rfl rfl rfl rfl ?_
  refine go_s (pc' := 8) (st' := [.int 0, .int 22]) rfl rfl rfl rfl ?_
  refine go_s (pc' := 9) (st' := [.int 2, .int 0, .int 22]) rfl rfl rfl rfl ?_
  refine go_callS (pc' := 10) rfl rfl rfl (Nat.le_of_ble_eq_true rfl) rfl rfl rfl (rt_within_f (a := 22) (n := 2) (by decide) (by omega)) (fun r h1 q2 => ?_)
  obtain ⟨rfl, rfl⟩ := q2
  refine go_ifP (t' := 44) (pc' := 11) rfl rfl rfl (fun _ => ?_) (fun (c : ¬ ((0 : Int32) = 0)) => absurd (by decide) c)
  refine go_s (pc' := 45) rfl rfl rfl rfl ?_
  refine go_s (pc' := 46) (st' := [.int 0, .int 3]) rfl rfl rfl rfl ?_
  refine go_s (pc' := 47) (st' := [.int 1, .int 0, .int 3]) rfl rfl rfl rfl ?_
  refine go_callS (pc' := 48) rfl rfl rfl (Nat.le_of_ble_eq_true rfl) rfl rfl rfl (rt_within_f (a := 3) (n := 1) (by decide) (by omega)) (fun r h3 q4 => ?_)
  obtain ⟨rfl, rfl⟩ := q4
  refine go_ifP (t' := 51) (pc' := 49) rfl rfl rfl (fun (c : ¬ (0 : Int32) = 0) => absurd c (by decide)) (fun _ => ?_)
  refine go_s (pc' := 50) (st' := [.int (-1)]) rfl rfl rfl rfl ?_
  refine go_ret rfl rfl ?_
  exact ⟨rfl, rfl⟩
theorem rq_prt_3_n {w : Nat → Bool} {d : Nat} {h : am_Hp} {J : sm_I} {Y : sm_X} {am lm as_ ls : Nat} (hr : rk am as_) (hS : sm (tbr am lm as_ ls) h J Y) {Q : mQ} {Z : mZ} {x : Int32} (x30 : ¬ x = 30) (x0 : ¬ x = 0) (x1 : ¬ x = 1) (x2 : ¬ x = 2) (x10 : ¬ x = 10) (x20 : ¬ x = 20) (x21 : ¬ x = 21) (x22 : ¬ x = 22) (hd : 3 ≤ d) : am_Ev (am_prog w) d 188 [.ref 62, .int x, .int 3] h (fun r h' => r = some (.int (mqpt 3 x (J, Q, Z))) ∧ h' = h) := by
  obtain ⟨d, rfl⟩ : ∃ e, d = e + 1 := ⟨d - 1, by omega⟩
  refine ev_go rfl (Nat.le_of_ble_eq_true rfl) rfl ?_
  refine go_s (pc' := 1) rfl rfl rfl rfl ?_
  refine go_s (pc' := 2) (st' := [.int 30, .int x]) rfl rfl rfl rfl ?_
  refine go_icmpP (t' := 6) (pc' := 3) rfl rfl rfl (fun _ => ?_) (fun (c : ¬ (¬ x = 30)) => absurd x30 c)
  refine go_s (pc' := 7) rfl rfl rfl rfl ?_
  refine go_s (pc' := 8) (st' := [.int 0, .int x]) rfl rfl rfl rfl ?_
  refine go_s (pc' := 9) (st' := [.int 2, .int 0, .int x]) rfl rfl rfl rfl ?_
  refine go_callS (pc' := 10) rfl rfl rfl (Nat.le_of_ble_eq_true rfl) rfl rfl rfl (rt_within_f (a := x) (n := 2) (out_3 x0 x1 x2) (by omega)) (fun r h1 q2 => ?_)
  obtain ⟨rfl, rfl⟩ := q2
  refine go_ifP (t' := 44) (pc' := 11) rfl rfl rfl (fun _ => ?_) (fun (c : ¬ ((0 : Int32) = 0)) => absurd (by decide) c)
  refine go_s (pc' := 45) rfl rfl rfl rfl ?_
  refine go_s (pc' := 46) (st' := [.int 0, .int 3]) rfl rfl rfl rfl ?_
  refine go_s (pc' := 47) (st' := [.int 1, .int 0, .int 3]) rfl rfl rfl rfl ?_
  refine go_callS (pc' := 48) rfl rfl rfl (Nat.le_of_ble_eq_true rfl) rfl rfl rfl (rt_within_f (a := 3) (n := 1) (by decide) (by omega)) (fun r h3 q4 => ?_)
  obtain ⟨rfl, rfl⟩ := q4
  refine go_ifP (t' := 51) (pc' := 49) rfl rfl rfl (fun (c : ¬ (0 : Int32) = 0) => absurd c (by decide)) (fun _ => ?_)
  refine go_s (pc' := 50) (st' := [.int (-1)]) rfl rfl rfl rfl ?_
  refine go_ret rfl rfl ?_
  exact ⟨by unfold mqpt; simp [x30, x0, x1, x2, x10, x20, x21, x22], rfl⟩
