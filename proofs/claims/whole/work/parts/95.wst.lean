theorem cx_wd_0 {w : Nat → Bool} {d : Nat} {h : am_Hp} {e : Nat} {m0 : mg} {B : Nat} {I : sm_I} {Q : mQ} {Z : mZ} {X : sm_X} {ow : ow_T} {sb : Nat} (hS : sm tbc h I X) (hD : CD w e m0 h I Q Z X ow sb) (hB : co h I ≤ B) (hQ : ∀ l, l < 16 → (Q l).length ≤ h.length) (hB2 : B < 2 ^ 28) {p : Nat} (hp : p < 4) (hu : ¬ I 0 p = 0) {k0 : Int32} {x : Nat} {n0 td : Int32} {vq va vs nx : Value} (ox : ow x ≠ 0) (hx : h[x]? = some (.inl (9, [.int k0, .int n0, .int 0, .int td, vq, va, vs, nx]))) (hw9 : I 16 0 = 1 → I 22 0 = 0 ∧ I 22 1 = 0) (hd : 6 ≤ d) : am_Ev (am_prog w) d 84 [.ref 1, .ref x, .int (nI p)] h (fun r h' => r = none ∧ CA w e m0 (B + 344) h' (mwd 0 p td (I, Q, Z))) := by
  have hW := hD.1.1
  have hWn : ∀ a, List.length h ≤ a → w a = true := fun a ha => (hD.1.2.1 a ha).1
  have hF1 := fr_refl tbc h
  have hln : 62 ≤ List.length h := sm_len hS
  obtain ⟨d, rfl⟩ : ∃ e, d = e + 1 := ⟨d - 1, by omega⟩
  refine ev_go rfl (Nat.le_of_ble_eq_true rfl) rfl ?_
  refine go_s (pc' := 1) rfl rfl rfl rfl ?_
  refine go_get (pc' := 2) rfl ((hF1.2.2.2 _ (hD.1.2.2 _ (by omega)).2.1 (OW_lt hD.1 (by omega))).trans hx) rfl (by decide) rfl rfl ?_
  refine go_s (pc' := 3) rfl rfl rfl rfl ?_
  refine go_sget (pc' := 4) (v := .ref 61) hS rfl rfl rfl (by decide) rfl rfl ?_
  refine go_salen (pc' := 5) (n := 3) hS rfl rfl rfl rfl ?_
  refine go_callS (pc' := 6) rfl rfl rfl (Nat.le_of_ble_eq_true rfl) rfl rfl rfl (ct_within_t (q := 0) (n := 3) (by decide) (by decide) (by omega)) (fun r h2 q3 => ?_)
  obtain ⟨rfl, rfl⟩ := q3
  refine go_ifP (t' := 8) (pc' := 7) rfl rfl rfl (fun _ => ?_) (fun (c : ¬ (¬ (1 : Int32) = 0)) => absurd (by decide) c)
  refine go_s (pc' := 9) rfl rfl rfl rfl ?_
  refine go_sget (pc' := 10) (v := .ref 61) hS rfl rfl rfl (by decide) rfl rfl ?_
  refine go_s (pc' := 11) rfl rfl rfl rfl ?_
  refine go_get (pc' := 12) rfl ((hF1.2.2.2 _ (hD.1.2.2 _ (by omega)).2.1 (OW_lt hD.1 (by omega))).trans hx) rfl (by decide) rfl rfl ?_
  refine go_sald (pc' := 13) (q := 0) (v := .ref 32) hS rfl rfl rfl rfl (by decide) rfl rfl ?_
  refine go_s (pc' := 14) (lo' := [some (.ref 1), some (.ref x), some (.int (nI p)), some (.ref 32)]) rfl rfl rfl rfl ?_
  refine go_s (pc' := 15) rfl rfl rfl rfl ?_
  refine go_sget (pc' := 16) (v := .int (I 11 0)) hS rfl rfl rfl (by decide) rfl rfl ?_
  refine go_s (pc' := 17) rfl rfl rfl rfl ?_
  refine go_icmpP (t' := 23) (pc' := 18) rfl rfl rfl (fun (c4 : ¬ (I 11 0) = (nI p)) => ?_) (fun (c4' : ¬ ¬ (I 11 0) = (nI p)) => ?_)
  · skip
    refine go_ret rfl rfl ?_
    have hD5 : CD w e m0 h2 I Q Z X ow sb := CD_I (CD_fr hD hF1) ⟨rfl, rfl, rfl, rfl, rfl, rfl, rfl, rfl, rfl, rfl, rfl, rfl, rfl, rfl, rfl⟩
    have hB6 : co h2 I ≤ B + 0 := by
      have := co_fr (I := I) (J := I) hF1 rfl
      have := hB
      omega
    have hC7 : CA w e m0 (B + 0) h2 (I, Q, Z) := ⟨X, ow, sb, hS, hD5, hB6, fun l hl => Nat.le_trans (hQ l hl) hF1.1⟩
    have hms : mwd 0 p td (I, Q, Z) = (I, Q, Z) := if_pos (Or.inl c4)
    rw [hms]
    exact ⟨rfl, CA_le hC7 (by omega)⟩
  · skip
    have c4 : (I 11 0) = (nI p) := Decidable.not_not.mp c4'
    refine go_s (pc' := 19) rfl rfl rfl rfl ?_
    refine go_get (pc' := 20) rfl ((hF1.2.2.2 _ (hD.1.2.2 _ (by omega)).2.1 (OW_lt hD.1 (by omega))).trans hx) rfl (by decide) rfl rfl ?_
    refine go_s (pc' := 21) rfl rfl rfl rfl ?_
    refine go_sget (pc' := 22) (v := .int (I 15 0)) hS rfl rfl rfl (by decide) rfl rfl ?_
    refine go_icmpP (t' := 24) (pc' := 23) rfl rfl rfl (fun (c8 : td = (I 15 0)) => ?_) (fun (c8 : ¬ td = (I 15 0)) => ?_)
    · skip
      refine go_s (pc' := 25) rfl rfl rfl rfl ?_
      refine go_sget (pc' := 26) (v := .int (I 13 0)) hS rfl rfl rfl (by decide) rfl rfl ?_
      refine go_ifP (t' := 31) (pc' := 27) rfl rfl rfl (fun (c9 : ¬ (I 13 0) = 0) => ?_) (fun (c9' : ¬ ¬ (I 13 0) = 0) => ?_)
      · skip
        refine go_s (pc' := 32) rfl rfl rfl rfl ?_
        refine go_sget (pc' := 33) (v := .int (I 14 0)) hS rfl rfl rfl (by decide) rfl rfl ?_
        refine go_ifP (t' := 38) (pc' := 34) rfl rfl rfl (fun (c10 : (I 14 0) = 0) => ?_) (fun (c10 : ¬ (I 14 0) = 0) => ?_)
        · skip
          refine go_s (pc' := 39) rfl rfl rfl rfl ?_
          refine go_s (pc' := 40) (st' := [.int 0, .ref 32]) rfl rfl rfl rfl ?_
          refine go_sput (pc' := 41) hS rfl rfl rfl (by decide) tbc_inj (Nat.le_of_ble_eq_true rfl) rfl (hW _ rfl) rfl (fun h11 hS12 hE13 => ?_)
          have hF14 := fr_trans hF1 (fr_e hE13)
          refine go_s (pc' := 42) rfl rfl rfl rfl ?_
          refine go_s (pc' := 43) (st' := [.int 1, .ref 32]) rfl rfl rfl rfl ?_
          refine go_sputX (pc' := 44) hS12 rfl rfl rfl (by decide) tbc_inj (Nat.le_of_ble_eq_true rfl) (Nat.le_of_ble_eq_true rfl) rfl (hW _ rfl) rfl (fun h15 hS16 hE17 => ?_)
          have hF18 := fr_trans hF14 (fr_e hE17)
          refine go_ret rfl rfl ?_
          have hms : mwd 0 p td (I, Q, Z) = mbk 0 (I, Q, Z) := by
            unfold mwd
            rw [if_neg (fun z => z.elim (fun z => z c4) (fun z => z c8)), if_neg c9, if_pos c10]
          have hD9 : CD w e m0 h15 (mbk 0 (I, Q, Z)).1 Q Z (uX X 207 0 (.int 1)) ow sb := CD_bk (v := nI (ohn I 0)) (CD_I (J := uI I 13 0 0) (CD_fr hD hF18) ⟨rfl, rfl, rfl, rfl, rfl, rfl, rfl, rfl, rfl, rfl, rfl, rfl, rfl, rfl, rfl⟩) (by unfold ohn; split <;> split <;> rfl)
          rw [hms]
          exact ⟨rfl, ⟨(uX X 207 0 (.int 1)), ow, sb, sm_12 hS16 rfl, hD9, by have := co_fr (I := I) (J := (mbk 0 (I, Q, Z)).1) hF18 rfl; omega, fun l hl => Nat.le_trans (hQ l hl) hF18.1⟩⟩
        · skip
          refine go_s (pc' := 35) rfl rfl rfl rfl ?_
          refine go_s (pc' := 36) rfl rfl rfl rfl ?_
          have hD19 : CD w e m0 h2 I Q Z X ow sb := CD_I (CD_fr hD hF1) ⟨rfl, rfl, rfl, rfl, rfl, rfl, rfl, rfl, rfl, rfl, rfl, rfl, rfl, rfl, rfl⟩
          have hB20 : co h2 I ≤ B + 0 := by
            have := co_fr (I := I) (J := I) hF1 rfl
            have := hB
            omega
          have hC21 : CA w e m0 (B + 0) h2 (I, Q, Z) := ⟨X, ow, sb, hS, hD19, hB20, fun l hl => Nat.le_trans (hQ l hl) hF1.1⟩
          refine go_callV (pc' := 37) rfl rfl rfl (Nat.le_of_ble_eq_true rfl) rfl (sm_o hS rfl) rfl rfl rfl (cm_sC_0 hC21 (by omega) (lv_of c4 hp hu) (by omega)) (fun r h22 q23 => ?_)
          obtain ⟨rfl, hC24⟩ := q23
          change CA w e m0 (B + 0 + 344) h22 (msC 0 (I, Q, Z)) at hC24
          obtain ⟨X25, ow25, sb25, hS25, hD25, hB25, hQ25⟩ := hC24
          have hW := hD25.1.1
          have hWn : ∀ a, List.length h22 ≤ a → w a = true := fun a ha => (hD25.1.2.1 a ha).1
          have hF26 := fr_refl tbc h22
          have hln : 62 ≤ List.length h22 := sm_len hS25
          refine go_s (pc' := 44) rfl rfl rfl rfl ?_
          refine go_ret rfl rfl ?_
          have hD27 : CD w e m0 h22 ((msC 0 (I, Q, Z))).1 ((msC 0 (I, Q, Z))).2.1 ((msC 0 (I, Q, Z))).2.2 X25 ow25 sb25 := CD_I (CD_fr hD25 hF26) ⟨rfl, rfl, rfl, rfl, rfl, rfl, rfl, rfl, rfl, rfl, rfl, rfl, rfl, rfl, rfl⟩
          have hB28 : co h22 ((msC 0 (I, Q, Z))).1 ≤ (B + 0 + 344) + 0 := by
            have := co_fr (I := ((msC 0 (I, Q, Z))).1) (J := ((msC 0 (I, Q, Z))).1) hF26 rfl
            have := hB25
            omega
          have hC29 : CA w e m0 ((B + 0 + 344) + 0) h22 (((msC 0 (I, Q, Z))).1, ((msC 0 (I, Q, Z))).2.1, ((msC 0 (I, Q, Z))).2.2) := ⟨X25, ow25, sb25, hS25, hD27, hB28, fun l hl => Nat.le_trans (hQ25 l hl) hF26.1⟩
          have hms : mwd 0 p td (I, Q, Z) = (msC 0 (I, Q, Z)) := by
            unfold mwd
            rw [if_neg (fun z => z.elim (fun z => z c4) (fun z => z c8)), if_neg c9, if_neg c10]
          rw [hms]
          exact ⟨rfl, CA_le hC29 (by omega)⟩
      · skip
        have c9 : (I 13 0) = 0 := Decidable.not_not.mp c9'
        refine go_s (pc' := 28) rfl rfl rfl rfl ?_
        refine go_s (pc' := 29) rfl rfl rfl rfl ?_
        have hD30 : CD w e m0 h2 I Q Z X ow sb := CD_I (CD_fr hD hF1) ⟨rfl, rfl, rfl, rfl, rfl, rfl, rfl, rfl, rfl, rfl, rfl, rfl, rfl, rfl, rfl⟩
        have hB31 : co h2 I ≤ B + 0 := by
          have := co_fr (I := I) (J := I) hF1 rfl
          have := hB
          omega
        have hC32 : CA w e m0 (B + 0) h2 (I, Q, Z) := ⟨X, ow, sb, hS, hD30, hB31, fun l hl => Nat.le_trans (hQ l hl) hF1.1⟩
        refine go_callV (pc' := 30) rfl rfl rfl (Nat.le_of_ble_eq_true rfl) rfl (sm_o hS rfl) rfl rfl rfl (cm_stw_0 hC32 (by omega) hw9 (by omega)) (fun r h33 q34 => ?_)
        obtain ⟨rfl, hC35⟩ := q34
        change CA w e m0 (B + 0 + 20) h33 (mstw 0 (I, Q, Z)) at hC35
        obtain ⟨X36, ow36, sb36, hS36, hD36, hB36, hQ36⟩ := hC35
        have hW := hD36.1.1
        have hWn : ∀ a, List.length h33 ≤ a → w a = true := fun a ha => (hD36.1.2.1 a ha).1
        have hF37 := fr_refl tbc h33
        have hln : 62 ≤ List.length h33 := sm_len hS36
        refine go_s (pc' := 44) rfl rfl rfl rfl ?_
        refine go_ret rfl rfl ?_
        have hD38 : CD w e m0 h33 ((mstw 0 (I, Q, Z))).1 ((mstw 0 (I, Q, Z))).2.1 ((mstw 0 (I, Q, Z))).2.2 X36 ow36 sb36 := CD_I (CD_fr hD36 hF37) ⟨rfl, rfl, rfl, rfl, rfl, rfl, rfl, rfl, rfl, rfl, rfl, rfl, rfl, rfl, rfl⟩
        have hB39 : co h33 ((mstw 0 (I, Q, Z))).1 ≤ (B + 0 + 20) + 0 := by
          have := co_fr (I := ((mstw 0 (I, Q, Z))).1) (J := ((mstw 0 (I, Q, Z))).1) hF37 rfl
          have := hB36
          omega
        have hC40 : CA w e m0 ((B + 0 + 20) + 0) h33 (((mstw 0 (I, Q, Z))).1, ((mstw 0 (I, Q, Z))).2.1, ((mstw 0 (I, Q, Z))).2.2) := ⟨X36, ow36, sb36, hS36, hD38, hB39, fun l hl => Nat.le_trans (hQ36 l hl) hF37.1⟩
        have hms : mwd 0 p td (I, Q, Z) = (mstw 0 (I, Q, Z)) := by
          unfold mwd
          rw [if_neg (fun z => z.elim (fun z => z c4) (fun z => z c8)), if_pos c9]
        rw [hms]
        exact ⟨rfl, CA_le hC40 (by omega)⟩
    · skip
      refine go_ret rfl rfl ?_
      have hD41 : CD w e m0 h2 I Q Z X ow sb := CD_I (CD_fr hD hF1) ⟨rfl, rfl, rfl, rfl, rfl, rfl, rfl, rfl, rfl, rfl, rfl, rfl, rfl, rfl, rfl⟩
      have hB42 : co h2 I ≤ B + 0 := by
        have := co_fr (I := I) (J := I) hF1 rfl
        have := hB
        omega
      have hC43 : CA w e m0 (B + 0) h2 (I, Q, Z) := ⟨X, ow, sb, hS, hD41, hB42, fun l hl => Nat.le_trans (hQ l hl) hF1.1⟩
      have hms : mwd 0 p td (I, Q, Z) = (I, Q, Z) := if_pos (Or.inr c8)
      rw [hms]
      exact ⟨rfl, CA_le hC43 (by omega)⟩
theorem cx_wd_1 {w : Nat → Bool} {d : Nat} {h : am_Hp} {e : Nat} {m0 : mg} {B : Nat} {I : sm_I} {Q : mQ} {Z : mZ} {X : sm_X} {ow : ow_T} {sb : Nat} (hS : sm tbc h I X) (hD : CD w e m0 h I Q Z X ow sb) (hB : co h I ≤ B) (hQ : ∀ l, l < 16 → (Q l).length ≤ h.length) (hB2 : B < 2 ^ 28) {p : Nat} (hp : p < 4) (hu : ¬ I 0 p = 0) {k0 : Int32} {x : Nat} {n0 td : Int32} {vq va vs nx : Value} (ox : ow x ≠ 0) (hx : h[x]? = some (.inl (9, [.int k0, .int n0, .int 1, .int td, vq, va, vs, nx]))) (hw9 : I 16 1 = 1 → lv I 1 = true) (hd : 6 ≤ d) : am_Ev (am_prog w) d 84 [.ref 1, .ref x, .int (nI p)] h (fun r h' => r = none ∧ CA w e m0 (B + 344) h' (mwd 1 p td (I, Q, Z))) := by
  have hW := hD.1.1
  have hWn : ∀ a, List.length h ≤ a → w a = true := fun a ha => (hD.1.2.1 a ha).1
  have hF1 := fr_refl tbc h
  have hln : 62 ≤ List.length h := sm_len hS
  obtain ⟨d, rfl⟩ : ∃ e, d = e + 1 := ⟨d - 1, by omega⟩
  refine ev_go rfl (Nat.le_of_ble_eq_true rfl) rfl ?_
  refine go_s (pc' := 1) rfl rfl rfl rfl ?_
  refine go_get (pc' := 2) rfl ((hF1.2.2.2 _ (hD.1.2.2 _ (by omega)).2.1 (OW_lt hD.1 (by omega))).trans hx) rfl (by decide) rfl rfl ?_
  refine go_s (pc' := 3) rfl rfl rfl rfl ?_
  refine go_sget (pc' := 4) (v := .ref 61) hS rfl rfl rfl (by decide) rfl rfl ?_
  refine go_salen (pc' := 5) (n := 3) hS rfl rfl rfl rfl ?_
  refine go_callS (pc' := 6) rfl rfl rfl (Nat.le_of_ble_eq_true rfl) rfl rfl rfl (ct_within_t (q := 1) (n := 3) (by decide) (by decide) (by omega)) (fun r h2 q3 => ?_)
  obtain ⟨rfl, rfl⟩ := q3
  refine go_ifP (t' := 8) (pc' := 7) rfl rfl rfl (fun _ => ?_) (fun (c : ¬ (¬ (1 : Int32) = 0)) => absurd (by decide) c)
  refine go_s (pc' := 9) rfl rfl rfl rfl ?_
  refine go_sget (pc' := 10) (v := .ref 61) hS rfl rfl rfl (by decide) rfl rfl ?_
  refine go_s (pc' := 11) rfl rfl rfl rfl ?_
  refine go_get (pc' := 12) rfl ((hF1.2.2.2 _ (hD.1.2.2 _ (by omega)).2.1 (OW_lt hD.1 (by omega))).trans hx) rfl (by decide) rfl rfl ?_
  refine go_sald (pc' := 13) (q := 1) (v := .ref 59) hS rfl rfl rfl rfl (by decide) rfl rfl ?_
  refine go_s (pc' := 14) (lo' := [some (.ref 1), some (.ref x), some (.int (nI p)), some (.ref 59)]) rfl rfl rfl rfl ?_
  refine go_s (pc' := 15) rfl rfl rfl rfl ?_
  refine go_sget (pc' := 16) (v := .int (I 11 1)) hS rfl rfl rfl (by decide) rfl rfl ?_
  refine go_s (pc' := 17) rfl rfl rfl rfl ?_
  refine go_icmpP (t' := 23) (pc' := 18) rfl rfl rfl (fun (c4 : ¬ (I 11 1) = (nI p)) => ?_) (fun (c4' : ¬ ¬ (I 11 1) = (nI p)) => ?_)
  · skip
    refine go_ret rfl rfl ?_
    have hD5 : CD w e m0 h2 I Q Z X ow sb := CD_I (CD_fr hD hF1) ⟨rfl, rfl, rfl, rfl, rfl, rfl, rfl, rfl, rfl, rfl, rfl, rfl, rfl, rfl, rfl⟩
    have hB6 : co h2 I ≤ B + 0 := by
      have := co_fr (I := I) (J := I) hF1 rfl
      have := hB
      omega
    have hC7 : CA w e m0 (B + 0) h2 (I, Q, Z) := ⟨X, ow, sb, hS, hD5, hB6, fun l hl => Nat.le_trans (hQ l hl) hF1.1⟩
    have hms : mwd 1 p td (I, Q, Z) = (I, Q, Z) := if_pos (Or.inl c4)
    rw [hms]
    exact ⟨rfl, CA_le hC7 (by omega)⟩
  · skip
    have c4 : (I 11 1) = (nI p) := Decidable.not_not.mp c4'
    refine go_s (pc' := 19) rfl rfl rfl rfl ?_
    refine go_get (pc' := 20) rfl ((hF1.2.2.2 _ (hD.1.2.2 _ (by omega)).2.1 (OW_lt hD.1 (by omega))).trans hx) rfl (by decide) rfl rfl ?_
    refine go_s (pc' := 21) rfl rfl rfl rfl ?_
    refine go_sget (pc' := 22) (v := .int (I 15 1)) hS rfl rfl rfl (by decide) rfl rfl ?_
    refine go_icmpP (t' := 24) (pc' := 23) rfl rfl rfl (fun (c8 : td = (I 15 1)) => ?_) (fun (c8 : ¬ td = (I 15 1)) => ?_)
    · skip
      refine go_s (pc' := 25) rfl rfl rfl rfl ?_
      refine go_sget (pc' := 26) (v := .int (I 13 1)) hS rfl rfl rfl (by decide) rfl rfl ?_
      refine go_ifP (t' := 31) (pc' := 27) rfl rfl rfl (fun (c9 : ¬ (I 13 1) = 0) => ?_) (fun (c9' : ¬ ¬ (I 13 1) = 0) => ?_)
      · skip
        refine go_s (pc' := 32) rfl rfl rfl rfl ?_
        refine go_sget (pc' := 33) (v := .int (I 14 1)) hS rfl rfl rfl (by decide) rfl rfl ?_
        refine go_ifP (t' := 38) (pc' := 34) rfl rfl rfl (fun (c10 : (I 14 1) = 0) => ?_) (fun (c10 : ¬ (I 14 1) = 0) => ?_)
        · skip
          refine go_s (pc' := 39) rfl rfl rfl rfl ?_
          refine go_s (pc' := 40) (st' := [.int 0, .ref 59]) rfl rfl rfl rfl ?_
          refine go_sput (pc' := 41) hS rfl rfl rfl (by decide) tbc_inj (Nat.le_of_ble_eq_true rfl) rfl (hW _ rfl) rfl (fun h11 hS12 hE13 => ?_)
          have hF14 := fr_trans hF1 (fr_e hE13)
          refine go_s (pc' := 42) rfl rfl rfl rfl ?_
          refine go_s (pc' := 43) (st' := [.int 1, .ref 59]) rfl rfl rfl rfl ?_
          refine go_sputX (pc' := 44) hS12 rfl rfl rfl (by decide) tbc_inj (Nat.le_of_ble_eq_true rfl) (Nat.le_of_ble_eq_true rfl) rfl (hW _ rfl) rfl (fun h15 hS16 hE17 => ?_)
          have hF18 := fr_trans hF14 (fr_e hE17)
          refine go_ret rfl rfl ?_
          have hms : mwd 1 p td (I, Q, Z) = mbk 1 (I, Q, Z) := by
            unfold mwd
            rw [if_neg (fun z => z.elim (fun z => z c4) (fun z => z c8)), if_neg c9, if_pos c10]
          have hD9 : CD w e m0 h15 (mbk 1 (I, Q, Z)).1 Q Z (uX X 207 1 (.int 1)) ow sb := CD_bk (v := nI (ohn I 1)) (CD_I (J := uI I 13 1 0) (CD_fr hD hF18) ⟨rfl, rfl, rfl, rfl, rfl, rfl, rfl, rfl, rfl, rfl, rfl, rfl, rfl, rfl, rfl⟩) (by unfold ohn; split <;> split <;> rfl)
          rw [hms]
          exact ⟨rfl, ⟨(uX X 207 1 (.int 1)), ow, sb, sm_12 hS16 rfl, hD9, by have := co_fr (I := I) (J := (mbk 1 (I, Q, Z)).1) hF18 rfl; omega, fun l hl => Nat.le_trans (hQ l hl) hF18.1⟩⟩
        · skip
          refine go_s (pc' := 35) rfl rfl rfl rfl ?_
          refine go_s (pc' := 36) rfl rfl rfl rfl ?_
          have hD19 : CD w e m0 h2 I Q Z X ow sb := CD_I (CD_fr hD hF1) ⟨rfl, rfl, rfl, rfl, rfl, rfl, rfl, rfl, rfl, rfl, rfl, rfl, rfl, rfl, rfl⟩
          have hB20 : co h2 I ≤ B + 0 := by
            have := co_fr (I := I) (J := I) hF1 rfl
            have := hB
            omega
          have hC21 : CA w e m0 (B + 0) h2 (I, Q, Z) := ⟨X, ow, sb, hS, hD19, hB20, fun l hl => Nat.le_trans (hQ l hl) hF1.1⟩
          refine go_callV (pc' := 37) rfl rfl rfl (Nat.le_of_ble_eq_true rfl) rfl (sm_o hS rfl) rfl rfl rfl (cm_sC_1 hC21 (by omega) (lv_of c4 hp hu) (by omega)) (fun r h22 q23 => ?_)
          obtain ⟨rfl, hC24⟩ := q23
          change CA w e m0 (B + 0 + 20) h22 (msC 1 (I, Q, Z)) at hC24
          obtain ⟨X25, ow25, sb25, hS25, hD25, hB25, hQ25⟩ := hC24
          have hW := hD25.1.1
          have hWn : ∀ a, List.length h22 ≤ a → w a = true := fun a ha => (hD25.1.2.1 a ha).1
          have hF26 := fr_refl tbc h22
          have hln : 62 ≤ List.length h22 := sm_len hS25
          refine go_s (pc' := 44) rfl rfl rfl rfl ?_
          refine go_ret rfl rfl ?_
          have hD27 : CD w e m0 h22 ((msC 1 (I, Q, Z))).1 ((msC 1 (I, Q, Z))).2.1 ((msC 1 (I, Q, Z))).2.2 X25 ow25 sb25 := CD_I (CD_fr hD25 hF26) ⟨rfl, rfl, rfl, rfl, rfl, rfl, rfl, rfl, rfl, rfl, rfl, rfl, rfl, rfl, rfl⟩
          have hB28 : co h22 ((msC 1 (I, Q, Z))).1 ≤ (B + 0 + 20) + 0 := by
            have := co_fr (I := ((msC 1 (I, Q, Z))).1) (J := ((msC 1 (I, Q, Z))).1) hF26 rfl
            have := hB25
            omega
          have hC29 : CA w e m0 ((B + 0 + 20) + 0) h22 (((msC 1 (I, Q, Z))).1, ((msC 1 (I, Q, Z))).2.1, ((msC 1 (I, Q, Z))).2.2) := ⟨X25, ow25, sb25, hS25, hD27, hB28, fun l hl => Nat.le_trans (hQ25 l hl) hF26.1⟩
          have hms : mwd 1 p td (I, Q, Z) = (msC 1 (I, Q, Z)) := by
            unfold mwd
            rw [if_neg (fun z => z.elim (fun z => z c4) (fun z => z c8)), if_neg c9, if_neg c10]
          rw [hms]
          exact ⟨rfl, CA_le hC29 (by omega)⟩
      · skip
        have c9 : (I 13 1) = 0 := Decidable.not_not.mp c9'
        refine go_s (pc' := 28) rfl rfl rfl rfl ?_
        refine go_s (pc' := 29) rfl rfl rfl rfl ?_
        have hD30 : CD w e m0 h2 I Q Z X ow sb := CD_I (CD_fr hD hF1) ⟨rfl, rfl, rfl, rfl, rfl, rfl, rfl, rfl, rfl, rfl, rfl, rfl, rfl, rfl, rfl⟩
        have hB31 : co h2 I ≤ B + 0 := by
          have := co_fr (I := I) (J := I) hF1 rfl
          have := hB
          omega
        have hC32 : CA w e m0 (B + 0) h2 (I, Q, Z) := ⟨X, ow, sb, hS, hD30, hB31, fun l hl => Nat.le_trans (hQ l hl) hF1.1⟩
        refine go_callV (pc' := 30) rfl rfl rfl (Nat.le_of_ble_eq_true rfl) rfl (sm_o hS rfl) rfl rfl rfl (cm_stw_1 hC32 (by omega) hw9 (by omega)) (fun r h33 q34 => ?_)
        obtain ⟨rfl, hC35⟩ := q34
        change CA w e m0 (B + 0 + 20) h33 (mstw 1 (I, Q, Z)) at hC35
        obtain ⟨X36, ow36, sb36, hS36, hD36, hB36, hQ36⟩ := hC35
        have hW := hD36.1.1
        have hWn : ∀ a, List.length h33 ≤ a → w a = true := fun a ha => (hD36.1.2.1 a ha).1
        have hF37 := fr_refl tbc h33
        have hln : 62 ≤ List.length h33 := sm_len hS36
        refine go_s (pc' := 44) rfl rfl rfl rfl ?_
        refine go_ret rfl rfl ?_
        have hD38 : CD w e m0 h33 ((mstw 1 (I, Q, Z))).1 ((mstw 1 (I, Q, Z))).2.1 ((mstw 1 (I, Q, Z))).2.2 X36 ow36 sb36 := CD_I (CD_fr hD36 hF37) ⟨rfl, rfl, rfl, rfl, rfl, rfl, rfl, rfl, rfl, rfl, rfl, rfl, rfl, rfl, rfl⟩
        have hB39 : co h33 ((mstw 1 (I, Q, Z))).1 ≤ (B + 0 + 20) + 0 := by
          have := co_fr (I := ((mstw 1 (I, Q, Z))).1) (J := ((mstw 1 (I, Q, Z))).1) hF37 rfl
          have := hB36
          omega
        have hC40 : CA w e m0 ((B + 0 + 20) + 0) h33 (((mstw 1 (I, Q, Z))).1, ((mstw 1 (I, Q, Z))).2.1, ((mstw 1 (I, Q, Z))).2.2) := ⟨X36, ow36, sb36, hS36, hD38, hB39, fun l hl => Nat.le_trans (hQ36 l hl) hF37.1⟩
        have hms : mwd 1 p td (I, Q, Z) = (mstw 1 (I, Q, Z)) := by
          unfold mwd
          rw [if_neg (fun z => z.elim (fun z => z c4) (fun z => z c8)), if_pos c9]
        rw [hms]
        exact ⟨rfl, CA_le hC40 (by omega)⟩
    · skip
      refine go_ret rfl rfl ?_
      have hD41 : CD w e m0 h2 I Q Z X ow sb := CD_I (CD_fr hD hF1) ⟨rfl, rfl, rfl, rfl, rfl, rfl, rfl, rfl, rfl, rfl, rfl, rfl, rfl, rfl, rfl⟩
      have hB42 : co h2 I ≤ B + 0 := by
        have := co_fr (I := I) (J := I) hF1 rfl
        have := hB
        omega
      have hC43 : CA w e m0 (B + 0) h2 (I, Q, Z) := ⟨X, ow, sb, hS, hD41, hB42, fun l hl => Nat.le_trans (hQ l hl) hF1.1⟩
      have hms : mwd 1 p td (I, Q, Z) = (I, Q, Z) := if_pos (Or.inr c8)
      rw [hms]
      exact ⟨rfl, CA_le hC43 (by omega)⟩
theorem cx_wd_2 {w : Nat → Bool} {d : Nat} {h : am_Hp} {e : Nat} {m0 : mg} {B : Nat} {I : sm_I} {Q : mQ} {Z : mZ} {X : sm_X} {ow : ow_T} {sb : Nat} (hS : sm tbc h I X) (hD : CD w e m0 h I Q Z X ow sb) (hB : co h I ≤ B) (hQ : ∀ l, l < 16 → (Q l).length ≤ h.length) (hB2 : B < 2 ^ 28) {p : Nat} (hp : p < 4) (hu : ¬ I 0 p = 0) {k0 : Int32} {x : Nat} {n0 td : Int32} {vq va vs nx : Value} (ox : ow x ≠ 0) (hx : h[x]? = some (.inl (9, [.int k0, .int n0, .int 2, .int td, vq, va, vs, nx]))) (hw9 : I 16 2 = 1 → lv I 2 = true) (hd : 6 ≤ d) : am_Ev (am_prog w) d 84 [.ref 1, .ref x, .int (nI p)] h (fun r h' => r = none ∧ CA w e m0 (B + 344) h' (mwd 2 p td (I, Q, Z))) := by
  have hW := hD.1.1
  have hWn : ∀ a, List.length h ≤ a → w a = true := fun a ha => (hD.1.2.1 a ha).1
  have hF1 := fr_refl tbc h
  have hln : 62 ≤ List.length h := sm_len hS
  obtain ⟨d, rfl⟩ : ∃ e, d = e + 1 := ⟨d - 1, by omega⟩
  refine ev_go rfl (Nat.le_of_ble_eq_true rfl) rfl ?_
  refine go_s (pc' := 1) rfl rfl rfl rfl ?_
  refine go_get (pc' := 2) rfl ((hF1.2.2.2 _ (hD.1.2.2 _ (by omega)).2.1 (OW_lt hD.1 (by omega))).trans hx) rfl (by decide) rfl rfl ?_
  refine go_s (pc' := 3) rfl rfl rfl rfl ?_
  refine go_sget (pc' := 4) (v := .ref 61) hS rfl rfl rfl (by decide) rfl rfl ?_
  refine go_salen (pc' := 5) (n := 3) hS rfl rfl rfl rfl ?_
  refine go_callS (pc' := 6) rfl rfl rfl (Nat.le_of_ble_eq_true rfl) rfl rfl rfl (ct_within_t (q := 2) (n := 3) (by decide) (by decide) (by omega)) (fun r h2 q3 => ?_)
  obtain ⟨rfl, rfl⟩ := q3
  refine go_ifP (t' := 8) (pc' := 7) rfl rfl rfl (fun _ => ?_) (fun (c : ¬ (¬ (1 : Int32) = 0)) => absurd (by decide) c)
  refine go_s (pc' := 9) rfl rfl rfl rfl ?_
  refine go_sget (pc' := 10) (v := .ref 61) hS rfl rfl rfl (by decide) rfl rfl ?_
  refine go_s (pc' := 11) rfl rfl rfl rfl ?_
  refine go_get (pc' := 12) rfl ((hF1.2.2.2 _ (hD.1.2.2 _ (by omega)).2.1 (OW_lt hD.1 (by omega))).trans hx) rfl (by decide) rfl rfl ?_
  refine go_sald (pc' := 13) (q := 2) (v := .ref 60) hS rfl rfl rfl rfl (by decide) rfl rfl ?_
  refine go_s (pc' := 14) (lo' := [some (.ref 1), some (.ref x), some (.int (nI p)), some (.ref 60)]) rfl rfl rfl rfl ?_
  refine go_s (pc' := 15) rfl rfl rfl rfl ?_
  refine go_sget (pc' := 16) (v := .int (I 11 2)) hS rfl rfl rfl (by decide) rfl rfl ?_
  refine go_s (pc' := 17) rfl rfl rfl rfl ?_
  refine go_icmpP (t' := 23) (pc' := 18) rfl rfl rfl (fun (c4 : ¬ (I 11 2) = (nI p)) => ?_) (fun (c4' : ¬ ¬ (I 11 2) = (nI p)) => ?_)
  · skip
    refine go_ret rfl rfl ?_
    have hD5 : CD w e m0 h2 I Q Z X ow sb := CD_I (CD_fr hD hF1) ⟨rfl, rfl, rfl, rfl, rfl, rfl, rfl, rfl, rfl, rfl, rfl, rfl, rfl, rfl, rfl⟩
    have hB6 : co h2 I ≤ B + 0 := by
      have := co_fr (I := I) (J := I) hF1 rfl
      have := hB
      omega
    have hC7 : CA w e m0 (B + 0) h2 (I, Q, Z) := ⟨X, ow, sb, hS, hD5, hB6, fun l hl => Nat.le_trans (hQ l hl) hF1.1⟩
    have hms : mwd 2 p td (I, Q, Z) = (I, Q, Z) := if_pos (Or.inl c4)
    rw [hms]
    exact ⟨rfl, CA_le hC7 (by omega)⟩
  · skip
    have c4 : (I 11 2) = (nI p) := Decidable.not_not.mp c4'
    refine go_s (pc' := 19) rfl rfl rfl rfl ?_
    refine go_get (pc' := 20) rfl ((hF1.2.2.2 _ (hD.1.2.2 _ (by omega)).2.1 (OW_lt hD.1 (by omega))).trans hx) rfl (by decide) rfl rfl ?_
    refine go_s (pc' := 21) rfl rfl rfl rfl ?_
    refine go_sget (pc' := 22) (v := .int (I 15 2)) hS rfl rfl rfl (by decide) rfl rfl ?_
    refine go_icmpP (t' := 24) (pc' := 23) rfl rfl rfl (fun (c8 : td = (I 15 2)) => ?_) (fun (c8 : ¬ td = (I 15 2)) => ?_)
    · skip
      refine go_s (pc' := 25) rfl rfl rfl rfl ?_
      refine go_sget (pc' := 26) (v := .int (I 13 2)) hS rfl rfl rfl (by decide) rfl rfl ?_
      refine go_ifP (t' := 31) (pc' := 27) rfl rfl rfl (fun (c9 : ¬ (I 13 2) = 0) => ?_) (fun (c9' : ¬ ¬ (I 13 2) = 0) => ?_)
      · skip
        refine go_s (pc' := 32) rfl rfl rfl rfl ?_
        refine go_sget (pc' := 33) (v := .int (I 14 2)) hS rfl rfl rfl (by decide) rfl rfl ?_
        refine go_ifP (t' := 38) (pc' := 34) rfl rfl rfl (fun (c10 : (I 14 2) = 0) => ?_) (fun (c10 : ¬ (I 14 2) = 0) => ?_)
        · skip
          refine go_s (pc' := 39) rfl rfl rfl rfl ?_
          refine go_s (pc' := 40) (st' := [.int 0, .ref 60]) rfl rfl rfl rfl ?_
          refine go_sput (pc' := 41) hS rfl rfl rfl (by decide) tbc_inj (Nat.le_of_ble_eq_true rfl) rfl (hW _ rfl) rfl (fun h11 hS12 hE13 => ?_)
          have hF14 := fr_trans hF1 (fr_e hE13)
          refine go_s (pc' := 42) rfl rfl rfl rfl ?_
          refine go_s (pc' := 43) (st' := [.int 1, .ref 60]) rfl rfl rfl rfl ?_
          refine go_sputX (pc' := 44) hS12 rfl rfl rfl (by decide) tbc_inj (Nat.le_of_ble_eq_true rfl) (Nat.le_of_ble_eq_true rfl) rfl (hW _ rfl) rfl (fun h15 hS16 hE17 => ?_)
          have hF18 := fr_trans hF14 (fr_e hE17)
          refine go_ret rfl rfl ?_
          have hms : mwd 2 p td (I, Q, Z) = mbk 2 (I, Q, Z) := by
            unfold mwd
            rw [if_neg (fun z => z.elim (fun z => z c4) (fun z => z c8)), if_neg c9, if_pos c10]
          have hD9 : CD w e m0 h15 (mbk 2 (I, Q, Z)).1 Q Z (uX X 207 2 (.int 1)) ow sb := CD_bk (v := nI (ohn I 2)) (CD_I (J := uI I 13 2 0) (CD_fr hD hF18) ⟨rfl, rfl, rfl, rfl, rfl, rfl, rfl, rfl, rfl, rfl, rfl, rfl, rfl, rfl, rfl⟩) (by unfold ohn; split <;> split <;> rfl)
          rw [hms]
          exact ⟨rfl, ⟨(uX X 207 2 (.int 1)), ow, sb, sm_12 hS16 rfl, hD9, by have := co_fr (I := I) (J := (mbk 2 (I, Q, Z)).1) hF18 rfl; omega, fun l hl => Nat.le_trans (hQ l hl) hF18.1⟩⟩
        · skip
          refine go_s (pc' := 35) rfl rfl rfl rfl ?_
          refine go_s (pc' := 36) rfl rfl rfl rfl ?_
          have hD19 : CD w e m0 h2 I Q Z X ow sb := CD_I (CD_fr hD hF1) ⟨rfl, rfl, rfl, rfl, rfl, rfl, rfl, rfl, rfl, rfl, rfl, rfl, rfl, rfl, rfl⟩
          have hB20 : co h2 I ≤ B + 0 := by
            have := co_fr (I := I) (J := I) hF1 rfl
            have := hB
            omega
          have hC21 : CA w e m0 (B + 0) h2 (I, Q, Z) := ⟨X, ow, sb, hS, hD19, hB20, fun l hl => Nat.le_trans (hQ l hl) hF1.1⟩
          refine go_callV (pc' := 37) rfl rfl rfl (Nat.le_of_ble_eq_true rfl) rfl (sm_o hS rfl) rfl rfl rfl (cm_sC_2 hC21 (by omega) (lv_of c4 hp hu) (by omega)) (fun r h22 q23 => ?_)
          obtain ⟨rfl, hC24⟩ := q23
          change CA w e m0 (B + 0 + 20) h22 (msC 2 (I, Q, Z)) at hC24
          obtain ⟨X25, ow25, sb25, hS25, hD25, hB25, hQ25⟩ := hC24
          have hW := hD25.1.1
          have hWn : ∀ a, List.length h22 ≤ a → w a = true := fun a ha => (hD25.1.2.1 a ha).1
          have hF26 := fr_refl tbc h22
          have hln : 62 ≤ List.length h22 := sm_len hS25
          refine go_s (pc' := 44) rfl rfl rfl rfl ?_
          refine go_ret rfl rfl ?_
          have hD27 : CD w e m0 h22 ((msC 2 (I, Q, Z))).1 ((msC 2 (I, Q, Z))).2.1 ((msC 2 (I, Q, Z))).2.2 X25 ow25 sb25 := CD_I (CD_fr hD25 hF26) ⟨rfl, rfl, rfl, rfl, rfl, rfl, rfl, rfl, rfl, rfl, rfl, rfl, rfl, rfl, rfl⟩
          have hB28 : co h22 ((msC 2 (I, Q, Z))).1 ≤ (B + 0 + 20) + 0 := by
            have := co_fr (I := ((msC 2 (I, Q, Z))).1) (J := ((msC 2 (I, Q, Z))).1) hF26 rfl
            have := hB25
            omega
          have hC29 : CA w e m0 ((B + 0 + 20) + 0) h22 (((msC 2 (I, Q, Z))).1, ((msC 2 (I, Q, Z))).2.1, ((msC 2 (I, Q, Z))).2.2) := ⟨X25, ow25, sb25, hS25, hD27, hB28, fun l hl => Nat.le_trans (hQ25 l hl) hF26.1⟩
          have hms : mwd 2 p td (I, Q, Z) = (msC 2 (I, Q, Z)) := by
            unfold mwd
            rw [if_neg (fun z => z.elim (fun z => z c4) (fun z => z c8)), if_neg c9, if_neg c10]
          rw [hms]
          exact ⟨rfl, CA_le hC29 (by omega)⟩
      · skip
        have c9 : (I 13 2) = 0 := Decidable.not_not.mp c9'
        refine go_s (pc' := 28) rfl rfl rfl rfl ?_
        refine go_s (pc' := 29) rfl rfl rfl rfl ?_
        have hD30 : CD w e m0 h2 I Q Z X ow sb := CD_I (CD_fr hD hF1) ⟨rfl, rfl, rfl, rfl, rfl, rfl, rfl, rfl, rfl, rfl, rfl, rfl, rfl, rfl, rfl⟩
        have hB31 : co h2 I ≤ B + 0 := by
          have := co_fr (I := I) (J := I) hF1 rfl
          have := hB
          omega
        have hC32 : CA w e m0 (B + 0) h2 (I, Q, Z) := ⟨X, ow, sb, hS, hD30, hB31, fun l hl => Nat.le_trans (hQ l hl) hF1.1⟩
        refine go_callV (pc' := 30) rfl rfl rfl (Nat.le_of_ble_eq_true rfl) rfl (sm_o hS rfl) rfl rfl rfl (cm_stw_2 hC32 (by omega) hw9 (by omega)) (fun r h33 q34 => ?_)
        obtain ⟨rfl, hC35⟩ := q34
        change CA w e m0 (B + 0 + 20) h33 (mstw 2 (I, Q, Z)) at hC35
        obtain ⟨X36, ow36, sb36, hS36, hD36, hB36, hQ36⟩ := hC35
        have hW := hD36.1.1
        have hWn : ∀ a, List.length h33 ≤ a → w a = true := fun a ha => (hD36.1.2.1 a ha).1
        have hF37 := fr_refl tbc h33
        have hln : 62 ≤ List.length h33 := sm_len hS36
        refine go_s (pc' := 44) rfl rfl rfl rfl ?_
        refine go_ret rfl rfl ?_
        have hD38 : CD w e m0 h33 ((mstw 2 (I, Q, Z))).1 ((mstw 2 (I, Q, Z))).2.1 ((mstw 2 (I, Q, Z))).2.2 X36 ow36 sb36 := CD_I (CD_fr hD36 hF37) ⟨rfl, rfl, rfl, rfl, rfl, rfl, rfl, rfl, rfl, rfl, rfl, rfl, rfl, rfl, rfl⟩
        have hB39 : co h33 ((mstw 2 (I, Q, Z))).1 ≤ (B + 0 + 20) + 0 := by
          have := co_fr (I := ((mstw 2 (I, Q, Z))).1) (J := ((mstw 2 (I, Q, Z))).1) hF37 rfl
          have := hB36
          omega
        have hC40 : CA w e m0 ((B + 0 + 20) + 0) h33 (((mstw 2 (I, Q, Z))).1, ((mstw 2 (I, Q, Z))).2.1, ((mstw 2 (I, Q, Z))).2.2) := ⟨X36, ow36, sb36, hS36, hD38, hB39, fun l hl => Nat.le_trans (hQ36 l hl) hF37.1⟩
        have hms : mwd 2 p td (I, Q, Z) = (mstw 2 (I, Q, Z)) := by
          unfold mwd
          rw [if_neg (fun z => z.elim (fun z => z c4) (fun z => z c8)), if_pos c9]
        rw [hms]
        exact ⟨rfl, CA_le hC40 (by omega)⟩
    · skip
      refine go_ret rfl rfl ?_
      have hD41 : CD w e m0 h2 I Q Z X ow sb := CD_I (CD_fr hD hF1) ⟨rfl, rfl, rfl, rfl, rfl, rfl, rfl, rfl, rfl, rfl, rfl, rfl, rfl, rfl, rfl⟩
      have hB42 : co h2 I ≤ B + 0 := by
        have := co_fr (I := I) (J := I) hF1 rfl
        have := hB
        omega
      have hC43 : CA w e m0 (B + 0) h2 (I, Q, Z) := ⟨X, ow, sb, hS, hD41, hB42, fun l hl => Nat.le_trans (hQ l hl) hF1.1⟩
      have hms : mwd 2 p td (I, Q, Z) = (I, Q, Z) := if_pos (Or.inr c8)
      rw [hms]
      exact ⟨rfl, CA_le hC43 (by omega)⟩
theorem ct_keep_0 {w : Nat → Bool} {d : Nat} {h : am_Hp} {I : sm_I} {X : sm_X} (hS : sm tbc h I X) (hW : ∀ a, (tbc a).isSome = true → w a = true) {x : Nat} (hxt : tbc x = none) {k0 n0 td : Int32} {vq va nx : Value} {b : Nat} (hx : h[x]? = some (.inl (9, [.int k0, .int n0, .int 0, .int td, vq, va, .ref b, nx]))) (hd : 1 ≤ d) : am_Ev (am_prog w) d 86 [.ref 32, .ref x] h (fun r h' => r = none ∧ sm tbc h' I (uX X 209 0 (.ref b)) ∧ sm_e tbc h h') := by
  obtain ⟨d, rfl⟩ : ∃ e, d = e + 1 := ⟨d - 1, by omega⟩
  refine ev_go rfl (Nat.le_of_ble_eq_true rfl) rfl ?_
  refine go_s (pc' := 1) rfl rfl rfl rfl ?_
  refine go_get (pc' := 2) rfl hx rfl (by decide) rfl rfl ?_
  refine go_s (pc' := 3) rfl rfl rfl rfl ?_
  refine go_s (pc' := 4) rfl rfl rfl rfl ?_
  refine go_s (pc' := 5) rfl rfl rfl rfl ?_
  refine go_get (pc' := 6) rfl hx rfl (by decide) rfl rfl ?_
  refine go_sputX (pc' := 7) hS rfl rfl rfl (by decide) tbc_inj (Nat.le_of_ble_eq_true rfl) (Nat.le_of_ble_eq_true rfl) rfl (hW _ rfl) rfl (fun h1 hS2 hE3 => ?_)
  have hq4 := (hE3.2.2 _ hxt).trans hx
  refine go_ret rfl rfl ?_
  exact ⟨rfl, hS2, hE3⟩
theorem ct_keep_1 {w : Nat → Bool} {d : Nat} {h : am_Hp} {I : sm_I} {X : sm_X} (hS : sm tbc h I X) (hW : ∀ a, (tbc a).isSome = true → w a = true) {x : Nat} (hxt : tbc x = none) {k0 n0 td : Int32} {vq va vs nx : Value} (hx : h[x]? = some (.inl (9, [.int k0, .int n0, .int 1, .int td, vq, va, vs, nx]))) (hfq : am_fit (.object "MirrorPairs$Request") vq = true) (hfa : am_fit (.object "MirrorPairs$Answer") va = true) (hd : 1 ≤ d) : am_Ev (am_prog w) d 87 [.ref 59, .ref x] h (fun r h' => r = none ∧ sm tbc h' I (uX (uX X 213 0 vq) 214 0 va) ∧ sm_e tbc h h') := by
  obtain ⟨d, rfl⟩ : ∃ e, d = e + 1 := ⟨d - 1, by omega⟩
  refine ev_go rfl (Nat.le_of_ble_eq_true rfl) rfl ?_
  refine go_s (pc' := 1) rfl rfl rfl rfl ?_
  refine go_s (pc' := 2) rfl rfl rfl rfl ?_
  refine go_get (pc' := 3) rfl hx rfl (by decide) rfl rfl ?_
  refine go_sputX (pc' := 4) hS rfl rfl rfl (by decide) tbc_inj (Nat.le_of_ble_eq_true rfl) (Nat.le_of_ble_eq_true rfl) hfq (hW _ rfl) rfl (fun h1 hS2 hE3 => ?_)
  have hq4 := (hE3.2.2 _ hxt).trans hx
  refine go_s (pc' := 5) rfl rfl rfl rfl ?_
  refine go_s (pc' := 6) rfl rfl rfl rfl ?_
  refine go_get (pc' := 7) rfl hq4 rfl (by decide) rfl rfl ?_
  refine go_sputX (pc' := 8) hS2 rfl rfl rfl (by decide) tbc_inj (Nat.le_of_ble_eq_true rfl) (Nat.le_of_ble_eq_true rfl) hfa (hW _ rfl) rfl (fun h5 hS6 hE7 => ?_)
  have hE8 := sm_e_trans hE3 hE7
  have hq9 := (hE7.2.2 _ hxt).trans hq4
  refine go_ret rfl rfl ?_
  exact ⟨rfl, hS6, hE8⟩
theorem ct_keep_2 {w : Nat → Bool} {d : Nat} {h : am_Hp} {I : sm_I} {X : sm_X} (hS : sm tbc h I X) (hW : ∀ a, (tbc a).isSome = true → w a = true) {x : Nat} (hxt : tbc x = none) {k0 n0 td : Int32} {vq va vs nx : Value} (hx : h[x]? = some (.inl (9, [.int k0, .int n0, .int 2, .int td, vq, va, vs, nx]))) (hfq : am_fit (.object "MirrorPairs$Request") vq = true) (hfa : am_fit (.object "MirrorPairs$Answer") va = true) (hd : 1 ≤ d) : am_Ev (am_prog w) d 87 [.ref 60, .ref x] h (fun r h' => r = none ∧ sm tbc h' I (uX (uX X 213 1 vq) 214 1 va) ∧ sm_e tbc h h') := by
  obtain ⟨d, rfl⟩ : ∃ e, d = e + 1 := ⟨d - 1, by omega⟩
  refine ev_go rfl (Nat.le_of_ble_eq_true rfl) rfl ?_
  refine go_s (pc' := 1) rfl rfl rfl rfl ?_
  refine go_s (pc' := 2) rfl rfl rfl rfl ?_
  refine go_get (pc' := 3) rfl hx rfl (by decide) rfl rfl ?_
  refine go_sputX (pc' := 4) hS rfl rfl rfl (by decide) tbc_inj (Nat.le_of_ble_eq_true rfl) (Nat.le_of_ble_eq_true rfl) hfq (hW _ rfl) rfl (fun h1 hS2 hE3 => ?_)
  have hq4 := (hE3.2.2 _ hxt).trans hx
  refine go_s (pc' := 5) rfl rfl rfl rfl ?_
  refine go_s (pc' := 6) rfl rfl rfl rfl ?_
  refine go_get (pc' := 7) rfl hq4 rfl (by decide) rfl rfl ?_
  refine go_sputX (pc' := 8) hS2 rfl rfl rfl (by decide) tbc_inj (Nat.le_of_ble_eq_true rfl) (Nat.le_of_ble_eq_true rfl) hfa (hW _ rfl) rfl (fun h5 hS6 hE7 => ?_)
  have hE8 := sm_e_trans hE3 hE7
  have hq9 := (hE7.2.2 _ hxt).trans hq4
  refine go_ret rfl rfl ?_
  exact ⟨rfl, hS6, hE8⟩
theorem cx_ts_0 {w : Nat → Bool} {d : Nat} {h : am_Hp} {e : Nat} {m0 : mg} {B : Nat} {I : sm_I} {Q : mQ} {Z : mZ} {X : sm_X} {ow : ow_T} {sb : Nat} (hS : sm tbc h I X) (hD : CD w e m0 h I Q Z X ow sb) (hB : co h I ≤ B) (hQ : ∀ l, l < 16 → (Q l).length ≤ h.length) (hB2 : B < 2 ^ 28) {f p : Nat} (hf : f < 4) (hp : p < 4) (hfp : ¬ f = p) {z : ms} {k0 : Int32} {x : Nat} {n0 td : Int32} {vq va nx : Value} (ox : ow x ≠ 0) {b : Nat} (hbs : b ≠ sb) (hst : St h ow b z) (hx : h[x]? = some (.inl (9, [.int k0, .int n0, .int 0, .int td, vq, va, .ref b, nx]))) (hd : 4 ≤ d) : am_Ev (am_prog w) d 85 [.ref 1, .ref x, .int (nI f), .int (nI p)] h (fun r h' => r = none ∧ CA w e m0 (B + 20) h' (mts 0 f p td z (I, Q, Z))) := by
  have hW := hD.1.1
  have hWn : ∀ a, List.length h ≤ a → w a = true := fun a ha => (hD.1.2.1 a ha).1
  have hF1 := fr_refl tbc h
  have hln : 62 ≤ List.length h := sm_len hS
  obtain ⟨d, rfl⟩ : ∃ e, d = e + 1 := ⟨d - 1, by omega⟩
  refine ev_go rfl (Nat.le_of_ble_eq_true rfl) rfl ?_
  refine go_s (pc' := 1) rfl rfl rfl rfl ?_
  refine go_get (pc' := 2) rfl ((hF1.2.2.2 _ (hD.1.2.2 _ (by omega)).2.1 (OW_lt hD.1 (by omega))).trans hx) rfl (by decide) rfl rfl ?_
  refine go_s (pc' := 3) rfl rfl rfl rfl ?_
  refine go_sget (pc' := 4) (v := .ref 61) hS rfl rfl rfl (by decide) rfl rfl ?_
  refine go_salen (pc' := 5) (n := 3) hS rfl rfl rfl rfl ?_
  refine go_callS (pc' := 6) rfl rfl rfl (Nat.le_of_ble_eq_true rfl) rfl rfl rfl (ct_within_t (q := 0) (n := 3) (by decide) (by decide) (by omega)) (fun r h2 q3 => ?_)
  obtain ⟨rfl, rfl⟩ := q3
  refine go_ifP (t' := 8) (pc' := 7) rfl rfl rfl (fun _ => ?_) (fun (c : ¬ (¬ (1 : Int32) = 0)) => absurd (by decide) c)
  refine go_s (pc' := 9) rfl rfl rfl rfl ?_
  refine go_sget (pc' := 10) (v := .ref 61) hS rfl rfl rfl (by decide) rfl rfl ?_
  refine go_s (pc' := 11) rfl rfl rfl rfl ?_
  refine go_get (pc' := 12) rfl ((hF1.2.2.2 _ (hD.1.2.2 _ (by omega)).2.1 (OW_lt hD.1 (by omega))).trans hx) rfl (by decide) rfl rfl ?_
  refine go_sald (pc' := 13) (q := 0) (v := .ref 32) hS rfl rfl rfl rfl (by decide) rfl rfl ?_
  refine go_s (pc' := 14) (lo' := [some (.ref 1), some (.ref x), some (.int (nI f)), some (.int (nI p)), some (.ref 32), none]) rfl rfl rfl rfl ?_
  refine go_s (pc' := 15) rfl rfl rfl rfl ?_
  refine go_sget (pc' := 16) (v := .int (I 11 0)) hS rfl rfl rfl (by decide) rfl rfl ?_
  refine go_s (pc' := 17) rfl rfl rfl rfl ?_
  refine go_icmpP (t' := 22) (pc' := 18) rfl rfl rfl (fun (c4 : ¬ (I 11 0) = (nI f)) => ?_) (fun (c4' : ¬ ¬ (I 11 0) = (nI f)) => ?_)
  · skip
    refine go_ret rfl rfl ?_
    have hD5 : CD w e m0 h2 I Q Z X ow sb := CD_I (CD_fr hD hF1) ⟨rfl, rfl, rfl, rfl, rfl, rfl, rfl, rfl, rfl, rfl, rfl, rfl, rfl, rfl, rfl⟩
    have hB6 : co h2 I ≤ B + 0 := by
      have := co_fr (I := I) (J := I) hF1 rfl
      have := hB
      omega
    have hC7 : CA w e m0 (B + 0) h2 (I, Q, Z) := ⟨X, ow, sb, hS, hD5, hB6, fun l hl => Nat.le_trans (hQ l hl) hF1.1⟩
    have hms : mts 0 f p td z (I, Q, Z) = (I, Q, Z) := if_pos (Or.inl c4)
    rw [hms]
    exact ⟨rfl, CA_le hC7 (by omega)⟩
  · skip
    have c4 : (I 11 0) = (nI f) := Decidable.not_not.mp c4'
    refine go_s (pc' := 19) rfl rfl rfl rfl ?_
    refine go_callV (pc' := 20) rfl rfl rfl (Nat.le_of_ble_eq_true rfl) rfl (sm_o hS rfl) rfl rfl rfl (ct_oh_0 hS (by omega)) (fun r h8 q9 => ?_)
    obtain ⟨rfl, rfl⟩ := q9
    refine go_s (pc' := 21) rfl rfl rfl rfl ?_
    refine go_icmpP (t' := 23) (pc' := 22) rfl rfl rfl (fun (c10 : (ohI I 0) = (nI p)) => ?_) (fun (c10 : ¬ (ohI I 0) = (nI p)) => ?_)
    · skip
      refine go_s (pc' := 24) rfl rfl rfl rfl ?_
      refine go_s (pc' := 25) rfl rfl rfl rfl ?_
      have hxt := (hD.1.2.2 _ ox).2.1
      refine go_callV (pc' := 26) rfl rfl rfl (Nat.le_of_ble_eq_true rfl) rfl (sm_o hS rfl) rfl rfl rfl (ct_keep_0 hS hW hxt (b := b) ((hF1.2.2.2 _ (hD.1.2.2 _ (by omega)).2.1 (OW_lt hD.1 (by omega))).trans hx) (by omega)) (fun r h11 q12 => ?_)
      obtain ⟨rfl, hS13, hE14⟩ := q12
      have hF15 := fr_trans hF1 (fr_e hE14)
      refine go_newF (pc' := 27) (n := 8) rfl rfl rfl rfl (fun L16 h17 hL18 hc19 hg20 => ?_)
      have ge_L16 : _ ≤ L16 := hL18 ▸ hF15.1
      have nb_L16 := tbc_out L16 (by have := sm_len hS13; omega)
      have hS21 := sm_gq hS13 hg20
      have hF22 := fr_gq hF15 hg20
      refine go_s (pc' := 28) rfl rfl rfl rfl ?_
      refine go_s (pc' := 29) (st' := [.int 5, .ref L16, .ref L16]) rfl rfl rfl rfl ?_
      refine go_callI (pc' := 30) rfl rfl rfl (Nat.le_of_ble_eq_true rfl) rfl hc19 rfl rfl rfl (ci_msg hc19 (hWn _ (by omega)) (by omega)) (fun r h23 q24 => ?_)
      obtain ⟨rfl, hc25, hp26⟩ := q24
      have hS27 := sm_pq hS21 hp26 nb_L16
      have hF28 := fr_pq hF22 hp26 (by omega)
      refine go_s (pc' := 31) (lo' := [some (.ref 1), some (.ref x), some (.int (nI f)), some (.int (nI p)), some (.ref 32), some (.ref L16)]) rfl rfl rfl rfl ?_
      refine go_s (pc' := 32) rfl rfl rfl rfl ?_
      refine go_s (pc' := 33) rfl rfl rfl rfl ?_
      refine go_get (pc' := 34) rfl ((hF28.2.2.2 _ (hD.1.2.2 _ (by omega)).2.1 (OW_lt hD.1 (by omega))).trans hx) rfl (by decide) rfl rfl ?_
      refine go_putF (pc' := 35) rfl hc25 rfl (by decide) (Nat.le_of_ble_eq_true rfl) rfl (hWn _ (by omega)) rfl (fun h29 hc30 hp31 => ?_)
      have hS32 := sm_pq hS27 hp31 nb_L16
      have hF33 := fr_pq hF28 hp31 (by omega)
      refine go_s (pc' := 36) rfl rfl rfl rfl ?_
      refine go_s (pc' := 37) rfl rfl rfl rfl ?_
      refine go_get (pc' := 38) rfl ((hF33.2.2.2 _ (hD.1.2.2 _ (by omega)).2.1 (OW_lt hD.1 (by omega))).trans hx) rfl (by decide) rfl rfl ?_
      refine go_putF (pc' := 39) rfl hc30 rfl (by decide) (Nat.le_of_ble_eq_true rfl) rfl (hWn _ (by omega)) rfl (fun h34 hc35 hp36 => ?_)
      have hS37 := sm_pq hS32 hp36 nb_L16
      have hF38 := fr_pq hF33 hp36 (by omega)
      refine go_s (pc' := 40) rfl rfl rfl rfl ?_
      refine go_sget (pc' := 41) (v := .ref 2) hS37 rfl rfl rfl (by decide) rfl rfl ?_
      refine go_s (pc' := 42) rfl rfl rfl rfl ?_
      refine go_s (pc' := 43) rfl rfl rfl rfl ?_
      refine go_s (pc' := 44) rfl rfl rfl rfl ?_
      have hms : mts 0 f p td z (I, Q, Z) = msnd p f (mgW 0 td) (mkp 0 z (I, Q, Z)) := by
        unfold mts
        rw [if_neg (fun y => y.elim (fun y => y c4) (fun y => y c10))]
      have hD9 : CD w e m0 h34 (mkp 0 z (I, Q, Z)).1 Q (mkp 0 z (I, Q, Z)).2.2 (uX X 209 0 (.ref b)) ow sb := CD_ks (CD_fr hD hF38) hbs (St_ex (ex_fr hD.1 hF38) (by omega) (by omega) hst)
      have hox : ow L16 = 0 := (hD.1.2.1 _ (by omega)).2
      have hB9 : co h34 (mkp 0 z (I, Q, Z)).1 ≤ B + 20 := by
        have := co_fr (I := I) (J := (mkp 0 z (I, Q, Z)).1) hF38 rfl
        omega
      refine go_callV (pc' := 45) rfl rfl rfl (Nat.le_of_ble_eq_true rfl) rfl (sm_o hS37 rfl) rfl rfl rfl (ct_send (sm_12 (c := 40) (k := 0) (v := 1) hS37 rfl) hD9 hB9 (fun l hl => by have := hQ l hl; have := lt_of hc35; omega) (by omega) (f := p) (t := f) hp hf (fun y => hfp y.symm) (m := mgW 0 td) hc35 hox (hWn _ (by omega)) nb_L16 (by omega) MF_W (by omega)) (fun r h39 q40 => ?_)
      obtain ⟨rfl, hC9⟩ := q40
      refine go_ret rfl rfl ?_
      exact ⟨rfl, hms ▸ hC9⟩
    · skip
      refine go_ret rfl rfl ?_
      have hD41 : CD w e m0 h8 I Q Z X ow sb := CD_I (CD_fr hD hF1) ⟨rfl, rfl, rfl, rfl, rfl, rfl, rfl, rfl, rfl, rfl, rfl, rfl, rfl, rfl, rfl⟩
      have hB42 : co h8 I ≤ B + 0 := by
        have := co_fr (I := I) (J := I) hF1 rfl
        have := hB
        omega
      have hC43 : CA w e m0 (B + 0) h8 (I, Q, Z) := ⟨X, ow, sb, hS, hD41, hB42, fun l hl => Nat.le_trans (hQ l hl) hF1.1⟩
      have hms : mts 0 f p td z (I, Q, Z) = (I, Q, Z) := if_pos (Or.inr c10)
      rw [hms]
      exact ⟨rfl, CA_le hC43 (by omega)⟩
theorem cx_ts_1 {w : Nat → Bool} {d : Nat} {h : am_Hp} {e : Nat} {m0 : mg} {B : Nat} {I : sm_I} {Q : mQ} {Z : mZ} {X : sm_X} {ow : ow_T} {sb : Nat} (hS : sm tbc h I X) (hD : CD w e m0 h I Q Z X ow sb) (hB : co h I ≤ B) (hQ : ∀ l, l < 16 → (Q l).length ≤ h.length) (hB2 : B < 2 ^ 28) {f p : Nat} (hf : f < 4) (hp : p < 4) (hfp : ¬ f = p) {z : ms} {k0 : Int32} {x : Nat} {n0 td : Int32} {vq va vs nx : Value} (ox : ow x ≠ 0) (htr : TR h ow 0 vq va z.1) (hx : h[x]? = some (.inl (9, [.int k0, .int n0, .int 1, .int td, vq, va, vs, nx]))) (hd : 4 ≤ d) : am_Ev (am_prog w) d 85 [.ref 1, .ref x, .int (nI f), .int (nI p)] h (fun r h' => r = none ∧ CA w e m0 (B + 20) h' (mts 1 f p td z (I, Q, Z))) := by
  have hW := hD.1.1
  have hWn : ∀ a, List.length h ≤ a → w a = true := fun a ha => (hD.1.2.1 a ha).1
  have hF1 := fr_refl tbc h
  have hln : 62 ≤ List.length h := sm_len hS
  obtain ⟨d, rfl⟩ : ∃ e, d = e + 1 := ⟨d - 1, by omega⟩
  refine ev_go rfl (Nat.le_of_ble_eq_true rfl) rfl ?_
  refine go_s (pc' := 1) rfl rfl rfl rfl ?_
  refine go_get (pc' := 2) rfl ((hF1.2.2.2 _ (hD.1.2.2 _ (by omega)).2.1 (OW_lt hD.1 (by omega))).trans hx) rfl (by decide) rfl rfl ?_
  refine go_s (pc' := 3) rfl rfl rfl rfl ?_
  refine go_sget (pc' := 4) (v := .ref 61) hS rfl rfl rfl (by decide) rfl rfl ?_
  refine go_salen (pc' := 5) (n := 3) hS rfl rfl rfl rfl ?_
  refine go_callS (pc' := 6) rfl rfl rfl (Nat.le_of_ble_eq_true rfl) rfl rfl rfl (ct_within_t (q := 1) (n := 3) (by decide) (by decide) (by omega)) (fun r h2 q3 => ?_)
  obtain ⟨rfl, rfl⟩ := q3
  refine go_ifP (t' := 8) (pc' := 7) rfl rfl rfl (fun _ => ?_) (fun (c : ¬ (¬ (1 : Int32) = 0)) => absurd (by decide) c)
  refine go_s (pc' := 9) rfl rfl rfl rfl ?_
  refine go_sget (pc' := 10) (v := .ref 61) hS rfl rfl rfl (by decide) rfl rfl ?_
  refine go_s (pc' := 11) rfl rfl rfl rfl ?_
  refine go_get (pc' := 12) rfl ((hF1.2.2.2 _ (hD.1.2.2 _ (by omega)).2.1 (OW_lt hD.1 (by omega))).trans hx) rfl (by decide) rfl rfl ?_
  refine go_sald (pc' := 13) (q := 1) (v := .ref 59) hS rfl rfl rfl rfl (by decide) rfl rfl ?_
  refine go_s (pc' := 14) (lo' := [some (.ref 1), some (.ref x), some (.int (nI f)), some (.int (nI p)), some (.ref 59), none]) rfl rfl rfl rfl ?_
  refine go_s (pc' := 15) rfl rfl rfl rfl ?_
  refine go_sget (pc' := 16) (v := .int (I 11 1)) hS rfl rfl rfl (by decide) rfl rfl ?_
  refine go_s (pc' := 17) rfl rfl rfl rfl ?_
  refine go_icmpP (t' := 22) (pc' := 18) rfl rfl rfl (fun (c4 : ¬ (I 11 1) = (nI f)) => ?_) (fun (c4' : ¬ ¬ (I 11 1) = (nI f)) => ?_)
  · skip
    refine go_ret rfl rfl ?_
    have hD5 : CD w e m0 h2 I Q Z X ow sb := CD_I (CD_fr hD hF1) ⟨rfl, rfl, rfl, rfl, rfl, rfl, rfl, rfl, rfl, rfl, rfl, rfl, rfl, rfl, rfl⟩
    have hB6 : co h2 I ≤ B + 0 := by
      have := co_fr (I := I) (J := I) hF1 rfl
      have := hB
      omega
    have hC7 : CA w e m0 (B + 0) h2 (I, Q, Z) := ⟨X, ow, sb, hS, hD5, hB6, fun l hl => Nat.le_trans (hQ l hl) hF1.1⟩
    have hms : mts 1 f p td z (I, Q, Z) = (I, Q, Z) := if_pos (Or.inl c4)
    rw [hms]
    exact ⟨rfl, CA_le hC7 (by omega)⟩
  · skip
    have c4 : (I 11 1) = (nI f) := Decidable.not_not.mp c4'
    refine go_s (pc' := 19) rfl rfl rfl rfl ?_
    refine go_callV (pc' := 20) rfl rfl rfl (Nat.le_of_ble_eq_true rfl) rfl (sm_o hS rfl) rfl rfl rfl (ct_oh_1 hS (by omega)) (fun r h8 q9 => ?_)
    obtain ⟨rfl, rfl⟩ := q9
    refine go_s (pc' := 21) rfl rfl rfl rfl ?_
    refine go_icmpP (t' := 23) (pc' := 22) rfl rfl rfl (fun (c10 : (ohI I 1) = (nI p)) => ?_) (fun (c10 : ¬ (ohI I 1) = (nI p)) => ?_)
    · skip
      refine go_s (pc' := 24) rfl rfl rfl rfl ?_
      refine go_s (pc' := 25) rfl rfl rfl rfl ?_
      have hxt := (hD.1.2.2 _ ox).2.1
      refine go_callV (pc' := 26) rfl rfl rfl (Nat.le_of_ble_eq_true rfl) rfl (sm_o hS rfl) rfl rfl rfl (ct_keep_1 hS hW hxt ((hF1.2.2.2 _ (hD.1.2.2 _ (by omega)).2.1 (OW_lt hD.1 (by omega))).trans hx) (TR_fit htr).1 (TR_fit htr).2 (by omega)) (fun r h11 q12 => ?_)
      obtain ⟨rfl, hS13, hE14⟩ := q12
      have hF15 := fr_trans hF1 (fr_e hE14)
      refine go_newF (pc' := 27) (n := 8) rfl rfl rfl rfl (fun L16 h17 hL18 hc19 hg20 => ?_)
      have ge_L16 : _ ≤ L16 := hL18 ▸ hF15.1
      have nb_L16 := tbc_out L16 (by have := sm_len hS13; omega)
      have hS21 := sm_gq hS13 hg20
      have hF22 := fr_gq hF15 hg20
      refine go_s (pc' := 28) rfl rfl rfl rfl ?_
      refine go_s (pc' := 29) (st' := [.int 5, .ref L16, .ref L16]) rfl rfl rfl rfl ?_
      refine go_callI (pc' := 30) rfl rfl rfl (Nat.le_of_ble_eq_true rfl) rfl hc19 rfl rfl rfl (ci_msg hc19 (hWn _ (by omega)) (by omega)) (fun r h23 q24 => ?_)
      obtain ⟨rfl, hc25, hp26⟩ := q24
      have hS27 := sm_pq hS21 hp26 nb_L16
      have hF28 := fr_pq hF22 hp26 (by omega)
      refine go_s (pc' := 31) (lo' := [some (.ref 1), some (.ref x), some (.int (nI f)), some (.int (nI p)), some (.ref 59), some (.ref L16)]) rfl rfl rfl rfl ?_
      refine go_s (pc' := 32) rfl rfl rfl rfl ?_
      refine go_s (pc' := 33) rfl rfl rfl rfl ?_
      refine go_get (pc' := 34) rfl ((hF28.2.2.2 _ (hD.1.2.2 _ (by omega)).2.1 (OW_lt hD.1 (by omega))).trans hx) rfl (by decide) rfl rfl ?_
      refine go_putF (pc' := 35) rfl hc25 rfl (by decide) (Nat.le_of_ble_eq_true rfl) rfl (hWn _ (by omega)) rfl (fun h29 hc30 hp31 => ?_)
      have hS32 := sm_pq hS27 hp31 nb_L16
      have hF33 := fr_pq hF28 hp31 (by omega)
      refine go_s (pc' := 36) rfl rfl rfl rfl ?_
      refine go_s (pc' := 37) rfl rfl rfl rfl ?_
      refine go_get (pc' := 38) rfl ((hF33.2.2.2 _ (hD.1.2.2 _ (by omega)).2.1 (OW_lt hD.1 (by omega))).trans hx) rfl (by decide) rfl rfl ?_
      refine go_putF (pc' := 39) rfl hc30 rfl (by decide) (Nat.le_of_ble_eq_true rfl) rfl (hWn _ (by omega)) rfl (fun h34 hc35 hp36 => ?_)
      have hS37 := sm_pq hS32 hp36 nb_L16
      have hF38 := fr_pq hF33 hp36 (by omega)
      refine go_s (pc' := 40) rfl rfl rfl rfl ?_
      refine go_sget (pc' := 41) (v := .ref 2) hS37 rfl rfl rfl (by decide) rfl rfl ?_
      refine go_s (pc' := 42) rfl rfl rfl rfl ?_
      refine go_s (pc' := 43) rfl rfl rfl rfl ?_
      refine go_s (pc' := 44) rfl rfl rfl rfl ?_
      have hms : mts 1 f p td z (I, Q, Z) = msnd p f (mgW 1 td) (mkp 1 z (I, Q, Z)) := by
        unfold mts
        rw [if_neg (fun y => y.elim (fun y => y c4) (fun y => y c10))]
      have hD9 : CD w e m0 h34 (mkp 1 z (I, Q, Z)).1 Q (mkp 1 z (I, Q, Z)).2.2 (uX (uX X 213 0 (vq)) 214 0 (va)) ow sb := CD_kt (t := 0) (CD_fr hD hF38) (by decide) (fun c h1 h2 => by funext j; simp [uX, h1, h2]) (fun c j hj => by simp [uX, hj]) (by simp only [uX]; simpa using TR_ex (ex_fr hD.1 hF38) (by omega) htr)
      have hox : ow L16 = 0 := (hD.1.2.1 _ (by omega)).2
      have hB9 : co h34 (mkp 1 z (I, Q, Z)).1 ≤ B + 20 := by
        have := co_fr (I := I) (J := (mkp 1 z (I, Q, Z)).1) hF38 rfl
        omega
      refine go_callV (pc' := 45) rfl rfl rfl (Nat.le_of_ble_eq_true rfl) rfl (sm_o hS37 rfl) rfl rfl rfl (ct_send (sm_12 (c := 40) (k := 1) (v := 1) hS37 rfl) hD9 hB9 (fun l hl => by have := hQ l hl; have := lt_of hc35; omega) (by omega) (f := p) (t := f) hp hf (fun y => hfp y.symm) (m := mgW 1 td) hc35 hox (hWn _ (by omega)) nb_L16 (by omega) MF_W (by omega)) (fun r h39 q40 => ?_)
      obtain ⟨rfl, hC9⟩ := q40
      refine go_ret rfl rfl ?_
      exact ⟨rfl, hms ▸ hC9⟩
    · skip
      refine go_ret rfl rfl ?_
      have hD41 : CD w e m0 h8 I Q Z X ow sb := CD_I (CD_fr hD hF1) ⟨rfl, rfl, rfl, rfl, rfl, rfl, rfl, rfl, rfl, rfl, rfl, rfl, rfl, rfl, rfl⟩
      have hB42 : co h8 I ≤ B + 0 := by
        have := co_fr (I := I) (J := I) hF1 rfl
        have := hB
        omega
      have hC43 : CA w e m0 (B + 0) h8 (I, Q, Z) := ⟨X, ow, sb, hS, hD41, hB42, fun l hl => Nat.le_trans (hQ l hl) hF1.1⟩
      have hms : mts 1 f p td z (I, Q, Z) = (I, Q, Z) := if_pos (Or.inr c10)
      rw [hms]
      exact ⟨rfl, CA_le hC43 (by omega)⟩
theorem cx_ts_2 {w : Nat → Bool} {d : Nat} {h : am_Hp} {e : Nat} {m0 : mg} {B : Nat} {I : sm_I} {Q : mQ} {Z : mZ} {X : sm_X} {ow : ow_T} {sb : Nat} (hS : sm tbc h I X) (hD : CD w e m0 h I Q Z X ow sb) (hB : co h I ≤ B) (hQ : ∀ l, l < 16 → (Q l).length ≤ h.length) (hB2 : B < 2 ^ 28) {f p : Nat} (hf : f < 4) (hp : p < 4) (hfp : ¬ f = p) {z : ms} {k0 : Int32} {x : Nat} {n0 td : Int32} {vq va vs nx : Value} (ox : ow x ≠ 0) (htr : TR h ow 1 vq va z.1) (hx : h[x]? = some (.inl (9, [.int k0, .int n0, .int 2, .int td, vq, va, vs, nx]))) (hd : 4 ≤ d) : am_Ev (am_prog w) d 85 [.ref 1, .ref x, .int (nI f), .int (nI p)] h (fun r h' => r = none ∧ CA w e m0 (B + 20) h' (mts 2 f p td z (I, Q, Z))) := by
  have hW := hD.1.1
  have hWn : ∀ a, List.length h ≤ a → w a = true := fun a ha => (hD.1.2.1 a ha).1
  have hF1 := fr_refl tbc h
  have hln : 62 ≤ List.length h := sm_len hS
  obtain ⟨d, rfl⟩ : ∃ e, d = e + 1 := ⟨d - 1, by omega⟩
  refine ev_go rfl (Nat.le_of_ble_eq_true rfl) rfl ?_
  refine go_s (pc' := 1) rfl rfl rfl rfl ?_
  refine go_get (pc' := 2) rfl ((hF1.2.2.2 _ (hD.1.2.2 _ (by omega)).2.1 (OW_lt hD.1 (by omega))).trans hx) rfl (by decide) rfl rfl ?_
  refine go_s (pc' := 3) rfl rfl rfl rfl ?_
  refine go_sget (pc' := 4) (v := .ref 61) hS rfl rfl rfl (by decide) rfl rfl ?_
  refine go_salen (pc' := 5) (n := 3) hS rfl rfl rfl rfl ?_
  refine go_callS (pc' := 6) rfl rfl rfl (Nat.le_of_ble_eq_true rfl) rfl rfl rfl (ct_within_t (q := 2) (n := 3) (by decide) (by decide) (by omega)) (fun r h2 q3 => ?_)
  obtain ⟨rfl, rfl⟩ := q3
  refine go_ifP (t' := 8) (pc' := 7) rfl rfl rfl (fun _ => ?_) (fun (c : ¬ (¬ (1 : Int32) = 0)) => absurd (by decide) c)
  refine go_s (pc' := 9) rfl rfl rfl rfl ?_
  refine go_sget (pc' := 10) (v := .ref 61) hS rfl rfl rfl (by decide) rfl rfl ?_
  refine go_s (pc' := 11) rfl rfl rfl rfl ?_
  refine go_get (pc' := 12) rfl ((hF1.2.2.2 _ (hD.1.2.2 _ (by omega)).2.1 (OW_lt hD.1 (by omega))).trans hx) rfl (by decide) rfl rfl ?_
  refine go_sald (pc' := 13) (q := 2) (v := .ref 60) hS rfl rfl rfl rfl (by decide) rfl rfl ?_
  refine go_s (pc' := 14) (lo' := [some (.ref 1), some (.ref x), some (.int (nI f)), some (.int (nI p)), some (.ref 60), none]) rfl rfl rfl rfl ?_
  refine go_s (pc' := 15) rfl rfl rfl rfl ?_
  refine go_sget (pc' := 16) (v := .int (I 11 2)) hS rfl rfl rfl (by decide) rfl rfl ?_
  refine go_s (pc' := 17) rfl rfl rfl rfl ?_
  refine go_icmpP (t' := 22) (pc' := 18) rfl rfl rfl (fun (c4 : ¬ (I 11 2) = (nI f)) => ?_) (fun (c4' : ¬ ¬ (I 11 2) = (nI f)) => ?_)
  · skip
    refine go_ret rfl rfl ?_
    have hD5 : CD w e m0 h2 I Q Z X ow sb := CD_I (CD_fr hD hF1) ⟨rfl, rfl, rfl, rfl, rfl, rfl, rfl, rfl, rfl, rfl, rfl, rfl, rfl, rfl, rfl⟩
    have hB6 : co h2 I ≤ B + 0 := by
      have := co_fr (I := I) (J := I) hF1 rfl
      have := hB
      omega
    have hC7 : CA w e m0 (B + 0) h2 (I, Q, Z) := ⟨X, ow, sb, hS, hD5, hB6, fun l hl => Nat.le_trans (hQ l hl) hF1.1⟩
    have hms : mts 2 f p td z (I, Q, Z) = (I, Q, Z) := if_pos (Or.inl c4)
    rw [hms]
    exact ⟨rfl, CA_le hC7 (by omega)⟩
  · skip
    have c4 : (I 11 2) = (nI f) := Decidable.not_not.mp c4'
    refine go_s (pc' := 19) rfl rfl rfl rfl ?_
    refine go_callV (pc' := 20) rfl rfl rfl (Nat.le_of_ble_eq_true rfl) rfl (sm_o hS rfl) rfl rfl rfl (ct_oh_2 hS (by omega)) (fun r h8 q9 => ?_)
    obtain ⟨rfl, rfl⟩ := q9
    refine go_s (pc' := 21) rfl rfl rfl rfl ?_
    refine go_icmpP (t' := 23) (pc' := 22) rfl rfl rfl (fun (c10 : (ohI I 2) = (nI p)) => ?_) (fun (c10 : ¬ (ohI I 2) = (nI p)) => ?_)
    · skip
      refine go_s (pc' := 24) rfl rfl rfl rfl ?_
      refine go_s (pc' := 25) rfl rfl rfl rfl ?_
      have hxt := (hD.1.2.2 _ ox).2.1
      refine go_callV (pc' := 26) rfl rfl rfl (Nat.le_of_ble_eq_true rfl) rfl (sm_o hS rfl) rfl rfl rfl (ct_keep_2 hS hW hxt ((hF1.2.2.2 _ (hD.1.2.2 _ (by omega)).2.1 (OW_lt hD.1 (by omega))).trans hx) (TR_fit htr).1 (TR_fit htr).2 (by omega)) (fun r h11 q12 => ?_)
      obtain ⟨rfl, hS13, hE14⟩ := q12
      have hF15 := fr_trans hF1 (fr_e hE14)
      refine go_newF (pc' := 27) (n := 8) rfl rfl rfl rfl (fun L16 h17 hL18 hc19 hg20 => ?_)
      have ge_L16 : _ ≤ L16 := hL18 ▸ hF15.1
      have nb_L16 := tbc_out L16 (by have := sm_len hS13; omega)
      have hS21 := sm_gq hS13 hg20
      have hF22 := fr_gq hF15 hg20
      refine go_s (pc' := 28) rfl rfl rfl rfl ?_
      refine go_s (pc' := 29) (st' := [.int 5, .ref L16, .ref L16]) rfl rfl rfl rfl ?_
      refine go_callI (pc' := 30) rfl rfl rfl (Nat.le_of_ble_eq_true rfl) rfl hc19 rfl rfl rfl (ci_msg hc19 (hWn _ (by omega)) (by omega)) (fun r h23 q24 => ?_)
      obtain ⟨rfl, hc25, hp26⟩ := q24
      have hS27 := sm_pq hS21 hp26 nb_L16
      have hF28 := fr_pq hF22 hp26 (by omega)
      refine go_s (pc' := 31) (lo' := [some (.ref 1), some (.ref x), some (.int (nI f)), some (.int (nI p)), some (.ref 60), some (.ref L16)]) rfl rfl rfl rfl ?_
      refine go_s (pc' := 32) rfl rfl rfl rfl ?_
      refine go_s (pc' := 33) rfl rfl rfl rfl ?_
      refine go_get (pc' := 34) rfl ((hF28.2.2.2 _ (hD.1.2.2 _ (by omega)).2.1 (OW_lt hD.1 (by omega))).trans hx) rfl (by decide) rfl rfl ?_
      refine go_putF (pc' := 35) rfl hc25 rfl (by decide) (Nat.le_of_ble_eq_true rfl) rfl (hWn _ (by omega)) rfl (fun h29 hc30 hp31 => ?_)
      have hS32 := sm_pq hS27 hp31 nb_L16
      have hF33 := fr_pq hF28 hp31 (by omega)
      refine go_s (pc' := 36) rfl rfl rfl rfl ?_
      refine go_s (pc' := 37) rfl rfl rfl rfl ?_
      refine go_get (pc' := 38) rfl ((hF33.2.2.2 _ (hD.1.2.2 _ (by omega)).2.1 (OW_lt hD.1 (by omega))).trans hx) rfl (by decide) rfl rfl ?_
      refine go_putF (pc' := 39) rfl hc30 rfl (by decide) (Nat.le_of_ble_eq_true rfl) rfl (hWn _ (by omega)) rfl (fun h34 hc35 hp36 => ?_)
      have hS37 := sm_pq hS32 hp36 nb_L16
      have hF38 := fr_pq hF33 hp36 (by omega)
      refine go_s (pc' := 40) rfl rfl rfl rfl ?_
      refine go_sget (pc' := 41) (v := .ref 2) hS37 rfl rfl rfl (by decide) rfl rfl ?_
      refine go_s (pc' := 42) rfl rfl rfl rfl ?_
      refine go_s (pc' := 43) rfl rfl rfl rfl ?_
      refine go_s (pc' := 44) rfl rfl rfl rfl ?_
      have hms : mts 2 f p td z (I, Q, Z) = msnd p f (mgW 2 td) (mkp 2 z (I, Q, Z)) := by
        unfold mts
        rw [if_neg (fun y => y.elim (fun y => y c4) (fun y => y c10))]
      have hD9 : CD w e m0 h34 (mkp 2 z (I, Q, Z)).1 Q (mkp 2 z (I, Q, Z)).2.2 (uX (uX X 213 1 (vq)) 214 1 (va)) ow sb := CD_kt (t := 1) (CD_fr hD hF38) (by decide) (fun c h1 h2 => by funext j; simp [uX, h1, h2]) (fun c j hj => by simp [uX, hj]) (by simp only [uX]; simpa using TR_ex (ex_fr hD.1 hF38) (by omega) htr)
      have hox : ow L16 = 0 := (hD.1.2.1 _ (by omega)).2
      have hB9 : co h34 (mkp 2 z (I, Q, Z)).1 ≤ B + 20 := by
        have := co_fr (I := I) (J := (mkp 2 z (I, Q, Z)).1) hF38 rfl
        omega
      refine go_callV (pc' := 45) rfl rfl rfl (Nat.le_of_ble_eq_true rfl) rfl (sm_o hS37 rfl) rfl rfl rfl (ct_send (sm_12 (c := 40) (k := 2) (v := 1) hS37 rfl) hD9 hB9 (fun l hl => by have := hQ l hl; have := lt_of hc35; omega) (by omega) (f := p) (t := f) hp hf (fun y => hfp y.symm) (m := mgW 2 td) hc35 hox (hWn _ (by omega)) nb_L16 (by omega) MF_W (by omega)) (fun r h39 q40 => ?_)
      obtain ⟨rfl, hC9⟩ := q40
      refine go_ret rfl rfl ?_
      exact ⟨rfl, hms ▸ hC9⟩
    · skip
      refine go_ret rfl rfl ?_
      have hD41 : CD w e m0 h8 I Q Z X ow sb := CD_I (CD_fr hD hF1) ⟨rfl, rfl, rfl, rfl, rfl, rfl, rfl, rfl, rfl, rfl, rfl, rfl, rfl, rfl, rfl⟩
      have hB42 : co h8 I ≤ B + 0 := by
        have := co_fr (I := I) (J := I) hF1 rfl
        have := hB
        omega
      have hC43 : CA w e m0 (B + 0) h8 (I, Q, Z) := ⟨X, ow, sb, hS, hD41, hB42, fun l hl => Nat.le_trans (hQ l hl) hF1.1⟩
      have hms : mts 2 f p td z (I, Q, Z) = (I, Q, Z) := if_pos (Or.inr c10)
      rw [hms]
      exact ⟨rfl, CA_le hC43 (by omega)⟩
