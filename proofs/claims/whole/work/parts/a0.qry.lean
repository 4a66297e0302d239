def wdn (q : Nat) : Nat := if q < 16 then 1 else if q = 16 then 2 else 5
theorem rg_at {S : sm_I} {Y : sm_X} {n c q : Nat} (hq : q < n) : (((List.range n).map (fun j => (c, j))).map (sm_v S Y))[q]? = some (sm_v S Y (c, q)) := by
  simp [hq]
theorem wdn_le (q : Nat) : wdn q ≤ 5 := by
  unfold wdn
  split
  · omega
  · split <;> omega
theorem ct_words {w : Nat → Bool} {d : Nat} {h : am_Hp} {q : Nat} (hq : q < 49) (hd : 1 ≤ d) : am_Ev (am_prog w) d 119 [.int (nI q)] h (fun r h' => r = some (.int (nI (wdn q))) ∧ h' = h) := by
  obtain ⟨d, rfl⟩ : ∃ e, d = e + 1 := ⟨d - 1, by omega⟩
  refine ev_go rfl (Nat.le_of_ble_eq_true rfl) rfl ?_
  by_cases q1 : q < 16
  · skip
    refine go_s (pc' := 1) rfl rfl rfl rfl ?_
    refine go_s (pc' := 2) (st' := [.int 16, .int (nI q)]) rfl rfl rfl rfl ?_
    refine go_icmpP (t' := 5) (pc' := 3) rfl rfl rfl (fun (c : 16 ≤ (nI q)) => absurd c (nI_ge (b := 16) q1 (by decide))) (fun _ => ?_)
    refine go_s (pc' := 4) (st' := [.int 1]) rfl rfl rfl rfl ?_
    refine go_ret rfl rfl ?_
    exact ⟨by rw [show wdn q = 1 by simp [wdn, q1]]; rfl, rfl⟩
  by_cases q2 : q = 16
  · subst q2
    refine go_s (pc' := 1) rfl rfl rfl rfl ?_
    refine go_s (pc' := 2) (st' := [.int 16, .int (nI 16)]) rfl rfl rfl rfl ?_
    refine go_icmpP (t' := 5) (pc' := 3) rfl rfl rfl (fun _ => ?_) (fun (c : ¬ (16 ≤ (nI 16))) => absurd (by decide) c)
    refine go_s (pc' := 6) rfl rfl rfl rfl ?_
    refine go_s (pc' := 7) (st' := [.int 16, .int (nI 16)]) rfl rfl rfl rfl ?_
    refine go_icmpP (t' := 10) (pc' := 8) rfl rfl rfl (fun (c : ¬ (nI 16) = 16) => absurd c (fun z => z rfl)) (fun _ => ?_)
    refine go_s (pc' := 9) (st' := [.int 2]) rfl rfl rfl rfl ?_
    refine go_s (pc' := 11) rfl rfl rfl rfl ?_
    refine go_ret rfl rfl ?_
    exact ⟨rfl, rfl⟩
  · skip
    refine go_s (pc' := 1) rfl rfl rfl rfl ?_
    refine go_s (pc' := 2) (st' := [.int 16, .int (nI q)]) rfl rfl rfl rfl ?_
    refine go_icmpP (t' := 5) (pc' := 3) rfl rfl rfl (fun _ => ?_) (fun (c : ¬ (16 ≤ (nI q))) => absurd (nI_le (a := 16) (by omega) (by omega)) c)
    refine go_s (pc' := 6) rfl rfl rfl rfl ?_
    refine go_s (pc' := 7) (st' := [.int 16, .int (nI q)]) rfl rfl rfl rfl ?_
    refine go_icmpP (t' := 10) (pc' := 8) rfl rfl rfl (fun _ => ?_) (fun (c : ¬ (¬ (nI q) = 16)) => absurd (fun z => q2 ((nI_eq (b := 16) (by omega) (by omega)).mp z)) c)
    refine go_s (pc' := 11) (st' := [.int 5]) rfl rfl rfl rfl ?_
    refine go_ret rfl rfl ?_
    exact ⟨by rw [show wdn q = 5 by simp [wdn, q1, q2]]; rfl, rfl⟩
theorem ca_dsc_0 {w : Nat → Bool} {d : Nat} {h : am_Hp} {m0 : mg} {B : Nat} {I : sm_I} {Q : mQ} {Z : mZ} (hC : CA w 32 m0 B h (I, Q, Z)) (hB2 : B < 2 ^ 26) {q r9 : Nat} (hq : q < 49) (hr : r9 < wdn q) (hd : 3 ≤ d) : am_Ev (am_prog w) d 118 [.ref 1, .int 0, .int (nI q), .int (nI r9)] h (fun r h' => r = some (.int (I 7 (245 * 0 + (q * 5 + r9)))) ∧ h' = h) := by
  obtain ⟨X, ow, sb, hS, hD, hB, hQ⟩ := hC
  change sm tbc h I X at hS
  change CD w 32 m0 h I Q Z X ow sb at hD
  change co h I ≤ B at hB
  change ∀ l, l < 16 → (Q l).length ≤ h.length at hQ
  have hW := hD.1.1
  have hWn : ∀ a, List.length h ≤ a → w a = true := fun a ha => (hD.1.2.1 a ha).1
  have hF1 := fr_refl tbc h
  have hln : 62 ≤ List.length h := sm_len hS
  have hwl := wdn_le q
  obtain ⟨d, rfl⟩ : ∃ e, d = e + 1 := ⟨d - 1, by omega⟩
  refine ev_go rfl (Nat.le_of_ble_eq_true rfl) rfl ?_
  refine go_s (pc' := 1) rfl rfl rfl rfl ?_
  refine go_s (pc' := 2) (st' := [.int 2, .int 0]) rfl rfl rfl rfl ?_
  refine go_callS (pc' := 3) rfl rfl rfl (Nat.le_of_ble_eq_true rfl) rfl rfl rfl (ct_within_t (q := 0) (n := 2) (by decide) (by decide) (by omega)) (fun r h2 q3 => ?_)
  obtain ⟨rfl, rfl⟩ := q3
  refine go_ifP (t' := 13) (pc' := 4) rfl rfl rfl (fun (c : (1 : Int32) = 0) => absurd c (by decide)) (fun _ => ?_)
  refine go_s (pc' := 5) rfl rfl rfl rfl ?_
  refine go_s (pc' := 6) (st' := [.int 49, .int (nI q)]) rfl rfl rfl rfl ?_
  refine go_callS (pc' := 7) rfl rfl rfl (Nat.le_of_ble_eq_true rfl) rfl rfl rfl (ct_within_t (n := 49) hq (by decide) (by omega)) (fun r h4 q5 => ?_)
  obtain ⟨rfl, rfl⟩ := q5
  refine go_ifP (t' := 13) (pc' := 8) rfl rfl rfl (fun (c : (1 : Int32) = 0) => absurd c (by decide)) (fun _ => ?_)
  refine go_s (pc' := 9) rfl rfl rfl rfl ?_
  refine go_s (pc' := 10) rfl rfl rfl rfl ?_
  refine go_callS (pc' := 11) rfl rfl rfl (Nat.le_of_ble_eq_true rfl) rfl rfl rfl (ct_words hq (by omega)) (fun r h6 q7 => ?_)
  obtain ⟨rfl, rfl⟩ := q7
  refine go_callS (pc' := 12) rfl rfl rfl (Nat.le_of_ble_eq_true rfl) rfl rfl rfl (ct_within_t (n := wdn q) hr (by have := wdn_le q; omega) (by omega)) (fun r h8 q9 => ?_)
  obtain ⟨rfl, rfl⟩ := q9
  refine go_ifP (t' := 15) (pc' := 13) rfl rfl rfl (fun _ => ?_) (fun (c : ¬ (¬ (1 : Int32) = 0)) => absurd (by decide) c)
  refine go_s (pc' := 16) rfl rfl rfl rfl ?_
  refine go_sget (pc' := 17) (v := .ref 24) hS rfl rfl rfl (by decide) rfl rfl ?_
  refine go_sget (pc' := 18) (v := .ref 29) hS rfl rfl rfl (by decide) rfl rfl ?_
  refine go_s (pc' := 19) rfl rfl rfl rfl ?_
  refine go_sald (pc' := 20) (q := 0) (v := .ref 30) hS rfl rfl rfl rfl (by decide) rfl rfl ?_
  refine go_s (pc' := 21) rfl rfl rfl rfl ?_
  refine go_s (pc' := 22) (st' := [.int 5, .int (nI q), .ref 30]) rfl rfl rfl rfl ?_
  refine go_nmul (pc' := 23) (a := q) (b := 5) rfl rfl rfl rfl rfl ?_
  refine go_s (pc' := 24) rfl rfl rfl rfl ?_
  refine go_nadd (pc' := 25) (a := (q * 5)) (b := r9) rfl rfl rfl rfl rfl ?_
  refine go_sald (pc' := 26) (q := ((q * 5) + r9)) (v := .int (I 7 (245 * 0 + ((q * 5) + r9)))) hS rfl (tc_ds (d := 0) (by decide) (by have := wdn_le q; omega)) rfl rfl (by omega) rfl rfl ?_
  refine go_ret rfl rfl ?_
  exact ⟨rfl, rfl⟩
theorem ca_dsc_0_c {w : Nat → Bool} {d : Nat} {h : am_Hp} {m0 : mg} {B : Nat} {I : sm_I} {Q : mQ} {Z : mZ} (hC : CA w 32 m0 B h (I, Q, Z)) (hB2 : B < 2 ^ 26) {q : Nat} (hq : q < 49) {c : Int32} (hn : c < 0 ∨ nI (wdn q) ≤ c) (hd : 3 ≤ d) : am_Ev (am_prog w) d 118 [.ref 1, .int 0, .int (nI q), .int c] h (fun r h' => r = some (.int (-2147483648)) ∧ h' = h) := by
  obtain ⟨X, ow, sb, hS, hD, hB, hQ⟩ := hC
  change sm tbc h I X at hS
  change CD w 32 m0 h I Q Z X ow sb at hD
  change co h I ≤ B at hB
  change ∀ l, l < 16 → (Q l).length ≤ h.length at hQ
  have hW := hD.1.1
  have hWn : ∀ a, List.length h ≤ a → w a = true := fun a ha => (hD.1.2.1 a ha).1
  have hF1 := fr_refl tbc h
  have hln : 62 ≤ List.length h := sm_len hS
  obtain ⟨d, rfl⟩ : ∃ e, d = e + 1 := ⟨d - 1, by omega⟩
  refine ev_go rfl (Nat.le_of_ble_eq_true rfl) rfl ?_
  refine go_s (pc' := 1) rfl rfl rfl rfl ?_
  refine go_s (pc' := 2) (st' := [.int 2, .int 0]) rfl rfl rfl rfl ?_
  refine go_callS (pc' := 3) rfl rfl rfl (Nat.le_of_ble_eq_true rfl) rfl rfl rfl (ct_within_t (q := 0) (n := 2) (by decide) (by decide) (by omega)) (fun r h2 q3 => ?_)
  obtain ⟨rfl, rfl⟩ := q3
  refine go_ifP (t' := 13) (pc' := 4) rfl rfl rfl (fun (c : (1 : Int32) = 0) => absurd c (by decide)) (fun _ => ?_)
  refine go_s (pc' := 5) rfl rfl rfl rfl ?_
  refine go_s (pc' := 6) (st' := [.int 49, .int (nI q)]) rfl rfl rfl rfl ?_
  refine go_callS (pc' := 7) rfl rfl rfl (Nat.le_of_ble_eq_true rfl) rfl rfl rfl (ct_within_t (n := 49) hq (by decide) (by omega)) (fun r h4 q5 => ?_)
  obtain ⟨rfl, rfl⟩ := q5
  refine go_ifP (t' := 13) (pc' := 8) rfl rfl rfl (fun (c : (1 : Int32) = 0) => absurd c (by decide)) (fun _ => ?_)
  refine go_s (pc' := 9) rfl rfl rfl rfl ?_
  refine go_s (pc' := 10) rfl rfl rfl rfl ?_
  refine go_callS (pc' := 11) rfl rfl rfl (Nat.le_of_ble_eq_true rfl) rfl rfl rfl (ct_words hq (by omega)) (fun r h6 q7 => ?_)
  obtain ⟨rfl, rfl⟩ := q7
  refine go_callS (pc' := 12) rfl rfl rfl (Nat.le_of_ble_eq_true rfl) rfl rfl rfl (ct_within_f (a := c) (n := wdn q) hn (by omega)) (fun r h8 q9 => ?_)
  obtain ⟨rfl, rfl⟩ := q9
  refine go_ifP (t' := 15) (pc' := 13) rfl rfl rfl (fun (c : ¬ (0 : Int32) = 0) => absurd c (by decide)) (fun _ => ?_)
  refine go_s (pc' := 14) (st' := [.int (-2147483648)]) rfl rfl rfl rfl ?_
  refine go_ret rfl rfl ?_
  exact ⟨rfl, rfl⟩
theorem ca_dsc_0_b {w : Nat → Bool} {d : Nat} {h : am_Hp} {m0 : mg} {B : Nat} {I : sm_I} {Q : mQ} {Z : mZ} (hC : CA w 32 m0 B h (I, Q, Z)) (hB2 : B < 2 ^ 26) {b c : Int32} (hn : b < 0 ∨ nI 49 ≤ b) (hd : 3 ≤ d) : am_Ev (am_prog w) d 118 [.ref 1, .int 0, .int b, .int c] h (fun r h' => r = some (.int (-2147483648)) ∧ h' = h) := by
  obtain ⟨X, ow, sb, hS, hD, hB, hQ⟩ := hC
  change sm tbc h I X at hS
  change CD w 32 m0 h I Q Z X ow sb at hD
  change co h I ≤ B at hB
  change ∀ l, l < 16 → (Q l).length ≤ h.length at hQ
  have hW := hD.1.1
  have hWn : ∀ a, List.length h ≤ a → w a = true := fun a ha => (hD.1.2.1 a ha).1
  have hF1 := fr_refl tbc h
  have hln : 62 ≤ List.length h := sm_len hS
  obtain ⟨d, rfl⟩ : ∃ e, d = e + 1 := ⟨d - 1, by omega⟩
  refine ev_go rfl (Nat.le_of_ble_eq_true rfl) rfl ?_
  refine go_s (pc' := 1) rfl rfl rfl rfl ?_
  refine go_s (pc' := 2) (st' := [.int 2, .int 0]) rfl rfl rfl rfl ?_
  refine go_callS (pc' := 3) rfl rfl rfl (Nat.le_of_ble_eq_true rfl) rfl rfl rfl (ct_within_t (q := 0) (n := 2) (by decide) (by decide) (by omega)) (fun r h2 q3 => ?_)
  obtain ⟨rfl, rfl⟩ := q3
  refine go_ifP (t' := 13) (pc' := 4) rfl rfl rfl (fun (c : (1 : Int32) = 0) => absurd c (by decide)) (fun _ => ?_)
  refine go_s (pc' := 5) rfl rfl rfl rfl ?_
  refine go_s (pc' := 6) (st' := [.int 49, .int b]) rfl rfl rfl rfl ?_
  refine go_callS (pc' := 7) rfl rfl rfl (Nat.le_of_ble_eq_true rfl) rfl rfl rfl (ct_within_f (a := b) (n := 49) hn (by omega)) (fun r h4 q5 => ?_)
  obtain ⟨rfl, rfl⟩ := q5
  refine go_ifP (t' := 13) (pc' := 8) rfl rfl rfl (fun _ => ?_) (fun (c : ¬ ((0 : Int32) = 0)) => absurd (by decide) c)
  refine go_s (pc' := 14) (st' := [.int (-2147483648)]) rfl rfl rfl rfl ?_
  refine go_ret rfl rfl ?_
  exact ⟨rfl, rfl⟩
theorem ca_dsc_1 {w : Nat → Bool} {d : Nat} {h : am_Hp} {m0 : mg} {B : Nat} {I : sm_I} {Q : mQ} {Z : mZ} (hC : CA w 32 m0 B h (I, Q, Z)) (hB2 : B < 2 ^ 26) {q r9 : Nat} (hq : q < 49) (hr : r9 < wdn q) (hd : 3 ≤ d) : am_Ev (am_prog w) d 118 [.ref 1, .int 1, .int (nI q), .int (nI r9)] h (fun r h' => r = some (.int (I 7 (245 * 1 + (q * 5 + r9)))) ∧ h' = h) := by
  obtain ⟨X, ow, sb, hS, hD, hB, hQ⟩ := hC
  change sm tbc h I X at hS
  change CD w 32 m0 h I Q Z X ow sb at hD
  change co h I ≤ B at hB
  change ∀ l, l < 16 → (Q l).length ≤ h.length at hQ
  have hW := hD.1.1
  have hWn : ∀ a, List.length h ≤ a → w a = true := fun a ha => (hD.1.2.1 a ha).1
  have hF1 := fr_refl tbc h
  have hln : 62 ≤ List.length h := sm_len hS
  have hwl := wdn_le q
  obtain ⟨d, rfl⟩ : ∃ e, d = e + 1 := ⟨d - 1, by omega⟩
  refine ev_go rfl (Nat.le_of_ble_eq_true rfl) rfl ?_
  refine go_s (pc' := 1) rfl rfl rfl rfl ?_
  refine go_s (pc' := 2) (st' := [.int 2, .int 1]) rfl rfl rfl rfl ?_
  refine go_callS (pc' := 3) rfl rfl rfl (Nat.le_of_ble_eq_true rfl) rfl rfl rfl (ct_within_t (q := 1) (n := 2) (by decide) (by decide) (by omega)) (fun r h2 q3 => ?_)
  obtain ⟨rfl, rfl⟩ := q3
  refine go_ifP (t' := 13) (pc' := 4) rfl rfl rfl (fun (c : (1 : Int32) = 0) => absurd c (by decide)) (fun _ => ?_)
  refine go_s (pc' := 5) rfl rfl rfl rfl ?_
  refine go_s (pc' := 6) (st' := [.int 49, .int (nI q)]) rfl rfl rfl rfl ?_
  refine go_callS (pc' := 7) rfl rfl rfl (Nat.le_of_ble_eq_true rfl) rfl rfl rfl (ct_within_t (n := 49) hq (by decide) (by omega)) (fun r h4 q5 => ?_)
  obtain ⟨rfl, rfl⟩ := q5
  refine go_ifP (t' := 13) (pc' := 8) rfl rfl rfl (fun (c : (1 : Int32) = 0) => absurd c (by decide)) (fun _ => ?_)
  refine go_s (pc' := 9) rfl rfl rfl rfl ?_
  refine go_s (pc' := 10) rfl rfl rfl rfl ?_
  refine go_callS (pc' := 11) rfl rfl rfl (Nat.le_of_ble_eq_true rfl) rfl rfl rfl (ct_words hq (by omega)) (fun r h6 q7 => ?_)
  obtain ⟨rfl, rfl⟩ := q7
  refine go_callS (pc' := 12) rfl rfl rfl (Nat.le_of_ble_eq_true rfl) rfl rfl rfl (ct_within_t (n := wdn q) hr (by have := wdn_le q; omega) (by omega)) (fun r h8 q9 => ?_)
  obtain ⟨rfl, rfl⟩ := q9
  refine go_ifP (t' := 15) (pc' := 13) rfl rfl rfl (fun _ => ?_) (fun (c : ¬ (¬ (1 : Int32) = 0)) => absurd (by decide) c)
  refine go_s (pc' := 16) rfl rfl rfl rfl ?_
  refine go_sget (pc' := 17) (v := .ref 24) hS rfl rfl rfl (by decide) rfl rfl ?_
  refine go_sget (pc' := 18) (v := .ref 29) hS rfl rfl rfl (by decide) rfl rfl ?_
  refine go_s (pc' := 19) rfl rfl rfl rfl ?_
  refine go_sald (pc' := 20) (q := 1) (v := .ref 31) hS rfl rfl rfl rfl (by decide) rfl rfl ?_
  refine go_s (pc' := 21) rfl rfl rfl rfl ?_
  refine go_s (pc' := 22) (st' := [.int 5, .int (nI q), .ref 31]) rfl rfl rfl rfl ?_
  refine go_nmul (pc' := 23) (a := q) (b := 5) rfl rfl rfl rfl rfl ?_
  refine go_s (pc' := 24) rfl rfl rfl rfl ?_
  refine go_nadd (pc' := 25) (a := (q * 5)) (b := r9) rfl rfl rfl rfl rfl ?_
  refine go_sald (pc' := 26) (q := ((q * 5) + r9)) (v := .int (I 7 (245 * 1 + ((q * 5) + r9)))) hS rfl (tc_ds (d := 1) (by decide) (by have := wdn_le q; omega)) rfl rfl (by omega) rfl rfl ?_
  refine go_ret rfl rfl ?_
  exact ⟨rfl, rfl⟩
theorem ca_dsc_1_c {w : Nat → Bool} {d : Nat} {h : am_Hp} {m0 : mg} {B : Nat} {I : sm_I} {Q : mQ} {Z : mZ} (hC : CA w 32 m0 B h (I, Q, Z)) (hB2 : B < 2 ^ 26) {q : Nat} (hq : q < 49) {c : Int32} (hn : c < 0 ∨ nI (wdn q) ≤ c) (hd : 3 ≤ d) : am_Ev (am_prog w) d 118 [.ref 1, .int 1, .int (nI q), .int c] h (fun r h' => r = some (.int (-2147483648)) ∧ h' = h) := by
  obtain ⟨X, ow, sb, hS, hD, hB, hQ⟩ := hC
  change sm tbc h I X at hS
  change CD w 32 m0 h I Q Z X ow sb at hD
  change co h I ≤ B at hB
  change ∀ l, l < 16 → (Q l).length ≤ h.length at hQ
  have hW := hD.1.1
  have hWn : ∀ a, List.length h ≤ a → w a = true := fun a ha => (hD.1.2.1 a ha).1
  have hF1 := fr_refl tbc h
  have hln : 62 ≤ List.length h := sm_len hS
  obtain ⟨d, rfl⟩ : ∃ e, d = e + 1 := ⟨d - 1, by omega⟩
  refine ev_go rfl (Nat.le_of_ble_eq_true rfl) rfl ?_
  refine go_s (pc' := 1) rfl rfl rfl rfl ?_
  refine go_s (pc' := 2) (st' := [.int 2, .int 1]) rfl rfl rfl rfl ?_
  refine go_callS (pc' := 3) rfl rfl rfl (Nat.le_of_ble_eq_true rfl) rfl rfl rfl (ct_within_t (q := 1) (n := 2) (by decide) (by decide) (by omega)) (fun r h2 q3 => ?_)
  obtain ⟨rfl, rfl⟩ := q3
  refine go_ifP (t' := 13) (pc' := 4) rfl rfl rfl (fun (c : (1 : Int32) = 0) => absurd c (by decide)) (fun _ => ?_)
  refine go_s (pc' := 5) rfl rfl rfl rfl ?_
  refine go_s (pc' := 6) (st' := [.int 49, .int (nI q)]) rfl rfl rfl rfl ?_
  refine go_callS (pc' := 7) rfl rfl rfl (Nat.le_of_ble_eq_true rfl) rfl rfl rfl (ct_within_t (n := 49) hq (by decide) (by omega)) (fun r h4 q5 => ?_)
  obtain ⟨rfl, rfl⟩ := q5
  refine go_ifP (t' := 13) (pc' := 8) rfl rfl rfl (fun (c : (1 : Int32) = 0) => absurd c (by decide)) (fun _ => ?_)
  refine go_s (pc' := 9) rfl rfl rfl rfl ?_
  refine go_s (pc' := 10) rfl rfl rfl rfl ?_
  refine go_callS (pc' := 11) rfl rfl rfl (Nat.le_of_ble_eq_true rfl) rfl rfl rfl (ct_words hq (by omega)) (fun r h6 q7 => ?_)
  obtain ⟨rfl, rfl⟩ := q7
  refine go_callS (pc' := 12) rfl rfl rfl (Nat.le_of_ble_eq_true rfl) rfl rfl rfl (ct_within_f (a := c) (n := wdn q) hn (by omega)) (fun r h8 q9 => ?_)
  obtain ⟨rfl, rfl⟩ := q9
  refine go_ifP (t' := 15) (pc' := 13) rfl rfl rfl (fun (c : ¬ (0 : Int32) = 0) => absurd c (by decide)) (fun _ => ?_)
  refine go_s (pc' := 14) (st' := [.int (-2147483648)]) rfl rfl rfl rfl ?_
  refine go_ret rfl rfl ?_
  exact ⟨rfl, rfl⟩
theorem ca_dsc_1_b {w : Nat → Bool} {d : Nat} {h : am_Hp} {m0 : mg} {B : Nat} {I : sm_I} {Q : mQ} {Z : mZ} (hC : CA w 32 m0 B h (I, Q, Z)) (hB2 : B < 2 ^ 26) {b c : Int32} (hn : b < 0 ∨ nI 49 ≤ b) (hd : 3 ≤ d) : am_Ev (am_prog w) d 118 [.ref 1, .int 1, .int b, .int c] h (fun r h' => r = some (.int (-2147483648)) ∧ h' = h) := by
  obtain ⟨X, ow, sb, hS, hD, hB, hQ⟩ := hC
  change sm tbc h I X at hS
  change CD w 32 m0 h I Q Z X ow sb at hD
  change co h I ≤ B at hB
  change ∀ l, l < 16 → (Q l).length ≤ h.length at hQ
  have hW := hD.1.1
  have hWn : ∀ a, List.length h ≤ a → w a = true := fun a ha => (hD.1.2.1 a ha).1
  have hF1 := fr_refl tbc h
  have hln : 62 ≤ List.length h := sm_len hS
  obtain ⟨d, rfl⟩ : ∃ e, d = e + 1 := ⟨d - 1, by omega⟩
  refine ev_go rfl (Nat.le_of_ble_eq_true rfl) rfl ?_
  refine go_s (pc' := 1) rfl rfl rfl rfl ?_
  refine go_s (pc' := 2) (st' := [.int 2, .int 1]) rfl rfl rfl rfl ?_
  refine go_callS (pc' := 3) rfl rfl rfl (Nat.le_of_ble_eq_true rfl) rfl rfl rfl (ct_within_t (q := 1) (n := 2) (by decide) (by decide) (by omega)) (fun r h2 q3 => ?_)
  obtain ⟨rfl, rfl⟩ := q3
  refine go_ifP (t' := 13) (pc' := 4) rfl rfl rfl (fun (c : (1 : Int32) = 0) => absurd c (by decide)) (fun _ => ?_)
  refine go_s (pc' := 5) rfl rfl rfl rfl ?_
  refine go_s (pc' := 6) (st' := [.int 49, .int b]) rfl rfl rfl rfl ?_
  refine go_callS (pc' := 7) rfl rfl rfl (Nat.le_of_ble_eq_true rfl) rfl rfl rfl (ct_within_f (a := b) (n := 49) hn (by omega)) (fun r h4 q5 => ?_)
  obtain ⟨rfl, rfl⟩ := q5
  refine go_ifP (t' := 13) (pc' := 8) rfl rfl rfl (fun _ => ?_) (fun (c : ¬ ((0 : Int32) = 0)) => absurd (by decide) c)
  refine go_s (pc' := 14) (st' := [.int (-2147483648)]) rfl rfl rfl rfl ?_
  refine go_ret rfl rfl ?_
  exact ⟨rfl, rfl⟩
theorem ca_dsc_a {w : Nat → Bool} {d : Nat} {h : am_Hp} {m0 : mg} {B : Nat} {I : sm_I} {Q : mQ} {Z : mZ} (hC : CA w 32 m0 B h (I, Q, Z)) (hB2 : B < 2 ^ 26) {a b c : Int32} (hn : a < 0 ∨ nI 2 ≤ a) (hd : 3 ≤ d) : am_Ev (am_prog w) d 118 [.ref 1, .int a, .int b, .int c] h (fun r h' => r = some (.int (-2147483648)) ∧ h' = h) := by
  obtain ⟨X, ow, sb, hS, hD, hB, hQ⟩ := hC
  change sm tbc h I X at hS
  change CD w 32 m0 h I Q Z X ow sb at hD
  change co h I ≤ B at hB
  change ∀ l, l < 16 → (Q l).length ≤ h.length at hQ
  have hW := hD.1.1
  have hWn : ∀ a, List.length h ≤ a → w a = true := fun a ha => (hD.1.2.1 a ha).1
  have hF1 := fr_refl tbc h
  have hln : 62 ≤ List.length h := sm_len hS
  obtain ⟨d, rfl⟩ : ∃ e, d = e + 1 := ⟨d - 1, by omega⟩
  refine ev_go rfl (Nat.le_of_ble_eq_true rfl) rfl ?_
  refine go_s (pc' := 1) rfl rfl rfl rfl ?_
  refine go_s (pc' := 2) (st' := [.int 2, .int a]) rfl rfl rfl rfl ?_
  refine go_callS (pc' := 3) rfl rfl rfl (Nat.le_of_ble_eq_true rfl) rfl rfl rfl (ct_within_f (a := a) (n := 2) hn (by omega)) (fun r h2 q3 => ?_)
  obtain ⟨rfl, rfl⟩ := q3
  refine go_ifP (t' := 13) (pc' := 4) rfl rfl rfl (fun _ => ?_) (fun (c : ¬ ((0 : Int32) = 0)) => absurd (by decide) c)
  refine go_s (pc' := 14) (st' := [.int (-2147483648)]) rfl rfl rfl rfl ?_
  refine go_ret rfl rfl ?_
  exact ⟨rfl, rfl⟩
def mqrc (q : Nat) (x : Int32) (M : mM) : Int32 := if lv M.1 0 = true then (if x = 0 then row1 M 0 (16 + q) else if x = 1 then row1 M 0 (32 + q) else -2147483648) else -2147483648
theorem ca_rec {w : Nat → Bool} {d : Nat} {h : am_Hp} {m0 : mg} {B : Nat} {I : sm_I} {Q : mQ} {Z : mZ} (hC : CA w 32 m0 B h (I, Q, Z)) (hB2 : B < 2 ^ 26) {q : Nat} (hq : q < 16) {x : Int32} (hd : 3 ≤ d) : am_Ev (am_prog w) d 120 [.ref 1, .int (nI q), .int x] h (fun r h' => r = some (.int (mqrc q x (I, Q, Z))) ∧ h' = h) := by
  obtain ⟨X, ow, sb, hS, hD, hB, hQ⟩ := hC
  change sm tbc h I X at hS
  change CD w 32 m0 h I Q Z X ow sb at hD
  change co h I ≤ B at hB
  change ∀ l, l < 16 → (Q l).length ≤ h.length at hQ
  have hW := hD.1.1
  have hWn : ∀ a, List.length h ≤ a → w a = true := fun a ha => (hD.1.2.1 a ha).1
  have hF1 := fr_refl tbc h
  have hln : 62 ≤ List.length h := sm_len hS
  obtain ⟨d, rfl⟩ : ∃ e, d = e + 1 := ⟨d - 1, by omega⟩
  refine ev_go rfl (Nat.le_of_ble_eq_true rfl) rfl ?_
  refine go_s (pc' := 1) rfl rfl rfl rfl ?_
  refine go_s (pc' := 2) (st' := [.int 16, .int (nI q)]) rfl rfl rfl rfl ?_
  refine go_callS (pc' := 3) rfl rfl rfl (Nat.le_of_ble_eq_true rfl) rfl rfl rfl (ct_within_t (n := 16) hq (by decide) (by omega)) (fun r h2 q3 => ?_)
  obtain ⟨rfl, rfl⟩ := q3
  refine go_ifP (t' := 9) (pc' := 4) rfl rfl rfl (fun (c : (1 : Int32) = 0) => absurd c (by decide)) (fun _ => ?_)
  refine go_s (pc' := 5) rfl rfl rfl rfl ?_
  refine go_s (pc' := 6) rfl rfl rfl rfl ?_
  refine go_sget (pc' := 7) (v := .ref 32) hS rfl rfl rfl (by decide) rfl rfl ?_
  refine go_callV (pc' := 8) rfl rfl rfl (Nat.le_of_ble_eq_true rfl) rfl (sm_o hS rfl) rfl rfl rfl (ct_works_0 hS (hD.2.2.2.2.2.2 0 (by decide)) (by omega)) (fun r h4 q5 => ?_)
  obtain ⟨rfl, rfl⟩ := q5
  cases u6 : lv I 0
  · skip
    show am_Go _ _ _ _ 8 _ [.int 0] _ _
    refine go_ifP (t' := 11) (pc' := 9) rfl rfl rfl (fun (c : ¬ (0 : Int32) = 0) => absurd c (by decide)) (fun _ => ?_)
    refine go_s (pc' := 10) (st' := [.int (-2147483648)]) rfl rfl rfl rfl ?_
    refine go_ret rfl rfl ?_
    exact ⟨by unfold mqrc; rw [if_neg (by rw [show lv (I, Q, Z).1 0 = false from u6]; decide)], rfl⟩
  · skip
    show am_Go _ _ _ _ 8 _ [.int 1] _ _
    refine go_ifP (t' := 11) (pc' := 9) rfl rfl rfl (fun _ => ?_) (fun (c : ¬ (¬ (1 : Int32) = 0)) => absurd (by decide) c)
    have hv := u6
    obtain ⟨k208, kst, -⟩ := hD.2.2.2.2.1
    obtain ⟨ad, S, Y, k0, hA, k2, k3, k4, k5, hoa, hZ0, hWa, htc⟩ := St_open hD.1 (kst hv)
    rw [← k0] at k208
    obtain ⟨⟨Wl, w1, w2⟩, -⟩ := id k5
    obtain ⟨z5, z6⟩ := w1.2.2.2.2.2.1 q hq
    have hsd := k4 (ad 0) _ _ (tbs_at hA (i := 0) (by decide))
    have hr5 := k4 (ad 5) _ _ (tbs_at hA (i := 5) (by decide))
    have hr6 := k4 (ad 6) _ _ (tbs_at hA (i := 6) (by decide))
    refine go_s (pc' := 12) rfl rfl rfl rfl ?_
    refine go_ifP (t' := 20) (pc' := 13) rfl rfl rfl (fun (c7 : ¬ x = 0) => ?_) (fun (c7' : ¬ ¬ x = 0) => ?_)
    · skip
      refine go_s (pc' := 21) rfl rfl rfl rfl ?_
      refine go_s (pc' := 22) (st' := [.int 1, .int x]) rfl rfl rfl rfl ?_
      refine go_icmpP (t' := 30) (pc' := 23) rfl rfl rfl (fun (c8 : ¬ x = 1) => ?_) (fun (c8' : ¬ ¬ x = 1) => ?_)
      · skip
        refine go_s (pc' := 31) (st' := [.int (-2147483648)]) rfl rfl rfl rfl ?_
        refine go_ret rfl rfl ?_
        exact ⟨by unfold mqrc; rw [if_pos (show lv (I, Q, Z).1 0 = true from u6), if_neg c7, if_neg c8], rfl⟩
      · skip
        have c8 : x = 1 := Decidable.not_not.mp c8'
        refine go_s (pc' := 24) rfl rfl rfl rfl ?_
        refine go_sget (pc' := 25) (v := .ref 32) hS rfl rfl rfl (by decide) rfl rfl ?_
        refine go_sget (pc' := 26) (v := .ref (ad 0)) hS rfl rfl rfl (by decide) k208 rfl ?_
        refine go_get (pc' := 27) rfl hsd rfl (by decide) rfl rfl ?_
        refine go_s (pc' := 28) rfl rfl rfl rfl ?_
        refine go_ald (pc' := 29) (q := q) (v := .int (S 6 q)) rfl rfl hr6 rfl (by omega) (rg_at hq) rfl ?_
        refine go_s (pc' := 31) rfl rfl rfl rfl ?_
        refine go_ret rfl rfl ?_
        exact ⟨by unfold mqrc; rw [if_pos (show lv (I, Q, Z).1 0 = true from u6), if_neg c7, if_pos c8]; exact congrArg (fun z => some (Value.int z)) z6, rfl⟩
    · skip
      have c7 : x = 0 := Decidable.not_not.mp c7'
      refine go_s (pc' := 14) rfl rfl rfl rfl ?_
      refine go_sget (pc' := 15) (v := .ref 32) hS rfl rfl rfl (by decide) rfl rfl ?_
      refine go_sget (pc' := 16) (v := .ref (ad 0)) hS rfl rfl rfl (by decide) k208 rfl ?_
      refine go_get (pc' := 17) rfl hsd rfl (by decide) rfl rfl ?_
      refine go_s (pc' := 18) rfl rfl rfl rfl ?_
      refine go_ald (pc' := 19) (q := q) (v := .int (S 5 q)) rfl rfl hr5 rfl (by omega) (rg_at hq) rfl ?_
      refine go_ret rfl rfl ?_
      exact ⟨by unfold mqrc; rw [if_pos (show lv (I, Q, Z).1 0 = true from u6), if_pos c7]; exact congrArg (fun z => some (Value.int z)) z5, rfl⟩
theorem ca_rec_f {w : Nat → Bool} {d : Nat} {h : am_Hp} {m0 : mg} {B : Nat} {I : sm_I} {Q : mQ} {Z : mZ} (hC : CA w 32 m0 B h (I, Q, Z)) (hB2 : B < 2 ^ 26) {a x : Int32} (hn : a < 0 ∨ nI 16 ≤ a) (hd : 3 ≤ d) : am_Ev (am_prog w) d 120 [.ref 1, .int a, .int x] h (fun r h' => r = some (.int (-2147483648)) ∧ h' = h) := by
  obtain ⟨X, ow, sb, hS, hD, hB, hQ⟩ := hC
  change sm tbc h I X at hS
  change CD w 32 m0 h I Q Z X ow sb at hD
  change co h I ≤ B at hB
  change ∀ l, l < 16 → (Q l).length ≤ h.length at hQ
  have hW := hD.1.1
  have hWn : ∀ a, List.length h ≤ a → w a = true := fun a ha => (hD.1.2.1 a ha).1
  have hF1 := fr_refl tbc h
  have hln : 62 ≤ List.length h := sm_len hS
  obtain ⟨d, rfl⟩ : ∃ e, d = e + 1 := ⟨d - 1, by omega⟩
  refine ev_go rfl (Nat.le_of_ble_eq_true rfl) rfl ?_
  refine go_s (pc' := 1) rfl rfl rfl rfl ?_
  refine go_s (pc' := 2) (st' := [.int 16, .int a]) rfl rfl rfl rfl ?_
  refine go_callS (pc' := 3) rfl rfl rfl (Nat.le_of_ble_eq_true rfl) rfl rfl rfl (ct_within_f (a := a) (n := 16) hn (by omega)) (fun r h2 q3 => ?_)
  obtain ⟨rfl, rfl⟩ := q3
  refine go_ifP (t' := 9) (pc' := 4) rfl rfl rfl (fun _ => ?_) (fun (c : ¬ ((0 : Int32) = 0)) => absurd (by decide) c)
  refine go_s (pc' := 10) (st' := [.int (-2147483648)]) rfl rfl rfl rfl ?_
  refine go_ret rfl rfl ?_
  exact ⟨rfl, rfl⟩
