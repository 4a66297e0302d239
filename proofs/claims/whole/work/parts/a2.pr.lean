def imx (x y : Int32) : Int32 := if x < y then y else x
def mlk1 (I : sm_I) (n : Int32) (d : Nat) (m : Int32) : Int32 := if us I d = true then imx m (n - I 22 d) else m
def mlck (I : sm_I) (n : Int32) : Int32 := mlk1 I n 1 (mlk1 I n 0 0)
theorem go_max {T : am_T} {d : Nat} {code : List Instr} {rt : Option FieldType} {pc pc' : Nat} {lo : am_Lo} {st : List Value} {h : am_Hp} {Q : Option Value → am_Hp → Prop} {x y : Int32} (hi : code[pc]? = some .lcmp) (hr : am_rok st = true) (hp : pc + 1 = pc') (kk : am_Go T d code rt pc' lo (.int (imx x y) :: st) h Q) : am_Go T d code rt pc lo (.int y :: .int x :: st) h Q := by
  subst hp
  refine go_x (ch := none) hi rfl rfl ?_ kk
  simp only [am_x]
  rw [if_pos hr]
  rfl
theorem ct_lack {w : Nat → Bool} {d : Nat} {h : am_Hp} {I : sm_I} {X : sm_X} (hS : sm tbc h I X) {aw b1 b2 : Nat} {n : Int32} (h_w : h[aw]? = some (.inl (6, [.ref b1, .ref b2, .int n]))) (hg : ∀ d, d < 2 → X 206 d = .int (I 22 d)) (hd : 2 ≤ d) : am_Ev (am_prog w) d 113 [.ref 24, .ref aw] h (fun r h' => r = some (.int (mlck I n)) ∧ h' = h) := by
  obtain ⟨d, rfl⟩ : ∃ e, d = e + 1 := ⟨d - 1, by omega⟩
  refine ev_go rfl (Nat.le_of_ble_eq_true rfl) rfl ?_
  refine go_s (pc' := 1) (st' := [.int 0]) rfl rfl rfl rfl ?_
  refine go_s (pc' := 2) (lo' := [some (.ref 24), some (.ref aw), some (.int 0), none]) rfl rfl rfl rfl ?_
  refine go_s (pc' := 3) (st' := [.int 0]) rfl rfl rfl rfl ?_
  refine go_s (pc' := 4) (lo' := [some (.ref 24), some (.ref aw), some (.int 0), some (.int 0)]) rfl rfl rfl rfl ?_
  refine go_s (pc' := 5) rfl rfl rfl rfl ?_
  refine go_s (pc' := 6) (st' := [.int 2, .int 0]) rfl rfl rfl rfl ?_
  refine go_icmpP (t' := 23) (pc' := 7) rfl rfl rfl (fun (c : 2 ≤ (0 : Int32)) => absurd c (by decide)) (fun _ => ?_)
  refine go_s (pc' := 8) rfl rfl rfl rfl ?_
  refine go_s (pc' := 9) rfl rfl rfl rfl ?_
  refine go_callV (pc' := 10) rfl rfl rfl (Nat.le_of_ble_eq_true rfl) rfl (sm_o hS rfl) rfl rfl rfl (ct_us_0 hS (by omega)) (fun r h1 q2 => ?_)
  obtain ⟨rfl, rfl⟩ := q2
  cases u3 : us I 0
  · skip
    show am_Go _ _ _ _ 10 _ [.int 0] _ _
    refine go_ifP (t' := 21) (pc' := 11) rfl rfl rfl (fun _ => ?_) (fun (c : ¬ ((0 : Int32) = 0)) => absurd (by decide) c)
    refine go_s (pc' := 22) (lo' := [some (.ref 24), some (.ref aw), some (.int 0), some (.int 1)]) rfl rfl rfl rfl ?_
    refine go_s (pc' := 4) rfl rfl rfl rfl ?_
    refine go_s (pc' := 5) rfl rfl rfl rfl ?_
    refine go_s (pc' := 6) (st' := [.int 2, .int 1]) rfl rfl rfl rfl ?_
    refine go_icmpP (t' := 23) (pc' := 7) rfl rfl rfl (fun (c : 2 ≤ (1 : Int32)) => absurd c (by decide)) (fun _ => ?_)
    refine go_s (pc' := 8) rfl rfl rfl rfl ?_
    refine go_s (pc' := 9) rfl rfl rfl rfl ?_
    refine go_callV (pc' := 10) rfl rfl rfl (Nat.le_of_ble_eq_true rfl) rfl (sm_o hS rfl) rfl rfl rfl (ct_us_1 hS (by omega)) (fun r h4 q5 => ?_)
    obtain ⟨rfl, rfl⟩ := q5
    cases u6 : us I 1
    · skip
      show am_Go _ _ _ _ 10 _ [.int 0] _ _
      refine go_ifP (t' := 21) (pc' := 11) rfl rfl rfl (fun _ => ?_) (fun (c : ¬ ((0 : Int32) = 0)) => absurd (by decide) c)
      refine go_s (pc' := 22) (lo' := [some (.ref 24), some (.ref aw), some (.int 0), some (.int 2)]) rfl rfl rfl rfl ?_
      refine go_s (pc' := 4) rfl rfl rfl rfl ?_
      refine go_s (pc' := 5) rfl rfl rfl rfl ?_
      refine go_s (pc' := 6) (st' := [.int 2, .int 2]) rfl rfl rfl rfl ?_
      refine go_icmpP (t' := 23) (pc' := 7) rfl rfl rfl (fun _ => ?_) (fun (c : ¬ (2 ≤ (2 : Int32))) => absurd (by decide) c)
      refine go_s (pc' := 24) rfl rfl rfl rfl ?_
      refine go_ret rfl rfl ?_
      exact ⟨by simp [mlck, mlk1, u3, u6], rfl⟩
    · skip
      show am_Go _ _ _ _ 10 _ [.int 1] _ _
      refine go_ifP (t' := 21) (pc' := 11) rfl rfl rfl (fun (c : (1 : Int32) = 0) => absurd c (by decide)) (fun _ => ?_)
      refine go_s (pc' := 12) rfl rfl rfl rfl ?_
      refine go_s (pc' := 13) rfl rfl rfl rfl ?_
      refine go_get (pc' := 14) rfl h_w rfl (by decide) rfl rfl ?_
      refine go_s (pc' := 15) rfl rfl rfl rfl ?_
      refine go_sget (pc' := 16) (v := .ref 28) hS rfl rfl rfl (by decide) rfl rfl ?_
      refine go_s (pc' := 17) rfl rfl rfl rfl ?_
      refine go_sald (pc' := 18) (q := 1) (v := .int (I 22 1)) hS rfl rfl rfl rfl (by decide) (hg 1 (by decide)) rfl ?_
      refine go_s (pc' := 19) rfl rfl rfl rfl ?_
      refine go_max (pc' := 20) rfl rfl rfl ?_
      refine go_s (pc' := 21) (lo' := [some (.ref 24), some (.ref aw), some (.int (imx 0 (n - (I 22 1)))), some (.int 1)]) rfl rfl rfl rfl ?_
      refine go_s (pc' := 22) (lo' := [some (.ref 24), some (.ref aw), some (.int (imx 0 (n - (I 22 1)))), some (.int 2)]) rfl rfl rfl rfl ?_
      refine go_s (pc' := 4) rfl rfl rfl rfl ?_
      refine go_s (pc' := 5) rfl rfl rfl rfl ?_
      refine go_s (pc' := 6) (st' := [.int 2, .int 2]) rfl rfl rfl rfl ?_
      refine go_icmpP (t' := 23) (pc' := 7) rfl rfl rfl (fun _ => ?_) (fun (c : ¬ (2 ≤ (2 : Int32))) => absurd (by decide) c)
      refine go_s (pc' := 24) rfl rfl rfl rfl ?_
      refine go_ret rfl rfl ?_
      exact ⟨by simp [mlck, mlk1, u3, u6], rfl⟩
  · skip
    show am_Go _ _ _ _ 10 _ [.int 1] _ _
    refine go_ifP (t' := 21) (pc' := 11) rfl rfl rfl (fun (c : (1 : Int32) = 0) => absurd c (by decide)) (fun _ => ?_)
    refine go_s (pc' := 12) rfl rfl rfl rfl ?_
    refine go_s (pc' := 13) rfl rfl rfl rfl ?_
    refine go_get (pc' := 14) rfl h_w rfl (by decide) rfl rfl ?_
    refine go_s (pc' := 15) rfl rfl rfl rfl ?_
    refine go_sget (pc' := 16) (v := .ref 28) hS rfl rfl rfl (by decide) rfl rfl ?_
    refine go_s (pc' := 17) rfl rfl rfl rfl ?_
    refine go_sald (pc' := 18) (q := 0) (v := .int (I 22 0)) hS rfl rfl rfl rfl (by decide) (hg 0 (by decide)) rfl ?_
    refine go_s (pc' := 19) rfl rfl rfl rfl ?_
    refine go_max (pc' := 20) rfl rfl rfl ?_
    refine go_s (pc' := 21) (lo' := [some (.ref 24), some (.ref aw), some (.int (imx 0 (n - (I 22 0)))), some (.int 0)]) rfl rfl rfl rfl ?_
    refine go_s (pc' := 22) (lo' := [some (.ref 24), some (.ref aw), some (.int (imx 0 (n - (I 22 0)))), some (.int 1)]) rfl rfl rfl rfl ?_
    refine go_s (pc' := 4) rfl rfl rfl rfl ?_
    refine go_s (pc' := 5) rfl rfl rfl rfl ?_
    refine go_s (pc' := 6) (st' := [.int 2, .int 1]) rfl rfl rfl rfl ?_
    refine go_icmpP (t' := 23) (pc' := 7) rfl rfl rfl (fun (c : 2 ≤ (1 : Int32)) => absurd c (by decide)) (fun _ => ?_)
    refine go_s (pc' := 8) rfl rfl rfl rfl ?_
    refine go_s (pc' := 9) rfl rfl rfl rfl ?_
    refine go_callV (pc' := 10) rfl rfl rfl (Nat.le_of_ble_eq_true rfl) rfl (sm_o hS rfl) rfl rfl rfl (ct_us_1 hS (by omega)) (fun r h7 q8 => ?_)
    obtain ⟨rfl, rfl⟩ := q8
    cases u9 : us I 1
    · skip
      show am_Go _ _ _ _ 10 _ [.int 0] _ _
      refine go_ifP (t' := 21) (pc' := 11) rfl rfl rfl (fun _ => ?_) (fun (c : ¬ ((0 : Int32) = 0)) => absurd (by decide) c)
      refine go_s (pc' := 22) (lo' := [some (.ref 24), some (.ref aw), some (.int (imx 0 (n - (I 22 0)))), some (.int 2)]) rfl rfl rfl rfl ?_
      refine go_s (pc' := 4) rfl rfl rfl rfl ?_
      refine go_s (pc' := 5) rfl rfl rfl rfl ?_
      refine go_s (pc' := 6) (st' := [.int 2, .int 2]) rfl rfl rfl rfl ?_
      refine go_icmpP (t' := 23) (pc' := 7) rfl rfl rfl (fun _ => ?_) (fun (c : ¬ (2 ≤ (2 : Int32))) => absurd (by decide) c)
      refine go_s (pc' := 24) rfl rfl rfl rfl ?_
      refine go_ret rfl rfl ?_
      exact ⟨by simp [mlck, mlk1, u3, u9], rfl⟩
    · skip
      show am_Go _ _ _ _ 10 _ [.int 1] _ _
      refine go_ifP (t' := 21) (pc' := 11) rfl rfl rfl (fun (c : (1 : Int32) = 0) => absurd c (by decide)) (fun _ => ?_)
      refine go_s (pc' := 12) rfl rfl rfl rfl ?_
      refine go_s (pc' := 13) rfl rfl rfl rfl ?_
      refine go_get (pc' := 14) rfl h_w rfl (by decide) rfl rfl ?_
      refine go_s (pc' := 15) rfl rfl rfl rfl ?_
      refine go_sget (pc' := 16) (v := .ref 28) hS rfl rfl rfl (by decide) rfl rfl ?_
      refine go_s (pc' := 17) rfl rfl rfl rfl ?_
      refine go_sald (pc' := 18) (q := 1) (v := .int (I 22 1)) hS rfl rfl rfl rfl (by decide) (hg 1 (by decide)) rfl ?_
      refine go_s (pc' := 19) rfl rfl rfl rfl ?_
      refine go_max (pc' := 20) rfl rfl rfl ?_
      refine go_s (pc' := 21) (lo' := [some (.ref 24), some (.ref aw), some (.int (imx (imx 0 (n - (I 22 0))) (n - (I 22 1)))), some (.int 1)]) rfl rfl rfl rfl ?_
      refine go_s (pc' := 22) (lo' := [some (.ref 24), some (.ref aw), some (.int (imx (imx 0 (n - (I 22 0))) (n - (I 22 1)))), some (.int 2)]) rfl rfl rfl rfl ?_
      refine go_s (pc' := 4) rfl rfl rfl rfl ?_
      refine go_s (pc' := 5) rfl rfl rfl rfl ?_
      refine go_s (pc' := 6) (st' := [.int 2, .int 2]) rfl rfl rfl rfl ?_
      refine go_icmpP (t' := 23) (pc' := 7) rfl rfl rfl (fun _ => ?_) (fun (c : ¬ (2 ≤ (2 : Int32))) => absurd (by decide) c)
      refine go_s (pc' := 24) rfl rfl rfl rfl ?_
      refine go_ret rfl rfl ?_
      exact ⟨by simp [mlck, mlk1, u3, u9], rfl⟩
def mqst (x : Int32) (M : mM) : Int32 := if lv M.1 0 = true then (if x = 5 then (if M.1 16 0 = 2 then mlck M.1 (nI (M.2.2 (rwi M.1 0)).2.2.length) else 0) else if x = 6 then M.1 21 0 else if x = 7 then row1 M 0 0 else if x = 8 then row1 M 0 1 else if x = 9 then nI (M.2.2 (rwi M.1 0)).2.1.length else if x = 10 then nI (mtr (M.2.2 (rwi M.1 0))) else -1) else -1
def mqtm (t : Nat) (x : Int32) (M : mM) : Int32 := if x = 5 then M.1 17 t else if lv M.1 (1 + t) = true then (if x = 6 then row1 M (1 + t) 0 else if x = 7 then row1 M (1 + t) 1 else if x = 8 then row1 M (1 + t) 5 else -1) else -1
def mqpr (k : Nat) (x : Int32) (M : mM) : Int32 := if x = 0 then M.1 11 k else if x = 1 then M.1 12 k else if x = 2 then bI (M.1 13 k) else if x = 3 then (if lv M.1 k = true then M.1 16 k else -1) else if x = 4 then M.1 15 k else if k = 0 then mqst x M else mqtm (k - 1) x M
theorem ct_tf_0_5 {w : Nat → Bool} {d : Nat} {h : am_Hp} {m0 : mg} {B : Nat} {I : sm_I} {Q : mQ} {Z : mZ} (hC : CA w 32 m0 B h (I, Q, Z)) (hB2 : B < 2 ^ 26) (hinc : lv I 1 = true → row1 (I, Q, Z) (1 + 0) 11 = I 17 0) (hd : 3 ≤ d) : am_Ev (am_prog w) d 111 [.ref 1, .ref 59, .int 5] h (fun r h' => r = some (.int (mqtm 0 5 (I, Q, Z))) ∧ h' = h) := by
  obtain ⟨X, ow, sb, hS, hD, hB, hQ⟩ := hC
  change sm tbc h I X at hS
  change CD w 32 m0 h I Q Z X ow sb at hD
  change co h I ≤ B at hB
  change ∀ l, l < 16 → (Q l).length ≤ h.length at hQ
  have hW := hD.1.1
  have hWn : ∀ a, List.length h ≤ a → w a = true := fun a ha => (hD.1.2.1 a ha).1
  have hF1 := fr_refl tbc h
  have hln : 62 ≤ List.length h := sm_len hS
  obtain ⟨d, rfl⟩ : ∃ e, d = e + 1 := ⟨d - 1, by omega⟩
  refine ev_go rfl (Nat.le_of_ble_eq_true rfl) rfl ?_
  refine go_s (pc' := 1) rfl rfl rfl rfl ?_
  refine go_s (pc' := 2) (st' := [.int 5, .int 5]) rfl rfl rfl rfl ?_
  refine go_icmpP (t' := 6) (pc' := 3) rfl rfl rfl (fun (c : ¬ (5 : Int32) = 5) => absurd c (by decide)) (fun _ => ?_)
  refine go_s (pc' := 4) rfl rfl rfl rfl ?_
  refine go_sget (pc' := 5) (v := .int (I 17 0)) hS rfl rfl rfl (by decide) rfl rfl ?_
  refine go_ret rfl rfl ?_
  exact ⟨rfl, rfl⟩
theorem ct_tf_0_6 {w : Nat → Bool} {d : Nat} {h : am_Hp} {m0 : mg} {B : Nat} {I : sm_I} {Q : mQ} {Z : mZ} (hC : CA w 32 m0 B h (I, Q, Z)) (hB2 : B < 2 ^ 26) (hinc : lv I 1 = true → row1 (I, Q, Z) (1 + 0) 11 = I 17 0) (hd : 3 ≤ d) : am_Ev (am_prog w) d 111 [.ref 1, .ref 59, .int 6] h (fun r h' => r = some (.int (mqtm 0 6 (I, Q, Z))) ∧ h' = h) := by
  obtain ⟨X, ow, sb, hS, hD, hB, hQ⟩ := hC
  change sm tbc h I X at hS
  change CD w 32 m0 h I Q Z X ow sb at hD
  change co h I ≤ B at hB
  change ∀ l, l < 16 → (Q l).length ≤ h.length at hQ
  have hW := hD.1.1
  have hWn : ∀ a, List.length h ≤ a → w a = true := fun a ha => (hD.1.2.1 a ha).1
  have hF1 := fr_refl tbc h
  have hln : 62 ≤ List.length h := sm_len hS
  obtain ⟨d, rfl⟩ : ∃ e, d = e + 1 := ⟨d - 1, by omega⟩
  refine ev_go rfl (Nat.le_of_ble_eq_true rfl) rfl ?_
  refine go_s (pc' := 1) rfl rfl rfl rfl ?_
  refine go_s (pc' := 2) (st' := [.int 5, .int 6]) rfl rfl rfl rfl ?_
  refine go_icmpP (t' := 6) (pc' := 3) rfl rfl rfl (fun _ => ?_) (fun (c : ¬ (¬ (6 : Int32) = 5)) => absurd (by decide) c)
  refine go_s (pc' := 7) rfl rfl rfl rfl ?_
  refine go_s (pc' := 8) rfl rfl rfl rfl ?_
  refine go_callV (pc' := 9) rfl rfl rfl (Nat.le_of_ble_eq_true rfl) rfl (sm_o hS rfl) rfl rfl rfl (ct_works_1 hS (hD.2.2.2.2.2.2 1 (by decide)) (by omega)) (fun r h2 q3 => ?_)
  obtain ⟨rfl, rfl⟩ := q3
  cases u4 : lv I 1
  · skip
    show am_Go _ _ _ _ 9 _ [.int 0] _ _
    refine go_ifP (t' := 12) (pc' := 10) rfl rfl rfl (fun (c : ¬ (0 : Int32) = 0) => absurd c (by decide)) (fun _ => ?_)
    refine go_s (pc' := 11) (st' := [.int (-1)]) rfl rfl rfl rfl ?_
    refine go_ret rfl rfl ?_
    exact ⟨by unfold mqtm; rw [if_neg (by decide), if_neg (by rw [show lv (I, Q, Z).1 (1 + 0) = false from u4]; decide)], rfl⟩
  · skip
    show am_Go _ _ _ _ 9 _ [.int 1] _ _
    refine go_ifP (t' := 12) (pc' := 10) rfl rfl rfl (fun _ => ?_) (fun (c : ¬ (¬ (1 : Int32) = 0)) => absurd (by decide) c)
    have hv := u4
    have htr := (hD.2.2.2.2.2.1 0 (by decide)).1 hv
    change TR _ ow 0 (X 211 0) (X 212 0) (row1 (I, Q, Z) (1 + 0)) at htr
    refine go_s (pc' := 13) rfl rfl rfl rfl ?_
    refine go_tsw (t' := 14) rfl (Or.inr ⟨by decide, rfl⟩) rfl ?_
    refine go_s (pc' := 15) rfl rfl rfl rfl ?_
    refine go_callV (pc' := 16) rfl rfl rfl (Nat.le_of_ble_eq_true rfl) rfl (sm_o hS rfl) rfl rfl rfl (ct_latest_0 hS htr (by omega)) (fun r h5 q6 => ?_)
    obtain ⟨rfl, rfl⟩ := q6
    refine go_ret rfl rfl ?_
    exact ⟨by unfold mqtm; rw [if_neg (by decide), if_pos (show lv (I, Q, Z).1 (1 + 0) = true from u4)]; rfl, rfl⟩
theorem ct_tf_0_7 {w : Nat → Bool} {d : Nat} {h : am_Hp} {m0 : mg} {B : Nat} {I : sm_I} {Q : mQ} {Z : mZ} (hC : CA w 32 m0 B h (I, Q, Z)) (hB2 : B < 2 ^ 26) (hinc : lv I 1 = true → row1 (I, Q, Z) (1 + 0) 11 = I 17 0) (hd : 3 ≤ d) : am_Ev (am_prog w) d 111 [.ref 1, .ref 59, .int 7] h (fun r h' => r = some (.int (mqtm 0 7 (I, Q, Z))) ∧ h' = h) := by
  obtain ⟨X, ow, sb, hS, hD, hB, hQ⟩ := hC
  change sm tbc h I X at hS
  change CD w 32 m0 h I Q Z X ow sb at hD
  change co h I ≤ B at hB
  change ∀ l, l < 16 → (Q l).length ≤ h.length at hQ
  have hW := hD.1.1
  have hWn : ∀ a, List.length h ≤ a → w a = true := fun a ha => (hD.1.2.1 a ha).1
  have hF1 := fr_refl tbc h
  have hln : 62 ≤ List.length h := sm_len hS
  obtain ⟨d, rfl⟩ : ∃ e, d = e + 1 := ⟨d - 1, by omega⟩
  refine ev_go rfl (Nat.le_of_ble_eq_true rfl) rfl ?_
  refine go_s (pc' := 1) rfl rfl rfl rfl ?_
  refine go_s (pc' := 2) (st' := [.int 5, .int 7]) rfl rfl rfl rfl ?_
  refine go_icmpP (t' := 6) (pc' := 3) rfl rfl rfl (fun _ => ?_) (fun (c : ¬ (¬ (7 : Int32) = 5)) => absurd (by decide) c)
  refine go_s (pc' := 7) rfl rfl rfl rfl ?_
  refine go_s (pc' := 8) rfl rfl rfl rfl ?_
  refine go_callV (pc' := 9) rfl rfl rfl (Nat.le_of_ble_eq_true rfl) rfl (sm_o hS rfl) rfl rfl rfl (ct_works_1 hS (hD.2.2.2.2.2.2 1 (by decide)) (by omega)) (fun r h2 q3 => ?_)
  obtain ⟨rfl, rfl⟩ := q3
  cases u4 : lv I 1
  · skip
    show am_Go _ _ _ _ 9 _ [.int 0] _ _
    refine go_ifP (t' := 12) (pc' := 10) rfl rfl rfl (fun (c : ¬ (0 : Int32) = 0) => absurd c (by decide)) (fun _ => ?_)
    refine go_s (pc' := 11) (st' := [.int (-1)]) rfl rfl rfl rfl ?_
    refine go_ret rfl rfl ?_
    exact ⟨by unfold mqtm; rw [if_neg (by decide), if_neg (by rw [show lv (I, Q, Z).1 (1 + 0) = false from u4]; decide)], rfl⟩
  · skip
    show am_Go _ _ _ _ 9 _ [.int 1] _ _
    refine go_ifP (t' := 12) (pc' := 10) rfl rfl rfl (fun _ => ?_) (fun (c : ¬ (¬ (1 : Int32) = 0)) => absurd (by decide) c)
    have hv := u4
    have htr := (hD.2.2.2.2.2.1 0 (by decide)).1 hv
    change TR _ ow 0 (X 211 0) (X 212 0) (row1 (I, Q, Z) (1 + 0)) at htr
    refine go_s (pc' := 13) rfl rfl rfl rfl ?_
    refine go_tsw (t' := 17) rfl (Or.inr ⟨by decide, rfl⟩) rfl ?_
    refine go_s (pc' := 18) rfl rfl rfl rfl ?_
    refine go_callV (pc' := 19) rfl rfl rfl (Nat.le_of_ble_eq_true rfl) rfl (sm_o hS rfl) rfl rfl rfl (ct_isOpen_0 hS htr (by omega)) (fun r h5 q6 => ?_)
    obtain ⟨rfl, rfl⟩ := q6
    refine go_ifP (t' := 22) (pc' := 20) rfl rfl rfl (fun (c7 : (if row1 (I, Q, Z) (1 + 0) 1 = 1 then 1 else 0) = 0) => ?_) (fun (c7 : ¬ (if row1 (I, Q, Z) (1 + 0) 1 = 1 then 1 else 0) = 0) => ?_)
    · skip
      refine go_s (pc' := 23) (st' := [.int 0]) rfl rfl rfl rfl ?_
      refine go_ret rfl rfl ?_
      have hr1 : row1 (I, Q, Z) (1 + 0) 1 = 0 ∨ row1 (I, Q, Z) (1 + 0) 1 = 1 := by
        rcases htr with ⟨-, -, -, z, -⟩ | ⟨q, -, -, z, -⟩ | ⟨q, s, -, -, -, -, -, -, -, -, -, -, -, z⟩
        · exact Or.inl z
        · exact Or.inr z
        · rcases z with ⟨z, -⟩ | ⟨z, -⟩
          · exact Or.inl z
          · exact Or.inr z
      exact ⟨by unfold mqtm; rw [if_neg (by decide), if_pos (show lv (I, Q, Z).1 (1 + 0) = true from u4), if_neg (by decide), if_pos rfl]; rcases hr1 with z | z <;> rw [z] at c7 ⊢ <;> first | rfl | exact absurd rfl c7 | exact absurd c7 (by decide), rfl⟩
    · skip
      refine go_s (pc' := 21) (st' := [.int 1]) rfl rfl rfl rfl ?_
      refine go_s (pc' := 23) rfl rfl rfl rfl ?_
      refine go_ret rfl rfl ?_
      have hr1 : row1 (I, Q, Z) (1 + 0) 1 = 0 ∨ row1 (I, Q, Z) (1 + 0) 1 = 1 := by
        rcases htr with ⟨-, -, -, z, -⟩ | ⟨q, -, -, z, -⟩ | ⟨q, s, -, -, -, -, -, -, -, -, -, -, -, z⟩
        · exact Or.inl z
        · exact Or.inr z
        · rcases z with ⟨z, -⟩ | ⟨z, -⟩
          · exact Or.inl z
          · exact Or.inr z
      exact ⟨by unfold mqtm; rw [if_neg (by decide), if_pos (show lv (I, Q, Z).1 (1 + 0) = true from u4), if_neg (by decide), if_pos rfl]; rcases hr1 with z | z <;> rw [z] at c7 ⊢ <;> first | rfl | exact absurd rfl c7 | exact absurd c7 (by decide), rfl⟩
theorem ct_tf_0_8 {w : Nat → Bool} {d : Nat} {h : am_Hp} {m0 : mg} {B : Nat} {I : sm_I} {Q : mQ} {Z : mZ} (hC : CA w 32 m0 B h (I, Q, Z)) (hB2 : B < 2 ^ 26) (hinc : lv I 1 = true → row1 (I, Q, Z) (1 + 0) 11 = I 17 0) (hd : 3 ≤ d) : am_Ev (am_prog w) d 111 [.ref 1, .ref 59, .int 8] h (fun r h' => r = some (.int (mqtm 0 8 (I, Q, Z))) ∧ h' = h) := by
  obtain ⟨X, ow, sb, hS, hD, hB, hQ⟩ := hC
  change sm tbc h I X at hS
  change CD w 32 m0 h I Q Z X ow sb at hD
  change co h I ≤ B at hB
  change ∀ l, l < 16 → (Q l).length ≤ h.length at hQ
  have hW := hD.1.1
  have hWn : ∀ a, List.length h ≤ a → w a = true := fun a ha => (hD.1.2.1 a ha).1
  have hF1 := fr_refl tbc h
  have hln : 62 ≤ List.length h := sm_len hS
  obtain ⟨d, rfl⟩ : ∃ e, d = e + 1 := ⟨d - 1, by omega⟩
  refine ev_go rfl (Nat.le_of_ble_eq_true rfl) rfl ?_
  refine go_s (pc' := 1) rfl rfl rfl rfl ?_
  refine go_s (pc' := 2) (st' := [.int 5, .int 8]) rfl rfl rfl rfl ?_
  refine go_icmpP (t' := 6) (pc' := 3) rfl rfl rfl (fun _ => ?_) (fun (c : ¬ (¬ (8 : Int32) = 5)) => absurd (by decide) c)
  refine go_s (pc' := 7) rfl rfl rfl rfl ?_
  refine go_s (pc' := 8) rfl rfl rfl rfl ?_
  refine go_callV (pc' := 9) rfl rfl rfl (Nat.le_of_ble_eq_true rfl) rfl (sm_o hS rfl) rfl rfl rfl (ct_works_1 hS (hD.2.2.2.2.2.2 1 (by decide)) (by omega)) (fun r h2 q3 => ?_)
  obtain ⟨rfl, rfl⟩ := q3
  cases u4 : lv I 1
  · skip
    show am_Go _ _ _ _ 9 _ [.int 0] _ _
    refine go_ifP (t' := 12) (pc' := 10) rfl rfl rfl (fun (c : ¬ (0 : Int32) = 0) => absurd c (by decide)) (fun _ => ?_)
    refine go_s (pc' := 11) (st' := [.int (-1)]) rfl rfl rfl rfl ?_
    refine go_ret rfl rfl ?_
    exact ⟨by unfold mqtm; rw [if_neg (by decide), if_neg (by rw [show lv (I, Q, Z).1 (1 + 0) = false from u4]; decide)], rfl⟩
  · skip
    show am_Go _ _ _ _ 9 _ [.int 1] _ _
    refine go_ifP (t' := 12) (pc' := 10) rfl rfl rfl (fun _ => ?_) (fun (c : ¬ (¬ (1 : Int32) = 0)) => absurd (by decide) c)
    have hv := u4
    have htr := (hD.2.2.2.2.2.1 0 (by decide)).1 hv
    change TR _ ow 0 (X 211 0) (X 212 0) (row1 (I, Q, Z) (1 + 0)) at htr
    refine go_s (pc' := 13) rfl rfl rfl rfl ?_
    refine go_tsw (t' := 24) rfl (Or.inr ⟨by decide, rfl⟩) rfl ?_
    refine go_s (pc' := 25) rfl rfl rfl rfl ?_
    refine go_callV (pc' := 26) rfl rfl rfl (Nat.le_of_ble_eq_true rfl) rfl (sm_o hS rfl) rfl rfl rfl (ct_epoch_0 hS htr (hinc hv) (by omega)) (fun r h5 q6 => ?_)
    obtain ⟨rfl, rfl⟩ := q6
    refine go_ret rfl rfl ?_
    exact ⟨by unfold mqtm; rw [if_neg (by decide), if_pos (show lv (I, Q, Z).1 (1 + 0) = true from u4)]; rfl, rfl⟩
theorem ct_tf_0_n {w : Nat → Bool} {d : Nat} {h : am_Hp} {m0 : mg} {B : Nat} {I : sm_I} {Q : mQ} {Z : mZ} (hC : CA w 32 m0 B h (I, Q, Z)) (hB2 : B < 2 ^ 26) (hinc : lv I 1 = true → row1 (I, Q, Z) (1 + 0) 11 = I 17 0) {x : Int32} (x5 : ¬ x = 5) (x6 : ¬ x = 6) (x7 : ¬ x = 7) (x8 : ¬ x = 8) (hd : 3 ≤ d) : am_Ev (am_prog w) d 111 [.ref 1, .ref 59, .int x] h (fun r h' => r = some (.int (mqtm 0 x (I, Q, Z))) ∧ h' = h) := by
  obtain ⟨X, ow, sb, hS, hD, hB, hQ⟩ := hC
  change sm tbc h I X at hS
  change CD w 32 m0 h I Q Z X ow sb at hD
  change co h I ≤ B at hB
  change ∀ l, l < 16 → (Q l).length ≤ h.length at hQ
  have hW := hD.1.1
  have hWn : ∀ a, List.length h ≤ a → w a = true := fun a ha => (hD.1.2.1 a ha).1
  have hF1 := fr_refl tbc h
  have hln : 62 ≤ List.length h := sm_len hS
  obtain ⟨d, rfl⟩ : ∃ e, d = e + 1 := ⟨d - 1, by omega⟩
  refine ev_go rfl (Nat.le_of_ble_eq_true rfl) rfl ?_
  refine go_s (pc' := 1) rfl rfl rfl rfl ?_
  refine go_s (pc' := 2) (st' := [.int 5, .int x]) rfl rfl rfl rfl ?_
  refine go_icmpP (t' := 6) (pc' := 3) rfl rfl rfl (fun _ => ?_) (fun (c : ¬ (¬ x = 5)) => absurd x5 c)
  refine go_s (pc' := 7) rfl rfl rfl rfl ?_
  refine go_s (pc' := 8) rfl rfl rfl rfl ?_
  refine go_callV (pc' := 9) rfl rfl rfl (Nat.le_of_ble_eq_true rfl) rfl (sm_o hS rfl) rfl rfl rfl (ct_works_1 hS (hD.2.2.2.2.2.2 1 (by decide)) (by omega)) (fun r h2 q3 => ?_)
  obtain ⟨rfl, rfl⟩ := q3
  cases u4 : lv I 1
  · skip
    show am_Go _ _ _ _ 9 _ [.int 0] _ _
    refine go_ifP (t' := 12) (pc' := 10) rfl rfl rfl (fun (c : ¬ (0 : Int32) = 0) => absurd c (by decide)) (fun _ => ?_)
    refine go_s (pc' := 11) (st' := [.int (-1)]) rfl rfl rfl rfl ?_
    refine go_ret rfl rfl ?_
    exact ⟨by unfold mqtm; rw [if_neg x5, if_neg (by rw [show lv (I, Q, Z).1 (1 + 0) = false from u4]; decide)], rfl⟩
  · skip
    show am_Go _ _ _ _ 9 _ [.int 1] _ _
    refine go_ifP (t' := 12) (pc' := 10) rfl rfl rfl (fun _ => ?_) (fun (c : ¬ (¬ (1 : Int32) = 0)) => absurd (by decide) c)
    have hv := u4
    have htr := (hD.2.2.2.2.2.1 0 (by decide)).1 hv
    change TR _ ow 0 (X 211 0) (X 212 0) (row1 (I, Q, Z) (1 + 0)) at htr
    refine go_s (pc' := 13) rfl rfl rfl rfl ?_
    refine go_tsw (t' := 27) rfl (Or.inl ⟨tsw_6_8 x6 x7 x8, rfl⟩) rfl ?_
    refine go_s (pc' := 28) (st' := [.int (-1)]) rfl rfl rfl rfl ?_
    refine go_ret rfl rfl ?_
    exact ⟨by unfold mqtm; rw [if_neg x5, if_pos (show lv (I, Q, Z).1 (1 + 0) = true from u4), if_neg x6, if_neg x7, if_neg x8], rfl⟩
theorem ct_tf_0 {w : Nat → Bool} {d : Nat} {h : am_Hp} {m0 : mg} {B : Nat} {I : sm_I} {Q : mQ} {Z : mZ} (hC : CA w 32 m0 B h (I, Q, Z)) (hB2 : B < 2 ^ 26) (hinc : lv I 1 = true → row1 (I, Q, Z) (1 + 0) 11 = I 17 0) {x : Int32} (hd : 3 ≤ d) : am_Ev (am_prog w) d 111 [.ref 1, .ref 59, .int x] h (fun r h' => r = some (.int (mqtm 0 x (I, Q, Z))) ∧ h' = h) := by
  by_cases x5 : x = 5
  · subst x5; exact ct_tf_0_5 hC hB2 hinc hd
  by_cases x6 : x = 6
  · subst x6; exact ct_tf_0_6 hC hB2 hinc hd
  by_cases x7 : x = 7
  · subst x7; exact ct_tf_0_7 hC hB2 hinc hd
  by_cases x8 : x = 8
  · subst x8; exact ct_tf_0_8 hC hB2 hinc hd
  exact ct_tf_0_n hC hB2 hinc x5 x6 x7 x8 hd
theorem ct_tf_1_5 {w : Nat → Bool} {d : Nat} {h : am_Hp} {m0 : mg} {B : Nat} {I : sm_I} {Q : mQ} {Z : mZ} (hC : CA w 32 m0 B h (I, Q, Z)) (hB2 : B < 2 ^ 26) (hinc : lv I 2 = true → row1 (I, Q, Z) (1 + 1) 11 = I 17 1) (hd : 3 ≤ d) : am_Ev (am_prog w) d 111 [.ref 1, .ref 60, .int 5] h (fun r h' => r = some (.int (mqtm 1 5 (I, Q, Z))) ∧ h' = h) := by
  obtain ⟨X, ow, sb, hS, hD, hB, hQ⟩ := hC
  change sm tbc h I X at hS
  change CD w 32 m0 h I Q Z X ow sb at hD
  change co h I ≤ B at hB
  change ∀ l, l < 16 → (Q l).length ≤ h.length at hQ
  have hW := hD.1.1
  have hWn : ∀ a, List.length h ≤ a → w a = true := fun a ha => (hD.1.2.1 a ha).1
  have hF1 := fr_refl tbc h
  have hln : 62 ≤ List.length h := sm_len hS
  obtain ⟨d, rfl⟩ : ∃ e, d = e + 1 := ⟨d - 1, by omega⟩
  refine ev_go rfl (Nat.le_of_ble_eq_true rfl) rfl ?_
  refine go_s (pc' := 1) rfl rfl rfl rfl ?_
  refine go_s (pc' := 2) (st' := [.int 5, .int 5]) rfl rfl rfl rfl ?_
  refine go_icmpP (t' := 6) (pc' := 3) rfl rfl rfl (fun (c : ¬ (5 : Int32) = 5) => absurd c (by decide)) (fun _ => ?_)
  refine go_s (pc' := 4) rfl rfl rfl rfl ?_
  refine go_sget (pc' := 5) (v := .int (I 17 1)) hS rfl rfl rfl (by decide) rfl rfl ?_
  refine go_ret rfl rfl ?_
  exact ⟨rfl, rfl⟩
theorem ct_tf_1_6 {w : Nat → Bool} {d : Nat} {h : am_Hp} {m0 : mg} {B : Nat} {I : sm_I} {Q : mQ} {Z : mZ} (hC : CA w 32 m0 B h (I, Q, Z)) (hB2 : B < 2 ^ 26) (hinc : lv I 2 = true → row1 (I, Q, Z) (1 + 1) 11 = I 17 1) (hd : 3 ≤ d) : am_Ev (am_prog w) d 111 [.ref 1, .ref 60, .int 6] h (fun r h' => r = some (.int (mqtm 1 6 (I, Q, Z))) ∧ h' = h) := by
  obtain ⟨X, ow, sb, hS, hD, hB, hQ⟩ := hC
  change sm tbc h I X at hS
  change CD w 32 m0 h I Q Z X ow sb at hD
  change co h I ≤ B at hB
  change ∀ l, l < 16 → (Q l).length ≤ h.length at hQ
  have hW := hD.1.1
  have hWn : ∀ a, List.length h ≤ a → w a = true := fun a ha => (hD.1.2.1 a ha).1
  have hF1 := fr_refl tbc h
  have hln : 62 ≤ List.length h := sm_len hS
  obtain ⟨d, rfl⟩ : ∃ e, d = e + 1 := ⟨d - 1, by omega⟩
  refine ev_go rfl (Nat.le_of_ble_eq_true rfl) rfl ?_
  refine go_s (pc' := 1) rfl rfl rfl rfl ?_
  refine go_s (pc' := 2) (st' := [.int 5, .int 6]) rfl rfl rfl rfl ?_
  refine go_icmpP (t' := 6) (pc' := 3) rfl rfl rfl (fun _ => ?_) (fun (c : ¬ (¬ (6 : Int32) = 5)) => absurd (by decide) c)
  refine go_s (pc' := 7) rfl rfl rfl rfl ?_
  refine go_s (pc' := 8) rfl rfl rfl rfl ?_
  refine go_callV (pc' := 9) rfl rfl rfl (Nat.le_of_ble_eq_true rfl) rfl (sm_o hS rfl) rfl rfl rfl (ct_works_2 hS (hD.2.2.2.2.2.2 2 (by decide)) (by omega)) (fun r h2 q3 => ?_)
  obtain ⟨rfl, rfl⟩ := q3
  cases u4 : lv I 2
  · skip
    show am_Go _ _ _ _ 9 _ [.int 0] _ _
    refine go_ifP (t' := 12) (pc' := 10) rfl rfl rfl (fun (c : ¬ (0 : Int32) = 0) => absurd c (by decide)) (fun _ => ?_)
    refine go_s (pc' := 11) (st' := [.int (-1)]) rfl rfl rfl rfl ?_
    refine go_ret rfl rfl ?_
    exact ⟨by unfold mqtm; rw [if_neg (by decide), if_neg (by rw [show lv (I, Q, Z).1 (1 + 1) = false from u4]; decide)], rfl⟩
  · skip
    show am_Go _ _ _ _ 9 _ [.int 1] _ _
    refine go_ifP (t' := 12) (pc' := 10) rfl rfl rfl (fun _ => ?_) (fun (c : ¬ (¬ (1 : Int32) = 0)) => absurd (by decide) c)
    have hv := u4
    have htr := (hD.2.2.2.2.2.1 1 (by decide)).1 hv
    change TR _ ow 1 (X 211 1) (X 212 1) (row1 (I, Q, Z) (1 + 1)) at htr
    refine go_s (pc' := 13) rfl rfl rfl rfl ?_
    refine go_tsw (t' := 14) rfl (Or.inr ⟨by decide, rfl⟩) rfl ?_
    refine go_s (pc' := 15) rfl rfl rfl rfl ?_
    refine go_callV (pc' := 16) rfl rfl rfl (Nat.le_of_ble_eq_true rfl) rfl (sm_o hS rfl) rfl rfl rfl (ct_latest_1 hS htr (by omega)) (fun r h5 q6 => ?_)
    obtain ⟨rfl, rfl⟩ := q6
    refine go_ret rfl rfl ?_
    exact ⟨by unfold mqtm; rw [if_neg (by decide), if_pos (show lv (I, Q, Z).1 (1 + 1) = true from u4)]; rfl, rfl⟩
theorem ct_tf_1_7 {w : Nat → Bool} {d : Nat} {h : am_Hp} {m0 : mg} {B : Nat} {I : sm_I} {Q : mQ} {Z : mZ} (hC : CA w 32 m0 B h (I, Q, Z)) (hB2 : B < 2 ^ 26) (hinc : lv I 2 = true → row1 (I, Q, Z) (1 + 1) 11 = I 17 1) (hd : 3 ≤ d) : am_Ev (am_prog w) d 111 [.ref 1, .ref 60, .int 7] h (fun r h' => r = some (.int (mqtm 1 7 (I, Q, Z))) ∧ h' = h) := by
  obtain ⟨X, ow, sb, hS, hD, hB, hQ⟩ := hC
  change sm tbc h I X at hS
  change CD w 32 m0 h I Q Z X ow sb at hD
  change co h I ≤ B at hB
  change ∀ l, l < 16 → (Q l).length ≤ h.length at hQ
  have hW := hD.1.1
  have hWn : ∀ a, List.length h ≤ a → w a = true := fun a ha => (hD.1.2.1 a ha).1
  have hF1 := fr_refl tbc h
  have hln : 62 ≤ List.length h := sm_len hS
  obtain ⟨d, rfl⟩ : ∃ e, d = e + 1 := ⟨d - 1, by omega⟩
  refine ev_go rfl (Nat.le_of_ble_eq_true rfl) rfl ?_
  refine go_s (pc' := 1) rfl rfl rfl rfl ?_
  refine go_s (pc' := 2) (st' := [.int 5, .int 7]) rfl rfl rfl rfl ?_
  refine go_icmpP (t' := 6) (pc' := 3) rfl rfl rfl (fun _ => ?_) (fun (c : ¬ (¬ (7 : Int32) = 5)) => absurd (by decide) c)
  refine go_s (pc' := 7) rfl rfl rfl rfl ?_
  refine go_s (pc' := 8) rfl rfl rfl rfl ?_
  refine go_callV (pc' := 9) rfl rfl rfl (Nat.le_of_ble_eq_true rfl) rfl (sm_o hS rfl) rfl rfl rfl (ct_works_2 hS (hD.2.2.2.2.2.2 2 (by decide)) (by omega)) (fun r h2 q3 => ?_)
  obtain ⟨rfl, rfl⟩ := q3
  cases u4 : lv I 2
  · skip
    show am_Go _ _ _ _ 9 _ [.int 0] _ _
    refine go_ifP (t' := 12) (pc' := 10) rfl rfl rfl (fun (c : ¬ (0 : Int32) = 0) => absurd c (by decide)) (fun _ => ?_)
    refine go_s (pc' := 11) (st' := [.int (-1)]) rfl rfl rfl rfl ?_
    refine go_ret rfl rfl ?_
    exact ⟨by unfold mqtm; rw [if_neg (by decide), if_neg (by rw [show lv (I, Q, Z).1 (1 + 1) = false from u4]; decide)], rfl⟩
  · skip
    show am_Go _ _ _ _ 9 _ [.int 1] _ _
    refine go_ifP (t' := 12) (pc' := 10) rfl rfl rfl (fun _ => ?_) (fun (c : ¬ (¬ (1 : Int32) = 0)) => absurd (by decide) c)
    have hv := u4
    have htr := (hD.2.2.2.2.2.1 1 (by decide)).1 hv
    change TR _ ow 1 (X 211 1) (X 212 1) (row1 (I, Q, Z) (1 + 1)) at htr
    refine go_s (pc' := 13) rfl rfl rfl rfl ?_
    refine go_tsw (t' := 17) rfl (Or.inr ⟨by decide, rfl⟩) rfl ?_
    refine go_s (pc' := 18) rfl rfl rfl rfl ?_
    refine go_callV (pc' := 19) rfl rfl rfl (Nat.le_of_ble_eq_true rfl) rfl (sm_o hS rfl) rfl rfl rfl (ct_isOpen_1 hS htr (by omega)) (fun r h5 q6 => ?_)
    obtain ⟨rfl, rfl⟩ := q6
    refine go_ifP (t' := 22) (pc' := 20) rfl rfl rfl (fun (c7 : (if row1 (I, Q, Z) (1 + 1) 1 = 1 then 1 else 0) = 0) => ?_) (fun (c7 : ¬ (if row1 (I, Q, Z) (1 + 1) 1 = 1 then 1 else 0) = 0) => ?_)
    · skip
      refine go_s (pc' := 23) (st' := [.int 0]) rfl rfl rfl rfl ?_
      refine go_ret rfl rfl ?_
      have hr1 : row1 (I, Q, Z) (1 + 1) 1 = 0 ∨ row1 (I, Q, Z) (1 + 1) 1 = 1 := by
        rcases htr with ⟨-, -, -, z, -⟩ | ⟨q, -, -, z, -⟩ | ⟨q, s, -, -, -, -, -, -, -, -, -, -, -, z⟩
        · exact Or.inl z
        · exact Or.inr z
        · rcases z with ⟨z, -⟩ | ⟨z, -⟩
          · exact Or.inl z
          · exact Or.inr z
      exact ⟨by unfold mqtm; rw [if_neg (by decide), if_pos (show lv (I, Q, Z).1 (1 + 1) = true from u4), if_neg (by decide), if_pos rfl]; rcases hr1 with z | z <;> rw [z] at c7 ⊢ <;> first | rfl | exact absurd rfl c7 | exact absurd c7 (by decide), rfl⟩
    · skip
      refine go_s (pc' := 21) (st' := [.int 1]) rfl rfl rfl rfl ?_
      refine go_s (pc' := 23) rfl rfl rfl rfl ?_
      refine go_ret rfl rfl ?_
      have hr1 : row1 (I, Q, Z) (1 + 1) 1 = 0 ∨ row1 (I, Q, Z) (1 + 1) 1 = 1 := by
        rcases htr with ⟨-, -, -, z, -⟩ | ⟨q, -, -, z, -⟩ | ⟨q, s, -, -, -, -, -, -, -, -, -, -, -, z⟩
        · exact Or.inl z
        · exact Or.inr z
        · rcases z with ⟨z, -⟩ | ⟨z, -⟩
          · exact Or.inl z
          · exact Or.inr z
      exact ⟨by unfold mqtm; rw [if_neg (by decide), if_pos (show lv (I, Q, Z).1 (1 + 1) = true from u4), if_neg (by decide), if_pos rfl]; rcases hr1 with z | z <;> rw [z] at c7 ⊢ <;> first | rfl | exact absurd rfl c7 | exact absurd c7 (by decide), rfl⟩
theorem ct_tf_1_8 {w : Nat → Bool} {d : Nat} {h : am_Hp} {m0 : mg} {B : Nat} {I : sm_I} {Q : mQ} {Z : mZ} (hC : CA w 32 m0 B h (I, Q, Z)) (hB2 : B < 2 ^ 26) (hinc : lv I 2 = true → row1 (I, Q, Z) (1 + 1) 11 = I 17 1) (hd : 3 ≤ d) : am_Ev (am_prog w) d 111 [.ref 1, .ref 60, .int 8] h (fun r h' => r = some (.int (mqtm 1 8 (I, Q, Z))) ∧ h' = h) := by
  obtain ⟨X, ow, sb, hS, hD, hB, hQ⟩ := hC
  change sm tbc h I X at hS
  change CD w 32 m0 h I Q Z X ow sb at hD
  change co h I ≤ B at hB
  change ∀ l, l < 16 → (Q l).length ≤ h.length at hQ
  have hW := hD.1.1
  have hWn : ∀ a, List.length h ≤ a → w a = true := fun a ha => (hD.1.2.1 a ha).1
  have hF1 := fr_refl tbc h
  have hln : 62 ≤ List.length h := sm_len hS
  obtain ⟨d, rfl⟩ : ∃ e, d = e + 1 := ⟨d - 1, by omega⟩
  refine ev_go rfl (Nat.le_of_ble_eq_true rfl) rfl ?_
  refine go_s (pc' := 1) rfl rfl rfl rfl ?_
  refine go_s (pc' := 2) (st' := [.int 5, .int 8]) rfl rfl rfl rfl ?_
  refine go_icmpP (t' := 6) (pc' := 3) rfl rfl rfl (fun _ => ?_) (fun (c : ¬ (¬ (8 : Int32) = 5)) => absurd (by decide) c)
  refine go_s (pc' := 7) rfl rfl rfl rfl ?_
  refine go_s (pc' := 8) rfl rfl rfl rfl ?_
  refine go_callV (pc' := 9) rfl rfl rfl (Nat.le_of_ble_eq_true rfl) rfl (sm_o hS rfl) rfl rfl rfl (ct_works_2 hS (hD.2.2.2.2.2.2 2 (by decide)) (by omega)) (fun r h2 q3 => ?_)
  obtain ⟨rfl, rfl⟩ := q3
  cases u4 : lv I 2
  · skip
    show am_Go _ _ _ _ 9 _ [.int 0] _ _
    refine go_ifP (t' := 12) (pc' := 10) rfl rfl rfl (fun (c : ¬ (0 : Int32) = 0) => absurd c (by decide)) (fun _ => ?_)
    refine go_s (pc' := 11) (st' := [.int (-1)]) rfl rfl rfl rfl ?_
    refine go_ret rfl rfl ?_
    exact ⟨by unfold mqtm; rw [if_neg (by decide), if_neg (by rw [show lv (I, Q, Z).1 (1 + 1) = false from u4]; decide)], rfl⟩
  · skip
    show am_Go _ _ _ _ 9 _ [.int 1] _ _
    refine go_ifP (t' := 12) (pc' := 10) rfl rfl rfl (fun _ => ?_) (fun (c : ¬ (¬ (1 : Int32) = 0)) => absurd (by decide) c)
    have hv := u4
    have htr := (hD.2.2.2.2.2.1 1 (by decide)).1 hv
    change TR _ ow 1 (X 211 1) (X 212 1) (row1 (I, Q, Z) (1 + 1)) at htr
    refine go_s (pc' := 13) rfl rfl rfl rfl ?_
    refine go_tsw (t' := 24) rfl (Or.inr ⟨by decide, rfl⟩) rfl ?_
    refine go_s (pc' := 25) rfl rfl rfl rfl ?_
    refine go_callV (pc' := 26) rfl rfl rfl (Nat.le_of_ble_eq_true rfl) rfl (sm_o hS rfl) rfl rfl rfl (ct_epoch_1 hS htr (hinc hv) (by omega)) (fun r h5 q6 => ?_)
    obtain ⟨rfl, rfl⟩ := q6
    refine go_ret rfl rfl ?_
    exact ⟨by unfold mqtm; rw [if_neg (by decide), if_pos (show lv (I, Q, Z).1 (1 + 1) = true from u4)]; rfl, rfl⟩
theorem ct_tf_1_n {w : Nat → Bool} {d : Nat} {h : am_Hp} {m0 : mg} {B : Nat} {I : sm_I} {Q : mQ} {Z : mZ} (hC : CA w 32 m0 B h (I, Q, Z)) (hB2 : B < 2 ^ 26) (hinc : lv I 2 = true → row1 (I, Q, Z) (1 + 1) 11 = I 17 1) {x : Int32} (x5 : ¬ x = 5) (x6 : ¬ x = 6) (x7 : ¬ x = 7) (x8 : ¬ x = 8) (hd : 3 ≤ d) : am_Ev (am_prog w) d 111 [.ref 1, .ref 60, .int x] h (fun r h' => r = some (.int (mqtm 1 x (I, Q, Z))) ∧ h' = h) := by
  obtain ⟨X, ow, sb, hS, hD, hB, hQ⟩ := hC
  change sm tbc h I X at hS
  change CD w 32 m0 h I Q Z X ow sb at hD
  change co h I ≤ B at hB
  change ∀ l, l < 16 → (Q l).length ≤ h.length at hQ
  have hW := hD.1.1
  have hWn : ∀ a, List.length h ≤ a → w a = true := fun a ha => (hD.1.2.1 a ha).1
  have hF1 := fr_refl tbc h
  have hln : 62 ≤ List.length h := sm_len hS
  obtain ⟨d, rfl⟩ : ∃ e, d = e + 1 := ⟨d - 1, by omega⟩
  refine ev_go rfl (Nat.le_of_ble_eq_true rfl) rfl ?_
  refine go_s (pc' := 1) rfl rfl rfl rfl ?_
  refine go_s (pc' := 2) (st' := [.int 5, .int x]) rfl rfl rfl rfl ?_
  refine go_icmpP (t' := 6) (pc' := 3) rfl rfl rfl (fun _ => ?_) (fun (c : ¬ (¬ x = 5)) => absurd x5 c)
  refine go_s (pc' := 7) rfl rfl rfl rfl ?_
  refine go_s (pc' := 8) rfl rfl rfl rfl ?_
  refine go_callV (pc' := 9) rfl rfl rfl (Nat.le_of_ble_eq_true rfl) rfl (sm_o hS rfl) rfl rfl rfl (ct_works_2 hS (hD.2.2.2.2.2.2 2 (by decide)) (by omega)) (fun r h2 q3 => ?_)
  obtain ⟨rfl, rfl⟩ := q3
  cases u4 : lv I 2
  · skip
    show am_Go _ _ _ _ 9 _ [.int 0] _ _
    refine go_ifP (t' := 12) (pc' := 10) rfl rfl rfl (fun (c : ¬ (0 : Int32) = 0) => absurd c (by decide)) (fun _ => ?_)
    refine go_s (pc' := 11) (st' := [.int (-1)]) rfl rfl rfl rfl ?_
    refine go_ret rfl rfl ?_
    exact ⟨by unfold mqtm; rw [if_neg x5, if_neg (by rw [show lv (I, Q, Z).1 (1 + 1) = false from u4]; decide)], rfl⟩
  · skip
    show am_Go _ _ _ _ 9 _ [.int 1] _ _
    refine go_ifP (t' := 12) (pc' := 10) rfl rfl rfl (fun _ => ?_) (fun (c : ¬ (¬ (1 : Int32) = 0)) => absurd (by decide) c)
    have hv := u4
    have htr := (hD.2.2.2.2.2.1 1 (by decide)).1 hv
    change TR _ ow 1 (X 211 1) (X 212 1) (row1 (I, Q, Z) (1 + 1)) at htr
    refine go_s (pc' := 13) rfl rfl rfl rfl ?_
    refine go_tsw (t' := 27) rfl (Or.inl ⟨tsw_6_8 x6 x7 x8, rfl⟩) rfl ?_
    refine go_s (pc' := 28) (st' := [.int (-1)]) rfl rfl rfl rfl ?_
    refine go_ret rfl rfl ?_
    exact ⟨by unfold mqtm; rw [if_neg x5, if_pos (show lv (I, Q, Z).1 (1 + 1) = true from u4), if_neg x6, if_neg x7, if_neg x8], rfl⟩
theorem ct_tf_1 {w : Nat → Bool} {d : Nat} {h : am_Hp} {m0 : mg} {B : Nat} {I : sm_I} {Q : mQ} {Z : mZ} (hC : CA w 32 m0 B h (I, Q, Z)) (hB2 : B < 2 ^ 26) (hinc : lv I 2 = true → row1 (I, Q, Z) (1 + 1) 11 = I 17 1) {x : Int32} (hd : 3 ≤ d) : am_Ev (am_prog w) d 111 [.ref 1, .ref 60, .int x] h (fun r h' => r = some (.int (mqtm 1 x (I, Q, Z))) ∧ h' = h) := by
  by_cases x5 : x = 5
  · subst x5; exact ct_tf_1_5 hC hB2 hinc hd
  by_cases x6 : x = 6
  · subst x6; exact ct_tf_1_6 hC hB2 hinc hd
  by_cases x7 : x = 7
  · subst x7; exact ct_tf_1_7 hC hB2 hinc hd
  by_cases x8 : x = 8
  · subst x8; exact ct_tf_1_8 hC hB2 hinc hd
  exact ct_tf_1_n hC hB2 hinc x5 x6 x7 x8 hd
theorem ct_sf_5 {w : Nat → Bool} {d : Nat} {h : am_Hp} {m0 : mg} {B : Nat} {I : sm_I} {Q : mQ} {Z : mZ} (hC : CA w 32 m0 B h (I, Q, Z)) (hB2 : B < 2 ^ 26) (hdo : lv I 0 = true → I 16 0 = 2 → ¬ (Z (rwi I 0)).1 3 = 0) (hd : 3 ≤ d) : am_Ev (am_prog w) d 112 [.ref 1, .int 5] h (fun r h' => r = some (.int (mqst 5 (I, Q, Z))) ∧ h' = h) := by
  obtain ⟨X, ow, sb, hS, hD, hB, hQ⟩ := hC
  change sm tbc h I X at hS
  change CD w 32 m0 h I Q Z X ow sb at hD
  change co h I ≤ B at hB
  change ∀ l, l < 16 → (Q l).length ≤ h.length at hQ
  have hW := hD.1.1
  have hWn : ∀ a, List.length h ≤ a → w a = true := fun a ha => (hD.1.2.1 a ha).1
  have hF1 := fr_refl tbc h
  have hln : 62 ≤ List.length h := sm_len hS
  obtain ⟨d, rfl⟩ : ∃ e, d = e + 1 := ⟨d - 1, by omega⟩
  refine ev_go rfl (Nat.le_of_ble_eq_true rfl) rfl ?_
  refine go_s (pc' := 1) rfl rfl rfl rfl ?_
  refine go_s (pc' := 2) rfl rfl rfl rfl ?_
  refine go_sget (pc' := 3) (v := .ref 32) hS rfl rfl rfl (by decide) rfl rfl ?_
  refine go_callV (pc' := 4) rfl rfl rfl (Nat.le_of_ble_eq_true rfl) rfl (sm_o hS rfl) rfl rfl rfl (ct_works_0 hS (hD.2.2.2.2.2.2 0 (by decide)) (by omega)) (fun r h2 q3 => ?_)
  obtain ⟨rfl, rfl⟩ := q3
  cases u4 : lv I 0
  · skip
    show am_Go _ _ _ _ 4 _ [.int 0] _ _
    refine go_ifP (t' := 7) (pc' := 5) rfl rfl rfl (fun (c : ¬ (0 : Int32) = 0) => absurd c (by decide)) (fun _ => ?_)
    refine go_s (pc' := 6) (st' := [.int (-1)]) rfl rfl rfl rfl ?_
    refine go_ret rfl rfl ?_
    exact ⟨by unfold mqst; rw [if_neg (by rw [show lv (I, Q, Z).1 0 = false from u4]; decide)], rfl⟩
  · skip
    show am_Go _ _ _ _ 4 _ [.int 1] _ _
    refine go_ifP (t' := 7) (pc' := 5) rfl rfl rfl (fun _ => ?_) (fun (c : ¬ (¬ (1 : Int32) = 0)) => absurd (by decide) c)
    have hv := u4
    obtain ⟨k208, kst, -⟩ := hD.2.2.2.2.1
    obtain ⟨ad, S, Y, k0, hA, k2, k3, k4, k5, hoa, hZ0, hWa, htc⟩ := St_open hD.1 (kst hv)
    rw [← k0] at k208
    obtain ⟨⟨Wl, w1, w2⟩, -⟩ := id k5
    have hsd := k4 (ad 0) _ _ (tbs_at hA (i := 0) (by decide))
    have hsw := k4 (ad 9) _ _ (tbs_at hA (i := 9) (by decide))
    refine go_s (pc' := 8) rfl rfl rfl rfl ?_
    refine go_tsw (t' := 9) rfl (Or.inr ⟨by decide, rfl⟩) rfl ?_
    refine go_s (pc' := 10) rfl rfl rfl rfl ?_
    refine go_sget (pc' := 11) (v := .ref 32) hS rfl rfl rfl (by decide) rfl rfl ?_
    refine go_sget (pc' := 12) (v := .int (I 16 0)) hS rfl rfl rfl (by decide) rfl rfl ?_
    refine go_s (pc' := 13) (st' := [.int 2, .int (I 16 0)]) rfl rfl rfl rfl ?_
    refine go_icmpP (t' := 22) (pc' := 14) rfl rfl rfl (fun (c5 : ¬ (I 16 0) = 2) => ?_) (fun (c5' : ¬ ¬ (I 16 0) = 2) => ?_)
    · skip
      refine go_s (pc' := 23) (st' := [.int 0]) rfl rfl rfl rfl ?_
      refine go_ret rfl rfl ?_
      have hval : mqst 5 (I, Q, Z) = if I 16 0 = 2 then mlck I (nI (Z (rwi I 0)).2.2.length) else 0 := by
        unfold mqst
        rw [if_pos (show lv (I, Q, Z).1 0 = true from u4)]
        rfl
      exact ⟨by rw [hval, if_neg c5], rfl⟩
    · skip
      have c5 : (I 16 0) = 2 := Decidable.not_not.mp c5'
      refine go_s (pc' := 15) rfl rfl rfl rfl ?_
      refine go_sget (pc' := 16) (v := .ref 24) hS rfl rfl rfl (by decide) rfl rfl ?_
      refine go_s (pc' := 17) rfl rfl rfl rfl ?_
      refine go_sget (pc' := 18) (v := .ref 32) hS rfl rfl rfl (by decide) rfl rfl ?_
      refine go_sget (pc' := 19) (v := .ref (ad 0)) hS rfl rfl rfl (by decide) k208 rfl ?_
      refine go_get (pc' := 20) rfl hsd rfl (by decide) rfl rfl ?_
      have hg : ∀ d, d < 2 → X 206 d = .int (I 22 d) := fun d hd => by
        obtain ⟨n, z1, z2⟩ := hD.2.2.2.1.2.1 d hd
        rw [z1, z2 c5]
      have e04 : S 0 4 = nI (Z (rwi I 0)).2.2.length := by rw [← w2 (hdo hv c5)]; exact w1.2.2.2.1
      refine go_callV (pc' := 21) rfl rfl rfl (Nat.le_of_ble_eq_true rfl) rfl (sm_o hS rfl) rfl rfl rfl (ct_lack hS (n := S 0 4) hsw hg (by omega)) (fun r h6 q7 => ?_)
      obtain ⟨rfl, rfl⟩ := q7
      refine go_s (pc' := 23) rfl rfl rfl rfl ?_
      refine go_ret rfl rfl ?_
      have hval : mqst 5 (I, Q, Z) = if I 16 0 = 2 then mlck I (nI (Z (rwi I 0)).2.2.length) else 0 := by
        unfold mqst
        rw [if_pos (show lv (I, Q, Z).1 0 = true from u4)]
        rfl
      exact ⟨by rw [hval, if_pos c5]; rw [e04], rfl⟩
theorem ct_sf_6 {w : Nat → Bool} {d : Nat} {h : am_Hp} {m0 : mg} {B : Nat} {I : sm_I} {Q : mQ} {Z : mZ} (hC : CA w 32 m0 B h (I, Q, Z)) (hB2 : B < 2 ^ 26) (hdo : lv I 0 = true → I 16 0 = 2 → ¬ (Z (rwi I 0)).1 3 = 0) (hd : 3 ≤ d) : am_Ev (am_prog w) d 112 [.ref 1, .int 6] h (fun r h' => r = some (.int (mqst 6 (I, Q, Z))) ∧ h' = h) := by
  obtain ⟨X, ow, sb, hS, hD, hB, hQ⟩ := hC
  change sm tbc h I X at hS
  change CD w 32 m0 h I Q Z X ow sb at hD
  change co h I ≤ B at hB
  change ∀ l, l < 16 → (Q l).length ≤ h.length at hQ
  have hW := hD.1.1
  have hWn : ∀ a, List.length h ≤ a → w a = true := fun a ha => (hD.1.2.1 a ha).1
  have hF1 := fr_refl tbc h
  have hln : 62 ≤ List.length h := sm_len hS
  obtain ⟨d, rfl⟩ : ∃ e, d = e + 1 := ⟨d - 1, by omega⟩
  refine ev_go rfl (Nat.le_of_ble_eq_true rfl) rfl ?_
  refine go_s (pc' := 1) rfl rfl rfl rfl ?_
  refine go_s (pc' := 2) rfl rfl rfl rfl ?_
  refine go_sget (pc' := 3) (v := .ref 32) hS rfl rfl rfl (by decide) rfl rfl ?_
  refine go_callV (pc' := 4) rfl rfl rfl (Nat.le_of_ble_eq_true rfl) rfl (sm_o hS rfl) rfl rfl rfl (ct_works_0 hS (hD.2.2.2.2.2.2 0 (by decide)) (by omega)) (fun r h2 q3 => ?_)
  obtain ⟨rfl, rfl⟩ := q3
  cases u4 : lv I 0
  · skip
    show am_Go _ _ _ _ 4 _ [.int 0] _ _
    refine go_ifP (t' := 7) (pc' := 5) rfl rfl rfl (fun (c : ¬ (0 : Int32) = 0) => absurd c (by decide)) (fun _ => ?_)
    refine go_s (pc' := 6) (st' := [.int (-1)]) rfl rfl rfl rfl ?_
    refine go_ret rfl rfl ?_
    exact ⟨by unfold mqst; rw [if_neg (by rw [show lv (I, Q, Z).1 0 = false from u4]; decide)], rfl⟩
  · skip
    show am_Go _ _ _ _ 4 _ [.int 1] _ _
    refine go_ifP (t' := 7) (pc' := 5) rfl rfl rfl (fun _ => ?_) (fun (c : ¬ (¬ (1 : Int32) = 0)) => absurd (by decide) c)
    have hv := u4
    obtain ⟨k208, kst, -⟩ := hD.2.2.2.2.1
    obtain ⟨ad, S, Y, k0, hA, k2, k3, k4, k5, hoa, hZ0, hWa, htc⟩ := St_open hD.1 (kst hv)
    rw [← k0] at k208
    obtain ⟨⟨Wl, w1, w2⟩, -⟩ := id k5
    have hsd := k4 (ad 0) _ _ (tbs_at hA (i := 0) (by decide))
    have hsw := k4 (ad 9) _ _ (tbs_at hA (i := 9) (by decide))
    refine go_s (pc' := 8) rfl rfl rfl rfl ?_
    refine go_tsw (t' := 24) rfl (Or.inr ⟨by decide, rfl⟩) rfl ?_
    refine go_s (pc' := 25) rfl rfl rfl rfl ?_
    refine go_sget (pc' := 26) (v := .ref 32) hS rfl rfl rfl (by decide) rfl rfl ?_
    refine go_sget (pc' := 27) (v := .int (I 21 0)) hS rfl rfl rfl (by decide) rfl rfl ?_
    refine go_ret rfl rfl ?_
    have hval : mqst 6 (I, Q, Z) = I 21 0 := by
      unfold mqst
      rw [if_pos (show lv (I, Q, Z).1 0 = true from u4)]
      rfl
    exact ⟨by rw [hval], rfl⟩
theorem ct_sf_7 {w : Nat → Bool} {d : Nat} {h : am_Hp} {m0 : mg} {B : Nat} {I : sm_I} {Q : mQ} {Z : mZ} (hC : CA w 32 m0 B h (I, Q, Z)) (hB2 : B < 2 ^ 26) (hdo : lv I 0 = true → I 16 0 = 2 → ¬ (Z (rwi I 0)).1 3 = 0) (hd : 3 ≤ d) : am_Ev (am_prog w) d 112 [.ref 1, .int 7] h (fun r h' => r = some (.int (mqst 7 (I, Q, Z))) ∧ h' = h) := by
  obtain ⟨X, ow, sb, hS, hD, hB, hQ⟩ := hC
  change sm tbc h I X at hS
  change CD w 32 m0 h I Q Z X ow sb at hD
  change co h I ≤ B at hB
  change ∀ l, l < 16 → (Q l).length ≤ h.length at hQ
  have hW := hD.1.1
  have hWn : ∀ a, List.length h ≤ a → w a = true := fun a ha => (hD.1.2.1 a ha).1
  have hF1 := fr_refl tbc h
  have hln : 62 ≤ List.length h := sm_len hS
  obtain ⟨d, rfl⟩ : ∃ e, d = e + 1 := ⟨d - 1, by omega⟩
  refine ev_go rfl (Nat.le_of_ble_eq_true rfl) rfl ?_
  refine go_s (pc' := 1) rfl rfl rfl rfl ?_
  refine go_s (pc' := 2) rfl rfl rfl rfl ?_
  refine go_sget (pc' := 3) (v := .ref 32) hS rfl rfl rfl (by decide) rfl rfl ?_
  refine go_callV (pc' := 4) rfl rfl rfl (Nat.le_of_ble_eq_true rfl) rfl (sm_o hS rfl) rfl rfl rfl (ct_works_0 hS (hD.2.2.2.2.2.2 0 (by decide)) (by omega)) (fun r h2 q3 => ?_)
  obtain ⟨rfl, rfl⟩ := q3
  cases u4 : lv I 0
  · skip
    show am_Go _ _ _ _ 4 _ [.int 0] _ _
    refine go_ifP (t' := 7) (pc' := 5) rfl rfl rfl (fun (c : ¬ (0 : Int32) = 0) => absurd c (by decide)) (fun _ => ?_)
    refine go_s (pc' := 6) (st' := [.int (-1)]) rfl rfl rfl rfl ?_
    refine go_ret rfl rfl ?_
    exact ⟨by unfold mqst; rw [if_neg (by rw [show lv (I, Q, Z).1 0 = false from u4]; decide)], rfl⟩
  · skip
    show am_Go _ _ _ _ 4 _ [.int 1] _ _
    refine go_ifP (t' := 7) (pc' := 5) rfl rfl rfl (fun _ => ?_) (fun (c : ¬ (¬ (1 : Int32) = 0)) => absurd (by decide) c)
    have hv := u4
    obtain ⟨k208, kst, -⟩ := hD.2.2.2.2.1
    obtain ⟨ad, S, Y, k0, hA, k2, k3, k4, k5, hoa, hZ0, hWa, htc⟩ := St_open hD.1 (kst hv)
    rw [← k0] at k208
    obtain ⟨⟨Wl, w1, w2⟩, -⟩ := id k5
    have hsd := k4 (ad 0) _ _ (tbs_at hA (i := 0) (by decide))
    have hsw := k4 (ad 9) _ _ (tbs_at hA (i := 9) (by decide))
    refine go_s (pc' := 8) rfl rfl rfl rfl ?_
    refine go_tsw (t' := 28) rfl (Or.inr ⟨by decide, rfl⟩) rfl ?_
    refine go_s (pc' := 29) rfl rfl rfl rfl ?_
    refine go_sget (pc' := 30) (v := .ref 32) hS rfl rfl rfl (by decide) rfl rfl ?_
    refine go_sget (pc' := 31) (v := .ref (ad 0)) hS rfl rfl rfl (by decide) k208 rfl ?_
    refine go_get (pc' := 32) rfl hsd rfl (by decide) rfl rfl ?_
    refine go_ret rfl rfl ?_
    have hval : mqst 7 (I, Q, Z) = (Z (rwi I 0)).1 0 := by
      unfold mqst
      rw [if_pos (show lv (I, Q, Z).1 0 = true from u4)]
      rfl
    exact ⟨by rw [hval]; exact congrArg (fun z => some (Value.int z)) (w1.1), rfl⟩
theorem ct_sf_8 {w : Nat → Bool} {d : Nat} {h : am_Hp} {m0 : mg} {B : Nat} {I : sm_I} {Q : mQ} {Z : mZ} (hC : CA w 32 m0 B h (I, Q, Z)) (hB2 : B < 2 ^ 26) (hdo : lv I 0 = true → I 16 0 = 2 → ¬ (Z (rwi I 0)).1 3 = 0) (hd : 3 ≤ d) : am_Ev (am_prog w) d 112 [.ref 1, .int 8] h (fun r h' => r = some (.int (mqst 8 (I, Q, Z))) ∧ h' = h) := by
  obtain ⟨X, ow, sb, hS, hD, hB, hQ⟩ := hC
  change sm tbc h I X at hS
  change CD w 32 m0 h I Q Z X ow sb at hD
  change co h I ≤ B at hB
  change ∀ l, l < 16 → (Q l).length ≤ h.length at hQ
  have hW := hD.1.1
  have hWn : ∀ a, List.length h ≤ a → w a = true := fun a ha => (hD.1.2.1 a ha).1
  have hF1 := fr_refl tbc h
  have hln : 62 ≤ List.length h := sm_len hS
  obtain ⟨d, rfl⟩ : ∃ e, d = e + 1 := ⟨d - 1, by omega⟩
  refine ev_go rfl (Nat.le_of_ble_eq_true rfl) rfl ?_
  refine go_s (pc' := 1) rfl rfl rfl rfl ?_
  refine go_s (pc' := 2) rfl rfl rfl rfl ?_
  refine go_sget (pc' := 3) (v := .ref 32) hS rfl rfl rfl (by decide) rfl rfl ?_
  refine go_callV (pc' := 4) rfl rfl rfl (Nat.le_of_ble_eq_true rfl) rfl (sm_o hS rfl) rfl rfl rfl (ct_works_0 hS (hD.2.2.2.2.2.2 0 (by decide)) (by omega)) (fun r h2 q3 => ?_)
  obtain ⟨rfl, rfl⟩ := q3
  cases u4 : lv I 0
  · skip
    show am_Go _ _ _ _ 4 _ [.int 0] _ _
    refine go_ifP (t' := 7) (pc' := 5) rfl rfl rfl (fun (c : ¬ (0 : Int32) = 0) => absurd c (by decide)) (fun _ => ?_)
    refine go_s (pc' := 6) (st' := [.int (-1)]) rfl rfl rfl rfl ?_
    refine go_ret rfl rfl ?_
    exact ⟨by unfold mqst; rw [if_neg (by rw [show lv (I, Q, Z).1 0 = false from u4]; decide)], rfl⟩
  · skip
    show am_Go _ _ _ _ 4 _ [.int 1] _ _
    refine go_ifP (t' := 7) (pc' := 5) rfl rfl rfl (fun _ => ?_) (fun (c : ¬ (¬ (1 : Int32) = 0)) => absurd (by decide) c)
    have hv := u4
    obtain ⟨k208, kst, -⟩ := hD.2.2.2.2.1
    obtain ⟨ad, S, Y, k0, hA, k2, k3, k4, k5, hoa, hZ0, hWa, htc⟩ := St_open hD.1 (kst hv)
    rw [← k0] at k208
    obtain ⟨⟨Wl, w1, w2⟩, -⟩ := id k5
    have hsd := k4 (ad 0) _ _ (tbs_at hA (i := 0) (by decide))
    have hsw := k4 (ad 9) _ _ (tbs_at hA (i := 9) (by decide))
    refine go_s (pc' := 8) rfl rfl rfl rfl ?_
    refine go_tsw (t' := 33) rfl (Or.inr ⟨by decide, rfl⟩) rfl ?_
    refine go_s (pc' := 34) rfl rfl rfl rfl ?_
    refine go_sget (pc' := 35) (v := .ref 32) hS rfl rfl rfl (by decide) rfl rfl ?_
    refine go_sget (pc' := 36) (v := .ref (ad 0)) hS rfl rfl rfl (by decide) k208 rfl ?_
    refine go_get (pc' := 37) rfl hsd rfl (by decide) rfl rfl ?_
    refine go_ret rfl rfl ?_
    have hval : mqst 8 (I, Q, Z) = (Z (rwi I 0)).1 1 := by
      unfold mqst
      rw [if_pos (show lv (I, Q, Z).1 0 = true from u4)]
      rfl
    exact ⟨by rw [hval]; exact congrArg (fun z => some (Value.int z)) (w1.2.1), rfl⟩
theorem ct_sf_9 {w : Nat → Bool} {d : Nat} {h : am_Hp} {m0 : mg} {B : Nat} {I : sm_I} {Q : mQ} {Z : mZ} (hC : CA w 32 m0 B h (I, Q, Z)) (hB2 : B < 2 ^ 26) (hdo : lv I 0 = true → I 16 0 = 2 → ¬ (Z (rwi I 0)).1 3 = 0) (hd : 3 ≤ d) : am_Ev (am_prog w) d 112 [.ref 1, .int 9] h (fun r h' => r = some (.int (mqst 9 (I, Q, Z))) ∧ h' = h) := by
  obtain ⟨X, ow, sb, hS, hD, hB, hQ⟩ := hC
  change sm tbc h I X at hS
  change CD w 32 m0 h I Q Z X ow sb at hD
  change co h I ≤ B at hB
  change ∀ l, l < 16 → (Q l).length ≤ h.length at hQ
  have hW := hD.1.1
  have hWn : ∀ a, List.length h ≤ a → w a = true := fun a ha => (hD.1.2.1 a ha).1
  have hF1 := fr_refl tbc h
  have hln : 62 ≤ List.length h := sm_len hS
  obtain ⟨d, rfl⟩ : ∃ e, d = e + 1 := ⟨d - 1, by omega⟩
  refine ev_go rfl (Nat.le_of_ble_eq_true rfl) rfl ?_
  refine go_s (pc' := 1) rfl rfl rfl rfl ?_
  refine go_s (pc' := 2) rfl rfl rfl rfl ?_
  refine go_sget (pc' := 3) (v := .ref 32) hS rfl rfl rfl (by decide) rfl rfl ?_
  refine go_callV (pc' := 4) rfl rfl rfl (Nat.le_of_ble_eq_true rfl) rfl (sm_o hS rfl) rfl rfl rfl (ct_works_0 hS (hD.2.2.2.2.2.2 0 (by decide)) (by omega)) (fun r h2 q3 => ?_)
  obtain ⟨rfl, rfl⟩ := q3
  cases u4 : lv I 0
  · skip
    show am_Go _ _ _ _ 4 _ [.int 0] _ _
    refine go_ifP (t' := 7) (pc' := 5) rfl rfl rfl (fun (c : ¬ (0 : Int32) = 0) => absurd c (by decide)) (fun _ => ?_)
    refine go_s (pc' := 6) (st' := [.int (-1)]) rfl rfl rfl rfl ?_
    refine go_ret rfl rfl ?_
    exact ⟨by unfold mqst; rw [if_neg (by rw [show lv (I, Q, Z).1 0 = false from u4]; decide)], rfl⟩
  · skip
    show am_Go _ _ _ _ 4 _ [.int 1] _ _
    refine go_ifP (t' := 7) (pc' := 5) rfl rfl rfl (fun _ => ?_) (fun (c : ¬ (¬ (1 : Int32) = 0)) => absurd (by decide) c)
    have hv := u4
    obtain ⟨k208, kst, -⟩ := hD.2.2.2.2.1
    obtain ⟨ad, S, Y, k0, hA, k2, k3, k4, k5, hoa, hZ0, hWa, htc⟩ := St_open hD.1 (kst hv)
    rw [← k0] at k208
    obtain ⟨⟨Wl, w1, w2⟩, -⟩ := id k5
    have hsd := k4 (ad 0) _ _ (tbs_at hA (i := 0) (by decide))
    have hsw := k4 (ad 9) _ _ (tbs_at hA (i := 9) (by decide))
    refine go_s (pc' := 8) rfl rfl rfl rfl ?_
    refine go_tsw (t' := 38) rfl (Or.inr ⟨by decide, rfl⟩) rfl ?_
    refine go_s (pc' := 39) rfl rfl rfl rfl ?_
    refine go_sget (pc' := 40) (v := .ref 32) hS rfl rfl rfl (by decide) rfl rfl ?_
    refine go_sget (pc' := 41) (v := .ref (ad 0)) hS rfl rfl rfl (by decide) k208 rfl ?_
    refine go_get (pc' := 42) rfl hsd rfl (by decide) rfl rfl ?_
    refine go_ret rfl rfl ?_
    have hval : mqst 9 (I, Q, Z) = nI (Z (rwi I 0)).2.1.length := by
      unfold mqst
      rw [if_pos (show lv (I, Q, Z).1 0 = true from u4)]
      rfl
    exact ⟨by rw [hval]; exact congrArg (fun z => some (Value.int z)) (w1.2.2.1), rfl⟩
theorem ct_sf_10 {w : Nat → Bool} {d : Nat} {h : am_Hp} {m0 : mg} {B : Nat} {I : sm_I} {Q : mQ} {Z : mZ} (hC : CA w 32 m0 B h (I, Q, Z)) (hB2 : B < 2 ^ 26) (hdo : lv I 0 = true → I 16 0 = 2 → ¬ (Z (rwi I 0)).1 3 = 0) (hd : 3 ≤ d) : am_Ev (am_prog w) d 112 [.ref 1, .int 10] h (fun r h' => r = some (.int (mqst 10 (I, Q, Z))) ∧ h' = h) := by
  obtain ⟨X, ow, sb, hS, hD, hB, hQ⟩ := hC
  change sm tbc h I X at hS
  change CD w 32 m0 h I Q Z X ow sb at hD
  change co h I ≤ B at hB
  change ∀ l, l < 16 → (Q l).length ≤ h.length at hQ
  have hW := hD.1.1
  have hWn : ∀ a, List.length h ≤ a → w a = true := fun a ha => (hD.1.2.1 a ha).1
  have hF1 := fr_refl tbc h
  have hln : 62 ≤ List.length h := sm_len hS
  obtain ⟨d, rfl⟩ : ∃ e, d = e + 1 := ⟨d - 1, by omega⟩
  refine ev_go rfl (Nat.le_of_ble_eq_true rfl) rfl ?_
  refine go_s (pc' := 1) rfl rfl rfl rfl ?_
  refine go_s (pc' := 2) rfl rfl rfl rfl ?_
  refine go_sget (pc' := 3) (v := .ref 32) hS rfl rfl rfl (by decide) rfl rfl ?_
  refine go_callV (pc' := 4) rfl rfl rfl (Nat.le_of_ble_eq_true rfl) rfl (sm_o hS rfl) rfl rfl rfl (ct_works_0 hS (hD.2.2.2.2.2.2 0 (by decide)) (by omega)) (fun r h2 q3 => ?_)
  obtain ⟨rfl, rfl⟩ := q3
  cases u4 : lv I 0
  · skip
    show am_Go _ _ _ _ 4 _ [.int 0] _ _
    refine go_ifP (t' := 7) (pc' := 5) rfl rfl rfl (fun (c : ¬ (0 : Int32) = 0) => absurd c (by decide)) (fun _ => ?_)
    refine go_s (pc' := 6) (st' := [.int (-1)]) rfl rfl rfl rfl ?_
    refine go_ret rfl rfl ?_
    exact ⟨by unfold mqst; rw [if_neg (by rw [show lv (I, Q, Z).1 0 = false from u4]; decide)], rfl⟩
  · skip
    show am_Go _ _ _ _ 4 _ [.int 1] _ _
    refine go_ifP (t' := 7) (pc' := 5) rfl rfl rfl (fun _ => ?_) (fun (c : ¬ (¬ (1 : Int32) = 0)) => absurd (by decide) c)
    have hv := u4
    obtain ⟨k208, kst, -⟩ := hD.2.2.2.2.1
    obtain ⟨ad, S, Y, k0, hA, k2, k3, k4, k5, hoa, hZ0, hWa, htc⟩ := St_open hD.1 (kst hv)
    rw [← k0] at k208
    obtain ⟨⟨Wl, w1, w2⟩, -⟩ := id k5
    have hsd := k4 (ad 0) _ _ (tbs_at hA (i := 0) (by decide))
    have hsw := k4 (ad 9) _ _ (tbs_at hA (i := 9) (by decide))
    refine go_s (pc' := 8) rfl rfl rfl rfl ?_
    refine go_tsw (t' := 43) rfl (Or.inr ⟨by decide, rfl⟩) rfl ?_
    refine go_s (pc' := 44) rfl rfl rfl rfl ?_
    refine go_sget (pc' := 45) (v := .ref 32) hS rfl rfl rfl (by decide) rfl rfl ?_
    refine go_sget (pc' := 46) (v := .ref (ad 0)) hS rfl rfl rfl (by decide) k208 rfl ?_
    refine go_callV (pc' := 47) rfl rfl rfl (Nat.le_of_ble_eq_true rfl) rfl hsd rfl rfl rfl (cs_trans hA k4 (by omega)) (fun r h5 q6 => ?_)
    obtain ⟨rfl, rfl⟩ := q6
    refine go_ret rfl rfl ?_
    have hval : mqst 10 (I, Q, Z) = nI (mtr (Z (rwi I 0))) := by
      unfold mqst
      rw [if_pos (show lv (I, Q, Z).1 0 = true from u4)]
      rfl
    exact ⟨by rw [hval]; exact congrArg (fun z => some (Value.int z)) (congrArg nI (show trS S = mtr (Z (rwi I 0)) from (sc_tr w1 : trS S = mtr ((Z (rwi I 0)).1, (Z (rwi I 0)).2.1, Wl)))), rfl⟩
theorem ct_sf_n {w : Nat → Bool} {d : Nat} {h : am_Hp} {m0 : mg} {B : Nat} {I : sm_I} {Q : mQ} {Z : mZ} (hC : CA w 32 m0 B h (I, Q, Z)) (hB2 : B < 2 ^ 26) (hdo : lv I 0 = true → I 16 0 = 2 → ¬ (Z (rwi I 0)).1 3 = 0) {x : Int32} (x5 : ¬ x = 5) (x6 : ¬ x = 6) (x7 : ¬ x = 7) (x8 : ¬ x = 8) (x9 : ¬ x = 9) (x10 : ¬ x = 10) (hd : 3 ≤ d) : am_Ev (am_prog w) d 112 [.ref 1, .int x] h (fun r h' => r = some (.int (mqst x (I, Q, Z))) ∧ h' = h) := by
  obtain ⟨X, ow, sb, hS, hD, hB, hQ⟩ := hC
  change sm tbc h I X at hS
  change CD w 32 m0 h I Q Z X ow sb at hD
  change co h I ≤ B at hB
  change ∀ l, l < 16 → (Q l).length ≤ h.length at hQ
  have hW := hD.1.1
  have hWn : ∀ a, List.length h ≤ a → w a = true := fun a ha => (hD.1.2.1 a ha).1
  have hF1 := fr_refl tbc h
  have hln : 62 ≤ List.length h := sm_len hS
  obtain ⟨d, rfl⟩ : ∃ e, d = e + 1 := ⟨d - 1, by omega⟩
  refine ev_go rfl (Nat.le_of_ble_eq_true rfl) rfl ?_
  refine go_s (pc' := 1) rfl rfl rfl rfl ?_
  refine go_s (pc' := 2) rfl rfl rfl rfl ?_
  refine go_sget (pc' := 3) (v := .ref 32) hS rfl rfl rfl (by decide) rfl rfl ?_
  refine go_callV (pc' := 4) rfl rfl rfl (Nat.le_of_ble_eq_true rfl) rfl (sm_o hS rfl) rfl rfl rfl (ct_works_0 hS (hD.2.2.2.2.2.2 0 (by decide)) (by omega)) (fun r h2 q3 => ?_)
  obtain ⟨rfl, rfl⟩ := q3
  cases u4 : lv I 0
  · skip
    show am_Go _ _ _ _ 4 _ [.int 0] _ _
    refine go_ifP (t' := 7) (pc' := 5) rfl rfl rfl (fun (c : ¬ (0 : Int32) = 0) => absurd c (by decide)) (fun _ => ?_)
    refine go_s (pc' := 6) (st' := [.int (-1)]) rfl rfl rfl rfl ?_
    refine go_ret rfl rfl ?_
    exact ⟨by unfold mqst; rw [if_neg (by rw [show lv (I, Q, Z).1 0 = false from u4]; decide)], rfl⟩
  · skip
    show am_Go _ _ _ _ 4 _ [.int 1] _ _
    refine go_ifP (t' := 7) (pc' := 5) rfl rfl rfl (fun _ => ?_) (fun (c : ¬ (¬ (1 : Int32) = 0)) => absurd (by decide) c)
    have hv := u4
    obtain ⟨k208, kst, -⟩ := hD.2.2.2.2.1
    obtain ⟨ad, S, Y, k0, hA, k2, k3, k4, k5, hoa, hZ0, hWa, htc⟩ := St_open hD.1 (kst hv)
    rw [← k0] at k208
    obtain ⟨⟨Wl, w1, w2⟩, -⟩ := id k5
    have hsd := k4 (ad 0) _ _ (tbs_at hA (i := 0) (by decide))
    have hsw := k4 (ad 9) _ _ (tbs_at hA (i := 9) (by decide))
    refine go_s (pc' := 8) rfl rfl rfl rfl ?_
    refine go_tsw (t' := 48) rfl (Or.inl ⟨tsw_5_10 x5 x6 x7 x8 x9 x10, rfl⟩) rfl ?_
    refine go_s (pc' := 49) (st' := [.int (-1)]) rfl rfl rfl rfl ?_
    refine go_ret rfl rfl ?_
    exact ⟨by unfold mqst; rw [if_pos (show lv (I, Q, Z).1 0 = true from u4), if_neg x5, if_neg x6, if_neg x7, if_neg x8, if_neg x9, if_neg x10], rfl⟩
theorem ct_sf {w : Nat → Bool} {d : Nat} {h : am_Hp} {m0 : mg} {B : Nat} {I : sm_I} {Q : mQ} {Z : mZ} (hC : CA w 32 m0 B h (I, Q, Z)) (hB2 : B < 2 ^ 26) (hdo : lv I 0 = true → I 16 0 = 2 → ¬ (Z (rwi I 0)).1 3 = 0) {x : Int32} (hd : 3 ≤ d) : am_Ev (am_prog w) d 112 [.ref 1, .int x] h (fun r h' => r = some (.int (mqst x (I, Q, Z))) ∧ h' = h) := by
  by_cases x5 : x = 5
  · subst x5; exact ct_sf_5 hC hB2 hdo hd
  by_cases x6 : x = 6
  · subst x6; exact ct_sf_6 hC hB2 hdo hd
  by_cases x7 : x = 7
  · subst x7; exact ct_sf_7 hC hB2 hdo hd
  by_cases x8 : x = 8
  · subst x8; exact ct_sf_8 hC hB2 hdo hd
  by_cases x9 : x = 9
  · subst x9; exact ct_sf_9 hC hB2 hdo hd
  by_cases x10 : x = 10
  · subst x10; exact ct_sf_10 hC hB2 hdo hd
  exact ct_sf_n hC hB2 hdo x5 x6 x7 x8 x9 x10 hd
theorem ca_pr_0_0 {w : Nat → Bool} {d : Nat} {h : am_Hp} {m0 : mg} {B : Nat} {I : sm_I} {Q : mQ} {Z : mZ} (hC : CA w 32 m0 B h (I, Q, Z)) (hB2 : B < 2 ^ 26) (hinc : ∀ t, t < 2 → lv I (1 + t) = true → row1 (I, Q, Z) (1 + t) 11 = I 17 t) (hdo : lv I 0 = true → I 16 0 = 2 → ¬ (Z (rwi I 0)).1 3 = 0) (hbk : ∀ k, k < 3 → ¬ I 12 k = -1 → I 12 k = ohI I k) (hd : 4 ≤ d) : am_Ev (am_prog w) d 110 [.ref 1, .int 0, .int 0] h (fun r h' => r = some (.int (mqpr 0 0 (I, Q, Z))) ∧ h' = h) := by
  have hC0 := hC
  obtain ⟨X, ow, sb, hS, hD, hB, hQ⟩ := hC
  change sm tbc h I X at hS
  change CD w 32 m0 h I Q Z X ow sb at hD
  change co h I ≤ B at hB
  change ∀ l, l < 16 → (Q l).length ≤ h.length at hQ
  have hW := hD.1.1
  have hWn : ∀ a, List.length h ≤ a → w a = true := fun a ha => (hD.1.2.1 a ha).1
  have hF1 := fr_refl tbc h
  have hln : 62 ≤ List.length h := sm_len hS
  obtain ⟨d, rfl⟩ : ∃ e, d = e + 1 := ⟨d - 1, by omega⟩
  refine ev_go rfl (Nat.le_of_ble_eq_true rfl) rfl ?_
  refine go_s (pc' := 1) rfl rfl rfl rfl ?_
  refine go_s (pc' := 2) rfl rfl rfl rfl ?_
  refine go_sget (pc' := 3) (v := .ref 61) hS rfl rfl rfl (by decide) rfl rfl ?_
  refine go_salen (pc' := 4) (n := 3) hS rfl rfl rfl rfl ?_
  refine go_callS (pc' := 5) rfl rfl rfl (Nat.le_of_ble_eq_true rfl) rfl rfl rfl (ct_within_t (q := 0) (n := 3) (by decide) (by decide) (by omega)) (fun r h2 q3 => ?_)
  obtain ⟨rfl, rfl⟩ := q3
  refine go_ifP (t' := 8) (pc' := 6) rfl rfl rfl (fun _ => ?_) (fun (c : ¬ (¬ (1 : Int32) = 0)) => absurd (by decide) c)
  refine go_s (pc' := 9) rfl rfl rfl rfl ?_
  refine go_sget (pc' := 10) (v := .ref 61) hS rfl rfl rfl (by decide) rfl rfl ?_
  refine go_s (pc' := 11) rfl rfl rfl rfl ?_
  refine go_sald (pc' := 12) (q := 0) (v := .ref 32) hS rfl rfl rfl rfl (by decide) rfl rfl ?_
  refine go_s (pc' := 13) (lo' := [some (.ref 1), some (.int 0), some (.int 0), some (.ref 32), none]) rfl rfl rfl rfl ?_
  refine go_s (pc' := 14) rfl rfl rfl rfl ?_
  refine go_tsw (t' := 15) rfl (Or.inr ⟨by decide, rfl⟩) rfl ?_
  refine go_s (pc' := 16) rfl rfl rfl rfl ?_
  refine go_sget (pc' := 17) (v := .int (I 11 0)) hS rfl rfl rfl (by decide) rfl rfl ?_
  refine go_ret rfl rfl ?_
  exact ⟨rfl, rfl⟩
theorem ca_pr_0_1 {w : Nat → Bool} {d : Nat} {h : am_Hp} {m0 : mg} {B : Nat} {I : sm_I} {Q : mQ} {Z : mZ} (hC : CA w 32 m0 B h (I, Q, Z)) (hB2 : B < 2 ^ 26) (hinc : ∀ t, t < 2 → lv I (1 + t) = true → row1 (I, Q, Z) (1 + t) 11 = I 17 t) (hdo : lv I 0 = true → I 16 0 = 2 → ¬ (Z (rwi I 0)).1 3 = 0) (hbk : ∀ k, k < 3 → ¬ I 12 k = -1 → I 12 k = ohI I k) (hd : 4 ≤ d) : am_Ev (am_prog w) d 110 [.ref 1, .int 0, .int 1] h (fun r h' => r = some (.int (mqpr 0 1 (I, Q, Z))) ∧ h' = h) := by
  have hC0 := hC
  obtain ⟨X, ow, sb, hS, hD, hB, hQ⟩ := hC
  change sm tbc h I X at hS
  change CD w 32 m0 h I Q Z X ow sb at hD
  change co h I ≤ B at hB
  change ∀ l, l < 16 → (Q l).length ≤ h.length at hQ
  have hW := hD.1.1
  have hWn : ∀ a, List.length h ≤ a → w a = true := fun a ha => (hD.1.2.1 a ha).1
  have hF1 := fr_refl tbc h
  have hln : 62 ≤ List.length h := sm_len hS
  obtain ⟨d, rfl⟩ : ∃ e, d = e + 1 := ⟨d - 1, by omega⟩
  refine ev_go rfl (Nat.le_of_ble_eq_true rfl) rfl ?_
  have h207 := hD.2.2.2.1.2.2 0 (by decide)
  by_cases b12 : I 12 0 = -1
  · skip
    rw [if_pos b12] at h207
    refine go_s (pc' := 1) rfl rfl rfl rfl ?_
    refine go_s (pc' := 2) rfl rfl rfl rfl ?_
    refine go_sget (pc' := 3) (v := .ref 61) hS rfl rfl rfl (by decide) rfl rfl ?_
    refine go_salen (pc' := 4) (n := 3) hS rfl rfl rfl rfl ?_
    refine go_callS (pc' := 5) rfl rfl rfl (Nat.le_of_ble_eq_true rfl) rfl rfl rfl (ct_within_t (q := 0) (n := 3) (by decide) (by decide) (by omega)) (fun r h2 q3 => ?_)
    obtain ⟨rfl, rfl⟩ := q3
    refine go_ifP (t' := 8) (pc' := 6) rfl rfl rfl (fun _ => ?_) (fun (c : ¬ (¬ (1 : Int32) = 0)) => absurd (by decide) c)
    refine go_s (pc' := 9) rfl rfl rfl rfl ?_
    refine go_sget (pc' := 10) (v := .ref 61) hS rfl rfl rfl (by decide) rfl rfl ?_
    refine go_s (pc' := 11) rfl rfl rfl rfl ?_
    refine go_sald (pc' := 12) (q := 0) (v := .ref 32) hS rfl rfl rfl rfl (by decide) rfl rfl ?_
    refine go_s (pc' := 13) (lo' := [some (.ref 1), some (.int 0), some (.int 1), some (.ref 32), none]) rfl rfl rfl rfl ?_
    refine go_s (pc' := 14) rfl rfl rfl rfl ?_
    refine go_tsw (t' := 18) rfl (Or.inr ⟨by decide, rfl⟩) rfl ?_
    refine go_s (pc' := 19) rfl rfl rfl rfl ?_
    refine go_sget (pc' := 20) (v := .int 0) hS rfl rfl rfl (by decide) h207 rfl ?_
    refine go_ifP (t' := 24) (pc' := 21) rfl rfl rfl (fun _ => ?_) (fun (c : ¬ ((0 : Int32) = 0)) => absurd (by decide) c)
    refine go_s (pc' := 25) (st' := [.int (-1)]) rfl rfl rfl rfl ?_
    refine go_ret rfl rfl ?_
    exact ⟨by show _ = some (Value.int (I 12 0)); rw [b12], rfl⟩
  · skip
    rw [if_neg b12] at h207
    refine go_s (pc' := 1) rfl rfl rfl rfl ?_
    refine go_s (pc' := 2) rfl rfl rfl rfl ?_
    refine go_sget (pc' := 3) (v := .ref 61) hS rfl rfl rfl (by decide) rfl rfl ?_
    refine go_salen (pc' := 4) (n := 3) hS rfl rfl rfl rfl ?_
    refine go_callS (pc' := 5) rfl rfl rfl (Nat.le_of_ble_eq_true rfl) rfl rfl rfl (ct_within_t (q := 0) (n := 3) (by decide) (by decide) (by omega)) (fun r h4 q5 => ?_)
    obtain ⟨rfl, rfl⟩ := q5
    refine go_ifP (t' := 8) (pc' := 6) rfl rfl rfl (fun _ => ?_) (fun (c : ¬ (¬ (1 : Int32) = 0)) => absurd (by decide) c)
    refine go_s (pc' := 9) rfl rfl rfl rfl ?_
    refine go_sget (pc' := 10) (v := .ref 61) hS rfl rfl rfl (by decide) rfl rfl ?_
    refine go_s (pc' := 11) rfl rfl rfl rfl ?_
    refine go_sald (pc' := 12) (q := 0) (v := .ref 32) hS rfl rfl rfl rfl (by decide) rfl rfl ?_
    refine go_s (pc' := 13) (lo' := [some (.ref 1), some (.int 0), some (.int 1), some (.ref 32), none]) rfl rfl rfl rfl ?_
    refine go_s (pc' := 14) rfl rfl rfl rfl ?_
    refine go_tsw (t' := 18) rfl (Or.inr ⟨by decide, rfl⟩) rfl ?_
    refine go_s (pc' := 19) rfl rfl rfl rfl ?_
    refine go_sget (pc' := 20) (v := .int 1) hS rfl rfl rfl (by decide) h207 rfl ?_
    refine go_ifP (t' := 24) (pc' := 21) rfl rfl rfl (fun (c : (1 : Int32) = 0) => absurd c (by decide)) (fun _ => ?_)
    refine go_s (pc' := 22) rfl rfl rfl rfl ?_
    refine go_callV (pc' := 23) rfl rfl rfl (Nat.le_of_ble_eq_true rfl) rfl (sm_o hS rfl) rfl rfl rfl (ct_oh_0 hS (by omega)) (fun r h6 q7 => ?_)
    obtain ⟨rfl, rfl⟩ := q7
    refine go_s (pc' := 25) rfl rfl rfl rfl ?_
    refine go_ret rfl rfl ?_
    exact ⟨by show _ = some (Value.int (I 12 0)); rw [hbk 0 (by decide) b12], rfl⟩
theorem ca_pr_0_2 {w : Nat → Bool} {d : Nat} {h : am_Hp} {m0 : mg} {B : Nat} {I : sm_I} {Q : mQ} {Z : mZ} (hC : CA w 32 m0 B h (I, Q, Z)) (hB2 : B < 2 ^ 26) (hinc : ∀ t, t < 2 → lv I (1 + t) = true → row1 (I, Q, Z) (1 + t) 11 = I 17 t) (hdo : lv I 0 = true → I 16 0 = 2 → ¬ (Z (rwi I 0)).1 3 = 0) (hbk : ∀ k, k < 3 → ¬ I 12 k = -1 → I 12 k = ohI I k) (hd : 4 ≤ d) : am_Ev (am_prog w) d 110 [.ref 1, .int 0, .int 2] h (fun r h' => r = some (.int (mqpr 0 2 (I, Q, Z))) ∧ h' = h) := by
  have hC0 := hC
  obtain ⟨X, ow, sb, hS, hD, hB, hQ⟩ := hC
  change sm tbc h I X at hS
  change CD w 32 m0 h I Q Z X ow sb at hD
  change co h I ≤ B at hB
  change ∀ l, l < 16 → (Q l).length ≤ h.length at hQ
  have hW := hD.1.1
  have hWn : ∀ a, List.length h ≤ a → w a = true := fun a ha => (hD.1.2.1 a ha).1
  have hF1 := fr_refl tbc h
  have hln : 62 ≤ List.length h := sm_len hS
  obtain ⟨d, rfl⟩ : ∃ e, d = e + 1 := ⟨d - 1, by omega⟩
  refine ev_go rfl (Nat.le_of_ble_eq_true rfl) rfl ?_
  refine go_s (pc' := 1) rfl rfl rfl rfl ?_
  refine go_s (pc' := 2) rfl rfl rfl rfl ?_
  refine go_sget (pc' := 3) (v := .ref 61) hS rfl rfl rfl (by decide) rfl rfl ?_
  refine go_salen (pc' := 4) (n := 3) hS rfl rfl rfl rfl ?_
  refine go_callS (pc' := 5) rfl rfl rfl (Nat.le_of_ble_eq_true rfl) rfl rfl rfl (ct_within_t (q := 0) (n := 3) (by decide) (by decide) (by omega)) (fun r h2 q3 => ?_)
  obtain ⟨rfl, rfl⟩ := q3
  refine go_ifP (t' := 8) (pc' := 6) rfl rfl rfl (fun _ => ?_) (fun (c : ¬ (¬ (1 : Int32) = 0)) => absurd (by decide) c)
  refine go_s (pc' := 9) rfl rfl rfl rfl ?_
  refine go_sget (pc' := 10) (v := .ref 61) hS rfl rfl rfl (by decide) rfl rfl ?_
  refine go_s (pc' := 11) rfl rfl rfl rfl ?_
  refine go_sald (pc' := 12) (q := 0) (v := .ref 32) hS rfl rfl rfl rfl (by decide) rfl rfl ?_
  refine go_s (pc' := 13) (lo' := [some (.ref 1), some (.int 0), some (.int 2), some (.ref 32), none]) rfl rfl rfl rfl ?_
  refine go_s (pc' := 14) rfl rfl rfl rfl ?_
  refine go_tsw (t' := 26) rfl (Or.inr ⟨by decide, rfl⟩) rfl ?_
  refine go_s (pc' := 27) rfl rfl rfl rfl ?_
  refine go_sget (pc' := 28) (v := .int (I 13 0)) hS rfl rfl rfl (by decide) rfl rfl ?_
  refine go_ifP (t' := 31) (pc' := 29) rfl rfl rfl (fun (c4 : (I 13 0) = 0) => ?_) (fun (c4 : ¬ (I 13 0) = 0) => ?_)
  · skip
    refine go_s (pc' := 32) (st' := [.int 0]) rfl rfl rfl rfl ?_
    refine go_ret rfl rfl ?_
    exact ⟨by show _ = some (Value.int (bI (I 13 0))); simp [bI, c4], rfl⟩
  · skip
    refine go_s (pc' := 30) (st' := [.int 1]) rfl rfl rfl rfl ?_
    refine go_s (pc' := 32) rfl rfl rfl rfl ?_
    refine go_ret rfl rfl ?_
    exact ⟨by show _ = some (Value.int (bI (I 13 0))); simp [bI, c4], rfl⟩
theorem ca_pr_0_3 {w : Nat → Bool} {d : Nat} {h : am_Hp} {m0 : mg} {B : Nat} {I : sm_I} {Q : mQ} {Z : mZ} (hC : CA w 32 m0 B h (I, Q, Z)) (hB2 : B < 2 ^ 26) (hinc : ∀ t, t < 2 → lv I (1 + t) = true → row1 (I, Q, Z) (1 + t) 11 = I 17 t) (hdo : lv I 0 = true → I 16 0 = 2 → ¬ (Z (rwi I 0)).1 3 = 0) (hbk : ∀ k, k < 3 → ¬ I 12 k = -1 → I 12 k = ohI I k) (hd : 4 ≤ d) : am_Ev (am_prog w) d 110 [.ref 1, .int 0, .int 3] h (fun r h' => r = some (.int (mqpr 0 3 (I, Q, Z))) ∧ h' = h) := by
  have hC0 := hC
  obtain ⟨X, ow, sb, hS, hD, hB, hQ⟩ := hC
  change sm tbc h I X at hS
  change CD w 32 m0 h I Q Z X ow sb at hD
  change co h I ≤ B at hB
  change ∀ l, l < 16 → (Q l).length ≤ h.length at hQ
  have hW := hD.1.1
  have hWn : ∀ a, List.length h ≤ a → w a = true := fun a ha => (hD.1.2.1 a ha).1
  have hF1 := fr_refl tbc h
  have hln : 62 ≤ List.length h := sm_len hS
  obtain ⟨d, rfl⟩ : ∃ e, d = e + 1 := ⟨d - 1, by omega⟩
  refine ev_go rfl (Nat.le_of_ble_eq_true rfl) rfl ?_
  refine go_s (pc' := 1) rfl rfl rfl rfl ?_
  refine go_s (pc' := 2) rfl rfl rfl rfl ?_
  refine go_sget (pc' := 3) (v := .ref 61) hS rfl rfl rfl (by decide) rfl rfl ?_
  refine go_salen (pc' := 4) (n := 3) hS rfl rfl rfl rfl ?_
  refine go_callS (pc' := 5) rfl rfl rfl (Nat.le_of_ble_eq_true rfl) rfl rfl rfl (ct_within_t (q := 0) (n := 3) (by decide) (by decide) (by omega)) (fun r h2 q3 => ?_)
  obtain ⟨rfl, rfl⟩ := q3
  refine go_ifP (t' := 8) (pc' := 6) rfl rfl rfl (fun _ => ?_) (fun (c : ¬ (¬ (1 : Int32) = 0)) => absurd (by decide) c)
  refine go_s (pc' := 9) rfl rfl rfl rfl ?_
  refine go_sget (pc' := 10) (v := .ref 61) hS rfl rfl rfl (by decide) rfl rfl ?_
  refine go_s (pc' := 11) rfl rfl rfl rfl ?_
  refine go_sald (pc' := 12) (q := 0) (v := .ref 32) hS rfl rfl rfl rfl (by decide) rfl rfl ?_
  refine go_s (pc' := 13) (lo' := [some (.ref 1), some (.int 0), some (.int 3), some (.ref 32), none]) rfl rfl rfl rfl ?_
  refine go_s (pc' := 14) rfl rfl rfl rfl ?_
  refine go_tsw (t' := 33) rfl (Or.inr ⟨by decide, rfl⟩) rfl ?_
  refine go_s (pc' := 34) rfl rfl rfl rfl ?_
  refine go_s (pc' := 35) rfl rfl rfl rfl ?_
  refine go_callV (pc' := 36) rfl rfl rfl (Nat.le_of_ble_eq_true rfl) rfl (sm_o hS rfl) rfl rfl rfl (ct_works_0 hS (hD.2.2.2.2.2.2 0 (by decide)) (by omega)) (fun r h4 q5 => ?_)
  obtain ⟨rfl, rfl⟩ := q5
  cases u6 : lv I 0
  · skip
    show am_Go _ _ _ _ 36 _ [.int 0] _ _
    refine go_ifP (t' := 40) (pc' := 37) rfl rfl rfl (fun _ => ?_) (fun (c : ¬ ((0 : Int32) = 0)) => absurd (by decide) c)
    refine go_s (pc' := 41) (st' := [.int (-1)]) rfl rfl rfl rfl ?_
    refine go_ret rfl rfl ?_
    exact ⟨by show _ = some (Value.int (if lv I 0 = true then I 16 0 else -1)); rw [if_neg (by rw [u6]; decide)], rfl⟩
  · skip
    show am_Go _ _ _ _ 36 _ [.int 1] _ _
    refine go_ifP (t' := 40) (pc' := 37) rfl rfl rfl (fun (c : (1 : Int32) = 0) => absurd c (by decide)) (fun _ => ?_)
    refine go_s (pc' := 38) rfl rfl rfl rfl ?_
    refine go_sget (pc' := 39) (v := .int (I 16 0)) hS rfl rfl rfl (by decide) rfl rfl ?_
    refine go_s (pc' := 41) rfl rfl rfl rfl ?_
    refine go_ret rfl rfl ?_
    exact ⟨by show _ = some (Value.int (if lv I 0 = true then I 16 0 else -1)); rw [if_pos u6], rfl⟩
theorem ca_pr_0_4 {w : Nat → Bool} {d : Nat} {h : am_Hp} {m0 : mg} {B : Nat} {I : sm_I} {Q : mQ} {Z : mZ} (hC : CA w 32 m0 B h (I, Q, Z)) (hB2 : B < 2 ^ 26) (hinc : ∀ t, t < 2 → lv I (1 + t) = true → row1 (I, Q, Z) (1 + t) 11 = I 17 t) (hdo : lv I 0 = true → I 16 0 = 2 → ¬ (Z (rwi I 0)).1 3 = 0) (hbk : ∀ k, k < 3 → ¬ I 12 k = -1 → I 12 k = ohI I k) (hd : 4 ≤ d) : am_Ev (am_prog w) d 110 [.ref 1, .int 0, .int 4] h (fun r h' => r = some (.int (mqpr 0 4 (I, Q, Z))) ∧ h' = h) := by
  have hC0 := hC
  obtain ⟨X, ow, sb, hS, hD, hB, hQ⟩ := hC
  change sm tbc h I X at hS
  change CD w 32 m0 h I Q Z X ow sb at hD
  change co h I ≤ B at hB
  change ∀ l, l < 16 → (Q l).length ≤ h.length at hQ
  have hW := hD.1.1
  have hWn : ∀ a, List.length h ≤ a → w a = true := fun a ha => (hD.1.2.1 a ha).1
  have hF1 := fr_refl tbc h
  have hln : 62 ≤ List.length h := sm_len hS
  obtain ⟨d, rfl⟩ : ∃ e, d = e + 1 := ⟨d - 1, by omega⟩
  refine ev_go rfl (Nat.le_of_ble_eq_true rfl) rfl ?_
  refine go_s (pc' := 1) rfl rfl rfl rfl ?_
  refine go_s (pc' := 2) rfl rfl rfl rfl ?_
  refine go_sget (pc' := 3) (v := .ref 61) hS rfl rfl rfl (by decide) rfl rfl ?_
  refine go_salen (pc' := 4) (n := 3) hS rfl rfl rfl rfl ?_
  refine go_callS (pc' := 5) rfl rfl rfl (Nat.le_of_ble_eq_true rfl) rfl rfl rfl (ct_within_t (q := 0) (n := 3) (by decide) (by decide) (by omega)) (fun r h2 q3 => ?_)
  obtain ⟨rfl, rfl⟩ := q3
  refine go_ifP (t' := 8) (pc' := 6) rfl rfl rfl (fun _ => ?_) (fun (c : ¬ (¬ (1 : Int32) = 0)) => absurd (by decide) c)
  refine go_s (pc' := 9) rfl rfl rfl rfl ?_
  refine go_sget (pc' := 10) (v := .ref 61) hS rfl rfl rfl (by decide) rfl rfl ?_
  refine go_s (pc' := 11) rfl rfl rfl rfl ?_
  refine go_sald (pc' := 12) (q := 0) (v := .ref 32) hS rfl rfl rfl rfl (by decide) rfl rfl ?_
  refine go_s (pc' := 13) (lo' := [some (.ref 1), some (.int 0), some (.int 4), some (.ref 32), none]) rfl rfl rfl rfl ?_
  refine go_s (pc' := 14) rfl rfl rfl rfl ?_
  refine go_tsw (t' := 42) rfl (Or.inr ⟨by decide, rfl⟩) rfl ?_
  refine go_s (pc' := 43) rfl rfl rfl rfl ?_
  refine go_sget (pc' := 44) (v := .int (I 15 0)) hS rfl rfl rfl (by decide) rfl rfl ?_
  refine go_ret rfl rfl ?_
  exact ⟨rfl, rfl⟩
theorem ca_pr_0_n {w : Nat → Bool} {d : Nat} {h : am_Hp} {m0 : mg} {B : Nat} {I : sm_I} {Q : mQ} {Z : mZ} (hC : CA w 32 m0 B h (I, Q, Z)) (hB2 : B < 2 ^ 26) (hinc : ∀ t, t < 2 → lv I (1 + t) = true → row1 (I, Q, Z) (1 + t) 11 = I 17 t) (hdo : lv I 0 = true → I 16 0 = 2 → ¬ (Z (rwi I 0)).1 3 = 0) (hbk : ∀ k, k < 3 → ¬ I 12 k = -1 → I 12 k = ohI I k) {x : Int32} (x0 : ¬ x = 0) (x1 : ¬ x = 1) (x2 : ¬ x = 2) (x3 : ¬ x = 3) (x4 : ¬ x = 4) (hd : 4 ≤ d) : am_Ev (am_prog w) d 110 [.ref 1, .int 0, .int x] h (fun r h' => r = some (.int (mqpr 0 x (I, Q, Z))) ∧ h' = h) := by
  have hC0 := hC
  obtain ⟨X, ow, sb, hS, hD, hB, hQ⟩ := hC
  change sm tbc h I X at hS
  change CD w 32 m0 h I Q Z X ow sb at hD
  change co h I ≤ B at hB
  change ∀ l, l < 16 → (Q l).length ≤ h.length at hQ
  have hW := hD.1.1
  have hWn : ∀ a, List.length h ≤ a → w a = true := fun a ha => (hD.1.2.1 a ha).1
  have hF1 := fr_refl tbc h
  have hln : 62 ≤ List.length h := sm_len hS
  obtain ⟨d, rfl⟩ : ∃ e, d = e + 1 := ⟨d - 1, by omega⟩
  refine ev_go rfl (Nat.le_of_ble_eq_true rfl) rfl ?_
  refine go_s (pc' := 1) rfl rfl rfl rfl ?_
  refine go_s (pc' := 2) rfl rfl rfl rfl ?_
  refine go_sget (pc' := 3) (v := .ref 61) hS rfl rfl rfl (by decide) rfl rfl ?_
  refine go_salen (pc' := 4) (n := 3) hS rfl rfl rfl rfl ?_
  refine go_callS (pc' := 5) rfl rfl rfl (Nat.le_of_ble_eq_true rfl) rfl rfl rfl (ct_within_t (q := 0) (n := 3) (by decide) (by decide) (by omega)) (fun r h2 q3 => ?_)
  obtain ⟨rfl, rfl⟩ := q3
  refine go_ifP (t' := 8) (pc' := 6) rfl rfl rfl (fun _ => ?_) (fun (c : ¬ (¬ (1 : Int32) = 0)) => absurd (by decide) c)
  refine go_s (pc' := 9) rfl rfl rfl rfl ?_
  refine go_sget (pc' := 10) (v := .ref 61) hS rfl rfl rfl (by decide) rfl rfl ?_
  refine go_s (pc' := 11) rfl rfl rfl rfl ?_
  refine go_sald (pc' := 12) (q := 0) (v := .ref 32) hS rfl rfl rfl rfl (by decide) rfl rfl ?_
  refine go_s (pc' := 13) (lo' := [some (.ref 1), some (.int 0), some (.int x), some (.ref 32), none]) rfl rfl rfl rfl ?_
  refine go_s (pc' := 14) rfl rfl rfl rfl ?_
  refine go_tsw (t' := 45) rfl (Or.inl ⟨tsw_0_4 x0 x1 x2 x3 x4, rfl⟩) rfl ?_
  refine go_s (pc' := 46) rfl rfl rfl rfl ?_
  refine go_instF (pc' := 47) rfl (sm_o hS rfl) rfl (by decide) (by decide) rfl ?_
  refine go_ifP (t' := 56) (pc' := 48) rfl rfl rfl (fun _ => ?_) (fun (c : ¬ ((0 : Int32) = 0)) => absurd (by decide) c)
  refine go_s (pc' := 57) rfl rfl rfl rfl ?_
  refine go_s (pc' := 58) rfl rfl rfl rfl ?_
  have hC1 : CA w 32 m0 B h2 (I, Q, Z) := ⟨X, ow, sb, hS, hD, hB, hQ⟩
  refine go_callV (pc' := 59) rfl rfl rfl (Nat.le_of_ble_eq_true rfl) rfl (sm_o hS rfl) rfl rfl rfl (ct_sf hC1 hB2 hdo (by omega)) (fun r h4 q5 => ?_)
  obtain ⟨rfl, rfl⟩ := q5
  refine go_ret rfl rfl ?_
  exact ⟨by unfold mqpr; rw [if_neg x0, if_neg x1, if_neg x2, if_neg x3, if_neg x4]; rfl, rfl⟩
theorem ca_pr_0 {w : Nat → Bool} {d : Nat} {h : am_Hp} {m0 : mg} {B : Nat} {I : sm_I} {Q : mQ} {Z : mZ} (hC : CA w 32 m0 B h (I, Q, Z)) (hB2 : B < 2 ^ 26) (hinc : ∀ t, t < 2 → lv I (1 + t) = true → row1 (I, Q, Z) (1 + t) 11 = I 17 t) (hdo : lv I 0 = true → I 16 0 = 2 → ¬ (Z (rwi I 0)).1 3 = 0) (hbk : ∀ k, k < 3 → ¬ I 12 k = -1 → I 12 k = ohI I k) {x : Int32} (hd : 4 ≤ d) : am_Ev (am_prog w) d 110 [.ref 1, .int 0, .int x] h (fun r h' => r = some (.int (mqpr 0 x (I, Q, Z))) ∧ h' = h) := by
  by_cases x0 : x = 0
  · subst x0; exact ca_pr_0_0 hC hB2 hinc hdo hbk hd
  by_cases x1 : x = 1
  · subst x1; exact ca_pr_0_1 hC hB2 hinc hdo hbk hd
  by_cases x2 : x = 2
  · subst x2; exact ca_pr_0_2 hC hB2 hinc hdo hbk hd
  by_cases x3 : x = 3
  · subst x3; exact ca_pr_0_3 hC hB2 hinc hdo hbk hd
  by_cases x4 : x = 4
  · subst x4; exact ca_pr_0_4 hC hB2 hinc hdo hbk hd
  exact ca_pr_0_n hC hB2 hinc hdo hbk x0 x1 x2 x3 x4 hd
theorem ca_pr_1_0 {w : Nat → Bool} {d : Nat} {h : am_Hp} {m0 : mg} {B : Nat} {I : sm_I} {Q : mQ} {Z : mZ} (hC : CA w 32 m0 B h (I, Q, Z)) (hB2 : B < 2 ^ 26) (hinc : ∀ t, t < 2 → lv I (1 + t) = true → row1 (I, Q, Z) (1 + t) 11 = I 17 t) (hdo : lv I 0 = true → I 16 0 = 2 → ¬ (Z (rwi I 0)).1 3 = 0) (hbk : ∀ k, k < 3 → ¬ I 12 k = -1 → I 12 k = ohI I k) (hd : 4 ≤ d) : am_Ev (am_prog w) d 110 [.ref 1, .int 1, .int 0] h (fun r h' => r = some (.int (mqpr 1 0 (I, Q, Z))) ∧ h' = h) := by
  have hC0 := hC
  obtain ⟨X, ow, sb, hS, hD, hB, hQ⟩ := hC
  change sm tbc h I X at hS
  change CD w 32 m0 h I Q Z X ow sb at hD
  change co h I ≤ B at hB
  change ∀ l, l < 16 → (Q l).length ≤ h.length at hQ
  have hW := hD.1.1
  have hWn : ∀ a, List.length h ≤ a → w a = true := fun a ha => (hD.1.2.1 a ha).1
  have hF1 := fr_refl tbc h
  have hln : 62 ≤ List.length h := sm_len hS
  obtain ⟨d, rfl⟩ : ∃ e, d = e + 1 := ⟨d - 1, by omega⟩
  refine ev_go rfl (Nat.le_of_ble_eq_true rfl) rfl ?_
  refine go_s (pc' := 1) rfl rfl rfl rfl ?_
  refine go_s (pc' := 2) rfl rfl rfl rfl ?_
  refine go_sget (pc' := 3) (v := .ref 61) hS rfl rfl rfl (by decide) rfl rfl ?_
  refine go_salen (pc' := 4) (n := 3) hS rfl rfl rfl rfl ?_
  refine go_callS (pc' := 5) rfl rfl rfl (Nat.le_of_ble_eq_true rfl) rfl rfl rfl (ct_within_t (q := 1) (n := 3) (by decide) (by decide) (by omega)) (fun r h2 q3 => ?_)
  obtain ⟨rfl, rfl⟩ := q3
  refine go_ifP (t' := 8) (pc' := 6) rfl rfl rfl (fun _ => ?_) (fun (c : ¬ (¬ (1 : Int32) = 0)) => absurd (by decide) c)
  refine go_s (pc' := 9) rfl rfl rfl rfl ?_
  refine go_sget (pc' := 10) (v := .ref 61) hS rfl rfl rfl (by decide) rfl rfl ?_
  refine go_s (pc' := 11) rfl rfl rfl rfl ?_
  refine go_sald (pc' := 12) (q := 1) (v := .ref 59) hS rfl rfl rfl rfl (by decide) rfl rfl ?_
  refine go_s (pc' := 13) (lo' := [some (.ref 1), some (.int 1), some (.int 0), some (.ref 59), none]) rfl rfl rfl rfl ?_
  refine go_s (pc' := 14) rfl rfl rfl rfl ?_
  refine go_tsw (t' := 15) rfl (Or.inr ⟨by decide, rfl⟩) rfl ?_
  refine go_s (pc' := 16) rfl rfl rfl rfl ?_
  refine go_sget (pc' := 17) (v := .int (I 11 1)) hS rfl rfl rfl (by decide) rfl rfl ?_
  refine go_ret rfl rfl ?_
  exact ⟨rfl, rfl⟩
theorem ca_pr_1_1 {w : Nat → Bool} {d : Nat} {h : am_Hp} {m0 : mg} {B : Nat} {I : sm_I} {Q : mQ} {Z : mZ} (hC : CA w 32 m0 B h (I, Q, Z)) (hB2 : B < 2 ^ 26) (hinc : ∀ t, t < 2 → lv I (1 + t) = true → row1 (I, Q, Z) (1 + t) 11 = I 17 t) (hdo : lv I 0 = true → I 16 0 = 2 → ¬ (Z (rwi I 0)).1 3 = 0) (hbk : ∀ k, k < 3 → ¬ I 12 k = -1 → I 12 k = ohI I k) (hd : 4 ≤ d) : am_Ev (am_prog w) d 110 [.ref 1, .int 1, .int 1] h (fun r h' => r = some (.int (mqpr 1 1 (I, Q, Z))) ∧ h' = h) := by
  have hC0 := hC
  obtain ⟨X, ow, sb, hS, hD, hB, hQ⟩ := hC
  change sm tbc h I X at hS
  change CD w 32 m0 h I Q Z X ow sb at hD
  change co h I ≤ B at hB
  change ∀ l, l < 16 → (Q l).length ≤ h.length at hQ
  have hW := hD.1.1
  have hWn : ∀ a, List.length h ≤ a → w a = true := fun a ha => (hD.1.2.1 a ha).1
  have hF1 := fr_refl tbc h
  have hln : 62 ≤ List.length h := sm_len hS
  obtain ⟨d, rfl⟩ : ∃ e, d = e + 1 := ⟨d - 1, by omega⟩
  refine ev_go rfl (Nat.le_of_ble_eq_true rfl) rfl ?_
  have h207 := hD.2.2.2.1.2.2 1 (by decide)
  by_cases b12 : I 12 1 = -1
  · skip
    rw [if_pos b12] at h207
    refine go_s (pc' := 1) rfl rfl rfl rfl ?_
    refine go_s (pc' := 2) rfl rfl rfl rfl ?_
    refine go_sget (pc' := 3) (v := .ref 61) hS rfl rfl rfl (by decide) rfl rfl ?_
    refine go_salen (pc' := 4) (n := 3) hS rfl rfl rfl rfl ?_
    refine go_callS (pc' := 5) rfl rfl rfl (Nat.le_of_ble_eq_true rfl) rfl rfl rfl (ct_within_t (q := 1) (n := 3) (by decide) (by decide) (by omega)) (fun r h2 q3 => ?_)
    obtain ⟨rfl, rfl⟩ := q3
    refine go_ifP (t' := 8) (pc' := 6) rfl rfl rfl (fun _ => ?_) (fun (c : ¬ (¬ (1 : Int32) = 0)) => absurd (by decide) c)
    refine go_s (pc' := 9) rfl rfl rfl rfl ?_
    refine go_sget (pc' := 10) (v := .ref 61) hS rfl rfl rfl (by decide) rfl rfl ?_
    refine go_s (pc' := 11) rfl rfl rfl rfl ?_
    refine go_sald (pc' := 12) (q := 1) (v := .ref 59) hS rfl rfl rfl rfl (by decide) rfl rfl ?_
    refine go_s (pc' := 13) (lo' := [some (.ref 1), some (.int 1), some (.int 1), some (.ref 59), none]) rfl rfl rfl rfl ?_
    refine go_s (pc' := 14) rfl rfl rfl rfl ?_
    refine go_tsw (t' := 18) rfl (Or.inr ⟨by decide, rfl⟩) rfl ?_
    refine go_s (pc' := 19) rfl rfl rfl rfl ?_
    refine go_sget (pc' := 20) (v := .int 0) hS rfl rfl rfl (by decide) h207 rfl ?_
    refine go_ifP (t' := 24) (pc' := 21) rfl rfl rfl (fun _ => ?_) (fun (c : ¬ ((0 : Int32) = 0)) => absurd (by decide) c)
    refine go_s (pc' := 25) (st' := [.int (-1)]) rfl rfl rfl rfl ?_
    refine go_ret rfl rfl ?_
    exact ⟨by show _ = some (Value.int (I 12 1)); rw [b12], rfl⟩
  · skip
    rw [if_neg b12] at h207
    refine go_s (pc' := 1) rfl rfl rfl rfl ?_
    refine go_s (pc' := 2) rfl rfl rfl rfl ?_
    refine go_sget (pc' := 3) (v := .ref 61) hS rfl rfl rfl (by decide) rfl rfl ?_
    refine go_salen (pc' := 4) (n := 3) hS rfl rfl rfl rfl ?_
    refine go_callS (pc' := 5) rfl rfl rfl (Nat.le_of_ble_eq_true rfl) rfl rfl rfl (ct_within_t (q := 1) (n := 3) (by decide) (by decide) (by omega)) (fun r h4 q5 => ?_)
    obtain ⟨rfl, rfl⟩ := q5
    refine go_ifP (t' := 8) (pc' := 6) rfl rfl rfl (fun _ => ?_) (fun (c : ¬ (¬ (1 : Int32) = 0)) => absurd (by decide) c)
    refine go_s (pc' := 9) rfl rfl rfl rfl ?_
    refine go_sget (pc' := 10) (v := .ref 61) hS rfl rfl rfl (by decide) rfl rfl ?_
    refine go_s (pc' := 11) rfl rfl rfl rfl ?_
    refine go_sald (pc' := 12) (q := 1) (v := .ref 59) hS rfl rfl rfl rfl (by decide) rfl rfl ?_
    refine go_s (pc' := 13) (lo' := [some (.ref 1), some (.int 1), some (.int 1), some (.ref 59), none]) rfl rfl rfl rfl ?_
    refine go_s (pc' := 14) rfl rfl rfl rfl ?_
    refine go_tsw (t' := 18) rfl (Or.inr ⟨by decide, rfl⟩) rfl ?_
    refine go_s (pc' := 19) rfl rfl rfl rfl ?_
    refine go_sget (pc' := 20) (v := .int 1) hS rfl rfl rfl (by decide) h207 rfl ?_
    refine go_ifP (t' := 24) (pc' := 21) rfl rfl rfl (fun (c : (1 : Int32) = 0) => absurd c (by decide)) (fun _ => ?_)
    refine go_s (pc' := 22) rfl rfl rfl rfl ?_
    refine go_callV (pc' := 23) rfl rfl rfl (Nat.le_of_ble_eq_true rfl) rfl (sm_o hS rfl) rfl rfl rfl (ct_oh_1 hS (by omega)) (fun r h6 q7 => ?_)
    obtain ⟨rfl, rfl⟩ := q7
    refine go_s (pc' := 25) rfl rfl rfl rfl ?_
    refine go_ret rfl rfl ?_
    exact ⟨by show _ = some (Value.int (I 12 1)); rw [hbk 1 (by decide) b12], rfl⟩
theorem ca_pr_1_2 {w : Nat → Bool} {d : Nat} {h : am_Hp} {m0 : mg} {B : Nat} {I : sm_I} {Q : mQ} {Z : mZ} (hC : CA w 32 m0 B h (I, Q, Z)) (hB2 : B < 2 ^ 26) (hinc : ∀ t, t < 2 → lv I (1 + t) = true → row1 (I, Q, Z) (1 + t) 11 = I 17 t) (hdo : lv I 0 = true → I 16 0 = 2 → ¬ (Z (rwi I 0)).1 3 = 0) (hbk : ∀ k, k < 3 → ¬ I 12 k = -1 → I 12 k = ohI I k) (hd : 4 ≤ d) : am_Ev (am_prog w) d 110 [.ref 1, .int 1, .int 2] h (fun r h' => r = some (.int (mqpr 1 2 (I, Q, Z))) ∧ h' = h) := by
  have hC0 := hC
  obtain ⟨X, ow, sb, hS, hD, hB, hQ⟩ := hC
  change sm tbc h I X at hS
  change CD w 32 m0 h I Q Z X ow sb at hD
  change co h I ≤ B at hB
  change ∀ l, l < 16 → (Q l).length ≤ h.length at hQ
  have hW := hD.1.1
  have hWn : ∀ a, List.length h ≤ a → w a = true := fun a ha => (hD.1.2.1 a ha).1
  have hF1 := fr_refl tbc h
  have hln : 62 ≤ List.length h := sm_len hS
  obtain ⟨d, rfl⟩ : ∃ e, d = e + 1 := ⟨d - 1, by omega⟩
  refine ev_go rfl (Nat.le_of_ble_eq_true rfl) rfl ?_
  refine go_s (pc' := 1) rfl rfl rfl rfl ?_
  refine go_s (pc' := 2) rfl rfl rfl rfl ?_
  refine go_sget (pc' := 3) (v := .ref 61) hS rfl rfl rfl (by decide) rfl rfl ?_
  refine go_salen (pc' := 4) (n := 3) hS rfl rfl rfl rfl ?_
  refine go_callS (pc' := 5) rfl rfl rfl (Nat.le_of_ble_eq_true rfl) rfl rfl rfl (ct_within_t (q := 1) (n := 3) (by decide) (by decide) (by omega)) (fun r h2 q3 => ?_)
  obtain ⟨rfl, rfl⟩ := q3
  refine go_ifP (t' := 8) (pc' := 6) rfl rfl rfl (fun _ => ?_) (fun (c : ¬ (¬ (1 : Int32) = 0)) => absurd (by decide) c)
  refine go_s (pc' := 9) rfl rfl rfl rfl ?_
  refine go_sget (pc' := 10) (v := .ref 61) hS rfl rfl rfl (by decide) rfl rfl ?_
  refine go_s (pc' := 11) rfl rfl rfl rfl ?_
  refine go_sald (pc' := 12) (q := 1) (v := .ref 59) hS rfl rfl rfl rfl (by decide) rfl rfl ?_
  refine go_s (pc' := 13) (lo' := [some (.ref 1), some (.int 1), some (.int 2), some (.ref 59), none]) rfl rfl rfl rfl ?_
  refine go_s (pc' := 14) rfl rfl rfl rfl ?_
  refine go_tsw (t' := 26) rfl (Or.inr ⟨by decide, rfl⟩) rfl ?_
  refine go_s (pc' := 27) rfl rfl rfl rfl ?_
  refine go_sget (pc' := 28) (v := .int (I 13 1)) hS rfl rfl rfl (by decide) rfl rfl ?_
  refine go_ifP (t' := 31) (pc' := 29) rfl rfl rfl (fun (c4 : (I 13 1) = 0) => ?_) (fun (c4 : ¬ (I 13 1) = 0) => ?_)
  · skip
    refine go_s (pc' := 32) (st' := [.int 0]) rfl rfl rfl rfl ?_
    refine go_ret rfl rfl ?_
    exact ⟨by show _ = some (Value.int (bI (I 13 1))); simp [bI, c4], rfl⟩
  · skip
    refine go_s (pc' := 30) (st' := [.int 1]) rfl rfl rfl rfl ?_
    refine go_s (pc' := 32) rfl rfl rfl rfl ?_
    refine go_ret rfl rfl ?_
    exact ⟨by show _ = some (Value.int (bI (I 13 1))); simp [bI, c4], rfl⟩
theorem ca_pr_1_3 {w : Nat → Bool} {d : Nat} {h : am_Hp} {m0 : mg} {B : Nat} {I : sm_I} {Q : mQ} {Z : mZ} (hC : CA w 32 m0 B h (I, Q, Z)) (hB2 : B < 2 ^ 26) (hinc : ∀ t, t < 2 → lv I (1 + t) = true → row1 (I, Q, Z) (1 + t) 11 = I 17 t) (hdo : lv I 0 = true → I 16 0 = 2 → ¬ (Z (rwi I 0)).1 3 = 0) (hbk : ∀ k, k < 3 → ¬ I 12 k = -1 → I 12 k = ohI I k) (hd : 4 ≤ d) : am_Ev (am_prog w) d 110 [.ref 1, .int 1, .int 3] h (fun r h' => r = some (.int (mqpr 1 3 (I, Q, Z))) ∧ h' = h) := by
  have hC0 := hC
  obtain ⟨X, ow, sb, hS, hD, hB, hQ⟩ := hC
  change sm tbc h I X at hS
  change CD w 32 m0 h I Q Z X ow sb at hD
  change co h I ≤ B at hB
  change ∀ l, l < 16 → (Q l).length ≤ h.length at hQ
  have hW := hD.1.1
  have hWn : ∀ a, List.length h ≤ a → w a = true := fun a ha => (hD.1.2.1 a ha).1
  have hF1 := fr_refl tbc h
  have hln : 62 ≤ List.length h := sm_len hS
  obtain ⟨d, rfl⟩ : ∃ e, d = e + 1 := ⟨d - 1, by omega⟩
  refine ev_go rfl (Nat.le_of_ble_eq_true rfl) rfl ?_
  refine go_s (pc' := 1) rfl rfl rfl rfl ?_
  refine go_s (pc' := 2) rfl rfl rfl rfl ?_
  refine go_sget (pc' := 3) (v := .ref 61) hS rfl rfl rfl (by decide) rfl rfl ?_
  refine go_salen (pc' := 4) (n := 3) hS rfl rfl rfl rfl ?_
  refine go_callS (pc' := 5) rfl rfl rfl (Nat.le_of_ble_eq_true rfl) rfl rfl rfl (ct_within_t (q := 1) (n := 3) (by decide) (by decide) (by omega)) (fun r h2 q3 => ?_)
  obtain ⟨rfl, rfl⟩ := q3
  refine go_ifP (t' := 8) (pc' := 6) rfl rfl rfl (fun _ => ?_) (fun (c : ¬ (¬ (1 : Int32) = 0)) => absurd (by decide) c)
  refine go_s (pc' := 9) rfl rfl rfl rfl ?_
  refine go_sget (pc' := 10) (v := .ref 61) hS rfl rfl rfl (by decide) rfl rfl ?_
  refine go_s (pc' := 11) rfl rfl rfl rfl ?_
  refine go_sald (pc' := 12) (q := 1) (v := .ref 59) hS rfl rfl rfl rfl (by decide) rfl rfl ?_
  refine go_s (pc' := 13) (lo' := [some (.ref 1), some (.int 1), some (.int 3), some (.ref 59), none]) rfl rfl rfl rfl ?_
  refine go_s (pc' := 14) rfl rfl rfl rfl ?_
  refine go_tsw (t' := 33) rfl (Or.inr ⟨by decide, rfl⟩) rfl ?_
  refine go_s (pc' := 34) rfl rfl rfl rfl ?_
  refine go_s (pc' := 35) rfl rfl rfl rfl ?_
  refine go_callV (pc' := 36) rfl rfl rfl (Nat.le_of_ble_eq_true rfl) rfl (sm_o hS rfl) rfl rfl rfl (ct_works_1 hS (hD.2.2.2.2.2.2 1 (by decide)) (by omega)) (fun r h4 q5 => ?_)
  obtain ⟨rfl, rfl⟩ := q5
  cases u6 : lv I 1
  · skip
    show am_Go _ _ _ _ 36 _ [.int 0] _ _
    refine go_ifP (t' := 40) (pc' := 37) rfl rfl rfl (fun _ => ?_) (fun (c : ¬ ((0 : Int32) = 0)) => absurd (by decide) c)
    refine go_s (pc' := 41) (st' := [.int (-1)]) rfl rfl rfl rfl ?_
    refine go_ret rfl rfl ?_
    exact ⟨by show _ = some (Value.int (if lv I 1 = true then I 16 1 else -1)); rw [if_neg (by rw [u6]; decide)], rfl⟩
  · skip
    show am_Go _ _ _ _ 36 _ [.int 1] _ _
    refine go_ifP (t' := 40) (pc' := 37) rfl rfl rfl (fun (c : (1 : Int32) = 0) => absurd c (by decide)) (fun _ => ?_)
    refine go_s (pc' := 38) rfl rfl rfl rfl ?_
    refine go_sget (pc' := 39) (v := .int (I 16 1)) hS rfl rfl rfl (by decide) rfl rfl ?_
    refine go_s (pc' := 41) rfl rfl rfl rfl ?_
    refine go_ret rfl rfl ?_
    exact ⟨by show _ = some (Value.int (if lv I 1 = true then I 16 1 else -1)); rw [if_pos u6], rfl⟩
theorem ca_pr_1_4 {w : Nat → Bool} {d : Nat} {h : am_Hp} {m0 : mg} {B : Nat} {I : sm_I} {Q : mQ} {Z : mZ} (hC : CA w 32 m0 B h (I, Q, Z)) (hB2 : B < 2 ^ 26) (hinc : ∀ t, t < 2 → lv I (1 + t) = true → row1 (I, Q, Z) (1 + t) 11 = I 17 t) (hdo : lv I 0 = true → I 16 0 = 2 → ¬ (Z (rwi I 0)).1 3 = 0) (hbk : ∀ k, k < 3 → ¬ I 12 k = -1 → I 12 k = ohI I k) (hd : 4 ≤ d) : am_Ev (am_prog w) d 110 [.ref 1, .int 1, .int 4] h (fun r h' => r = some (.int (mqpr 1 4 (I, Q, Z))) ∧ h' = h) := by
  have hC0 := hC
  obtain ⟨X, ow, sb, hS, hD, hB, hQ⟩ := hC
  change sm tbc h I X at hS
  change CD w 32 m0 h I Q Z X ow sb at hD
  change co h I ≤ B at hB
  change ∀ l, l < 16 → (Q l).length ≤ h.length at hQ
  have hW := hD.1.1
  have hWn : ∀ a, List.length h ≤ a → w a = true := fun a ha => (hD.1.2.1 a ha).1
  have hF1 := fr_refl tbc h
  have hln : 62 ≤ List.length h := sm_len hS
  obtain ⟨d, rfl⟩ : ∃ e, d = e + 1 := ⟨d - 1, by omega⟩
  refine ev_go rfl (Nat.le_of_ble_eq_true rfl) rfl ?_
  refine go_s (pc' := 1) rfl rfl rfl rfl ?_
  refine go_s (pc' := 2) rfl rfl rfl rfl ?_
  refine go_sget (pc' := 3) (v := .ref 61) hS rfl rfl rfl (by decide) rfl rfl ?_
  refine go_salen (pc' := 4) (n := 3) hS rfl rfl rfl rfl ?_
  refine go_callS (pc' := 5) rfl rfl rfl (Nat.le_of_ble_eq_true rfl) rfl rfl rfl (ct_within_t (q := 1) (n := 3) (by decide) (by decide) (by omega)) (fun r h2 q3 => ?_)
  obtain ⟨rfl, rfl⟩ := q3
  refine go_ifP (t' := 8) (pc' := 6) rfl rfl rfl (fun _ => ?_) (fun (c : ¬ (¬ (1 : Int32) = 0)) => absurd (by decide) c)
  refine go_s (pc' := 9) rfl rfl rfl rfl ?_
  refine go_sget (pc' := 10) (v := .ref 61) hS rfl rfl rfl (by decide) rfl rfl ?_
  refine go_s (pc' := 11) rfl rfl rfl rfl ?_
  refine go_sald (pc' := 12) (q := 1) (v := .ref 59) hS rfl rfl rfl rfl (by decide) rfl rfl ?_
  refine go_s (pc' := 13) (lo' := [some (.ref 1), some (.int 1), some (.int 4), some (.ref 59), none]) rfl rfl rfl rfl ?_
  refine go_s (pc' := 14) rfl rfl rfl rfl ?_
  refine go_tsw (t' := 42) rfl (Or.inr ⟨by decide, rfl⟩) rfl ?_
  refine go_s (pc' := 43) rfl rfl rfl rfl ?_
  refine go_sget (pc' := 44) (v := .int (I 15 1)) hS rfl rfl rfl (by decide) rfl rfl ?_
  refine go_ret rfl rfl ?_
  exact ⟨rfl, rfl⟩
theorem ca_pr_1_n {w : Nat → Bool} {d : Nat} {h : am_Hp} {m0 : mg} {B : Nat} {I : sm_I} {Q : mQ} {Z : mZ} (hC : CA w 32 m0 B h (I, Q, Z)) (hB2 : B < 2 ^ 26) (hinc : ∀ t, t < 2 → lv I (1 + t) = true → row1 (I, Q, Z) (1 + t) 11 = I 17 t) (hdo : lv I 0 = true → I 16 0 = 2 → ¬ (Z (rwi I 0)).1 3 = 0) (hbk : ∀ k, k < 3 → ¬ I 12 k = -1 → I 12 k = ohI I k) {x : Int32} (x0 : ¬ x = 0) (x1 : ¬ x = 1) (x2 : ¬ x = 2) (x3 : ¬ x = 3) (x4 : ¬ x = 4) (hd : 4 ≤ d) : am_Ev (am_prog w) d 110 [.ref 1, .int 1, .int x] h (fun r h' => r = some (.int (mqpr 1 x (I, Q, Z))) ∧ h' = h) := by
  have hC0 := hC
  obtain ⟨X, ow, sb, hS, hD, hB, hQ⟩ := hC
  change sm tbc h I X at hS
  change CD w 32 m0 h I Q Z X ow sb at hD
  change co h I ≤ B at hB
  change ∀ l, l < 16 → (Q l).length ≤ h.length at hQ
  have hW := hD.1.1
  have hWn : ∀ a, List.length h ≤ a → w a = true := fun a ha => (hD.1.2.1 a ha).1
  have hF1 := fr_refl tbc h
  have hln : 62 ≤ List.length h := sm_len hS
  obtain ⟨d, rfl⟩ : ∃ e, d = e + 1 := ⟨d - 1, by omega⟩
  refine ev_go rfl (Nat.le_of_ble_eq_true rfl) rfl ?_
  refine go_s (pc' := 1) rfl rfl rfl rfl ?_
  refine go_s (pc' := 2) rfl rfl rfl rfl ?_
  refine go_sget (pc' := 3) (v := .ref 61) hS rfl rfl rfl (by decide) rfl rfl ?_
  refine go_salen (pc' := 4) (n := 3) hS rfl rfl rfl rfl ?_
  refine go_callS (pc' := 5) rfl rfl rfl (Nat.le_of_ble_eq_true rfl) rfl rfl rfl (ct_within_t (q := 1) (n := 3) (by decide) (by decide) (by omega)) (fun r h2 q3 => ?_)
  obtain ⟨rfl, rfl⟩ := q3
  refine go_ifP (t' := 8) (pc' := 6) rfl rfl rfl (fun _ => ?_) (fun (c : ¬ (¬ (1 : Int32) = 0)) => absurd (by decide) c)
  refine go_s (pc' := 9) rfl rfl rfl rfl ?_
  refine go_sget (pc' := 10) (v := .ref 61) hS rfl rfl rfl (by decide) rfl rfl ?_
  refine go_s (pc' := 11) rfl rfl rfl rfl ?_
  refine go_sald (pc' := 12) (q := 1) (v := .ref 59) hS rfl rfl rfl rfl (by decide) rfl rfl ?_
  refine go_s (pc' := 13) (lo' := [some (.ref 1), some (.int 1), some (.int x), some (.ref 59), none]) rfl rfl rfl rfl ?_
  refine go_s (pc' := 14) rfl rfl rfl rfl ?_
  refine go_tsw (t' := 45) rfl (Or.inl ⟨tsw_0_4 x0 x1 x2 x3 x4, rfl⟩) rfl ?_
  refine go_s (pc' := 46) rfl rfl rfl rfl ?_
  refine go_instT (pc' := 47) rfl (sm_o hS rfl) rfl (by decide) rfl ?_
  refine go_ifP (t' := 56) (pc' := 48) rfl rfl rfl (fun (c : (1 : Int32) = 0) => absurd c (by decide)) (fun _ => ?_)
  refine go_s (pc' := 49) rfl rfl rfl rfl ?_
  refine go_castO (pc' := 50) rfl (sm_o hS rfl) rfl (by decide) rfl ?_
  refine go_s (pc' := 51) (lo' := [some (.ref 1), some (.int 1), some (.int x), some (.ref 59), some (.ref 59)]) rfl rfl rfl rfl ?_
  refine go_s (pc' := 52) rfl rfl rfl rfl ?_
  refine go_s (pc' := 53) rfl rfl rfl rfl ?_
  refine go_s (pc' := 54) rfl rfl rfl rfl ?_
  have hC1 : CA w 32 m0 B h2 (I, Q, Z) := ⟨X, ow, sb, hS, hD, hB, hQ⟩
  refine go_callV (pc' := 55) rfl rfl rfl (Nat.le_of_ble_eq_true rfl) rfl (sm_o hS rfl) rfl rfl rfl (ct_tf_0 hC1 hB2 (fun z => hinc 0 (by decide) z) (by omega)) (fun r h4 q5 => ?_)
  obtain ⟨rfl, rfl⟩ := q5
  refine go_s (pc' := 59) rfl rfl rfl rfl ?_
  refine go_ret rfl rfl ?_
  exact ⟨by unfold mqpr; rw [if_neg x0, if_neg x1, if_neg x2, if_neg x3, if_neg x4]; rfl, rfl⟩
theorem ca_pr_1 {w : Nat → Bool} {d : Nat} {h : am_Hp} {m0 : mg} {B : Nat} {I : sm_I} {Q : mQ} {Z : mZ} (hC : CA w 32 m0 B h (I, Q, Z)) (hB2 : B < 2 ^ 26) (hinc : ∀ t, t < 2 → lv I (1 + t) = true → row1 (I, Q, Z) (1 + t) 11 = I 17 t) (hdo : lv I 0 = true → I 16 0 = 2 → ¬ (Z (rwi I 0)).1 3 = 0) (hbk : ∀ k, k < 3 → ¬ I 12 k = -1 → I 12 k = ohI I k) {x : Int32} (hd : 4 ≤ d) : am_Ev (am_prog w) d 110 [.ref 1, .int 1, .int x] h (fun r h' => r = some (.int (mqpr 1 x (I, Q, Z))) ∧ h' = h) := by
  by_cases x0 : x = 0
  · subst x0; exact ca_pr_1_0 hC hB2 hinc hdo hbk hd
  by_cases x1 : x = 1
  · subst x1; exact ca_pr_1_1 hC hB2 hinc hdo hbk hd
  by_cases x2 : x = 2
  · subst x2; exact ca_pr_1_2 hC hB2 hinc hdo hbk hd
  by_cases x3 : x = 3
  · subst x3; exact ca_pr_1_3 hC hB2 hinc hdo hbk hd
  by_cases x4 : x = 4
  · subst x4; exact ca_pr_1_4 hC hB2 hinc hdo hbk hd
  exact ca_pr_1_n hC hB2 hinc hdo hbk x0 x1 x2 x3 x4 hd
theorem ca_pr_2_0 {w : Nat → Bool} {d : Nat} {h : am_Hp} {m0 : mg} {B : Nat} {I : sm_I} {Q : mQ} {Z : mZ} (hC : CA w 32 m0 B h (I, Q, Z)) (hB2 : B < 2 ^ 26) (hinc : ∀ t, t < 2 → lv I (1 + t) = true → row1 (I, Q, Z) (1 + t) 11 = I 17 t) (hdo : lv I 0 = true → I 16 0 = 2 → ¬ (Z (rwi I 0)).1 3 = 0) (hbk : ∀ k, k < 3 → ¬ I 12 k = -1 → I 12 k = ohI I k) (hd : 4 ≤ d) : am_Ev (am_prog w) d 110 [.ref 1, .int 2, .int 0] h (fun r h' => r = some (.int (mqpr 2 0 (I, Q, Z))) ∧ h' = h) := by
  have hC0 := hC
  obtain ⟨X, ow, sb, hS, hD, hB, hQ⟩ := hC
  change sm tbc h I X at hS
  change CD w 32 m0 h I Q Z X ow sb at hD
  change co h I ≤ B at hB
  change ∀ l, l < 16 → (Q l).length ≤ h.length at hQ
  have hW := hD.1.1
  have hWn : ∀ a, List.length h ≤ a → w a = true := fun a ha => (hD.1.2.1 a ha).1
  have hF1 := fr_refl tbc h
  have hln : 62 ≤ List.length h := sm_len hS
  obtain ⟨d, rfl⟩ : ∃ e, d = e + 1 := ⟨d - 1, by omega⟩
  refine ev_go rfl (Nat.le_of_ble_eq_true rfl) rfl ?_
  refine go_s (pc' := 1) rfl rfl rfl rfl ?_
  refine go_s (pc' := 2) rfl rfl rfl rfl ?_
  refine go_sget (pc' := 3) (v := .ref 61) hS rfl rfl rfl (by decide) rfl rfl ?_
  refine go_salen (pc' := 4) (n := 3) hS rfl rfl rfl rfl ?_
  refine go_callS (pc' := 5) rfl rfl rfl (Nat.le_of_ble_eq_true rfl) rfl rfl rfl (ct_within_t (q := 2) (n := 3) (by decide) (by decide) (by omega)) (fun r h2 q3 => ?_)
  obtain ⟨rfl, rfl⟩ := q3
  refine go_ifP (t' := 8) (pc' := 6) rfl rfl rfl (fun _ => ?_) (fun (c : ¬ (¬ (1 : Int32) = 0)) => absurd (by decide) c)
  refine go_s (pc' := 9) rfl rfl rfl rfl ?_
  refine go_sget (pc' := 10) (v := .ref 61) hS rfl rfl rfl (by decide) rfl rfl ?_
  refine go_s (pc' := 11) rfl rfl rfl rfl ?_
  refine go_sald (pc' := 12) (q := 2) (v := .ref 60) hS rfl rfl rfl rfl (by decide) rfl rfl ?_
  refine go_s (pc' := 13) (lo' := [some (.ref 1), some (.int 2), some (.int 0), some (.ref 60), none]) rfl rfl rfl rfl ?_
  refine go_s (pc' := 14) rfl rfl rfl rfl ?_
  refine go_tsw (t' := 15) rfl (Or.inr ⟨by decide, rfl⟩) rfl ?_
  refine go_s (pc' := 16) rfl rfl rfl rfl ?_
  refine go_sget (pc' := 17) (v := .int (I 11 2)) hS rfl rfl rfl (by decide) rfl rfl ?_
  refine go_ret rfl rfl ?_
  exact ⟨rfl, rfl⟩
theorem ca_pr_2_1 {w : Nat → Bool} {d : Nat} {h : am_Hp} {m0 : mg} {B : Nat} {I : sm_I} {Q : mQ} {Z : mZ} (hC : CA w 32 m0 B h (I, Q, Z)) (hB2 : B < 2 ^ 26) (hinc : ∀ t, t < 2 → lv I (1 + t) = true → row1 (I, Q, Z) (1 + t) 11 = I 17 t) (hdo : lv I 0 = true → I 16 0 = 2 → ¬ (Z (rwi I 0)).1 3 = 0) (hbk : ∀ k, k < 3 → ¬ I 12 k = -1 → I 12 k = ohI I k) (hd : 4 ≤ d) : am_Ev (am_prog w) d 110 [.ref 1, .int 2, .int 1] h (fun r h' => r = some (.int (mqpr 2 1 (I, Q, Z))) ∧ h' = h) := by
  have hC0 := hC
  obtain ⟨X, ow, sb, hS, hD, hB, hQ⟩ := hC
  change sm tbc h I X at hS
  change CD w 32 m0 h I Q Z X ow sb at hD
  change co h I ≤ B at hB
  change ∀ l, l < 16 → (Q l).length ≤ h.length at hQ
  have hW := hD.1.1
  have hWn : ∀ a, List.length h ≤ a → w a = true := fun a ha => (hD.1.2.1 a ha).1
  have hF1 := fr_refl tbc h
  have hln : 62 ≤ List.length h := sm_len hS
  obtain ⟨d, rfl⟩ : ∃ e, d = e + 1 := ⟨d - 1, by omega⟩
  refine ev_go rfl (Nat.le_of_ble_eq_true rfl) rfl ?_
  have h207 := hD.2.2.2.1.2.2 2 (by decide)
  by_cases b12 : I 12 2 = -1
  · skip
    rw [if_pos b12] at h207
    refine go_s (pc' := 1) rfl rfl rfl rfl ?_
    refine go_s (pc' := 2) rfl rfl rfl rfl ?_
    refine go_sget (pc' := 3) (v := .ref 61) hS rfl rfl rfl (by decide) rfl rfl ?_
    refine go_salen (pc' := 4) (n := 3) hS rfl rfl rfl rfl ?_
    refine go_callS (pc' := 5) rfl rfl rfl (Nat.le_of_ble_eq_true rfl) rfl rfl rfl (ct_within_t (q := 2) (n := 3) (by decide) (by decide) (by omega)) (fun r h2 q3 => ?_)
    obtain ⟨rfl, rfl⟩ := q3
    refine go_ifP (t' := 8) (pc' := 6) rfl rfl rfl (fun _ => ?_) (fun (c : ¬ (¬ (1 : Int32) = 0)) => absurd (by decide) c)
    refine go_s (pc' := 9) rfl rfl rfl rfl ?_
    refine go_sget (pc' := 10) (v := .ref 61) hS rfl rfl rfl (by decide) rfl rfl ?_
    refine go_s (pc' := 11) rfl rfl rfl rfl ?_
    refine go_sald (pc' := 12) (q := 2) (v := .ref 60) hS rfl rfl rfl rfl (by decide) rfl rfl ?_
    refine go_s (pc' := 13) (lo' := [some (.ref 1), some (.int 2), some (.int 1), some (.ref 60), none]) rfl rfl rfl rfl ?_
    refine go_s (pc' := 14) rfl rfl rfl rfl ?_
    refine go_tsw (t' := 18) rfl (Or.inr ⟨by decide, rfl⟩) rfl ?_
    refine go_s (pc' := 19) rfl rfl rfl rfl ?_
    refine go_sget (pc' := 20) (v := .int 0) hS rfl rfl rfl (by decide) h207 rfl ?_
    refine go_ifP (t' := 24) (pc' := 21) rfl rfl rfl (fun _ => ?_) (fun (c : ¬ ((0 : Int32) = 0)) => absurd (by decide) c)
    refine go_s (pc' := 25) (st' := [.int (-1)]) rfl rfl rfl rfl ?_
    refine go_ret rfl rfl ?_
    exact ⟨by show _ = some (Value.int (I 12 2)); rw [b12], rfl⟩
  · skip
    rw [if_neg b12] at h207
    refine go_s (pc' := 1) rfl rfl rfl rfl ?_
    refine go_s (pc' := 2) rfl rfl rfl rfl ?_
    refine go_sget (pc' := 3) (v := .ref 61) hS rfl rfl rfl (by decide) rfl rfl ?_
    refine go_salen (pc' := 4) (n := 3) hS rfl rfl rfl rfl ?_
    refine go_callS (pc' := 5) rfl rfl rfl (Nat.le_of_ble_eq_true rfl) rfl rfl rfl (ct_within_t (q := 2) (n := 3) (by decide) (by decide) (by omega)) (fun r h4 q5 => ?_)
    obtain ⟨rfl, rfl⟩ := q5
    refine go_ifP (t' := 8) (pc' := 6) rfl rfl rfl (fun _ => ?_) (fun (c : ¬ (¬ (1 : Int32) = 0)) => absurd (by decide) c)
    refine go_s (pc' := 9) rfl rfl rfl rfl ?_
    refine go_sget (pc' := 10) (v := .ref 61) hS rfl rfl rfl (by decide) rfl rfl ?_
    refine go_s (pc' := 11) rfl rfl rfl rfl ?_
    refine go_sald (pc' := 12) (q := 2) (v := .ref 60) hS rfl rfl rfl rfl (by decide) rfl rfl ?_
    refine go_s (pc' := 13) (lo' := [some (.ref 1), some (.int 2), some (.int 1), some (.ref 60), none]) rfl rfl rfl rfl ?_
    refine go_s (pc' := 14) rfl rfl rfl rfl ?_
    refine go_tsw (t' := 18) rfl (Or.inr ⟨by decide, rfl⟩) rfl ?_
    refine go_s (pc' := 19) rfl rfl rfl rfl ?_
    refine go_sget (pc' := 20) (v := .int 1) hS rfl rfl rfl (by decide) h207 rfl ?_
    refine go_ifP (t' := 24) (pc' := 21) rfl rfl rfl (fun (c : (1 : Int32) = 0) => absurd c (by decide)) (fun _ => ?_)
    refine go_s (pc' := 22) rfl rfl rfl rfl ?_
    refine go_callV (pc' := 23) rfl rfl rfl (Nat.le_of_ble_eq_true rfl) rfl (sm_o hS rfl) rfl rfl rfl (ct_oh_2 hS (by omega)) (fun r h6 q7 => ?_)
    obtain ⟨rfl, rfl⟩ := q7
    refine go_s (pc' := 25) rfl rfl rfl rfl ?_
    refine go_ret rfl rfl ?_
    exact ⟨by show _ = some (Value.int (I 12 2)); rw [hbk 2 (by decide) b12], rfl⟩
theorem ca_pr_2_2 {w : Nat → Bool} {d : Nat} {h : am_Hp} {m0 : mg} {B : Nat} {I : sm_I} {Q : mQ} {Z : mZ} (hC : CA w 32 m0 B h (I, Q, Z)) (hB2 : B < 2 ^ 26) (hinc : ∀ t, t < 2 → lv I (1 + t) = true → row1 (I, Q, Z) (1 + t) 11 = I 17 t) (hdo : lv I 0 = true → I 16 0 = 2 → ¬ (Z (rwi I 0)).1 3 = 0) (hbk : ∀ k, k < 3 → ¬ I 12 k = -1 → I 12 k = ohI I k) (hd : 4 ≤ d) : am_Ev (am_prog w) d 110 [.ref 1, .int 2, .int 2] h (fun r h' => r = some (.int (mqpr 2 2 (I, Q, Z))) ∧ h' = h) := by
  have hC0 := hC
  obtain ⟨X, ow, sb, hS, hD, hB, hQ⟩ := hC
  change sm tbc h I X at hS
  change CD w 32 m0 h I Q Z X ow sb at hD
  change co h I ≤ B at hB
  change ∀ l, l < 16 → (Q l).length ≤ h.length at hQ
  have hW := hD.1.1
  have hWn : ∀ a, List.length h ≤ a → w a = true := fun a ha => (hD.1.2.1 a ha).1
  have hF1 := fr_refl tbc h
  have hln : 62 ≤ List.length h := sm_len hS
  obtain ⟨d, rfl⟩ : ∃ e, d = e + 1 := ⟨d - 1, by omega⟩
  refine ev_go rfl (Nat.le_of_ble_eq_true rfl) rfl ?_
  refine go_s (pc' := 1) rfl rfl rfl rfl ?_
  refine go_s (pc' := 2) rfl rfl rfl rfl ?_
  refine go_sget (pc' := 3) (v := .ref 61) hS rfl rfl rfl (by decide) rfl rfl ?_
  refine go_salen (pc' := 4) (n := 3) hS rfl rfl rfl rfl ?_
  refine go_callS (pc' := 5) rfl rfl rfl (Nat.le_of_ble_eq_true rfl) rfl rfl rfl (ct_within_t (q := 2) (n := 3) (by decide) (by decide) (by omega)) (fun r h2 q3 => ?_)
  obtain ⟨rfl, rfl⟩ := q3
  refine go_ifP (t' := 8) (pc' := 6) rfl rfl rfl (fun _ => ?_) (fun (c : ¬ (¬ (1 : Int32) = 0)) => absurd (by decide) c)
  refine go_s (pc' := 9) rfl rfl rfl rfl ?_
  refine go_sget (pc' := 10) (v := .ref 61) hS rfl rfl rfl (by decide) rfl rfl ?_
  refine go_s (pc' := 11) rfl rfl rfl rfl ?_
  refine go_sald (pc' := 12) (q := 2) (v := .ref 60) hS rfl rfl rfl rfl (by decide) rfl rfl ?_
  refine go_s (pc' := 13) (lo' := [some (.ref 1), some (.int 2), some (.int 2), some (.ref 60), none]) rfl rfl rfl rfl ?_
  refine go_s (pc' := 14) rfl rfl rfl rfl ?_
  refine go_tsw (t' := 26) rfl (Or.inr ⟨by decide, rfl⟩) rfl ?_
  refine go_s (pc' := 27) rfl rfl rfl rfl ?_
  refine go_sget (pc' := 28) (v := .int (I 13 2)) hS rfl rfl rfl (by decide) rfl rfl ?_
  refine go_ifP (t' := 31) (pc' := 29) rfl rfl rfl (fun (c4 : (I 13 2) = 0) => ?_) (fun (c4 : ¬ (I 13 2) = 0) => ?_)
  · skip
    refine go_s (pc' := 32) (st' := [.int 0]) rfl rfl rfl rfl ?_
    refine go_ret rfl rfl ?_
    exact ⟨by show _ = some (Value.int (bI (I 13 2))); simp [bI, c4], rfl⟩
  · skip
    refine go_s (pc' := 30) (st' := [.int 1]) rfl rfl rfl rfl ?_
    refine go_s (pc' := 32) rfl rfl rfl rfl ?_
    refine go_ret rfl rfl ?_
    exact ⟨by show _ = some (Value.int (bI (I 13 2))); simp [bI, c4], rfl⟩
theorem ca_pr_2_3 {w : Nat → Bool} {d : Nat} {h : am_Hp} {m0 : mg} {B : Nat} {I : sm_I} {Q : mQ} {Z : mZ} (hC : CA w 32 m0 B h (I, Q, Z)) (hB2 : B < 2 ^ 26) (hinc : ∀ t, t < 2 → lv I (1 + t) = true → row1 (I, Q, Z) (1 + t) 11 = I 17 t) (hdo : lv I 0 = true → I 16 0 = 2 → ¬ (Z (rwi I 0)).1 3 = 0) (hbk : ∀ k, k < 3 → ¬ I 12 k = -1 → I 12 k = ohI I k) (hd : 4 ≤ d) : am_Ev (am_prog w) d 110 [.ref 1, .int 2, .int 3] h (fun r h' => r = some (.int (mqpr 2 3 (I, Q, Z))) ∧ h' = h) := by
  have hC0 := hC
  obtain ⟨X, ow, sb, hS, hD, hB, hQ⟩ := hC
  change sm tbc h I X at hS
  change CD w 32 m0 h I Q Z X ow sb at hD
  change co h I ≤ B at hB
  change ∀ l, l < 16 → (Q l).length ≤ h.length at hQ
  have hW := hD.1.1
  have hWn : ∀ a, List.length h ≤ a → w a = true := fun a ha => (hD.1.2.1 a ha).1
  have hF1 := fr_refl tbc h
  have hln : 62 ≤ List.length h := sm_len hS
  obtain ⟨d, rfl⟩ : ∃ e, d = e + 1 := ⟨d - 1, by omega⟩
  refine ev_go rfl (Nat.le_of_ble_eq_true rfl) rfl ?_
  refine go_s (pc' := 1) rfl rfl rfl rfl ?_
  refine go_s (pc' := 2) rfl rfl rfl rfl ?_
  refine go_sget (pc' := 3) (v := .ref 61) hS rfl rfl rfl (by decide) rfl rfl ?_
  refine go_salen (pc' := 4) (n := 3) hS rfl rfl rfl rfl ?_
  refine go_callS (pc' := 5) rfl rfl rfl (Nat.le_of_ble_eq_true rfl) rfl rfl rfl (ct_within_t (q := 2) (n := 3) (by decide) (by decide) (by omega)) (fun r h2 q3 => ?_)
  obtain ⟨rfl, rfl⟩ := q3
  refine go_ifP (t' := 8) (pc' := 6) rfl rfl rfl (fun _ => ?_) (fun (c : ¬ (¬ (1 : Int32) = 0)) => absurd (by decide) c)
  refine go_s (pc' := 9) rfl rfl rfl rfl ?_
  refine go_sget (pc' := 10) (v := .ref 61) hS rfl rfl rfl (by decide) rfl rfl ?_
  refine go_s (pc' := 11) rfl rfl rfl rfl ?_
  refine go_sald (pc' := 12) (q := 2) (v := .ref 60) hS rfl rfl rfl rfl (by decide) rfl rfl ?_
  refine go_s (pc' := 13) (lo' := [some (.ref 1), some (.int 2), some (.int 3), some (.ref 60), none]) rfl rfl rfl rfl ?_
  refine go_s (pc' := 14) rfl rfl rfl rfl ?_
  refine go_tsw (t' := 33) rfl (Or.inr ⟨by decide, rfl⟩) rfl ?_
  refine go_s (pc' := 34) rfl rfl rfl rfl ?_
  refine go_s (pc' := 35) rfl rfl rfl rfl ?_
  refine go_callV (pc' := 36) rfl rfl rfl (Nat.le_of_ble_eq_true rfl) rfl (sm_o hS rfl) rfl rfl rfl (ct_works_2 hS (hD.2.2.2.2.2.2 2 (by decide)) (by omega)) (fun r h4 q5 => ?_)
  obtain ⟨rfl, rfl⟩ := q5
  cases u6 : lv I 2
  · skip
    show am_Go _ _ _ _ 36 _ [.int 0] _ _
    refine go_ifP (t' := 40) (pc' := 37) rfl rfl rfl (fun _ => ?_) (fun (c : ¬ ((0 : Int32) = 0)) => absurd (by decide) c)
    refine go_s (pc' := 41) (st' := [.int (-1)]) rfl rfl rfl rfl ?_
    refine go_ret rfl rfl ?_
    exact ⟨by show _ = some (Value.int (if lv I 2 = true then I 16 2 else -1)); rw [if_neg (by rw [u6]; decide)], rfl⟩
  · skip
    show am_Go _ _ _ _ 36 _ [.int 1] _ _
    refine go_ifP (t' := 40) (pc' := 37) rfl rfl rfl (fun (c : (1 : Int32) = 0) => absurd c (by decide)) (fun _ => ?_)
    refine go_s (pc' := 38) rfl rfl rfl rfl ?_
    refine go_sget (pc' := 39) (v := .int (I 16 2)) hS rfl rfl rfl (by decide) rfl rfl ?_
    refine go_s (pc' := 41) rfl rfl rfl rfl ?_
    refine go_ret rfl rfl ?_
    exact ⟨by show _ = some (Value.int (if lv I 2 = true then I 16 2 else -1)); rw [if_pos u6], rfl⟩
theorem ca_pr_2_4 {w : Nat → Bool} {d : Nat} {h : am_Hp} {m0 : mg} {B : Nat} {I : sm_I} {Q : mQ} {Z : mZ} (hC : CA w 32 m0 B h (I, Q, Z)) (hB2 : B < 2 ^ 26) (hinc : ∀ t, t < 2 → lv I (1 + t) = true → row1 (I, Q, Z) (1 + t) 11 = I 17 t) (hdo : lv I 0 = true → I 16 0 = 2 → ¬ (Z (rwi I 0)).1 3 = 0) (hbk : ∀ k, k < 3 → ¬ I 12 k = -1 → I 12 k = ohI I k) (hd : 4 ≤ d) : am_Ev (am_prog w) d 110 [.ref 1, .int 2, .int 4] h (fun r h' => r = some (.int (mqpr 2 4 (I, Q, Z))) ∧ h' = h) := by
  have hC0 := hC
  obtain ⟨X, ow, sb, hS, hD, hB, hQ⟩ := hC
  change sm tbc h I X at hS
  change CD w 32 m0 h I Q Z X ow sb at hD
  change co h I ≤ B at hB
  change ∀ l, l < 16 → (Q l).length ≤ h.length at hQ
  have hW := hD.1.1
  have hWn : ∀ a, List.length h ≤ a → w a = true := fun a ha => (hD.1.2.1 a ha).1
  have hF1 := fr_refl tbc h
  have hln : 62 ≤ List.length h := sm_len hS
  obtain ⟨d, rfl⟩ : ∃ e, d = e + 1 := ⟨d - 1, by omega⟩
  refine ev_go rfl (Nat.le_of_ble_eq_true rfl) rfl ?_
  refine go_s (pc' := 1) rfl rfl rfl rfl ?_
  refine go_s (pc' := 2) rfl rfl rfl rfl ?_
  refine go_sget (pc' := 3) (v := .ref 61) hS rfl rfl rfl (by decide) rfl rfl ?_
  refine go_salen (pc' := 4) (n := 3) hS rfl rfl rfl rfl ?_
  refine go_callS (pc' := 5) rfl rfl rfl (Nat.le_of_ble_eq_true rfl) rfl rfl rfl (ct_within_t (q := 2) (n := 3) (by decide) (by decide) (by omega)) (fun r h2 q3 => ?_)
  obtain ⟨rfl, rfl⟩ := q3
  refine go_ifP (t' := 8) (pc' := 6) rfl rfl rfl (fun _ => ?_) (fun (c : ¬ (¬ (1 : Int32) = 0)) => absurd (by decide) c)
  refine go_s (pc' := 9) rfl rfl rfl rfl ?_
  refine go_sget (pc' := 10) (v := .ref 61) hS rfl rfl rfl (by decide) rfl rfl ?_
  refine go_s (pc' := 11) rfl rfl rfl rfl ?_
  refine go_sald (pc' := 12) (q := 2) (v := .ref 60) hS rfl rfl rfl rfl (by decide) rfl rfl ?_
  refine go_s (pc' := 13) (lo' := [some (.ref 1), some (.int 2), some (.int 4), some (.ref 60), none]) rfl rfl rfl rfl ?_
  refine go_s (pc' := 14) rfl rfl rfl rfl ?_
  refine go_tsw (t' := 42) rfl (Or.inr ⟨by decide, rfl⟩) rfl ?_
  refine go_s (pc' := 43) rfl rfl rfl rfl ?_
  refine go_sget (pc' := 44) (v := .int (I 15 2)) hS rfl rfl rfl (by decide) rfl rfl ?_
  refine go_ret rfl rfl ?_
  exact ⟨rfl, rfl⟩
theorem ca_pr_2_n {w : Nat → Bool} {d : Nat} {h : am_Hp} {m0 : mg} {B : Nat} {I : sm_I} {Q : mQ} {Z : mZ} (hC : CA w 32 m0 B h (I, Q, Z)) (hB2 : B < 2 ^ 26) (hinc : ∀ t, t < 2 → lv I (1 + t) = true → row1 (I, Q, Z) (1 + t) 11 = I 17 t) (hdo : lv I 0 = true → I 16 0 = 2 → ¬ (Z (rwi I 0)).1 3 = 0) (hbk : ∀ k, k < 3 → ¬ I 12 k = -1 → I 12 k = ohI I k) {x : Int32} (x0 : ¬ x = 0) (x1 : ¬ x = 1) (x2 : ¬ x = 2) (x3 : ¬ x = 3) (x4 : ¬ x = 4) (hd : 4 ≤ d) : am_Ev (am_prog w) d 110 [.ref 1, .int 2, .int x] h (fun r h' => r = some (.int (mqpr 2 x (I, Q, Z))) ∧ h' = h) := by
  have hC0 := hC
  obtain ⟨X, ow, sb, hS, hD, hB, hQ⟩ := hC
  change sm tbc h I X at hS
  change CD w 32 m0 h I Q Z X ow sb at hD
  change co h I ≤ B at hB
  change ∀ l, l < 16 → (Q l).length ≤ h.length at hQ
  have hW := hD.1.1
  have hWn : ∀ a, List.length h ≤ a → w a = true := fun a ha => (hD.1.2.1 a ha).1
  have hF1 := fr_refl tbc h
  have hln : 62 ≤ List.length h := sm_len hS
  obtain ⟨d, rfl⟩ : ∃ e, d = e + 1 := ⟨d - 1, by omega⟩
  refine ev_go rfl (Nat.le_of_ble_eq_true rfl) rfl ?_
  refine go_s (pc' := 1) rfl rfl rfl rfl ?_
  refine go_s (pc' := 2) rfl rfl rfl rfl ?_
  refine go_sget (pc' := 3) (v := .ref 61) hS rfl rfl rfl (by decide) rfl rfl ?_
  refine go_salen (pc' := 4) (n := 3) hS rfl rfl rfl rfl ?_
  refine go_callS (pc' := 5) rfl rfl rfl (Nat.le_of_ble_eq_true rfl) rfl rfl rfl (ct_within_t (q := 2) (n := 3) (by decide) (by decide) (by omega)) (fun r h2 q3 => ?_)
  obtain ⟨rfl, rfl⟩ := q3
  refine go_ifP (t' := 8) (pc' := 6) rfl rfl rfl (fun _ => ?_) (fun (c : ¬ (¬ (1 : Int32) = 0)) => absurd (by decide) c)
  refine go_s (pc' := 9) rfl rfl rfl rfl ?_
  refine go_sget (pc' := 10) (v := .ref 61) hS rfl rfl rfl (by decide) rfl rfl ?_
  refine go_s (pc' := 11) rfl rfl rfl rfl ?_
  refine go_sald (pc' := 12) (q := 2) (v := .ref 60) hS rfl rfl rfl rfl (by decide) rfl rfl ?_
  refine go_s (pc' := 13) (lo' := [some (.ref 1), some (.int 2), some (.int x), some (.ref 60), none]) rfl rfl rfl rfl ?_
  refine go_s (pc' := 14) rfl rfl rfl rfl ?_
  refine go_tsw (t' := 45) rfl (Or.inl ⟨tsw_0_4 x0 x1 x2 x3 x4, rfl⟩) rfl ?_
  refine go_s (pc' := 46) rfl rfl rfl rfl ?_
  refine go_instT (pc' := 47) rfl (sm_o hS rfl) rfl (by decide) rfl ?_
  refine go_ifP (t' := 56) (pc' := 48) rfl rfl rfl (fun (c : (1 : Int32) = 0) => absurd c (by decide)) (fun _ => ?_)
  refine go_s (pc' := 49) rfl rfl rfl rfl ?_
  refine go_castO (pc' := 50) rfl (sm_o hS rfl) rfl (by decide) rfl ?_
  refine go_s (pc' := 51) (lo' := [some (.ref 1), some (.int 2), some (.int x), some (.ref 60), some (.ref 60)]) rfl rfl rfl rfl ?_
  refine go_s (pc' := 52) rfl rfl rfl rfl ?_
  refine go_s (pc' := 53) rfl rfl rfl rfl ?_
  refine go_s (pc' := 54) rfl rfl rfl rfl ?_
  have hC1 : CA w 32 m0 B h2 (I, Q, Z) := ⟨X, ow, sb, hS, hD, hB, hQ⟩
  refine go_callV (pc' := 55) rfl rfl rfl (Nat.le_of_ble_eq_true rfl) rfl (sm_o hS rfl) rfl rfl rfl (ct_tf_1 hC1 hB2 (fun z => hinc 1 (by decide) z) (by omega)) (fun r h4 q5 => ?_)
  obtain ⟨rfl, rfl⟩ := q5
  refine go_s (pc' := 59) rfl rfl rfl rfl ?_
  refine go_ret rfl rfl ?_
  exact ⟨by unfold mqpr; rw [if_neg x0, if_neg x1, if_neg x2, if_neg x3, if_neg x4]; rfl, rfl⟩
theorem ca_pr_2 {w : Nat → Bool} {d : Nat} {h : am_Hp} {m0 : mg} {B : Nat} {I : sm_I} {Q : mQ} {Z : mZ} (hC : CA w 32 m0 B h (I, Q, Z)) (hB2 : B < 2 ^ 26) (hinc : ∀ t, t < 2 → lv I (1 + t) = true → row1 (I, Q, Z) (1 + t) 11 = I 17 t) (hdo : lv I 0 = true → I 16 0 = 2 → ¬ (Z (rwi I 0)).1 3 = 0) (hbk : ∀ k, k < 3 → ¬ I 12 k = -1 → I 12 k = ohI I k) {x : Int32} (hd : 4 ≤ d) : am_Ev (am_prog w) d 110 [.ref 1, .int 2, .int x] h (fun r h' => r = some (.int (mqpr 2 x (I, Q, Z))) ∧ h' = h) := by
  by_cases x0 : x = 0
  · subst x0; exact ca_pr_2_0 hC hB2 hinc hdo hbk hd
  by_cases x1 : x = 1
  · subst x1; exact ca_pr_2_1 hC hB2 hinc hdo hbk hd
  by_cases x2 : x = 2
  · subst x2; exact ca_pr_2_2 hC hB2 hinc hdo hbk hd
  by_cases x3 : x = 3
  · subst x3; exact ca_pr_2_3 hC hB2 hinc hdo hbk hd
  by_cases x4 : x = 4
  · subst x4; exact ca_pr_2_4 hC hB2 hinc hdo hbk hd
  exact ca_pr_2_n hC hB2 hinc hdo hbk x0 x1 x2 x3 x4 hd
theorem ca_pr_f {w : Nat → Bool} {d : Nat} {h : am_Hp} {m0 : mg} {B : Nat} {I : sm_I} {Q : mQ} {Z : mZ} (hC : CA w 32 m0 B h (I, Q, Z)) (hB2 : B < 2 ^ 26) {a x : Int32} (hn : a < 0 ∨ nI 3 ≤ a) (hd : 4 ≤ d) : am_Ev (am_prog w) d 110 [.ref 1, .int a, .int x] h (fun r h' => r = some (.int (-1)) ∧ h' = h) := by
  obtain ⟨X, ow, sb, hS, hD, hB, hQ⟩ := hC
  change sm tbc h I X at hS
  change CD w 32 m0 h I Q Z X ow sb at hD
  change co h I ≤ B at hB
  change ∀ l, l < 16 → (Q l).length ≤ h.length at hQ
  have hW := hD.1.1
  have hWn : ∀ a, List.length h ≤ a → w a = true := fun a ha => (hD.1.2.1 a ha).1
  have hF1 := fr_refl tbc h
  have hln : 62 ≤ List.length h := sm_len hS
  obtain ⟨d, rfl⟩ : ∃ e, d = e + 1 := ⟨d - 1, by omega⟩
  refine ev_go rfl (Nat.le_of_ble_eq_true rfl) rfl ?_
  refine go_s (pc' := 1) rfl rfl rfl rfl ?_
  refine go_s (pc' := 2) rfl rfl rfl rfl ?_
  refine go_sget (pc' := 3) (v := .ref 61) hS rfl rfl rfl (by decide) rfl rfl ?_
  refine go_salen (pc' := 4) (n := 3) hS rfl rfl rfl rfl ?_
  refine go_callS (pc' := 5) rfl rfl rfl (Nat.le_of_ble_eq_true rfl) rfl rfl rfl (ct_within_f (a := a) (n := 3) hn (by omega)) (fun r h2 q3 => ?_)
  obtain ⟨rfl, rfl⟩ := q3
  refine go_ifP (t' := 8) (pc' := 6) rfl rfl rfl (fun (c : ¬ (0 : Int32) = 0) => absurd c (by decide)) (fun _ => ?_)
  refine go_s (pc' := 7) (st' := [.int (-1)]) rfl rfl rfl rfl ?_
  refine go_ret rfl rfl ?_
  exact ⟨rfl, rfl⟩
