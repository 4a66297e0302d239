/-! rows for branches as propositions; small numbers -/
def am_P (k : ClassFile.Cond) (x y : Int32) : Prop := match k with
  | .eq => x = y
  | .ne => ¬ x = y
  | .lt => x < y
  | .ge => y ≤ x
  | .gt => y < x
  | .le => x ≤ y
theorem am_cdP (k : ClassFile.Cond) (x y : Int32) : am_cd k x y = true ↔ am_P k x y := by cases k <;> simp [am_cd, am_P]
section GO
variable {T : am_T} {d : Nat} {code : List Instr} {rt : Option FieldType} {pc : Nat} {lo : am_Lo} {st : List Value} {h : am_Hp} {Q : Option Value → am_Hp → Prop}
theorem go_icmpP {k : ClassFile.Cond} {t : Int} {x y : Int32} {t' pc' : Nat} (hi : code[pc]? = some (.if_icmp k t)) (ht : t.toNat = t') (hp : pc + 1 = pc') (kt : am_P k x y → am_Go T d code rt t' lo st h Q) (kf : ¬ am_P k x y → am_Go T d code rt pc' lo st h Q) : am_Go T d code rt pc lo (.int y :: .int x :: st) h Q :=
  go_icmp hi ht hp (fun c => kt ((am_cdP k x y).mp c)) (fun c => kf (fun z => by rw [(am_cdP k x y).mpr z] at c; cases c))
theorem go_ifP {k : ClassFile.Cond} {t : Int} {x : Int32} {t' pc' : Nat} (hi : code[pc]? = some (.ifCond k t)) (ht : t.toNat = t') (hp : pc + 1 = pc') (kt : am_P k x 0 → am_Go T d code rt t' lo st h Q) (kf : ¬ am_P k x 0 → am_Go T d code rt pc' lo st h Q) : am_Go T d code rt pc lo (.int x :: st) h Q :=
  go_if hi ht hp (fun c => kt ((am_cdP k x 0).mp c)) (fun c => kf (fun z => by rw [(am_cdP k x 0).mpr z] at c; cases c))
end GO
theorem nI_addl (a b : Nat) : nI a + nI b = nI (a + b) := nI_add a b
theorem nI_mul (a b : Nat) : nI a * nI b = nI (a * b) := by simp [nI, Int32.ofNat_mul]
theorem nI_within {x : Int32} {n : Nat} (hn : n < 2 ^ 31) : (∃ q, q < n ∧ x = nI q) ∨ (x < 0 ∨ nI n ≤ x) := by
  by_cases h : x < 0
  · exact Or.inr (Or.inl h)
  · obtain ⟨j, hj, rfl⟩ := nI_of h
    by_cases h2 : j < n
    · exact Or.inl ⟨j, h2, rfl⟩
    · exact Or.inr (Or.inr (nI_le (by omega) hj))
def b2i (b : Bool) : Int32 := if b then 1 else 0
theorem tsw_0_2 {x : Int32} (h0 : ¬ x = 0) (h1 : ¬ x = 1) (h2 : ¬ x = 2) : x.toInt < 0 ∨ 2 < x.toInt := by
  rw [← Int32.toInt_inj] at h0 h1 h2
  simp at h0 h1 h2
  omega

theorem ct_within_t {w : Nat → Bool} {d : Nat} {h : am_Hp} {q n : Nat} (hq : q < n) (hn : n < 2 ^ 31) (hd : 1 ≤ d) : am_Ev (am_prog w) d 11 [.int (nI q), .int (nI n)] h (fun r h' => r = some (.int 1) ∧ h' = h) := by
  obtain ⟨d, rfl⟩ : ∃ e, d = e + 1 := ⟨d - 1, by omega⟩
  refine ev_go rfl (Nat.le_of_ble_eq_true rfl) rfl ?_
  refine go_s (pc' := 1) rfl rfl rfl rfl ?_
  refine go_ifP (t' := 7) (pc' := 2) rfl rfl rfl (fun (c : (nI q) < 0) => absurd c (nI_pos (by omega : q < 2 ^ 31))) (fun _ => ?_)
  refine go_s (pc' := 3) rfl rfl rfl rfl ?_
  refine go_s (pc' := 4) rfl rfl rfl rfl ?_
  refine go_icmpP (t' := 7) (pc' := 5) rfl rfl rfl (fun (c : (nI n) ≤ (nI q)) => absurd c (nI_ge hq hn)) (fun _ => ?_)
  refine go_s (pc' := 6) (st' := [.int 1]) rfl rfl rfl rfl ?_
  refine go_s (pc' := 8) rfl rfl rfl rfl ?_
  refine go_ret rfl rfl ?_
  exact ⟨rfl, rfl⟩
theorem ct_within_f {w : Nat → Bool} {d : Nat} {h : am_Hp} {a : Int32} {n : Nat} (hn : a < 0 ∨ nI n ≤ a) (hd : 1 ≤ d) : am_Ev (am_prog w) d 11 [.int a, .int (nI n)] h (fun r h' => r = some (.int 0) ∧ h' = h) := by
  obtain ⟨d, rfl⟩ : ∃ e, d = e + 1 := ⟨d - 1, by omega⟩
  refine ev_go rfl (Nat.le_of_ble_eq_true rfl) rfl ?_
  refine go_s (pc' := 1) rfl rfl rfl rfl ?_
  refine go_ifP (t' := 7) (pc' := 2) rfl rfl rfl (fun (c1 : a < 0) => ?_) (fun (c1 : ¬ a < 0) => ?_)
  · skip
    refine go_s (pc' := 8) (st' := [.int 0]) rfl rfl rfl rfl ?_
    refine go_ret rfl rfl ?_
    exact ⟨rfl, rfl⟩
  · skip
    refine go_s (pc' := 3) rfl rfl rfl rfl ?_
    refine go_s (pc' := 4) rfl rfl rfl rfl ?_
    refine go_icmpP (t' := 7) (pc' := 5) rfl rfl rfl (fun (c2 : (nI n) ≤ a) => ?_) (fun (c2 : ¬ (nI n) ≤ a) => ?_)
    · skip
      refine go_s (pc' := 8) (st' := [.int 0]) rfl rfl rfl rfl ?_
      refine go_ret rfl rfl ?_
      exact ⟨rfl, rfl⟩
    · skip
      refine go_s (pc' := 6) (st' := [.int 1]) rfl rfl rfl rfl ?_
      refine go_s (pc' := 8) rfl rfl rfl rfl ?_
      refine go_ret rfl rfl ?_
      exact (hn.elim (fun z => c1 z) (fun z => c2 z)).elim
def us (I : sm_I) (d : Nat) : Bool := decide (¬ I 4 d = 0) && decide (¬ I 5 d = 0)
def rv (I : sm_I) (d : Nat) : Bool := decide (¬ I 4 d = 0) && decide (I 5 d = 0) && us I (1 - d)
def fbu (I : sm_I) : Int32 := if I 3 0 = 0 then (if I 3 1 = 0 then -1 else 1) else 0
def ohI (I : sm_I) (k : Nat) : Int32 := if k = 0 then (if I 11 0 = 0 then 1 else 0) else (if I 11 k = 2 then 3 else 2)
def pn (I : sm_I) (k : Nat) : Nat := (I 11 k).toNatClampNeg
def lv (I : sm_I) (k : Nat) : Bool := decide (¬ I 11 k = -1) && decide (¬ I 0 (pn I k) = 0)
/-- where the primaries may be -/
def prk (I : sm_I) (k : Nat) : Prop := I 11 k = -1 ∨ I 11 k = (if k = 0 then 0 else 2) ∨ I 11 k = (if k = 0 then 1 else 3)

theorem ct_termAt_0 {w : Nat → Bool} {d : Nat} {h : am_Hp} {I : sm_I} {X : sm_X} (hS : sm tbc h I X) (hd : 2 ≤ d) : am_Ev (am_prog w) d 10 [.ref 1, .int 0] h (fun r h' => r = some (.ref 59) ∧ h' = h) := by
  obtain ⟨d, rfl⟩ : ∃ e, d = e + 1 := ⟨d - 1, by omega⟩
  refine ev_go rfl (Nat.le_of_ble_eq_true rfl) rfl ?_
  refine go_s (pc' := 1) rfl rfl rfl rfl ?_
  refine go_s (pc' := 2) (st' := [.int 2, .int 0]) rfl rfl rfl rfl ?_
  refine go_callS (pc' := 3) rfl rfl rfl (Nat.le_of_ble_eq_true rfl) rfl rfl rfl (ct_within_t (q := 0) (n := 2) (by decide) (by decide) (by omega)) (fun r h1 q2 => ?_)
  obtain ⟨rfl, rfl⟩ := q2
  refine go_ifP (t' := 9) (pc' := 4) rfl rfl rfl (fun (c : (1 : Int32) = 0) => absurd c (by decide)) (fun _ => ?_)
  refine go_s (pc' := 5) rfl rfl rfl rfl ?_
  refine go_sget (pc' := 6) (v := .ref 58) hS rfl rfl rfl (by decide) rfl rfl ?_
  refine go_s (pc' := 7) rfl rfl rfl rfl ?_
  refine go_sald (pc' := 8) (q := 0) (v := .ref 59) hS rfl rfl rfl rfl (by decide) rfl rfl ?_
  refine go_s (pc' := 10) rfl rfl rfl rfl ?_
  refine go_ret rfl rfl ?_
  exact ⟨rfl, rfl⟩
theorem ct_termAt_1 {w : Nat → Bool} {d : Nat} {h : am_Hp} {I : sm_I} {X : sm_X} (hS : sm tbc h I X) (hd : 2 ≤ d) : am_Ev (am_prog w) d 10 [.ref 1, .int 1] h (fun r h' => r = some (.ref 60) ∧ h' = h) := by
  obtain ⟨d, rfl⟩ : ∃ e, d = e + 1 := ⟨d - 1, by omega⟩
  refine ev_go rfl (Nat.le_of_ble_eq_true rfl) rfl ?_
  refine go_s (pc' := 1) rfl rfl rfl rfl ?_
  refine go_s (pc' := 2) (st' := [.int 2, .int 1]) rfl rfl rfl rfl ?_
  refine go_callS (pc' := 3) rfl rfl rfl (Nat.le_of_ble_eq_true rfl) rfl rfl rfl (ct_within_t (q := 1) (n := 2) (by decide) (by decide) (by omega)) (fun r h1 q2 => ?_)
  obtain ⟨rfl, rfl⟩ := q2
  refine go_ifP (t' := 9) (pc' := 4) rfl rfl rfl (fun (c : (1 : Int32) = 0) => absurd c (by decide)) (fun _ => ?_)
  refine go_s (pc' := 5) rfl rfl rfl rfl ?_
  refine go_sget (pc' := 6) (v := .ref 58) hS rfl rfl rfl (by decide) rfl rfl ?_
  refine go_s (pc' := 7) rfl rfl rfl rfl ?_
  refine go_sald (pc' := 8) (q := 1) (v := .ref 60) hS rfl rfl rfl rfl (by decide) rfl rfl ?_
  refine go_s (pc' := 10) rfl rfl rfl rfl ?_
  refine go_ret rfl rfl ?_
  exact ⟨rfl, rfl⟩
theorem ct_termAt_f {w : Nat → Bool} {d : Nat} {h : am_Hp} {I : sm_I} {X : sm_X} (hS : sm tbc h I X) {a : Int32} (hn : a < 0 ∨ nI 2 ≤ a) (hd : 2 ≤ d) : am_Ev (am_prog w) d 10 [.ref 1, .int a] h (fun r h' => r = some (.null) ∧ h' = h) := by
  obtain ⟨d, rfl⟩ : ∃ e, d = e + 1 := ⟨d - 1, by omega⟩
  refine ev_go rfl (Nat.le_of_ble_eq_true rfl) rfl ?_
  refine go_s (pc' := 1) rfl rfl rfl rfl ?_
  refine go_s (pc' := 2) (st' := [.int 2, .int a]) rfl rfl rfl rfl ?_
  refine go_callS (pc' := 3) rfl rfl rfl (Nat.le_of_ble_eq_true rfl) rfl rfl rfl (ct_within_f (a := a) (n := 2) hn (by omega)) (fun r h1 q2 => ?_)
  obtain ⟨rfl, rfl⟩ := q2
  refine go_ifP (t' := 9) (pc' := 4) rfl rfl rfl (fun _ => ?_) (fun (c : ¬ ((0 : Int32) = 0)) => absurd (by decide) c)
  refine go_s (pc' := 10) rfl rfl rfl rfl ?_
  refine go_ret rfl rfl ?_
  exact ⟨rfl, rfl⟩
theorem ct_works_0 {w : Nat → Bool} {d : Nat} {h : am_Hp} {I : sm_I} {X : sm_X} (hS : sm tbc h I X) (hp : prk I 0) (hd : 2 ≤ d) : am_Ev (am_prog w) d 12 [.ref 1, .ref 32] h (fun r h' => r = some (.int (b2i (lv I 0))) ∧ h' = h) := by
  obtain ⟨d, rfl⟩ : ∃ e, d = e + 1 := ⟨d - 1, by omega⟩
  refine ev_go rfl (Nat.le_of_ble_eq_true rfl) rfl ?_
  rcases hp with e | e | e
  · skip
    refine go_s (pc' := 1) rfl rfl rfl rfl ?_
    refine go_sget (pc' := 2) (v := .int (-1)) hS rfl rfl rfl (by decide) (congrArg Value.int e) rfl ?_
    refine go_s (pc' := 3) (st' := [.int 4, .int (-1)]) rfl rfl rfl rfl ?_
    refine go_callS (pc' := 4) rfl rfl rfl (Nat.le_of_ble_eq_true rfl) rfl rfl rfl (ct_within_f (a := (-1)) (n := 4) (by decide) (by omega)) (fun r h1 q2 => ?_)
    obtain ⟨rfl, rfl⟩ := q2
    refine go_ifP (t' := 14) (pc' := 5) rfl rfl rfl (fun _ => ?_) (fun (c : ¬ ((0 : Int32) = 0)) => absurd (by decide) c)
    refine go_s (pc' := 15) (st' := [.int 0]) rfl rfl rfl rfl ?_
    refine go_ret rfl rfl ?_
    exact ⟨by simp [b2i, lv, pn, e], rfl⟩
  · skip
    refine go_s (pc' := 1) rfl rfl rfl rfl ?_
    refine go_sget (pc' := 2) (v := .int 0) hS rfl rfl rfl (by decide) (congrArg Value.int e) rfl ?_
    refine go_s (pc' := 3) (st' := [.int 4, .int 0]) rfl rfl rfl rfl ?_
    refine go_callS (pc' := 4) rfl rfl rfl (Nat.le_of_ble_eq_true rfl) rfl rfl rfl (ct_within_t (q := 0) (n := 4) (by decide) (by decide) (by omega)) (fun r h3 q4 => ?_)
    obtain ⟨rfl, rfl⟩ := q4
    refine go_ifP (t' := 14) (pc' := 5) rfl rfl rfl (fun (c : (1 : Int32) = 0) => absurd c (by decide)) (fun _ => ?_)
    refine go_s (pc' := 6) rfl rfl rfl rfl ?_
    refine go_sget (pc' := 7) (v := .ref 2) hS rfl rfl rfl (by decide) rfl rfl ?_
    refine go_sget (pc' := 8) (v := .ref 3) hS rfl rfl rfl (by decide) rfl rfl ?_
    refine go_s (pc' := 9) rfl rfl rfl rfl ?_
    refine go_sget (pc' := 10) (v := .int 0) hS rfl rfl rfl (by decide) (congrArg Value.int e) rfl ?_
    refine go_sald (pc' := 11) (q := 0) (v := .int (I 0 0)) hS rfl rfl rfl rfl (by decide) rfl rfl ?_
    refine go_ifP (t' := 14) (pc' := 12) rfl rfl rfl (fun (c5 : (I 0 0) = 0) => ?_) (fun (c5 : ¬ (I 0 0) = 0) => ?_)
    · skip
      refine go_s (pc' := 15) (st' := [.int 0]) rfl rfl rfl rfl ?_
      refine go_ret rfl rfl ?_
      exact ⟨by simp [b2i, lv, pn, e, c5], rfl⟩
    · skip
      refine go_s (pc' := 13) (st' := [.int 1]) rfl rfl rfl rfl ?_
      refine go_s (pc' := 15) rfl rfl rfl rfl ?_
      refine go_ret rfl rfl ?_
      exact ⟨by simp [b2i, lv, pn, e, c5], rfl⟩
  · skip
    refine go_s (pc' := 1) rfl rfl rfl rfl ?_
    refine go_sget (pc' := 2) (v := .int 1) hS rfl rfl rfl (by decide) (congrArg Value.int e) rfl ?_
    refine go_s (pc' := 3) (st' := [.int 4, .int 1]) rfl rfl rfl rfl ?_
    refine go_callS (pc' := 4) rfl rfl rfl (Nat.le_of_ble_eq_true rfl) rfl rfl rfl (ct_within_t (q := 1) (n := 4) (by decide) (by decide) (by omega)) (fun r h6 q7 => ?_)
    obtain ⟨rfl, rfl⟩ := q7
    refine go_ifP (t' := 14) (pc' := 5) rfl rfl rfl (fun (c : (1 : Int32) = 0) => absurd c (by decide)) (fun _ => ?_)
    refine go_s (pc' := 6) rfl rfl rfl rfl ?_
    refine go_sget (pc' := 7) (v := .ref 2) hS rfl rfl rfl (by decide) rfl rfl ?_
    refine go_sget (pc' := 8) (v := .ref 3) hS rfl rfl rfl (by decide) rfl rfl ?_
    refine go_s (pc' := 9) rfl rfl rfl rfl ?_
    refine go_sget (pc' := 10) (v := .int 1) hS rfl rfl rfl (by decide) (congrArg Value.int e) rfl ?_
    refine go_sald (pc' := 11) (q := 1) (v := .int (I 0 1)) hS rfl rfl rfl rfl (by decide) rfl rfl ?_
    refine go_ifP (t' := 14) (pc' := 12) rfl rfl rfl (fun (c8 : (I 0 1) = 0) => ?_) (fun (c8 : ¬ (I 0 1) = 0) => ?_)
    · skip
      refine go_s (pc' := 15) (st' := [.int 0]) rfl rfl rfl rfl ?_
      refine go_ret rfl rfl ?_
      exact ⟨by simp [b2i, lv, pn, e, c8], rfl⟩
    · skip
      refine go_s (pc' := 13) (st' := [.int 1]) rfl rfl rfl rfl ?_
      refine go_s (pc' := 15) rfl rfl rfl rfl ?_
      refine go_ret rfl rfl ?_
      exact ⟨by simp [b2i, lv, pn, e, c8], rfl⟩
theorem ct_works_1 {w : Nat → Bool} {d : Nat} {h : am_Hp} {I : sm_I} {X : sm_X} (hS : sm tbc h I X) (hp : prk I 1) (hd : 2 ≤ d) : am_Ev (am_prog w) d 12 [.ref 1, .ref 59] h (fun r h' => r = some (.int (b2i (lv I 1))) ∧ h' = h) := by
  obtain ⟨d, rfl⟩ : ∃ e, d = e + 1 := ⟨d - 1, by omega⟩
  refine ev_go rfl (Nat.le_of_ble_eq_true rfl) rfl ?_
  rcases hp with e | e | e
  · skip
    refine go_s (pc' := 1) rfl rfl rfl rfl ?_
    refine go_sget (pc' := 2) (v := .int (-1)) hS rfl rfl rfl (by decide) (congrArg Value.int e) rfl ?_
    refine go_s (pc' := 3) (st' := [.int 4, .int (-1)]) rfl rfl rfl rfl ?_
    refine go_callS (pc' := 4) rfl rfl rfl (Nat.le_of_ble_eq_true rfl) rfl rfl rfl (ct_within_f (a := (-1)) (n := 4) (by decide) (by omega)) (fun r h1 q2 => ?_)
    obtain ⟨rfl, rfl⟩ := q2
    refine go_ifP (t' := 14) (pc' := 5) rfl rfl rfl (fun _ => ?_) (fun (c : ¬ ((0 : Int32) = 0)) => absurd (by decide) c)
    refine go_s (pc' := 15) (st' := [.int 0]) rfl rfl rfl rfl ?_
    refine go_ret rfl rfl ?_
    exact ⟨by simp [b2i, lv, pn, e], rfl⟩
  · skip
    refine go_s (pc' := 1) rfl rfl rfl rfl ?_
    refine go_sget (pc' := 2) (v := .int 2) hS rfl rfl rfl (by decide) (congrArg Value.int e) rfl ?_
    refine go_s (pc' := 3) (st' := [.int 4, .int 2]) rfl rfl rfl rfl ?_
    refine go_callS (pc' := 4) rfl rfl rfl (Nat.le_of_ble_eq_true rfl) rfl rfl rfl (ct_within_t (q := 2) (n := 4) (by decide) (by decide) (by omega)) (fun r h3 q4 => ?_)
    obtain ⟨rfl, rfl⟩ := q4
    refine go_ifP (t' := 14) (pc' := 5) rfl rfl rfl (fun (c : (1 : Int32) = 0) => absurd c (by decide)) (fun _ => ?_)
    refine go_s (pc' := 6) rfl rfl rfl rfl ?_
    refine go_sget (pc' := 7) (v := .ref 2) hS rfl rfl rfl (by decide) rfl rfl ?_
    refine go_sget (pc' := 8) (v := .ref 3) hS rfl rfl rfl (by decide) rfl rfl ?_
    refine go_s (pc' := 9) rfl rfl rfl rfl ?_
    refine go_sget (pc' := 10) (v := .int 2) hS rfl rfl rfl (by decide) (congrArg Value.int e) rfl ?_
    refine go_sald (pc' := 11) (q := 2) (v := .int (I 0 2)) hS rfl rfl rfl rfl (by decide) rfl rfl ?_
    refine go_ifP (t' := 14) (pc' := 12) rfl rfl rfl (fun (c5 : (I 0 2) = 0) => ?_) (fun (c5 : ¬ (I 0 2) = 0) => ?_)
    · skip
      refine go_s (pc' := 15) (st' := [.int 0]) rfl rfl rfl rfl ?_
      refine go_ret rfl rfl ?_
      exact ⟨by simp [b2i, lv, pn, e, c5], rfl⟩
    · skip
      refine go_s (pc' := 13) (st' := [.int 1]) rfl rfl rfl rfl ?_
      refine go_s (pc' := 15) rfl rfl rfl rfl ?_
      refine go_ret rfl rfl ?_
      exact ⟨by simp [b2i, lv, pn, e, c5], rfl⟩
  · skip
    refine go_s (pc' := 1) rfl rfl rfl rfl ?_
    refine go_sget (pc' := 2) (v := .int 3) hS rfl rfl rfl (by decide) (congrArg Value.int e) rfl ?_
    refine go_s (pc' := 3) (st' := [.int 4, .int 3]) rfl rfl rfl rfl ?_
    refine go_callS (pc' := 4) rfl rfl rfl (Nat.le_of_ble_eq_true rfl) rfl rfl rfl (ct_within_t (q := 3) (n := 4) (by decide) (by decide) (by omega)) (fun r h6 q7 => ?_)
    obtain ⟨rfl, rfl⟩ := q7
    refine go_ifP (t' := 14) (pc' := 5) rfl rfl rfl (fun (c : (1 : Int32) = 0) => absurd c (by decide)) (fun _ => ?_)
    refine go_s (pc' := 6) rfl rfl rfl rfl ?_
    refine go_sget (pc' := 7) (v := .ref 2) hS rfl rfl rfl (by decide) rfl rfl ?_
    refine go_sget (pc' := 8) (v := .ref 3) hS rfl rfl rfl (by decide) rfl rfl ?_
    refine go_s (pc' := 9) rfl rfl rfl rfl ?_
    refine go_sget (pc' := 10) (v := .int 3) hS rfl rfl rfl (by decide) (congrArg Value.int e) rfl ?_
    refine go_sald (pc' := 11) (q := 3) (v := .int (I 0 3)) hS rfl rfl rfl rfl (by decide) rfl rfl ?_
    refine go_ifP (t' := 14) (pc' := 12) rfl rfl rfl (fun (c8 : (I 0 3) = 0) => ?_) (fun (c8 : ¬ (I 0 3) = 0) => ?_)
    · skip
      refine go_s (pc' := 15) (st' := [.int 0]) rfl rfl rfl rfl ?_
      refine go_ret rfl rfl ?_
      exact ⟨by simp [b2i, lv, pn, e, c8], rfl⟩
    · skip
      refine go_s (pc' := 13) (st' := [.int 1]) rfl rfl rfl rfl ?_
      refine go_s (pc' := 15) rfl rfl rfl rfl ?_
      refine go_ret rfl rfl ?_
      exact ⟨by simp [b2i, lv, pn, e, c8], rfl⟩
theorem ct_works_2 {w : Nat → Bool} {d : Nat} {h : am_Hp} {I : sm_I} {X : sm_X} (hS : sm tbc h I X) (hp : prk I 2) (hd : 2 ≤ d) : am_Ev (am_prog w) d 12 [.ref 1, .ref 60] h (fun r h' => r = some (.int (b2i (lv I 2))) ∧ h' = h) := by
  obtain ⟨d, rfl⟩ : ∃ e, d = e + 1 := ⟨d - 1, by omega⟩
  refine ev_go rfl (Nat.le_of_ble_eq_true rfl) rfl ?_
  rcases hp with e | e | e
  · skip
    refine go_s (pc' := 1) rfl rfl rfl rfl ?_
    refine go_sget (pc' := 2) (v := .int (-1)) hS rfl rfl rfl (by decide) (congrArg Value.int e) rfl ?_
    refine go_s (pc' := 3) (st' := [.int 4, .int (-1)]) rfl rfl rfl rfl ?_
    refine go_callS (pc' := 4) rfl rfl rfl (Nat.le_of_ble_eq_true rfl) rfl rfl rfl (ct_within_f (a := (-1)) (n := 4) (by decide) (by omega)) (fun r h1 q2 => ?_)
    obtain ⟨rfl, rfl⟩ := q2
    refine go_ifP (t' := 14) (pc' := 5) rfl rfl rfl (fun _ => ?_) (fun (c : ¬ ((0 : Int32) = 0)) => absurd (by decide) c)
    refine go_s (pc' := 15) (st' := [.int 0]) rfl rfl rfl rfl ?_
    refine go_ret rfl rfl ?_
    exact ⟨by simp [b2i, lv, pn, e], rfl⟩
  · skip
    refine go_s (pc' := 1) rfl rfl rfl rfl ?_
    refine go_sget (pc' := 2) (v := .int 2) hS rfl rfl rfl (by decide) (congrArg Value.int e) rfl ?_
    refine go_s (pc' := 3) (st' := [.int 4, .int 2]) rfl rfl rfl rfl ?_
    refine go_callS (pc' := 4) rfl rfl rfl (Nat.le_of_ble_eq_true rfl) rfl rfl rfl (ct_within_t (q := 2) (n := 4) (by decide) (by decide) (by omega)) (fun r h3 q4 => ?_)
    obtain ⟨rfl, rfl⟩ := q4
    refine go_ifP (t' := 14) (pc' := 5) rfl rfl rfl (fun (c : (1 : Int32) = 0) => absurd c (by decide)) (fun _ => ?_)
    refine go_s (pc' := 6) rfl rfl rfl rfl ?_
    refine go_sget (pc' := 7) (v := .ref 2) hS rfl rfl rfl (by decide) rfl rfl ?_
    refine go_sget (pc' := 8) (v := .ref 3) hS rfl rfl rfl (by decide) rfl rfl ?_
    refine go_s (pc' := 9) rfl rfl rfl rfl ?_
    refine go_sget (pc' := 10) (v := .int 2) hS rfl rfl rfl (by decide) (congrArg Value.int e) rfl ?_
    refine go_sald (pc' := 11) (q := 2) (v := .int (I 0 2)) hS rfl rfl rfl rfl (by decide) rfl rfl ?_
    refine go_ifP (t' := 14) (pc' := 12) rfl rfl rfl (fun (c5 : (I 0 2) = 0) => ?_) (fun (c5 : ¬ (I 0 2) = 0) => ?_)
    · skip
      refine go_s (pc' := 15) (st' := [.int 0]) rfl rfl rfl rfl ?_
      refine go_ret rfl rfl ?_
      exact ⟨by simp [b2i, lv, pn, e, c5], rfl⟩
    · skip
      refine go_s (pc' := 13) (st' := [.int 1]) rfl rfl rfl rfl ?_
      refine go_s (pc' := 15) rfl rfl rfl rfl ?_
      refine go_ret rfl rfl ?_
      exact ⟨by simp [b2i, lv, pn, e, c5], rfl⟩
  · skip
    refine go_s (pc' := 1) rfl rfl rfl rfl ?_
    refine go_sget (pc' := 2) (v := .int 3) hS rfl rfl rfl (by decide) (congrArg Value.int e) rfl ?_
    refine go_s (pc' := 3) (st' := [.int 4, .int 3]) rfl rfl rfl rfl ?_
    refine go_callS (pc' := 4) rfl rfl rfl (Nat.le_of_ble_eq_true rfl) rfl rfl rfl (ct_within_t (q := 3) (n := 4) (by decide) (by decide) (by omega)) (fun r h6 q7 => ?_)
    obtain ⟨rfl, rfl⟩ := q7
    refine go_ifP (t' := 14) (pc' := 5) rfl rfl rfl (fun (c : (1 : Int32) = 0) => absurd c (by decide)) (fun _ => ?_)
    refine go_s (pc' := 6) rfl rfl rfl rfl ?_
    refine go_sget (pc' := 7) (v := .ref 2) hS rfl rfl rfl (by decide) rfl rfl ?_
    refine go_sget (pc' := 8) (v := .ref 3) hS rfl rfl rfl (by decide) rfl rfl ?_
    refine go_s (pc' := 9) rfl rfl rfl rfl ?_
    refine go_sget (pc' := 10) (v := .int 3) hS rfl rfl rfl (by decide) (congrArg Value.int e) rfl ?_
    refine go_sald (pc' := 11) (q := 3) (v := .int (I 0 3)) hS rfl rfl rfl rfl (by decide) rfl rfl ?_
    refine go_ifP (t' := 14) (pc' := 12) rfl rfl rfl (fun (c8 : (I 0 3) = 0) => ?_) (fun (c8 : ¬ (I 0 3) = 0) => ?_)
    · skip
      refine go_s (pc' := 15) (st' := [.int 0]) rfl rfl rfl rfl ?_
      refine go_ret rfl rfl ?_
      exact ⟨by simp [b2i, lv, pn, e, c8], rfl⟩
    · skip
      refine go_s (pc' := 13) (st' := [.int 1]) rfl rfl rfl rfl ?_
      refine go_s (pc' := 15) rfl rfl rfl rfl ?_
      refine go_ret rfl rfl ?_
      exact ⟨by simp [b2i, lv, pn, e, c8], rfl⟩
theorem ct_oh_0 {w : Nat → Bool} {d : Nat} {h : am_Hp} {I : sm_I} {X : sm_X} (hS : sm tbc h I X) (hd : 1 ≤ d) : am_Ev (am_prog w) d 23 [.ref 32] h (fun r h' => r = some (.int (ohI I 0)) ∧ h' = h) := by
  obtain ⟨d, rfl⟩ : ∃ e, d = e + 1 := ⟨d - 1, by omega⟩
  refine ev_go rfl (Nat.le_of_ble_eq_true rfl) rfl ?_
  refine go_s (pc' := 1) rfl rfl rfl rfl ?_
  refine go_sget (pc' := 2) (v := .int (I 11 0)) hS rfl rfl rfl (by decide) rfl rfl ?_
  refine go_s (pc' := 3) rfl rfl rfl rfl ?_
  refine go_sget (pc' := 4) (v := .int 0) hS rfl rfl rfl (by decide) rfl rfl ?_
  refine go_icmpP (t' := 10) (pc' := 5) rfl rfl rfl (fun (c1 : ¬ (I 11 0) = 0) => ?_) (fun (c1' : ¬ ¬ (I 11 0) = 0) => ?_)
  · skip
    refine go_s (pc' := 11) rfl rfl rfl rfl ?_
    refine go_sget (pc' := 12) (v := .int 0) hS rfl rfl rfl (by decide) rfl rfl ?_
    refine go_ret rfl rfl ?_
    exact ⟨by simp [ohI, c1], rfl⟩
  · skip
    have c1 : (I 11 0) = 0 := Decidable.not_not.mp c1'
    refine go_s (pc' := 6) rfl rfl rfl rfl ?_
    refine go_sget (pc' := 7) (v := .int 0) hS rfl rfl rfl (by decide) rfl rfl ?_
    refine go_s (pc' := 8) (st' := [.int 1, .int 0]) rfl rfl rfl rfl ?_
    refine go_s (pc' := 9) (st' := [.int 1]) rfl rfl rfl (by simp only [am_x, am_bin]; rfl) ?_
    refine go_s (pc' := 12) rfl rfl rfl rfl ?_
    refine go_ret rfl rfl ?_
    exact ⟨by simp [ohI, c1], rfl⟩
theorem ct_oh_1 {w : Nat → Bool} {d : Nat} {h : am_Hp} {I : sm_I} {X : sm_X} (hS : sm tbc h I X) (hd : 1 ≤ d) : am_Ev (am_prog w) d 23 [.ref 59] h (fun r h' => r = some (.int (ohI I 1)) ∧ h' = h) := by
  obtain ⟨d, rfl⟩ : ∃ e, d = e + 1 := ⟨d - 1, by omega⟩
  refine ev_go rfl (Nat.le_of_ble_eq_true rfl) rfl ?_
  refine go_s (pc' := 1) rfl rfl rfl rfl ?_
  refine go_sget (pc' := 2) (v := .int (I 11 1)) hS rfl rfl rfl (by decide) rfl rfl ?_
  refine go_s (pc' := 3) rfl rfl rfl rfl ?_
  refine go_sget (pc' := 4) (v := .int 2) hS rfl rfl rfl (by decide) rfl rfl ?_
  refine go_icmpP (t' := 10) (pc' := 5) rfl rfl rfl (fun (c1 : ¬ (I 11 1) = 2) => ?_) (fun (c1' : ¬ ¬ (I 11 1) = 2) => ?_)
  · skip
    refine go_s (pc' := 11) rfl rfl rfl rfl ?_
    refine go_sget (pc' := 12) (v := .int 2) hS rfl rfl rfl (by decide) rfl rfl ?_
    refine go_ret rfl rfl ?_
    exact ⟨by simp [ohI, c1], rfl⟩
  · skip
    have c1 : (I 11 1) = 2 := Decidable.not_not.mp c1'
    refine go_s (pc' := 6) rfl rfl rfl rfl ?_
    refine go_sget (pc' := 7) (v := .int 2) hS rfl rfl rfl (by decide) rfl rfl ?_
    refine go_s (pc' := 8) (st' := [.int 1, .int 2]) rfl rfl rfl rfl ?_
    refine go_s (pc' := 9) (st' := [.int 3]) rfl rfl rfl (by simp only [am_x, am_bin]; rfl) ?_
    refine go_s (pc' := 12) rfl rfl rfl rfl ?_
    refine go_ret rfl rfl ?_
    exact ⟨by simp [ohI, c1], rfl⟩
theorem ct_oh_2 {w : Nat → Bool} {d : Nat} {h : am_Hp} {I : sm_I} {X : sm_X} (hS : sm tbc h I X) (hd : 1 ≤ d) : am_Ev (am_prog w) d 23 [.ref 60] h (fun r h' => r = some (.int (ohI I 2)) ∧ h' = h) := by
  obtain ⟨d, rfl⟩ : ∃ e, d = e + 1 := ⟨d - 1, by omega⟩
  refine ev_go rfl (Nat.le_of_ble_eq_true rfl) rfl ?_
  refine go_s (pc' := 1) rfl rfl rfl rfl ?_
  refine go_sget (pc' := 2) (v := .int (I 11 2)) hS rfl rfl rfl (by decide) rfl rfl ?_
  refine go_s (pc' := 3) rfl rfl rfl rfl ?_
  refine go_sget (pc' := 4) (v := .int 2) hS rfl rfl rfl (by decide) rfl rfl ?_
  refine go_icmpP (t' := 10) (pc' := 5) rfl rfl rfl (fun (c1 : ¬ (I 11 2) = 2) => ?_) (fun (c1' : ¬ ¬ (I 11 2) = 2) => ?_)
  · skip
    refine go_s (pc' := 11) rfl rfl rfl rfl ?_
    refine go_sget (pc' := 12) (v := .int 2) hS rfl rfl rfl (by decide) rfl rfl ?_
    refine go_ret rfl rfl ?_
    exact ⟨by simp [ohI, c1], rfl⟩
  · skip
    have c1 : (I 11 2) = 2 := Decidable.not_not.mp c1'
    refine go_s (pc' := 6) rfl rfl rfl rfl ?_
    refine go_sget (pc' := 7) (v := .int 2) hS rfl rfl rfl (by decide) rfl rfl ?_
    refine go_s (pc' := 8) (st' := [.int 1, .int 2]) rfl rfl rfl rfl ?_
    refine go_s (pc' := 9) (st' := [.int 3]) rfl rfl rfl (by simp only [am_x, am_bin]; rfl) ?_
    refine go_s (pc' := 12) rfl rfl rfl rfl ?_
    refine go_ret rfl rfl ?_
    exact ⟨by simp [ohI, c1], rfl⟩
theorem ct_fbu {w : Nat → Bool} {d : Nat} {h : am_Hp} {I : sm_I} {X : sm_X} (hS : sm tbc h I X) (hd : 1 ≤ d) : am_Ev (am_prog w) d 27 [.ref 2] h (fun r h' => r = some (.int (fbu I)) ∧ h' = h) := by
  obtain ⟨d, rfl⟩ : ∃ e, d = e + 1 := ⟨d - 1, by omega⟩
  refine ev_go rfl (Nat.le_of_ble_eq_true rfl) rfl ?_
  refine go_s (pc' := 1) rfl rfl rfl rfl ?_
  refine go_sget (pc' := 2) (v := .ref 6) hS rfl rfl rfl (by decide) rfl rfl ?_
  refine go_s (pc' := 3) (st' := [.int 0, .ref 6]) rfl rfl rfl rfl ?_
  refine go_sald (pc' := 4) (q := 0) (v := .int (I 3 0)) hS rfl rfl rfl rfl (by decide) rfl rfl ?_
  refine go_ifP (t' := 7) (pc' := 5) rfl rfl rfl (fun (c1 : (I 3 0) = 0) => ?_) (fun (c1 : ¬ (I 3 0) = 0) => ?_)
  · skip
    refine go_s (pc' := 8) rfl rfl rfl rfl ?_
    refine go_sget (pc' := 9) (v := .ref 6) hS rfl rfl rfl (by decide) rfl rfl ?_
    refine go_s (pc' := 10) (st' := [.int 1, .ref 6]) rfl rfl rfl rfl ?_
    refine go_sald (pc' := 11) (q := 1) (v := .int (I 3 1)) hS rfl rfl rfl rfl (by decide) rfl rfl ?_
    refine go_ifP (t' := 14) (pc' := 12) rfl rfl rfl (fun (c2 : (I 3 1) = 0) => ?_) (fun (c2 : ¬ (I 3 1) = 0) => ?_)
    · skip
      refine go_s (pc' := 15) (st' := [.int (-1)]) rfl rfl rfl rfl ?_
      refine go_ret rfl rfl ?_
      exact ⟨by simp [fbu, c1, c2], rfl⟩
    · skip
      refine go_s (pc' := 13) (st' := [.int 1]) rfl rfl rfl rfl ?_
      refine go_s (pc' := 15) rfl rfl rfl rfl ?_
      refine go_ret rfl rfl ?_
      exact ⟨by simp [fbu, c1, c2], rfl⟩
  · skip
    refine go_s (pc' := 6) (st' := [.int 0]) rfl rfl rfl rfl ?_
    refine go_ret rfl rfl ?_
    exact ⟨by simp [fbu, c1], rfl⟩
theorem ct_us_0 {w : Nat → Bool} {d : Nat} {h : am_Hp} {I : sm_I} {X : sm_X} (hS : sm tbc h I X) (hd : 1 ≤ d) : am_Ev (am_prog w) d 43 [.ref 24, .int 0] h (fun r h' => r = some (.int (b2i (us I 0))) ∧ h' = h) := by
  obtain ⟨d, rfl⟩ : ∃ e, d = e + 1 := ⟨d - 1, by omega⟩
  refine ev_go rfl (Nat.le_of_ble_eq_true rfl) rfl ?_
  refine go_s (pc' := 1) rfl rfl rfl rfl ?_
  refine go_sget (pc' := 2) (v := .ref 25) hS rfl rfl rfl (by decide) rfl rfl ?_
  refine go_s (pc' := 3) rfl rfl rfl rfl ?_
  refine go_sald (pc' := 4) (q := 0) (v := .int (I 4 0)) hS rfl rfl rfl rfl (by decide) rfl rfl ?_
  refine go_ifP (t' := 12) (pc' := 5) rfl rfl rfl (fun (c1 : (I 4 0) = 0) => ?_) (fun (c1 : ¬ (I 4 0) = 0) => ?_)
  · skip
    refine go_s (pc' := 13) (st' := [.int 0]) rfl rfl rfl rfl ?_
    refine go_ret rfl rfl ?_
    exact ⟨by simp [us, b2i, c1], rfl⟩
  · skip
    refine go_s (pc' := 6) rfl rfl rfl rfl ?_
    refine go_sget (pc' := 7) (v := .ref 26) hS rfl rfl rfl (by decide) rfl rfl ?_
    refine go_s (pc' := 8) rfl rfl rfl rfl ?_
    refine go_sald (pc' := 9) (q := 0) (v := .int (I 5 0)) hS rfl rfl rfl rfl (by decide) rfl rfl ?_
    refine go_ifP (t' := 12) (pc' := 10) rfl rfl rfl (fun (c2 : (I 5 0) = 0) => ?_) (fun (c2 : ¬ (I 5 0) = 0) => ?_)
    · skip
      refine go_s (pc' := 13) (st' := [.int 0]) rfl rfl rfl rfl ?_
      refine go_ret rfl rfl ?_
      exact ⟨by simp [us, b2i, c1, c2], rfl⟩
    · skip
      refine go_s (pc' := 11) (st' := [.int 1]) rfl rfl rfl rfl ?_
      refine go_s (pc' := 13) rfl rfl rfl rfl ?_
      refine go_ret rfl rfl ?_
      exact ⟨by simp [us, b2i, c1, c2], rfl⟩
theorem ct_us_1 {w : Nat → Bool} {d : Nat} {h : am_Hp} {I : sm_I} {X : sm_X} (hS : sm tbc h I X) (hd : 1 ≤ d) : am_Ev (am_prog w) d 43 [.ref 24, .int 1] h (fun r h' => r = some (.int (b2i (us I 1))) ∧ h' = h) := by
  obtain ⟨d, rfl⟩ : ∃ e, d = e + 1 := ⟨d - 1, by omega⟩
  refine ev_go rfl (Nat.le_of_ble_eq_true rfl) rfl ?_
  refine go_s (pc' := 1) rfl rfl rfl rfl ?_
  refine go_sget (pc' := 2) (v := .ref 25) hS rfl rfl rfl (by decide) rfl rfl ?_
  refine go_s (pc' := 3) rfl rfl rfl rfl ?_
  refine go_sald (pc' := 4) (q := 1) (v := .int (I 4 1)) hS rfl rfl rfl rfl (by decide) rfl rfl ?_
  refine go_ifP (t' := 12) (pc' := 5) rfl rfl rfl (fun (c1 : (I 4 1) = 0) => ?_) (fun (c1 : ¬ (I 4 1) = 0) => ?_)
  · skip
    refine go_s (pc' := 13) (st' := [.int 0]) rfl rfl rfl rfl ?_
    refine go_ret rfl rfl ?_
    exact ⟨by simp [us, b2i, c1], rfl⟩
  · skip
    refine go_s (pc' := 6) rfl rfl rfl rfl ?_
    refine go_sget (pc' := 7) (v := .ref 26) hS rfl rfl rfl (by decide) rfl rfl ?_
    refine go_s (pc' := 8) rfl rfl rfl rfl ?_
    refine go_sald (pc' := 9) (q := 1) (v := .int (I 5 1)) hS rfl rfl rfl rfl (by decide) rfl rfl ?_
    refine go_ifP (t' := 12) (pc' := 10) rfl rfl rfl (fun (c2 : (I 5 1) = 0) => ?_) (fun (c2 : ¬ (I 5 1) = 0) => ?_)
    · skip
      refine go_s (pc' := 13) (st' := [.int 0]) rfl rfl rfl rfl ?_
      refine go_ret rfl rfl ?_
      exact ⟨by simp [us, b2i, c1, c2], rfl⟩
    · skip
      refine go_s (pc' := 11) (st' := [.int 1]) rfl rfl rfl rfl ?_
      refine go_s (pc' := 13) rfl rfl rfl rfl ?_
      refine go_ret rfl rfl ?_
      exact ⟨by simp [us, b2i, c1, c2], rfl⟩
theorem ct_rv_0 {w : Nat → Bool} {d : Nat} {h : am_Hp} {I : sm_I} {X : sm_X} (hS : sm tbc h I X) (hd : 2 ≤ d) : am_Ev (am_prog w) d 93 [.ref 24, .int 0] h (fun r h' => r = some (.int (b2i (rv I 0))) ∧ h' = h) := by
  obtain ⟨d, rfl⟩ : ∃ e, d = e + 1 := ⟨d - 1, by omega⟩
  refine ev_go rfl (Nat.le_of_ble_eq_true rfl) rfl ?_
  refine go_s (pc' := 1) rfl rfl rfl rfl ?_
  refine go_sget (pc' := 2) (v := .ref 25) hS rfl rfl rfl (by decide) rfl rfl ?_
  refine go_s (pc' := 3) rfl rfl rfl rfl ?_
  refine go_sald (pc' := 4) (q := 0) (v := .int (I 4 0)) hS rfl rfl rfl rfl (by decide) rfl rfl ?_
  refine go_ifP (t' := 18) (pc' := 5) rfl rfl rfl (fun (c1 : (I 4 0) = 0) => ?_) (fun (c1 : ¬ (I 4 0) = 0) => ?_)
  · skip
    refine go_s (pc' := 19) (st' := [.int 0]) rfl rfl rfl rfl ?_
    refine go_ret rfl rfl ?_
    exact ⟨by simp [rv, b2i, c1], rfl⟩
  · skip
    refine go_s (pc' := 6) rfl rfl rfl rfl ?_
    refine go_sget (pc' := 7) (v := .ref 26) hS rfl rfl rfl (by decide) rfl rfl ?_
    refine go_s (pc' := 8) rfl rfl rfl rfl ?_
    refine go_sald (pc' := 9) (q := 0) (v := .int (I 5 0)) hS rfl rfl rfl rfl (by decide) rfl rfl ?_
    refine go_ifP (t' := 18) (pc' := 10) rfl rfl rfl (fun (c2 : ¬ (I 5 0) = 0) => ?_) (fun (c2' : ¬ ¬ (I 5 0) = 0) => ?_)
    · skip
      refine go_s (pc' := 19) (st' := [.int 0]) rfl rfl rfl rfl ?_
      refine go_ret rfl rfl ?_
      exact ⟨by simp [rv, b2i, c1, c2], rfl⟩
    · skip
      have c2 : (I 5 0) = 0 := Decidable.not_not.mp c2'
      refine go_s (pc' := 11) rfl rfl rfl rfl ?_
      refine go_s (pc' := 12) (st' := [.int 1, .ref 24]) rfl rfl rfl rfl ?_
      refine go_s (pc' := 13) rfl rfl rfl rfl ?_
      refine go_s (pc' := 14) (st' := [.int 1, .ref 24]) rfl rfl rfl (by simp only [am_x, am_bin]; rfl) ?_
      refine go_callV (pc' := 15) rfl rfl rfl (Nat.le_of_ble_eq_true rfl) rfl (sm_o hS rfl) rfl rfl rfl (ct_us_1 hS (by omega)) (fun r h3 q4 => ?_)
      obtain ⟨rfl, rfl⟩ := q4
      cases u5 : us I 1
      · skip
        show am_Go _ _ _ _ 15 _ [.int 0] _ _
        refine go_ifP (t' := 18) (pc' := 16) rfl rfl rfl (fun _ => ?_) (fun (c : ¬ ((0 : Int32) = 0)) => absurd (by decide) c)
        refine go_s (pc' := 19) (st' := [.int 0]) rfl rfl rfl rfl ?_
        refine go_ret rfl rfl ?_
        exact ⟨by simp [rv, b2i, c1, c2, u5], rfl⟩
      · skip
        show am_Go _ _ _ _ 15 _ [.int 1] _ _
        refine go_ifP (t' := 18) (pc' := 16) rfl rfl rfl (fun (c : (1 : Int32) = 0) => absurd c (by decide)) (fun _ => ?_)
        refine go_s (pc' := 17) (st' := [.int 1]) rfl rfl rfl rfl ?_
        refine go_s (pc' := 19) rfl rfl rfl rfl ?_
        refine go_ret rfl rfl ?_
        exact ⟨by simp [rv, b2i, c1, c2, u5], rfl⟩
theorem ct_rv_1 {w : Nat → Bool} {d : Nat} {h : am_Hp} {I : sm_I} {X : sm_X} (hS : sm tbc h I X) (hd : 2 ≤ d) : am_Ev (am_prog w) d 93 [.ref 24, .int 1] h (fun r h' => r = some (.int (b2i (rv I 1))) ∧ h' = h) := by
  obtain ⟨d, rfl⟩ : ∃ e, d = e + 1 := ⟨d - 1, by omega⟩
  refine ev_go rfl (Nat.le_of_ble_eq_true rfl) rfl ?_
  refine go_s (pc' := 1) rfl rfl rfl rfl ?_
  refine go_sget (pc' := 2) (v := .ref 25) hS rfl rfl rfl (by decide) rfl rfl ?_
  refine go_s (pc' := 3) rfl rfl rfl rfl ?_
  refine go_sald (pc' := 4) (q := 1) (v := .int (I 4 1)) hS rfl rfl rfl rfl (by decide) rfl rfl ?_
  refine go_ifP (t' := 18) (pc' := 5) rfl rfl rfl (fun (c1 : (I 4 1) = 0) => ?_) (fun (c1 : ¬ (I 4 1) = 0) => ?_)
  · skip
    refine go_s (pc' := 19) (st' := [.int 0]) rfl rfl rfl rfl ?_
    refine go_ret rfl rfl ?_
    exact ⟨by simp [rv, b2i, c1], rfl⟩
  · skip
    refine go_s (pc' := 6) rfl rfl rfl rfl ?_
    refine go_sget (pc' := 7) (v := .ref 26) hS rfl rfl rfl (by decide) rfl rfl ?_
    refine go_s (pc' := 8) rfl rfl rfl rfl ?_
    refine go_sald (pc' := 9) (q := 1) (v := .int (I 5 1)) hS rfl rfl rfl rfl (by decide) rfl rfl ?_
    refine go_ifP (t' := 18) (pc' := 10) rfl rfl rfl (fun (c2 : ¬ (I 5 1) = 0) => ?_) (fun (c2' : ¬ ¬ (I 5 1) = 0) => ?_)
    · skip
      refine go_s (pc' := 19) (st' := [.int 0]) rfl rfl rfl rfl ?_
      refine go_ret rfl rfl ?_
      exact ⟨by simp [rv, b2i, c1, c2], rfl⟩
    · skip
      have c2 : (I 5 1) = 0 := Decidable.not_not.mp c2'
      refine go_s (pc' := 11) rfl rfl rfl rfl ?_
      refine go_s (pc' := 12) (st' := [.int 1, .ref 24]) rfl rfl rfl rfl ?_
      refine go_s (pc' := 13) rfl rfl rfl rfl ?_
      refine go_s (pc' := 14) (st' := [.int 0, .ref 24]) rfl rfl rfl (by simp only [am_x, am_bin]; rfl) ?_
      refine go_callV (pc' := 15) rfl rfl rfl (Nat.le_of_ble_eq_true rfl) rfl (sm_o hS rfl) rfl rfl rfl (ct_us_0 hS (by omega)) (fun r h3 q4 => ?_)
      obtain ⟨rfl, rfl⟩ := q4
      cases u5 : us I 0
      · skip
        show am_Go _ _ _ _ 15 _ [.int 0] _ _
        refine go_ifP (t' := 18) (pc' := 16) rfl rfl rfl (fun _ => ?_) (fun (c : ¬ ((0 : Int32) = 0)) => absurd (by decide) c)
        refine go_s (pc' := 19) (st' := [.int 0]) rfl rfl rfl rfl ?_
        refine go_ret rfl rfl ?_
        exact ⟨by simp [rv, b2i, c1, c2, u5], rfl⟩
      · skip
        show am_Go _ _ _ _ 15 _ [.int 1] _ _
        refine go_ifP (t' := 18) (pc' := 16) rfl rfl rfl (fun (c : (1 : Int32) = 0) => absurd c (by decide)) (fun _ => ?_)
        refine go_s (pc' := 17) (st' := [.int 1]) rfl rfl rfl rfl ?_
        refine go_s (pc' := 19) rfl rfl rfl rfl ?_
        refine go_ret rfl rfl ?_
        exact ⟨by simp [rv, b2i, c1, c2, u5], rfl⟩
