/-! rows for branches as propositions; small numbers -/
def am_P (k : ClassFile.Cond) (x y : Int32) : Prop := match k with
  | .eq => x = y
  | .ne => ¬ x = y
  | .lt => x < y
  | .ge => y ≤ x
  | .gt => y < x
  | .le => x ≤ y
theorem am_cdP (k : ClassFile.Cond) (x y : Int32) : am_cd k x y = true ↔ am_P k x y := by cases k <;> simp [am_cd, am_P]
section GO
variable {T : am_T} {d : Nat} {code : List Instr} {rt : Option FieldType} {pc : Nat} {lo : am_Lo} {st : List Value} {h : am_Hp} {Q : Option Value → am_Hp → Prop}
theorem go_icmpP {k : ClassFile.Cond} {t : Int} {x y : Int32} {t' pc' : Nat} (hi : code[pc]? = some (.if_icmp k t)) (ht : t.toNat = t') (hp : pc + 1 = pc') (kt : am_P k x y → am_Go T d code rt t' lo st h Q) (kf : ¬ am_P k x y → am_Go T d code rt pc' lo st h Q) : am_Go T d code rt pc lo (.int y :: .int x :: st) h Q :=
  go_icmp hi ht hp (fun c => kt ((am_cdP k x y).mp c)) (fun c => kf (fun z => by rw [(am_cdP k x y).mpr z] at c; cases c))
theorem go_ifP {k : ClassFile.Cond} {t : Int} {x : Int32} {t' pc' : Nat} (hi : code[pc]? = some (.ifCond k t)) (ht : t.toNat = t') (hp : pc + 1 = pc') (kt : am_P k x 0 → am_Go T d code rt t' lo st h Q) (kf : ¬ am_P k x 0 → am_Go T d code rt pc' lo st h Q) : am_Go T d code rt pc lo (.int x :: st) h Q :=
  go_if hi ht hp (fun c => kt ((am_cdP k x 0).mp c)) (fun c => kf (fun z => by rw [(am_cdP k x 0).mpr z] at c; cases c))
end GO
theorem nI_addl (a b : Nat) : nI a + nI b = nI (a + b) := nI_add a b
theorem nI_mul (a b : Nat) : nI a * nI b = nI (a * b) := by simp [nI, Int32.ofNat_mul]
theorem nI_within {x : Int32} {n : Nat} (hn : n < 2 ^ 31) : (∃ q, q < n ∧ x = nI q) ∨ (x < 0 ∨ nI n ≤ x) := by
  by_cases h : x < 0
  · exact Or.inr (Or.inl h)
  · obtain ⟨j, hj, rfl⟩ := nI_of h
    by_cases h2 : j < n
    · exact Or.inl ⟨j, h2, rfl⟩
    · exact Or.inr (Or.inr (nI_le (by omega) hj))
theorem nI_sub {a b : Nat} (h : b ≤ a) : nI a - nI b = nI (a - b) := by
  have h1 : nI a = nI (a - b) + nI b := by rw [nI_add, Nat.sub_add_cancel h]
  rw [h1, Int32.add_sub_cancel]
section GO
variable {T : am_T} {d : Nat} {code : List Instr} {rt : Option FieldType} {pc : Nat} {lo : am_Lo} {st : List Value} {h : am_Hp} {Q : Option Value → am_Hp → Prop}
theorem go_nadd {x y : Int32} {a b c pc' : Nat} (hi : code[pc]? = some .iadd) (hx : x = nI a) (hy : y = nI b) (hc : a + b = c) (hp : pc + 1 = pc') (kk : am_Go T d code rt pc' lo (.int (nI c) :: st) h Q) : am_Go T d code rt pc lo (.int y :: .int x :: st) h Q := by
  subst hx hy hc hp
  rw [← nI_add] at kk
  exact go_x (ch := none) hi rfl rfl rfl kk
theorem go_nmul {x y : Int32} {a b c pc' : Nat} (hi : code[pc]? = some .imul) (hx : x = nI a) (hy : y = nI b) (hc : a * b = c) (hp : pc + 1 = pc') (kk : am_Go T d code rt pc' lo (.int (nI c) :: st) h Q) : am_Go T d code rt pc lo (.int y :: .int x :: st) h Q := by
  subst hx hy hc hp
  rw [← nI_mul] at kk
  exact go_x (ch := none) hi rfl rfl rfl kk
theorem go_nsub {x y : Int32} {a b c pc' : Nat} (hi : code[pc]? = some .isub) (hx : x = nI a) (hy : y = nI b) (hb : b ≤ a) (hc : a - b = c) (hp : pc + 1 = pc') (kk : am_Go T d code rt pc' lo (.int (nI c) :: st) h Q) : am_Go T d code rt pc lo (.int y :: .int x :: st) h Q := by
  subst hx hy hc hp
  rw [← nI_sub hb] at kk
  exact go_x (ch := none) hi rfl rfl rfl kk
theorem go_ninc {x : Int32} {a c n pc' k : Nat} {lo' : am_Lo} (hi : code[pc]? = some (.iinc k n)) (hl : lo[k]? = some (some (.int x))) (hx : x = nI a) (hc : a + n = c) (hlo : lo.set k (some (.int (nI c))) = lo') (hp : pc + 1 = pc') (kk : am_Go T d code rt pc' lo' st h Q) : am_Go T d code rt pc lo st h Q := by
  subst hx hc hp hlo
  rw [← nI_add] at kk
  exact go_x (ch := none) hi rfl rfl (by simp only [am_x, hl]; rfl) kk
end GO
def b2i (b : Bool) : Int32 := if b then 1 else 0
theorem tsw_0_2 {x : Int32} (h0 : ¬ x = 0) (h1 : ¬ x = 1) (h2 : ¬ x = 2) : x.toInt < 0 ∨ 2 < x.toInt := by
  rw [← Int32.toInt_inj] at h0 h1 h2
  simp at h0 h1 h2
  omega

theorem ct_within_t {w : Nat → Bool} {d : Nat} {h : am_Hp} {q n : Nat} (hq : q < n) (hn : n < 2 ^ 31) (hd : 1 ≤ d) : am_Ev (am_prog w) d 11 [.int (nI q), .int (nI n)] h (fun r h' => r = some (.int 1) ∧ h' = h) := by
  obtain ⟨d, rfl⟩ : ∃ e, d = e + 1 := ⟨d - 1, by omega⟩
  refine ev_go rfl (Nat.le_of_ble_eq_true rfl) rfl ?_
  refine go_s (pc' := 1) rfl rfl rfl rfl ?_
  refine go_ifP (t' := 7) (pc' := 2) rfl rfl rfl (fun (c : (nI q) < 0) => absurd c (nI_pos (by omega : q < 2 ^ 31))) (fun _ => ?_)
  refine go_s (pc' := 3) rfl rfl rfl rfl ?_
  refine go_s (pc' := 4) rfl rfl rfl rfl ?_
  refine go_icmpP (t' := 7) (pc' := 5) rfl rfl rfl (fun (c : (nI n) ≤ (nI q)) => absurd c (nI_ge hq hn)) (fun _ => ?_)
  refine go_s (pc' := 6) (st' := [.int 1]) rfl rfl rfl rfl ?_
  refine go_s (pc' := 8) rfl rfl rfl rfl ?_
  refine go_ret rfl rfl ?_
  exact ⟨rfl, rfl⟩
theorem ct_within_f {w : Nat → Bool} {d : Nat} {h : am_Hp} {a : Int32} {n : Nat} (hn : a < 0 ∨ nI n ≤ a) (hd : 1 ≤ d) : am_Ev (am_prog w) d 11 [.int a, .int (nI n)] h (fun r h' => r = some (.int 0) ∧ h' = h) := by
  obtain ⟨d, rfl⟩ : ∃ e, d = e + 1 := ⟨d - 1, by omega⟩
  refine ev_go rfl (Nat.le_of_ble_eq_true rfl) rfl ?_
  refine go_s (pc' := 1) rfl rfl rfl rfl ?_
  refine go_ifP (t' := 7) (pc' := 2) rfl rfl rfl (fun (c1 : a < 0) => ?_) (fun (c1 : ¬ a < 0) => ?_)
  · skip
    refine go_s (pc' := 8) (st' := [.int 0]) rfl rfl rfl rfl ?_
    refine go_ret rfl rfl ?_
    exact ⟨rfl, rfl⟩
  · skip
    refine go_s (pc' := 3) rfl rfl rfl rfl ?_
    refine go_s (pc' := 4) rfl rfl rfl rfl ?_
    refine go_icmpP (t' := 7) (pc' := 5) rfl rfl rfl (fun (c2 : (nI n) ≤ a) => ?_) (fun (c2 : ¬ (nI n) ≤ a) => ?_)
    · skip
      refine go_s (pc' := 8) (st' := [.int 0]) rfl rfl rfl rfl ?_
      refine go_ret rfl rfl ?_
      exact ⟨rfl, rfl⟩
    · skip
      refine go_s (pc' := 6) (st' := [.int 1]) rfl rfl rfl rfl ?_
      refine go_s (pc' := 8) rfl rfl rfl rfl ?_
      refine go_ret rfl rfl ?_
      exact (hn.elim (fun z => c1 z) (fun z => c2 z)).elim
def us (I : sm_I) (d : Nat) : Bool := decide (¬ I 4 d = 0) && decide (¬ I 5 d = 0)
def rv (I : sm_I) (d : Nat) : Bool := decide (¬ I 4 d = 0) && decide (I 5 d = 0) && us I (1 - d)
def fbu (I : sm_I) : Int32 := if I 3 0 = 0 then (if I 3 1 = 0 then -1 else 1) else 0
def ohI (I : sm_I) (k : Nat) : Int32 := if k = 0 then (if I 11 0 = 0 then 1 else 0) else (if I 11 k = 2 then 3 else 2)
def pn (I : sm_I) (k : Nat) : Nat := (I 11 k).toNatClampNeg
def lv (I : sm_I) (k : Nat) : Bool := decide (¬ I 11 k = -1) && decide (¬ I 0 (pn I k) = 0)
/-- where the primaries may be -/
def prk (I : sm_I) (k : Nat) : Prop := I 11 k = -1 ∨ I 11 k = (if k = 0 then 0 else 2) ∨ I 11 k = (if k = 0 then 1 else 3)

theorem ct_termAt_0 {w : Nat → Bool} {d : Nat} {h : am_Hp} {I : sm_I} {X : sm_X} (hS : sm tbc h I X) (hd : 2 ≤ d) : am_Ev (am_prog w) d 10 [.ref 1, .int 0] h (fun r h' => r = some (.ref 59) ∧ h' = h) := by
  obtain ⟨d, rfl⟩ : ∃ e, d = e + 1 := ⟨d - 1, by omega⟩
  refine ev_go rfl (Nat.le_of_ble_eq_true rfl) rfl ?_
  refine go_s (pc' := 1) rfl rfl rfl rfl ?_
  refine go_s (pc' := 2) (st' := [.int 2, .int 0]) rfl rfl rfl rfl ?_
  refine go_callS (pc' := 3) rfl rfl rfl (Nat.le_of_ble_eq_true rfl) rfl rfl rfl (ct_within_t (q := 0) (n := 2) (by decide) (by decide) (by omega)) (fun r h1 q2 => ?_)
  obtain ⟨rfl, rfl⟩ := q2
  refine go_ifP (t' := 9) (pc' := 4) rfl rfl rfl (fun (c : (1 : Int32) = 0) => absurd c (by decide)) (fun _ => ?_)
  refine go_s (pc' := 5) rfl rfl rfl rfl ?_
  refine go_sget (pc' := 6) (v := .ref 58) hS rfl rfl rfl (by decide) rfl rfl ?_
  refine go_s (pc' := 7) rfl rfl rfl rfl ?_
  refine go_sald (pc' := 8) (q := 0) (v := .ref 59) hS rfl rfl rfl rfl (by decide) rfl rfl ?_
  refine go_s (pc' := 10) rfl rfl rfl rfl ?_
  refine go_ret rfl rfl ?_
  exact ⟨rfl, rfl⟩
theorem ct_termAt_1 {w : Nat → Bool} {d : Nat} {h : am_Hp} {I : sm_I} {X : sm_X} (hS : sm tbc h I X) (hd : 2 ≤ d) : am_Ev (am_prog w) d 10 [.ref 1, .int 1] h (fun r h' => r = some (.ref 60) ∧ h' = h) := by
  obtain ⟨d, rfl⟩ : ∃ e, d = e + 1 := ⟨d - 1, by omega⟩
  refine ev_go rfl (Nat.le_of_ble_eq_true rfl) rfl ?_
  refine go_s (pc' := 1) rfl rfl rfl rfl ?_
  refine go_s (pc' := 2) (st' := [.int 2, .int 1]) rfl rfl rfl rfl ?_
  refine go_callS (pc' := 3) rfl rfl rfl (Nat.le_of_ble_eq_true rfl) rfl rfl rfl (ct_within_t (q := 1) (n := 2) (by decide) (by decide) (by omega)) (fun r h1 q2 => ?_)
  obtain ⟨rfl, rfl⟩ := q2
  refine go_ifP (t' := 9) (pc' := 4) rfl rfl rfl (fun (c : (1 : Int32) = 0) => absurd c (by decide)) (fun _ => ?_)
  refine go_s (pc' := 5) rfl rfl rfl rfl ?_
  refine go_sget (pc' := 6) (v := .ref 58) hS rfl rfl rfl (by decide) rfl rfl ?_
  refine go_s (pc' := 7) rfl rfl rfl rfl ?_
  refine go_sald (pc' := 8) (q := 1) (v := .ref 60) hS rfl rfl rfl rfl (by decide) rfl rfl ?_
  refine go_s (pc' := 10) rfl rfl rfl rfl ?_
  refine go_ret rfl rfl ?_
  exact ⟨rfl, rfl⟩
theorem ct_termAt_f {w : Nat → Bool} {d : Nat} {h : am_Hp} {I : sm_I} {X : sm_X} (hS : sm tbc h I X) {a : Int32} (hn : a < 0 ∨ nI 2 ≤ a) (hd : 2 ≤ d) : am_Ev (am_prog w) d 10 [.ref 1, .int a] h (fun r h' => r = some (.null) ∧ h' = h) := by
  obtain ⟨d, rfl⟩ : ∃ e, d = e + 1 := ⟨d - 1, by omega⟩
  refine ev_go rfl (Nat.le_of_ble_eq_true rfl) rfl ?_
  refine go_s (pc' := 1) rfl rfl rfl rfl ?_
  refine go_s (pc' := 2) (st' := [.int 2, .int a]) rfl rfl rfl rfl ?_
  refine go_callS (pc' := 3) rfl rfl rfl (Nat.le_of_ble_eq_true rfl) rfl rfl rfl (ct_within_f (a := a) (n := 2) hn (by omega)) (fun r h1 q2 => ?_)
  obtain ⟨rfl, rfl⟩ := q2
  refine go_ifP (t' := 9) (pc' := 4) rfl rfl rfl (fun _ => ?_) (fun (c : ¬ ((0 : Int32) = 0)) => absurd (by decide) c)
  refine go_s (pc' := 10) rfl rfl rfl rfl ?_
  refine go_ret rfl rfl ?_
  exact ⟨rfl, rfl⟩
theorem ct_works_0 {w : Nat → Bool} {d : Nat} {h : am_Hp} {I : sm_I} {X : sm_X} (hS : sm tbc h I X) (hp : prk I 0) (hd : 2 ≤ d) : am_Ev (am_prog w) d 12 [.ref 1, .ref 32] h (fun r h' => r = some (.int (b2i (lv I 0))) ∧ h' = h) := by
  obtain ⟨d, rfl⟩ : ∃ e, d = e + 1 := ⟨d - 1, by omega⟩
  refine ev_go rfl (Nat.le_of_ble_eq_true rfl) rfl ?_
  rcases hp with e | e | e
  · skip
    refine go_s (pc' := 1) rfl rfl rfl rfl ?_
    refine go_sget (pc' := 2) (v := .int (-1)) hS rfl rfl rfl (by decide) (congrArg Value.int e) rfl ?_
    refine go_s (pc' := 3) (st' := [.int 4, .int (-1)]) rfl rfl rfl rfl ?_
    refine go_callS (pc' := 4) rfl rfl rfl (Nat.le_of_ble_eq_true rfl) rfl rfl rfl (ct_within_f (a := (-1)) (n := 4) (by decide) (by omega)) (fun r h1 q2 => ?_)
    obtain ⟨rfl, rfl⟩ := q2
    refine go_ifP (t' := 14) (pc' := 5) rfl rfl rfl (fun _ => ?_) (fun (c : ¬ ((0 : Int32) = 0)) => absurd (by decide) c)
    refine go_s (pc' := 15) (st' := [.int 0]) rfl rfl rfl rfl ?_
    refine go_ret rfl rfl ?_
    exact ⟨by simp [b2i, lv, pn, e], rfl⟩
  · skip
    refine go_s (pc' := 1) rfl rfl rfl rfl ?_
    refine go_sget (pc' := 2) (v := .int 0) hS rfl rfl rfl (by decide) (congrArg Value.int e) rfl ?_
    refine go_s (pc' := 3) (st' := [.int 4, .int 0]) rfl rfl rfl rfl ?_
    refine go_callS (pc' := 4) rfl rfl rfl (Nat.le_of_ble_eq_true rfl) rfl rfl rfl (ct_within_t (q := 0) (n := 4) (by decide) (by decide) (by omega)) (fun r h3 q4 => ?_)
    obtain ⟨rfl, rfl⟩ := q4
    refine go_ifP (t' := 14) (pc' := 5) rfl rfl rfl (fun (c : (1 : Int32) = 0) => absurd c (by decide)) (fun _ => ?_)
    refine go_s (pc' := 6) rfl rfl rfl rfl ?_
    refine go_sget (pc' := 7) (v := .ref 2) hS rfl rfl rfl (by decide) rfl rfl ?_
    refine go_sget (pc' := 8) (v := .ref 3) hS rfl rfl rfl (by decide) rfl rfl ?_
    refine go_s (pc' := 9) rfl rfl rfl rfl ?_
    refine go_sget (pc' := 10) (v := .int 0) hS rfl rfl rfl (by decide) (congrArg Value.int e) rfl ?_
    refine go_sald (pc' := 11) (q := 0) (v := .int (I 0 0)) hS rfl rfl rfl rfl (by decide) rfl rfl ?_
    refine go_ifP (t' := 14) (pc' := 12) rfl rfl rfl (fun (c5 : (I 0 0) = 0) => ?_) (fun (c5 : ¬ (I 0 0) = 0) => ?_)
    · skip
      refine go_s (pc' := 15) (st' := [.int 0]) rfl rfl rfl rfl ?_
      refine go_ret rfl rfl ?_
      exact ⟨by simp [b2i, lv, pn, e, c5], rfl⟩
    · skip
      refine go_s (pc' := 13) (st' := [.int 1]) rfl rfl rfl rfl ?_
      refine go_s (pc' := 15) rfl rfl rfl rfl ?_
      refine go_ret rfl rfl ?_
      exact ⟨by simp [b2i, lv, pn, e, c5], rfl⟩
  · skip
    refine go_s (pc' := 1) rfl rfl rfl rfl ?_
    refine go_sget (pc' := 2) (v := .int 1) hS rfl rfl rfl (by decide) (congrArg Value.int e) rfl ?_
    refine go_s (pc' := 3) (st' := [.int 4, .int 1]) rfl rfl rfl rfl ?_
    refine go_callS (pc' := 4) rfl rfl rfl (Nat.le_of_ble_eq_true rfl) rfl rfl rfl (ct_within_t (q := 1) (n := 4) (by decide) (by decide) (by omega)) (fun r h6 q7 => ?_)
    obtain ⟨rfl, rfl⟩ := q7
    refine go_ifP (t' := 14) (pc' := 5) rfl rfl rfl (fun (c : (1 : Int32) = 0) => absurd c (by decide)) (fun _ => ?_)
    refine go_s (pc' := 6) rfl rfl rfl rfl ?_
    refine go_sget (pc' := 7) (v := .ref 2) hS rfl rfl rfl (by decide) rfl rfl ?_
    refine go_sget (pc' := 8) (v := .ref 3) hS rfl rfl rfl (by decide) rfl rfl ?_
    refine go_s (pc' := 9) rfl rfl rfl rfl ?_
    refine go_sget (pc' := 10) (v := .int 1) hS rfl rfl rfl (by decide) (congrArg Value.int e) rfl ?_
    refine go_sald (pc' := 11) (q := 1) (v := .int (I 0 1)) hS rfl rfl rfl rfl (by decide) rfl rfl ?_
    refine go_ifP (t' := 14) (pc' := 12) rfl rfl rfl (fun (c8 : (I 0 1) = 0) => ?_) (fun (c8 : ¬ (I 0 1) = 0) => ?_)
    · skip
      refine go_s (pc' := 15) (st' := [.int 0]) rfl rfl rfl rfl ?_
      refine go_ret rfl rfl ?_
      exact ⟨by simp [b2i, lv, pn, e, c8], rfl⟩
    · skip
      refine go_s (pc' := 13) (st' := [.int 1]) rfl rfl rfl rfl ?_
      refine go_s (pc' := 15) rfl rfl rfl rfl ?_
      refine go_ret rfl rfl ?_
      exact ⟨by simp [b2i, lv, pn, e, c8], rfl⟩
theorem ct_works_1 {w : Nat → Bool} {d : Nat} {h : am_Hp} {I : sm_I} {X : sm_X} (hS : sm tbc h I X) (hp : prk I 1) (hd : 2 ≤ d) : am_Ev (am_prog w) d 12 [.ref 1, .ref 59] h (fun r h' => r = some (.int (b2i (lv I 1))) ∧ h' = h) := by
  obtain ⟨d, rfl⟩ : ∃ e, d = e + 1 := ⟨d - 1, by omega⟩
  refine ev_go rfl (Nat.le_of_ble_eq_true rfl) rfl ?_
  rcases hp with e | e | e
  · skip
    refine go_s (pc' := 1) rfl rfl rfl rfl ?_
    refine go_sget (pc' := 2) (v := .int (-1)) hS rfl rfl rfl (by decide) (congrArg Value.int e) rfl ?_
    refine go_s (pc' := 3) (st' := [.int 4, .int (-1)]) rfl rfl rfl rfl ?_
    refine go_callS (pc' := 4) rfl rfl rfl (Nat.le_of_ble_eq_true rfl) rfl rfl rfl (ct_within_f (a := (-1)) (n := 4) (by decide) (by omega)) (fun r h1 q2 => ?_)
    obtain ⟨rfl, rfl⟩ := q2
    refine go_ifP (t' := 14) (pc' := 5) rfl rfl rfl (fun _ => ?_) (fun (c : ¬ ((0 : Int32) = 0)) => absurd (by decide) c)
    refine go_s (pc' := 15) (st' := [.int 0]) rfl rfl rfl rfl ?_
    refine go_ret rfl rfl ?_
    exact ⟨by simp [b2i, lv, pn, e], rfl⟩
  · skip
    refine go_s (pc' := 1) rfl rfl rfl rfl ?_
    refine go_sget (pc' := 2) (v := .int 2) hS rfl rfl rfl (by decide) (congrArg Value.int e) rfl ?_
    refine go_s (pc' := 3) (st' := [.int 4, .int 2]) rfl rfl rfl rfl ?_
    refine go_callS (pc' := 4) rfl rfl rfl (Nat.le_of_ble_eq_true rfl) rfl rfl rfl (ct_within_t (q := 2) (n := 4) (by decide) (by decide) (by omega)) (fun r h3 q4 => ?_)
    obtain ⟨rfl, rfl⟩ := q4
    refine go_ifP (t' := 14) (pc' := 5) rfl rfl rfl (fun (c : (1 : Int32) = 0) => absurd c (by decide)) (fun _ => ?_)
    refine go_s (pc' := 6) rfl rfl rfl rfl ?_
    refine go_sget (pc' := 7) (v := .ref 2) hS rfl rfl rfl (by decide) rfl rfl ?_
    refine go_sget (pc' := 8) (v := .ref 3) hS rfl rfl rfl (by decide) rfl rfl ?_
    refine go_s (pc' := 9) rfl rfl rfl rfl ?_
    refine go_sget (pc' := 10) (v := .int 2) hS rfl rfl rfl (by decide) (congrArg Value.int e) rfl ?_
    refine go_sald (pc' := 11) (q := 2) (v := .int (I 0 2)) hS rfl rfl rfl rfl (by decide) rfl rfl ?_
    refine go_ifP (t' := 14) (pc' := 12) rfl rfl rfl (fun (c5 : (I 0 2) = 0) => ?_) (fun (c5 : ¬ (I 0 2) = 0) => ?_)
    · skip
      refine go_s (pc' := 15) (st' := [.int 0]) rfl rfl rfl rfl ?_
      refine go_ret rfl rfl ?_
      exact ⟨by simp [b2i, lv, pn, e, c5], rfl⟩
    · skip
      refine go_s (pc' := 13) (st' := [.int 1]) rfl rfl rfl rfl ?_
      refine go_s (pc' := 15) rfl rfl rfl rfl ?_
      refine go_ret rfl rfl ?_
      exact ⟨by simp [b2i, lv, pn, e, c5], rfl⟩
  · skip
    refine go_s (pc' := 1) rfl rfl rfl rfl ?_
    refine go_sget (pc' := 2) (v := .int 3) hS rfl rfl rfl (by decide) (congrArg Value.int e) rfl ?_
    refine go_s (pc' := 3) (st' := [.int 4, .int 3]) rfl rfl rfl rfl ?_
    refine go_callS (pc' := 4) rfl rfl rfl (Nat.le_of_ble_eq_true rfl) rfl rfl rfl (ct_within_t (q := 3) (n := 4) (by decide) (by decide) (by omega)) (fun r h6 q7 => ?_)
    obtain ⟨rfl, rfl⟩ := q7
    refine go_ifP (t' := 14) (pc' := 5) rfl rfl rfl (fun (c : (1 : Int32) = 0) => absurd c (by decide)) (fun _ => ?_)
    refine go_s (pc' := 6) rfl rfl rfl rfl ?_
    refine go_sget (pc' := 7) (v := .ref 2) hS rfl rfl rfl (by decide) rfl rfl ?_
    refine go_sget (pc' := 8) (v := .ref 3) hS rfl rfl rfl (by decide) rfl rfl ?_
    refine go_s (pc' := 9) rfl rfl rfl rfl ?_
    refine go_sget (pc' := 10) (v := .int 3) hS rfl rfl rfl (by decide) (congrArg Value.int e) rfl ?_
    refine go_sald (pc' := 11) (q := 3) (v := .int (I 0 3)) hS rfl rfl rfl rfl (by decide) rfl rfl ?_
    refine go_ifP (t' := 14) (pc' := 12) rfl rfl rfl (fun (c8 : (I 0 3) = 0) => ?_) (fun (c8 : ¬ (I 0 3) = 0) => ?_)
    · skip
      refine go_s (pc' := 15) (st' := [.int 0]) rfl rfl rfl rfl ?_
      refine go_ret rfl rfl ?_
      exact ⟨by simp [b2i, lv, pn, e, c8], rfl⟩
    · skip
      refine go_s (pc' := 13) (st' := [.int 1]) rfl rfl rfl rfl ?_
      refine go_s (pc' := 15) rfl rfl rfl rfl ?_
      refine go_ret rfl rfl ?_
      exact ⟨by simp [b2i, lv, pn, e, c8], rfl⟩
theorem ct_works_2 {w : Nat → Bool} {d : Nat} {h : am_Hp} {I : sm_I} {X : sm_X} (hS : sm tbc h I X) (hp : prk I 2) (hd : 2 ≤ d) : am_Ev (am_prog w) d 12 [.ref 1, .ref 60] h (fun r h' => r = some (.int (b2i (lv I 2))) ∧ h' = h) := by
  obtain ⟨d, rfl⟩ : ∃ e, d = e + 1 := ⟨d - 1, by omega⟩
  refine ev_go rfl (Nat.le_of_ble_eq_true rfl) rfl ?_
  rcases hp with e | e | e
  · skip
    refine go_s (pc' := 1) rfl rfl rfl rfl ?_
    refine go_sget (pc' := 2) (v := .int (-1)) hS rfl rfl rfl (by decide) (congrArg Value.int e) rfl ?_
    refine go_s (pc' := 3) (st' := [.int 4, .int (-1)]) rfl rfl rfl rfl ?_
    refine go_callS (pc' := 4) rfl rfl rfl (Nat.le_of_ble_eq_true rfl) rfl rfl rfl (ct_within_f (a := (-1)) (n := 4) (by decide) (by omega)) (fun r h1 q2 => ?_)
    obtain ⟨rfl, rfl⟩ := q2
    refine go_ifP (t' := 14) (pc' := 5) rfl rfl rfl (fun _ => ?_) (fun (c : ¬ ((0 : Int32) = 0)) => absurd (by decide) c)
    refine go_s (pc' := 15) (st' := [.int 0]) rfl rfl rfl rfl ?_
    refine go_ret rfl rfl ?_
    exact ⟨by simp [b2i, lv, pn, e], rfl⟩
  · skip
    refine go_s (pc' := 1) rfl rfl rfl rfl ?_
    refine go_sget (pc' := 2) (v := .int 2) hS rfl rfl rfl (by decide) (congrArg Value.int e) rfl ?_
    refine go_s (pc' := 3) (st' := [.int 4, .int 2]) rfl rfl rfl rfl ?_
    refine go_callS (pc' := 4) rfl rfl rfl (Nat.le_of_ble_eq_true rfl) rfl rfl rfl (ct_within_t (q := 2) (n := 4) (by decide) (by decide) (by omega)) (fun r h3 q4 => ?_)
    obtain ⟨rfl, rfl⟩ := q4
    refine go_ifP (t' := 14) (pc' := 5) rfl rfl rfl (fun (c : (1 : Int32) = 0) => absurd c (by decide)) (fun _ => ?_)
    refine go_s (pc' := 6) rfl rfl rfl rfl ?_
    refine go_sget (pc' := 7) (v := .ref 2) hS rfl rfl rfl (by decide) rfl rfl ?_
    refine go_sget (pc' := 8) (v := .ref 3) hS rfl rfl rfl (by decide) rfl rfl ?_
    refine go_s (pc' := 9) rfl rfl rfl rfl ?_
    refine go_sget (pc' := 10) (v := .int 2) hS rfl rfl rfl (by decide) (congrArg Value.int e) rfl ?_
    refine go_sald (pc' := 11) (q := 2) (v := .int (I 0 2)) hS rfl rfl rfl rfl (by decide) rfl rfl ?_
    refine go_ifP (t' := 14) (pc' := 12) rfl rfl rfl (fun (c5 : (I 0 2) = 0) => ?_) (fun (c5 : ¬ (I 0 2) = 0) => ?_)
    · skip
      refine go_s (pc' := 15) (st' := [.int 0]) rfl rfl rfl rfl ?_
      refine go_ret rfl rfl ?_
      exact ⟨by simp [b2i, lv, pn, e, c5], rfl⟩
    · skip
      refine go_s (pc' := 13) (st' := [.int 1]) rfl rfl rfl rfl ?_
      refine go_s (pc' := 15) rfl rfl rfl rfl ?_
      refine go_ret rfl rfl ?_
      exact ⟨by simp [b2i, lv, pn, e, c5], rfl⟩
  · skip
    refine go_s (pc' := 1) rfl rfl rfl rfl ?_
    refine go_sget (pc' := 2) (v := .int 3) hS rfl rfl rfl (by decide) (congrArg Value.int e) rfl ?_
    refine go_s (pc' := 3) (st' := [.int 4, .int 3]) rfl rfl rfl rfl ?_
    refine go_callS (pc' := 4) rfl rfl rfl (Nat.le_of_ble_eq_true rfl) rfl rfl rfl (ct_within_t (q := 3) (n := 4) (by decide) (by decide) (by omega)) (fun r h6 q7 => ?_)
    obtain ⟨rfl, rfl⟩ := q7
    refine go_ifP (t' := 14) (pc' := 5) rfl rfl rfl (fun (c : (1 : Int32) = 0) => absurd c (by decide)) (fun _ => ?_)
    refine go_s (pc' := 6) rfl rfl rfl rfl ?_
    refine go_sget (pc' := 7) (v := .ref 2) hS rfl rfl rfl (by decide) rfl rfl ?_
    refine go_sget (pc' := 8) (v := .ref 3) hS rfl rfl rfl (by decide) rfl rfl ?_
    refine go_s (pc' := 9) rfl rfl rfl rfl ?_
    refine go_sget (pc' := 10) (v := .int 3) hS rfl rfl rfl (by decide) (congrArg Value.int e) rfl ?_
    refine go_sald (pc' := 11) (q := 3) (v := .int (I 0 3)) hS rfl rfl rfl rfl (by decide) rfl rfl ?_
    refine go_ifP (t' := 14) (pc' := 12) rfl rfl rfl (fun (c8 : (I 0 3) = 0) => ?_) (fun (c8 : ¬ (I 0 3) = 0) => ?_)
    · skip
      refine go_s (pc' := 15) (st' := [.int 0]) rfl rfl rfl rfl ?_
      refine go_ret rfl rfl ?_
      exact ⟨by simp [b2i, lv, pn, e, c8], rfl⟩
    · skip
      refine go_s (pc' := 13) (st' := [.int 1]) rfl rfl rfl rfl ?_
      refine go_s (pc' := 15) rfl rfl rfl rfl ?_
      refine go_ret rfl rfl ?_
      exact ⟨by simp [b2i, lv, pn, e, c8], rfl⟩
theorem ct_oh_0 {w : Nat → Bool} {d : Nat} {h : am_Hp} {I : sm_I} {X : sm_X} (hS : sm tbc h I X) (hd : 1 ≤ d) : am_Ev (am_prog w) d 23 [.ref 32] h (fun r h' => r = some (.int (ohI I 0)) ∧ h' = h) := by
  obtain ⟨d, rfl⟩ : ∃ e, d = e + 1 := ⟨d - 1, by omega⟩
  refine ev_go rfl (Nat.le_of_ble_eq_true rfl) rfl ?_
  refine go_s (pc' := 1) rfl rfl rfl rfl ?_
  refine go_sget (pc' := 2) (v := .int (I 11 0)) hS rfl rfl rfl (by decide) rfl rfl ?_
  refine go_s (pc' := 3) rfl rfl rfl rfl ?_
  refine go_sget (pc' := 4) (v := .int 0) hS rfl rfl rfl (by decide) rfl rfl ?_
  refine go_icmpP (t' := 10) (pc' := 5) rfl rfl rfl (fun (c1 : ¬ (I 11 0) = 0) => ?_) (fun (c1' : ¬ ¬ (I 11 0) = 0) => ?_)
  · skip
    refine go_s (pc' := 11) rfl rfl rfl rfl ?_
    refine go_sget (pc' := 12) (v := .int 0) hS rfl rfl rfl (by decide) rfl rfl ?_
    refine go_ret rfl rfl ?_
    exact ⟨by simp [ohI, c1], rfl⟩
  · skip
    have c1 : (I 11 0) = 0 := Decidable.not_not.mp c1'
    refine go_s (pc' := 6) rfl rfl rfl rfl ?_
    refine go_sget (pc' := 7) (v := .int 0) hS rfl rfl rfl (by decide) rfl rfl ?_
    refine go_s (pc' := 8) (st' := [.int 1, .int 0]) rfl rfl rfl rfl ?_
    refine go_s (pc' := 9) (st' := [.int 1]) rfl rfl rfl rfl ?_
    refine go_s (pc' := 12) rfl rfl rfl rfl ?_
    refine go_ret rfl rfl ?_
    exact ⟨by simp [ohI, c1], rfl⟩
theorem ct_oh_1 {w : Nat → Bool} {d : Nat} {h : am_Hp} {I : sm_I} {X : sm_X} (hS : sm tbc h I X) (hd : 1 ≤ d) : am_Ev (am_prog w) d 23 [.ref 59] h (fun r h' => r = some (.int (ohI I 1)) ∧ h' = h) := by
  obtain ⟨d, rfl⟩ : ∃ e, d = e + 1 := ⟨d - 1, by omega⟩
  refine ev_go rfl (Nat.le_of_ble_eq_true rfl) rfl ?_
  refine go_s (pc' := 1) rfl rfl rfl rfl ?_
  refine go_sget (pc' := 2) (v := .int (I 11 1)) hS rfl rfl rfl (by decide) rfl rfl ?_
  refine go_s (pc' := 3) rfl rfl rfl rfl ?_
  refine go_sget (pc' := 4) (v := .int 2) hS rfl rfl rfl (by decide) rfl rfl ?_
  refine go_icmpP (t' := 10) (pc' := 5) rfl rfl rfl (fun (c1 : ¬ (I 11 1) = 2) => ?_) (fun (c1' : ¬ ¬ (I 11 1) = 2) => ?_)
  · skip
    refine go_s (pc' := 11) rfl rfl rfl rfl ?_
    refine go_sget (pc' := 12) (v := .int 2) hS rfl rfl rfl (by decide) rfl rfl ?_
    refine go_ret rfl rfl ?_
    exact ⟨by simp [ohI, c1], rfl⟩
  · skip
    have c1 : (I 11 1) = 2 := Decidable.not_not.mp c1'
    refine go_s (pc' := 6) rfl rfl rfl rfl ?_
    refine go_sget (pc' := 7) (v := .int 2) hS rfl rfl rfl (by decide) rfl rfl ?_
    refine go_s (pc' := 8) (st' := [.int 1, .int 2]) rfl rfl rfl rfl ?_
    refine go_s (pc' := 9) (st' := [.int 3]) rfl rfl rfl rfl ?_
    refine go_s (pc' := 12) rfl rfl rfl rfl ?_
    refine go_ret rfl rfl ?_
    exact ⟨by simp [ohI, c1], rfl⟩
theorem ct_oh_2 {w : Nat → Bool} {d : Nat} {h : am_Hp} {I : sm_I} {X : sm_X} (hS : sm tbc h I X) (hd : 1 ≤ d) : am_Ev (am_prog w) d 23 [.ref 60] h (fun r h' => r = some (.int (ohI I 2)) ∧ h' = h) := by
  obtain ⟨d, rfl⟩ : ∃ e, d = e + 1 := ⟨d - 1, by omega⟩
  refine ev_go rfl (Nat.le_of_ble_eq_true rfl) rfl ?_
  refine go_s (pc' := 1) rfl rfl rfl rfl ?_
  refine go_sget (pc' := 2) (v := .int (I 11 2)) hS rfl rfl rfl (by decide) rfl rfl ?_
  refine go_s (pc' := 3) rfl rfl rfl rfl ?_
  refine go_sget (pc' := 4) (v := .int 2) hS rfl rfl rfl (by decide) rfl rfl ?_
  refine go_icmpP (t' := 10) (pc' := 5) rfl rfl rfl (fun (c1 : ¬ (I 11 2) = 2) => ?_) (fun (c1' : ¬ ¬ (I 11 2) = 2) => ?_)
  · skip
    refine go_s (pc' := 11) rfl rfl rfl rfl ?_
    refine go_sget (pc' := 12) (v := .int 2) hS rfl rfl rfl (by decide) rfl rfl ?_
    refine go_ret rfl rfl ?_
    exact ⟨by simp [ohI, c1], rfl⟩
  · skip
    have c1 : (I 11 2) = 2 := Decidable.not_not.mp c1'
    refine go_s (pc' := 6) rfl rfl rfl rfl ?_
    refine go_sget (pc' := 7) (v := .int 2) hS rfl rfl rfl (by decide) rfl rfl ?_
    refine go_s (pc' := 8) (st' := [.int 1, .int 2]) rfl rfl rfl rfl ?_
    refine go_s (pc' := 9) (st' := [.int 3]) rfl rfl rfl rfl ?_
    refine go_s (pc' := 12) rfl rfl rfl rfl ?_
    refine go_ret rfl rfl ?_
    exact ⟨by simp [ohI, c1], rfl⟩
theorem ct_fbu {w : Nat → Bool} {d : Nat} {h : am_Hp} {I : sm_I} {X : sm_X} (hS : sm tbc h I X) (hd : 1 ≤ d) : am_Ev (am_prog w) d 27 [.ref 2] h (fun r h' => r = some (.int (fbu I)) ∧ h' = h) := by
  obtain ⟨d, rfl⟩ : ∃ e, d = e + 1 := ⟨d - 1, by omega⟩
  refine ev_go rfl (Nat.le_of_ble_eq_true rfl) rfl ?_
  refine go_s (pc' := 1) rfl rfl rfl rfl ?_
  refine go_sget (pc' := 2) (v := .ref 6) hS rfl rfl rfl (by decide) rfl rfl ?_
  refine go_s (pc' := 3) (st' := [.int 0, .ref 6]) rfl rfl rfl rfl ?_
  refine go_sald (pc' := 4) (q := 0) (v := .int (I 3 0)) hS rfl rfl rfl rfl (by decide) rfl rfl ?_
  refine go_ifP (t' := 7) (pc' := 5) rfl rfl rfl (fun (c1 : (I 3 0) = 0) => ?_) (fun (c1 : ¬ (I 3 0) = 0) => ?_)
  · skip
    refine go_s (pc' := 8) rfl rfl rfl rfl ?_
    refine go_sget (pc' := 9) (v := .ref 6) hS rfl rfl rfl (by decide) rfl rfl ?_
    refine go_s (pc' := 10) (st' := [.int 1, .ref 6]) rfl rfl rfl rfl ?_
    refine go_sald (pc' := 11) (q := 1) (v := .int (I 3 1)) hS rfl rfl rfl rfl (by decide) rfl rfl ?_
    refine go_ifP (t' := 14) (pc' := 12) rfl rfl rfl (fun (c2 : (I 3 1) = 0) => ?_) (fun (c2 : ¬ (I 3 1) = 0) => ?_)
    · skip
      refine go_s (pc' := 15) (st' := [.int (-1)]) rfl rfl rfl rfl ?_
      refine go_ret rfl rfl ?_
      exact ⟨by simp [fbu, c1, c2], rfl⟩
    · skip
      refine go_s (pc' := 13) (st' := [.int 1]) rfl rfl rfl rfl ?_
      refine go_s (pc' := 15) rfl rfl rfl rfl ?_
      refine go_ret rfl rfl ?_
      exact ⟨by simp [fbu, c1, c2], rfl⟩
  · skip
    refine go_s (pc' := 6) (st' := [.int 0]) rfl rfl rfl rfl ?_
    refine go_ret rfl rfl ?_
    exact ⟨by simp [fbu, c1], rfl⟩
theorem ct_us_0 {w : Nat → Bool} {d : Nat} {h : am_Hp} {I : sm_I} {X : sm_X} (hS : sm tbc h I X) (hd : 1 ≤ d) : am_Ev (am_prog w) d 43 [.ref 24, .int 0] h (fun r h' => r = some (.int (b2i (us I 0))) ∧ h' = h) := by
  obtain ⟨d, rfl⟩ : ∃ e, d = e + 1 := ⟨d - 1, by omega⟩
  refine ev_go rfl (Nat.le_of_ble_eq_true rfl) rfl ?_
  refine go_s (pc' := 1) rfl rfl rfl rfl ?_
  refine go_sget (pc' := 2) (v := .ref 25) hS rfl rfl rfl (by decide) rfl rfl ?_
  refine go_s (pc' := 3) rfl rfl rfl rfl ?_
  refine go_sald (pc' := 4) (q := 0) (v := .int (I 4 0)) hS rfl rfl rfl rfl (by decide) rfl rfl ?_
  refine go_ifP (t' := 12) (pc' := 5) rfl rfl rfl (fun (c1 : (I 4 0) = 0) => ?_) (fun (c1 : ¬ (I 4 0) = 0) => ?_)
  · skip
    refine go_s (pc' := 13) (st' := [.int 0]) rfl rfl rfl rfl ?_
    refine go_ret rfl rfl ?_
    exact ⟨by simp [us, b2i, c1], rfl⟩
  · skip
    refine go_s (pc' := 6) rfl rfl rfl rfl ?_
    refine go_sget (pc' := 7) (v := .ref 26) hS rfl rfl rfl (by decide) rfl rfl ?_
    refine go_s (pc' := 8) rfl rfl rfl rfl ?_
    refine go_sald (pc' := 9) (q := 0) (v := .int (I 5 0)) hS rfl rfl rfl rfl (by decide) rfl rfl ?_
    refine go_ifP (t' := 12) (pc' := 10) rfl rfl rfl (fun (c2 : (I 5 0) = 0) => ?_) (fun (c2 : ¬ (I 5 0) = 0) => ?_)
    · skip
      refine go_s (pc' := 13) (st' := [.int 0]) rfl rfl rfl rfl ?_
      refine go_ret rfl rfl ?_
      exact ⟨by simp [us, b2i, c1, c2], rfl⟩
    · skip
      refine go_s (pc' := 11) (st' := [.int 1]) rfl rfl rfl rfl ?_
      refine go_s (pc' := 13) rfl rfl rfl rfl ?_
      refine go_ret rfl rfl ?_
      exact ⟨by simp [us, b2i, c1, c2], rfl⟩
theorem ct_us_1 {w : Nat → Bool} {d : Nat} {h : am_Hp} {I : sm_I} {X : sm_X} (hS : sm tbc h I X) (hd : 1 ≤ d) : am_Ev (am_prog w) d 43 [.ref 24, .int 1] h (fun r h' => r = some (.int (b2i (us I 1))) ∧ h' = h) := by
  obtain ⟨d, rfl⟩ : ∃ e, d = e + 1 := ⟨d - 1, by omega⟩
  refine ev_go rfl (Nat.le_of_ble_eq_true rfl) rfl ?_
  refine go_s (pc' := 1) rfl rfl rfl rfl ?_
  refine go_sget (pc' := 2) (v := .ref 25) hS rfl rfl rfl (by decide) rfl rfl ?_
  refine go_s (pc' := 3) rfl rfl rfl rfl ?_
  refine go_sald (pc' := 4) (q := 1) (v := .int (I 4 1)) hS rfl rfl rfl rfl (by decide) rfl rfl ?_
  refine go_ifP (t' := 12) (pc' := 5) rfl rfl rfl (fun (c1 : (I 4 1) = 0) => ?_) (fun (c1 : ¬ (I 4 1) = 0) => ?_)
  · skip
    refine go_s (pc' := 13) (st' := [.int 0]) rfl rfl rfl rfl ?_
    refine go_ret rfl rfl ?_
    exact ⟨by simp [us, b2i, c1], rfl⟩
  · skip
    refine go_s (pc' := 6) rfl rfl rfl rfl ?_
    refine go_sget (pc' := 7) (v := .ref 26) hS rfl rfl rfl (by decide) rfl rfl ?_
    refine go_s (pc' := 8) rfl rfl rfl rfl ?_
    refine go_sald (pc' := 9) (q := 1) (v := .int (I 5 1)) hS rfl rfl rfl rfl (by decide) rfl rfl ?_
    refine go_ifP (t' := 12) (pc' := 10) rfl rfl rfl (fun (c2 : (I 5 1) = 0) => ?_) (fun (c2 : ¬ (I 5 1) = 0) => ?_)
    · skip
      refine go_s (pc' := 13) (st' := [.int 0]) rfl rfl rfl rfl ?_
      refine go_ret rfl rfl ?_
      exact ⟨by simp [us, b2i, c1, c2], rfl⟩
    · skip
      refine go_s (pc' := 11) (st' := [.int 1]) rfl rfl rfl rfl ?_
      refine go_s (pc' := 13) rfl rfl rfl rfl ?_
      refine go_ret rfl rfl ?_
      exact ⟨by simp [us, b2i, c1, c2], rfl⟩
theorem ct_rv_0 {w : Nat → Bool} {d : Nat} {h : am_Hp} {I : sm_I} {X : sm_X} (hS : sm tbc h I X) (hd : 2 ≤ d) : am_Ev (am_prog w) d 93 [.ref 24, .int 0] h (fun r h' => r = some (.int (b2i (rv I 0))) ∧ h' = h) := by
  obtain ⟨d, rfl⟩ : ∃ e, d = e + 1 := ⟨d - 1, by omega⟩
  refine ev_go rfl (Nat.le_of_ble_eq_true rfl) rfl ?_
  refine go_s (pc' := 1) rfl rfl rfl rfl ?_
  refine go_sget (pc' := 2) (v := .ref 25) hS rfl rfl rfl (by decide) rfl rfl ?_
  refine go_s (pc' := 3) rfl rfl rfl rfl ?_
  refine go_sald (pc' := 4) (q := 0) (v := .int (I 4 0)) hS rfl rfl rfl rfl (by decide) rfl rfl ?_
  refine go_ifP (t' := 18) (pc' := 5) rfl rfl rfl (fun (c1 : (I 4 0) = 0) => ?_) (fun (c1 : ¬ (I 4 0) = 0) => ?_)
  · skip
    refine go_s (pc' := 19) (st' := [.int 0]) rfl rfl rfl rfl ?_
    refine go_ret rfl rfl ?_
    exact ⟨by simp [rv, b2i, c1], rfl⟩
  · skip
    refine go_s (pc' := 6) rfl rfl rfl rfl ?_
    refine go_sget (pc' := 7) (v := .ref 26) hS rfl rfl rfl (by decide) rfl rfl ?_
    refine go_s (pc' := 8) rfl rfl rfl rfl ?_
    refine go_sald (pc' := 9) (q := 0) (v := .int (I 5 0)) hS rfl rfl rfl rfl (by decide) rfl rfl ?_
    refine go_ifP (t' := 18) (pc' := 10) rfl rfl rfl (fun (c2 : ¬ (I 5 0) = 0) => ?_) (fun (c2' : ¬ ¬ (I 5 0) = 0) => ?_)
    · skip
      refine go_s (pc' := 19) (st' := [.int 0]) rfl rfl rfl rfl ?_
      refine go_ret rfl rfl ?_
      exact ⟨by simp [rv, b2i, c1, c2], rfl⟩
    · skip
      have c2 : (I 5 0) = 0 := Decidable.not_not.mp c2'
      refine go_s (pc' := 11) rfl rfl rfl rfl ?_
      refine go_s (pc' := 12) (st' := [.int 1, .ref 24]) rfl rfl rfl rfl ?_
      refine go_s (pc' := 13) rfl rfl rfl rfl ?_
      refine go_s (pc' := 14) (st' := [.int 1, .ref 24]) rfl rfl rfl rfl ?_
      refine go_callV (pc' := 15) rfl rfl rfl (Nat.le_of_ble_eq_true rfl) rfl (sm_o hS rfl) rfl rfl rfl (ct_us_1 hS (by omega)) (fun r h3 q4 => ?_)
      obtain ⟨rfl, rfl⟩ := q4
      cases u5 : us I 1
      · skip
        show am_Go _ _ _ _ 15 _ [.int 0] _ _
        refine go_ifP (t' := 18) (pc' := 16) rfl rfl rfl (fun _ => ?_) (fun (c : ¬ ((0 : Int32) = 0)) => absurd (by decide) c)
        refine go_s (pc' := 19) (st' := [.int 0]) rfl rfl rfl rfl ?_
        refine go_ret rfl rfl ?_
        exact ⟨by simp [rv, b2i, c1, c2, u5], rfl⟩
      · skip
        show am_Go _ _ _ _ 15 _ [.int 1] _ _
        refine go_ifP (t' := 18) (pc' := 16) rfl rfl rfl (fun (c : (1 : Int32) = 0) => absurd c (by decide)) (fun _ => ?_)
        refine go_s (pc' := 17) (st' := [.int 1]) rfl rfl rfl rfl ?_
        refine go_s (pc' := 19) rfl rfl rfl rfl ?_
        refine go_ret rfl rfl ?_
        exact ⟨by simp [rv, b2i, c1, c2, u5], rfl⟩
theorem ct_rv_1 {w : Nat → Bool} {d : Nat} {h : am_Hp} {I : sm_I} {X : sm_X} (hS : sm tbc h I X) (hd : 2 ≤ d) : am_Ev (am_prog w) d 93 [.ref 24, .int 1] h (fun r h' => r = some (.int (b2i (rv I 1))) ∧ h' = h) := by
  obtain ⟨d, rfl⟩ : ∃ e, d = e + 1 := ⟨d - 1, by omega⟩
  refine ev_go rfl (Nat.le_of_ble_eq_true rfl) rfl ?_
  refine go_s (pc' := 1) rfl rfl rfl rfl ?_
  refine go_sget (pc' := 2) (v := .ref 25) hS rfl rfl rfl (by decide) rfl rfl ?_
  refine go_s (pc' := 3) rfl rfl rfl rfl ?_
  refine go_sald (pc' := 4) (q := 1) (v := .int (I 4 1)) hS rfl rfl rfl rfl (by decide) rfl rfl ?_
  refine go_ifP (t' := 18) (pc' := 5) rfl rfl rfl (fun (c1 : (I 4 1) = 0) => ?_) (fun (c1 : ¬ (I 4 1) = 0) => ?_)
  · skip
    refine go_s (pc' := 19) (st' := [.int 0]) rfl rfl rfl rfl ?_
    refine go_ret rfl rfl ?_
    exact ⟨by simp [rv, b2i, c1], rfl⟩
  · skip
    refine go_s (pc' := 6) rfl rfl rfl rfl ?_
    refine go_sget (pc' := 7) (v := .ref 26) hS rfl rfl rfl (by decide) rfl rfl ?_
    refine go_s (pc' := 8) rfl rfl rfl rfl ?_
    refine go_sald (pc' := 9) (q := 1) (v := .int (I 5 1)) hS rfl rfl rfl rfl (by decide) rfl rfl ?_
    refine go_ifP (t' := 18) (pc' := 10) rfl rfl rfl (fun (c2 : ¬ (I 5 1) = 0) => ?_) (fun (c2' : ¬ ¬ (I 5 1) = 0) => ?_)
    · skip
      refine go_s (pc' := 19) (st' := [.int 0]) rfl rfl rfl rfl ?_
      refine go_ret rfl rfl ?_
      exact ⟨by simp [rv, b2i, c1, c2], rfl⟩
    · skip
      have c2 : (I 5 1) = 0 := Decidable.not_not.mp c2'
      refine go_s (pc' := 11) rfl rfl rfl rfl ?_
      refine go_s (pc' := 12) (st' := [.int 1, .ref 24]) rfl rfl rfl rfl ?_
      refine go_s (pc' := 13) rfl rfl rfl rfl ?_
      refine go_s (pc' := 14) (st' := [.int 0, .ref 24]) rfl rfl rfl rfl ?_
      refine go_callV (pc' := 15) rfl rfl rfl (Nat.le_of_ble_eq_true rfl) rfl (sm_o hS rfl) rfl rfl rfl (ct_us_0 hS (by omega)) (fun r h3 q4 => ?_)
      obtain ⟨rfl, rfl⟩ := q4
      cases u5 : us I 0
      · skip
        show am_Go _ _ _ _ 15 _ [.int 0] _ _
        refine go_ifP (t' := 18) (pc' := 16) rfl rfl rfl (fun _ => ?_) (fun (c : ¬ ((0 : Int32) = 0)) => absurd (by decide) c)
        refine go_s (pc' := 19) (st' := [.int 0]) rfl rfl rfl rfl ?_
        refine go_ret rfl rfl ?_
        exact ⟨by simp [rv, b2i, c1, c2, u5], rfl⟩
      · skip
        show am_Go _ _ _ _ 15 _ [.int 1] _ _
        refine go_ifP (t' := 18) (pc' := 16) rfl rfl rfl (fun (c : (1 : Int32) = 0) => absurd c (by decide)) (fun _ => ?_)
        refine go_s (pc' := 17) (st' := [.int 1]) rfl rfl rfl rfl ?_
        refine go_s (pc' := 19) rfl rfl rfl rfl ?_
        refine go_ret rfl rfl ?_
        exact ⟨by simp [rv, b2i, c1, c2, u5], rfl⟩
theorem ct_putOn {w : Nat → Bool} {d : Nat} {h : am_Hp} {I : sm_I} {X : sm_X} (hS : sm tbc h I X) (hW : ∀ a, (tbc a).isSome = true → w a = true) {l : Nat} (hl : l < 16) (b : Int32) (hd : 1 ≤ d) : am_Ev (am_prog w) d 28 [.ref (8 + l), .int b] h (fun r h' => r = none ∧ sm tbc h' I (uX (uX X 203 l (.int b)) 204 l (.int b)) ∧ sm_e tbc h h') := by
  obtain ⟨d, rfl⟩ : ∃ e, d = e + 1 := ⟨d - 1, by omega⟩
  refine ev_go rfl (Nat.le_of_ble_eq_true rfl) rfl ?_
  refine go_s (pc' := 1) rfl rfl rfl rfl ?_
  refine go_s (pc' := 2) rfl rfl rfl rfl ?_
  refine go_sputX (pc' := 3) hS rfl rfl (tc_l5 hl) (by decide) tbc_inj (Nat.le_of_ble_eq_true rfl) (Nat.le_of_ble_eq_true rfl) rfl (hW _ (by rw [tc_lk hl]; rfl)) rfl (fun h1 hS2 hE3 => ?_)
  refine go_s (pc' := 4) rfl rfl rfl rfl ?_
  refine go_s (pc' := 5) rfl rfl rfl rfl ?_
  refine go_sputX (pc' := 6) hS2 rfl rfl (tc_l6 hl) (by decide) tbc_inj (Nat.le_of_ble_eq_true rfl) (Nat.le_of_ble_eq_true rfl) rfl (hW _ (by rw [tc_lk hl]; rfl)) rfl (fun h4 hS5 hE6 => ?_)
  have hE7 := sm_e_trans hE3 hE6
  refine go_ret rfl rfl ?_
  exact ⟨rfl, hS5, hE7⟩
theorem ct_clear {w : Nat → Bool} {d : Nat} {h : am_Hp} {I : sm_I} {X : sm_X} (hS : sm tbc h I X) (hW : ∀ a, (tbc a).isSome = true → w a = true) {l : Nat} (hl : l < 16) (hd : 1 ≤ d) : am_Ev (am_prog w) d 101 [.ref (8 + l)] h (fun r h' => r = none ∧ sm tbc h' (uI (uI I 9 l 0) 10 l 0) (uX (uX (uX (uX (uX X 200 l .null) 201 l .null) 202 l (.int 0)) 203 l (.int (-1))) 204 l (.int (-1))) ∧ sm_e tbc h h') := by
  obtain ⟨d, rfl⟩ : ∃ e, d = e + 1 := ⟨d - 1, by omega⟩
  refine ev_go rfl (Nat.le_of_ble_eq_true rfl) rfl ?_
  refine go_s (pc' := 1) rfl rfl rfl rfl ?_
  refine go_s (pc' := 2) rfl rfl rfl rfl ?_
  refine go_sputX (pc' := 3) hS rfl rfl (tc_l0 hl) (by decide) tbc_inj (Nat.le_of_ble_eq_true rfl) (Nat.le_of_ble_eq_true rfl) rfl (hW _ (by rw [tc_lk hl]; rfl)) rfl (fun h1 hS2 hE3 => ?_)
  refine go_s (pc' := 4) rfl rfl rfl rfl ?_
  refine go_s (pc' := 5) rfl rfl rfl rfl ?_
  refine go_sputX (pc' := 6) hS2 rfl rfl (tc_l1 hl) (by decide) tbc_inj (Nat.le_of_ble_eq_true rfl) (Nat.le_of_ble_eq_true rfl) rfl (hW _ (by rw [tc_lk hl]; rfl)) rfl (fun h4 hS5 hE6 => ?_)
  have hE7 := sm_e_trans hE3 hE6
  refine go_s (pc' := 7) rfl rfl rfl rfl ?_
  refine go_s (pc' := 8) (st' := [.int 0, .ref (8 + l)]) rfl rfl rfl rfl ?_
  refine go_sputX (pc' := 9) hS5 rfl rfl (tc_l2 hl) (by decide) tbc_inj (Nat.le_of_ble_eq_true rfl) (Nat.le_of_ble_eq_true rfl) rfl (hW _ (by rw [tc_lk hl]; rfl)) rfl (fun h8 hS9 hE10 => ?_)
  have hE11 := sm_e_trans hE7 hE10
  refine go_s (pc' := 10) rfl rfl rfl rfl ?_
  refine go_s (pc' := 11) (st' := [.int 0, .ref (8 + l)]) rfl rfl rfl rfl ?_
  refine go_sput (pc' := 12) hS9 rfl rfl (tc_l3 hl) (by decide) tbc_inj (Nat.le_of_ble_eq_true rfl) rfl (hW _ (by rw [tc_lk hl]; rfl)) rfl (fun h12 hS13 hE14 => ?_)
  have hE15 := sm_e_trans hE11 hE14
  refine go_s (pc' := 13) rfl rfl rfl rfl ?_
  refine go_s (pc' := 14) (st' := [.int 0, .ref (8 + l)]) rfl rfl rfl rfl ?_
  refine go_sput (pc' := 15) hS13 rfl rfl (tc_l4 hl) (by decide) tbc_inj (Nat.le_of_ble_eq_true rfl) rfl (hW _ (by rw [tc_lk hl]; rfl)) rfl (fun h16 hS17 hE18 => ?_)
  have hE19 := sm_e_trans hE15 hE18
  refine go_s (pc' := 16) rfl rfl rfl rfl ?_
  refine go_s (pc' := 17) (st' := [.int (-1), .ref (8 + l)]) rfl rfl rfl rfl ?_
  refine go_sputX (pc' := 18) hS17 rfl rfl (tc_l5 hl) (by decide) tbc_inj (Nat.le_of_ble_eq_true rfl) (Nat.le_of_ble_eq_true rfl) rfl (hW _ (by rw [tc_lk hl]; rfl)) rfl (fun h20 hS21 hE22 => ?_)
  have hE23 := sm_e_trans hE19 hE22
  refine go_s (pc' := 19) rfl rfl rfl rfl ?_
  refine go_s (pc' := 20) (st' := [.int (-1), .ref (8 + l)]) rfl rfl rfl rfl ?_
  refine go_sputX (pc' := 21) hS21 rfl rfl (tc_l6 hl) (by decide) tbc_inj (Nat.le_of_ble_eq_true rfl) (Nat.le_of_ble_eq_true rfl) rfl (hW _ (by rw [tc_lk hl]; rfl)) rfl (fun h24 hS25 hE26 => ?_)
  have hE27 := sm_e_trans hE23 hE26
  refine go_ret rfl rfl ?_
  exact ⟨rfl, hS25, hE27⟩
/-- whether a processor's silence grows -/
def sil (I : sm_I) (p : Nat) : Bool := decide (I 0 p = 0) && decide (I 1 p = 0) && decide (¬ fbu I = -1)
theorem ct_addSil_0 {w : Nat → Bool} {d : Nat} {h : am_Hp} {I : sm_I} {X : sm_X} (hS : sm tbc h I X) (hW : ∀ a, (tbc a).isSome = true → w a = true) (hd : 2 ≤ d) : am_Ev (am_prog w) d 31 [.ref 2, .int 0] h (fun r h' => ∃ J, J = (if sil I 0 = true then uI I 2 0 (I 2 0 + 1) else I) ∧ r = some (.int (b2i (sil I 0 && decide (5 ≤ I 2 0 + 1)))) ∧ sm tbc h' J X ∧ sm_e tbc h h') := by
  obtain ⟨d, rfl⟩ : ∃ e, d = e + 1 := ⟨d - 1, by omega⟩
  refine ev_go rfl (Nat.le_of_ble_eq_true rfl) rfl ?_
  refine go_s (pc' := 1) rfl rfl rfl rfl ?_
  refine go_sget (pc' := 2) (v := .ref 3) hS rfl rfl rfl (by decide) rfl rfl ?_
  refine go_s (pc' := 3) rfl rfl rfl rfl ?_
  refine go_sald (pc' := 4) (q := 0) (v := .int (I 0 0)) hS rfl rfl rfl rfl (by decide) rfl rfl ?_
  refine go_ifP (t' := 14) (pc' := 5) rfl rfl rfl (fun (c1 : ¬ (I 0 0) = 0) => ?_) (fun (c1' : ¬ ¬ (I 0 0) = 0) => ?_)
  · skip
    refine go_s (pc' := 15) (st' := [.int 0]) rfl rfl rfl rfl ?_
    refine go_ret rfl rfl ?_
    exact ⟨I, by simp [sil, c1], by simp [sil, b2i, c1], hS, sm_e_refl _ _⟩
  · skip
    have c1 : (I 0 0) = 0 := Decidable.not_not.mp c1'
    refine go_s (pc' := 6) rfl rfl rfl rfl ?_
    refine go_sget (pc' := 7) (v := .ref 4) hS rfl rfl rfl (by decide) rfl rfl ?_
    refine go_s (pc' := 8) rfl rfl rfl rfl ?_
    refine go_sald (pc' := 9) (q := 0) (v := .int (I 1 0)) hS rfl rfl rfl rfl (by decide) rfl rfl ?_
    refine go_ifP (t' := 14) (pc' := 10) rfl rfl rfl (fun (c2 : ¬ (I 1 0) = 0) => ?_) (fun (c2' : ¬ ¬ (I 1 0) = 0) => ?_)
    · skip
      refine go_s (pc' := 15) (st' := [.int 0]) rfl rfl rfl rfl ?_
      refine go_ret rfl rfl ?_
      exact ⟨I, by simp [sil, c1, c2], by simp [sil, b2i, c1, c2], hS, sm_e_refl _ _⟩
    · skip
      have c2 : (I 1 0) = 0 := Decidable.not_not.mp c2'
      refine go_s (pc' := 11) rfl rfl rfl rfl ?_
      refine go_callV (pc' := 12) rfl rfl rfl (Nat.le_of_ble_eq_true rfl) rfl (sm_o hS rfl) rfl rfl rfl (ct_fbu hS (by omega)) (fun r h3 q4 => ?_)
      obtain ⟨rfl, rfl⟩ := q4
      refine go_s (pc' := 13) (st' := [.int (-1), .int (fbu I)]) rfl rfl rfl rfl ?_
      refine go_icmpP (t' := 16) (pc' := 14) rfl rfl rfl (fun (c5 : ¬ (fbu I) = (-1)) => ?_) (fun (c5' : ¬ ¬ (fbu I) = (-1)) => ?_)
      · skip
        refine go_s (pc' := 17) rfl rfl rfl rfl ?_
        refine go_sget (pc' := 18) (v := .ref 5) hS rfl rfl rfl (by decide) rfl rfl ?_
        refine go_s (pc' := 19) rfl rfl rfl rfl ?_
        refine go_s (pc' := 20) rfl rfl rfl rfl ?_
        refine go_sald (pc' := 21) (q := 0) (v := .int (I 2 0)) hS rfl rfl rfl rfl (by decide) rfl rfl ?_
        refine go_s (pc' := 22) (st' := [.int 1, .int (I 2 0), .int 0, .ref 5]) rfl rfl rfl rfl ?_
        refine go_s (pc' := 23) rfl rfl rfl rfl ?_
        refine go_siast (pc' := 24) (q := 0) hS rfl rfl tbc_inj (Nat.le_of_ble_eq_true rfl) rfl (by decide) (by decide) (hW _ rfl) rfl (fun h6 hS7 hE8 => ?_)
        refine go_s (pc' := 25) rfl rfl rfl rfl ?_
        refine go_sget (pc' := 26) (v := .ref 5) hS7 rfl rfl rfl (by decide) rfl rfl ?_
        refine go_s (pc' := 27) rfl rfl rfl rfl ?_
        refine go_sald (pc' := 28) (q := 0) (v := .int ((I 2 0) + 1)) hS7 rfl rfl rfl rfl (by decide) rfl rfl ?_
        refine go_s (pc' := 29) (st' := [.int 5, .int ((I 2 0) + 1)]) rfl rfl rfl rfl ?_
        refine go_icmpP (t' := 32) (pc' := 30) rfl rfl rfl (fun (c9 : ((I 2 0) + 1) < 5) => ?_) (fun (c9 : ¬ ((I 2 0) + 1) < 5) => ?_)
        · skip
          refine go_s (pc' := 33) (st' := [.int 0]) rfl rfl rfl rfl ?_
          refine go_ret rfl rfl ?_
          exact ⟨uI I 2 0 (I 2 0 + 1), by simp [sil, c1, c2, c5, c9], by simp [sil, b2i, c1, c2, c5, c9], hS7, hE8⟩
        · skip
          refine go_s (pc' := 31) (st' := [.int 1]) rfl rfl rfl rfl ?_
          refine go_s (pc' := 33) rfl rfl rfl rfl ?_
          refine go_ret rfl rfl ?_
          exact ⟨uI I 2 0 (I 2 0 + 1), by simp [sil, c1, c2, c5, c9], by simp [sil, b2i, c1, c2, c5, c9], hS7, hE8⟩
      · skip
        have c5 : (fbu I) = (-1) := Decidable.not_not.mp c5'
        refine go_s (pc' := 15) (st' := [.int 0]) rfl rfl rfl rfl ?_
        refine go_ret rfl rfl ?_
        exact ⟨I, by simp [sil, c1, c2, c5], by simp [sil, b2i, c1, c2, c5], hS, sm_e_refl _ _⟩
theorem ct_addSil_1 {w : Nat → Bool} {d : Nat} {h : am_Hp} {I : sm_I} {X : sm_X} (hS : sm tbc h I X) (hW : ∀ a, (tbc a).isSome = true → w a = true) (hd : 2 ≤ d) : am_Ev (am_prog w) d 31 [.ref 2, .int 1] h (fun r h' => ∃ J, J = (if sil I 1 = true then uI I 2 1 (I 2 1 + 1) else I) ∧ r = some (.int (b2i (sil I 1 && decide (5 ≤ I 2 1 + 1)))) ∧ sm tbc h' J X ∧ sm_e tbc h h') := by
  obtain ⟨d, rfl⟩ : ∃ e, d = e + 1 := ⟨d - 1, by omega⟩
  refine ev_go rfl (Nat.le_of_ble_eq_true rfl) rfl ?_
  refine go_s (pc' := 1) rfl rfl rfl rfl ?_
  refine go_sget (pc' := 2) (v := .ref 3) hS rfl rfl rfl (by decide) rfl rfl ?_
  refine go_s (pc' := 3) rfl rfl rfl rfl ?_
  refine go_sald (pc' := 4) (q := 1) (v := .int (I 0 1)) hS rfl rfl rfl rfl (by decide) rfl rfl ?_
  refine go_ifP (t' := 14) (pc' := 5) rfl rfl rfl (fun (c1 : ¬ (I 0 1) = 0) => ?_) (fun (c1' : ¬ ¬ (I 0 1) = 0) => ?_)
  · skip
    refine go_s (pc' := 15) (st' := [.int 0]) rfl rfl rfl rfl ?_
    refine go_ret rfl rfl ?_
    exact ⟨I, by simp [sil, c1], by simp [sil, b2i, c1], hS, sm_e_refl _ _⟩
  · skip
    have c1 : (I 0 1) = 0 := Decidable.not_not.mp c1'
    refine go_s (pc' := 6) rfl rfl rfl rfl ?_
    refine go_sget (pc' := 7) (v := .ref 4) hS rfl rfl rfl (by decide) rfl rfl ?_
    refine go_s (pc' := 8) rfl rfl rfl rfl ?_
    refine go_sald (pc' := 9) (q := 1) (v := .int (I 1 1)) hS rfl rfl rfl rfl (by decide) rfl rfl ?_
    refine go_ifP (t' := 14) (pc' := 10) rfl rfl rfl (fun (c2 : ¬ (I 1 1) = 0) => ?_) (fun (c2' : ¬ ¬ (I 1 1) = 0) => ?_)
    · skip
      refine go_s (pc' := 15) (st' := [.int 0]) rfl rfl rfl rfl ?_
      refine go_ret rfl rfl ?_
      exact ⟨I, by simp [sil, c1, c2], by simp [sil, b2i, c1, c2], hS, sm_e_refl _ _⟩
    · skip
      have c2 : (I 1 1) = 0 := Decidable.not_not.mp c2'
      refine go_s (pc' := 11) rfl rfl rfl rfl ?_
      refine go_callV (pc' := 12) rfl rfl rfl (Nat.le_of_ble_eq_true rfl) rfl (sm_o hS rfl) rfl rfl rfl (ct_fbu hS (by omega)) (fun r h3 q4 => ?_)
      obtain ⟨rfl, rfl⟩ := q4
      refine go_s (pc' := 13) (st' := [.int (-1), .int (fbu I)]) rfl rfl rfl rfl ?_
      refine go_icmpP (t' := 16) (pc' := 14) rfl rfl rfl (fun (c5 : ¬ (fbu I) = (-1)) => ?_) (fun (c5' : ¬ ¬ (fbu I) = (-1)) => ?_)
      · skip
        refine go_s (pc' := 17) rfl rfl rfl rfl ?_
        refine go_sget (pc' := 18) (v := .ref 5) hS rfl rfl rfl (by decide) rfl rfl ?_
        refine go_s (pc' := 19) rfl rfl rfl rfl ?_
        refine go_s (pc' := 20) rfl rfl rfl rfl ?_
        refine go_sald (pc' := 21) (q := 1) (v := .int (I 2 1)) hS rfl rfl rfl rfl (by decide) rfl rfl ?_
        refine go_s (pc' := 22) (st' := [.int 1, .int (I 2 1), .int 1, .ref 5]) rfl rfl rfl rfl ?_
        refine go_s (pc' := 23) rfl rfl rfl rfl ?_
        refine go_siast (pc' := 24) (q := 1) hS rfl rfl tbc_inj (Nat.le_of_ble_eq_true rfl) rfl (by decide) (by decide) (hW _ rfl) rfl (fun h6 hS7 hE8 => ?_)
        refine go_s (pc' := 25) rfl rfl rfl rfl ?_
        refine go_sget (pc' := 26) (v := .ref 5) hS7 rfl rfl rfl (by decide) rfl rfl ?_
        refine go_s (pc' := 27) rfl rfl rfl rfl ?_
        refine go_sald (pc' := 28) (q := 1) (v := .int ((I 2 1) + 1)) hS7 rfl rfl rfl rfl (by decide) rfl rfl ?_
        refine go_s (pc' := 29) (st' := [.int 5, .int ((I 2 1) + 1)]) rfl rfl rfl rfl ?_
        refine go_icmpP (t' := 32) (pc' := 30) rfl rfl rfl (fun (c9 : ((I 2 1) + 1) < 5) => ?_) (fun (c9 : ¬ ((I 2 1) + 1) < 5) => ?_)
        · skip
          refine go_s (pc' := 33) (st' := [.int 0]) rfl rfl rfl rfl ?_
          refine go_ret rfl rfl ?_
          exact ⟨uI I 2 1 (I 2 1 + 1), by simp [sil, c1, c2, c5, c9], by simp [sil, b2i, c1, c2, c5, c9], hS7, hE8⟩
        · skip
          refine go_s (pc' := 31) (st' := [.int 1]) rfl rfl rfl rfl ?_
          refine go_s (pc' := 33) rfl rfl rfl rfl ?_
          refine go_ret rfl rfl ?_
          exact ⟨uI I 2 1 (I 2 1 + 1), by simp [sil, c1, c2, c5, c9], by simp [sil, b2i, c1, c2, c5, c9], hS7, hE8⟩
      · skip
        have c5 : (fbu I) = (-1) := Decidable.not_not.mp c5'
        refine go_s (pc' := 15) (st' := [.int 0]) rfl rfl rfl rfl ?_
        refine go_ret rfl rfl ?_
        exact ⟨I, by simp [sil, c1, c2, c5], by simp [sil, b2i, c1, c2, c5], hS, sm_e_refl _ _⟩
theorem ct_addSil_2 {w : Nat → Bool} {d : Nat} {h : am_Hp} {I : sm_I} {X : sm_X} (hS : sm tbc h I X) (hW : ∀ a, (tbc a).isSome = true → w a = true) (hd : 2 ≤ d) : am_Ev (am_prog w) d 31 [.ref 2, .int 2] h (fun r h' => ∃ J, J = (if sil I 2 = true then uI I 2 2 (I 2 2 + 1) else I) ∧ r = some (.int (b2i (sil I 2 && decide (5 ≤ I 2 2 + 1)))) ∧ sm tbc h' J X ∧ sm_e tbc h h') := by
  obtain ⟨d, rfl⟩ : ∃ e, d = e + 1 := ⟨d - 1, by omega⟩
  refine ev_go rfl (Nat.le_of_ble_eq_true rfl) rfl ?_
  refine go_s (pc' := 1) rfl rfl rfl rfl ?_
  refine go_sget (pc' := 2) (v := .ref 3) hS rfl rfl rfl (by decide) rfl rfl ?_
  refine go_s (pc' := 3) rfl rfl rfl rfl ?_
  refine go_sald (pc' := 4) (q := 2) (v := .int (I 0 2)) hS rfl rfl rfl rfl (by decide) rfl rfl ?_
  refine go_ifP (t' := 14) (pc' := 5) rfl rfl rfl (fun (c1 : ¬ (I 0 2) = 0) => ?_) (fun (c1' : ¬ ¬ (I 0 2) = 0) => ?_)
  · skip
    refine go_s (pc' := 15) (st' := [.int 0]) rfl rfl rfl rfl ?_
    refine go_ret rfl rfl ?_
    exact ⟨I, by simp [sil, c1], by simp [sil, b2i, c1], hS, sm_e_refl _ _⟩
  · skip
    have c1 : (I 0 2) = 0 := Decidable.not_not.mp c1'
    refine go_s (pc' := 6) rfl rfl rfl rfl ?_
    refine go_sget (pc' := 7) (v := .ref 4) hS rfl rfl rfl (by decide) rfl rfl ?_
    refine go_s (pc' := 8) rfl rfl rfl rfl ?_
    refine go_sald (pc' := 9) (q := 2) (v := .int (I 1 2)) hS rfl rfl rfl rfl (by decide) rfl rfl ?_
    refine go_ifP (t' := 14) (pc' := 10) rfl rfl rfl (fun (c2 : ¬ (I 1 2) = 0) => ?_) (fun (c2' : ¬ ¬ (I 1 2) = 0) => ?_)
    · skip
      refine go_s (pc' := 15) (st' := [.int 0]) rfl rfl rfl rfl ?_
      refine go_ret rfl rfl ?_
      exact ⟨I, by simp [sil, c1, c2], by simp [sil, b2i, c1, c2], hS, sm_e_refl _ _⟩
    · skip
      have c2 : (I 1 2) = 0 := Decidable.not_not.mp c2'
      refine go_s (pc' := 11) rfl rfl rfl rfl ?_
      refine go_callV (pc' := 12) rfl rfl rfl (Nat.le_of_ble_eq_true rfl) rfl (sm_o hS rfl) rfl rfl rfl (ct_fbu hS (by omega)) (fun r h3 q4 => ?_)
      obtain ⟨rfl, rfl⟩ := q4
      refine go_s (pc' := 13) (st' := [.int (-1), .int (fbu I)]) rfl rfl rfl rfl ?_
      refine go_icmpP (t' := 16) (pc' := 14) rfl rfl rfl (fun (c5 : ¬ (fbu I) = (-1)) => ?_) (fun (c5' : ¬ ¬ (fbu I) = (-1)) => ?_)
      · skip
        refine go_s (pc' := 17) rfl rfl rfl rfl ?_
        refine go_sget (pc' := 18) (v := .ref 5) hS rfl rfl rfl (by decide) rfl rfl ?_
        refine go_s (pc' := 19) rfl rfl rfl rfl ?_
        refine go_s (pc' := 20) rfl rfl rfl rfl ?_
        refine go_sald (pc' := 21) (q := 2) (v := .int (I 2 2)) hS rfl rfl rfl rfl (by decide) rfl rfl ?_
        refine go_s (pc' := 22) (st' := [.int 1, .int (I 2 2), .int 2, .ref 5]) rfl rfl rfl rfl ?_
        refine go_s (pc' := 23) rfl rfl rfl rfl ?_
        refine go_siast (pc' := 24) (q := 2) hS rfl rfl tbc_inj (Nat.le_of_ble_eq_true rfl) rfl (by decide) (by decide) (hW _ rfl) rfl (fun h6 hS7 hE8 => ?_)
        refine go_s (pc' := 25) rfl rfl rfl rfl ?_
        refine go_sget (pc' := 26) (v := .ref 5) hS7 rfl rfl rfl (by decide) rfl rfl ?_
        refine go_s (pc' := 27) rfl rfl rfl rfl ?_
        refine go_sald (pc' := 28) (q := 2) (v := .int ((I 2 2) + 1)) hS7 rfl rfl rfl rfl (by decide) rfl rfl ?_
        refine go_s (pc' := 29) (st' := [.int 5, .int ((I 2 2) + 1)]) rfl rfl rfl rfl ?_
        refine go_icmpP (t' := 32) (pc' := 30) rfl rfl rfl (fun (c9 : ((I 2 2) + 1) < 5) => ?_) (fun (c9 : ¬ ((I 2 2) + 1) < 5) => ?_)
        · skip
          refine go_s (pc' := 33) (st' := [.int 0]) rfl rfl rfl rfl ?_
          refine go_ret rfl rfl ?_
          exact ⟨uI I 2 2 (I 2 2 + 1), by simp [sil, c1, c2, c5, c9], by simp [sil, b2i, c1, c2, c5, c9], hS7, hE8⟩
        · skip
          refine go_s (pc' := 31) (st' := [.int 1]) rfl rfl rfl rfl ?_
          refine go_s (pc' := 33) rfl rfl rfl rfl ?_
          refine go_ret rfl rfl ?_
          exact ⟨uI I 2 2 (I 2 2 + 1), by simp [sil, c1, c2, c5, c9], by simp [sil, b2i, c1, c2, c5, c9], hS7, hE8⟩
      · skip
        have c5 : (fbu I) = (-1) := Decidable.not_not.mp c5'
        refine go_s (pc' := 15) (st' := [.int 0]) rfl rfl rfl rfl ?_
        refine go_ret rfl rfl ?_
        exact ⟨I, by simp [sil, c1, c2, c5], by simp [sil, b2i, c1, c2, c5], hS, sm_e_refl _ _⟩
theorem ct_addSil_3 {w : Nat → Bool} {d : Nat} {h : am_Hp} {I : sm_I} {X : sm_X} (hS : sm tbc h I X) (hW : ∀ a, (tbc a).isSome = true → w a = true) (hd : 2 ≤ d) : am_Ev (am_prog w) d 31 [.ref 2, .int 3] h (fun r h' => ∃ J, J = (if sil I 3 = true then uI I 2 3 (I 2 3 + 1) else I) ∧ r = some (.int (b2i (sil I 3 && decide (5 ≤ I 2 3 + 1)))) ∧ sm tbc h' J X ∧ sm_e tbc h h') := by
  obtain ⟨d, rfl⟩ : ∃ e, d = e + 1 := ⟨d - 1, by omega⟩
  refine ev_go rfl (Nat.le_of_ble_eq_true rfl) rfl ?_
  refine go_s (pc' := 1) rfl rfl rfl rfl ?_
  refine go_sget (pc' := 2) (v := .ref 3) hS rfl rfl rfl (by decide) rfl rfl ?_
  refine go_s (pc' := 3) rfl rfl rfl rfl ?_
  refine go_sald (pc' := 4) (q := 3) (v := .int (I 0 3)) hS rfl rfl rfl rfl (by decide) rfl rfl ?_
  refine go_ifP (t' := 14) (pc' := 5) rfl rfl rfl (fun (c1 : ¬ (I 0 3) = 0) => ?_) (fun (c1' : ¬ ¬ (I 0 3) = 0) => ?_)
  · skip
    refine go_s (pc' := 15) (st' := [.int 0]) rfl rfl rfl rfl ?_
    refine go_ret rfl rfl ?_
    exact ⟨I, by simp [sil, c1], by simp [sil, b2i, c1], hS, sm_e_refl _ _⟩
  · skip
    have c1 : (I 0 3) = 0 := Decidable.not_not.mp c1'
    refine go_s (pc' := 6) rfl rfl rfl rfl ?_
    refine go_sget (pc' := 7) (v := .ref 4) hS rfl rfl rfl (by decide) rfl rfl ?_
    refine go_s (pc' := 8) rfl rfl rfl rfl ?_
    refine go_sald (pc' := 9) (q := 3) (v := .int (I 1 3)) hS rfl rfl rfl rfl (by decide) rfl rfl ?_
    refine go_ifP (t' := 14) (pc' := 10) rfl rfl rfl (fun (c2 : ¬ (I 1 3) = 0) => ?_) (fun (c2' : ¬ ¬ (I 1 3) = 0) => ?_)
    · skip
      refine go_s (pc' := 15) (st' := [.int 0]) rfl rfl rfl rfl ?_
      refine go_ret rfl rfl ?_
      exact ⟨I, by simp [sil, c1, c2], by simp [sil, b2i, c1, c2], hS, sm_e_refl _ _⟩
    · skip
      have c2 : (I 1 3) = 0 := Decidable.not_not.mp c2'
      refine go_s (pc' := 11) rfl rfl rfl rfl ?_
      refine go_callV (pc' := 12) rfl rfl rfl (Nat.le_of_ble_eq_true rfl) rfl (sm_o hS rfl) rfl rfl rfl (ct_fbu hS (by omega)) (fun r h3 q4 => ?_)
      obtain ⟨rfl, rfl⟩ := q4
      refine go_s (pc' := 13) (st' := [.int (-1), .int (fbu I)]) rfl rfl rfl rfl ?_
      refine go_icmpP (t' := 16) (pc' := 14) rfl rfl rfl (fun (c5 : ¬ (fbu I) = (-1)) => ?_) (fun (c5' : ¬ ¬ (fbu I) = (-1)) => ?_)
      · skip
        refine go_s (pc' := 17) rfl rfl rfl rfl ?_
        refine go_sget (pc' := 18) (v := .ref 5) hS rfl rfl rfl (by decide) rfl rfl ?_
        refine go_s (pc' := 19) rfl rfl rfl rfl ?_
        refine go_s (pc' := 20) rfl rfl rfl rfl ?_
        refine go_sald (pc' := 21) (q := 3) (v := .int (I 2 3)) hS rfl rfl rfl rfl (by decide) rfl rfl ?_
        refine go_s (pc' := 22) (st' := [.int 1, .int (I 2 3), .int 3, .ref 5]) rfl rfl rfl rfl ?_
        refine go_s (pc' := 23) rfl rfl rfl rfl ?_
        refine go_siast (pc' := 24) (q := 3) hS rfl rfl tbc_inj (Nat.le_of_ble_eq_true rfl) rfl (by decide) (by decide) (hW _ rfl) rfl (fun h6 hS7 hE8 => ?_)
        refine go_s (pc' := 25) rfl rfl rfl rfl ?_
        refine go_sget (pc' := 26) (v := .ref 5) hS7 rfl rfl rfl (by decide) rfl rfl ?_
        refine go_s (pc' := 27) rfl rfl rfl rfl ?_
        refine go_sald (pc' := 28) (q := 3) (v := .int ((I 2 3) + 1)) hS7 rfl rfl rfl rfl (by decide) rfl rfl ?_
        refine go_s (pc' := 29) (st' := [.int 5, .int ((I 2 3) + 1)]) rfl rfl rfl rfl ?_
        refine go_icmpP (t' := 32) (pc' := 30) rfl rfl rfl (fun (c9 : ((I 2 3) + 1) < 5) => ?_) (fun (c9 : ¬ ((I 2 3) + 1) < 5) => ?_)
        · skip
          refine go_s (pc' := 33) (st' := [.int 0]) rfl rfl rfl rfl ?_
          refine go_ret rfl rfl ?_
          exact ⟨uI I 2 3 (I 2 3 + 1), by simp [sil, c1, c2, c5, c9], by simp [sil, b2i, c1, c2, c5, c9], hS7, hE8⟩
        · skip
          refine go_s (pc' := 31) (st' := [.int 1]) rfl rfl rfl rfl ?_
          refine go_s (pc' := 33) rfl rfl rfl rfl ?_
          refine go_ret rfl rfl ?_
          exact ⟨uI I 2 3 (I 2 3 + 1), by simp [sil, c1, c2, c5, c9], by simp [sil, b2i, c1, c2, c5, c9], hS7, hE8⟩
      · skip
        have c5 : (fbu I) = (-1) := Decidable.not_not.mp c5'
        refine go_s (pc' := 15) (st' := [.int 0]) rfl rfl rfl rfl ?_
        refine go_ret rfl rfl ?_
        exact ⟨I, by simp [sil, c1, c2, c5], by simp [sil, b2i, c1, c2, c5], hS, sm_e_refl _ _⟩
theorem ct_drop_0 {w : Nat → Bool} {d : Nat} {h : am_Hp} {I : sm_I} {X : sm_X} (hS : sm tbc h I X) (hW : ∀ a, (tbc a).isSome = true → w a = true) (hd : 1 ≤ d) : am_Ev (am_prog w) d 34 [.ref 32] h (fun r h' => r = none ∧ sm tbc h' (uI I 13 0 0) (uX X 207 0 (.int 0)) ∧ sm_e tbc h h') := by
  obtain ⟨d, rfl⟩ : ∃ e, d = e + 1 := ⟨d - 1, by omega⟩
  refine ev_go rfl (Nat.le_of_ble_eq_true rfl) rfl ?_
  refine go_s (pc' := 1) rfl rfl rfl rfl ?_
  refine go_s (pc' := 2) (st' := [.int 0, .ref 32]) rfl rfl rfl rfl ?_
  refine go_sputX (pc' := 3) hS rfl rfl rfl (by decide) tbc_inj (Nat.le_of_ble_eq_true rfl) (Nat.le_of_ble_eq_true rfl) rfl (hW _ rfl) rfl (fun h1 hS2 hE3 => ?_)
  refine go_s (pc' := 4) rfl rfl rfl rfl ?_
  refine go_s (pc' := 5) (st' := [.int 0, .ref 32]) rfl rfl rfl rfl ?_
  refine go_sput (pc' := 6) hS2 rfl rfl rfl (by decide) tbc_inj (Nat.le_of_ble_eq_true rfl) rfl (hW _ rfl) rfl (fun h4 hS5 hE6 => ?_)
  have hE7 := sm_e_trans hE3 hE6
  refine go_ret rfl rfl ?_
  exact ⟨rfl, hS5, hE7⟩
theorem ct_stopP_0 {w : Nat → Bool} {d : Nat} {h : am_Hp} {I : sm_I} {X : sm_X} (hS : sm tbc h I X) (hW : ∀ a, (tbc a).isSome = true → w a = true) (hd : 1 ≤ d) : am_Ev (am_prog w) d 103 [.ref 32] h (fun r h' => r = none ∧ sm tbc h' (uI I 16 0 0) X ∧ sm_e tbc h h') := by
  obtain ⟨d, rfl⟩ : ∃ e, d = e + 1 := ⟨d - 1, by omega⟩
  refine ev_go rfl (Nat.le_of_ble_eq_true rfl) rfl ?_
  refine go_s (pc' := 1) rfl rfl rfl rfl ?_
  refine go_s (pc' := 2) (st' := [.int 0, .ref 32]) rfl rfl rfl rfl ?_
  refine go_sput (pc' := 3) hS rfl rfl rfl (by decide) tbc_inj (Nat.le_of_ble_eq_true rfl) rfl (hW _ rfl) rfl (fun h1 hS2 hE3 => ?_)
  refine go_ret rfl rfl ?_
  exact ⟨rfl, hS2, hE3⟩
theorem ct_drop_1 {w : Nat → Bool} {d : Nat} {h : am_Hp} {I : sm_I} {X : sm_X} (hS : sm tbc h I X) (hW : ∀ a, (tbc a).isSome = true → w a = true) (hd : 1 ≤ d) : am_Ev (am_prog w) d 34 [.ref 59] h (fun r h' => r = none ∧ sm tbc h' (uI I 13 1 0) (uX X 207 1 (.int 0)) ∧ sm_e tbc h h') := by
  obtain ⟨d, rfl⟩ : ∃ e, d = e + 1 := ⟨d - 1, by omega⟩
  refine ev_go rfl (Nat.le_of_ble_eq_true rfl) rfl ?_
  refine go_s (pc' := 1) rfl rfl rfl rfl ?_
  refine go_s (pc' := 2) (st' := [.int 0, .ref 59]) rfl rfl rfl rfl ?_
  refine go_sputX (pc' := 3) hS rfl rfl rfl (by decide) tbc_inj (Nat.le_of_ble_eq_true rfl) (Nat.le_of_ble_eq_true rfl) rfl (hW _ rfl) rfl (fun h1 hS2 hE3 => ?_)
  refine go_s (pc' := 4) rfl rfl rfl rfl ?_
  refine go_s (pc' := 5) (st' := [.int 0, .ref 59]) rfl rfl rfl rfl ?_
  refine go_sput (pc' := 6) hS2 rfl rfl rfl (by decide) tbc_inj (Nat.le_of_ble_eq_true rfl) rfl (hW _ rfl) rfl (fun h4 hS5 hE6 => ?_)
  have hE7 := sm_e_trans hE3 hE6
  refine go_ret rfl rfl ?_
  exact ⟨rfl, hS5, hE7⟩
theorem ct_stopP_1 {w : Nat → Bool} {d : Nat} {h : am_Hp} {I : sm_I} {X : sm_X} (hS : sm tbc h I X) (hW : ∀ a, (tbc a).isSome = true → w a = true) (hd : 1 ≤ d) : am_Ev (am_prog w) d 103 [.ref 59] h (fun r h' => r = none ∧ sm tbc h' (uI I 16 1 0) X ∧ sm_e tbc h h') := by
  obtain ⟨d, rfl⟩ : ∃ e, d = e + 1 := ⟨d - 1, by omega⟩
  refine ev_go rfl (Nat.le_of_ble_eq_true rfl) rfl ?_
  refine go_s (pc' := 1) rfl rfl rfl rfl ?_
  refine go_s (pc' := 2) (st' := [.int 0, .ref 59]) rfl rfl rfl rfl ?_
  refine go_sput (pc' := 3) hS rfl rfl rfl (by decide) tbc_inj (Nat.le_of_ble_eq_true rfl) rfl (hW _ rfl) rfl (fun h1 hS2 hE3 => ?_)
  refine go_ret rfl rfl ?_
  exact ⟨rfl, hS2, hE3⟩
theorem ct_drop_2 {w : Nat → Bool} {d : Nat} {h : am_Hp} {I : sm_I} {X : sm_X} (hS : sm tbc h I X) (hW : ∀ a, (tbc a).isSome = true → w a = true) (hd : 1 ≤ d) : am_Ev (am_prog w) d 34 [.ref 60] h (fun r h' => r = none ∧ sm tbc h' (uI I 13 2 0) (uX X 207 2 (.int 0)) ∧ sm_e tbc h h') := by
  obtain ⟨d, rfl⟩ : ∃ e, d = e + 1 := ⟨d - 1, by omega⟩
  refine ev_go rfl (Nat.le_of_ble_eq_true rfl) rfl ?_
  refine go_s (pc' := 1) rfl rfl rfl rfl ?_
  refine go_s (pc' := 2) (st' := [.int 0, .ref 60]) rfl rfl rfl rfl ?_
  refine go_sputX (pc' := 3) hS rfl rfl rfl (by decide) tbc_inj (Nat.le_of_ble_eq_true rfl) (Nat.le_of_ble_eq_true rfl) rfl (hW _ rfl) rfl (fun h1 hS2 hE3 => ?_)
  refine go_s (pc' := 4) rfl rfl rfl rfl ?_
  refine go_s (pc' := 5) (st' := [.int 0, .ref 60]) rfl rfl rfl rfl ?_
  refine go_sput (pc' := 6) hS2 rfl rfl rfl (by decide) tbc_inj (Nat.le_of_ble_eq_true rfl) rfl (hW _ rfl) rfl (fun h4 hS5 hE6 => ?_)
  have hE7 := sm_e_trans hE3 hE6
  refine go_ret rfl rfl ?_
  exact ⟨rfl, hS5, hE7⟩
theorem ct_stopP_2 {w : Nat → Bool} {d : Nat} {h : am_Hp} {I : sm_I} {X : sm_X} (hS : sm tbc h I X) (hW : ∀ a, (tbc a).isSome = true → w a = true) (hd : 1 ≤ d) : am_Ev (am_prog w) d 103 [.ref 60] h (fun r h' => r = none ∧ sm tbc h' (uI I 16 2 0) X ∧ sm_e tbc h h') := by
  obtain ⟨d, rfl⟩ : ∃ e, d = e + 1 := ⟨d - 1, by omega⟩
  refine ev_go rfl (Nat.le_of_ble_eq_true rfl) rfl ?_
  refine go_s (pc' := 1) rfl rfl rfl rfl ?_
  refine go_s (pc' := 2) (st' := [.int 0, .ref 60]) rfl rfl rfl rfl ?_
  refine go_sput (pc' := 3) hS rfl rfl rfl (by decide) tbc_inj (Nat.le_of_ble_eq_true rfl) rfl (hW _ rfl) rfl (fun h1 hS2 hE3 => ?_)
  refine go_ret rfl rfl ?_
  exact ⟨rfl, hS2, hE3⟩
theorem ct_stopS {w : Nat → Bool} {d : Nat} {h : am_Hp} {I : sm_I} {X : sm_X} (hS : sm tbc h I X) (hW : ∀ a, (tbc a).isSome = true → w a = true) (hd : 2 ≤ d) : am_Ev (am_prog w) d 102 [.ref 32] h (fun r h' => r = none ∧ sm tbc h' (uI (uI (uI I 16 0 0) 21 0 0) 23 0 0) X ∧ sm_e tbc h h') := by
  obtain ⟨d, rfl⟩ : ∃ e, d = e + 1 := ⟨d - 1, by omega⟩
  refine ev_go rfl (Nat.le_of_ble_eq_true rfl) rfl ?_
  refine go_s (pc' := 1) rfl rfl rfl rfl ?_
  refine go_callI (pc' := 2) rfl rfl rfl (Nat.le_of_ble_eq_true rfl) rfl (sm_o hS rfl) rfl rfl rfl (ct_stopP_0 hS hW (by omega)) (fun r h1 q2 => ?_)
  obtain ⟨rfl, hS3, hE4⟩ := q2
  refine go_s (pc' := 3) rfl rfl rfl rfl ?_
  refine go_s (pc' := 4) (st' := [.int 0, .ref 32]) rfl rfl rfl rfl ?_
  refine go_sput (pc' := 5) hS3 rfl rfl rfl (by decide) tbc_inj (Nat.le_of_ble_eq_true rfl) rfl (hW _ rfl) rfl (fun h5 hS6 hE7 => ?_)
  have hE8 := sm_e_trans hE4 hE7
  refine go_s (pc' := 6) rfl rfl rfl rfl ?_
  refine go_s (pc' := 7) (st' := [.int 0, .ref 32]) rfl rfl rfl rfl ?_
  refine go_sput (pc' := 8) hS6 rfl rfl rfl (by decide) tbc_inj (Nat.le_of_ble_eq_true rfl) rfl (hW _ rfl) rfl (fun h9 hS10 hE11 => ?_)
  have hE12 := sm_e_trans hE8 hE11
  refine go_ret rfl rfl ?_
  exact ⟨rfl, hS10, hE12⟩
theorem ct_startWrites {w : Nat → Bool} {d : Nat} {h : am_Hp} {I : sm_I} {X : sm_X} (hS : sm tbc h I X) (hW : ∀ a, (tbc a).isSome = true → w a = true) (hd : 1 ≤ d) : am_Ev (am_prog w) d 38 [.ref 24] h (fun r h' => r = none ∧ sm tbc h' I (uX (uX X 206 0 (.int 0)) 206 1 (.int 0)) ∧ sm_e tbc h h') := by
  obtain ⟨d, rfl⟩ : ∃ e, d = e + 1 := ⟨d - 1, by omega⟩
  refine ev_go rfl (Nat.le_of_ble_eq_true rfl) rfl ?_
  refine go_s (pc' := 1) rfl rfl rfl rfl ?_
  refine go_sget (pc' := 2) (v := .ref 28) hS rfl rfl rfl (by decide) rfl rfl ?_
  refine go_s (pc' := 3) (st' := [.int 0, .ref 28]) rfl rfl rfl rfl ?_
  refine go_s (pc' := 4) (st' := [.int 0, .int 0, .ref 28]) rfl rfl rfl rfl ?_
  refine go_siastX (pc' := 5) (q := 0) hS rfl rfl tbc_inj (Nat.le_of_ble_eq_true rfl) (Nat.le_of_ble_eq_true rfl) rfl (by decide) (by decide) (hW _ rfl) rfl (fun h1 hS2 hE3 => ?_)
  refine go_s (pc' := 6) rfl rfl rfl rfl ?_
  refine go_sget (pc' := 7) (v := .ref 28) hS2 rfl rfl rfl (by decide) rfl rfl ?_
  refine go_s (pc' := 8) (st' := [.int 1, .ref 28]) rfl rfl rfl rfl ?_
  refine go_s (pc' := 9) (st' := [.int 0, .int 1, .ref 28]) rfl rfl rfl rfl ?_
  refine go_siastX (pc' := 10) (q := 1) hS2 rfl rfl tbc_inj (Nat.le_of_ble_eq_true rfl) (Nat.le_of_ble_eq_true rfl) rfl (by decide) (by decide) (hW _ rfl) rfl (fun h4 hS5 hE6 => ?_)
  have hE7 := sm_e_trans hE3 hE6
  refine go_ret rfl rfl ?_
  exact ⟨rfl, hS5, hE7⟩
theorem ct_startWriting {w : Nat → Bool} {d : Nat} {h : am_Hp} {I : sm_I} {X : sm_X} (hS : sm tbc h I X) (hW : ∀ a, (tbc a).isSome = true → w a = true) (hd : 2 ≤ d) : am_Ev (am_prog w) d 37 [.ref 1] h (fun r h' => r = none ∧ sm tbc h' (uI I 16 0 2) (uX (uX X 206 0 (.int 0)) 206 1 (.int 0)) ∧ sm_e tbc h h') := by
  obtain ⟨d, rfl⟩ : ∃ e, d = e + 1 := ⟨d - 1, by omega⟩
  refine ev_go rfl (Nat.le_of_ble_eq_true rfl) rfl ?_
  refine go_s (pc' := 1) rfl rfl rfl rfl ?_
  refine go_sget (pc' := 2) (v := .ref 32) hS rfl rfl rfl (by decide) rfl rfl ?_
  refine go_s (pc' := 3) (st' := [.int 2, .ref 32]) rfl rfl rfl rfl ?_
  refine go_sput (pc' := 4) hS rfl rfl rfl (by decide) tbc_inj (Nat.le_of_ble_eq_true rfl) rfl (hW _ rfl) rfl (fun h1 hS2 hE3 => ?_)
  refine go_s (pc' := 5) rfl rfl rfl rfl ?_
  refine go_sget (pc' := 6) (v := .ref 24) hS2 rfl rfl rfl (by decide) rfl rfl ?_
  refine go_callV (pc' := 7) rfl rfl rfl (Nat.le_of_ble_eq_true rfl) rfl (sm_o hS2 rfl) rfl rfl rfl (ct_startWrites hS2 hW (by omega)) (fun r h4 q5 => ?_)
  obtain ⟨rfl, hS6, hE7⟩ := q5
  have hE8 := sm_e_trans hE3 hE7
  refine go_ret rfl rfl ?_
  exact ⟨rfl, hS6, hE8⟩
def nxb (I : sm_I) (b : Int32) : Int32 := if b = -1 then fbu I else if b = 0 then (if I 3 1 = 0 then (if I 3 0 = 0 then -1 else 0) else 1) else (if I 3 0 = 0 then (if I 3 1 = 0 then -1 else 1) else 0)
theorem ct_nxb_m {w : Nat → Bool} {d : Nat} {h : am_Hp} {I : sm_I} {X : sm_X} (hS : sm tbc h I X) (hd : 2 ≤ d) : am_Ev (am_prog w) d 68 [.ref 2, .int (-1)] h (fun r h' => r = some (.int (nxb I (-1))) ∧ h' = h) := by
  obtain ⟨d, rfl⟩ : ∃ e, d = e + 1 := ⟨d - 1, by omega⟩
  refine ev_go rfl (Nat.le_of_ble_eq_true rfl) rfl ?_
  refine go_s (pc' := 1) rfl rfl rfl rfl ?_
  refine go_s (pc' := 2) (st' := [.int (-1), .int (-1)]) rfl rfl rfl rfl ?_
  refine go_icmpP (t' := 6) (pc' := 3) rfl rfl rfl (fun (c : ¬ ((-1) : Int32) = (-1)) => absurd c (by decide)) (fun _ => ?_)
  refine go_s (pc' := 4) rfl rfl rfl rfl ?_
  refine go_callV (pc' := 5) rfl rfl rfl (Nat.le_of_ble_eq_true rfl) rfl (sm_o hS rfl) rfl rfl rfl (ct_fbu hS (by omega)) (fun r h1 q2 => ?_)
  obtain ⟨rfl, rfl⟩ := q2
  refine go_ret rfl rfl ?_
  exact ⟨by simp [nxb], rfl⟩
theorem ct_nxb_0 {w : Nat → Bool} {d : Nat} {h : am_Hp} {I : sm_I} {X : sm_X} (hS : sm tbc h I X) (hd : 2 ≤ d) : am_Ev (am_prog w) d 68 [.ref 2, .int 0] h (fun r h' => r = some (.int (nxb I 0)) ∧ h' = h) := by
  obtain ⟨d, rfl⟩ : ∃ e, d = e + 1 := ⟨d - 1, by omega⟩
  refine ev_go rfl (Nat.le_of_ble_eq_true rfl) rfl ?_
  refine go_s (pc' := 1) rfl rfl rfl rfl ?_
  refine go_s (pc' := 2) (st' := [.int (-1), .int 0]) rfl rfl rfl rfl ?_
  refine go_icmpP (t' := 6) (pc' := 3) rfl rfl rfl (fun _ => ?_) (fun (c : ¬ (¬ (0 : Int32) = (-1))) => absurd (by decide) c)
  refine go_s (pc' := 7) (st' := [.int 1]) rfl rfl rfl rfl ?_
  refine go_s (pc' := 8) rfl rfl rfl rfl ?_
  refine go_s (pc' := 9) (st' := [.int 1]) rfl rfl rfl rfl ?_
  refine go_s (pc' := 10) (lo' := [some (.ref 2), some (.int 0), some (.int 1)]) rfl rfl rfl rfl ?_
  refine go_s (pc' := 11) rfl rfl rfl rfl ?_
  refine go_sget (pc' := 12) (v := .ref 6) hS rfl rfl rfl (by decide) rfl rfl ?_
  refine go_s (pc' := 13) rfl rfl rfl rfl ?_
  refine go_sald (pc' := 14) (q := 1) (v := .int (I 3 1)) hS rfl rfl rfl rfl (by decide) rfl rfl ?_
  refine go_ifP (t' := 17) (pc' := 15) rfl rfl rfl (fun (c1 : (I 3 1) = 0) => ?_) (fun (c1 : ¬ (I 3 1) = 0) => ?_)
  · skip
    refine go_s (pc' := 18) rfl rfl rfl rfl ?_
    refine go_sget (pc' := 19) (v := .ref 6) hS rfl rfl rfl (by decide) rfl rfl ?_
    refine go_s (pc' := 20) rfl rfl rfl rfl ?_
    refine go_sald (pc' := 21) (q := 0) (v := .int (I 3 0)) hS rfl rfl rfl rfl (by decide) rfl rfl ?_
    refine go_ifP (t' := 24) (pc' := 22) rfl rfl rfl (fun (c2 : (I 3 0) = 0) => ?_) (fun (c2 : ¬ (I 3 0) = 0) => ?_)
    · skip
      refine go_s (pc' := 25) (st' := [.int (-1)]) rfl rfl rfl rfl ?_
      refine go_ret rfl rfl ?_
      exact ⟨by simp [nxb, c1, c2], rfl⟩
    · skip
      refine go_s (pc' := 23) rfl rfl rfl rfl ?_
      refine go_s (pc' := 25) rfl rfl rfl rfl ?_
      refine go_ret rfl rfl ?_
      exact ⟨by simp [nxb, c1, c2], rfl⟩
  · skip
    refine go_s (pc' := 16) rfl rfl rfl rfl ?_
    refine go_ret rfl rfl ?_
    exact ⟨by simp [nxb, c1], rfl⟩
theorem ct_nxb_1 {w : Nat → Bool} {d : Nat} {h : am_Hp} {I : sm_I} {X : sm_X} (hS : sm tbc h I X) (hd : 2 ≤ d) : am_Ev (am_prog w) d 68 [.ref 2, .int 1] h (fun r h' => r = some (.int (nxb I 1)) ∧ h' = h) := by
  obtain ⟨d, rfl⟩ : ∃ e, d = e + 1 := ⟨d - 1, by omega⟩
  refine ev_go rfl (Nat.le_of_ble_eq_true rfl) rfl ?_
  refine go_s (pc' := 1) rfl rfl rfl rfl ?_
  refine go_s (pc' := 2) (st' := [.int (-1), .int 1]) rfl rfl rfl rfl ?_
  refine go_icmpP (t' := 6) (pc' := 3) rfl rfl rfl (fun _ => ?_) (fun (c : ¬ (¬ (1 : Int32) = (-1))) => absurd (by decide) c)
  refine go_s (pc' := 7) (st' := [.int 1]) rfl rfl rfl rfl ?_
  refine go_s (pc' := 8) rfl rfl rfl rfl ?_
  refine go_s (pc' := 9) (st' := [.int 0]) rfl rfl rfl rfl ?_
  refine go_s (pc' := 10) (lo' := [some (.ref 2), some (.int 1), some (.int 0)]) rfl rfl rfl rfl ?_
  refine go_s (pc' := 11) rfl rfl rfl rfl ?_
  refine go_sget (pc' := 12) (v := .ref 6) hS rfl rfl rfl (by decide) rfl rfl ?_
  refine go_s (pc' := 13) rfl rfl rfl rfl ?_
  refine go_sald (pc' := 14) (q := 0) (v := .int (I 3 0)) hS rfl rfl rfl rfl (by decide) rfl rfl ?_
  refine go_ifP (t' := 17) (pc' := 15) rfl rfl rfl (fun (c1 : (I 3 0) = 0) => ?_) (fun (c1 : ¬ (I 3 0) = 0) => ?_)
  · skip
    refine go_s (pc' := 18) rfl rfl rfl rfl ?_
    refine go_sget (pc' := 19) (v := .ref 6) hS rfl rfl rfl (by decide) rfl rfl ?_
    refine go_s (pc' := 20) rfl rfl rfl rfl ?_
    refine go_sald (pc' := 21) (q := 1) (v := .int (I 3 1)) hS rfl rfl rfl rfl (by decide) rfl rfl ?_
    refine go_ifP (t' := 24) (pc' := 22) rfl rfl rfl (fun (c2 : (I 3 1) = 0) => ?_) (fun (c2 : ¬ (I 3 1) = 0) => ?_)
    · skip
      refine go_s (pc' := 25) (st' := [.int (-1)]) rfl rfl rfl rfl ?_
      refine go_ret rfl rfl ?_
      exact ⟨by simp [nxb, c1, c2], rfl⟩
    · skip
      refine go_s (pc' := 23) rfl rfl rfl rfl ?_
      refine go_s (pc' := 25) rfl rfl rfl rfl ?_
      refine go_ret rfl rfl ?_
      exact ⟨by simp [nxb, c1, c2], rfl⟩
  · skip
    refine go_s (pc' := 16) rfl rfl rfl rfl ?_
    refine go_ret rfl rfl ?_
    exact ⟨by simp [nxb, c1], rfl⟩
def fup (I : sm_I) (f : Nat) : Int32 := if I 0 f = 0 then (if I 0 (f + 1) = 0 then -1 else nI (f + 1)) else nI f
theorem ct_fup_0 {w : Nat → Bool} {d : Nat} {h : am_Hp} {I : sm_I} {X : sm_X} (hS : sm tbc h I X) (hd : 2 ≤ d) : am_Ev (am_prog w) d 70 [.ref 2, .int 0] h (fun r h' => r = some (.int (fup I 0)) ∧ h' = h) := by
  obtain ⟨d, rfl⟩ : ∃ e, d = e + 1 := ⟨d - 1, by omega⟩
  refine ev_go rfl (Nat.le_of_ble_eq_true rfl) rfl ?_
  refine go_s (pc' := 1) rfl rfl rfl rfl ?_
  refine go_s (pc' := 2) (lo' := [some (.ref 2), some (.int 0), some (.int 0)]) rfl rfl rfl rfl ?_
  refine go_s (pc' := 3) rfl rfl rfl rfl ?_
  refine go_s (pc' := 4) rfl rfl rfl rfl ?_
  refine go_s (pc' := 5) (st' := [.int 1, .int 0, .int 0]) rfl rfl rfl rfl ?_
  refine go_s (pc' := 6) (st' := [.int 1, .int 0]) rfl rfl rfl rfl ?_
  refine go_icmpP (t' := 20) (pc' := 7) rfl rfl rfl (fun (c : 1 < (0 : Int32)) => absurd c (by decide)) (fun _ => ?_)
  refine go_s (pc' := 8) rfl rfl rfl rfl ?_
  refine go_s (pc' := 9) (st' := [.int 4, .int 0]) rfl rfl rfl rfl ?_
  refine go_callS (pc' := 10) rfl rfl rfl (Nat.le_of_ble_eq_true rfl) rfl rfl rfl (ct_within_t (q := 0) (n := 4) (by decide) (by decide) (by omega)) (fun r h1 q2 => ?_)
  obtain ⟨rfl, rfl⟩ := q2
  refine go_ifP (t' := 20) (pc' := 11) rfl rfl rfl (fun (c : (1 : Int32) = 0) => absurd c (by decide)) (fun _ => ?_)
  refine go_s (pc' := 12) rfl rfl rfl rfl ?_
  refine go_sget (pc' := 13) (v := .ref 3) hS rfl rfl rfl (by decide) rfl rfl ?_
  refine go_s (pc' := 14) rfl rfl rfl rfl ?_
  refine go_sald (pc' := 15) (q := 0) (v := .int (I 0 0)) hS rfl rfl rfl rfl (by decide) rfl rfl ?_
  refine go_ifP (t' := 18) (pc' := 16) rfl rfl rfl (fun (c3 : (I 0 0) = 0) => ?_) (fun (c3 : ¬ (I 0 0) = 0) => ?_)
  · skip
    refine go_s (pc' := 19) (lo' := [some (.ref 2), some (.int 0), some (.int 1)]) rfl rfl rfl rfl ?_
    refine go_s (pc' := 2) rfl rfl rfl rfl ?_
    refine go_s (pc' := 3) rfl rfl rfl rfl ?_
    refine go_s (pc' := 4) rfl rfl rfl rfl ?_
    refine go_s (pc' := 5) (st' := [.int 1, .int 0, .int 1]) rfl rfl rfl rfl ?_
    refine go_s (pc' := 6) (st' := [.int 1, .int 1]) rfl rfl rfl rfl ?_
    refine go_icmpP (t' := 20) (pc' := 7) rfl rfl rfl (fun (c : 1 < (1 : Int32)) => absurd c (by decide)) (fun _ => ?_)
    refine go_s (pc' := 8) rfl rfl rfl rfl ?_
    refine go_s (pc' := 9) (st' := [.int 4, .int 1]) rfl rfl rfl rfl ?_
    refine go_callS (pc' := 10) rfl rfl rfl (Nat.le_of_ble_eq_true rfl) rfl rfl rfl (ct_within_t (q := 1) (n := 4) (by decide) (by decide) (by omega)) (fun r h4 q5 => ?_)
    obtain ⟨rfl, rfl⟩ := q5
    refine go_ifP (t' := 20) (pc' := 11) rfl rfl rfl (fun (c : (1 : Int32) = 0) => absurd c (by decide)) (fun _ => ?_)
    refine go_s (pc' := 12) rfl rfl rfl rfl ?_
    refine go_sget (pc' := 13) (v := .ref 3) hS rfl rfl rfl (by decide) rfl rfl ?_
    refine go_s (pc' := 14) rfl rfl rfl rfl ?_
    refine go_sald (pc' := 15) (q := 1) (v := .int (I 0 1)) hS rfl rfl rfl rfl (by decide) rfl rfl ?_
    refine go_ifP (t' := 18) (pc' := 16) rfl rfl rfl (fun (c6 : (I 0 1) = 0) => ?_) (fun (c6 : ¬ (I 0 1) = 0) => ?_)
    · skip
      refine go_s (pc' := 19) (lo' := [some (.ref 2), some (.int 0), some (.int 2)]) rfl rfl rfl rfl ?_
      refine go_s (pc' := 2) rfl rfl rfl rfl ?_
      refine go_s (pc' := 3) rfl rfl rfl rfl ?_
      refine go_s (pc' := 4) rfl rfl rfl rfl ?_
      refine go_s (pc' := 5) (st' := [.int 1, .int 0, .int 2]) rfl rfl rfl rfl ?_
      refine go_s (pc' := 6) (st' := [.int 1, .int 2]) rfl rfl rfl rfl ?_
      refine go_icmpP (t' := 20) (pc' := 7) rfl rfl rfl (fun _ => ?_) (fun (c : ¬ (1 < (2 : Int32))) => absurd (by decide) c)
      refine go_s (pc' := 21) (st' := [.int (-1)]) rfl rfl rfl rfl ?_
      refine go_ret rfl rfl ?_
      exact ⟨by simp [fup, c3, c6] <;> rfl, rfl⟩
    · skip
      refine go_s (pc' := 17) rfl rfl rfl rfl ?_
      refine go_ret rfl rfl ?_
      exact ⟨by simp [fup, c3, c6] <;> rfl, rfl⟩
  · skip
    refine go_s (pc' := 17) rfl rfl rfl rfl ?_
    refine go_ret rfl rfl ?_
    exact ⟨by simp [fup, c3] <;> rfl, rfl⟩
theorem ct_fup_2 {w : Nat → Bool} {d : Nat} {h : am_Hp} {I : sm_I} {X : sm_X} (hS : sm tbc h I X) (hd : 2 ≤ d) : am_Ev (am_prog w) d 70 [.ref 2, .int 2] h (fun r h' => r = some (.int (fup I 2)) ∧ h' = h) := by
  obtain ⟨d, rfl⟩ : ∃ e, d = e + 1 := ⟨d - 1, by omega⟩
  refine ev_go rfl (Nat.le_of_ble_eq_true rfl) rfl ?_
  refine go_s (pc' := 1) rfl rfl rfl rfl ?_
  refine go_s (pc' := 2) (lo' := [some (.ref 2), some (.int 2), some (.int 2)]) rfl rfl rfl rfl ?_
  refine go_s (pc' := 3) rfl rfl rfl rfl ?_
  refine go_s (pc' := 4) rfl rfl rfl rfl ?_
  refine go_s (pc' := 5) (st' := [.int 1, .int 2, .int 2]) rfl rfl rfl rfl ?_
  refine go_s (pc' := 6) (st' := [.int 3, .int 2]) rfl rfl rfl rfl ?_
  refine go_icmpP (t' := 20) (pc' := 7) rfl rfl rfl (fun (c : 3 < (2 : Int32)) => absurd c (by decide)) (fun _ => ?_)
  refine go_s (pc' := 8) rfl rfl rfl rfl ?_
  refine go_s (pc' := 9) (st' := [.int 4, .int 2]) rfl rfl rfl rfl ?_
  refine go_callS (pc' := 10) rfl rfl rfl (Nat.le_of_ble_eq_true rfl) rfl rfl rfl (ct_within_t (q := 2) (n := 4) (by decide) (by decide) (by omega)) (fun r h1 q2 => ?_)
  obtain ⟨rfl, rfl⟩ := q2
  refine go_ifP (t' := 20) (pc' := 11) rfl rfl rfl (fun (c : (1 : Int32) = 0) => absurd c (by decide)) (fun _ => ?_)
  refine go_s (pc' := 12) rfl rfl rfl rfl ?_
  refine go_sget (pc' := 13) (v := .ref 3) hS rfl rfl rfl (by decide) rfl rfl ?_
  refine go_s (pc' := 14) rfl rfl rfl rfl ?_
  refine go_sald (pc' := 15) (q := 2) (v := .int (I 0 2)) hS rfl rfl rfl rfl (by decide) rfl rfl ?_
  refine go_ifP (t' := 18) (pc' := 16) rfl rfl rfl (fun (c3 : (I 0 2) = 0) => ?_) (fun (c3 : ¬ (I 0 2) = 0) => ?_)
  · skip
    refine go_s (pc' := 19) (lo' := [some (.ref 2), some (.int 2), some (.int 3)]) rfl rfl rfl rfl ?_
    refine go_s (pc' := 2) rfl rfl rfl rfl ?_
    refine go_s (pc' := 3) rfl rfl rfl rfl ?_
    refine go_s (pc' := 4) rfl rfl rfl rfl ?_
    refine go_s (pc' := 5) (st' := [.int 1, .int 2, .int 3]) rfl rfl rfl rfl ?_
    refine go_s (pc' := 6) (st' := [.int 3, .int 3]) rfl rfl rfl rfl ?_
    refine go_icmpP (t' := 20) (pc' := 7) rfl rfl rfl (fun (c : 3 < (3 : Int32)) => absurd c (by decide)) (fun _ => ?_)
    refine go_s (pc' := 8) rfl rfl rfl rfl ?_
    refine go_s (pc' := 9) (st' := [.int 4, .int 3]) rfl rfl rfl rfl ?_
    refine go_callS (pc' := 10) rfl rfl rfl (Nat.le_of_ble_eq_true rfl) rfl rfl rfl (ct_within_t (q := 3) (n := 4) (by decide) (by decide) (by omega)) (fun r h4 q5 => ?_)
    obtain ⟨rfl, rfl⟩ := q5
    refine go_ifP (t' := 20) (pc' := 11) rfl rfl rfl (fun (c : (1 : Int32) = 0) => absurd c (by decide)) (fun _ => ?_)
    refine go_s (pc' := 12) rfl rfl rfl rfl ?_
    refine go_sget (pc' := 13) (v := .ref 3) hS rfl rfl rfl (by decide) rfl rfl ?_
    refine go_s (pc' := 14) rfl rfl rfl rfl ?_
    refine go_sald (pc' := 15) (q := 3) (v := .int (I 0 3)) hS rfl rfl rfl rfl (by decide) rfl rfl ?_
    refine go_ifP (t' := 18) (pc' := 16) rfl rfl rfl (fun (c6 : (I 0 3) = 0) => ?_) (fun (c6 : ¬ (I 0 3) = 0) => ?_)
    · skip
      refine go_s (pc' := 19) (lo' := [some (.ref 2), some (.int 2), some (.int 4)]) rfl rfl rfl rfl ?_
      refine go_s (pc' := 2) rfl rfl rfl rfl ?_
      refine go_s (pc' := 3) rfl rfl rfl rfl ?_
      refine go_s (pc' := 4) rfl rfl rfl rfl ?_
      refine go_s (pc' := 5) (st' := [.int 1, .int 2, .int 4]) rfl rfl rfl rfl ?_
      refine go_s (pc' := 6) (st' := [.int 3, .int 4]) rfl rfl rfl rfl ?_
      refine go_icmpP (t' := 20) (pc' := 7) rfl rfl rfl (fun _ => ?_) (fun (c : ¬ (3 < (4 : Int32))) => absurd (by decide) c)
      refine go_s (pc' := 21) (st' := [.int (-1)]) rfl rfl rfl rfl ?_
      refine go_ret rfl rfl ?_
      exact ⟨by simp [fup, c3, c6] <;> rfl, rfl⟩
    · skip
      refine go_s (pc' := 17) rfl rfl rfl rfl ?_
      refine go_ret rfl rfl ?_
      exact ⟨by simp [fup, c3, c6] <;> rfl, rfl⟩
  · skip
    refine go_s (pc' := 17) rfl rfl rfl rfl ?_
    refine go_ret rfl rfl ?_
    exact ⟨by simp [fup, c3] <;> rfl, rfl⟩
theorem ct_mstop_0 {w : Nat → Bool} {d : Nat} {h : am_Hp} {I : sm_I} {X : sm_X} (hS : sm tbc h I X) (hW : ∀ a, (tbc a).isSome = true → w a = true) (hd : 2 ≤ d) : am_Ev (am_prog w) d 105 [.ref 24, .int 0] h (fun r h' => r = none ∧ sm tbc h' (if us I 1 = true then uI (uI I 4 0 0) 5 0 0 else uI I 4 0 0) X ∧ sm_e tbc h h') := by
  obtain ⟨d, rfl⟩ : ∃ e, d = e + 1 := ⟨d - 1, by omega⟩
  refine ev_go rfl (Nat.le_of_ble_eq_true rfl) rfl ?_
  refine go_s (pc' := 1) rfl rfl rfl rfl ?_
  refine go_sget (pc' := 2) (v := .ref 25) hS rfl rfl rfl (by decide) rfl rfl ?_
  refine go_s (pc' := 3) rfl rfl rfl rfl ?_
  refine go_s (pc' := 4) (st' := [.int 0, .int 0, .ref 25]) rfl rfl rfl rfl ?_
  refine go_szast (pc' := 5) (q := 0) hS rfl rfl tbc_inj (Nat.le_of_ble_eq_true rfl) rfl (by decide) (by decide) rfl (hW _ rfl) rfl (fun h1 hS2 hE3 => ?_)
  refine go_s (pc' := 6) rfl rfl rfl rfl ?_
  refine go_s (pc' := 7) (st' := [.int 1, .ref 24]) rfl rfl rfl rfl ?_
  refine go_s (pc' := 8) rfl rfl rfl rfl ?_
  refine go_s (pc' := 9) (st' := [.int 1, .ref 24]) rfl rfl rfl rfl ?_
  refine go_callV (pc' := 10) rfl rfl rfl (Nat.le_of_ble_eq_true rfl) rfl (sm_o hS2 rfl) rfl rfl rfl (ct_us_1 hS2 (by omega)) (fun r h4 q5 => ?_)
  obtain ⟨rfl, rfl⟩ := q5
  cases u6 : us (uI I 4 0 0) 1
  · skip
    show am_Go _ _ _ _ 10 _ [.int 0] _ _
    refine go_ifP (t' := 16) (pc' := 11) rfl rfl rfl (fun _ => ?_) (fun (c : ¬ ((0 : Int32) = 0)) => absurd (by decide) c)
    refine go_ret rfl rfl ?_
    have z : us I 1 = false := by
      have zz : us (uI I 4 0 0) 1 = us I 1 := rfl
      rw [← zz]; exact u6
    exact ⟨rfl, by rw [z]; exact hS2, hE3⟩
  · skip
    show am_Go _ _ _ _ 10 _ [.int 1] _ _
    refine go_ifP (t' := 16) (pc' := 11) rfl rfl rfl (fun (c : (1 : Int32) = 0) => absurd c (by decide)) (fun _ => ?_)
    refine go_s (pc' := 12) rfl rfl rfl rfl ?_
    refine go_sget (pc' := 13) (v := .ref 26) hS2 rfl rfl rfl (by decide) rfl rfl ?_
    refine go_s (pc' := 14) rfl rfl rfl rfl ?_
    refine go_s (pc' := 15) (st' := [.int 0, .int 0, .ref 26]) rfl rfl rfl rfl ?_
    refine go_szast (pc' := 16) (q := 0) hS2 rfl rfl tbc_inj (Nat.le_of_ble_eq_true rfl) rfl (by decide) (by decide) rfl (hW _ rfl) rfl (fun h7 hS8 hE9 => ?_)
    have hE10 := sm_e_trans hE3 hE9
    refine go_ret rfl rfl ?_
    have z : us I 1 = true := by
      have zz : us (uI I 4 0 0) 1 = us I 1 := rfl
      rw [← zz]; exact u6
    exact ⟨rfl, by rw [z]; exact hS8, hE10⟩
theorem ct_mstart_0 {w : Nat → Bool} {d : Nat} {h : am_Hp} {I : sm_I} {X : sm_X} (hS : sm tbc h I X) (hW : ∀ a, (tbc a).isSome = true → w a = true) (hd : 1 ≤ d) : am_Ev (am_prog w) d 108 [.ref 24, .int 0] h (fun r h' => r = none ∧ sm tbc h' (uI I 4 0 1) (uX X 205 0 (.int 0)) ∧ sm_e tbc h h') := by
  obtain ⟨d, rfl⟩ : ∃ e, d = e + 1 := ⟨d - 1, by omega⟩
  refine ev_go rfl (Nat.le_of_ble_eq_true rfl) rfl ?_
  refine go_s (pc' := 1) rfl rfl rfl rfl ?_
  refine go_sget (pc' := 2) (v := .ref 25) hS rfl rfl rfl (by decide) rfl rfl ?_
  refine go_s (pc' := 3) rfl rfl rfl rfl ?_
  refine go_s (pc' := 4) (st' := [.int 1, .int 0, .ref 25]) rfl rfl rfl rfl ?_
  refine go_szast (pc' := 5) (q := 0) hS rfl rfl tbc_inj (Nat.le_of_ble_eq_true rfl) rfl (by decide) (by decide) rfl (hW _ rfl) rfl (fun h1 hS2 hE3 => ?_)
  refine go_s (pc' := 6) rfl rfl rfl rfl ?_
  refine go_sget (pc' := 7) (v := .ref 27) hS2 rfl rfl rfl (by decide) rfl rfl ?_
  refine go_s (pc' := 8) rfl rfl rfl rfl ?_
  refine go_s (pc' := 9) (st' := [.int 0, .int 0, .ref 27]) rfl rfl rfl rfl ?_
  refine go_siastX (pc' := 10) (q := 0) hS2 rfl rfl tbc_inj (Nat.le_of_ble_eq_true rfl) (Nat.le_of_ble_eq_true rfl) rfl (by decide) (by decide) (hW _ rfl) rfl (fun h4 hS5 hE6 => ?_)
  have hE7 := sm_e_trans hE3 hE6
  refine go_ret rfl rfl ?_
  exact ⟨rfl, hS5, hE7⟩
theorem ct_mstop_1 {w : Nat → Bool} {d : Nat} {h : am_Hp} {I : sm_I} {X : sm_X} (hS : sm tbc h I X) (hW : ∀ a, (tbc a).isSome = true → w a = true) (hd : 2 ≤ d) : am_Ev (am_prog w) d 105 [.ref 24, .int 1] h (fun r h' => r = none ∧ sm tbc h' (if us I 0 = true then uI (uI I 4 1 0) 5 1 0 else uI I 4 1 0) X ∧ sm_e tbc h h') := by
  obtain ⟨d, rfl⟩ : ∃ e, d = e + 1 := ⟨d - 1, by omega⟩
  refine ev_go rfl (Nat.le_of_ble_eq_true rfl) rfl ?_
  refine go_s (pc' := 1) rfl rfl rfl rfl ?_
  refine go_sget (pc' := 2) (v := .ref 25) hS rfl rfl rfl (by decide) rfl rfl ?_
  refine go_s (pc' := 3) rfl rfl rfl rfl ?_
  refine go_s (pc' := 4) (st' := [.int 0, .int 1, .ref 25]) rfl rfl rfl rfl ?_
  refine go_szast (pc' := 5) (q := 1) hS rfl rfl tbc_inj (Nat.le_of_ble_eq_true rfl) rfl (by decide) (by decide) rfl (hW _ rfl) rfl (fun h1 hS2 hE3 => ?_)
  refine go_s (pc' := 6) rfl rfl rfl rfl ?_
  refine go_s (pc' := 7) (st' := [.int 1, .ref 24]) rfl rfl rfl rfl ?_
  refine go_s (pc' := 8) rfl rfl rfl rfl ?_
  refine go_s (pc' := 9) (st' := [.int 0, .ref 24]) rfl rfl rfl rfl ?_
  refine go_callV (pc' := 10) rfl rfl rfl (Nat.le_of_ble_eq_true rfl) rfl (sm_o hS2 rfl) rfl rfl rfl (ct_us_0 hS2 (by omega)) (fun r h4 q5 => ?_)
  obtain ⟨rfl, rfl⟩ := q5
  cases u6 : us (uI I 4 1 0) 0
  · skip
    show am_Go _ _ _ _ 10 _ [.int 0] _ _
    refine go_ifP (t' := 16) (pc' := 11) rfl rfl rfl (fun _ => ?_) (fun (c : ¬ ((0 : Int32) = 0)) => absurd (by decide) c)
    refine go_ret rfl rfl ?_
    have z : us I 0 = false := by
      have zz : us (uI I 4 1 0) 0 = us I 0 := rfl
      rw [← zz]; exact u6
    exact ⟨rfl, by rw [z]; exact hS2, hE3⟩
  · skip
    show am_Go _ _ _ _ 10 _ [.int 1] _ _
    refine go_ifP (t' := 16) (pc' := 11) rfl rfl rfl (fun (c : (1 : Int32) = 0) => absurd c (by decide)) (fun _ => ?_)
    refine go_s (pc' := 12) rfl rfl rfl rfl ?_
    refine go_sget (pc' := 13) (v := .ref 26) hS2 rfl rfl rfl (by decide) rfl rfl ?_
    refine go_s (pc' := 14) rfl rfl rfl rfl ?_
    refine go_s (pc' := 15) (st' := [.int 0, .int 1, .ref 26]) rfl rfl rfl rfl ?_
    refine go_szast (pc' := 16) (q := 1) hS2 rfl rfl tbc_inj (Nat.le_of_ble_eq_true rfl) rfl (by decide) (by decide) rfl (hW _ rfl) rfl (fun h7 hS8 hE9 => ?_)
    have hE10 := sm_e_trans hE3 hE9
    refine go_ret rfl rfl ?_
    have z : us I 0 = true := by
      have zz : us (uI I 4 1 0) 0 = us I 0 := rfl
      rw [← zz]; exact u6
    exact ⟨rfl, by rw [z]; exact hS8, hE10⟩
theorem ct_mstart_1 {w : Nat → Bool} {d : Nat} {h : am_Hp} {I : sm_I} {X : sm_X} (hS : sm tbc h I X) (hW : ∀ a, (tbc a).isSome = true → w a = true) (hd : 1 ≤ d) : am_Ev (am_prog w) d 108 [.ref 24, .int 1] h (fun r h' => r = none ∧ sm tbc h' (uI I 4 1 1) (uX X 205 1 (.int 0)) ∧ sm_e tbc h h') := by
  obtain ⟨d, rfl⟩ : ∃ e, d = e + 1 := ⟨d - 1, by omega⟩
  refine ev_go rfl (Nat.le_of_ble_eq_true rfl) rfl ?_
  refine go_s (pc' := 1) rfl rfl rfl rfl ?_
  refine go_sget (pc' := 2) (v := .ref 25) hS rfl rfl rfl (by decide) rfl rfl ?_
  refine go_s (pc' := 3) rfl rfl rfl rfl ?_
  refine go_s (pc' := 4) (st' := [.int 1, .int 1, .ref 25]) rfl rfl rfl rfl ?_
  refine go_szast (pc' := 5) (q := 1) hS rfl rfl tbc_inj (Nat.le_of_ble_eq_true rfl) rfl (by decide) (by decide) rfl (hW _ rfl) rfl (fun h1 hS2 hE3 => ?_)
  refine go_s (pc' := 6) rfl rfl rfl rfl ?_
  refine go_sget (pc' := 7) (v := .ref 27) hS2 rfl rfl rfl (by decide) rfl rfl ?_
  refine go_s (pc' := 8) rfl rfl rfl rfl ?_
  refine go_s (pc' := 9) (st' := [.int 0, .int 1, .ref 27]) rfl rfl rfl rfl ?_
  refine go_siastX (pc' := 10) (q := 1) hS2 rfl rfl tbc_inj (Nat.le_of_ble_eq_true rfl) (Nat.le_of_ble_eq_true rfl) rfl (by decide) (by decide) (hW _ rfl) rfl (fun h4 hS5 hE6 => ?_)
  have hE7 := sm_e_trans hE3 hE6
  refine go_ret rfl rfl ?_
  exact ⟨rfl, hS5, hE7⟩
def chs (I : sm_I) : Int32 := if us I 0 = true then 0 else if us I 1 = true then 1 else -1
theorem ct_choose {w : Nat → Bool} {d : Nat} {h : am_Hp} {I : sm_I} {X : sm_X} (hS : sm tbc h I X) (hW : ∀ a, (tbc a).isSome = true → w a = true) (hd : 2 ≤ d) : am_Ev (am_prog w) d 73 [.ref 24] h (fun r h' => r = some (.int (chs I)) ∧ sm tbc h' (if (us I 0 && us I 1) = true then uI I 5 1 0 else I) (if (us I 0 && us I 1) = true then uX X 205 1 (.int 0) else X) ∧ sm_e tbc h h') := by
  obtain ⟨d, rfl⟩ : ∃ e, d = e + 1 := ⟨d - 1, by omega⟩
  refine ev_go rfl (Nat.le_of_ble_eq_true rfl) rfl ?_
  refine go_s (pc' := 1) rfl rfl rfl rfl ?_
  refine go_s (pc' := 2) (st' := [.int 0, .ref 24]) rfl rfl rfl rfl ?_
  refine go_callV (pc' := 3) rfl rfl rfl (Nat.le_of_ble_eq_true rfl) rfl (sm_o hS rfl) rfl rfl rfl (ct_us_0 hS (by omega)) (fun r h1 q2 => ?_)
  obtain ⟨rfl, rfl⟩ := q2
  cases u3 : us I 0
  · skip
    show am_Go _ _ _ _ 3 _ [.int 0] _ _
    refine go_ifP (t' := 20) (pc' := 4) rfl rfl rfl (fun _ => ?_) (fun (c : ¬ ((0 : Int32) = 0)) => absurd (by decide) c)
    refine go_s (pc' := 21) rfl rfl rfl rfl ?_
    refine go_s (pc' := 22) (st' := [.int 1, .ref 24]) rfl rfl rfl rfl ?_
    refine go_callV (pc' := 23) rfl rfl rfl (Nat.le_of_ble_eq_true rfl) rfl (sm_o hS rfl) rfl rfl rfl (ct_us_1 hS (by omega)) (fun r h4 q5 => ?_)
    obtain ⟨rfl, rfl⟩ := q5
    cases u6 : us I 1
    · skip
      show am_Go _ _ _ _ 23 _ [.int 0] _ _
      refine go_ifP (t' := 26) (pc' := 24) rfl rfl rfl (fun _ => ?_) (fun (c : ¬ ((0 : Int32) = 0)) => absurd (by decide) c)
      refine go_s (pc' := 27) (st' := [.int (-1)]) rfl rfl rfl rfl ?_
      refine go_ret rfl rfl ?_
      exact ⟨by simp [chs, u3, u6], by simp only [u3, u6, Bool.and_true, Bool.and_false, Bool.true_and, Bool.false_and, if_true, if_false, Bool.false_eq_true, reduceIte]; exact hS, (sm_e_refl _ _)⟩
    · skip
      show am_Go _ _ _ _ 23 _ [.int 1] _ _
      refine go_ifP (t' := 26) (pc' := 24) rfl rfl rfl (fun (c : (1 : Int32) = 0) => absurd c (by decide)) (fun _ => ?_)
      refine go_s (pc' := 25) (st' := [.int 1]) rfl rfl rfl rfl ?_
      refine go_s (pc' := 27) rfl rfl rfl rfl ?_
      refine go_ret rfl rfl ?_
      exact ⟨by simp [chs, u3, u6], by simp only [u3, u6, Bool.and_true, Bool.and_false, Bool.true_and, Bool.false_and, if_true, if_false, Bool.false_eq_true, reduceIte]; exact hS, (sm_e_refl _ _)⟩
  · skip
    show am_Go _ _ _ _ 3 _ [.int 1] _ _
    refine go_ifP (t' := 20) (pc' := 4) rfl rfl rfl (fun (c : (1 : Int32) = 0) => absurd c (by decide)) (fun _ => ?_)
    refine go_s (pc' := 5) rfl rfl rfl rfl ?_
    refine go_s (pc' := 6) (st' := [.int 1, .ref 24]) rfl rfl rfl rfl ?_
    refine go_callV (pc' := 7) rfl rfl rfl (Nat.le_of_ble_eq_true rfl) rfl (sm_o hS rfl) rfl rfl rfl (ct_us_1 hS (by omega)) (fun r h7 q8 => ?_)
    obtain ⟨rfl, rfl⟩ := q8
    cases u9 : us I 1
    · skip
      show am_Go _ _ _ _ 7 _ [.int 0] _ _
      refine go_ifP (t' := 18) (pc' := 8) rfl rfl rfl (fun _ => ?_) (fun (c : ¬ ((0 : Int32) = 0)) => absurd (by decide) c)
      refine go_s (pc' := 19) (st' := [.int 0]) rfl rfl rfl rfl ?_
      refine go_ret rfl rfl ?_
      exact ⟨by simp [chs, u3, u9], by simp only [u3, u9, Bool.and_true, Bool.and_false, Bool.true_and, Bool.false_and, if_true, if_false, Bool.false_eq_true, reduceIte]; exact hS, (sm_e_refl _ _)⟩
    · skip
      show am_Go _ _ _ _ 7 _ [.int 1] _ _
      refine go_ifP (t' := 18) (pc' := 8) rfl rfl rfl (fun (c : (1 : Int32) = 0) => absurd c (by decide)) (fun _ => ?_)
      refine go_s (pc' := 9) rfl rfl rfl rfl ?_
      refine go_sget (pc' := 10) (v := .ref 26) hS rfl rfl rfl (by decide) rfl rfl ?_
      refine go_s (pc' := 11) (st' := [.int 1, .ref 26]) rfl rfl rfl rfl ?_
      refine go_s (pc' := 12) (st' := [.int 0, .int 1, .ref 26]) rfl rfl rfl rfl ?_
      refine go_szast (pc' := 13) (q := 1) hS rfl rfl tbc_inj (Nat.le_of_ble_eq_true rfl) rfl (by decide) (by decide) rfl (hW _ rfl) rfl (fun h10 hS11 hE12 => ?_)
      refine go_s (pc' := 14) rfl rfl rfl rfl ?_
      refine go_sget (pc' := 15) (v := .ref 27) hS11 rfl rfl rfl (by decide) rfl rfl ?_
      refine go_s (pc' := 16) (st' := [.int 1, .ref 27]) rfl rfl rfl rfl ?_
      refine go_s (pc' := 17) (st' := [.int 0, .int 1, .ref 27]) rfl rfl rfl rfl ?_
      refine go_siastX (pc' := 18) (q := 1) hS11 rfl rfl tbc_inj (Nat.le_of_ble_eq_true rfl) (Nat.le_of_ble_eq_true rfl) rfl (by decide) (by decide) (hW _ rfl) rfl (fun h13 hS14 hE15 => ?_)
      have hE16 := sm_e_trans hE12 hE15
      refine go_s (pc' := 19) (st' := [.int 0]) rfl rfl rfl rfl ?_
      refine go_ret rfl rfl ?_
      exact ⟨by simp [chs, u3, u9], by simp only [u3, u9, Bool.and_true, Bool.and_false, Bool.true_and, Bool.false_and, if_true, if_false, Bool.false_eq_true, reduceIte]; exact hS14, hE16⟩
theorem nI_ne {a b : Nat} (ha : a < 4) (hb : b < 4) (h : ¬ a = b) : ¬ nI a = nI b := fun e => h ((nI_eq (by omega) (by omega)).mp e)
theorem ct_between {w : Nat → Bool} {d : Nat} {h : am_Hp} {I : sm_I} {X : sm_X} (hS : sm tbc h I X) {f t : Nat} (hf : f < 4) (ht : t < 4) (hn : ¬ f = t) (hd : 1 ≤ d) : am_Ev (am_prog w) d 25 [.ref 2, .int (nI f), .int (nI t)] h (fun r h' => r = some (.ref (8 + (4 * f + t))) ∧ h' = h) := by
  obtain ⟨d, rfl⟩ : ∃ e, d = e + 1 := ⟨d - 1, by omega⟩
  refine ev_go rfl (Nat.le_of_ble_eq_true rfl) rfl ?_
  refine go_s (pc' := 1) rfl rfl rfl rfl ?_
  refine go_ifP (t' := 12) (pc' := 2) rfl rfl rfl (fun (c : (nI f) < 0) => absurd c (nI_pos (by omega : f < 2 ^ 31))) (fun _ => ?_)
  refine go_s (pc' := 3) rfl rfl rfl rfl ?_
  refine go_s (pc' := 4) (st' := [.int 4, .int (nI f)]) rfl rfl rfl rfl ?_
  refine go_icmpP (t' := 12) (pc' := 5) rfl rfl rfl (fun (c : 4 ≤ (nI f)) => absurd c (nI_ge (b := 4) hf (by decide))) (fun _ => ?_)
  refine go_s (pc' := 6) rfl rfl rfl rfl ?_
  refine go_ifP (t' := 12) (pc' := 7) rfl rfl rfl (fun (c : (nI t) < 0) => absurd c (nI_pos (by omega : t < 2 ^ 31))) (fun _ => ?_)
  refine go_s (pc' := 8) rfl rfl rfl rfl ?_
  refine go_s (pc' := 9) (st' := [.int 4, .int (nI t)]) rfl rfl rfl rfl ?_
  refine go_icmpP (t' := 12) (pc' := 10) rfl rfl rfl (fun (c : 4 ≤ (nI t)) => absurd c (nI_ge (b := 4) ht (by decide))) (fun _ => ?_)
  refine go_s (pc' := 11) (st' := [.int 1]) rfl rfl rfl rfl ?_
  refine go_s (pc' := 13) rfl rfl rfl rfl ?_
  refine go_s (pc' := 14) (lo' := [some (.ref 2), some (.int (nI f)), some (.int (nI t)), some (.int 1)]) rfl rfl rfl rfl ?_
  refine go_s (pc' := 15) rfl rfl rfl rfl ?_
  refine go_ifP (t' := 28) (pc' := 16) rfl rfl rfl (fun (c : (1 : Int32) = 0) => absurd c (by decide)) (fun _ => ?_)
  refine go_s (pc' := 17) rfl rfl rfl rfl ?_
  refine go_s (pc' := 18) rfl rfl rfl rfl ?_
  refine go_icmpP (t' := 28) (pc' := 19) rfl rfl rfl (fun (c : (nI f) = (nI t)) => absurd c (nI_ne hf ht hn)) (fun _ => ?_)
  refine go_s (pc' := 20) rfl rfl rfl rfl ?_
  refine go_sget (pc' := 21) (v := .ref 7) hS rfl rfl rfl (by decide) rfl rfl ?_
  refine go_s (pc' := 22) rfl rfl rfl rfl ?_
  refine go_s (pc' := 23) (st' := [.int 4, .int (nI f), .ref 7]) rfl rfl rfl rfl ?_
  refine go_nmul (pc' := 24) (a := f) (b := 4) rfl rfl rfl rfl rfl ?_
  refine go_s (pc' := 25) rfl rfl rfl rfl ?_
  refine go_nadd (pc' := 26) (a := (f * 4)) (b := t) rfl rfl rfl rfl rfl ?_
  refine go_sald (pc' := 27) (q := ((f * 4) + t)) (v := .ref (8 + ((f * 4) + t))) hS rfl (tc_ln (by omega)) rfl rfl (by omega) rfl rfl ?_
  refine go_s (pc' := 29) rfl rfl rfl rfl ?_
  refine go_ret rfl rfl ?_
  exact ⟨by rw [Nat.mul_comm f 4], rfl⟩
theorem ct_between_f {w : Nat → Bool} {d : Nat} {h : am_Hp} {I : sm_I} {X : sm_X} (hS : sm tbc h I X) {a b : Int32} (hn : ¬ (¬ a < 0 ∧ ¬ 4 ≤ a ∧ ¬ b < 0 ∧ ¬ 4 ≤ b ∧ ¬ a = b)) (hd : 1 ≤ d) : am_Ev (am_prog w) d 25 [.ref 2, .int a, .int b] h (fun r h' => r = some (.null) ∧ h' = h) := by
  obtain ⟨d, rfl⟩ : ∃ e, d = e + 1 := ⟨d - 1, by omega⟩
  refine ev_go rfl (Nat.le_of_ble_eq_true rfl) rfl ?_
  refine go_s (pc' := 1) rfl rfl rfl rfl ?_
  refine go_ifP (t' := 12) (pc' := 2) rfl rfl rfl (fun (c1 : a < 0) => ?_) (fun (c1 : ¬ a < 0) => ?_)
  · skip
    refine go_s (pc' := 13) (st' := [.int 0]) rfl rfl rfl rfl ?_
    refine go_s (pc' := 14) (lo' := [some (.ref 2), some (.int a), some (.int b), some (.int 0)]) rfl rfl rfl rfl ?_
    refine go_s (pc' := 15) rfl rfl rfl rfl ?_
    refine go_ifP (t' := 28) (pc' := 16) rfl rfl rfl (fun _ => ?_) (fun (c : ¬ ((0 : Int32) = 0)) => absurd (by decide) c)
    refine go_s (pc' := 29) rfl rfl rfl rfl ?_
    refine go_ret rfl rfl ?_
    exact ⟨rfl, rfl⟩
  · skip
    refine go_s (pc' := 3) rfl rfl rfl rfl ?_
    refine go_s (pc' := 4) (st' := [.int 4, .int a]) rfl rfl rfl rfl ?_
    refine go_icmpP (t' := 12) (pc' := 5) rfl rfl rfl (fun (c2 : 4 ≤ a) => ?_) (fun (c2 : ¬ 4 ≤ a) => ?_)
    · skip
      refine go_s (pc' := 13) (st' := [.int 0]) rfl rfl rfl rfl ?_
      refine go_s (pc' := 14) (lo' := [some (.ref 2), some (.int a), some (.int b), some (.int 0)]) rfl rfl rfl rfl ?_
      refine go_s (pc' := 15) rfl rfl rfl rfl ?_
      refine go_ifP (t' := 28) (pc' := 16) rfl rfl rfl (fun _ => ?_) (fun (c : ¬ ((0 : Int32) = 0)) => absurd (by decide) c)
      refine go_s (pc' := 29) rfl rfl rfl rfl ?_
      refine go_ret rfl rfl ?_
      exact ⟨rfl, rfl⟩
    · skip
      refine go_s (pc' := 6) rfl rfl rfl rfl ?_
      refine go_ifP (t' := 12) (pc' := 7) rfl rfl rfl (fun (c3 : b < 0) => ?_) (fun (c3 : ¬ b < 0) => ?_)
      · skip
        refine go_s (pc' := 13) (st' := [.int 0]) rfl rfl rfl rfl ?_
        refine go_s (pc' := 14) (lo' := [some (.ref 2), some (.int a), some (.int b), some (.int 0)]) rfl rfl rfl rfl ?_
        refine go_s (pc' := 15) rfl rfl rfl rfl ?_
        refine go_ifP (t' := 28) (pc' := 16) rfl rfl rfl (fun _ => ?_) (fun (c : ¬ ((0 : Int32) = 0)) => absurd (by decide) c)
        refine go_s (pc' := 29) rfl rfl rfl rfl ?_
        refine go_ret rfl rfl ?_
        exact ⟨rfl, rfl⟩
      · skip
        refine go_s (pc' := 8) rfl rfl rfl rfl ?_
        refine go_s (pc' := 9) (st' := [.int 4, .int b]) rfl rfl rfl rfl ?_
        refine go_icmpP (t' := 12) (pc' := 10) rfl rfl rfl (fun (c4 : 4 ≤ b) => ?_) (fun (c4 : ¬ 4 ≤ b) => ?_)
        · skip
          refine go_s (pc' := 13) (st' := [.int 0]) rfl rfl rfl rfl ?_
          refine go_s (pc' := 14) (lo' := [some (.ref 2), some (.int a), some (.int b), some (.int 0)]) rfl rfl rfl rfl ?_
          refine go_s (pc' := 15) rfl rfl rfl rfl ?_
          refine go_ifP (t' := 28) (pc' := 16) rfl rfl rfl (fun _ => ?_) (fun (c : ¬ ((0 : Int32) = 0)) => absurd (by decide) c)
          refine go_s (pc' := 29) rfl rfl rfl rfl ?_
          refine go_ret rfl rfl ?_
          exact ⟨rfl, rfl⟩
        · skip
          refine go_s (pc' := 11) (st' := [.int 1]) rfl rfl rfl rfl ?_
          refine go_s (pc' := 13) rfl rfl rfl rfl ?_
          refine go_s (pc' := 14) (lo' := [some (.ref 2), some (.int a), some (.int b), some (.int 1)]) rfl rfl rfl rfl ?_
          refine go_s (pc' := 15) rfl rfl rfl rfl ?_
          refine go_ifP (t' := 28) (pc' := 16) rfl rfl rfl (fun (c : (1 : Int32) = 0) => absurd c (by decide)) (fun _ => ?_)
          by_cases e : a = b
          · skip
            refine go_s (pc' := 17) rfl rfl rfl rfl ?_
            refine go_s (pc' := 18) rfl rfl rfl rfl ?_
            refine go_icmpP (t' := 28) (pc' := 19) rfl rfl rfl (fun _ => ?_) (fun (c : ¬ a = b) => absurd e c)
            refine go_s (pc' := 29) rfl rfl rfl rfl ?_
            refine go_ret rfl rfl ?_
            exact ⟨rfl, rfl⟩
          · exact absurd ⟨c1, c2, c3, c4, e⟩ hn
