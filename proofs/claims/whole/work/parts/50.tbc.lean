/-! the class's fixed cells as a flat memory -/
def tbc_1 : (Nat ⊕ FieldType) × List (Nat × Nat) := (.inl 0, [(1000, 2), (1000, 24), (1000, 32), (1000, 58), (1000, 61), (8, 0)])
def tbc_2 : (Nat ⊕ FieldType) × List (Nat × Nat) := (.inl 1, [(1000, 3), (1000, 4), (1000, 5), (1000, 6), (1000, 7)])
def tbc_3 : (Nat ⊕ FieldType) × List (Nat × Nat) := (.inr .boolean, [(0, 0), (0, 1), (0, 2), (0, 3)])
def tbc_4 : (Nat ⊕ FieldType) × List (Nat × Nat) := (.inr .boolean, [(1, 0), (1, 1), (1, 2), (1, 3)])
def tbc_5 : (Nat ⊕ FieldType) × List (Nat × Nat) := (.inr .int, [(2, 0), (2, 1), (2, 2), (2, 3)])
def tbc_6 : (Nat ⊕ FieldType) × List (Nat × Nat) := (.inr .boolean, [(3, 0), (3, 1)])
def tbc_7 : (Nat ⊕ FieldType) × List (Nat × Nat) := (.inr (.object "MirrorPairs$Link"), [(1000, 8), (1000, 9), (1000, 10), (1000, 11), (1000, 12), (1000, 13), (1000, 14), (1000, 15), (1000, 16), (1000, 17), (1000, 18), (1000, 19), (1000, 20), (1000, 21), (1000, 22), (1000, 23)])
def tbc_8 : (Nat ⊕ FieldType) × List (Nat × Nat) := (.inl 2, [(200, 0), (201, 0), (202, 0), (9, 0), (10, 0), (203, 0), (204, 0)])
def tbc_9 : (Nat ⊕ FieldType) × List (Nat × Nat) := (.inl 2, [(200, 1), (201, 1), (202, 1), (9, 1), (10, 1), (203, 1), (204, 1)])
def tbc_10 : (Nat ⊕ FieldType) × List (Nat × Nat) := (.inl 2, [(200, 2), (201, 2), (202, 2), (9, 2), (10, 2), (203, 2), (204, 2)])
def tbc_11 : (Nat ⊕ FieldType) × List (Nat × Nat) := (.inl 2, [(200, 3), (201, 3), (202, 3), (9, 3), (10, 3), (203, 3), (204, 3)])
def tbc_12 : (Nat ⊕ FieldType) × List (Nat × Nat) := (.inl 2, [(200, 4), (201, 4), (202, 4), (9, 4), (10, 4), (203, 4), (204, 4)])
def tbc_13 : (Nat ⊕ FieldType) × List (Nat × Nat) := (.inl 2, [(200, 5), (201, 5), (202, 5), (9, 5), (10, 5), (203, 5), (204, 5)])
def tbc_14 : (Nat ⊕ FieldType) × List (Nat × Nat) := (.inl 2, [(200, 6), (201, 6), (202, 6), (9, 6), (10, 6), (203, 6), (204, 6)])
def tbc_15 : (Nat ⊕ FieldType) × List (Nat × Nat) := (.inl 2, [(200, 7), (201, 7), (202, 7), (9, 7), (10, 7), (203, 7), (204, 7)])
def tbc_16 : (Nat ⊕ FieldType) × List (Nat × Nat) := (.inl 2, [(200, 8), (201, 8), (202, 8), (9, 8), (10, 8), (203, 8), (204, 8)])
def tbc_17 : (Nat ⊕ FieldType) × List (Nat × Nat) := (.inl 2, [(200, 9), (201, 9), (202, 9), (9, 9), (10, 9), (203, 9), (204, 9)])
def tbc_18 : (Nat ⊕ FieldType) × List (Nat × Nat) := (.inl 2, [(200, 10), (201, 10), (202, 10), (9, 10), (10, 10), (203, 10), (204, 10)])
def tbc_19 : (Nat ⊕ FieldType) × List (Nat × Nat) := (.inl 2, [(200, 11), (201, 11), (202, 11), (9, 11), (10, 11), (203, 11), (204, 11)])
def tbc_20 : (Nat ⊕ FieldType) × List (Nat × Nat) := (.inl 2, [(200, 12), (201, 12), (202, 12), (9, 12), (10, 12), (203, 12), (204, 12)])
def tbc_21 : (Nat ⊕ FieldType) × List (Nat × Nat) := (.inl 2, [(200, 13), (201, 13), (202, 13), (9, 13), (10, 13), (203, 13), (204, 13)])
def tbc_22 : (Nat ⊕ FieldType) × List (Nat × Nat) := (.inl 2, [(200, 14), (201, 14), (202, 14), (9, 14), (10, 14), (203, 14), (204, 14)])
def tbc_23 : (Nat ⊕ FieldType) × List (Nat × Nat) := (.inl 2, [(200, 15), (201, 15), (202, 15), (9, 15), (10, 15), (203, 15), (204, 15)])
def tbc_24 : (Nat ⊕ FieldType) × List (Nat × Nat) := (.inl 3, [(1000, 25), (1000, 26), (1000, 27), (1000, 28), (1000, 29)])
def tbc_25 : (Nat ⊕ FieldType) × List (Nat × Nat) := (.inr .boolean, [(4, 0), (4, 1)])
def tbc_26 : (Nat ⊕ FieldType) × List (Nat × Nat) := (.inr .boolean, [(5, 0), (5, 1)])
def tbc_27 : (Nat ⊕ FieldType) × List (Nat × Nat) := (.inr .int, [(205, 0), (205, 1)])
def tbc_28 : (Nat ⊕ FieldType) × List (Nat × Nat) := (.inr .int, [(206, 0), (206, 1)])
def tbc_29 : (Nat ⊕ FieldType) × List (Nat × Nat) := (.inr (.array .int), [(1000, 30), (1000, 31)])
def tbc_30 : (Nat ⊕ FieldType) × List (Nat × Nat) := (.inr .int, (List.range 245).map (fun j => (7, 0 + j)))
def tbc_31 : (Nat ⊕ FieldType) × List (Nat × Nat) := (.inr .int, (List.range 245).map (fun j => (7, 245 + j)))
def tbc_32 : (Nat ⊕ FieldType) × List (Nat × Nat) := (.inl 4, [(1001, 0), (1001, 0), (11, 0), (207, 0), (13, 0), (14, 0), (15, 0), (16, 0), (208, 0), (209, 0), (1000, 57), (21, 0), (23, 0)])
def tbc_57 : (Nat ⊕ FieldType) × List (Nat × Nat) := (.inr (.object "MirrorPairs$Request"), [(210, 0), (210, 1), (210, 2), (210, 3), (210, 4), (210, 5), (210, 6), (210, 7)])
def tbc_58 : (Nat ⊕ FieldType) × List (Nat × Nat) := (.inr (.object "MirrorPairs$Terminal"), [(1000, 59), (1000, 60)])
def tbc_59 : (Nat ⊕ FieldType) × List (Nat × Nat) := (.inl 7, [(1001, 1), (1001, 2), (11, 1), (207, 1), (13, 1), (14, 1), (15, 1), (16, 1), (17, 0), (211, 0), (212, 0), (213, 0), (214, 0), (215, 0)])
def tbc_60 : (Nat ⊕ FieldType) × List (Nat × Nat) := (.inl 7, [(1001, 2), (1001, 2), (11, 2), (207, 2), (13, 2), (14, 2), (15, 2), (16, 2), (17, 1), (211, 1), (212, 1), (213, 1), (214, 1), (215, 1)])
def tbc_61 : (Nat ⊕ FieldType) × List (Nat × Nat) := (.inr (.object "MirrorPairs$Pair"), [(1000, 32), (1000, 59), (1000, 60)])
def tbc_l : List (Option ((Nat ⊕ FieldType) × List (Nat × Nat))) := [none, some tbc_1, some tbc_2, some tbc_3, some tbc_4, some tbc_5, some tbc_6, some tbc_7, some tbc_8, some tbc_9, some tbc_10, some tbc_11, some tbc_12, some tbc_13, some tbc_14, some tbc_15, some tbc_16, some tbc_17, some tbc_18, some tbc_19, some tbc_20, some tbc_21, some tbc_22, some tbc_23, some tbc_24, some tbc_25, some tbc_26, some tbc_27, some tbc_28, some tbc_29, some tbc_30, some tbc_31, some tbc_32, none, none, none, none, none, none, none, none, none, none, none, none, none, none, none, none, none, none, none, none, none, none, none, none, some tbc_57, some tbc_58, some tbc_59, some tbc_60, some tbc_61]
def tbc : sm_T := fun a => match tbc_l[a]? with
  | some x => x
  | none => none
def tbc_pos (d : Nat × Nat) : Nat × Nat := match d.1 with
  | 0 => (3, d.2)
  | 1 => (4, d.2)
  | 2 => (5, d.2)
  | 3 => (6, d.2)
  | 4 => (25, d.2)
  | 5 => (26, d.2)
  | 7 => if d.2 < 245 then (30, d.2) else (31, d.2 - 245)
  | 8 => (1, 5)
  | 9 => (8 + d.2, 3)
  | 10 => (8 + d.2, 4)
  | 11 => (if d.2 = 0 then 32 else 58 + d.2, 2)
  | 13 => (if d.2 = 0 then 32 else 58 + d.2, 4)
  | 14 => (if d.2 = 0 then 32 else 58 + d.2, 5)
  | 15 => (if d.2 = 0 then 32 else 58 + d.2, 6)
  | 16 => (if d.2 = 0 then 32 else 58 + d.2, 7)
  | 17 => (59 + d.2, 8)
  | 21 => (32, 11)
  | 23 => (32, 12)
  | 200 => (8 + d.2, 0)
  | 201 => (8 + d.2, 1)
  | 202 => (8 + d.2, 2)
  | 203 => (8 + d.2, 5)
  | 204 => (8 + d.2, 6)
  | 205 => (27, d.2)
  | 206 => (28, d.2)
  | 207 => (if d.2 = 0 then 32 else 58 + d.2, 3)
  | 208 => (32, 8)
  | 209 => (32, 9)
  | 210 => (57, d.2)
  | 211 => (59 + d.2, 9)
  | 212 => (59 + d.2, 10)
  | 213 => (59 + d.2, 11)
  | 214 => (59 + d.2, 12)
  | 215 => (59 + d.2, 13)
  | _ => (0, 0)
def sm_chk (tb : sm_T) (n : Nat) (pos : Nat × Nat → Nat × Nat) : Bool := (List.range n).all (fun a => match tb a with
  | none => true
  | some (_, ds) => (List.range ds.length).all (fun i => match ds[i]? with
    | none => true
    | some d => decide (1000 ≤ d.1) || decide (pos d = (a, i))))
theorem sm_inj_of {tb : sm_T} {n : Nat} {pos : Nat × Nat → Nat × Nat} (hn : ∀ a, n ≤ a → tb a = none) (hc : sm_chk tb n pos = true) : sm_inj tb := by
  have key : ∀ a i hd d, sm_s tb a i = some (hd, d) → d.1 < 1000 → pos d = (a, i) := by
    intro a i hd d hs hd1
    have han : a < n := by
      apply Decidable.byContradiction
      intro hna
      have := hn a (by omega)
      simp [sm_s, this] at hs
    have h1 := List.all_eq_true.mp hc a (List.mem_range.mpr han)
    unfold sm_s at hs
    split at hs
    · rename_i hd' ds hb
      split at hs
      · rename_i d' hi
        simp at hs
        obtain ⟨rfl, rfl⟩ := hs
        rw [hb] at h1
        simp only at h1
        have h2 := List.all_eq_true.mp h1 i (List.mem_range.mpr (List.getElem?_eq_some_iff.mp hi).1)
        rw [hi] at h2
        simp only [Bool.or_eq_true, decide_eq_true_eq] at h2
        rcases h2 with h2 | h2
        · omega
        · exact h2
      · cases hs
    · cases hs
  intro a a' i i' hd hd' d h1 h2 h3
  have e1 := key a i hd d h1 h3
  have e2 := key a' i' hd' d h2 h3
  rw [e1] at e2
  simp at e2
  exact e2
theorem tbc_out (a : Nat) (h : 62 ≤ a) : tbc a = none := by
  have : tbc_l.length ≤ a := Nat.le_trans (by decide) h
  simp [tbc, List.getElem?_eq_none this]
theorem tbc_inj : sm_inj tbc := sm_inj_of tbc_out (pos := tbc_pos) (by decide +kernel)
theorem sm_o {tb : sm_T} {h : am_Hp} {I : sm_I} {X : sm_X} {a ci : Nat} {ds : List (Nat × Nat)} (hs : sm tb h I X) (ht : tb a = some (.inl ci, ds)) : h[a]? = some (.inl (ci, ds.map (sm_v I X))) := hs a _ _ ht
theorem tc_up {q : Nat} (hq : q < 4) : sm_s tbc (3) (q) = some (.inr .boolean, (0, q)) := by
  have : ∀ q, q < 4 → sm_s tbc (3) (q) = some (.inr .boolean, (0, q)) := by decide +kernel
  exact this q hq
theorem tc_dc {q : Nat} (hq : q < 4) : sm_s tbc (4) (q) = some (.inr .boolean, (1, q)) := by
  have : ∀ q, q < 4 → sm_s tbc (4) (q) = some (.inr .boolean, (1, q)) := by decide +kernel
  exact this q hq
theorem tc_si {q : Nat} (hq : q < 4) : sm_s tbc (5) (q) = some (.inr .int, (2, q)) := by
  have : ∀ q, q < 4 → sm_s tbc (5) (q) = some (.inr .int, (2, q)) := by decide +kernel
  exact this q hq
theorem tc_bu {q : Nat} (hq : q < 2) : sm_s tbc (6) (q) = some (.inr .boolean, (3, q)) := by
  have : ∀ q, q < 2 → sm_s tbc (6) (q) = some (.inr .boolean, (3, q)) := by decide +kernel
  exact this q hq
theorem tc_du {q : Nat} (hq : q < 2) : sm_s tbc (25) (q) = some (.inr .boolean, (4, q)) := by
  have : ∀ q, q < 2 → sm_s tbc (25) (q) = some (.inr .boolean, (4, q)) := by decide +kernel
  exact this q hq
theorem tc_cu {q : Nat} (hq : q < 2) : sm_s tbc (26) (q) = some (.inr .boolean, (5, q)) := by
  have : ∀ q, q < 2 → sm_s tbc (26) (q) = some (.inr .boolean, (5, q)) := by decide +kernel
  exact this q hq
theorem tc_nb {q : Nat} (hq : q < 2) : sm_s tbc (27) (q) = some (.inr .int, (205, q)) := by
  have : ∀ q, q < 2 → sm_s tbc (27) (q) = some (.inr .int, (205, q)) := by decide +kernel
  exact this q hq
theorem tc_wn {q : Nat} (hq : q < 2) : sm_s tbc (28) (q) = some (.inr .int, (206, q)) := by
  have : ∀ q, q < 2 → sm_s tbc (28) (q) = some (.inr .int, (206, q)) := by decide +kernel
  exact this q hq
theorem tc_ln {q : Nat} (hq : q < 16) : sm_s tbc (7) (q) = some (.inr (.object "MirrorPairs$Link"), (1000, 8 + q)) := by
  have : ∀ q, q < 16 → sm_s tbc (7) (q) = some (.inr (.object "MirrorPairs$Link"), (1000, 8 + q)) := by decide +kernel
  exact this q hq
theorem tc_l0 {q : Nat} (hq : q < 16) : sm_s tbc (8 + q) (0) = some (.inl 2, (200, q)) := by
  have : ∀ q, q < 16 → sm_s tbc (8 + q) (0) = some (.inl 2, (200, q)) := by decide +kernel
  exact this q hq
theorem tc_l1 {q : Nat} (hq : q < 16) : sm_s tbc (8 + q) (1) = some (.inl 2, (201, q)) := by
  have : ∀ q, q < 16 → sm_s tbc (8 + q) (1) = some (.inl 2, (201, q)) := by decide +kernel
  exact this q hq
theorem tc_l2 {q : Nat} (hq : q < 16) : sm_s tbc (8 + q) (2) = some (.inl 2, (202, q)) := by
  have : ∀ q, q < 16 → sm_s tbc (8 + q) (2) = some (.inl 2, (202, q)) := by decide +kernel
  exact this q hq
theorem tc_l3 {q : Nat} (hq : q < 16) : sm_s tbc (8 + q) (3) = some (.inl 2, (9, q)) := by
  have : ∀ q, q < 16 → sm_s tbc (8 + q) (3) = some (.inl 2, (9, q)) := by decide +kernel
  exact this q hq
theorem tc_l4 {q : Nat} (hq : q < 16) : sm_s tbc (8 + q) (4) = some (.inl 2, (10, q)) := by
  have : ∀ q, q < 16 → sm_s tbc (8 + q) (4) = some (.inl 2, (10, q)) := by decide +kernel
  exact this q hq
theorem tc_l5 {q : Nat} (hq : q < 16) : sm_s tbc (8 + q) (5) = some (.inl 2, (203, q)) := by
  have : ∀ q, q < 16 → sm_s tbc (8 + q) (5) = some (.inl 2, (203, q)) := by decide +kernel
  exact this q hq
theorem tc_l6 {q : Nat} (hq : q < 16) : sm_s tbc (8 + q) (6) = some (.inl 2, (204, q)) := by
  have : ∀ q, q < 16 → sm_s tbc (8 + q) (6) = some (.inl 2, (204, q)) := by decide +kernel
  exact this q hq
theorem tc_wd {q : Nat} (hq : q < 2) : sm_s tbc (29) (q) = some (.inr (.array .int), (1000, 30 + q)) := by
  have : ∀ q, q < 2 → sm_s tbc (29) (q) = some (.inr (.array .int), (1000, 30 + q)) := by decide +kernel
  exact this q hq
theorem tc_tm {q : Nat} (hq : q < 2) : sm_s tbc (58) (q) = some (.inr (.object "MirrorPairs$Terminal"), (1000, 59 + q)) := by
  have : ∀ q, q < 2 → sm_s tbc (58) (q) = some (.inr (.object "MirrorPairs$Terminal"), (1000, 59 + q)) := by decide +kernel
  exact this q hq
theorem tc_rw {q : Nat} (hq : q < 8) : sm_s tbc (57) (q) = some (.inr (.object "MirrorPairs$Request"), (210, q)) := by
  have : ∀ q, q < 8 → sm_s tbc (57) (q) = some (.inr (.object "MirrorPairs$Request"), (210, q)) := by decide +kernel
  exact this q hq
theorem tc_t2 {q : Nat} (hq : q < 2) : sm_s tbc (59 + q) (2) = some (.inl 7, (11, 1 + q)) := by
  have : ∀ q, q < 2 → sm_s tbc (59 + q) (2) = some (.inl 7, (11, 1 + q)) := by decide +kernel
  exact this q hq
theorem tc_t3 {q : Nat} (hq : q < 2) : sm_s tbc (59 + q) (3) = some (.inl 7, (207, 1 + q)) := by
  have : ∀ q, q < 2 → sm_s tbc (59 + q) (3) = some (.inl 7, (207, 1 + q)) := by decide +kernel
  exact this q hq
theorem tc_t4 {q : Nat} (hq : q < 2) : sm_s tbc (59 + q) (4) = some (.inl 7, (13, 1 + q)) := by
  have : ∀ q, q < 2 → sm_s tbc (59 + q) (4) = some (.inl 7, (13, 1 + q)) := by decide +kernel
  exact this q hq
theorem tc_t5 {q : Nat} (hq : q < 2) : sm_s tbc (59 + q) (5) = some (.inl 7, (14, 1 + q)) := by
  have : ∀ q, q < 2 → sm_s tbc (59 + q) (5) = some (.inl 7, (14, 1 + q)) := by decide +kernel
  exact this q hq
theorem tc_t6 {q : Nat} (hq : q < 2) : sm_s tbc (59 + q) (6) = some (.inl 7, (15, 1 + q)) := by
  have : ∀ q, q < 2 → sm_s tbc (59 + q) (6) = some (.inl 7, (15, 1 + q)) := by decide +kernel
  exact this q hq
theorem tc_t7 {q : Nat} (hq : q < 2) : sm_s tbc (59 + q) (7) = some (.inl 7, (16, 1 + q)) := by
  have : ∀ q, q < 2 → sm_s tbc (59 + q) (7) = some (.inl 7, (16, 1 + q)) := by decide +kernel
  exact this q hq
theorem tc_t8 {q : Nat} (hq : q < 2) : sm_s tbc (59 + q) (8) = some (.inl 7, (17, q)) := by
  have : ∀ q, q < 2 → sm_s tbc (59 + q) (8) = some (.inl 7, (17, q)) := by decide +kernel
  exact this q hq
theorem tc_t9 {q : Nat} (hq : q < 2) : sm_s tbc (59 + q) (9) = some (.inl 7, (211, q)) := by
  have : ∀ q, q < 2 → sm_s tbc (59 + q) (9) = some (.inl 7, (211, q)) := by decide +kernel
  exact this q hq
theorem tc_t10 {q : Nat} (hq : q < 2) : sm_s tbc (59 + q) (10) = some (.inl 7, (212, q)) := by
  have : ∀ q, q < 2 → sm_s tbc (59 + q) (10) = some (.inl 7, (212, q)) := by decide +kernel
  exact this q hq
theorem tc_t11 {q : Nat} (hq : q < 2) : sm_s tbc (59 + q) (11) = some (.inl 7, (213, q)) := by
  have : ∀ q, q < 2 → sm_s tbc (59 + q) (11) = some (.inl 7, (213, q)) := by decide +kernel
  exact this q hq
theorem tc_t12 {q : Nat} (hq : q < 2) : sm_s tbc (59 + q) (12) = some (.inl 7, (214, q)) := by
  have : ∀ q, q < 2 → sm_s tbc (59 + q) (12) = some (.inl 7, (214, q)) := by decide +kernel
  exact this q hq
theorem tc_t13 {q : Nat} (hq : q < 2) : sm_s tbc (59 + q) (13) = some (.inl 7, (215, q)) := by
  have : ∀ q, q < 2 → sm_s tbc (59 + q) (13) = some (.inl 7, (215, q)) := by decide +kernel
  exact this q hq
theorem tc_t0 {q : Nat} (hq : q < 2) : sm_s tbc (59 + q) (0) = some (.inl 7, (1001, 1 + q)) := by
  have : ∀ q, q < 2 → sm_s tbc (59 + q) (0) = some (.inl 7, (1001, 1 + q)) := by decide +kernel
  exact this q hq
theorem tc_t1 {q : Nat} (hq : q < 2) : sm_s tbc (59 + q) (1) = some (.inl 7, (1001, 2)) := by
  have : ∀ q, q < 2 → sm_s tbc (59 + q) (1) = some (.inl 7, (1001, 2)) := by decide +kernel
  exact this q hq
theorem tc_ds {d q : Nat} (hd : d < 2) (hq : q < 245) : sm_s tbc (30 + d) q = some (.inr .int, (7, 245 * d + q)) := by
  have a0 : ∀ q, q < 245 → sm_s tbc 30 q = some (.inr .int, (7, q)) := by decide +kernel
  have a1 : ∀ q, q < 245 → sm_s tbc 31 q = some (.inr .int, (7, 245 + q)) := by decide +kernel
  match d, hd with
  | 0, _ => rw [Nat.mul_zero, Nat.zero_add]; exact a0 q hq
  | 1, _ => exact a1 q hq
theorem tc_lk {q : Nat} (hq : q < 16) : tbc (8 + q) = some (.inl 2, [(200, q), (201, q), (202, q), (9, q), (10, q), (203, q), (204, q)]) := by
  have : ∀ q, q < 16 → tbc (8 + q) = some (.inl 2, [(200, q), (201, q), (202, q), (9, q), (10, q), (203, q), (204, q)]) := by decide +kernel
  exact this q hq
theorem tc_te {q : Nat} (hq : q < 2) : tbc (59 + q) = some (.inl 7, [(1001, 1 + q), (1001, 2), (11, 1 + q), (207, 1 + q), (13, 1 + q), (14, 1 + q), (15, 1 + q), (16, 1 + q), (17, q), (211, q), (212, q), (213, q), (214, q), (215, q)]) := by
  have : ∀ q, q < 2 → tbc (59 + q) = some (.inl 7, [(1001, 1 + q), (1001, 2), (11, 1 + q), (207, 1 + q), (13, 1 + q), (14, 1 + q), (15, 1 + q), (16, 1 + q), (17, q), (211, q), (212, q), (213, q), (214, q), (215, q)]) := by decide +kernel
  exact this q hq
