/-! the relation at the beginning -/
def X00 : sm_X := fun c _ => if c = 202 ∨ c = 205 ∨ c = 206 then .int 0 else if c = 203 ∨ c = 204 then .int (-1) else if c = 207 then .int 1 else if c = 208 then .ref 33 else if c = 209 then .ref 45 else .null
def Y00 : sm_X := fun _ _ => .null
def K00 : sm_I := fun c j => if c = 51 then (if j < 848 then (if j % 424 < 2 then 1 else if 32 ≤ j % 424 ∧ j % 424 < 48 then -1 else 0) else if j < 2544 ∧ j % 424 = 5 then 1 else 0) else if c = 52 then (if j = 2 then 6 else if j = 0 then 0 else -1) else if c = 53 then -1 else 0
def ow00 : ow_T := fun a => if 33 ≤ a ∧ a < 45 then (if 34 ≤ a ∧ a < 37 then 1 else 53) else if 45 ≤ a ∧ a < 57 then (if 46 ≤ a ∧ a < 49 then 1 else 65) else 0
def ad0 (b i : Nat) : Nat := if i = 0 then b else if i < 9 then b + 3 + i else b + i - 8
def ck_t (tb : sm_T) (n : Nat) (I : sm_I) (X : sm_X) : Bool := (List.range n).all (fun a => match tb a with
  | none => true
  | some x => decide ((am_jk :: am_s2)[a]? = some (sm_c x.1 (x.2.map (sm_v I X)))))
def ck_s (b : Nat) : Bool := (List.range 12).all (fun i => decide ((am_jk :: am_s2)[ad0 b i]? = some (sm_c (tbsE (ad0 b) i).1 ((tbsE (ad0 b) i).2.map (sm_v (SL 16) Y00)))))
theorem ck_c : ck_t tbc 62 I00 X00 = true := by decide +kernel
def tbr77 : sm_T := fun a => if a = 77 then none else tbr 71 (13 * 32) 77 5088 a
theorem ck_r : ck_t tbr77 89 (jn I00 K00) Y00 = true := by decide +kernel
def rw_i (c : Option am_C) : List Value := match c with
  | some (.inr (.int, l)) => l
  | _ => []
def rw77 : List Value := rw_i (am_jk :: am_s2)[77]?
def ck_i (c : Option am_C) : Bool := match c with
  | some (.inr (.int, _)) => true
  | _ => false
theorem ck_i77 : ck_i (am_jk :: am_s2)[77]? = true := by decide +kernel
theorem rw77_e : (am_jk :: am_s2)[77]? = some (.inr (.int, rw77)) := by
  have z := ck_i77
  unfold rw77
  generalize (am_jk :: am_s2)[77]? = c at z
  unfold ck_i at z
  split at z
  · unfold rw_i
    rfl
  · cases z
def ckc (f : Nat → Value) : Nat → Nat → List Value → Bool
  | 0, j, A => decide (A = (List.range 32).map (fun i => f (j + i)))
  | k + 1, j, A => decide (A.take 64 = (List.range 64).map (fun i => f (j + i))) && ckc f k (j + 64) (A.drop 64)
theorem ckc_e {f : Nat → Value} : ∀ (k j : Nat) (A : List Value), ckc f k j A = true → A.length = 64 * k + 32 ∧ ∀ i, i < 64 * k + 32 → A[i]? = some (f (j + i))
  | 0, j, A, h => by
    have z : A = (List.range 32).map (fun i => f (j + i)) := of_decide_eq_true h
    subst z
    refine ⟨by rw [List.length_map, List.length_range], fun i hi => ?_⟩
    rw [List.getElem?_map, List.getElem?_range (by omega)]
    rfl
  | k + 1, j, A, h => by
    obtain ⟨z1, z2⟩ : decide (A.take 64 = (List.range 64).map (fun i => f (j + i))) = true ∧ ckc f k (j + 64) (A.drop 64) = true := by
      have y : (decide (A.take 64 = (List.range 64).map (fun i => f (j + i))) && ckc f k (j + 64) (A.drop 64)) = true := h
      exact Bool.and_eq_true_iff.mp y
    have z3 := of_decide_eq_true z1
    obtain ⟨l1, g1⟩ := ckc_e k (j + 64) (A.drop 64) z2
    have l2 := congrArg List.length z3
    rw [List.length_take, List.length_map, List.length_range] at l2
    rw [List.length_drop] at l1
    refine ⟨by omega, fun i hi => ?_⟩
    by_cases hi2 : i < 64
    · have y := congrArg (fun l : List Value => l[i]?) z3
      rw [List.getElem?_take_of_lt hi2, List.getElem?_map, List.getElem?_range hi2] at y
      exact y
    · have y := g1 (i - 64) (by omega)
      rw [List.getElem?_drop, show 64 + (i - 64) = i by omega, show j + 64 + (i - 64) = j + i by omega] at y
      exact y
theorem ck_77 : ckc (fun j => sm_v (jn I00 K00) Y00 (51, j)) 79 0 rw77 = true := by decide +kernel
theorem rw77_m : rw77 = ((List.range 5088).map (fun j => (51, j))).map (sm_v (jn I00 K00) Y00) := by
  obtain ⟨l1, g1⟩ := ckc_e _ _ _ ck_77
  refine List.ext_getElem? (fun i => ?_)
  by_cases hi : i < 5088
  · rw [g1 i (by omega), List.getElem?_map, List.getElem?_map, List.getElem?_range hi, Nat.zero_add]
    rfl
  · rw [List.getElem?_eq_none (by omega), List.getElem?_eq_none (by rw [List.length_map, List.length_map, List.length_range]; omega)]
theorem ck_33 : ck_s 33 = true := by decide +kernel
theorem ck_45 : ck_s 45 = true := by decide +kernel
theorem sl_0 : am_sl am_s2 ≤ 15000 := by decide +kernel
theorem ck_at {sv : List Value} {a : Nat} {c : am_C} (ha : a ≠ 0) (h : (am_jk :: am_s2)[a]? = some c) : ((.inr (.int, sv) :: am_s2 : am_Hp))[a]? = some c := by
  obtain ⟨b, rfl⟩ : ∃ b, a = b + 1 := ⟨a - 1, by omega⟩
  rw [List.getElem?_cons_succ] at h ⊢
  exact h
theorem ck_sm {sv : List Value} {tb : sm_T} {n : Nat} {I : sm_I} {X : sm_X} (hc : ck_t tb n I X = true) (hn : ∀ a, tb a ≠ none → a ≠ 0 ∧ a < n) : sm tb (.inr (.int, sv) :: am_s2) I X := by
  intro a hd ds h
  have ha := hn a (by rw [h]; exact nofun)
  have z := List.all_eq_true.mp hc a (List.mem_range.mpr ha.2)
  rw [h] at z
  exact ck_at ha.1 (of_decide_eq_true z)
theorem sm_r0 {sv : List Value} : sm (tbr 71 (13 * 32) 77 5088) (.inr (.int, sv) :: am_s2) (jn I00 K00) Y00 := by
  intro a hd ds h
  by_cases e : a = 77
  · subst e
    have z : tbr 71 (13 * 32) 77 5088 77 = some (.inr .int, (List.range 5088).map (fun j => (51, j))) := by
      unfold tbr
      rw [if_neg (by decide), if_neg (by decide), if_pos rfl]
    rw [z] at h
    cases h
    rw [ck_at (by decide) rw77_e, rw77_m]
    rfl
  · have z : tbr77 a = some (hd, ds) := by
      unfold tbr77
      rw [if_neg e]
      exact h
    refine ck_sm ck_r (fun a ha => ?_) a hd ds z
    have y := tbr_in (fun e2 => ha (by
      unfold tbr77
      split
      · rfl
      · exact e2))
    omega
theorem ck_St {sv : List Value} {b : Nat} (hc : ck_s b = true) (hb : 1 ≤ b) (h1 : ∀ i, i < 12 → ∀ j, j < 12 → ad0 b i = ad0 b j → i = j) (h2 : ∀ i, i < 9 → ow00 (ad0 b i) = 20 + b) (h3 : ∀ i, i < 12 → 9 ≤ i → ow00 (ad0 b i) = 1) : St (.inr (.int, sv) :: am_s2) ow00 b mN := by
  refine ⟨ad0 b, SL 16, Y00, rfl, fun i j hi hj e => h1 i hi j hj e, h2, fun i a1 a2 => h3 i a2 a1, fun a hd ds h => ?_, ⟨⟨[], sc_N, fun z => absurd rfl z⟩, rfl, fun z => absurd z (by decide), fun _ => rfl⟩⟩
  obtain ⟨i, hi, rfl, e⟩ := tbs_of h
  have z := of_decide_eq_true (List.all_eq_true.mp hc i (List.mem_range.mpr hi))
  rw [e] at z
  refine ck_at ?_ z
  unfold ad0
  split
  · omega
  · split <;> omega
theorem tbc_no : ∀ a, a < 57 → 33 ≤ a → (tbc a).isNone = true := by decide
theorem CA_0 {sv : List Value} : CA (wcl 71) 32 mo0 (co (.inr (.int, sv) :: am_s2) I00) (.inr (.int, sv) :: am_s2) M00 := by
  have hlen : ((.inr (.int, sv) :: am_s2 : am_Hp)).length = 89 := by rw [List.length_cons, am_s2_len]
  have how : ∀ a, ow00 a ≠ 0 → 33 ≤ a ∧ a < 57 := fun a ha => by
    unfold ow00 at ha
    split at ha
    · omega
    · split at ha
      · omega
      · exact absurd rfl ha
  have hS33 : St (.inr (.int, sv) :: am_s2) ow00 33 mN := ck_St ck_33 (by decide) (by decide) (by decide) (by decide)
  have hS45 : St (.inr (.int, sv) :: am_s2) ow00 45 mN := ck_St ck_45 (by decide) (by decide) (by decide) (by decide)
  refine ⟨X00, ow00, 33, ck_sm ck_c (fun a ha => tbc_in ha), ⟨⟨fun a ha => ?_, fun a ha => ?_, fun a ha => ?_⟩, fun l hl => ?_, fun l hl => ?_, ⟨fun d hd => ⟨0, rfl, fun _ => rfl⟩, fun d hd => ⟨0, rfl, fun _ => rfl⟩, fun k hk => ?_⟩, ⟨rfl, fun _ => hS33, fun _ => ⟨45, rfl, by decide, hS45⟩, 0, by decide, rfl, fun k hk => absurd hk (by omega)⟩, fun t ht => ?_, fun k hk => ?_⟩, Nat.le_refl _, fun l hl => Nat.zero_le _⟩
  · have z := tbc_in (a := a) (fun e => by rw [e] at ha; cases ha)
    exact wcl_t.mpr ⟨z.1, by omega, by omega⟩
  · rw [hlen] at ha
    refine ⟨wcl_t.mpr ⟨by omega, by omega, by omega⟩, ?_⟩
    unfold ow00
    rw [if_neg (by omega), if_neg (by omega)]
  · obtain ⟨a1, a2⟩ := how a ha
    refine ⟨wcl_t.mpr ⟨by omega, by omega, by omega⟩, ?_, by omega⟩
    have z := tbc_no a a2 a1
    cases e : tbc a with
    | none => rfl
    | some x =>
      rw [e] at z
      cases z
  · refine ⟨[], ?_, rfl, rfl, rfl, fun i x m z => by simp at z⟩
    unfold cq
    rw [if_neg (by omega)]
    rfl
  · exact ⟨fun e => absurd e (by omega), fun e => absurd e (by omega), fun _ _ => ⟨rfl, rfl⟩⟩
  · obtain rfl | rfl | rfl : k = 0 ∨ k = 1 ∨ k = 2 := by omega
    · rfl
    · rfl
    · rfl
  · obtain rfl | rfl : t = 0 ∨ t = 1 := by omega
    · exact ⟨fun _ => Or.inl ⟨rfl, rfl, rfl, rfl, rfl, rfl⟩, fun _ => Or.inl ⟨rfl, rfl, rfl, rfl, rfl, rfl⟩, fun _ => rfl, fun z => absurd rfl z⟩
    · exact ⟨fun _ => Or.inl ⟨rfl, rfl, rfl, rfl, rfl, rfl⟩, fun _ => Or.inl ⟨rfl, rfl, rfl, rfl, rfl, rfl⟩, fun _ => rfl, fun z => absurd rfl z⟩
  · obtain rfl | rfl | rfl : k = 0 ∨ k = 1 ∨ k = 2 := by omega
    · exact Or.inr (Or.inl rfl)
    · exact Or.inr (Or.inl rfl)
    · exact Or.inr (Or.inr rfl)
theorem K00_a : ∀ r, r < 2 → ∀ j, j < 48 → K00 51 (424 * r + j) = mN.1 j := by decide
theorem K00_b : ∀ r, r < 6 → 2 ≤ r → ∀ j, j < 12 → K00 51 (424 * r + j) = (if j = 5 then 1 else 0) := by decide
theorem RA_0 {sv : List Value} (hs : sv.length ≤ 2560) : RA (wrf 71 89) 20000 0 [] true (.inr (.int, sv) :: am_s2) M00 := by
  have hlen : ((.inr (.int, sv) :: am_s2 : am_Hp)).length = 89 := by rw [List.length_cons, am_s2_len]
  have hsl : am_sl (.inr (.int, sv) :: am_s2) ≤ 17560 := by
    have z := sl_0
    have y : am_sl (.inr (.int, sv) :: am_s2) = sv.length + am_sl am_s2 := by simp [am_sl, am_sz]
    omega
  refine RA_u.mpr ⟨K00, Y00, 71, 32, sm_r0, ⟨fun a a1 a2 => wrf_t.mpr (Or.inl ⟨a1, a2⟩), wrf_t.mpr (Or.inr (Or.inl rfl)), fun a ha => wrf_t.mpr (Or.inr (Or.inr (by omega))), by omega, ⟨by decide, Or.inl rfl, Or.inl rfl⟩, by decide, by omega, by omega⟩, fun i hi => ?_, fun _ => [], [], [], fun _ => 0, fun _ => 0, 0, 6, ⟨⟨rfl, by decide, rfl, List.nodup_nil, fun i x z => by simp at z⟩, fun l hl => ⟨List.nodup_nil, fun i x z => by simp at z⟩, fun l hl => ⟨rfl, rfl, fun z => absurd rfl z, fun i x z => by simp at z⟩, fun l hl => ⟨rfl, fun i x m z => by simp at z⟩, ⟨rfl, by decide, by decide, rfl, List.nodup_nil, fun i r z => by simp at z, fun r _ => rfl⟩, fun x m z => by simp at z, ?_⟩, ?_, by decide⟩
  · refine ⟨fun h => ?_, fun h j hj => ?_⟩
    · have hi2 : i < 2 := of_decide_eq_true h
      have hz : M00.2.2 i = mN := if_pos hi2
      rw [hz]
      refine ⟨⟨fun j hj _ _ => K00_a i hi2 j hj, K00_a i hi2 2 (by decide), K00_a i hi2 5 (by decide), fun k e z => by simp [mN] at z, fun k e z => by simp [mN] at z⟩, by decide, by decide, fun q hq => Or.inl ?_⟩
      show (if 32 + q < 2 then (1 : Int32) else if 32 ≤ 32 + q ∧ 32 + q < 48 then -1 else 0) = -1
      rw [if_neg (by omega), if_pos (by omega)]
    · have hi2 : ¬ i < 2 := of_decide_eq_false h
      have hz : M00.2.2 i = (fun j => if j = 5 then 1 else 0, [], []) := if_neg hi2
      rw [hz]
      exact K00_b i hi (by omega) j hj
  · rfl
  · decide
theorem rl_0 {sv : List Value} (hs : sv.length ≤ 2560) : Rl sv 0 (.inr (.int, sv) :: am_s2) := by
  have hlen : ((.inr (.int, sv) :: am_s2 : am_Hp)).length = 89 := by rw [List.length_cons, am_s2_len]
  refine ⟨rfl, M00, 71, 20000, Or.inl rfl, XV_0, CA_0, ?_, by decide, by decide⟩
  rw [hlen]
  exact RA_0 hs
theorem rl_hA : ∀ vs : List Int32, vs.length ≤ 2560 → am_Go am_T0 12 am_c192 (some .boolean) 0 (am_en [.ref 0] 4) [] [.inr (.int, vs.map Value.int)] (fun r h' => r = some (.int 1) ∧ h'.length ≤ 600001 ∧ am_sl h' ≤ 7302249) := am_hA (Rel := Rl) (fun sv _ hl => ⟨rl_keeps, rl_0 hl⟩)
