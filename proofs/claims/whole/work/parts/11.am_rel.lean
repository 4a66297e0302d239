/-! AM against the machine: what an AM heap says of a heap, AM locals of locals. G: class numbers, slots, array classes; the classes; the array types; the script's cell; the first cell of our own. -/
abbrev am_G : Type := ((Nat → ClassId) × (Nat → Nat → Nat) × (FieldType → ClassId)) × List vw_C × List FieldType × Nat × Nat
def am_ad (G : am_G) (k : Nat) : Nat := if k = 0 then G.2.2.2.1 else G.2.2.2.2 + (k - 1)
def am_v (G : am_G) (v : Value) : Value := match v with
  | .ref k => .ref (am_ad G k)
  | .int x => .int x
  | .null => .null
  | .long x => .long x
  | .float x => .float x
  | .double x => .double x
  | .retAddr x => .retAddr x
def am_ac (cA : ClassId) (vs : List Value) : Cell := { cls := cA, slots := vs.toArray, vm := .none }
def am_Kn (G : am_G) (U : State) : Prop := (∀ (c : Nat) (q : vw_C), G.2.1[c]? = some q → u_Kn U q.1 q.2.1 q.2.2 (G.1.1 c) (G.1.2.1 c)) ∧ ∀ ty ∈ G.2.2.1, ArrOfT U (G.1.2.2 ty) ty ∧ va_RA U (G.1.2.2 ty) ty
theorem am_Kn_moved {G : am_G} {u U : State} (hvm : u.vm.Alike U.vm) (h : am_Kn G u) : am_Kn G U := ⟨fun c q hq => u_Kn_moved hvm (h.1 c q hq), fun ty ht => ⟨arrOfT_moved hvm (h.2 ty ht).1, (h.2 ty ht).2.moved hvm⟩⟩
def am_at (G : am_G) (i : Nat) (c : am_C) (U : State) (H : Heap) : Prop := match c with
  | .inl o => i ≠ 0 ∧ ∃ r : vw_C, G.2.1[o.1]? = some r ∧ o.2.length = r.2.2 ∧ t_OB (am_ad G i) (G.1.1 o.1) r.2.2 (G.1.2.1 o.1) H (vp_V (o.2.map (am_v G)))
  | .inr a => (∀ v ∈ a.2, fits a.1 v = true) ∧ ((i = 0 ∧ ∃ cell : Cell, H[am_ad G i]? = some cell ∧ U.isArrayOf cell a.1 ∧ cell.vm ≠ .unknown ∧ cell.slots.toList = a.2.map (am_v G)) ∨ (i ≠ 0 ∧ a.1 ∈ G.2.2.1 ∧ H[am_ad G i]? = some (am_ac (G.1.2.2 a.1) (a.2.map (am_v G)))))
def am_H (G : am_G) (h : am_Hp) (U : State) (H : Heap) : Prop := H.size + 1 = G.2.2.2.2 + h.length ∧ G.2.2.2.1 < G.2.2.2.2 ∧ 0 < h.length ∧ ∀ (i : Nat) (c : am_C), h[i]? = some c → am_at G i c U H
theorem am_ad_inj {G : am_G} (hG : G.2.2.2.1 < G.2.2.2.2) {i j : Nat} (h : am_ad G i = am_ad G j) : i = j := by
  unfold am_ad at h
  by_cases h1 : i = 0 <;> by_cases h2 : j = 0 <;> simp only [h1, h2, if_true, if_false] at h <;> omega
theorem am_ad_new {G : am_G} {h : am_Hp} {U : State} {H : Heap} (hH : am_H G h U H) : am_ad G h.length = H.size := by
  obtain ⟨h1, h2, h3, -⟩ := hH
  unfold am_ad
  rw [if_neg (by omega)]
  omega
theorem am_ad_base {G : am_G} {a : Nat} (ha : a ≠ 0) : G.2.2.2.2 ≤ am_ad G a := by
  unfold am_ad
  rw [if_neg ha]
  omega
theorem am_v_cat (G : am_G) (v : Value) : (am_v G v).category = v.category := by cases v <;> rfl
theorem am_v_fits (G : am_G) (ty : FieldType) (v : Value) : fits ty (am_v G v) = fits ty v := by cases ty <;> cases v <;> rfl
theorem am_fit_fits {ty : FieldType} {v : Value} (h : am_fit ty v = true) : fits ty v = true := by
  cases ty <;> cases v <;> first | rfl | exact h | (simp [am_fit] at h)
theorem am_fit_ok {ty : FieldType} {v : Value} (h : am_fit ty v = true) (G : am_G) : narrow ty (am_v G v) = am_v G v ∧ fits ty (am_v G v) = true := by
  refine ⟨?_, by rw [am_v_fits]; exact am_fit_fits h⟩
  cases ty <;> cases v <;> first | rfl | (simp [am_fit] at h; done) | skip
  simp only [am_fit, Bool.or_eq_true, beq_iff_eq] at h
  rcases h with rfl | rfl
  · show Value.int ((0 : Int32) &&& 1) = Value.int 0
    decide
  · show Value.int ((1 : Int32) &&& 1) = Value.int 1
    decide
theorem am_at_kept {G : am_G} {i : Nat} {c : am_C} {U : State} {H H' : Heap} (h : am_at G i c U H) (hq : H'[am_ad G i]? = H[am_ad G i]?) : am_at G i c U H' := by
  cases c with
  | inl o =>
    obtain ⟨h0, r, h1, h2, h3⟩ := h
    exact ⟨h0, r, h1, h2, h3.kept hq⟩
  | inr a =>
    obtain ⟨h0, h1⟩ := h
    refine ⟨h0, ?_⟩
    rcases h1 with ⟨hi, cell, h2, h3⟩ | ⟨hi, h2, h3⟩
    · exact Or.inl ⟨hi, cell, by rw [hq]; exact h2, h3⟩
    · exact Or.inr ⟨hi, h2, by rw [hq]; exact h3⟩
theorem am_at_moved {G : am_G} {i : Nat} {c : am_C} {u U : State} {H : Heap} (hvm : u.vm.Alike U.vm) (h : am_at G i c u H) : am_at G i c U H := by
  cases c with
  | inl o => exact h
  | inr a =>
    obtain ⟨h0, h1⟩ := h
    refine ⟨h0, ?_⟩
    rcases h1 with ⟨hi, cell, h2, h3, h4⟩ | h1
    · exact Or.inl ⟨hi, cell, h2, State.isArrayOf_alike hvm h3, h4⟩
    · exact Or.inr h1
theorem am_H_moved {G : am_G} {h : am_Hp} {u U : State} {H : Heap} (hvm : u.vm.Alike U.vm) (hH : am_H G h u H) : am_H G h U H := ⟨hH.1, hH.2.1, hH.2.2.1, fun i c hi => am_at_moved hvm (hH.2.2.2 i c hi)⟩
theorem am_H_lt {G : am_G} {h : am_Hp} {U : State} {H : Heap} (hH : am_H G h U H) {i : Nat} (hi : i < h.length) : am_ad G i < H.size := by
  obtain ⟨h1, h2, h3, -⟩ := hH
  unfold am_ad
  split <;> omega
theorem am_H_set {G : am_G} {h : am_Hp} {U : State} {H H' : Heap} {a : Nat} {c0 c : am_C} (hH : am_H G h U H) (h0 : h[a]? = some c0) (hc : am_at G a c U H') (hs : H'.size = H.size) (ho : ∀ q : Nat, q ≠ am_ad G a → H'[q]? = H[q]?) : am_H G (h.set a c) U H' := by
  have hl := (List.getElem?_eq_some_iff.mp h0).1
  refine ⟨by rw [List.length_set, hs]; exact hH.1, hH.2.1, by rw [List.length_set]; exact hH.2.2.1, fun i c' hi => ?_⟩
  by_cases hia : i = a
  · subst hia
    rw [List.getElem?_set_self hl] at hi
    cases hi
    exact hc
  · rw [List.getElem?_set_ne (Ne.symm hia)] at hi
    exact am_at_kept (hH.2.2.2 i c' hi) (ho _ (fun q => hia (am_ad_inj hH.2.1 q)))
theorem am_H_push {G : am_G} {h : am_Hp} {U : State} {H H' : Heap} {c : am_C} (hH : am_H G h U H) (hc : am_at G h.length c U H') (hs : H'.size = H.size + 1) (ho : ∀ q : Nat, q < H.size → H'[q]? = H[q]?) : am_H G (h ++ [c]) U H' := by
  refine ⟨by rw [List.length_append, hs]; have := hH.1; simp only [List.length_singleton]; omega, hH.2.1, by rw [List.length_append]; simp only [List.length_singleton]; omega, fun i c' hi => ?_⟩
  by_cases hl : i < h.length
  · rw [List.getElem?_append_left hl] at hi
    exact am_at_kept (hH.2.2.2 i c' hi) (ho _ (am_H_lt hH hl))
  · rw [List.getElem?_append_right (by omega)] at hi
    have hz : i - h.length < 1 := (List.getElem?_eq_some_iff.mp hi).1
    have hi0 : i = h.length := by omega
    subst hi0
    rw [Nat.sub_self] at hi
    cases hi
    exact hc
/-- the locals -/
def am_L (G : am_G) (ls : Array Slot) (lo : am_Lo) : Prop := ls.size = lo.length ∧ lv_wf ls ∧ ∀ (i : Nat) (v : Value), lo[i]? = some (some v) → ls[i]? = some (.val (am_v G v)) ∧ v.category = 1
def am_lv (G : am_G) (lo : am_Lo) : List (Nat × Value) := (List.range lo.length).filterMap (fun i => match lo[i]? with
  | some (some v) => some (i, am_v G v)
  | _ => none)
theorem am_lv_mem {G : am_G} {lo : am_Lo} {q : Nat × Value} : q ∈ am_lv G lo ↔ ∃ v, lo[q.1]? = some (some v) ∧ q.2 = am_v G v := by
  unfold am_lv
  rw [List.mem_filterMap]
  constructor
  · rintro ⟨i, hi, h⟩
    split at h
    · rename_i v hv
      cases h
      exact ⟨v, hv, rfl⟩
    · cases h
  · rintro ⟨v, hv, he⟩
    refine ⟨q.1, List.mem_range.mpr (List.getElem?_eq_some_iff.mp hv).1, ?_⟩
    rw [hv]
    show some (q.1, am_v G v) = some q
    rw [← he]
theorem am_L_has {G : am_G} {ls : Array Slot} {lo : am_Lo} (h : am_L G ls lo) : lv_has ls lo.length (am_lv G lo) := by
  refine ⟨h.1, h.2.1, fun q hq => ?_⟩
  obtain ⟨v, hv, he⟩ := am_lv_mem.mp hq
  rw [he]
  exact (h.2.2 q.1 v hv).1
theorem am_has_L {G : am_G} {ls ls' : Array Slot} {lo : am_Lo} {i : Nat} {v : Value} (h : am_L G ls lo) (hi : i < lo.length) (hc : v.category = 1)
    (h' : lv_has ls' lo.length ((i, am_v G v) :: (am_lv G lo).filter (fun q => !(q.1 == i) && !(q.1 + 1 == i && q.2.category == 2)))) : am_L G ls' (lo.set i (some v)) := by
  refine ⟨by rw [List.length_set]; exact h'.1, h'.2.1, fun j w hj => ?_⟩
  by_cases hji : j = i
  · subst hji
    rw [List.getElem?_set_self hi] at hj
    cases hj
    exact ⟨h'.2.2 (j, am_v G v) List.mem_cons_self, hc⟩
  · rw [List.getElem?_set_ne (Ne.symm hji)] at hj
    obtain ⟨-, hw⟩ := h.2.2 j w hj
    refine ⟨h'.2.2 (j, am_v G w) (List.mem_cons_of_mem _ (List.mem_filter.mpr ⟨am_lv_mem.mpr ⟨w, hj, rfl⟩, ?_⟩)), hw⟩
    have h2 : ((am_v G w).category == 2) = false := by rw [am_v_cat, hw]; rfl
    simp [hji, h2]
theorem am_lv_pos {G : am_G} {lo : am_Lo} {i : Nat} {v : Value} (h : lo[i]? = some (some v)) : ∃ k : Nat, (am_lv G lo)[k]? = some (i, am_v G v) := List.getElem?_of_mem (am_lv_mem.mpr ⟨v, h, rfl⟩)
/-- the size of all cells -/
theorem am_sl_app (h g : am_Hp) : am_sl (h ++ g) = am_sl h + am_sl g := by simp [am_sl]
theorem am_sl_set {h : am_Hp} {a : Nat} {c0 c : am_C} (h0 : h[a]? = some c0) (hs : am_sz c = am_sz c0) : am_sl (h.set a c) = am_sl h := by
  induction h generalizing a with
  | nil => simp at h0
  | cons x h ih =>
    cases a with
    | zero =>
      rw [List.getElem?_cons_zero] at h0
      cases h0
      simp [am_sl, hs]
    | succ a =>
      rw [List.getElem?_cons_succ] at h0
      have := ih h0
      simp only [am_sl, List.set_cons_succ, List.map_cons, List.sum_cons] at this ⊢
      rw [this]
