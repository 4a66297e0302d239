/-! a piece of an array into a table's array -/
def uC (I : sm_I) (c b n : Nat) (f : Nat → Int32) : sm_I := fun c' j' => if c' = c ∧ b ≤ j' ∧ j' < b + n then f (j' - b) else I c' j'
theorem sm_upd {tb : sm_T} {h : am_Hp} {I I' : sm_I} {X : sm_X} {a : Nat} {hd : Nat ⊕ FieldType} {ds : List (Nat × Nat)} {vs : List Value} (hs : sm tb h I X) (hb : tb a = some (hd, ds)) (hl : vs.length = ds.length) (hv : ∀ (i : Nat) d, ds[i]? = some d → vs[i]? = some (sm_v I' X d)) (ho : ∀ b hd' ds' d (i : Nat), tb b = some (hd', ds') → b ≠ a → ds'[i]? = some d → sm_v I' X d = sm_v I X d) : sm tb (h.set a (sm_c hd vs)) I' X ∧ sm_e tb h (h.set a (sm_c hd vs)) := by
  have ha := hs a hd ds hb
  have hal := (List.getElem?_eq_some_iff.mp ha).1
  refine ⟨?_, List.length_set .., am_sl_set ha (sm_sz _ _ _ (by rw [List.length_map]; exact hl)), ?_⟩
  · intro b hd' ds' hb'
    by_cases e : b = a
    · subst e
      rw [hb] at hb'
      cases hb'
      rw [List.getElem?_set_self hal]
      congr 2
      apply List.ext_getElem?
      intro i
      rw [List.getElem?_map]
      cases hi : ds[i]? with
      | none =>
        have := List.getElem?_eq_none_iff.mp hi
        rw [List.getElem?_eq_none (by omega)]
        rfl
      | some d => exact hv i d hi
    · rw [List.getElem?_set_ne (fun x => e x.symm), hs b hd' ds' hb']
      congr 2
      apply List.map_congr_left
      intro d hdm
      obtain ⟨i, hi⟩ := List.getElem?_of_mem hdm
      exact (ho b hd' ds' d i hb' e hi).symm
  · intro b hbn
    refine List.getElem?_set_ne ?_
    intro e
    subst e
    rw [hb] at hbn
    cases hbn
theorem go_sacp {T : am_T} {d : Nat} {code : List Instr} {rt : Option FieldType} {pc : Nat} {lo : am_Lo} {st : List Value} {h : am_Hp} {Q : Option Value → am_Hp → Prop} {tb : sm_T} {I : sm_I} {X : sm_X}
    {a q n dp sp pc' c b : Nat} {xn xd xs : Int32} {vs : List Value} {ds : List (Nat × Nat)} {f : Nat → Int32} (hs : sm tb h I X) (hi : code[pc]? = some .swap) (hq : h[q]? = some (.inr (.int, vs))) (hb : tb a = some (.inr .int, ds)) (hJ : sm_inj tb) (hc : c < 200)
    (hxn : xn = nI n) (hxd : xd = nI dp) (hxs : xs = nI sp) (hvl : sp + n ≤ vs.length) (hdl : dp + n ≤ ds.length) (hvm : vs.length < 2 ^ 31) (hdm : ds.length < 2 ^ 31) (hf : ∀ j, j < n → vs[sp + j]? = some (.int (f j))) (hds : ∀ j, j < n → ds[dp + j]? = some (c, b + j))
    (h0 : a ≠ 0) (h0q : q ≠ 0) (hr : am_rok st = true) (hw : am_wr T a = true) (hp : pc + 1 = pc') (kk : ∀ h2, sm tb h2 (uC I c b n f) X → sm_e tb h h2 → am_Go T d code rt pc' lo st h2 Q) : am_Go T d code rt pc lo (.int xn :: .int xd :: .ref a :: .int xs :: .ref q :: st) h Q := by
  subst hp hxn hxd hxs
  have ha := hs a _ _ hb
  have hws : ((ds.map (sm_v I X)).take dp ++ (vs.drop sp).take n ++ (ds.map (sm_v I X)).drop (dp + n)).length = ds.length := by
    simp
    omega
  have n1 := nI_clamp (n := n) (by omega)
  have n2 := nI_clamp (n := dp) (by omega)
  have n3 := nI_clamp (n := sp) (by omega)
  have p1 := nI_pos (n := n) (by omega)
  have p2 := nI_pos (n := dp) (by omega)
  have p3 := nI_pos (n := sp) (by omega)
  obtain ⟨r1, r2⟩ := sm_upd (I' := uC I c b n f) hs hb hws (by
    intro i dd hi
    have hil := (List.getElem?_eq_some_iff.mp hi).1
    by_cases c1 : i < dp
    · rw [List.append_assoc, List.getElem?_append_left (by simp; omega), List.getElem?_take_of_lt c1, List.getElem?_map, hi]
      simp only [Option.map_some, Option.some.injEq]
      by_cases e : dd.1 = c ∧ b ≤ dd.2 ∧ dd.2 < b + n
      · exfalso
        have h2 := hds (dd.2 - b) (by omega)
        have : dd = (c, b + (dd.2 - b)) := Prod.ext e.1 (by show dd.2 = _; omega)
        have := (hJ a a i (dp + (dd.2 - b)) (.inr .int) (.inr .int) dd (by simp [sm_s, hb, hi]) (by simp only [sm_s, hb, h2]; rw [← this]) (by omega)).2
        omega
      · simp [sm_v, uC, e]
    · by_cases c2 : i < dp + n
      · rw [List.append_assoc, List.getElem?_append_right (by simp; omega), List.getElem?_append_left (by simp; omega), List.getElem?_take_of_lt (by simp; omega), List.getElem?_drop]
        have h2 := hds (i - dp) (by omega)
        rw [show dp + (i - dp) = i by omega, hi] at h2
        cases h2
        have h3 := hf (i - dp) (by omega)
        rw [show i - ((ds.map (sm_v I X)).take dp).length = i - dp by simp; omega, h3]
        simp [sm_v, uC, hc]
        intro z
        omega
      · rw [List.append_assoc, List.getElem?_append_right (by simp; omega), List.getElem?_append_right (by simp; omega), List.getElem?_drop]
        rw [show dp + n + (i - ((ds.map (sm_v I X)).take dp).length - ((vs.drop sp).take n).length) = i by simp; omega, List.getElem?_map, hi]
        simp only [Option.map_some, Option.some.injEq]
        by_cases e : dd.1 = c ∧ b ≤ dd.2 ∧ dd.2 < b + n
        · exfalso
          have h2 := hds (dd.2 - b) (by omega)
          have : dd = (c, b + (dd.2 - b)) := Prod.ext e.1 (by show dd.2 = _; omega)
          have := (hJ a a i (dp + (dd.2 - b)) (.inr .int) (.inr .int) dd (by simp [sm_s, hb, hi]) (by simp only [sm_s, hb, h2]; rw [← this]) (by omega)).2
          omega
        · simp [sm_v, uC, e]) (by
    intro b' hd' ds' dd i hb' hne hi
    by_cases e : dd.1 = c ∧ b ≤ dd.2 ∧ dd.2 < b + n
    · exfalso
      have h2 := hds (dd.2 - b) (by omega)
      have : dd = (c, b + (dd.2 - b)) := Prod.ext e.1 (by show dd.2 = _; omega)
      exact hne (hJ b' a i (dp + (dd.2 - b)) hd' (.inr .int) dd (by simp [sm_s, hb', hi]) (by simp only [sm_s, hb, h2]; rw [← this]) (by omega)).1
    · simp [sm_v, uC, e])
  refine go_x (ch := some (.inl (a, .inr (.int, (ds.map (sm_v I X)).take dp ++ (vs.drop sp).take n ++ (ds.map (sm_v I X)).drop (dp + n))))) hi rfl rfl ?_ (kk _ r1 r2)
  have hd2 : dp + n ≤ (ds.map (sm_v I X)).length := by rw [List.length_map]; exact hdl
  simp only [am_x, hq, show h[a]? = some (.inr (.int, ds.map (sm_v I X))) from ha, n1, n2, n3]
  rw [if_pos ⟨trivial, rfl, h0, h0q, p1, p2, p3, hvl, hd2, hr, hw⟩]
