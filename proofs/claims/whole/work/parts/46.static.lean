/-! a flat memory: cells at fixed places whose slots are named (component, index); below 200 an int of I, below 1000 a value of X, 1000 a fixed place, 1001 a fixed int -/
abbrev sm_T : Type := Nat → Option ((Nat ⊕ FieldType) × List (Nat × Nat))
abbrev sm_I : Type := Nat → Nat → Int32
abbrev sm_X : Type := Nat → Nat → Value
def sm_v (I : sm_I) (X : sm_X) (d : Nat × Nat) : Value := if d.1 < 200 then .int (I d.1 d.2) else if d.1 < 1000 then X d.1 d.2 else if d.1 = 1000 then .ref d.2 else .int (nI d.2)
def sm_c (hd : Nat ⊕ FieldType) (vs : List Value) : am_C := match hd with
  | .inl ci => .inl (ci, vs)
  | .inr ty => .inr (ty, vs)
def sm (tb : sm_T) (h : am_Hp) (I : sm_I) (X : sm_X) : Prop := ∀ a hd ds, tb a = some (hd, ds) → h[a]? = some (sm_c hd (ds.map (sm_v I X)))
def sm_s (tb : sm_T) (a k : Nat) : Option ((Nat ⊕ FieldType) × Nat × Nat) := match tb a with
  | some (hd, ds) => (match ds[k]? with
    | some d => some (hd, d)
    | none => none)
  | none => none
def sm_inj (tb : sm_T) : Prop := ∀ a a' i i' hd hd' d, sm_s tb a i = some (hd, d) → sm_s tb a' i' = some (hd', d) → d.1 < 1000 → a = a' ∧ i = i'
def uI (I : sm_I) (k j : Nat) (x : Int32) : sm_I := fun k' j' => if k' = k ∧ j' = j then x else I k' j'
def uX (X : sm_X) (k j : Nat) (x : Value) : sm_X := fun k' j' => if k' = k ∧ j' = j then x else X k' j'
/-- all but the fixed places is as it was -/
def sm_e (tb : sm_T) (h h2 : am_Hp) : Prop := h2.length = h.length ∧ am_sl h2 = am_sl h ∧ ∀ b, tb b = none → h2[b]? = h[b]?
theorem sm_e_refl (tb : sm_T) (h : am_Hp) : sm_e tb h h := ⟨rfl, rfl, fun _ _ => rfl⟩
theorem sm_e_trans {tb : sm_T} {h1 h2 h3 : am_Hp} (a : sm_e tb h1 h2) (b : sm_e tb h2 h3) : sm_e tb h1 h3 := ⟨b.1.trans a.1, b.2.1.trans a.2.1, fun x hx => (b.2.2 x hx).trans (a.2.2 x hx)⟩
theorem sm_at {tb : sm_T} {h : am_Hp} {I : sm_I} {X : sm_X} {a k : Nat} {hd : Nat ⊕ FieldType} {d : Nat × Nat} (hs : sm tb h I X) (ht : sm_s tb a k = some (hd, d)) : ∃ vs, h[a]? = some (sm_c hd vs) ∧ vs[k]? = some (sm_v I X d) ∧ ∃ ds, tb a = some (hd, ds) ∧ vs = ds.map (sm_v I X) ∧ ds[k]? = some d := by
  unfold sm_s at ht
  split at ht
  · rename_i hd' ds hb
    split at ht
    · rename_i d' hk
      simp at ht
      obtain ⟨rfl, rfl⟩ := ht
      exact ⟨_, hs a _ _ hb, by rw [List.getElem?_map, hk]; rfl, ds, hb, rfl, hk⟩
    · cases ht
  · cases ht
theorem sm_sz (hd : Nat ⊕ FieldType) (vs vs' : List Value) (hl : vs.length = vs'.length) : am_sz (sm_c hd vs) = am_sz (sm_c hd vs') := by
  cases hd <;> exact hl
theorem sm_set {tb : sm_T} {h : am_Hp} {I I' : sm_I} {X X' : sm_X} {a k : Nat} {hd : Nat ⊕ FieldType} {d : Nat × Nat} {ds : List (Nat × Nat)} {v : Value} (hJ : sm_inj tb) (hs : sm tb h I X) (hb : tb a = some (hd, ds)) (hk : ds[k]? = some d) (hlt : d.1 < 1000) (h1 : sm_v I' X' d = v) (h2 : ∀ d', d' ≠ d → sm_v I' X' d' = sm_v I X d') : sm tb (h.set a (sm_c hd ((ds.map (sm_v I X)).set k v))) I' X' ∧ sm_e tb h (h.set a (sm_c hd ((ds.map (sm_v I X)).set k v))) := by
  have ha := hs a hd ds hb
  have hal := (List.getElem?_eq_some_iff.mp ha).1
  have hst : sm_s tb a k = some (hd, d) := by simp [sm_s, hb, hk]
  refine ⟨?_, ?_, ?_, ?_⟩
  · intro b hd' ds' hb'
    by_cases e : b = a
    · subst e
      rw [hb] at hb'
      cases hb'
      rw [List.getElem?_set_self hal]
      congr 2
      apply List.ext_getElem?
      intro i
      rw [List.getElem?_map]
      by_cases ei : k = i
      · subst ei
        rw [List.getElem?_set_self (by rw [List.length_map]; exact (List.getElem?_eq_some_iff.mp hk).1), hk]
        simp [h1]
      · rw [List.getElem?_set_ne ei, List.getElem?_map]
        cases hi : ds[i]? with
        | none => rfl
        | some d' =>
          have : d' ≠ d := by
            intro e
            subst e
            exact ei ((hJ b b k i hd hd d' hst (by simp [sm_s, hb, hi]) hlt).2)
          simp [h2 d' this]
    · rw [List.getElem?_set_ne (fun x => e x.symm), hs b hd' ds' hb']
      congr 2
      apply List.map_congr_left
      intro d' hd'm
      obtain ⟨i, hi⟩ := List.getElem?_of_mem hd'm
      refine (h2 d' ?_).symm
      intro e2
      subst e2
      exact e ((hJ a b k i hd hd' d' hst (by simp [sm_s, hb', hi]) hlt).1.symm)
  · exact List.length_set ..
  · exact am_sl_set ha (sm_sz _ _ _ (by rw [List.length_set]))
  · intro b hbn
    refine List.getElem?_set_ne ?_
    intro e
    subst e
    rw [hb] at hbn
    cases hbn
theorem sm_vI {I : sm_I} {X : sm_X} {d : Nat × Nat} {x : Int32} (hd : d.1 < 200) : sm_v (uI I d.1 d.2 x) X d = .int x ∧ ∀ d', d' ≠ d → sm_v (uI I d.1 d.2 x) X d' = sm_v I X d' := by
  refine ⟨by simp [sm_v, uI, hd], fun d' hne => ?_⟩
  have : ¬ (d'.1 = d.1 ∧ d'.2 = d.2) := fun e => hne (Prod.ext e.1 e.2)
  simp [sm_v, uI, this]
theorem sm_vX {I : sm_I} {X : sm_X} {d : Nat × Nat} {v : Value} (hd : 200 ≤ d.1) (hd2 : d.1 < 1000) : sm_v I (uX X d.1 d.2 v) d = v ∧ ∀ d', d' ≠ d → sm_v I (uX X d.1 d.2 v) d' = sm_v I X d' := by
  refine ⟨by simp [sm_v, uX, hd2]; omega, fun d' hne => ?_⟩
  have : ¬ (d'.1 = d.1 ∧ d'.2 = d.2) := fun e => hne (Prod.ext e.1 e.2)
  simp [sm_v, uX, this]
/-- what a write elsewhere leaves -/
theorem sm_dyn {tb : sm_T} {h h2 : am_Hp} {I : sm_I} {X : sm_X} (hs : sm tb h I X) (hk : ∀ b, tb b ≠ none → h2[b]? = h[b]?) : sm tb h2 I X := by
  intro a hd ds hb
  rw [hk a (by rw [hb]; exact nofun)]
  exact hs a hd ds hb
theorem sm_app {tb : sm_T} {h : am_Hp} {cs : List am_C} {I : sm_I} {X : sm_X} (hs : sm tb h I X) : sm tb (h ++ cs) I X := by
  intro a hd ds hb
  have ha := hs a hd ds hb
  rw [List.getElem?_append_left (List.getElem?_eq_some_iff.mp ha).1]
  exact ha
theorem sm_set_dyn {tb : sm_T} {h : am_Hp} {b : Nat} {c : am_C} {I : sm_I} {X : sm_X} (hs : sm tb h I X) (hb : tb b = none) : sm tb (h.set b c) I X := by
  refine sm_dyn hs (fun x hx => List.getElem?_set_ne ?_)
  intro e
  subst e
  exact hx hb
section GO
variable {T : am_T} {d : Nat} {code : List Instr} {rt : Option FieldType} {pc : Nat} {lo : am_Lo} {st : List Value} {h : am_Hp} {Q : Option Value → am_Hp → Prop} {tb : sm_T} {I : sm_I} {X : sm_X}
theorem go_sget {n a k ci pc' : Nat} {cs : List Nat} {ty : FieldType} {dd : Nat × Nat} {v : Value} (hs : sm tb h I X) (hi : code[pc]? = some (.getfield n)) (hF : (am_F T)[n]? = some (cs, k, ty)) (ht : sm_s tb a k = some (.inl ci, dd)) (hc : ci ∈ cs) (hv : sm_v I X dd = v) (hp : pc + 1 = pc') (kk : am_Go T d code rt pc' lo (v :: st) h Q) : am_Go T d code rt pc lo (.ref a :: st) h Q := by
  obtain ⟨vs, h1, h2, -⟩ := sm_at hs ht
  exact go_get hi h1 hF hc (h2.trans (by rw [hv])) hp kk
theorem go_sput {n a k ci pc' : Nat} {cs : List Nat} {ty : FieldType} {dd : Nat × Nat} {x : Int32} (hs : sm tb h I X) (hi : code[pc]? = some (.putfield n)) (hF : (am_F T)[n]? = some (cs, k, ty)) (ht : sm_s tb a k = some (.inl ci, dd)) (hc : ci ∈ cs) (hJ : sm_inj tb) (hdd : dd.1 < 200) (hf : am_fit ty (.int x) = true) (hw : am_wr T a = true) (hp : pc + 1 = pc') (kk : ∀ h2, sm tb h2 (uI I dd.1 dd.2 x) X → sm_e tb h h2 → am_Go T d code rt pc' lo st h2 Q) : am_Go T d code rt pc lo (.int x :: .ref a :: st) h Q := by
  obtain ⟨vs, h1, h2, ds, h3, rfl, h4⟩ := sm_at hs ht
  obtain ⟨q1, q2⟩ := sm_vI (I := I) (X := X) (d := dd) (x := x) hdd
  obtain ⟨r1, r2⟩ := sm_set hJ hs h3 h4 (by omega) q1 q2
  exact go_put hi h1 hF hc (List.getElem?_eq_some_iff.mp h2).1 hf hw hp (kk _ r1 r2)
theorem go_sputX {n a k ci pc' : Nat} {cs : List Nat} {ty : FieldType} {dd : Nat × Nat} {v : Value} (hs : sm tb h I X) (hi : code[pc]? = some (.putfield n)) (hF : (am_F T)[n]? = some (cs, k, ty)) (ht : sm_s tb a k = some (.inl ci, dd)) (hc : ci ∈ cs) (hJ : sm_inj tb) (hdd : 200 ≤ dd.1) (hde : dd.1 < 1000) (hf : am_fit ty v = true) (hw : am_wr T a = true) (hp : pc + 1 = pc') (kk : ∀ h2, sm tb h2 I (uX X dd.1 dd.2 v) → sm_e tb h h2 → am_Go T d code rt pc' lo st h2 Q) : am_Go T d code rt pc lo (v :: .ref a :: st) h Q := by
  obtain ⟨vs, h1, h2, ds, h3, rfl, h4⟩ := sm_at hs ht
  obtain ⟨q1, q2⟩ := sm_vX (I := I) (X := X) (d := dd) (v := v) hdd hde
  obtain ⟨r1, r2⟩ := sm_set hJ hs h3 h4 hde q1 q2
  exact go_put hi h1 hF hc (List.getElem?_eq_some_iff.mp h2).1 hf hw hp (kk _ r1 r2)
theorem go_sald {i : Instr} {a q pc' : Nat} {j : Int32} {ty : FieldType} {dd : Nat × Nat} {v : Value} (hs : sm tb h I X) (hi : code[pc]? = some i) (ht : sm_s tb a q = some (.inr ty, dd)) (hty : am_ldt i ty = true) (hj : j = nI q) (hq : q < 2 ^ 31) (hv : sm_v I X dd = v) (hp : pc + 1 = pc') (kk : am_Go T d code rt pc' lo (v :: st) h Q) : am_Go T d code rt pc lo (.int j :: .ref a :: st) h Q := by
  obtain ⟨vs, h1, h2, -⟩ := sm_at hs ht
  exact go_ald hi hty h1 hj hq (h2.trans (by rw [hv])) hp kk
theorem go_siast {a q pc' : Nat} {j x : Int32} {dd : Nat × Nat} (hs : sm tb h I X) (hi : code[pc]? = some .iastore) (ht : sm_s tb a q = some (.inr .int, dd)) (hJ : sm_inj tb) (hdd : dd.1 < 200) (hj : j = nI q) (hq : q < 2 ^ 31) (h0 : a ≠ 0) (hw : am_wr T a = true) (hp : pc + 1 = pc') (kk : ∀ h2, sm tb h2 (uI I dd.1 dd.2 x) X → sm_e tb h h2 → am_Go T d code rt pc' lo st h2 Q) : am_Go T d code rt pc lo (.int x :: .int j :: .ref a :: st) h Q := by
  obtain ⟨vs, h1, h2, ds, h3, rfl, h4⟩ := sm_at hs ht
  obtain ⟨q1, q2⟩ := sm_vI (I := I) (X := X) (d := dd) (x := x) hdd
  obtain ⟨r1, r2⟩ := sm_set hJ hs h3 h4 (by omega) q1 q2
  exact go_iast hi h1 hj hq (List.getElem?_eq_some_iff.mp h2).1 h0 hw hp (kk _ r1 r2)
theorem go_siastX {a q pc' : Nat} {j x : Int32} {dd : Nat × Nat} (hs : sm tb h I X) (hi : code[pc]? = some .iastore) (ht : sm_s tb a q = some (.inr .int, dd)) (hJ : sm_inj tb) (hdd : 200 ≤ dd.1) (hde : dd.1 < 1000) (hj : j = nI q) (hq : q < 2 ^ 31) (h0 : a ≠ 0) (hw : am_wr T a = true) (hp : pc + 1 = pc') (kk : ∀ h2, sm tb h2 I (uX X dd.1 dd.2 (.int x)) → sm_e tb h h2 → am_Go T d code rt pc' lo st h2 Q) : am_Go T d code rt pc lo (.int x :: .int j :: .ref a :: st) h Q := by
  obtain ⟨vs, h1, h2, ds, h3, rfl, h4⟩ := sm_at hs ht
  obtain ⟨q1, q2⟩ := sm_vX (I := I) (X := X) (d := dd) (v := .int x) hdd hde
  obtain ⟨r1, r2⟩ := sm_set hJ hs h3 h4 hde q1 q2
  exact go_iast hi h1 hj hq (List.getElem?_eq_some_iff.mp h2).1 h0 hw hp (kk _ r1 r2)
theorem go_szast {a q pc' : Nat} {j x : Int32} {dd : Nat × Nat} (hs : sm tb h I X) (hi : code[pc]? = some .bastore) (ht : sm_s tb a q = some (.inr .boolean, dd)) (hJ : sm_inj tb) (hdd : dd.1 < 200) (hj : j = nI q) (hq : q < 2 ^ 31) (h0 : a ≠ 0) (hf : am_fit .boolean (.int x) = true) (hw : am_wr T a = true) (hp : pc + 1 = pc') (kk : ∀ h2, sm tb h2 (uI I dd.1 dd.2 x) X → sm_e tb h h2 → am_Go T d code rt pc' lo st h2 Q) : am_Go T d code rt pc lo (.int x :: .int j :: .ref a :: st) h Q := by
  obtain ⟨vs, h1, h2, ds, h3, rfl, h4⟩ := sm_at hs ht
  obtain ⟨q1, q2⟩ := sm_vI (I := I) (X := X) (d := dd) (x := x) hdd
  obtain ⟨r1, r2⟩ := sm_set hJ hs h3 h4 (by omega) q1 q2
  exact go_zast hi h1 hj hq (List.getElem?_eq_some_iff.mp h2).1 h0 hf hw hp (kk _ r1 r2)
theorem go_salen {a pc' n : Nat} {ty : FieldType} {ds : List (Nat × Nat)} (hs : sm tb h I X) (hi : code[pc]? = some .arraylength) (ht : tb a = some (.inr ty, ds)) (hn : ds.length = n) (hp : pc + 1 = pc') (kk : am_Go T d code rt pc' lo (.int (nI n) :: st) h Q) : am_Go T d code rt pc lo (.ref a :: st) h Q := by
  have := hs a _ _ ht
  refine go_alen hi this hp ?_
  rw [List.length_map, hn]
  exact kk
end GO
