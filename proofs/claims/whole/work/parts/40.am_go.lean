/-! AM by itself: a row an instruction, for walks with a heap that is only known in part -/
section GO
variable {T : am_T} {d : Nat} {code : List Instr} {rt : Option FieldType} {pc : Nat} {lo : am_Lo} {st : List Value} {h : am_Hp} {Q : Option Value → am_Hp → Prop}
/-- straight on: what needs no heap -/
theorem go_s {lo' : am_Lo} {st' : List Value} {i : Instr} {pc' : Nat} (hi : code[pc]? = some i) (hr : am_ret rt i st = none) (hv : am_inv T i st h = none) (hx : am_x T i pc lo st h = some (pc', lo', st', none)) (k : am_Go T d code rt pc' lo' st' h Q) : am_Go T d code rt pc lo st h Q := go_x hi hr hv hx k
theorem go_get {n a ci k pc' : Nat} {fs : List Value} {cs : List Nat} {ty : FieldType} {v : Value} (hi : code[pc]? = some (.getfield n)) (ha : h[a]? = some (.inl (ci, fs))) (hF : (am_F T)[n]? = some (cs, k, ty)) (hc : ci ∈ cs) (hv : fs[k]? = some v) (hp : pc + 1 = pc') (kk : am_Go T d code rt pc' lo (v :: st) h Q) : am_Go T d code rt pc lo (.ref a :: st) h Q := by
  subst hp
  exact go_x (ch := none) hi rfl rfl (by simp [am_x, ha, hF, hc, hv]) kk
theorem go_put {n a ci k pc' : Nat} {fs : List Value} {cs : List Nat} {ty : FieldType} {v : Value} (hi : code[pc]? = some (.putfield n)) (ha : h[a]? = some (.inl (ci, fs))) (hF : (am_F T)[n]? = some (cs, k, ty)) (hc : ci ∈ cs) (hl : k < fs.length) (hf : am_fit ty v = true) (hw : am_wr T a = true) (hp : pc + 1 = pc') (kk : am_Go T d code rt pc' lo st (h.set a (.inl (ci, fs.set k v))) Q) : am_Go T d code rt pc lo (v :: .ref a :: st) h Q := by
  subst hp
  exact go_x (ch := some (.inl (a, .inl (ci, fs.set k v)))) hi rfl rfl (by simp [am_x, ha, hF, hc, hl, hf, hw]) kk
theorem go_ald {i : Instr} {a q pc' : Nat} {j : Int32} {ty : FieldType} {vs : List Value} {v : Value} (hi : code[pc]? = some i) (hty : am_ldt i ty = true) (ha : h[a]? = some (.inr (ty, vs))) (hj : j = nI q) (hq : q < 2 ^ 31) (hv : vs[q]? = some v) (hp : pc + 1 = pc') (kk : am_Go T d code rt pc' lo (v :: st) h Q) : am_Go T d code rt pc lo (.int j :: .ref a :: st) h Q := by
  subst hp
  subst hj
  have h1 := nI_pos hq
  have h2 := nI_clamp hq
  unfold am_ldt at hty
  split at hty
  · exact go_x (ch := none) hi rfl rfl (by simp [am_x, ha, am_ldt, h1, h2, hv]) kk
  · exact go_x (ch := none) hi rfl rfl (by simp [am_x, ha, am_ldt, h1, h2, hv]) kk
  · exact go_x (ch := none) hi rfl rfl (by simp [am_x, ha, am_ldt, h1, h2, hv]) kk
  · exact go_x (ch := none) hi rfl rfl (by simp [am_x, ha, am_ldt, h1, h2, hv]) kk
  · cases hty
theorem go_iast {a q pc' : Nat} {j x : Int32} {vs : List Value} (hi : code[pc]? = some .iastore) (ha : h[a]? = some (.inr (.int, vs))) (hj : j = nI q) (hq : q < 2 ^ 31) (hl : q < vs.length) (h0 : a ≠ 0) (hw : am_wr T a = true) (hp : pc + 1 = pc') (kk : am_Go T d code rt pc' lo st (h.set a (.inr (.int, vs.set q (.int x)))) Q) : am_Go T d code rt pc lo (.int x :: .int j :: .ref a :: st) h Q := by
  subst hp
  subst hj
  have h1 := nI_pos hq
  have h2 := nI_clamp hq
  exact go_x (ch := some (.inl (a, .inr (.int, vs.set q (.int x))))) hi rfl rfl (by simp [am_x, ha, h1, h2, hl, h0, hw]) kk
theorem go_zast {a q pc' : Nat} {j x : Int32} {vs : List Value} (hi : code[pc]? = some .bastore) (ha : h[a]? = some (.inr (.boolean, vs))) (hj : j = nI q) (hq : q < 2 ^ 31) (hl : q < vs.length) (h0 : a ≠ 0) (hf : am_fit .boolean (.int x) = true) (hw : am_wr T a = true) (hp : pc + 1 = pc') (kk : am_Go T d code rt pc' lo st (h.set a (.inr (.boolean, vs.set q (.int x)))) Q) : am_Go T d code rt pc lo (.int x :: .int j :: .ref a :: st) h Q := by
  subst hp
  subst hj
  have h1 := nI_pos hq
  have h2 := nI_clamp hq
  exact go_x (ch := some (.inl (a, .inr (.boolean, vs.set q (.int x))))) hi rfl rfl (by simp [am_x, ha, h1, h2, hl, h0, hw, hf]) kk
theorem go_alen {a pc' : Nat} {ty : FieldType} {vs : List Value} (hi : code[pc]? = some .arraylength) (ha : h[a]? = some (.inr (ty, vs))) (hp : pc + 1 = pc') (kk : am_Go T d code rt pc' lo (.int (nI vs.length) :: st) h Q) : am_Go T d code rt pc lo (.ref a :: st) h Q := by
  subst hp
  exact go_x (ch := none) hi rfl rfl (by simp [am_x, ha, nI]) kk
theorem go_icmp {k : ClassFile.Cond} {t : Int} {x y : Int32} {t' pc' : Nat} (hi : code[pc]? = some (.if_icmp k t)) (ht : t.toNat = t') (hp : pc + 1 = pc') (kt : am_cd k x y = true → am_Go T d code rt t' lo st h Q) (kf : am_cd k x y = false → am_Go T d code rt pc' lo st h Q) : am_Go T d code rt pc lo (.int y :: .int x :: st) h Q := by
  subst hp
  subst ht
  cases hb : am_cd k x y
  · exact go_x (ch := none) hi rfl rfl (by simp [am_x, hb]) (kf hb)
  · exact go_x (ch := none) hi rfl rfl (by simp [am_x, hb]) (kt hb)
theorem go_if {k : ClassFile.Cond} {t : Int} {x : Int32} {t' pc' : Nat} (hi : code[pc]? = some (.ifCond k t)) (ht : t.toNat = t') (hp : pc + 1 = pc') (kt : am_cd k x 0 = true → am_Go T d code rt t' lo st h Q) (kf : am_cd k x 0 = false → am_Go T d code rt pc' lo st h Q) : am_Go T d code rt pc lo (.int x :: st) h Q := by
  subst hp
  subst ht
  cases hb : am_cd k x 0
  · exact go_x (ch := none) hi rfl rfl (by simp [am_x, hb]) (kf hb)
  · exact go_x (ch := none) hi rfl rfl (by simp [am_x, hb]) (kt hb)
theorem go_new {ci pc' : Nat} {fs : List Value} (hi : code[pc]? = some (.new ci)) (hB : (am_B T)[ci]? = some fs) (hp : pc + 1 = pc') (kk : am_Go T d code rt pc' lo (.ref h.length :: st) (h ++ [.inl (ci, fs)]) Q) : am_Go T d code rt pc lo st h Q := by
  subst hp
  exact go_x (ch := some (.inr [.inl (ci, fs)])) hi rfl rfl (by simp [am_x, hB]) kk
end GO
