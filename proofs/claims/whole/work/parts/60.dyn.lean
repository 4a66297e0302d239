/-! cells that come: what stays -/
def gq (h h2 : am_Hp) (k s : Nat) : Prop := h2.length = h.length + k ∧ am_sl h2 = am_sl h + s ∧ ∀ b, b < h.length → h2[b]? = h[b]?
def pq (a : Nat) (h h2 : am_Hp) : Prop := h2.length = h.length ∧ am_sl h2 = am_sl h ∧ ∀ b, b ≠ a → h2[b]? = h[b]?
/-- from one heap to a later one: at most k cells and s slots more, cells out of the table as they were -/
def fr (tb : sm_T) (h h2 : am_Hp) (k s : Nat) : Prop := h.length ≤ h2.length ∧ h2.length ≤ h.length + k ∧ am_sl h2 ≤ am_sl h + s ∧ ∀ b, tb b = none → b < h.length → h2[b]? = h[b]?
theorem fr_refl (tb : sm_T) (h : am_Hp) : fr tb h h 0 0 := ⟨Nat.le_refl _, Nat.le_refl _, Nat.le_refl _, fun _ _ _ => rfl⟩
theorem fr_trans {tb : sm_T} {h1 h2 h3 : am_Hp} {k s k' s' : Nat} (a : fr tb h1 h2 k s) (b : fr tb h2 h3 k' s') : fr tb h1 h3 (k + k') (s + s') := ⟨Nat.le_trans a.1 b.1, by have := a.2.1; have := b.2.1; omega, by have := a.2.2.1; have := b.2.2.1; omega, fun x hx hl => (b.2.2.2 x hx (Nat.lt_of_lt_of_le hl a.1)).trans (a.2.2.2 x hx hl)⟩
theorem fr_le {tb : sm_T} {h1 h2 : am_Hp} {k s k' s' : Nat} (a : fr tb h1 h2 k s) (hk : k ≤ k') (hs : s ≤ s') : fr tb h1 h2 k' s' := ⟨a.1, by have := a.2.1; omega, by have := a.2.2.1; omega, a.2.2.2⟩
theorem fr_e {tb : sm_T} {h1 h2 : am_Hp} (a : sm_e tb h1 h2) : fr tb h1 h2 0 0 := ⟨Nat.le_of_eq a.1.symm, Nat.le_of_eq a.1, Nat.le_of_eq a.2.1, fun b hb _ => a.2.2 b hb⟩
theorem fr_gq {tb : sm_T} {h1 h2 h3 : am_Hp} {k s k' s' : Nat} (a : fr tb h1 h2 k s) (b : gq h2 h3 k' s') : fr tb h1 h3 (k + k') (s + s') := ⟨by have := a.1; have := b.1; omega, by have := a.2.1; have := b.1; omega, by have := a.2.2.1; have := b.2.1; omega, fun x hx hl => (b.2.2 x (Nat.lt_of_lt_of_le hl a.1)).trans (a.2.2.2 x hx hl)⟩
theorem fr_pq {tb : sm_T} {h1 h2 h3 : am_Hp} {k s x : Nat} (a : fr tb h1 h2 k s) (b : pq x h2 h3) (hx : h1.length ≤ x) : fr tb h1 h3 k s := ⟨by have := a.1; have := b.1; omega, by have := a.2.1; have := b.1; omega, by have := a.2.2.1; have := b.2.1; omega, fun y hy hl => (b.2.2 y (by omega)).trans (a.2.2.2 y hy hl)⟩
theorem sm_gq {tb : sm_T} {h h2 : am_Hp} {I : sm_I} {X : sm_X} {k s : Nat} (hs : sm tb h I X) (g : gq h h2 k s) : sm tb h2 I X := by
  intro a hd ds hb
  have := hs a hd ds hb
  rw [g.2.2 a (List.getElem?_eq_some_iff.mp this).1]
  exact this
theorem sm_pq {tb : sm_T} {h h2 : am_Hp} {I : sm_I} {X : sm_X} {a : Nat} (hs : sm tb h I X) (g : pq a h h2) (ha : tb a = none) : sm tb h2 I X := sm_dyn hs (fun b hb => g.2.2 b (fun e => hb (e ▸ ha)))
theorem lt_of {h : am_Hp} {a : Nat} {c : am_C} (e : h[a]? = some c) : a < h.length := (List.getElem?_eq_some_iff.mp e).1
theorem gq_app (h : am_Hp) (c : am_C) : gq h (h ++ [c]) 1 (am_sz c) := ⟨by simp, by simp [am_sl], fun b hb => List.getElem?_append_left hb⟩
section GO
variable {T : am_T} {d : Nat} {code : List Instr} {rt : Option FieldType} {pc : Nat} {lo : am_Lo} {st : List Value} {h : am_Hp} {Q : Option Value → am_Hp → Prop}
theorem go_newF {ci pc' n : Nat} {fs : List Value} (hi : code[pc]? = some (.new ci)) (hB : (am_B T)[ci]? = some fs) (hn : fs.length = n) (hp : pc + 1 = pc') (kk : ∀ L h2, L = h.length → h2[L]? = some (.inl (ci, fs)) → gq h h2 1 n → am_Go T d code rt pc' lo (.ref L :: st) h2 Q) : am_Go T d code rt pc lo st h Q := by
  subst hn
  exact go_new hi hB hp (kk _ _ rfl (by simp) (gq_app h _))
theorem go_narrF {pc' n : Nat} {x : Int32} {at_ : ArrayType} {ty : FieldType} {v : Value} (hi : code[pc]? = some (.newarray at_)) (hx : x = nI n) (hn : n ≤ 1048576) (hty : newarray.typeOf at_ = ty) (hv : defaultValue ty = v) (hp : pc + 1 = pc') (kk : ∀ L h2, L = h.length → h2[L]? = some (.inr (ty, List.replicate n v)) → gq h h2 1 n → am_Go T d code rt pc' lo (.ref L :: st) h2 Q) : am_Go T d code rt pc lo (.int x :: st) h Q := by
  subst hp hx hty hv
  have h1 := nI_pos (n := n) (by omega)
  have h2 := nI_clamp (n := n) (by omega)
  refine go_x (ch := some (.inr [.inr (newarray.typeOf at_, List.replicate n (defaultValue (newarray.typeOf at_)))])) hi rfl rfl ?_ (kk _ _ rfl (by simp [am_ap]) ?_)
  · simp only [am_x, h2]
    rw [if_pos ⟨h1, hn⟩]
  · have := gq_app h (.inr (newarray.typeOf at_, List.replicate n (defaultValue (newarray.typeOf at_))))
    simpa [am_sz, am_ap] using this
theorem pq_set {h : am_Hp} {a : Nat} {c c' : am_C} (ha : h[a]? = some c) (hc : am_sz c' = am_sz c) : pq a h (h.set a c') := ⟨List.length_set .., am_sl_set ha hc, fun b hb => List.getElem?_set_ne (fun e => hb e.symm)⟩
theorem go_putF {n a ci k pc' : Nat} {fs : List Value} {cs : List Nat} {ty : FieldType} {v : Value} (hi : code[pc]? = some (.putfield n)) (ha : h[a]? = some (.inl (ci, fs))) (hF : (am_F T)[n]? = some (cs, k, ty)) (hc : ci ∈ cs) (hl : k < fs.length) (hf : am_fit ty v = true) (hw : am_wr T a = true) (hp : pc + 1 = pc') (kk : ∀ h2, h2[a]? = some (.inl (ci, fs.set k v)) → pq a h h2 → am_Go T d code rt pc' lo st h2 Q) : am_Go T d code rt pc lo (v :: .ref a :: st) h Q :=
  go_put hi ha hF hc hl hf hw hp (kk _ (List.getElem?_set_self (lt_of ha)) (pq_set ha (by simp [am_sz])))
theorem go_clnF {t a pc' : Nat} {ty : FieldType} {vs : List Value} (hi : code[pc]? = some (.ldc2_w t)) (ha : h[a]? = some (.inr (ty, vs))) (hE : (am_E T)[t]? = some ty) (h0 : a ≠ 0) (hr : am_rok st = true) (hp : pc + 1 = pc') (kk : ∀ L h2, L = h.length → h2[L]? = some (.inr (ty, vs)) → gq h h2 1 vs.length → am_Go T d code rt pc' lo (.ref L :: st) h2 Q) : am_Go T d code rt pc lo (.ref a :: st) h Q := by
  subst hp
  refine go_x (ch := some (.inr [.inr (ty, vs)])) hi rfl rfl ?_ (kk _ _ rfl (by simp [am_ap]) ?_)
  · simp only [am_x, ha, hE]
    rw [if_pos ⟨trivial, h0, hr⟩]
  · have := gq_app h (.inr (ty, vs))
    simpa [am_sz, am_ap] using this
theorem go_castA {t a pc' : Nat} {ty : FieldType} {vs : List Value} {ys ns : List Nat} (hi : code[pc]? = some (.checkcast t)) (ha : h[a]? = some (.inr (ty, vs))) (hI : (am_I T)[t]? = some (ys, ns, some ty)) (h0 : a ≠ 0) (hp : pc + 1 = pc') (kk : am_Go T d code rt pc' lo (.ref a :: st) h Q) : am_Go T d code rt pc lo (.ref a :: st) h Q := by
  subst hp
  refine go_x (ch := none) hi rfl rfl ?_ kk
  simp only [am_x, ha, hI]
  rw [if_pos ⟨trivial, h0⟩]
theorem go_castO {t a ci pc' : Nat} {fs : List Value} {ys ns : List Nat} {x : Option FieldType} (hi : code[pc]? = some (.checkcast t)) (ha : h[a]? = some (.inl (ci, fs))) (hI : (am_I T)[t]? = some (ys, ns, x)) (hy : ci ∈ ys) (hp : pc + 1 = pc') (kk : am_Go T d code rt pc' lo (.ref a :: st) h Q) : am_Go T d code rt pc lo (.ref a :: st) h Q := by
  subst hp
  refine go_x (ch := none) hi rfl rfl ?_ kk
  simp only [am_x, ha, hI]
  rw [if_pos hy]
theorem go_instT {t a ci pc' : Nat} {fs : List Value} {ys ns : List Nat} {x : Option FieldType} (hi : code[pc]? = some (.instanceof t)) (ha : h[a]? = some (.inl (ci, fs))) (hI : (am_I T)[t]? = some (ys, ns, x)) (hy : ci ∈ ys) (hp : pc + 1 = pc') (kk : am_Go T d code rt pc' lo (.int 1 :: st) h Q) : am_Go T d code rt pc lo (.ref a :: st) h Q := by
  subst hp
  refine go_x (ch := none) hi rfl rfl ?_ kk
  simp only [am_x, ha, hI]
  rw [if_pos hy]
theorem go_instF {t a ci pc' : Nat} {fs : List Value} {ys ns : List Nat} {x : Option FieldType} (hi : code[pc]? = some (.instanceof t)) (ha : h[a]? = some (.inl (ci, fs))) (hI : (am_I T)[t]? = some (ys, ns, x)) (hy : ¬ ci ∈ ys) (hn : ci ∈ ns) (hp : pc + 1 = pc') (kk : am_Go T d code rt pc' lo (.int 0 :: st) h Q) : am_Go T d code rt pc lo (.ref a :: st) h Q := by
  subst hp
  refine go_x (ch := none) hi rfl rfl ?_ kk
  simp only [am_x, ha, hI]
  rw [if_neg hy, if_pos hn]
end GO
theorem pq_trans {a : Nat} {h1 h2 h3 : am_Hp} (x : pq a h1 h2) (y : pq a h2 h3) : pq a h1 h3 := ⟨y.1.trans x.1, y.2.1.trans x.2.1, fun b hb => (y.2.2 b hb).trans (x.2.2 b hb)⟩
theorem pq_refl (a : Nat) (h : am_Hp) : pq a h h := ⟨rfl, rfl, fun _ _ => rfl⟩
theorem sm_len {h : am_Hp} {I : sm_I} {X : sm_X} (hs : sm tbc h I X) : 62 ≤ h.length := lt_of (hs 61 _ _ rfl)
theorem tbs_lt {ad : Nat → Nat} {h : am_Hp} {S : sm_I} {Y : sm_X} (hA : adk ad) (hs : sm (tbs ad) h S Y) {i : Nat} (hi : i < 12) : ad i < h.length := lt_of (hs (ad i) _ _ (tbs_at hA hi))
theorem tbs_new {ad : Nat → Nat} {h : am_Hp} {S : sm_I} {Y : sm_X} {L : Nat} (hA : adk ad) (hs : sm (tbs ad) h S Y) (hL : h.length ≤ L) : tbs ad L = none := tbs_none (fun i hi e => by have := tbs_lt hA hs hi; omega)
