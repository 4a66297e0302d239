/-! AM against the machine: one instruction that is no call and no answer -/
theorem am_lk {d d2 : Int} {P : Int → Int} {P2 : Int → Int} (x : Int) (hd : P d2 = P2 d) : ∀ (l2 l : List (Int × Int)), l2.map (fun o => (o.1, P o.2)) = l.map (fun t => (t.1, P2 t.2)) → P (Op.lookupswitch.offset l2 d2 x) = P2 (Op.lookupswitch.offset l d x)
  | [], [], _ => hd
  | [], _ :: _, h => by simp at h
  | _ :: _, [], h => by simp at h
  | (a, o) :: r2, (b, t) :: r, h => by
    simp only [List.map_cons, List.cons.injEq, Prod.mk.injEq] at h
    obtain ⟨⟨h1, h2⟩, h3⟩ := h
    subst h1
    rw [Op.lookupswitch.offset_cons, Op.lookupswitch.offset_cons]
    split
    · exact h2
    · exact am_lk x hd r2 r h3
theorem am_if {P : Nat → Prop} {b : Bool} {t f : Nat} (k : P (if b then t else f)) : (b = true → P t) ∧ (b = false → P f) := by
  cases b
  · exact ⟨fun z => (by cases z), fun _ => k⟩
  · exact ⟨fun _ => k, fun z => (by cases z)⟩
theorem am_tb {P P2 : Int → Int} {l2 l : List Int} (h : l2.map P = l.map P2) {q : Nat} {t : Int} (ht : l[q]? = some t) : ∃ o, l2[q]? = some o ∧ P o = P2 t := by
  have h1 := congrArg (fun z => z[q]?) h
  simp only [List.getElem?_map, ht, Option.map_some] at h1
  cases ho : l2[q]? with
  | none => rw [ho] at h1; cases h1
  | some o => rw [ho] at h1; exact ⟨o, rfl, Option.some.inj h1⟩
theorem am_fok_spec {Tb : List Jvm.Cond} {cl : List vw_C} {hs : List Nat} {ref name desc : String} {ci k : Nat} (h : am_fok Tb cl hs ref name desc ci k = true) : ∃ (C : String) (F : u_T) (N : Nat), cl[ci]? = some (C, F, N) ∧ k < N ∧ (F k).2.1 = name ∧ (F k).2.2.1 = desc ∧ ((F k).1 = ref ∨ am_w Tb hs 1 = .sameField ref (F k).1 name desc) := by
  unfold am_fok at h
  split at h
  · rename_i C F N hc
    exact ⟨C, F, N, hc, of_decide_eq_true h⟩
  · cases h
def am_Cx (p : Program) (s : State) (m : MethodId) (args : Array Value) (meth : Method) (c : Code) (cc : ByteArray) (G : am_G) (Tb : List Jvm.Cond) (T : am_T) (own nm : String) : Prop :=
  p.tables.exec = Jvm.exec ∧ c.code = cc ∧ s.vm.findClass own = some m.cls ∧ (∀ w ∈ am_ts Tb, w.before args s = true) ∧ am_Nw Tb s ∧ am_Kn G s ∧ meth.name = nm ∧ am_clok Tb T G.2.1
section AMP
variable {p : Program} {l : Launch} {e : Env} {R : Room} {s : State} {m : MethodId} {args : Array Value} {below : List Frame} {meth : Method} {c : Code} {Q : State → Prop} {cc : ByteArray} {G : am_G} {n0 s0 : Nat}
theorem am_same {Tb : List Jvm.Cond} {hs : List Nat} {ref own name desc : String} (hts : ∀ w ∈ am_ts Tb, w.before args s = true) (h : own = ref ∨ am_w Tb hs 1 = .sameField ref own name desc) : ∀ x, s.fieldFound? own name desc = some x → s.fieldFound? ref name desc = some x := by
  intro x hx
  rcases h with rfl | h
  · exact hx
  · exact u_same (am_w_use hts h (by first | rfl | simp [am_gd, Cond.onTables, Cond.keeps, Cond.steady]) (by simp)) x hx
theorem am_s_get {Tb : List Jvm.Cond} {T : am_T} {own nm : String} {pcs : Nat → Nat} {j len n : Nat} {ri : Instr} {hs : List Nat} {lo : am_Lo} {r : List Value} {h : am_Hp} {a ci kk : Nat} {fs : List Value} {cs : List Nat} {ty : FieldType} {v : Value} (CX : am_Cx p s m args meth c cc G Tb T own nm) (hok : am_ok Tb G.2.1 G.2.2.1 T own nm pcs j ri len hs (.getfield n) = true) (hd : decode cc (pcs j) = .ok (ri, len))
    (ha : h[a]? = some (.inl (ci, fs))) (hF : (am_F T)[n]? = some (cs, kk, ty)) (hci : ci ∈ cs) (hv : fs[kk]? = some v) (k : am_W p l e R s m args below meth c Q G n0 s0 (pcs (j + 1)) lo (v :: r) h) : am_W p l e R s m args below meth c Q G n0 s0 (pcs j) lo (.ref a :: r) h := by
  obtain ⟨hx, hb, hown, hts, hnw, hK, hnm, hcl⟩ := CX
  simp only [am_ok, hF] at hok
  split at hok
  · rename_i idx cs' k' ty' o x ref name desc e1 e2
    cases e1
    simp only [Bool.and_eq_true, decide_eq_true_eq, List.all_eq_true] at hok
    obtain ⟨⟨hn, rfl, rfl, rfl⟩, hall⟩ := hok
    obtain ⟨C, F, N, hc, hk, rfl, rfl, hsm⟩ := am_fok_spec (hall ci hci)
    rw [hn] at k
    exact am_r_get hx hb hts (hcl.1 ci C F N hc).1 hown hK hc hk (Or.inl (am_w_use hts e2 (by first | rfl | simp [am_gd, Cond.onTables, Cond.keeps, Cond.steady]) (by simp))) (am_same hts hsm) ha hv hd k
  · rename_i idx cs' k' ty' o x ref name desc host e1 e2
    cases e1
    simp only [Bool.and_eq_true, decide_eq_true_eq, List.all_eq_true] at hok
    obtain ⟨⟨hn, rfl, rfl, rfl⟩, hall⟩ := hok
    obtain ⟨C, F, N, hc, hk, rfl, rfl, hsm⟩ := am_fok_spec (hall ci hci)
    rw [hn] at k
    exact am_r_get hx hb hts (hcl.1 ci C F N hc).1 hown hK hc hk (Or.inr ⟨host, va_Nw.use rfl (am_n_use hnw e2 rfl)⟩) (am_same hts hsm) ha hv hd k
  · cases hok
theorem am_s_put {Tb : List Jvm.Cond} {T : am_T} {own nm : String} {pcs : Nat → Nat} {j len n : Nat} {ri : Instr} {hs : List Nat} {lo : am_Lo} {r : List Value} {h : am_Hp} {a ci kk : Nat} {fs : List Value} {cs : List Nat} {ty : FieldType} {v : Value} (CX : am_Cx p s m args meth c cc G Tb T own nm) (hok : am_ok Tb G.2.1 G.2.2.1 T own nm pcs j ri len hs (.putfield n) = true) (hd : decode cc (pcs j) = .ok (ri, len))
    (ha : h[a]? = some (.inl (ci, fs))) (hF : (am_F T)[n]? = some (cs, kk, ty)) (hci : ci ∈ cs) (hl : kk < fs.length) (hfit : am_fit ty v = true) (k : am_W p l e R s m args below meth c Q G n0 s0 (pcs (j + 1)) lo r (h.set a (.inl (ci, fs.set kk v)))) : am_W p l e R s m args below meth c Q G n0 s0 (pcs j) lo (v :: .ref a :: r) h := by
  obtain ⟨hx, hb, hown, hts, hnw, hK, hnm, hcl⟩ := CX
  simp only [am_ok, hF] at hok
  split at hok
  · rename_i idx cs' k' ty' o x ref name desc e1 e2
    cases e1
    simp only [Bool.and_eq_true, decide_eq_true_eq, List.all_eq_true] at hok
    obtain ⟨⟨hn, rfl, rfl, rfl, hdt⟩, hall⟩ := hok
    obtain ⟨hfo, hfin⟩ := hall ci hci
    obtain ⟨C, F, N, hc, hk, rfl, rfl, hsm⟩ := am_fok_spec hfo
    rw [hc] at hfin
    simp only [decide_eq_true_eq] at hfin
    obtain ⟨w1, w2, ty0, w3, -⟩ := hcl.1 ci C F N hc
    rw [hn] at k
    have hty : ty0 kk = ty := Option.some.inj ((w3 kk hk).symm.trans hdt)
    exact am_r_put hx hb hts w1 w3 w2 hown hK hc hk (am_w_use hts e2 (by first | rfl | simp [am_gd, Cond.onTables, Cond.keeps, Cond.steady]) (by simp)) (am_same hts hsm) (by rw [hnm]; exact hfin) hty hfit ha hl hd k
  · cases hok
theorem am_cast_of {Tb : List Jvm.Cond} {cl : List vw_C} {hs : List Nat} {ci : Nat} {name : String} (hnw : am_Nw Tb s) (h : (decide (am_cn cl ci = name) || (List.range hs.length).any (fun q => decide (am_w Tb hs q = .castable (am_cn cl ci) name))) = true) {r : vw_C} (hr : cl[ci]? = some r) : r.1 = name ∨ va_Nw (.castable r.1 name) s := by
  have hn : am_cn cl ci = r.1 := by unfold am_cn; rw [hr]; rfl
  rw [hn] at h
  rw [Bool.or_eq_true, List.any_eq_true] at h
  rcases h with h | ⟨q, -, h⟩
  · exact Or.inl (of_decide_eq_true h)
  · exact Or.inr (am_n_use hnw (of_decide_eq_true h) rfl)
theorem am_s_inst {Tb : List Jvm.Cond} {T : am_T} {own nm : String} {pcs : Nat → Nat} {j len t : Nat} {ri : Instr} {hs : List Nat} {lo : am_Lo} {r : List Value} {h : am_Hp} {a ci : Nat} {fs : List Value} {ys ns : List Nat} {az : Option FieldType} {z : Int32} (CX : am_Cx p s m args meth c cc G Tb T own nm) (hok : am_ok Tb G.2.1 G.2.2.1 T own nm pcs j ri len hs (.instanceof t) = true) (hd : decode cc (pcs j) = .ok (ri, len))
    (ha : h[a]? = some (.inl (ci, fs))) (hI : (am_I T)[t]? = some (ys, ns, az)) (hz : (ci ∈ ys ∧ z = 1) ∨ (ci ∈ ns ∧ z = 0)) (k : am_W p l e R s m args below meth c Q G n0 s0 (pcs (j + 1)) lo (.int z :: r) h) : am_W p l e R s m args below meth c Q G n0 s0 (pcs j) lo (.ref a :: r) h := by
  obtain ⟨hx, hb, hown, hts, hnw, hK, hnm, hcl⟩ := CX
  simp only [am_ok, hI] at hok
  split at hok
  · rename_i idx ys' ns' az' o x name e1 e2
    cases e1
    simp only [Bool.and_eq_true, decide_eq_true_eq] at hok
    obtain ⟨⟨⟨⟨hn, rfl, rfl, rfl⟩, hy⟩, hno⟩, hlt⟩ := hok
    rw [hn] at k
    have hcl2 : ci < G.2.1.length := by
      have := List.all_eq_true.mp hlt ci (by rcases hz with ⟨q, -⟩ | ⟨q, -⟩; exact List.mem_append_left _ q; exact List.mem_append_right _ q)
      exact of_decide_eq_true this
    obtain ⟨q, hq⟩ : ∃ q, G.2.1[ci]? = some q := ⟨_, List.getElem?_eq_getElem hcl2⟩
    have hl2 := am_w_use hts e2 (by first | rfl | simp [am_gd, Cond.onTables, Cond.keeps, Cond.steady]) (by simp)
    refine am_r_inst hx hb hown hK hl2 ha hq ?_ hd k
    rcases hz with ⟨hci, rfl⟩ | ⟨hci, rfl⟩
    · exact Or.inl ⟨rfl, am_cast_of hnw (List.all_eq_true.mp hy ci hci) hq⟩
    · refine Or.inr ⟨rfl, ?_⟩
      have h3 := List.all_eq_true.mp hno ci hci
      rw [List.any_eq_true] at h3
      obtain ⟨w, -, hw⟩ := h3
      have hcn : am_cn G.2.1 ci = q.1 := by unfold am_cn; rw [hq]; rfl
      rw [hcn] at hw
      exact va_Nc.of (am_n_use hnw (of_decide_eq_true hw) rfl)
  · cases hok
theorem am_s_cast {Tb : List Jvm.Cond} {T : am_T} {own nm : String} {pcs : Nat → Nat} {j len t : Nat} {ri : Instr} {hs : List Nat} {lo : am_Lo} {r : List Value} {h : am_Hp} {a ci : Nat} {fs : List Value} {ys ns : List Nat} {az : Option FieldType} (CX : am_Cx p s m args meth c cc G Tb T own nm) (hok : am_ok Tb G.2.1 G.2.2.1 T own nm pcs j ri len hs (.checkcast t) = true) (hd : decode cc (pcs j) = .ok (ri, len))
    (ha : h[a]? = some (.inl (ci, fs))) (hI : (am_I T)[t]? = some (ys, ns, az)) (hz : ci ∈ ys) (k : am_W p l e R s m args below meth c Q G n0 s0 (pcs (j + 1)) lo (.ref a :: r) h) : am_W p l e R s m args below meth c Q G n0 s0 (pcs j) lo (.ref a :: r) h := by
  obtain ⟨hx, hb, hown, hts, hnw, hK, hnm, hcl⟩ := CX
  simp only [am_ok, hI] at hok
  split at hok
  · rename_i idx ys' ns' az' o x name e1 e2
    cases e1
    simp only [Bool.and_eq_true, decide_eq_true_eq] at hok
    obtain ⟨⟨⟨⟨hn, rfl, rfl, rfl⟩, hy⟩, hlt⟩, -⟩ := hok
    rw [hn] at k
    have hcl2 : ci < G.2.1.length := of_decide_eq_true (List.all_eq_true.mp hlt ci hz)
    obtain ⟨q, hq⟩ : ∃ q, G.2.1[ci]? = some q := ⟨_, List.getElem?_eq_getElem hcl2⟩
    have hl2 := am_w_use hts e2 (by first | rfl | simp [am_gd, Cond.onTables, Cond.keeps, Cond.steady]) (by simp)
    exact am_r_cast hx hb hown hK hl2 ha hq (am_cast_of hnw (List.all_eq_true.mp hy ci hz) hq) hd k
  · cases hok
theorem am_s_castA {Tb : List Jvm.Cond} {T : am_T} {own nm : String} {pcs : Nat → Nat} {j len t : Nat} {ri : Instr} {hs : List Nat} {lo : am_Lo} {r : List Value} {h : am_Hp} {a : Nat} {vs : List Value} {ys ns : List Nat} {ty : FieldType} (CX : am_Cx p s m args meth c cc G Tb T own nm) (hok : am_ok Tb G.2.1 G.2.2.1 T own nm pcs j ri len hs (.checkcast t) = true) (hd : decode cc (pcs j) = .ok (ri, len))
    (ha : h[a]? = some (.inr (ty, vs))) (hI : (am_I T)[t]? = some (ys, ns, some ty)) (h0 : a ≠ 0) (k : am_W p l e R s m args below meth c Q G n0 s0 (pcs (j + 1)) lo (.ref a :: r) h) : am_W p l e R s m args below meth c Q G n0 s0 (pcs j) lo (.ref a :: r) h := by
  obtain ⟨hx, hb, hown, hts, hnw, hK, hnm, hcl⟩ := CX
  simp only [am_ok, hI] at hok
  split at hok
  · rename_i idx ys' ns' az' o x name e1 e2
    cases e1
    simp only [Bool.and_eq_true, decide_eq_true_eq] at hok
    obtain ⟨⟨⟨⟨hn, rfl, rfl, rfl⟩, hy⟩, hlt⟩, haz⟩ := hok
    rw [hn] at k
    have hl2 := am_w_use hts e2 (by first | rfl | simp [am_gd, Cond.onTables, Cond.keeps, Cond.steady]) (by simp)
    exact am_r_castA hx hb hown hK hl2 ha h0 haz hd k
  · cases hok
theorem am_castN_of {Tb : List Jvm.Cond} {cl : List vw_C} {tys : List FieldType} {T : am_T} {own nm : String} {pcs : Nat → Nat} {j len t : Nat} {ri : Instr} {hs : List Nat} (h : am_ok Tb cl tys T own nm pcs j ri len hs (.checkcast t) = true) : ∃ idx, ri = .checkcast idx ∧ len = 3 ∧ pcs (j + 1) = pcs j + 3 := by
  simp only [am_ok] at h
  split at h
  · simp only [Bool.and_eq_true, decide_eq_true_eq] at h
    exact ⟨_, rfl, h.1.1.1.2.1, h.1.1.1.1⟩
  · cases h
theorem am_instN_of {Tb : List Jvm.Cond} {cl : List vw_C} {tys : List FieldType} {T : am_T} {own nm : String} {pcs : Nat → Nat} {j len t : Nat} {ri : Instr} {hs : List Nat} (h : am_ok Tb cl tys T own nm pcs j ri len hs (.instanceof t) = true) : ∃ idx, ri = .instanceof idx ∧ len = 3 ∧ pcs (j + 1) = pcs j + 3 := by
  simp only [am_ok] at h
  split at h
  · simp only [Bool.and_eq_true, decide_eq_true_eq] at h
    exact ⟨_, rfl, h.1.1.1.2.1, h.1.1.1.1⟩
  · cases h
set_option maxHeartbeats 4000000 in
theorem am_step {Tb : List Jvm.Cond} {T : am_T} {own nm : String} {pcs : Nat → Nat} {j len : Nat} {ri i : Instr} {hs : List Nat} {j' : Nat} {lo lo' : am_Lo} {st st' : List Value} {h : am_Hp} {ch : am_Ch} (CX : am_Cx p s m args meth c cc G Tb T own nm) (hml : c.maxLocals = lo.length) (hok : am_ok Tb G.2.1 G.2.2.1 T own nm pcs j ri len hs i = true) (hd : decode cc (pcs j) = .ok (ri, len))
    (hxs : am_x T i j lo st h = some (j', lo', st', ch)) (hf : 1 ≤ R.frames) (hlo : 42 ≤ R.locals) (hr1 : (am_ap h ch).length - n0 ≤ R.cells) (hr2 : am_sl (am_ap h ch) - s0 ≤ R.slots) (k : am_W p l e R s m args below meth c Q G n0 s0 (pcs j') lo' st' (am_ap h ch)) : am_W p l e R s m args below meth c Q G n0 s0 (pcs j) lo st h := by
  obtain ⟨hx, hb, hown, hts, hnw, hK, hnm, hcl⟩ := CX
  unfold am_x at hxs
  split at hxs
  · -- sipush
    cases hxs
    simp only [am_ok, Bool.and_eq_true, decide_eq_true_eq] at hok
    obtain ⟨hn, hok⟩ := hok
    rw [hn] at k
    refine am_r_const hx hb hown hd ?_ k
    split at hok <;> (try simp only [decide_eq_true_eq] at hok)
    · exact Or.inl ⟨_, rfl, hok.1, hok.2⟩
    · exact Or.inr (Or.inl ⟨_, rfl, hok.1, hok.2⟩)
    · exact Or.inr (Or.inr (Or.inl ⟨_, rfl, hok.1, hok.2⟩))
    · exact Or.inr (Or.inr (Or.inr (Or.inl ⟨_, rfl, hok.1, am_w_use hts hok.2 (by first | rfl | simp [am_gd, Cond.onTables, Cond.keeps, Cond.steady]) (by simp)⟩)))
    · exact Or.inr (Or.inr (Or.inr (Or.inr ⟨_, rfl, hok.1, am_w_use hts hok.2 (by first | rfl | simp [am_gd, Cond.onTables, Cond.keeps, Cond.steady]) (by simp)⟩)))
    · cases hok
  · -- aconst_null
    cases hxs
    simp only [am_ok, decide_eq_true_eq] at hok
    obtain ⟨hn, rfl, rfl⟩ := hok
    rw [hn] at k
    exact am_r_null hx hb hd k
  · -- iload
    split at hxs
    · rename_i hv
      cases hxs
      simp only [am_ok, Bool.and_eq_true, decide_eq_true_eq] at hok
      obtain ⟨hn, hok⟩ := hok
      rw [hn] at k
      refine am_r_iload hx hb hd ?_ hv k
      split at hok <;> (try simp only [decide_eq_true_eq] at hok)
      · exact Or.inl ⟨by rw [hok.1], hok.2⟩
      · exact Or.inr ⟨_, rfl, hok.1, hok.2⟩
      · cases hok
    · cases hxs
  · -- aload
    rename_i kq
    simp only [am_ok, Bool.and_eq_true, decide_eq_true_eq] at hok
    obtain ⟨hn, hok⟩ := hok
    have hri : (ri = .aload kq ∧ len = 2) ∨ (∃ f : Fin 4, ri = .aload_n f ∧ f.val = kq ∧ len = 1) := by
      split at hok <;> (try simp only [decide_eq_true_eq] at hok)
      · exact Or.inl ⟨by rw [hok.1], hok.2⟩
      · exact Or.inr ⟨_, rfl, hok.1, hok.2⟩
      · cases hok
    split at hxs
    · rename_i hv
      cases hxs
      rw [hn] at k
      exact am_r_aload hx hb hd hri hv (Or.inr ⟨_, rfl⟩) k
    · rename_i hv
      cases hxs
      rw [hn] at k
      exact am_r_aload hx hb hd hri hv (Or.inl rfl) k
    · cases hxs
  · -- istore
    rename_i kq
    simp only [am_ok, Bool.and_eq_true, decide_eq_true_eq] at hok
    obtain ⟨hn, hok⟩ := hok
    have hri : (ri = .istore kq ∧ len = 2) ∨ (∃ f : Fin 4, ri = .istore_n f ∧ f.val = kq ∧ len = 1) := by
      split at hok <;> (try simp only [decide_eq_true_eq] at hok)
      · exact Or.inl ⟨by rw [hok.1], hok.2⟩
      · exact Or.inr ⟨_, rfl, hok.1, hok.2⟩
      · cases hok
    split at hxs
    · split at hxs
      · rename_i hv
        cases hxs
        rw [hn] at k
        exact am_r_istore hx hb hd hri hv k
      · cases hxs
    · cases hxs
  · -- astore
    rename_i kq
    simp only [am_ok, Bool.and_eq_true, decide_eq_true_eq] at hok
    obtain ⟨hn, hok⟩ := hok
    have hri : (ri = .astore kq ∧ len = 2) ∨ (∃ f : Fin 4, ri = .astore_n f ∧ f.val = kq ∧ len = 1) := by
      split at hok <;> (try simp only [decide_eq_true_eq] at hok)
      · exact Or.inl ⟨by rw [hok.1], hok.2⟩
      · exact Or.inr ⟨_, rfl, hok.1, hok.2⟩
      · cases hok
    split at hxs
    · split at hxs
      · rename_i hv
        cases hxs
        rw [hn] at k
        exact am_r_astore hx hb hd hri (Or.inr ⟨_, rfl⟩) hv k
      · cases hxs
    · split at hxs
      · rename_i hv
        cases hxs
        rw [hn] at k
        exact am_r_astore hx hb hd hri (Or.inl rfl) hv k
      · cases hxs
    · cases hxs
  · -- iinc
    split at hxs
    · rename_i hv
      cases hxs
      simp only [am_ok, decide_eq_true_eq] at hok
      obtain ⟨hn, rfl, rfl⟩ := hok
      rw [hn] at k
      exact am_r_iinc hx hb hd hv k
    · cases hxs
  · -- dup
    simp only [am_ok, decide_eq_true_eq] at hok
    obtain ⟨hn, rfl, rfl⟩ := hok
    split at hxs
    · split at hxs
      · rename_i hv
        cases hxs
        rw [hn] at k
        exact am_r_dup hx hb hd hv k
      · cases hxs
    · cases hxs
  · -- pop
    simp only [am_ok, decide_eq_true_eq] at hok
    obtain ⟨hn, rfl, rfl⟩ := hok
    split at hxs
    · split at hxs
      · rename_i hv
        cases hxs
        rw [hn] at k
        exact am_r_pop hx hb hd hv k
      · cases hxs
    · cases hxs
  · -- dup_x1
    simp only [am_ok, decide_eq_true_eq] at hok
    obtain ⟨hn, rfl, rfl⟩ := hok
    split at hxs
    · split at hxs
      · rename_i hv
        cases hxs
        rw [hn] at k
        exact am_r_dup_x1 hx hb hd hv.1 hv.2 k
      · cases hxs
    · cases hxs
  · -- dup_x2
    simp only [am_ok, decide_eq_true_eq] at hok
    obtain ⟨hn, rfl, rfl⟩ := hok
    split at hxs
    · split at hxs
      · rename_i hv
        cases hxs
        rw [hn] at k
        exact am_r_dup_x2 hx hb hd hv.1 hv.2.1 hv.2.2 k
      · cases hxs
    · cases hxs
  · -- dup2
    simp only [am_ok, decide_eq_true_eq] at hok
    obtain ⟨hn, rfl, rfl⟩ := hok
    split at hxs
    · split at hxs
      · rename_i hv
        cases hxs
        rw [hn] at k
        exact am_r_dup2 hx hb hd hv.1 hv.2 k
      · cases hxs
    · cases hxs
  iterate 11
    · -- the two-place sums
      simp only [am_ok, decide_eq_true_eq] at hok
      obtain ⟨hn, rfl, rfl⟩ := hok
      split at hxs
      · split at hxs
        · rename_i hv
          cases hxs
          rw [hn] at k
          exact am_r_bin hx hb hd hv k
        · cases hxs
      · cases hxs
  · -- ineg
    simp only [am_ok, decide_eq_true_eq] at hok
    obtain ⟨hn, rfl, rfl⟩ := hok
    split at hxs
    · cases hxs
      rw [hn] at k
      exact am_r_ineg hx hb hd k
    · cases hxs
  · -- if_icmp
    simp only [am_ok] at hok
    split at hok
    · simp only [decide_eq_true_eq] at hok
      obtain ⟨hn, rfl, rfl, ht⟩ := hok
      split at hxs
      · cases hxs
        obtain ⟨k1, k2⟩ := am_if (P := fun z => am_W p l e R s m args below meth c Q G n0 s0 (pcs z) lo _ h) k
        rw [hn] at k2
        exact am_r_icmp hx hb hd ht k1 k2
      · cases hxs
    · cases hok
  · -- ifCond
    simp only [am_ok] at hok
    split at hok
    · simp only [decide_eq_true_eq] at hok
      obtain ⟨hn, rfl, rfl, ht⟩ := hok
      split at hxs
      · cases hxs
        obtain ⟨k1, k2⟩ := am_if (P := fun z => am_W p l e R s m args below meth c Q G n0 s0 (pcs z) lo _ h) k
        rw [hn] at k2
        exact am_r_if hx hb hd ht k1 k2
      · cases hxs
    · cases hok
  · -- ifnull
    simp only [am_ok] at hok
    split at hok
    · simp only [decide_eq_true_eq] at hok
      obtain ⟨hn, rfl, ht⟩ := hok
      split at hxs
      · cases hxs
        exact am_r_ifnullY hx hb hd ht k
      · cases hxs
        rw [hn] at k
        exact am_r_ifnullN hx hb hd k
      · cases hxs
    · cases hok
  · -- ifnonnull
    simp only [am_ok] at hok
    split at hok
    · simp only [decide_eq_true_eq] at hok
      obtain ⟨hn, rfl, ht⟩ := hok
      split at hxs
      · cases hxs
        rw [hn] at k
        exact am_r_ifnonN hx hb hd k
      · cases hxs
        exact am_r_ifnonY hx hb hd ht k
      · cases hxs
    · cases hok
  · -- if_acmp
    simp only [am_ok] at hok
    split at hok
    · simp only [decide_eq_true_eq] at hok
      obtain ⟨hn, rfl, rfl, ht⟩ := hok
      split at hxs
      · split at hxs
        · rename_i hv
          cases hxs
          rw [Bool.and_eq_true] at hv
          obtain ⟨k1, k2⟩ := am_if (P := fun z => am_W p l e R s m args below meth c Q G n0 s0 (pcs z) lo _ h) k
          rw [hn] at k2
          exact am_r_acmp hx hb hd ht hv.1 hv.2 k1 k2
        · cases hxs
      · cases hxs
    · cases hok
  · -- goto
    cases hxs
    simp only [am_ok] at hok
    split at hok
    · simp only [decide_eq_true_eq] at hok
      obtain ⟨rfl, ht⟩ := hok
      exact am_r_goto hx hb hd ht k
    · cases hok
  · -- tableswitch
    simp only [am_ok] at hok
    split at hok
    · simp only [decide_eq_true_eq] at hok
      obtain ⟨rfl, rfl, hdf, hts2⟩ := hok
      split at hxs
      · split at hxs
        · rename_i hv
          cases hxs
          exact am_r_table hx hb hd (Or.inl ⟨hv, rfl⟩) hdf k
        · rename_i hv
          split at hxs
          · rename_i t ht
            cases hxs
            rw [← Array.getElem?_toList] at ht
            obtain ⟨o, h1, h2⟩ := am_tb hts2 ht
            rw [Array.getElem?_toList] at h1
            exact am_r_table hx hb hd (Or.inr ⟨hv, h1⟩) h2 k
          · cases hxs
      · cases hxs
    · cases hok
  · -- lookupswitch
    simp only [am_ok] at hok
    split at hok
    · simp only [decide_eq_true_eq] at hok
      obtain ⟨hso, hdf, hps⟩ := hok
      split at hxs
      · cases hxs
        exact am_r_lookup hx hb hd hso rfl (am_lk (P := fun o => (pcs j : Int) + o) (P2 := fun t => ((pcs t.toNat : Nat) : Int)) _ hdf _ _ hps) k
      · cases hxs
    · cases hok
  · -- getfield
    split at hxs
    · split at hxs
      · split at hxs
        · split at hxs
          · cases hxs
            rename_i hc _ hv
            exact am_s_get ⟨hx, hb, hown, hts, hnw, hK, hnm, hcl⟩ hok hd (by assumption) (by assumption) (by assumption) (by assumption) k
          · cases hxs
        · cases hxs
      · cases hxs
    · cases hxs
  · -- putfield
    split at hxs
    · split at hxs
      · split at hxs
        · rename_i hcc
          cases hxs
          exact am_s_put ⟨hx, hb, hown, hts, hnw, hK, hnm, hcl⟩ hok hd (by assumption) (by assumption) hcc.1 hcc.2.1 hcc.2.2.1 k
        · cases hxs
      · cases hxs
    · cases hxs
  · -- new
    simp only [am_ok] at hok
    split at hok
    · rename_i idx C F N hc
      simp only [decide_eq_true_eq] at hok
      obtain ⟨hn, rfl, g1, g2, g3⟩ := hok
      split at hxs
      · rename_i fs hfs
        cases hxs
        rw [hn] at k
        obtain ⟨w1, w2, ty0, w3, w4⟩ := hcl.1 _ C F N hc
        obtain ⟨w5, w6⟩ := w4 fs hfs
        exact am_r_new hx hb hts w1 w3 hown hK hc (am_w_use hts g1 (by first | rfl | simp [am_gd, Cond.onTables, Cond.keeps, Cond.steady]) (by simp)) (am_w_use hts g2 (by first | rfl | simp [am_gd, Cond.onTables, Cond.keeps, Cond.steady]) (by simp)) (am_w_use hts g3 (by first | rfl | simp [am_gd, Cond.onTables, Cond.keeps, Cond.steady]) (by simp)) w5 w6 hd hr1 hr2 k
      · cases hxs
    · cases hok
  · -- newarray
    simp only [am_ok, decide_eq_true_eq] at hok
    obtain ⟨hn, rfl, rfl, g1, g2⟩ := hok
    split at hxs
    · split at hxs
      · rename_i hcc
        cases hxs
        rw [hn] at k
        exact am_r_newa hx hb hK (am_w_use hts g1 (by simp [am_gd, am_isac]) (by simp)) g2 hd hcc.1 hcc.2 hr1 hr2 k
      · cases hxs
    · cases hxs
  · -- anewarray
    simp only [am_ok] at hok
    split at hok
    · rename_i idx C he
      simp only [decide_eq_true_eq] at hok
      obtain ⟨hn, rfl, g1, g2, g3⟩ := hok
      split at hxs
      · rw [he] at hxs
        simp only at hxs
        split at hxs
        · rename_i hcc
          cases hxs
          rw [hn] at k
          exact am_r_anew hx hb hown hK (am_w_use hts g1 (by first | rfl | simp [am_gd, Cond.onTables, Cond.keeps, Cond.steady]) (by simp)) (va_AO.use (am_n_use hnw g2 rfl)) g3 hd hcc.1 hcc.2 hr1 hr2 k
        · cases hxs
      · cases hxs
    · cases hok
  · -- multianewarray
    simp only [am_ok] at hok
    split at hok
    · rename_i idx ty he
      simp only [decide_eq_true_eq] at hok
      obtain ⟨hn, rfl, g1, g2, g3, g4, g5, g6⟩ := hok
      split at hxs
      · rw [he] at hxs
        simp only at hxs
        split at hxs
        · rename_i hcc
          cases hxs
          rw [hn] at k
          exact am_r_multi hx hb hown hK (am_w_use hts g1 (by first | rfl | simp [am_gd, Cond.onTables, Cond.keeps, Cond.steady]) (by simp)) (am_n_use hnw g2 rfl) (am_w_use hts g3 (by simp [am_gd, am_isac]) (by simp)) g4 g5 g6 hd hcc.1 hcc.2.1 hcc.2.2.1 hcc.2.2.2 rfl hr1 hr2 k
        · cases hxs
      · cases hxs
    · cases hok
  · -- arraylength
    simp only [am_ok, decide_eq_true_eq] at hok
    obtain ⟨hn, rfl, rfl⟩ := hok
    split at hxs
    · split at hxs
      · cases hxs
        rw [hn] at k
        exact am_r_alen hx hb hK (by assumption) hd k
      · cases hxs
    · cases hxs
  iterate 3
    · -- the array loads
      simp only [am_ok, decide_eq_true_eq] at hok
      obtain ⟨hn, rfl, rfl⟩ := hok
      split at hxs
      · split at hxs
        · split at hxs
          · rename_i hcc
            split at hxs
            · cases hxs
              rw [hn] at k
              exact am_r_ald hx hb hK hd hcc.1 hcc.2 (by assumption) (by assumption) k
            · cases hxs
          · cases hxs
        · cases hxs
      · cases hxs
  · -- iastore
    simp only [am_ok, decide_eq_true_eq] at hok
    obtain ⟨hn, rfl, rfl⟩ := hok
    split at hxs
    · split at hxs
      · split at hxs
        · rename_i hcc
          cases hxs
          rw [hn] at k
          exact am_r_iast hx hb hK hd hcc.1 hcc.2.1 hcc.2.2.1 (by assumption) k
        · cases hxs
      · cases hxs
    · cases hxs
  · -- bastore
    simp only [am_ok, decide_eq_true_eq] at hok
    obtain ⟨hn, rfl, rfl⟩ := hok
    split at hxs
    · split at hxs
      · split at hxs
        · rename_i hcc
          cases hxs
          rw [hn] at k
          exact am_r_zast hx hb hK hd hcc.1 hcc.2.1 hcc.2.2.1 hcc.2.2.2.1 (by assumption) k
        · cases hxs
      · cases hxs
    · cases hxs
  · -- aastore
    simp only [am_ok, decide_eq_true_eq] at hok
    obtain ⟨hn, rfl, rfl⟩ := hok
    split at hxs
    · split at hxs
      · split at hxs
        · rename_i hcc
          cases hxs
          rw [hn] at k
          exact am_r_aastN hx hb hK hd hcc.1 hcc.2.1 hcc.2.2.1 (by assumption) k
        · cases hxs
      · cases hxs
    · split at hxs
      · split at hxs
        · rename_i hcc
          cases hxs
          rw [hn] at k
          obtain ⟨q, hq, hca⟩ := hcl.2 _ _ hcc.2.2.2.1
          refine am_r_aast hx hb hK hd hcc.1 hcc.2.1 hcc.2.2.1 (by assumption) (by assumption) hq (fun comp c0 f1 f2 => ?_) k
          rcases hca with hca | hca
          · rw [hca] at f2
            exact vb_asgS comp c0 f1 f2
          · exact vb_asgC (hnw _ hca rfl) comp c0 f1 f2
        · cases hxs
      · cases hxs
    · cases hxs
  · -- instanceof
    split at hxs
    · cases hxs
      obtain ⟨idx, rfl, rfl, hn⟩ := am_instN_of hok
      rw [hn] at k
      exact am_r_instN hx hb hd k
    · split at hxs
      · split at hxs
        · cases hxs
          exact am_s_inst ⟨hx, hb, hown, hts, hnw, hK, hnm, hcl⟩ hok hd (by assumption) (by assumption) (Or.inl ⟨by assumption, rfl⟩) k
        · split at hxs
          · cases hxs
            exact am_s_inst ⟨hx, hb, hown, hts, hnw, hK, hnm, hcl⟩ hok hd (by assumption) (by assumption) (Or.inr ⟨by assumption, rfl⟩) k
          · cases hxs
      · cases hxs
    · cases hxs
  · -- checkcast
    split at hxs
    · cases hxs
      obtain ⟨idx, rfl, rfl, hn⟩ := am_castN_of hok
      rw [hn] at k
      exact am_r_castN hx hb hd k
    · split at hxs
      · split at hxs
        · cases hxs
          exact am_s_cast ⟨hx, hb, hown, hts, hnw, hK, hnm, hcl⟩ hok hd (by assumption) (by assumption) (by assumption) k
        · cases hxs
      · split at hxs
        · rename_i hcc
          cases hxs
          obtain ⟨rfl, h0⟩ := hcc
          exact am_s_castA ⟨hx, hb, hown, hts, hnw, hK, hnm, hcl⟩ hok hd (by assumption) (by assumption) h0 k
        · cases hxs
      · cases hxs
    · cases hxs
  · -- swap: arraycopy
    simp only [am_ok] at hok
    split at hok
    · simp only [decide_eq_true_eq] at hok
      obtain ⟨hn, rfl, g1, g2, g3, g4⟩ := hok
      split at hxs
      · split at hxs
        · split at hxs
          · rename_i hcc
            cases hxs
            rw [hn] at k
            obtain ⟨rfl, c2, c3, c4, c5, c6, c7, c8, c9, c10, -⟩ := hcc
            exact am_r_copy hx hb hml hown hK (am_w_use hts g1 (by first | rfl | simp [am_gd, Cond.onTables, Cond.keeps, Cond.steady]) (by simp)) (am_w_use hts g2 (by first | rfl | simp [am_gd, Cond.onTables, Cond.keeps, Cond.steady]) (by simp)) (am_w_use hts g3 (by first | rfl | simp [am_gd, Cond.onTables, Cond.keeps, Cond.steady]) (by simp)) (am_w_use hts g4 (by first | rfl | simp [am_gd, Cond.onTables, Cond.keeps, Cond.steady]) (by simp)) (by assumption) (by assumption) c2 c3 c4 c5 c6 c7 c8 c9 c10 hf (Nat.le_trans (by decide) hlo) hd k
          · cases hxs
        · cases hxs
      · cases hxs
    · cases hok
  · -- ldc2_w: clone
    simp only [am_ok] at hok
    split at hok
    · rename_i idx ty he
      simp only [decide_eq_true_eq] at hok
      obtain ⟨hn, rfl, g1, g2, g3, g4, g5, g6⟩ := hok
      split at hxs
      · rw [he] at hxs
        split at hxs
        · rename_i he2
          cases he2
          split at hxs
          · rename_i hcc
            cases hxs
            rw [hn] at k
            obtain ⟨rfl, c2, c3⟩ := hcc
            exact am_r_clone hx hb hml hown hK (am_w_use hts g1 (by first | rfl | simp [am_gd, Cond.onTables, Cond.keeps, Cond.steady]) (by simp)) (am_w_use hts g2 (by first | rfl | simp [am_gd, Cond.onTables, Cond.keeps, Cond.steady]) (by simp)) (am_w_use hts g3 (by first | rfl | simp [am_gd, Cond.onTables, Cond.keeps, Cond.steady]) (by simp)) (am_w_use hts g4 (by first | rfl | simp [am_gd, Cond.onTables, Cond.keeps, Cond.steady]) (by simp)) (am_w_use hts g5 (by first | rfl | simp [am_gd, Cond.onTables, Cond.keeps, Cond.steady]) (by simp)) (am_n_use hnw g6 rfl) rfl (by assumption) c2 c3 hf (Nat.le_trans (by decide) hlo) hd hr1 hr2 k
          · cases hxs
        · cases hxs
      · cases hxs
    · cases hok
  · -- lcmp: Math.max
    simp only [am_ok] at hok
    split at hok
    · simp only [decide_eq_true_eq] at hok
      obtain ⟨hn, rfl, g1, g2, g3, g4⟩ := hok
      split at hxs
      · split at hxs
        · rename_i hcc
          cases hxs
          rw [hn] at k
          exact am_r_max hx hb hml hown (am_w_use hts g1 (by first | rfl | simp [am_gd, Cond.onTables, Cond.keeps, Cond.steady]) (by simp)) (am_w_use hts g2 (by first | rfl | simp [am_gd, Cond.onTables, Cond.keeps, Cond.steady]) (by simp)) (am_w_use hts g3 (by first | rfl | simp [am_gd, Cond.onTables, Cond.keeps, Cond.steady]) (by simp)) (am_w_use hts g4 (by first | rfl | simp [am_gd, Cond.onTables, Cond.keeps, Cond.steady]) (by simp)) hcc hf (Nat.le_trans (by decide) hlo) hr1 hr2 hd k
        · cases hxs
      · cases hxs
    · cases hok
  · -- nop: Object's constructor
    simp only [am_ok] at hok
    split at hok
    · simp only [decide_eq_true_eq] at hok
      obtain ⟨hn, rfl, g1, g2, g3⟩ := hok
      split at hxs
      · split at hxs
        · rename_i hcc
          cases hxs
          rw [hn] at k
          exact am_r_obj hx hb hml hown (am_w_use hts g1 (by first | rfl | simp [am_gd, Cond.onTables, Cond.keeps, Cond.steady]) (by simp)) (am_w_use hts g2 (by first | rfl | simp [am_gd, Cond.onTables, Cond.keeps, Cond.steady]) (by simp)) (am_w_use hts g3 (by first | rfl | simp [am_gd, Cond.onTables, Cond.keeps, Cond.steady]) (by simp)) hcc hf (Nat.le_trans (by decide) hlo) hd k
        · cases hxs
      · cases hxs
    · cases hok
  · cases hxs
end AMP
