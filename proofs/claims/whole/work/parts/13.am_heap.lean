/-! AM against the machine: the rows that read and write the heap -/
theorem am_ac_set (cA : ClassId) (ws : List Value) (j : Nat) (x : Value) : (am_ac cA ws).setSlot j x = am_ac cA (ws.set j x) := by
  simp [am_ac, Cell.setSlot]
theorem am_arr {G : am_G} {h : am_Hp} {s : State} {H : Heap} {a : Nat} {ty : FieldType} {vs : List Value} (hH : am_H G h s H) (hK : am_Kn G s) (ha : h[a]? = some (.inr (ty, vs))) :
    ∃ cell : Cell, H[am_ad G a]? = some cell ∧ s.isArrayOf cell ty ∧ cell.vm ≠ .unknown ∧ cell.slots.size = vs.length ∧ (∀ (j : Nat) (v : Value), vs[j]? = some v → cell.slots[j]? = some (am_v G v)) ∧ (∀ v ∈ vs, fits ty v = true) ∧ (a ≠ 0 → ty ∈ G.2.2.1 ∧ cell = am_ac (G.1.2.2 ty) (vs.map (am_v G))) := by
  have key : ∀ cell : Cell, cell.slots.toList = vs.map (am_v G) → cell.slots.size = vs.length ∧ ∀ (j : Nat) (v : Value), vs[j]? = some v → cell.slots[j]? = some (am_v G v) := by
    intro cell hc
    refine ⟨by rw [← Array.length_toList, hc, List.length_map], fun j v hv => ?_⟩
    rw [← Array.getElem?_toList, hc, List.getElem?_map, hv]
    rfl
  obtain ⟨hf, h1⟩ := hH.2.2.2 a _ ha
  rcases h1 with ⟨h0, cell, h2, h3, h4, h5⟩ | ⟨h0, h2, h3⟩
  · obtain ⟨k1, k2⟩ := key cell h5
    exact ⟨cell, h2, h3, h4, k1, k2, hf, fun z => absurd h0 z⟩
  · obtain ⟨k1, k2⟩ := key (am_ac (G.1.2.2 ty) (vs.map (am_v G))) rfl
    exact ⟨_, h3, (hK.2 ty h2).1 0 (fun _ => .null), fun z => (by cases z), k1, k2, hf, fun _ => ⟨h2, rfl⟩⟩
theorem am_store {G : am_G} {h : am_Hp} {s : State} {H H' : Heap} {a j : Nat} {ty : FieldType} {vs : List Value} {x : Value} (hH : am_H G h s H) (ha : h[a]? = some (.inr (ty, vs))) (h0 : a ≠ 0) (hty : ty ∈ G.2.2.1) (hx : fits ty x = true) (hf : ∀ v ∈ vs, fits ty v = true)
    (hc : H'[am_ad G a]? = some ((am_ac (G.1.2.2 ty) (vs.map (am_v G))).setSlot j (am_v G x))) (hs : H'.size = H.size) (ho : ∀ q : Nat, q ≠ am_ad G a → H'[q]? = H[q]?) : am_H G (h.set a (.inr (ty, vs.set j x))) s H' := by
  refine am_H_set hH ha ⟨fun v hv => ?_, Or.inr ⟨h0, hty, ?_⟩⟩ hs ho
  · rcases List.mem_or_eq_of_mem_set hv with q | q
    · exact hf v q
    · rw [q]; exact hx
  · rw [hc, am_ac_set, List.map_set]
theorem am_locs {G : am_G} {locs : List Loc} {a k : Nat} (hL : ∀ q ∈ locs, G.2.2.2.2 ≤ q.base) (h0 : a ≠ 0) : ∀ q ∈ locs ++ [⟨am_ad G a, k⟩], G.2.2.2.2 ≤ q.base := by
  intro q hq
  rcases List.mem_append.mp hq with h | h
  · exact hL q h
  · rw [List.mem_singleton.mp h]
    exact am_ad_base h0
section AMH
variable {p : Program} {l : Launch} {e : Env} {R : Room} {s : State} {m : MethodId} {args : Array Value} {below : List Frame} {meth : Method} {c : Code} {Q : State → Prop} {cc : ByteArray} {G : am_G} {n0 s0 : Nat}
variable {pc : Nat} {lo : am_Lo} {st : List Value} {h : am_Hp}
theorem am_r_get {own ref C : String} {F : u_T} {N ci idx k a : Nat} {fs : List Value} {v : Value} {Ts : List Jvm.Cond} (hx : p.tables.exec = Jvm.exec) (hb : c.code = cc) (hts : ∀ w ∈ Ts, w.before args s = true) (hin : ∀ w ∈ u_ws C F N, w ∈ Ts) (hown : s.vm.findClass own = some m.cls) (hK : am_Kn G s) (hc : G.2.1[ci]? = some (C, F, N)) (hk : k < N)
    (hlink : (Cond.fieldLink own idx ref (F k).2.1 (F k).2.2.1).before args s = true ∨ ∃ host, (Cond.fieldLinkNest own idx ref (F k).2.1 (F k).2.2.1 host).before args s = true)
    (hsame : ∀ x, s.fieldFound? (F k).1 (F k).2.1 (F k).2.2.1 = some x → s.fieldFound? ref (F k).2.1 (F k).2.2.1 = some x) (ha : h[a]? = some (.inl (ci, fs))) (hv : fs[k]? = some v) (hd : decode cc pc = .ok (.getfield idx, 3))
    (kk : am_W p l e R s m args below meth c Q G n0 s0 (pc + 3) lo (v :: st) h) : am_W p l e R s m args below meth c Q G n0 s0 pc lo (.ref a :: st) h := by
  intro h1 h2 H locs ls hH hL hl
  have kk := kk h1 h2 H locs ls hH hL hl
  obtain ⟨ha0, r, q0, qn, cell, q1, q2, q3, q4⟩ := hH.2.2.2 a _ ha
  have hr : r = (C, F, N) := Option.some.inj (q0.symm.trans hc)
  subst hr
  obtain ⟨hS, hfc, kC, hkC, hkind⟩ := hK.1 ci _ hc
  obtain ⟨cf, kf, fi, f, hi, hsl⟩ := hS k hk
  have hval : cell.slots[f.slot]? = some (am_v G v) := by
    rw [hsl, q4 k hk]
    simp [vp_V, hv]
  have hkn : cell.vm ≠ .unknown := by rw [q3]; exact fun z => by cases z
  have hst := (u_facts hfc hkC (u_lays hts hin hk) hi).1
  rcases hlink with hlink | ⟨host, hlink⟩
  · exact W.getf hx hb hown hlink (hsame _ hi) hst q1 hkn hval rfl rfl hd kk
  · exact va_Wgetf hx hb hown hlink (hsame _ hi) hst q1 hkn hval rfl rfl hd kk
theorem am_r_put {own ref C : String} {F : u_T} {N ci idx k a : Nat} {fs : List Value} {v : Value} {ty : FieldType} {ty0 : Nat → FieldType} {Ts : List Jvm.Cond} (hx : p.tables.exec = Jvm.exec) (hb : c.code = cc) (hts : ∀ w ∈ Ts, w.before args s = true) (hin : ∀ w ∈ u_ws C F N, w ∈ Ts) (hty : ∀ k, k < N → parseFieldDescriptor (F k).2.2.1 = some (ty0 k)) (hnm : ∀ a, a < N → ∀ b, b < N → a ≠ b → (F a).2.1 ≠ (F b).2.1)
    (hown : s.vm.findClass own = some m.cls) (hK : am_Kn G s) (hc : G.2.1[ci]? = some (C, F, N)) (hk : k < N) (hlink : (Cond.fieldLink own idx ref (F k).2.1 (F k).2.2.1).before args s = true)
    (hsame : ∀ x, s.fieldFound? (F k).1 (F k).2.1 (F k).2.2.1 = some x → s.fieldFound? ref (F k).2.1 (F k).2.2.1 = some x) (hfin : (F k).2.2.2 = false ∨ ((F k).2.2.2 = true ∧ meth.name = "<init>" ∧ (F k).1 = own))
    (hd0 : ty0 k = ty) (hfit : am_fit ty v = true) (ha : h[a]? = some (.inl (ci, fs))) (hl0 : k < fs.length) (hd : decode cc pc = .ok (.putfield idx, 3))
    (kk : am_W p l e R s m args below meth c Q G n0 s0 (pc + 3) lo st (h.set a (.inl (ci, fs.set k v)))) : am_W p l e R s m args below meth c Q G n0 s0 pc lo (v :: .ref a :: st) h := by
  intro h1 h2 H locs ls hH hL hl
  have hsl : am_sl (h.set a (.inl (ci, fs.set k v))) = am_sl h := am_sl_set ha (by simp [am_sz])
  have kk := kk (by rw [List.length_set]; exact h1) (by rw [hsl]; exact h2)
  rw [List.length_set, hsl] at kk
  obtain ⟨ha0, r, q0, qn, cell, q1, q2, q3, q4⟩ := hH.2.2.2 a _ ha
  have hr : r = (C, F, N) := Option.some.inj (q0.symm.trans hc)
  subst hr
  obtain ⟨hS, hfc, kC, hkC, hkind⟩ := hK.1 ci _ hc
  obtain ⟨cf, kf, fi, f, hi, hsl⟩ := hS k hk
  have hst := (u_facts hfc hkC (u_lays hts hin hk) hi).1
  obtain ⟨hn, hft⟩ := am_fit_ok hfit G
  have hdt : parseFieldDescriptor (F k).2.2.1 = some ty := by rw [hty k hk, hd0]
  have hap : ∀ x y, x < N → y < N → x ≠ y → (G.1.2.1 ci) x ≠ (G.1.2.1 ci) y := by
    intro x y hx hy hne
    obtain ⟨_, _, _, fa, hia, ea⟩ := hS x hx
    obtain ⟨_, _, _, fb, hib, eb⟩ := hS y hy
    rw [← ea, ← eb]
    refine u_apart (u_lays hts hin hx) (u_lays hts hin hy) hia hib ?_
    rw [(State.fieldFound?_type hia (hty x hx)).1, (State.fieldFound?_type hib (hty y hy)).1]
    exact hnm x hx y hy hne
  have fin : ∀ H' : Heap, H'[am_ad G a]? = some (cell.setSlot f.slot (am_v G v)) → H'.size = H.size → (∀ q, q ≠ am_ad G a → H'[q]? = H[q]?) → am_H G (h.set a (.inl (ci, fs.set k v))) s H' := by
    intro H' e1 e2 e3
    rw [hsl] at e1
    refine am_H_set hH ha ⟨ha0, _, hc, by rw [List.length_set]; exact qn, ?_⟩ e2 e3
    refine t_OB.to (V := updV (vp_V (fs.map (am_v G))) k (am_v G v)) ⟨_, e1, q2, q3, t_set q4 hap hk (am_v G v)⟩ (fun j _ => ?_)
    rw [List.map_set]
    exact vp_updV_set (by rw [List.length_map]; exact hl0) (am_v G v) j
  have hlay := hts _ (hin _ (u_in_lay hk))
  unfold u_lay at hlay
  rcases hfin with hfin | ⟨hfin, hmn, hdecl⟩
  · rw [if_neg (by rw [hfin]; decide)] at hlay
    have h6 := u_store hfc hkC hkind hlay hi hdt hn hft
    exact W.putK hx hb (f := f) ⟨hown, hlink, ⟨_, _, _, hsame _ hi⟩, hst⟩ (by rw [q2]; exact h6) q1 q3 (by rw [hsl]; exact k2_hasslot (q4 k hk)) rfl rfl hd fun H' e1 e2 e3 => kk H' _ ls (fin H' e1 e2 e3) (am_locs hL ha0) hl
  · rw [if_pos hfin] at hlay
    have hcf : m.cls = cf := by
      obtain ⟨_, _, c', _, _, _, -, -, hf', -, -, -, hown2, -⟩ := Cond.laysFinal_spec hlay
      have e1 : c' = cf := by have := hi.symm.trans hf'; simp at this; exact this.1.symm
      rw [hdecl] at hown2
      rw [← e1]; exact Option.some.inj (hown.symm.trans hown2)
    have h6 := u_fits hfc hkC hkind (Or.inr hlay) hi hdt hn hft
    exact W.putFinK hx hb hown hlink (hsame _ hi) hst hcf hmn (by rw [q2]; exact h6) q1 q3 (by rw [hsl]; exact k2_hasslot (q4 k hk)) rfl rfl hd fun H' e1 e2 e3 => kk H' _ ls (fin H' e1 e2 e3) (am_locs hL ha0) hl
theorem am_v_dflt (G : am_G) (ty : FieldType) : am_v G (defaultValue ty) = defaultValue ty := by cases ty <;> rfl
theorem am_fits_dflt (ty : FieldType) : fits ty (defaultValue ty) = true := by cases ty <;> rfl
theorem am_r_new {own C : String} {F : u_T} {N ci idx : Nat} {fs : List Value} {ty0 : Nat → FieldType} {Ts : List Jvm.Cond} (hx : p.tables.exec = Jvm.exec) (hb : c.code = cc) (hts : ∀ w ∈ Ts, w.before args s = true) (hin : ∀ w ∈ u_ws C F N, w ∈ Ts) (hty : ∀ k, k < N → parseFieldDescriptor (F k).2.2.1 = some (ty0 k))
    (hown : s.vm.findClass own = some m.cls) (hK : am_Kn G s) (hc : G.2.1[ci]? = some (C, F, N)) (hlink : (Cond.classLink own idx C).before args s = true) (hins : (Cond.instantiable C N).before args s = true) (hini : (Cond.initialized C).before args s = true)
    (hfl : fs.length = N) (hfs : ∀ k, k < N → fs[k]? = some (defaultValue (ty0 k))) (hd : decode cc pc = .ok (.new idx, 3)) (hr1 : (h ++ [(.inl (ci, fs) : am_C)]).length - n0 ≤ R.cells) (hr2 : am_sl (h ++ [(.inl (ci, fs) : am_C)]) - s0 ≤ R.slots)
    (kk : am_W p l e R s m args below meth c Q G n0 s0 (pc + 3) lo (.ref h.length :: st) (h ++ [.inl (ci, fs)])) : am_W p l e R s m args below meth c Q G n0 s0 pc lo st h := by
  intro h1 h2 H locs ls hH hL hl
  have e1 : (h ++ [(.inl (ci, fs) : am_C)]).length - n0 = (h.length - n0) + 1 := by rw [List.length_append, List.length_singleton]; omega
  have e2 : am_sl (h ++ [(.inl (ci, fs) : am_C)]) - s0 = (am_sl h - s0) + N := by
    rw [am_sl_app]
    have : am_sl [(.inl (ci, fs) : am_C)] = N := by simp [am_sl, am_sz, hfl]
    omega
  have kk := kk (by rw [List.length_append]; omega) (by rw [am_sl_app]; omega)
  rw [e1] at kk hr1
  rw [e2] at kk hr2
  obtain ⟨hS, hfc, kC0, hkC0, hkind⟩ := hK.1 ci _ hc
  refine W.newcK hx hb hown hlink hins hini rfl hd hr1 hr2 hfc rfl fun H' kC hkC g1 g2 g3 => ?_
  have hb1 : t_OB H.size (G.1.1 ci) N (G.1.2.1 ci) H' (fun k => defaultValue (ty0 k)) := u_born ty0 hts hin (hK.1 ci _ hc) hkC g1 hty
  have hnew := am_ad_new hH
  have hP : am_H G (h ++ [.inl (ci, fs)]) s H' := by
    refine am_H_push hH ⟨by have := hH.2.2.1; omega, _, hc, hfl, ?_⟩ g2 g3
    rw [hnew]
    refine hb1.to (fun k hk => ?_)
    simp [vp_V, hfs k hk, am_v_dflt]
  have kk := kk H' locs ls hP hL hl
  have e3 : ((.ref h.length :: st : List Value).map (am_v G)) = .ref H.size :: st.map (am_v G) := by
    show Value.ref (am_ad G h.length) :: _ = _
    rw [hnew]
  rw [e3] at kk
  exact kk
theorem am_ra_prim {G : am_G} {s : State} (hK : am_Kn G s) {ty : FieldType} (ht : ty ∈ G.2.2.1) {cA : ClassId} (h : s.vm.findClass ("[" ++ ty.toString) = some cA) : cA = G.1.2.2 ty := by
  have h2 := (hK.2 ty ht).2
  cases ty with
  | object C =>
    obtain ⟨_, _, _, _, _, h4⟩ := h2
    exact Option.some.inj (h.symm.trans h4)
  | _ => exact Option.some.inj (h.symm.trans h2)
/-- an array that comes -/
theorem am_H_arr {G : am_G} {h : am_Hp} {s : State} {H : Heap} {ty : FieldType} {n : Nat} {d : Value} (hH : am_H G h s H) (ht : ty ∈ G.2.2.1) (hd : fits ty d = true) (hv : am_v G d = d) : am_H G (h ++ [.inr (ty, List.replicate n d)]) s (H.push { cls := G.1.2.2 ty, slots := Array.replicate n d, vm := .none }) := by
  have hnew := am_ad_new hH
  refine am_H_push hH ⟨fun v hv => ?_, Or.inr ⟨by have := hH.2.2.1; omega, ht, ?_⟩⟩ (by rw [Array.size_push]) (fun q hq => by rw [Array.getElem?_push, if_neg (Nat.ne_of_lt hq)])
  · rw [(List.mem_replicate.mp hv).2]; exact hd
  · rw [hnew, Array.getElem?_push_size]
    simp [am_ac, hv]
theorem am_r_newa {at_ : ArrayType} {n : Int32} (hx : p.tables.exec = Jvm.exec) (hb : c.code = cc) (hK : am_Kn G s) (harr : (Cond.arrayClass (newarray.typeOf at_)).before args s = true) (ht : newarray.typeOf at_ ∈ G.2.2.1) (hd : decode cc pc = .ok (.newarray at_, 2)) (hn : ¬ n < 0) (hn2 : n.toNatClampNeg ≤ 1048576)
    (hr1 : (h ++ [(.inr (newarray.typeOf at_, List.replicate n.toNatClampNeg (defaultValue (newarray.typeOf at_))) : am_C)]).length - n0 ≤ R.cells) (hr2 : am_sl (h ++ [(.inr (newarray.typeOf at_, List.replicate n.toNatClampNeg (defaultValue (newarray.typeOf at_))) : am_C)]) - s0 ≤ R.slots)
    (kk : am_W p l e R s m args below meth c Q G n0 s0 (pc + 2) lo (.ref h.length :: st) (h ++ [.inr (newarray.typeOf at_, List.replicate n.toNatClampNeg (defaultValue (newarray.typeOf at_)))])) : am_W p l e R s m args below meth c Q G n0 s0 pc lo (.int n :: st) h := by
  intro h1 h2 H locs ls hH hL hl
  generalize hc : (.inr (newarray.typeOf at_, List.replicate n.toNatClampNeg (defaultValue (newarray.typeOf at_))) : am_C) = cell at *
  have hz : am_sl [cell] = n.toNatClampNeg := by rw [← hc]; simp [am_sl, am_sz]
  have e1 : (h ++ [cell]).length - n0 = (h.length - n0) + 1 := by rw [List.length_append, List.length_singleton]; omega
  have e2 : am_sl (h ++ [cell]) - s0 = (am_sl h - s0) + n.toNatClampNeg := by rw [am_sl_app]; omega
  have kk := kk (by rw [List.length_append]; omega) (by rw [am_sl_app]; omega)
  rw [e1] at kk hr1
  rw [e2] at kk hr2
  have hbytes : n.toNatClampNeg * componentBytes (newarray.typeOf at_) ≤ 536870912 := by
    have : componentBytes (newarray.typeOf at_) ≤ 8 := by cases at_ <;> decide
    calc n.toNatClampNeg * componentBytes (newarray.typeOf at_) ≤ 1048576 * 8 := Nat.mul_le_mul hn2 this
      _ ≤ 536870912 := by decide
  refine W.newa hx hb harr rfl hd rfl hn hbytes hr1 hr2 fun cA kA comp f1 f2 f3 => ?_
  have hcA := am_ra_prim hK ht f1
  subst hcA
  have hP := am_H_arr (n := n.toNatClampNeg) hH ht (am_fits_dflt _) (am_v_dflt G _)
  rw [hc] at hP
  have kk := kk _ locs ls hP hL hl
  have e3 : ((.ref h.length :: st : List Value).map (am_v G)) = .ref H.size :: st.map (am_v G) := by
    show Value.ref (am_ad G h.length) :: _ = _
    rw [am_ad_new hH]
  rw [e3] at kk
  exact kk
theorem am_r_anew {own C : String} {idx : Nat} {n : Int32} (hx : p.tables.exec = Jvm.exec) (hb : c.code = cc) (hown : s.vm.findClass own = some m.cls) (hK : am_Kn G s) (hlink : (Cond.classLink own idx C).before args s = true) (hover : (Cond.arrayOver (.object C)).before args s = true) (ht : .object C ∈ G.2.2.1) (hd : decode cc pc = .ok (.anewarray idx, 3)) (hn : ¬ n < 0) (hn2 : n.toNatClampNeg ≤ 65536)
    (hr1 : (h ++ [(.inr (.object C, List.replicate n.toNatClampNeg .null) : am_C)]).length - n0 ≤ R.cells) (hr2 : am_sl (h ++ [(.inr (.object C, List.replicate n.toNatClampNeg .null) : am_C)]) - s0 ≤ R.slots)
    (kk : am_W p l e R s m args below meth c Q G n0 s0 (pc + 3) lo (.ref h.length :: st) (h ++ [.inr (.object C, List.replicate n.toNatClampNeg .null)])) : am_W p l e R s m args below meth c Q G n0 s0 pc lo (.int n :: st) h := by
  intro h1 h2 H locs ls hH hL hl
  generalize hc : (.inr (.object C, List.replicate n.toNatClampNeg .null) : am_C) = cell at *
  have hz : am_sl [cell] = n.toNatClampNeg := by rw [← hc]; simp [am_sl, am_sz]
  have e1 : (h ++ [cell]).length - n0 = (h.length - n0) + 1 := by rw [List.length_append, List.length_singleton]; omega
  have e2 : am_sl (h ++ [cell]) - s0 = (am_sl h - s0) + n.toNatClampNeg := by rw [am_sl_app]; omega
  have kk := kk (by rw [List.length_append]; omega) (by rw [am_sl_app]; omega)
  rw [e1] at kk hr1
  rw [e2] at kk hr2
  refine W.anew hx hb hown hlink hover rfl hd rfl hn (by omega) hr1 hr2 fun cA kA comp f1 f2 f3 f4 => ?_
  have hcA := am_ra_prim hK ht f1
  subst hcA
  have hP := am_H_arr (n := n.toNatClampNeg) hH ht (d := .null) rfl rfl
  rw [hc] at hP
  have kk := kk _ locs ls hP hL hl
  have e3 : ((.ref h.length :: st : List Value).map (am_v G)) = .ref H.size :: st.map (am_v G) := by
    show Value.ref (am_ad G h.length) :: _ = _
    rw [am_ad_new hH]
  rw [e3] at kk
  exact kk
theorem am_r_alen {a : Nat} {ty : FieldType} {vs : List Value} (hx : p.tables.exec = Jvm.exec) (hb : c.code = cc) (hK : am_Kn G s) (ha : h[a]? = some (.inr (ty, vs))) (hd : decode cc pc = .ok (.arraylength, 1))
    (k : am_W p l e R s m args below meth c Q G n0 s0 (pc + 1) lo (.int (Int32.ofNat vs.length) :: st) h) : am_W p l e R s m args below meth c Q G n0 s0 pc lo (.ref a :: st) h := by
  intro h1 h2 H locs ls hH hL hl
  obtain ⟨cell, q1, q2, q3, q4, -⟩ := am_arr hH hK ha
  exact W.alen (n := Int32.ofNat vs.length) hx hb q1 q2 (by rw [q4]) rfl rfl hd (k h1 h2 H locs ls hH hL hl)
theorem am_r_ald {i : Instr} {j : Int32} {a : Nat} {ty : FieldType} {vs : List Value} {v : Value} (hx : p.tables.exec = Jvm.exec) (hb : c.code = cc) (hK : am_Kn G s) (hd : decode cc pc = .ok (i, 1)) (hi : am_ldt i ty = true) (hj : ¬ j < 0) (ha : h[a]? = some (.inr (ty, vs))) (hv : vs[j.toNatClampNeg]? = some v)
    (k : am_W p l e R s m args below meth c Q G n0 s0 (pc + 1) lo (v :: st) h) : am_W p l e R s m args below meth c Q G n0 s0 pc lo (.int j :: .ref a :: st) h := by
  intro h1 h2 H locs ls hH hL hl
  have k := k h1 h2 H locs ls hH hL hl
  obtain ⟨cell, q1, q2, q3, q4, q5, -⟩ := am_arr hH hK ha
  have hlt := (List.getElem?_eq_some_iff.mp hv).1
  have hin : ¬ (j < 0 ∨ cell.slots.size ≤ j.toNatClampNeg) := by rw [q4]; rintro (z | z); exact hj z; omega
  have hval := q5 _ _ hv
  unfold am_ldt at hi
  split at hi
  · exact W.iald hx hb q1 q2 q3 hin hval rfl rfl hd k
  · exact W.zald hx hb q1 q2 q3 hin hval rfl rfl hd k
  · exact W.aald hx hb q1 q2 rfl q3 hin hval rfl rfl hd k
  · exact W.aald hx hb q1 q2 rfl q3 hin hval rfl rfl hd k
  · cases hi
theorem am_r_iast {j x : Int32} {a : Nat} {vs : List Value} (hx : p.tables.exec = Jvm.exec) (hb : c.code = cc) (hK : am_Kn G s) (hd : decode cc pc = .ok (.iastore, 1)) (hj : ¬ j < 0) (hlt : j.toNatClampNeg < vs.length) (h0 : a ≠ 0) (ha : h[a]? = some (.inr (.int, vs)))
    (k : am_W p l e R s m args below meth c Q G n0 s0 (pc + 1) lo st (h.set a (.inr (.int, vs.set j.toNatClampNeg (.int x))))) : am_W p l e R s m args below meth c Q G n0 s0 pc lo (.int x :: .int j :: .ref a :: st) h := by
  intro h1 h2 H locs ls hH hL hl
  have hsl : am_sl (h.set a (.inr (.int, vs.set j.toNatClampNeg (.int x)))) = am_sl h := am_sl_set ha (by simp [am_sz])
  have k := k (by rw [List.length_set]; exact h1) (by rw [hsl]; exact h2)
  rw [List.length_set, hsl] at k
  obtain ⟨cell, q1, q2, q3, q4, q5, q6, q7⟩ := am_arr hH hK ha
  obtain ⟨q8, q9⟩ := q7 h0
  have hin : ¬ (j < 0 ∨ cell.slots.size ≤ j.toNatClampNeg) := by rw [q4]; rintro (z | z); exact hj z; omega
  refine W.iast hx hb q1 q2 q3 hin rfl rfl hd fun H' e1 e2 e3 => k H' _ ls (am_store (x := .int x) hH ha h0 q8 rfl q6 ?_ e2 e3) (am_locs hL h0) hl
  rw [e1, q9]; rfl
theorem am_r_zast {j x : Int32} {a : Nat} {vs : List Value} (hx : p.tables.exec = Jvm.exec) (hb : c.code = cc) (hK : am_Kn G s) (hd : decode cc pc = .ok (.bastore, 1)) (hj : ¬ j < 0) (hlt : j.toNatClampNeg < vs.length) (h0 : a ≠ 0) (hfit : am_fit .boolean (.int x) = true) (ha : h[a]? = some (.inr (.boolean, vs)))
    (k : am_W p l e R s m args below meth c Q G n0 s0 (pc + 1) lo st (h.set a (.inr (.boolean, vs.set j.toNatClampNeg (.int x))))) : am_W p l e R s m args below meth c Q G n0 s0 pc lo (.int x :: .int j :: .ref a :: st) h := by
  intro h1 h2 H locs ls hH hL hl
  have hsl : am_sl (h.set a (.inr (.boolean, vs.set j.toNatClampNeg (.int x)))) = am_sl h := am_sl_set ha (by simp [am_sz])
  have k := k (by rw [List.length_set]; exact h1) (by rw [hsl]; exact h2)
  rw [List.length_set, hsl] at k
  obtain ⟨cell, q1, q2, q3, q4, q5, q6, q7⟩ := am_arr hH hK ha
  obtain ⟨q8, q9⟩ := q7 h0
  have hin : ¬ (j < 0 ∨ cell.slots.size ≤ j.toNatClampNeg) := by rw [q4]; rintro (z | z); exact hj z; omega
  have hnar : narrow .boolean (.int x) = .int x := (am_fit_ok hfit G).1
  refine W.zast hx hb q1 q2 q3 hin rfl rfl hd fun H' e1 e2 e3 => k H' _ ls (am_store (x := .int x) hH ha h0 q8 (am_fit_fits hfit) q6 ?_ e2 e3) (am_locs hL h0) hl
  rw [e1, q9]
  show some ((am_ac _ _).setSlot _ (narrow .boolean (.int x))) = _
  rw [hnar]; rfl
theorem am_r_aastN {C : String} {j : Int32} {a : Nat} {vs : List Value} (hx : p.tables.exec = Jvm.exec) (hb : c.code = cc) (hK : am_Kn G s) (hd : decode cc pc = .ok (.aastore, 1)) (hj : ¬ j < 0) (hlt : j.toNatClampNeg < vs.length) (h0 : a ≠ 0) (ha : h[a]? = some (.inr (.object C, vs)))
    (k : am_W p l e R s m args below meth c Q G n0 s0 (pc + 1) lo st (h.set a (.inr (.object C, vs.set j.toNatClampNeg .null)))) : am_W p l e R s m args below meth c Q G n0 s0 pc lo (.null :: .int j :: .ref a :: st) h := by
  intro h1 h2 H locs ls hH hL hl
  have hsl : am_sl (h.set a (.inr (.object C, vs.set j.toNatClampNeg .null))) = am_sl h := am_sl_set ha (by simp [am_sz])
  have k := k (by rw [List.length_set]; exact h1) (by rw [hsl]; exact h2)
  rw [List.length_set, hsl] at k
  obtain ⟨cell, q1, q2, q3, q4, q5, q6, q7⟩ := am_arr hH hK ha
  obtain ⟨q8, q9⟩ := q7 h0
  have hin : ¬ (j < 0 ∨ cell.slots.size ≤ j.toNatClampNeg) := by rw [q4]; rintro (z | z); exact hj z; omega
  refine va_WaastN hx hb q1 q2 q3 hin rfl rfl hd fun H' e1 e2 e3 => k H' _ ls (am_store (x := .null) hH ha h0 q8 rfl q6 ?_ e2 e3) (am_locs hL h0) hl
  rw [e1, q9]; rfl
theorem am_obj {G : am_G} {h : am_Hp} {s : State} {H : Heap} {a ci : Nat} {fs : List Value} {r : vw_C} (hH : am_H G h s H) (hK : am_Kn G s) (hc : G.2.1[ci]? = some r) (ha : h[a]? = some (.inl (ci, fs))) : ∃ cell : Cell, H[am_ad G a]? = some cell ∧ cell.vm.isStatics = false ∧ s.vm.findClass r.1 = some cell.cls ∧ (∀ q, cell.vm ≠ .statics q) ∧ ∃ kC : Class, s.vm.classes[cell.cls]? = some kC := by
  obtain ⟨ha0, r', q0, qn, cell, q1, q2, q3, q4⟩ := hH.2.2.2 a _ ha
  have hr : r' = r := Option.some.inj (q0.symm.trans hc)
  subst hr
  obtain ⟨hS, hfc, kC, hkC, hkind⟩ := hK.1 ci _ hc
  exact ⟨cell, q1, by rw [q3]; rfl, by rw [q2]; exact hfc, by rw [q3]; exact fun q z => (by cases z), kC, by rw [q2]; exact hkC⟩
theorem am_r_aast {C : String} {r : vw_C} {j : Int32} {a q ci : Nat} {vs fs : List Value} (hx : p.tables.exec = Jvm.exec) (hb : c.code = cc) (hK : am_Kn G s) (hd : decode cc pc = .ok (.aastore, 1)) (hj : ¬ j < 0) (hlt : j.toNatClampNeg < vs.length) (h0 : a ≠ 0) (ha : h[a]? = some (.inr (.object C, vs))) (hq : h[q]? = some (.inl (ci, fs))) (hc : G.2.1[ci]? = some r)
    (hasg : ∀ comp c0 : ClassId, s.vm.findClass C = some comp → s.vm.findClass r.1 = some c0 → s.vm.assignable c0 comp = true)
    (k : am_W p l e R s m args below meth c Q G n0 s0 (pc + 1) lo st (h.set a (.inr (.object C, vs.set j.toNatClampNeg (.ref q))))) : am_W p l e R s m args below meth c Q G n0 s0 pc lo (.ref q :: .int j :: .ref a :: st) h := by
  intro h1 h2 H locs ls hH hL hl
  have hsl : am_sl (h.set a (.inr (.object C, vs.set j.toNatClampNeg (.ref q)))) = am_sl h := am_sl_set ha (by simp [am_sz])
  have k := k (by rw [List.length_set]; exact h1) (by rw [hsl]; exact h2)
  rw [List.length_set, hsl] at k
  obtain ⟨cell, q1, q2, q3, q4, q5, q6, q7⟩ := am_arr hH hK ha
  obtain ⟨q8, q9⟩ := q7 h0
  obtain ⟨cv, v1, v2, v3, v4, kv, v5⟩ := am_obj hH hK hc hq
  obtain ⟨kA, comp, f1, f2, f3, f4⟩ := (hK.2 _ q8).2
  obtain ⟨kcomp, hkcomp, -⟩ := Vm.findClass_spec f3
  have hcls : cell.cls = G.1.2.2 (.object C) := by rw [q9]; rfl
  refine W.aast hx hb (t := .object C) q1 (by rw [q9]; exact fun _ z => (by cases z)) q3 (by rw [hcls]; exact f1) f2 rfl hkcomp ⟨hj, by rw [q4]; exact hlt⟩ v1 v4 v5 (hasg comp _ f3 v3) rfl rfl hd fun H' e1 e2 e3 => k H' _ ls (am_store (x := .ref q) hH ha h0 q8 rfl q6 ?_ e2 e3) (am_locs hL h0) hl
  rw [e1, q9]; rfl
theorem am_r_instN {idx : Nat} (hx : p.tables.exec = Jvm.exec) (hb : c.code = cc) (hd : decode cc pc = .ok (.instanceof idx, 3)) (k : am_W p l e R s m args below meth c Q G n0 s0 (pc + 3) lo (.int 0 :: st) h) : am_W p l e R s m args below meth c Q G n0 s0 pc lo (.null :: st) h :=
  fun h1 h2 H locs ls hH hL hl => lv_instN hx hb hd (k h1 h2 H locs ls hH hL hl)
theorem am_r_inst {own nm : String} {r : vw_C} {idx a ci : Nat} {fs : List Value} {z : Int32} (hx : p.tables.exec = Jvm.exec) (hb : c.code = cc) (hown : s.vm.findClass own = some m.cls) (hK : am_Kn G s) (hlink : (Cond.classLink own idx nm).before args s = true) (ha : h[a]? = some (.inl (ci, fs))) (hc : G.2.1[ci]? = some r)
    (hv : (z = 1 ∧ (r.1 = nm ∨ va_Nw (.castable r.1 nm) s)) ∨ (z = 0 ∧ va_Nc r.1 nm s)) (hd : decode cc pc = .ok (.instanceof idx, 3))
    (k : am_W p l e R s m args below meth c Q G n0 s0 (pc + 3) lo (.int z :: st) h) : am_W p l e R s m args below meth c Q G n0 s0 pc lo (.ref a :: st) h := by
  intro h1 h2 H locs ls hH hL hl
  have k := k h1 h2 H locs ls hH hL hl
  obtain ⟨cv, v1, v2, v3, v4, kv, v5⟩ := am_obj hH hK hc ha
  rcases hv with ⟨rfl, hv | hv⟩ | ⟨rfl, hv⟩
  · subst hv
    exact va_instS hx hb hown hlink (hK.1 ci _ hc).2 ⟨cv, v1, v2, v3⟩ hd k
  · exact va_instY hx hb hown hlink hv ⟨cv, v1, v2, v3⟩ hd k
  · exact va_instNo hx hb hown hlink hv ⟨cv, v1, v2, v3⟩ hd k
theorem am_r_castN {idx : Nat} (hx : p.tables.exec = Jvm.exec) (hb : c.code = cc) (hd : decode cc pc = .ok (.checkcast idx, 3)) (k : am_W p l e R s m args below meth c Q G n0 s0 (pc + 3) lo (.null :: st) h) : am_W p l e R s m args below meth c Q G n0 s0 pc lo (.null :: st) h :=
  fun h1 h2 H locs ls hH hL hl => lv_castN hx hb hd (k h1 h2 H locs ls hH hL hl)
theorem am_r_cast {own nm : String} {r : vw_C} {idx a ci : Nat} {fs : List Value} (hx : p.tables.exec = Jvm.exec) (hb : c.code = cc) (hown : s.vm.findClass own = some m.cls) (hK : am_Kn G s) (hlink : (Cond.classLink own idx nm).before args s = true) (ha : h[a]? = some (.inl (ci, fs))) (hc : G.2.1[ci]? = some r)
    (hv : r.1 = nm ∨ va_Nw (.castable r.1 nm) s) (hd : decode cc pc = .ok (.checkcast idx, 3))
    (k : am_W p l e R s m args below meth c Q G n0 s0 (pc + 3) lo (.ref a :: st) h) : am_W p l e R s m args below meth c Q G n0 s0 pc lo (.ref a :: st) h := by
  intro h1 h2 H locs ls hH hL hl
  have k := k h1 h2 H locs ls hH hL hl
  obtain ⟨cv, v1, v2, v3, v4, kv, v5⟩ := am_obj hH hK hc ha
  rcases hv with hv | hv
  · subst hv
    exact va_castS hx hb hown hlink (hK.1 ci _ hc).2 ⟨cv, v1, v2, v3⟩ hd k
  · exact va_castY hx hb hown hlink hv ⟨cv, v1, v2, v3⟩ hd k
theorem am_nm {s : State} {cA : ClassId} {ty : FieldType} (h : va_RA s cA ty) : s.vm.findClass ("[" ++ ty.toString) = some cA := by
  cases ty with
  | object C =>
    obtain ⟨_, _, _, _, _, h4⟩ := h
    exact h4
  | _ => exact h
theorem am_r_castA {own nm : String} {idx a : Nat} {ty : FieldType} {vs : List Value} (hx : p.tables.exec = Jvm.exec) (hb : c.code = cc) (hown : s.vm.findClass own = some m.cls) (hK : am_Kn G s) (hlink : (Cond.classLink own idx nm).before args s = true) (ha : h[a]? = some (.inr (ty, vs))) (h0 : a ≠ 0) (hnm : "[" ++ ty.toString = nm) (hd : decode cc pc = .ok (.checkcast idx, 3))
    (k : am_W p l e R s m args below meth c Q G n0 s0 (pc + 3) lo (.ref a :: st) h) : am_W p l e R s m args below meth c Q G n0 s0 pc lo (.ref a :: st) h := by
  intro h1 h2 H locs ls hH hL hl
  have k := k h1 h2 H locs ls hH hL hl
  obtain ⟨cell, q1, q2, q3, q4, q5, q6, q7⟩ := am_arr hH hK ha
  obtain ⟨q8, q9⟩ := q7 h0
  have hfc : s.vm.findClass nm = some (G.1.2.2 ty) := by rw [← hnm]; exact am_nm (hK.2 ty q8).2
  intro T hT X
  obtain ⟨vm', X', stp⟩ := X.checkcastYes hx hown hlink (by rw [hT]; exact q1) (by rw [q9]; rfl) hfc (by rw [q9]; exact va_asg _ _) (g := F0 m pc ls (.ref (am_ad G a) :: st.map (am_v G))) rfl rfl (by rw [hb]; exact hd)
  obtain ⟨t, a1, b1⟩ := k (T.setVm vm') hT X'
  exact ⟨t, stp t a1, b1⟩
theorem am_cats {G : am_G} {st : List Value} (h : st.length ≤ 8) (hc : ∀ v ∈ st, v.category = 1) : ((st.map (am_v G)).map fun v => v.category).sum ≤ 8 := by
  have : ((st.map (am_v G)).map fun v => v.category).sum = st.length := by
    clear h
    induction st with
    | nil => rfl
    | cons v st ih =>
      simp only [List.map_cons, List.sum_cons, List.length_cons]
      rw [ih (fun w hw => hc w (List.mem_cons_of_mem _ hw)), am_v_cat, hc v List.mem_cons_self]
      omega
  omega
end AMH
