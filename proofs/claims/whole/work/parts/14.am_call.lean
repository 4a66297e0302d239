/-! AM against the machine: clone, arraycopy, Object's constructor, answers, calls -/
theorem am_rok_cats {G : am_G} {r : List Value} (h : am_rok r = true) : ((r.map (am_v G)).map fun v => v.category).sum ≤ 8 := by
  unfold am_rok at h
  rw [Bool.and_eq_true, List.all_eq_true] at h
  exact am_cats (of_decide_eq_true h.1) (fun v hv => of_decide_eq_true (h.2 v hv))
section AMC
variable {p : Program} {l : Launch} {e : Env} {R : Room} {s : State} {m : MethodId} {args : Array Value} {below : List Frame} {meth : Method} {c : Code} {Q : State → Prop} {cc : ByteArray} {G : am_G} {n0 s0 : Nat}
variable {pc : Nat} {lo : am_Lo} {st : List Value} {h : am_Hp}
theorem am_r_obj {own : String} {idx a : Nat} (hx : p.tables.exec = Jvm.exec) (hb : c.code = cc) (hml : c.maxLocals = lo.length) (hown : s.vm.findClass own = some m.cls) (hlink : (Cond.methodLink own idx objectInit).before args s = true) (hinst : (Cond.instanceMethod objectInit).before args s = true) (hcode : (Cond.code objectInit ⟨#[0xb1]⟩ 1 none).before args s = true)
    (hr : am_rok st = true) (hf : 1 ≤ R.frames) (hlo : 20 ≤ R.locals) (hd : decode cc pc = .ok (.invokespecial idx, 3)) (k : am_W p l e R s m args below meth c Q G n0 s0 (pc + 3) lo st h) : am_W p l e R s m args below meth c Q G n0 s0 pc lo (.ref a :: st) h := by
  intro h1 h2 H locs ls hH hL hl
  have k := k h1 h2 H locs ls hH hL hl
  have hc := am_rok_cats (G := G) hr
  exact W.objInit hx hb hown hlink hinst hcode rfl (by rw [hml]; exact hl.1) rfl hd hf (by show 2 * 0 + _ + 12 ≤ _; omega) k
theorem am_r_max {own : String} {idx : Nat} {x y : Int32} (hx : p.tables.exec = Jvm.exec) (hb : c.code = cc) (hml : c.maxLocals = lo.length) (hown : s.vm.findClass own = some m.cls) (hlink : (Cond.methodLink own idx Lib.Math.max.name).before args s = true) (hstat : (Cond.static Lib.Math.max.name).before args s = true) (hini : (Cond.initialized "java/lang/Math").before args s = true) (hcode : (Cond.code Lib.Math.max.name Lib.Math.max.code 2 (some .int)).before args s = true)
    (hr : am_rok st = true) (hf : 1 ≤ R.frames) (hlo : 21 ≤ R.locals) (hr1 : h.length - n0 ≤ R.cells) (hr2 : am_sl h - s0 ≤ R.slots) (hd : decode cc pc = .ok (.invokestatic idx, 3)) (k : am_W p l e R s m args below meth c Q G n0 s0 (pc + 3) lo (.int (if x < y then y else x) :: st) h) : am_W p l e R s m args below meth c Q G n0 s0 pc lo (.int y :: .int x :: st) h := by
  intro h1 h2 H locs ls hH hL hl
  have k := k h1 h2 H locs ls hH hL hl
  have hc := am_rok_cats (G := G) hr
  exact va_mmax hx hb (by rw [hml, hl.1]) hown hlink hstat hini hcode hf (by omega) hr1 hr2 hd k
theorem am_r_clone {own ad : String} {idx a : Nat} {ty : FieldType} {vs : List Value} (hx : p.tables.exec = Jvm.exec) (hb : c.code = cc) (hml : c.maxLocals = lo.length) (hown : s.vm.findClass own = some m.cls) (hK : am_Kn G s)
    (hlink : (Cond.methodLink own idx ⟨ad, "clone", "()Ljava/lang/Object;"⟩).before args s = true) (hsame : (Cond.sameMethod ad "java/lang/Object" "clone" "()Ljava/lang/Object;").before args s = true)
    (hnat : (Cond.native ⟨"java/lang/Object", "clone", "()Ljava/lang/Object;"⟩).before args s = true) (hinst : (Cond.instanceMethod ⟨"java/lang/Object", "clone", "()Ljava/lang/Object;"⟩).before args s = true)
    (hsel : (Cond.selects ad ⟨ad, "clone", "()Ljava/lang/Object;"⟩ ⟨"java/lang/Object", "clone", "()Ljava/lang/Object;"⟩).before args s = true) (hcl : va_Nw (.castable ad "java/lang/Cloneable") s)
    (hnm : "[" ++ ty.toString = ad) (ha : h[a]? = some (.inr (ty, vs))) (h0 : a ≠ 0) (hr : am_rok st = true) (hf : 1 ≤ R.frames) (hlo : 22 ≤ R.locals) (hd : decode cc pc = .ok (.invokevirtual idx, 3))
    (hr1 : (h ++ [(.inr (ty, vs) : am_C)]).length - n0 ≤ R.cells) (hr2 : am_sl (h ++ [(.inr (ty, vs) : am_C)]) - s0 ≤ R.slots)
    (kk : am_W p l e R s m args below meth c Q G n0 s0 (pc + 3) lo (.ref h.length :: st) (h ++ [.inr (ty, vs)])) : am_W p l e R s m args below meth c Q G n0 s0 pc lo (.ref a :: st) h := by
  intro h1 h2 H locs ls hH hL hl
  have hz : am_sl [(.inr (ty, vs) : am_C)] = vs.length := by simp [am_sl, am_sz]
  have e1 : (h ++ [(.inr (ty, vs) : am_C)]).length - n0 = (h.length - n0) + 1 := by rw [List.length_append, List.length_singleton]; omega
  have e2 : am_sl (h ++ [(.inr (ty, vs) : am_C)]) - s0 = (am_sl h - s0) + vs.length := by rw [am_sl_app]; omega
  have kk := kk (by rw [List.length_append]; omega) (by rw [am_sl_app]; omega)
  rw [e1] at kk hr1
  rw [e2] at kk hr2
  have hcat := am_rok_cats (G := G) hr
  obtain ⟨cell, q1, q2, q3, q4, q5, q6, q7⟩ := am_arr hH hK ha
  obtain ⟨q8, q9⟩ := q7 h0
  subst q9
  have hfc : s.vm.findClass ad = some (G.1.2.2 ty) := by rw [← hnm]; exact am_nm (hK.2 ty q8).2
  obtain ⟨c0, t0', f1, f2, f3⟩ := Cond.castable_spec (va_Nw.use (A := args) rfl hcl)
  cases hfc.symm.trans f1
  intro T hT X
  obtain ⟨-, kA, hkA, comp, hkind⟩ := State.isArrayOf_alike X.warmed.alike q2
  obtain ⟨-, kS, hkS, compS, hkindS⟩ := q2
  obtain ⟨vm', X', stp⟩ := X.cloneArray hx hown hlink hsame hnat hinst hsel (a := am_ad G a) (cell := am_ac (G.1.2.2 ty) (vs.map (am_v G))) (by rw [hT]; exact q1) (fun k z => by cases z) (fun z => by cases z) hfc f2 f3
    (fun i v hv => by
      have hfv : fits ty v = true := by
        have hv2 : (vs.map (am_v G))[i]? = some v := by
          rw [← hv]
          simp [am_ac]
        rw [List.getElem?_map] at hv2
        cases hw : vs[i]? with
        | none => rw [hw] at hv2; cases hv2
        | some w =>
          rw [hw] at hv2
          cases hv2
          rw [am_v_fits]
          exact q6 w (List.mem_of_getElem? hw)
      have hk' : T.vm.classes[G.1.2.2 ty]? = some kA := hkA
      show T.fitsSlot (G.1.2.2 ty) .none i v = true
      simpa [State.fitsSlot, State.slotType?, hk', hkind] using hfv)
    (g := F0 m pc ls (.ref (am_ad G a) :: st.map (am_v G))) rfl (by rw [hml]; exact hl.1) rfl (by rw [hb]; exact hd) hf (by show 2 * 0 + _ + 14 ≤ _; omega) hr1 (by rw [q4]; exact hr2) (hloader := Vm.clonesLoader_of_array hkS hkindS)
  have e4 : ({ cls := (am_ac (G.1.2.2 ty) (vs.map (am_v G))).cls, slots := (am_ac (G.1.2.2 ty) (vs.map (am_v G))).slots } : Cell) = am_ac (G.1.2.2 ty) (vs.map (am_v G)) := rfl
  rw [e4, q4] at X'
  rw [e4] at stp
  have hnew := am_ad_new hH
  have hP : am_H G (h ++ [.inr (ty, vs)]) s (H.push (am_ac (G.1.2.2 ty) (vs.map (am_v G)))) := by
    refine am_H_push hH ⟨q6, Or.inr ⟨by have := hH.2.2.1; omega, q8, ?_⟩⟩ (by rw [Array.size_push]) (fun q hq => by rw [Array.getElem?_push, if_neg (Nat.ne_of_lt hq)])
    rw [hnew, Array.getElem?_push_size]
  have kk := kk _ locs ls hP hL hl
  have e3 : ((.ref h.length :: st : List Value).map (am_v G)) = .ref H.size :: st.map (am_v G) := by
    show Value.ref (am_ad G h.length) :: _ = _
    rw [hnew]
  rw [e3] at kk
  obtain ⟨t, b1, b2⟩ := kk ((T.setVm vm').pushCell (am_ac (G.1.2.2 ty) (vs.map (am_v G)))) (by rw [← hT]; rfl) X'
  refine ⟨t, stp t ?_, b2⟩
  rw [hT]
  exact b1
/-- storing a run of values into a list -/
theorem am_pairs (cA : ClassId) (at_ : Nat) : ∀ (xs : List Value) (i : Nat) (ws : List Value), at_ + i + xs.length ≤ ws.length → (am_ac cA ws).storePairs at_ (xs.zipIdx i) = am_ac cA (ws.take (at_ + i) ++ xs ++ ws.drop (at_ + i + xs.length))
  | [], i, ws, _ => by
    show am_ac cA ws = _
    simp
  | x :: xs, i, ws, h => by
    rw [List.zipIdx_cons]
    show ((am_ac cA ws).setSlot (at_ + i) x).storePairs at_ (xs.zipIdx (i + 1)) = _
    rw [am_ac_set, am_pairs cA at_ xs (i + 1) (ws.set (at_ + i) x) (by rw [List.length_set]; simp only [List.length_cons] at h; omega)]
    congr 1
    have hl : at_ + i < ws.length := by simp only [List.length_cons] at h; omega
    have e1 : (ws.set (at_ + i) x).take (at_ + (i + 1)) = ws.take (at_ + i) ++ [x] := by
      rw [show at_ + (i + 1) = (at_ + i) + 1 by omega, List.take_succ, List.getElem?_set_self hl, List.take_set_of_le (Nat.le_refl _)]
      rfl
    have e2 : (ws.set (at_ + i) x).drop (at_ + (i + 1) + xs.length) = ws.drop (at_ + i + (x :: xs).length) := by
      rw [List.drop_set_of_lt (by omega)]
      simp only [List.length_cons]
      congr 1
      omega
    rw [e1, e2]
    simp
theorem am_r_copy {own : String} {idx a q : Nat} {ty : FieldType} {vs ws : List Value} {sp dp n : Int32} (hx : p.tables.exec = Jvm.exec) (hb : c.code = cc) (hml : c.maxLocals = lo.length) (hown : s.vm.findClass own = some m.cls) (hK : am_Kn G s)
    (hlink : (Cond.methodLink own idx arraycopyName).before args s = true) (hnat : (Cond.native arraycopyName).before args s = true) (hstat : (Cond.static arraycopyName).before args s = true) (hini : (Cond.initialized "java/lang/System").before args s = true)
    (hq : h[q]? = some (.inr (ty, vs))) (ha : h[a]? = some (.inr (ty, ws))) (hprim : refKind ty = false) (h0 : a ≠ 0) (h0q : q ≠ 0) (g3 : ¬ n < 0) (g2 : ¬ dp < 0) (g1 : ¬ sp < 0) (g4 : sp.toNatClampNeg + n.toNatClampNeg ≤ vs.length) (g5 : dp.toNatClampNeg + n.toNatClampNeg ≤ ws.length) (hr : am_rok st = true)
    (hf : 1 ≤ R.frames) (hlo : 8 + (nativeFrameWords "java/lang/System" "arraycopy" 5 + 11) ≤ R.locals) (hd : decode cc pc = .ok (.invokestatic idx, 3))
    (kk : am_W p l e R s m args below meth c Q G n0 s0 (pc + 3) lo st (h.set a (.inr (ty, ws.take dp.toNatClampNeg ++ (vs.drop sp.toNatClampNeg).take n.toNatClampNeg ++ ws.drop (dp.toNatClampNeg + n.toNatClampNeg))))) : am_W p l e R s m args below meth c Q G n0 s0 pc lo (.int n :: .int dp :: .ref a :: .int sp :: .ref q :: st) h := by
  intro h1 h2 H locs ls hH hL hl
  generalize hnv : ws.take dp.toNatClampNeg ++ (vs.drop sp.toNatClampNeg).take n.toNatClampNeg ++ ws.drop (dp.toNatClampNeg + n.toNatClampNeg) = nv at kk
  have hnl : nv.length = ws.length := by
    rw [← hnv]
    simp only [List.length_append, List.length_take, List.length_drop]
    omega
  have hsl : am_sl (h.set a (.inr (ty, nv))) = am_sl h := am_sl_set ha (by simp [am_sz, hnl])
  have kk := kk (by rw [List.length_set]; exact h1) (by rw [hsl]; exact h2)
  rw [List.length_set, hsl] at kk
  have hcat := am_rok_cats (G := G) hr
  obtain ⟨cs, q1, q2, q3, q4, q5, q6, q7⟩ := am_arr hH hK hq
  obtain ⟨cd, r1, r2, r3, r4, r5, r6, r7⟩ := am_arr hH hK ha
  obtain ⟨q8, q9⟩ := q7 h0q
  obtain ⟨r8, r9⟩ := r7 h0
  subst q9
  subst r9
  have nn : ∀ z : Int32, ¬ z < 0 → z.toInt = (z.toNatClampNeg : Int) := by
    intro z hz
    have hz0 : (0 : Int) ≤ z.toInt := by
      have := Int32.not_lt.mp hz
      simpa using Int32.le_iff_toInt_le.mp this
    show z.toInt = ((z.toInt.toNat : Nat) : Int)
    omega
  have hget : ∀ i, i < n.toNatClampNeg → ∃ w, vs[sp.toNatClampNeg + i]? = some w ∧ (am_ac (G.1.2.2 ty) (vs.map (am_v G))).slots.getD (sp.toNatClampNeg + i) .null = am_v G w := by
    intro i hi
    obtain ⟨w, hw⟩ : ∃ w, vs[sp.toNatClampNeg + i]? = some w := ⟨_, List.getElem?_eq_getElem (by omega)⟩
    refine ⟨w, hw, ?_⟩
    rw [Array.getD_eq_getD_getElem?, q5 _ _ hw]
    rfl
  intro T hT X
  obtain ⟨-, k0, hk0, cm0, hkk0⟩ := q2
  obtain ⟨-, k1, hk1, cm1, hkk1⟩ := r2
  obtain ⟨vm', X', step⟩ := X.arraycopy hx hown hlink hnat hstat hini (src := am_ad G q) (dst := am_ad G a) (cs := am_ac (G.1.2.2 ty) (vs.map (am_v G))) (cd := am_ac (G.1.2.2 ty) (ws.map (am_v G))) (srcPos := sp) (destPos := dp) (n := n) (by rw [hT]; exact q1) (by rw [hT]; exact r1)
    (fun _ z => by cases z) (fun _ z => by cases z) (fun z => by cases z) (fun z => by cases z) hk0 hk1 hkk0 hkk1 (by simp [hprim]) g1 g2 g3
    (by rw [nn sp g1, nn n g3, q4]; omega) (by rw [nn dp g2, nn n g3, r4]; omega)
    (fun vm₁ _ i hi => by
      obtain ⟨w, hw, e⟩ := hget i hi
      have hfw := q6 w (List.mem_of_getElem? hw)
      rw [e]
      refine ⟨by rw [am_v_fits]; exact hfw, ?_⟩
      cases w with
      | ref z => cases ty <;> first | (cases hfw; done) | (cases hprim; done)
      | _ => exact trivial)
    (g := F0 m pc ls (.int n :: .int dp :: .ref (am_ad G a) :: .int sp :: .ref (am_ad G q) :: st.map (am_v G))) rfl (by rw [hml]; exact hl.1) (rest := st.map (am_v G)) rfl (by rw [hb]; exact hd) hf (by show 2 * 0 + _ + _ ≤ _; omega)
  have e1 : copied (am_ac (G.1.2.2 ty) (vs.map (am_v G))) (am_ac (G.1.2.2 ty) (ws.map (am_v G))) sp dp n = am_ac (G.1.2.2 ty) (nv.map (am_v G)) := by
    show (am_ac _ _).storeRun dp.toNatClampNeg ((am_ac _ _).stretch sp.toNatClampNeg n.toNatClampNeg) = _
    have es : (am_ac (G.1.2.2 ty) (vs.map (am_v G))).stretch sp.toNatClampNeg n.toNatClampNeg = ((vs.drop sp.toNatClampNeg).take n.toNatClampNeg).map (am_v G) := by
      unfold Cell.stretch
      apply List.ext_getElem?
      intro i
      by_cases hi : i < n.toNatClampNeg
      · obtain ⟨w, hw, e⟩ := hget i hi
        rw [List.getElem?_map, List.getElem?_range hi, List.getElem?_map, List.getElem?_take_of_lt hi, List.getElem?_drop, hw]
        exact congrArg some e
      · rw [List.getElem?_eq_none (by rw [List.length_map, List.length_range]; omega), List.getElem?_eq_none (by rw [List.length_map, List.length_take]; omega)]
    have hlen : ((vs.drop sp.toNatClampNeg).take n.toNatClampNeg).length = n.toNatClampNeg := by
      rw [List.length_take, List.length_drop]
      omega
    rw [es, Cell.storeRun]
    have := am_pairs (G.1.2.2 ty) dp.toNatClampNeg (((vs.drop sp.toNatClampNeg).take n.toNatClampNeg).map (am_v G)) 0 (ws.map (am_v G)) (by rw [List.length_map, List.length_map, hlen]; omega)
    rw [this, ← hnv]
    congr 1
    rw [List.length_map, hlen]
    simp only [List.map_append, Nat.add_zero, List.map_take, List.map_drop]
  rw [e1] at X' step
  have hl2 : am_ad G a < H.size := (Array.getElem?_eq_some_iff.mp r1).1
  have hheap : ((T.setVm vm').setCell (am_ad G a) (am_ac (G.1.2.2 ty) (nv.map (am_v G)))).heap = H.setIfInBounds (am_ad G a) (am_ac (G.1.2.2 ty) (nv.map (am_v G))) := by rw [← hT]; rfl
  have hP : am_H G (h.set a (.inr (ty, nv))) s (H.setIfInBounds (am_ad G a) (am_ac (G.1.2.2 ty) (nv.map (am_v G)))) := by
    refine am_H_set hH ha ⟨fun v hv => ?_, Or.inr ⟨h0, r8, ?_⟩⟩ (by simp) (fun z hz => by simp [Array.getElem?_setIfInBounds, Ne.symm hz])
    · rw [← hnv] at hv
      rcases List.mem_append.mp hv with hv | hv
      · rcases List.mem_append.mp hv with hv | hv
        · exact r6 v (List.mem_of_mem_take hv)
        · exact q6 v (List.mem_of_mem_drop (List.mem_of_mem_take hv))
      · exact r6 v (List.mem_of_mem_drop hv)
    · simp [Array.getElem?_setIfInBounds, hl2]
  obtain ⟨t, a1, b1⟩ := kk _ _ ls hP (fun z hz => by
      rcases List.mem_append.mp hz with hz | hz
      · exact hL z hz
      · obtain ⟨y, -, hy⟩ := List.mem_map.mp hz
        rw [← hy]
        exact am_ad_base h0) hl _ hheap X'
  exact ⟨t, step t a1, b1⟩
/-- behind a call -/
theorem am_r_run {r : Option Value} {h' : am_Hp} {rest st0 : List Value} {H : Heap} {locs : List Loc} {ls : Array Slot} (hr : va_Run p l e R s m args below meth c H locs (h.length - n0) (am_sl h - s0) (h'.length - h.length) (am_sl h' - am_sl h) (F0 m pc ls st0) (rest.map (am_v G)) (fun _ o t => o = .returned (r.map (am_v G)) ∧ am_H G h' t t.heap) (fun q => G.2.2.2.2 ≤ q))
    (h1 : n0 ≤ h.length) (h2 : s0 ≤ am_sl h) (hm1 : h.length ≤ h'.length) (hm2 : am_sl h ≤ am_sl h') (hL : ∀ q ∈ locs, G.2.2.2.2 ≤ q.base) (hl : am_L G ls lo) (kk : am_W p l e R s m args below meth c Q G n0 s0 (pc + 3) lo (r.toList ++ rest) h') : W p l e R s m args below meth c H locs (h.length - n0) (am_sl h - s0) Q (F0 m pc ls st0) := by
  intro T hT X
  obtain ⟨v, st₀, t, T', L, e0, X', hL', e1, e2, ⟨hv, hH'⟩, go⟩ := hr T hT X
  have hv : v = r.map (am_v G) := by cases hv; rfl
  subst hv
  have hal : s.vm.Alike t.vm := by rw [← e2]; exact X'.warmed.alike
  have kk := kk (by omega) (by omega) T'.heap (locs ++ L) ls (by rw [e1]; exact am_H_moved hal.symm hH') (fun q hq => by
    rcases List.mem_append.mp hq with z | z
    · exact hL q z
    · exact hL' q z) hl
  rw [show h'.length - n0 = (h.length - n0) + (h'.length - h.length) by omega, show am_sl h' - s0 = (am_sl h - s0) + (am_sl h' - am_sl h) by omega] at kk
  have es : (r.toList ++ rest).map (am_v G) = (r.map (am_v G)).toList ++ rest.map (am_v G) := by cases r <;> simp
  rw [es] at kk
  obtain ⟨t2, a1, b1⟩ := kk T' rfl X'
  exact ⟨t2, go t2 a1, b1⟩
end AMC
