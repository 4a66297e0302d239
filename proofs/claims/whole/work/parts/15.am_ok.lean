/-! AM against the machine: what must hold of an instruction's bytes and links, as a program checks it -/
def am_isac (w : Jvm.Cond) : Bool := match w with
  | .arrayClass _ => true
  | _ => false
/-- words that hold in every state that the run comes to -/
def am_gd (w : Jvm.Cond) : Bool := (w.onTables && w.keeps) || am_isac w
/-- words that hold there too, each for a reason of its own -/
def am_nk (w : Jvm.Cond) : Bool := match w with
  | .fieldLinkNest .. => true
  | .methodLinkNest .. => true
  | .declares _ => true
  | .castable .. => true
  | .arrayOver (.object _) => true
  | .arrayOver (.array _) => true
  | .not (.castable ..) => true
  | _ => false
def am_ts (Tb : List Jvm.Cond) : List Jvm.Cond := Tb.filter am_gd
def am_Nw (Tb : List Jvm.Cond) (U : State) : Prop := ∀ w ∈ Tb, am_nk w = true → va_Nw w U
theorem am_Nw_moved {Tb : List Jvm.Cond} {s U : State} (hW : s.WarmedH U.vm) (h : am_Nw Tb s) : am_Nw Tb U := by
  intro w hw hk
  have h := h w hw hk
  unfold am_nk at hk
  split at hk
  · exact va_Nw.warmF hW h
  · exact va_Nw.warmM hW h
  · exact va_Nw.warmD hW h
  · exact va_Nw.warmC hW h
  · exact va_AO.moved hW.alike h
  · exact am_AOA_moved hW.alike h
  · rename_i C D
    have h2 := va_Nc.moved hW.alike (va_Nc.of h)
    obtain ⟨c, t, e1, e2, e3⟩ := h2
    show (Cond.not (.castable C D)).before #[] U = true
    simp [Cond.before, Cond.holds, Cond.value, e1, e2, e3]
  · cases hk
theorem am_Nw_same {Tb : List Jvm.Cond} {s U : State} (hv : s.vm = U.vm) (h : am_Nw Tb s) : am_Nw Tb U := by
  intro w hw hk
  have h := h w hw hk
  unfold am_nk at hk
  split at hk
  · exact va_Nw.same rfl hv h
  · exact va_Nw.same rfl hv h
  · exact va_Nw.same rfl hv h
  · exact va_Nw.same rfl hv h
  · exact va_AO.moved (by rw [hv]; exact Vm.Alike.refl _) h
  · exact am_AOA_moved (by rw [hv]; exact Vm.Alike.refl _) h
  · rename_i C D
    have h2 := va_Nc.moved (u := s) (U := U) (by rw [hv]; exact Vm.Alike.refl _) (va_Nc.of h)
    obtain ⟨c, t, e1, e2, e3⟩ := h2
    show (Cond.not (.castable C D)).before #[] U = true
    simp [Cond.before, Cond.holds, Cond.value, e1, e2, e3]
  · cases hk
def am_w (Tb : List Jvm.Cond) (hs : List Nat) (k : Nat) : Jvm.Cond := (Tb[(hs[k]?).getD 1000000]?).getD .tt
theorem am_w_or (Tb : List Jvm.Cond) (hs : List Nat) (k : Nat) : am_w Tb hs k ∈ Tb ∨ am_w Tb hs k = .tt := by
  unfold am_w
  cases hq : Tb[(hs[k]?).getD 1000000]? with
  | none => exact Or.inr rfl
  | some w => exact Or.inl (List.mem_of_getElem? hq)
theorem am_w_use {Tb : List Jvm.Cond} {hs : List Nat} {k : Nat} {args : Array Value} {s : State} (hts : ∀ w ∈ am_ts Tb, w.before args s = true) {w : Jvm.Cond} (h : am_w Tb hs k = w) (hg : am_gd w = true) (ht : w ≠ .tt) : w.before args s = true := by
  rcases am_w_or Tb hs k with h1 | h1
  · rw [h] at h1
    exact hts w (List.mem_filter.mpr ⟨h1, hg⟩)
  · exact absurd (h.symm.trans h1) ht
theorem am_n_use {Tb : List Jvm.Cond} {hs : List Nat} {k : Nat} {s : State} (hnw : am_Nw Tb s) {w : Jvm.Cond} (h : am_w Tb hs k = w) (hg : am_nk w = true) : va_Nw w s := by
  rcases am_w_or Tb hs k with h1 | h1
  · rw [h] at h1
    exact hnw w h1 hg
  · rw [h] at h1
    subst h1
    cases hg
/-- the classes' tables hold -/
def am_clok (Tb : List Jvm.Cond) (T : am_T) (cl : List vw_C) : Prop := (∀ (ci : Nat) (C : String) (F : u_T) (N : Nat), cl[ci]? = some (C, F, N) → (∀ w ∈ u_ws C F N, w ∈ am_ts Tb) ∧ (∀ a, a < N → ∀ b, b < N → a ≠ b → (F a).2.1 ≠ (F b).2.1) ∧ ∃ ty0 : Nat → FieldType, (∀ k, k < N → parseFieldDescriptor (F k).2.2.1 = some (ty0 k)) ∧ ∀ fs, (am_B T)[ci]? = some fs → fs.length = N ∧ ∀ k, k < N → fs[k]? = some (defaultValue (ty0 k))) ∧ ∀ (C : String) (ci : Nat), ci ∈ am_S T C → ∃ r : vw_C, cl[ci]? = some r ∧ (r.1 = C ∨ Cond.castable r.1 C ∈ Tb)
def am_fok (Tb : List Jvm.Cond) (cl : List vw_C) (hs : List Nat) (ref name desc : String) (ci k : Nat) : Bool := match cl[ci]? with
  | some (_, F, N) => decide (k < N ∧ (F k).2.1 = name ∧ (F k).2.2.1 = desc ∧ ((F k).1 = ref ∨ am_w Tb hs 1 = .sameField ref (F k).1 name desc))
  | none => false
def am_cn (cl : List vw_C) (ci : Nat) : String := ((cl[ci]?).map (fun q => q.1)).getD ""
def am_ok (Tb : List Jvm.Cond) (cl : List vw_C) (tys : List FieldType) (T : am_T) (own nm : String) (pcs : Nat → Nat) (j : Nat) (ri : Instr) (len : Nat) (hs : List Nat) (i : Instr) : Bool := match i with
  | .sipush n => decide (pcs (j + 1) = pcs j + len) && (match ri with
    | .iconst k => decide (len = 1 ∧ Int32.ofInt k = Int32.ofInt n)
    | .bipush k => decide (len = 2 ∧ (Int8.ofInt k).toInt32 = Int32.ofInt n)
    | .sipush k => decide (len = 3 ∧ (Int16.ofInt k).toInt32 = Int32.ofInt n)
    | .ldc k => decide (len = 2 ∧ am_w Tb hs 0 = .constant own k (Int32.ofInt n))
    | .ldc_w k => decide (len = 3 ∧ am_w Tb hs 0 = .constant own k (Int32.ofInt n))
    | _ => false)
  | .iload k => decide (pcs (j + 1) = pcs j + len) && (match ri with
    | .iload q => decide (q = k ∧ len = 2)
    | .iload_n f => decide (f.val = k ∧ len = 1)
    | _ => false)
  | .aload k => decide (pcs (j + 1) = pcs j + len) && (match ri with
    | .aload q => decide (q = k ∧ len = 2)
    | .aload_n f => decide (f.val = k ∧ len = 1)
    | _ => false)
  | .istore k => decide (pcs (j + 1) = pcs j + len) && (match ri with
    | .istore q => decide (q = k ∧ len = 2)
    | .istore_n f => decide (f.val = k ∧ len = 1)
    | _ => false)
  | .astore k => decide (pcs (j + 1) = pcs j + len) && (match ri with
    | .astore q => decide (q = k ∧ len = 2)
    | .astore_n f => decide (f.val = k ∧ len = 1)
    | _ => false)
  | .iinc k n => decide (pcs (j + 1) = pcs j + 3 ∧ ri = .iinc k n ∧ len = 3)
  | .if_icmp k t => (match ri with
    | .if_icmp q off => decide (pcs (j + 1) = pcs j + 3 ∧ q = k ∧ len = 3 ∧ (pcs j : Int) + off = (pcs t.toNat : Int))
    | _ => false)
  | .ifCond k t => (match ri with
    | .ifCond q off => decide (pcs (j + 1) = pcs j + 3 ∧ q = k ∧ len = 3 ∧ (pcs j : Int) + off = (pcs t.toNat : Int))
    | _ => false)
  | .if_acmp k t => (match ri with
    | .if_acmp q off => decide (pcs (j + 1) = pcs j + 3 ∧ q = k ∧ len = 3 ∧ (pcs j : Int) + off = (pcs t.toNat : Int))
    | _ => false)
  | .ifnull t => (match ri with
    | .ifnull off => decide (pcs (j + 1) = pcs j + 3 ∧ len = 3 ∧ (pcs j : Int) + off = (pcs t.toNat : Int))
    | _ => false)
  | .ifnonnull t => (match ri with
    | .ifnonnull off => decide (pcs (j + 1) = pcs j + 3 ∧ len = 3 ∧ (pcs j : Int) + off = (pcs t.toNat : Int))
    | _ => false)
  | .goto t => (match ri with
    | .goto off => decide (len = 3 ∧ (pcs j : Int) + off = (pcs t.toNat : Int))
    | _ => false)
  | .tableswitch d l u ts => (match ri with
    | .tableswitch d2 l2 u2 ts2 => decide (l2 = l ∧ u2 = u ∧ (pcs j : Int) + d2 = (pcs d.toNat : Int) ∧ ts2.toList.map (fun o => (pcs j : Int) + o) = ts.toList.map (fun t => (pcs t.toNat : Int)))
    | _ => false)
  | .lookupswitch d ps => (match ri with
    | .lookupswitch d2 ps2 => decide ((ps2.toList.zip (ps2.toList.drop 1)).all (fun (a, next) => a.1 < next.1) = true ∧ (pcs j : Int) + d2 = (pcs d.toNat : Int) ∧ ps2.toList.map (fun o => (o.1, (pcs j : Int) + o.2)) = ps.toList.map (fun t => (t.1, (pcs t.2.toNat : Int))))
    | _ => false)
  | .getfield n => (match ri, (am_F T)[n]?, am_w Tb hs 0 with
    | .getfield idx, some (cs, k, _), .fieldLink o x ref name desc => decide (pcs (j + 1) = pcs j + 3 ∧ len = 3 ∧ o = own ∧ x = idx) && cs.all (fun ci => am_fok Tb cl hs ref name desc ci k)
    | .getfield idx, some (cs, k, _), .fieldLinkNest o x ref name desc _ => decide (pcs (j + 1) = pcs j + 3 ∧ len = 3 ∧ o = own ∧ x = idx) && cs.all (fun ci => am_fok Tb cl hs ref name desc ci k)
    | _, _, _ => false)
  | .putfield n => (match ri, (am_F T)[n]?, am_w Tb hs 0 with
    | .putfield idx, some (cs, k, ty), .fieldLink o x ref name desc => decide (pcs (j + 1) = pcs j + 3 ∧ len = 3 ∧ o = own ∧ x = idx ∧ parseFieldDescriptor desc = some ty) && cs.all (fun ci => am_fok Tb cl hs ref name desc ci k && (match cl[ci]? with
      | some (_, F, _) => decide ((F k).2.2.2 = false ∨ ((F k).2.2.2 = true ∧ nm = "<init>" ∧ (F k).1 = own))
      | none => false))
    | _, _, _ => false)
  | .new ci => (match ri, cl[ci]? with
    | .new idx, some (C, _, N) => decide (pcs (j + 1) = pcs j + 3 ∧ len = 3 ∧ am_w Tb hs 0 = .classLink own idx C ∧ am_w Tb hs 1 = .instantiable C N ∧ am_w Tb hs 2 = .initialized C)
    | _, _ => false)
  | .newarray a => decide (pcs (j + 1) = pcs j + 2 ∧ ri = .newarray a ∧ len = 2 ∧ am_w Tb hs 0 = .arrayClass (newarray.typeOf a) ∧ newarray.typeOf a ∈ tys)
  | .anewarray t => (match ri, (am_E T)[t]? with
    | .anewarray idx, some (.object C) => decide (pcs (j + 1) = pcs j + 3 ∧ len = 3 ∧ am_w Tb hs 0 = .classLink own idx C ∧ am_w Tb hs 1 = .arrayOver (.object C) ∧ .object C ∈ tys)
    | _, _ => false)
  | .multianewarray t _ => (match ri, (am_E T)[t]? with
    | .multianewarray idx 2, some ty => decide (pcs (j + 1) = pcs j + 4 ∧ len = 4 ∧ am_w Tb hs 0 = .classLink own idx ("[" ++ (FieldType.array ty).toString) ∧ am_w Tb hs 1 = .arrayOver (.array ty) ∧ am_w Tb hs 2 = .arrayClass ty ∧ ty ∈ tys ∧ .array ty ∈ tys ∧ (defaultValue ty).isDefault = true)
    | _, _ => false)
  | .instanceof t => (match ri, (am_I T)[t]?, am_w Tb hs 0 with
    | .instanceof idx, some (ys, ns, _), .classLink o x name => decide (pcs (j + 1) = pcs j + 3 ∧ len = 3 ∧ o = own ∧ x = idx) && ys.all (fun ci => decide (am_cn cl ci = name) || (List.range hs.length).any (fun q => decide (am_w Tb hs q = .castable (am_cn cl ci) name))) && ns.all (fun ci => (List.range hs.length).any (fun q => decide (am_w Tb hs q = .not (.castable (am_cn cl ci) name)))) && (ys ++ ns).all (fun ci => decide (ci < cl.length))
    | _, _, _ => false)
  | .checkcast t => (match ri, (am_I T)[t]?, am_w Tb hs 0 with
    | .checkcast idx, some (ys, _, az), .classLink o x name => decide (pcs (j + 1) = pcs j + 3 ∧ len = 3 ∧ o = own ∧ x = idx) && ys.all (fun ci => decide (am_cn cl ci = name) || (List.range hs.length).any (fun q => decide (am_w Tb hs q = .castable (am_cn cl ci) name))) && ys.all (fun ci => decide (ci < cl.length)) && (match az with
      | some ty => decide ("[" ++ ty.toString = name)
      | none => true)
    | _, _, _ => false)
  | .swap => (match ri with
    | .invokestatic idx => decide (pcs (j + 1) = pcs j + 3 ∧ len = 3 ∧ am_w Tb hs 0 = .methodLink own idx arraycopyName ∧ am_w Tb hs 1 = .native arraycopyName ∧ am_w Tb hs 2 = .static arraycopyName ∧ am_w Tb hs 3 = .initialized "java/lang/System")
    | _ => false)
  | .ldc2_w t => (match ri, (am_E T)[t]? with
    | .invokevirtual idx, some ty => decide (pcs (j + 1) = pcs j + 3 ∧ len = 3 ∧ am_w Tb hs 0 = .methodLink own idx ⟨"[" ++ ty.toString, "clone", "()Ljava/lang/Object;"⟩ ∧ am_w Tb hs 1 = .sameMethod ("[" ++ ty.toString) "java/lang/Object" "clone" "()Ljava/lang/Object;" ∧ am_w Tb hs 2 = .native ⟨"java/lang/Object", "clone", "()Ljava/lang/Object;"⟩ ∧ am_w Tb hs 3 = .instanceMethod ⟨"java/lang/Object", "clone", "()Ljava/lang/Object;"⟩ ∧ am_w Tb hs 4 = .selects ("[" ++ ty.toString) ⟨"[" ++ ty.toString, "clone", "()Ljava/lang/Object;"⟩ ⟨"java/lang/Object", "clone", "()Ljava/lang/Object;"⟩ ∧ am_w Tb hs 5 = .castable ("[" ++ ty.toString) "java/lang/Cloneable")
    | _, _ => false)
  | .lcmp => (match ri with
    | .invokestatic idx => decide (pcs (j + 1) = pcs j + 3 ∧ len = 3 ∧ am_w Tb hs 0 = .methodLink own idx Lib.Math.max.name ∧ am_w Tb hs 1 = .static Lib.Math.max.name ∧ am_w Tb hs 2 = .initialized "java/lang/Math" ∧ am_w Tb hs 3 = .code Lib.Math.max.name Lib.Math.max.code 2 (some .int))
    | _ => false)
  | .nop => (match ri with
    | .invokespecial idx => decide (pcs (j + 1) = pcs j + 3 ∧ len = 3 ∧ am_w Tb hs 0 = .methodLink own idx objectInit ∧ am_w Tb hs 1 = .instanceMethod objectInit ∧ am_w Tb hs 2 = .code objectInit ⟨#[0xb1]⟩ 1 none)
    | _ => false)
  | .aconst_null | .dup | .pop | .dup_x1 | .dup_x2 | .dup2 | .iadd | .isub | .imul | .iand | .ior | .ixor | .idiv | .irem | .ishl | .ishr | .iushr | .ineg | .arraylength | .iaload | .baload | .aaload | .iastore | .bastore | .aastore => decide (pcs (j + 1) = pcs j + 1 ∧ ri = i ∧ len = 1)
  | _ => false
