/-! (the calls of System.arraycopy, of an array's clone, of Object's constructor, of Math.max are 'swap', 'ldc2_w' with the place of its type, 'nop', 'lcmp' here) -/
/-! AM: a small abstract machine of my own. Its heap is a list of cells, its references are places in that list (place 0: the script); it runs resolved code.
    Part 11 on shows that the JVM of the kit does what AM does; all else is then said of AM alone. -/
abbrev am_C : Type := (Nat × List Value) ⊕ (FieldType × List Value)
abbrev am_Hp : Type := List am_C
abbrev am_Lo : Type := List (Option Value)
/-- the tables: fields (classes that have it, slot, type); the blank fields of a class; element types; casts (yes, no, array); calls (kind, arguments, by class); classes that an array of a class takes; methods (code, locals, answer); which cells may be written -/
abbrev am_T : Type := (List (List Nat × Nat × FieldType)) × (List (List Value)) × (List FieldType) × (List (List Nat × List Nat × Option FieldType)) × (List (Nat × Nat × List (Nat × Nat))) × (String → List Nat) × (List (List Instr × Nat × Option FieldType)) × (Nat → Bool)
abbrev am_F (T : am_T) : List (List Nat × Nat × FieldType) := T.1
abbrev am_B (T : am_T) : List (List Value) := T.2.1
abbrev am_E (T : am_T) : List FieldType := T.2.2.1
abbrev am_I (T : am_T) : List (List Nat × List Nat × Option FieldType) := T.2.2.2.1
abbrev am_K (T : am_T) : List (Nat × Nat × List (Nat × Nat)) := T.2.2.2.2.1
abbrev am_S (T : am_T) : String → List Nat := T.2.2.2.2.2.1
abbrev am_M (T : am_T) : List (List Instr × Nat × Option FieldType) := T.2.2.2.2.2.2.1
abbrev am_wr (T : am_T) : Nat → Bool := T.2.2.2.2.2.2.2
def am_sz (c : am_C) : Nat := match c with
  | .inl o => o.2.length
  | .inr a => a.2.length
def am_sl (h : am_Hp) : Nat := (h.map am_sz).sum
/-- what an instruction does to the heap: nothing; a cell becomes another; cells come -/
abbrev am_Ch : Type := Option ((Nat × am_C) ⊕ List am_C)
def am_ap (h : am_Hp) (ch : am_Ch) : am_Hp := match ch with
  | none => h
  | some (.inl (a, c)) => h.set a c
  | some (.inr cs) => h ++ cs
def am_bin (i : Instr) (x y : Int32) : Option Int32 := match i with
  | .iadd => some (x + y)
  | .isub => some (x - y)
  | .imul => some (x * y)
  | .iand => some (x &&& y)
  | .ior => some (x ||| y)
  | .ixor => some (x ^^^ y)
  | .idiv => if y = 0 then none else some (x / y)
  | .irem => if y = 0 then none else some (x - x / y * y)
  | .ishl => some (x <<< (y &&& 31))
  | .ishr => some (x >>> (y &&& 31))
  | .iushr => some (x.toUInt32 >>> (y.toUInt32 &&& Int32.toUInt32 31)).toInt32
  | _ => none
def am_cd (k : ClassFile.Cond) (x y : Int32) : Bool := match k with
  | .eq => decide (x = y)
  | .ne => decide (¬ x = y)
  | .lt => decide (x < y)
  | .ge => decide (y ≤ x)
  | .gt => decide (y < x)
  | .le => decide (x ≤ y)
/-- a value that a field or an element of this type takes as it is -/
def am_fit (ty : FieldType) (v : Value) : Bool := match ty, v with
  | .int, .int _ => true
  | .boolean, .int x => x == 0 || x == 1
  | .object _, .null => true
  | .object _, .ref _ => true
  | .array _, .null => true
  | .array _, .ref _ => true
  | _, _ => false
def am_isr (v : Value) : Bool := match v with
  | .null => true
  | .ref _ => true
  | _ => false
/-- which elements an array load, an array store reads, writes -/
def am_ldt (i : Instr) (ty : FieldType) : Bool := match i, ty with
  | .iaload, .int => true
  | .baload, .boolean => true
  | .aaload, .object _ => true
  | .aaload, .array _ => true
  | _, _ => false
/-- what may stand below a call's arguments -/
def am_rok (r : List Value) : Bool := decide (r.length ≤ 8) && r.all (fun v => decide (v.category = 1))
def am_x (T : am_T) (i : Instr) (pc : Nat) (lo : am_Lo) (st : List Value) (h : am_Hp) : Option (Nat × am_Lo × List Value × am_Ch) :=
  match i with
  | .sipush n => some (pc + 1, lo, .int (Int32.ofInt n) :: st, none)
  | .aconst_null => some (pc + 1, lo, .null :: st, none)
  | .iload k => (match lo[k]? with
    | some (some (.int x)) => some (pc + 1, lo, .int x :: st, none)
    | _ => none)
  | .aload k => (match lo[k]? with
    | some (some (.ref a)) => some (pc + 1, lo, .ref a :: st, none)
    | some (some .null) => some (pc + 1, lo, .null :: st, none)
    | _ => none)
  | .istore k => (match st with
    | .int x :: r => if k < lo.length then some (pc + 1, lo.set k (some (.int x)), r, none) else none
    | _ => none)
  | .astore k => (match st with
    | .ref a :: r => if k < lo.length then some (pc + 1, lo.set k (some (.ref a)), r, none) else none
    | .null :: r => if k < lo.length then some (pc + 1, lo.set k (some .null), r, none) else none
    | _ => none)
  | .iinc k n => (match lo[k]? with
    | some (some (.int x)) => some (pc + 1, lo.set k (some (.int (x + Int32.ofInt n))), st, none)
    | _ => none)
  | .dup => (match st with
    | v :: r => if v.category = 1 then some (pc + 1, lo, v :: v :: r, none) else none
    | _ => none)
  | .pop => (match st with
    | v :: r => if v.category = 1 then some (pc + 1, lo, r, none) else none
    | _ => none)
  | .dup_x1 => (match st with
    | v :: w :: r => if v.category = 1 ∧ w.category = 1 then some (pc + 1, lo, v :: w :: v :: r, none) else none
    | _ => none)
  | .dup_x2 => (match st with
    | v :: w :: u :: r => if v.category = 1 ∧ w.category = 1 ∧ u.category = 1 then some (pc + 1, lo, v :: w :: u :: v :: r, none) else none
    | _ => none)
  | .dup2 => (match st with
    | v :: w :: r => if v.category = 1 ∧ w.category = 1 then some (pc + 1, lo, v :: w :: v :: w :: r, none) else none
    | _ => none)
  | .iadd | .isub | .imul | .iand | .ior | .ixor | .idiv | .irem | .ishl | .ishr | .iushr => (match st with
    | .int y :: .int x :: r => (match am_bin i x y with
      | some z => some (pc + 1, lo, .int z :: r, none)
      | none => none)
    | _ => none)
  | .ineg => (match st with
    | .int x :: r => some (pc + 1, lo, .int (-x) :: r, none)
    | _ => none)
  | .if_icmp k t => (match st with
    | .int y :: .int x :: r => some (if am_cd k x y then t.toNat else pc + 1, lo, r, none)
    | _ => none)
  | .ifCond k t => (match st with
    | .int x :: r => some (if am_cd k x 0 then t.toNat else pc + 1, lo, r, none)
    | _ => none)
  | .ifnull t => (match st with
    | .null :: r => some (t.toNat, lo, r, none)
    | .ref _ :: r => some (pc + 1, lo, r, none)
    | _ => none)
  | .ifnonnull t => (match st with
    | .null :: r => some (pc + 1, lo, r, none)
    | .ref _ :: r => some (t.toNat, lo, r, none)
    | _ => none)
  | .if_acmp k t => (match st with
    | v :: w :: r => if am_isr v && am_isr w then some (if (k == .eq) == decide (w = v) then t.toNat else pc + 1, lo, r, none) else none
    | _ => none)
  | .goto t => some (t.toNat, lo, st, none)
  | .tableswitch d l u ts => (match st with
    | .int x :: r => if x.toInt < l ∨ u < x.toInt then some (d.toNat, lo, r, none) else (match ts[(x.toInt - l).toNat]? with
      | some t => some (t.toNat, lo, r, none)
      | none => none)
    | _ => none)
  | .lookupswitch d ps => (match st with
    | .int x :: r => some ((Op.lookupswitch.offset ps.toList d x.toInt).toNat, lo, r, none)
    | _ => none)
  | .getfield n => (match st with
    | .ref a :: r => (match h[a]?, (am_F T)[n]? with
      | some (.inl (ci, fs)), some (cs, k, _) => if ci ∈ cs then (match fs[k]? with
        | some v => some (pc + 1, lo, v :: r, none)
        | none => none) else none
      | _, _ => none)
    | _ => none)
  | .putfield n => (match st with
    | v :: .ref a :: r => (match h[a]?, (am_F T)[n]? with
      | some (.inl (ci, fs)), some (cs, k, ty) => if ci ∈ cs ∧ k < fs.length ∧ am_fit ty v = true ∧ am_wr T a = true then some (pc + 1, lo, r, some (.inl (a, .inl (ci, fs.set k v)))) else none
      | _, _ => none)
    | _ => none)
  | .new ci => (match (am_B T)[ci]? with
    | some fs => some (pc + 1, lo, .ref h.length :: st, some (.inr [.inl (ci, fs)]))
    | none => none)
  | .newarray at_ => (match st with
    | .int n :: r => if ¬ n < 0 ∧ n.toNatClampNeg ≤ 1048576 then some (pc + 1, lo, .ref h.length :: r, some (.inr [.inr (newarray.typeOf at_, List.replicate n.toNatClampNeg (defaultValue (newarray.typeOf at_)))])) else none
    | _ => none)
  | .anewarray t => (match st with
    | .int n :: r => (match (am_E T)[t]? with
      | some ty => if ¬ n < 0 ∧ n.toNatClampNeg ≤ 65536 then some (pc + 1, lo, .ref h.length :: r, some (.inr [.inr (ty, List.replicate n.toNatClampNeg .null)])) else none
      | none => none)
    | _ => none)
  | .multianewarray t _ => (match st with
    | .int n :: .int k :: r => (match (am_E T)[t]? with
      | some ty => if ¬ n < 0 ∧ n.toNatClampNeg ≤ 65536 ∧ ¬ k < 0 ∧ k.toNatClampNeg ≤ 4096 then some (pc + 1, lo, .ref h.length :: r, some (.inr (.inr (.array ty, (List.range k.toNatClampNeg).map (fun j => .ref (h.length + 1 + j))) :: List.replicate k.toNatClampNeg (.inr (ty, List.replicate n.toNatClampNeg (defaultValue ty)))))) else none
      | none => none)
    | _ => none)
  | .arraylength => (match st with
    | .ref a :: r => (match h[a]? with
      | some (.inr (_, vs)) => some (pc + 1, lo, .int (Int32.ofNat vs.length) :: r, none)
      | _ => none)
    | _ => none)
  | .iaload | .baload | .aaload => (match st with
    | .int j :: .ref a :: r => (match h[a]? with
      | some (.inr (ty, vs)) => if am_ldt i ty = true ∧ ¬ j < 0 then (match vs[j.toNatClampNeg]? with
        | some v => some (pc + 1, lo, v :: r, none)
        | none => none) else none
      | _ => none)
    | _ => none)
  | .iastore => (match st with
    | .int x :: .int j :: .ref a :: r => (match h[a]? with
      | some (.inr (.int, vs)) => if ¬ j < 0 ∧ j.toNatClampNeg < vs.length ∧ a ≠ 0 ∧ am_wr T a = true then some (pc + 1, lo, r, some (.inl (a, .inr (.int, vs.set j.toNatClampNeg (.int x))))) else none
      | _ => none)
    | _ => none)
  | .bastore => (match st with
    | .int x :: .int j :: .ref a :: r => (match h[a]? with
      | some (.inr (.boolean, vs)) => if ¬ j < 0 ∧ j.toNatClampNeg < vs.length ∧ a ≠ 0 ∧ am_fit .boolean (.int x) = true ∧ am_wr T a = true then some (pc + 1, lo, r, some (.inl (a, .inr (.boolean, vs.set j.toNatClampNeg (.int x))))) else none
      | _ => none)
    | _ => none)
  | .aastore => (match st with
    | .null :: .int j :: .ref a :: r => (match h[a]? with
      | some (.inr (.object C, vs)) => if ¬ j < 0 ∧ j.toNatClampNeg < vs.length ∧ a ≠ 0 ∧ am_wr T a = true then some (pc + 1, lo, r, some (.inl (a, .inr (.object C, vs.set j.toNatClampNeg .null)))) else none
      | _ => none)
    | .ref q :: .int j :: .ref a :: r => (match h[a]?, h[q]? with
      | some (.inr (.object C, vs)), some (.inl (ci, _)) => if ¬ j < 0 ∧ j.toNatClampNeg < vs.length ∧ a ≠ 0 ∧ ci ∈ am_S T C ∧ am_wr T a = true then some (pc + 1, lo, r, some (.inl (a, .inr (.object C, vs.set j.toNatClampNeg (.ref q))))) else none
      | _, _ => none)
    | _ => none)
  | .instanceof t => (match st with
    | .null :: r => some (pc + 1, lo, .int 0 :: r, none)
    | .ref a :: r => (match h[a]?, (am_I T)[t]? with
      | some (.inl (ci, _)), some (ys, ns, _) => if ci ∈ ys then some (pc + 1, lo, .int 1 :: r, none) else if ci ∈ ns then some (pc + 1, lo, .int 0 :: r, none) else none
      | _, _ => none)
    | _ => none)
  | .checkcast t => (match st with
    | .null :: r => some (pc + 1, lo, .null :: r, none)
    | .ref a :: r => (match h[a]?, (am_I T)[t]? with
      | some (.inl (ci, _)), some (ys, _, _) => if ci ∈ ys then some (pc + 1, lo, .ref a :: r, none) else none
      | some (.inr (ty, _)), some (_, _, some tz) => if ty = tz ∧ a ≠ 0 then some (pc + 1, lo, .ref a :: r, none) else none
      | _, _ => none)
    | _ => none)
  | .swap => (match st with
    | .int n :: .int dp :: .ref a :: .int sp :: .ref q :: r => (match h[q]?, h[a]? with
      | some (.inr (ty, vs)), some (.inr (ty2, ws)) => if ty = ty2 ∧ refKind ty = false ∧ a ≠ 0 ∧ q ≠ 0 ∧ ¬ n < 0 ∧ ¬ dp < 0 ∧ ¬ sp < 0 ∧ sp.toNatClampNeg + n.toNatClampNeg ≤ vs.length ∧ dp.toNatClampNeg + n.toNatClampNeg ≤ ws.length ∧ am_rok r = true ∧ am_wr T a = true then
          some (pc + 1, lo, r, some (.inl (a, .inr (ty2, ws.take dp.toNatClampNeg ++ (vs.drop sp.toNatClampNeg).take n.toNatClampNeg ++ ws.drop (dp.toNatClampNeg + n.toNatClampNeg))))) else none
      | _, _ => none)
    | _ => none)
  | .ldc2_w t => (match st with
    | .ref a :: r => (match h[a]?, (am_E T)[t]? with
      | some (.inr (ty, vs)), some tz => if ty = tz ∧ a ≠ 0 ∧ am_rok r = true then some (pc + 1, lo, .ref h.length :: r, some (.inr [.inr (ty, vs)])) else none
      | _, _ => none)
    | _ => none)
  | .lcmp => (match st with
    | .int y :: .int x :: r => if am_rok r = true then some (pc + 1, lo, .int (if x < y then y else x) :: r, none) else none
    | _ => none)
  | .nop => (match st with
    | .ref _ :: r => if am_rok r = true then some (pc + 1, lo, r, none) else none
    | _ => none)
  | _ => none
/-- a call: the method, its arguments, what stays on the stack -/
def am_inv (T : am_T) (i : Instr) (st : List Value) (h : am_Hp) : Option (Nat × List Value × List Value) := match i with
  | .invokestatic n => (match (am_K T)[n]? with
    | some (0, k, (_, m) :: _) => if k ≤ st.length ∧ am_rok (st.drop k) = true then some (m, (st.take k).reverse, st.drop k) else none
    | _ => none)
  | .invokespecial n => (match (am_K T)[n]? with
    | some (2, k, ms) => (match st.drop k with
      | .ref a :: r => (match h[a]? with
        | some (.inl (ci, _)) => (match ms.lookup ci with
          | some m => if am_rok r = true ∧ k ≤ st.length then some (m, .ref a :: (st.take k).reverse, r) else none
          | none => none)
        | _ => none)
      | _ => none)
    | _ => none)
  | .invokevirtual n => (match (am_K T)[n]? with
    | some (1, k, ms) => (match st.drop k with
      | .ref a :: r => (match h[a]? with
        | some (.inl (ci, _)) => (match ms.lookup ci with
          | some m => if am_rok r = true ∧ k ≤ st.length then some (m, .ref a :: (st.take k).reverse, r) else none
          | none => none)
        | _ => none)
      | _ => none)
    | _ => none)
  | _ => none
/-- an answer, of a method with that type of answers -/
def am_ret (rt : Option FieldType) (i : Instr) (st : List Value) : Option (Option Value) := match i, st, rt with
  | .return_, [], none => some none
  | .ireturn, [.int x], some .int => some (some (.int x))
  | .ireturn, [.int x], some .boolean => if x = 0 ∨ x = 1 then some (some (.int x)) else none
  | .areturn, [.ref a], some (.object _) => some (some (.ref a))
  | .areturn, [.null], some (.object _) => some (some .null)
  | .areturn, [.ref a], some (.array _) => some (some (.ref a))
  | .areturn, [.null], some (.array _) => some (some .null)
  | _, _, _ => none
abbrev am_Rs : Type := Option (Option Value × am_Hp)
def am_run (T : am_T) (call : Nat → List Value → am_Hp → am_Rs) (code : List Instr) (rt : Option FieldType) : Nat → Nat → am_Lo → List Value → am_Hp → am_Rs
  | 0, _, _, _, _ => none
  | n + 1, pc, lo, st, h => match code[pc]? with
    | none => none
    | some i => match am_ret rt i st with
      | some r => some (r, h)
      | none => match am_inv T i st h with
        | some (m, as, rest) => (match call m as h with
          | some (r, h') => am_run T call code rt n (pc + 1) lo (r.toList ++ rest) h'
          | none => none)
        | none => match am_x T i pc lo st h with
          | some (pc', lo', st', ch) => am_run T call code rt n pc' lo' st' (am_ap h ch)
          | none => none
/-- the locals at a method's entry -/
def am_en (as : List Value) (n : Nat) : am_Lo := as.map some ++ List.replicate (n - as.length) none
/-- a method run to its end: at most d calls deep, at most f instructions in each -/
def am_call (T : am_T) (f : Nat) : Nat → Nat → List Value → am_Hp → am_Rs
  | 0, _, _, _ => none
  | d + 1, m, as, h => match (am_M T)[m]? with
    | none => none
    | some (code, n, rt) => if as.length ≤ n ∧ as.all (fun v => v.category == 1) = true then am_run T (am_call T f d) code rt f 0 (am_en as n) [] h else none
