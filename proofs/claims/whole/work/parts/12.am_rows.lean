/-! AM against the machine, a row an instruction: if the machine gets home from the state behind the instruction, it does from the state before it. -/
section AMR
variable {p : Program} {l : Launch} {e : Env} {R : Room} {s : State} {m : MethodId} {args : Array Value} {below : List Frame} {meth : Method} {c : Code} {Q : State → Prop} {cc : ByteArray} {G : am_G} {n0 s0 : Nat}
/-- the machine gets home from AM's state (pc, lo, st, h), whatever the heap is that h speaks of -/
def am_W (p : Program) (l : Launch) (e : Env) (R : Room) (s : State) (m : MethodId) (args : Array Value) (below : List Frame) (meth : Method) (c : Code) (Q : State → Prop) (G : am_G) (n0 s0 : Nat) (pc : Nat) (lo : am_Lo) (st : List Value) (h : am_Hp) : Prop :=
  n0 ≤ h.length → s0 ≤ am_sl h → ∀ (H : Heap) (locs : List Loc) (ls : Array Slot), am_H G h s H → (∀ q ∈ locs, G.2.2.2.2 ≤ q.base) → am_L G ls lo → W p l e R s m args below meth c H locs (h.length - n0) (am_sl h - s0) Q (F0 m pc ls (st.map (am_v G)))
variable {pc pc2 : Nat} {lo : am_Lo} {st r : List Value} {h : am_Hp}
theorem am_r_const {ri : Instr} {len : Nat} {z : Int32} {own : String} (hx : p.tables.exec = Jvm.exec) (hb : c.code = cc) (hown : s.vm.findClass own = some m.cls) (hd : decode cc pc = .ok (ri, len))
    (hv : (∃ n, ri = .iconst n ∧ len = 1 ∧ Int32.ofInt n = z) ∨ (∃ n, ri = .bipush n ∧ len = 2 ∧ (Int8.ofInt n).toInt32 = z) ∨ (∃ n, ri = .sipush n ∧ len = 3 ∧ (Int16.ofInt n).toInt32 = z) ∨ (∃ n, ri = .ldc n ∧ len = 2 ∧ (Jvm.Cond.constant own n z).before args s = true) ∨ (∃ n, ri = .ldc_w n ∧ len = 3 ∧ (Jvm.Cond.constant own n z).before args s = true))
    (k : am_W p l e R s m args below meth c Q G n0 s0 (pc + len) lo (.int z :: st) h) : am_W p l e R s m args below meth c Q G n0 s0 pc lo st h := by
  intro h1 h2 H locs ls hH hL hl
  have k := k h1 h2 H locs ls hH hL hl
  rcases hv with ⟨n, rfl, rfl, hz⟩ | ⟨n, rfl, rfl, hz⟩ | ⟨n, rfl, rfl, hz⟩ | ⟨n, rfl, rfl, hz⟩ | ⟨n, rfl, rfl, hz⟩
  · exact lv_iconst hx hb hd hz k
  · exact lv_bipush hx hb hd hz k
  · exact lv_sipush hx hb hd hz k
  · exact lv_ldc hx hb hown hz hd k
  · exact lv_ldcw hx hb hown hz hd k
theorem am_r_null (hx : p.tables.exec = Jvm.exec) (hb : c.code = cc) (hd : decode cc pc = .ok (.aconst_null, 1)) (k : am_W p l e R s m args below meth c Q G n0 s0 (pc + 1) lo (.null :: st) h) : am_W p l e R s m args below meth c Q G n0 s0 pc lo st h :=
  fun h1 h2 H locs ls hH hL hl => lv_null hx hb hd (k h1 h2 H locs ls hH hL hl)
theorem am_r_iload {ri : Instr} {len i : Nat} {x : Int32} (hx : p.tables.exec = Jvm.exec) (hb : c.code = cc) (hd : decode cc pc = .ok (ri, len)) (hv : (ri = .iload i ∧ len = 2) ∨ (∃ f : Fin 4, ri = .iload_n f ∧ f.val = i ∧ len = 1)) (hi : lo[i]? = some (some (.int x)))
    (k : am_W p l e R s m args below meth c Q G n0 s0 (pc + len) lo (.int x :: st) h) : am_W p l e R s m args below meth c Q G n0 s0 pc lo st h := by
  intro h1 h2 H locs ls hH hL hl
  have k := k h1 h2 H locs ls hH hL hl
  have hs := (hl.2.2 i _ hi).1
  rcases hv with ⟨rfl, rfl⟩ | ⟨f, rfl, hf, rfl⟩
  · exact lv_iload hx hb hd hs k
  · exact lv_iload_n hx hb hd hf hs k
theorem am_r_aload {ri : Instr} {len i : Nat} {v : Value} (hx : p.tables.exec = Jvm.exec) (hb : c.code = cc) (hd : decode cc pc = .ok (ri, len)) (hv : (ri = .aload i ∧ len = 2) ∨ (∃ f : Fin 4, ri = .aload_n f ∧ f.val = i ∧ len = 1)) (hi : lo[i]? = some (some v)) (hr : v = .null ∨ ∃ a, v = .ref a)
    (k : am_W p l e R s m args below meth c Q G n0 s0 (pc + len) lo (v :: st) h) : am_W p l e R s m args below meth c Q G n0 s0 pc lo st h := by
  intro h1 h2 H locs ls hH hL hl
  have k := k h1 h2 H locs ls hH hL hl
  have hs := (hl.2.2 i _ hi).1
  rcases hr with rfl | ⟨a, rfl⟩
  · rcases hv with ⟨rfl, rfl⟩ | ⟨f, rfl, hf, rfl⟩
    · exact lv_aloadN hx hb hd hs k
    · exact lv_aload_nN hx hb hd hf hs k
  · rcases hv with ⟨rfl, rfl⟩ | ⟨f, rfl, hf, rfl⟩
    · exact lv_aload hx hb hd hs k
    · exact lv_aload_n hx hb hd hf hs k
theorem am_r_istore {ri : Instr} {len i : Nat} {x : Int32} (hx : p.tables.exec = Jvm.exec) (hb : c.code = cc) (hd : decode cc pc = .ok (ri, len)) (hv : (ri = .istore i ∧ len = 2) ∨ (∃ f : Fin 4, ri = .istore_n f ∧ f.val = i ∧ len = 1)) (hi : i < lo.length)
    (k : am_W p l e R s m args below meth c Q G n0 s0 (pc + len) (lo.set i (some (.int x))) st h) : am_W p l e R s m args below meth c Q G n0 s0 pc lo (.int x :: st) h := by
  intro h1 h2 H locs ls hH hL hl
  rcases hv with ⟨rfl, rfl⟩ | ⟨f, rfl, hf, rfl⟩
  · exact lv_istore hx hb hd (am_L_has hl) hi rfl fun ls' h' => k h1 h2 H locs ls' hH hL (am_has_L (v := .int x) hl hi rfl h')
  · exact lv_istore_n hx hb hd hf (am_L_has hl) hi rfl fun ls' h' => k h1 h2 H locs ls' hH hL (am_has_L (v := .int x) hl hi rfl h')
theorem am_r_astore {ri : Instr} {len i : Nat} {v : Value} (hx : p.tables.exec = Jvm.exec) (hb : c.code = cc) (hd : decode cc pc = .ok (ri, len)) (hv : (ri = .astore i ∧ len = 2) ∨ (∃ f : Fin 4, ri = .astore_n f ∧ f.val = i ∧ len = 1)) (hr : v = .null ∨ ∃ a, v = .ref a) (hi : i < lo.length)
    (k : am_W p l e R s m args below meth c Q G n0 s0 (pc + len) (lo.set i (some v)) st h) : am_W p l e R s m args below meth c Q G n0 s0 pc lo (v :: st) h := by
  intro h1 h2 H locs ls hH hL hl
  rcases hr with rfl | ⟨a, rfl⟩
  · rcases hv with ⟨rfl, rfl⟩ | ⟨f, rfl, hf, rfl⟩
    · exact lv_astoreN hx hb hd (am_L_has hl) hi rfl fun ls' h' => k h1 h2 H locs ls' hH hL (am_has_L (v := .null) hl hi rfl h')
    · exact lv_astore_nN hx hb hd hf (am_L_has hl) hi rfl fun ls' h' => k h1 h2 H locs ls' hH hL (am_has_L (v := .null) hl hi rfl h')
  · rcases hv with ⟨rfl, rfl⟩ | ⟨f, rfl, hf, rfl⟩
    · exact lv_astore hx hb hd (am_L_has hl) hi rfl fun ls' h' => k h1 h2 H locs ls' hH hL (am_has_L (v := .ref a) hl hi rfl h')
    · exact lv_astore_n hx hb hd hf (am_L_has hl) hi rfl fun ls' h' => k h1 h2 H locs ls' hH hL (am_has_L (v := .ref a) hl hi rfl h')
theorem am_r_iinc {i : Nat} {n : Int} {x : Int32} (hx : p.tables.exec = Jvm.exec) (hb : c.code = cc) (hd : decode cc pc = .ok (.iinc i n, 3)) (hi : lo[i]? = some (some (.int x)))
    (k : am_W p l e R s m args below meth c Q G n0 s0 (pc + 3) (lo.set i (some (.int (x + Int32.ofInt n)))) st h) : am_W p l e R s m args below meth c Q G n0 s0 pc lo st h := by
  intro h1 h2 H locs ls hH hL hl
  obtain ⟨q, hq⟩ := am_lv_pos (G := G) hi
  have hlt := (List.getElem?_eq_some_iff.mp hi).1
  exact lv_iinc hx hb hd (am_L_has hl) hq rfl hlt rfl fun ls' h' => k h1 h2 H locs ls' hH hL (am_has_L (v := .int (x + Int32.ofInt n)) hl hlt rfl h')
theorem am_r_dup {v : Value} (hx : p.tables.exec = Jvm.exec) (hb : c.code = cc) (hd : decode cc pc = .ok (.dup, 1)) (hv : v.category = 1) (k : am_W p l e R s m args below meth c Q G n0 s0 (pc + 1) lo (v :: v :: st) h) : am_W p l e R s m args below meth c Q G n0 s0 pc lo (v :: st) h :=
  fun h1 h2 H locs ls hH hL hl => lv_dup hx hb hd (by rw [am_v_cat]; exact hv) (k h1 h2 H locs ls hH hL hl)
theorem am_r_pop {v : Value} (hx : p.tables.exec = Jvm.exec) (hb : c.code = cc) (hd : decode cc pc = .ok (.pop, 1)) (hv : v.category = 1) (k : am_W p l e R s m args below meth c Q G n0 s0 (pc + 1) lo st h) : am_W p l e R s m args below meth c Q G n0 s0 pc lo (v :: st) h :=
  fun h1 h2 H locs ls hH hL hl => lv_pop hx hb hd (va := am_v G v) (by rw [am_v_cat]; exact hv) (k h1 h2 H locs ls hH hL hl)
theorem am_r_dup_x1 {v w : Value} (hx : p.tables.exec = Jvm.exec) (hb : c.code = cc) (hd : decode cc pc = .ok (.dup_x1, 1)) (hv : v.category = 1) (hw : w.category = 1) (k : am_W p l e R s m args below meth c Q G n0 s0 (pc + 1) lo (v :: w :: v :: st) h) : am_W p l e R s m args below meth c Q G n0 s0 pc lo (v :: w :: st) h :=
  fun h1 h2 H locs ls hH hL hl => lv_dup_x1 hx hb hd (by rw [am_v_cat]; exact hv) (by rw [am_v_cat]; exact hw) (k h1 h2 H locs ls hH hL hl)
theorem am_r_dup_x2 {v w u : Value} (hx : p.tables.exec = Jvm.exec) (hb : c.code = cc) (hd : decode cc pc = .ok (.dup_x2, 1)) (hv : v.category = 1) (hw : w.category = 1) (hu : u.category = 1) (k : am_W p l e R s m args below meth c Q G n0 s0 (pc + 1) lo (v :: w :: u :: v :: st) h) : am_W p l e R s m args below meth c Q G n0 s0 pc lo (v :: w :: u :: st) h :=
  fun h1 h2 H locs ls hH hL hl => lv_dup_x2 hx hb hd (by rw [am_v_cat]; exact hv) (by rw [am_v_cat]; exact hw) (by rw [am_v_cat]; exact hu) (k h1 h2 H locs ls hH hL hl)
theorem am_r_dup2 {v w : Value} (hx : p.tables.exec = Jvm.exec) (hb : c.code = cc) (hd : decode cc pc = .ok (.dup2, 1)) (hv : v.category = 1) (hw : w.category = 1) (k : am_W p l e R s m args below meth c Q G n0 s0 (pc + 1) lo (v :: w :: v :: w :: st) h) : am_W p l e R s m args below meth c Q G n0 s0 pc lo (v :: w :: st) h :=
  fun h1 h2 H locs ls hH hL hl => lv_dup2_11 hx hb hd (by rw [am_v_cat]; exact hv) (by rw [am_v_cat]; exact hw) (k h1 h2 H locs ls hH hL hl)
theorem am_r_bin {i : Instr} {x y z : Int32} (hx : p.tables.exec = Jvm.exec) (hb : c.code = cc) (hd : decode cc pc = .ok (i, 1)) (hz : am_bin i x y = some z) (k : am_W p l e R s m args below meth c Q G n0 s0 (pc + 1) lo (.int z :: st) h) : am_W p l e R s m args below meth c Q G n0 s0 pc lo (.int y :: .int x :: st) h := by
  intro h1 h2 H locs ls hH hL hl
  have k := k h1 h2 H locs ls hH hL hl
  unfold am_bin at hz
  split at hz
  · cases hz; exact lv_iadd hx hb hd k
  · cases hz; exact lv_isub hx hb hd k
  · cases hz; exact lv_imul hx hb hd k
  · cases hz; exact lv_iand hx hb hd k
  · cases hz; exact lv_ior hx hb hd k
  · cases hz; exact lv_ixor hx hb hd k
  · split at hz
    · cases hz
    · rename_i hy
      cases hz; exact lv_idiv hx hb hd hy k
  · split at hz
    · cases hz
    · rename_i hy
      cases hz; exact lv_irem hx hb hd hy k
  · cases hz; exact lv_ishl hx hb hd k
  · cases hz; exact lv_ishr hx hb hd k
  · cases hz; exact lv_iushr hx hb hd rfl k
  · cases hz
theorem am_r_ineg {x : Int32} (hx : p.tables.exec = Jvm.exec) (hb : c.code = cc) (hd : decode cc pc = .ok (.ineg, 1)) (k : am_W p l e R s m args below meth c Q G n0 s0 (pc + 1) lo (.int (-x) :: st) h) : am_W p l e R s m args below meth c Q G n0 s0 pc lo (.int x :: st) h :=
  fun h1 h2 H locs ls hH hL hl => lv_ineg hx hb hd (k h1 h2 H locs ls hH hL hl)
theorem am_r_icmp {k : ClassFile.Cond} {x y : Int32} {off : Int} {tgt : Nat} (hx : p.tables.exec = Jvm.exec) (hb : c.code = cc) (hd : decode cc pc = .ok (.if_icmp k off, 3)) (ht : (pc : Int) + off = (tgt : Int))
    (kt : am_cd k x y = true → am_W p l e R s m args below meth c Q G n0 s0 tgt lo st h) (kf : am_cd k x y = false → am_W p l e R s m args below meth c Q G n0 s0 (pc + 3) lo st h) : am_W p l e R s m args below meth c Q G n0 s0 pc lo (.int y :: .int x :: st) h := by
  intro h1 h2 H locs ls hH hL hl
  cases k
  · exact lv_icmp_eq hx hb hd ht (fun q => kt (decide_eq_true q) h1 h2 H locs ls hH hL hl) (fun q => kf (decide_eq_false q) h1 h2 H locs ls hH hL hl)
  · exact lv_icmp_ne hx hb hd ht (fun q => kt (decide_eq_true q) h1 h2 H locs ls hH hL hl) (fun q => kf (decide_eq_false (fun z => z q)) h1 h2 H locs ls hH hL hl)
  · exact lv_icmp_lt hx hb hd ht (fun q => kt (decide_eq_true q) h1 h2 H locs ls hH hL hl) (fun q => kf (decide_eq_false q) h1 h2 H locs ls hH hL hl)
  · exact lv_icmp_ge hx hb hd ht (fun q => kt (decide_eq_true q) h1 h2 H locs ls hH hL hl) (fun q => kf (decide_eq_false q) h1 h2 H locs ls hH hL hl)
  · exact lv_icmp_gt hx hb hd ht (fun q => kt (decide_eq_true q) h1 h2 H locs ls hH hL hl) (fun q => kf (decide_eq_false q) h1 h2 H locs ls hH hL hl)
  · exact lv_icmp_le hx hb hd ht (fun q => kt (decide_eq_true q) h1 h2 H locs ls hH hL hl) (fun q => kf (decide_eq_false q) h1 h2 H locs ls hH hL hl)
theorem am_r_if {k : ClassFile.Cond} {x : Int32} {off : Int} {tgt : Nat} (hx : p.tables.exec = Jvm.exec) (hb : c.code = cc) (hd : decode cc pc = .ok (.ifCond k off, 3)) (ht : (pc : Int) + off = (tgt : Int))
    (kt : am_cd k x 0 = true → am_W p l e R s m args below meth c Q G n0 s0 tgt lo st h) (kf : am_cd k x 0 = false → am_W p l e R s m args below meth c Q G n0 s0 (pc + 3) lo st h) : am_W p l e R s m args below meth c Q G n0 s0 pc lo (.int x :: st) h := by
  intro h1 h2 H locs ls hH hL hl
  cases k
  · exact lv_if_eq hx hb hd ht (fun q => kt (decide_eq_true q) h1 h2 H locs ls hH hL hl) (fun q => kf (decide_eq_false q) h1 h2 H locs ls hH hL hl)
  · exact lv_if_ne hx hb hd ht (fun q => kt (decide_eq_true q) h1 h2 H locs ls hH hL hl) (fun q => kf (decide_eq_false (fun z => z q)) h1 h2 H locs ls hH hL hl)
  · exact lv_if_lt hx hb hd ht (fun q => kt (decide_eq_true q) h1 h2 H locs ls hH hL hl) (fun q => kf (decide_eq_false q) h1 h2 H locs ls hH hL hl)
  · exact lv_if_ge hx hb hd ht (fun q => kt (decide_eq_true q) h1 h2 H locs ls hH hL hl) (fun q => kf (decide_eq_false q) h1 h2 H locs ls hH hL hl)
  · exact lv_if_gt hx hb hd ht (fun q => kt (decide_eq_true q) h1 h2 H locs ls hH hL hl) (fun q => kf (decide_eq_false q) h1 h2 H locs ls hH hL hl)
  · exact lv_if_le hx hb hd ht (fun q => kt (decide_eq_true q) h1 h2 H locs ls hH hL hl) (fun q => kf (decide_eq_false q) h1 h2 H locs ls hH hL hl)
theorem am_r_ifnullY {off : Int} {tgt : Nat} (hx : p.tables.exec = Jvm.exec) (hb : c.code = cc) (hd : decode cc pc = .ok (.ifnull off, 3)) (ht : (pc : Int) + off = (tgt : Int)) (k : am_W p l e R s m args below meth c Q G n0 s0 tgt lo st h) : am_W p l e R s m args below meth c Q G n0 s0 pc lo (.null :: st) h :=
  fun h1 h2 H locs ls hH hL hl => lv_ifnullN hx hb hd ht (k h1 h2 H locs ls hH hL hl)
theorem am_r_ifnullN {off : Int} {a : Nat} (hx : p.tables.exec = Jvm.exec) (hb : c.code = cc) (hd : decode cc pc = .ok (.ifnull off, 3)) (k : am_W p l e R s m args below meth c Q G n0 s0 (pc + 3) lo st h) : am_W p l e R s m args below meth c Q G n0 s0 pc lo (.ref a :: st) h :=
  fun h1 h2 H locs ls hH hL hl => lv_ifnull (x := am_ad G a) hx hb hd (k h1 h2 H locs ls hH hL hl)
theorem am_r_ifnonY {off : Int} {tgt a : Nat} (hx : p.tables.exec = Jvm.exec) (hb : c.code = cc) (hd : decode cc pc = .ok (.ifnonnull off, 3)) (ht : (pc : Int) + off = (tgt : Int)) (k : am_W p l e R s m args below meth c Q G n0 s0 tgt lo st h) : am_W p l e R s m args below meth c Q G n0 s0 pc lo (.ref a :: st) h :=
  fun h1 h2 H locs ls hH hL hl => lv_ifnonnull (x := am_ad G a) hx hb hd ht (k h1 h2 H locs ls hH hL hl)
theorem am_r_ifnonN {off : Int} (hx : p.tables.exec = Jvm.exec) (hb : c.code = cc) (hd : decode cc pc = .ok (.ifnonnull off, 3)) (k : am_W p l e R s m args below meth c Q G n0 s0 (pc + 3) lo st h) : am_W p l e R s m args below meth c Q G n0 s0 pc lo (.null :: st) h :=
  fun h1 h2 H locs ls hH hL hl => lv_ifnonnullN hx hb hd (k h1 h2 H locs ls hH hL hl)
theorem am_r_goto {off : Int} {tgt : Nat} (hx : p.tables.exec = Jvm.exec) (hb : c.code = cc) (hd : decode cc pc = .ok (.goto off, 3)) (ht : (pc : Int) + off = (tgt : Int)) (k : am_W p l e R s m args below meth c Q G n0 s0 tgt lo st h) : am_W p l e R s m args below meth c Q G n0 s0 pc lo st h :=
  fun h1 h2 H locs ls hH hL hl => lv_goto hx hb hd ht (k h1 h2 H locs ls hH hL hl)
theorem am_r_table {d lo_ hi : Int} {ts : Array Int} {len : Nat} {x : Int32} {off : Int} {tgt : Nat} (hx : p.tables.exec = Jvm.exec) (hb : c.code = cc) (hd : decode cc pc = .ok (.tableswitch d lo_ hi ts, len))
    (hv : ((x.toInt < lo_ ∨ hi < x.toInt) ∧ off = d) ∨ (¬ (x.toInt < lo_ ∨ hi < x.toInt) ∧ ts[(x.toInt - lo_).toNat]? = some off)) (ht : (pc : Int) + off = (tgt : Int)) (k : am_W p l e R s m args below meth c Q G n0 s0 tgt lo st h) : am_W p l e R s m args below meth c Q G n0 s0 pc lo (.int x :: st) h := by
  intro h1 h2 H locs ls hH hL hl
  have k := k h1 h2 H locs ls hH hL hl
  rcases hv with ⟨h3, rfl⟩ | ⟨h3, h4⟩
  · exact lv_tableOut hx hb hd h3 ht k
  · exact lv_tableIn hx hb hd (fun q => h3 (Or.inl q)) (fun q => h3 (Or.inr q)) h4 ht k
theorem am_r_lookup {d : Int} {ps : Array (Int × Int)} {len : Nat} {x : Int32} {off : Int} {tgt : Nat} (hx : p.tables.exec = Jvm.exec) (hb : c.code = cc) (hd : decode cc pc = .ok (.lookupswitch d ps, len)) (hp : (ps.toList.zip (ps.toList.drop 1)).all (fun (a, next) => a.1 < next.1) = true)
    (ho : Op.lookupswitch.offset ps.toList d x.toInt = off) (ht : (pc : Int) + off = (tgt : Int)) (k : am_W p l e R s m args below meth c Q G n0 s0 tgt lo st h) : am_W p l e R s m args below meth c Q G n0 s0 pc lo (.int x :: st) h :=
  fun h1 h2 H locs ls hH hL hl => lv_lookup hx hb hd hp ho ht (k h1 h2 H locs ls hH hL hl)
theorem am_rf_eq {G : am_G} (hG : G.2.2.2.1 < G.2.2.2.2) {v : Value} (h : am_isr v = true) : ∃ q : Option Nat, am_v G v = va_rf q ∧ ∀ w, am_isr w = true → ∀ q', am_v G w = va_rf q' → (q' = q ↔ w = v) := by
  cases v with
  | null =>
    refine ⟨none, rfl, fun w hw q' hq => ?_⟩
    cases w with
    | null => cases q' with
      | none => exact ⟨fun _ => rfl, fun _ => rfl⟩
      | some a => cases hq
    | ref b => cases q' with
      | none => cases hq
      | some a => exact ⟨fun z => (by cases z), fun z => (by cases z)⟩
    | _ => cases hw
  | ref a =>
    refine ⟨some (am_ad G a), rfl, fun w hw q' hq => ?_⟩
    cases w with
    | null => cases q' with
      | none => exact ⟨fun z => (by cases z), fun z => (by cases z)⟩
      | some b => cases hq
    | ref b => cases q' with
      | none => cases hq
      | some d =>
        have hd : am_ad G b = d := by
          have := Value.ref.inj hq
          exact this
        subst hd
        exact ⟨fun z => by rw [am_ad_inj hG (Option.some.inj z)], fun z => by rw [Value.ref.inj z]⟩
    | _ => cases hw
  | _ => cases h
theorem am_r_acmp {k : ACond} {v w : Value} {off : Int} {tgt : Nat} (hx : p.tables.exec = Jvm.exec) (hb : c.code = cc) (hd : decode cc pc = .ok (.if_acmp k off, 3)) (ht : (pc : Int) + off = (tgt : Int)) (hv : am_isr v = true) (hw : am_isr w = true)
    (kt : ((k == .eq) == decide (w = v)) = true → am_W p l e R s m args below meth c Q G n0 s0 tgt lo st h) (kf : ((k == .eq) == decide (w = v)) = false → am_W p l e R s m args below meth c Q G n0 s0 (pc + 3) lo st h) : am_W p l e R s m args below meth c Q G n0 s0 pc lo (v :: w :: st) h := by
  intro h1 h2 H locs ls hH hL hl
  obtain ⟨ry, ey, hyy⟩ := am_rf_eq hH.2.1 hv
  obtain ⟨rx, ex, -⟩ := am_rf_eq hH.2.1 hw
  have hiff := hyy w hw rx ex
  show W p l e R s m args below meth c H locs _ _ Q (F0 m pc ls (am_v G v :: am_v G w :: st.map (am_v G)))
  rw [ey, ex]
  cases k
  · exact lv_acmp_eq hx hb hd ht (fun q => kt (by rw [decide_eq_true (hiff.mp q)]; rfl) h1 h2 H locs ls hH hL hl) (fun q => kf (by rw [decide_eq_false (fun z => q (hiff.mpr z))]; rfl) h1 h2 H locs ls hH hL hl)
  · exact lv_acmp_ne hx hb hd ht (fun q => kt (by rw [decide_eq_false (fun z => q (hiff.mpr z))]; rfl) h1 h2 H locs ls hH hL hl) (fun q => kf (by rw [decide_eq_true (hiff.mp q)]; rfl) h1 h2 H locs ls hH hL hl)
end AMR
