/-! AM against the machine: a whole method, with its calls -/
theorem am_x_ok {T : am_T} {i : Instr} {pc pc' : Nat} {lo lo' : am_Lo} {st st' : List Value} {h : am_Hp} {ch : am_Ch} (hx : am_x T i pc lo st h = some (pc', lo', st', ch)) : lo'.length = lo.length ∧ (∀ a c, ch = some (.inl (a, c)) → am_wr T a = true ∧ ∃ c0, h[a]? = some c0 ∧ am_sz c = am_sz c0) := by
  unfold am_x at hx
  repeat' split at hx
  all_goals first
    | (cases hx; done)
    | (cases hx; refine ⟨rfl, fun a c hc => ?_⟩; cases hc; done)
    | (cases hx; refine ⟨by rw [List.length_set], fun a c hc => ?_⟩; cases hc; done)
    | (cases hx; refine ⟨rfl, fun a c hc => ?_⟩; cases hc; rename_i hcc; first
      | exact ⟨hcc.2.2.2, _, by assumption, by simp [am_sz]⟩
      | exact ⟨hcc.2.2.2.2, _, by assumption, by simp [am_sz]⟩
      | exact ⟨hcc.2.2.2.2.2.2.2.2.2.2, _, by assumption, by simp only [am_sz, List.length_append, List.length_take, List.length_drop]; omega⟩)
theorem am_ap_mono {T : am_T} {i : Instr} {pc pc' : Nat} {lo lo' : am_Lo} {st st' : List Value} {h : am_Hp} {ch : am_Ch} (hx : am_x T i pc lo st h = some (pc', lo', st', ch)) : h.length ≤ (am_ap h ch).length ∧ am_sl h ≤ am_sl (am_ap h ch) := by
  match ch, hx with
  | none, _ => exact ⟨Nat.le_refl _, Nat.le_refl _⟩
  | some (.inl (a, c)), hx =>
    obtain ⟨-, c0, h1, h2⟩ := (am_x_ok hx).2 a c rfl
    exact ⟨by show _ ≤ (h.set a c).length; rw [List.length_set]; exact Nat.le_refl _, by show _ ≤ am_sl (h.set a c); rw [am_sl_set h1 h2]; exact Nat.le_refl _⟩
  | some (.inr cs), _ => exact ⟨by show _ ≤ (h ++ cs).length; rw [List.length_append]; omega, by show _ ≤ am_sl (h ++ cs); rw [am_sl_app]; omega⟩
def am_mono (call : Nat → List Value → am_Hp → am_Rs) : Prop := ∀ m as h r h', call m as h = some (r, h') → h.length ≤ h'.length ∧ am_sl h ≤ am_sl h'
theorem am_run_mono {T : am_T} {call : Nat → List Value → am_Hp → am_Rs} {code : List Instr} {rt : Option FieldType} (hc : am_mono call) : ∀ (n pc : Nat) (lo : am_Lo) (st : List Value) (h : am_Hp) (r : Option Value) (h' : am_Hp), am_run T call code rt n pc lo st h = some (r, h') → h.length ≤ h'.length ∧ am_sl h ≤ am_sl h' := by
  intro n
  induction n with
  | zero => intro pc lo st h r h' hr; cases hr
  | succ n ih =>
    intro pc lo st h r h' hr
    unfold am_run at hr
    split at hr
    · cases hr
    · split at hr
      · cases hr
        exact ⟨Nat.le_refl _, Nat.le_refl _⟩
      · split at hr
        · split at hr
          · rename_i hcall
            have h1 := hc _ _ _ _ _ hcall
            have h2 := ih _ _ _ _ _ _ hr
            exact ⟨Nat.le_trans h1.1 h2.1, Nat.le_trans h1.2 h2.2⟩
          · cases hr
        · split at hr
          · rename_i hxx
            have h1 := am_ap_mono hxx
            have h2 := ih _ _ _ _ _ _ hr
            exact ⟨Nat.le_trans h1.1 h2.1, Nat.le_trans h1.2 h2.2⟩
          · cases hr
theorem am_call_mono (T : am_T) (f : Nat) : ∀ d, am_mono (am_call T f d) := by
  intro d
  induction d with
  | zero => intro m as h r h' hr; cases hr
  | succ d ih =>
    intro m as h r h' hr
    unfold am_call at hr
    split at hr
    · cases hr
    · split at hr
      · exact am_run_mono ih _ _ _ _ _ _ _ hr
      · cases hr
/-- what a program checks of a method's calls -/
def am_yok (y : MethodName) (k : Nat) : Bool := decide (plainName y.cls = true ∧ y.cls ≠ "java/lang/invoke/MethodHandle" ∧ y.cls ≠ "java/lang/invoke/VarHandle" ∧ (parseMethodDescriptor y.desc).map (fun d => d.parameters.length) = some k)
/-- which words a receiver's class wants: the place in the hints from which on they stand -/
def am_okv (Tb : List Jvm.Cond) (cl : List vw_C) (T : am_T) (Y : List (MethodName × ByteArray)) (own : String) (idx k : Nat) (hs : List Nat) (q : Nat) (ci mm : Nat) : Bool := match Y[mm]?, (am_M T)[mm]?, cl[ci]?, am_w Tb hs 0 with
  | some (y, bytes), some (_, nL, rt), some (C, _, _), .methodLink o x xm => am_yok y k && decide (o = own ∧ x = idx ∧ nL ≤ 23 ∧ am_w Tb hs q = .code y bytes nL rt ∧ am_w Tb hs (q + 1) = .initialized y.cls ∧ am_w Tb hs (q + 2) = .instanceMethod y ∧ am_w Tb hs (q + 3) = .selects C xm y) && (decide (xm = y) || (match am_w Tb hs 1 with
    | .sameMethod a owner b d => decide (a = xm.cls ∧ b = xm.name ∧ d = xm.desc ∧ owner ≠ "java/lang/invoke/MethodHandle" ∧ owner ≠ "java/lang/invoke/VarHandle" ∧ (parseMethodDescriptor xm.desc).map (fun d => d.parameters.length) = some k) && (decide (am_w Tb hs 2 = .declares ⟨owner, xm.name, xm.desc⟩) || (match am_w Tb hs 2 with
      | .code z _ _ _ => decide (z = ⟨owner, xm.name, xm.desc⟩ ∧ am_w Tb hs 3 = .instanceMethod ⟨owner, xm.name, xm.desc⟩)
      | _ => false))
    | _ => false))
  | some (y, bytes), some (_, nL, rt), some (C, _, _), .methodLinkNest o x xm _ => am_yok y k && decide (o = own ∧ x = idx ∧ xm = y ∧ nL ≤ 23 ∧ am_w Tb hs q = .code y bytes nL rt ∧ am_w Tb hs (q + 1) = .initialized y.cls ∧ am_w Tb hs (q + 2) = .instanceMethod y ∧ am_w Tb hs (q + 3) = .selects C xm y)
  | _, _, _, _ => false
def am_okc (Tb : List Jvm.Cond) (cl : List vw_C) (T : am_T) (Y : List (MethodName × ByteArray)) (own : String) (pcs : Nat → Nat) (j : Nat) (ri : Instr) (len : Nat) (hs : List Nat) (i : Instr) : Bool := match i with
  | .invokestatic n => (match ri, (am_K T)[n]? with
    | .invokestatic idx, some (0, k, (_, mm) :: _) => (match Y[mm]?, (am_M T)[mm]? with
      | some (y, bytes), some (_, nL, rt) => am_yok y k && decide (pcs (j + 1) = pcs j + 3 ∧ len = 3 ∧ nL ≤ 23 ∧ am_w Tb hs 1 = .code y bytes nL rt ∧ am_w Tb hs 2 = .initialized y.cls ∧ am_w Tb hs 3 = .static y) && (match am_w Tb hs 0 with
        | .methodLink o x z => decide (o = own ∧ x = idx ∧ z = y)
        | .methodLinkNest o x z _ => decide (o = own ∧ x = idx ∧ z = y)
        | _ => false)
      | _, _ => false)
    | _, _ => false)
  | .invokespecial n => (match ri, (am_K T)[n]? with
    | .invokespecial idx, some (2, k, ms) => decide (pcs (j + 1) = pcs j + 3 ∧ len = 3) && ms.all (fun z => (match Y[z.2]?, (am_M T)[z.2]? with
      | some (y, bytes), some (_, nL, rt) => am_yok y k && decide (nL ≤ 23 ∧ am_w Tb hs 1 = .code y bytes nL rt ∧ am_w Tb hs 2 = .initialized y.cls ∧ am_w Tb hs 3 = .instanceMethod y) && (match am_w Tb hs 0 with
        | .methodLink o x w => decide (o = own ∧ x = idx ∧ w = y) && (decide (y.name = "<init>" ∧ rt = none) || decide (y.name ≠ "<init>" ∧ am_w Tb hs 4 = .sameMethod y.cls y.cls y.name y.desc ∧ am_w Tb hs 5 = .superclass own y.cls ∧ z.1 < cl.length))
        | .methodLinkNest o x w _ => decide (o = own ∧ x = idx ∧ w = y ∧ y.name = "<init>" ∧ rt = none)
        | _ => false)
      | _, _ => false))
    | _, _ => false)
  | .invokevirtual n => (match ri, (am_K T)[n]? with
    | .invokevirtual idx, some (1, k, ms) => decide (pcs (j + 1) = pcs j + 3 ∧ len = 3) && (List.range ms.length).all (fun q => (match ms[q]? with
      | some (ci, mm) => am_okv Tb cl T Y own idx k hs (4 + 4 * q) ci mm
      | none => false))
    | _, _ => false)
  | _ => false
def am_okr (ri : Instr) (len : Nat) (i : Instr) : Bool := match i with
  | .return_ | .ireturn | .areturn => decide (ri = i ∧ len = 1)
  | _ => false
/-- a method's code holds: bytes, links, calls -/
def am_mok (Tb : List Jvm.Cond) (cl : List vw_C) (tys : List FieldType) (T : am_T) (Y : List (MethodName × ByteArray)) (y : MethodName) (bytes : ByteArray) (code : List Instr) (pcs : Nat → Nat) : Prop :=
  ∀ (j : Nat) (i : Instr), code[j]? = some i → ∃ ri len hs, decode bytes (pcs j) = .ok (ri, len) ∧ (am_ok Tb cl tys T y.cls y.name pcs j ri len hs i = true ∨ am_okc Tb cl T Y y.cls pcs j ri len hs i = true ∨ am_okr ri len i = true)
/-- AM's run is the machine's: the contract -/
def am_Met (l : Launch) (G : am_G) (Tb : List Jvm.Cond) (T : am_T) (Y : List (MethodName × ByteArray)) (d mm : Nat) (as : List Value) (h : am_Hp) (r : Option Value) (h' : am_Hp) : Prop :=
  ∀ y bytes code nL rt, Y[mm]? = some (y, bytes) → (am_M T)[mm]? = some (code, nL, rt) → Met l y (.code y bytes nL rt :: am_ts Tb) { frames := d, cells := h'.length - h.length, slots := am_sl h' - am_sl h, locals := 42 * d } (va_Pc (as.map (am_v G)) (fun U => am_Kn G U ∧ am_Nw Tb U ∧ am_H G h U U.heap)) (fun _ _ o t => o = .returned (r.map (am_v G)) ∧ am_H G h' t t.heap) (h'.length - h.length) (am_sl h' - am_sl h) (fun q => G.2.2.2.2 ≤ q)
theorem am_blind {G : am_G} {Tb : List Jvm.Cond} {as : List Value} {h : am_Hp} : FrameBlind (va_Pc as (fun U => am_Kn G U ∧ am_Nw Tb U ∧ am_H G h U U.heap)) := by
  intro a U g mk q
  obtain ⟨q0, qK, qN, qH⟩ := q
  exact ⟨q0, am_Kn_moved (u := U) (U := U.calling g mk a) (Vm.Alike.refl U.vm) qK, am_Nw_same (s := U) (U := U.calling g mk a) rfl qN, am_H_moved (u := U) (U := U.calling g mk a) (Vm.Alike.refl U.vm) qH⟩
theorem am_pre {G : am_G} {Tb : List Jvm.Cond} {as : List Value} {h : am_Hp} {s : State} {H : Heap} (hK : am_Kn G s) (hN : am_Nw Tb s) (hH : am_H G h s H) : ∀ U : State, U.heap = H → s.WarmedH U.vm → va_Pc (as.map (am_v G)) (fun U => am_Kn G U ∧ am_Nw Tb U ∧ am_H G h U U.heap) (as.map (am_v G)).toArray U :=
  fun U hU hW => ⟨rfl, am_Kn_moved hW.alike hK, am_Nw_moved hW hN, by rw [hU]; exact am_H_moved hW.alike hH⟩
theorem am_good {Tb : List Jvm.Cond} {y : MethodName} {bytes : ByteArray} {nL : Nat} {rt : Option FieldType} (h : Cond.code y bytes nL rt ∈ am_ts Tb) : GoodIn (am_ts Tb) (.code y bytes nL rt :: am_ts Tb) := by
  have key : ∀ w ∈ am_ts Tb, w ∈ am_ts Tb ∧ ((w.onTables && w.keeps) = true ∨ ∃ ty, w = .arrayClass ty) := by
    intro w hw
    refine ⟨hw, ?_⟩
    have := (List.mem_filter.mp hw).2
    unfold am_gd at this
    rw [Bool.or_eq_true] at this
    rcases this with h1 | h1
    · exact Or.inl h1
    · unfold am_isac at h1
      split at h1
      · exact Or.inr ⟨_, rfl⟩
      · cases h1
  intro w hw
  rcases List.mem_cons.mp hw with rfl | hw
  · exact key _ h
  · exact key w hw
theorem am_w_ts {Tb : List Jvm.Cond} {hs : List Nat} {k : Nat} {w : Jvm.Cond} (h : am_w Tb hs k = w) (hg : am_gd w = true) (ht : w ≠ .tt) : w ∈ am_ts Tb := by
  rcases am_w_or Tb hs k with h1 | h1
  · rw [h] at h1
    exact List.mem_filter.mpr ⟨h1, hg⟩
  · exact absurd (h.symm.trans h1) ht
