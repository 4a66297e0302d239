/-! AM by itself: what a method, a piece of one comes to, whatever the fuel is that is large enough -/
def am_Ev (T : am_T) (d mm : Nat) (as : List Value) (h : am_Hp) (Q : Option Value → am_Hp → Prop) : Prop := ∃ (r : Option Value) (h' : am_Hp) (f0 : Nat), Q r h' ∧ ∀ f, f0 ≤ f → am_call T f d mm as h = some (r, h')
def am_Go (T : am_T) (d : Nat) (code : List Instr) (rt : Option FieldType) (pc : Nat) (lo : am_Lo) (st : List Value) (h : am_Hp) (Q : Option Value → am_Hp → Prop) : Prop := ∃ (r : Option Value) (h' : am_Hp) (n0 f0 : Nat), Q r h' ∧ ∀ n f, n0 ≤ n → f0 ≤ f → am_run T (am_call T f d) code rt n pc lo st h = some (r, h')
theorem go_ret {T : am_T} {d : Nat} {code : List Instr} {rt : Option FieldType} {pc : Nat} {lo : am_Lo} {st : List Value} {h : am_Hp} {Q : Option Value → am_Hp → Prop} {i : Instr} {r : Option Value} (hi : code[pc]? = some i) (hr : am_ret rt i st = some r) (hq : Q r h) : am_Go T d code rt pc lo st h Q := by
  refine ⟨r, h, 1, 0, hq, fun n f hn _ => ?_⟩
  obtain ⟨n, rfl⟩ : ∃ k, n = k + 1 := ⟨n - 1, by omega⟩
  simp only [am_run, hi, hr]
theorem go_x {T : am_T} {d : Nat} {code : List Instr} {rt : Option FieldType} {pc pc' : Nat} {lo lo' : am_Lo} {st st' : List Value} {h : am_Hp} {ch : am_Ch} {Q : Option Value → am_Hp → Prop} {i : Instr} (hi : code[pc]? = some i) (hr : am_ret rt i st = none) (hv : am_inv T i st h = none) (hx : am_x T i pc lo st h = some (pc', lo', st', ch)) (k : am_Go T d code rt pc' lo' st' (am_ap h ch) Q) : am_Go T d code rt pc lo st h Q := by
  obtain ⟨r, h', n0, f0, hq, hk⟩ := k
  refine ⟨r, h', n0 + 1, f0, hq, fun n f hn hf => ?_⟩
  obtain ⟨n, rfl⟩ : ∃ k, n = k + 1 := ⟨n - 1, by omega⟩
  simp only [am_run, hi, hr, hv, hx]
  exact hk n f (by omega) hf
theorem go_call {T : am_T} {d : Nat} {code : List Instr} {rt : Option FieldType} {pc mm : Nat} {lo : am_Lo} {st as rest : List Value} {h : am_Hp} {Q P : Option Value → am_Hp → Prop} {i : Instr} (hi : code[pc]? = some i) (hr : am_ret rt i st = none) (hv : am_inv T i st h = some (mm, as, rest)) (hc : am_Ev T d mm as h P) (k : ∀ r h', P r h' → am_Go T d code rt (pc + 1) lo (r.toList ++ rest) h' Q) : am_Go T d code rt pc lo st h Q := by
  obtain ⟨r1, h1, f1, hp, hc⟩ := hc
  obtain ⟨r, h', n0, f0, hq, hk⟩ := k r1 h1 hp
  refine ⟨r, h', n0 + 1, max f0 f1, hq, fun n f hn hf => ?_⟩
  obtain ⟨n, rfl⟩ : ∃ k, n = k + 1 := ⟨n - 1, by omega⟩
  simp only [am_run, hi, hr, hv, hc f (by omega)]
  exact hk n f (by omega) (by omega)
theorem ev_go {T : am_T} {d mm : Nat} {as : List Value} {h : am_Hp} {Q : Option Value → am_Hp → Prop} {code : List Instr} {nL : Nat} {rt : Option FieldType} (hm : (am_M T)[mm]? = some (code, nL, rt)) (ha : as.length ≤ nL) (hc : as.all (fun v => v.category == 1) = true) (k : am_Go T d code rt 0 (am_en as nL) [] h Q) : am_Ev T (d + 1) mm as h Q := by
  obtain ⟨r, h', n0, f0, hq, hk⟩ := k
  refine ⟨r, h', max n0 f0, hq, fun f hf => ?_⟩
  show am_call T f (d + 1) mm as h = some (r, h')
  unfold am_call
  rw [hm]
  simp only
  rw [if_pos ⟨ha, hc⟩]
  exact hk f f (by omega) (by omega)
theorem go_post {T : am_T} {d : Nat} {code : List Instr} {rt : Option FieldType} {pc : Nat} {lo : am_Lo} {st : List Value} {h : am_Hp} {Q Q' : Option Value → am_Hp → Prop} (k : am_Go T d code rt pc lo st h Q) (hq : ∀ r h', Q r h' → Q' r h') : am_Go T d code rt pc lo st h Q' := by
  obtain ⟨r, h', n0, f0, q, hk⟩ := k
  exact ⟨r, h', n0, f0, hq r h' q, hk⟩
theorem ev_post {T : am_T} {d mm : Nat} {as : List Value} {h : am_Hp} {Q Q' : Option Value → am_Hp → Prop} (k : am_Ev T d mm as h Q) (hq : ∀ r h', Q r h' → Q' r h') : am_Ev T d mm as h Q' := by
  obtain ⟨r, h', f0, q, hk⟩ := k
  exact ⟨r, h', f0, hq r h' q, hk⟩
/-- deeper is as good -/
theorem am_run_deep {T : am_T} {call call' : Nat → List Value → am_Hp → am_Rs} {code : List Instr} {rt : Option FieldType} (hc : ∀ m as h x, call m as h = some x → call' m as h = some x) : ∀ (n pc : Nat) (lo : am_Lo) (st : List Value) (h : am_Hp) (x : Option Value × am_Hp), am_run T call code rt n pc lo st h = some x → am_run T call' code rt n pc lo st h = some x := by
  intro n
  induction n with
  | zero => intro pc lo st h x hr; cases hr
  | succ n ih =>
    intro pc lo st h x hr
    unfold am_run at hr ⊢
    split at hr
    · cases hr
    · rename_i i hi
      split at hr
      · exact hr
      · split at hr
        · split at hr
          · rename_i hcall
            rw [hc _ _ _ _ hcall]
            exact ih _ _ _ _ _ hr
          · cases hr
        · split at hr
          · exact ih _ _ _ _ _ hr
          · cases hr
theorem am_call_deep (T : am_T) (f : Nat) : ∀ (d : Nat) (mm : Nat) (as : List Value) (h : am_Hp) (x : Option Value × am_Hp), am_call T f d mm as h = some x → am_call T f (d + 1) mm as h = some x := by
  intro d
  induction d with
  | zero => intro mm as h x hr; cases hr
  | succ d ih =>
    intro mm as h x hr
    unfold am_call at hr ⊢
    split at hr
    · cases hr
    · split at hr
      · rename_i hcc
        simp only [if_pos hcc]
        exact am_run_deep ih _ _ _ _ _ _ hr
      · cases hr
theorem ev_deep {T : am_T} {d d' mm : Nat} {as : List Value} {h : am_Hp} {Q : Option Value → am_Hp → Prop} (k : am_Ev T d mm as h Q) (hd : d ≤ d') : am_Ev T d' mm as h Q := by
  induction hd with
  | refl => exact k
  | step _ ih =>
    obtain ⟨r, h', f0, q, hk⟩ := ih
    exact ⟨r, h', f0, q, fun f hf => am_call_deep T f _ _ _ _ _ (hk f hf)⟩
