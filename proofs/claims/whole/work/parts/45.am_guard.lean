/-! a run that keeps to the cells that w allows is a run, and the other cells stay -/
theorem am_x_open {w : Nat → Bool} {i : Instr} {pc pc' : Nat} {lo lo' : am_Lo} {st st' : List Value} {h : am_Hp} {ch : am_Ch} (hx : am_x (am_prog w) i pc lo st h = some (pc', lo', st', ch)) : am_x am_T0 i pc lo st h = some (pc', lo', st', ch) := by
  cases i
  case putfield n =>
    simp only [am_x] at hx ⊢
    split at hx
    · split at hx
      · rename_i h1 h2
        split at hx
        · rename_i hc
          have h3 : (am_F am_T0)[n]? = _ := h2
          simp only [h1, h3]
          exact (if_pos ⟨hc.1, hc.2.1, hc.2.2.1, rfl⟩).trans hx
        · cases hx
      · cases hx
    · cases hx
  case iastore =>
    simp only [am_x] at hx ⊢
    split at hx
    · split at hx
      · rename_i h1
        split at hx
        · rename_i hc
          exact (if_pos ⟨hc.1, hc.2.1, hc.2.2.1, rfl⟩).trans hx
        · cases hx
      · cases hx
    · cases hx
  case bastore =>
    simp only [am_x] at hx ⊢
    split at hx
    · split at hx
      · rename_i h1
        split at hx
        · rename_i hc
          exact (if_pos ⟨hc.1, hc.2.1, hc.2.2.1, hc.2.2.2.1, rfl⟩).trans hx
        · cases hx
      · cases hx
    · cases hx
  case aastore =>
    simp only [am_x] at hx ⊢
    split at hx
    · split at hx
      · rename_i h1
        split at hx
        · rename_i hc
          exact (if_pos ⟨hc.1, hc.2.1, hc.2.2.1, rfl⟩).trans hx
        · cases hx
      · cases hx
    · split at hx
      · rename_i h1 h2
        split at hx
        · rename_i hc
          exact (if_pos ⟨hc.1, hc.2.1, hc.2.2.1, hc.2.2.2.1, rfl⟩).trans hx
        · cases hx
      · cases hx
    · cases hx
  case swap =>
    simp only [am_x] at hx ⊢
    split at hx
    · split at hx
      · rename_i h1 h2
        split at hx
        · rename_i hc
          exact (if_pos ⟨hc.1, hc.2.1, hc.2.2.1, hc.2.2.2.1, hc.2.2.2.2.1, hc.2.2.2.2.2.1, hc.2.2.2.2.2.2.1, hc.2.2.2.2.2.2.2.1, hc.2.2.2.2.2.2.2.2.1, hc.2.2.2.2.2.2.2.2.2.1, rfl⟩).trans hx
        · cases hx
      · cases hx
    · cases hx
  all_goals exact hx
/-- the cells that may not be written stay -/
def am_fr (w : Nat → Bool) (h h' : am_Hp) : Prop := h.length ≤ h'.length ∧ ∀ a, a < h.length → w a = false → h'[a]? = h[a]?
theorem am_fr_refl (w : Nat → Bool) (h : am_Hp) : am_fr w h h := ⟨Nat.le_refl _, fun _ _ _ => rfl⟩
theorem am_fr_trans {w : Nat → Bool} {h1 h2 h3 : am_Hp} (a : am_fr w h1 h2) (b : am_fr w h2 h3) : am_fr w h1 h3 := ⟨Nat.le_trans a.1 b.1, fun x hx hw => (b.2 x (Nat.lt_of_lt_of_le hx a.1) hw).trans (a.2 x hx hw)⟩
theorem am_x_fr {w : Nat → Bool} {i : Instr} {pc pc' : Nat} {lo lo' : am_Lo} {st st' : List Value} {h : am_Hp} {ch : am_Ch} (hx : am_x (am_prog w) i pc lo st h = some (pc', lo', st', ch)) : am_fr w h (am_ap h ch) := by
  match ch, hx with
  | none, _ => exact am_fr_refl w h
  | some (.inl (a, c)), hx =>
    obtain ⟨hw, -⟩ := (am_x_ok hx).2 a c rfl
    refine ⟨by show _ ≤ (h.set a c).length; rw [List.length_set]; exact Nat.le_refl _, fun b _ hb => ?_⟩
    show (h.set a c)[b]? = _
    rw [List.getElem?_set_ne]
    intro e
    subst e
    rw [show w a = true from hw] at hb
    cases hb
  | some (.inr cs), _ => exact ⟨by show _ ≤ (h ++ cs).length; rw [List.length_append]; omega, fun b hb _ => List.getElem?_append_left hb⟩
def am_og (w : Nat → Bool) (call call' : Nat → List Value → am_Hp → am_Rs) : Prop := ∀ m as h r h', call m as h = some (r, h') → call' m as h = some (r, h') ∧ am_fr w h h'
theorem am_run_open {w : Nat → Bool} {call call' : Nat → List Value → am_Hp → am_Rs} (hc : am_og w call call') {code : List Instr} {rt : Option FieldType} : ∀ (n pc : Nat) (lo : am_Lo) (st : List Value) (h : am_Hp) (r : Option Value) (h' : am_Hp), am_run (am_prog w) call code rt n pc lo st h = some (r, h') → am_run am_T0 call' code rt n pc lo st h = some (r, h') ∧ am_fr w h h' := by
  intro n
  induction n with
  | zero => intro pc lo st h r h' hr; cases hr
  | succ n ih =>
    intro pc lo st h r h' hr
    unfold am_run at hr
    split at hr
    · cases hr
    · rename_i i hi
      split at hr
      · rename_i r' hret
        cases hr
        exact ⟨by simp only [am_run, hi, hret], am_fr_refl w h⟩
      · rename_i hret
        split at hr
        · rename_i mm as rest hinv
          have hinv2 : am_inv am_T0 i st h = some (mm, as, rest) := hinv
          split at hr
          · rename_i r1 h1 hcall
            obtain ⟨k1, f1⟩ := hc _ _ _ _ _ hcall
            obtain ⟨k2, f2⟩ := ih _ _ _ _ _ _ hr
            exact ⟨by simp only [am_run, hi, hret, hinv2, k1, k2], am_fr_trans f1 f2⟩
          · cases hr
        · rename_i hinv
          have hinv2 : am_inv am_T0 i st h = none := hinv
          split at hr
          · rename_i pc' lo' st' ch hxx
            obtain ⟨k2, f2⟩ := ih _ _ _ _ _ _ hr
            exact ⟨by simp only [am_run, hi, hret, hinv2, am_x_open hxx, k2], am_fr_trans (am_x_fr hxx) f2⟩
          · cases hr
theorem am_call_open (w : Nat → Bool) (f : Nat) : ∀ d, am_og w (am_call (am_prog w) f d) (am_call am_T0 f d) := by
  intro d
  induction d with
  | zero => intro m as h r h' hr; cases hr
  | succ d ih =>
    intro m as h r h' hr
    unfold am_call at hr
    split at hr
    · cases hr
    · rename_i code nL rt hm
      split at hr
      · rename_i hcc
        obtain ⟨k1, f1⟩ := am_run_open ih _ _ _ _ _ _ _ hr
        refine ⟨?_, f1⟩
        unfold am_call
        rw [show (am_M am_T0)[m]? = some (code, nL, rt) from hm]
        simp only
        rw [if_pos hcc]
        exact k1
      · cases hr
theorem ev_open {w : Nat → Bool} {d mm : Nat} {as : List Value} {h : am_Hp} {Q : Option Value → am_Hp → Prop} (k : am_Ev (am_prog w) d mm as h Q) : am_Ev am_T0 d mm as h (fun r h' => Q r h' ∧ am_fr w h h') := by
  obtain ⟨r, h', f0, hq, hk⟩ := k
  exact ⟨r, h', f0, ⟨hq, (am_call_open w f0 d _ _ _ _ _ (hk f0 (Nat.le_refl _))).2⟩, fun f hf => (am_call_open w f d _ _ _ _ _ (hk f hf)).1⟩
