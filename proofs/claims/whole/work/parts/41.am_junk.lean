/-! a run that does well with a useless cell in the first place does the same with any cell there -/
def am_jk : am_C := .inl (999, [])
def am_jf (T : am_T) : Prop := (∀ (n : Nat) cs k ty, (am_F T)[n]? = some (cs, k, ty) → 999 ∉ cs) ∧ (∀ C, 999 ∉ am_S T C) ∧ (∀ (t : Nat) ys ns az, (am_I T)[t]? = some (ys, ns, az) → 999 ∉ ys ∧ 999 ∉ ns) ∧ (∀ (n : Nat) kd k ms, (am_K T)[n]? = some (kd, k, ms) → ms.lookup 999 = none)
theorem am_jo {t : am_Hp} {a ci : Nat} {fs : List Value} (h : (am_jk :: t)[a]? = some (.inl (ci, fs))) (hc : ci ≠ 999) (c : am_C) : a ≠ 0 ∧ (c :: t)[a]? = some (.inl (ci, fs)) := by
  cases a with
  | zero =>
    rw [List.getElem?_cons_zero] at h
    cases h
    exact absurd rfl hc
  | succ a =>
    rw [List.getElem?_cons_succ] at h
    exact ⟨by omega, by rw [List.getElem?_cons_succ]; exact h⟩
theorem am_ja {t : am_Hp} {a : Nat} {q : FieldType × List Value} (h : (am_jk :: t)[a]? = some (.inr q)) (c : am_C) : a ≠ 0 ∧ (c :: t)[a]? = some (.inr q) := by
  cases a with
  | zero =>
    rw [List.getElem?_cons_zero] at h
    cases h
  | succ a =>
    rw [List.getElem?_cons_succ] at h
    exact ⟨by omega, by rw [List.getElem?_cons_succ]; exact h⟩
set_option maxHeartbeats 4000000 in
theorem am_x_junk {T : am_T} (hT : am_jf T) {i : Instr} {pc pc' : Nat} {lo lo' : am_Lo} {st st' : List Value} {t : am_Hp} {ch : am_Ch} (hx : am_x T i pc lo st (am_jk :: t) = some (pc', lo', st', ch)) (c : am_C) : am_x T i pc lo st (c :: t) = some (pc', lo', st', ch) ∧ ∀ a x, ch = some (.inl (a, x)) → a ≠ 0 := by
  obtain ⟨hF, hS, hI, -⟩ := hT
  cases i
  case getfield n =>
    simp only [am_x] at hx
    split at hx
    · split at hx
      · rename_i ci fs cs k ty h1 h2
        split at hx
        · rename_i hc
          obtain ⟨h0, h3⟩ := am_jo h1 (fun z => hF _ _ _ _ h2 (z ▸ hc)) c
          split at hx
          · rename_i hv
            cases hx
            exact ⟨by simp [am_x, h3, h2, hc, hv], fun a x z => by cases z⟩
          · cases hx
        · cases hx
      · cases hx
    · cases hx
  case putfield n =>
    simp only [am_x] at hx
    split at hx
    · split at hx
      · rename_i ci fs cs k ty h1 h2
        split at hx
        · rename_i hc
          obtain ⟨h0, h3⟩ := am_jo h1 (fun z => hF _ _ _ _ h2 (z ▸ hc.1)) c
          cases hx
          exact ⟨by simp [am_x, h3, h2, hc], fun a x z => by cases z; exact h0⟩
        · cases hx
      · cases hx
    · cases hx
  case arraylength =>
    simp only [am_x] at hx
    split at hx
    · split at hx
      · rename_i h1
        obtain ⟨h0, h3⟩ := am_ja h1 c
        cases hx
        exact ⟨by simp [am_x, h3], fun a x z => by cases z⟩
      · cases hx
    · cases hx
  case iaload =>
    simp only [am_x] at hx
    split at hx
    · split at hx
      · rename_i h1
        obtain ⟨h0, h3⟩ := am_ja h1 c
        split at hx
        · rename_i hc
          split at hx
          · rename_i hv
            cases hx
            exact ⟨by simp [am_x, h3, hc, hv], fun a x z => by cases z⟩
          · cases hx
        · cases hx
      · cases hx
    · cases hx
  case baload =>
    simp only [am_x] at hx
    split at hx
    · split at hx
      · rename_i h1
        obtain ⟨h0, h3⟩ := am_ja h1 c
        split at hx
        · rename_i hc
          split at hx
          · rename_i hv
            cases hx
            exact ⟨by simp [am_x, h3, hc, hv], fun a x z => by cases z⟩
          · cases hx
        · cases hx
      · cases hx
    · cases hx
  case aaload =>
    simp only [am_x] at hx
    split at hx
    · split at hx
      · rename_i h1
        obtain ⟨h0, h3⟩ := am_ja h1 c
        split at hx
        · rename_i hc
          split at hx
          · rename_i hv
            cases hx
            exact ⟨by simp [am_x, h3, hc, hv], fun a x z => by cases z⟩
          · cases hx
        · cases hx
      · cases hx
    · cases hx
  case iastore =>
    simp only [am_x] at hx
    split at hx
    · split at hx
      · rename_i h1
        obtain ⟨h0, h3⟩ := am_ja h1 c
        split at hx
        · rename_i hc
          cases hx
          exact ⟨by simp [am_x, h3, hc], fun a x z => by cases z; exact h0⟩
        · cases hx
      · cases hx
    · cases hx
  case bastore =>
    simp only [am_x] at hx
    split at hx
    · split at hx
      · rename_i h1
        obtain ⟨h0, h3⟩ := am_ja h1 c
        split at hx
        · rename_i hc
          cases hx
          exact ⟨by simp [am_x, h3, hc], fun a x z => by cases z; exact h0⟩
        · cases hx
      · cases hx
    · cases hx
  case aastore =>
    simp only [am_x] at hx
    split at hx
    · split at hx
      · rename_i h1
        obtain ⟨h0, h3⟩ := am_ja h1 c
        split at hx
        · rename_i hc
          cases hx
          exact ⟨by simp [am_x, h3, hc], fun a x z => by cases z; exact h0⟩
        · cases hx
      · cases hx
    · split at hx
      · rename_i h1 h2
        obtain ⟨h0, h3⟩ := am_ja h1 c
        split at hx
        · rename_i hc
          obtain ⟨h4, h5⟩ := am_jo h2 (fun z => hS _ (z ▸ hc.2.2.2.1)) c
          cases hx
          exact ⟨by simp [am_x, h3, h5, hc], fun a x z => by cases z; exact h0⟩
        · cases hx
      · cases hx
    · cases hx
  case instanceof n =>
    simp only [am_x] at hx
    split at hx
    · exact ⟨hx, fun a x z => by subst z; cases hx⟩
    · split at hx
      · rename_i h1 h2
        obtain ⟨g1, g2⟩ := hI _ _ _ _ h2
        split at hx
        · rename_i hc
          obtain ⟨h0, h3⟩ := am_jo h1 (fun z => g1 (z ▸ hc)) c
          cases hx
          exact ⟨by simp [am_x, h3, h2, hc], fun a x z => by cases z⟩
        · rename_i hc
          split at hx
          · rename_i hd
            obtain ⟨h0, h3⟩ := am_jo h1 (fun z => g2 (z ▸ hd)) c
            cases hx
            exact ⟨by simp [am_x, h3, h2, hc, hd], fun a x z => by cases z⟩
          · cases hx
      · cases hx
    · cases hx
  case checkcast n =>
    simp only [am_x] at hx
    split at hx
    · exact ⟨hx, fun a x z => by subst z; cases hx⟩
    · split at hx
      · rename_i h1 h2
        obtain ⟨g1, g2⟩ := hI _ _ _ _ h2
        split at hx
        · rename_i hc
          obtain ⟨h0, h3⟩ := am_jo h1 (fun z => g1 (z ▸ hc)) c
          cases hx
          exact ⟨by simp [am_x, h3, h2, hc], fun a x z => by cases z⟩
        · cases hx
      · rename_i h1 h2
        obtain ⟨h0, h3⟩ := am_ja h1 c
        split at hx
        · rename_i hc
          cases hx
          exact ⟨by simp [am_x, h3, h2, hc], fun a x z => by cases z⟩
        · cases hx
      · cases hx
    · cases hx
  case swap =>
    simp only [am_x] at hx
    split at hx
    · split at hx
      · rename_i h1 h2
        obtain ⟨h0, h3⟩ := am_ja h1 c
        obtain ⟨h4, h5⟩ := am_ja h2 c
        split at hx
        · rename_i hc
          cases hx
          exact ⟨by simp only [am_x, h3, h5]; rw [if_pos hc], fun a x z => by cases z; exact h4⟩
        · cases hx
      · cases hx
    · cases hx
  case ldc2_w n =>
    simp only [am_x] at hx
    split at hx
    · split at hx
      · rename_i h1 h2
        obtain ⟨h0, h3⟩ := am_ja h1 c
        split at hx
        · rename_i hc
          cases hx
          exact ⟨by simp only [am_x, h3, h2]; rw [if_pos hc]; rfl, fun a x z => by cases z⟩
        · cases hx
      · cases hx
    · cases hx
  all_goals refine ⟨hx, fun a x z => ?_⟩
  all_goals (subst z; exfalso)
  all_goals first | (cases hx; done) | (simp only [am_x] at hx; repeat' split at hx) <;> cases hx
theorem am_inv_junk {T : am_T} (hT : am_jf T) {i : Instr} {st : List Value} {t : am_Hp} {q : Nat × List Value × List Value} (hv : am_inv T i st (am_jk :: t) = some q) (c : am_C) : am_inv T i st (c :: t) = some q := by
  obtain ⟨-, -, -, hK⟩ := hT
  unfold am_inv at hv
  split at hv
  · exact hv
  · split at hv
    · rename_i h2
      split at hv
      · rename_i h4
        split at hv
        · rename_i h1
          split at hv
          · rename_i h3
            obtain ⟨h0, h5⟩ := am_jo h1 (fun z => by rw [z, hK _ _ _ _ h2] at h3; cases h3) c
            simp only [am_inv, h2, h4, h5, h3]
            exact hv
          · cases hv
        · cases hv
      · cases hv
    · cases hv
  · split at hv
    · rename_i h2
      split at hv
      · rename_i h4
        split at hv
        · rename_i h1
          split at hv
          · rename_i h3
            obtain ⟨h0, h5⟩ := am_jo h1 (fun z => by rw [z, hK _ _ _ _ h2] at h3; cases h3) c
            simp only [am_inv, h2, h4, h5, h3]
            exact hv
          · cases hv
        · cases hv
      · cases hv
    · cases hv
  · cases hv
theorem am_x_inv {T : am_T} {i : Instr} {pc : Nat} {lo : am_Lo} {st : List Value} {h : am_Hp} {q : Nat × am_Lo × List Value × am_Ch} (hx : am_x T i pc lo st h = some q) (g : am_Hp) : am_inv T i st g = none := by
  cases i <;> first | rfl | (cases (show none = some q from hx))
def am_cj (call : Nat → List Value → am_Hp → am_Rs) : Prop := ∀ m as t r h', call m as (am_jk :: t) = some (r, h') → ∃ t', h' = am_jk :: t' ∧ ∀ c, call m as (c :: t) = some (r, c :: t')
theorem am_run_junk {T : am_T} (hT : am_jf T) {call : Nat → List Value → am_Hp → am_Rs} (hc : am_cj call) {code : List Instr} {rt : Option FieldType} : ∀ (n pc : Nat) (lo : am_Lo) (st : List Value) (t : am_Hp) (r : Option Value) (h' : am_Hp), am_run T call code rt n pc lo st (am_jk :: t) = some (r, h') → ∃ t', h' = am_jk :: t' ∧ ∀ c, am_run T call code rt n pc lo st (c :: t) = some (r, c :: t') := by
  intro n
  induction n with
  | zero => intro pc lo st t r h' hr; cases hr
  | succ n ih =>
    intro pc lo st t r h' hr
    unfold am_run at hr
    split at hr
    · cases hr
    · rename_i i hi
      split at hr
      · rename_i r' hret
        cases hr
        exact ⟨t, rfl, fun c => by simp only [am_run, hi, hret]⟩
      · rename_i hret
        split at hr
        · rename_i mm as rest hinv
          split at hr
          · rename_i r1 h1 hcall
            obtain ⟨t1, rfl, k1⟩ := hc _ _ _ _ _ hcall
            obtain ⟨t2, e2, k2⟩ := ih _ _ _ _ _ _ hr
            exact ⟨t2, e2, fun c => by simp only [am_run, hi, hret, am_inv_junk hT hinv c, k1 c, k2 c]⟩
          · cases hr
        · split at hr
          · rename_i pc' lo' st' ch hxx
            have key : ∃ t1, am_ap (am_jk :: t) ch = am_jk :: t1 ∧ ∀ c, am_ap (c :: t) ch = c :: t1 := by
              match ch, hxx with
              | none, _ => exact ⟨t, rfl, fun _ => rfl⟩
              | some (.inl (a, x)), hxx =>
                have h0 := (am_x_junk hT hxx am_jk).2 a x rfl
                obtain ⟨b, rfl⟩ : ∃ b, a = b + 1 := ⟨a - 1, by omega⟩
                exact ⟨t.set b x, rfl, fun _ => rfl⟩
              | some (.inr cs), _ => exact ⟨t ++ cs, rfl, fun _ => rfl⟩
            obtain ⟨t1, e1, k1⟩ := key
            rw [e1] at hr
            obtain ⟨t2, e2, k2⟩ := ih _ _ _ _ _ _ hr
            exact ⟨t2, e2, fun c => by simp only [am_run, hi, hret, am_x_inv hxx (c :: t), (am_x_junk hT hxx c).1, k1 c, k2 c]⟩
          · cases hr
theorem am_call_junk {T : am_T} (hT : am_jf T) (f : Nat) : ∀ d, am_cj (am_call T f d) := by
  intro d
  induction d with
  | zero => intro m as t r h' hr; cases hr
  | succ d ih =>
    intro m as t r h' hr
    unfold am_call at hr
    split at hr
    · cases hr
    · rename_i code nL rt hm
      split at hr
      · rename_i hcc
        obtain ⟨t1, e1, k1⟩ := am_run_junk hT ih _ _ _ _ _ _ _ hr
        exact ⟨t1, e1, fun c => by unfold am_call; rw [hm]; simp only; rw [if_pos hcc]; exact k1 c⟩
      · cases hr
/-- more fuel is as good -/
theorem am_run_fuel {T : am_T} {call call' : Nat → List Value → am_Hp → am_Rs} {code : List Instr} {rt : Option FieldType} (hc : ∀ m as h x, call m as h = some x → call' m as h = some x) : ∀ (n n' pc : Nat) (lo : am_Lo) (st : List Value) (h : am_Hp) (x : Option Value × am_Hp), n ≤ n' → am_run T call code rt n pc lo st h = some x → am_run T call' code rt n' pc lo st h = some x := by
  intro n
  induction n with
  | zero => intro n' pc lo st h x _ hr; cases hr
  | succ n ih =>
    intro n' pc lo st h x hn hr
    obtain ⟨n', rfl⟩ : ∃ k, n' = k + 1 := ⟨n' - 1, by omega⟩
    unfold am_run at hr ⊢
    split at hr
    · cases hr
    · rename_i i hi
      split at hr
      · exact hr
      · split at hr
        · split at hr
          · rename_i hcall
            rw [hc _ _ _ _ hcall]
            exact ih _ _ _ _ _ _ (by omega) hr
          · cases hr
        · split at hr
          · exact ih _ _ _ _ _ _ (by omega) hr
          · cases hr
theorem am_call_fuel (T : am_T) {f f' : Nat} (hf : f ≤ f') : ∀ (d : Nat) (mm : Nat) (as : List Value) (h : am_Hp) (x : Option Value × am_Hp), am_call T f d mm as h = some x → am_call T f' d mm as h = some x := by
  intro d
  induction d with
  | zero => intro mm as h x hr; cases hr
  | succ d ih =>
    intro mm as h x hr
    unfold am_call at hr ⊢
    split at hr
    · cases hr
    · split at hr
      · rename_i hcc
        simp only [if_pos hcc]
        exact am_run_fuel ih _ _ _ _ _ _ _ hf hr
      · cases hr
/-- a run that the kernel has done -/
theorem ev_run {T : am_T} {f d mm : Nat} {as : List Value} {h : am_Hp} {r : Option Value} {h' : am_Hp} {Q : Option Value → am_Hp → Prop} (hr : am_call T f d mm as h = some (r, h')) (hq : Q r h') : am_Ev T d mm as h Q := ⟨r, h', f, hq, fun _ hf => am_call_fuel T hf _ _ _ _ _ hr⟩
theorem ev_junk {T : am_T} (hT : am_jf T) {f d mm : Nat} {as : List Value} {t t' : am_Hp} {r : Option Value} {Q : Option Value → am_Hp → Prop} {c : am_C} (hr : am_call T f d mm as (am_jk :: t) = some (r, am_jk :: t')) (hq : Q r (c :: t')) : am_Ev T d mm as (c :: t) Q := by
  obtain ⟨t1, e1, k1⟩ := am_call_junk hT f d _ _ _ _ _ hr
  cases e1
  exact ev_run (k1 c) hq
