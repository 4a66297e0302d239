/-! a state made anew: its table out of its cells -/
theorem sm_mk {ad : Nat → Nat} {h : am_Hp} {S : sm_I} {Y : sm_X} (hc : ∀ i, i < 12 → h[ad i]? = some (sm_c (tbsE ad i).1 ((tbsE ad i).2.map (sm_v S Y)))) : sm (tbs ad) h S Y := by
  intro a hd ds hb
  obtain ⟨i, hi, rfl, e⟩ := tbs_of hb
  rw [hc i hi, e]
/-- a copy: object at a, arrays from n on, the writes shared -/
def adC (ad : Nat → Nat) (a n : Nat) : Nat → Nat := fun i => if i = 0 then a else if i < 9 then n + (i - 1) else ad i
theorem adC_k {ad : Nat → Nat} {a n : Nat} (hA : adk ad) (ha : a < n) (hn : tbs ad a = none) (ho : ∀ i, i < 12 → ad i < n) : adk (adC ad a n) := by
  intro i j hi hj e
  have b1 := tbs_ne hA hn hi
  have b2 := tbs_ne hA hn hj
  have c1 := ho i hi
  have c2 := ho j hj
  unfold adC at e
  split at e <;> split at e <;> (try split at e) <;> (try split at e) <;> first | omega | exact hA i j hi hj e
/-- a new one: object at a, its writes from n on, its arrays behind -/
def adN (a n : Nat) : Nat → Nat := fun i => if i = 0 then a else if i < 9 then n + 2 + i else n + (i - 9)
theorem adN_k {a n : Nat} (ha : a < n) : adk (adN a n) := by
  intro i j hi hj e
  unfold adN at e
  split at e <;> split at e <;> (try split at e) <;> (try split at e) <;> omega
/-- a fresh state's ints -/
def SN : sm_I := fun c j => if c = 0 ∧ j < 2 then 1 else 0
def SL (n : Nat) : sm_I := fun c j => if c = 6 ∧ j < n then -1 else SN c j
theorem SL_s {n : Nat} : uI (SL n) 6 n (-1) = SL (n + 1) := by
  funext c j
  simp only [uI, SL]
  by_cases h : c = 6
  · subst h
    by_cases h2 : j = n
    · subst h2; simp
    · by_cases h3 : j < n
      · have : j < n + 1 := by omega
        simp [h2, h3, this]
      · have : ¬ j < n + 1 := by omega
        simp [h2, h3, this]
  · simp [h]
def mN : ms := (fun j => if j < 2 then 1 else if 32 ≤ j ∧ j < 48 then -1 else 0, [], [])
theorem sc_N : sc (SL 16) mN := by
  refine ⟨rfl, rfl, rfl, rfl, ?_, ?_, ?_, ?_, ?_⟩
  · intro t ht
    match t, ht with
    | 0, _ => exact ⟨rfl, rfl, rfl, rfl, rfl⟩
    | 1, _ => exact ⟨rfl, rfl, rfl, rfl, rfl⟩
  · intro k hk
    simp only [SL, SN, mN]
    constructor
    · rw [if_neg (by omega), if_neg (by omega), if_neg (by omega), if_neg (by omega)]
    · rw [if_pos ⟨trivial, hk⟩, if_neg (by omega), if_pos (by omega)]
  · intro i e hi
    simp [mN] at hi
  · intro i x hi
    simp [mN] at hi
  · intro q _ _
    rfl
