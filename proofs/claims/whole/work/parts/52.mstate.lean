/-! the store's state as it is meant: scalars F (by the reference's places), entries, writes -/
abbrev ms_E : Type := Int32 × Int32 × Int32 × Int32
abbrev ms_W : Type := Int32 × Int32 × Int32 × Int32 × Int32 × Int32
abbrev ms : Type := (Nat → Int32) × List ms_E × List ms_W
def uF (F : Nat → Int32) (j : Nat) (x : Int32) : Nat → Int32 := fun k => if k = j then x else F k
def en (e : ms_E) (j : Nat) : Int32 := match j with
  | 0 => e.1
  | 1 => e.2.1
  | 2 => e.2.2.1
  | _ => e.2.2.2
def wn (e : ms_W) (j : Nat) : Int32 := match j with
  | 0 => e.1
  | 1 => e.2.1
  | 2 => e.2.2.1
  | 3 => e.2.2.2.1
  | 4 => e.2.2.2.2.1
  | _ => e.2.2.2.2.2
/-- a write comes -/
def mW (m : ms) (x : ms_W) : ms := (m.1, m.2.1, m.2.2 ++ [x])
/-- an entry comes, with its write -/
def mE (m : ms) (kind t rec bef : Int32) : ms := (m.1, m.2.1 ++ [(kind, t, rec, bef)], m.2.2 ++ [(nI (17 + m.2.1.length), m.1 1, kind, t, rec, bef)])
/-- a record becomes another int, with its write -/
def mR (m : ms) (k : Nat) (v : Int32) : ms := (uF m.1 (16 + k) v, m.2.1, m.2.2 ++ [(nI k, v, 0, 0, 0, 0)])
/-- the next generation, with its write -/
def mG (m : ms) : ms := (uF m.1 1 (m.1 1 + 1), [], m.2.2 ++ [(16, m.1 1 + 1, m.1 0, 0, 0, 0)])
def mtr (m : ms) : Nat := (if m.1 14 = 0 then 0 else 1) + (if m.1 15 = 0 then 0 else 1)
/-- an entry that ends what a terminal did -/
def eCl (e : ms_E) (t : Int32) : Bool := decide (e.1 = 2 ∧ e.2.1 = t) || decide (e.1 = 3 ∧ e.2.1 = t)
def eWr (e : ms_E) (t : Int32) : Bool := decide (e.1 = 1 ∧ e.2.1 = t)
/-- the first entry behind the latest of the first n that ends -/
def opn (L : List ms_E) (t : Int32) : Nat → Nat
  | 0 => 0
  | n + 1 => match L[n]? with
    | some e => if eCl e t = true then n + 1 else opn L t n
    | none => 0
def mof (m : ms) (t : Int32) : Nat := opn m.2.1 t m.2.1.length
/-- whether entry i is the first of its record from there on -/
def afs (L : List ms_E) (t rec : Int32) : Nat → Nat → Bool
  | _, 0 => true
  | j, k + 1 => (match L[j]? with
    | some e => !(eWr e t && decide (e.2.2.1 = rec))
    | none => true) && afs L t rec (j + 1) k
def fst1 (L : List ms_E) (t rec : Int32) (from_ i : Nat) : Bool := afs L t rec from_ (i - from_)
/-- backing out: the entries below n, the latest first -/
def bko (L : List ms_E) (t : Int32) (from_ : Nat) : Nat → ms → ms
  | 0, m => m
  | n + 1, m => if n < from_ then m else match L[n]? with
    | some e => bko L t from_ n (if (eWr e t && fst1 L t e.2.2.1 from_ n) = true then mR m e.2.2.1.toNatClampNeg e.2.2.2 else m)
    | none => m
def mB (m : ms) (t : Int32) : ms := mE (bko m.2.1 t (mof m t) m.2.1.length m) 3 t 0 0
def awf (L : List ms_E) (t : Int32) : Nat → Nat → Bool
  | _, 0 => false
  | j, k + 1 => (match L[j]? with
    | some e => eWr e t
    | none => false) || awf L t (j + 1) k
def hop (m : ms) (t : Int32) : Bool := awf m.2.1 t (mof m t) (m.2.1.length - mof m t)
/-- the locks of a terminal are free -/
def frl (F : Nat → Int32) (t : Int32) : Nat → Nat → Int32
  | 0 => F
  | n + 1 => if frl F t n (32 + n) = t then uF (frl F t n) (32 + n) (-1) else frl F t n
def mX (m : ms) (t : Nat) : ms := let m1 : ms := (frl (uF m.1 (14 + t) 0) (nI t) 16, m.2.1, m.2.2)
  if mtr m1 = 0 then mG m1 else m1
/-! the state's cells: a table over twelve places -/
def tbsE (ad : Nat → Nat) (i : Nat) : (Nat ⊕ FieldType) × List (Nat × Nat) := match i with
  | 0 => (.inl 5, [(0, 0), (1000, ad 1), (1000, ad 2), (1000, ad 3), (1000, ad 4), (1000, ad 5), (1000, ad 6), (1000, ad 7), (0, 1), (0, 2), (1000, ad 8), (0, 3), (200, 0), (1000, ad 9)])
  | 1 => (.inr .int, (List.range 2).map (fun j => (1, j)))
  | 2 => (.inr .int, (List.range 2).map (fun j => (2, j)))
  | 3 => (.inr .int, (List.range 2).map (fun j => (3, j)))
  | 4 => (.inr .int, (List.range 2).map (fun j => (4, j)))
  | 5 => (.inr .int, (List.range 16).map (fun j => (5, j)))
  | 6 => (.inr .int, (List.range 16).map (fun j => (6, j)))
  | 7 => (.inr .boolean, (List.range 2).map (fun j => (7, j)))
  | 8 => (.inr .int, (List.range 160).map (fun j => (8, j)))
  | 9 => (.inl 6, [(1000, ad 10), (1000, ad 11), (0, 4)])
  | 10 => (.inr .int, (List.range 35).map (fun j => (9, j)))
  | _ => (.inr .int, (List.range 175).map (fun j => (10, j)))
def tbs (ad : Nat → Nat) : sm_T := fun a => match (List.range 12).find? (fun i => decide (ad i = a)) with
  | some i => some (tbsE ad i)
  | none => none
def adk (ad : Nat → Nat) : Prop := ∀ i j, i < 12 → j < 12 → ad i = ad j → i = j
theorem find_uniq {l : List Nat} {p : Nat → Bool} {i : Nat} (hi : i ∈ l) (hp : p i = true) (hu : ∀ j ∈ l, p j = true → j = i) : l.find? p = some i := by
  induction l with
  | nil => cases hi
  | cons x r ih =>
    by_cases hx : p x = true
    · rw [List.find?_cons_of_pos hx, hu x (List.mem_cons_self ..) hx]
    · rw [List.find?_cons_of_neg hx]
      rcases List.mem_cons.mp hi with e | e
      · subst e
        exact absurd hp hx
      · exact ih e (fun j hj => hu j (List.mem_cons_of_mem _ hj))
theorem tbs_at {ad : Nat → Nat} (ha : adk ad) {i : Nat} (hi : i < 12) : tbs ad (ad i) = some (tbsE ad i) := by
  have : (List.range 12).find? (fun j => decide (ad j = ad i)) = some i := find_uniq (List.mem_range.mpr hi) (by simp) (fun j hj e => ha j i (List.mem_range.mp hj) hi (by simpa using e))
  simp only [tbs, this]
theorem tbs_of {ad : Nat → Nat} {a : Nat} {x : (Nat ⊕ FieldType) × List (Nat × Nat)} (h : tbs ad a = some x) : ∃ i, i < 12 ∧ ad i = a ∧ tbsE ad i = x := by
  unfold tbs at h
  split at h
  · rename_i i hf
    have h1 := List.find?_some hf
    have h2 := List.mem_of_find?_eq_some hf
    exact ⟨i, List.mem_range.mp h2, by simpa using h1, Option.some.inj h⟩
  · cases h
theorem tbs_none {ad : Nat → Nat} {a : Nat} (h : ∀ i, i < 12 → ad i ≠ a) : tbs ad a = none := by
  cases e : tbs ad a with
  | none => rfl
  | some x =>
    obtain ⟨i, hi, h1, -⟩ := tbs_of e
    exact absurd h1 (h i hi)
def tbs_pos (d : Nat × Nat) : Nat × Nat := match d.1 with
  | 0 => (match d.2 with
    | 0 => (0, 0)
    | 1 => (0, 8)
    | 2 => (0, 9)
    | 3 => (0, 11)
    | _ => (9, 2))
  | 9 => (10, d.2)
  | 10 => (11, d.2)
  | 200 => (0, 12)
  | _ => (d.1, d.2)
theorem rg_map {n c i : Nat} {d : Nat × Nat} (h : ((List.range n).map (fun j => (c, j)))[i]? = some d) : d = (c, i) := by
  rw [List.getElem?_map] at h
  by_cases hi : i < n
  · rw [List.getElem?_range hi] at h
    simpa using h.symm
  · rw [List.getElem?_eq_none (by simpa using hi)] at h
    cases h
theorem tbsE_pos {ad : Nat → Nat} {k i : Nat} {d : Nat × Nat} (hk : k < 12) (h : (tbsE ad k).2[i]? = some d) (hd : d.1 < 1000) : tbs_pos d = (k, i) := by
  match k, hk with
  | 0, _ =>
    match i with
    | 0 | 8 | 9 | 11 | 12 => simp [tbsE] at h; subst h; rfl
    | 1 | 2 | 3 | 4 | 5 | 6 | 7 | 10 | 13 => simp [tbsE] at h; subst h; simp at hd
    | n + 14 => simp [tbsE] at h
  | 1, _ => have := rg_map h; subst this; rfl
  | 2, _ => have := rg_map h; subst this; rfl
  | 3, _ => have := rg_map h; subst this; rfl
  | 4, _ => have := rg_map h; subst this; rfl
  | 5, _ => have := rg_map h; subst this; rfl
  | 6, _ => have := rg_map h; subst this; rfl
  | 7, _ => have := rg_map h; subst this; rfl
  | 8, _ => have := rg_map h; subst this; rfl
  | 9, _ =>
    match i with
    | 0 | 1 => simp [tbsE] at h; subst h; simp at hd
    | 2 => simp [tbsE] at h; subst h; rfl
    | n + 3 => simp [tbsE] at h
  | 10, _ => have := rg_map h; subst this; rfl
  | 11, _ => have := rg_map h; subst this; rfl
theorem sm_s_of {tb : sm_T} {a i : Nat} {hd : Nat ⊕ FieldType} {d : Nat × Nat} (h : sm_s tb a i = some (hd, d)) : ∃ ds, tb a = some (hd, ds) ∧ ds[i]? = some d := by
  unfold sm_s at h
  split at h
  · rename_i hd' ds hb
    split at h
    · rename_i d' hi
      simp at h
      obtain ⟨rfl, rfl⟩ := h
      exact ⟨ds, hb, hi⟩
    · cases h
  · cases h
theorem tbs_inj {ad : Nat → Nat} : sm_inj (tbs ad) := by
  intro a a' i i' hd hd' d h1 h2 h3
  obtain ⟨ds, hb, hi⟩ := sm_s_of h1
  obtain ⟨ds', hb', hi'⟩ := sm_s_of h2
  obtain ⟨k, hk, rfl, e⟩ := tbs_of hb
  obtain ⟨k', hk', rfl, e'⟩ := tbs_of hb'
  have p1 := tbsE_pos (ad := ad) hk (by rw [e]; exact hi) h3
  have p2 := tbsE_pos (ad := ad) hk' (by rw [e']; exact hi') h3
  rw [p1] at p2
  simp at p2
  exact ⟨by rw [p2.1], p2.2⟩
theorem tbs_s {ad : Nat → Nat} (ha : adk ad) {i k : Nat} (hi : i < 12) {d : Nat × Nat} (h : (tbsE ad i).2[k]? = some d) : sm_s (tbs ad) (ad i) k = some ((tbsE ad i).1, d) := by
  simp only [sm_s, tbs_at ha hi, h]
theorem rg_el {n c q : Nat} (hq : q < n) : ((List.range n).map (fun j => (c, j)))[q]? = some (c, q) := by
  rw [List.getElem?_map, List.getElem?_range hq]
  rfl
/-- the class's state holds what is meant: ne entries, nw writes; the rest of the writes' words is 0 -/
def sc (S : sm_I) (m : ms) : Prop := S 0 0 = m.1 0 ∧ S 0 1 = m.1 1 ∧ S 0 2 = nI m.2.1.length ∧ S 0 4 = nI m.2.2.length
    ∧ (∀ t, t < 2 → S 1 t = m.1 (6 + t) ∧ S 2 t = m.1 (8 + t) ∧ S 3 t = m.1 (10 + t) ∧ S 4 t = m.1 (12 + t) ∧ S 7 t = m.1 (14 + t))
    ∧ (∀ k, k < 16 → S 5 k = m.1 (16 + k) ∧ S 6 k = m.1 (32 + k))
    ∧ (∀ i e, m.2.1[i]? = some e → ∀ j, j < 4 → S 8 (5 * i + 1 + j) = en e j)
    ∧ (∀ i x, m.2.2[i]? = some x → S 9 i = x.1 ∧ ∀ j, j < 5 → S 10 (5 * i + j) = wn x (1 + j))
    ∧ (∀ q, 5 * m.2.2.length ≤ q → q < 175 → S 10 q = 0)
