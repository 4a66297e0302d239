/-! the class's cells that come and go: ow gives each a label: 1 it stays as it is, 2 + l a message of link l, 20 + b a piece of the state at b; 0 none of these -/
abbrev ow_T : Type := Nat → Nat
abbrev mg : Type := (Nat → Int32) × ms
def ex (z : Nat) (ow : ow_T) (h : am_Hp) (ow2 : ow_T) (h2 : am_Hp) : Prop := ∀ b, ow b ≠ 0 → ow b ≠ z → h2[b]? = h[b]? ∧ ow2 b = ow b
theorem ex_refl (z : Nat) (ow : ow_T) (h : am_Hp) : ex z ow h ow h := fun _ _ _ => ⟨rfl, rfl⟩
theorem ex_trans {z : Nat} {ow1 ow2 ow3 : ow_T} {h1 h2 h3 : am_Hp} (a : ex z ow1 h1 ow2 h2) (b : ex z ow2 h2 ow3 h3) : ex z ow1 h1 ow3 h3 := fun x hx hz => by
  obtain ⟨p, q⟩ := a x hx hz
  obtain ⟨p2, q2⟩ := b x (by rw [q]; exact hx) (by rw [q]; exact hz)
  exact ⟨p2.trans p, q2.trans q⟩
def rqf (q : Nat → Int32) : List Value := [.int (q 0), .int (q 1), .int (q 2), .int (q 3), .int (q 4), .int (q 5), .int (q 6)]
def anf (q : Nat → Int32) : List Value := [.int (q 0), .int (q 1), .int (q 2), .int (q 3), .int (q 4), .int (q 5)]
def Rq (h : am_Hp) (ow : ow_T) (v : Value) (q : Nat → Int32) : Prop := ∃ a, v = .ref a ∧ ow a = 1 ∧ h[a]? = some (.inl (8, rqf q))
def An (h : am_Hp) (ow : ow_T) (v : Value) (q : Nat → Int32) : Prop := ∃ a, v = .ref a ∧ ow a = 1 ∧ h[a]? = some (.inl (10, anf q))
theorem Rq_ex {z : Nat} {h h2 : am_Hp} {ow ow2 : ow_T} {v : Value} {q : Nat → Int32} (e : ex z ow h ow2 h2) (hz : z ≠ 1) (k : Rq h ow v q) : Rq h2 ow2 v q := by
  obtain ⟨a, rfl, h1, h2⟩ := k
  obtain ⟨p, o⟩ := e a (by omega) (by omega)
  exact ⟨a, rfl, o.trans h1, p.trans h2⟩
theorem An_ex {z : Nat} {h h2 : am_Hp} {ow ow2 : ow_T} {v : Value} {q : Nat → Int32} (e : ex z ow h ow2 h2) (hz : z ≠ 1) (k : An h ow v q) : An h2 ow2 v q := by
  obtain ⟨a, rfl, h1, h2⟩ := k
  obtain ⟨p, o⟩ := e a (by omega) (by omega)
  exact ⟨a, rfl, o.trans h1, p.trans h2⟩
/-- a terminal's state: what it asked latest and the answer it got latest, as the row r -/
def TR (h : am_Hp) (ow : ow_T) (t : Nat) (va vb : Value) (r : Nat → Int32) : Prop :=
  (va = .null ∧ vb = .null ∧ r 0 = 0 ∧ r 1 = 0 ∧ r 6 = 0 ∧ r 5 = (if r 11 = 0 then 1 else -1)) ∨
  (∃ q, Rq h ow va q ∧ vb = .null ∧ r 1 = 1 ∧ r 6 = 0 ∧ r 5 = (if r 11 = 0 then 1 else -1) ∧ q 0 = nI t ∧ q 1 = r 11 ∧ q 2 = r 0 ∧ q 3 = r 5 ∧ q 4 = r 2 ∧ q 5 = r 3 ∧ q 6 = r 4) ∨
  (∃ q s, Rq h ow va q ∧ An h ow vb s ∧ r 6 = 1 ∧ r 5 = r 10 ∧ s 2 = r 7 ∧ s 3 = r 8 ∧ s 4 = r 9 ∧ s 5 = r 10 ∧ q 0 = nI t ∧ q 1 = r 11 ∧ q 2 = r 0 ∧ ((r 1 = 0 ∧ r 7 = r 0) ∨ (r 1 = 1 ∧ ¬ r 7 = r 0 ∧ q 3 = r 5 ∧ q 4 = r 2 ∧ q 5 = r 3 ∧ q 6 = r 4)))
theorem TR_ex {z : Nat} {h h2 : am_Hp} {ow ow2 : ow_T} {t : Nat} {va vb : Value} {r : Nat → Int32} (e : ex z ow h ow2 h2) (hz : z ≠ 1) (k : TR h ow t va vb r) : TR h2 ow2 t va vb r := by
  rcases k with k | ⟨q, k1, k2⟩ | ⟨q, s, k1, k2, k3⟩
  · exact Or.inl k
  · exact Or.inr (Or.inl ⟨q, Rq_ex e hz k1, k2⟩)
  · exact Or.inr (Or.inr ⟨q, s, Rq_ex e hz k1, An_ex e hz k2, k3⟩)
/-- a state's ints, and whether and for whom it is busy -/
def SQ (h : am_Hp) (ow : ow_T) (S : sm_I) (Y : sm_X) (s : ms) : Prop := (∃ Wl, sc S (s.1, s.2.1, Wl) ∧ (¬ s.1 3 = 0 → Wl = s.2.2)) ∧ S 0 3 = (if s.1 3 = 0 then 0 else 1) ∧ (s.1 3 = 1 → ∃ q t, Rq h ow (Y 200 0) q ∧ t < 2 ∧ s.1 4 = nI t ∧ q 0 = nI t ∧ q 1 = s.1 (6 + t) ∧ q 2 = s.1 (8 + t)) ∧ (¬ s.1 3 = 1 → Y 200 0 = .null)
/-- the state at b -/
def St (h : am_Hp) (ow : ow_T) (b : Nat) (s : ms) : Prop := ∃ ad S Y, ad 0 = b ∧ adk ad ∧ (∀ i, i < 9 → ow (ad i) = 20 + b) ∧ (∀ i, 9 ≤ i → i < 12 → ow (ad i) = 1) ∧ sm (tbs ad) h S Y ∧ SQ h ow S Y s
theorem SQ_ex {z : Nat} {h h2 : am_Hp} {ow ow2 : ow_T} {S : sm_I} {Y : sm_X} {s : ms} (e : ex z ow h ow2 h2) (hz : z ≠ 1) (k : SQ h ow S Y s) : SQ h2 ow2 S Y s := by
  obtain ⟨k1, k2, k3, k4⟩ := k
  refine ⟨k1, k2, fun c => ?_, k4⟩
  obtain ⟨q, t, a, b⟩ := k3 c
  exact ⟨q, t, Rq_ex e hz a, b⟩
theorem St_ex {z : Nat} {h h2 : am_Hp} {ow ow2 : ow_T} {b : Nat} {s : ms} (e : ex z ow h ow2 h2) (hz : z ≠ 1) (hb : z ≠ 20 + b) (k : St h ow b s) : St h2 ow2 b s := by
  obtain ⟨ad, S, Y, k0, k1, k2, k3, k4, k5⟩ := k
  have key : ∀ i, i < 12 → h2[ad i]? = h[ad i]? ∧ ow2 (ad i) = ow (ad i) := by
    intro i hi
    by_cases c : i < 9
    · have := k2 i c
      exact e _ (by omega) (by omega)
    · have := k3 i (by omega) hi
      exact e _ (by omega) (by omega)
  refine ⟨ad, S, Y, k0, k1, fun i hi => (key i (by omega)).2.trans (k2 i hi), fun i h1 h2 => (key i h2).2.trans (k3 i h1 h2), ?_, SQ_ex e hz k5⟩
  refine sm_dyn k4 (fun x hx => ?_)
  obtain ⟨y, hy⟩ := Option.ne_none_iff_exists'.mp hx
  obtain ⟨i, hi, rfl, -⟩ := tbs_of hy
  exact (key i hi).1
/-- what a message brings; sb is the place of the store's own state -/
def MF (h : am_Hp) (ow : ow_T) (sb : Nat) (m : mg) (pr td : Int32) (vq va vs : Value) : Prop :=
  (m.1 0 = 1 → Rq h ow vq (fun i => m.1 (5 + i))) ∧
  (m.1 0 = 2 → An h ow va (fun i => m.1 (5 + i))) ∧
  (m.1 0 = 5 → pr = m.1 5 ∧ td = m.1 6) ∧
  (m.1 0 = 3 ∨ m.1 0 = 4 → pr = m.1 5 ∧ td = m.1 6 ∧ (m.1 5 = 0 → ∃ b, vs = .ref b ∧ b ≠ sb ∧ St h ow b m.2) ∧ (m.1 5 = 1 → TR h ow 0 vq va m.2.1) ∧ (m.1 5 = 2 → TR h ow 1 vq va m.2.1))
theorem MF_ex {z : Nat} {h h2 : am_Hp} {ow ow2 : ow_T} {sb : Nat} {m : mg} {pr td : Int32} {vq va vs : Value} (e : ex z ow h ow2 h2) (hz : z ≠ 1) (hb : z < 20 ∨ z = 20 + sb) (k : MF h ow sb m pr td vq va vs) : MF h2 ow2 sb m pr td vq va vs := by
  obtain ⟨k1, k2, k3, k4⟩ := k
  refine ⟨fun c => Rq_ex e hz (k1 c), fun c => An_ex e hz (k2 c), k3, fun c => ?_⟩
  obtain ⟨a1, a2, a3, a4, a5⟩ := k4 c
  refine ⟨a1, a2, fun c => ?_, fun c => TR_ex e hz (a4 c), fun c => TR_ex e hz (a5 c)⟩
  obtain ⟨b, b1, b2, b3⟩ := a3 c
  have hne : z ≠ 20 + b := fun e2 => by
    rcases hb with hb | hb
    · omega
    · exact b2 (Nat.add_left_cancel (e2.symm.trans hb))
  exact ⟨b, b1, b2, St_ex (b := b) e hz hne b3⟩
def nxv (L : List Nat) (j : Nat) : Value := match L[j]? with
  | some y => .ref y
  | none => .null
/-- the message's cell at x, with what comes behind it -/
def MC (h : am_Hp) (ow : ow_T) (sb l x : Nat) (m : mg) (nx : Value) : Prop := ow x = 2 + l ∧ ∃ pr td vq va vs, h[x]? = some (.inl (9, [.int (m.1 0), .int (m.1 1), .int pr, .int td, vq, va, vs, nx])) ∧ MF h ow sb m pr td vq va vs
theorem MC_ex {z : Nat} {h h2 : am_Hp} {ow ow2 : ow_T} {sb l x : Nat} {m : mg} {nx : Value} (e : ex z ow h ow2 h2) (hz : z ≠ 1) (hl : z ≠ 2 + l) (hb : z < 20 ∨ z = 20 + sb) (k : MC h ow sb l x m nx) : MC h2 ow2 sb l x m nx := by
  obtain ⟨k1, pr, td, vq, va, vs, k2, k3⟩ := k
  obtain ⟨p, o⟩ := e x (by omega) (by omega)
  exact ⟨o.trans k1, pr, td, vq, va, vs, p.trans k2, MF_ex e hz hb k3⟩
/-- the chain of link l: the messages q (with, in front, one that is being delivered, in mode l) -/
def LK (h : am_Hp) (ow : ow_T) (sb l : Nat) (X : sm_X) (q : List mg) : Prop := ∃ L : List Nat, L.length = q.length ∧ X 200 l = nxv L 0 ∧ X 201 l = (if L = [] then .null else nxv L (L.length - 1)) ∧ X 202 l = .int (nI L.length) ∧ ∀ (i x : Nat) (m : mg), L[i]? = some x → q[i]? = some m → MC h ow sb l x m (nxv L (i + 1))
theorem LK_ex {z : Nat} {h h2 : am_Hp} {ow ow2 : ow_T} {sb l : Nat} {X : sm_X} {q : List mg} (e : ex z ow h ow2 h2) (hz : z ≠ 1) (hl : z ≠ 2 + l) (hb : z < 20 ∨ z = 20 + sb) (k : LK h ow sb l X q) : LK h2 ow2 sb l X q := by
  obtain ⟨L, k1, k2, k3, k4, k5⟩ := k
  exact ⟨L, k1, k2, k3, k4, fun i x m a b => MC_ex e hz hl hb (k5 i x m a b)⟩
