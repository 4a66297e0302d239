/-! what a message brings, made -/
theorem Rq_eq {h : am_Hp} {ow : ow_T} {v : Value} {q q2 : Nat → Int32} (k : Rq h ow v q) (e : ∀ i, i < 7 → q2 i = q i) : Rq h ow v q2 := by
  obtain ⟨a, a1, a2, a3⟩ := k
  refine ⟨a, a1, a2, ?_⟩
  rw [a3]
  unfold rqf
  rw [e 0 (by omega), e 1 (by omega), e 2 (by omega), e 3 (by omega), e 4 (by omega), e 5 (by omega), e 6 (by omega)]
theorem An_eq {h : am_Hp} {ow : ow_T} {v : Value} {q q2 : Nat → Int32} (k : An h ow v q) (e : ∀ i, i < 6 → q2 i = q i) : An h ow v q2 := by
  obtain ⟨a, a1, a2, a3⟩ := k
  refine ⟨a, a1, a2, ?_⟩
  rw [a3]
  unfold anf
  rw [e 0 (by omega), e 1 (by omega), e 2 (by omega), e 3 (by omega), e 4 (by omega), e 5 (by omega)]
theorem Rq_fit {h : am_Hp} {ow : ow_T} {v : Value} {q : Nat → Int32} (k : Rq h ow v q) : am_fit (.object "MirrorPairs$Request") v = true := by
  obtain ⟨a, rfl, -⟩ := k
  rfl
theorem An_fit {h : am_Hp} {ow : ow_T} {v : Value} {q : Nat → Int32} (k : An h ow v q) : am_fit (.object "MirrorPairs$Answer") v = true := by
  obtain ⟨a, rfl, -⟩ := k
  rfl
theorem TR_fit {h : am_Hp} {ow : ow_T} {t : Nat} {va vb : Value} {r : Nat → Int32} (k : TR h ow t va vb r) : am_fit (.object "MirrorPairs$Request") va = true ∧ am_fit (.object "MirrorPairs$Answer") vb = true := by
  rcases k with ⟨rfl, rfl, -⟩ | ⟨q, k1, rfl, -⟩ | ⟨q, s, k1, k2, -⟩
  · exact ⟨rfl, rfl⟩
  · exact ⟨Rq_fit k1, rfl⟩
  · exact ⟨Rq_fit k1, An_fit k2⟩
theorem SQ_fit {h : am_Hp} {ow : ow_T} {S : sm_I} {Y : sm_X} {s : ms} (k : SQ h ow S Y s) : am_fit (.object "MirrorPairs$Request") (Y 200 0) = true ∧ am_fit .boolean (.int (S 0 3)) = true := by
  obtain ⟨-, k2, k3, k4⟩ := k
  constructor
  · by_cases c : s.1 3 = 1
    · obtain ⟨q, t, k5, -⟩ := k3 c
      exact Rq_fit k5
    · rw [k4 c]
      rfl
  · rw [k2]
    split <;> rfl
def owc (ow : ow_T) (b : Nat) : ow_T := fun c => if b ≤ c ∧ c ≤ b + 8 then 20 + b else ow c
theorem ex_cp {w : Nat → Bool} {h h2 : am_Hp} {ow : ow_T} {k s b : Nat} (o : OW w h ow) (f : fr tbc h h2 k s) (hb : h.length ≤ b) : ex 0 ow h (owc ow b) h2 := by
  intro c hc _
  have := OW_lt o hc
  exact ⟨f.2.2.2 c (o.2.2 c hc).2.1 this, by unfold owc; rw [if_neg (by omega)]⟩
theorem OW_cp {w : Nat → Bool} {h h2 : am_Hp} {ow : ow_T} {k s b : Nat} (o : OW w h ow) (f : fr tbc h h2 k s) (hb : h.length ≤ b) (hb2 : b + 8 < h2.length) (hl : 62 ≤ h.length) : OW w h2 (owc ow b) := by
  refine ⟨o.1, fun a ha => ?_, fun a ha => ?_⟩
  · obtain ⟨q1, q2⟩ := o.2.1 a (Nat.le_trans f.1 ha)
    exact ⟨q1, by unfold owc; rw [if_neg (by omega)]; exact q2⟩
  · unfold owc at ha
    split at ha
    · exact ⟨(o.2.1 a (by omega)).1, tbc_out a (by omega), by omega⟩
    · exact o.2.2 a ha
theorem CD_cp {w : Nat → Bool} {e k s b : Nat} {m0 : mg} {h h2 : am_Hp} {I : sm_I} {Q : mQ} {Z : mZ} {X : sm_X} {ow : ow_T} {sb : Nat} (c : CD w e m0 h I Q Z X ow sb) (f : fr tbc h h2 k s) (hb : h.length ≤ b) (hb2 : b + 8 < h2.length) (hl : 62 ≤ h.length) : CD w e m0 h2 I Q Z X (owc ow b) sb :=
  CD_ex (z := 0) c (ex_cp c.1 f hb) (by omega) (by omega) (by omega) (OW_cp c.1 f hb hb2 hl)
theorem St_cp {w : Nat → Bool} {h h2 : am_Hp} {ow : ow_T} {k s b : Nat} {ad : Nat → Nat} {S : sm_I} {Y : sm_X} {z : ms} (o : OW w h ow) (f : fr tbc h h2 k s) (hb : h.length ≤ b) (hA : adk (adC ad b (b + 1))) (hw : ∀ i, 9 ≤ i → i < 12 → ow (ad i) = 1) (hs : sm (tbs (adC ad b (b + 1))) h2 S Y) (hq : SQ h ow S Y z) : St h2 (owc ow b) b z := by
  refine ⟨adC ad b (b + 1), S, Y, rfl, hA, fun i hi => ?_, fun i h1 h2 => ?_, hs, SQ_ex (ex_cp o f hb) (by omega) hq⟩
  · have : b ≤ adC ad b (b + 1) i ∧ adC ad b (b + 1) i ≤ b + 8 := by
      unfold adC
      split
      · omega
      · omega
    unfold owc
    rw [if_pos this]
  · have e : adC ad b (b + 1) i = ad i := by
      unfold adC
      rw [if_neg (by omega), if_neg (by omega)]
    have h3 := hw i h1 h2
    have h4 := OW_lt o (b := ad i) (by omega)
    rw [e]
    unfold owc
    rw [if_neg (by omega)]
    exact h3
/-! what is meant -/
def ohn (I : sm_I) (k : Nat) : Nat := if k = 0 then (if I 11 0 = 0 then 1 else 0) else (if I 11 k = 2 then 3 else 2)
def mgS (kd : Int32) (k : Nat) (td : Int32) (z : ms) : mg := (fun i => if i = 0 then kd else if i = 5 then nI k else if i = 6 then td else 0, z)
def msS (k : Nat) (kd : Int32) (M : mM) : mM := msnd (pn M.1 k) (ohn M.1 k) (mgS kd k (M.1 15 k + 1) (M.2.2 (rwi M.1 k))) (uI M.1 15 k (M.1 15 k + 1), M.2.1, M.2.2)
def msC (k : Nat) (M : mM) : mM := msS k 4 (uI (uI M.1 13 k 1) 14 k 0, M.2.1, M.2.2)
def mtl (k : Nat) (M : mM) : mM := if M.1 12 k = -1 then (if M.1 13 k = 0 then M else (uI M.1 14 k 1, M.2.1, M.2.2)) else (uI (msS k 3 M).1 16 k 1, (msS k 3 M).2)
def mgR (t : Nat) (r : Nat → Int32) : mg := (fun i => match i with
  | 0 => 1
  | 5 => nI t
  | 6 => r 11
  | 7 => r 0
  | 8 => r 5
  | 9 => r 2
  | 10 => r 3
  | 11 => r 4
  | _ => 0, mN)
def mgA (t : Nat) (F : Nat → Int32) : mg := (fun i => match i with
  | 0 => 2
  | 5 => nI t
  | 6 => F (6 + t)
  | 7 => F (8 + t)
  | 8 => F (10 + t)
  | 9 => F (12 + t)
  | 10 => F 0
  | _ => 0, mN)
def row1 (M : mM) (k : Nat) : Nat → Int32 := (M.2.2 (rwi M.1 k)).1
def mshw (t : Nat) (r : Nat → Int32) (I : sm_I) : sm_I := uI (uI (uI (uI (uI I 18 t 1) 19 (4 * t) (r 7)) 19 (4 * t + 1) (r 8)) 19 (4 * t + 2) (r 9)) 19 (4 * t + 3) (r 10)
/-- a terminal goes on -/
def mgo (t : Nat) (M : mM) : mM := if row1 M (1 + t) 1 = 1 then (if M.1 11 0 = -1 then (uI M.1 16 (1 + t) 2, M.2) else msnd (pn M.1 (1 + t)) (pn M.1 0) (mgR t (row1 M (1 + t))) (uI M.1 16 (1 + t) 2, M.2)) else if row1 M (1 + t) 6 = 1 then (mshw t (row1 M (1 + t)) (uI M.1 16 (1 + t) 0), M.2) else (uI M.1 16 (1 + t) 0, M.2)
def mal1 (t : Nat) (M : mM) : mM := if M.1 16 (1 + t) = 2 then mgo t M else M
def mal (M : mM) : mM := mal1 1 (mal1 0 M)
def mrp (t : Nat) (M : mM) : mM := if M.1 11 (1 + t) = -1 then M else msnd (pn M.1 0) (pn M.1 (1 + t)) (mgA t (row1 M 0)) M
theorem msnd_I {f t : Nat} {m : mg} {M : mM} {c : Nat} (h1 : c ≠ 9) (h2 : c ≠ 24) (h3 : c ≠ 25) : (msnd f t m M).1 c = M.1 c := by
  unfold msnd
  split
  · rfl
  · exact appI_o h1 h2 h3
theorem msnd_Z {f t : Nat} {m : mg} {M : mM} : (msnd f t m M).2.2 = M.2.2 := by
  unfold msnd
  split <;> rfl
theorem MF_S0 {h : am_Hp} {ow : ow_T} {sb b : Nat} {kd td : Int32} {z : ms} {vq va : Value} (hk : kd = 3 ∨ kd = 4) (hb : b ≠ sb) (k : St h ow b z) : MF h ow sb (mgS kd 0 td z) 0 td vq va (.ref b) := by
  refine ⟨fun c => ?_, fun c => ?_, fun c => ?_, fun _ => ⟨rfl, rfl, fun _ => ⟨b, rfl, hb, k⟩, fun c => ?_, fun c => ?_⟩⟩
  · rcases hk with rfl | rfl <;> exact absurd c (by simp [mgS])
  · rcases hk with rfl | rfl <;> exact absurd c (by simp [mgS])
  · rcases hk with rfl | rfl <;> exact absurd c (by simp [mgS])
  · exact absurd (show nI 0 = 1 from c) (by decide)
  · exact absurd (show nI 0 = 2 from c) (by decide)
theorem MF_S1 {h : am_Hp} {ow : ow_T} {sb t : Nat} {kd td : Int32} {z : ms} {vq va vs : Value} (hk : kd = 3 ∨ kd = 4) (ht : t < 2) (k : TR h ow t vq va z.1) : MF h ow sb (mgS kd (1 + t) td z) (nI (1 + t)) td vq va vs := by
  refine ⟨fun c => ?_, fun c => ?_, fun c => ?_, fun _ => ⟨rfl, rfl, fun c => ?_, fun c => ?_, fun c => ?_⟩⟩
  · rcases hk with rfl | rfl <;> exact absurd c (by simp [mgS])
  · rcases hk with rfl | rfl <;> exact absurd c (by simp [mgS])
  · rcases hk with rfl | rfl <;> exact absurd c (by simp [mgS])
  · have : nI (1 + t) = nI 0 := c
    rw [nI_eq (by omega) (by omega)] at this
    omega
  · have : nI (1 + t) = nI 1 := c
    rw [nI_eq (by omega) (by omega)] at this
    obtain rfl : t = 0 := by omega
    exact k
  · have : nI (1 + t) = nI 2 := c
    rw [nI_eq (by omega) (by omega)] at this
    obtain rfl : t = 1 := by omega
    exact k
theorem MF_R {h : am_Hp} {ow : ow_T} {sb t : Nat} {r : Nat → Int32} {vq va vs : Value} {pr td : Int32} (k : Rq h ow vq (fun i => (mgR t r).1 (5 + i))) : MF h ow sb (mgR t r) pr td vq va vs :=
  ⟨fun _ => k, fun c => absurd (show (1 : Int32) = 2 from c) (by decide), fun c => absurd (show (1 : Int32) = 5 from c) (by decide), fun c => absurd (show (1 : Int32) = 3 ∨ (1 : Int32) = 4 from c) (by decide)⟩
theorem MF_A {h : am_Hp} {ow : ow_T} {sb t : Nat} {r : Nat → Int32} {vq va vs : Value} {pr td : Int32} (k : An h ow va (fun i => (mgA t r).1 (5 + i))) : MF h ow sb (mgA t r) pr td vq va vs :=
  ⟨fun c => absurd (show (2 : Int32) = 1 from c) (by decide), fun _ => k, fun c => absurd (show (2 : Int32) = 5 from c) (by decide), fun c => absurd (show (2 : Int32) = 3 ∨ (2 : Int32) = 4 from c) (by decide)⟩
