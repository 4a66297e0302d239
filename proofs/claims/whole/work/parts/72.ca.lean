/-! the class's heap as it is meant. I: ints by component; Q: the links' messages; Z: the states by pair and home (2 k + home % 2). e: 32, or l while link l has one more in front (m0), or 16 + l while its bus is not to be looked at -/
abbrev mQ : Type := Nat → List mg
abbrev mZ : Type := Nat → ms
def cq (e : Nat) (m0 : mg) (Q : mQ) (l : Nat) : List mg := if e = l then m0 :: Q l else Q l
def BT (e : Nat) (I : sm_I) (Q : mQ) (X : sm_X) (l : Nat) : Prop :=
  (e = l → (∃ b b' : Int32, X 203 l = .int b ∧ X 204 l = .int b') ∧ I 24 l = (if Q l = [] then -1 else fbu I) ∧ I 25 l = (if Q l = [] then -1 else fbu I)) ∧
  (e = 16 + l → (∃ b : Int32, X 203 l = .int b) ∧ X 204 l = .int (I 25 l) ∧ ¬ Q l = [] ∧ I 24 l = -1) ∧
  (¬ e = l → ¬ e = 16 + l → X 203 l = .int (I 24 l) ∧ X 204 l = .int (I 25 l))
def rwi (I : sm_I) (k : Nat) : Nat := 2 * k + pn I k % 2
def rwo (I : sm_I) (k : Nat) : Nat := 2 * k + (1 - pn I k % 2)
/-- labels: cells that may be written, out of the fixed ones -/
def OW (w : Nat → Bool) (h : am_Hp) (ow : ow_T) : Prop := (∀ a, (tbc a).isSome = true → w a = true) ∧ (∀ a, h.length ≤ a → w a = true ∧ ow a = 0) ∧ ∀ a, ow a ≠ 0 → w a = true ∧ tbc a = none ∧ a ≠ 0
def co (h : am_Hp) (I : sm_I) : Nat := 12 * h.length + am_sl h + 700 * (I 21 0).toNatClampNeg
def TM (h : am_Hp) (ow : ow_T) (I : sm_I) (Z : mZ) (X : sm_X) (t : Nat) : Prop :=
  (lv I (1 + t) = true → TR h ow t (X 211 t) (X 212 t) (Z (rwi I (1 + t))).1) ∧
  (I 40 (1 + t) = 1 → TR h ow t (X 213 t) (X 214 t) (Z (rwo I (1 + t))).1) ∧
  (I 18 t = 0 → X 215 t = .null) ∧
  (¬ I 18 t = 0 → ∃ s, An h ow (X 215 t) s ∧ s 2 = I 19 (4 * t) ∧ s 3 = I 19 (4 * t + 1) ∧ s 4 = I 19 (4 * t + 2) ∧ s 5 = I 19 (4 * t + 3))
def SP (h : am_Hp) (ow : ow_T) (sb : Nat) (I : sm_I) (Z : mZ) (X : sm_X) : Prop :=
  X 208 0 = .ref sb ∧ (lv I 0 = true → St h ow sb (Z (rwi I 0))) ∧
  (I 40 0 = 1 → ∃ b, X 209 0 = .ref b ∧ b ≠ sb ∧ St h ow b (Z (rwo I 0))) ∧
  ∃ n, n ≤ 8 ∧ I 21 0 = nI n ∧ ∀ k, k < n → Rq h ow (X 210 k) (fun i => I 20 (7 * k + i))
def DT (I : sm_I) (X : sm_X) : Prop := (∀ d, d < 2 → ∃ n : Int32, X 205 d = .int n ∧ (¬ I 4 d = 0 → n = I 6 d)) ∧ (∀ d, d < 2 → ∃ n : Int32, X 206 d = .int n ∧ (I 16 0 = 2 → n = I 22 d)) ∧ ∀ k, k < 3 → X 207 k = .int (if I 12 k = -1 then 0 else 1)
/-- the parts that are not fixed cells -/
def CD (w : Nat → Bool) (e : Nat) (m0 : mg) (h : am_Hp) (I : sm_I) (Q : mQ) (Z : mZ) (X : sm_X) (ow : ow_T) (sb : Nat) : Prop :=
  OW w h ow ∧ (∀ l, l < 16 → LK h ow sb l X (cq e m0 Q l)) ∧ (∀ l, l < 16 → BT e I Q X l) ∧ DT I X ∧ SP h ow sb I Z X ∧ (∀ t, t < 2 → TM h ow I Z X t) ∧ ∀ k, k < 3 → prk I k
abbrev mM : Type := sm_I × mQ × mZ
def CA (w : Nat → Bool) (e : Nat) (m0 : mg) (B : Nat) (h : am_Hp) (M : mM) : Prop := ∃ X ow sb, sm tbc h M.1 X ∧ CD w e m0 h M.1 M.2.1 M.2.2 X ow sb ∧ co h M.1 ≤ B ∧ ∀ l, l < 16 → (M.2.1 l).length ≤ h.length
theorem TM_ex {z : Nat} {h h2 : am_Hp} {ow ow2 : ow_T} {I : sm_I} {Z : mZ} {X : sm_X} {t : Nat} (e : ex z ow h ow2 h2) (hz : z ≠ 1) (k : TM h ow I Z X t) : TM h2 ow2 I Z X t := by
  obtain ⟨k1, k2, k3, k4⟩ := k
  refine ⟨fun c => TR_ex e hz (k1 c), fun c => TR_ex e hz (k2 c), k3, fun c => ?_⟩
  obtain ⟨s, a, b⟩ := k4 c
  exact ⟨s, An_ex e hz a, b⟩
theorem SP_ex {z : Nat} {h h2 : am_Hp} {ow ow2 : ow_T} {sb : Nat} {I : sm_I} {Z : mZ} {X : sm_X} (e : ex z ow h ow2 h2) (hz : z < 20) (hz1 : z ≠ 1) (k : SP h ow sb I Z X) : SP h2 ow2 sb I Z X := by
  obtain ⟨k1, k2, k3, n, k4, k5, k6⟩ := k
  refine ⟨k1, fun c => St_ex e hz1 (by omega) (k2 c), fun c => ?_, n, k4, k5, fun k hk => Rq_ex e hz1 (k6 k hk)⟩
  obtain ⟨b, b1, b2, b3⟩ := k3 c
  exact ⟨b, b1, b2, St_ex (b := b) e hz1 (by omega) b3⟩
/-- nothing but fixed cells changed, or cells without a label -/
theorem ex_e {ow : ow_T} {w : Nat → Bool} {h h2 : am_Hp} (o : OW w h ow) (e : sm_e tbc h h2) : ex 0 ow h ow h2 := fun b hb _ => ⟨e.2.2 b (o.2.2 b hb).2.1, rfl⟩
theorem OW_e {ow : ow_T} {w : Nat → Bool} {h h2 : am_Hp} (o : OW w h ow) (e : h2.length = h.length) : OW w h2 ow := ⟨o.1, fun a ha => o.2.1 a (by omega), o.2.2⟩
