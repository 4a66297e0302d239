/-! a method that makes cells and fills one: what stays -/
def qa (a : Nat) (h h2 : am_Hp) (k s : Nat) : Prop := h2.length = h.length + k ∧ am_sl h2 = am_sl h + s ∧ ∀ b, b < h.length → b ≠ a → h2[b]? = h[b]?
theorem qa_refl (a : Nat) (h : am_Hp) : qa a h h 0 0 := ⟨rfl, rfl, fun _ _ _ => rfl⟩
theorem qa_g {a : Nat} {h1 h2 h3 : am_Hp} {k s k' s' : Nat} (x : qa a h1 h2 k s) (y : gq h2 h3 k' s') : qa a h1 h3 (k + k') (s + s') := ⟨by have := x.1; have := y.1; omega, by have := x.2.1; have := y.2.1; omega, fun b hb hn => (y.2.2 b (by have := x.1; omega)).trans (x.2.2 b hb hn)⟩
theorem qa_p {a c : Nat} {h1 h2 h3 : am_Hp} {k s : Nat} (x : qa a h1 h2 k s) (y : pq c h2 h3) (hc : c = a ∨ h1.length ≤ c) : qa a h1 h3 k s := ⟨by have := x.1; have := y.1; omega, by have := x.2.1; have := y.2.1; omega, fun b hb hn => (y.2.2 b (by omega)).trans (x.2.2 b hb hn)⟩
theorem sm_qa {tb : sm_T} {h h2 : am_Hp} {I : sm_I} {X : sm_X} {a k s : Nat} (hs : sm tb h I X) (g : qa a h h2 k s) (ha : tb a = none) : sm tb h2 I X := by
  intro b hd ds hb
  have := hs b hd ds hb
  rw [g.2.2 b (lt_of this) (fun e => by rw [e, ha] at hb; cases hb)]
  exact this
theorem fr_qa {tb : sm_T} {h1 h2 h3 : am_Hp} {k s k' s' x : Nat} (a : fr tb h1 h2 k s) (b : qa x h2 h3 k' s') (hx : h1.length ≤ x) : fr tb h1 h3 (k + k') (s + s') := ⟨by have := a.1; have := b.1; omega, by have := a.2.1; have := b.1; omega, by have := a.2.2.1; have := b.2.1; omega, fun y hy hl => (b.2.2 y (Nat.lt_of_lt_of_le hl a.1) (by omega)).trans (a.2.2.2 y hy hl)⟩
/-- a state with other writes -/
def adW (ad : Nat → Nat) (L L1 L2 : Nat) : Nat → Nat := fun i => if i = 9 then L else if i = 10 then L1 else if i = 11 then L2 else ad i
def S0 (S : sm_I) : sm_I := fun c j => if c = 9 ∨ c = 10 ∨ (c = 0 ∧ j = 4) then 0 else S c j
theorem tbs_ne {ad : Nat → Nat} {L : Nat} (hA : adk ad) (h : tbs ad L = none) {i : Nat} (hi : i < 12) : ad i ≠ L := by
  intro e
  rw [← e, tbs_at hA hi] at h
  cases h
theorem adW_k {ad : Nat → Nat} {L L1 L2 : Nat} (hA : adk ad) (n0 : tbs ad L = none) (n1 : tbs ad L1 = none) (n2 : tbs ad L2 = none) (e1 : L < L1) (e2 : L1 < L2) : adk (adW ad L L1 L2) := by
  intro i j hi hj e
  have a1 := fun k (hk : k < 12) => tbs_ne hA n0 hk
  have a2 := fun k (hk : k < 12) => tbs_ne hA n1 hk
  have a3 := fun k (hk : k < 12) => tbs_ne hA n2 hk
  have b1 := a1 i hi
  have b2 := a2 i hi
  have b3 := a3 i hi
  have c1 := a1 j hj
  have c2 := a2 j hj
  have c3 := a3 j hj
  unfold adW at e
  split at e <;> split at e <;> (try split at e) <;> (try split at e) <;> (try split at e) <;> (try split at e) <;> first | omega | exact hA i j hi hj e
theorem rg_rep {S : sm_I} {Y : sm_X} {n c : Nat} (h : ∀ j, sm_v S Y (c, j) = .int 0) : ((List.range n).map (fun j => (c, j))).map (sm_v S Y) = List.replicate n (.int 0) := by
  rw [List.map_map]
  apply List.eq_replicate_iff.mpr
  refine ⟨by simp, fun b hb => ?_⟩
  simp only [List.mem_map] at hb
  obtain ⟨j, -, rfl⟩ := hb
  exact h j
theorem sm_sw {ad : Nat → Nat} {h h2 : am_Hp} {S : sm_I} {Y : sm_X} {L L1 L2 : Nat} (hA : adk ad) (hS : sm (tbs ad) h S Y) (hp : pq (ad 0) h h2) (h0 : h2[ad 0]? = some (.inl (5, ((tbsE ad 0).2.map (sm_v S Y)).set 13 (.ref L)))) (hL : h[L]? = some (.inl (6, [.ref L1, .ref L2, .int 0]))) (hL1 : h[L1]? = some (.inr (.int, List.replicate 35 (.int 0)))) (hL2 : h[L2]? = some (.inr (.int, List.replicate 175 (.int 0)))) (n0 : tbs ad L = none) (n1 : tbs ad L1 = none) (n2 : tbs ad L2 = none) : sm (tbs (adW ad L L1 L2)) h2 (S0 S) Y := by
  intro a hd ds hb
  obtain ⟨i, hi, rfl, e⟩ := tbs_of hb
  have q0 : adW ad L L1 L2 0 = ad 0 := rfl
  have old : ∀ i, i < 12 → i ≠ 0 → h2[ad i]? = h[ad i]? := fun i hi h0 => hp.2.2 _ (fun e => h0 (hA i 0 hi (by omega) e))
  match i, hi with
  | 0, _ => cases e; exact h0
  | 1, _ => cases e; exact (old 1 (by omega) (by omega)).trans (hS (ad 1) _ _ (tbs_at hA (by omega)))
  | 2, _ => cases e; exact (old 2 (by omega) (by omega)).trans (hS (ad 2) _ _ (tbs_at hA (by omega)))
  | 3, _ => cases e; exact (old 3 (by omega) (by omega)).trans (hS (ad 3) _ _ (tbs_at hA (by omega)))
  | 4, _ => cases e; exact (old 4 (by omega) (by omega)).trans (hS (ad 4) _ _ (tbs_at hA (by omega)))
  | 5, _ => cases e; exact (old 5 (by omega) (by omega)).trans (hS (ad 5) _ _ (tbs_at hA (by omega)))
  | 6, _ => cases e; exact (old 6 (by omega) (by omega)).trans (hS (ad 6) _ _ (tbs_at hA (by omega)))
  | 7, _ => cases e; exact (old 7 (by omega) (by omega)).trans (hS (ad 7) _ _ (tbs_at hA (by omega)))
  | 8, _ => cases e; exact (old 8 (by omega) (by omega)).trans (hS (ad 8) _ _ (tbs_at hA (by omega)))
  | 9, _ => cases e; exact (hp.2.2 _ (fun e => tbs_ne hA n0 (by omega) e.symm)).trans hL
  | 10, _ => cases e; exact ((hp.2.2 _ (fun e => tbs_ne hA n1 (by omega) e.symm)).trans hL1).trans (congrArg (fun z => some (sm_c (.inr .int) z)) (rg_rep (S := S0 S) (Y := Y) (c := 9) (fun j => rfl)).symm)
  | 11, _ => cases e; exact ((hp.2.2 _ (fun e => tbs_ne hA n2 (by omega) e.symm)).trans hL2).trans (congrArg (fun z => some (sm_c (.inr .int) z)) (rg_rep (S := S0 S) (Y := Y) (c := 10) (fun j => rfl)).symm)
theorem sc_0 {S : sm_I} {m : ms} (h : sc S m) : sc (S0 S) (m.1, m.2.1, []) := by
  obtain ⟨h1, h2, h3, h4, h5, h6, h7, h8, h9⟩ := h
  exact ⟨h1, h2, h3, rfl, h5, h6, h7, fun i x hi => (by simp at hi), fun q _ _ => rfl⟩
