/-! nothing that was there changes -/
def gle (h h2 : am_Hp) (k s : Nat) : Prop := h.length ≤ h2.length ∧ h2.length ≤ h.length + k ∧ am_sl h2 ≤ am_sl h + s ∧ ∀ b, b < h.length → h2[b]? = h[b]?
theorem gle_ss {tb : sm_T} {h h2 : am_Hp} {S : sm_I} {Y : sm_X} {k s : Nat} (a : sm tb h S Y) (b : sm tb h2 S Y) (f : fr tb h h2 k s) : gle h h2 k s := by
  refine ⟨f.1, f.2.1, f.2.2.1, fun x hl => ?_⟩
  cases e : tb x with
  | none => exact f.2.2.2 x e hl
  | some p =>
    obtain ⟨hd, ds⟩ := p
    rw [b x hd ds e, a x hd ds e]
theorem sm_gl {tb : sm_T} {h h2 : am_Hp} {I : sm_I} {X : sm_X} {k s : Nat} (a : sm tb h I X) (g : gle h h2 k s) : sm tb h2 I X := by
  intro x hd ds hb
  have := a x hd ds hb
  rw [g.2.2.2 x (lt_of this)]
  exact this
theorem fr_gl {tb : sm_T} {h1 h2 h3 : am_Hp} {k s k2 s2 : Nat} (a : fr tb h1 h2 k s) (g : gle h2 h3 k2 s2) : fr tb h1 h3 (k + k2) (s + s2) := fr_trans a ⟨g.1, g.2.1, g.2.2.1, fun b _ hl => g.2.2.2 b hl⟩
theorem rg_vc {S S2 : sm_I} {Y Y2 : sm_X} {n c : Nat} (hs : ∀ j, S2 c j = S c j) (hy : ∀ j, Y2 c j = Y c j) : ((List.range n).map (fun j => (c, j))).map (sm_v S2 Y2) = ((List.range n).map (fun j => (c, j))).map (sm_v S Y) := by
  apply List.map_congr_left
  intro d hd
  obtain ⟨j, -, rfl⟩ := List.mem_map.mp hd
  simp only [sm_v, hs, hy]
theorem sm_sb {ad : Nat → Nat} {h h2 : am_Hp} {S : sm_I} {Y : sm_X} {v : Int32} {r : Value} (hA : adk ad) (hS : sm (tbs ad) h S Y) (hp : pq (ad 0) h h2) (h0 : h2[ad 0]? = some (.inl (5, [.int (S 0 0), .ref (ad 1), .ref (ad 2), .ref (ad 3), .ref (ad 4), .ref (ad 5), .ref (ad 6), .ref (ad 7), .int (S 0 1), .int (S 0 2), .ref (ad 8), .int v, r, .ref (ad 9)]))) : sm (tbs ad) h2 (uI S 0 3 v) (uX Y 200 0 r) := by
  intro a hd ds hb
  obtain ⟨i, hi, rfl, e⟩ := tbs_of hb
  have old : ∀ i, i < 12 → i ≠ 0 → h2[ad i]? = h[ad i]? := fun i hi h0 => hp.2.2 _ (fun e => h0 (hA i 0 hi (by omega) e))
  have key : ∀ i, i < 12 → i ≠ 0 → (tbsE ad i).2.map (sm_v (uI S 0 3 v) (uX Y 200 0 r)) = (tbsE ad i).2.map (sm_v S Y) → h2[ad i]? = some (sm_c (tbsE ad i).1 ((tbsE ad i).2.map (sm_v (uI S 0 3 v) (uX Y 200 0 r)))) := fun i hi hn ek => by
    rw [old i hi hn, ek]
    exact hS (ad i) _ _ (tbs_at hA hi)
  match i, hi with
  | 0, _ => cases e; exact h0
  | 1, _ => cases e; exact key 1 (by omega) (by omega) (rg_vc (fun j => rfl) (fun j => rfl))
  | 2, _ => cases e; exact key 2 (by omega) (by omega) (rg_vc (fun j => rfl) (fun j => rfl))
  | 3, _ => cases e; exact key 3 (by omega) (by omega) (rg_vc (fun j => rfl) (fun j => rfl))
  | 4, _ => cases e; exact key 4 (by omega) (by omega) (rg_vc (fun j => rfl) (fun j => rfl))
  | 5, _ => cases e; exact key 5 (by omega) (by omega) (rg_vc (fun j => rfl) (fun j => rfl))
  | 6, _ => cases e; exact key 6 (by omega) (by omega) (rg_vc (fun j => rfl) (fun j => rfl))
  | 7, _ => cases e; exact key 7 (by omega) (by omega) (rg_vc (fun j => rfl) (fun j => rfl))
  | 8, _ => cases e; exact key 8 (by omega) (by omega) (rg_vc (fun j => rfl) (fun j => rfl))
  | 9, _ => cases e; exact key 9 (by omega) (by omega) rfl
  | 10, _ => cases e; exact key 10 (by omega) (by omega) (rg_vc (fun j => rfl) (fun j => rfl))
  | 11, _ => cases e; exact key 11 (by omega) (by omega) (rg_vc (fun j => rfl) (fun j => rfl))
theorem sc_34 {S S2 : sm_I} {m : ms} {F : Nat → Int32} (k : sc S m) (hF : ∀ j, j ≠ 3 → j ≠ 4 → F j = m.1 j) (hS : ∀ c j, ¬ (c = 0 ∧ j = 3) → S2 c j = S c j) : sc S2 (F, m.2.1, m.2.2) := by
  obtain ⟨h1, h2, h3, h4, h5, h6, h7, h8, h9⟩ := k
  refine ⟨?_, ?_, ?_, ?_, fun t ht => ?_, fun k hk => ?_, fun i e hi j hj => ?_, fun i x hi => ?_, fun q h1 h2 => ?_⟩
  · show S2 0 0 = F 0
    rw [hS _ _ (by omega), hF _ (by omega) (by omega)]; exact h1
  · show S2 0 1 = F 1
    rw [hS _ _ (by omega), hF _ (by omega) (by omega)]; exact h2
  · rw [hS _ _ (by omega)]; exact h3
  · rw [hS _ _ (by omega)]; exact h4
  · show S2 1 t = F (6 + t) ∧ S2 2 t = F (8 + t) ∧ S2 3 t = F (10 + t) ∧ S2 4 t = F (12 + t) ∧ S2 7 t = F (14 + t)
    rw [hS 1 _ (by omega), hS 2 _ (by omega), hS 3 _ (by omega), hS 4 _ (by omega), hS 7 _ (by omega), hF _ (by omega) (by omega), hF _ (by omega) (by omega), hF _ (by omega) (by omega), hF _ (by omega) (by omega), hF _ (by omega) (by omega)]; exact h5 t ht
  · show S2 5 k = F (16 + k) ∧ S2 6 k = F (32 + k)
    rw [hS 5 _ (by omega), hS 6 _ (by omega), hF _ (by omega) (by omega), hF _ (by omega) (by omega)]; exact h6 k hk
  · rw [hS _ _ (by omega)]; exact h7 i e hi j hj
  · obtain ⟨a, b⟩ := h8 i x hi
    refine ⟨?_, fun j hj => ?_⟩
    · rw [hS _ _ (by omega)]; exact a
    · rw [hS _ _ (by omega)]; exact b j hj
  · rw [hS _ _ (by omega)]; exact h9 q h1 h2
/-! what is meant: the store ends, begins, runs -/
def mfs (s : ms) : ms := (uF s.1 3 0, s.2.1, [])
def mfin0 (M : mM) : mM := (uI M.1 16 0 0, M.2.1, uZ M.2.2 (rwi M.1 0) (mfs (M.2.2 (rwi M.1 0))))
def mfin1 (M : mM) : mM := if row1 M 0 3 = 1 then mrp (row1 M 0 4).toNatClampNeg (mfin0 M) else if M.1 23 0 = 0 then mfin0 M else mal (mfin0 M)
def mfin (M : mM) : mM := (uI (mfin1 M).1 23 0 0, (mfin1 M).2)
def mbq (M : mM) : Nat → Int32 := fun i => M.1 20 i
def mbt (M : mM) : Nat := (mbq M 0).toNatClampNeg
def mps (s : ms) (t : Nat) (q : Nat → Int32) : ms := (uF (uF (mpf s t (q 1) (q 2) (q 3) (q 4) (q 5) (q 6)).1 3 1) 4 (nI t), (mpf s t (q 1) (q 2) (q 3) (q 4) (q 5) (q 6)).2)
def mbp (M : mM) : mM := (uI (uI (msh M.1) 22 0 0) 22 1 0, M.2.1, uZ M.2.2 (rwi M.1 0) (mps (M.2.2 (rwi M.1 0)) (mbt M) (mbq M)))
def mbeg (M : mM) : mM := if mord (row1 M 0) (mbq M) (mbt M) = 0 then mrp (mbt M) (msh M.1, M.2) else if mord (row1 M 0) (mbq M) (mbt M) ≤ 0 then (msh M.1, M.2) else if M.1 12 0 = -1 then (uI (mtl 0 (mbp M)).1 16 0 2, (mtl 0 (mbp M)).2) else mtl 0 (mbp M)
def mha (M : mM) : Bool := hall M.1 (M.1 22) (nI (M.2.2 (rwi M.1 0)).2.2.length)
def mru (M : mM) : mM := if M.1 16 0 = 2 ∧ mha M = true then mfin M else M
def mset : Nat → mM → mM
  | 0, M => M
  | n + 1, M => if (mru M).1 16 0 = 0 ∧ ¬ (mru M).1 21 0 = 0 then mset n (mbeg (mru M)) else mru M
theorem mrp_I {t c : Nat} {M : mM} (h1 : c ≠ 9) (h2 : c ≠ 24) (h3 : c ≠ 25) : (mrp t M).1 c = M.1 c := by
  unfold mrp
  split
  · rfl
  · exact msnd_I h1 h2 h3
theorem mrp_Z {t : Nat} {M : mM} : (mrp t M).2.2 = M.2.2 := by
  unfold mrp
  split
  · rfl
  · exact msnd_Z
theorem mgo_I {t c : Nat} {M : mM} (h1 : c ≠ 9) (h2 : c ≠ 24) (h3 : c ≠ 25) (h4 : c ≠ 16) (h5 : c ≠ 18) (h6 : c ≠ 19) : (mgo t M).1 c = M.1 c := by
  unfold mgo
  split
  · split
    · funext j; simp [uI, h4]
    · rw [msnd_I h1 h2 h3]; funext j; simp [uI, h4]
  · split
    · show mshw _ _ _ c = _
      rw [mshw_o h5 h6]; funext j; simp [uI, h4]
    · funext j; simp [uI, h4]
theorem mgo_16 {t j : Nat} {M : mM} (hj : j ≠ 1 + t) : (mgo t M).1 16 j = M.1 16 j := by
  unfold mgo
  split
  · split
    · simp [uI, hj]
    · rw [msnd_I (by omega) (by omega) (by omega)]; simp [uI, hj]
  · split
    · show mshw t (row1 M (1 + t)) (uI M.1 16 (1 + t) 0) 16 j = _
      rw [mshw_o (by omega) (by omega)]; simp [uI, hj]
    · simp [uI, hj]
theorem mgo_Z {t : Nat} {M : mM} : (mgo t M).2.2 = M.2.2 := by
  unfold mgo
  split
  · split
    · rfl
    · rw [msnd_Z]
  · split <;> rfl
theorem mal1_I {t c : Nat} {M : mM} (h1 : c ≠ 9) (h2 : c ≠ 24) (h3 : c ≠ 25) (h4 : c ≠ 16) (h5 : c ≠ 18) (h6 : c ≠ 19) : (mal1 t M).1 c = M.1 c := by
  unfold mal1
  split
  · exact mgo_I h1 h2 h3 h4 h5 h6
  · rfl
theorem mal1_16 {t j : Nat} {M : mM} (hj : j ≠ 1 + t) : (mal1 t M).1 16 j = M.1 16 j := by
  unfold mal1
  split
  · exact mgo_16 hj
  · rfl
theorem mal1_Z {t : Nat} {M : mM} : (mal1 t M).2.2 = M.2.2 := by
  unfold mal1
  split
  · exact mgo_Z
  · rfl
theorem mal_I {c : Nat} {M : mM} (h1 : c ≠ 9) (h2 : c ≠ 24) (h3 : c ≠ 25) (h4 : c ≠ 16) (h5 : c ≠ 18) (h6 : c ≠ 19) : (mal M).1 c = M.1 c := by
  unfold mal
  rw [mal1_I h1 h2 h3 h4 h5 h6, mal1_I h1 h2 h3 h4 h5 h6]
theorem mal_16 {j : Nat} {M : mM} (h1 : j ≠ 1) (h2 : j ≠ 2) : (mal M).1 16 j = M.1 16 j := by
  unfold mal
  rw [mal1_16 h2, mal1_16 h1]
theorem mal_Z {M : mM} : (mal M).2.2 = M.2.2 := by
  unfold mal
  rw [mal1_Z, mal1_Z]
theorem lv_c {I J : sm_I} {k : Nat} (e0 : J 0 = I 0) (e11 : J 11 = I 11) : lv J k = lv I k := by
  unfold lv pn
  rw [e0, e11]
