/-! what holds between calls -/
def b01 (x : Int32) : Prop := x = 0 ∨ x = 1
def K1 (I : sm_I) : Prop := ∀ p, p < 4 → b01 (I 0 p) ∧ b01 (I 1 p) ∧ (I 0 p = 1 → I 1 p = 0) ∧ (I 0 p = 0 → I 1 p = 0 → ∃ s, s < 6 ∧ I 2 p = nI s)
def K2 (I : sm_I) : Prop := (∀ d, d < 2 → b01 (I 3 d) ∧ b01 (I 4 d) ∧ b01 (I 5 d) ∧ (I 5 d = 0 → ∃ q, q < 49 ∧ I 6 d = nI q)) ∧ (I 5 0 = 1 → I 5 1 = 1 → I 4 0 = 1 ∧ I 4 1 = 1) ∧ (I 5 0 = 1 ∨ I 5 1 = 1)
def K3 (I : sm_I) (k : Nat) : Prop := prk I k ∧ b01 (I 13 k) ∧ b01 (I 14 k) ∧ (I 16 k = 0 ∨ I 16 k = 1 ∨ I 16 k = 2) ∧ (¬ I 12 k = -1 → I 13 k = 0 ∧ ¬ I 11 k = -1 ∧ I 40 k = 1 ∧ I 12 k = ohI I k) ∧ (I 16 k = 1 → ¬ I 12 k = -1 ∧ lv I k = true) ∧ (lv I k = false → I 16 k = 0) ∧ (I 11 k = -1 → I 13 k = 0)
/-- a declared processor is nobody's home -/
def KD (I : sm_I) : Prop := ∀ k, k < 3 → ∀ p, p < 4 → I 1 p = 1 → ¬ I 11 k = nI p ∧ ¬ I 12 k = nI p ∧ (I 13 k = 1 → ¬ ohI I k = nI p)
/-- a terminal's state -/
def TB (s : ms) : Prop := b01 (s.1 1) ∧ b01 (s.1 6)
def K4 (M : mM) (t : Nat) : Prop := lv M.1 (1 + t) = true → (M.1 16 (1 + t) = 2 → row1 M (1 + t) 1 = 1) ∧ (M.1 16 (1 + t) = 0 → row1 M (1 + t) 1 = 0) ∧ (M.1 16 (1 + t) = 1 → row1 M (1 + t) 1 = 0 → row1 M (1 + t) 6 = 1) ∧ row1 M (1 + t) 11 = M.1 17 t
def K5 (M : mM) : Prop := (lv M.1 0 = true → (row1 M 0 3 = 0 ↔ M.1 16 0 = 0)) ∧ (M.1 16 0 = 1 → M.1 22 0 = 0 ∧ M.1 22 1 = 0) ∧ b01 (M.1 23 0) ∧ (M.1 23 0 = 1 → M.1 16 0 = 2 ∧ row1 M 0 3 = 2) ∧ (lv M.1 0 = false → M.1 21 0 = 0 ∧ M.1 23 0 = 0) ∧ (∃ n, n ≤ 8 ∧ M.1 21 0 = nI n ∧ ∀ k, k < n → ∃ t, t < 2 ∧ M.1 20 (7 * k) = nI t) ∧ (M.1 16 0 = 2 → ∀ d, d < 2 → M.1 5 d = 1 → ∃ g, g ≤ (M.2.2 (rwi M.1 0)).2.2.length ∧ M.1 22 d = nI g)
/-- it has settled -/
def SD2 (M : mM) : Prop := (lv M.1 0 = true → M.1 16 0 = 2 → ∃ d, d < 2 ∧ M.1 5 d = 1 ∧ ¬ M.1 22 d = nI (M.2.2 (rwi M.1 0)).2.2.length) ∧ (lv M.1 0 = true → M.1 16 0 = 0 → M.1 21 0 = 0)
/-- whether a terminal's transaction has writes in the trail -/
def hoL (L : List ms_E) (t : Int32) : Nat := if awf L t (opn L t L.length) (L.length - opn L t L.length) = true then 1 else 0
/-- a store's state -/
def OK (s : ms) : Prop := SG s ∧ WB s ∧ EK s.2.1 ∧ bok s ∧ s.2.2.length ≤ 35 ∧ (s.1 3 = 0 ∨ s.1 3 = 1 ∨ s.1 3 = 2) ∧ (∃ t, t < 2 ∧ s.1 4 = nI t) ∧ (s.1 3 = 0 → s.2.2 = []) ∧ ∀ u, u < 2 → hoL s.2.1 (nI u) = 1 → ¬ s.1 (14 + u) = 0
theorem SD2_set {M : mM} {b : Nat} (k2 : K2 M.1) (k5 : K5 M) (hw : (M.2.2 (rwi M.1 0)).2.2.length < 2 ^ 20) (h : SD2 M) : rset b M = M := by
  cases b with
  | zero => rfl
  | succ b =>
    rw [rset_s]
    by_cases hl : lv M.1 0 = true
    · refine if_neg (fun z => ?_)
      obtain ⟨-, z⟩ := z
      rcases z with ⟨z1, z2⟩ | ⟨z1, z2⟩
      · obtain ⟨d, hd, h5, hg⟩ := h.1 hl z1
        obtain ⟨g, g1, g2⟩ := k5.2.2.2.2.2.2 z1 d hd h5
        generalize hn : (M.2.2 (rwi M.1 0)).2.2.length = n at *
        have hgn : g ≠ n := fun e => by subst e; exact hg g2
        have hn0 : ¬ nI n = 0 := fun e => by
          have := (nI_eq (a := n) (b := 0) (by omega) (by omega)).mp e
          omega
        unfold raw at z2
        rw [hn] at z2
        have hr : us M.1 d = true → raw1 M.1 (nI n) d = false := fun hu => by
          unfold raw1
          simp [hu, hg]
        rw [Bool.or_eq_true] at z2
        rcases z2 with z2 | z2
        · exact hn0 (by simpa using z2)
        · rw [Bool.and_eq_true, Bool.and_eq_true] at z2
          obtain ⟨⟨y1, y2⟩, y3⟩ := z2
          have hu : us M.1 d = true := by
            by_cases c : us M.1 d = true
            · exact c
            · exfalso
              obtain ⟨c1, c2, c3⟩ := k2
              have h4 : ∀ d', d' < 2 → us M.1 d' = true → M.1 4 d' = 1 ∧ M.1 5 d' = 1 := fun d' hd' hu' => by
                unfold us at hu'
                simp at hu'
                obtain ⟨u1, u2⟩ := hu'
                obtain ⟨-, v1, v2, -⟩ := c1 d' hd'
                exact ⟨v1.resolve_left u1, v2.resolve_left u2⟩
              have hdd : d = 0 ∨ d = 1 := by omega
              have mk : ∀ d', M.1 4 d' = 1 → M.1 5 d' = 1 → us M.1 d' = true := fun d' a b => by simp [us, a, b]
              rcases hdd with rfl | rfl
              · rw [Bool.or_eq_true] at y1
                rcases y1 with y1 | y1
                · exact c y1
                · exact c (mk 0 (c2 h5 (h4 1 (by omega) y1).2).1 h5)
              · rw [Bool.or_eq_true] at y1
                rcases y1 with y1 | y1
                · exact c (mk 1 (c2 (h4 0 (by omega) y1).2 h5).2 h5)
                · exact c y1
          have := hr hu
          have hdd : d = 0 ∨ d = 1 := by omega
          rcases hdd with rfl | rfl
          · rw [y2] at this; cases this
          · rw [y3] at this; cases this
      · have := h.2 hl z1
        rw [this] at z2
        exact absurd z2 (by decide)
    · exact if_neg (fun z => hl z.1)
/-! links, states, what is told, the discs -/
def tri (x : Int32) : Prop := x = -1 ∨ x = 0 ∨ x = 1
/-- a link's numbers: the latest issued, the latest taken -/
def KN (X : Nat) (I : sm_I) (Q : mQ) (l : Nat) : Prop := ∃ N T, N ≤ X ∧ I 9 l = nI N ∧ I 10 l = nI T ∧ T ≤ N ∧ N ≤ T + (Q l).length ∧ T + (Q l).length ≤ N + 1 ∧ ∀ (i : Nat) (m : mg), (Q l)[i]? = some m → m.1 1 = nI (N + 1 + i - (Q l).length)
def K6 (X : Nat) (I : sm_I) (Q : mQ) (l : Nat) : Prop := (¬ Q l = [] → I 0 (l / 4) = 1 ∧ I 0 (l % 4) = 1 ∧ ¬ l / 4 = l % 4) ∧ (Q l = [] → I 24 l = -1 ∧ I 25 l = -1) ∧ tri (I 24 l) ∧ tri (I 25 l) ∧ (∀ (i : Nat) (m : mg), (Q l)[i]? = some m → MK m) ∧ KN X I Q l
def K7 (X : Nat) (M : mM) : Prop := OK (M.2.2 0) ∧ OK (M.2.2 1) ∧ (∀ i, 2 ≤ i → i < 6 → TB (M.2.2 i)) ∧ (∀ l, l < 16 → ∀ (i : Nat) (m : mg), (M.2.1 l)[i]? = some m → isS m = true → (m.1 5 = 0 → OK m.2) ∧ ∀ t, t < 2 → m.1 5 = nI (1 + t) → TB m.2 ∧ m.2.1 11 = M.1 17 t) ∧ ∀ t, t < 2 → (M.1 40 (1 + t) = 1 → (M.2.2 (rwo M.1 (1 + t))).1 11 = M.1 17 t) ∧ ∃ n, n ≤ X ∧ M.1 17 t = nI n
def lk (I : sm_I) (k : Nat) : Nat := 4 * pn I k + ohn I k
def lb (I : sm_I) (k : Nat) : Nat := 4 * ohn I k + pn I k
/-- a state of pair k on its way -/
def US (I : sm_I) (Q : mQ) (k i : Nat) (m : mg) : Prop := (Q (lk I k))[i]? = some m ∧ isS m = true ∧ m.1 5 = nI k ∧ ¬ m.1 1 ≤ I 10 (lk I k)
/-- the word of what was told last on its way -/
def UW (I : sm_I) (Q : mQ) (k i : Nat) (m : mg) : Prop := (Q (lb I k))[i]? = some m ∧ m.1 0 = 5 ∧ m.1 5 = nI k ∧ m.1 6 = I 15 k ∧ ¬ m.1 1 ≤ I 10 (lb I k)
def K8 (X : Nat) (I : sm_I) (Q : mQ) (k : Nat) : Prop := (∃ n, n ≤ X ∧ I 15 k = nI n ∧ ∀ l, l < 16 → ∀ (i : Nat) (m : mg), (Q l)[i]? = some m → m.1 5 = nI k → (isS m = true ∨ m.1 0 = 5) → (∃ w, w ≤ n ∧ m.1 6 = nI w) ∧ ¬ I 11 k = -1 ∧ (isS m = true → l = lk I k) ∧ (m.1 0 = 5 → l = lb I k ∧ I 40 k = 1)) ∧ (∀ i j m m', US I Q k i m → US I Q k j m' → i = j) ∧ ∀ i m, US I Q k i m → m.1 6 = I 15 k ∧ (I 16 k = 1 ∨ I 13 k = 1) ∧ ∀ j w, ¬ UW I Q k j w
/-- a disc after writes -/
def ap1 (f : Nat → Int32) (x : ms_W) : Nat → Int32 := fun j => if 5 * x.1.toNatClampNeg ≤ j ∧ j < 5 * x.1.toNatClampNeg + 5 then wn x (1 + (j - 5 * x.1.toNatClampNeg)) else f j
def apl (f : Nat → Int32) (W : List ms_W) : Nat → Int32 := W.foldl ap1 f
def LG (X : Nat) (f : Nat → Int32) : Prop := ∃ g, g ≤ X ∧ f 80 = nI g ∧ (∀ i, i < 32 → ∃ a, f (85 + 5 * i) = nI a ∧ a ≤ g ∧ ((rdL f).length ≤ i → a < g)) ∧ (rdL f).length + hoL (rdL f) (nI 0) + hoL (rdL f) (nI 1) ≤ 32 ∧ rok (rdL f) (nI 0) ∧ rok (rdL f) (nI 1) ∧ EK (rdL f)
def lge (f g : Nat → Int32) : Prop := f 80 = g 80 ∧ ∀ j, 85 ≤ j → j < 245 → f j = g j
/-- a place to begin the writes of s at -/
def GB (X : Nat) (f : Nat → Int32) (s : ms) : Prop := (∀ j, j ≤ s.2.2.length → LG X (apl f (s.2.2.take j))) ∧ apl f s.2.2 80 = s.1 1 ∧ rdL (apl f s.2.2) = s.2.1 ∧ ∀ (i j : Nat) (x y : ms_W), s.2.2[i]? = some x → s.2.2[j]? = some y → x.1 = y.1 → i = j ∨ ∃ q, q < 16 ∧ x.1 = nI q
/-- at least n writes of s are on the disc -/
def DR (X : Nat) (f : Nat → Int32) (s : ms) (n : Nat) : Prop := ∃ f0 p, n ≤ p ∧ p ≤ s.2.2.length ∧ lge f (apl f0 (s.2.2.take p)) ∧ GB X f0 s
def leq (s s' : ms) : Prop := s.1 1 = s'.1 1 ∧ s.2 = s'.2
def K9 (X : Nat) (M : mM) : Prop := ∀ d, d < 2 → M.1 5 d = 1 → LG X (dsk M.1 d) ∧ (lv M.1 0 = true → ∃ n, DR X (dsk M.1 d) (M.2.2 (rwi M.1 0)) n ∧ (M.1 16 0 = 2 → M.1 22 d = nI n)) ∧ (¬ M.1 12 0 = -1 → DR X (dsk M.1 d) (M.2.2 (rwo M.1 0)) 0) ∧ ((¬ M.1 12 0 = -1 ∨ (M.1 13 0 = 1 ∧ M.1 14 0 = 0)) → ∀ i m, US M.1 M.2.1 0 i m → DR X (dsk M.1 d) m.2 0) ∧ (M.1 13 0 = 1 → M.1 14 0 = 0 → ∀ i m, UW M.1 M.2.1 0 i m → DR X (dsk M.1 d) (M.2.2 (rwo M.1 0)) 0)
/-- what was told is what the store is at -/
def K10 (M : mM) : Prop := (M.1 16 0 = 2 → ¬ M.1 12 0 = -1 → leq (M.2.2 (rwo M.1 0)) (M.2.2 (rwi M.1 0))) ∧ ((M.1 16 0 = 1 ∨ (M.1 16 0 = 2 ∧ M.1 13 0 = 1 ∧ M.1 14 0 = 0)) → (∀ i m, US M.1 M.2.1 0 i m → leq m.2 (M.2.2 (rwi M.1 0))) ∧ ∀ i m, UW M.1 M.2.1 0 i m → leq (M.2.2 (rwo M.1 0)) (M.2.2 (rwi M.1 0)))
/-- the copied blocks of a revived disc -/
def K11 (I : sm_I) : Prop := ∀ d, d < 2 → I 5 d = 0 → I 4 d = 1 → ∀ q, I 6 d = nI q → ∀ j, j < 5 * q → q < 49 → dsk I d j = dsk I (1 - d) j
def MID (X : Nat) (M : mM) : Prop := K1 M.1 ∧ K2 M.1 ∧ (∀ k, k < 3 → K3 M.1 k) ∧ (∀ t, t < 2 → K4 M t) ∧ K5 M ∧ (∀ l, l < 16 → K6 X M.1 M.2.1 l) ∧ K7 X M ∧ (∀ k, k < 3 → K8 X M.1 M.2.1 k) ∧ K9 X M ∧ K10 M ∧ K11 M.1
def INV (X : Nat) (M : mM) : Prop := MID X M ∧ SD2 M
