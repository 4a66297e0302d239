/-! the pools of messages and of states: chains of slots, free lists -/
def nxr (L : List Nat) (j : Nat) : Int32 := match L[j]? with
  | some x => nI (13 * x)
  | none => -1
def nxs (L : List Nat) (j : Nat) : Int32 := match L[j]? with
  | some x => nI x
  | none => -1
def mwn (kd : Int32) : Nat := if kd = 1 then 6 else if kd = 2 then 5 else 1
def isS (m : mg) : Bool := decide (m.1 0 = 3) || decide (m.1 0 = 4)
/-- a lock is nobody's or a terminal's -/
def LKs (s : ms) : Prop := ∀ q, q < 16 → s.1 (32 + q) = -1 ∨ s.1 (32 + q) = 0 ∨ s.1 (32 + q) = 1
/-- a row that is the meant state: a store's wholly, a terminal's first words -/
def RZ (K : sm_I) (b : Bool) (r : Nat) (s : ms) : Prop := (b = true → RS K r s ∧ s.2.1.length ≤ 32 ∧ s.2.2.length ≤ 41 ∧ LKs s) ∧ (b = false → ∀ j, j < 12 → K 51 (424 * r + j) = s.1 j)
def MS (K : sm_I) (ro : Nat → Nat) (x : Nat) (m : mg) : Prop := K 50 (13 * x) = m.1 0 ∧ K 50 (13 * x + 1) = m.1 1 ∧ K 50 (13 * x + 5) = m.1 5 ∧ (∀ i, i < mwn (m.1 0) → K 50 (13 * x + 6 + i) = m.1 (6 + i)) ∧ (isS m = false → K 50 (13 * x + 12) = -1) ∧ (isS m = true → ∃ r, 6 ≤ r ∧ r < 12 ∧ K 50 (13 * x + 12) = nI r ∧ ro r = x + 1 ∧ RZ K (decide (m.1 5 = 0)) r m.2)
def PF (K : sm_I) (F : List Nat) (o : Nat → Nat) (rm ln : Nat) : Prop := K 52 0 = nI rm ∧ rm ≤ ln ∧ K 52 1 = nxr F 0 ∧ F.Nodup ∧ ∀ (i x : Nat), F[i]? = some x → x < rm ∧ o x = 0 ∧ K 50 (13 * x + 4) = nxr F (i + 1)
def PC (L : Nat → List Nat) (o : Nat → Nat) (rm : Nat) : Prop := ∀ l, l < 16 → (L l).Nodup ∧ ∀ (i x : Nat), (L l)[i]? = some x → x < rm ∧ o x = 1 + l
def PB (I K : sm_I) (L : Nat → List Nat) : Prop := ∀ l, l < 16 → K 53 l = nxr (L l) 0 ∧ K 55 l = nI (L l).length ∧ (L l ≠ [] → K 54 l = nxr (L l) ((L l).length - 1)) ∧ ∀ (i x : Nat), (L l)[i]? = some x → K 50 (13 * x + 4) = nxr (L l) (i + 1) ∧ K 50 (13 * x + 2) = (if i = 0 then I 24 l else -1) ∧ K 50 (13 * x + 3) = (if i = 0 then I 25 l else -1)
def PM (K : sm_I) (Q : mQ) (L : Nat → List Nat) (ro : Nat → Nat) (e : Nat) : Prop := ∀ l, l < 16 → (L l).length = (Q l).length ∧ ∀ (i x : Nat) (m : mg), (L l)[i]? = some x → (Q l)[i]? = some m → x + 1 ≠ e → MS K ro x m
def PG (K : sm_I) (G : List Nat) (ro : Nat → Nat) (sr : Nat) : Prop := K 52 2 = nI sr ∧ 6 ≤ sr ∧ sr ≤ 12 ∧ K 52 3 = nxs G 0 ∧ G.Nodup ∧ (∀ (i r : Nat), G[i]? = some r → 6 ≤ r ∧ r < sr ∧ ro r = 0 ∧ K 51 (424 * r) = nxs G (i + 1)) ∧ ∀ r, sr ≤ r → ro r = 0
def sq (Q : mQ) : Nat := ((List.range 16).map (fun l => (Q l).countP isS)).sum
/-- slots that are looked at: out of the chains (hb), or in one -/
def PH (K : sm_I) (H : List (Nat × mg)) (hb : Bool) (o ro : Nat → Nat) (e rm : Nat) : Prop := ∀ (x : Nat) (m : mg), (x, m) ∈ H → x < rm ∧ x + 1 ≠ e ∧ MS K ro x m ∧ (hb = true → o x = 17) ∧ (hb = false → ∃ l, l < 16 ∧ o x = 1 + l)
def hc (H : List (Nat × mg)) (hb : Bool) : Nat := if hb = true then H.countP (fun p => isS p.2) else 0
def RP (I K : sm_I) (Q : mQ) (H : List (Nat × mg)) (hb : Bool) (L : Nat → List Nat) (F G : List Nat) (o ro : Nat → Nat) (e rm sr ln dd : Nat) : Prop := PF K F o rm ln ∧ PC L o rm ∧ PB I K L ∧ PM K Q L ro e ∧ PG K G ro sr ∧ PH K H hb o ro e rm ∧ G.length + sq Q + hc H hb + dd + 6 = sr
def RR (K : sm_I) (Z : mZ) : Prop := ∀ i, i < 6 → RZ K (decide (i < 2)) i (Z i)
def HB (w : Nat → Bool) (h : am_Hp) (am ln B : Nat) : Prop := (∀ a, 62 ≤ a → a ≤ 88 → w a = true) ∧ w am = true ∧ (∀ a, h.length ≤ a → w a = true) ∧ 12 * h.length + am_sl h ≤ B + 27 * ln ∧ rk am 77 ∧ 32 ≤ ln ∧ am < h.length ∧ 89 ≤ h.length
def RA (w : Nat → Bool) (B R : Nat) (H : List (Nat × mg)) (hb : Bool) (h : am_Hp) (M : mM) : Prop := ∃ K Y am ln L F G o ro rm sr, sm (tbr am (13 * ln) 77 5088) h (jn M.1 K) Y ∧ HB w h am ln B ∧ RP M.1 K M.2.1 H hb L F G o ro 0 rm sr ln 0 ∧ RR K M.2.2 ∧ rm + 2 * stn M.1 ≤ R ∧ ln ≤ 32 + 2 * rm
/-! what keeps them -/
theorem RZ_c {K K' : sm_I} {b : Bool} {r : Nat} {s : ms} (e : ∀ j, j < 424 → K' 51 (424 * r + j) = K 51 (424 * r + j)) (k : RZ K b r s) : RZ K' b r s := by
  obtain ⟨k1, k2⟩ := k
  refine ⟨fun hb => ?_, fun hb j hj => ?_⟩
  · obtain ⟨⟨a1, a2, a3, a4, a5⟩, b1, b2⟩ := k1 hb
    refine ⟨⟨fun j h1 h2 h3 => ?_, ?_, ?_, fun i x hi j hj => ?_, fun i x hi j hj => ?_⟩, b1, b2⟩
    · rw [e j (by omega)]; exact a1 j h1 h2 h3
    · rw [e 2 (by omega)]; exact a2
    · rw [e 5 (by omega)]; exact a3
    · have hl := (List.getElem?_eq_some_iff.mp hi).1
      have z := e (48 + 4 * i + j) (by omega)
      rw [show 424 * r + (48 + 4 * i + j) = 424 * r + 48 + 4 * i + j by omega] at z
      rw [z]
      exact a4 i x hi j hj
    · have hl := (List.getElem?_eq_some_iff.mp hi).1
      have z := e (176 + 6 * i + j) (by omega)
      rw [show 424 * r + (176 + 6 * i + j) = 424 * r + 176 + 6 * i + j by omega] at z
      rw [z]
      exact a5 i x hi j hj
  · rw [e j (by omega)]
    exact k2 hb j hj
theorem MS_c {K K' : sm_I} {ro ro' : Nat → Nat} {x : Nat} {m : mg} (e : ∀ j, j < 13 → j ≠ 2 → j ≠ 3 → j ≠ 4 → K' 50 (13 * x + j) = K 50 (13 * x + j)) (er : ∀ r, 6 ≤ r → r < 12 → ro r = x + 1 → ro' r = x + 1 ∧ ∀ j, j < 424 → K' 51 (424 * r + j) = K 51 (424 * r + j)) (k : MS K ro x m) : MS K' ro' x m := by
  obtain ⟨k1, k2, k3, k4, k5, k6⟩ := k
  have e0 := e 0 (by omega) (by omega) (by omega) (by omega)
  rw [Nat.add_zero] at e0
  refine ⟨by rw [e0]; exact k1, by rw [e 1 (by omega) (by omega) (by omega) (by omega)]; exact k2, by rw [e 5 (by omega) (by omega) (by omega) (by omega)]; exact k3, fun i hi => ?_, fun hm => ?_, fun hm => ?_⟩
  · have hw : mwn (m.1 0) ≤ 6 := by
      unfold mwn
      split
      · omega
      · split <;> omega
    have z := e (6 + i) (by omega) (by omega) (by omega) (by omega)
    rw [show 13 * x + (6 + i) = 13 * x + 6 + i by omega] at z
    rw [z]
    exact k4 i hi
  · rw [e 12 (by omega) (by omega) (by omega) (by omega)]; exact k5 hm
  · obtain ⟨r, r1, r2, r3, r4, r5⟩ := k6 hm
    obtain ⟨q1, q2⟩ := er r r1 r2 r4
    exact ⟨r, r1, r2, by rw [e 12 (by omega) (by omega) (by omega) (by omega)]; exact r3, q1, RZ_c q2 r5⟩
/-- a state's row of slot x is no free one -/
theorem RP_I {I I' K : sm_I} {Q : mQ} {H : List (Nat × mg)} {hb : Bool} {L : Nat → List Nat} {F G : List Nat} {o ro : Nat → Nat} {e rm sr ln dd : Nat} (h4 : ∀ l, l < 16 → I' 24 l = I 24 l) (h5 : ∀ l, l < 16 → I' 25 l = I 25 l) (k : RP I K Q H hb L F G o ro e rm sr ln dd) : RP I' K Q H hb L F G o ro e rm sr ln dd := by
  obtain ⟨k1, k2, k3, k4, k5⟩ := k
  refine ⟨k1, k2, fun l hl => ?_, k4, k5⟩
  rw [h4 l hl, h5 l hl]
  exact k3 l hl
/-- the fixed rows are nobody's -/
theorem RP_row {I K K' : sm_I} {Q : mQ} {H : List (Nat × mg)} {hb : Bool} {L : Nat → List Nat} {F G : List Nat} {o ro : Nat → Nat} {e rm sr ln dd : Nat} (he : ∀ c j, 50 ≤ c → (c = 51 → 2544 ≤ j) → K' c j = K c j) (k : RP I K Q H hb L F G o ro e rm sr ln dd) : RP I K' Q H hb L F G o ro e rm sr ln dd := by
  obtain ⟨⟨a1, a2, a3, a4, a5⟩, k2, k3, k4, ⟨g1, g2, g3, g4, g5, g6, g7⟩, k6, k7⟩ := k
  have m0 : ∀ x m, MS K ro x m → MS K' ro x m := fun x m h => MS_c (fun j _ _ _ _ => he 50 _ (by omega) (by omega)) (fun r r1 r2 r3 => ⟨r3, fun j hj => he 51 _ (by omega) (by omega)⟩) h
  refine ⟨⟨by rw [he 52 0 (by omega) (by omega)]; exact a1, a2, by rw [he 52 1 (by omega) (by omega)]; exact a3, a4, fun i x hi => ?_⟩, k2, fun l hl => ?_, fun l hl => ?_, ⟨by rw [he 52 2 (by omega) (by omega)]; exact g1, g2, g3, by rw [he 52 3 (by omega) (by omega)]; exact g4, g5, fun i r hi => ?_, g7⟩, fun x m hx => ?_, k7⟩
  · obtain ⟨b1, b2, b3⟩ := a5 i x hi
    exact ⟨b1, b2, by rw [he 50 _ (by omega) (by omega)]; exact b3⟩
  · obtain ⟨b1, b2, b3, b4⟩ := k3 l hl
    refine ⟨by rw [he 53 _ (by omega) (by omega)]; exact b1, by rw [he 55 _ (by omega) (by omega)]; exact b2, fun h => by rw [he 54 _ (by omega) (by omega)]; exact b3 h, fun i x hi => ?_⟩
    rw [he 50 _ (by omega) (by omega), he 50 _ (by omega) (by omega), he 50 _ (by omega) (by omega)]
    exact b4 i x hi
  · obtain ⟨b1, b2⟩ := k4 l hl
    exact ⟨b1, fun i x m hi hm hx => m0 x m (b2 i x m hi hm hx)⟩
  · obtain ⟨b1, b2, b3, b4⟩ := g6 i r hi
    exact ⟨b1, b2, b3, by rw [he 51 _ (by omega) (by omega)]; exact b4⟩
  · obtain ⟨b1, b2, b3, b4⟩ := k6 x m hx
    exact ⟨b1, b2, m0 x m b3, b4⟩
def uL (L : Nat → List Nat) (l : Nat) (q : List Nat) : Nat → List Nat := fun k => if k = l then q else L k
theorem uL_s {L : Nat → List Nat} {l : Nat} {q : List Nat} : uL L l q l = q := if_pos rfl
theorem uL_n {L : Nat → List Nat} {l k : Nat} {q : List Nat} (h : k ≠ l) : uL L l q k = L k := if_neg h
theorem uQ_s {Q : mQ} {l : Nat} {q : List mg} : uQ Q l q l = q := if_pos rfl
theorem uQ_n {Q : mQ} {l k : Nat} {q : List mg} (h : k ≠ l) : uQ Q l q k = Q k := if_neg h
theorem owx_s {o : ow_T} {x z : Nat} : owx o x z x = z := if_pos rfl
theorem owx_n {o : ow_T} {x y z : Nat} (h : y ≠ x) : owx o x z y = o y := if_neg h
theorem sum_u (f g : Nat → Nat) (l : Nat) (h : ∀ i, i ≠ l → g i = f i) : ∀ n, l < n → ((List.range n).map g).sum + f l = ((List.range n).map f).sum + g l := by
  have lo : ∀ n, n ≤ l → ((List.range n).map g).sum = ((List.range n).map f).sum := by
    intro n
    induction n with
    | zero => intro _; rfl
    | succ n ih =>
      intro hn
      rw [List.range_succ, List.map_append, List.map_append, List.sum_append, List.sum_append, ih (by omega)]
      simp [h n (by omega)]
  intro n
  induction n with
  | zero => intro h0; omega
  | succ n ih =>
    intro hn
    rw [List.range_succ, List.map_append, List.map_append, List.sum_append, List.sum_append]
    by_cases e : l = n
    · subst e
      rw [lo l (by omega)]
      simp
      omega
    · have := ih (by omega)
      have z := h n (fun y => e y.symm)
      simp [z]
      omega
theorem sq_u {Q : mQ} {l : Nat} {q : List mg} (hl : l < 16) : sq (uQ Q l q) + (Q l).countP isS = sq Q + q.countP isS := by
  have z := sum_u (fun i => (Q i).countP isS) (fun i => (uQ Q l q i).countP isS) l (fun i hi => by show (uQ Q l q i).countP isS = (Q i).countP isS; rw [uQ_n hi]) 16 hl
  rw [uQ_s] at z
  exact z
theorem nxr_a {L : List Nat} {x j : Nat} (h : j < L.length) : nxr (L ++ [x]) j = nxr L j := by
  unfold nxr
  rw [List.getElem?_append_left h]
theorem nxr_l {L : List Nat} {x : Nat} : nxr (L ++ [x]) L.length = nI (13 * x) := by
  unfold nxr
  simp
theorem nxr_e {L : List Nat} {j : Nat} (h : L.length ≤ j) : nxr L j = -1 := by
  unfold nxr
  rw [List.getElem?_eq_none h]
theorem nxr_s {L : List Nat} {x j : Nat} : nxr (x :: L) (j + 1) = nxr L j := rfl
theorem nxr_0 {L : List Nat} {x : Nat} : nxr (x :: L) 0 = nI (13 * x) := rfl
theorem nxr_i {L : List Nat} {x j : Nat} (h : L[j]? = some x) : nxr L j = nI (13 * x) := by
  unfold nxr
  rw [h]
/-- a chain grows -/
theorem RP_push {I I' K K' : sm_I} {Q : mQ} {H : List (Nat × mg)} {hb : Bool} {L : Nat → List Nat} {F G : List Nat} {o ro : Nat → Nat} {rm sr ln dd l x : Nat} (hl : l < 16) (k : RP I K Q H hb L F G o ro 0 rm sr ln dd) (ox : o x = 18) (xr : x < rm) (mo : mg) (hmo : isS mo = false)
    (h4 : ∀ i, i ≠ l → I' 24 i = I 24 i) (h5 : ∀ i, i ≠ l → I' 25 i = I 25 i)
    (he : ∀ c j, 50 ≤ c → ¬ (c = 50 ∧ 13 * x ≤ j ∧ j < 13 * x + 13) → ¬ ((c = 53 ∨ c = 54 ∨ c = 55) ∧ j = l) → (∀ y, c = 50 → (L l)[(L l).length - 1]? = some y → ¬ j = 13 * y + 4) → K' c j = K c j)
    (b4 : K' 50 (13 * x + 4) = -1) (k4 : K' 54 l = nI (13 * x)) (k5 : K' 55 l = nI ((L l).length + 1))
    (c0 : L l = [] → K' 53 l = nI (13 * x) ∧ K' 50 (13 * x + 2) = I' 24 l ∧ K' 50 (13 * x + 3) = I' 25 l)
    (c1 : ∀ y, (L l)[(L l).length - 1]? = some y → K' 53 l = K 53 l ∧ K' 50 (13 * y + 4) = nI (13 * x) ∧ K' 50 (13 * x + 2) = -1 ∧ K' 50 (13 * x + 3) = -1 ∧ I' 24 l = I 24 l ∧ I' 25 l = I 25 l) :
    RP I' K' (uQ Q l (Q l ++ [mo])) H hb (uL L l (L l ++ [x])) F G (owx o x (1 + l)) ro (x + 1) rm sr ln dd := by
  obtain ⟨⟨a1, a2, a3, a4, a5⟩, k2, k3, k4', ⟨g1, g2, g3, g4, g5, g6, g7⟩, k6, k7⟩ := k
  have nx : ∀ l', l' < 16 → ∀ (i y : Nat), (L l')[i]? = some y → y ≠ x := fun l' hl' i y hi e => by
    subst e
    have := ((k2 l' hl').2 i y hi).2
    omega
  have ny : ∀ y, (L l)[(L l).length - 1]? = some y → o y = 1 + l := fun y hy => ((k2 l hl).2 _ y hy).2
  have m0 : ∀ y m, y ≠ x → MS K ro y m → MS K' ro y m := fun y m hy h => MS_c (fun j j1 j2 j3 j4 => he 50 _ (by omega) (by omega) (by omega) (fun y' _ _ => by omega)) (fun r r1 r2 r3 => ⟨r3, fun j hj => he 51 _ (by omega) (by omega) (by omega) (fun y' e => by omega)⟩) h
  refine ⟨⟨by rw [he 52 0 (by omega) (by omega) (by omega) (fun y' e => by omega)]; exact a1, a2, by rw [he 52 1 (by omega) (by omega) (by omega) (fun y' e => by omega)]; exact a3, a4, fun i y hi => ?_⟩, fun l' hl' => ?_, fun l' hl' => ?_, fun l' hl' => ?_, ⟨by rw [he 52 2 (by omega) (by omega) (by omega) (fun y' e => by omega)]; exact g1, g2, g3, by rw [he 52 3 (by omega) (by omega) (by omega) (fun y' e => by omega)]; exact g4, g5, fun i r hi => ?_, g7⟩, fun y m hy => ?_, ?_⟩
  · obtain ⟨b1, b2, b3⟩ := a5 i y hi
    have yx : y ≠ x := fun e => by subst e; omega
    refine ⟨b1, by rw [owx_n yx]; exact b2, ?_⟩
    rw [he 50 _ (by omega) (by omega) (by omega) (fun y' _ hy' e => ?_)]
    · exact b3
    · have := ny y' hy'
      have : y' = y := by omega
      subst this
      omega
  · by_cases e : l' = l
    · subst e
      rw [uL_s]
      obtain ⟨b1, b2⟩ := k2 l' hl
      refine ⟨?_, fun i y hi => ?_⟩
      · rw [List.nodup_append]
        refine ⟨b1, by simp, fun a ha b hb' => ?_⟩
        simp at hb'
        subst hb'
        obtain ⟨i, hi⟩ := List.getElem?_of_mem ha
        exact nx l' hl i a hi
      · by_cases c : i < (L l').length
        · rw [List.getElem?_append_left c] at hi
          rw [owx_n (nx l' hl i y hi)]
          exact b2 i y hi
        · have hi2 := (List.getElem?_eq_some_iff.mp hi).1
          simp at hi2
          obtain rfl : i = (L l').length := by omega
          simp at hi
          subst hi
          exact ⟨xr, owx_s⟩
    · rw [uL_n e]
      obtain ⟨b1, b2⟩ := k2 l' hl'
      refine ⟨b1, fun i y hi => ?_⟩
      rw [owx_n (nx l' hl' i y hi)]
      exact b2 i y hi
  · by_cases e : l' = l
    · subst e
      rw [uL_s]
      obtain ⟨b1, b2, b3, b4'⟩ := k3 l' hl
      refine ⟨?_, by rw [k5]; simp, fun _ => ?_, fun i y hi => ?_⟩
      · by_cases c : L l' = []
        · rw [(c0 c).1, c]; rfl
        · have hlen : 0 < (L l').length := List.length_pos_iff.mpr c
          obtain ⟨y, hy⟩ : ∃ y, (L l')[(L l').length - 1]? = some y := ⟨_, List.getElem?_eq_getElem (by omega)⟩
          rw [(c1 y hy).1, b1, nxr_a hlen]
      · rw [k4]
        simp only [List.length_append, List.length_singleton, Nat.add_sub_cancel]
        exact nxr_l.symm
      · by_cases c : i < (L l').length
        · rw [List.getElem?_append_left c] at hi
          have yx := nx l' hl i y hi
          obtain ⟨d1, d2, d3⟩ := b4' i y hi
          obtain ⟨z, hz⟩ : ∃ z, (L l')[(L l').length - 1]? = some z := ⟨_, List.getElem?_eq_getElem (by omega)⟩
          obtain ⟨f1, f2, f3, f4, f5, f6⟩ := c1 z hz
          refine ⟨?_, ?_, ?_⟩
          · by_cases q : i = (L l').length - 1
            · subst q
              rw [hz] at hi
              cases hi
              rw [f2, show (L l').length - 1 + 1 = (L l').length by omega]
              exact nxr_l.symm
            · rw [he 50 _ (by omega) (by omega) (by omega) (fun y' _ hy' e => ?_), d1, nxr_a (by omega)]
              have : y' = y := by omega
              subst this
              have := (List.getElem?_inj (by omega) (k2 l' hl).1).mp (hy'.trans hi.symm)
              omega
          · rw [he 50 _ (by omega) (by omega) (by omega) (fun y' _ _ => by omega), d2, f5]
          · rw [he 50 _ (by omega) (by omega) (by omega) (fun y' _ _ => by omega), d3, f6]
        · have hi2 := (List.getElem?_eq_some_iff.mp hi).1
          simp at hi2
          obtain rfl : i = (L l').length := by omega
          simp at hi
          subst hi
          refine ⟨by rw [b4, nxr_e (by simp)], ?_, ?_⟩
          · by_cases c2 : L l' = []
            · rw [(c0 c2).2.1, c2]; rfl
            · have hlen : 0 < (L l').length := List.length_pos_iff.mpr c2
              obtain ⟨z, hz⟩ : ∃ z, (L l')[(L l').length - 1]? = some z := ⟨_, List.getElem?_eq_getElem (by omega)⟩
              rw [(c1 z hz).2.2.1, if_neg (by omega)]
          · by_cases c2 : L l' = []
            · rw [(c0 c2).2.2, c2]; rfl
            · have hlen : 0 < (L l').length := List.length_pos_iff.mpr c2
              obtain ⟨z, hz⟩ : ∃ z, (L l')[(L l').length - 1]? = some z := ⟨_, List.getElem?_eq_getElem (by omega)⟩
              rw [(c1 z hz).2.2.2.1, if_neg (by omega)]
    · rw [uL_n e, h4 l' e, h5 l' e]
      obtain ⟨b1, b2, b3, b4'⟩ := k3 l' hl'
      refine ⟨by rw [he 53 _ (by omega) (by omega) (by omega) (fun y' e => by omega)]; exact b1, by rw [he 55 _ (by omega) (by omega) (by omega) (fun y' e => by omega)]; exact b2, fun h => by rw [he 54 _ (by omega) (by omega) (by omega) (fun y' e => by omega)]; exact b3 h, fun i y hi => ?_⟩
      have yx := nx l' hl' i y hi
      have yo := ((k2 l' hl').2 i y hi).2
      rw [he 50 (13 * y + 4) (by omega) (by omega) (by omega) (fun y' _ hy' e2 => ?_), he 50 (13 * y + 2) (by omega) (by omega) (by omega) (fun y' _ _ => by omega), he 50 (13 * y + 3) (by omega) (by omega) (by omega) (fun y' _ _ => by omega)]
      · exact b4' i y hi
      · have := ny y' hy'
        have : y' = y := by omega
        subst this
        omega
  · by_cases e : l' = l
    · subst e
      rw [uL_s, uQ_s]
      obtain ⟨b1, b2⟩ := k4' l' hl
      refine ⟨by simp [b1], fun i y m hi hm hy => ?_⟩
      by_cases c : i < (L l').length
      · rw [List.getElem?_append_left c] at hi
        rw [List.getElem?_append_left (by omega)] at hm
        exact m0 y m (by omega) (b2 i y m hi hm (by omega))
      · have hi2 := (List.getElem?_eq_some_iff.mp hi).1
        simp at hi2
        obtain rfl : i = (L l').length := by omega
        simp at hi
        omega
    · rw [uL_n e, uQ_n e]
      obtain ⟨b1, b2⟩ := k4' l' hl'
      exact ⟨b1, fun i y m hi hm hy => m0 y m (by omega) (b2 i y m hi hm (by omega))⟩
  · rw [he 51 _ (by omega) (by omega) (by omega) (fun y' e => by omega)]
    exact g6 i r hi
  · obtain ⟨b1, b2, b3, b5, b6⟩ := k6 y m hy
    have yx : y ≠ x := fun e => by
      subst e
      cases hbb : hb with
      | true => have := b5 hbb; omega
      | false => obtain ⟨l2, h1, h2⟩ := b6 hbb; omega
    refine ⟨b1, by omega, m0 y m yx b3, ?_, ?_⟩
    · rw [owx_n yx]; exact b5
    · rw [owx_n yx]; exact b6
  · have z := sq_u (Q := Q) (q := Q l ++ [mo]) hl
    rw [List.countP_append, List.countP_singleton, hmo] at z
    simp at z
    omega
