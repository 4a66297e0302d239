/-- the newest of a chain is filled: a message without a state -/
theorem RP_close {I K K' : sm_I} {Q : mQ} {H : List (Nat × mg)} {hb : Bool} {L : Nat → List Nat} {F G : List Nat} {o ro : Nat → Nat} {rm sr ln dd l x : Nat} {mo m : mg} (hl : l < 16) (k : RP I K (uQ Q l (Q l ++ [mo])) H hb L F G o ro (x + 1) rm sr ln dd) {T : List Nat} (hL : L l = T ++ [x]) (hmo : isS mo = false) (hm : isS m = false)
    (he : ∀ c j, 50 ≤ c → ¬ (c = 50 ∧ 13 * x + 6 ≤ j ∧ j < 13 * x + 13) → K' c j = K c j) (hx : MS K' ro x m) :
    RP I K' (uQ Q l (Q l ++ [m])) H hb L F G o ro 0 rm sr ln dd := by
  obtain ⟨⟨a1, a2, a3, a4, a5⟩, k2, k3, k4, ⟨g1, g2, g3, g4, g5, g6, g7⟩, k6, k7⟩ := k
  have m0 : ∀ y m, y ≠ x → MS K ro y m → MS K' ro y m := fun y m hy h => MS_c (fun j j1 j2 j3 j4 => he 50 _ (by omega) (by omega)) (fun r r1 r2 r3 => ⟨r3, fun j hj => he 51 _ (by omega) (by omega)⟩) h
  have b4 : ∀ y, K' 50 (13 * y + 4) = K 50 (13 * y + 4) := fun y => he 50 _ (by omega) (by omega)
  have b2 : ∀ y, K' 50 (13 * y + 2) = K 50 (13 * y + 2) := fun y => he 50 _ (by omega) (by omega)
  have b3 : ∀ y, K' 50 (13 * y + 3) = K 50 (13 * y + 3) := fun y => he 50 _ (by omega) (by omega)
  have hTl : (L l).length = (Q l).length + 1 := by
    have := (k4 l hl).1
    rw [uQ_s] at this
    simpa using this
  refine ⟨⟨by rw [he 52 0 (by omega) (by omega)]; exact a1, a2, by rw [he 52 1 (by omega) (by omega)]; exact a3, a4, fun i y hi => by rw [b4]; exact a5 i y hi⟩, k2, fun l' hl' => ?_, fun l' hl' => ?_, ⟨by rw [he 52 2 (by omega) (by omega)]; exact g1, g2, g3, by rw [he 52 3 (by omega) (by omega)]; exact g4, g5, fun i r hi => by rw [he 51 _ (by omega) (by omega)]; exact g6 i r hi, g7⟩, fun y m hy => ?_, ?_⟩
  · obtain ⟨d1, d2, d3, d4⟩ := k3 l' hl'
    refine ⟨by rw [he 53 _ (by omega) (by omega)]; exact d1, by rw [he 55 _ (by omega) (by omega)]; exact d2, fun h => by rw [he 54 _ (by omega) (by omega)]; exact d3 h, fun i y hi => ?_⟩
    rw [b4, b2, b3]
    exact d4 i y hi
  · by_cases e : l' = l
    · subst e
      rw [uQ_s]
      obtain ⟨d1, d2⟩ := k4 l' hl
      rw [uQ_s] at d1 d2
      refine ⟨by simp [hTl], fun i y m' hi hm' _ => ?_⟩
      by_cases c : i < (Q l').length
      · rw [List.getElem?_append_left c] at hm'
        have yx : y ≠ x := fun e => by
          subst e
          have q1 : (L l')[(Q l').length]? = some y := by
            rw [hL]
            have : T.length = (Q l').length := by
              have := congrArg List.length hL
              simp at this
              omega
            rw [← this]
            simp
          have := (List.getElem?_inj (by omega) (k2 l' hl).1).mp (hi.trans q1.symm)
          omega
        exact m0 y m' yx (d2 i y m' hi (by rw [List.getElem?_append_left c]; exact hm') (by omega))
      · have hi2 := (List.getElem?_eq_some_iff.mp hm').1
        simp at hi2
        obtain rfl : i = (Q l').length := by omega
        simp at hm'
        subst hm'
        have : T.length = (Q l').length := by
          have := congrArg List.length hL
          simp at this
          omega
        rw [hL, ← this] at hi
        simp at hi
        subst hi
        exact hx
    · rw [uQ_n e]
      obtain ⟨d1, d2⟩ := k4 l' hl'
      rw [uQ_n e] at d1 d2
      refine ⟨d1, fun i y m' hi hm' _ => ?_⟩
      have yx : y ≠ x := fun e2 => by
        subst e2
        have q1 : (L l)[T.length]? = some y := by rw [hL]; simp
        have z1 := ((k2 l' hl').2 i y hi).2
        have z2 := ((k2 l hl).2 _ y q1).2
        omega
      exact m0 y m' yx (d2 i y m' hi hm' (by omega))
  · obtain ⟨d1, d2, d3, d5⟩ := k6 y m hy
    exact ⟨d1, by omega, m0 y m (by omega) d3, d5⟩
  · have z1 := sq_u (Q := Q) (q := Q l ++ [mo]) hl
    have z2 := sq_u (Q := Q) (q := Q l ++ [m]) hl
    rw [List.countP_append, List.countP_singleton] at z1 z2
    rw [hmo] at z1
    rw [hm] at z2
    simp at z1 z2
    omega
/-- the newest of a chain is filled: a message with the state of row r -/
theorem RP_closeS {I K K' : sm_I} {Q : mQ} {H : List (Nat × mg)} {hb : Bool} {L : Nat → List Nat} {F G : List Nat} {o ro : Nat → Nat} {rm sr ln dd l x r : Nat} {mo m : mg} (hl : l < 16) (k : RP I K (uQ Q l (Q l ++ [mo])) H hb L F G o ro (x + 1) rm sr ln (dd + 1)) {T : List Nat} (hL : L l = T ++ [x]) (hmo : isS mo = false) (hm : isS m = true)
    (hr1 : ro r = 0) (hr2 : 6 ≤ r) (hr3 : r < sr) (hr4 : ∀ i : Nat, ¬ G[i]? = some r)
    (he : ∀ c j, 50 ≤ c → ¬ (c = 50 ∧ 13 * x + 6 ≤ j ∧ j < 13 * x + 13) → ¬ (c = 51 ∧ 424 * r ≤ j ∧ j < 424 * r + 424) → K' c j = K c j) (hx : MS K' (owx ro r (x + 1)) x m) :
    RP I K' (uQ Q l (Q l ++ [m])) H hb L F G o (owx ro r (x + 1)) 0 rm sr ln dd := by
  obtain ⟨⟨a1, a2, a3, a4, a5⟩, k2, k3, k4, ⟨g1, g2, g3, g4, g5, g6, g7⟩, k6, k7⟩ := k
  have m0 : ∀ y m, y ≠ x → MS K ro y m → MS K' (owx ro r (x + 1)) y m := fun y m hy h => MS_c (fun j j1 j2 j3 j4 => he 50 _ (by omega) (by omega) (by omega)) (fun q r1 r2 r3 => by
    have hq : q ≠ r := fun e => by subst e; omega
    exact ⟨by rw [owx_n hq]; exact r3, fun j hj => he 51 _ (by omega) (by omega) (by omega)⟩) h
  have b4 : ∀ y, K' 50 (13 * y + 4) = K 50 (13 * y + 4) := fun y => he 50 _ (by omega) (by omega) (by omega)
  have b2 : ∀ y, K' 50 (13 * y + 2) = K 50 (13 * y + 2) := fun y => he 50 _ (by omega) (by omega) (by omega)
  have b3 : ∀ y, K' 50 (13 * y + 3) = K 50 (13 * y + 3) := fun y => he 50 _ (by omega) (by omega) (by omega)
  have hTl : (L l).length = (Q l).length + 1 := by
    have := (k4 l hl).1
    rw [uQ_s] at this
    simpa using this
  refine ⟨⟨by rw [he 52 0 (by omega) (by omega) (by omega)]; exact a1, a2, by rw [he 52 1 (by omega) (by omega) (by omega)]; exact a3, a4, fun i y hi => by rw [b4]; exact a5 i y hi⟩, k2, fun l' hl' => ?_, fun l' hl' => ?_, ⟨by rw [he 52 2 (by omega) (by omega) (by omega)]; exact g1, g2, g3, by rw [he 52 3 (by omega) (by omega) (by omega)]; exact g4, g5, fun i q hi => ?_, fun q hq => ?_⟩, fun y m hy => ?_, ?_⟩
  · obtain ⟨d1, d2, d3, d4⟩ := k3 l' hl'
    refine ⟨by rw [he 53 _ (by omega) (by omega) (by omega)]; exact d1, by rw [he 55 _ (by omega) (by omega) (by omega)]; exact d2, fun h => by rw [he 54 _ (by omega) (by omega) (by omega)]; exact d3 h, fun i y hi => ?_⟩
    rw [b4, b2, b3]
    exact d4 i y hi
  · by_cases e : l' = l
    · subst e
      rw [uQ_s]
      obtain ⟨d1, d2⟩ := k4 l' hl
      rw [uQ_s] at d1 d2
      refine ⟨by simp [hTl], fun i y m' hi hm' _ => ?_⟩
      by_cases c : i < (Q l').length
      · rw [List.getElem?_append_left c] at hm'
        have yx : y ≠ x := fun e => by
          subst e
          have q1 : (L l')[(Q l').length]? = some y := by
            rw [hL]
            have : T.length = (Q l').length := by
              have := congrArg List.length hL
              simp at this
              omega
            rw [← this]
            simp
          have := (List.getElem?_inj (by omega) (k2 l' hl).1).mp (hi.trans q1.symm)
          omega
        exact m0 y m' yx (d2 i y m' hi (by rw [List.getElem?_append_left c]; exact hm') (by omega))
      · have hi2 := (List.getElem?_eq_some_iff.mp hm').1
        simp at hi2
        obtain rfl : i = (Q l').length := by omega
        simp at hm'
        subst hm'
        have : T.length = (Q l').length := by
          have := congrArg List.length hL
          simp at this
          omega
        rw [hL, ← this] at hi
        simp at hi
        subst hi
        exact hx
    · rw [uQ_n e]
      obtain ⟨d1, d2⟩ := k4 l' hl'
      rw [uQ_n e] at d1 d2
      refine ⟨d1, fun i y m' hi hm' _ => ?_⟩
      have yx : y ≠ x := fun e2 => by
        subst e2
        have q1 : (L l)[T.length]? = some y := by rw [hL]; simp
        have z1 := ((k2 l' hl').2 i y hi).2
        have z2 := ((k2 l hl).2 _ y q1).2
        omega
      exact m0 y m' yx (d2 i y m' hi hm' (by omega))
  · have qr : q ≠ r := fun e => by subst e; exact hr4 i hi
    obtain ⟨d1, d2, d3, d4⟩ := g6 i q hi
    exact ⟨d1, d2, by rw [owx_n qr]; exact d3, by rw [he 51 _ (by omega) (by omega) (by omega)]; exact d4⟩
  · rw [owx_n (by omega)]; exact g7 q hq
  · obtain ⟨d1, d2, d3, d5⟩ := k6 y m hy
    exact ⟨d1, by omega, m0 y m (by omega) d3, d5⟩
  · have z1 := sq_u (Q := Q) (q := Q l ++ [mo]) hl
    have z2 := sq_u (Q := Q) (q := Q l ++ [m]) hl
    rw [List.countP_append, List.countP_singleton] at z1 z2
    rw [hmo] at z1
    rw [hm] at z2
    simp at z1 z2
    omega
/-- a chain loses its first -/
theorem RP_pop {I I' K K' : sm_I} {Q : mQ} {L : Nat → List Nat} {F G : List Nat} {o ro : Nat → Nat} {rm sr ln l x : Nat} {hb : Bool} {T : List Nat} {m : mg} {q : List mg} (hl : l < 16) (k : RP I K Q [] hb L F G o ro 0 rm sr ln 0) (hL : L l = x :: T) (hQ : Q l = m :: q)
    (h4 : ∀ i, i ≠ l → I' 24 i = I 24 i) (h5 : ∀ i, i ≠ l → I' 25 i = I 25 i) (i4 : I' 24 l = -1) (i5 : I' 25 l = -1)
    (he : ∀ c j, 50 ≤ c → ¬ ((c = 53 ∨ c = 55) ∧ j = l) → K' c j = K c j) (k3' : K' 53 l = nxr T 0) (k5' : K' 55 l = nI T.length) :
    RP I' K' (uQ Q l q) [(x, m)] true (uL L l T) F G (owx o x 17) ro 0 rm sr ln 0 := by
  obtain ⟨⟨a1, a2, a3, a4, a5⟩, k2, k3, k4, ⟨g1, g2, g3, g4, g5, g6, g7⟩, k6, k7⟩ := k
  have hx0 : (L l)[0]? = some x := by rw [hL]; rfl
  have ox := ((k2 l hl).2 0 x hx0).2
  have nd := (k2 l hl).1
  rw [hL] at nd
  have nd2 := List.nodup_cons.mp nd
  have m0 : ∀ y m, MS K ro y m → MS K' ro y m := fun y m h => MS_c (fun j j1 j2 j3 j4 => he 50 _ (by omega) (by omega)) (fun r r1 r2 r3 => ⟨r3, fun j hj => he 51 _ (by omega) (by omega)⟩) h
  refine ⟨⟨by rw [he 52 0 (by omega) (by omega)]; exact a1, a2, by rw [he 52 1 (by omega) (by omega)]; exact a3, a4, fun i y hi => ?_⟩, fun l' hl' => ?_, fun l' hl' => ?_, fun l' hl' => ?_, ⟨by rw [he 52 2 (by omega) (by omega)]; exact g1, g2, g3, by rw [he 52 3 (by omega) (by omega)]; exact g4, g5, fun i r hi => by rw [he 51 _ (by omega) (by omega)]; exact g6 i r hi, g7⟩, fun y m' hy => ?_, ?_⟩
  · obtain ⟨d1, d2, d3⟩ := a5 i y hi
    exact ⟨d1, by rw [owx_n (fun e => by subst e; omega)]; exact d2, by rw [he 50 _ (by omega) (by omega)]; exact d3⟩
  · by_cases e : l' = l
    · subst e
      rw [uL_s]
      refine ⟨nd2.2, fun i y hi => ?_⟩
      have yx : y ≠ x := fun e => by subst e; exact nd2.1 (List.mem_of_getElem? hi)
      rw [owx_n yx]
      exact (k2 l' hl).2 (i + 1) y (by rw [hL]; exact hi)
    · rw [uL_n e]
      refine ⟨(k2 l' hl').1, fun i y hi => ?_⟩
      have z := (k2 l' hl').2 i y hi
      rw [owx_n (fun e2 => by subst e2; omega)]
      exact z
  · by_cases e : l' = l
    · subst e
      rw [uL_s, i4, i5]
      obtain ⟨d1, d2, d3, d4⟩ := k3 l' hl
      refine ⟨k3', k5', fun h => ?_, fun i y hi => ?_⟩
      · rw [he 54 _ (by omega) (by omega), d3 (by rw [hL]; simp), hL]
        have : 0 < T.length := List.length_pos_iff.mpr h
        rw [show (x :: T).length - 1 = (T.length - 1) + 1 by simp; omega]
        rfl
      · obtain ⟨f1, f2, f3⟩ := d4 (i + 1) y (by rw [hL]; exact hi)
        rw [hL] at f1
        refine ⟨by rw [he 50 _ (by omega) (by omega), f1]; rfl, ?_, ?_⟩
        · rw [he 50 _ (by omega) (by omega), f2, if_neg (by omega)]
          split <;> rfl
        · rw [he 50 _ (by omega) (by omega), f3, if_neg (by omega)]
          split <;> rfl
    · rw [uL_n e, h4 l' e, h5 l' e]
      obtain ⟨d1, d2, d3, d4⟩ := k3 l' hl'
      refine ⟨by rw [he 53 _ (by omega) (by omega)]; exact d1, by rw [he 55 _ (by omega) (by omega)]; exact d2, fun h => by rw [he 54 _ (by omega) (by omega)]; exact d3 h, fun i y hi => ?_⟩
      rw [he 50 (13 * y + 4) (by omega) (by omega), he 50 (13 * y + 2) (by omega) (by omega), he 50 (13 * y + 3) (by omega) (by omega)]
      exact d4 i y hi
  · by_cases e : l' = l
    · subst e
      rw [uL_s, uQ_s]
      obtain ⟨d1, d2⟩ := k4 l' hl
      rw [hL, hQ] at d1 d2
      exact ⟨by simpa using d1, fun i y m' hi hm' h0 => m0 y m' (d2 (i + 1) y m' hi hm' h0)⟩
    · rw [uL_n e, uQ_n e]
      obtain ⟨d1, d2⟩ := k4 l' hl'
      exact ⟨d1, fun i y m' hi hm' h0 => m0 y m' (d2 i y m' hi hm' h0)⟩
  · simp at hy
    obtain ⟨rfl, rfl⟩ := hy
    refine ⟨((k2 l hl).2 0 y hx0).1, by omega, m0 y m' ((k4 l hl).2 0 y m' hx0 (by rw [hQ]; rfl) (by omega)), fun _ => owx_s, fun h => by cases h⟩
  · have z := sq_u (Q := Q) (q := q) hl
    rw [hQ, List.countP_cons] at z
    unfold hc at k7 ⊢
    rw [if_pos rfl, List.countP_singleton]
    simp at k7 ⊢
    split at z <;> rename_i hs <;> simp [hs] <;> omega
/-- the first's bus -/
theorem RP_bus {I I' K K' : sm_I} {Q : mQ} {H : List (Nat × mg)} {hb : Bool} {L : Nat → List Nat} {F G : List Nat} {o ro : Nat → Nat} {e rm sr ln dd l y : Nat} (hl : l < 16) (k : RP I K Q H hb L F G o ro e rm sr ln dd) (hy : (L l)[0]? = some y)
    (h4 : ∀ i, i ≠ l → I' 24 i = I 24 i) (h5 : ∀ i, i ≠ l → I' 25 i = I 25 i)
    (he : ∀ c j, 50 ≤ c → ¬ (c = 50 ∧ (j = 13 * y + 2 ∨ j = 13 * y + 3)) → K' c j = K c j) (k2' : K' 50 (13 * y + 2) = I' 24 l) (k3' : K' 50 (13 * y + 3) = I' 25 l) :
    RP I' K' Q H hb L F G o ro e rm sr ln dd := by
  obtain ⟨⟨a1, a2, a3, a4, a5⟩, k2, k3, k4, ⟨g1, g2, g3, g4, g5, g6, g7⟩, k6, k7⟩ := k
  have m0 : ∀ y m, MS K ro y m → MS K' ro y m := fun y m h => MS_c (fun j j1 j2 j3 j4 => he 50 _ (by omega) (by omega)) (fun r r1 r2 r3 => ⟨r3, fun j hj => he 51 _ (by omega) (by omega)⟩) h
  have b4 : ∀ y, K' 50 (13 * y + 4) = K 50 (13 * y + 4) := fun y => he 50 _ (by omega) (by omega)
  refine ⟨⟨by rw [he 52 0 (by omega) (by omega)]; exact a1, a2, by rw [he 52 1 (by omega) (by omega)]; exact a3, a4, fun i y hi => by rw [b4]; exact a5 i y hi⟩, k2, fun l' hl' => ?_, fun l' hl' => ⟨(k4 l' hl').1, fun i x m hi hm hx => m0 x m ((k4 l' hl').2 i x m hi hm hx)⟩, ⟨by rw [he 52 2 (by omega) (by omega)]; exact g1, g2, g3, by rw [he 52 3 (by omega) (by omega)]; exact g4, g5, fun i r hi => by rw [he 51 _ (by omega) (by omega)]; exact g6 i r hi, g7⟩, fun x m hx => ⟨(k6 x m hx).1, (k6 x m hx).2.1, m0 x m (k6 x m hx).2.2.1, (k6 x m hx).2.2.2⟩, k7⟩
  obtain ⟨d1, d2, d3, d4⟩ := k3 l' hl'
  refine ⟨by rw [he 53 _ (by omega) (by omega)]; exact d1, by rw [he 55 _ (by omega) (by omega)]; exact d2, fun h => by rw [he 54 _ (by omega) (by omega)]; exact d3 h, fun i x hi => ?_⟩
  obtain ⟨f1, f2, f3⟩ := d4 i x hi
  rw [b4]
  refine ⟨f1, ?_⟩
  by_cases xy : x = y
  · subst xy
    have z1 := ((k2 l' hl').2 i x hi).2
    have z2 := ((k2 l hl).2 0 x hy).2
    obtain rfl : l' = l := by omega
    have zi := (List.getElem?_inj (List.getElem?_eq_some_iff.mp hi).1 (k2 l' hl').1).mp (hi.trans hy.symm)
    subst zi
    exact ⟨k2', k3'⟩
  · rw [he 50 _ (by omega) (by omega), he 50 _ (by omega) (by omega)]
    by_cases e2 : l' = l
    · subst e2
      have i0 : i ≠ 0 := fun e3 => by
        subst e3
        rw [hy] at hi
        cases hi
        exact xy rfl
      rw [f2, f3, if_neg i0, if_neg i0, if_neg i0, if_neg i0]
      exact ⟨rfl, rfl⟩
    · rw [h4 l' e2, h5 l' e2]
      exact ⟨f2, f3⟩
/-- a slot is given back -/
theorem RP_go {I K K' : sm_I} {Q : mQ} {L : Nat → List Nat} {F G : List Nat} {o ro : Nat → Nat} {rm sr ln x : Nat} {hb : Bool} {m : mg} (k : RP I K Q [(x, m)] true L F G o ro 0 rm sr ln 0) (hm : isS m = false)
    (he : ∀ c j, 50 ≤ c → ¬ (c = 50 ∧ j = 13 * x + 4) → ¬ (c = 52 ∧ j = 1) → K' c j = K c j) (k1' : K' 52 1 = nI (13 * x)) (k4' : K' 50 (13 * x + 4) = K 52 1) :
    RP I K' Q [] hb L (x :: F) G (owx o x 0) ro 0 rm sr ln 0 := by
  obtain ⟨⟨a1, a2, a3, a4, a5⟩, k2, k3, k4, ⟨g1, g2, g3, g4, g5, g6, g7⟩, k6, k7⟩ := k
  obtain ⟨x1, x2, x3, x4, x5⟩ := k6 x m (by simp)
  have ox := x4 rfl
  have nx : ∀ l', l' < 16 → ∀ (i y : Nat), (L l')[i]? = some y → y ≠ x := fun l' hl' i y hi e => by
    subst e
    have := ((k2 l' hl').2 i y hi).2
    omega
  have m0 : ∀ y m, MS K ro y m → MS K' ro y m := fun y m h => MS_c (fun j j1 j2 j3 j4 => he 50 _ (by omega) (by omega) (by omega)) (fun r r1 r2 r3 => ⟨r3, fun j hj => he 51 _ (by omega) (by omega) (by omega)⟩) h
  have nf : x ∉ F := fun hx => by
    obtain ⟨i, hi⟩ := List.getElem?_of_mem hx
    have := (a5 i x hi).2.1
    omega
  refine ⟨⟨by rw [he 52 0 (by omega) (by omega) (by omega)]; exact a1, a2, k1', List.nodup_cons.mpr ⟨nf, a4⟩, fun i y hi => ?_⟩, fun l' hl' => ⟨(k2 l' hl').1, fun i y hi => ?_⟩, fun l' hl' => ?_, fun l' hl' => ⟨(k4 l' hl').1, fun i y m hi hm hx => m0 y m ((k4 l' hl').2 i y m hi hm hx)⟩, ⟨by rw [he 52 2 (by omega) (by omega) (by omega)]; exact g1, g2, g3, by rw [he 52 3 (by omega) (by omega) (by omega)]; exact g4, g5, fun i r hi => by rw [he 51 _ (by omega) (by omega) (by omega)]; exact g6 i r hi, g7⟩, fun y m hy => by simp at hy, ?_⟩
  · cases i with
    | zero =>
      have : x = y := by simpa using hi
      subst this
      exact ⟨x1, owx_s, by rw [k4', a3]; rfl⟩
    | succ i =>
      have hi' : F[i]? = some y := hi
      obtain ⟨d1, d2, d3⟩ := a5 i y hi'
      have yx : y ≠ x := fun e => by subst e; omega
      exact ⟨d1, by rw [owx_n yx]; exact d2, by rw [he 50 _ (by omega) (by omega) (by omega), d3]; rfl⟩
  · rw [owx_n (nx l' hl' i y hi)]
    exact (k2 l' hl').2 i y hi
  · obtain ⟨d1, d2, d3, d4⟩ := k3 l' hl'
    refine ⟨by rw [he 53 _ (by omega) (by omega) (by omega)]; exact d1, by rw [he 55 _ (by omega) (by omega) (by omega)]; exact d2, fun h => by rw [he 54 _ (by omega) (by omega) (by omega)]; exact d3 h, fun i y hi => ?_⟩
    have yx := nx l' hl' i y hi
    rw [he 50 (13 * y + 4) (by omega) (by omega) (by omega), he 50 (13 * y + 2) (by omega) (by omega) (by omega), he 50 (13 * y + 3) (by omega) (by omega) (by omega)]
    exact d4 i y hi
  · unfold hc at k7 ⊢
    rw [if_pos rfl, List.countP_singleton] at k7
    simp [hm] at k7 ⊢
    omega
theorem RP_goS {I K K' : sm_I} {Q : mQ} {L : Nat → List Nat} {F G : List Nat} {o ro : Nat → Nat} {rm sr ln x r : Nat} {hb : Bool} {m : mg} (k : RP I K Q [(x, m)] true L F G o ro 0 rm sr ln 0) (hm : isS m = true) (hr : r < 12) (hr2 : 6 ≤ r) (hro : ro r = x + 1)
    (he : ∀ c j, 50 ≤ c → ¬ (c = 50 ∧ j = 13 * x + 4) → ¬ (c = 52 ∧ j = 1) → ¬ (c = 52 ∧ j = 3) → ¬ (c = 51 ∧ j = 424 * r) → K' c j = K c j) (k1' : K' 52 1 = nI (13 * x)) (k4' : K' 50 (13 * x + 4) = K 52 1) (k3' : K' 52 3 = nI r) (k5' : K' 51 (424 * r) = K 52 3) :
    RP I K' Q [] hb L (x :: F) (r :: G) (owx o x 0) (owx ro r 0) 0 rm sr ln 0 := by
  obtain ⟨⟨a1, a2, a3, a4, a5⟩, k2, k3, k4, ⟨g1, g2, g3, g4, g5, g6, g7⟩, k6, k7⟩ := k
  obtain ⟨x1, x2, x3, x4, x5⟩ := k6 x m (by simp)
  have ox := x4 rfl
  have nx : ∀ l', l' < 16 → ∀ (i y : Nat), (L l')[i]? = some y → y ≠ x := fun l' hl' i y hi e => by
    subst e
    have := ((k2 l' hl').2 i y hi).2
    omega
  have m0 : ∀ y m, y ≠ x → MS K ro y m → MS K' (owx ro r 0) y m := fun y m hy h => MS_c (fun j j1 j2 j3 j4 => he 50 _ (by omega) (by omega) (by omega) (by omega) (by omega)) (fun q r1 r2 r3 => by
    have hq : q ≠ r := fun e => by subst e; omega
    exact ⟨by rw [owx_n hq]; exact r3, fun j hj => he 51 _ (by omega) (by omega) (by omega) (by omega) (by omega)⟩) h
  have nf : x ∉ F := fun hx => by
    obtain ⟨i, hi⟩ := List.getElem?_of_mem hx
    have := (a5 i x hi).2.1
    omega
  have ng : r ∉ G := fun hx => by
    obtain ⟨i, hi⟩ := List.getElem?_of_mem hx
    have := (g6 i r hi).2.2.1
    omega
  have rs : r < sr := by
    by_cases c : r < sr
    · exact c
    · have := g7 r (by omega)
      omega
  refine ⟨⟨by rw [he 52 0 (by omega) (by omega) (by omega) (by omega) (by omega)]; exact a1, a2, k1', List.nodup_cons.mpr ⟨nf, a4⟩, fun i y hi => ?_⟩, fun l' hl' => ⟨(k2 l' hl').1, fun i y hi => ?_⟩, fun l' hl' => ?_, fun l' hl' => ⟨(k4 l' hl').1, fun i y m hi hm hx => m0 y m (nx l' hl' i y hi) ((k4 l' hl').2 i y m hi hm hx)⟩, ⟨by rw [he 52 2 (by omega) (by omega) (by omega) (by omega) (by omega)]; exact g1, g2, g3, k3', List.nodup_cons.mpr ⟨ng, g5⟩, fun i q hi => ?_, fun q hq => ?_⟩, fun y m hy => by simp at hy, ?_⟩
  · cases i with
    | zero =>
      have : x = y := by simpa using hi
      subst this
      exact ⟨x1, owx_s, by rw [k4', a3]; rfl⟩
    | succ i =>
      have hi' : F[i]? = some y := hi
      obtain ⟨d1, d2, d3⟩ := a5 i y hi'
      have yx : y ≠ x := fun e => by subst e; omega
      exact ⟨d1, by rw [owx_n yx]; exact d2, by rw [he 50 _ (by omega) (by omega) (by omega) (by omega) (by omega), d3]; rfl⟩
  · rw [owx_n (nx l' hl' i y hi)]
    exact (k2 l' hl').2 i y hi
  · obtain ⟨d1, d2, d3, d4⟩ := k3 l' hl'
    refine ⟨by rw [he 53 _ (by omega) (by omega) (by omega) (by omega) (by omega)]; exact d1, by rw [he 55 _ (by omega) (by omega) (by omega) (by omega) (by omega)]; exact d2, fun h => by rw [he 54 _ (by omega) (by omega) (by omega) (by omega) (by omega)]; exact d3 h, fun i y hi => ?_⟩
    have yx := nx l' hl' i y hi
    rw [he 50 (13 * y + 4) (by omega) (by omega) (by omega) (by omega) (by omega), he 50 (13 * y + 2) (by omega) (by omega) (by omega) (by omega) (by omega), he 50 (13 * y + 3) (by omega) (by omega) (by omega) (by omega) (by omega)]
    exact d4 i y hi
  · cases i with
    | zero =>
      have : r = q := by simpa using hi
      subst this
      exact ⟨hr2, rs, owx_s, by rw [k5', g4]; rfl⟩
    | succ i =>
      have hi' : G[i]? = some q := hi
      obtain ⟨d1, d2, d3, d4⟩ := g6 i q hi'
      have qr : q ≠ r := fun e => by subst e; omega
      exact ⟨d1, d2, by rw [owx_n qr]; exact d3, by rw [he 51 _ (by omega) (by omega) (by omega) (by omega) (by omega), d4]; rfl⟩
  · rw [owx_n (by omega)]; exact g7 q hq
  · unfold hc at k7 ⊢
    rw [if_pos rfl, List.countP_singleton] at k7
    simp [hm] at k7 ⊢
    omega
/-- a slot is taken out of the free ones -/
theorem RP_nm {I K K' : sm_I} {Q : mQ} {H : List (Nat × mg)} {hb : Bool} {L : Nat → List Nat} {F F' G : List Nat} {o ro : Nat → Nat} {rm rm' sr ln ln' dd x : Nat} (k : RP I K Q H hb L F G o ro 0 rm sr ln dd) (hF : PF K' F' (owx o x 18) rm' ln') (hx : o x = 0 ∨ rm ≤ x) (hrm : rm ≤ rm')
    (he : ∀ c j, 50 ≤ c → c ≠ 52 → (c = 50 → j < 13 * ln) → K' c j = K c j) (e2 : K' 52 2 = K 52 2) (e3 : K' 52 3 = K 52 3) :
    RP I K' Q H hb L F' G (owx o x 18) ro 0 rm' sr ln' dd := by
  obtain ⟨⟨a1, a2, a3, a4, a5⟩, k2, k3, k4, ⟨g1, g2, g3, g4, g5, g6, g7⟩, k6, k7⟩ := k
  have nx : ∀ l', l' < 16 → ∀ (i y : Nat), (L l')[i]? = some y → y ≠ x := fun l' hl' i y hi e => by
    subst e
    have := (k2 l' hl').2 i y hi
    omega
  have m0 : ∀ y m, y < rm → MS K ro y m → MS K' ro y m := fun y m hy h => MS_c (fun j j1 j2 j3 j4 => he 50 _ (by omega) (by omega) (by omega)) (fun r r1 r2 r3 => ⟨r3, fun j hj => he 51 _ (by omega) (by omega) (by omega)⟩) h
  refine ⟨hF, fun l' hl' => ⟨(k2 l' hl').1, fun i y hi => ?_⟩, fun l' hl' => ?_, fun l' hl' => ⟨(k4 l' hl').1, fun i y m hi hm hx => m0 y m ((k2 l' hl').2 i y hi).1 ((k4 l' hl').2 i y m hi hm hx)⟩, ⟨e2.trans g1, g2, g3, e3.trans g4, g5, fun i r hi => by rw [he 51 _ (by omega) (by omega) (by omega)]; exact g6 i r hi, g7⟩, fun y m hy => ?_, k7⟩
  · rw [owx_n (nx l' hl' i y hi)]
    have := (k2 l' hl').2 i y hi
    exact ⟨by omega, this.2⟩
  · obtain ⟨d1, d2, d3, d4⟩ := k3 l' hl'
    refine ⟨by rw [he 53 _ (by omega) (by omega) (by omega)]; exact d1, by rw [he 55 _ (by omega) (by omega) (by omega)]; exact d2, fun h => by rw [he 54 _ (by omega) (by omega) (by omega)]; exact d3 h, fun i y hi => ?_⟩
    have := ((k2 l' hl').2 i y hi).1
    rw [he 50 (13 * y + 4) (by omega) (by omega) (by omega), he 50 (13 * y + 2) (by omega) (by omega) (by omega), he 50 (13 * y + 3) (by omega) (by omega) (by omega)]
    exact d4 i y hi
  · obtain ⟨d1, d2, d3, d4, d5⟩ := k6 y m hy
    have yx : y ≠ x := fun e => by
      subst e
      cases hbb : hb with
      | true => have := d4 hbb; omega
      | false => obtain ⟨l2, h1, h2⟩ := d5 hbb; omega
    rw [owx_n yx]
    exact ⟨by omega, d2, m0 y m d1 d3, d4, d5⟩
/-- a row is taken out of the free ones -/
theorem RP_ns {I K K' : sm_I} {Q : mQ} {H : List (Nat × mg)} {hb : Bool} {L : Nat → List Nat} {F G G' : List Nat} {o ro : Nat → Nat} {e rm sr sr' ln dd : Nat} (k : RP I K Q H hb L F G o ro e rm sr ln dd) (hG : PG K' G' ro sr') (hc' : G'.length + 1 + sr = G.length + sr')
    (he : ∀ c j, 50 ≤ c → ¬ (c = 52 ∧ (j = 2 ∨ j = 3)) → K' c j = K c j) :
    RP I K' Q H hb L F G' o ro e rm sr' ln (dd + 1) := by
  obtain ⟨⟨a1, a2, a3, a4, a5⟩, k2, k3, k4, -, k6, k7⟩ := k
  have m0 : ∀ y m, MS K ro y m → MS K' ro y m := fun y m h => MS_c (fun j j1 j2 j3 j4 => he 50 _ (by omega) (by omega)) (fun r r1 r2 r3 => ⟨r3, fun j hj => he 51 _ (by omega) (by omega)⟩) h
  refine ⟨⟨by rw [he 52 0 (by omega) (by omega)]; exact a1, a2, by rw [he 52 1 (by omega) (by omega)]; exact a3, a4, fun i y hi => by rw [he 50 _ (by omega) (by omega)]; exact a5 i y hi⟩, k2, fun l' hl' => ?_, fun l' hl' => ⟨(k4 l' hl').1, fun i y m hi hm hx => m0 y m ((k4 l' hl').2 i y m hi hm hx)⟩, hG, fun y m hy => ⟨(k6 y m hy).1, (k6 y m hy).2.1, m0 y m (k6 y m hy).2.2.1, (k6 y m hy).2.2.2⟩, by omega⟩
  obtain ⟨d1, d2, d3, d4⟩ := k3 l' hl'
  refine ⟨by rw [he 53 _ (by omega) (by omega)]; exact d1, by rw [he 55 _ (by omega) (by omega)]; exact d2, fun h => by rw [he 54 _ (by omega) (by omega)]; exact d3 h, fun i y hi => ?_⟩
  rw [he 50 (13 * y + 4) (by omega) (by omega), he 50 (13 * y + 2) (by omega) (by omega), he 50 (13 * y + 3) (by omega) (by omega)]
  exact d4 i y hi
