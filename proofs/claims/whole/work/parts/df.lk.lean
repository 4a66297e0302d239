/-! links of the reference -/
theorem nI_p1 {n : Nat} (h : n + 1 < 2 ^ 31) : ¬ nI (n + 1) ≤ 0 := by
  have z := nI_lt (a := 0) (b := n + 1) (by omega) h
  exact Int32.not_le.mpr z
theorem nI_n0 {n : Nat} (h : n + 1 < 2 ^ 31) : ¬ nI (n + 1) = 0 := fun e => nI_p1 h (by rw [e]; exact Int32.le_refl _)
theorem RU_lk {w : Nat → Bool} {B R : Nat} {H : List (Nat × mg)} {hb : Bool} {h : am_Hp} {am ln : Nat} {K I : sm_I} {Q : mQ} {Z : mZ} {l : Nat} (k : RU w B R H hb h am ln K (I, Q, Z)) (hl : l < 16) : K 55 l = nI (Q l).length ∧ (Q l).length ≤ ln ∧ ∀ m q, Q l = m :: q → ∃ x, K 53 l = nI (13 * x) ∧ x < ln ∧ K 50 (13 * x + 2) = I 24 l ∧ K 50 (13 * x + 3) = I 25 l ∧ K 50 (13 * x) = m.1 0 ∧ K 50 (13 * x + 1) = m.1 1 := by
  obtain ⟨-, -, L, F, G, o, ro, rm, sr, ⟨⟨-, p2, -⟩, k2, k3, k4, -⟩, -⟩ := k
  obtain ⟨n1, n2⟩ := k2 l hl
  obtain ⟨d1, d2, d3, d4⟩ := k3 l hl
  obtain ⟨m1, m2⟩ := k4 l hl
  have hle : (L l).length ≤ rm := nodup_le n1 (fun a ha => by
    obtain ⟨i, hi⟩ := List.getElem?_of_mem ha
    exact (n2 i a hi).1)
  have m1' : (L l).length = (Q l).length := m1
  refine ⟨d2.trans (congrArg nI m1'), by omega, fun m q hq => ?_⟩
  have hL : ∃ x T, L l = x :: T := by
    cases e : L l with
    | nil => rw [e, hq] at m1'; simp at m1'
    | cons x T => exact ⟨x, T, rfl⟩
  obtain ⟨x, T, hL⟩ := hL
  have hx : (L l)[0]? = some x := by rw [hL]; rfl
  obtain ⟨f1, f2, f3⟩ := d4 0 x hx
  obtain ⟨s1, s2, -⟩ := m2 0 x m hx (by show (Q l)[0]? = some m; rw [hq]; rfl) (by omega)
  have hxr := (n2 0 x hx).1
  exact ⟨x, by rw [d1, hL]; rfl, by omega, f2.trans (if_pos rfl), f3.trans (if_pos rfl), s1, s2⟩
theorem RP_fst {I K : sm_I} {Q : mQ} {H : List (Nat × mg)} {hb : Bool} {L : Nat → List Nat} {F G : List Nat} {o ro : Nat → Nat} {e rm sr ln dd l x : Nat} {m : mg} {q : List mg} (hl : l < 16) (k : RP I K Q H hb L F G o ro e rm sr ln dd) (hQ : Q l = m :: q) (h53 : K 53 l = nI (13 * x)) (hx : x < 2 ^ 20) (hln : ln < 2 ^ 20) : ∃ T, L l = x :: T := by
  obtain ⟨⟨-, p2, -⟩, k2, k3, k4, -⟩ := k
  obtain ⟨d1, -⟩ := k3 l hl
  have m1 := (k4 l hl).1
  have n2 := (k2 l hl).2
  cases e : L l with
  | nil => rw [e, hQ] at m1; simp at m1
  | cons y T =>
    have z : nI (13 * y) = nI (13 * x) := by rw [← h53, d1, e]; rfl
    have hy := (n2 0 y (by rw [e]; rfl)).1
    have z2 := (nI_eq (a := 13 * y) (b := 13 * x) (by omega) (by omega)).mp z
    obtain rfl : y = x := by omega
    exact ⟨T, rfl⟩
theorem RU_bus {w : Nat → Bool} {B R : Nat} {H : List (Nat × mg)} {hb : Bool} {h : am_Hp} {am ln : Nat} {K I : sm_I} {Q : mQ} {Z : mZ} {l : Nat} {h2 : am_Hp} {K' I' : sm_I} {x : Nat} {m : mg} {q : List mg} {tb : sm_T} (hl : l < 16) (k : RU w B R H hb h am ln K (I, Q, Z)) (hln : ln < 2 ^ 20) (e : sm_e tb h h2) (hQ : Q l = m :: q) (h53 : K 53 l = nI (13 * x)) (hx : x < ln) (h4 : ∀ i, i ≠ l → I' 24 i = I 24 i) (h5 : ∀ i, i ≠ l → I' 25 i = I 25 i) (hs : stn I' = stn I) (he : ∀ c j, 50 ≤ c → ¬ (c = 50 ∧ (j = 13 * x + 2 ∨ j = 13 * x + 3)) → K' c j = K c j) (k2' : K' 50 (13 * x + 2) = I' 24 l) (k3' : K' 50 (13 * x + 3) = I' 25 l) : RU w B R H hb h2 am ln K' (I', Q, Z) := by
  obtain ⟨a1, a2, L, F, G, o, ro, rm, sr, b1, b2, b3⟩ := k
  obtain ⟨T, hL⟩ := RP_fst hl b1 hQ h53 (by omega) hln
  exact ⟨HB_e e a1, RR_c (fun j hj => he 51 j (by omega) (by omega)) a2, L, F, G, o, ro, rm, sr, RP_bus hl b1 (by rw [hL]; rfl) h4 h5 he k2' k3', by show rm + 2 * stn I' ≤ R; rw [hs]; exact b2, b3⟩
theorem RU_pop {w : Nat → Bool} {B R : Nat} {hb : Bool} {h : am_Hp} {am ln : Nat} {K I : sm_I} {Q : mQ} {Z : mZ} {l : Nat} {h2 : am_Hp} {K' : sm_I} {x : Nat} {m : mg} {q : List mg} {tb : sm_T} (hl : l < 16) (k : RU w B R [] hb h am ln K (I, Q, Z)) (hln : ln < 2 ^ 20) (e : sm_e tb h h2) (hQ : Q l = m :: q) (h53 : K 53 l = nI (13 * x)) (hx : x < ln) (he : ∀ c j, 50 ≤ c → ¬ ((c = 53 ∨ c = 55) ∧ j = l) → K' c j = K c j) (h3 : K' 53 l = K 50 (13 * x + 4)) (h5 : K' 55 l = nI q.length) : RU w B R [(x, m)] true h2 am ln K' (uI (uI I 24 l (-1)) 25 l (-1), uQ Q l q, Z) := by
  obtain ⟨a1, a2, L, F, G, o, ro, rm, sr, b1, b2, b3⟩ := k
  obtain ⟨T, hL⟩ := RP_fst hl b1 hQ h53 (by omega) hln
  have hT : T.length = q.length := by
    have z : (L l).length = (Q l).length := (b1.2.2.2.1 l hl).1
    rw [hL, hQ] at z
    simpa using z
  refine ⟨HB_e e a1, RR_c (fun j hj => he 51 j (by omega) (by omega)) a2, uL L l T, F, G, owx o x 17, ro, rm, sr, RP_pop hl b1 hL hQ (fun i hi => ?_) (fun i hi => ?_) ?_ ?_ he ?_ (by rw [hT]; exact h5), b2, b3⟩
  · show uI (uI I 24 l (-1)) 25 l (-1) 24 i = I 24 i
    rw [uI_c (by decide), uI_j hi]
  · show uI (uI I 24 l (-1)) 25 l (-1) 25 i = I 25 i
    rw [uI_j hi, uI_c (by decide)]
  · show uI (uI I 24 l (-1)) 25 l (-1) 24 l = -1
    rw [uI_c (by decide), uI_s]
  · exact uI_s
  · rw [h3, ((b1.2.2.1 l hl).2.2.2 0 x (by rw [hL]; rfl)).1, hL]; rfl
theorem RU_hold {w : Nat → Bool} {B R : Nat} {hb : Bool} {h : am_Hp} {am ln : Nat} {K I : sm_I} {Q : mQ} {Z : mZ} {l : Nat} {x : Nat} {m : mg} {q : List mg} (hl : l < 16) (k : RU w B R [] hb h am ln K (I, Q, Z)) (hln : ln < 2 ^ 20) (hQ : Q l = m :: q) (h53 : K 53 l = nI (13 * x)) (hx : x < ln) : RU w B R [(x, m)] false h am ln K (I, Q, Z) := by
  obtain ⟨a1, a2, L, F, G, o, ro, rm, sr, b1, b2, b3⟩ := k
  obtain ⟨T, hL⟩ := RP_fst hl b1 hQ h53 (by omega) hln
  obtain ⟨c1, c2, c3, c4, c5, c6, c7⟩ := id b1
  have hx0 : (L l)[0]? = some x := by rw [hL]; rfl
  refine ⟨a1, a2, L, F, G, o, ro, rm, sr, ⟨c1, c2, c3, c4, c5, fun y m' hy => ?_, ?_⟩, b2, b3⟩
  · have hy2 : (y, m') = (x, m) := by simpa using hy
    obtain ⟨rfl, rfl⟩ := Prod.mk.inj hy2
    exact ⟨((c2 l hl).2 0 y hx0).1, by omega, (c4 l hl).2 0 y m' hx0 (by show (Q l)[0]? = some m'; rw [hQ]; rfl) (by omega), nofun, fun _ => ⟨l, hl, ((c2 l hl).2 0 y hx0).2⟩⟩
  · have z2 : hc [] hb = 0 := by cases hb <;> rfl
    have z3 : hc [(x, m)] false = 0 := rfl
    rw [z2] at c7
    rw [z3]
    exact c7
theorem RA_drop {w : Nat → Bool} {B R : Nat} {hb : Bool} {h : am_Hp} {M : mM} {x : Nat} {m : mg} (k : RA w B R [(x, m)] false h M) : RA w B R [] hb h M := by
  obtain ⟨K, Y, am, ln, L, F, G, o, ro, rm, sr, a1, a2, ⟨c1, c2, c3, c4, c5, c6, c7⟩, a4, a5, a6⟩ := k
  have z2 : hc [] hb = 0 := by cases hb <;> rfl
  have z3 : hc [(x, m)] false = 0 := rfl
  refine ⟨K, Y, am, ln, L, F, G, o, ro, rm, sr, a1, a2, ⟨c1, c2, c3, c4, c5, fun y m' hy => by simp at hy, ?_⟩, a4, a5, a6⟩
  rw [z3] at c7
  rw [z2]
  exact c7
theorem rx_wn {w : Nat → Bool} {d : Nat} {h : am_Hp} {I K : sm_I} {Y : sm_X} {am ln : Nat} (hr : rk am 77) (hS : sm (tbr am (13 * ln) 77 5088) h (jn I K) Y) (hln : ln < 2 ^ 20) (hW : ∀ a, 62 ≤ a → a ≤ 88 → w a = true) (hWm : w am = true) {l x n : Nat} (hl : l < 16) (hx : x < ln) (hn : n < 2 ^ 20) (e5 : K 55 l = nI (n + 1)) (e3 : K 53 l = nI (13 * x)) (hd : 1 ≤ d) : am_Ev (am_prog w) d 161 [.ref 62, .int (nI l)] h (fun r h' => r = none ∧ sm (tbr am (13 * ln) 77 5088) h' (jn I (uI K 50 (13 * x + 2) (-1))) Y ∧ sm_e (tbr am (13 * ln) 77 5088) h h') := by
  obtain ⟨d, rfl⟩ : ∃ e, d = e + 1 := ⟨d - 1, by omega⟩
  refine ev_go rfl (Nat.le_of_ble_eq_true rfl) rfl ?_
  refine go_s (pc' := 1) rfl rfl rfl rfl ?_
  refine go_sget (pc' := 2) (v := .ref 74) hS rfl rfl rfl (by decide) rfl rfl ?_
  refine go_s (pc' := 3) rfl rfl rfl rfl ?_
  refine go_sald (pc' := 4) (q := l) (v := .int (nI (n + 1))) hS rfl (tr_s hr (a := 74) rfl (by omega)) rfl rfl (by omega) (congrArg Value.int e5) rfl ?_
  refine go_ifP (t' := 15) (pc' := 5) rfl rfl rfl (fun (c : (nI (n + 1)) ≤ 0) => absurd c (nI_p1 (by omega))) (fun _ => ?_)
  refine go_s (pc' := 6) rfl rfl rfl rfl ?_
  refine go_sget (pc' := 7) (v := .ref am) hS rfl rfl rfl (by decide) rfl rfl ?_
  refine go_s (pc' := 8) rfl rfl rfl rfl ?_
  refine go_sget (pc' := 9) (v := .ref 72) hS rfl rfl rfl (by decide) rfl rfl ?_
  refine go_s (pc' := 10) rfl rfl rfl rfl ?_
  refine go_sald (pc' := 11) (q := l) (v := .int (nI (13 * x))) hS rfl (tr_s hr (a := 72) rfl (by omega)) rfl rfl (by omega) (congrArg Value.int e3) rfl ?_
  refine go_s (pc' := 12) (st' := [.int 2, .int (nI (13 * x)), .ref am]) rfl rfl rfl rfl ?_
  refine go_nadd (pc' := 13) (a := (13 * x)) (b := 2) rfl rfl rfl rfl rfl ?_
  refine go_s (pc' := 14) (st' := [.int (-1), .int (nI ((13 * x) + 2)), .ref am]) rfl rfl rfl rfl ?_
  refine go_siast (pc' := 15) (q := ((13 * x) + 2)) hS rfl (tr_ms hr (by omega)) tbr_inj (Nat.le_of_ble_eq_true rfl) rfl (by omega) (rk_0 hr).1 hWm rfl (fun h1 hS2 hE3 => ?_)
  refine go_ret rfl rfl ?_
  change sm (tbr am (13 * ln) 77 5088) _ (uI (jn I K) 50 ((13 * x) + 2) (-1)) Y at hS2
  rw [jn_hi (c := 50) (by decide)] at hS2
  exact ⟨rfl, hS2, hE3⟩
theorem rx_lv_0 {w : Nat → Bool} {d : Nat} {h : am_Hp} {I K : sm_I} {Y : sm_X} {am ln : Nat} (hr : rk am 77) (hS : sm (tbr am (13 * ln) 77 5088) h (jn I K) Y) (hln : ln < 2 ^ 20) (hW : ∀ a, 62 ≤ a → a ≤ 88 → w a = true) (hWm : w am = true) {l x : Nat} (hl : l < 16) (hx : x < ln) (e5 : K 55 l = nI (0 + 1)) (e3 : K 53 l = nI (13 * x)) (hd : 1 ≤ d) : am_Ev (am_prog w) d 178 [.ref 62, .int (nI l)] h (fun r h' => r = none ∧ sm (tbr am (13 * ln) 77 5088) h' (jn I (uI (uI K 53 l (K 50 (13 * x + 4))) 55 l (nI (0 + 1 - 1)))) Y ∧ sm_e (tbr am (13 * ln) 77 5088) h h') := by
  obtain ⟨d, rfl⟩ : ∃ e, d = e + 1 := ⟨d - 1, by omega⟩
  refine ev_go rfl (Nat.le_of_ble_eq_true rfl) rfl ?_
  refine go_s (pc' := 1) rfl rfl rfl rfl ?_
  refine go_sget (pc' := 2) (v := .ref 72) hS rfl rfl rfl (by decide) rfl rfl ?_
  refine go_s (pc' := 3) rfl rfl rfl rfl ?_
  refine go_sald (pc' := 4) (q := l) (v := .int (nI (13 * x))) hS rfl (tr_s hr (a := 72) rfl (by omega)) rfl rfl (by omega) (congrArg Value.int e3) rfl ?_
  refine go_s (pc' := 5) (lo' := [some (.ref 62), some (.int (nI l)), some (.int (nI (13 * x)))]) rfl rfl rfl rfl ?_
  refine go_s (pc' := 6) rfl rfl rfl rfl ?_
  refine go_sget (pc' := 7) (v := .ref 72) hS rfl rfl rfl (by decide) rfl rfl ?_
  refine go_s (pc' := 8) rfl rfl rfl rfl ?_
  refine go_s (pc' := 9) rfl rfl rfl rfl ?_
  refine go_sget (pc' := 10) (v := .ref am) hS rfl rfl rfl (by decide) rfl rfl ?_
  refine go_s (pc' := 11) rfl rfl rfl rfl ?_
  refine go_s (pc' := 12) (st' := [.int 4, .int (nI (13 * x)), .ref am, .int (nI l), .ref 72]) rfl rfl rfl rfl ?_
  refine go_nadd (pc' := 13) (a := (13 * x)) (b := 4) rfl rfl rfl rfl rfl ?_
  refine go_sald (pc' := 14) (q := ((13 * x) + 4)) (v := .int (K 50 ((13 * x) + 4))) hS rfl (tr_ms hr (by omega)) rfl rfl (by omega) rfl rfl ?_
  refine go_siast (pc' := 15) (q := l) hS rfl (tr_s hr (a := 72) rfl (by omega)) tbr_inj (Nat.le_of_ble_eq_true rfl) rfl (by omega) (by decide) (hW _ (by decide) (by decide)) rfl (fun h1 hS2 hE3 => ?_)
  refine go_s (pc' := 16) rfl rfl rfl rfl ?_
  refine go_sget (pc' := 17) (v := .ref 74) hS2 rfl rfl rfl (by decide) rfl rfl ?_
  refine go_s (pc' := 18) rfl rfl rfl rfl ?_
  refine go_s (pc' := 19) rfl rfl rfl rfl ?_
  refine go_sald (pc' := 20) (q := l) (v := .int (nI (0 + 1))) hS2 rfl (tr_s hr (a := 74) rfl (by omega)) rfl rfl (by omega) (congrArg Value.int e5) rfl ?_
  refine go_s (pc' := 21) (st' := [.int 1, .int (nI (0 + 1)), .int (nI l), .ref 74]) rfl rfl rfl rfl ?_
  refine go_nsub (pc' := 22) (a := (0 + 1)) (b := 1) rfl rfl rfl (by omega) rfl rfl ?_
  refine go_siast (pc' := 23) (q := l) hS2 rfl (tr_s hr (a := 74) rfl (by omega)) tbr_inj (Nat.le_of_ble_eq_true rfl) rfl (by omega) (by decide) (hW _ (by decide) (by decide)) rfl (fun h4 hS5 hE6 => ?_)
  have hE7 := sm_e_trans hE3 hE6
  refine go_s (pc' := 24) rfl rfl rfl rfl ?_
  refine go_sget (pc' := 25) (v := .ref 74) hS5 rfl rfl rfl (by decide) rfl rfl ?_
  refine go_s (pc' := 26) rfl rfl rfl rfl ?_
  refine go_sald (pc' := 27) (q := l) (v := .int (nI ((0 + 1) - 1))) hS5 rfl (tr_s hr (a := 74) rfl (by omega)) rfl rfl (by omega) (by simp [sm_v, uI, jn]) rfl ?_
  refine go_ifP (t' := 34) (pc' := 28) rfl rfl rfl (fun _ => ?_) (fun (c : ¬ ((nI ((0 + 1) - 1)) ≤ 0)) => absurd (by decide) c)
  refine go_ret rfl rfl ?_
  change sm (tbr am (13 * ln) 77 5088) _ (uI (uI (jn I K) 53 l (K 50 ((13 * x) + 4))) 55 l (nI ((0 + 1) - 1))) Y at hS5
  rw [jn_hi (c := 53) (by decide), jn_hi (c := 55) (by decide)] at hS5
  exact ⟨rfl, hS5, hE7⟩
theorem rx_lv_1 {w : Nat → Bool} {d : Nat} {h : am_Hp} {I K : sm_I} {Y : sm_X} {am ln : Nat} (hr : rk am 77) (hS : sm (tbr am (13 * ln) 77 5088) h (jn I K) Y) (hln : ln < 2 ^ 20) (hW : ∀ a, 62 ≤ a → a ≤ 88 → w a = true) (hWm : w am = true) {l x y n : Nat} (hl : l < 16) (hx : x < ln) (hy : y < ln) (e4 : K 50 (13 * x + 4) = nI (13 * y)) (hn : n < 2 ^ 20) (e5 : K 55 l = nI (n + 1 + 1)) (e3 : K 53 l = nI (13 * x)) (hd : 2 ≤ d) : am_Ev (am_prog w) d 178 [.ref 62, .int (nI l)] h (fun r h' => r = none ∧ sm (tbr am (13 * ln) 77 5088) h' (jn I (uI (uI (uI (uI K 53 l (nI (13 * y))) 55 l (nI (n + 1 + 1 - 1))) 50 (13 * y + 2) (fbu I)) 50 (13 * y + 3) (fbu I))) Y ∧ sm_e (tbr am (13 * ln) 77 5088) h h') := by
  obtain ⟨d, rfl⟩ : ∃ e, d = e + 1 := ⟨d - 1, by omega⟩
  refine ev_go rfl (Nat.le_of_ble_eq_true rfl) rfl ?_
  refine go_s (pc' := 1) rfl rfl rfl rfl ?_
  refine go_sget (pc' := 2) (v := .ref 72) hS rfl rfl rfl (by decide) rfl rfl ?_
  refine go_s (pc' := 3) rfl rfl rfl rfl ?_
  refine go_sald (pc' := 4) (q := l) (v := .int (nI (13 * x))) hS rfl (tr_s hr (a := 72) rfl (by omega)) rfl rfl (by omega) (congrArg Value.int e3) rfl ?_
  refine go_s (pc' := 5) (lo' := [some (.ref 62), some (.int (nI l)), some (.int (nI (13 * x)))]) rfl rfl rfl rfl ?_
  refine go_s (pc' := 6) rfl rfl rfl rfl ?_
  refine go_sget (pc' := 7) (v := .ref 72) hS rfl rfl rfl (by decide) rfl rfl ?_
  refine go_s (pc' := 8) rfl rfl rfl rfl ?_
  refine go_s (pc' := 9) rfl rfl rfl rfl ?_
  refine go_sget (pc' := 10) (v := .ref am) hS rfl rfl rfl (by decide) rfl rfl ?_
  refine go_s (pc' := 11) rfl rfl rfl rfl ?_
  refine go_s (pc' := 12) (st' := [.int 4, .int (nI (13 * x)), .ref am, .int (nI l), .ref 72]) rfl rfl rfl rfl ?_
  refine go_nadd (pc' := 13) (a := (13 * x)) (b := 4) rfl rfl rfl rfl rfl ?_
  refine go_sald (pc' := 14) (q := ((13 * x) + 4)) (v := .int (nI (13 * y))) hS rfl (tr_ms hr (by omega)) rfl rfl (by omega) (congrArg Value.int e4) rfl ?_
  refine go_siast (pc' := 15) (q := l) hS rfl (tr_s hr (a := 72) rfl (by omega)) tbr_inj (Nat.le_of_ble_eq_true rfl) rfl (by omega) (by decide) (hW _ (by decide) (by decide)) rfl (fun h1 hS2 hE3 => ?_)
  refine go_s (pc' := 16) rfl rfl rfl rfl ?_
  refine go_sget (pc' := 17) (v := .ref 74) hS2 rfl rfl rfl (by decide) rfl rfl ?_
  refine go_s (pc' := 18) rfl rfl rfl rfl ?_
  refine go_s (pc' := 19) rfl rfl rfl rfl ?_
  refine go_sald (pc' := 20) (q := l) (v := .int (nI (n + 1 + 1))) hS2 rfl (tr_s hr (a := 74) rfl (by omega)) rfl rfl (by omega) (congrArg Value.int e5) rfl ?_
  refine go_s (pc' := 21) (st' := [.int 1, .int (nI (n + 1 + 1)), .int (nI l), .ref 74]) rfl rfl rfl rfl ?_
  refine go_nsub (pc' := 22) (a := (n + 1 + 1)) (b := 1) rfl rfl rfl (by omega) rfl rfl ?_
  refine go_siast (pc' := 23) (q := l) hS2 rfl (tr_s hr (a := 74) rfl (by omega)) tbr_inj (Nat.le_of_ble_eq_true rfl) rfl (by omega) (by decide) (hW _ (by decide) (by decide)) rfl (fun h4 hS5 hE6 => ?_)
  have hE7 := sm_e_trans hE3 hE6
  refine go_s (pc' := 24) rfl rfl rfl rfl ?_
  refine go_sget (pc' := 25) (v := .ref 74) hS5 rfl rfl rfl (by decide) rfl rfl ?_
  refine go_s (pc' := 26) rfl rfl rfl rfl ?_
  refine go_sald (pc' := 27) (q := l) (v := .int (nI ((n + 1 + 1) - 1))) hS5 rfl (tr_s hr (a := 74) rfl (by omega)) rfl rfl (by omega) (by simp [sm_v, uI, jn]) rfl ?_
  refine go_ifP (t' := 34) (pc' := 28) rfl rfl rfl (fun (c : (nI ((n + 1 + 1) - 1)) ≤ 0) => absurd c (by rw [show n + 1 + 1 - 1 = n + 1 by omega]; exact nI_p1 (by omega))) (fun _ => ?_)
  refine go_s (pc' := 29) rfl rfl rfl rfl ?_
  refine go_s (pc' := 30) rfl rfl rfl rfl ?_
  refine go_sget (pc' := 31) (v := .ref 72) hS5 rfl rfl rfl (by decide) rfl rfl ?_
  refine go_s (pc' := 32) rfl rfl rfl rfl ?_
  refine go_sald (pc' := 33) (q := l) (v := .int (nI (13 * y))) hS5 rfl (tr_s hr (a := 72) rfl (by omega)) rfl rfl (by omega) (by simp [sm_v, uI, jn]) rfl ?_
  change sm (tbr am (13 * ln) 77 5088) _ (uI (uI (jn I K) 53 l (nI (13 * y))) 55 l (nI ((n + 1 + 1) - 1))) Y at hS5
  rw [jn_hi (c := 53) (by decide), jn_hi (c := 55) (by decide)] at hS5
  refine go_callV (pc' := 34) rfl rfl rfl (Nat.le_of_ble_eq_true rfl) rfl (sm_o hS5 rfl) rfl rfl rfl (rt_leads hr hS5 hW hWm (m := 13 * y) (by omega) (by omega) (by omega)) (fun r h8 q9 => ?_)
  obtain ⟨rfl, hS10, hE11⟩ := q9
  have hE12 := sm_e_trans hE7 hE11
  rw [jn_hi (c := 50) (by decide), jn_hi (c := 50) (by decide)] at hS10
  refine go_ret rfl rfl ?_
  exact ⟨rfl, hS10, hE12⟩
theorem ra_lv {w : Nat → Bool} {d B R : Nat} {hb : Bool} {h : am_Hp} {am ln : Nat} {K I : sm_I} {Y : sm_X} {Q : mQ} {Z : mZ} {l x : Nat} {m : mg} {q : List mg} (hl : l < 16) (hS : sm (tbr am (13 * ln) 77 5088) h (jn I K) Y) (k : RU w B R [] hb h am ln K (I, Q, Z)) (hln : ln < 2 ^ 20) (hQ : Q l = m :: q) (h53 : K 53 l = nI (13 * x)) (hx : x < ln) (hd : 2 ≤ d) : am_Ev (am_prog w) d 178 [.ref 62, .int (nI l)] h (fun r h' => r = none ∧ ∃ am' ln' K' Y', sm (tbr am' (13 * ln') 77 5088) h' (jn (mlv l (I, Q, Z)).1 K') Y' ∧ RU w B R [(x, m)] true h' am' ln' K' (mlv l (I, Q, Z)) ∧ ln' < 2 ^ 20) := by
  obtain ⟨hW, hWm, -, -, hr, -⟩ := id k.1
  obtain ⟨h55, hle, -⟩ := RU_lk k hl
  rw [hQ] at h55 hle
  have hle2 : q.length + 1 ≤ ln := hle
  cases q with
  | nil =>
    refine ev_post (rx_lv_0 hr hS hln hW hWm hl hx h55 h53 (by omega)) (fun r h' hp => ?_)
    obtain ⟨rfl, s1, s2⟩ := hp
    have hU := RU_pop (K' := uI (uI K 53 l (K 50 (13 * x + 4))) 55 l (nI (0 + 1 - 1))) hl k hln s2 hQ h53 hx (fun c j _ hc => by
      simp only [uI]
      rw [if_neg (fun z => hc ⟨Or.inr z.1, z.2⟩), if_neg (fun z => hc ⟨Or.inl z.1, z.2⟩)]) (by rw [uI_c (by decide), uI_s]) uI_s
    have hm : mlv l (I, Q, Z) = (uI (uI I 24 l (-1)) 25 l (-1), uQ Q l [], Z) := by
      unfold mlv mlvI
      rw [show ((I, Q, Z) : mM).2.1 l = [m] from hQ]
      rfl
    rw [hm]
    exact ⟨rfl, am, ln, _, Y, sm_jg hr s1 (fun c j _ n1 n2 _ => (uI_c n2).trans (uI_c n1)), hU, hln⟩
  | cons m2 q2 =>
    have hU0 := RU_pop (K' := uI (uI K 53 l (K 50 (13 * x + 4))) 55 l (nI (q2.length + 1))) hl k hln (sm_e_refl (fun _ => none) h) hQ h53 hx (fun c j _ hc => by
      simp only [uI]
      rw [if_neg (fun z => hc ⟨Or.inr z.1, z.2⟩), if_neg (fun z => hc ⟨Or.inl z.1, z.2⟩)]) (by rw [uI_c (by decide), uI_s]) uI_s
    obtain ⟨y, y1, y2, y3, y4, y5, y6⟩ := (RU_lk hU0 hl).2.2 m2 q2 uQ_s
    have y1b : K 50 (13 * x + 4) = nI (13 * y) := by
      rw [uI_c (by decide), uI_s] at y1
      exact y1
    have hle3 : q2.length + 1 + 1 ≤ ln := hle2
    refine ev_post (rx_lv_1 hr hS hln hW hWm (n := q2.length) hl hx y2 y1b (by omega) h55 h53 hd) (fun r h' hp => ?_)
    obtain ⟨rfl, s1, s2⟩ := hp
    rw [y1b] at hU0
    rw [show q2.length + 1 + 1 - 1 = q2.length + 1 by omega] at s1
    have hU := RU_bus (K' := uI (uI (uI (uI K 53 l (nI (13 * y))) 55 l (nI (q2.length + 1))) 50 (13 * y + 2) (fbu I)) 50 (13 * y + 3) (fbu I)) (I' := uI (uI I 24 l (fbu I)) 25 l (fbu I)) (x := y) (m := m2) (q := q2) hl hU0 hln s2 uQ_s (by rw [uI_c (by decide), uI_s]) y2 (fun i hi => by rw [uI_c (by decide), uI_j hi, uI_c (by decide), uI_j hi]) (fun i hi => by rw [uI_j hi, uI_c (by decide), uI_j hi, uI_c (by decide)]) rfl (fun c j _ hc => by
      simp only [uI]
      rw [if_neg (fun z => hc ⟨z.1, Or.inr z.2⟩), if_neg (fun z => hc ⟨z.1, Or.inl z.2⟩)]) (by rw [uI_j (by omega), uI_s, uI_c (by decide), uI_s]) (by rw [uI_s, uI_s])
    have hm : mlv l (I, Q, Z) = (uI (uI I 24 l (fbu I)) 25 l (fbu I), uQ Q l (m2 :: q2), Z) := by
      unfold mlv mlvI
      rw [show ((I, Q, Z) : mM).2.1 l = m :: m2 :: q2 from hQ]
      rfl
    rw [hm]
    exact ⟨rfl, am, ln, _, Y, sm_jg hr s1 (fun c j _ n1 n2 _ => (uI_c n2).trans (uI_c n1)), hU, hln⟩
theorem ra_gs {w : Nat → Bool} {d B R : Nat} {hb : Bool} {h : am_Hp} {M : mM} {x : Nat} {m : mg} (hA : RA w B R [(x, m)] true h M) (hR : R < 40000) (hd : 1 ≤ d) : am_Ev (am_prog w) d 159 [.ref 62, .int (nI (13 * x))] h (fun r h' => r = none ∧ RA w B R [] hb h' M) := by
  obtain ⟨K, Y, am, ln, L, F, G, o, ro, rm, sr, a1, a2, a3, a4, a5, a6⟩ := hA
  obtain ⟨hW, hWm, -, -, hr, -⟩ := id a2
  have hln : ln < 2 ^ 20 := by omega
  obtain ⟨⟨-, p2, -⟩, -, -, -, -, p6, -⟩ := id a3
  obtain ⟨q1, q2, ⟨s1, s2, s3, s4, s5, s6⟩, -⟩ := p6 x m (by simp)
  cases e : isS m with
  | false =>
    refine ev_post (rx_go_n hr a1 hln hW hWm (x := x) (by omega) (s5 e) hd) (fun r h' hp => ?_)
    obtain ⟨rfl, t1, t2⟩ := hp
    refine ⟨rfl, _, Y, am, ln, L, x :: F, G, owx o x 0, ro, rm, sr, t1, HB_e t2 a2, RP_go a3 e (fun c j _ c1 c2 => ?_) uI_s ?_, RR_c (fun j hj => ?_) a4, a5, a6⟩
    · simp only [uI]
      rw [if_neg c2, if_neg c1]
    · rw [uI_c (by decide), uI_s]
    · rw [uI_c (by decide), uI_c (by decide)]
  | true =>
    obtain ⟨y, y1, y2, y3, y4, y5⟩ := s6 e
    refine ev_post (rx_go_s hr a1 hln hW hWm (x := x) (by omega) y2 y3 hd) (fun r h' hp => ?_)
    obtain ⟨rfl, t1, t2⟩ := hp
    refine ⟨rfl, _, Y, am, ln, L, x :: F, y :: G, owx o x 0, owx ro y 0, rm, sr, t1, HB_e t2 a2, RP_goS a3 e y2 y1 y4 (fun c j _ c1 c2 c3 c4 => ?_) uI_s ?_ ?_ ?_, RR_c (fun j hj => ?_) a4, a5, a6⟩
    · simp only [uI]
      rw [if_neg c2, if_neg c1, if_neg c3, if_neg c4]
    · rw [uI_c (by decide), uI_s]
    · rw [uI_j (by decide), uI_c (by decide), uI_s]
    · rw [uI_c (by decide), uI_c (by decide), uI_c (by decide), uI_s]
    · rw [uI_c (by decide), uI_c (by decide), uI_c (by decide), uI_j (by omega)]
