/-! links are emptied -/
theorem uQ_r {Q : mQ} {l : Nat} {a b : List mg} : uQ (uQ Q l a) l b = uQ Q l b := by
  funext k
  simp only [uQ]
  by_cases e : k = l
  · rw [if_pos e, if_pos e]
  · rw [if_neg e, if_neg e, if_neg e]
theorem uQ_id {Q : mQ} {l : Nat} {a : List mg} (h : Q l = a) : uQ Q l a = Q := by
  funext k
  simp only [uQ]
  by_cases e : k = l
  · rw [if_pos e, e, h]
  · rw [if_neg e]
theorem mcl_r {I : sm_I} {l : Nat} {a b : Int32} : mclI (uI (uI I 24 l a) 25 l b) l = mclI I l := by
  funext c j
  simp only [mclI, uI]
  by_cases e1 : c = 25 ∧ j = l
  · simp only [if_pos e1]
  · by_cases e2 : c = 24 ∧ j = l
    · simp only [if_neg e1, if_pos e2]
    · simp only [if_neg e1, if_neg e2]
theorem RU_e {w : Nat → Bool} {B R : Nat} {H : List (Nat × mg)} {hb : Bool} {h : am_Hp} {am ln : Nat} {K I : sm_I} {Q : mQ} {Z : mZ} {l : Nat} {v u : Int32} (k : RU w B R H hb h am ln K (I, Q, Z)) (hQ : Q l = []) : RU w B R H hb h am ln K (uI (uI I 24 l v) 25 l u, Q, Z) := by
  obtain ⟨a1, a2, L, F, G, o, ro, rm, sr, ⟨c1, c2, c3, c4, c5, c6, c7⟩, b2, b3⟩ := k
  refine ⟨a1, a2, L, F, G, o, ro, rm, sr, ⟨c1, c2, fun l' hl' => ?_, c4, c5, c6, c7⟩, b2, b3⟩
  obtain ⟨d1, d2, d3, d4⟩ := c3 l' hl'
  refine ⟨d1, d2, d3, fun i x hi => ?_⟩
  by_cases e : l' = l
  · subst e
    have z : (L l').length = (Q l').length := (c4 l' hl').1
    rw [hQ] at z
    have z2 := (List.getElem?_eq_some_iff.mp hi).1
    rw [z] at z2
    exact absurd z2 (by simp)
  · obtain ⟨f1, f2, f3⟩ := d4 i x hi
    refine ⟨f1, f2.trans ?_, f3.trans ?_⟩
    · show (if i = 0 then I 24 l' else -1) = (if i = 0 then uI (uI I 24 l v) 25 l u 24 l' else -1)
      rw [uI_c (by decide), uI_j e]
    · show (if i = 0 then I 25 l' else -1) = (if i = 0 then uI (uI I 24 l v) 25 l u 25 l' else -1)
      rw [uI_j e, uI_c (by decide)]
theorem RU_53 {w : Nat → Bool} {B R : Nat} {H : List (Nat × mg)} {hb : Bool} {h : am_Hp} {am ln : Nat} {K I : sm_I} {Q : mQ} {Z : mZ} {l : Nat} (k : RU w B R H hb h am ln K (I, Q, Z)) (hl : l < 16) (hQ : Q l = []) : K 53 l = -1 := by
  obtain ⟨a1, a2, L, F, G, o, ro, rm, sr, ⟨c1, c2, c3, c4, c5, c6, c7⟩, b2, b3⟩ := k
  have z : (L l).length = (Q l).length := (c4 l hl).1
  rw [hQ] at z
  have z2 : L l = [] := List.eq_nil_of_length_eq_zero z
  rw [(c3 l hl).1, z2]
  rfl
theorem lp_em {w : Nat → Bool} {d B R : Nat} {Z : mZ} {l : Nat} (hl : l < 16) (hR : R < 40000) (hd : 1 ≤ d) : ∀ (q : List mg) (h : am_Hp) (I : sm_I) (Q : mQ) (v2 : Option Value), Q l = q → RA w B R [] true h (I, Q, Z) → am_Go (am_prog w) d am_c158 none 0 [some (.ref 62), some (.int (nI l)), v2] [] h (fun r h' => r = none ∧ RA w B R [] true h' (mclI I l, uQ Q l [], Z)) := by
  intro q
  induction q with
  | nil =>
    intro h I Q v2 hQ hA
    obtain ⟨K, Y, am, ln, hS, hU⟩ := RA_u.mp hA
    change sm (tbr am (13 * ln) 77 5088) h (jn I K) Y at hS
    obtain ⟨hW, hWm, -, -, hr, -⟩ := id hU.1
    have hln := RU_ln hU (by omega)
    have h55 : K 55 l = 0 := by
      have z := (RU_lk hU hl).1
      rw [hQ] at z
      exact z
    refine go_s (pc' := 1) rfl rfl rfl rfl ?_
    refine go_sget (pc' := 2) (v := .ref 74) hS rfl rfl rfl (by decide) rfl rfl ?_
    refine go_s (pc' := 3) rfl rfl rfl rfl ?_
    refine go_sald (pc' := 4) (q := l) (v := .int 0) hS rfl (tr_s hr (a := 74) rfl (by omega)) rfl rfl (by omega) (congrArg Value.int h55) rfl ?_
    refine go_ifP (t' := 32) (pc' := 5) rfl rfl rfl (fun _ => ?_) (fun (c : ¬ ((0 : Int32) ≤ 0)) => absurd (by decide) c)
    refine go_s (pc' := 33) rfl rfl rfl rfl ?_
    refine go_sget (pc' := 34) (v := .ref 72) hS rfl rfl rfl (by decide) rfl rfl ?_
    refine go_s (pc' := 35) rfl rfl rfl rfl ?_
    refine go_s (pc' := 36) (st' := [.int (-1), .int (nI l), .ref 72]) rfl rfl rfl rfl ?_
    refine go_siast (pc' := 37) (q := l) hS rfl (tr_s hr (a := 72) rfl (by omega)) tbr_inj (Nat.le_of_ble_eq_true rfl) rfl (by omega) (by decide) (hW _ (by decide) (by decide)) rfl (fun h1 hS2 hE3 => ?_)
    refine go_s (pc' := 38) rfl rfl rfl rfl ?_
    refine go_sget (pc' := 39) (v := .ref 75) hS2 rfl rfl rfl (by decide) rfl rfl ?_
    refine go_s (pc' := 40) rfl rfl rfl rfl ?_
    refine go_s (pc' := 41) (st' := [.int 0, .int (nI l), .ref 75]) rfl rfl rfl rfl ?_
    refine go_siast (pc' := 42) (q := l) hS2 rfl (tr_s hr (a := 75) rfl (by omega)) tbr_inj (Nat.le_of_ble_eq_true rfl) rfl (by omega) (by decide) (hW _ (by decide) (by decide)) rfl (fun h4 hS5 hE6 => ?_)
    have hE7 := sm_e_trans hE3 hE6
    refine go_s (pc' := 43) rfl rfl rfl rfl ?_
    refine go_sget (pc' := 44) (v := .ref 76) hS5 rfl rfl rfl (by decide) rfl rfl ?_
    refine go_s (pc' := 45) rfl rfl rfl rfl ?_
    refine go_s (pc' := 46) (st' := [.int 0, .int (nI l), .ref 76]) rfl rfl rfl rfl ?_
    refine go_siast (pc' := 47) (q := l) hS5 rfl (tr_s hr (a := 76) rfl (by omega)) tbr_inj (Nat.le_of_ble_eq_true rfl) rfl (by omega) (by decide) (hW _ (by decide) (by decide)) rfl (fun h8 hS9 hE10 => ?_)
    have hE11 := sm_e_trans hE7 hE10
    refine go_ret rfl rfl ?_
    change sm (tbr am (13 * ln) 77 5088) _ (uI (uI (uI (jn I K) 53 l (-1)) 9 l 0) 10 l 0) Y at hS9
    rw [jn_hi (c := 53) (by decide), jn_lo (c := 9) (by decide), jn_lo (c := 10) (by decide)] at hS9
    rw [uI_id (I := K) (c := 53) (j := l) (RU_53 hU hl hQ)] at hS9
    have hU9 : RU w B R [] true _ am ln K (uI (uI I 9 l 0) 10 l 0, Q, Z) := RU_I hE11 (fun _ => rfl) (fun _ => rfl) (Nat.le_refl _) hU
    rw [uQ_id hQ]
    exact ⟨rfl, RA_u.mpr ⟨K, Y, am, ln, sm_jg hr hS9 (fun c j _ n1 n2 _ => by
      show mclI I l c j = _
      unfold mclI
      rw [uI_c n2, uI_c n1]), RU_e hU9 hQ⟩⟩
  | cons m q ih =>
    intro h I Q v2 hQ hA
    obtain ⟨K, Y, am, ln, hS, hU⟩ := RA_u.mp hA
    change sm (tbr am (13 * ln) 77 5088) h (jn I K) Y at hS
    obtain ⟨hW, hWm, -, -, hr, -⟩ := id hU.1
    have hln := RU_ln hU (by omega)
    obtain ⟨h55, hle, hxx⟩ := RU_lk hU hl
    obtain ⟨x, h53, hx, -⟩ := hxx m q hQ
    rw [hQ] at h55 hle
    have h55b : K 55 l = nI (q.length + 1) := h55
    have hle2 : q.length + 1 ≤ ln := hle
    refine go_s (pc' := 1) rfl rfl rfl rfl ?_
    refine go_sget (pc' := 2) (v := .ref 74) hS rfl rfl rfl (by decide) rfl rfl ?_
    refine go_s (pc' := 3) rfl rfl rfl rfl ?_
    refine go_sald (pc' := 4) (q := l) (v := .int (nI (q.length + 1))) hS rfl (tr_s hr (a := 74) rfl (by omega)) rfl rfl (by omega) (congrArg Value.int h55b) rfl ?_
    refine go_ifP (t' := 32) (pc' := 5) rfl rfl rfl (fun (c : (nI (q.length + 1)) ≤ 0) => absurd c (nI_p1 (by omega))) (fun _ => ?_)
    refine go_s (pc' := 6) rfl rfl rfl rfl ?_
    refine go_sget (pc' := 7) (v := .ref 72) hS rfl rfl rfl (by decide) rfl rfl ?_
    refine go_s (pc' := 8) rfl rfl rfl rfl ?_
    refine go_sald (pc' := 9) (q := l) (v := .int (nI (13 * x))) hS rfl (tr_s hr (a := 72) rfl (by omega)) rfl rfl (by omega) (congrArg Value.int h53) rfl ?_
    refine go_s (pc' := 10) (lo' := [some (.ref 62), some (.int (nI l)), some (.int (nI (13 * x)))]) rfl rfl rfl rfl ?_
    refine go_s (pc' := 11) rfl rfl rfl rfl ?_
    refine go_sget (pc' := 12) (v := .ref 72) hS rfl rfl rfl (by decide) rfl rfl ?_
    refine go_s (pc' := 13) rfl rfl rfl rfl ?_
    refine go_s (pc' := 14) rfl rfl rfl rfl ?_
    refine go_sget (pc' := 15) (v := .ref am) hS rfl rfl rfl (by decide) rfl rfl ?_
    refine go_s (pc' := 16) rfl rfl rfl rfl ?_
    refine go_s (pc' := 17) (st' := [.int 4, .int (nI (13 * x)), .ref am, .int (nI l), .ref 72]) rfl rfl rfl rfl ?_
    refine go_nadd (pc' := 18) (a := (13 * x)) (b := 4) rfl rfl rfl rfl rfl ?_
    refine go_sald (pc' := 19) (q := ((13 * x) + 4)) (v := .int (K 50 ((13 * x) + 4))) hS rfl (tr_ms hr (by omega)) rfl rfl (by omega) rfl rfl ?_
    refine go_siast (pc' := 20) (q := l) hS rfl (tr_s hr (a := 72) rfl (by omega)) tbr_inj (Nat.le_of_ble_eq_true rfl) rfl (by omega) (by decide) (hW _ (by decide) (by decide)) rfl (fun h12 hS13 hE14 => ?_)
    refine go_s (pc' := 21) rfl rfl rfl rfl ?_
    refine go_sget (pc' := 22) (v := .ref 74) hS13 rfl rfl rfl (by decide) rfl rfl ?_
    refine go_s (pc' := 23) rfl rfl rfl rfl ?_
    refine go_s (pc' := 24) rfl rfl rfl rfl ?_
    refine go_sald (pc' := 25) (q := l) (v := .int (nI (q.length + 1))) hS13 rfl (tr_s hr (a := 74) rfl (by omega)) rfl rfl (by omega) (congrArg Value.int h55b) rfl ?_
    refine go_s (pc' := 26) (st' := [.int 1, .int (nI (q.length + 1)), .int (nI l), .ref 74]) rfl rfl rfl rfl ?_
    refine go_nsub (pc' := 27) (a := (q.length + 1)) (b := 1) rfl rfl rfl (by omega) rfl rfl ?_
    refine go_siast (pc' := 28) (q := l) hS13 rfl (tr_s hr (a := 74) rfl (by omega)) tbr_inj (Nat.le_of_ble_eq_true rfl) rfl (by omega) (by decide) (hW _ (by decide) (by decide)) rfl (fun h15 hS16 hE17 => ?_)
    have hE18 := sm_e_trans hE14 hE17
    refine go_s (pc' := 29) rfl rfl rfl rfl ?_
    refine go_s (pc' := 30) rfl rfl rfl rfl ?_
    change sm (tbr am (13 * ln) 77 5088) _ (uI (uI (jn I K) 53 l (K 50 ((13 * x) + 4))) 55 l (nI ((q.length + 1) - 1))) Y at hS16
    rw [jn_hi (c := 53) (by decide), jn_hi (c := 55) (by decide)] at hS16
    have hU8 := RU_pop (K' := (uI (uI K 53 l (K 50 ((13 * x) + 4))) 55 l (nI ((q.length + 1) - 1)))) hl hU hln hE18 hQ h53 hx (fun c j _ hc => by
      simp only [uI]
      rw [if_neg (fun z => hc ⟨Or.inr z.1, z.2⟩), if_neg (fun z => hc ⟨Or.inl z.1, z.2⟩)]) (by rw [uI_c (by decide), uI_s]) (by rw [uI_s, show q.length + 1 - 1 = q.length by omega])
    have hA8 : RA w B R [(x, m)] true h15 (uI (uI I 24 l (-1)) 25 l (-1), uQ Q l q, Z) := RA_u.mpr ⟨_, Y, am, ln, sm_jg hr hS16 (fun c j _ n1 n2 _ => (uI_c n2).trans (uI_c n1)), hU8⟩
    refine go_callV (pc' := 31) rfl rfl rfl (Nat.le_of_ble_eq_true rfl) rfl (sm_o hS16 rfl) rfl rfl rfl (ra_gs (hb := true) hA8 (by omega) (by omega)) (fun r h19 q20 => ?_)
    obtain ⟨rfl, hA9⟩ := q20
    refine go_s (pc' := 0) rfl rfl rfl rfl ?_
    have z := ih h19 (uI (uI I 24 l (-1)) 25 l (-1)) (uQ Q l q) (some (.int (nI (13 * x)))) uQ_s hA9
    rw [mcl_r, uQ_r] at z
    exact z
theorem ra_em {w : Nat → Bool} {d B R : Nat} {h : am_Hp} {M : mM} {l : Nat} (hl : l < 16) (hA : RA w B R [] true h M) (hR : R < 40000) (hd : 2 ≤ d) : am_Ev (am_prog w) d 158 [.ref 62, .int (nI l)] h (fun r h' => r = none ∧ RA w B R [] true h' (mclr l M)) := by
  obtain ⟨d, rfl⟩ : ∃ e, d = e + 1 := ⟨d - 1, by omega⟩
  refine ev_go rfl (Nat.le_of_ble_eq_true rfl) rfl ?_
  obtain ⟨I, Q, Z⟩ := M
  exact lp_em hl hR (by omega) (Q l) h I Q none rfl hA
theorem mst_jn {k : Nat} {I K : sm_I} : mstI k (jn I K) = jn (mstI k I) K := by
  unfold mstI
  by_cases e : k = 0
  · rw [if_pos e, if_pos e, jn_lo (by decide), jn_lo (by decide), jn_lo (by decide)]
  · rw [if_neg e, if_neg e, jn_lo (by decide)]
theorem mst_o {k c : Nat} {I : sm_I} (h1 : c ≠ 16) (h2 : c ≠ 21) (h3 : c ≠ 23) : mstI k I c = I c := by
  unfold mstI
  by_cases e : k = 0
  · rw [if_pos e, uI_f h3, uI_f h2, uI_f h1]
  · rw [if_neg e, uI_f h1]
theorem mst_24 {k : Nat} {I : sm_I} : ∀ l, mstI k I 24 l = I 24 l := fun l => congrFun (mst_o (by decide) (by decide) (by decide)) l
theorem mst_25 {k : Nat} {I : sm_I} : ∀ l, mstI k I 25 l = I 25 l := fun l => congrFun (mst_o (by decide) (by decide) (by decide)) l
theorem mst_11 {k : Nat} {I : sm_I} : mstI k I 11 = I 11 := mst_o (by decide) (by decide) (by decide)
theorem mst_stn {k : Nat} {I : sm_I} : stn (mstI k I) ≤ stn I := by
  unfold stn mstI
  by_cases e : k = 0
  · rw [if_pos e, uI_c (by decide), uI_s]
    exact Nat.zero_le _
  · rw [if_neg e, uI_c (by decide)]
    exact Nat.le_refl _
theorem ra_pf_0 {w : Nat → Bool} {d B R : Nat} {h : am_Hp} {I : sm_I} {Q : mQ} {Z : mZ} (hA : RA w B R [] true h (I, Q, Z)) (hR : R + 0 < 40000) (hd : 3 ≤ d) : am_Ev (am_prog w) d 157 [.ref 62, .int 0] h (fun r h' => r = none ∧ RA w B R [] true h' (rfp 0 (I, Q, Z))) := by
  obtain ⟨K, Y, am, ln, hS, hU⟩ := RA_u.mp hA
  change sm (tbr am (13 * ln) 77 5088) h (jn I K) Y at hS
  obtain ⟨hW, hWm, -, -, hr, -⟩ := id hU.1
  have hln := RU_ln hU (by omega)
  obtain ⟨d, rfl⟩ : ∃ e, d = e + 1 := ⟨d - 1, by omega⟩
  refine ev_go rfl (Nat.le_of_ble_eq_true rfl) rfl ?_
  refine go_s (pc' := 1) rfl rfl rfl rfl ?_
  refine go_sget (pc' := 2) (v := .ref 63) hS rfl rfl rfl (by decide) rfl rfl ?_
  refine go_s (pc' := 3) rfl rfl rfl rfl ?_
  refine go_s (pc' := 4) (st' := [.int 0, .int 0, .ref 63]) rfl rfl rfl rfl ?_
  refine go_szast (pc' := 5) (q := 0) hS rfl (tr_s hr (a := 63) rfl (by decide)) tbr_inj (Nat.le_of_ble_eq_true rfl) rfl (by decide) (by decide) rfl (hW _ (by decide) (by decide)) rfl (fun h1 hS2 hE3 => ?_)
  refine go_s (pc' := 6) rfl rfl rfl rfl ?_
  refine go_sget (pc' := 7) (v := .ref 64) hS2 rfl rfl rfl (by decide) rfl rfl ?_
  refine go_s (pc' := 8) rfl rfl rfl rfl ?_
  refine go_s (pc' := 9) (st' := [.int 0, .int 0, .ref 64]) rfl rfl rfl rfl ?_
  refine go_szast (pc' := 10) (q := 0) hS2 rfl (tr_s hr (a := 64) rfl (by decide)) tbr_inj (Nat.le_of_ble_eq_true rfl) rfl (by decide) (by decide) rfl (hW _ (by decide) (by decide)) rfl (fun h4 hS5 hE6 => ?_)
  have hE7 := sm_e_trans hE3 hE6
  refine go_s (pc' := 11) rfl rfl rfl rfl ?_
  refine go_sget (pc' := 12) (v := .ref 65) hS5 rfl rfl rfl (by decide) rfl rfl ?_
  refine go_s (pc' := 13) rfl rfl rfl rfl ?_
  refine go_s (pc' := 14) (st' := [.int 0, .int 0, .ref 65]) rfl rfl rfl rfl ?_
  refine go_siast (pc' := 15) (q := 0) hS5 rfl (tr_s hr (a := 65) rfl (by decide)) tbr_inj (Nat.le_of_ble_eq_true rfl) rfl (by decide) (by decide) (hW _ (by decide) (by decide)) rfl (fun h8 hS9 hE10 => ?_)
  have hE11 := sm_e_trans hE7 hE10
  refine go_s (pc' := 16) (st' := [.int 0]) rfl rfl rfl rfl ?_
  refine go_s (pc' := 17) (lo' := [some (.ref 62), some (.int 0), some (.int 0)]) rfl rfl rfl rfl ?_
  refine go_s (pc' := 18) rfl rfl rfl rfl ?_
  refine go_s (pc' := 19) (st' := [.int 4, .int 0]) rfl rfl rfl rfl ?_
  refine go_icmpP (t' := 36) (pc' := 20) rfl rfl rfl (fun (c : 4 ≤ (0 : Int32)) => absurd c (by decide)) (fun _ => ?_)
  refine go_s (pc' := 21) rfl rfl rfl rfl ?_
  refine go_s (pc' := 22) (st' := [.int 4, .ref 62]) rfl rfl rfl rfl ?_
  refine go_s (pc' := 23) rfl rfl rfl rfl ?_
  refine go_s (pc' := 24) (st' := [.int 0, .ref 62]) rfl rfl rfl rfl ?_
  refine go_s (pc' := 25) rfl rfl rfl rfl ?_
  refine go_s (pc' := 26) (st' := [.int 0, .ref 62]) rfl rfl rfl rfl ?_
  change sm (tbr am (13 * ln) 77 5088) _ (uI (uI (uI (jn I K) 0 0 0) 1 0 0) 2 0 0) Y at hS9
  rw [jn_lo (c := 0) (by decide), jn_lo (c := 1) (by decide), jn_lo (c := 2) (by decide)] at hS9
  have hU12 : RU w B R [] true h8 am ln K ((uI (uI (uI I 0 0 0) 1 0 0) 2 0 0), Q, Z) := RU_I (hE11) (I' := (uI (uI (uI I 0 0 0) 1 0 0) 2 0 0)) (fun _ => rfl) (fun _ => rfl) (Nat.le_refl _) hU
  have hA13 : RA w B R [] true h8 ((uI (uI (uI I 0 0 0) 1 0 0) 2 0 0), Q, Z) := RA_u.mpr ⟨_, _, _, _, hS9, hU12⟩
  refine go_callV (pc' := 27) rfl rfl rfl (Nat.le_of_ble_eq_true rfl) rfl (sm_o hS9 rfl) rfl rfl rfl (ra_em (l := 0) (by decide) hA13 (by omega) (by omega)) (fun r h14 q15 => ?_)
  obtain ⟨rfl, hA16⟩ := q15
  change RA w B R [] true h14 (mclr 0 ((uI (uI (uI I 0 0 0) 1 0 0) 2 0 0), Q, Z)) at hA16
  obtain ⟨M17, eM17⟩ : ∃ y : mM, y = (mclr 0 ((uI (uI (uI I 0 0 0) 1 0 0) 2 0 0), Q, Z)) := ⟨_, rfl⟩
  rw [← eM17] at hA16
  obtain ⟨I17, Q17, Z17⟩ := M17
  obtain ⟨K17, Y17, am17, ln17, hS17, hU17⟩ := RA_u.mp hA16
  change sm (tbr am17 (13 * ln17) 77 5088) h14 (jn I17 K17) Y17 at hS17
  obtain ⟨-, hWm17, -, -, hr17, -⟩ := id hU17.1
  have hln17 := RU_ln hU17 (by omega)
  refine go_s (pc' := 28) rfl rfl rfl rfl ?_
  refine go_s (pc' := 29) (st' := [.int 4, .ref 62]) rfl rfl rfl rfl ?_
  refine go_s (pc' := 30) rfl rfl rfl rfl ?_
  refine go_s (pc' := 31) (st' := [.int 0, .ref 62]) rfl rfl rfl rfl ?_
  refine go_s (pc' := 32) rfl rfl rfl rfl ?_
  refine go_s (pc' := 33) (st' := [.int 0, .ref 62]) rfl rfl rfl rfl ?_
  have hU18 : RU w B R [] true h14 am17 ln17 K17 (I17, Q17, Z17) := RU_I (sm_e_refl (tbr am17 (13 * ln17) 77 5088) _) (I' := I17) (fun _ => rfl) (fun _ => rfl) (Nat.le_refl _) hU17
  have hA19 : RA w B R [] true h14 (I17, Q17, Z17) := RA_u.mpr ⟨_, _, _, _, hS17, hU18⟩
  refine go_callV (pc' := 34) rfl rfl rfl (Nat.le_of_ble_eq_true rfl) rfl (sm_o hS17 rfl) rfl rfl rfl (ra_em (l := 0) (by decide) hA19 (by omega) (by omega)) (fun r h20 q21 => ?_)
  obtain ⟨rfl, hA22⟩ := q21
  change RA w B R [] true h20 (mclr 0 (I17, Q17, Z17)) at hA22
  obtain ⟨M23, eM23⟩ : ∃ y : mM, y = (mclr 0 (I17, Q17, Z17)) := ⟨_, rfl⟩
  rw [← eM23] at hA22
  obtain ⟨I23, Q23, Z23⟩ := M23
  obtain ⟨K23, Y23, am23, ln23, hS23, hU23⟩ := RA_u.mp hA22
  change sm (tbr am23 (13 * ln23) 77 5088) h20 (jn I23 K23) Y23 at hS23
  obtain ⟨-, hWm23, -, -, hr23, -⟩ := id hU23.1
  have hln23 := RU_ln hU23 (by omega)
  refine go_s (pc' := 35) (lo' := [some (.ref 62), some (.int 0), some (.int 1)]) rfl rfl rfl rfl ?_
  refine go_s (pc' := 17) rfl rfl rfl rfl ?_
  refine go_s (pc' := 18) rfl rfl rfl rfl ?_
  refine go_s (pc' := 19) (st' := [.int 4, .int 1]) rfl rfl rfl rfl ?_
  refine go_icmpP (t' := 36) (pc' := 20) rfl rfl rfl (fun (c : 4 ≤ (1 : Int32)) => absurd c (by decide)) (fun _ => ?_)
  refine go_s (pc' := 21) rfl rfl rfl rfl ?_
  refine go_s (pc' := 22) (st' := [.int 4, .ref 62]) rfl rfl rfl rfl ?_
  refine go_s (pc' := 23) rfl rfl rfl rfl ?_
  refine go_s (pc' := 24) (st' := [.int 0, .ref 62]) rfl rfl rfl rfl ?_
  refine go_s (pc' := 25) rfl rfl rfl rfl ?_
  refine go_s (pc' := 26) (st' := [.int 1, .ref 62]) rfl rfl rfl rfl ?_
  have hU24 : RU w B R [] true h20 am23 ln23 K23 (I23, Q23, Z23) := RU_I (sm_e_refl (tbr am23 (13 * ln23) 77 5088) _) (I' := I23) (fun _ => rfl) (fun _ => rfl) (Nat.le_refl _) hU23
  have hA25 : RA w B R [] true h20 (I23, Q23, Z23) := RA_u.mpr ⟨_, _, _, _, hS23, hU24⟩
  refine go_callV (pc' := 27) rfl rfl rfl (Nat.le_of_ble_eq_true rfl) rfl (sm_o hS23 rfl) rfl rfl rfl (ra_em (l := 1) (by decide) hA25 (by omega) (by omega)) (fun r h26 q27 => ?_)
  obtain ⟨rfl, hA28⟩ := q27
  change RA w B R [] true h26 (mclr 1 (I23, Q23, Z23)) at hA28
  obtain ⟨M29, eM29⟩ : ∃ y : mM, y = (mclr 1 (I23, Q23, Z23)) := ⟨_, rfl⟩
  rw [← eM29] at hA28
  obtain ⟨I29, Q29, Z29⟩ := M29
  obtain ⟨K29, Y29, am29, ln29, hS29, hU29⟩ := RA_u.mp hA28
  change sm (tbr am29 (13 * ln29) 77 5088) h26 (jn I29 K29) Y29 at hS29
  obtain ⟨-, hWm29, -, -, hr29, -⟩ := id hU29.1
  have hln29 := RU_ln hU29 (by omega)
  refine go_s (pc' := 28) rfl rfl rfl rfl ?_
  refine go_s (pc' := 29) (st' := [.int 4, .ref 62]) rfl rfl rfl rfl ?_
  refine go_s (pc' := 30) rfl rfl rfl rfl ?_
  refine go_s (pc' := 31) (st' := [.int 4, .ref 62]) rfl rfl rfl rfl ?_
  refine go_s (pc' := 32) rfl rfl rfl rfl ?_
  refine go_s (pc' := 33) (st' := [.int 4, .ref 62]) rfl rfl rfl rfl ?_
  have hU30 : RU w B R [] true h26 am29 ln29 K29 (I29, Q29, Z29) := RU_I (sm_e_refl (tbr am29 (13 * ln29) 77 5088) _) (I' := I29) (fun _ => rfl) (fun _ => rfl) (Nat.le_refl _) hU29
  have hA31 : RA w B R [] true h26 (I29, Q29, Z29) := RA_u.mpr ⟨_, _, _, _, hS29, hU30⟩
  refine go_callV (pc' := 34) rfl rfl rfl (Nat.le_of_ble_eq_true rfl) rfl (sm_o hS29 rfl) rfl rfl rfl (ra_em (l := 4) (by decide) hA31 (by omega) (by omega)) (fun r h32 q33 => ?_)
  obtain ⟨rfl, hA34⟩ := q33
  change RA w B R [] true h32 (mclr 4 (I29, Q29, Z29)) at hA34
  obtain ⟨M35, eM35⟩ : ∃ y : mM, y = (mclr 4 (I29, Q29, Z29)) := ⟨_, rfl⟩
  rw [← eM35] at hA34
  obtain ⟨I35, Q35, Z35⟩ := M35
  obtain ⟨K35, Y35, am35, ln35, hS35, hU35⟩ := RA_u.mp hA34
  change sm (tbr am35 (13 * ln35) 77 5088) h32 (jn I35 K35) Y35 at hS35
  obtain ⟨-, hWm35, -, -, hr35, -⟩ := id hU35.1
  have hln35 := RU_ln hU35 (by omega)
  refine go_s (pc' := 35) (lo' := [some (.ref 62), some (.int 0), some (.int 2)]) rfl rfl rfl rfl ?_
  refine go_s (pc' := 17) rfl rfl rfl rfl ?_
  refine go_s (pc' := 18) rfl rfl rfl rfl ?_
  refine go_s (pc' := 19) (st' := [.int 4, .int 2]) rfl rfl rfl rfl ?_
  refine go_icmpP (t' := 36) (pc' := 20) rfl rfl rfl (fun (c : 4 ≤ (2 : Int32)) => absurd c (by decide)) (fun _ => ?_)
  refine go_s (pc' := 21) rfl rfl rfl rfl ?_
  refine go_s (pc' := 22) (st' := [.int 4, .ref 62]) rfl rfl rfl rfl ?_
  refine go_s (pc' := 23) rfl rfl rfl rfl ?_
  refine go_s (pc' := 24) (st' := [.int 0, .ref 62]) rfl rfl rfl rfl ?_
  refine go_s (pc' := 25) rfl rfl rfl rfl ?_
  refine go_s (pc' := 26) (st' := [.int 2, .ref 62]) rfl rfl rfl rfl ?_
  have hU36 : RU w B R [] true h32 am35 ln35 K35 (I35, Q35, Z35) := RU_I (sm_e_refl (tbr am35 (13 * ln35) 77 5088) _) (I' := I35) (fun _ => rfl) (fun _ => rfl) (Nat.le_refl _) hU35
  have hA37 : RA w B R [] true h32 (I35, Q35, Z35) := RA_u.mpr ⟨_, _, _, _, hS35, hU36⟩
  refine go_callV (pc' := 27) rfl rfl rfl (Nat.le_of_ble_eq_true rfl) rfl (sm_o hS35 rfl) rfl rfl rfl (ra_em (l := 2) (by decide) hA37 (by omega) (by omega)) (fun r h38 q39 => ?_)
  obtain ⟨rfl, hA40⟩ := q39
  change RA w B R [] true h38 (mclr 2 (I35, Q35, Z35)) at hA40
  obtain ⟨M41, eM41⟩ : ∃ y : mM, y = (mclr 2 (I35, Q35, Z35)) := ⟨_, rfl⟩
  rw [← eM41] at hA40
  obtain ⟨I41, Q41, Z41⟩ := M41
  obtain ⟨K41, Y41, am41, ln41, hS41, hU41⟩ := RA_u.mp hA40
  change sm (tbr am41 (13 * ln41) 77 5088) h38 (jn I41 K41) Y41 at hS41
  obtain ⟨-, hWm41, -, -, hr41, -⟩ := id hU41.1
  have hln41 := RU_ln hU41 (by omega)
  refine go_s (pc' := 28) rfl rfl rfl rfl ?_
  refine go_s (pc' := 29) (st' := [.int 4, .ref 62]) rfl rfl rfl rfl ?_
  refine go_s (pc' := 30) rfl rfl rfl rfl ?_
  refine go_s (pc' := 31) (st' := [.int 8, .ref 62]) rfl rfl rfl rfl ?_
  refine go_s (pc' := 32) rfl rfl rfl rfl ?_
  refine go_s (pc' := 33) (st' := [.int 8, .ref 62]) rfl rfl rfl rfl ?_
  have hU42 : RU w B R [] true h38 am41 ln41 K41 (I41, Q41, Z41) := RU_I (sm_e_refl (tbr am41 (13 * ln41) 77 5088) _) (I' := I41) (fun _ => rfl) (fun _ => rfl) (Nat.le_refl _) hU41
  have hA43 : RA w B R [] true h38 (I41, Q41, Z41) := RA_u.mpr ⟨_, _, _, _, hS41, hU42⟩
  refine go_callV (pc' := 34) rfl rfl rfl (Nat.le_of_ble_eq_true rfl) rfl (sm_o hS41 rfl) rfl rfl rfl (ra_em (l := 8) (by decide) hA43 (by omega) (by omega)) (fun r h44 q45 => ?_)
  obtain ⟨rfl, hA46⟩ := q45
  change RA w B R [] true h44 (mclr 8 (I41, Q41, Z41)) at hA46
  obtain ⟨M47, eM47⟩ : ∃ y : mM, y = (mclr 8 (I41, Q41, Z41)) := ⟨_, rfl⟩
  rw [← eM47] at hA46
  obtain ⟨I47, Q47, Z47⟩ := M47
  obtain ⟨K47, Y47, am47, ln47, hS47, hU47⟩ := RA_u.mp hA46
  change sm (tbr am47 (13 * ln47) 77 5088) h44 (jn I47 K47) Y47 at hS47
  obtain ⟨-, hWm47, -, -, hr47, -⟩ := id hU47.1
  have hln47 := RU_ln hU47 (by omega)
  refine go_s (pc' := 35) (lo' := [some (.ref 62), some (.int 0), some (.int 3)]) rfl rfl rfl rfl ?_
  refine go_s (pc' := 17) rfl rfl rfl rfl ?_
  refine go_s (pc' := 18) rfl rfl rfl rfl ?_
  refine go_s (pc' := 19) (st' := [.int 4, .int 3]) rfl rfl rfl rfl ?_
  refine go_icmpP (t' := 36) (pc' := 20) rfl rfl rfl (fun (c : 4 ≤ (3 : Int32)) => absurd c (by decide)) (fun _ => ?_)
  refine go_s (pc' := 21) rfl rfl rfl rfl ?_
  refine go_s (pc' := 22) (st' := [.int 4, .ref 62]) rfl rfl rfl rfl ?_
  refine go_s (pc' := 23) rfl rfl rfl rfl ?_
  refine go_s (pc' := 24) (st' := [.int 0, .ref 62]) rfl rfl rfl rfl ?_
  refine go_s (pc' := 25) rfl rfl rfl rfl ?_
  refine go_s (pc' := 26) (st' := [.int 3, .ref 62]) rfl rfl rfl rfl ?_
  have hU48 : RU w B R [] true h44 am47 ln47 K47 (I47, Q47, Z47) := RU_I (sm_e_refl (tbr am47 (13 * ln47) 77 5088) _) (I' := I47) (fun _ => rfl) (fun _ => rfl) (Nat.le_refl _) hU47
  have hA49 : RA w B R [] true h44 (I47, Q47, Z47) := RA_u.mpr ⟨_, _, _, _, hS47, hU48⟩
  refine go_callV (pc' := 27) rfl rfl rfl (Nat.le_of_ble_eq_true rfl) rfl (sm_o hS47 rfl) rfl rfl rfl (ra_em (l := 3) (by decide) hA49 (by omega) (by omega)) (fun r h50 q51 => ?_)
  obtain ⟨rfl, hA52⟩ := q51
  change RA w B R [] true h50 (mclr 3 (I47, Q47, Z47)) at hA52
  obtain ⟨M53, eM53⟩ : ∃ y : mM, y = (mclr 3 (I47, Q47, Z47)) := ⟨_, rfl⟩
  rw [← eM53] at hA52
  obtain ⟨I53, Q53, Z53⟩ := M53
  obtain ⟨K53, Y53, am53, ln53, hS53, hU53⟩ := RA_u.mp hA52
  change sm (tbr am53 (13 * ln53) 77 5088) h50 (jn I53 K53) Y53 at hS53
  obtain ⟨-, hWm53, -, -, hr53, -⟩ := id hU53.1
  have hln53 := RU_ln hU53 (by omega)
  refine go_s (pc' := 28) rfl rfl rfl rfl ?_
  refine go_s (pc' := 29) (st' := [.int 4, .ref 62]) rfl rfl rfl rfl ?_
  refine go_s (pc' := 30) rfl rfl rfl rfl ?_
  refine go_s (pc' := 31) (st' := [.int 12, .ref 62]) rfl rfl rfl rfl ?_
  refine go_s (pc' := 32) rfl rfl rfl rfl ?_
  refine go_s (pc' := 33) (st' := [.int 12, .ref 62]) rfl rfl rfl rfl ?_
  have hU54 : RU w B R [] true h50 am53 ln53 K53 (I53, Q53, Z53) := RU_I (sm_e_refl (tbr am53 (13 * ln53) 77 5088) _) (I' := I53) (fun _ => rfl) (fun _ => rfl) (Nat.le_refl _) hU53
  have hA55 : RA w B R [] true h50 (I53, Q53, Z53) := RA_u.mpr ⟨_, _, _, _, hS53, hU54⟩
  refine go_callV (pc' := 34) rfl rfl rfl (Nat.le_of_ble_eq_true rfl) rfl (sm_o hS53 rfl) rfl rfl rfl (ra_em (l := 12) (by decide) hA55 (by omega) (by omega)) (fun r h56 q57 => ?_)
  obtain ⟨rfl, hA58⟩ := q57
  change RA w B R [] true h56 (mclr 12 (I53, Q53, Z53)) at hA58
  obtain ⟨M59, eM59⟩ : ∃ y : mM, y = (mclr 12 (I53, Q53, Z53)) := ⟨_, rfl⟩
  rw [← eM59] at hA58
  obtain ⟨I59, Q59, Z59⟩ := M59
  obtain ⟨K59, Y59, am59, ln59, hS59, hU59⟩ := RA_u.mp hA58
  change sm (tbr am59 (13 * ln59) 77 5088) h56 (jn I59 K59) Y59 at hS59
  obtain ⟨-, hWm59, -, -, hr59, -⟩ := id hU59.1
  have hln59 := RU_ln hU59 (by omega)
  refine go_s (pc' := 35) (lo' := [some (.ref 62), some (.int 0), some (.int 4)]) rfl rfl rfl rfl ?_
  refine go_s (pc' := 17) rfl rfl rfl rfl ?_
  refine go_s (pc' := 18) rfl rfl rfl rfl ?_
  refine go_s (pc' := 19) (st' := [.int 4, .int 4]) rfl rfl rfl rfl ?_
  refine go_icmpP (t' := 36) (pc' := 20) rfl rfl rfl (fun _ => ?_) (fun (c : ¬ (4 ≤ (4 : Int32))) => absurd (by decide) c)
  refine go_s (pc' := 37) (st' := [.int 0]) rfl rfl rfl rfl ?_
  refine go_s (pc' := 38) (lo' := [some (.ref 62), some (.int 0), some (.int 0)]) rfl rfl rfl rfl ?_
  refine go_s (pc' := 39) rfl rfl rfl rfl ?_
  refine go_s (pc' := 40) (st' := [.int 3, .int 0]) rfl rfl rfl rfl ?_
  refine go_icmpP (t' := 52) (pc' := 41) rfl rfl rfl (fun (c : 3 ≤ (0 : Int32)) => absurd c (by decide)) (fun _ => ?_)
  refine go_s (pc' := 42) rfl rfl rfl rfl ?_
  refine go_sget (pc' := 43) (v := .ref 78) hS59 rfl rfl rfl (by decide) rfl rfl ?_
  refine go_s (pc' := 44) rfl rfl rfl rfl ?_
  refine go_sald (pc' := 45) (q := 0) (v := .int (I59 11 0)) hS59 rfl (tr_s hr59 (a := 78) rfl (by decide)) rfl rfl (by decide) rfl rfl ?_
  refine go_s (pc' := 46) rfl rfl rfl rfl ?_
  refine go_icmpP (t' := 50) (pc' := 47) rfl rfl rfl (fun (c60 : ¬ (I59 11 0) = 0) => ?_) (fun (c60' : ¬ ¬ (I59 11 0) = 0) => ?_)
  · skip
    have ms61 : mstp 0 0 (I59, Q59, Z59) = (I59, Q59, Z59) := if_neg c60
    refine go_s (pc' := 51) (lo' := [some (.ref 62), some (.int 0), some (.int 1)]) rfl rfl rfl rfl ?_
    refine go_s (pc' := 38) rfl rfl rfl rfl ?_
    refine go_s (pc' := 39) rfl rfl rfl rfl ?_
    refine go_s (pc' := 40) (st' := [.int 3, .int 1]) rfl rfl rfl rfl ?_
    refine go_icmpP (t' := 52) (pc' := 41) rfl rfl rfl (fun (c : 3 ≤ (1 : Int32)) => absurd c (by decide)) (fun _ => ?_)
    refine go_s (pc' := 42) rfl rfl rfl rfl ?_
    refine go_sget (pc' := 43) (v := .ref 78) hS59 rfl rfl rfl (by decide) rfl rfl ?_
    refine go_s (pc' := 44) rfl rfl rfl rfl ?_
    refine go_sald (pc' := 45) (q := 1) (v := .int (I59 11 1)) hS59 rfl (tr_s hr59 (a := 78) rfl (by decide)) rfl rfl (by decide) rfl rfl ?_
    refine go_s (pc' := 46) rfl rfl rfl rfl ?_
    refine go_icmpP (t' := 50) (pc' := 47) rfl rfl rfl (fun (c62 : ¬ (I59 11 1) = 0) => ?_) (fun (c62' : ¬ ¬ (I59 11 1) = 0) => ?_)
    · skip
      have ms63 : mstp 1 0 (I59, Q59, Z59) = (I59, Q59, Z59) := if_neg c62
      refine go_s (pc' := 51) (lo' := [some (.ref 62), some (.int 0), some (.int 2)]) rfl rfl rfl rfl ?_
      refine go_s (pc' := 38) rfl rfl rfl rfl ?_
      refine go_s (pc' := 39) rfl rfl rfl rfl ?_
      refine go_s (pc' := 40) (st' := [.int 3, .int 2]) rfl rfl rfl rfl ?_
      refine go_icmpP (t' := 52) (pc' := 41) rfl rfl rfl (fun (c : 3 ≤ (2 : Int32)) => absurd c (by decide)) (fun _ => ?_)
      refine go_s (pc' := 42) rfl rfl rfl rfl ?_
      refine go_sget (pc' := 43) (v := .ref 78) hS59 rfl rfl rfl (by decide) rfl rfl ?_
      refine go_s (pc' := 44) rfl rfl rfl rfl ?_
      refine go_sald (pc' := 45) (q := 2) (v := .int (I59 11 2)) hS59 rfl (tr_s hr59 (a := 78) rfl (by decide)) rfl rfl (by decide) rfl rfl ?_
      refine go_s (pc' := 46) rfl rfl rfl rfl ?_
      refine go_icmpP (t' := 50) (pc' := 47) rfl rfl rfl (fun (c64 : ¬ (I59 11 2) = 0) => ?_) (fun (c64' : ¬ ¬ (I59 11 2) = 0) => ?_)
      · skip
        have ms65 : mstp 2 0 (I59, Q59, Z59) = (I59, Q59, Z59) := if_neg c64
        refine go_s (pc' := 51) (lo' := [some (.ref 62), some (.int 0), some (.int 3)]) rfl rfl rfl rfl ?_
        refine go_s (pc' := 38) rfl rfl rfl rfl ?_
        refine go_s (pc' := 39) rfl rfl rfl rfl ?_
        refine go_s (pc' := 40) (st' := [.int 3, .int 3]) rfl rfl rfl rfl ?_
        refine go_icmpP (t' := 52) (pc' := 41) rfl rfl rfl (fun _ => ?_) (fun (c : ¬ (3 ≤ (3 : Int32))) => absurd (by decide) c)
        refine go_ret rfl rfl ?_
        have hA66 : RA w B R [] true h56 (I59, Q59, Z59) := RA_u.mpr ⟨_, _, _, _, hS59, hU59⟩
        have hcl : mcl2 0 3 (mcl2 0 2 (mcl2 0 1 (mcl2 0 0 ((uI (uI (uI I 0 0 0) 1 0 0) 2 0 0, Q, Z) : mM)))) = (I59, Q59, Z59) := by
          rw [eM59, eM53, eM47, eM41, eM35, eM29, eM23, eM17]
          rfl
        have hms : rfp 0 (I, Q, Z) = (I59, Q59, Z59) := by
          unfold rfp
          rw [show (uI (uI (uI ((I, Q, Z) : mM).1 0 0 0) 1 0 0) 2 0 0, ((I, Q, Z) : mM).2) = ((uI (uI (uI I 0 0 0) 1 0 0) 2 0 0, Q, Z) : mM) from rfl, hcl, ms61, ms63, ms65]
        rw [hms]
        exact ⟨rfl, hA66⟩
      · skip
        have c64 : (I59 11 2) = 0 := Decidable.not_not.mp c64'
        refine go_s (pc' := 48) rfl rfl rfl rfl ?_
        refine go_s (pc' := 49) rfl rfl rfl rfl ?_
        have hU67 : RU w B R [] true h56 am59 ln59 K59 (I59, Q59, Z59) := RU_I (sm_e_refl (tbr am59 (13 * ln59) 77 5088) _) (I' := I59) (fun _ => rfl) (fun _ => rfl) (Nat.le_refl _) hU59
        refine go_callV (pc' := 50) rfl rfl rfl (Nat.le_of_ble_eq_true rfl) rfl (sm_o hS59 rfl) rfl rfl rfl (rt_stops_2 hr59 hS59 hW (by omega)) (fun r h68 q69 => ?_)
        obtain ⟨rfl, hS70, hE71⟩ := q69
        change sm (tbr am59 (13 * ln59) 77 5088) _ (mstI 2 (jn I59 K59)) Y59 at hS70
        rw [mst_jn] at hS70
        have hU72 : RU w B R [] true h68 am59 ln59 K59 ((mstI 2 I59), Q59, Z59) := RU_I hE71 mst_24 mst_25 mst_stn hU67
        have ms73 : mstp 2 0 (I59, Q59, Z59) = ((mstI 2 I59), Q59, Z59) := if_pos c64
        refine go_s (pc' := 51) (lo' := [some (.ref 62), some (.int 0), some (.int 3)]) rfl rfl rfl rfl ?_
        refine go_s (pc' := 38) rfl rfl rfl rfl ?_
        refine go_s (pc' := 39) rfl rfl rfl rfl ?_
        refine go_s (pc' := 40) (st' := [.int 3, .int 3]) rfl rfl rfl rfl ?_
        refine go_icmpP (t' := 52) (pc' := 41) rfl rfl rfl (fun _ => ?_) (fun (c : ¬ (3 ≤ (3 : Int32))) => absurd (by decide) c)
        refine go_ret rfl rfl ?_
        have hA74 : RA w B R [] true h68 ((mstI 2 I59), Q59, Z59) := RA_u.mpr ⟨_, _, _, _, hS70, hU72⟩
        have hcl : mcl2 0 3 (mcl2 0 2 (mcl2 0 1 (mcl2 0 0 ((uI (uI (uI I 0 0 0) 1 0 0) 2 0 0, Q, Z) : mM)))) = (I59, Q59, Z59) := by
          rw [eM59, eM53, eM47, eM41, eM35, eM29, eM23, eM17]
          rfl
        have hms : rfp 0 (I, Q, Z) = ((mstI 2 I59), Q59, Z59) := by
          unfold rfp
          rw [show (uI (uI (uI ((I, Q, Z) : mM).1 0 0 0) 1 0 0) 2 0 0, ((I, Q, Z) : mM).2) = ((uI (uI (uI I 0 0 0) 1 0 0) 2 0 0, Q, Z) : mM) from rfl, hcl, ms61, ms63, ms73]
        rw [hms]
        exact ⟨rfl, hA74⟩
    · skip
      have c62 : (I59 11 1) = 0 := Decidable.not_not.mp c62'
      refine go_s (pc' := 48) rfl rfl rfl rfl ?_
      refine go_s (pc' := 49) rfl rfl rfl rfl ?_
      have hU75 : RU w B R [] true h56 am59 ln59 K59 (I59, Q59, Z59) := RU_I (sm_e_refl (tbr am59 (13 * ln59) 77 5088) _) (I' := I59) (fun _ => rfl) (fun _ => rfl) (Nat.le_refl _) hU59
      refine go_callV (pc' := 50) rfl rfl rfl (Nat.le_of_ble_eq_true rfl) rfl (sm_o hS59 rfl) rfl rfl rfl (rt_stops_1 hr59 hS59 hW (by omega)) (fun r h76 q77 => ?_)
      obtain ⟨rfl, hS78, hE79⟩ := q77
      change sm (tbr am59 (13 * ln59) 77 5088) _ (mstI 1 (jn I59 K59)) Y59 at hS78
      rw [mst_jn] at hS78
      have hU80 : RU w B R [] true h76 am59 ln59 K59 ((mstI 1 I59), Q59, Z59) := RU_I hE79 mst_24 mst_25 mst_stn hU75
      have ms81 : mstp 1 0 (I59, Q59, Z59) = ((mstI 1 I59), Q59, Z59) := if_pos c62
      refine go_s (pc' := 51) (lo' := [some (.ref 62), some (.int 0), some (.int 2)]) rfl rfl rfl rfl ?_
      refine go_s (pc' := 38) rfl rfl rfl rfl ?_
      refine go_s (pc' := 39) rfl rfl rfl rfl ?_
      refine go_s (pc' := 40) (st' := [.int 3, .int 2]) rfl rfl rfl rfl ?_
      refine go_icmpP (t' := 52) (pc' := 41) rfl rfl rfl (fun (c : 3 ≤ (2 : Int32)) => absurd c (by decide)) (fun _ => ?_)
      refine go_s (pc' := 42) rfl rfl rfl rfl ?_
      refine go_sget (pc' := 43) (v := .ref 78) hS78 rfl rfl rfl (by decide) rfl rfl ?_
      refine go_s (pc' := 44) rfl rfl rfl rfl ?_
      refine go_sald (pc' := 45) (q := 2) (v := .int ((mstI 1 I59) 11 2)) hS78 rfl (tr_s hr59 (a := 78) rfl (by decide)) rfl rfl (by decide) rfl rfl ?_
      refine go_s (pc' := 46) rfl rfl rfl rfl ?_
      refine go_icmpP (t' := 50) (pc' := 47) rfl rfl rfl (fun (c82 : ¬ ((mstI 1 I59) 11 2) = 0) => ?_) (fun (c82' : ¬ ¬ ((mstI 1 I59) 11 2) = 0) => ?_)
      · skip
        have ms83 : mstp 2 0 ((mstI 1 I59), Q59, Z59) = ((mstI 1 I59), Q59, Z59) := if_neg c82
        refine go_s (pc' := 51) (lo' := [some (.ref 62), some (.int 0), some (.int 3)]) rfl rfl rfl rfl ?_
        refine go_s (pc' := 38) rfl rfl rfl rfl ?_
        refine go_s (pc' := 39) rfl rfl rfl rfl ?_
        refine go_s (pc' := 40) (st' := [.int 3, .int 3]) rfl rfl rfl rfl ?_
        refine go_icmpP (t' := 52) (pc' := 41) rfl rfl rfl (fun _ => ?_) (fun (c : ¬ (3 ≤ (3 : Int32))) => absurd (by decide) c)
        refine go_ret rfl rfl ?_
        have hA84 : RA w B R [] true h76 ((mstI 1 I59), Q59, Z59) := RA_u.mpr ⟨_, _, _, _, hS78, hU80⟩
        have hcl : mcl2 0 3 (mcl2 0 2 (mcl2 0 1 (mcl2 0 0 ((uI (uI (uI I 0 0 0) 1 0 0) 2 0 0, Q, Z) : mM)))) = (I59, Q59, Z59) := by
          rw [eM59, eM53, eM47, eM41, eM35, eM29, eM23, eM17]
          rfl
        have hms : rfp 0 (I, Q, Z) = ((mstI 1 I59), Q59, Z59) := by
          unfold rfp
          rw [show (uI (uI (uI ((I, Q, Z) : mM).1 0 0 0) 1 0 0) 2 0 0, ((I, Q, Z) : mM).2) = ((uI (uI (uI I 0 0 0) 1 0 0) 2 0 0, Q, Z) : mM) from rfl, hcl, ms61, ms81, ms83]
        rw [hms]
        exact ⟨rfl, hA84⟩
      · skip
        have c82 : ((mstI 1 I59) 11 2) = 0 := Decidable.not_not.mp c82'
        refine go_s (pc' := 48) rfl rfl rfl rfl ?_
        refine go_s (pc' := 49) rfl rfl rfl rfl ?_
        have hU85 : RU w B R [] true h76 am59 ln59 K59 ((mstI 1 I59), Q59, Z59) := RU_I (sm_e_refl (tbr am59 (13 * ln59) 77 5088) _) (I' := (mstI 1 I59)) (fun _ => rfl) (fun _ => rfl) (Nat.le_refl _) hU80
        refine go_callV (pc' := 50) rfl rfl rfl (Nat.le_of_ble_eq_true rfl) rfl (sm_o hS78 rfl) rfl rfl rfl (rt_stops_2 hr59 hS78 hW (by omega)) (fun r h86 q87 => ?_)
        obtain ⟨rfl, hS88, hE89⟩ := q87
        change sm (tbr am59 (13 * ln59) 77 5088) _ (mstI 2 (jn (mstI 1 I59) K59)) Y59 at hS88
        rw [mst_jn] at hS88
        have hU90 : RU w B R [] true h86 am59 ln59 K59 ((mstI 2 (mstI 1 I59)), Q59, Z59) := RU_I hE89 mst_24 mst_25 mst_stn hU85
        have ms91 : mstp 2 0 ((mstI 1 I59), Q59, Z59) = ((mstI 2 (mstI 1 I59)), Q59, Z59) := if_pos c82
        refine go_s (pc' := 51) (lo' := [some (.ref 62), some (.int 0), some (.int 3)]) rfl rfl rfl rfl ?_
        refine go_s (pc' := 38) rfl rfl rfl rfl ?_
        refine go_s (pc' := 39) rfl rfl rfl rfl ?_
        refine go_s (pc' := 40) (st' := [.int 3, .int 3]) rfl rfl rfl rfl ?_
        refine go_icmpP (t' := 52) (pc' := 41) rfl rfl rfl (fun _ => ?_) (fun (c : ¬ (3 ≤ (3 : Int32))) => absurd (by decide) c)
        refine go_ret rfl rfl ?_
        have hA92 : RA w B R [] true h86 ((mstI 2 (mstI 1 I59)), Q59, Z59) := RA_u.mpr ⟨_, _, _, _, hS88, hU90⟩
        have hcl : mcl2 0 3 (mcl2 0 2 (mcl2 0 1 (mcl2 0 0 ((uI (uI (uI I 0 0 0) 1 0 0) 2 0 0, Q, Z) : mM)))) = (I59, Q59, Z59) := by
          rw [eM59, eM53, eM47, eM41, eM35, eM29, eM23, eM17]
          rfl
        have hms : rfp 0 (I, Q, Z) = ((mstI 2 (mstI 1 I59)), Q59, Z59) := by
          unfold rfp
          rw [show (uI (uI (uI ((I, Q, Z) : mM).1 0 0 0) 1 0 0) 2 0 0, ((I, Q, Z) : mM).2) = ((uI (uI (uI I 0 0 0) 1 0 0) 2 0 0, Q, Z) : mM) from rfl, hcl, ms61, ms81, ms91]
        rw [hms]
        exact ⟨rfl, hA92⟩
  · skip
    have c60 : (I59 11 0) = 0 := Decidable.not_not.mp c60'
    refine go_s (pc' := 48) rfl rfl rfl rfl ?_
    refine go_s (pc' := 49) rfl rfl rfl rfl ?_
    have hU93 : RU w B R [] true h56 am59 ln59 K59 (I59, Q59, Z59) := RU_I (sm_e_refl (tbr am59 (13 * ln59) 77 5088) _) (I' := I59) (fun _ => rfl) (fun _ => rfl) (Nat.le_refl _) hU59
    refine go_callV (pc' := 50) rfl rfl rfl (Nat.le_of_ble_eq_true rfl) rfl (sm_o hS59 rfl) rfl rfl rfl (rt_stops_0 hr59 hS59 hW (by omega)) (fun r h94 q95 => ?_)
    obtain ⟨rfl, hS96, hE97⟩ := q95
    change sm (tbr am59 (13 * ln59) 77 5088) _ (mstI 0 (jn I59 K59)) Y59 at hS96
    rw [mst_jn] at hS96
    have hU98 : RU w B R [] true h94 am59 ln59 K59 ((mstI 0 I59), Q59, Z59) := RU_I hE97 mst_24 mst_25 mst_stn hU93
    have ms99 : mstp 0 0 (I59, Q59, Z59) = ((mstI 0 I59), Q59, Z59) := if_pos c60
    refine go_s (pc' := 51) (lo' := [some (.ref 62), some (.int 0), some (.int 1)]) rfl rfl rfl rfl ?_
    refine go_s (pc' := 38) rfl rfl rfl rfl ?_
    refine go_s (pc' := 39) rfl rfl rfl rfl ?_
    refine go_s (pc' := 40) (st' := [.int 3, .int 1]) rfl rfl rfl rfl ?_
    refine go_icmpP (t' := 52) (pc' := 41) rfl rfl rfl (fun (c : 3 ≤ (1 : Int32)) => absurd c (by decide)) (fun _ => ?_)
    refine go_s (pc' := 42) rfl rfl rfl rfl ?_
    refine go_sget (pc' := 43) (v := .ref 78) hS96 rfl rfl rfl (by decide) rfl rfl ?_
    refine go_s (pc' := 44) rfl rfl rfl rfl ?_
    refine go_sald (pc' := 45) (q := 1) (v := .int ((mstI 0 I59) 11 1)) hS96 rfl (tr_s hr59 (a := 78) rfl (by decide)) rfl rfl (by decide) rfl rfl ?_
    refine go_s (pc' := 46) rfl rfl rfl rfl ?_
    refine go_icmpP (t' := 50) (pc' := 47) rfl rfl rfl (fun (c100 : ¬ ((mstI 0 I59) 11 1) = 0) => ?_) (fun (c100' : ¬ ¬ ((mstI 0 I59) 11 1) = 0) => ?_)
    · skip
      have ms101 : mstp 1 0 ((mstI 0 I59), Q59, Z59) = ((mstI 0 I59), Q59, Z59) := if_neg c100
      refine go_s (pc' := 51) (lo' := [some (.ref 62), some (.int 0), some (.int 2)]) rfl rfl rfl rfl ?_
      refine go_s (pc' := 38) rfl rfl rfl rfl ?_
      refine go_s (pc' := 39) rfl rfl rfl rfl ?_
      refine go_s (pc' := 40) (st' := [.int 3, .int 2]) rfl rfl rfl rfl ?_
      refine go_icmpP (t' := 52) (pc' := 41) rfl rfl rfl (fun (c : 3 ≤ (2 : Int32)) => absurd c (by decide)) (fun _ => ?_)
      refine go_s (pc' := 42) rfl rfl rfl rfl ?_
      refine go_sget (pc' := 43) (v := .ref 78) hS96 rfl rfl rfl (by decide) rfl rfl ?_
      refine go_s (pc' := 44) rfl rfl rfl rfl ?_
      refine go_sald (pc' := 45) (q := 2) (v := .int ((mstI 0 I59) 11 2)) hS96 rfl (tr_s hr59 (a := 78) rfl (by decide)) rfl rfl (by decide) rfl rfl ?_
      refine go_s (pc' := 46) rfl rfl rfl rfl ?_
      refine go_icmpP (t' := 50) (pc' := 47) rfl rfl rfl (fun (c102 : ¬ ((mstI 0 I59) 11 2) = 0) => ?_) (fun (c102' : ¬ ¬ ((mstI 0 I59) 11 2) = 0) => ?_)
      · skip
        have ms103 : mstp 2 0 ((mstI 0 I59), Q59, Z59) = ((mstI 0 I59), Q59, Z59) := if_neg c102
        refine go_s (pc' := 51) (lo' := [some (.ref 62), some (.int 0), some (.int 3)]) rfl rfl rfl rfl ?_
        refine go_s (pc' := 38) rfl rfl rfl rfl ?_
        refine go_s (pc' := 39) rfl rfl rfl rfl ?_
        refine go_s (pc' := 40) (st' := [.int 3, .int 3]) rfl rfl rfl rfl ?_
        refine go_icmpP (t' := 52) (pc' := 41) rfl rfl rfl (fun _ => ?_) (fun (c : ¬ (3 ≤ (3 : Int32))) => absurd (by decide) c)
        refine go_ret rfl rfl ?_
        have hA104 : RA w B R [] true h94 ((mstI 0 I59), Q59, Z59) := RA_u.mpr ⟨_, _, _, _, hS96, hU98⟩
        have hcl : mcl2 0 3 (mcl2 0 2 (mcl2 0 1 (mcl2 0 0 ((uI (uI (uI I 0 0 0) 1 0 0) 2 0 0, Q, Z) : mM)))) = (I59, Q59, Z59) := by
          rw [eM59, eM53, eM47, eM41, eM35, eM29, eM23, eM17]
          rfl
        have hms : rfp 0 (I, Q, Z) = ((mstI 0 I59), Q59, Z59) := by
          unfold rfp
          rw [show (uI (uI (uI ((I, Q, Z) : mM).1 0 0 0) 1 0 0) 2 0 0, ((I, Q, Z) : mM).2) = ((uI (uI (uI I 0 0 0) 1 0 0) 2 0 0, Q, Z) : mM) from rfl, hcl, ms99, ms101, ms103]
        rw [hms]
        exact ⟨rfl, hA104⟩
      · skip
        have c102 : ((mstI 0 I59) 11 2) = 0 := Decidable.not_not.mp c102'
        refine go_s (pc' := 48) rfl rfl rfl rfl ?_
        refine go_s (pc' := 49) rfl rfl rfl rfl ?_
        have hU105 : RU w B R [] true h94 am59 ln59 K59 ((mstI 0 I59), Q59, Z59) := RU_I (sm_e_refl (tbr am59 (13 * ln59) 77 5088) _) (I' := (mstI 0 I59)) (fun _ => rfl) (fun _ => rfl) (Nat.le_refl _) hU98
        refine go_callV (pc' := 50) rfl rfl rfl (Nat.le_of_ble_eq_true rfl) rfl (sm_o hS96 rfl) rfl rfl rfl (rt_stops_2 hr59 hS96 hW (by omega)) (fun r h106 q107 => ?_)
        obtain ⟨rfl, hS108, hE109⟩ := q107
        change sm (tbr am59 (13 * ln59) 77 5088) _ (mstI 2 (jn (mstI 0 I59) K59)) Y59 at hS108
        rw [mst_jn] at hS108
        have hU110 : RU w B R [] true h106 am59 ln59 K59 ((mstI 2 (mstI 0 I59)), Q59, Z59) := RU_I hE109 mst_24 mst_25 mst_stn hU105
        have ms111 : mstp 2 0 ((mstI 0 I59), Q59, Z59) = ((mstI 2 (mstI 0 I59)), Q59, Z59) := if_pos c102
        refine go_s (pc' := 51) (lo' := [some (.ref 62), some (.int 0), some (.int 3)]) rfl rfl rfl rfl ?_
        refine go_s (pc' := 38) rfl rfl rfl rfl ?_
        refine go_s (pc' := 39) rfl rfl rfl rfl ?_
        refine go_s (pc' := 40) (st' := [.int 3, .int 3]) rfl rfl rfl rfl ?_
        refine go_icmpP (t' := 52) (pc' := 41) rfl rfl rfl (fun _ => ?_) (fun (c : ¬ (3 ≤ (3 : Int32))) => absurd (by decide) c)
        refine go_ret rfl rfl ?_
        have hA112 : RA w B R [] true h106 ((mstI 2 (mstI 0 I59)), Q59, Z59) := RA_u.mpr ⟨_, _, _, _, hS108, hU110⟩
        have hcl : mcl2 0 3 (mcl2 0 2 (mcl2 0 1 (mcl2 0 0 ((uI (uI (uI I 0 0 0) 1 0 0) 2 0 0, Q, Z) : mM)))) = (I59, Q59, Z59) := by
          rw [eM59, eM53, eM47, eM41, eM35, eM29, eM23, eM17]
          rfl
        have hms : rfp 0 (I, Q, Z) = ((mstI 2 (mstI 0 I59)), Q59, Z59) := by
          unfold rfp
          rw [show (uI (uI (uI ((I, Q, Z) : mM).1 0 0 0) 1 0 0) 2 0 0, ((I, Q, Z) : mM).2) = ((uI (uI (uI I 0 0 0) 1 0 0) 2 0 0, Q, Z) : mM) from rfl, hcl, ms99, ms101, ms111]
        rw [hms]
        exact ⟨rfl, hA112⟩
    · skip
      have c100 : ((mstI 0 I59) 11 1) = 0 := Decidable.not_not.mp c100'
      refine go_s (pc' := 48) rfl rfl rfl rfl ?_
      refine go_s (pc' := 49) rfl rfl rfl rfl ?_
      have hU113 : RU w B R [] true h94 am59 ln59 K59 ((mstI 0 I59), Q59, Z59) := RU_I (sm_e_refl (tbr am59 (13 * ln59) 77 5088) _) (I' := (mstI 0 I59)) (fun _ => rfl) (fun _ => rfl) (Nat.le_refl _) hU98
      refine go_callV (pc' := 50) rfl rfl rfl (Nat.le_of_ble_eq_true rfl) rfl (sm_o hS96 rfl) rfl rfl rfl (rt_stops_1 hr59 hS96 hW (by omega)) (fun r h114 q115 => ?_)
      obtain ⟨rfl, hS116, hE117⟩ := q115
      change sm (tbr am59 (13 * ln59) 77 5088) _ (mstI 1 (jn (mstI 0 I59) K59)) Y59 at hS116
      rw [mst_jn] at hS116
      have hU118 : RU w B R [] true h114 am59 ln59 K59 ((mstI 1 (mstI 0 I59)), Q59, Z59) := RU_I hE117 mst_24 mst_25 mst_stn hU113
      have ms119 : mstp 1 0 ((mstI 0 I59), Q59, Z59) = ((mstI 1 (mstI 0 I59)), Q59, Z59) := if_pos c100
      refine go_s (pc' := 51) (lo' := [some (.ref 62), some (.int 0), some (.int 2)]) rfl rfl rfl rfl ?_
      refine go_s (pc' := 38) rfl rfl rfl rfl ?_
      refine go_s (pc' := 39) rfl rfl rfl rfl ?_
      refine go_s (pc' := 40) (st' := [.int 3, .int 2]) rfl rfl rfl rfl ?_
      refine go_icmpP (t' := 52) (pc' := 41) rfl rfl rfl (fun (c : 3 ≤ (2 : Int32)) => absurd c (by decide)) (fun _ => ?_)
      refine go_s (pc' := 42) rfl rfl rfl rfl ?_
      refine go_sget (pc' := 43) (v := .ref 78) hS116 rfl rfl rfl (by decide) rfl rfl ?_
      refine go_s (pc' := 44) rfl rfl rfl rfl ?_
      refine go_sald (pc' := 45) (q := 2) (v := .int ((mstI 1 (mstI 0 I59)) 11 2)) hS116 rfl (tr_s hr59 (a := 78) rfl (by decide)) rfl rfl (by decide) rfl rfl ?_
      refine go_s (pc' := 46) rfl rfl rfl rfl ?_
      refine go_icmpP (t' := 50) (pc' := 47) rfl rfl rfl (fun (c120 : ¬ ((mstI 1 (mstI 0 I59)) 11 2) = 0) => ?_) (fun (c120' : ¬ ¬ ((mstI 1 (mstI 0 I59)) 11 2) = 0) => ?_)
      · skip
        have ms121 : mstp 2 0 ((mstI 1 (mstI 0 I59)), Q59, Z59) = ((mstI 1 (mstI 0 I59)), Q59, Z59) := if_neg c120
        refine go_s (pc' := 51) (lo' := [some (.ref 62), some (.int 0), some (.int 3)]) rfl rfl rfl rfl ?_
        refine go_s (pc' := 38) rfl rfl rfl rfl ?_
        refine go_s (pc' := 39) rfl rfl rfl rfl ?_
        refine go_s (pc' := 40) (st' := [.int 3, .int 3]) rfl rfl rfl rfl ?_
        refine go_icmpP (t' := 52) (pc' := 41) rfl rfl rfl (fun _ => ?_) (fun (c : ¬ (3 ≤ (3 : Int32))) => absurd (by decide) c)
        refine go_ret rfl rfl ?_
        have hA122 : RA w B R [] true h114 ((mstI 1 (mstI 0 I59)), Q59, Z59) := RA_u.mpr ⟨_, _, _, _, hS116, hU118⟩
        have hcl : mcl2 0 3 (mcl2 0 2 (mcl2 0 1 (mcl2 0 0 ((uI (uI (uI I 0 0 0) 1 0 0) 2 0 0, Q, Z) : mM)))) = (I59, Q59, Z59) := by
          rw [eM59, eM53, eM47, eM41, eM35, eM29, eM23, eM17]
          rfl
        have hms : rfp 0 (I, Q, Z) = ((mstI 1 (mstI 0 I59)), Q59, Z59) := by
          unfold rfp
          rw [show (uI (uI (uI ((I, Q, Z) : mM).1 0 0 0) 1 0 0) 2 0 0, ((I, Q, Z) : mM).2) = ((uI (uI (uI I 0 0 0) 1 0 0) 2 0 0, Q, Z) : mM) from rfl, hcl, ms99, ms119, ms121]
        rw [hms]
        exact ⟨rfl, hA122⟩
      · skip
        have c120 : ((mstI 1 (mstI 0 I59)) 11 2) = 0 := Decidable.not_not.mp c120'
        refine go_s (pc' := 48) rfl rfl rfl rfl ?_
        refine go_s (pc' := 49) rfl rfl rfl rfl ?_
        have hU123 : RU w B R [] true h114 am59 ln59 K59 ((mstI 1 (mstI 0 I59)), Q59, Z59) := RU_I (sm_e_refl (tbr am59 (13 * ln59) 77 5088) _) (I' := (mstI 1 (mstI 0 I59))) (fun _ => rfl) (fun _ => rfl) (Nat.le_refl _) hU118
        refine go_callV (pc' := 50) rfl rfl rfl (Nat.le_of_ble_eq_true rfl) rfl (sm_o hS116 rfl) rfl rfl rfl (rt_stops_2 hr59 hS116 hW (by omega)) (fun r h124 q125 => ?_)
        obtain ⟨rfl, hS126, hE127⟩ := q125
        change sm (tbr am59 (13 * ln59) 77 5088) _ (mstI 2 (jn (mstI 1 (mstI 0 I59)) K59)) Y59 at hS126
        rw [mst_jn] at hS126
        have hU128 : RU w B R [] true h124 am59 ln59 K59 ((mstI 2 (mstI 1 (mstI 0 I59))), Q59, Z59) := RU_I hE127 mst_24 mst_25 mst_stn hU123
        have ms129 : mstp 2 0 ((mstI 1 (mstI 0 I59)), Q59, Z59) = ((mstI 2 (mstI 1 (mstI 0 I59))), Q59, Z59) := if_pos c120
        refine go_s (pc' := 51) (lo' := [some (.ref 62), some (.int 0), some (.int 3)]) rfl rfl rfl rfl ?_
        refine go_s (pc' := 38) rfl rfl rfl rfl ?_
        refine go_s (pc' := 39) rfl rfl rfl rfl ?_
        refine go_s (pc' := 40) (st' := [.int 3, .int 3]) rfl rfl rfl rfl ?_
        refine go_icmpP (t' := 52) (pc' := 41) rfl rfl rfl (fun _ => ?_) (fun (c : ¬ (3 ≤ (3 : Int32))) => absurd (by decide) c)
        refine go_ret rfl rfl ?_
        have hA130 : RA w B R [] true h124 ((mstI 2 (mstI 1 (mstI 0 I59))), Q59, Z59) := RA_u.mpr ⟨_, _, _, _, hS126, hU128⟩
        have hcl : mcl2 0 3 (mcl2 0 2 (mcl2 0 1 (mcl2 0 0 ((uI (uI (uI I 0 0 0) 1 0 0) 2 0 0, Q, Z) : mM)))) = (I59, Q59, Z59) := by
          rw [eM59, eM53, eM47, eM41, eM35, eM29, eM23, eM17]
          rfl
        have hms : rfp 0 (I, Q, Z) = ((mstI 2 (mstI 1 (mstI 0 I59))), Q59, Z59) := by
          unfold rfp
          rw [show (uI (uI (uI ((I, Q, Z) : mM).1 0 0 0) 1 0 0) 2 0 0, ((I, Q, Z) : mM).2) = ((uI (uI (uI I 0 0 0) 1 0 0) 2 0 0, Q, Z) : mM) from rfl, hcl, ms99, ms119, ms129]
        rw [hms]
        exact ⟨rfl, hA130⟩
theorem ra_pf_1 {w : Nat → Bool} {d B R : Nat} {h : am_Hp} {I : sm_I} {Q : mQ} {Z : mZ} (hA : RA w B R [] true h (I, Q, Z)) (hR : R + 0 < 40000) (hd : 3 ≤ d) : am_Ev (am_prog w) d 157 [.ref 62, .int 1] h (fun r h' => r = none ∧ RA w B R [] true h' (rfp 1 (I, Q, Z))) := by
  obtain ⟨K, Y, am, ln, hS, hU⟩ := RA_u.mp hA
  change sm (tbr am (13 * ln) 77 5088) h (jn I K) Y at hS
  obtain ⟨hW, hWm, -, -, hr, -⟩ := id hU.1
  have hln := RU_ln hU (by omega)
  obtain ⟨d, rfl⟩ : ∃ e, d = e + 1 := ⟨d - 1, by omega⟩
  refine ev_go rfl (Nat.le_of_ble_eq_true rfl) rfl ?_
  refine go_s (pc' := 1) rfl rfl rfl rfl ?_
  refine go_sget (pc' := 2) (v := .ref 63) hS rfl rfl rfl (by decide) rfl rfl ?_
  refine go_s (pc' := 3) rfl rfl rfl rfl ?_
  refine go_s (pc' := 4) (st' := [.int 0, .int 1, .ref 63]) rfl rfl rfl rfl ?_
  refine go_szast (pc' := 5) (q := 1) hS rfl (tr_s hr (a := 63) rfl (by decide)) tbr_inj (Nat.le_of_ble_eq_true rfl) rfl (by decide) (by decide) rfl (hW _ (by decide) (by decide)) rfl (fun h1 hS2 hE3 => ?_)
  refine go_s (pc' := 6) rfl rfl rfl rfl ?_
  refine go_sget (pc' := 7) (v := .ref 64) hS2 rfl rfl rfl (by decide) rfl rfl ?_
  refine go_s (pc' := 8) rfl rfl rfl rfl ?_
  refine go_s (pc' := 9) (st' := [.int 0, .int 1, .ref 64]) rfl rfl rfl rfl ?_
  refine go_szast (pc' := 10) (q := 1) hS2 rfl (tr_s hr (a := 64) rfl (by decide)) tbr_inj (Nat.le_of_ble_eq_true rfl) rfl (by decide) (by decide) rfl (hW _ (by decide) (by decide)) rfl (fun h4 hS5 hE6 => ?_)
  have hE7 := sm_e_trans hE3 hE6
  refine go_s (pc' := 11) rfl rfl rfl rfl ?_
  refine go_sget (pc' := 12) (v := .ref 65) hS5 rfl rfl rfl (by decide) rfl rfl ?_
  refine go_s (pc' := 13) rfl rfl rfl rfl ?_
  refine go_s (pc' := 14) (st' := [.int 0, .int 1, .ref 65]) rfl rfl rfl rfl ?_
  refine go_siast (pc' := 15) (q := 1) hS5 rfl (tr_s hr (a := 65) rfl (by decide)) tbr_inj (Nat.le_of_ble_eq_true rfl) rfl (by decide) (by decide) (hW _ (by decide) (by decide)) rfl (fun h8 hS9 hE10 => ?_)
  have hE11 := sm_e_trans hE7 hE10
  refine go_s (pc' := 16) (st' := [.int 0]) rfl rfl rfl rfl ?_
  refine go_s (pc' := 17) (lo' := [some (.ref 62), some (.int 1), some (.int 0)]) rfl rfl rfl rfl ?_
  refine go_s (pc' := 18) rfl rfl rfl rfl ?_
  refine go_s (pc' := 19) (st' := [.int 4, .int 0]) rfl rfl rfl rfl ?_
  refine go_icmpP (t' := 36) (pc' := 20) rfl rfl rfl (fun (c : 4 ≤ (0 : Int32)) => absurd c (by decide)) (fun _ => ?_)
  refine go_s (pc' := 21) rfl rfl rfl rfl ?_
  refine go_s (pc' := 22) (st' := [.int 4, .ref 62]) rfl rfl rfl rfl ?_
  refine go_s (pc' := 23) rfl rfl rfl rfl ?_
  refine go_s (pc' := 24) (st' := [.int 4, .ref 62]) rfl rfl rfl rfl ?_
  refine go_s (pc' := 25) rfl rfl rfl rfl ?_
  refine go_s (pc' := 26) (st' := [.int 4, .ref 62]) rfl rfl rfl rfl ?_
  change sm (tbr am (13 * ln) 77 5088) _ (uI (uI (uI (jn I K) 0 1 0) 1 1 0) 2 1 0) Y at hS9
  rw [jn_lo (c := 0) (by decide), jn_lo (c := 1) (by decide), jn_lo (c := 2) (by decide)] at hS9
  have hU12 : RU w B R [] true h8 am ln K ((uI (uI (uI I 0 1 0) 1 1 0) 2 1 0), Q, Z) := RU_I (hE11) (I' := (uI (uI (uI I 0 1 0) 1 1 0) 2 1 0)) (fun _ => rfl) (fun _ => rfl) (Nat.le_refl _) hU
  have hA13 : RA w B R [] true h8 ((uI (uI (uI I 0 1 0) 1 1 0) 2 1 0), Q, Z) := RA_u.mpr ⟨_, _, _, _, hS9, hU12⟩
  refine go_callV (pc' := 27) rfl rfl rfl (Nat.le_of_ble_eq_true rfl) rfl (sm_o hS9 rfl) rfl rfl rfl (ra_em (l := 4) (by decide) hA13 (by omega) (by omega)) (fun r h14 q15 => ?_)
  obtain ⟨rfl, hA16⟩ := q15
  change RA w B R [] true h14 (mclr 4 ((uI (uI (uI I 0 1 0) 1 1 0) 2 1 0), Q, Z)) at hA16
  obtain ⟨M17, eM17⟩ : ∃ y : mM, y = (mclr 4 ((uI (uI (uI I 0 1 0) 1 1 0) 2 1 0), Q, Z)) := ⟨_, rfl⟩
  rw [← eM17] at hA16
  obtain ⟨I17, Q17, Z17⟩ := M17
  obtain ⟨K17, Y17, am17, ln17, hS17, hU17⟩ := RA_u.mp hA16
  change sm (tbr am17 (13 * ln17) 77 5088) h14 (jn I17 K17) Y17 at hS17
  obtain ⟨-, hWm17, -, -, hr17, -⟩ := id hU17.1
  have hln17 := RU_ln hU17 (by omega)
  refine go_s (pc' := 28) rfl rfl rfl rfl ?_
  refine go_s (pc' := 29) (st' := [.int 4, .ref 62]) rfl rfl rfl rfl ?_
  refine go_s (pc' := 30) rfl rfl rfl rfl ?_
  refine go_s (pc' := 31) (st' := [.int 0, .ref 62]) rfl rfl rfl rfl ?_
  refine go_s (pc' := 32) rfl rfl rfl rfl ?_
  refine go_s (pc' := 33) (st' := [.int 1, .ref 62]) rfl rfl rfl rfl ?_
  have hU18 : RU w B R [] true h14 am17 ln17 K17 (I17, Q17, Z17) := RU_I (sm_e_refl (tbr am17 (13 * ln17) 77 5088) _) (I' := I17) (fun _ => rfl) (fun _ => rfl) (Nat.le_refl _) hU17
  have hA19 : RA w B R [] true h14 (I17, Q17, Z17) := RA_u.mpr ⟨_, _, _, _, hS17, hU18⟩
  refine go_callV (pc' := 34) rfl rfl rfl (Nat.le_of_ble_eq_true rfl) rfl (sm_o hS17 rfl) rfl rfl rfl (ra_em (l := 1) (by decide) hA19 (by omega) (by omega)) (fun r h20 q21 => ?_)
  obtain ⟨rfl, hA22⟩ := q21
  change RA w B R [] true h20 (mclr 1 (I17, Q17, Z17)) at hA22
  obtain ⟨M23, eM23⟩ : ∃ y : mM, y = (mclr 1 (I17, Q17, Z17)) := ⟨_, rfl⟩
  rw [← eM23] at hA22
  obtain ⟨I23, Q23, Z23⟩ := M23
  obtain ⟨K23, Y23, am23, ln23, hS23, hU23⟩ := RA_u.mp hA22
  change sm (tbr am23 (13 * ln23) 77 5088) h20 (jn I23 K23) Y23 at hS23
  obtain ⟨-, hWm23, -, -, hr23, -⟩ := id hU23.1
  have hln23 := RU_ln hU23 (by omega)
  refine go_s (pc' := 35) (lo' := [some (.ref 62), some (.int 1), some (.int 1)]) rfl rfl rfl rfl ?_
  refine go_s (pc' := 17) rfl rfl rfl rfl ?_
  refine go_s (pc' := 18) rfl rfl rfl rfl ?_
  refine go_s (pc' := 19) (st' := [.int 4, .int 1]) rfl rfl rfl rfl ?_
  refine go_icmpP (t' := 36) (pc' := 20) rfl rfl rfl (fun (c : 4 ≤ (1 : Int32)) => absurd c (by decide)) (fun _ => ?_)
  refine go_s (pc' := 21) rfl rfl rfl rfl ?_
  refine go_s (pc' := 22) (st' := [.int 4, .ref 62]) rfl rfl rfl rfl ?_
  refine go_s (pc' := 23) rfl rfl rfl rfl ?_
  refine go_s (pc' := 24) (st' := [.int 4, .ref 62]) rfl rfl rfl rfl ?_
  refine go_s (pc' := 25) rfl rfl rfl rfl ?_
  refine go_s (pc' := 26) (st' := [.int 5, .ref 62]) rfl rfl rfl rfl ?_
  have hU24 : RU w B R [] true h20 am23 ln23 K23 (I23, Q23, Z23) := RU_I (sm_e_refl (tbr am23 (13 * ln23) 77 5088) _) (I' := I23) (fun _ => rfl) (fun _ => rfl) (Nat.le_refl _) hU23
  have hA25 : RA w B R [] true h20 (I23, Q23, Z23) := RA_u.mpr ⟨_, _, _, _, hS23, hU24⟩
  refine go_callV (pc' := 27) rfl rfl rfl (Nat.le_of_ble_eq_true rfl) rfl (sm_o hS23 rfl) rfl rfl rfl (ra_em (l := 5) (by decide) hA25 (by omega) (by omega)) (fun r h26 q27 => ?_)
  obtain ⟨rfl, hA28⟩ := q27
  change RA w B R [] true h26 (mclr 5 (I23, Q23, Z23)) at hA28
  obtain ⟨M29, eM29⟩ : ∃ y : mM, y = (mclr 5 (I23, Q23, Z23)) := ⟨_, rfl⟩
  rw [← eM29] at hA28
  obtain ⟨I29, Q29, Z29⟩ := M29
  obtain ⟨K29, Y29, am29, ln29, hS29, hU29⟩ := RA_u.mp hA28
  change sm (tbr am29 (13 * ln29) 77 5088) h26 (jn I29 K29) Y29 at hS29
  obtain ⟨-, hWm29, -, -, hr29, -⟩ := id hU29.1
  have hln29 := RU_ln hU29 (by omega)
  refine go_s (pc' := 28) rfl rfl rfl rfl ?_
  refine go_s (pc' := 29) (st' := [.int 4, .ref 62]) rfl rfl rfl rfl ?_
  refine go_s (pc' := 30) rfl rfl rfl rfl ?_
  refine go_s (pc' := 31) (st' := [.int 4, .ref 62]) rfl rfl rfl rfl ?_
  refine go_s (pc' := 32) rfl rfl rfl rfl ?_
  refine go_s (pc' := 33) (st' := [.int 5, .ref 62]) rfl rfl rfl rfl ?_
  have hU30 : RU w B R [] true h26 am29 ln29 K29 (I29, Q29, Z29) := RU_I (sm_e_refl (tbr am29 (13 * ln29) 77 5088) _) (I' := I29) (fun _ => rfl) (fun _ => rfl) (Nat.le_refl _) hU29
  have hA31 : RA w B R [] true h26 (I29, Q29, Z29) := RA_u.mpr ⟨_, _, _, _, hS29, hU30⟩
  refine go_callV (pc' := 34) rfl rfl rfl (Nat.le_of_ble_eq_true rfl) rfl (sm_o hS29 rfl) rfl rfl rfl (ra_em (l := 5) (by decide) hA31 (by omega) (by omega)) (fun r h32 q33 => ?_)
  obtain ⟨rfl, hA34⟩ := q33
  change RA w B R [] true h32 (mclr 5 (I29, Q29, Z29)) at hA34
  obtain ⟨M35, eM35⟩ : ∃ y : mM, y = (mclr 5 (I29, Q29, Z29)) := ⟨_, rfl⟩
  rw [← eM35] at hA34
  obtain ⟨I35, Q35, Z35⟩ := M35
  obtain ⟨K35, Y35, am35, ln35, hS35, hU35⟩ := RA_u.mp hA34
  change sm (tbr am35 (13 * ln35) 77 5088) h32 (jn I35 K35) Y35 at hS35
  obtain ⟨-, hWm35, -, -, hr35, -⟩ := id hU35.1
  have hln35 := RU_ln hU35 (by omega)
  refine go_s (pc' := 35) (lo' := [some (.ref 62), some (.int 1), some (.int 2)]) rfl rfl rfl rfl ?_
  refine go_s (pc' := 17) rfl rfl rfl rfl ?_
  refine go_s (pc' := 18) rfl rfl rfl rfl ?_
  refine go_s (pc' := 19) (st' := [.int 4, .int 2]) rfl rfl rfl rfl ?_
  refine go_icmpP (t' := 36) (pc' := 20) rfl rfl rfl (fun (c : 4 ≤ (2 : Int32)) => absurd c (by decide)) (fun _ => ?_)
  refine go_s (pc' := 21) rfl rfl rfl rfl ?_
  refine go_s (pc' := 22) (st' := [.int 4, .ref 62]) rfl rfl rfl rfl ?_
  refine go_s (pc' := 23) rfl rfl rfl rfl ?_
  refine go_s (pc' := 24) (st' := [.int 4, .ref 62]) rfl rfl rfl rfl ?_
  refine go_s (pc' := 25) rfl rfl rfl rfl ?_
  refine go_s (pc' := 26) (st' := [.int 6, .ref 62]) rfl rfl rfl rfl ?_
  have hU36 : RU w B R [] true h32 am35 ln35 K35 (I35, Q35, Z35) := RU_I (sm_e_refl (tbr am35 (13 * ln35) 77 5088) _) (I' := I35) (fun _ => rfl) (fun _ => rfl) (Nat.le_refl _) hU35
  have hA37 : RA w B R [] true h32 (I35, Q35, Z35) := RA_u.mpr ⟨_, _, _, _, hS35, hU36⟩
  refine go_callV (pc' := 27) rfl rfl rfl (Nat.le_of_ble_eq_true rfl) rfl (sm_o hS35 rfl) rfl rfl rfl (ra_em (l := 6) (by decide) hA37 (by omega) (by omega)) (fun r h38 q39 => ?_)
  obtain ⟨rfl, hA40⟩ := q39
  change RA w B R [] true h38 (mclr 6 (I35, Q35, Z35)) at hA40
  obtain ⟨M41, eM41⟩ : ∃ y : mM, y = (mclr 6 (I35, Q35, Z35)) := ⟨_, rfl⟩
  rw [← eM41] at hA40
  obtain ⟨I41, Q41, Z41⟩ := M41
  obtain ⟨K41, Y41, am41, ln41, hS41, hU41⟩ := RA_u.mp hA40
  change sm (tbr am41 (13 * ln41) 77 5088) h38 (jn I41 K41) Y41 at hS41
  obtain ⟨-, hWm41, -, -, hr41, -⟩ := id hU41.1
  have hln41 := RU_ln hU41 (by omega)
  refine go_s (pc' := 28) rfl rfl rfl rfl ?_
  refine go_s (pc' := 29) (st' := [.int 4, .ref 62]) rfl rfl rfl rfl ?_
  refine go_s (pc' := 30) rfl rfl rfl rfl ?_
  refine go_s (pc' := 31) (st' := [.int 8, .ref 62]) rfl rfl rfl rfl ?_
  refine go_s (pc' := 32) rfl rfl rfl rfl ?_
  refine go_s (pc' := 33) (st' := [.int 9, .ref 62]) rfl rfl rfl rfl ?_
  have hU42 : RU w B R [] true h38 am41 ln41 K41 (I41, Q41, Z41) := RU_I (sm_e_refl (tbr am41 (13 * ln41) 77 5088) _) (I' := I41) (fun _ => rfl) (fun _ => rfl) (Nat.le_refl _) hU41
  have hA43 : RA w B R [] true h38 (I41, Q41, Z41) := RA_u.mpr ⟨_, _, _, _, hS41, hU42⟩
  refine go_callV (pc' := 34) rfl rfl rfl (Nat.le_of_ble_eq_true rfl) rfl (sm_o hS41 rfl) rfl rfl rfl (ra_em (l := 9) (by decide) hA43 (by omega) (by omega)) (fun r h44 q45 => ?_)
  obtain ⟨rfl, hA46⟩ := q45
  change RA w B R [] true h44 (mclr 9 (I41, Q41, Z41)) at hA46
  obtain ⟨M47, eM47⟩ : ∃ y : mM, y = (mclr 9 (I41, Q41, Z41)) := ⟨_, rfl⟩
  rw [← eM47] at hA46
  obtain ⟨I47, Q47, Z47⟩ := M47
  obtain ⟨K47, Y47, am47, ln47, hS47, hU47⟩ := RA_u.mp hA46
  change sm (tbr am47 (13 * ln47) 77 5088) h44 (jn I47 K47) Y47 at hS47
  obtain ⟨-, hWm47, -, -, hr47, -⟩ := id hU47.1
  have hln47 := RU_ln hU47 (by omega)
  refine go_s (pc' := 35) (lo' := [some (.ref 62), some (.int 1), some (.int 3)]) rfl rfl rfl rfl ?_
  refine go_s (pc' := 17) rfl rfl rfl rfl ?_
  refine go_s (pc' := 18) rfl rfl rfl rfl ?_
  refine go_s (pc' := 19) (st' := [.int 4, .int 3]) rfl rfl rfl rfl ?_
  refine go_icmpP (t' := 36) (pc' := 20) rfl rfl rfl (fun (c : 4 ≤ (3 : Int32)) => absurd c (by decide)) (fun _ => ?_)
  refine go_s (pc' := 21) rfl rfl rfl rfl ?_
  refine go_s (pc' := 22) (st' := [.int 4, .ref 62]) rfl rfl rfl rfl ?_
  refine go_s (pc' := 23) rfl rfl rfl rfl ?_
  refine go_s (pc' := 24) (st' := [.int 4, .ref 62]) rfl rfl rfl rfl ?_
  refine go_s (pc' := 25) rfl rfl rfl rfl ?_
  refine go_s (pc' := 26) (st' := [.int 7, .ref 62]) rfl rfl rfl rfl ?_
  have hU48 : RU w B R [] true h44 am47 ln47 K47 (I47, Q47, Z47) := RU_I (sm_e_refl (tbr am47 (13 * ln47) 77 5088) _) (I' := I47) (fun _ => rfl) (fun _ => rfl) (Nat.le_refl _) hU47
  have hA49 : RA w B R [] true h44 (I47, Q47, Z47) := RA_u.mpr ⟨_, _, _, _, hS47, hU48⟩
  refine go_callV (pc' := 27) rfl rfl rfl (Nat.le_of_ble_eq_true rfl) rfl (sm_o hS47 rfl) rfl rfl rfl (ra_em (l := 7) (by decide) hA49 (by omega) (by omega)) (fun r h50 q51 => ?_)
  obtain ⟨rfl, hA52⟩ := q51
  change RA w B R [] true h50 (mclr 7 (I47, Q47, Z47)) at hA52
  obtain ⟨M53, eM53⟩ : ∃ y : mM, y = (mclr 7 (I47, Q47, Z47)) := ⟨_, rfl⟩
  rw [← eM53] at hA52
  obtain ⟨I53, Q53, Z53⟩ := M53
  obtain ⟨K53, Y53, am53, ln53, hS53, hU53⟩ := RA_u.mp hA52
  change sm (tbr am53 (13 * ln53) 77 5088) h50 (jn I53 K53) Y53 at hS53
  obtain ⟨-, hWm53, -, -, hr53, -⟩ := id hU53.1
  have hln53 := RU_ln hU53 (by omega)
  refine go_s (pc' := 28) rfl rfl rfl rfl ?_
  refine go_s (pc' := 29) (st' := [.int 4, .ref 62]) rfl rfl rfl rfl ?_
  refine go_s (pc' := 30) rfl rfl rfl rfl ?_
  refine go_s (pc' := 31) (st' := [.int 12, .ref 62]) rfl rfl rfl rfl ?_
  refine go_s (pc' := 32) rfl rfl rfl rfl ?_
  refine go_s (pc' := 33) (st' := [.int 13, .ref 62]) rfl rfl rfl rfl ?_
  have hU54 : RU w B R [] true h50 am53 ln53 K53 (I53, Q53, Z53) := RU_I (sm_e_refl (tbr am53 (13 * ln53) 77 5088) _) (I' := I53) (fun _ => rfl) (fun _ => rfl) (Nat.le_refl _) hU53
  have hA55 : RA w B R [] true h50 (I53, Q53, Z53) := RA_u.mpr ⟨_, _, _, _, hS53, hU54⟩
  refine go_callV (pc' := 34) rfl rfl rfl (Nat.le_of_ble_eq_true rfl) rfl (sm_o hS53 rfl) rfl rfl rfl (ra_em (l := 13) (by decide) hA55 (by omega) (by omega)) (fun r h56 q57 => ?_)
  obtain ⟨rfl, hA58⟩ := q57
  change RA w B R [] true h56 (mclr 13 (I53, Q53, Z53)) at hA58
  obtain ⟨M59, eM59⟩ : ∃ y : mM, y = (mclr 13 (I53, Q53, Z53)) := ⟨_, rfl⟩
  rw [← eM59] at hA58
  obtain ⟨I59, Q59, Z59⟩ := M59
  obtain ⟨K59, Y59, am59, ln59, hS59, hU59⟩ := RA_u.mp hA58
  change sm (tbr am59 (13 * ln59) 77 5088) h56 (jn I59 K59) Y59 at hS59
  obtain ⟨-, hWm59, -, -, hr59, -⟩ := id hU59.1
  have hln59 := RU_ln hU59 (by omega)
  refine go_s (pc' := 35) (lo' := [some (.ref 62), some (.int 1), some (.int 4)]) rfl rfl rfl rfl ?_
  refine go_s (pc' := 17) rfl rfl rfl rfl ?_
  refine go_s (pc' := 18) rfl rfl rfl rfl ?_
  refine go_s (pc' := 19) (st' := [.int 4, .int 4]) rfl rfl rfl rfl ?_
  refine go_icmpP (t' := 36) (pc' := 20) rfl rfl rfl (fun _ => ?_) (fun (c : ¬ (4 ≤ (4 : Int32))) => absurd (by decide) c)
  refine go_s (pc' := 37) (st' := [.int 0]) rfl rfl rfl rfl ?_
  refine go_s (pc' := 38) (lo' := [some (.ref 62), some (.int 1), some (.int 0)]) rfl rfl rfl rfl ?_
  refine go_s (pc' := 39) rfl rfl rfl rfl ?_
  refine go_s (pc' := 40) (st' := [.int 3, .int 0]) rfl rfl rfl rfl ?_
  refine go_icmpP (t' := 52) (pc' := 41) rfl rfl rfl (fun (c : 3 ≤ (0 : Int32)) => absurd c (by decide)) (fun _ => ?_)
  refine go_s (pc' := 42) rfl rfl rfl rfl ?_
  refine go_sget (pc' := 43) (v := .ref 78) hS59 rfl rfl rfl (by decide) rfl rfl ?_
  refine go_s (pc' := 44) rfl rfl rfl rfl ?_
  refine go_sald (pc' := 45) (q := 0) (v := .int (I59 11 0)) hS59 rfl (tr_s hr59 (a := 78) rfl (by decide)) rfl rfl (by decide) rfl rfl ?_
  refine go_s (pc' := 46) rfl rfl rfl rfl ?_
  refine go_icmpP (t' := 50) (pc' := 47) rfl rfl rfl (fun (c60 : ¬ (I59 11 0) = 1) => ?_) (fun (c60' : ¬ ¬ (I59 11 0) = 1) => ?_)
  · skip
    have ms61 : mstp 0 1 (I59, Q59, Z59) = (I59, Q59, Z59) := if_neg c60
    refine go_s (pc' := 51) (lo' := [some (.ref 62), some (.int 1), some (.int 1)]) rfl rfl rfl rfl ?_
    refine go_s (pc' := 38) rfl rfl rfl rfl ?_
    refine go_s (pc' := 39) rfl rfl rfl rfl ?_
    refine go_s (pc' := 40) (st' := [.int 3, .int 1]) rfl rfl rfl rfl ?_
    refine go_icmpP (t' := 52) (pc' := 41) rfl rfl rfl (fun (c : 3 ≤ (1 : Int32)) => absurd c (by decide)) (fun _ => ?_)
    refine go_s (pc' := 42) rfl rfl rfl rfl ?_
    refine go_sget (pc' := 43) (v := .ref 78) hS59 rfl rfl rfl (by decide) rfl rfl ?_
    refine go_s (pc' := 44) rfl rfl rfl rfl ?_
    refine go_sald (pc' := 45) (q := 1) (v := .int (I59 11 1)) hS59 rfl (tr_s hr59 (a := 78) rfl (by decide)) rfl rfl (by decide) rfl rfl ?_
    refine go_s (pc' := 46) rfl rfl rfl rfl ?_
    refine go_icmpP (t' := 50) (pc' := 47) rfl rfl rfl (fun (c62 : ¬ (I59 11 1) = 1) => ?_) (fun (c62' : ¬ ¬ (I59 11 1) = 1) => ?_)
    · skip
      have ms63 : mstp 1 1 (I59, Q59, Z59) = (I59, Q59, Z59) := if_neg c62
      refine go_s (pc' := 51) (lo' := [some (.ref 62), some (.int 1), some (.int 2)]) rfl rfl rfl rfl ?_
      refine go_s (pc' := 38) rfl rfl rfl rfl ?_
      refine go_s (pc' := 39) rfl rfl rfl rfl ?_
      refine go_s (pc' := 40) (st' := [.int 3, .int 2]) rfl rfl rfl rfl ?_
      refine go_icmpP (t' := 52) (pc' := 41) rfl rfl rfl (fun (c : 3 ≤ (2 : Int32)) => absurd c (by decide)) (fun _ => ?_)
      refine go_s (pc' := 42) rfl rfl rfl rfl ?_
      refine go_sget (pc' := 43) (v := .ref 78) hS59 rfl rfl rfl (by decide) rfl rfl ?_
      refine go_s (pc' := 44) rfl rfl rfl rfl ?_
      refine go_sald (pc' := 45) (q := 2) (v := .int (I59 11 2)) hS59 rfl (tr_s hr59 (a := 78) rfl (by decide)) rfl rfl (by decide) rfl rfl ?_
      refine go_s (pc' := 46) rfl rfl rfl rfl ?_
      refine go_icmpP (t' := 50) (pc' := 47) rfl rfl rfl (fun (c64 : ¬ (I59 11 2) = 1) => ?_) (fun (c64' : ¬ ¬ (I59 11 2) = 1) => ?_)
      · skip
        have ms65 : mstp 2 1 (I59, Q59, Z59) = (I59, Q59, Z59) := if_neg c64
        refine go_s (pc' := 51) (lo' := [some (.ref 62), some (.int 1), some (.int 3)]) rfl rfl rfl rfl ?_
        refine go_s (pc' := 38) rfl rfl rfl rfl ?_
        refine go_s (pc' := 39) rfl rfl rfl rfl ?_
        refine go_s (pc' := 40) (st' := [.int 3, .int 3]) rfl rfl rfl rfl ?_
        refine go_icmpP (t' := 52) (pc' := 41) rfl rfl rfl (fun _ => ?_) (fun (c : ¬ (3 ≤ (3 : Int32))) => absurd (by decide) c)
        refine go_ret rfl rfl ?_
        have hA66 : RA w B R [] true h56 (I59, Q59, Z59) := RA_u.mpr ⟨_, _, _, _, hS59, hU59⟩
        have hcl : mcl2 1 3 (mcl2 1 2 (mcl2 1 1 (mcl2 1 0 ((uI (uI (uI I 0 1 0) 1 1 0) 2 1 0, Q, Z) : mM)))) = (I59, Q59, Z59) := by
          rw [eM59, eM53, eM47, eM41, eM35, eM29, eM23, eM17]
          rfl
        have hms : rfp 1 (I, Q, Z) = (I59, Q59, Z59) := by
          unfold rfp
          rw [show (uI (uI (uI ((I, Q, Z) : mM).1 0 1 0) 1 1 0) 2 1 0, ((I, Q, Z) : mM).2) = ((uI (uI (uI I 0 1 0) 1 1 0) 2 1 0, Q, Z) : mM) from rfl, hcl, ms61, ms63, ms65]
        rw [hms]
        exact ⟨rfl, hA66⟩
      · skip
        have c64 : (I59 11 2) = 1 := Decidable.not_not.mp c64'
        refine go_s (pc' := 48) rfl rfl rfl rfl ?_
        refine go_s (pc' := 49) rfl rfl rfl rfl ?_
        have hU67 : RU w B R [] true h56 am59 ln59 K59 (I59, Q59, Z59) := RU_I (sm_e_refl (tbr am59 (13 * ln59) 77 5088) _) (I' := I59) (fun _ => rfl) (fun _ => rfl) (Nat.le_refl _) hU59
        refine go_callV (pc' := 50) rfl rfl rfl (Nat.le_of_ble_eq_true rfl) rfl (sm_o hS59 rfl) rfl rfl rfl (rt_stops_2 hr59 hS59 hW (by omega)) (fun r h68 q69 => ?_)
        obtain ⟨rfl, hS70, hE71⟩ := q69
        change sm (tbr am59 (13 * ln59) 77 5088) _ (mstI 2 (jn I59 K59)) Y59 at hS70
        rw [mst_jn] at hS70
        have hU72 : RU w B R [] true h68 am59 ln59 K59 ((mstI 2 I59), Q59, Z59) := RU_I hE71 mst_24 mst_25 mst_stn hU67
        have ms73 : mstp 2 1 (I59, Q59, Z59) = ((mstI 2 I59), Q59, Z59) := if_pos c64
        refine go_s (pc' := 51) (lo' := [some (.ref 62), some (.int 1), some (.int 3)]) rfl rfl rfl rfl ?_
        refine go_s (pc' := 38) rfl rfl rfl rfl ?_
        refine go_s (pc' := 39) rfl rfl rfl rfl ?_
        refine go_s (pc' := 40) (st' := [.int 3, .int 3]) rfl rfl rfl rfl ?_
        refine go_icmpP (t' := 52) (pc' := 41) rfl rfl rfl (fun _ => ?_) (fun (c : ¬ (3 ≤ (3 : Int32))) => absurd (by decide) c)
        refine go_ret rfl rfl ?_
        have hA74 : RA w B R [] true h68 ((mstI 2 I59), Q59, Z59) := RA_u.mpr ⟨_, _, _, _, hS70, hU72⟩
        have hcl : mcl2 1 3 (mcl2 1 2 (mcl2 1 1 (mcl2 1 0 ((uI (uI (uI I 0 1 0) 1 1 0) 2 1 0, Q, Z) : mM)))) = (I59, Q59, Z59) := by
          rw [eM59, eM53, eM47, eM41, eM35, eM29, eM23, eM17]
          rfl
        have hms : rfp 1 (I, Q, Z) = ((mstI 2 I59), Q59, Z59) := by
          unfold rfp
          rw [show (uI (uI (uI ((I, Q, Z) : mM).1 0 1 0) 1 1 0) 2 1 0, ((I, Q, Z) : mM).2) = ((uI (uI (uI I 0 1 0) 1 1 0) 2 1 0, Q, Z) : mM) from rfl, hcl, ms61, ms63, ms73]
        rw [hms]
        exact ⟨rfl, hA74⟩
    · skip
      have c62 : (I59 11 1) = 1 := Decidable.not_not.mp c62'
      refine go_s (pc' := 48) rfl rfl rfl rfl ?_
      refine go_s (pc' := 49) rfl rfl rfl rfl ?_
      have hU75 : RU w B R [] true h56 am59 ln59 K59 (I59, Q59, Z59) := RU_I (sm_e_refl (tbr am59 (13 * ln59) 77 5088) _) (I' := I59) (fun _ => rfl) (fun _ => rfl) (Nat.le_refl _) hU59
      refine go_callV (pc' := 50) rfl rfl rfl (Nat.le_of_ble_eq_true rfl) rfl (sm_o hS59 rfl) rfl rfl rfl (rt_stops_1 hr59 hS59 hW (by omega)) (fun r h76 q77 => ?_)
      obtain ⟨rfl, hS78, hE79⟩ := q77
      change sm (tbr am59 (13 * ln59) 77 5088) _ (mstI 1 (jn I59 K59)) Y59 at hS78
      rw [mst_jn] at hS78
      have hU80 : RU w B R [] true h76 am59 ln59 K59 ((mstI 1 I59), Q59, Z59) := RU_I hE79 mst_24 mst_25 mst_stn hU75
      have ms81 : mstp 1 1 (I59, Q59, Z59) = ((mstI 1 I59), Q59, Z59) := if_pos c62
      refine go_s (pc' := 51) (lo' := [some (.ref 62), some (.int 1), some (.int 2)]) rfl rfl rfl rfl ?_
      refine go_s (pc' := 38) rfl rfl rfl rfl ?_
      refine go_s (pc' := 39) rfl rfl rfl rfl ?_
      refine go_s (pc' := 40) (st' := [.int 3, .int 2]) rfl rfl rfl rfl ?_
      refine go_icmpP (t' := 52) (pc' := 41) rfl rfl rfl (fun (c : 3 ≤ (2 : Int32)) => absurd c (by decide)) (fun _ => ?_)
      refine go_s (pc' := 42) rfl rfl rfl rfl ?_
      refine go_sget (pc' := 43) (v := .ref 78) hS78 rfl rfl rfl (by decide) rfl rfl ?_
      refine go_s (pc' := 44) rfl rfl rfl rfl ?_
      refine go_sald (pc' := 45) (q := 2) (v := .int ((mstI 1 I59) 11 2)) hS78 rfl (tr_s hr59 (a := 78) rfl (by decide)) rfl rfl (by decide) rfl rfl ?_
      refine go_s (pc' := 46) rfl rfl rfl rfl ?_
      refine go_icmpP (t' := 50) (pc' := 47) rfl rfl rfl (fun (c82 : ¬ ((mstI 1 I59) 11 2) = 1) => ?_) (fun (c82' : ¬ ¬ ((mstI 1 I59) 11 2) = 1) => ?_)
      · skip
        have ms83 : mstp 2 1 ((mstI 1 I59), Q59, Z59) = ((mstI 1 I59), Q59, Z59) := if_neg c82
        refine go_s (pc' := 51) (lo' := [some (.ref 62), some (.int 1), some (.int 3)]) rfl rfl rfl rfl ?_
        refine go_s (pc' := 38) rfl rfl rfl rfl ?_
        refine go_s (pc' := 39) rfl rfl rfl rfl ?_
        refine go_s (pc' := 40) (st' := [.int 3, .int 3]) rfl rfl rfl rfl ?_
        refine go_icmpP (t' := 52) (pc' := 41) rfl rfl rfl (fun _ => ?_) (fun (c : ¬ (3 ≤ (3 : Int32))) => absurd (by decide) c)
        refine go_ret rfl rfl ?_
        have hA84 : RA w B R [] true h76 ((mstI 1 I59), Q59, Z59) := RA_u.mpr ⟨_, _, _, _, hS78, hU80⟩
        have hcl : mcl2 1 3 (mcl2 1 2 (mcl2 1 1 (mcl2 1 0 ((uI (uI (uI I 0 1 0) 1 1 0) 2 1 0, Q, Z) : mM)))) = (I59, Q59, Z59) := by
          rw [eM59, eM53, eM47, eM41, eM35, eM29, eM23, eM17]
          rfl
        have hms : rfp 1 (I, Q, Z) = ((mstI 1 I59), Q59, Z59) := by
          unfold rfp
          rw [show (uI (uI (uI ((I, Q, Z) : mM).1 0 1 0) 1 1 0) 2 1 0, ((I, Q, Z) : mM).2) = ((uI (uI (uI I 0 1 0) 1 1 0) 2 1 0, Q, Z) : mM) from rfl, hcl, ms61, ms81, ms83]
        rw [hms]
        exact ⟨rfl, hA84⟩
      · skip
        have c82 : ((mstI 1 I59) 11 2) = 1 := Decidable.not_not.mp c82'
        refine go_s (pc' := 48) rfl rfl rfl rfl ?_
        refine go_s (pc' := 49) rfl rfl rfl rfl ?_
        have hU85 : RU w B R [] true h76 am59 ln59 K59 ((mstI 1 I59), Q59, Z59) := RU_I (sm_e_refl (tbr am59 (13 * ln59) 77 5088) _) (I' := (mstI 1 I59)) (fun _ => rfl) (fun _ => rfl) (Nat.le_refl _) hU80
        refine go_callV (pc' := 50) rfl rfl rfl (Nat.le_of_ble_eq_true rfl) rfl (sm_o hS78 rfl) rfl rfl rfl (rt_stops_2 hr59 hS78 hW (by omega)) (fun r h86 q87 => ?_)
        obtain ⟨rfl, hS88, hE89⟩ := q87
        change sm (tbr am59 (13 * ln59) 77 5088) _ (mstI 2 (jn (mstI 1 I59) K59)) Y59 at hS88
        rw [mst_jn] at hS88
        have hU90 : RU w B R [] true h86 am59 ln59 K59 ((mstI 2 (mstI 1 I59)), Q59, Z59) := RU_I hE89 mst_24 mst_25 mst_stn hU85
        have ms91 : mstp 2 1 ((mstI 1 I59), Q59, Z59) = ((mstI 2 (mstI 1 I59)), Q59, Z59) := if_pos c82
        refine go_s (pc' := 51) (lo' := [some (.ref 62), some (.int 1), some (.int 3)]) rfl rfl rfl rfl ?_
        refine go_s (pc' := 38) rfl rfl rfl rfl ?_
        refine go_s (pc' := 39) rfl rfl rfl rfl ?_
        refine go_s (pc' := 40) (st' := [.int 3, .int 3]) rfl rfl rfl rfl ?_
        refine go_icmpP (t' := 52) (pc' := 41) rfl rfl rfl (fun _ => ?_) (fun (c : ¬ (3 ≤ (3 : Int32))) => absurd (by decide) c)
        refine go_ret rfl rfl ?_
        have hA92 : RA w B R [] true h86 ((mstI 2 (mstI 1 I59)), Q59, Z59) := RA_u.mpr ⟨_, _, _, _, hS88, hU90⟩
        have hcl : mcl2 1 3 (mcl2 1 2 (mcl2 1 1 (mcl2 1 0 ((uI (uI (uI I 0 1 0) 1 1 0) 2 1 0, Q, Z) : mM)))) = (I59, Q59, Z59) := by
          rw [eM59, eM53, eM47, eM41, eM35, eM29, eM23, eM17]
          rfl
        have hms : rfp 1 (I, Q, Z) = ((mstI 2 (mstI 1 I59)), Q59, Z59) := by
          unfold rfp
          rw [show (uI (uI (uI ((I, Q, Z) : mM).1 0 1 0) 1 1 0) 2 1 0, ((I, Q, Z) : mM).2) = ((uI (uI (uI I 0 1 0) 1 1 0) 2 1 0, Q, Z) : mM) from rfl, hcl, ms61, ms81, ms91]
        rw [hms]
        exact ⟨rfl, hA92⟩
  · skip
    have c60 : (I59 11 0) = 1 := Decidable.not_not.mp c60'
    refine go_s (pc' := 48) rfl rfl rfl rfl ?_
    refine go_s (pc' := 49) rfl rfl rfl rfl ?_
    have hU93 : RU w B R [] true h56 am59 ln59 K59 (I59, Q59, Z59) := RU_I (sm_e_refl (tbr am59 (13 * ln59) 77 5088) _) (I' := I59) (fun _ => rfl) (fun _ => rfl) (Nat.le_refl _) hU59
    refine go_callV (pc' := 50) rfl rfl rfl (Nat.le_of_ble_eq_true rfl) rfl (sm_o hS59 rfl) rfl rfl rfl (rt_stops_0 hr59 hS59 hW (by omega)) (fun r h94 q95 => ?_)
    obtain ⟨rfl, hS96, hE97⟩ := q95
    change sm (tbr am59 (13 * ln59) 77 5088) _ (mstI 0 (jn I59 K59)) Y59 at hS96
    rw [mst_jn] at hS96
    have hU98 : RU w B R [] true h94 am59 ln59 K59 ((mstI 0 I59), Q59, Z59) := RU_I hE97 mst_24 mst_25 mst_stn hU93
    have ms99 : mstp 0 1 (I59, Q59, Z59) = ((mstI 0 I59), Q59, Z59) := if_pos c60
    refine go_s (pc' := 51) (lo' := [some (.ref 62), some (.int 1), some (.int 1)]) rfl rfl rfl rfl ?_
    refine go_s (pc' := 38) rfl rfl rfl rfl ?_
    refine go_s (pc' := 39) rfl rfl rfl rfl ?_
    refine go_s (pc' := 40) (st' := [.int 3, .int 1]) rfl rfl rfl rfl ?_
    refine go_icmpP (t' := 52) (pc' := 41) rfl rfl rfl (fun (c : 3 ≤ (1 : Int32)) => absurd c (by decide)) (fun _ => ?_)
    refine go_s (pc' := 42) rfl rfl rfl rfl ?_
    refine go_sget (pc' := 43) (v := .ref 78) hS96 rfl rfl rfl (by decide) rfl rfl ?_
    refine go_s (pc' := 44) rfl rfl rfl rfl ?_
    refine go_sald (pc' := 45) (q := 1) (v := .int ((mstI 0 I59) 11 1)) hS96 rfl (tr_s hr59 (a := 78) rfl (by decide)) rfl rfl (by decide) rfl rfl ?_
    refine go_s (pc' := 46) rfl rfl rfl rfl ?_
    refine go_icmpP (t' := 50) (pc' := 47) rfl rfl rfl (fun (c100 : ¬ ((mstI 0 I59) 11 1) = 1) => ?_) (fun (c100' : ¬ ¬ ((mstI 0 I59) 11 1) = 1) => ?_)
    · skip
      have ms101 : mstp 1 1 ((mstI 0 I59), Q59, Z59) = ((mstI 0 I59), Q59, Z59) := if_neg c100
      refine go_s (pc' := 51) (lo' := [some (.ref 62), some (.int 1), some (.int 2)]) rfl rfl rfl rfl ?_
      refine go_s (pc' := 38) rfl rfl rfl rfl ?_
      refine go_s (pc' := 39) rfl rfl rfl rfl ?_
      refine go_s (pc' := 40) (st' := [.int 3, .int 2]) rfl rfl rfl rfl ?_
      refine go_icmpP (t' := 52) (pc' := 41) rfl rfl rfl (fun (c : 3 ≤ (2 : Int32)) => absurd c (by decide)) (fun _ => ?_)
      refine go_s (pc' := 42) rfl rfl rfl rfl ?_
      refine go_sget (pc' := 43) (v := .ref 78) hS96 rfl rfl rfl (by decide) rfl rfl ?_
      refine go_s (pc' := 44) rfl rfl rfl rfl ?_
      refine go_sald (pc' := 45) (q := 2) (v := .int ((mstI 0 I59) 11 2)) hS96 rfl (tr_s hr59 (a := 78) rfl (by decide)) rfl rfl (by decide) rfl rfl ?_
      refine go_s (pc' := 46) rfl rfl rfl rfl ?_
      refine go_icmpP (t' := 50) (pc' := 47) rfl rfl rfl (fun (c102 : ¬ ((mstI 0 I59) 11 2) = 1) => ?_) (fun (c102' : ¬ ¬ ((mstI 0 I59) 11 2) = 1) => ?_)
      · skip
        have ms103 : mstp 2 1 ((mstI 0 I59), Q59, Z59) = ((mstI 0 I59), Q59, Z59) := if_neg c102
        refine go_s (pc' := 51) (lo' := [some (.ref 62), some (.int 1), some (.int 3)]) rfl rfl rfl rfl ?_
        refine go_s (pc' := 38) rfl rfl rfl rfl ?_
        refine go_s (pc' := 39) rfl rfl rfl rfl ?_
        refine go_s (pc' := 40) (st' := [.int 3, .int 3]) rfl rfl rfl rfl ?_
        refine go_icmpP (t' := 52) (pc' := 41) rfl rfl rfl (fun _ => ?_) (fun (c : ¬ (3 ≤ (3 : Int32))) => absurd (by decide) c)
        refine go_ret rfl rfl ?_
        have hA104 : RA w B R [] true h94 ((mstI 0 I59), Q59, Z59) := RA_u.mpr ⟨_, _, _, _, hS96, hU98⟩
        have hcl : mcl2 1 3 (mcl2 1 2 (mcl2 1 1 (mcl2 1 0 ((uI (uI (uI I 0 1 0) 1 1 0) 2 1 0, Q, Z) : mM)))) = (I59, Q59, Z59) := by
          rw [eM59, eM53, eM47, eM41, eM35, eM29, eM23, eM17]
          rfl
        have hms : rfp 1 (I, Q, Z) = ((mstI 0 I59), Q59, Z59) := by
          unfold rfp
          rw [show (uI (uI (uI ((I, Q, Z) : mM).1 0 1 0) 1 1 0) 2 1 0, ((I, Q, Z) : mM).2) = ((uI (uI (uI I 0 1 0) 1 1 0) 2 1 0, Q, Z) : mM) from rfl, hcl, ms99, ms101, ms103]
        rw [hms]
        exact ⟨rfl, hA104⟩
      · skip
        have c102 : ((mstI 0 I59) 11 2) = 1 := Decidable.not_not.mp c102'
        refine go_s (pc' := 48) rfl rfl rfl rfl ?_
        refine go_s (pc' := 49) rfl rfl rfl rfl ?_
        have hU105 : RU w B R [] true h94 am59 ln59 K59 ((mstI 0 I59), Q59, Z59) := RU_I (sm_e_refl (tbr am59 (13 * ln59) 77 5088) _) (I' := (mstI 0 I59)) (fun _ => rfl) (fun _ => rfl) (Nat.le_refl _) hU98
        refine go_callV (pc' := 50) rfl rfl rfl (Nat.le_of_ble_eq_true rfl) rfl (sm_o hS96 rfl) rfl rfl rfl (rt_stops_2 hr59 hS96 hW (by omega)) (fun r h106 q107 => ?_)
        obtain ⟨rfl, hS108, hE109⟩ := q107
        change sm (tbr am59 (13 * ln59) 77 5088) _ (mstI 2 (jn (mstI 0 I59) K59)) Y59 at hS108
        rw [mst_jn] at hS108
        have hU110 : RU w B R [] true h106 am59 ln59 K59 ((mstI 2 (mstI 0 I59)), Q59, Z59) := RU_I hE109 mst_24 mst_25 mst_stn hU105
        have ms111 : mstp 2 1 ((mstI 0 I59), Q59, Z59) = ((mstI 2 (mstI 0 I59)), Q59, Z59) := if_pos c102
        refine go_s (pc' := 51) (lo' := [some (.ref 62), some (.int 1), some (.int 3)]) rfl rfl rfl rfl ?_
        refine go_s (pc' := 38) rfl rfl rfl rfl ?_
        refine go_s (pc' := 39) rfl rfl rfl rfl ?_
        refine go_s (pc' := 40) (st' := [.int 3, .int 3]) rfl rfl rfl rfl ?_
        refine go_icmpP (t' := 52) (pc' := 41) rfl rfl rfl (fun _ => ?_) (fun (c : ¬ (3 ≤ (3 : Int32))) => absurd (by decide) c)
        refine go_ret rfl rfl ?_
        have hA112 : RA w B R [] true h106 ((mstI 2 (mstI 0 I59)), Q59, Z59) := RA_u.mpr ⟨_, _, _, _, hS108, hU110⟩
        have hcl : mcl2 1 3 (mcl2 1 2 (mcl2 1 1 (mcl2 1 0 ((uI (uI (uI I 0 1 0) 1 1 0) 2 1 0, Q, Z) : mM)))) = (I59, Q59, Z59) := by
          rw [eM59, eM53, eM47, eM41, eM35, eM29, eM23, eM17]
          rfl
        have hms : rfp 1 (I, Q, Z) = ((mstI 2 (mstI 0 I59)), Q59, Z59) := by
          unfold rfp
          rw [show (uI (uI (uI ((I, Q, Z) : mM).1 0 1 0) 1 1 0) 2 1 0, ((I, Q, Z) : mM).2) = ((uI (uI (uI I 0 1 0) 1 1 0) 2 1 0, Q, Z) : mM) from rfl, hcl, ms99, ms101, ms111]
        rw [hms]
        exact ⟨rfl, hA112⟩
    · skip
      have c100 : ((mstI 0 I59) 11 1) = 1 := Decidable.not_not.mp c100'
      refine go_s (pc' := 48) rfl rfl rfl rfl ?_
      refine go_s (pc' := 49) rfl rfl rfl rfl ?_
      have hU113 : RU w B R [] true h94 am59 ln59 K59 ((mstI 0 I59), Q59, Z59) := RU_I (sm_e_refl (tbr am59 (13 * ln59) 77 5088) _) (I' := (mstI 0 I59)) (fun _ => rfl) (fun _ => rfl) (Nat.le_refl _) hU98
      refine go_callV (pc' := 50) rfl rfl rfl (Nat.le_of_ble_eq_true rfl) rfl (sm_o hS96 rfl) rfl rfl rfl (rt_stops_1 hr59 hS96 hW (by omega)) (fun r h114 q115 => ?_)
      obtain ⟨rfl, hS116, hE117⟩ := q115
      change sm (tbr am59 (13 * ln59) 77 5088) _ (mstI 1 (jn (mstI 0 I59) K59)) Y59 at hS116
      rw [mst_jn] at hS116
      have hU118 : RU w B R [] true h114 am59 ln59 K59 ((mstI 1 (mstI 0 I59)), Q59, Z59) := RU_I hE117 mst_24 mst_25 mst_stn hU113
      have ms119 : mstp 1 1 ((mstI 0 I59), Q59, Z59) = ((mstI 1 (mstI 0 I59)), Q59, Z59) := if_pos c100
      refine go_s (pc' := 51) (lo' := [some (.ref 62), some (.int 1), some (.int 2)]) rfl rfl rfl rfl ?_
      refine go_s (pc' := 38) rfl rfl rfl rfl ?_
      refine go_s (pc' := 39) rfl rfl rfl rfl ?_
      refine go_s (pc' := 40) (st' := [.int 3, .int 2]) rfl rfl rfl rfl ?_
      refine go_icmpP (t' := 52) (pc' := 41) rfl rfl rfl (fun (c : 3 ≤ (2 : Int32)) => absurd c (by decide)) (fun _ => ?_)
      refine go_s (pc' := 42) rfl rfl rfl rfl ?_
      refine go_sget (pc' := 43) (v := .ref 78) hS116 rfl rfl rfl (by decide) rfl rfl ?_
      refine go_s (pc' := 44) rfl rfl rfl rfl ?_
      refine go_sald (pc' := 45) (q := 2) (v := .int ((mstI 1 (mstI 0 I59)) 11 2)) hS116 rfl (tr_s hr59 (a := 78) rfl (by decide)) rfl rfl (by decide) rfl rfl ?_
      refine go_s (pc' := 46) rfl rfl rfl rfl ?_
      refine go_icmpP (t' := 50) (pc' := 47) rfl rfl rfl (fun (c120 : ¬ ((mstI 1 (mstI 0 I59)) 11 2) = 1) => ?_) (fun (c120' : ¬ ¬ ((mstI 1 (mstI 0 I59)) 11 2) = 1) => ?_)
      · skip
        have ms121 : mstp 2 1 ((mstI 1 (mstI 0 I59)), Q59, Z59) = ((mstI 1 (mstI 0 I59)), Q59, Z59) := if_neg c120
        refine go_s (pc' := 51) (lo' := [some (.ref 62), some (.int 1), some (.int 3)]) rfl rfl rfl rfl ?_
        refine go_s (pc' := 38) rfl rfl rfl rfl ?_
        refine go_s (pc' := 39) rfl rfl rfl rfl ?_
        refine go_s (pc' := 40) (st' := [.int 3, .int 3]) rfl rfl rfl rfl ?_
        refine go_icmpP (t' := 52) (pc' := 41) rfl rfl rfl (fun _ => ?_) (fun (c : ¬ (3 ≤ (3 : Int32))) => absurd (by decide) c)
        refine go_ret rfl rfl ?_
        have hA122 : RA w B R [] true h114 ((mstI 1 (mstI 0 I59)), Q59, Z59) := RA_u.mpr ⟨_, _, _, _, hS116, hU118⟩
        have hcl : mcl2 1 3 (mcl2 1 2 (mcl2 1 1 (mcl2 1 0 ((uI (uI (uI I 0 1 0) 1 1 0) 2 1 0, Q, Z) : mM)))) = (I59, Q59, Z59) := by
          rw [eM59, eM53, eM47, eM41, eM35, eM29, eM23, eM17]
          rfl
        have hms : rfp 1 (I, Q, Z) = ((mstI 1 (mstI 0 I59)), Q59, Z59) := by
          unfold rfp
          rw [show (uI (uI (uI ((I, Q, Z) : mM).1 0 1 0) 1 1 0) 2 1 0, ((I, Q, Z) : mM).2) = ((uI (uI (uI I 0 1 0) 1 1 0) 2 1 0, Q, Z) : mM) from rfl, hcl, ms99, ms119, ms121]
        rw [hms]
        exact ⟨rfl, hA122⟩
      · skip
        have c120 : ((mstI 1 (mstI 0 I59)) 11 2) = 1 := Decidable.not_not.mp c120'
        refine go_s (pc' := 48) rfl rfl rfl rfl ?_
        refine go_s (pc' := 49) rfl rfl rfl rfl ?_
        have hU123 : RU w B R [] true h114 am59 ln59 K59 ((mstI 1 (mstI 0 I59)), Q59, Z59) := RU_I (sm_e_refl (tbr am59 (13 * ln59) 77 5088) _) (I' := (mstI 1 (mstI 0 I59))) (fun _ => rfl) (fun _ => rfl) (Nat.le_refl _) hU118
        refine go_callV (pc' := 50) rfl rfl rfl (Nat.le_of_ble_eq_true rfl) rfl (sm_o hS116 rfl) rfl rfl rfl (rt_stops_2 hr59 hS116 hW (by omega)) (fun r h124 q125 => ?_)
        obtain ⟨rfl, hS126, hE127⟩ := q125
        change sm (tbr am59 (13 * ln59) 77 5088) _ (mstI 2 (jn (mstI 1 (mstI 0 I59)) K59)) Y59 at hS126
        rw [mst_jn] at hS126
        have hU128 : RU w B R [] true h124 am59 ln59 K59 ((mstI 2 (mstI 1 (mstI 0 I59))), Q59, Z59) := RU_I hE127 mst_24 mst_25 mst_stn hU123
        have ms129 : mstp 2 1 ((mstI 1 (mstI 0 I59)), Q59, Z59) = ((mstI 2 (mstI 1 (mstI 0 I59))), Q59, Z59) := if_pos c120
        refine go_s (pc' := 51) (lo' := [some (.ref 62), some (.int 1), some (.int 3)]) rfl rfl rfl rfl ?_
        refine go_s (pc' := 38) rfl rfl rfl rfl ?_
        refine go_s (pc' := 39) rfl rfl rfl rfl ?_
        refine go_s (pc' := 40) (st' := [.int 3, .int 3]) rfl rfl rfl rfl ?_
        refine go_icmpP (t' := 52) (pc' := 41) rfl rfl rfl (fun _ => ?_) (fun (c : ¬ (3 ≤ (3 : Int32))) => absurd (by decide) c)
        refine go_ret rfl rfl ?_
        have hA130 : RA w B R [] true h124 ((mstI 2 (mstI 1 (mstI 0 I59))), Q59, Z59) := RA_u.mpr ⟨_, _, _, _, hS126, hU128⟩
        have hcl : mcl2 1 3 (mcl2 1 2 (mcl2 1 1 (mcl2 1 0 ((uI (uI (uI I 0 1 0) 1 1 0) 2 1 0, Q, Z) : mM)))) = (I59, Q59, Z59) := by
          rw [eM59, eM53, eM47, eM41, eM35, eM29, eM23, eM17]
          rfl
        have hms : rfp 1 (I, Q, Z) = ((mstI 2 (mstI 1 (mstI 0 I59))), Q59, Z59) := by
          unfold rfp
          rw [show (uI (uI (uI ((I, Q, Z) : mM).1 0 1 0) 1 1 0) 2 1 0, ((I, Q, Z) : mM).2) = ((uI (uI (uI I 0 1 0) 1 1 0) 2 1 0, Q, Z) : mM) from rfl, hcl, ms99, ms119, ms129]
        rw [hms]
        exact ⟨rfl, hA130⟩
theorem ra_pf_2 {w : Nat → Bool} {d B R : Nat} {h : am_Hp} {I : sm_I} {Q : mQ} {Z : mZ} (hA : RA w B R [] true h (I, Q, Z)) (hR : R + 0 < 40000) (hd : 3 ≤ d) : am_Ev (am_prog w) d 157 [.ref 62, .int 2] h (fun r h' => r = none ∧ RA w B R [] true h' (rfp 2 (I, Q, Z))) := by
  obtain ⟨K, Y, am, ln, hS, hU⟩ := RA_u.mp hA
  change sm (tbr am (13 * ln) 77 5088) h (jn I K) Y at hS
  obtain ⟨hW, hWm, -, -, hr, -⟩ := id hU.1
  have hln := RU_ln hU (by omega)
  obtain ⟨d, rfl⟩ : ∃ e, d = e + 1 := ⟨d - 1, by omega⟩
  refine ev_go rfl (Nat.le_of_ble_eq_true rfl) rfl ?_
  refine go_s (pc' := 1) rfl rfl rfl rfl ?_
  refine go_sget (pc' := 2) (v := .ref 63) hS rfl rfl rfl (by decide) rfl rfl ?_
  refine go_s (pc' := 3) rfl rfl rfl rfl ?_
  refine go_s (pc' := 4) (st' := [.int 0, .int 2, .ref 63]) rfl rfl rfl rfl ?_
  refine go_szast (pc' := 5) (q := 2) hS rfl (tr_s hr (a := 63) rfl (by decide)) tbr_inj (Nat.le_of_ble_eq_true rfl) rfl (by decide) (by decide) rfl (hW _ (by decide) (by decide)) rfl (fun h1 hS2 hE3 => ?_)
  refine go_s (pc' := 6) rfl rfl rfl rfl ?_
  refine go_sget (pc' := 7) (v := .ref 64) hS2 rfl rfl rfl (by decide) rfl rfl ?_
  refine go_s (pc' := 8) rfl rfl rfl rfl ?_
  refine go_s (pc' := 9) (st' := [.int 0, .int 2, .ref 64]) rfl rfl rfl rfl ?_
  refine go_szast (pc' := 10) (q := 2) hS2 rfl (tr_s hr (a := 64) rfl (by decide)) tbr_inj (Nat.le_of_ble_eq_true rfl) rfl (by decide) (by decide) rfl (hW _ (by decide) (by decide)) rfl (fun h4 hS5 hE6 => ?_)
  have hE7 := sm_e_trans hE3 hE6
  refine go_s (pc' := 11) rfl rfl rfl rfl ?_
  refine go_sget (pc' := 12) (v := .ref 65) hS5 rfl rfl rfl (by decide) rfl rfl ?_
  refine go_s (pc' := 13) rfl rfl rfl rfl ?_
  refine go_s (pc' := 14) (st' := [.int 0, .int 2, .ref 65]) rfl rfl rfl rfl ?_
  refine go_siast (pc' := 15) (q := 2) hS5 rfl (tr_s hr (a := 65) rfl (by decide)) tbr_inj (Nat.le_of_ble_eq_true rfl) rfl (by decide) (by decide) (hW _ (by decide) (by decide)) rfl (fun h8 hS9 hE10 => ?_)
  have hE11 := sm_e_trans hE7 hE10
  refine go_s (pc' := 16) (st' := [.int 0]) rfl rfl rfl rfl ?_
  refine go_s (pc' := 17) (lo' := [some (.ref 62), some (.int 2), some (.int 0)]) rfl rfl rfl rfl ?_
  refine go_s (pc' := 18) rfl rfl rfl rfl ?_
  refine go_s (pc' := 19) (st' := [.int 4, .int 0]) rfl rfl rfl rfl ?_
  refine go_icmpP (t' := 36) (pc' := 20) rfl rfl rfl (fun (c : 4 ≤ (0 : Int32)) => absurd c (by decide)) (fun _ => ?_)
  refine go_s (pc' := 21) rfl rfl rfl rfl ?_
  refine go_s (pc' := 22) (st' := [.int 4, .ref 62]) rfl rfl rfl rfl ?_
  refine go_s (pc' := 23) rfl rfl rfl rfl ?_
  refine go_s (pc' := 24) (st' := [.int 8, .ref 62]) rfl rfl rfl rfl ?_
  refine go_s (pc' := 25) rfl rfl rfl rfl ?_
  refine go_s (pc' := 26) (st' := [.int 8, .ref 62]) rfl rfl rfl rfl ?_
  change sm (tbr am (13 * ln) 77 5088) _ (uI (uI (uI (jn I K) 0 2 0) 1 2 0) 2 2 0) Y at hS9
  rw [jn_lo (c := 0) (by decide), jn_lo (c := 1) (by decide), jn_lo (c := 2) (by decide)] at hS9
  have hU12 : RU w B R [] true h8 am ln K ((uI (uI (uI I 0 2 0) 1 2 0) 2 2 0), Q, Z) := RU_I (hE11) (I' := (uI (uI (uI I 0 2 0) 1 2 0) 2 2 0)) (fun _ => rfl) (fun _ => rfl) (Nat.le_refl _) hU
  have hA13 : RA w B R [] true h8 ((uI (uI (uI I 0 2 0) 1 2 0) 2 2 0), Q, Z) := RA_u.mpr ⟨_, _, _, _, hS9, hU12⟩
  refine go_callV (pc' := 27) rfl rfl rfl (Nat.le_of_ble_eq_true rfl) rfl (sm_o hS9 rfl) rfl rfl rfl (ra_em (l := 8) (by decide) hA13 (by omega) (by omega)) (fun r h14 q15 => ?_)
  obtain ⟨rfl, hA16⟩ := q15
  change RA w B R [] true h14 (mclr 8 ((uI (uI (uI I 0 2 0) 1 2 0) 2 2 0), Q, Z)) at hA16
  obtain ⟨M17, eM17⟩ : ∃ y : mM, y = (mclr 8 ((uI (uI (uI I 0 2 0) 1 2 0) 2 2 0), Q, Z)) := ⟨_, rfl⟩
  rw [← eM17] at hA16
  obtain ⟨I17, Q17, Z17⟩ := M17
  obtain ⟨K17, Y17, am17, ln17, hS17, hU17⟩ := RA_u.mp hA16
  change sm (tbr am17 (13 * ln17) 77 5088) h14 (jn I17 K17) Y17 at hS17
  obtain ⟨-, hWm17, -, -, hr17, -⟩ := id hU17.1
  have hln17 := RU_ln hU17 (by omega)
  refine go_s (pc' := 28) rfl rfl rfl rfl ?_
  refine go_s (pc' := 29) (st' := [.int 4, .ref 62]) rfl rfl rfl rfl ?_
  refine go_s (pc' := 30) rfl rfl rfl rfl ?_
  refine go_s (pc' := 31) (st' := [.int 0, .ref 62]) rfl rfl rfl rfl ?_
  refine go_s (pc' := 32) rfl rfl rfl rfl ?_
  refine go_s (pc' := 33) (st' := [.int 2, .ref 62]) rfl rfl rfl rfl ?_
  have hU18 : RU w B R [] true h14 am17 ln17 K17 (I17, Q17, Z17) := RU_I (sm_e_refl (tbr am17 (13 * ln17) 77 5088) _) (I' := I17) (fun _ => rfl) (fun _ => rfl) (Nat.le_refl _) hU17
  have hA19 : RA w B R [] true h14 (I17, Q17, Z17) := RA_u.mpr ⟨_, _, _, _, hS17, hU18⟩
  refine go_callV (pc' := 34) rfl rfl rfl (Nat.le_of_ble_eq_true rfl) rfl (sm_o hS17 rfl) rfl rfl rfl (ra_em (l := 2) (by decide) hA19 (by omega) (by omega)) (fun r h20 q21 => ?_)
  obtain ⟨rfl, hA22⟩ := q21
  change RA w B R [] true h20 (mclr 2 (I17, Q17, Z17)) at hA22
  obtain ⟨M23, eM23⟩ : ∃ y : mM, y = (mclr 2 (I17, Q17, Z17)) := ⟨_, rfl⟩
  rw [← eM23] at hA22
  obtain ⟨I23, Q23, Z23⟩ := M23
  obtain ⟨K23, Y23, am23, ln23, hS23, hU23⟩ := RA_u.mp hA22
  change sm (tbr am23 (13 * ln23) 77 5088) h20 (jn I23 K23) Y23 at hS23
  obtain ⟨-, hWm23, -, -, hr23, -⟩ := id hU23.1
  have hln23 := RU_ln hU23 (by omega)
  refine go_s (pc' := 35) (lo' := [some (.ref 62), some (.int 2), some (.int 1)]) rfl rfl rfl rfl ?_
  refine go_s (pc' := 17) rfl rfl rfl rfl ?_
  refine go_s (pc' := 18) rfl rfl rfl rfl ?_
  refine go_s (pc' := 19) (st' := [.int 4, .int 1]) rfl rfl rfl rfl ?_
  refine go_icmpP (t' := 36) (pc' := 20) rfl rfl rfl (fun (c : 4 ≤ (1 : Int32)) => absurd c (by decide)) (fun _ => ?_)
  refine go_s (pc' := 21) rfl rfl rfl rfl ?_
  refine go_s (pc' := 22) (st' := [.int 4, .ref 62]) rfl rfl rfl rfl ?_
  refine go_s (pc' := 23) rfl rfl rfl rfl ?_
  refine go_s (pc' := 24) (st' := [.int 8, .ref 62]) rfl rfl rfl rfl ?_
  refine go_s (pc' := 25) rfl rfl rfl rfl ?_
  refine go_s (pc' := 26) (st' := [.int 9, .ref 62]) rfl rfl rfl rfl ?_
  have hU24 : RU w B R [] true h20 am23 ln23 K23 (I23, Q23, Z23) := RU_I (sm_e_refl (tbr am23 (13 * ln23) 77 5088) _) (I' := I23) (fun _ => rfl) (fun _ => rfl) (Nat.le_refl _) hU23
  have hA25 : RA w B R [] true h20 (I23, Q23, Z23) := RA_u.mpr ⟨_, _, _, _, hS23, hU24⟩
  refine go_callV (pc' := 27) rfl rfl rfl (Nat.le_of_ble_eq_true rfl) rfl (sm_o hS23 rfl) rfl rfl rfl (ra_em (l := 9) (by decide) hA25 (by omega) (by omega)) (fun r h26 q27 => ?_)
  obtain ⟨rfl, hA28⟩ := q27
  change RA w B R [] true h26 (mclr 9 (I23, Q23, Z23)) at hA28
  obtain ⟨M29, eM29⟩ : ∃ y : mM, y = (mclr 9 (I23, Q23, Z23)) := ⟨_, rfl⟩
  rw [← eM29] at hA28
  obtain ⟨I29, Q29, Z29⟩ := M29
  obtain ⟨K29, Y29, am29, ln29, hS29, hU29⟩ := RA_u.mp hA28
  change sm (tbr am29 (13 * ln29) 77 5088) h26 (jn I29 K29) Y29 at hS29
  obtain ⟨-, hWm29, -, -, hr29, -⟩ := id hU29.1
  have hln29 := RU_ln hU29 (by omega)
  refine go_s (pc' := 28) rfl rfl rfl rfl ?_
  refine go_s (pc' := 29) (st' := [.int 4, .ref 62]) rfl rfl rfl rfl ?_
  refine go_s (pc' := 30) rfl rfl rfl rfl ?_
  refine go_s (pc' := 31) (st' := [.int 4, .ref 62]) rfl rfl rfl rfl ?_
  refine go_s (pc' := 32) rfl rfl rfl rfl ?_
  refine go_s (pc' := 33) (st' := [.int 6, .ref 62]) rfl rfl rfl rfl ?_
  have hU30 : RU w B R [] true h26 am29 ln29 K29 (I29, Q29, Z29) := RU_I (sm_e_refl (tbr am29 (13 * ln29) 77 5088) _) (I' := I29) (fun _ => rfl) (fun _ => rfl) (Nat.le_refl _) hU29
  have hA31 : RA w B R [] true h26 (I29, Q29, Z29) := RA_u.mpr ⟨_, _, _, _, hS29, hU30⟩
  refine go_callV (pc' := 34) rfl rfl rfl (Nat.le_of_ble_eq_true rfl) rfl (sm_o hS29 rfl) rfl rfl rfl (ra_em (l := 6) (by decide) hA31 (by omega) (by omega)) (fun r h32 q33 => ?_)
  obtain ⟨rfl, hA34⟩ := q33
  change RA w B R [] true h32 (mclr 6 (I29, Q29, Z29)) at hA34
  obtain ⟨M35, eM35⟩ : ∃ y : mM, y = (mclr 6 (I29, Q29, Z29)) := ⟨_, rfl⟩
  rw [← eM35] at hA34
  obtain ⟨I35, Q35, Z35⟩ := M35
  obtain ⟨K35, Y35, am35, ln35, hS35, hU35⟩ := RA_u.mp hA34
  change sm (tbr am35 (13 * ln35) 77 5088) h32 (jn I35 K35) Y35 at hS35
  obtain ⟨-, hWm35, -, -, hr35, -⟩ := id hU35.1
  have hln35 := RU_ln hU35 (by omega)
  refine go_s (pc' := 35) (lo' := [some (.ref 62), some (.int 2), some (.int 2)]) rfl rfl rfl rfl ?_
  refine go_s (pc' := 17) rfl rfl rfl rfl ?_
  refine go_s (pc' := 18) rfl rfl rfl rfl ?_
  refine go_s (pc' := 19) (st' := [.int 4, .int 2]) rfl rfl rfl rfl ?_
  refine go_icmpP (t' := 36) (pc' := 20) rfl rfl rfl (fun (c : 4 ≤ (2 : Int32)) => absurd c (by decide)) (fun _ => ?_)
  refine go_s (pc' := 21) rfl rfl rfl rfl ?_
  refine go_s (pc' := 22) (st' := [.int 4, .ref 62]) rfl rfl rfl rfl ?_
  refine go_s (pc' := 23) rfl rfl rfl rfl ?_
  refine go_s (pc' := 24) (st' := [.int 8, .ref 62]) rfl rfl rfl rfl ?_
  refine go_s (pc' := 25) rfl rfl rfl rfl ?_
  refine go_s (pc' := 26) (st' := [.int 10, .ref 62]) rfl rfl rfl rfl ?_
  have hU36 : RU w B R [] true h32 am35 ln35 K35 (I35, Q35, Z35) := RU_I (sm_e_refl (tbr am35 (13 * ln35) 77 5088) _) (I' := I35) (fun _ => rfl) (fun _ => rfl) (Nat.le_refl _) hU35
  have hA37 : RA w B R [] true h32 (I35, Q35, Z35) := RA_u.mpr ⟨_, _, _, _, hS35, hU36⟩
  refine go_callV (pc' := 27) rfl rfl rfl (Nat.le_of_ble_eq_true rfl) rfl (sm_o hS35 rfl) rfl rfl rfl (ra_em (l := 10) (by decide) hA37 (by omega) (by omega)) (fun r h38 q39 => ?_)
  obtain ⟨rfl, hA40⟩ := q39
  change RA w B R [] true h38 (mclr 10 (I35, Q35, Z35)) at hA40
  obtain ⟨M41, eM41⟩ : ∃ y : mM, y = (mclr 10 (I35, Q35, Z35)) := ⟨_, rfl⟩
  rw [← eM41] at hA40
  obtain ⟨I41, Q41, Z41⟩ := M41
  obtain ⟨K41, Y41, am41, ln41, hS41, hU41⟩ := RA_u.mp hA40
  change sm (tbr am41 (13 * ln41) 77 5088) h38 (jn I41 K41) Y41 at hS41
  obtain ⟨-, hWm41, -, -, hr41, -⟩ := id hU41.1
  have hln41 := RU_ln hU41 (by omega)
  refine go_s (pc' := 28) rfl rfl rfl rfl ?_
  refine go_s (pc' := 29) (st' := [.int 4, .ref 62]) rfl rfl rfl rfl ?_
  refine go_s (pc' := 30) rfl rfl rfl rfl ?_
  refine go_s (pc' := 31) (st' := [.int 8, .ref 62]) rfl rfl rfl rfl ?_
  refine go_s (pc' := 32) rfl rfl rfl rfl ?_
  refine go_s (pc' := 33) (st' := [.int 10, .ref 62]) rfl rfl rfl rfl ?_
  have hU42 : RU w B R [] true h38 am41 ln41 K41 (I41, Q41, Z41) := RU_I (sm_e_refl (tbr am41 (13 * ln41) 77 5088) _) (I' := I41) (fun _ => rfl) (fun _ => rfl) (Nat.le_refl _) hU41
  have hA43 : RA w B R [] true h38 (I41, Q41, Z41) := RA_u.mpr ⟨_, _, _, _, hS41, hU42⟩
  refine go_callV (pc' := 34) rfl rfl rfl (Nat.le_of_ble_eq_true rfl) rfl (sm_o hS41 rfl) rfl rfl rfl (ra_em (l := 10) (by decide) hA43 (by omega) (by omega)) (fun r h44 q45 => ?_)
  obtain ⟨rfl, hA46⟩ := q45
  change RA w B R [] true h44 (mclr 10 (I41, Q41, Z41)) at hA46
  obtain ⟨M47, eM47⟩ : ∃ y : mM, y = (mclr 10 (I41, Q41, Z41)) := ⟨_, rfl⟩
  rw [← eM47] at hA46
  obtain ⟨I47, Q47, Z47⟩ := M47
  obtain ⟨K47, Y47, am47, ln47, hS47, hU47⟩ := RA_u.mp hA46
  change sm (tbr am47 (13 * ln47) 77 5088) h44 (jn I47 K47) Y47 at hS47
  obtain ⟨-, hWm47, -, -, hr47, -⟩ := id hU47.1
  have hln47 := RU_ln hU47 (by omega)
  refine go_s (pc' := 35) (lo' := [some (.ref 62), some (.int 2), some (.int 3)]) rfl rfl rfl rfl ?_
  refine go_s (pc' := 17) rfl rfl rfl rfl ?_
  refine go_s (pc' := 18) rfl rfl rfl rfl ?_
  refine go_s (pc' := 19) (st' := [.int 4, .int 3]) rfl rfl rfl rfl ?_
  refine go_icmpP (t' := 36) (pc' := 20) rfl rfl rfl (fun (c : 4 ≤ (3 : Int32)) => absurd c (by decide)) (fun _ => ?_)
  refine go_s (pc' := 21) rfl rfl rfl rfl ?_
  refine go_s (pc' := 22) (st' := [.int 4, .ref 62]) rfl rfl rfl rfl ?_
  refine go_s (pc' := 23) rfl rfl rfl rfl ?_
  refine go_s (pc' := 24) (st' := [.int 8, .ref 62]) rfl rfl rfl rfl ?_
  refine go_s (pc' := 25) rfl rfl rfl rfl ?_
  refine go_s (pc' := 26) (st' := [.int 11, .ref 62]) rfl rfl rfl rfl ?_
  have hU48 : RU w B R [] true h44 am47 ln47 K47 (I47, Q47, Z47) := RU_I (sm_e_refl (tbr am47 (13 * ln47) 77 5088) _) (I' := I47) (fun _ => rfl) (fun _ => rfl) (Nat.le_refl _) hU47
  have hA49 : RA w B R [] true h44 (I47, Q47, Z47) := RA_u.mpr ⟨_, _, _, _, hS47, hU48⟩
  refine go_callV (pc' := 27) rfl rfl rfl (Nat.le_of_ble_eq_true rfl) rfl (sm_o hS47 rfl) rfl rfl rfl (ra_em (l := 11) (by decide) hA49 (by omega) (by omega)) (fun r h50 q51 => ?_)
  obtain ⟨rfl, hA52⟩ := q51
  change RA w B R [] true h50 (mclr 11 (I47, Q47, Z47)) at hA52
  obtain ⟨M53, eM53⟩ : ∃ y : mM, y = (mclr 11 (I47, Q47, Z47)) := ⟨_, rfl⟩
  rw [← eM53] at hA52
  obtain ⟨I53, Q53, Z53⟩ := M53
  obtain ⟨K53, Y53, am53, ln53, hS53, hU53⟩ := RA_u.mp hA52
  change sm (tbr am53 (13 * ln53) 77 5088) h50 (jn I53 K53) Y53 at hS53
  obtain ⟨-, hWm53, -, -, hr53, -⟩ := id hU53.1
  have hln53 := RU_ln hU53 (by omega)
  refine go_s (pc' := 28) rfl rfl rfl rfl ?_
  refine go_s (pc' := 29) (st' := [.int 4, .ref 62]) rfl rfl rfl rfl ?_
  refine go_s (pc' := 30) rfl rfl rfl rfl ?_
  refine go_s (pc' := 31) (st' := [.int 12, .ref 62]) rfl rfl rfl rfl ?_
  refine go_s (pc' := 32) rfl rfl rfl rfl ?_
  refine go_s (pc' := 33) (st' := [.int 14, .ref 62]) rfl rfl rfl rfl ?_
  have hU54 : RU w B R [] true h50 am53 ln53 K53 (I53, Q53, Z53) := RU_I (sm_e_refl (tbr am53 (13 * ln53) 77 5088) _) (I' := I53) (fun _ => rfl) (fun _ => rfl) (Nat.le_refl _) hU53
  have hA55 : RA w B R [] true h50 (I53, Q53, Z53) := RA_u.mpr ⟨_, _, _, _, hS53, hU54⟩
  refine go_callV (pc' := 34) rfl rfl rfl (Nat.le_of_ble_eq_true rfl) rfl (sm_o hS53 rfl) rfl rfl rfl (ra_em (l := 14) (by decide) hA55 (by omega) (by omega)) (fun r h56 q57 => ?_)
  obtain ⟨rfl, hA58⟩ := q57
  change RA w B R [] true h56 (mclr 14 (I53, Q53, Z53)) at hA58
  obtain ⟨M59, eM59⟩ : ∃ y : mM, y = (mclr 14 (I53, Q53, Z53)) := ⟨_, rfl⟩
  rw [← eM59] at hA58
  obtain ⟨I59, Q59, Z59⟩ := M59
  obtain ⟨K59, Y59, am59, ln59, hS59, hU59⟩ := RA_u.mp hA58
  change sm (tbr am59 (13 * ln59) 77 5088) h56 (jn I59 K59) Y59 at hS59
  obtain ⟨-, hWm59, -, -, hr59, -⟩ := id hU59.1
  have hln59 := RU_ln hU59 (by omega)
  refine go_s (pc' := 35) (lo' := [some (.ref 62), some (.int 2), some (.int 4)]) rfl rfl rfl rfl ?_
  refine go_s (pc' := 17) rfl rfl rfl rfl ?_
  refine go_s (pc' := 18) rfl rfl rfl rfl ?_
  refine go_s (pc' := 19) (st' := [.int 4, .int 4]) rfl rfl rfl rfl ?_
  refine go_icmpP (t' := 36) (pc' := 20) rfl rfl rfl (fun _ => ?_) (fun (c : ¬ (4 ≤ (4 : Int32))) => absurd (by decide) c)
  refine go_s (pc' := 37) (st' := [.int 0]) rfl rfl rfl rfl ?_
  refine go_s (pc' := 38) (lo' := [some (.ref 62), some (.int 2), some (.int 0)]) rfl rfl rfl rfl ?_
  refine go_s (pc' := 39) rfl rfl rfl rfl ?_
  refine go_s (pc' := 40) (st' := [.int 3, .int 0]) rfl rfl rfl rfl ?_
  refine go_icmpP (t' := 52) (pc' := 41) rfl rfl rfl (fun (c : 3 ≤ (0 : Int32)) => absurd c (by decide)) (fun _ => ?_)
  refine go_s (pc' := 42) rfl rfl rfl rfl ?_
  refine go_sget (pc' := 43) (v := .ref 78) hS59 rfl rfl rfl (by decide) rfl rfl ?_
  refine go_s (pc' := 44) rfl rfl rfl rfl ?_
  refine go_sald (pc' := 45) (q := 0) (v := .int (I59 11 0)) hS59 rfl (tr_s hr59 (a := 78) rfl (by decide)) rfl rfl (by decide) rfl rfl ?_
  refine go_s (pc' := 46) rfl rfl rfl rfl ?_
  refine go_icmpP (t' := 50) (pc' := 47) rfl rfl rfl (fun (c60 : ¬ (I59 11 0) = 2) => ?_) (fun (c60' : ¬ ¬ (I59 11 0) = 2) => ?_)
  · skip
    have ms61 : mstp 0 2 (I59, Q59, Z59) = (I59, Q59, Z59) := if_neg c60
    refine go_s (pc' := 51) (lo' := [some (.ref 62), some (.int 2), some (.int 1)]) rfl rfl rfl rfl ?_
    refine go_s (pc' := 38) rfl rfl rfl rfl ?_
    refine go_s (pc' := 39) rfl rfl rfl rfl ?_
    refine go_s (pc' := 40) (st' := [.int 3, .int 1]) rfl rfl rfl rfl ?_
    refine go_icmpP (t' := 52) (pc' := 41) rfl rfl rfl (fun (c : 3 ≤ (1 : Int32)) => absurd c (by decide)) (fun _ => ?_)
    refine go_s (pc' := 42) rfl rfl rfl rfl ?_
    refine go_sget (pc' := 43) (v := .ref 78) hS59 rfl rfl rfl (by decide) rfl rfl ?_
    refine go_s (pc' := 44) rfl rfl rfl rfl ?_
    refine go_sald (pc' := 45) (q := 1) (v := .int (I59 11 1)) hS59 rfl (tr_s hr59 (a := 78) rfl (by decide)) rfl rfl (by decide) rfl rfl ?_
    refine go_s (pc' := 46) rfl rfl rfl rfl ?_
    refine go_icmpP (t' := 50) (pc' := 47) rfl rfl rfl (fun (c62 : ¬ (I59 11 1) = 2) => ?_) (fun (c62' : ¬ ¬ (I59 11 1) = 2) => ?_)
    · skip
      have ms63 : mstp 1 2 (I59, Q59, Z59) = (I59, Q59, Z59) := if_neg c62
      refine go_s (pc' := 51) (lo' := [some (.ref 62), some (.int 2), some (.int 2)]) rfl rfl rfl rfl ?_
      refine go_s (pc' := 38) rfl rfl rfl rfl ?_
      refine go_s (pc' := 39) rfl rfl rfl rfl ?_
      refine go_s (pc' := 40) (st' := [.int 3, .int 2]) rfl rfl rfl rfl ?_
      refine go_icmpP (t' := 52) (pc' := 41) rfl rfl rfl (fun (c : 3 ≤ (2 : Int32)) => absurd c (by decide)) (fun _ => ?_)
      refine go_s (pc' := 42) rfl rfl rfl rfl ?_
      refine go_sget (pc' := 43) (v := .ref 78) hS59 rfl rfl rfl (by decide) rfl rfl ?_
      refine go_s (pc' := 44) rfl rfl rfl rfl ?_
      refine go_sald (pc' := 45) (q := 2) (v := .int (I59 11 2)) hS59 rfl (tr_s hr59 (a := 78) rfl (by decide)) rfl rfl (by decide) rfl rfl ?_
      refine go_s (pc' := 46) rfl rfl rfl rfl ?_
      refine go_icmpP (t' := 50) (pc' := 47) rfl rfl rfl (fun (c64 : ¬ (I59 11 2) = 2) => ?_) (fun (c64' : ¬ ¬ (I59 11 2) = 2) => ?_)
      · skip
        have ms65 : mstp 2 2 (I59, Q59, Z59) = (I59, Q59, Z59) := if_neg c64
        refine go_s (pc' := 51) (lo' := [some (.ref 62), some (.int 2), some (.int 3)]) rfl rfl rfl rfl ?_
        refine go_s (pc' := 38) rfl rfl rfl rfl ?_
        refine go_s (pc' := 39) rfl rfl rfl rfl ?_
        refine go_s (pc' := 40) (st' := [.int 3, .int 3]) rfl rfl rfl rfl ?_
        refine go_icmpP (t' := 52) (pc' := 41) rfl rfl rfl (fun _ => ?_) (fun (c : ¬ (3 ≤ (3 : Int32))) => absurd (by decide) c)
        refine go_ret rfl rfl ?_
        have hA66 : RA w B R [] true h56 (I59, Q59, Z59) := RA_u.mpr ⟨_, _, _, _, hS59, hU59⟩
        have hcl : mcl2 2 3 (mcl2 2 2 (mcl2 2 1 (mcl2 2 0 ((uI (uI (uI I 0 2 0) 1 2 0) 2 2 0, Q, Z) : mM)))) = (I59, Q59, Z59) := by
          rw [eM59, eM53, eM47, eM41, eM35, eM29, eM23, eM17]
          rfl
        have hms : rfp 2 (I, Q, Z) = (I59, Q59, Z59) := by
          unfold rfp
          rw [show (uI (uI (uI ((I, Q, Z) : mM).1 0 2 0) 1 2 0) 2 2 0, ((I, Q, Z) : mM).2) = ((uI (uI (uI I 0 2 0) 1 2 0) 2 2 0, Q, Z) : mM) from rfl, hcl, ms61, ms63, ms65]
        rw [hms]
        exact ⟨rfl, hA66⟩
      · skip
        have c64 : (I59 11 2) = 2 := Decidable.not_not.mp c64'
        refine go_s (pc' := 48) rfl rfl rfl rfl ?_
        refine go_s (pc' := 49) rfl rfl rfl rfl ?_
        have hU67 : RU w B R [] true h56 am59 ln59 K59 (I59, Q59, Z59) := RU_I (sm_e_refl (tbr am59 (13 * ln59) 77 5088) _) (I' := I59) (fun _ => rfl) (fun _ => rfl) (Nat.le_refl _) hU59
        refine go_callV (pc' := 50) rfl rfl rfl (Nat.le_of_ble_eq_true rfl) rfl (sm_o hS59 rfl) rfl rfl rfl (rt_stops_2 hr59 hS59 hW (by omega)) (fun r h68 q69 => ?_)
        obtain ⟨rfl, hS70, hE71⟩ := q69
        change sm (tbr am59 (13 * ln59) 77 5088) _ (mstI 2 (jn I59 K59)) Y59 at hS70
        rw [mst_jn] at hS70
        have hU72 : RU w B R [] true h68 am59 ln59 K59 ((mstI 2 I59), Q59, Z59) := RU_I hE71 mst_24 mst_25 mst_stn hU67
        have ms73 : mstp 2 2 (I59, Q59, Z59) = ((mstI 2 I59), Q59, Z59) := if_pos c64
        refine go_s (pc' := 51) (lo' := [some (.ref 62), some (.int 2), some (.int 3)]) rfl rfl rfl rfl ?_
        refine go_s (pc' := 38) rfl rfl rfl rfl ?_
        refine go_s (pc' := 39) rfl rfl rfl rfl ?_
        refine go_s (pc' := 40) (st' := [.int 3, .int 3]) rfl rfl rfl rfl ?_
        refine go_icmpP (t' := 52) (pc' := 41) rfl rfl rfl (fun _ => ?_) (fun (c : ¬ (3 ≤ (3 : Int32))) => absurd (by decide) c)
        refine go_ret rfl rfl ?_
        have hA74 : RA w B R [] true h68 ((mstI 2 I59), Q59, Z59) := RA_u.mpr ⟨_, _, _, _, hS70, hU72⟩
        have hcl : mcl2 2 3 (mcl2 2 2 (mcl2 2 1 (mcl2 2 0 ((uI (uI (uI I 0 2 0) 1 2 0) 2 2 0, Q, Z) : mM)))) = (I59, Q59, Z59) := by
          rw [eM59, eM53, eM47, eM41, eM35, eM29, eM23, eM17]
          rfl
        have hms : rfp 2 (I, Q, Z) = ((mstI 2 I59), Q59, Z59) := by
          unfold rfp
          rw [show (uI (uI (uI ((I, Q, Z) : mM).1 0 2 0) 1 2 0) 2 2 0, ((I, Q, Z) : mM).2) = ((uI (uI (uI I 0 2 0) 1 2 0) 2 2 0, Q, Z) : mM) from rfl, hcl, ms61, ms63, ms73]
        rw [hms]
        exact ⟨rfl, hA74⟩
    · skip
      have c62 : (I59 11 1) = 2 := Decidable.not_not.mp c62'
      refine go_s (pc' := 48) rfl rfl rfl rfl ?_
      refine go_s (pc' := 49) rfl rfl rfl rfl ?_
      have hU75 : RU w B R [] true h56 am59 ln59 K59 (I59, Q59, Z59) := RU_I (sm_e_refl (tbr am59 (13 * ln59) 77 5088) _) (I' := I59) (fun _ => rfl) (fun _ => rfl) (Nat.le_refl _) hU59
      refine go_callV (pc' := 50) rfl rfl rfl (Nat.le_of_ble_eq_true rfl) rfl (sm_o hS59 rfl) rfl rfl rfl (rt_stops_1 hr59 hS59 hW (by omega)) (fun r h76 q77 => ?_)
      obtain ⟨rfl, hS78, hE79⟩ := q77
      change sm (tbr am59 (13 * ln59) 77 5088) _ (mstI 1 (jn I59 K59)) Y59 at hS78
      rw [mst_jn] at hS78
      have hU80 : RU w B R [] true h76 am59 ln59 K59 ((mstI 1 I59), Q59, Z59) := RU_I hE79 mst_24 mst_25 mst_stn hU75
      have ms81 : mstp 1 2 (I59, Q59, Z59) = ((mstI 1 I59), Q59, Z59) := if_pos c62
      refine go_s (pc' := 51) (lo' := [some (.ref 62), some (.int 2), some (.int 2)]) rfl rfl rfl rfl ?_
      refine go_s (pc' := 38) rfl rfl rfl rfl ?_
      refine go_s (pc' := 39) rfl rfl rfl rfl ?_
      refine go_s (pc' := 40) (st' := [.int 3, .int 2]) rfl rfl rfl rfl ?_
      refine go_icmpP (t' := 52) (pc' := 41) rfl rfl rfl (fun (c : 3 ≤ (2 : Int32)) => absurd c (by decide)) (fun _ => ?_)
      refine go_s (pc' := 42) rfl rfl rfl rfl ?_
      refine go_sget (pc' := 43) (v := .ref 78) hS78 rfl rfl rfl (by decide) rfl rfl ?_
      refine go_s (pc' := 44) rfl rfl rfl rfl ?_
      refine go_sald (pc' := 45) (q := 2) (v := .int ((mstI 1 I59) 11 2)) hS78 rfl (tr_s hr59 (a := 78) rfl (by decide)) rfl rfl (by decide) rfl rfl ?_
      refine go_s (pc' := 46) rfl rfl rfl rfl ?_
      refine go_icmpP (t' := 50) (pc' := 47) rfl rfl rfl (fun (c82 : ¬ ((mstI 1 I59) 11 2) = 2) => ?_) (fun (c82' : ¬ ¬ ((mstI 1 I59) 11 2) = 2) => ?_)
      · skip
        have ms83 : mstp 2 2 ((mstI 1 I59), Q59, Z59) = ((mstI 1 I59), Q59, Z59) := if_neg c82
        refine go_s (pc' := 51) (lo' := [some (.ref 62), some (.int 2), some (.int 3)]) rfl rfl rfl rfl ?_
        refine go_s (pc' := 38) rfl rfl rfl rfl ?_
        refine go_s (pc' := 39) rfl rfl rfl rfl ?_
        refine go_s (pc' := 40) (st' := [.int 3, .int 3]) rfl rfl rfl rfl ?_
        refine go_icmpP (t' := 52) (pc' := 41) rfl rfl rfl (fun _ => ?_) (fun (c : ¬ (3 ≤ (3 : Int32))) => absurd (by decide) c)
        refine go_ret rfl rfl ?_
        have hA84 : RA w B R [] true h76 ((mstI 1 I59), Q59, Z59) := RA_u.mpr ⟨_, _, _, _, hS78, hU80⟩
        have hcl : mcl2 2 3 (mcl2 2 2 (mcl2 2 1 (mcl2 2 0 ((uI (uI (uI I 0 2 0) 1 2 0) 2 2 0, Q, Z) : mM)))) = (I59, Q59, Z59) := by
          rw [eM59, eM53, eM47, eM41, eM35, eM29, eM23, eM17]
          rfl
        have hms : rfp 2 (I, Q, Z) = ((mstI 1 I59), Q59, Z59) := by
          unfold rfp
          rw [show (uI (uI (uI ((I, Q, Z) : mM).1 0 2 0) 1 2 0) 2 2 0, ((I, Q, Z) : mM).2) = ((uI (uI (uI I 0 2 0) 1 2 0) 2 2 0, Q, Z) : mM) from rfl, hcl, ms61, ms81, ms83]
        rw [hms]
        exact ⟨rfl, hA84⟩
      · skip
        have c82 : ((mstI 1 I59) 11 2) = 2 := Decidable.not_not.mp c82'
        refine go_s (pc' := 48) rfl rfl rfl rfl ?_
        refine go_s (pc' := 49) rfl rfl rfl rfl ?_
        have hU85 : RU w B R [] true h76 am59 ln59 K59 ((mstI 1 I59), Q59, Z59) := RU_I (sm_e_refl (tbr am59 (13 * ln59) 77 5088) _) (I' := (mstI 1 I59)) (fun _ => rfl) (fun _ => rfl) (Nat.le_refl _) hU80
        refine go_callV (pc' := 50) rfl rfl rfl (Nat.le_of_ble_eq_true rfl) rfl (sm_o hS78 rfl) rfl rfl rfl (rt_stops_2 hr59 hS78 hW (by omega)) (fun r h86 q87 => ?_)
        obtain ⟨rfl, hS88, hE89⟩ := q87
        change sm (tbr am59 (13 * ln59) 77 5088) _ (mstI 2 (jn (mstI 1 I59) K59)) Y59 at hS88
        rw [mst_jn] at hS88
        have hU90 : RU w B R [] true h86 am59 ln59 K59 ((mstI 2 (mstI 1 I59)), Q59, Z59) := RU_I hE89 mst_24 mst_25 mst_stn hU85
        have ms91 : mstp 2 2 ((mstI 1 I59), Q59, Z59) = ((mstI 2 (mstI 1 I59)), Q59, Z59) := if_pos c82
        refine go_s (pc' := 51) (lo' := [some (.ref 62), some (.int 2), some (.int 3)]) rfl rfl rfl rfl ?_
        refine go_s (pc' := 38) rfl rfl rfl rfl ?_
        refine go_s (pc' := 39) rfl rfl rfl rfl ?_
        refine go_s (pc' := 40) (st' := [.int 3, .int 3]) rfl rfl rfl rfl ?_
        refine go_icmpP (t' := 52) (pc' := 41) rfl rfl rfl (fun _ => ?_) (fun (c : ¬ (3 ≤ (3 : Int32))) => absurd (by decide) c)
        refine go_ret rfl rfl ?_
        have hA92 : RA w B R [] true h86 ((mstI 2 (mstI 1 I59)), Q59, Z59) := RA_u.mpr ⟨_, _, _, _, hS88, hU90⟩
        have hcl : mcl2 2 3 (mcl2 2 2 (mcl2 2 1 (mcl2 2 0 ((uI (uI (uI I 0 2 0) 1 2 0) 2 2 0, Q, Z) : mM)))) = (I59, Q59, Z59) := by
          rw [eM59, eM53, eM47, eM41, eM35, eM29, eM23, eM17]
          rfl
        have hms : rfp 2 (I, Q, Z) = ((mstI 2 (mstI 1 I59)), Q59, Z59) := by
          unfold rfp
          rw [show (uI (uI (uI ((I, Q, Z) : mM).1 0 2 0) 1 2 0) 2 2 0, ((I, Q, Z) : mM).2) = ((uI (uI (uI I 0 2 0) 1 2 0) 2 2 0, Q, Z) : mM) from rfl, hcl, ms61, ms81, ms91]
        rw [hms]
        exact ⟨rfl, hA92⟩
  · skip
    have c60 : (I59 11 0) = 2 := Decidable.not_not.mp c60'
    refine go_s (pc' := 48) rfl rfl rfl rfl ?_
    refine go_s (pc' := 49) rfl rfl rfl rfl ?_
    have hU93 : RU w B R [] true h56 am59 ln59 K59 (I59, Q59, Z59) := RU_I (sm_e_refl (tbr am59 (13 * ln59) 77 5088) _) (I' := I59) (fun _ => rfl) (fun _ => rfl) (Nat.le_refl _) hU59
    refine go_callV (pc' := 50) rfl rfl rfl (Nat.le_of_ble_eq_true rfl) rfl (sm_o hS59 rfl) rfl rfl rfl (rt_stops_0 hr59 hS59 hW (by omega)) (fun r h94 q95 => ?_)
    obtain ⟨rfl, hS96, hE97⟩ := q95
    change sm (tbr am59 (13 * ln59) 77 5088) _ (mstI 0 (jn I59 K59)) Y59 at hS96
    rw [mst_jn] at hS96
    have hU98 : RU w B R [] true h94 am59 ln59 K59 ((mstI 0 I59), Q59, Z59) := RU_I hE97 mst_24 mst_25 mst_stn hU93
    have ms99 : mstp 0 2 (I59, Q59, Z59) = ((mstI 0 I59), Q59, Z59) := if_pos c60
    refine go_s (pc' := 51) (lo' := [some (.ref 62), some (.int 2), some (.int 1)]) rfl rfl rfl rfl ?_
    refine go_s (pc' := 38) rfl rfl rfl rfl ?_
    refine go_s (pc' := 39) rfl rfl rfl rfl ?_
    refine go_s (pc' := 40) (st' := [.int 3, .int 1]) rfl rfl rfl rfl ?_
    refine go_icmpP (t' := 52) (pc' := 41) rfl rfl rfl (fun (c : 3 ≤ (1 : Int32)) => absurd c (by decide)) (fun _ => ?_)
    refine go_s (pc' := 42) rfl rfl rfl rfl ?_
    refine go_sget (pc' := 43) (v := .ref 78) hS96 rfl rfl rfl (by decide) rfl rfl ?_
    refine go_s (pc' := 44) rfl rfl rfl rfl ?_
    refine go_sald (pc' := 45) (q := 1) (v := .int ((mstI 0 I59) 11 1)) hS96 rfl (tr_s hr59 (a := 78) rfl (by decide)) rfl rfl (by decide) rfl rfl ?_
    refine go_s (pc' := 46) rfl rfl rfl rfl ?_
    refine go_icmpP (t' := 50) (pc' := 47) rfl rfl rfl (fun (c100 : ¬ ((mstI 0 I59) 11 1) = 2) => ?_) (fun (c100' : ¬ ¬ ((mstI 0 I59) 11 1) = 2) => ?_)
    · skip
      have ms101 : mstp 1 2 ((mstI 0 I59), Q59, Z59) = ((mstI 0 I59), Q59, Z59) := if_neg c100
      refine go_s (pc' := 51) (lo' := [some (.ref 62), some (.int 2), some (.int 2)]) rfl rfl rfl rfl ?_
      refine go_s (pc' := 38) rfl rfl rfl rfl ?_
      refine go_s (pc' := 39) rfl rfl rfl rfl ?_
      refine go_s (pc' := 40) (st' := [.int 3, .int 2]) rfl rfl rfl rfl ?_
      refine go_icmpP (t' := 52) (pc' := 41) rfl rfl rfl (fun (c : 3 ≤ (2 : Int32)) => absurd c (by decide)) (fun _ => ?_)
      refine go_s (pc' := 42) rfl rfl rfl rfl ?_
      refine go_sget (pc' := 43) (v := .ref 78) hS96 rfl rfl rfl (by decide) rfl rfl ?_
      refine go_s (pc' := 44) rfl rfl rfl rfl ?_
      refine go_sald (pc' := 45) (q := 2) (v := .int ((mstI 0 I59) 11 2)) hS96 rfl (tr_s hr59 (a := 78) rfl (by decide)) rfl rfl (by decide) rfl rfl ?_
      refine go_s (pc' := 46) rfl rfl rfl rfl ?_
      refine go_icmpP (t' := 50) (pc' := 47) rfl rfl rfl (fun (c102 : ¬ ((mstI 0 I59) 11 2) = 2) => ?_) (fun (c102' : ¬ ¬ ((mstI 0 I59) 11 2) = 2) => ?_)
      · skip
        have ms103 : mstp 2 2 ((mstI 0 I59), Q59, Z59) = ((mstI 0 I59), Q59, Z59) := if_neg c102
        refine go_s (pc' := 51) (lo' := [some (.ref 62), some (.int 2), some (.int 3)]) rfl rfl rfl rfl ?_
        refine go_s (pc' := 38) rfl rfl rfl rfl ?_
        refine go_s (pc' := 39) rfl rfl rfl rfl ?_
        refine go_s (pc' := 40) (st' := [.int 3, .int 3]) rfl rfl rfl rfl ?_
        refine go_icmpP (t' := 52) (pc' := 41) rfl rfl rfl (fun _ => ?_) (fun (c : ¬ (3 ≤ (3 : Int32))) => absurd (by decide) c)
        refine go_ret rfl rfl ?_
        have hA104 : RA w B R [] true h94 ((mstI 0 I59), Q59, Z59) := RA_u.mpr ⟨_, _, _, _, hS96, hU98⟩
        have hcl : mcl2 2 3 (mcl2 2 2 (mcl2 2 1 (mcl2 2 0 ((uI (uI (uI I 0 2 0) 1 2 0) 2 2 0, Q, Z) : mM)))) = (I59, Q59, Z59) := by
          rw [eM59, eM53, eM47, eM41, eM35, eM29, eM23, eM17]
          rfl
        have hms : rfp 2 (I, Q, Z) = ((mstI 0 I59), Q59, Z59) := by
          unfold rfp
          rw [show (uI (uI (uI ((I, Q, Z) : mM).1 0 2 0) 1 2 0) 2 2 0, ((I, Q, Z) : mM).2) = ((uI (uI (uI I 0 2 0) 1 2 0) 2 2 0, Q, Z) : mM) from rfl, hcl, ms99, ms101, ms103]
        rw [hms]
        exact ⟨rfl, hA104⟩
      · skip
        have c102 : ((mstI 0 I59) 11 2) = 2 := Decidable.not_not.mp c102'
        refine go_s (pc' := 48) rfl rfl rfl rfl ?_
        refine go_s (pc' := 49) rfl rfl rfl rfl ?_
        have hU105 : RU w B R [] true h94 am59 ln59 K59 ((mstI 0 I59), Q59, Z59) := RU_I (sm_e_refl (tbr am59 (13 * ln59) 77 5088) _) (I' := (mstI 0 I59)) (fun _ => rfl) (fun _ => rfl) (Nat.le_refl _) hU98
        refine go_callV (pc' := 50) rfl rfl rfl (Nat.le_of_ble_eq_true rfl) rfl (sm_o hS96 rfl) rfl rfl rfl (rt_stops_2 hr59 hS96 hW (by omega)) (fun r h106 q107 => ?_)
        obtain ⟨rfl, hS108, hE109⟩ := q107
        change sm (tbr am59 (13 * ln59) 77 5088) _ (mstI 2 (jn (mstI 0 I59) K59)) Y59 at hS108
        rw [mst_jn] at hS108
        have hU110 : RU w B R [] true h106 am59 ln59 K59 ((mstI 2 (mstI 0 I59)), Q59, Z59) := RU_I hE109 mst_24 mst_25 mst_stn hU105
        have ms111 : mstp 2 2 ((mstI 0 I59), Q59, Z59) = ((mstI 2 (mstI 0 I59)), Q59, Z59) := if_pos c102
        refine go_s (pc' := 51) (lo' := [some (.ref 62), some (.int 2), some (.int 3)]) rfl rfl rfl rfl ?_
        refine go_s (pc' := 38) rfl rfl rfl rfl ?_
        refine go_s (pc' := 39) rfl rfl rfl rfl ?_
        refine go_s (pc' := 40) (st' := [.int 3, .int 3]) rfl rfl rfl rfl ?_
        refine go_icmpP (t' := 52) (pc' := 41) rfl rfl rfl (fun _ => ?_) (fun (c : ¬ (3 ≤ (3 : Int32))) => absurd (by decide) c)
        refine go_ret rfl rfl ?_
        have hA112 : RA w B R [] true h106 ((mstI 2 (mstI 0 I59)), Q59, Z59) := RA_u.mpr ⟨_, _, _, _, hS108, hU110⟩
        have hcl : mcl2 2 3 (mcl2 2 2 (mcl2 2 1 (mcl2 2 0 ((uI (uI (uI I 0 2 0) 1 2 0) 2 2 0, Q, Z) : mM)))) = (I59, Q59, Z59) := by
          rw [eM59, eM53, eM47, eM41, eM35, eM29, eM23, eM17]
          rfl
        have hms : rfp 2 (I, Q, Z) = ((mstI 2 (mstI 0 I59)), Q59, Z59) := by
          unfold rfp
          rw [show (uI (uI (uI ((I, Q, Z) : mM).1 0 2 0) 1 2 0) 2 2 0, ((I, Q, Z) : mM).2) = ((uI (uI (uI I 0 2 0) 1 2 0) 2 2 0, Q, Z) : mM) from rfl, hcl, ms99, ms101, ms111]
        rw [hms]
        exact ⟨rfl, hA112⟩
    · skip
      have c100 : ((mstI 0 I59) 11 1) = 2 := Decidable.not_not.mp c100'
      refine go_s (pc' := 48) rfl rfl rfl rfl ?_
      refine go_s (pc' := 49) rfl rfl rfl rfl ?_
      have hU113 : RU w B R [] true h94 am59 ln59 K59 ((mstI 0 I59), Q59, Z59) := RU_I (sm_e_refl (tbr am59 (13 * ln59) 77 5088) _) (I' := (mstI 0 I59)) (fun _ => rfl) (fun _ => rfl) (Nat.le_refl _) hU98
      refine go_callV (pc' := 50) rfl rfl rfl (Nat.le_of_ble_eq_true rfl) rfl (sm_o hS96 rfl) rfl rfl rfl (rt_stops_1 hr59 hS96 hW (by omega)) (fun r h114 q115 => ?_)
      obtain ⟨rfl, hS116, hE117⟩ := q115
      change sm (tbr am59 (13 * ln59) 77 5088) _ (mstI 1 (jn (mstI 0 I59) K59)) Y59 at hS116
      rw [mst_jn] at hS116
      have hU118 : RU w B R [] true h114 am59 ln59 K59 ((mstI 1 (mstI 0 I59)), Q59, Z59) := RU_I hE117 mst_24 mst_25 mst_stn hU113
      have ms119 : mstp 1 2 ((mstI 0 I59), Q59, Z59) = ((mstI 1 (mstI 0 I59)), Q59, Z59) := if_pos c100
      refine go_s (pc' := 51) (lo' := [some (.ref 62), some (.int 2), some (.int 2)]) rfl rfl rfl rfl ?_
      refine go_s (pc' := 38) rfl rfl rfl rfl ?_
      refine go_s (pc' := 39) rfl rfl rfl rfl ?_
      refine go_s (pc' := 40) (st' := [.int 3, .int 2]) rfl rfl rfl rfl ?_
      refine go_icmpP (t' := 52) (pc' := 41) rfl rfl rfl (fun (c : 3 ≤ (2 : Int32)) => absurd c (by decide)) (fun _ => ?_)
      refine go_s (pc' := 42) rfl rfl rfl rfl ?_
      refine go_sget (pc' := 43) (v := .ref 78) hS116 rfl rfl rfl (by decide) rfl rfl ?_
      refine go_s (pc' := 44) rfl rfl rfl rfl ?_
      refine go_sald (pc' := 45) (q := 2) (v := .int ((mstI 1 (mstI 0 I59)) 11 2)) hS116 rfl (tr_s hr59 (a := 78) rfl (by decide)) rfl rfl (by decide) rfl rfl ?_
      refine go_s (pc' := 46) rfl rfl rfl rfl ?_
      refine go_icmpP (t' := 50) (pc' := 47) rfl rfl rfl (fun (c120 : ¬ ((mstI 1 (mstI 0 I59)) 11 2) = 2) => ?_) (fun (c120' : ¬ ¬ ((mstI 1 (mstI 0 I59)) 11 2) = 2) => ?_)
      · skip
        have ms121 : mstp 2 2 ((mstI 1 (mstI 0 I59)), Q59, Z59) = ((mstI 1 (mstI 0 I59)), Q59, Z59) := if_neg c120
        refine go_s (pc' := 51) (lo' := [some (.ref 62), some (.int 2), some (.int 3)]) rfl rfl rfl rfl ?_
        refine go_s (pc' := 38) rfl rfl rfl rfl ?_
        refine go_s (pc' := 39) rfl rfl rfl rfl ?_
        refine go_s (pc' := 40) (st' := [.int 3, .int 3]) rfl rfl rfl rfl ?_
        refine go_icmpP (t' := 52) (pc' := 41) rfl rfl rfl (fun _ => ?_) (fun (c : ¬ (3 ≤ (3 : Int32))) => absurd (by decide) c)
        refine go_ret rfl rfl ?_
        have hA122 : RA w B R [] true h114 ((mstI 1 (mstI 0 I59)), Q59, Z59) := RA_u.mpr ⟨_, _, _, _, hS116, hU118⟩
        have hcl : mcl2 2 3 (mcl2 2 2 (mcl2 2 1 (mcl2 2 0 ((uI (uI (uI I 0 2 0) 1 2 0) 2 2 0, Q, Z) : mM)))) = (I59, Q59, Z59) := by
          rw [eM59, eM53, eM47, eM41, eM35, eM29, eM23, eM17]
          rfl
        have hms : rfp 2 (I, Q, Z) = ((mstI 1 (mstI 0 I59)), Q59, Z59) := by
          unfold rfp
          rw [show (uI (uI (uI ((I, Q, Z) : mM).1 0 2 0) 1 2 0) 2 2 0, ((I, Q, Z) : mM).2) = ((uI (uI (uI I 0 2 0) 1 2 0) 2 2 0, Q, Z) : mM) from rfl, hcl, ms99, ms119, ms121]
        rw [hms]
        exact ⟨rfl, hA122⟩
      · skip
        have c120 : ((mstI 1 (mstI 0 I59)) 11 2) = 2 := Decidable.not_not.mp c120'
        refine go_s (pc' := 48) rfl rfl rfl rfl ?_
        refine go_s (pc' := 49) rfl rfl rfl rfl ?_
        have hU123 : RU w B R [] true h114 am59 ln59 K59 ((mstI 1 (mstI 0 I59)), Q59, Z59) := RU_I (sm_e_refl (tbr am59 (13 * ln59) 77 5088) _) (I' := (mstI 1 (mstI 0 I59))) (fun _ => rfl) (fun _ => rfl) (Nat.le_refl _) hU118
        refine go_callV (pc' := 50) rfl rfl rfl (Nat.le_of_ble_eq_true rfl) rfl (sm_o hS116 rfl) rfl rfl rfl (rt_stops_2 hr59 hS116 hW (by omega)) (fun r h124 q125 => ?_)
        obtain ⟨rfl, hS126, hE127⟩ := q125
        change sm (tbr am59 (13 * ln59) 77 5088) _ (mstI 2 (jn (mstI 1 (mstI 0 I59)) K59)) Y59 at hS126
        rw [mst_jn] at hS126
        have hU128 : RU w B R [] true h124 am59 ln59 K59 ((mstI 2 (mstI 1 (mstI 0 I59))), Q59, Z59) := RU_I hE127 mst_24 mst_25 mst_stn hU123
        have ms129 : mstp 2 2 ((mstI 1 (mstI 0 I59)), Q59, Z59) = ((mstI 2 (mstI 1 (mstI 0 I59))), Q59, Z59) := if_pos c120
        refine go_s (pc' := 51) (lo' := [some (.ref 62), some (.int 2), some (.int 3)]) rfl rfl rfl rfl ?_
        refine go_s (pc' := 38) rfl rfl rfl rfl ?_
        refine go_s (pc' := 39) rfl rfl rfl rfl ?_
        refine go_s (pc' := 40) (st' := [.int 3, .int 3]) rfl rfl rfl rfl ?_
        refine go_icmpP (t' := 52) (pc' := 41) rfl rfl rfl (fun _ => ?_) (fun (c : ¬ (3 ≤ (3 : Int32))) => absurd (by decide) c)
        refine go_ret rfl rfl ?_
        have hA130 : RA w B R [] true h124 ((mstI 2 (mstI 1 (mstI 0 I59))), Q59, Z59) := RA_u.mpr ⟨_, _, _, _, hS126, hU128⟩
        have hcl : mcl2 2 3 (mcl2 2 2 (mcl2 2 1 (mcl2 2 0 ((uI (uI (uI I 0 2 0) 1 2 0) 2 2 0, Q, Z) : mM)))) = (I59, Q59, Z59) := by
          rw [eM59, eM53, eM47, eM41, eM35, eM29, eM23, eM17]
          rfl
        have hms : rfp 2 (I, Q, Z) = ((mstI 2 (mstI 1 (mstI 0 I59))), Q59, Z59) := by
          unfold rfp
          rw [show (uI (uI (uI ((I, Q, Z) : mM).1 0 2 0) 1 2 0) 2 2 0, ((I, Q, Z) : mM).2) = ((uI (uI (uI I 0 2 0) 1 2 0) 2 2 0, Q, Z) : mM) from rfl, hcl, ms99, ms119, ms129]
        rw [hms]
        exact ⟨rfl, hA130⟩
theorem ra_pf_3 {w : Nat → Bool} {d B R : Nat} {h : am_Hp} {I : sm_I} {Q : mQ} {Z : mZ} (hA : RA w B R [] true h (I, Q, Z)) (hR : R + 0 < 40000) (hd : 3 ≤ d) : am_Ev (am_prog w) d 157 [.ref 62, .int 3] h (fun r h' => r = none ∧ RA w B R [] true h' (rfp 3 (I, Q, Z))) := by
  obtain ⟨K, Y, am, ln, hS, hU⟩ := RA_u.mp hA
  change sm (tbr am (13 * ln) 77 5088) h (jn I K) Y at hS
  obtain ⟨hW, hWm, -, -, hr, -⟩ := id hU.1
  have hln := RU_ln hU (by omega)
  obtain ⟨d, rfl⟩ : ∃ e, d = e + 1 := ⟨d - 1, by omega⟩
  refine ev_go rfl (Nat.le_of_ble_eq_true rfl) rfl ?_
  refine go_s (pc' := 1) rfl rfl rfl rfl ?_
  refine go_sget (pc' := 2) (v := .ref 63) hS rfl rfl rfl (by decide) rfl rfl ?_
  refine go_s (pc' := 3) rfl rfl rfl rfl ?_
  refine go_s (pc' := 4) (st' := [.int 0, .int 3, .ref 63]) rfl rfl rfl rfl ?_
  refine go_szast (pc' := 5) (q := 3) hS rfl (tr_s hr (a := 63) rfl (by decide)) tbr_inj (Nat.le_of_ble_eq_true rfl) rfl (by decide) (by decide) rfl (hW _ (by decide) (by decide)) rfl (fun h1 hS2 hE3 => ?_)
  refine go_s (pc' := 6) rfl rfl rfl rfl ?_
  refine go_sget (pc' := 7) (v := .ref 64) hS2 rfl rfl rfl (by decide) rfl rfl ?_
  refine go_s (pc' := 8) rfl rfl rfl rfl ?_
  refine go_s (pc' := 9) (st' := [.int 0, .int 3, .ref 64]) rfl rfl rfl rfl ?_
  refine go_szast (pc' := 10) (q := 3) hS2 rfl (tr_s hr (a := 64) rfl (by decide)) tbr_inj (Nat.le_of_ble_eq_true rfl) rfl (by decide) (by decide) rfl (hW _ (by decide) (by decide)) rfl (fun h4 hS5 hE6 => ?_)
  have hE7 := sm_e_trans hE3 hE6
  refine go_s (pc' := 11) rfl rfl rfl rfl ?_
  refine go_sget (pc' := 12) (v := .ref 65) hS5 rfl rfl rfl (by decide) rfl rfl ?_
  refine go_s (pc' := 13) rfl rfl rfl rfl ?_
  refine go_s (pc' := 14) (st' := [.int 0, .int 3, .ref 65]) rfl rfl rfl rfl ?_
  refine go_siast (pc' := 15) (q := 3) hS5 rfl (tr_s hr (a := 65) rfl (by decide)) tbr_inj (Nat.le_of_ble_eq_true rfl) rfl (by decide) (by decide) (hW _ (by decide) (by decide)) rfl (fun h8 hS9 hE10 => ?_)
  have hE11 := sm_e_trans hE7 hE10
  refine go_s (pc' := 16) (st' := [.int 0]) rfl rfl rfl rfl ?_
  refine go_s (pc' := 17) (lo' := [some (.ref 62), some (.int 3), some (.int 0)]) rfl rfl rfl rfl ?_
  refine go_s (pc' := 18) rfl rfl rfl rfl ?_
  refine go_s (pc' := 19) (st' := [.int 4, .int 0]) rfl rfl rfl rfl ?_
  refine go_icmpP (t' := 36) (pc' := 20) rfl rfl rfl (fun (c : 4 ≤ (0 : Int32)) => absurd c (by decide)) (fun _ => ?_)
  refine go_s (pc' := 21) rfl rfl rfl rfl ?_
  refine go_s (pc' := 22) (st' := [.int 4, .ref 62]) rfl rfl rfl rfl ?_
  refine go_s (pc' := 23) rfl rfl rfl rfl ?_
  refine go_s (pc' := 24) (st' := [.int 12, .ref 62]) rfl rfl rfl rfl ?_
  refine go_s (pc' := 25) rfl rfl rfl rfl ?_
  refine go_s (pc' := 26) (st' := [.int 12, .ref 62]) rfl rfl rfl rfl ?_
  change sm (tbr am (13 * ln) 77 5088) _ (uI (uI (uI (jn I K) 0 3 0) 1 3 0) 2 3 0) Y at hS9
  rw [jn_lo (c := 0) (by decide), jn_lo (c := 1) (by decide), jn_lo (c := 2) (by decide)] at hS9
  have hU12 : RU w B R [] true h8 am ln K ((uI (uI (uI I 0 3 0) 1 3 0) 2 3 0), Q, Z) := RU_I (hE11) (I' := (uI (uI (uI I 0 3 0) 1 3 0) 2 3 0)) (fun _ => rfl) (fun _ => rfl) (Nat.le_refl _) hU
  have hA13 : RA w B R [] true h8 ((uI (uI (uI I 0 3 0) 1 3 0) 2 3 0), Q, Z) := RA_u.mpr ⟨_, _, _, _, hS9, hU12⟩
  refine go_callV (pc' := 27) rfl rfl rfl (Nat.le_of_ble_eq_true rfl) rfl (sm_o hS9 rfl) rfl rfl rfl (ra_em (l := 12) (by decide) hA13 (by omega) (by omega)) (fun r h14 q15 => ?_)
  obtain ⟨rfl, hA16⟩ := q15
  change RA w B R [] true h14 (mclr 12 ((uI (uI (uI I 0 3 0) 1 3 0) 2 3 0), Q, Z)) at hA16
  obtain ⟨M17, eM17⟩ : ∃ y : mM, y = (mclr 12 ((uI (uI (uI I 0 3 0) 1 3 0) 2 3 0), Q, Z)) := ⟨_, rfl⟩
  rw [← eM17] at hA16
  obtain ⟨I17, Q17, Z17⟩ := M17
  obtain ⟨K17, Y17, am17, ln17, hS17, hU17⟩ := RA_u.mp hA16
  change sm (tbr am17 (13 * ln17) 77 5088) h14 (jn I17 K17) Y17 at hS17
  obtain ⟨-, hWm17, -, -, hr17, -⟩ := id hU17.1
  have hln17 := RU_ln hU17 (by omega)
  refine go_s (pc' := 28) rfl rfl rfl rfl ?_
  refine go_s (pc' := 29) (st' := [.int 4, .ref 62]) rfl rfl rfl rfl ?_
  refine go_s (pc' := 30) rfl rfl rfl rfl ?_
  refine go_s (pc' := 31) (st' := [.int 0, .ref 62]) rfl rfl rfl rfl ?_
  refine go_s (pc' := 32) rfl rfl rfl rfl ?_
  refine go_s (pc' := 33) (st' := [.int 3, .ref 62]) rfl rfl rfl rfl ?_
  have hU18 : RU w B R [] true h14 am17 ln17 K17 (I17, Q17, Z17) := RU_I (sm_e_refl (tbr am17 (13 * ln17) 77 5088) _) (I' := I17) (fun _ => rfl) (fun _ => rfl) (Nat.le_refl _) hU17
  have hA19 : RA w B R [] true h14 (I17, Q17, Z17) := RA_u.mpr ⟨_, _, _, _, hS17, hU18⟩
  refine go_callV (pc' := 34) rfl rfl rfl (Nat.le_of_ble_eq_true rfl) rfl (sm_o hS17 rfl) rfl rfl rfl (ra_em (l := 3) (by decide) hA19 (by omega) (by omega)) (fun r h20 q21 => ?_)
  obtain ⟨rfl, hA22⟩ := q21
  change RA w B R [] true h20 (mclr 3 (I17, Q17, Z17)) at hA22
  obtain ⟨M23, eM23⟩ : ∃ y : mM, y = (mclr 3 (I17, Q17, Z17)) := ⟨_, rfl⟩
  rw [← eM23] at hA22
  obtain ⟨I23, Q23, Z23⟩ := M23
  obtain ⟨K23, Y23, am23, ln23, hS23, hU23⟩ := RA_u.mp hA22
  change sm (tbr am23 (13 * ln23) 77 5088) h20 (jn I23 K23) Y23 at hS23
  obtain ⟨-, hWm23, -, -, hr23, -⟩ := id hU23.1
  have hln23 := RU_ln hU23 (by omega)
  refine go_s (pc' := 35) (lo' := [some (.ref 62), some (.int 3), some (.int 1)]) rfl rfl rfl rfl ?_
  refine go_s (pc' := 17) rfl rfl rfl rfl ?_
  refine go_s (pc' := 18) rfl rfl rfl rfl ?_
  refine go_s (pc' := 19) (st' := [.int 4, .int 1]) rfl rfl rfl rfl ?_
  refine go_icmpP (t' := 36) (pc' := 20) rfl rfl rfl (fun (c : 4 ≤ (1 : Int32)) => absurd c (by decide)) (fun _ => ?_)
  refine go_s (pc' := 21) rfl rfl rfl rfl ?_
  refine go_s (pc' := 22) (st' := [.int 4, .ref 62]) rfl rfl rfl rfl ?_
  refine go_s (pc' := 23) rfl rfl rfl rfl ?_
  refine go_s (pc' := 24) (st' := [.int 12, .ref 62]) rfl rfl rfl rfl ?_
  refine go_s (pc' := 25) rfl rfl rfl rfl ?_
  refine go_s (pc' := 26) (st' := [.int 13, .ref 62]) rfl rfl rfl rfl ?_
  have hU24 : RU w B R [] true h20 am23 ln23 K23 (I23, Q23, Z23) := RU_I (sm_e_refl (tbr am23 (13 * ln23) 77 5088) _) (I' := I23) (fun _ => rfl) (fun _ => rfl) (Nat.le_refl _) hU23
  have hA25 : RA w B R [] true h20 (I23, Q23, Z23) := RA_u.mpr ⟨_, _, _, _, hS23, hU24⟩
  refine go_callV (pc' := 27) rfl rfl rfl (Nat.le_of_ble_eq_true rfl) rfl (sm_o hS23 rfl) rfl rfl rfl (ra_em (l := 13) (by decide) hA25 (by omega) (by omega)) (fun r h26 q27 => ?_)
  obtain ⟨rfl, hA28⟩ := q27
  change RA w B R [] true h26 (mclr 13 (I23, Q23, Z23)) at hA28
  obtain ⟨M29, eM29⟩ : ∃ y : mM, y = (mclr 13 (I23, Q23, Z23)) := ⟨_, rfl⟩
  rw [← eM29] at hA28
  obtain ⟨I29, Q29, Z29⟩ := M29
  obtain ⟨K29, Y29, am29, ln29, hS29, hU29⟩ := RA_u.mp hA28
  change sm (tbr am29 (13 * ln29) 77 5088) h26 (jn I29 K29) Y29 at hS29
  obtain ⟨-, hWm29, -, -, hr29, -⟩ := id hU29.1
  have hln29 := RU_ln hU29 (by omega)
  refine go_s (pc' := 28) rfl rfl rfl rfl ?_
  refine go_s (pc' := 29) (st' := [.int 4, .ref 62]) rfl rfl rfl rfl ?_
  refine go_s (pc' := 30) rfl rfl rfl rfl ?_
  refine go_s (pc' := 31) (st' := [.int 4, .ref 62]) rfl rfl rfl rfl ?_
  refine go_s (pc' := 32) rfl rfl rfl rfl ?_
  refine go_s (pc' := 33) (st' := [.int 7, .ref 62]) rfl rfl rfl rfl ?_
  have hU30 : RU w B R [] true h26 am29 ln29 K29 (I29, Q29, Z29) := RU_I (sm_e_refl (tbr am29 (13 * ln29) 77 5088) _) (I' := I29) (fun _ => rfl) (fun _ => rfl) (Nat.le_refl _) hU29
  have hA31 : RA w B R [] true h26 (I29, Q29, Z29) := RA_u.mpr ⟨_, _, _, _, hS29, hU30⟩
  refine go_callV (pc' := 34) rfl rfl rfl (Nat.le_of_ble_eq_true rfl) rfl (sm_o hS29 rfl) rfl rfl rfl (ra_em (l := 7) (by decide) hA31 (by omega) (by omega)) (fun r h32 q33 => ?_)
  obtain ⟨rfl, hA34⟩ := q33
  change RA w B R [] true h32 (mclr 7 (I29, Q29, Z29)) at hA34
  obtain ⟨M35, eM35⟩ : ∃ y : mM, y = (mclr 7 (I29, Q29, Z29)) := ⟨_, rfl⟩
  rw [← eM35] at hA34
  obtain ⟨I35, Q35, Z35⟩ := M35
  obtain ⟨K35, Y35, am35, ln35, hS35, hU35⟩ := RA_u.mp hA34
  change sm (tbr am35 (13 * ln35) 77 5088) h32 (jn I35 K35) Y35 at hS35
  obtain ⟨-, hWm35, -, -, hr35, -⟩ := id hU35.1
  have hln35 := RU_ln hU35 (by omega)
  refine go_s (pc' := 35) (lo' := [some (.ref 62), some (.int 3), some (.int 2)]) rfl rfl rfl rfl ?_
  refine go_s (pc' := 17) rfl rfl rfl rfl ?_
  refine go_s (pc' := 18) rfl rfl rfl rfl ?_
  refine go_s (pc' := 19) (st' := [.int 4, .int 2]) rfl rfl rfl rfl ?_
  refine go_icmpP (t' := 36) (pc' := 20) rfl rfl rfl (fun (c : 4 ≤ (2 : Int32)) => absurd c (by decide)) (fun _ => ?_)
  refine go_s (pc' := 21) rfl rfl rfl rfl ?_
  refine go_s (pc' := 22) (st' := [.int 4, .ref 62]) rfl rfl rfl rfl ?_
  refine go_s (pc' := 23) rfl rfl rfl rfl ?_
  refine go_s (pc' := 24) (st' := [.int 12, .ref 62]) rfl rfl rfl rfl ?_
  refine go_s (pc' := 25) rfl rfl rfl rfl ?_
  refine go_s (pc' := 26) (st' := [.int 14, .ref 62]) rfl rfl rfl rfl ?_
  have hU36 : RU w B R [] true h32 am35 ln35 K35 (I35, Q35, Z35) := RU_I (sm_e_refl (tbr am35 (13 * ln35) 77 5088) _) (I' := I35) (fun _ => rfl) (fun _ => rfl) (Nat.le_refl _) hU35
  have hA37 : RA w B R [] true h32 (I35, Q35, Z35) := RA_u.mpr ⟨_, _, _, _, hS35, hU36⟩
  refine go_callV (pc' := 27) rfl rfl rfl (Nat.le_of_ble_eq_true rfl) rfl (sm_o hS35 rfl) rfl rfl rfl (ra_em (l := 14) (by decide) hA37 (by omega) (by omega)) (fun r h38 q39 => ?_)
  obtain ⟨rfl, hA40⟩ := q39
  change RA w B R [] true h38 (mclr 14 (I35, Q35, Z35)) at hA40
  obtain ⟨M41, eM41⟩ : ∃ y : mM, y = (mclr 14 (I35, Q35, Z35)) := ⟨_, rfl⟩
  rw [← eM41] at hA40
  obtain ⟨I41, Q41, Z41⟩ := M41
  obtain ⟨K41, Y41, am41, ln41, hS41, hU41⟩ := RA_u.mp hA40
  change sm (tbr am41 (13 * ln41) 77 5088) h38 (jn I41 K41) Y41 at hS41
  obtain ⟨-, hWm41, -, -, hr41, -⟩ := id hU41.1
  have hln41 := RU_ln hU41 (by omega)
  refine go_s (pc' := 28) rfl rfl rfl rfl ?_
  refine go_s (pc' := 29) (st' := [.int 4, .ref 62]) rfl rfl rfl rfl ?_
  refine go_s (pc' := 30) rfl rfl rfl rfl ?_
  refine go_s (pc' := 31) (st' := [.int 8, .ref 62]) rfl rfl rfl rfl ?_
  refine go_s (pc' := 32) rfl rfl rfl rfl ?_
  refine go_s (pc' := 33) (st' := [.int 11, .ref 62]) rfl rfl rfl rfl ?_
  have hU42 : RU w B R [] true h38 am41 ln41 K41 (I41, Q41, Z41) := RU_I (sm_e_refl (tbr am41 (13 * ln41) 77 5088) _) (I' := I41) (fun _ => rfl) (fun _ => rfl) (Nat.le_refl _) hU41
  have hA43 : RA w B R [] true h38 (I41, Q41, Z41) := RA_u.mpr ⟨_, _, _, _, hS41, hU42⟩
  refine go_callV (pc' := 34) rfl rfl rfl (Nat.le_of_ble_eq_true rfl) rfl (sm_o hS41 rfl) rfl rfl rfl (ra_em (l := 11) (by decide) hA43 (by omega) (by omega)) (fun r h44 q45 => ?_)
  obtain ⟨rfl, hA46⟩ := q45
  change RA w B R [] true h44 (mclr 11 (I41, Q41, Z41)) at hA46
  obtain ⟨M47, eM47⟩ : ∃ y : mM, y = (mclr 11 (I41, Q41, Z41)) := ⟨_, rfl⟩
  rw [← eM47] at hA46
  obtain ⟨I47, Q47, Z47⟩ := M47
  obtain ⟨K47, Y47, am47, ln47, hS47, hU47⟩ := RA_u.mp hA46
  change sm (tbr am47 (13 * ln47) 77 5088) h44 (jn I47 K47) Y47 at hS47
  obtain ⟨-, hWm47, -, -, hr47, -⟩ := id hU47.1
  have hln47 := RU_ln hU47 (by omega)
  refine go_s (pc' := 35) (lo' := [some (.ref 62), some (.int 3), some (.int 3)]) rfl rfl rfl rfl ?_
  refine go_s (pc' := 17) rfl rfl rfl rfl ?_
  refine go_s (pc' := 18) rfl rfl rfl rfl ?_
  refine go_s (pc' := 19) (st' := [.int 4, .int 3]) rfl rfl rfl rfl ?_
  refine go_icmpP (t' := 36) (pc' := 20) rfl rfl rfl (fun (c : 4 ≤ (3 : Int32)) => absurd c (by decide)) (fun _ => ?_)
  refine go_s (pc' := 21) rfl rfl rfl rfl ?_
  refine go_s (pc' := 22) (st' := [.int 4, .ref 62]) rfl rfl rfl rfl ?_
  refine go_s (pc' := 23) rfl rfl rfl rfl ?_
  refine go_s (pc' := 24) (st' := [.int 12, .ref 62]) rfl rfl rfl rfl ?_
  refine go_s (pc' := 25) rfl rfl rfl rfl ?_
  refine go_s (pc' := 26) (st' := [.int 15, .ref 62]) rfl rfl rfl rfl ?_
  have hU48 : RU w B R [] true h44 am47 ln47 K47 (I47, Q47, Z47) := RU_I (sm_e_refl (tbr am47 (13 * ln47) 77 5088) _) (I' := I47) (fun _ => rfl) (fun _ => rfl) (Nat.le_refl _) hU47
  have hA49 : RA w B R [] true h44 (I47, Q47, Z47) := RA_u.mpr ⟨_, _, _, _, hS47, hU48⟩
  refine go_callV (pc' := 27) rfl rfl rfl (Nat.le_of_ble_eq_true rfl) rfl (sm_o hS47 rfl) rfl rfl rfl (ra_em (l := 15) (by decide) hA49 (by omega) (by omega)) (fun r h50 q51 => ?_)
  obtain ⟨rfl, hA52⟩ := q51
  change RA w B R [] true h50 (mclr 15 (I47, Q47, Z47)) at hA52
  obtain ⟨M53, eM53⟩ : ∃ y : mM, y = (mclr 15 (I47, Q47, Z47)) := ⟨_, rfl⟩
  rw [← eM53] at hA52
  obtain ⟨I53, Q53, Z53⟩ := M53
  obtain ⟨K53, Y53, am53, ln53, hS53, hU53⟩ := RA_u.mp hA52
  change sm (tbr am53 (13 * ln53) 77 5088) h50 (jn I53 K53) Y53 at hS53
  obtain ⟨-, hWm53, -, -, hr53, -⟩ := id hU53.1
  have hln53 := RU_ln hU53 (by omega)
  refine go_s (pc' := 28) rfl rfl rfl rfl ?_
  refine go_s (pc' := 29) (st' := [.int 4, .ref 62]) rfl rfl rfl rfl ?_
  refine go_s (pc' := 30) rfl rfl rfl rfl ?_
  refine go_s (pc' := 31) (st' := [.int 12, .ref 62]) rfl rfl rfl rfl ?_
  refine go_s (pc' := 32) rfl rfl rfl rfl ?_
  refine go_s (pc' := 33) (st' := [.int 15, .ref 62]) rfl rfl rfl rfl ?_
  have hU54 : RU w B R [] true h50 am53 ln53 K53 (I53, Q53, Z53) := RU_I (sm_e_refl (tbr am53 (13 * ln53) 77 5088) _) (I' := I53) (fun _ => rfl) (fun _ => rfl) (Nat.le_refl _) hU53
  have hA55 : RA w B R [] true h50 (I53, Q53, Z53) := RA_u.mpr ⟨_, _, _, _, hS53, hU54⟩
  refine go_callV (pc' := 34) rfl rfl rfl (Nat.le_of_ble_eq_true rfl) rfl (sm_o hS53 rfl) rfl rfl rfl (ra_em (l := 15) (by decide) hA55 (by omega) (by omega)) (fun r h56 q57 => ?_)
  obtain ⟨rfl, hA58⟩ := q57
  change RA w B R [] true h56 (mclr 15 (I53, Q53, Z53)) at hA58
  obtain ⟨M59, eM59⟩ : ∃ y : mM, y = (mclr 15 (I53, Q53, Z53)) := ⟨_, rfl⟩
  rw [← eM59] at hA58
  obtain ⟨I59, Q59, Z59⟩ := M59
  obtain ⟨K59, Y59, am59, ln59, hS59, hU59⟩ := RA_u.mp hA58
  change sm (tbr am59 (13 * ln59) 77 5088) h56 (jn I59 K59) Y59 at hS59
  obtain ⟨-, hWm59, -, -, hr59, -⟩ := id hU59.1
  have hln59 := RU_ln hU59 (by omega)
  refine go_s (pc' := 35) (lo' := [some (.ref 62), some (.int 3), some (.int 4)]) rfl rfl rfl rfl ?_
  refine go_s (pc' := 17) rfl rfl rfl rfl ?_
  refine go_s (pc' := 18) rfl rfl rfl rfl ?_
  refine go_s (pc' := 19) (st' := [.int 4, .int 4]) rfl rfl rfl rfl ?_
  refine go_icmpP (t' := 36) (pc' := 20) rfl rfl rfl (fun _ => ?_) (fun (c : ¬ (4 ≤ (4 : Int32))) => absurd (by decide) c)
  refine go_s (pc' := 37) (st' := [.int 0]) rfl rfl rfl rfl ?_
  refine go_s (pc' := 38) (lo' := [some (.ref 62), some (.int 3), some (.int 0)]) rfl rfl rfl rfl ?_
  refine go_s (pc' := 39) rfl rfl rfl rfl ?_
  refine go_s (pc' := 40) (st' := [.int 3, .int 0]) rfl rfl rfl rfl ?_
  refine go_icmpP (t' := 52) (pc' := 41) rfl rfl rfl (fun (c : 3 ≤ (0 : Int32)) => absurd c (by decide)) (fun _ => ?_)
  refine go_s (pc' := 42) rfl rfl rfl rfl ?_
  refine go_sget (pc' := 43) (v := .ref 78) hS59 rfl rfl rfl (by decide) rfl rfl ?_
  refine go_s (pc' := 44) rfl rfl rfl rfl ?_
  refine go_sald (pc' := 45) (q := 0) (v := .int (I59 11 0)) hS59 rfl (tr_s hr59 (a := 78) rfl (by decide)) rfl rfl (by decide) rfl rfl ?_
  refine go_s (pc' := 46) rfl rfl rfl rfl ?_
  refine go_icmpP (t' := 50) (pc' := 47) rfl rfl rfl (fun (c60 : ¬ (I59 11 0) = 3) => ?_) (fun (c60' : ¬ ¬ (I59 11 0) = 3) => ?_)
  · skip
    have ms61 : mstp 0 3 (I59, Q59, Z59) = (I59, Q59, Z59) := if_neg c60
    refine go_s (pc' := 51) (lo' := [some (.ref 62), some (.int 3), some (.int 1)]) rfl rfl rfl rfl ?_
    refine go_s (pc' := 38) rfl rfl rfl rfl ?_
    refine go_s (pc' := 39) rfl rfl rfl rfl ?_
    refine go_s (pc' := 40) (st' := [.int 3, .int 1]) rfl rfl rfl rfl ?_
    refine go_icmpP (t' := 52) (pc' := 41) rfl rfl rfl (fun (c : 3 ≤ (1 : Int32)) => absurd c (by decide)) (fun _ => ?_)
    refine go_s (pc' := 42) rfl rfl rfl rfl ?_
    refine go_sget (pc' := 43) (v := .ref 78) hS59 rfl rfl rfl (by decide) rfl rfl ?_
    refine go_s (pc' := 44) rfl rfl rfl rfl ?_
    refine go_sald (pc' := 45) (q := 1) (v := .int (I59 11 1)) hS59 rfl (tr_s hr59 (a := 78) rfl (by decide)) rfl rfl (by decide) rfl rfl ?_
    refine go_s (pc' := 46) rfl rfl rfl rfl ?_
    refine go_icmpP (t' := 50) (pc' := 47) rfl rfl rfl (fun (c62 : ¬ (I59 11 1) = 3) => ?_) (fun (c62' : ¬ ¬ (I59 11 1) = 3) => ?_)
    · skip
      have ms63 : mstp 1 3 (I59, Q59, Z59) = (I59, Q59, Z59) := if_neg c62
      refine go_s (pc' := 51) (lo' := [some (.ref 62), some (.int 3), some (.int 2)]) rfl rfl rfl rfl ?_
      refine go_s (pc' := 38) rfl rfl rfl rfl ?_
      refine go_s (pc' := 39) rfl rfl rfl rfl ?_
      refine go_s (pc' := 40) (st' := [.int 3, .int 2]) rfl rfl rfl rfl ?_
      refine go_icmpP (t' := 52) (pc' := 41) rfl rfl rfl (fun (c : 3 ≤ (2 : Int32)) => absurd c (by decide)) (fun _ => ?_)
      refine go_s (pc' := 42) rfl rfl rfl rfl ?_
      refine go_sget (pc' := 43) (v := .ref 78) hS59 rfl rfl rfl (by decide) rfl rfl ?_
      refine go_s (pc' := 44) rfl rfl rfl rfl ?_
      refine go_sald (pc' := 45) (q := 2) (v := .int (I59 11 2)) hS59 rfl (tr_s hr59 (a := 78) rfl (by decide)) rfl rfl (by decide) rfl rfl ?_
      refine go_s (pc' := 46) rfl rfl rfl rfl ?_
      refine go_icmpP (t' := 50) (pc' := 47) rfl rfl rfl (fun (c64 : ¬ (I59 11 2) = 3) => ?_) (fun (c64' : ¬ ¬ (I59 11 2) = 3) => ?_)
      · skip
        have ms65 : mstp 2 3 (I59, Q59, Z59) = (I59, Q59, Z59) := if_neg c64
        refine go_s (pc' := 51) (lo' := [some (.ref 62), some (.int 3), some (.int 3)]) rfl rfl rfl rfl ?_
        refine go_s (pc' := 38) rfl rfl rfl rfl ?_
        refine go_s (pc' := 39) rfl rfl rfl rfl ?_
        refine go_s (pc' := 40) (st' := [.int 3, .int 3]) rfl rfl rfl rfl ?_
        refine go_icmpP (t' := 52) (pc' := 41) rfl rfl rfl (fun _ => ?_) (fun (c : ¬ (3 ≤ (3 : Int32))) => absurd (by decide) c)
        refine go_ret rfl rfl ?_
        have hA66 : RA w B R [] true h56 (I59, Q59, Z59) := RA_u.mpr ⟨_, _, _, _, hS59, hU59⟩
        have hcl : mcl2 3 3 (mcl2 3 2 (mcl2 3 1 (mcl2 3 0 ((uI (uI (uI I 0 3 0) 1 3 0) 2 3 0, Q, Z) : mM)))) = (I59, Q59, Z59) := by
          rw [eM59, eM53, eM47, eM41, eM35, eM29, eM23, eM17]
          rfl
        have hms : rfp 3 (I, Q, Z) = (I59, Q59, Z59) := by
          unfold rfp
          rw [show (uI (uI (uI ((I, Q, Z) : mM).1 0 3 0) 1 3 0) 2 3 0, ((I, Q, Z) : mM).2) = ((uI (uI (uI I 0 3 0) 1 3 0) 2 3 0, Q, Z) : mM) from rfl, hcl, ms61, ms63, ms65]
        rw [hms]
        exact ⟨rfl, hA66⟩
      · skip
        have c64 : (I59 11 2) = 3 := Decidable.not_not.mp c64'
        refine go_s (pc' := 48) rfl rfl rfl rfl ?_
        refine go_s (pc' := 49) rfl rfl rfl rfl ?_
        have hU67 : RU w B R [] true h56 am59 ln59 K59 (I59, Q59, Z59) := RU_I (sm_e_refl (tbr am59 (13 * ln59) 77 5088) _) (I' := I59) (fun _ => rfl) (fun _ => rfl) (Nat.le_refl _) hU59
        refine go_callV (pc' := 50) rfl rfl rfl (Nat.le_of_ble_eq_true rfl) rfl (sm_o hS59 rfl) rfl rfl rfl (rt_stops_2 hr59 hS59 hW (by omega)) (fun r h68 q69 => ?_)
        obtain ⟨rfl, hS70, hE71⟩ := q69
        change sm (tbr am59 (13 * ln59) 77 5088) _ (mstI 2 (jn I59 K59)) Y59 at hS70
        rw [mst_jn] at hS70
        have hU72 : RU w B R [] true h68 am59 ln59 K59 ((mstI 2 I59), Q59, Z59) := RU_I hE71 mst_24 mst_25 mst_stn hU67
        have ms73 : mstp 2 3 (I59, Q59, Z59) = ((mstI 2 I59), Q59, Z59) := if_pos c64
        refine go_s (pc' := 51) (lo' := [some (.ref 62), some (.int 3), some (.int 3)]) rfl rfl rfl rfl ?_
        refine go_s (pc' := 38) rfl rfl rfl rfl ?_
        refine go_s (pc' := 39) rfl rfl rfl rfl ?_
        refine go_s (pc' := 40) (st' := [.int 3, .int 3]) rfl rfl rfl rfl ?_
        refine go_icmpP (t' := 52) (pc' := 41) rfl rfl rfl (fun _ => ?_) (fun (c : ¬ (3 ≤ (3 : Int32))) => absurd (by decide) c)
        refine go_ret rfl rfl ?_
        have hA74 : RA w B R [] true h68 ((mstI 2 I59), Q59, Z59) := RA_u.mpr ⟨_, _, _, _, hS70, hU72⟩
        have hcl : mcl2 3 3 (mcl2 3 2 (mcl2 3 1 (mcl2 3 0 ((uI (uI (uI I 0 3 0) 1 3 0) 2 3 0, Q, Z) : mM)))) = (I59, Q59, Z59) := by
          rw [eM59, eM53, eM47, eM41, eM35, eM29, eM23, eM17]
          rfl
        have hms : rfp 3 (I, Q, Z) = ((mstI 2 I59), Q59, Z59) := by
          unfold rfp
          rw [show (uI (uI (uI ((I, Q, Z) : mM).1 0 3 0) 1 3 0) 2 3 0, ((I, Q, Z) : mM).2) = ((uI (uI (uI I 0 3 0) 1 3 0) 2 3 0, Q, Z) : mM) from rfl, hcl, ms61, ms63, ms73]
        rw [hms]
        exact ⟨rfl, hA74⟩
    · skip
      have c62 : (I59 11 1) = 3 := Decidable.not_not.mp c62'
      refine go_s (pc' := 48) rfl rfl rfl rfl ?_
      refine go_s (pc' := 49) rfl rfl rfl rfl ?_
      have hU75 : RU w B R [] true h56 am59 ln59 K59 (I59, Q59, Z59) := RU_I (sm_e_refl (tbr am59 (13 * ln59) 77 5088) _) (I' := I59) (fun _ => rfl) (fun _ => rfl) (Nat.le_refl _) hU59
      refine go_callV (pc' := 50) rfl rfl rfl (Nat.le_of_ble_eq_true rfl) rfl (sm_o hS59 rfl) rfl rfl rfl (rt_stops_1 hr59 hS59 hW (by omega)) (fun r h76 q77 => ?_)
      obtain ⟨rfl, hS78, hE79⟩ := q77
      change sm (tbr am59 (13 * ln59) 77 5088) _ (mstI 1 (jn I59 K59)) Y59 at hS78
      rw [mst_jn] at hS78
      have hU80 : RU w B R [] true h76 am59 ln59 K59 ((mstI 1 I59), Q59, Z59) := RU_I hE79 mst_24 mst_25 mst_stn hU75
      have ms81 : mstp 1 3 (I59, Q59, Z59) = ((mstI 1 I59), Q59, Z59) := if_pos c62
      refine go_s (pc' := 51) (lo' := [some (.ref 62), some (.int 3), some (.int 2)]) rfl rfl rfl rfl ?_
      refine go_s (pc' := 38) rfl rfl rfl rfl ?_
      refine go_s (pc' := 39) rfl rfl rfl rfl ?_
      refine go_s (pc' := 40) (st' := [.int 3, .int 2]) rfl rfl rfl rfl ?_
      refine go_icmpP (t' := 52) (pc' := 41) rfl rfl rfl (fun (c : 3 ≤ (2 : Int32)) => absurd c (by decide)) (fun _ => ?_)
      refine go_s (pc' := 42) rfl rfl rfl rfl ?_
      refine go_sget (pc' := 43) (v := .ref 78) hS78 rfl rfl rfl (by decide) rfl rfl ?_
      refine go_s (pc' := 44) rfl rfl rfl rfl ?_
      refine go_sald (pc' := 45) (q := 2) (v := .int ((mstI 1 I59) 11 2)) hS78 rfl (tr_s hr59 (a := 78) rfl (by decide)) rfl rfl (by decide) rfl rfl ?_
      refine go_s (pc' := 46) rfl rfl rfl rfl ?_
      refine go_icmpP (t' := 50) (pc' := 47) rfl rfl rfl (fun (c82 : ¬ ((mstI 1 I59) 11 2) = 3) => ?_) (fun (c82' : ¬ ¬ ((mstI 1 I59) 11 2) = 3) => ?_)
      · skip
        have ms83 : mstp 2 3 ((mstI 1 I59), Q59, Z59) = ((mstI 1 I59), Q59, Z59) := if_neg c82
        refine go_s (pc' := 51) (lo' := [some (.ref 62), some (.int 3), some (.int 3)]) rfl rfl rfl rfl ?_
        refine go_s (pc' := 38) rfl rfl rfl rfl ?_
        refine go_s (pc' := 39) rfl rfl rfl rfl ?_
        refine go_s (pc' := 40) (st' := [.int 3, .int 3]) rfl rfl rfl rfl ?_
        refine go_icmpP (t' := 52) (pc' := 41) rfl rfl rfl (fun _ => ?_) (fun (c : ¬ (3 ≤ (3 : Int32))) => absurd (by decide) c)
        refine go_ret rfl rfl ?_
        have hA84 : RA w B R [] true h76 ((mstI 1 I59), Q59, Z59) := RA_u.mpr ⟨_, _, _, _, hS78, hU80⟩
        have hcl : mcl2 3 3 (mcl2 3 2 (mcl2 3 1 (mcl2 3 0 ((uI (uI (uI I 0 3 0) 1 3 0) 2 3 0, Q, Z) : mM)))) = (I59, Q59, Z59) := by
          rw [eM59, eM53, eM47, eM41, eM35, eM29, eM23, eM17]
          rfl
        have hms : rfp 3 (I, Q, Z) = ((mstI 1 I59), Q59, Z59) := by
          unfold rfp
          rw [show (uI (uI (uI ((I, Q, Z) : mM).1 0 3 0) 1 3 0) 2 3 0, ((I, Q, Z) : mM).2) = ((uI (uI (uI I 0 3 0) 1 3 0) 2 3 0, Q, Z) : mM) from rfl, hcl, ms61, ms81, ms83]
        rw [hms]
        exact ⟨rfl, hA84⟩
      · skip
        have c82 : ((mstI 1 I59) 11 2) = 3 := Decidable.not_not.mp c82'
        refine go_s (pc' := 48) rfl rfl rfl rfl ?_
        refine go_s (pc' := 49) rfl rfl rfl rfl ?_
        have hU85 : RU w B R [] true h76 am59 ln59 K59 ((mstI 1 I59), Q59, Z59) := RU_I (sm_e_refl (tbr am59 (13 * ln59) 77 5088) _) (I' := (mstI 1 I59)) (fun _ => rfl) (fun _ => rfl) (Nat.le_refl _) hU80
        refine go_callV (pc' := 50) rfl rfl rfl (Nat.le_of_ble_eq_true rfl) rfl (sm_o hS78 rfl) rfl rfl rfl (rt_stops_2 hr59 hS78 hW (by omega)) (fun r h86 q87 => ?_)
        obtain ⟨rfl, hS88, hE89⟩ := q87
        change sm (tbr am59 (13 * ln59) 77 5088) _ (mstI 2 (jn (mstI 1 I59) K59)) Y59 at hS88
        rw [mst_jn] at hS88
        have hU90 : RU w B R [] true h86 am59 ln59 K59 ((mstI 2 (mstI 1 I59)), Q59, Z59) := RU_I hE89 mst_24 mst_25 mst_stn hU85
        have ms91 : mstp 2 3 ((mstI 1 I59), Q59, Z59) = ((mstI 2 (mstI 1 I59)), Q59, Z59) := if_pos c82
        refine go_s (pc' := 51) (lo' := [some (.ref 62), some (.int 3), some (.int 3)]) rfl rfl rfl rfl ?_
        refine go_s (pc' := 38) rfl rfl rfl rfl ?_
        refine go_s (pc' := 39) rfl rfl rfl rfl ?_
        refine go_s (pc' := 40) (st' := [.int 3, .int 3]) rfl rfl rfl rfl ?_
        refine go_icmpP (t' := 52) (pc' := 41) rfl rfl rfl (fun _ => ?_) (fun (c : ¬ (3 ≤ (3 : Int32))) => absurd (by decide) c)
        refine go_ret rfl rfl ?_
        have hA92 : RA w B R [] true h86 ((mstI 2 (mstI 1 I59)), Q59, Z59) := RA_u.mpr ⟨_, _, _, _, hS88, hU90⟩
        have hcl : mcl2 3 3 (mcl2 3 2 (mcl2 3 1 (mcl2 3 0 ((uI (uI (uI I 0 3 0) 1 3 0) 2 3 0, Q, Z) : mM)))) = (I59, Q59, Z59) := by
          rw [eM59, eM53, eM47, eM41, eM35, eM29, eM23, eM17]
          rfl
        have hms : rfp 3 (I, Q, Z) = ((mstI 2 (mstI 1 I59)), Q59, Z59) := by
          unfold rfp
          rw [show (uI (uI (uI ((I, Q, Z) : mM).1 0 3 0) 1 3 0) 2 3 0, ((I, Q, Z) : mM).2) = ((uI (uI (uI I 0 3 0) 1 3 0) 2 3 0, Q, Z) : mM) from rfl, hcl, ms61, ms81, ms91]
        rw [hms]
        exact ⟨rfl, hA92⟩
  · skip
    have c60 : (I59 11 0) = 3 := Decidable.not_not.mp c60'
    refine go_s (pc' := 48) rfl rfl rfl rfl ?_
    refine go_s (pc' := 49) rfl rfl rfl rfl ?_
    have hU93 : RU w B R [] true h56 am59 ln59 K59 (I59, Q59, Z59) := RU_I (sm_e_refl (tbr am59 (13 * ln59) 77 5088) _) (I' := I59) (fun _ => rfl) (fun _ => rfl) (Nat.le_refl _) hU59
    refine go_callV (pc' := 50) rfl rfl rfl (Nat.le_of_ble_eq_true rfl) rfl (sm_o hS59 rfl) rfl rfl rfl (rt_stops_0 hr59 hS59 hW (by omega)) (fun r h94 q95 => ?_)
    obtain ⟨rfl, hS96, hE97⟩ := q95
    change sm (tbr am59 (13 * ln59) 77 5088) _ (mstI 0 (jn I59 K59)) Y59 at hS96
    rw [mst_jn] at hS96
    have hU98 : RU w B R [] true h94 am59 ln59 K59 ((mstI 0 I59), Q59, Z59) := RU_I hE97 mst_24 mst_25 mst_stn hU93
    have ms99 : mstp 0 3 (I59, Q59, Z59) = ((mstI 0 I59), Q59, Z59) := if_pos c60
    refine go_s (pc' := 51) (lo' := [some (.ref 62), some (.int 3), some (.int 1)]) rfl rfl rfl rfl ?_
    refine go_s (pc' := 38) rfl rfl rfl rfl ?_
    refine go_s (pc' := 39) rfl rfl rfl rfl ?_
    refine go_s (pc' := 40) (st' := [.int 3, .int 1]) rfl rfl rfl rfl ?_
    refine go_icmpP (t' := 52) (pc' := 41) rfl rfl rfl (fun (c : 3 ≤ (1 : Int32)) => absurd c (by decide)) (fun _ => ?_)
    refine go_s (pc' := 42) rfl rfl rfl rfl ?_
    refine go_sget (pc' := 43) (v := .ref 78) hS96 rfl rfl rfl (by decide) rfl rfl ?_
    refine go_s (pc' := 44) rfl rfl rfl rfl ?_
    refine go_sald (pc' := 45) (q := 1) (v := .int ((mstI 0 I59) 11 1)) hS96 rfl (tr_s hr59 (a := 78) rfl (by decide)) rfl rfl (by decide) rfl rfl ?_
    refine go_s (pc' := 46) rfl rfl rfl rfl ?_
    refine go_icmpP (t' := 50) (pc' := 47) rfl rfl rfl (fun (c100 : ¬ ((mstI 0 I59) 11 1) = 3) => ?_) (fun (c100' : ¬ ¬ ((mstI 0 I59) 11 1) = 3) => ?_)
    · skip
      have ms101 : mstp 1 3 ((mstI 0 I59), Q59, Z59) = ((mstI 0 I59), Q59, Z59) := if_neg c100
      refine go_s (pc' := 51) (lo' := [some (.ref 62), some (.int 3), some (.int 2)]) rfl rfl rfl rfl ?_
      refine go_s (pc' := 38) rfl rfl rfl rfl ?_
      refine go_s (pc' := 39) rfl rfl rfl rfl ?_
      refine go_s (pc' := 40) (st' := [.int 3, .int 2]) rfl rfl rfl rfl ?_
      refine go_icmpP (t' := 52) (pc' := 41) rfl rfl rfl (fun (c : 3 ≤ (2 : Int32)) => absurd c (by decide)) (fun _ => ?_)
      refine go_s (pc' := 42) rfl rfl rfl rfl ?_
      refine go_sget (pc' := 43) (v := .ref 78) hS96 rfl rfl rfl (by decide) rfl rfl ?_
      refine go_s (pc' := 44) rfl rfl rfl rfl ?_
      refine go_sald (pc' := 45) (q := 2) (v := .int ((mstI 0 I59) 11 2)) hS96 rfl (tr_s hr59 (a := 78) rfl (by decide)) rfl rfl (by decide) rfl rfl ?_
      refine go_s (pc' := 46) rfl rfl rfl rfl ?_
      refine go_icmpP (t' := 50) (pc' := 47) rfl rfl rfl (fun (c102 : ¬ ((mstI 0 I59) 11 2) = 3) => ?_) (fun (c102' : ¬ ¬ ((mstI 0 I59) 11 2) = 3) => ?_)
      · skip
        have ms103 : mstp 2 3 ((mstI 0 I59), Q59, Z59) = ((mstI 0 I59), Q59, Z59) := if_neg c102
        refine go_s (pc' := 51) (lo' := [some (.ref 62), some (.int 3), some (.int 3)]) rfl rfl rfl rfl ?_
        refine go_s (pc' := 38) rfl rfl rfl rfl ?_
        refine go_s (pc' := 39) rfl rfl rfl rfl ?_
        refine go_s (pc' := 40) (st' := [.int 3, .int 3]) rfl rfl rfl rfl ?_
        refine go_icmpP (t' := 52) (pc' := 41) rfl rfl rfl (fun _ => ?_) (fun (c : ¬ (3 ≤ (3 : Int32))) => absurd (by decide) c)
        refine go_ret rfl rfl ?_
        have hA104 : RA w B R [] true h94 ((mstI 0 I59), Q59, Z59) := RA_u.mpr ⟨_, _, _, _, hS96, hU98⟩
        have hcl : mcl2 3 3 (mcl2 3 2 (mcl2 3 1 (mcl2 3 0 ((uI (uI (uI I 0 3 0) 1 3 0) 2 3 0, Q, Z) : mM)))) = (I59, Q59, Z59) := by
          rw [eM59, eM53, eM47, eM41, eM35, eM29, eM23, eM17]
          rfl
        have hms : rfp 3 (I, Q, Z) = ((mstI 0 I59), Q59, Z59) := by
          unfold rfp
          rw [show (uI (uI (uI ((I, Q, Z) : mM).1 0 3 0) 1 3 0) 2 3 0, ((I, Q, Z) : mM).2) = ((uI (uI (uI I 0 3 0) 1 3 0) 2 3 0, Q, Z) : mM) from rfl, hcl, ms99, ms101, ms103]
        rw [hms]
        exact ⟨rfl, hA104⟩
      · skip
        have c102 : ((mstI 0 I59) 11 2) = 3 := Decidable.not_not.mp c102'
        refine go_s (pc' := 48) rfl rfl rfl rfl ?_
        refine go_s (pc' := 49) rfl rfl rfl rfl ?_
        have hU105 : RU w B R [] true h94 am59 ln59 K59 ((mstI 0 I59), Q59, Z59) := RU_I (sm_e_refl (tbr am59 (13 * ln59) 77 5088) _) (I' := (mstI 0 I59)) (fun _ => rfl) (fun _ => rfl) (Nat.le_refl _) hU98
        refine go_callV (pc' := 50) rfl rfl rfl (Nat.le_of_ble_eq_true rfl) rfl (sm_o hS96 rfl) rfl rfl rfl (rt_stops_2 hr59 hS96 hW (by omega)) (fun r h106 q107 => ?_)
        obtain ⟨rfl, hS108, hE109⟩ := q107
        change sm (tbr am59 (13 * ln59) 77 5088) _ (mstI 2 (jn (mstI 0 I59) K59)) Y59 at hS108
        rw [mst_jn] at hS108
        have hU110 : RU w B R [] true h106 am59 ln59 K59 ((mstI 2 (mstI 0 I59)), Q59, Z59) := RU_I hE109 mst_24 mst_25 mst_stn hU105
        have ms111 : mstp 2 3 ((mstI 0 I59), Q59, Z59) = ((mstI 2 (mstI 0 I59)), Q59, Z59) := if_pos c102
        refine go_s (pc' := 51) (lo' := [some (.ref 62), some (.int 3), some (.int 3)]) rfl rfl rfl rfl ?_
        refine go_s (pc' := 38) rfl rfl rfl rfl ?_
        refine go_s (pc' := 39) rfl rfl rfl rfl ?_
        refine go_s (pc' := 40) (st' := [.int 3, .int 3]) rfl rfl rfl rfl ?_
        refine go_icmpP (t' := 52) (pc' := 41) rfl rfl rfl (fun _ => ?_) (fun (c : ¬ (3 ≤ (3 : Int32))) => absurd (by decide) c)
        refine go_ret rfl rfl ?_
        have hA112 : RA w B R [] true h106 ((mstI 2 (mstI 0 I59)), Q59, Z59) := RA_u.mpr ⟨_, _, _, _, hS108, hU110⟩
        have hcl : mcl2 3 3 (mcl2 3 2 (mcl2 3 1 (mcl2 3 0 ((uI (uI (uI I 0 3 0) 1 3 0) 2 3 0, Q, Z) : mM)))) = (I59, Q59, Z59) := by
          rw [eM59, eM53, eM47, eM41, eM35, eM29, eM23, eM17]
          rfl
        have hms : rfp 3 (I, Q, Z) = ((mstI 2 (mstI 0 I59)), Q59, Z59) := by
          unfold rfp
          rw [show (uI (uI (uI ((I, Q, Z) : mM).1 0 3 0) 1 3 0) 2 3 0, ((I, Q, Z) : mM).2) = ((uI (uI (uI I 0 3 0) 1 3 0) 2 3 0, Q, Z) : mM) from rfl, hcl, ms99, ms101, ms111]
        rw [hms]
        exact ⟨rfl, hA112⟩
    · skip
      have c100 : ((mstI 0 I59) 11 1) = 3 := Decidable.not_not.mp c100'
      refine go_s (pc' := 48) rfl rfl rfl rfl ?_
      refine go_s (pc' := 49) rfl rfl rfl rfl ?_
      have hU113 : RU w B R [] true h94 am59 ln59 K59 ((mstI 0 I59), Q59, Z59) := RU_I (sm_e_refl (tbr am59 (13 * ln59) 77 5088) _) (I' := (mstI 0 I59)) (fun _ => rfl) (fun _ => rfl) (Nat.le_refl _) hU98
      refine go_callV (pc' := 50) rfl rfl rfl (Nat.le_of_ble_eq_true rfl) rfl (sm_o hS96 rfl) rfl rfl rfl (rt_stops_1 hr59 hS96 hW (by omega)) (fun r h114 q115 => ?_)
      obtain ⟨rfl, hS116, hE117⟩ := q115
      change sm (tbr am59 (13 * ln59) 77 5088) _ (mstI 1 (jn (mstI 0 I59) K59)) Y59 at hS116
      rw [mst_jn] at hS116
      have hU118 : RU w B R [] true h114 am59 ln59 K59 ((mstI 1 (mstI 0 I59)), Q59, Z59) := RU_I hE117 mst_24 mst_25 mst_stn hU113
      have ms119 : mstp 1 3 ((mstI 0 I59), Q59, Z59) = ((mstI 1 (mstI 0 I59)), Q59, Z59) := if_pos c100
      refine go_s (pc' := 51) (lo' := [some (.ref 62), some (.int 3), some (.int 2)]) rfl rfl rfl rfl ?_
      refine go_s (pc' := 38) rfl rfl rfl rfl ?_
      refine go_s (pc' := 39) rfl rfl rfl rfl ?_
      refine go_s (pc' := 40) (st' := [.int 3, .int 2]) rfl rfl rfl rfl ?_
      refine go_icmpP (t' := 52) (pc' := 41) rfl rfl rfl (fun (c : 3 ≤ (2 : Int32)) => absurd c (by decide)) (fun _ => ?_)
      refine go_s (pc' := 42) rfl rfl rfl rfl ?_
      refine go_sget (pc' := 43) (v := .ref 78) hS116 rfl rfl rfl (by decide) rfl rfl ?_
      refine go_s (pc' := 44) rfl rfl rfl rfl ?_
      refine go_sald (pc' := 45) (q := 2) (v := .int ((mstI 1 (mstI 0 I59)) 11 2)) hS116 rfl (tr_s hr59 (a := 78) rfl (by decide)) rfl rfl (by decide) rfl rfl ?_
      refine go_s (pc' := 46) rfl rfl rfl rfl ?_
      refine go_icmpP (t' := 50) (pc' := 47) rfl rfl rfl (fun (c120 : ¬ ((mstI 1 (mstI 0 I59)) 11 2) = 3) => ?_) (fun (c120' : ¬ ¬ ((mstI 1 (mstI 0 I59)) 11 2) = 3) => ?_)
      · skip
        have ms121 : mstp 2 3 ((mstI 1 (mstI 0 I59)), Q59, Z59) = ((mstI 1 (mstI 0 I59)), Q59, Z59) := if_neg c120
        refine go_s (pc' := 51) (lo' := [some (.ref 62), some (.int 3), some (.int 3)]) rfl rfl rfl rfl ?_
        refine go_s (pc' := 38) rfl rfl rfl rfl ?_
        refine go_s (pc' := 39) rfl rfl rfl rfl ?_
        refine go_s (pc' := 40) (st' := [.int 3, .int 3]) rfl rfl rfl rfl ?_
        refine go_icmpP (t' := 52) (pc' := 41) rfl rfl rfl (fun _ => ?_) (fun (c : ¬ (3 ≤ (3 : Int32))) => absurd (by decide) c)
        refine go_ret rfl rfl ?_
        have hA122 : RA w B R [] true h114 ((mstI 1 (mstI 0 I59)), Q59, Z59) := RA_u.mpr ⟨_, _, _, _, hS116, hU118⟩
        have hcl : mcl2 3 3 (mcl2 3 2 (mcl2 3 1 (mcl2 3 0 ((uI (uI (uI I 0 3 0) 1 3 0) 2 3 0, Q, Z) : mM)))) = (I59, Q59, Z59) := by
          rw [eM59, eM53, eM47, eM41, eM35, eM29, eM23, eM17]
          rfl
        have hms : rfp 3 (I, Q, Z) = ((mstI 1 (mstI 0 I59)), Q59, Z59) := by
          unfold rfp
          rw [show (uI (uI (uI ((I, Q, Z) : mM).1 0 3 0) 1 3 0) 2 3 0, ((I, Q, Z) : mM).2) = ((uI (uI (uI I 0 3 0) 1 3 0) 2 3 0, Q, Z) : mM) from rfl, hcl, ms99, ms119, ms121]
        rw [hms]
        exact ⟨rfl, hA122⟩
      · skip
        have c120 : ((mstI 1 (mstI 0 I59)) 11 2) = 3 := Decidable.not_not.mp c120'
        refine go_s (pc' := 48) rfl rfl rfl rfl ?_
        refine go_s (pc' := 49) rfl rfl rfl rfl ?_
        have hU123 : RU w B R [] true h114 am59 ln59 K59 ((mstI 1 (mstI 0 I59)), Q59, Z59) := RU_I (sm_e_refl (tbr am59 (13 * ln59) 77 5088) _) (I' := (mstI 1 (mstI 0 I59))) (fun _ => rfl) (fun _ => rfl) (Nat.le_refl _) hU118
        refine go_callV (pc' := 50) rfl rfl rfl (Nat.le_of_ble_eq_true rfl) rfl (sm_o hS116 rfl) rfl rfl rfl (rt_stops_2 hr59 hS116 hW (by omega)) (fun r h124 q125 => ?_)
        obtain ⟨rfl, hS126, hE127⟩ := q125
        change sm (tbr am59 (13 * ln59) 77 5088) _ (mstI 2 (jn (mstI 1 (mstI 0 I59)) K59)) Y59 at hS126
        rw [mst_jn] at hS126
        have hU128 : RU w B R [] true h124 am59 ln59 K59 ((mstI 2 (mstI 1 (mstI 0 I59))), Q59, Z59) := RU_I hE127 mst_24 mst_25 mst_stn hU123
        have ms129 : mstp 2 3 ((mstI 1 (mstI 0 I59)), Q59, Z59) = ((mstI 2 (mstI 1 (mstI 0 I59))), Q59, Z59) := if_pos c120
        refine go_s (pc' := 51) (lo' := [some (.ref 62), some (.int 3), some (.int 3)]) rfl rfl rfl rfl ?_
        refine go_s (pc' := 38) rfl rfl rfl rfl ?_
        refine go_s (pc' := 39) rfl rfl rfl rfl ?_
        refine go_s (pc' := 40) (st' := [.int 3, .int 3]) rfl rfl rfl rfl ?_
        refine go_icmpP (t' := 52) (pc' := 41) rfl rfl rfl (fun _ => ?_) (fun (c : ¬ (3 ≤ (3 : Int32))) => absurd (by decide) c)
        refine go_ret rfl rfl ?_
        have hA130 : RA w B R [] true h124 ((mstI 2 (mstI 1 (mstI 0 I59))), Q59, Z59) := RA_u.mpr ⟨_, _, _, _, hS126, hU128⟩
        have hcl : mcl2 3 3 (mcl2 3 2 (mcl2 3 1 (mcl2 3 0 ((uI (uI (uI I 0 3 0) 1 3 0) 2 3 0, Q, Z) : mM)))) = (I59, Q59, Z59) := by
          rw [eM59, eM53, eM47, eM41, eM35, eM29, eM23, eM17]
          rfl
        have hms : rfp 3 (I, Q, Z) = ((mstI 2 (mstI 1 (mstI 0 I59))), Q59, Z59) := by
          unfold rfp
          rw [show (uI (uI (uI ((I, Q, Z) : mM).1 0 3 0) 1 3 0) 2 3 0, ((I, Q, Z) : mM).2) = ((uI (uI (uI I 0 3 0) 1 3 0) 2 3 0, Q, Z) : mM) from rfl, hcl, ms99, ms119, ms129]
        rw [hms]
        exact ⟨rfl, hA130⟩
