/-! a word, a request, a reply, a state arrives -/
theorem WD_of {X l f p k : Nat} {lost : Bool} {m : mg} {q : List mg} {M : mM} (hX : X + 60 < 2 ^ 28) (k0 : INV X M) (hD : KD M.1) (hf : f < 4) (hp : p < 4) (el : l = 4 * f + p) (hl : l < 16) (hq : M.2.1 l = m :: q) (hn : ¬ m.1 1 ≤ M.1 10 l) (hk : k < 3) (h5 : m.1 5 = nI k) (h0 : m.1 0 = 5) {N : mM} (eN : N = mar2 l (m.1 1) (mar1 lost l M)) (c : m.1 6 = N.1 15 k) : lv N.1 k = true ∧ N.1 11 k = nI p ∧ (∀ i y, ¬ US N.1 N.2.1 k i y) ∧ (N.1 16 k = 1 → MID (X + 1) (rgo k N)) := by
  obtain ⟨kN, hUS, hUW⟩ := INV_m2 (lost := lost) (by omega) k0 hl hq
  rw [← eN] at kN hUS hUW
  obtain ⟨-, fw, fl⟩ := fresh_US k0 hl hq hn hk h5
  obtain ⟨elb, h40, hn1⟩ := fl h0
  obtain ⟨f1, f2, f3, f4, f5⟩ := mar_f (l := l) (lost := lost) (M := M)
  have fN : ∀ c, c ≠ 10 → c ≠ 24 → c ≠ 25 → N.1 c = M.1 c := fun c h1 h2 h3 => by
    rw [eN]
    show uI (mar1 lost l M).1 10 l (m.1 1) c = _
    rw [uI_f h1, f1 c h2 h3]
  have hZ : N.2.2 = M.2.2 := by rw [eN]; exact f3
  have e11 := fN 11 (by decide) (by decide) (by decide)
  have dN : KD N.1 := KD_c (fN 1 (by decide) (by decide) (by decide)) e11 (fN 12 (by decide) (by decide) (by decide)) (fN 13 (by decide) (by decide) (by decide)) hD
  obtain ⟨p1, p2, p3, p4, p5, p6, p7⟩ := prk_n hk (k0.1.2.2.1 k hk).1 hn1
  have hfp : ohn M.1 k = f ∧ pn M.1 k = p := by
    unfold lb at elb
    omega
  have hne : ¬ M.2.1 l = [] := by rw [hq]; exact List.cons_ne_nil _ _
  obtain ⟨v1, v2, v3⟩ := (k0.1.2.2.2.2.2.1 l hl).1 hne
  rw [el, show (4 * f + p) / 4 = f by omega] at v1
  rw [el, show (4 * f + p) % 4 = p by omega] at v2
  have e0 := fN 0 (by decide) (by decide) (by decide)
  have u1 : N.1 0 f = 1 := by rw [e0]; exact v1
  have u2 : N.1 0 p = 1 := by rw [e0]; exact v2
  have epn : pn N.1 k = p := (pn_c e11).trans hfp.2
  have eoh : ohn N.1 k = f := (ohn_c e11).trans hfp.1
  have h11 : N.1 11 k = nI p := by rw [e11, p4, hfp.2]
  have hnN : ¬ N.1 11 k = -1 := by rw [e11]; exact hn1
  have hlv : lv N.1 k = true := by
    unfold lv
    rw [epn, u2]
    simp [hnN]
  have u0 := fw h0 (by rw [c, fN 15 (by decide) (by decide) (by decide)])
  have hns : ∀ i y, ¬ US N.1 N.2.1 k i y := fun i y u => by
    obtain ⟨i', w1, -⟩ := hUS k hk i y u
    exact ((k0.1.2.2.2.2.2.2.2.1 k hk).2.2 i' y w1).2.2 0 m u0
  obtain ⟨a1, a2, a3, a4, a5, a6, a7, a8⟩ := kN.1.2.2.1 k hk
  refine ⟨hlv, h11, hns, fun c16 => ?_⟩
  obtain ⟨b12, -⟩ := a6 c16
  have b13 := (a5 b12).1
  by_cases e : k = 0
  · subst e
    have hq' : leq (N.2.2 (rwo N.1 0)) (N.2.2 (rwi N.1 0)) := by
      rw [hZ, rwo_c e11, rwi_c e11]
      refine (k0.1.2.2.2.2.2.2.2.2.2.1.2 (Or.inl ?_)).2 0 m u0
      rw [← fN 16 (by decide) (by decide) (by decide)]
      exact c16
    obtain ⟨g1, g2⟩ := MID_g0 kN.1 hlv c16 hns hq'
    have eg : rgo 0 N = (uI N.1 16 0 2, N.2) := if_pos rfl
    rw [eg]
    exact MID_X (by omega) g1
  · obtain ⟨t, rfl⟩ : ∃ t, k = 1 + t := ⟨k - 1, by omega⟩
    have ht : t < 2 := by omega
    obtain ⟨q1, q2, q3, q4⟩ := kN.1.2.2.2.1 t ht hlv
    have tb : TB (N.2.2 (rwi N.1 (1 + t))) := kN.1.2.2.2.2.2.2.1.2.2.1 _ (rwi_g ht).1 (rwi_g ht).2
    have hsf : SF N (rgo (1 + t) N) ∧ MID (X + 1) (rgo (1 + t) N) ∧ ∀ c, c = 0 ∨ c = 1 ∨ c = 2 ∨ c = 11 ∨ c = 12 ∨ c = 13 → (rgo (1 + t) N).1 c = N.1 c := by
      have hv14 := a3
      have tm : ∀ v, (v = 0 ∨ v = 2) → (v = 2 → row1 N (1 + t) 1 = 1) → (v = 0 → row1 N (1 + t) 1 = 0) → MID X (uI N.1 16 (1 + t) v, N.2) := fun v b1 b2 b3 => by
        have := MID_tm (v14 := N.1 14 (1 + t)) (v16 := v) (s' := N.2.2 (rwi N.1 (1 + t))) ht kN.1 hlv tb rfl hv14 b1 (fun i y u => absurd u (hns i y)) b2 b3
        rw [uI_id rfl, uZ_id] at this
        exact this
      have sf : ∀ v, SF N (uI N.1 16 (1 + t) v, N.2) := fun v => ⟨fun c _ _ _ _ _ _ _ _ h9 _ => uI_f h9, rfl, uI_j (by omega), rfl⟩
      unfold rgo
      rw [if_neg e, show 1 + t - 1 = t by omega]
      by_cases c1 : row1 N (1 + t) 1 = 1
      · rw [if_pos c1]
        have b := tm 2 (Or.inr rfl) (fun _ => c1) (fun z => absurd z (by decide))
        refine ⟨SF_trans (sf 2) sr_F, MID_sr ht b hlv, fun c hc => ?_⟩
        rw [(rsr_F (by omega) (by omega) (by omega)).1]
        exact uI_f (by omega)
      · rw [if_neg c1]
        have b := tm 0 (Or.inl rfl) (fun z => absurd z (by decide)) (fun _ => b01_n tb.1 c1)
        refine ⟨SF_trans (sf 0) (sh_F (N := (uI N.1 16 (1 + t) 0, N.2))), MID_X (Nat.le_succ X) (MID_sh (M := (uI N.1 16 (1 + t) 0, N.2)) (fun c _ h2 h3 => mshw_I h2 h3) b), fun c hc => ?_⟩
        unfold rshw
        simp only []
        rw [mshw_I (by omega) (by omega), uI_f (by omega)]
    exact hsf.2.1
theorem RU_I2 {w : Nat → Bool} {B R : Nat} {H : List (Nat × mg)} {hb : Bool} {h : am_Hp} {am ln : Nat} {K I : sm_I} {Q : mQ} {Z : mZ} {h2 : am_Hp} {I' : sm_I} {tb : sm_T} (e : sm_e tb h h2) (h4 : ∀ l, I' 24 l = I 24 l) (h5 : ∀ l, I' 25 l = I 25 l) (hs : stn I' ≤ stn I + 1) (k : RU w B R H hb h am ln K (I, Q, Z)) : RU w B (R + 2) H hb h2 am ln K (I', Q, Z) := by
  obtain ⟨k1, k2, L, F, G, o, ro, rm, sr, a1, a2, a3⟩ := k
  exact ⟨HB_e e k1, k2, L, F, G, o, ro, rm, sr, RP_I (fun l _ => h4 l) (fun l _ => h5 l) a1, by have z : rm + 2 * stn I ≤ R := a2; show rm + 2 * stn I' ≤ R + 2; omega, a3⟩
theorem mrw_u {I : sm_I} {n : Nat} {q : Nat → Int32} {v0 v1 v2 v3 v4 v5 v6 : Int32} (h0 : q 0 = v0) (h1 : q 1 = v1) (h2 : q 2 = v2) (h3 : q 3 = v3) (h4 : q 4 = v4) (h5 : q 5 = v5) (h6 : q 6 = v6) : uI (uI (uI (uI (uI (uI (uI (uI I 20 (7 * n) v0) 20 (7 * n + 1 + 0) v1) 20 (7 * n + 1 + 1) v2) 20 (7 * n + 1 + 2) v3) 20 (7 * n + 1 + 3) v4) 20 (7 * n + 1 + 4) v5) 20 (7 * n + 1 + 5) v6) 21 0 (nI (n + 1)) = mrw I n q := by
  funext c j
  simp only [uI, mrw]
  by_cases e1 : c = 20 ∧ 7 * n ≤ j ∧ j < 7 * n + 7
  · rw [if_pos e1]
    obtain ⟨rfl, e2, e3⟩ := e1
    obtain ⟨i, rfl⟩ : ∃ i, j = 7 * n + i := ⟨j - 7 * n, by omega⟩
    rw [show 7 * n + i - 7 * n = i by omega]
    obtain rfl | rfl | rfl | rfl | rfl | rfl | rfl : i = 0 ∨ i = 1 ∨ i = 2 ∨ i = 3 ∨ i = 4 ∨ i = 5 ∨ i = 6 := by omega
    · rw [if_neg (by omega), if_neg (by omega), if_neg (by omega), if_neg (by omega), if_neg (by omega), if_neg (by omega), if_neg (by omega), if_pos ⟨rfl, by omega⟩, h0]
    · rw [if_neg (by omega), if_neg (by omega), if_neg (by omega), if_neg (by omega), if_neg (by omega), if_neg (by omega), if_pos ⟨rfl, by omega⟩, h1]
    · rw [if_neg (by omega), if_neg (by omega), if_neg (by omega), if_neg (by omega), if_neg (by omega), if_pos ⟨rfl, by omega⟩, h2]
    · rw [if_neg (by omega), if_neg (by omega), if_neg (by omega), if_neg (by omega), if_pos ⟨rfl, by omega⟩, h3]
    · rw [if_neg (by omega), if_neg (by omega), if_neg (by omega), if_pos ⟨rfl, by omega⟩, h4]
    · rw [if_neg (by omega), if_neg (by omega), if_pos ⟨rfl, by omega⟩, h5]
    · rw [if_neg (by omega), if_pos ⟨rfl, by omega⟩, h6]
  · rw [if_neg e1]
    by_cases e2 : c = 21 ∧ j = 0
    · rw [if_pos e2, if_pos e2]
    · rw [if_neg e2, if_neg e2, if_neg (by omega), if_neg (by omega), if_neg (by omega), if_neg (by omega), if_neg (by omega), if_neg (by omega), if_neg (by omega)]
theorem RO_h {w : Nat → Bool} {B R : Nat} {H : List (Nat × mg)} {hb : Bool} {h : am_Hp} {am ln : Nat} {K I : sm_I} {Q : mQ} {Z : mZ} {l x y : Nat} {kd n wh : Int32} {m : mg} (k : RO w B R H hb h am ln K I Q Z l x kd n wh) (hy : (y, m) ∈ H) : y < ln ∧ ∀ i, i < mwn (m.1 0) → K 50 (13 * y + 6 + i) = m.1 (6 + i) := by
  obtain ⟨-, -, ⟨L, F, G, o, ro, rm, sr, T, -, ⟨⟨-, p2, -⟩, -, -, -, -, p6, -⟩, -⟩, -⟩ := k
  obtain ⟨q1, q2, ⟨s1, s2, s3, s4, s5, s6⟩, -⟩ := p6 y m hy
  exact ⟨by omega, s4⟩
theorem stn_n {I : sm_I} {n : Nat} (e : I 21 0 = nI n) (hn : n ≤ 8) : stn I = n := by
  unfold stn
  rw [e]
  exact nI_clamp (by omega)
theorem ra_bd_0 {w : Nat → Bool} {d B R : Nat} {x : Nat} {m : mg} {hb : Bool} {h : am_Hp} {I : sm_I} {Q : mQ} {Z : mZ} (hA : RA w B R [(x, m)] hb h (I, Q, Z)) (hR : R + 0 < 40000) (e5 : m.1 5 = 0) (hp0 : prk I 0) (hn0 : ¬ I 11 0 = -1) (hd : 2 ≤ d) : am_Ev (am_prog w) d 181 [.ref 62, .int 0, .int (m.1 6), .int (m.1 7)] h (fun r h' => r = some (.int (b2i (mbd (row1 (I, Q, Z) 0) (fun i => m.1 (5 + i))))) ∧ h' = h) := by
  obtain ⟨K, Y, am, ln, hS, hU⟩ := RA_u.mp hA
  change sm (tbr am (13 * ln) 77 5088) h (jn I K) Y at hS
  obtain ⟨hW, hWm, -, -, hr, -⟩ := id hU.1
  have hln := RU_ln hU (by omega)
  obtain ⟨d, rfl⟩ : ∃ e, d = e + 1 := ⟨d - 1, by omega⟩
  refine ev_go rfl (Nat.le_of_ble_eq_true rfl) rfl ?_
  rcases hp0 with e1 | e1 | e1
  · skip
    exact absurd e1 hn0
  · skip
    refine go_s (pc' := 1) rfl rfl rfl rfl ?_
    refine go_s (pc' := 2) (st' := [.int 0, .ref 62]) rfl rfl rfl rfl ?_
    refine go_callV (pc' := 3) rfl rfl rfl (Nat.le_of_ble_eq_true rfl) rfl (sm_o hS rfl) rfl rfl rfl (rt_at_0 hr hS (Or.inr (Or.inl e1)) (fun z => absurd (e1.symm.trans z) (by decide)) (by omega)) (fun r h2 q3 => ?_)
    obtain ⟨rfl, rfl⟩ := q3
    rw [show rwi (jn I K) 0 = 0 by unfold rwi pn; rw [show (jn I K) 11 0 = 0 from e1]; rfl]
    show am_Go _ _ _ _ 3 _ [.int 0] _ _
    refine go_s (pc' := 4) (lo' := [some (.ref 62), some (.int 0), some (.int (m.1 6)), some (.int (m.1 7)), some (.int 0)]) rfl rfl rfl rfl ?_
    refine go_s (pc' := 5) rfl rfl rfl rfl ?_
    refine go_sget (pc' := 6) (v := .ref 77) hS rfl rfl rfl (by decide) rfl rfl ?_
    refine go_s (pc' := 7) rfl rfl rfl rfl ?_
    refine go_s (pc' := 8) (st' := [.int 3, .int 0, .ref 77]) rfl rfl rfl rfl ?_
    refine go_s (pc' := 9) (st' := [.int 3, .ref 77]) rfl rfl rfl rfl ?_
    refine go_sald (pc' := 10) (q := 3) (v := .int ((Z 0).1 3)) hS rfl (tr_as hr (by omega)) rfl rfl (by decide) (congrArg Value.int ((RR_row hU.2.1 (i := 0) (by decide)).1.1 3 (by decide) (by decide) (by decide))) rfl ?_
    refine go_s (pc' := 11) (st' := [.int 1, .int ((Z 0).1 3)]) rfl rfl rfl rfl ?_
    refine go_icmpP (t' := 42) (pc' := 12) rfl rfl rfl (fun (c4 : ¬ ((Z 0).1 3) = 1) => ?_) (fun (c4' : ¬ ¬ ((Z 0).1 3) = 1) => ?_)
    · skip
      refine go_s (pc' := 43) (st' := [.int 0]) rfl rfl rfl rfl ?_
      refine go_ret rfl rfl ?_
      have hms : mbd (row1 (I, Q, Z) 0) (fun i => m.1 (5 + i)) = false := by
        rw [show row1 (I, Q, Z) 0 = (Z 0).1 from row1_l (v := 0) e1 (by decide)]
        exact decide_eq_false (fun z => c4 z.1)
      rw [hms]
      exact ⟨rfl, rfl⟩
    · skip
      have c4 : ((Z 0).1 3) = 1 := Decidable.not_not.mp c4'
      refine go_s (pc' := 13) rfl rfl rfl rfl ?_
      refine go_sget (pc' := 14) (v := .ref 77) hS rfl rfl rfl (by decide) rfl rfl ?_
      refine go_s (pc' := 15) rfl rfl rfl rfl ?_
      refine go_s (pc' := 16) (st' := [.int 4, .int 0, .ref 77]) rfl rfl rfl rfl ?_
      refine go_s (pc' := 17) (st' := [.int 4, .ref 77]) rfl rfl rfl rfl ?_
      refine go_sald (pc' := 18) (q := 4) (v := .int ((Z 0).1 4)) hS rfl (tr_as hr (by omega)) rfl rfl (by decide) (congrArg Value.int ((RR_row hU.2.1 (i := 0) (by decide)).1.1 4 (by decide) (by decide) (by decide))) rfl ?_
      refine go_s (pc' := 19) rfl rfl rfl rfl ?_
      refine go_icmpP (t' := 42) (pc' := 20) rfl rfl rfl (fun (c5 : ¬ ((Z 0).1 4) = 0) => ?_) (fun (c5' : ¬ ¬ ((Z 0).1 4) = 0) => ?_)
      · skip
        refine go_s (pc' := 43) (st' := [.int 0]) rfl rfl rfl rfl ?_
        refine go_ret rfl rfl ?_
        have hms : mbd (row1 (I, Q, Z) 0) (fun i => m.1 (5 + i)) = false := by
          rw [show row1 (I, Q, Z) 0 = (Z 0).1 from row1_l (v := 0) e1 (by decide)]
          exact decide_eq_false (fun z => c5 (z.2.1.symm.trans e5))
        rw [hms]
        exact ⟨rfl, rfl⟩
      · skip
        have c5 : ((Z 0).1 4) = 0 := Decidable.not_not.mp c5'
        refine go_s (pc' := 21) rfl rfl rfl rfl ?_
        refine go_sget (pc' := 22) (v := .ref 77) hS rfl rfl rfl (by decide) rfl rfl ?_
        refine go_s (pc' := 23) rfl rfl rfl rfl ?_
        refine go_s (pc' := 24) (st' := [.int 6, .int 0, .ref 77]) rfl rfl rfl rfl ?_
        refine go_s (pc' := 25) (st' := [.int 6, .ref 77]) rfl rfl rfl rfl ?_
        refine go_s (pc' := 26) rfl rfl rfl rfl ?_
        refine go_s (pc' := 27) (st' := [.int 6, .ref 77]) rfl rfl rfl rfl ?_
        refine go_sald (pc' := 28) (q := 6) (v := .int ((Z 0).1 6)) hS rfl (tr_as hr (by omega)) rfl rfl (by decide) (congrArg Value.int ((RR_row hU.2.1 (i := 0) (by decide)).1.1 6 (by decide) (by decide) (by decide))) rfl ?_
        refine go_s (pc' := 29) rfl rfl rfl rfl ?_
        refine go_icmpP (t' := 42) (pc' := 30) rfl rfl rfl (fun (c6 : ¬ ((Z 0).1 6) = (m.1 6)) => ?_) (fun (c6' : ¬ ¬ ((Z 0).1 6) = (m.1 6)) => ?_)
        · skip
          refine go_s (pc' := 43) (st' := [.int 0]) rfl rfl rfl rfl ?_
          refine go_ret rfl rfl ?_
          have hms : mbd (row1 (I, Q, Z) 0) (fun i => m.1 (5 + i)) = false := by
            rw [show row1 (I, Q, Z) 0 = (Z 0).1 from row1_l (v := 0) e1 (by decide)]
            exact decide_eq_false (fun z => by have y := z.2.2.1; rw [c5] at y; exact c6 y.symm)
          rw [hms]
          exact ⟨rfl, rfl⟩
        · skip
          have c6 : ((Z 0).1 6) = (m.1 6) := Decidable.not_not.mp c6'
          refine go_s (pc' := 31) rfl rfl rfl rfl ?_
          refine go_sget (pc' := 32) (v := .ref 77) hS rfl rfl rfl (by decide) rfl rfl ?_
          refine go_s (pc' := 33) rfl rfl rfl rfl ?_
          refine go_s (pc' := 34) (st' := [.int 8, .int 0, .ref 77]) rfl rfl rfl rfl ?_
          refine go_s (pc' := 35) (st' := [.int 8, .ref 77]) rfl rfl rfl rfl ?_
          refine go_s (pc' := 36) rfl rfl rfl rfl ?_
          refine go_s (pc' := 37) (st' := [.int 8, .ref 77]) rfl rfl rfl rfl ?_
          refine go_sald (pc' := 38) (q := 8) (v := .int ((Z 0).1 8)) hS rfl (tr_as hr (by omega)) rfl rfl (by decide) (congrArg Value.int ((RR_row hU.2.1 (i := 0) (by decide)).1.1 8 (by decide) (by decide) (by decide))) rfl ?_
          refine go_s (pc' := 39) rfl rfl rfl rfl ?_
          refine go_icmpP (t' := 42) (pc' := 40) rfl rfl rfl (fun (c7 : ¬ ((Z 0).1 8) = (m.1 7)) => ?_) (fun (c7' : ¬ ¬ ((Z 0).1 8) = (m.1 7)) => ?_)
          · skip
            refine go_s (pc' := 43) (st' := [.int 0]) rfl rfl rfl rfl ?_
            refine go_ret rfl rfl ?_
            have hms : mbd (row1 (I, Q, Z) 0) (fun i => m.1 (5 + i)) = false := by
              rw [show row1 (I, Q, Z) 0 = (Z 0).1 from row1_l (v := 0) e1 (by decide)]
              exact decide_eq_false (fun z => by have y := z.2.2.2; rw [c5] at y; exact c7 y.symm)
            rw [hms]
            exact ⟨rfl, rfl⟩
          · skip
            have c7 : ((Z 0).1 8) = (m.1 7) := Decidable.not_not.mp c7'
            refine go_s (pc' := 41) (st' := [.int 1]) rfl rfl rfl rfl ?_
            refine go_s (pc' := 43) rfl rfl rfl rfl ?_
            refine go_ret rfl rfl ?_
            have hms : mbd (row1 (I, Q, Z) 0) (fun i => m.1 (5 + i)) = true := by
              rw [show row1 (I, Q, Z) 0 = (Z 0).1 from row1_l (v := 0) e1 (by decide)]
              exact decide_eq_true ⟨c4, e5.trans c5.symm, by rw [c5]; exact c6.symm, by rw [c5]; exact c7.symm⟩
            rw [hms]
            exact ⟨rfl, rfl⟩
  · skip
    refine go_s (pc' := 1) rfl rfl rfl rfl ?_
    refine go_s (pc' := 2) (st' := [.int 0, .ref 62]) rfl rfl rfl rfl ?_
    refine go_callV (pc' := 3) rfl rfl rfl (Nat.le_of_ble_eq_true rfl) rfl (sm_o hS rfl) rfl rfl rfl (rt_at_0 hr hS (Or.inr (Or.inr e1)) (fun z => absurd (e1.symm.trans z) (by decide)) (by omega)) (fun r h8 q9 => ?_)
    obtain ⟨rfl, rfl⟩ := q9
    rw [show rwi (jn I K) 0 = 1 by unfold rwi pn; rw [show (jn I K) 11 0 = 1 from e1]; rfl]
    show am_Go _ _ _ _ 3 _ [.int 424] _ _
    refine go_s (pc' := 4) (lo' := [some (.ref 62), some (.int 0), some (.int (m.1 6)), some (.int (m.1 7)), some (.int 424)]) rfl rfl rfl rfl ?_
    refine go_s (pc' := 5) rfl rfl rfl rfl ?_
    refine go_sget (pc' := 6) (v := .ref 77) hS rfl rfl rfl (by decide) rfl rfl ?_
    refine go_s (pc' := 7) rfl rfl rfl rfl ?_
    refine go_s (pc' := 8) (st' := [.int 3, .int 424, .ref 77]) rfl rfl rfl rfl ?_
    refine go_s (pc' := 9) (st' := [.int 427, .ref 77]) rfl rfl rfl rfl ?_
    refine go_sald (pc' := 10) (q := 427) (v := .int ((Z 1).1 3)) hS rfl (tr_as hr (by omega)) rfl rfl (by decide) (congrArg Value.int ((RR_row hU.2.1 (i := 1) (by decide)).1.1 3 (by decide) (by decide) (by decide))) rfl ?_
    refine go_s (pc' := 11) (st' := [.int 1, .int ((Z 1).1 3)]) rfl rfl rfl rfl ?_
    refine go_icmpP (t' := 42) (pc' := 12) rfl rfl rfl (fun (c10 : ¬ ((Z 1).1 3) = 1) => ?_) (fun (c10' : ¬ ¬ ((Z 1).1 3) = 1) => ?_)
    · skip
      refine go_s (pc' := 43) (st' := [.int 0]) rfl rfl rfl rfl ?_
      refine go_ret rfl rfl ?_
      have hms : mbd (row1 (I, Q, Z) 0) (fun i => m.1 (5 + i)) = false := by
        rw [show row1 (I, Q, Z) 0 = (Z 1).1 from row1_l (v := 1) e1 (by decide)]
        exact decide_eq_false (fun z => c10 z.1)
      rw [hms]
      exact ⟨rfl, rfl⟩
    · skip
      have c10 : ((Z 1).1 3) = 1 := Decidable.not_not.mp c10'
      refine go_s (pc' := 13) rfl rfl rfl rfl ?_
      refine go_sget (pc' := 14) (v := .ref 77) hS rfl rfl rfl (by decide) rfl rfl ?_
      refine go_s (pc' := 15) rfl rfl rfl rfl ?_
      refine go_s (pc' := 16) (st' := [.int 4, .int 424, .ref 77]) rfl rfl rfl rfl ?_
      refine go_s (pc' := 17) (st' := [.int 428, .ref 77]) rfl rfl rfl rfl ?_
      refine go_sald (pc' := 18) (q := 428) (v := .int ((Z 1).1 4)) hS rfl (tr_as hr (by omega)) rfl rfl (by decide) (congrArg Value.int ((RR_row hU.2.1 (i := 1) (by decide)).1.1 4 (by decide) (by decide) (by decide))) rfl ?_
      refine go_s (pc' := 19) rfl rfl rfl rfl ?_
      refine go_icmpP (t' := 42) (pc' := 20) rfl rfl rfl (fun (c11 : ¬ ((Z 1).1 4) = 0) => ?_) (fun (c11' : ¬ ¬ ((Z 1).1 4) = 0) => ?_)
      · skip
        refine go_s (pc' := 43) (st' := [.int 0]) rfl rfl rfl rfl ?_
        refine go_ret rfl rfl ?_
        have hms : mbd (row1 (I, Q, Z) 0) (fun i => m.1 (5 + i)) = false := by
          rw [show row1 (I, Q, Z) 0 = (Z 1).1 from row1_l (v := 1) e1 (by decide)]
          exact decide_eq_false (fun z => c11 (z.2.1.symm.trans e5))
        rw [hms]
        exact ⟨rfl, rfl⟩
      · skip
        have c11 : ((Z 1).1 4) = 0 := Decidable.not_not.mp c11'
        refine go_s (pc' := 21) rfl rfl rfl rfl ?_
        refine go_sget (pc' := 22) (v := .ref 77) hS rfl rfl rfl (by decide) rfl rfl ?_
        refine go_s (pc' := 23) rfl rfl rfl rfl ?_
        refine go_s (pc' := 24) (st' := [.int 6, .int 424, .ref 77]) rfl rfl rfl rfl ?_
        refine go_s (pc' := 25) (st' := [.int 430, .ref 77]) rfl rfl rfl rfl ?_
        refine go_s (pc' := 26) rfl rfl rfl rfl ?_
        refine go_s (pc' := 27) (st' := [.int 430, .ref 77]) rfl rfl rfl rfl ?_
        refine go_sald (pc' := 28) (q := 430) (v := .int ((Z 1).1 6)) hS rfl (tr_as hr (by omega)) rfl rfl (by decide) (congrArg Value.int ((RR_row hU.2.1 (i := 1) (by decide)).1.1 6 (by decide) (by decide) (by decide))) rfl ?_
        refine go_s (pc' := 29) rfl rfl rfl rfl ?_
        refine go_icmpP (t' := 42) (pc' := 30) rfl rfl rfl (fun (c12 : ¬ ((Z 1).1 6) = (m.1 6)) => ?_) (fun (c12' : ¬ ¬ ((Z 1).1 6) = (m.1 6)) => ?_)
        · skip
          refine go_s (pc' := 43) (st' := [.int 0]) rfl rfl rfl rfl ?_
          refine go_ret rfl rfl ?_
          have hms : mbd (row1 (I, Q, Z) 0) (fun i => m.1 (5 + i)) = false := by
            rw [show row1 (I, Q, Z) 0 = (Z 1).1 from row1_l (v := 1) e1 (by decide)]
            exact decide_eq_false (fun z => by have y := z.2.2.1; rw [c11] at y; exact c12 y.symm)
          rw [hms]
          exact ⟨rfl, rfl⟩
        · skip
          have c12 : ((Z 1).1 6) = (m.1 6) := Decidable.not_not.mp c12'
          refine go_s (pc' := 31) rfl rfl rfl rfl ?_
          refine go_sget (pc' := 32) (v := .ref 77) hS rfl rfl rfl (by decide) rfl rfl ?_
          refine go_s (pc' := 33) rfl rfl rfl rfl ?_
          refine go_s (pc' := 34) (st' := [.int 8, .int 424, .ref 77]) rfl rfl rfl rfl ?_
          refine go_s (pc' := 35) (st' := [.int 432, .ref 77]) rfl rfl rfl rfl ?_
          refine go_s (pc' := 36) rfl rfl rfl rfl ?_
          refine go_s (pc' := 37) (st' := [.int 432, .ref 77]) rfl rfl rfl rfl ?_
          refine go_sald (pc' := 38) (q := 432) (v := .int ((Z 1).1 8)) hS rfl (tr_as hr (by omega)) rfl rfl (by decide) (congrArg Value.int ((RR_row hU.2.1 (i := 1) (by decide)).1.1 8 (by decide) (by decide) (by decide))) rfl ?_
          refine go_s (pc' := 39) rfl rfl rfl rfl ?_
          refine go_icmpP (t' := 42) (pc' := 40) rfl rfl rfl (fun (c13 : ¬ ((Z 1).1 8) = (m.1 7)) => ?_) (fun (c13' : ¬ ¬ ((Z 1).1 8) = (m.1 7)) => ?_)
          · skip
            refine go_s (pc' := 43) (st' := [.int 0]) rfl rfl rfl rfl ?_
            refine go_ret rfl rfl ?_
            have hms : mbd (row1 (I, Q, Z) 0) (fun i => m.1 (5 + i)) = false := by
              rw [show row1 (I, Q, Z) 0 = (Z 1).1 from row1_l (v := 1) e1 (by decide)]
              exact decide_eq_false (fun z => by have y := z.2.2.2; rw [c11] at y; exact c13 y.symm)
            rw [hms]
            exact ⟨rfl, rfl⟩
          · skip
            have c13 : ((Z 1).1 8) = (m.1 7) := Decidable.not_not.mp c13'
            refine go_s (pc' := 41) (st' := [.int 1]) rfl rfl rfl rfl ?_
            refine go_s (pc' := 43) rfl rfl rfl rfl ?_
            refine go_ret rfl rfl ?_
            have hms : mbd (row1 (I, Q, Z) 0) (fun i => m.1 (5 + i)) = true := by
              rw [show row1 (I, Q, Z) 0 = (Z 1).1 from row1_l (v := 1) e1 (by decide)]
              exact decide_eq_true ⟨c10, e5.trans c11.symm, by rw [c11]; exact c12.symm, by rw [c11]; exact c13.symm⟩
            rw [hms]
            exact ⟨rfl, rfl⟩
theorem ra_bd_1 {w : Nat → Bool} {d B R : Nat} {x : Nat} {m : mg} {hb : Bool} {h : am_Hp} {I : sm_I} {Q : mQ} {Z : mZ} (hA : RA w B R [(x, m)] hb h (I, Q, Z)) (hR : R + 0 < 40000) (e5 : m.1 5 = 1) (hp0 : prk I 0) (hn0 : ¬ I 11 0 = -1) (hd : 2 ≤ d) : am_Ev (am_prog w) d 181 [.ref 62, .int 1, .int (m.1 6), .int (m.1 7)] h (fun r h' => r = some (.int (b2i (mbd (row1 (I, Q, Z) 0) (fun i => m.1 (5 + i))))) ∧ h' = h) := by
  obtain ⟨K, Y, am, ln, hS, hU⟩ := RA_u.mp hA
  change sm (tbr am (13 * ln) 77 5088) h (jn I K) Y at hS
  obtain ⟨hW, hWm, -, -, hr, -⟩ := id hU.1
  have hln := RU_ln hU (by omega)
  obtain ⟨d, rfl⟩ : ∃ e, d = e + 1 := ⟨d - 1, by omega⟩
  refine ev_go rfl (Nat.le_of_ble_eq_true rfl) rfl ?_
  rcases hp0 with e1 | e1 | e1
  · skip
    exact absurd e1 hn0
  · skip
    refine go_s (pc' := 1) rfl rfl rfl rfl ?_
    refine go_s (pc' := 2) (st' := [.int 0, .ref 62]) rfl rfl rfl rfl ?_
    refine go_callV (pc' := 3) rfl rfl rfl (Nat.le_of_ble_eq_true rfl) rfl (sm_o hS rfl) rfl rfl rfl (rt_at_0 hr hS (Or.inr (Or.inl e1)) (fun z => absurd (e1.symm.trans z) (by decide)) (by omega)) (fun r h2 q3 => ?_)
    obtain ⟨rfl, rfl⟩ := q3
    rw [show rwi (jn I K) 0 = 0 by unfold rwi pn; rw [show (jn I K) 11 0 = 0 from e1]; rfl]
    show am_Go _ _ _ _ 3 _ [.int 0] _ _
    refine go_s (pc' := 4) (lo' := [some (.ref 62), some (.int 1), some (.int (m.1 6)), some (.int (m.1 7)), some (.int 0)]) rfl rfl rfl rfl ?_
    refine go_s (pc' := 5) rfl rfl rfl rfl ?_
    refine go_sget (pc' := 6) (v := .ref 77) hS rfl rfl rfl (by decide) rfl rfl ?_
    refine go_s (pc' := 7) rfl rfl rfl rfl ?_
    refine go_s (pc' := 8) (st' := [.int 3, .int 0, .ref 77]) rfl rfl rfl rfl ?_
    refine go_s (pc' := 9) (st' := [.int 3, .ref 77]) rfl rfl rfl rfl ?_
    refine go_sald (pc' := 10) (q := 3) (v := .int ((Z 0).1 3)) hS rfl (tr_as hr (by omega)) rfl rfl (by decide) (congrArg Value.int ((RR_row hU.2.1 (i := 0) (by decide)).1.1 3 (by decide) (by decide) (by decide))) rfl ?_
    refine go_s (pc' := 11) (st' := [.int 1, .int ((Z 0).1 3)]) rfl rfl rfl rfl ?_
    refine go_icmpP (t' := 42) (pc' := 12) rfl rfl rfl (fun (c4 : ¬ ((Z 0).1 3) = 1) => ?_) (fun (c4' : ¬ ¬ ((Z 0).1 3) = 1) => ?_)
    · skip
      refine go_s (pc' := 43) (st' := [.int 0]) rfl rfl rfl rfl ?_
      refine go_ret rfl rfl ?_
      have hms : mbd (row1 (I, Q, Z) 0) (fun i => m.1 (5 + i)) = false := by
        rw [show row1 (I, Q, Z) 0 = (Z 0).1 from row1_l (v := 0) e1 (by decide)]
        exact decide_eq_false (fun z => c4 z.1)
      rw [hms]
      exact ⟨rfl, rfl⟩
    · skip
      have c4 : ((Z 0).1 3) = 1 := Decidable.not_not.mp c4'
      refine go_s (pc' := 13) rfl rfl rfl rfl ?_
      refine go_sget (pc' := 14) (v := .ref 77) hS rfl rfl rfl (by decide) rfl rfl ?_
      refine go_s (pc' := 15) rfl rfl rfl rfl ?_
      refine go_s (pc' := 16) (st' := [.int 4, .int 0, .ref 77]) rfl rfl rfl rfl ?_
      refine go_s (pc' := 17) (st' := [.int 4, .ref 77]) rfl rfl rfl rfl ?_
      refine go_sald (pc' := 18) (q := 4) (v := .int ((Z 0).1 4)) hS rfl (tr_as hr (by omega)) rfl rfl (by decide) (congrArg Value.int ((RR_row hU.2.1 (i := 0) (by decide)).1.1 4 (by decide) (by decide) (by decide))) rfl ?_
      refine go_s (pc' := 19) rfl rfl rfl rfl ?_
      refine go_icmpP (t' := 42) (pc' := 20) rfl rfl rfl (fun (c5 : ¬ ((Z 0).1 4) = 1) => ?_) (fun (c5' : ¬ ¬ ((Z 0).1 4) = 1) => ?_)
      · skip
        refine go_s (pc' := 43) (st' := [.int 0]) rfl rfl rfl rfl ?_
        refine go_ret rfl rfl ?_
        have hms : mbd (row1 (I, Q, Z) 0) (fun i => m.1 (5 + i)) = false := by
          rw [show row1 (I, Q, Z) 0 = (Z 0).1 from row1_l (v := 0) e1 (by decide)]
          exact decide_eq_false (fun z => c5 (z.2.1.symm.trans e5))
        rw [hms]
        exact ⟨rfl, rfl⟩
      · skip
        have c5 : ((Z 0).1 4) = 1 := Decidable.not_not.mp c5'
        refine go_s (pc' := 21) rfl rfl rfl rfl ?_
        refine go_sget (pc' := 22) (v := .ref 77) hS rfl rfl rfl (by decide) rfl rfl ?_
        refine go_s (pc' := 23) rfl rfl rfl rfl ?_
        refine go_s (pc' := 24) (st' := [.int 6, .int 0, .ref 77]) rfl rfl rfl rfl ?_
        refine go_s (pc' := 25) (st' := [.int 6, .ref 77]) rfl rfl rfl rfl ?_
        refine go_s (pc' := 26) rfl rfl rfl rfl ?_
        refine go_s (pc' := 27) (st' := [.int 7, .ref 77]) rfl rfl rfl rfl ?_
        refine go_sald (pc' := 28) (q := 7) (v := .int ((Z 0).1 7)) hS rfl (tr_as hr (by omega)) rfl rfl (by decide) (congrArg Value.int ((RR_row hU.2.1 (i := 0) (by decide)).1.1 7 (by decide) (by decide) (by decide))) rfl ?_
        refine go_s (pc' := 29) rfl rfl rfl rfl ?_
        refine go_icmpP (t' := 42) (pc' := 30) rfl rfl rfl (fun (c6 : ¬ ((Z 0).1 7) = (m.1 6)) => ?_) (fun (c6' : ¬ ¬ ((Z 0).1 7) = (m.1 6)) => ?_)
        · skip
          refine go_s (pc' := 43) (st' := [.int 0]) rfl rfl rfl rfl ?_
          refine go_ret rfl rfl ?_
          have hms : mbd (row1 (I, Q, Z) 0) (fun i => m.1 (5 + i)) = false := by
            rw [show row1 (I, Q, Z) 0 = (Z 0).1 from row1_l (v := 0) e1 (by decide)]
            exact decide_eq_false (fun z => by have y := z.2.2.1; rw [c5] at y; exact c6 y.symm)
          rw [hms]
          exact ⟨rfl, rfl⟩
        · skip
          have c6 : ((Z 0).1 7) = (m.1 6) := Decidable.not_not.mp c6'
          refine go_s (pc' := 31) rfl rfl rfl rfl ?_
          refine go_sget (pc' := 32) (v := .ref 77) hS rfl rfl rfl (by decide) rfl rfl ?_
          refine go_s (pc' := 33) rfl rfl rfl rfl ?_
          refine go_s (pc' := 34) (st' := [.int 8, .int 0, .ref 77]) rfl rfl rfl rfl ?_
          refine go_s (pc' := 35) (st' := [.int 8, .ref 77]) rfl rfl rfl rfl ?_
          refine go_s (pc' := 36) rfl rfl rfl rfl ?_
          refine go_s (pc' := 37) (st' := [.int 9, .ref 77]) rfl rfl rfl rfl ?_
          refine go_sald (pc' := 38) (q := 9) (v := .int ((Z 0).1 9)) hS rfl (tr_as hr (by omega)) rfl rfl (by decide) (congrArg Value.int ((RR_row hU.2.1 (i := 0) (by decide)).1.1 9 (by decide) (by decide) (by decide))) rfl ?_
          refine go_s (pc' := 39) rfl rfl rfl rfl ?_
          refine go_icmpP (t' := 42) (pc' := 40) rfl rfl rfl (fun (c7 : ¬ ((Z 0).1 9) = (m.1 7)) => ?_) (fun (c7' : ¬ ¬ ((Z 0).1 9) = (m.1 7)) => ?_)
          · skip
            refine go_s (pc' := 43) (st' := [.int 0]) rfl rfl rfl rfl ?_
            refine go_ret rfl rfl ?_
            have hms : mbd (row1 (I, Q, Z) 0) (fun i => m.1 (5 + i)) = false := by
              rw [show row1 (I, Q, Z) 0 = (Z 0).1 from row1_l (v := 0) e1 (by decide)]
              exact decide_eq_false (fun z => by have y := z.2.2.2; rw [c5] at y; exact c7 y.symm)
            rw [hms]
            exact ⟨rfl, rfl⟩
          · skip
            have c7 : ((Z 0).1 9) = (m.1 7) := Decidable.not_not.mp c7'
            refine go_s (pc' := 41) (st' := [.int 1]) rfl rfl rfl rfl ?_
            refine go_s (pc' := 43) rfl rfl rfl rfl ?_
            refine go_ret rfl rfl ?_
            have hms : mbd (row1 (I, Q, Z) 0) (fun i => m.1 (5 + i)) = true := by
              rw [show row1 (I, Q, Z) 0 = (Z 0).1 from row1_l (v := 0) e1 (by decide)]
              exact decide_eq_true ⟨c4, e5.trans c5.symm, by rw [c5]; exact c6.symm, by rw [c5]; exact c7.symm⟩
            rw [hms]
            exact ⟨rfl, rfl⟩
  · skip
    refine go_s (pc' := 1) rfl rfl rfl rfl ?_
    refine go_s (pc' := 2) (st' := [.int 0, .ref 62]) rfl rfl rfl rfl ?_
    refine go_callV (pc' := 3) rfl rfl rfl (Nat.le_of_ble_eq_true rfl) rfl (sm_o hS rfl) rfl rfl rfl (rt_at_0 hr hS (Or.inr (Or.inr e1)) (fun z => absurd (e1.symm.trans z) (by decide)) (by omega)) (fun r h8 q9 => ?_)
    obtain ⟨rfl, rfl⟩ := q9
    rw [show rwi (jn I K) 0 = 1 by unfold rwi pn; rw [show (jn I K) 11 0 = 1 from e1]; rfl]
    show am_Go _ _ _ _ 3 _ [.int 424] _ _
    refine go_s (pc' := 4) (lo' := [some (.ref 62), some (.int 1), some (.int (m.1 6)), some (.int (m.1 7)), some (.int 424)]) rfl rfl rfl rfl ?_
    refine go_s (pc' := 5) rfl rfl rfl rfl ?_
    refine go_sget (pc' := 6) (v := .ref 77) hS rfl rfl rfl (by decide) rfl rfl ?_
    refine go_s (pc' := 7) rfl rfl rfl rfl ?_
    refine go_s (pc' := 8) (st' := [.int 3, .int 424, .ref 77]) rfl rfl rfl rfl ?_
    refine go_s (pc' := 9) (st' := [.int 427, .ref 77]) rfl rfl rfl rfl ?_
    refine go_sald (pc' := 10) (q := 427) (v := .int ((Z 1).1 3)) hS rfl (tr_as hr (by omega)) rfl rfl (by decide) (congrArg Value.int ((RR_row hU.2.1 (i := 1) (by decide)).1.1 3 (by decide) (by decide) (by decide))) rfl ?_
    refine go_s (pc' := 11) (st' := [.int 1, .int ((Z 1).1 3)]) rfl rfl rfl rfl ?_
    refine go_icmpP (t' := 42) (pc' := 12) rfl rfl rfl (fun (c10 : ¬ ((Z 1).1 3) = 1) => ?_) (fun (c10' : ¬ ¬ ((Z 1).1 3) = 1) => ?_)
    · skip
      refine go_s (pc' := 43) (st' := [.int 0]) rfl rfl rfl rfl ?_
      refine go_ret rfl rfl ?_
      have hms : mbd (row1 (I, Q, Z) 0) (fun i => m.1 (5 + i)) = false := by
        rw [show row1 (I, Q, Z) 0 = (Z 1).1 from row1_l (v := 1) e1 (by decide)]
        exact decide_eq_false (fun z => c10 z.1)
      rw [hms]
      exact ⟨rfl, rfl⟩
    · skip
      have c10 : ((Z 1).1 3) = 1 := Decidable.not_not.mp c10'
      refine go_s (pc' := 13) rfl rfl rfl rfl ?_
      refine go_sget (pc' := 14) (v := .ref 77) hS rfl rfl rfl (by decide) rfl rfl ?_
      refine go_s (pc' := 15) rfl rfl rfl rfl ?_
      refine go_s (pc' := 16) (st' := [.int 4, .int 424, .ref 77]) rfl rfl rfl rfl ?_
      refine go_s (pc' := 17) (st' := [.int 428, .ref 77]) rfl rfl rfl rfl ?_
      refine go_sald (pc' := 18) (q := 428) (v := .int ((Z 1).1 4)) hS rfl (tr_as hr (by omega)) rfl rfl (by decide) (congrArg Value.int ((RR_row hU.2.1 (i := 1) (by decide)).1.1 4 (by decide) (by decide) (by decide))) rfl ?_
      refine go_s (pc' := 19) rfl rfl rfl rfl ?_
      refine go_icmpP (t' := 42) (pc' := 20) rfl rfl rfl (fun (c11 : ¬ ((Z 1).1 4) = 1) => ?_) (fun (c11' : ¬ ¬ ((Z 1).1 4) = 1) => ?_)
      · skip
        refine go_s (pc' := 43) (st' := [.int 0]) rfl rfl rfl rfl ?_
        refine go_ret rfl rfl ?_
        have hms : mbd (row1 (I, Q, Z) 0) (fun i => m.1 (5 + i)) = false := by
          rw [show row1 (I, Q, Z) 0 = (Z 1).1 from row1_l (v := 1) e1 (by decide)]
          exact decide_eq_false (fun z => c11 (z.2.1.symm.trans e5))
        rw [hms]
        exact ⟨rfl, rfl⟩
      · skip
        have c11 : ((Z 1).1 4) = 1 := Decidable.not_not.mp c11'
        refine go_s (pc' := 21) rfl rfl rfl rfl ?_
        refine go_sget (pc' := 22) (v := .ref 77) hS rfl rfl rfl (by decide) rfl rfl ?_
        refine go_s (pc' := 23) rfl rfl rfl rfl ?_
        refine go_s (pc' := 24) (st' := [.int 6, .int 424, .ref 77]) rfl rfl rfl rfl ?_
        refine go_s (pc' := 25) (st' := [.int 430, .ref 77]) rfl rfl rfl rfl ?_
        refine go_s (pc' := 26) rfl rfl rfl rfl ?_
        refine go_s (pc' := 27) (st' := [.int 431, .ref 77]) rfl rfl rfl rfl ?_
        refine go_sald (pc' := 28) (q := 431) (v := .int ((Z 1).1 7)) hS rfl (tr_as hr (by omega)) rfl rfl (by decide) (congrArg Value.int ((RR_row hU.2.1 (i := 1) (by decide)).1.1 7 (by decide) (by decide) (by decide))) rfl ?_
        refine go_s (pc' := 29) rfl rfl rfl rfl ?_
        refine go_icmpP (t' := 42) (pc' := 30) rfl rfl rfl (fun (c12 : ¬ ((Z 1).1 7) = (m.1 6)) => ?_) (fun (c12' : ¬ ¬ ((Z 1).1 7) = (m.1 6)) => ?_)
        · skip
          refine go_s (pc' := 43) (st' := [.int 0]) rfl rfl rfl rfl ?_
          refine go_ret rfl rfl ?_
          have hms : mbd (row1 (I, Q, Z) 0) (fun i => m.1 (5 + i)) = false := by
            rw [show row1 (I, Q, Z) 0 = (Z 1).1 from row1_l (v := 1) e1 (by decide)]
            exact decide_eq_false (fun z => by have y := z.2.2.1; rw [c11] at y; exact c12 y.symm)
          rw [hms]
          exact ⟨rfl, rfl⟩
        · skip
          have c12 : ((Z 1).1 7) = (m.1 6) := Decidable.not_not.mp c12'
          refine go_s (pc' := 31) rfl rfl rfl rfl ?_
          refine go_sget (pc' := 32) (v := .ref 77) hS rfl rfl rfl (by decide) rfl rfl ?_
          refine go_s (pc' := 33) rfl rfl rfl rfl ?_
          refine go_s (pc' := 34) (st' := [.int 8, .int 424, .ref 77]) rfl rfl rfl rfl ?_
          refine go_s (pc' := 35) (st' := [.int 432, .ref 77]) rfl rfl rfl rfl ?_
          refine go_s (pc' := 36) rfl rfl rfl rfl ?_
          refine go_s (pc' := 37) (st' := [.int 433, .ref 77]) rfl rfl rfl rfl ?_
          refine go_sald (pc' := 38) (q := 433) (v := .int ((Z 1).1 9)) hS rfl (tr_as hr (by omega)) rfl rfl (by decide) (congrArg Value.int ((RR_row hU.2.1 (i := 1) (by decide)).1.1 9 (by decide) (by decide) (by decide))) rfl ?_
          refine go_s (pc' := 39) rfl rfl rfl rfl ?_
          refine go_icmpP (t' := 42) (pc' := 40) rfl rfl rfl (fun (c13 : ¬ ((Z 1).1 9) = (m.1 7)) => ?_) (fun (c13' : ¬ ¬ ((Z 1).1 9) = (m.1 7)) => ?_)
          · skip
            refine go_s (pc' := 43) (st' := [.int 0]) rfl rfl rfl rfl ?_
            refine go_ret rfl rfl ?_
            have hms : mbd (row1 (I, Q, Z) 0) (fun i => m.1 (5 + i)) = false := by
              rw [show row1 (I, Q, Z) 0 = (Z 1).1 from row1_l (v := 1) e1 (by decide)]
              exact decide_eq_false (fun z => by have y := z.2.2.2; rw [c11] at y; exact c13 y.symm)
            rw [hms]
            exact ⟨rfl, rfl⟩
          · skip
            have c13 : ((Z 1).1 9) = (m.1 7) := Decidable.not_not.mp c13'
            refine go_s (pc' := 41) (st' := [.int 1]) rfl rfl rfl rfl ?_
            refine go_s (pc' := 43) rfl rfl rfl rfl ?_
            refine go_ret rfl rfl ?_
            have hms : mbd (row1 (I, Q, Z) 0) (fun i => m.1 (5 + i)) = true := by
              rw [show row1 (I, Q, Z) 0 = (Z 1).1 from row1_l (v := 1) e1 (by decide)]
              exact decide_eq_true ⟨c10, e5.trans c11.symm, by rw [c11]; exact c12.symm, by rw [c11]; exact c13.symm⟩
            rw [hms]
            exact ⟨rfl, rfl⟩
theorem lp_cm_0 {w : Nat → Bool} {d : Nat} {h : am_Hp} {I K : sm_I} {Y : sm_X} {am ln : Nat} (hr : rk am 77) (hS : sm (tbr am (13 * ln) 77 5088) h (jn I K) Y) (hln : ln < 2 ^ 20) {P : Option Value → am_Hp → Prop} {x n : Nat} {m6 m7 : Int32} {q : Nat → Int32} {d0 : Bool} (hx : x < ln) (en : I 21 0 = nI n) (hn8 : n ≤ 8) (e6 : K 50 (13 * x + 6) = m6) (e7 : K 50 (13 * x + 7) = m7) (e5 : q 0 = 0) (e1 : q 1 = m6) (e2 : q 2 = m7) (C : am_Go (am_prog w) d am_c180 none 83 [some (.ref 62), some (.int (nI (13 * x))), some (.int 0), some (.int (b2i (d0 || mdup I q n))), some (.int (nI n))] [] h P) : ∀ (k i : Nat), i + k = n → am_Go (am_prog w) d am_c180 none 33 [some (.ref 62), some (.int (nI (13 * x))), some (.int 0), some (.int (b2i (d0 || mdup I q i))), some (.int (nI i))] [] h P := by
  intro k
  induction k with
  | zero =>
    intro i hik
    obtain rfl : i = n := by omega
    refine go_s (pc' := 34) rfl rfl rfl rfl ?_
    refine go_s (pc' := 35) rfl rfl rfl rfl ?_
    refine go_sget (pc' := 36) (v := .int (nI i)) hS rfl rfl rfl (by decide) (congrArg Value.int en) rfl ?_
    refine go_icmpP (t' := 83) (pc' := 37) rfl rfl rfl (fun _ => ?_) (fun (c : ¬ ((nI i) ≤ (nI i))) => absurd (Int32.le_refl _) c)
    exact C
  | succ k ih =>
    intro i hik
    have hi : i < n := by omega
    cases hdb : (d0 || mdup I q i)
    · skip
      show am_Go _ _ _ _ _ [some (.ref 62), some (.int (nI (13 * x))), some (.int 0), some (.int 0), some (.int (nI i))] _ _ _
      refine go_s (pc' := 34) rfl rfl rfl rfl ?_
      refine go_s (pc' := 35) rfl rfl rfl rfl ?_
      refine go_sget (pc' := 36) (v := .int (nI n)) hS rfl rfl rfl (by decide) (congrArg Value.int en) rfl ?_
      refine go_icmpP (t' := 83) (pc' := 37) rfl rfl rfl (fun (c : (nI n) ≤ (nI i)) => absurd c (nI_ge hi (by omega))) (fun _ => ?_)
      refine go_s (pc' := 38) rfl rfl rfl rfl ?_
      refine go_ifP (t' := 77) (pc' := 39) rfl rfl rfl (fun (c : ¬ (0 : Int32) = 0) => absurd c (by decide)) (fun _ => ?_)
      refine go_s (pc' := 40) rfl rfl rfl rfl ?_
      refine go_sget (pc' := 41) (v := .ref 87) hS rfl rfl rfl (by decide) rfl rfl ?_
      refine go_s (pc' := 42) (st' := [.int 7, .ref 87]) rfl rfl rfl rfl ?_
      refine go_s (pc' := 43) rfl rfl rfl rfl ?_
      refine go_nmul (pc' := 44) (a := 7) (b := i) rfl rfl rfl rfl rfl ?_
      refine go_sald (pc' := 45) (q := (7 * i)) (v := .int (I 20 (7 * i))) hS rfl (tr_s hr (a := 87) rfl (by omega)) rfl rfl (by omega) rfl rfl ?_
      refine go_s (pc' := 46) rfl rfl rfl rfl ?_
      refine go_icmpP (t' := 79) (pc' := 47) rfl rfl rfl (fun (c1 : ¬ (I 20 (7 * i)) = 0) => ?_) (fun (c1' : ¬ ¬ (I 20 (7 * i)) = 0) => ?_)
      · skip
        refine go_s (pc' := 80) (st' := [.int 0]) rfl rfl rfl rfl ?_
        refine go_s (pc' := 81) (lo' := [some (.ref 62), some (.int (nI (13 * x))), some (.int 0), some (.int 0), some (.int (nI i))]) rfl rfl rfl rfl ?_
        refine go_ninc (pc' := 82) (a := i) (n := 1) (lo' := [some (.ref 62), some (.int (nI (13 * x))), some (.int 0), some (.int 0), some (.int (nI (i + 1)))]) rfl rfl rfl rfl rfl rfl ?_
        refine go_s (pc' := 33) rfl rfl rfl rfl ?_
        have z := ih (i + 1) (by omega)
        rw [show (d0 || mdup I q (i + 1)) = false by show (d0 || (mdup I q i || smr q (fun j => I 20 (7 * i + j)))) = false; rw [← Bool.or_assoc, hdb, show smr q (fun j => I 20 (7 * i + j)) = false from decide_eq_false (fun y => c1 (y.1.symm.trans e5))]; rfl] at z
        exact z
      · skip
        have c1 : (I 20 (7 * i)) = 0 := Decidable.not_not.mp c1'
        refine go_s (pc' := 48) rfl rfl rfl rfl ?_
        refine go_sget (pc' := 49) (v := .ref 87) hS rfl rfl rfl (by decide) rfl rfl ?_
        refine go_s (pc' := 50) (st' := [.int 7, .ref 87]) rfl rfl rfl rfl ?_
        refine go_s (pc' := 51) rfl rfl rfl rfl ?_
        refine go_nmul (pc' := 52) (a := 7) (b := i) rfl rfl rfl rfl rfl ?_
        refine go_s (pc' := 53) (st' := [.int 1, .int (nI (7 * i)), .ref 87]) rfl rfl rfl rfl ?_
        refine go_nadd (pc' := 54) (a := (7 * i)) (b := 1) rfl rfl rfl rfl rfl ?_
        refine go_sald (pc' := 55) (q := ((7 * i) + 1)) (v := .int (I 20 ((7 * i) + 1))) hS rfl (tr_s hr (a := 87) rfl (by omega)) rfl rfl (by omega) rfl rfl ?_
        refine go_s (pc' := 56) rfl rfl rfl rfl ?_
        refine go_sget (pc' := 57) (v := .ref am) hS rfl rfl rfl (by decide) rfl rfl ?_
        refine go_s (pc' := 58) rfl rfl rfl rfl ?_
        refine go_s (pc' := 59) (st' := [.int 6, .int (nI (13 * x)), .ref am, .int (I 20 ((7 * i) + 1))]) rfl rfl rfl rfl ?_
        refine go_nadd (pc' := 60) (a := (13 * x)) (b := 6) rfl rfl rfl rfl rfl ?_
        refine go_sald (pc' := 61) (q := ((13 * x) + 6)) (v := .int m6) hS rfl (tr_ms hr (by omega)) rfl rfl (by omega) (congrArg Value.int e6) rfl ?_
        refine go_icmpP (t' := 79) (pc' := 62) rfl rfl rfl (fun (c2 : ¬ (I 20 ((7 * i) + 1)) = m6) => ?_) (fun (c2' : ¬ ¬ (I 20 ((7 * i) + 1)) = m6) => ?_)
        · skip
          refine go_s (pc' := 80) (st' := [.int 0]) rfl rfl rfl rfl ?_
          refine go_s (pc' := 81) (lo' := [some (.ref 62), some (.int (nI (13 * x))), some (.int 0), some (.int 0), some (.int (nI i))]) rfl rfl rfl rfl ?_
          refine go_ninc (pc' := 82) (a := i) (n := 1) (lo' := [some (.ref 62), some (.int (nI (13 * x))), some (.int 0), some (.int 0), some (.int (nI (i + 1)))]) rfl rfl rfl rfl rfl rfl ?_
          refine go_s (pc' := 33) rfl rfl rfl rfl ?_
          have z := ih (i + 1) (by omega)
          rw [show (d0 || mdup I q (i + 1)) = false by show (d0 || (mdup I q i || smr q (fun j => I 20 (7 * i + j)))) = false; rw [← Bool.or_assoc, hdb, show smr q (fun j => I 20 (7 * i + j)) = false from decide_eq_false (fun y => c2 (y.2.1.symm.trans e1))]; rfl] at z
          exact z
        · skip
          have c2 : (I 20 ((7 * i) + 1)) = m6 := Decidable.not_not.mp c2'
          refine go_s (pc' := 63) rfl rfl rfl rfl ?_
          refine go_sget (pc' := 64) (v := .ref 87) hS rfl rfl rfl (by decide) rfl rfl ?_
          refine go_s (pc' := 65) (st' := [.int 7, .ref 87]) rfl rfl rfl rfl ?_
          refine go_s (pc' := 66) rfl rfl rfl rfl ?_
          refine go_nmul (pc' := 67) (a := 7) (b := i) rfl rfl rfl rfl rfl ?_
          refine go_s (pc' := 68) (st' := [.int 2, .int (nI (7 * i)), .ref 87]) rfl rfl rfl rfl ?_
          refine go_nadd (pc' := 69) (a := (7 * i)) (b := 2) rfl rfl rfl rfl rfl ?_
          refine go_sald (pc' := 70) (q := ((7 * i) + 2)) (v := .int (I 20 ((7 * i) + 2))) hS rfl (tr_s hr (a := 87) rfl (by omega)) rfl rfl (by omega) rfl rfl ?_
          refine go_s (pc' := 71) rfl rfl rfl rfl ?_
          refine go_sget (pc' := 72) (v := .ref am) hS rfl rfl rfl (by decide) rfl rfl ?_
          refine go_s (pc' := 73) rfl rfl rfl rfl ?_
          refine go_s (pc' := 74) (st' := [.int 7, .int (nI (13 * x)), .ref am, .int (I 20 ((7 * i) + 2))]) rfl rfl rfl rfl ?_
          refine go_nadd (pc' := 75) (a := (13 * x)) (b := 7) rfl rfl rfl rfl rfl ?_
          refine go_sald (pc' := 76) (q := ((13 * x) + 7)) (v := .int m7) hS rfl (tr_ms hr (by omega)) rfl rfl (by omega) (congrArg Value.int e7) rfl ?_
          refine go_icmpP (t' := 79) (pc' := 77) rfl rfl rfl (fun (c3 : ¬ (I 20 ((7 * i) + 2)) = m7) => ?_) (fun (c3' : ¬ ¬ (I 20 ((7 * i) + 2)) = m7) => ?_)
          · skip
            refine go_s (pc' := 80) (st' := [.int 0]) rfl rfl rfl rfl ?_
            refine go_s (pc' := 81) (lo' := [some (.ref 62), some (.int (nI (13 * x))), some (.int 0), some (.int 0), some (.int (nI i))]) rfl rfl rfl rfl ?_
            refine go_ninc (pc' := 82) (a := i) (n := 1) (lo' := [some (.ref 62), some (.int (nI (13 * x))), some (.int 0), some (.int 0), some (.int (nI (i + 1)))]) rfl rfl rfl rfl rfl rfl ?_
            refine go_s (pc' := 33) rfl rfl rfl rfl ?_
            have z := ih (i + 1) (by omega)
            rw [show (d0 || mdup I q (i + 1)) = false by show (d0 || (mdup I q i || smr q (fun j => I 20 (7 * i + j)))) = false; rw [← Bool.or_assoc, hdb, show smr q (fun j => I 20 (7 * i + j)) = false from decide_eq_false (fun y => c3 (y.2.2.symm.trans e2))]; rfl] at z
            exact z
          · skip
            have c3 : (I 20 ((7 * i) + 2)) = m7 := Decidable.not_not.mp c3'
            refine go_s (pc' := 78) (st' := [.int 1]) rfl rfl rfl rfl ?_
            refine go_s (pc' := 80) rfl rfl rfl rfl ?_
            refine go_s (pc' := 81) (lo' := [some (.ref 62), some (.int (nI (13 * x))), some (.int 0), some (.int 1), some (.int (nI i))]) rfl rfl rfl rfl ?_
            refine go_ninc (pc' := 82) (a := i) (n := 1) (lo' := [some (.ref 62), some (.int (nI (13 * x))), some (.int 0), some (.int 1), some (.int (nI (i + 1)))]) rfl rfl rfl rfl rfl rfl ?_
            refine go_s (pc' := 33) rfl rfl rfl rfl ?_
            have z := ih (i + 1) (by omega)
            rw [show (d0 || mdup I q (i + 1)) = true by show (d0 || (mdup I q i || smr q (fun j => I 20 (7 * i + j)))) = true; rw [← Bool.or_assoc, hdb, show smr q (fun j => I 20 (7 * i + j)) = true from decide_eq_true ⟨e5.trans c1.symm, e1.trans c2.symm, e2.trans c3.symm⟩]; rfl] at z
            exact z
    · skip
      show am_Go _ _ _ _ _ [some (.ref 62), some (.int (nI (13 * x))), some (.int 0), some (.int 1), some (.int (nI i))] _ _ _
      refine go_s (pc' := 34) rfl rfl rfl rfl ?_
      refine go_s (pc' := 35) rfl rfl rfl rfl ?_
      refine go_sget (pc' := 36) (v := .int (nI n)) hS rfl rfl rfl (by decide) (congrArg Value.int en) rfl ?_
      refine go_icmpP (t' := 83) (pc' := 37) rfl rfl rfl (fun (c : (nI n) ≤ (nI i)) => absurd c (nI_ge hi (by omega))) (fun _ => ?_)
      refine go_s (pc' := 38) rfl rfl rfl rfl ?_
      refine go_ifP (t' := 77) (pc' := 39) rfl rfl rfl (fun _ => ?_) (fun (c : ¬ (¬ (1 : Int32) = 0)) => absurd (by decide) c)
      refine go_s (pc' := 78) (st' := [.int 1]) rfl rfl rfl rfl ?_
      refine go_s (pc' := 80) rfl rfl rfl rfl ?_
      refine go_s (pc' := 81) (lo' := [some (.ref 62), some (.int (nI (13 * x))), some (.int 0), some (.int 1), some (.int (nI i))]) rfl rfl rfl rfl ?_
      refine go_ninc (pc' := 82) (a := i) (n := 1) (lo' := [some (.ref 62), some (.int (nI (13 * x))), some (.int 0), some (.int 1), some (.int (nI (i + 1)))]) rfl rfl rfl rfl rfl rfl ?_
      refine go_s (pc' := 33) rfl rfl rfl rfl ?_
      have z := ih (i + 1) (by omega)
      rw [show (d0 || mdup I q (i + 1)) = true by show (d0 || (mdup I q i || smr q (fun j => I 20 (7 * i + j)))) = true; rw [← Bool.or_assoc, hdb]; rfl] at z
      exact z
theorem lp_cm_1 {w : Nat → Bool} {d : Nat} {h : am_Hp} {I K : sm_I} {Y : sm_X} {am ln : Nat} (hr : rk am 77) (hS : sm (tbr am (13 * ln) 77 5088) h (jn I K) Y) (hln : ln < 2 ^ 20) {P : Option Value → am_Hp → Prop} {x n : Nat} {m6 m7 : Int32} {q : Nat → Int32} {d0 : Bool} (hx : x < ln) (en : I 21 0 = nI n) (hn8 : n ≤ 8) (e6 : K 50 (13 * x + 6) = m6) (e7 : K 50 (13 * x + 7) = m7) (e5 : q 0 = 1) (e1 : q 1 = m6) (e2 : q 2 = m7) (C : am_Go (am_prog w) d am_c180 none 83 [some (.ref 62), some (.int (nI (13 * x))), some (.int 1), some (.int (b2i (d0 || mdup I q n))), some (.int (nI n))] [] h P) : ∀ (k i : Nat), i + k = n → am_Go (am_prog w) d am_c180 none 33 [some (.ref 62), some (.int (nI (13 * x))), some (.int 1), some (.int (b2i (d0 || mdup I q i))), some (.int (nI i))] [] h P := by
  intro k
  induction k with
  | zero =>
    intro i hik
    obtain rfl : i = n := by omega
    refine go_s (pc' := 34) rfl rfl rfl rfl ?_
    refine go_s (pc' := 35) rfl rfl rfl rfl ?_
    refine go_sget (pc' := 36) (v := .int (nI i)) hS rfl rfl rfl (by decide) (congrArg Value.int en) rfl ?_
    refine go_icmpP (t' := 83) (pc' := 37) rfl rfl rfl (fun _ => ?_) (fun (c : ¬ ((nI i) ≤ (nI i))) => absurd (Int32.le_refl _) c)
    exact C
  | succ k ih =>
    intro i hik
    have hi : i < n := by omega
    cases hdb : (d0 || mdup I q i)
    · skip
      show am_Go _ _ _ _ _ [some (.ref 62), some (.int (nI (13 * x))), some (.int 1), some (.int 0), some (.int (nI i))] _ _ _
      refine go_s (pc' := 34) rfl rfl rfl rfl ?_
      refine go_s (pc' := 35) rfl rfl rfl rfl ?_
      refine go_sget (pc' := 36) (v := .int (nI n)) hS rfl rfl rfl (by decide) (congrArg Value.int en) rfl ?_
      refine go_icmpP (t' := 83) (pc' := 37) rfl rfl rfl (fun (c : (nI n) ≤ (nI i)) => absurd c (nI_ge hi (by omega))) (fun _ => ?_)
      refine go_s (pc' := 38) rfl rfl rfl rfl ?_
      refine go_ifP (t' := 77) (pc' := 39) rfl rfl rfl (fun (c : ¬ (0 : Int32) = 0) => absurd c (by decide)) (fun _ => ?_)
      refine go_s (pc' := 40) rfl rfl rfl rfl ?_
      refine go_sget (pc' := 41) (v := .ref 87) hS rfl rfl rfl (by decide) rfl rfl ?_
      refine go_s (pc' := 42) (st' := [.int 7, .ref 87]) rfl rfl rfl rfl ?_
      refine go_s (pc' := 43) rfl rfl rfl rfl ?_
      refine go_nmul (pc' := 44) (a := 7) (b := i) rfl rfl rfl rfl rfl ?_
      refine go_sald (pc' := 45) (q := (7 * i)) (v := .int (I 20 (7 * i))) hS rfl (tr_s hr (a := 87) rfl (by omega)) rfl rfl (by omega) rfl rfl ?_
      refine go_s (pc' := 46) rfl rfl rfl rfl ?_
      refine go_icmpP (t' := 79) (pc' := 47) rfl rfl rfl (fun (c1 : ¬ (I 20 (7 * i)) = 1) => ?_) (fun (c1' : ¬ ¬ (I 20 (7 * i)) = 1) => ?_)
      · skip
        refine go_s (pc' := 80) (st' := [.int 0]) rfl rfl rfl rfl ?_
        refine go_s (pc' := 81) (lo' := [some (.ref 62), some (.int (nI (13 * x))), some (.int 1), some (.int 0), some (.int (nI i))]) rfl rfl rfl rfl ?_
        refine go_ninc (pc' := 82) (a := i) (n := 1) (lo' := [some (.ref 62), some (.int (nI (13 * x))), some (.int 1), some (.int 0), some (.int (nI (i + 1)))]) rfl rfl rfl rfl rfl rfl ?_
        refine go_s (pc' := 33) rfl rfl rfl rfl ?_
        have z := ih (i + 1) (by omega)
        rw [show (d0 || mdup I q (i + 1)) = false by show (d0 || (mdup I q i || smr q (fun j => I 20 (7 * i + j)))) = false; rw [← Bool.or_assoc, hdb, show smr q (fun j => I 20 (7 * i + j)) = false from decide_eq_false (fun y => c1 (y.1.symm.trans e5))]; rfl] at z
        exact z
      · skip
        have c1 : (I 20 (7 * i)) = 1 := Decidable.not_not.mp c1'
        refine go_s (pc' := 48) rfl rfl rfl rfl ?_
        refine go_sget (pc' := 49) (v := .ref 87) hS rfl rfl rfl (by decide) rfl rfl ?_
        refine go_s (pc' := 50) (st' := [.int 7, .ref 87]) rfl rfl rfl rfl ?_
        refine go_s (pc' := 51) rfl rfl rfl rfl ?_
        refine go_nmul (pc' := 52) (a := 7) (b := i) rfl rfl rfl rfl rfl ?_
        refine go_s (pc' := 53) (st' := [.int 1, .int (nI (7 * i)), .ref 87]) rfl rfl rfl rfl ?_
        refine go_nadd (pc' := 54) (a := (7 * i)) (b := 1) rfl rfl rfl rfl rfl ?_
        refine go_sald (pc' := 55) (q := ((7 * i) + 1)) (v := .int (I 20 ((7 * i) + 1))) hS rfl (tr_s hr (a := 87) rfl (by omega)) rfl rfl (by omega) rfl rfl ?_
        refine go_s (pc' := 56) rfl rfl rfl rfl ?_
        refine go_sget (pc' := 57) (v := .ref am) hS rfl rfl rfl (by decide) rfl rfl ?_
        refine go_s (pc' := 58) rfl rfl rfl rfl ?_
        refine go_s (pc' := 59) (st' := [.int 6, .int (nI (13 * x)), .ref am, .int (I 20 ((7 * i) + 1))]) rfl rfl rfl rfl ?_
        refine go_nadd (pc' := 60) (a := (13 * x)) (b := 6) rfl rfl rfl rfl rfl ?_
        refine go_sald (pc' := 61) (q := ((13 * x) + 6)) (v := .int m6) hS rfl (tr_ms hr (by omega)) rfl rfl (by omega) (congrArg Value.int e6) rfl ?_
        refine go_icmpP (t' := 79) (pc' := 62) rfl rfl rfl (fun (c2 : ¬ (I 20 ((7 * i) + 1)) = m6) => ?_) (fun (c2' : ¬ ¬ (I 20 ((7 * i) + 1)) = m6) => ?_)
        · skip
          refine go_s (pc' := 80) (st' := [.int 0]) rfl rfl rfl rfl ?_
          refine go_s (pc' := 81) (lo' := [some (.ref 62), some (.int (nI (13 * x))), some (.int 1), some (.int 0), some (.int (nI i))]) rfl rfl rfl rfl ?_
          refine go_ninc (pc' := 82) (a := i) (n := 1) (lo' := [some (.ref 62), some (.int (nI (13 * x))), some (.int 1), some (.int 0), some (.int (nI (i + 1)))]) rfl rfl rfl rfl rfl rfl ?_
          refine go_s (pc' := 33) rfl rfl rfl rfl ?_
          have z := ih (i + 1) (by omega)
          rw [show (d0 || mdup I q (i + 1)) = false by show (d0 || (mdup I q i || smr q (fun j => I 20 (7 * i + j)))) = false; rw [← Bool.or_assoc, hdb, show smr q (fun j => I 20 (7 * i + j)) = false from decide_eq_false (fun y => c2 (y.2.1.symm.trans e1))]; rfl] at z
          exact z
        · skip
          have c2 : (I 20 ((7 * i) + 1)) = m6 := Decidable.not_not.mp c2'
          refine go_s (pc' := 63) rfl rfl rfl rfl ?_
          refine go_sget (pc' := 64) (v := .ref 87) hS rfl rfl rfl (by decide) rfl rfl ?_
          refine go_s (pc' := 65) (st' := [.int 7, .ref 87]) rfl rfl rfl rfl ?_
          refine go_s (pc' := 66) rfl rfl rfl rfl ?_
          refine go_nmul (pc' := 67) (a := 7) (b := i) rfl rfl rfl rfl rfl ?_
          refine go_s (pc' := 68) (st' := [.int 2, .int (nI (7 * i)), .ref 87]) rfl rfl rfl rfl ?_
          refine go_nadd (pc' := 69) (a := (7 * i)) (b := 2) rfl rfl rfl rfl rfl ?_
          refine go_sald (pc' := 70) (q := ((7 * i) + 2)) (v := .int (I 20 ((7 * i) + 2))) hS rfl (tr_s hr (a := 87) rfl (by omega)) rfl rfl (by omega) rfl rfl ?_
          refine go_s (pc' := 71) rfl rfl rfl rfl ?_
          refine go_sget (pc' := 72) (v := .ref am) hS rfl rfl rfl (by decide) rfl rfl ?_
          refine go_s (pc' := 73) rfl rfl rfl rfl ?_
          refine go_s (pc' := 74) (st' := [.int 7, .int (nI (13 * x)), .ref am, .int (I 20 ((7 * i) + 2))]) rfl rfl rfl rfl ?_
          refine go_nadd (pc' := 75) (a := (13 * x)) (b := 7) rfl rfl rfl rfl rfl ?_
          refine go_sald (pc' := 76) (q := ((13 * x) + 7)) (v := .int m7) hS rfl (tr_ms hr (by omega)) rfl rfl (by omega) (congrArg Value.int e7) rfl ?_
          refine go_icmpP (t' := 79) (pc' := 77) rfl rfl rfl (fun (c3 : ¬ (I 20 ((7 * i) + 2)) = m7) => ?_) (fun (c3' : ¬ ¬ (I 20 ((7 * i) + 2)) = m7) => ?_)
          · skip
            refine go_s (pc' := 80) (st' := [.int 0]) rfl rfl rfl rfl ?_
            refine go_s (pc' := 81) (lo' := [some (.ref 62), some (.int (nI (13 * x))), some (.int 1), some (.int 0), some (.int (nI i))]) rfl rfl rfl rfl ?_
            refine go_ninc (pc' := 82) (a := i) (n := 1) (lo' := [some (.ref 62), some (.int (nI (13 * x))), some (.int 1), some (.int 0), some (.int (nI (i + 1)))]) rfl rfl rfl rfl rfl rfl ?_
            refine go_s (pc' := 33) rfl rfl rfl rfl ?_
            have z := ih (i + 1) (by omega)
            rw [show (d0 || mdup I q (i + 1)) = false by show (d0 || (mdup I q i || smr q (fun j => I 20 (7 * i + j)))) = false; rw [← Bool.or_assoc, hdb, show smr q (fun j => I 20 (7 * i + j)) = false from decide_eq_false (fun y => c3 (y.2.2.symm.trans e2))]; rfl] at z
            exact z
          · skip
            have c3 : (I 20 ((7 * i) + 2)) = m7 := Decidable.not_not.mp c3'
            refine go_s (pc' := 78) (st' := [.int 1]) rfl rfl rfl rfl ?_
            refine go_s (pc' := 80) rfl rfl rfl rfl ?_
            refine go_s (pc' := 81) (lo' := [some (.ref 62), some (.int (nI (13 * x))), some (.int 1), some (.int 1), some (.int (nI i))]) rfl rfl rfl rfl ?_
            refine go_ninc (pc' := 82) (a := i) (n := 1) (lo' := [some (.ref 62), some (.int (nI (13 * x))), some (.int 1), some (.int 1), some (.int (nI (i + 1)))]) rfl rfl rfl rfl rfl rfl ?_
            refine go_s (pc' := 33) rfl rfl rfl rfl ?_
            have z := ih (i + 1) (by omega)
            rw [show (d0 || mdup I q (i + 1)) = true by show (d0 || (mdup I q i || smr q (fun j => I 20 (7 * i + j)))) = true; rw [← Bool.or_assoc, hdb, show smr q (fun j => I 20 (7 * i + j)) = true from decide_eq_true ⟨e5.trans c1.symm, e1.trans c2.symm, e2.trans c3.symm⟩]; rfl] at z
            exact z
    · skip
      show am_Go _ _ _ _ _ [some (.ref 62), some (.int (nI (13 * x))), some (.int 1), some (.int 1), some (.int (nI i))] _ _ _
      refine go_s (pc' := 34) rfl rfl rfl rfl ?_
      refine go_s (pc' := 35) rfl rfl rfl rfl ?_
      refine go_sget (pc' := 36) (v := .int (nI n)) hS rfl rfl rfl (by decide) (congrArg Value.int en) rfl ?_
      refine go_icmpP (t' := 83) (pc' := 37) rfl rfl rfl (fun (c : (nI n) ≤ (nI i)) => absurd c (nI_ge hi (by omega))) (fun _ => ?_)
      refine go_s (pc' := 38) rfl rfl rfl rfl ?_
      refine go_ifP (t' := 77) (pc' := 39) rfl rfl rfl (fun _ => ?_) (fun (c : ¬ (¬ (1 : Int32) = 0)) => absurd (by decide) c)
      refine go_s (pc' := 78) (st' := [.int 1]) rfl rfl rfl rfl ?_
      refine go_s (pc' := 80) rfl rfl rfl rfl ?_
      refine go_s (pc' := 81) (lo' := [some (.ref 62), some (.int (nI (13 * x))), some (.int 1), some (.int 1), some (.int (nI i))]) rfl rfl rfl rfl ?_
      refine go_ninc (pc' := 82) (a := i) (n := 1) (lo' := [some (.ref 62), some (.int (nI (13 * x))), some (.int 1), some (.int 1), some (.int (nI (i + 1)))]) rfl rfl rfl rfl rfl rfl ?_
      refine go_s (pc' := 33) rfl rfl rfl rfl ?_
      have z := ih (i + 1) (by omega)
      rw [show (d0 || mdup I q (i + 1)) = true by show (d0 || (mdup I q i || smr q (fun j => I 20 (7 * i + j)))) = true; rw [← Bool.or_assoc, hdb]; rfl] at z
      exact z
theorem ra_cm_0 {w : Nat → Bool} {d B R : Nat} {x : Nat} {m : mg} {hb : Bool} {h : am_Hp} {I : sm_I} {Q : mQ} {Z : mZ} (hA : RA w B R [(x, m)] hb h (I, Q, Z)) (hR : R + 2 < 40000) (hm0 : m.1 0 = 1) (e5 : m.1 5 = 0) {n : Nat} (en : I 21 0 = nI n) (hn8 : n ≤ 8) (hp0 : prk I 0) (hn0 : ¬ I 11 0 = -1) (hd : 3 ≤ d) : am_Ev (am_prog w) d 180 [.ref 62, .int (nI (13 * x))] h (fun r h' => r = none ∧ RA w B (R + 2) [(x, m)] hb h' (mac (fun i => m.1 (5 + i)) (I, Q, Z))) := by
  obtain ⟨K, Y, am, ln, hS, hU⟩ := RA_u.mp hA
  change sm (tbr am (13 * ln) 77 5088) h (jn I K) Y at hS
  obtain ⟨hW, hWm, -, -, hr, -⟩ := id hU.1
  have hln := RU_ln hU (by omega)
  obtain ⟨d, rfl⟩ : ∃ e, d = e + 1 := ⟨d - 1, by omega⟩
  refine ev_go rfl (Nat.le_of_ble_eq_true rfl) rfl ?_
  have hx := RU_h hU (x := x) (m := m) (by simp)
  have hxl := hx.1
  have e65 : K 50 (13 * x + 5) = 0 := hx.2.2.2.1.trans e5
  have e66 : K 50 (13 * x + 6) = m.1 6 := hx.2.2.2.2.1 0 (by rw [hm0]; decide)
  have e67 : K 50 (13 * x + 7) = m.1 7 := hx.2.2.2.2.1 1 (by rw [hm0]; decide)
  refine go_s (pc' := 1) rfl rfl rfl rfl ?_
  refine go_sget (pc' := 2) (v := .ref am) hS rfl rfl rfl (by decide) rfl rfl ?_
  refine go_s (pc' := 3) rfl rfl rfl rfl ?_
  refine go_s (pc' := 4) (st' := [.int 5, .int (nI (13 * x)), .ref am]) rfl rfl rfl rfl ?_
  refine go_nadd (pc' := 5) (a := (13 * x)) (b := 5) rfl rfl rfl rfl rfl ?_
  refine go_sald (pc' := 6) (q := ((13 * x) + 5)) (v := .int 0) hS rfl (tr_ms hr (by omega)) rfl rfl (by omega) (congrArg Value.int e65) rfl ?_
  refine go_s (pc' := 7) (lo' := [some (.ref 62), some (.int (nI (13 * x))), some (.int 0), none, none]) rfl rfl rfl rfl ?_
  refine go_s (pc' := 8) rfl rfl rfl rfl ?_
  refine go_sget (pc' := 9) (v := .int (nI n)) hS rfl rfl rfl (by decide) (congrArg Value.int en) rfl ?_
  refine go_s (pc' := 10) (st' := [.int 8, .int (nI n)]) rfl rfl rfl rfl ?_
  refine go_icmpP (t' := 27) (pc' := 11) rfl rfl rfl (fun (c1 : (nI n) = 8) => ?_) (fun (c1 : ¬ (nI n) = 8) => ?_)
  · skip
    refine go_s (pc' := 28) (st' := [.int 1]) rfl rfl rfl rfl ?_
    refine go_s (pc' := 30) rfl rfl rfl rfl ?_
    refine go_s (pc' := 31) (lo' := [some (.ref 62), some (.int (nI (13 * x))), some (.int 0), some (.int 1), none]) rfl rfl rfl rfl ?_
    refine go_s (pc' := 32) (st' := [.int 0]) rfl rfl rfl rfl ?_
    refine go_s (pc' := 33) (lo' := [some (.ref 62), some (.int (nI (13 * x))), some (.int 0), some (.int 1), some (.int 0)]) rfl rfl rfl rfl ?_
    refine lp_cm_0 (q := (fun i => m.1 (5 + i))) (d0 := true) hr hS hln hxl en hn8 e66 e67 e5 rfl rfl ?_ n 0 (by omega)
    cases hdd : (true || mdup I (fun i => m.1 (5 + i)) n)
    · skip
      exact absurd hdd (by simp)
    · skip
      show am_Go _ _ _ _ _ [some (.ref 62), some (.int (nI (13 * x))), some (.int 0), some (.int 1), some (.int (nI n))] _ _ _
      refine go_s (pc' := 84) rfl rfl rfl rfl ?_
      refine go_ifP (t' := 86) (pc' := 85) rfl rfl rfl (fun (c : (1 : Int32) = 0) => absurd c (by decide)) (fun _ => ?_)
      refine go_ret rfl rfl ?_
      have hms : mac (fun i => m.1 (5 + i)) (I, Q, Z) = (I, Q, Z) := if_pos (Or.inl ((stn_n en hn8).trans ((nI_eq (b := 8) (by omega) (by decide)).mp c1)))
      rw [hms]
      exact ⟨rfl, RA_R (by omega) hA⟩
  · skip
    refine go_s (pc' := 12) rfl rfl rfl rfl ?_
    refine go_s (pc' := 13) rfl rfl rfl rfl ?_
    refine go_s (pc' := 14) rfl rfl rfl rfl ?_
    refine go_sget (pc' := 15) (v := .ref am) hS rfl rfl rfl (by decide) rfl rfl ?_
    refine go_s (pc' := 16) rfl rfl rfl rfl ?_
    refine go_s (pc' := 17) (st' := [.int 6, .int (nI (13 * x)), .ref am, .int 0, .ref 62]) rfl rfl rfl rfl ?_
    refine go_nadd (pc' := 18) (a := (13 * x)) (b := 6) rfl rfl rfl rfl rfl ?_
    refine go_sald (pc' := 19) (q := ((13 * x) + 6)) (v := .int (m.1 6)) hS rfl (tr_ms hr (by omega)) rfl rfl (by omega) (congrArg Value.int (hx.2.2.2.2.1 0 (by rw [hm0]; decide))) rfl ?_
    refine go_s (pc' := 20) rfl rfl rfl rfl ?_
    refine go_sget (pc' := 21) (v := .ref am) hS rfl rfl rfl (by decide) rfl rfl ?_
    refine go_s (pc' := 22) rfl rfl rfl rfl ?_
    refine go_s (pc' := 23) (st' := [.int 7, .int (nI (13 * x)), .ref am, .int (m.1 6), .int 0, .ref 62]) rfl rfl rfl rfl ?_
    refine go_nadd (pc' := 24) (a := (13 * x)) (b := 7) rfl rfl rfl rfl rfl ?_
    refine go_sald (pc' := 25) (q := ((13 * x) + 7)) (v := .int (m.1 7)) hS rfl (tr_ms hr (by omega)) rfl rfl (by omega) (congrArg Value.int (hx.2.2.2.2.1 1 (by rw [hm0]; decide))) rfl ?_
    refine go_callV (pc' := 26) rfl rfl rfl (Nat.le_of_ble_eq_true rfl) rfl (sm_o hS rfl) rfl rfl rfl (ra_bd_0 hA (by omega) e5 hp0 hn0 (by omega)) (fun r h2 q3 => ?_)
    obtain ⟨rfl, rfl⟩ := q3
    cases u4 : mbd (row1 (I, Q, Z) 0) (fun i => m.1 (5 + i))
    · skip
      show am_Go _ _ _ _ 26 _ [.int 0] _ _
      refine go_ifP (t' := 29) (pc' := 27) rfl rfl rfl (fun _ => ?_) (fun (c : ¬ ((0 : Int32) = 0)) => absurd (by decide) c)
      refine go_s (pc' := 30) (st' := [.int 0]) rfl rfl rfl rfl ?_
      refine go_s (pc' := 31) (lo' := [some (.ref 62), some (.int (nI (13 * x))), some (.int 0), some (.int 0), none]) rfl rfl rfl rfl ?_
      refine go_s (pc' := 32) (st' := [.int 0]) rfl rfl rfl rfl ?_
      refine go_s (pc' := 33) (lo' := [some (.ref 62), some (.int (nI (13 * x))), some (.int 0), some (.int 0), some (.int 0)]) rfl rfl rfl rfl ?_
      refine lp_cm_0 (q := (fun i => m.1 (5 + i))) (d0 := false) hr hS hln hxl en hn8 e66 e67 e5 rfl rfl ?_ n 0 (by omega)
      cases hdd : (false || mdup I (fun i => m.1 (5 + i)) n)
      · skip
        have hn7 : n < 8 := Nat.lt_of_le_of_ne hn8 (fun e => c1 (by rw [e]; rfl))
        show am_Go _ _ _ _ _ [some (.ref 62), some (.int (nI (13 * x))), some (.int 0), some (.int 0), some (.int (nI n))] _ _ _
        refine go_s (pc' := 84) rfl rfl rfl rfl ?_
        refine go_ifP (t' := 86) (pc' := 85) rfl rfl rfl (fun _ => ?_) (fun (c : ¬ ((0 : Int32) = 0)) => absurd (by decide) c)
        refine go_s (pc' := 87) rfl rfl rfl rfl ?_
        refine go_sget (pc' := 88) (v := .ref 87) hS rfl rfl rfl (by decide) rfl rfl ?_
        refine go_s (pc' := 89) (st' := [.int 7, .ref 87]) rfl rfl rfl rfl ?_
        refine go_s (pc' := 90) rfl rfl rfl rfl ?_
        refine go_sget (pc' := 91) (v := .int (nI n)) hS rfl rfl rfl (by decide) (congrArg Value.int en) rfl ?_
        refine go_nmul (pc' := 92) (a := 7) (b := n) rfl rfl rfl rfl rfl ?_
        refine go_s (pc' := 93) rfl rfl rfl rfl ?_
        refine go_siast (pc' := 94) (q := (7 * n)) hS rfl (tr_s hr (a := 87) rfl (by omega)) tbr_inj (Nat.le_of_ble_eq_true rfl) rfl (by omega) (by decide) (hW _ (by decide) (by decide)) rfl (fun h5 hS6 hE7 => ?_)
        refine go_s (pc' := 95) (st' := [.int 0]) rfl rfl rfl rfl ?_
        refine go_s (pc' := 96) (lo' := [some (.ref 62), some (.int (nI (13 * x))), some (.int 0), some (.int 0), some (.int 0)]) rfl rfl rfl rfl ?_
        refine go_s (pc' := 97) rfl rfl rfl rfl ?_
        refine go_s (pc' := 98) (st' := [.int 6, .int 0]) rfl rfl rfl rfl ?_
        refine go_icmpP (t' := 120) (pc' := 99) rfl rfl rfl (fun (c : 6 ≤ (0 : Int32)) => absurd c (by decide)) (fun _ => ?_)
        refine go_s (pc' := 100) rfl rfl rfl rfl ?_
        refine go_sget (pc' := 101) (v := .ref 87) hS6 rfl rfl rfl (by decide) rfl rfl ?_
        refine go_s (pc' := 102) (st' := [.int 7, .ref 87]) rfl rfl rfl rfl ?_
        refine go_s (pc' := 103) rfl rfl rfl rfl ?_
        refine go_sget (pc' := 104) (v := .int (nI n)) hS6 rfl rfl rfl (by decide) (congrArg Value.int en) rfl ?_
        refine go_nmul (pc' := 105) (a := 7) (b := n) rfl rfl rfl rfl rfl ?_
        refine go_s (pc' := 106) (st' := [.int 1, .int (nI (7 * n)), .ref 87]) rfl rfl rfl rfl ?_
        refine go_nadd (pc' := 107) (a := (7 * n)) (b := 1) rfl rfl rfl rfl rfl ?_
        refine go_s (pc' := 108) rfl rfl rfl rfl ?_
        refine go_nadd (pc' := 109) (a := ((7 * n) + 1)) (b := 0) rfl rfl rfl rfl rfl ?_
        refine go_s (pc' := 110) rfl rfl rfl rfl ?_
        refine go_sget (pc' := 111) (v := .ref am) hS6 rfl rfl rfl (by decide) rfl rfl ?_
        refine go_s (pc' := 112) rfl rfl rfl rfl ?_
        refine go_s (pc' := 113) (st' := [.int 6, .int (nI (13 * x)), .ref am, .int (nI (((7 * n) + 1) + 0)), .ref 87]) rfl rfl rfl rfl ?_
        refine go_nadd (pc' := 114) (a := (13 * x)) (b := 6) rfl rfl rfl rfl rfl ?_
        refine go_s (pc' := 115) rfl rfl rfl rfl ?_
        refine go_nadd (pc' := 116) (a := ((13 * x) + 6)) (b := 0) rfl rfl rfl rfl rfl ?_
        refine go_sald (pc' := 117) (q := (((13 * x) + 6) + 0)) (v := .int (m.1 6)) hS6 rfl (tr_ms hr (by omega)) rfl rfl (by omega) (congrArg Value.int (hx.2.2.2.2.1 0 (by rw [hm0]; decide))) rfl ?_
        refine go_siast (pc' := 118) (q := (((7 * n) + 1) + 0)) hS6 rfl (tr_s hr (a := 87) rfl (by omega)) tbr_inj (Nat.le_of_ble_eq_true rfl) rfl (by omega) (by decide) (hW _ (by decide) (by decide)) rfl (fun h8 hS9 hE10 => ?_)
        have hE11 := sm_e_trans hE7 hE10
        refine go_s (pc' := 119) (lo' := [some (.ref 62), some (.int (nI (13 * x))), some (.int 0), some (.int 0), some (.int 1)]) rfl rfl rfl rfl ?_
        refine go_s (pc' := 96) rfl rfl rfl rfl ?_
        refine go_s (pc' := 97) rfl rfl rfl rfl ?_
        refine go_s (pc' := 98) (st' := [.int 6, .int 1]) rfl rfl rfl rfl ?_
        refine go_icmpP (t' := 120) (pc' := 99) rfl rfl rfl (fun (c : 6 ≤ (1 : Int32)) => absurd c (by decide)) (fun _ => ?_)
        refine go_s (pc' := 100) rfl rfl rfl rfl ?_
        refine go_sget (pc' := 101) (v := .ref 87) hS9 rfl rfl rfl (by decide) rfl rfl ?_
        refine go_s (pc' := 102) (st' := [.int 7, .ref 87]) rfl rfl rfl rfl ?_
        refine go_s (pc' := 103) rfl rfl rfl rfl ?_
        refine go_sget (pc' := 104) (v := .int (nI n)) hS9 rfl rfl rfl (by decide) (congrArg Value.int en) rfl ?_
        refine go_nmul (pc' := 105) (a := 7) (b := n) rfl rfl rfl rfl rfl ?_
        refine go_s (pc' := 106) (st' := [.int 1, .int (nI (7 * n)), .ref 87]) rfl rfl rfl rfl ?_
        refine go_nadd (pc' := 107) (a := (7 * n)) (b := 1) rfl rfl rfl rfl rfl ?_
        refine go_s (pc' := 108) rfl rfl rfl rfl ?_
        refine go_nadd (pc' := 109) (a := ((7 * n) + 1)) (b := 1) rfl rfl rfl rfl rfl ?_
        refine go_s (pc' := 110) rfl rfl rfl rfl ?_
        refine go_sget (pc' := 111) (v := .ref am) hS9 rfl rfl rfl (by decide) rfl rfl ?_
        refine go_s (pc' := 112) rfl rfl rfl rfl ?_
        refine go_s (pc' := 113) (st' := [.int 6, .int (nI (13 * x)), .ref am, .int (nI (((7 * n) + 1) + 1)), .ref 87]) rfl rfl rfl rfl ?_
        refine go_nadd (pc' := 114) (a := (13 * x)) (b := 6) rfl rfl rfl rfl rfl ?_
        refine go_s (pc' := 115) rfl rfl rfl rfl ?_
        refine go_nadd (pc' := 116) (a := ((13 * x) + 6)) (b := 1) rfl rfl rfl rfl rfl ?_
        refine go_sald (pc' := 117) (q := (((13 * x) + 6) + 1)) (v := .int (m.1 7)) hS9 rfl (tr_ms hr (by omega)) rfl rfl (by omega) (congrArg Value.int (hx.2.2.2.2.1 1 (by rw [hm0]; decide))) rfl ?_
        refine go_siast (pc' := 118) (q := (((7 * n) + 1) + 1)) hS9 rfl (tr_s hr (a := 87) rfl (by omega)) tbr_inj (Nat.le_of_ble_eq_true rfl) rfl (by omega) (by decide) (hW _ (by decide) (by decide)) rfl (fun h12 hS13 hE14 => ?_)
        have hE15 := sm_e_trans hE11 hE14
        refine go_s (pc' := 119) (lo' := [some (.ref 62), some (.int (nI (13 * x))), some (.int 0), some (.int 0), some (.int 2)]) rfl rfl rfl rfl ?_
        refine go_s (pc' := 96) rfl rfl rfl rfl ?_
        refine go_s (pc' := 97) rfl rfl rfl rfl ?_
        refine go_s (pc' := 98) (st' := [.int 6, .int 2]) rfl rfl rfl rfl ?_
        refine go_icmpP (t' := 120) (pc' := 99) rfl rfl rfl (fun (c : 6 ≤ (2 : Int32)) => absurd c (by decide)) (fun _ => ?_)
        refine go_s (pc' := 100) rfl rfl rfl rfl ?_
        refine go_sget (pc' := 101) (v := .ref 87) hS13 rfl rfl rfl (by decide) rfl rfl ?_
        refine go_s (pc' := 102) (st' := [.int 7, .ref 87]) rfl rfl rfl rfl ?_
        refine go_s (pc' := 103) rfl rfl rfl rfl ?_
        refine go_sget (pc' := 104) (v := .int (nI n)) hS13 rfl rfl rfl (by decide) (congrArg Value.int en) rfl ?_
        refine go_nmul (pc' := 105) (a := 7) (b := n) rfl rfl rfl rfl rfl ?_
        refine go_s (pc' := 106) (st' := [.int 1, .int (nI (7 * n)), .ref 87]) rfl rfl rfl rfl ?_
        refine go_nadd (pc' := 107) (a := (7 * n)) (b := 1) rfl rfl rfl rfl rfl ?_
        refine go_s (pc' := 108) rfl rfl rfl rfl ?_
        refine go_nadd (pc' := 109) (a := ((7 * n) + 1)) (b := 2) rfl rfl rfl rfl rfl ?_
        refine go_s (pc' := 110) rfl rfl rfl rfl ?_
        refine go_sget (pc' := 111) (v := .ref am) hS13 rfl rfl rfl (by decide) rfl rfl ?_
        refine go_s (pc' := 112) rfl rfl rfl rfl ?_
        refine go_s (pc' := 113) (st' := [.int 6, .int (nI (13 * x)), .ref am, .int (nI (((7 * n) + 1) + 2)), .ref 87]) rfl rfl rfl rfl ?_
        refine go_nadd (pc' := 114) (a := (13 * x)) (b := 6) rfl rfl rfl rfl rfl ?_
        refine go_s (pc' := 115) rfl rfl rfl rfl ?_
        refine go_nadd (pc' := 116) (a := ((13 * x) + 6)) (b := 2) rfl rfl rfl rfl rfl ?_
        refine go_sald (pc' := 117) (q := (((13 * x) + 6) + 2)) (v := .int (m.1 8)) hS13 rfl (tr_ms hr (by omega)) rfl rfl (by omega) (congrArg Value.int (hx.2.2.2.2.1 2 (by rw [hm0]; decide))) rfl ?_
        refine go_siast (pc' := 118) (q := (((7 * n) + 1) + 2)) hS13 rfl (tr_s hr (a := 87) rfl (by omega)) tbr_inj (Nat.le_of_ble_eq_true rfl) rfl (by omega) (by decide) (hW _ (by decide) (by decide)) rfl (fun h16 hS17 hE18 => ?_)
        have hE19 := sm_e_trans hE15 hE18
        refine go_s (pc' := 119) (lo' := [some (.ref 62), some (.int (nI (13 * x))), some (.int 0), some (.int 0), some (.int 3)]) rfl rfl rfl rfl ?_
        refine go_s (pc' := 96) rfl rfl rfl rfl ?_
        refine go_s (pc' := 97) rfl rfl rfl rfl ?_
        refine go_s (pc' := 98) (st' := [.int 6, .int 3]) rfl rfl rfl rfl ?_
        refine go_icmpP (t' := 120) (pc' := 99) rfl rfl rfl (fun (c : 6 ≤ (3 : Int32)) => absurd c (by decide)) (fun _ => ?_)
        refine go_s (pc' := 100) rfl rfl rfl rfl ?_
        refine go_sget (pc' := 101) (v := .ref 87) hS17 rfl rfl rfl (by decide) rfl rfl ?_
        refine go_s (pc' := 102) (st' := [.int 7, .ref 87]) rfl rfl rfl rfl ?_
        refine go_s (pc' := 103) rfl rfl rfl rfl ?_
        refine go_sget (pc' := 104) (v := .int (nI n)) hS17 rfl rfl rfl (by decide) (congrArg Value.int en) rfl ?_
        refine go_nmul (pc' := 105) (a := 7) (b := n) rfl rfl rfl rfl rfl ?_
        refine go_s (pc' := 106) (st' := [.int 1, .int (nI (7 * n)), .ref 87]) rfl rfl rfl rfl ?_
        refine go_nadd (pc' := 107) (a := (7 * n)) (b := 1) rfl rfl rfl rfl rfl ?_
        refine go_s (pc' := 108) rfl rfl rfl rfl ?_
        refine go_nadd (pc' := 109) (a := ((7 * n) + 1)) (b := 3) rfl rfl rfl rfl rfl ?_
        refine go_s (pc' := 110) rfl rfl rfl rfl ?_
        refine go_sget (pc' := 111) (v := .ref am) hS17 rfl rfl rfl (by decide) rfl rfl ?_
        refine go_s (pc' := 112) rfl rfl rfl rfl ?_
        refine go_s (pc' := 113) (st' := [.int 6, .int (nI (13 * x)), .ref am, .int (nI (((7 * n) + 1) + 3)), .ref 87]) rfl rfl rfl rfl ?_
        refine go_nadd (pc' := 114) (a := (13 * x)) (b := 6) rfl rfl rfl rfl rfl ?_
        refine go_s (pc' := 115) rfl rfl rfl rfl ?_
        refine go_nadd (pc' := 116) (a := ((13 * x) + 6)) (b := 3) rfl rfl rfl rfl rfl ?_
        refine go_sald (pc' := 117) (q := (((13 * x) + 6) + 3)) (v := .int (m.1 9)) hS17 rfl (tr_ms hr (by omega)) rfl rfl (by omega) (congrArg Value.int (hx.2.2.2.2.1 3 (by rw [hm0]; decide))) rfl ?_
        refine go_siast (pc' := 118) (q := (((7 * n) + 1) + 3)) hS17 rfl (tr_s hr (a := 87) rfl (by omega)) tbr_inj (Nat.le_of_ble_eq_true rfl) rfl (by omega) (by decide) (hW _ (by decide) (by decide)) rfl (fun h20 hS21 hE22 => ?_)
        have hE23 := sm_e_trans hE19 hE22
        refine go_s (pc' := 119) (lo' := [some (.ref 62), some (.int (nI (13 * x))), some (.int 0), some (.int 0), some (.int 4)]) rfl rfl rfl rfl ?_
        refine go_s (pc' := 96) rfl rfl rfl rfl ?_
        refine go_s (pc' := 97) rfl rfl rfl rfl ?_
        refine go_s (pc' := 98) (st' := [.int 6, .int 4]) rfl rfl rfl rfl ?_
        refine go_icmpP (t' := 120) (pc' := 99) rfl rfl rfl (fun (c : 6 ≤ (4 : Int32)) => absurd c (by decide)) (fun _ => ?_)
        refine go_s (pc' := 100) rfl rfl rfl rfl ?_
        refine go_sget (pc' := 101) (v := .ref 87) hS21 rfl rfl rfl (by decide) rfl rfl ?_
        refine go_s (pc' := 102) (st' := [.int 7, .ref 87]) rfl rfl rfl rfl ?_
        refine go_s (pc' := 103) rfl rfl rfl rfl ?_
        refine go_sget (pc' := 104) (v := .int (nI n)) hS21 rfl rfl rfl (by decide) (congrArg Value.int en) rfl ?_
        refine go_nmul (pc' := 105) (a := 7) (b := n) rfl rfl rfl rfl rfl ?_
        refine go_s (pc' := 106) (st' := [.int 1, .int (nI (7 * n)), .ref 87]) rfl rfl rfl rfl ?_
        refine go_nadd (pc' := 107) (a := (7 * n)) (b := 1) rfl rfl rfl rfl rfl ?_
        refine go_s (pc' := 108) rfl rfl rfl rfl ?_
        refine go_nadd (pc' := 109) (a := ((7 * n) + 1)) (b := 4) rfl rfl rfl rfl rfl ?_
        refine go_s (pc' := 110) rfl rfl rfl rfl ?_
        refine go_sget (pc' := 111) (v := .ref am) hS21 rfl rfl rfl (by decide) rfl rfl ?_
        refine go_s (pc' := 112) rfl rfl rfl rfl ?_
        refine go_s (pc' := 113) (st' := [.int 6, .int (nI (13 * x)), .ref am, .int (nI (((7 * n) + 1) + 4)), .ref 87]) rfl rfl rfl rfl ?_
        refine go_nadd (pc' := 114) (a := (13 * x)) (b := 6) rfl rfl rfl rfl rfl ?_
        refine go_s (pc' := 115) rfl rfl rfl rfl ?_
        refine go_nadd (pc' := 116) (a := ((13 * x) + 6)) (b := 4) rfl rfl rfl rfl rfl ?_
        refine go_sald (pc' := 117) (q := (((13 * x) + 6) + 4)) (v := .int (m.1 10)) hS21 rfl (tr_ms hr (by omega)) rfl rfl (by omega) (congrArg Value.int (hx.2.2.2.2.1 4 (by rw [hm0]; decide))) rfl ?_
        refine go_siast (pc' := 118) (q := (((7 * n) + 1) + 4)) hS21 rfl (tr_s hr (a := 87) rfl (by omega)) tbr_inj (Nat.le_of_ble_eq_true rfl) rfl (by omega) (by decide) (hW _ (by decide) (by decide)) rfl (fun h24 hS25 hE26 => ?_)
        have hE27 := sm_e_trans hE23 hE26
        refine go_s (pc' := 119) (lo' := [some (.ref 62), some (.int (nI (13 * x))), some (.int 0), some (.int 0), some (.int 5)]) rfl rfl rfl rfl ?_
        refine go_s (pc' := 96) rfl rfl rfl rfl ?_
        refine go_s (pc' := 97) rfl rfl rfl rfl ?_
        refine go_s (pc' := 98) (st' := [.int 6, .int 5]) rfl rfl rfl rfl ?_
        refine go_icmpP (t' := 120) (pc' := 99) rfl rfl rfl (fun (c : 6 ≤ (5 : Int32)) => absurd c (by decide)) (fun _ => ?_)
        refine go_s (pc' := 100) rfl rfl rfl rfl ?_
        refine go_sget (pc' := 101) (v := .ref 87) hS25 rfl rfl rfl (by decide) rfl rfl ?_
        refine go_s (pc' := 102) (st' := [.int 7, .ref 87]) rfl rfl rfl rfl ?_
        refine go_s (pc' := 103) rfl rfl rfl rfl ?_
        refine go_sget (pc' := 104) (v := .int (nI n)) hS25 rfl rfl rfl (by decide) (congrArg Value.int en) rfl ?_
        refine go_nmul (pc' := 105) (a := 7) (b := n) rfl rfl rfl rfl rfl ?_
        refine go_s (pc' := 106) (st' := [.int 1, .int (nI (7 * n)), .ref 87]) rfl rfl rfl rfl ?_
        refine go_nadd (pc' := 107) (a := (7 * n)) (b := 1) rfl rfl rfl rfl rfl ?_
        refine go_s (pc' := 108) rfl rfl rfl rfl ?_
        refine go_nadd (pc' := 109) (a := ((7 * n) + 1)) (b := 5) rfl rfl rfl rfl rfl ?_
        refine go_s (pc' := 110) rfl rfl rfl rfl ?_
        refine go_sget (pc' := 111) (v := .ref am) hS25 rfl rfl rfl (by decide) rfl rfl ?_
        refine go_s (pc' := 112) rfl rfl rfl rfl ?_
        refine go_s (pc' := 113) (st' := [.int 6, .int (nI (13 * x)), .ref am, .int (nI (((7 * n) + 1) + 5)), .ref 87]) rfl rfl rfl rfl ?_
        refine go_nadd (pc' := 114) (a := (13 * x)) (b := 6) rfl rfl rfl rfl rfl ?_
        refine go_s (pc' := 115) rfl rfl rfl rfl ?_
        refine go_nadd (pc' := 116) (a := ((13 * x) + 6)) (b := 5) rfl rfl rfl rfl rfl ?_
        refine go_sald (pc' := 117) (q := (((13 * x) + 6) + 5)) (v := .int (m.1 11)) hS25 rfl (tr_ms hr (by omega)) rfl rfl (by omega) (congrArg Value.int (hx.2.2.2.2.1 5 (by rw [hm0]; decide))) rfl ?_
        refine go_siast (pc' := 118) (q := (((7 * n) + 1) + 5)) hS25 rfl (tr_s hr (a := 87) rfl (by omega)) tbr_inj (Nat.le_of_ble_eq_true rfl) rfl (by omega) (by decide) (hW _ (by decide) (by decide)) rfl (fun h28 hS29 hE30 => ?_)
        have hE31 := sm_e_trans hE27 hE30
        refine go_s (pc' := 119) (lo' := [some (.ref 62), some (.int (nI (13 * x))), some (.int 0), some (.int 0), some (.int 6)]) rfl rfl rfl rfl ?_
        refine go_s (pc' := 96) rfl rfl rfl rfl ?_
        refine go_s (pc' := 97) rfl rfl rfl rfl ?_
        refine go_s (pc' := 98) (st' := [.int 6, .int 6]) rfl rfl rfl rfl ?_
        refine go_icmpP (t' := 120) (pc' := 99) rfl rfl rfl (fun _ => ?_) (fun (c : ¬ (6 ≤ (6 : Int32))) => absurd (by decide) c)
        refine go_s (pc' := 121) rfl rfl rfl rfl ?_
        refine go_s (pc' := 122) rfl rfl rfl rfl ?_
        refine go_sget (pc' := 123) (v := .int (nI n)) hS29 rfl rfl rfl (by decide) (congrArg Value.int en) rfl ?_
        refine go_s (pc' := 124) (st' := [.int 1, .int (nI n), .ref 62]) rfl rfl rfl rfl ?_
        refine go_nadd (pc' := 125) (a := n) (b := 1) rfl rfl rfl rfl rfl ?_
        refine go_sput (pc' := 126) hS29 rfl rfl rfl (by decide) tbr_inj (Nat.le_of_ble_eq_true rfl) rfl (hW _ (by decide) (by decide)) rfl (fun h32 hS33 hE34 => ?_)
        have hE35 := sm_e_trans hE31 hE34
        refine go_ret rfl rfl ?_
        change sm (tbr am (13 * ln) 77 5088) _ (uI (uI (uI (uI (uI (uI (uI (uI (jn I K) 20 (7 * n) 0) 20 (((7 * n) + 1) + 0) (m.1 6)) 20 (((7 * n) + 1) + 1) (m.1 7)) 20 (((7 * n) + 1) + 2) (m.1 8)) 20 (((7 * n) + 1) + 3) (m.1 9)) 20 (((7 * n) + 1) + 4) (m.1 10)) 20 (((7 * n) + 1) + 5) (m.1 11)) 21 0 (nI (n + 1))) Y at hS33
        rw [jn_lo (c := 20) (by decide), jn_lo (c := 20) (by decide), jn_lo (c := 20) (by decide), jn_lo (c := 20) (by decide), jn_lo (c := 20) (by decide), jn_lo (c := 20) (by decide), jn_lo (c := 20) (by decide), jn_lo (c := 21) (by decide)] at hS33
        change sm (tbr am (13 * ln) 77 5088) _ (jn (uI (uI (uI (uI (uI (uI (uI (uI I 20 (7 * n) 0) 20 (((7 * n) + 1) + 0) (m.1 6)) 20 (((7 * n) + 1) + 1) (m.1 7)) 20 (((7 * n) + 1) + 2) (m.1 8)) 20 (((7 * n) + 1) + 3) (m.1 9)) 20 (((7 * n) + 1) + 4) (m.1 10)) 20 (((7 * n) + 1) + 5) (m.1 11)) 21 0 (nI (n + 1))) K) Y at hS33
        rw [mrw_u (q := (fun i => m.1 (5 + i))) e5 rfl rfl rfl rfl rfl rfl] at hS33
        have hms : mac (fun i => m.1 (5 + i)) (I, Q, Z) = (mrw I n (fun i => m.1 (5 + i)), Q, Z) := by
          unfold mac
          rw [show stn ((I, Q, Z) : mM).1 = n from stn_n en hn8, if_neg (fun z => z.elim (fun y => c1 (by rw [y]; rfl)) (fun y => by rw [u4, show mdup ((I, Q, Z) : mM).1 (fun i => m.1 (5 + i)) n = false from hdd] at y; exact absurd y (by decide)))]
        rw [hms]
        refine ⟨rfl, RA_u.mpr ⟨_, _, _, _, hS33, RU_I2 hE35 (fun l => ?_) (fun l => ?_) ?_ hU⟩⟩
        · exact if_neg (by omega)
        · exact if_neg (by omega)
        · rw [stn_n en hn8]
          show stn (mrw I n (fun i => m.1 (5 + i))) ≤ n + 1
          unfold stn mrw
          rw [if_neg (by omega), if_pos ⟨rfl, rfl⟩, nI_clamp (by omega)]
          exact Nat.le_refl _
      · skip
        show am_Go _ _ _ _ _ [some (.ref 62), some (.int (nI (13 * x))), some (.int 0), some (.int 1), some (.int (nI n))] _ _ _
        refine go_s (pc' := 84) rfl rfl rfl rfl ?_
        refine go_ifP (t' := 86) (pc' := 85) rfl rfl rfl (fun (c : (1 : Int32) = 0) => absurd c (by decide)) (fun _ => ?_)
        refine go_ret rfl rfl ?_
        have hms : mac (fun i => m.1 (5 + i)) (I, Q, Z) = (I, Q, Z) := if_pos (Or.inr (by rw [u4, show stn ((I, Q, Z) : mM).1 = n from stn_n en hn8]; exact hdd))
        rw [hms]
        exact ⟨rfl, RA_R (by omega) hA⟩
    · skip
      show am_Go _ _ _ _ 26 _ [.int 1] _ _
      refine go_ifP (t' := 29) (pc' := 27) rfl rfl rfl (fun (c : (1 : Int32) = 0) => absurd c (by decide)) (fun _ => ?_)
      refine go_s (pc' := 28) (st' := [.int 1]) rfl rfl rfl rfl ?_
      refine go_s (pc' := 30) rfl rfl rfl rfl ?_
      refine go_s (pc' := 31) (lo' := [some (.ref 62), some (.int (nI (13 * x))), some (.int 0), some (.int 1), none]) rfl rfl rfl rfl ?_
      refine go_s (pc' := 32) (st' := [.int 0]) rfl rfl rfl rfl ?_
      refine go_s (pc' := 33) (lo' := [some (.ref 62), some (.int (nI (13 * x))), some (.int 0), some (.int 1), some (.int 0)]) rfl rfl rfl rfl ?_
      refine lp_cm_0 (q := (fun i => m.1 (5 + i))) (d0 := true) hr hS hln hxl en hn8 e66 e67 e5 rfl rfl ?_ n 0 (by omega)
      cases hdd : (true || mdup I (fun i => m.1 (5 + i)) n)
      · skip
        exact absurd hdd (by simp)
      · skip
        show am_Go _ _ _ _ _ [some (.ref 62), some (.int (nI (13 * x))), some (.int 0), some (.int 1), some (.int (nI n))] _ _ _
        refine go_s (pc' := 84) rfl rfl rfl rfl ?_
        refine go_ifP (t' := 86) (pc' := 85) rfl rfl rfl (fun (c : (1 : Int32) = 0) => absurd c (by decide)) (fun _ => ?_)
        refine go_ret rfl rfl ?_
        have hms : mac (fun i => m.1 (5 + i)) (I, Q, Z) = (I, Q, Z) := if_pos (Or.inr (by rw [u4]; rfl))
        rw [hms]
        exact ⟨rfl, RA_R (by omega) hA⟩
theorem ra_cm_1 {w : Nat → Bool} {d B R : Nat} {x : Nat} {m : mg} {hb : Bool} {h : am_Hp} {I : sm_I} {Q : mQ} {Z : mZ} (hA : RA w B R [(x, m)] hb h (I, Q, Z)) (hR : R + 2 < 40000) (hm0 : m.1 0 = 1) (e5 : m.1 5 = 1) {n : Nat} (en : I 21 0 = nI n) (hn8 : n ≤ 8) (hp0 : prk I 0) (hn0 : ¬ I 11 0 = -1) (hd : 3 ≤ d) : am_Ev (am_prog w) d 180 [.ref 62, .int (nI (13 * x))] h (fun r h' => r = none ∧ RA w B (R + 2) [(x, m)] hb h' (mac (fun i => m.1 (5 + i)) (I, Q, Z))) := by
  obtain ⟨K, Y, am, ln, hS, hU⟩ := RA_u.mp hA
  change sm (tbr am (13 * ln) 77 5088) h (jn I K) Y at hS
  obtain ⟨hW, hWm, -, -, hr, -⟩ := id hU.1
  have hln := RU_ln hU (by omega)
  obtain ⟨d, rfl⟩ : ∃ e, d = e + 1 := ⟨d - 1, by omega⟩
  refine ev_go rfl (Nat.le_of_ble_eq_true rfl) rfl ?_
  have hx := RU_h hU (x := x) (m := m) (by simp)
  have hxl := hx.1
  have e65 : K 50 (13 * x + 5) = 1 := hx.2.2.2.1.trans e5
  have e66 : K 50 (13 * x + 6) = m.1 6 := hx.2.2.2.2.1 0 (by rw [hm0]; decide)
  have e67 : K 50 (13 * x + 7) = m.1 7 := hx.2.2.2.2.1 1 (by rw [hm0]; decide)
  refine go_s (pc' := 1) rfl rfl rfl rfl ?_
  refine go_sget (pc' := 2) (v := .ref am) hS rfl rfl rfl (by decide) rfl rfl ?_
  refine go_s (pc' := 3) rfl rfl rfl rfl ?_
  refine go_s (pc' := 4) (st' := [.int 5, .int (nI (13 * x)), .ref am]) rfl rfl rfl rfl ?_
  refine go_nadd (pc' := 5) (a := (13 * x)) (b := 5) rfl rfl rfl rfl rfl ?_
  refine go_sald (pc' := 6) (q := ((13 * x) + 5)) (v := .int 1) hS rfl (tr_ms hr (by omega)) rfl rfl (by omega) (congrArg Value.int e65) rfl ?_
  refine go_s (pc' := 7) (lo' := [some (.ref 62), some (.int (nI (13 * x))), some (.int 1), none, none]) rfl rfl rfl rfl ?_
  refine go_s (pc' := 8) rfl rfl rfl rfl ?_
  refine go_sget (pc' := 9) (v := .int (nI n)) hS rfl rfl rfl (by decide) (congrArg Value.int en) rfl ?_
  refine go_s (pc' := 10) (st' := [.int 8, .int (nI n)]) rfl rfl rfl rfl ?_
  refine go_icmpP (t' := 27) (pc' := 11) rfl rfl rfl (fun (c1 : (nI n) = 8) => ?_) (fun (c1 : ¬ (nI n) = 8) => ?_)
  · skip
    refine go_s (pc' := 28) (st' := [.int 1]) rfl rfl rfl rfl ?_
    refine go_s (pc' := 30) rfl rfl rfl rfl ?_
    refine go_s (pc' := 31) (lo' := [some (.ref 62), some (.int (nI (13 * x))), some (.int 1), some (.int 1), none]) rfl rfl rfl rfl ?_
    refine go_s (pc' := 32) (st' := [.int 0]) rfl rfl rfl rfl ?_
    refine go_s (pc' := 33) (lo' := [some (.ref 62), some (.int (nI (13 * x))), some (.int 1), some (.int 1), some (.int 0)]) rfl rfl rfl rfl ?_
    refine lp_cm_1 (q := (fun i => m.1 (5 + i))) (d0 := true) hr hS hln hxl en hn8 e66 e67 e5 rfl rfl ?_ n 0 (by omega)
    cases hdd : (true || mdup I (fun i => m.1 (5 + i)) n)
    · skip
      exact absurd hdd (by simp)
    · skip
      show am_Go _ _ _ _ _ [some (.ref 62), some (.int (nI (13 * x))), some (.int 1), some (.int 1), some (.int (nI n))] _ _ _
      refine go_s (pc' := 84) rfl rfl rfl rfl ?_
      refine go_ifP (t' := 86) (pc' := 85) rfl rfl rfl (fun (c : (1 : Int32) = 0) => absurd c (by decide)) (fun _ => ?_)
      refine go_ret rfl rfl ?_
      have hms : mac (fun i => m.1 (5 + i)) (I, Q, Z) = (I, Q, Z) := if_pos (Or.inl ((stn_n en hn8).trans ((nI_eq (b := 8) (by omega) (by decide)).mp c1)))
      rw [hms]
      exact ⟨rfl, RA_R (by omega) hA⟩
  · skip
    refine go_s (pc' := 12) rfl rfl rfl rfl ?_
    refine go_s (pc' := 13) rfl rfl rfl rfl ?_
    refine go_s (pc' := 14) rfl rfl rfl rfl ?_
    refine go_sget (pc' := 15) (v := .ref am) hS rfl rfl rfl (by decide) rfl rfl ?_
    refine go_s (pc' := 16) rfl rfl rfl rfl ?_
    refine go_s (pc' := 17) (st' := [.int 6, .int (nI (13 * x)), .ref am, .int 1, .ref 62]) rfl rfl rfl rfl ?_
    refine go_nadd (pc' := 18) (a := (13 * x)) (b := 6) rfl rfl rfl rfl rfl ?_
    refine go_sald (pc' := 19) (q := ((13 * x) + 6)) (v := .int (m.1 6)) hS rfl (tr_ms hr (by omega)) rfl rfl (by omega) (congrArg Value.int (hx.2.2.2.2.1 0 (by rw [hm0]; decide))) rfl ?_
    refine go_s (pc' := 20) rfl rfl rfl rfl ?_
    refine go_sget (pc' := 21) (v := .ref am) hS rfl rfl rfl (by decide) rfl rfl ?_
    refine go_s (pc' := 22) rfl rfl rfl rfl ?_
    refine go_s (pc' := 23) (st' := [.int 7, .int (nI (13 * x)), .ref am, .int (m.1 6), .int 1, .ref 62]) rfl rfl rfl rfl ?_
    refine go_nadd (pc' := 24) (a := (13 * x)) (b := 7) rfl rfl rfl rfl rfl ?_
    refine go_sald (pc' := 25) (q := ((13 * x) + 7)) (v := .int (m.1 7)) hS rfl (tr_ms hr (by omega)) rfl rfl (by omega) (congrArg Value.int (hx.2.2.2.2.1 1 (by rw [hm0]; decide))) rfl ?_
    refine go_callV (pc' := 26) rfl rfl rfl (Nat.le_of_ble_eq_true rfl) rfl (sm_o hS rfl) rfl rfl rfl (ra_bd_1 hA (by omega) e5 hp0 hn0 (by omega)) (fun r h2 q3 => ?_)
    obtain ⟨rfl, rfl⟩ := q3
    cases u4 : mbd (row1 (I, Q, Z) 0) (fun i => m.1 (5 + i))
    · skip
      show am_Go _ _ _ _ 26 _ [.int 0] _ _
      refine go_ifP (t' := 29) (pc' := 27) rfl rfl rfl (fun _ => ?_) (fun (c : ¬ ((0 : Int32) = 0)) => absurd (by decide) c)
      refine go_s (pc' := 30) (st' := [.int 0]) rfl rfl rfl rfl ?_
      refine go_s (pc' := 31) (lo' := [some (.ref 62), some (.int (nI (13 * x))), some (.int 1), some (.int 0), none]) rfl rfl rfl rfl ?_
      refine go_s (pc' := 32) (st' := [.int 0]) rfl rfl rfl rfl ?_
      refine go_s (pc' := 33) (lo' := [some (.ref 62), some (.int (nI (13 * x))), some (.int 1), some (.int 0), some (.int 0)]) rfl rfl rfl rfl ?_
      refine lp_cm_1 (q := (fun i => m.1 (5 + i))) (d0 := false) hr hS hln hxl en hn8 e66 e67 e5 rfl rfl ?_ n 0 (by omega)
      cases hdd : (false || mdup I (fun i => m.1 (5 + i)) n)
      · skip
        have hn7 : n < 8 := Nat.lt_of_le_of_ne hn8 (fun e => c1 (by rw [e]; rfl))
        show am_Go _ _ _ _ _ [some (.ref 62), some (.int (nI (13 * x))), some (.int 1), some (.int 0), some (.int (nI n))] _ _ _
        refine go_s (pc' := 84) rfl rfl rfl rfl ?_
        refine go_ifP (t' := 86) (pc' := 85) rfl rfl rfl (fun _ => ?_) (fun (c : ¬ ((0 : Int32) = 0)) => absurd (by decide) c)
        refine go_s (pc' := 87) rfl rfl rfl rfl ?_
        refine go_sget (pc' := 88) (v := .ref 87) hS rfl rfl rfl (by decide) rfl rfl ?_
        refine go_s (pc' := 89) (st' := [.int 7, .ref 87]) rfl rfl rfl rfl ?_
        refine go_s (pc' := 90) rfl rfl rfl rfl ?_
        refine go_sget (pc' := 91) (v := .int (nI n)) hS rfl rfl rfl (by decide) (congrArg Value.int en) rfl ?_
        refine go_nmul (pc' := 92) (a := 7) (b := n) rfl rfl rfl rfl rfl ?_
        refine go_s (pc' := 93) rfl rfl rfl rfl ?_
        refine go_siast (pc' := 94) (q := (7 * n)) hS rfl (tr_s hr (a := 87) rfl (by omega)) tbr_inj (Nat.le_of_ble_eq_true rfl) rfl (by omega) (by decide) (hW _ (by decide) (by decide)) rfl (fun h5 hS6 hE7 => ?_)
        refine go_s (pc' := 95) (st' := [.int 0]) rfl rfl rfl rfl ?_
        refine go_s (pc' := 96) (lo' := [some (.ref 62), some (.int (nI (13 * x))), some (.int 1), some (.int 0), some (.int 0)]) rfl rfl rfl rfl ?_
        refine go_s (pc' := 97) rfl rfl rfl rfl ?_
        refine go_s (pc' := 98) (st' := [.int 6, .int 0]) rfl rfl rfl rfl ?_
        refine go_icmpP (t' := 120) (pc' := 99) rfl rfl rfl (fun (c : 6 ≤ (0 : Int32)) => absurd c (by decide)) (fun _ => ?_)
        refine go_s (pc' := 100) rfl rfl rfl rfl ?_
        refine go_sget (pc' := 101) (v := .ref 87) hS6 rfl rfl rfl (by decide) rfl rfl ?_
        refine go_s (pc' := 102) (st' := [.int 7, .ref 87]) rfl rfl rfl rfl ?_
        refine go_s (pc' := 103) rfl rfl rfl rfl ?_
        refine go_sget (pc' := 104) (v := .int (nI n)) hS6 rfl rfl rfl (by decide) (congrArg Value.int en) rfl ?_
        refine go_nmul (pc' := 105) (a := 7) (b := n) rfl rfl rfl rfl rfl ?_
        refine go_s (pc' := 106) (st' := [.int 1, .int (nI (7 * n)), .ref 87]) rfl rfl rfl rfl ?_
        refine go_nadd (pc' := 107) (a := (7 * n)) (b := 1) rfl rfl rfl rfl rfl ?_
        refine go_s (pc' := 108) rfl rfl rfl rfl ?_
        refine go_nadd (pc' := 109) (a := ((7 * n) + 1)) (b := 0) rfl rfl rfl rfl rfl ?_
        refine go_s (pc' := 110) rfl rfl rfl rfl ?_
        refine go_sget (pc' := 111) (v := .ref am) hS6 rfl rfl rfl (by decide) rfl rfl ?_
        refine go_s (pc' := 112) rfl rfl rfl rfl ?_
        refine go_s (pc' := 113) (st' := [.int 6, .int (nI (13 * x)), .ref am, .int (nI (((7 * n) + 1) + 0)), .ref 87]) rfl rfl rfl rfl ?_
        refine go_nadd (pc' := 114) (a := (13 * x)) (b := 6) rfl rfl rfl rfl rfl ?_
        refine go_s (pc' := 115) rfl rfl rfl rfl ?_
        refine go_nadd (pc' := 116) (a := ((13 * x) + 6)) (b := 0) rfl rfl rfl rfl rfl ?_
        refine go_sald (pc' := 117) (q := (((13 * x) + 6) + 0)) (v := .int (m.1 6)) hS6 rfl (tr_ms hr (by omega)) rfl rfl (by omega) (congrArg Value.int (hx.2.2.2.2.1 0 (by rw [hm0]; decide))) rfl ?_
        refine go_siast (pc' := 118) (q := (((7 * n) + 1) + 0)) hS6 rfl (tr_s hr (a := 87) rfl (by omega)) tbr_inj (Nat.le_of_ble_eq_true rfl) rfl (by omega) (by decide) (hW _ (by decide) (by decide)) rfl (fun h8 hS9 hE10 => ?_)
        have hE11 := sm_e_trans hE7 hE10
        refine go_s (pc' := 119) (lo' := [some (.ref 62), some (.int (nI (13 * x))), some (.int 1), some (.int 0), some (.int 1)]) rfl rfl rfl rfl ?_
        refine go_s (pc' := 96) rfl rfl rfl rfl ?_
        refine go_s (pc' := 97) rfl rfl rfl rfl ?_
        refine go_s (pc' := 98) (st' := [.int 6, .int 1]) rfl rfl rfl rfl ?_
        refine go_icmpP (t' := 120) (pc' := 99) rfl rfl rfl (fun (c : 6 ≤ (1 : Int32)) => absurd c (by decide)) (fun _ => ?_)
        refine go_s (pc' := 100) rfl rfl rfl rfl ?_
        refine go_sget (pc' := 101) (v := .ref 87) hS9 rfl rfl rfl (by decide) rfl rfl ?_
        refine go_s (pc' := 102) (st' := [.int 7, .ref 87]) rfl rfl rfl rfl ?_
        refine go_s (pc' := 103) rfl rfl rfl rfl ?_
        refine go_sget (pc' := 104) (v := .int (nI n)) hS9 rfl rfl rfl (by decide) (congrArg Value.int en) rfl ?_
        refine go_nmul (pc' := 105) (a := 7) (b := n) rfl rfl rfl rfl rfl ?_
        refine go_s (pc' := 106) (st' := [.int 1, .int (nI (7 * n)), .ref 87]) rfl rfl rfl rfl ?_
        refine go_nadd (pc' := 107) (a := (7 * n)) (b := 1) rfl rfl rfl rfl rfl ?_
        refine go_s (pc' := 108) rfl rfl rfl rfl ?_
        refine go_nadd (pc' := 109) (a := ((7 * n) + 1)) (b := 1) rfl rfl rfl rfl rfl ?_
        refine go_s (pc' := 110) rfl rfl rfl rfl ?_
        refine go_sget (pc' := 111) (v := .ref am) hS9 rfl rfl rfl (by decide) rfl rfl ?_
        refine go_s (pc' := 112) rfl rfl rfl rfl ?_
        refine go_s (pc' := 113) (st' := [.int 6, .int (nI (13 * x)), .ref am, .int (nI (((7 * n) + 1) + 1)), .ref 87]) rfl rfl rfl rfl ?_
        refine go_nadd (pc' := 114) (a := (13 * x)) (b := 6) rfl rfl rfl rfl rfl ?_
        refine go_s (pc' := 115) rfl rfl rfl rfl ?_
        refine go_nadd (pc' := 116) (a := ((13 * x) + 6)) (b := 1) rfl rfl rfl rfl rfl ?_
        refine go_sald (pc' := 117) (q := (((13 * x) + 6) + 1)) (v := .int (m.1 7)) hS9 rfl (tr_ms hr (by omega)) rfl rfl (by omega) (congrArg Value.int (hx.2.2.2.2.1 1 (by rw [hm0]; decide))) rfl ?_
        refine go_siast (pc' := 118) (q := (((7 * n) + 1) + 1)) hS9 rfl (tr_s hr (a := 87) rfl (by omega)) tbr_inj (Nat.le_of_ble_eq_true rfl) rfl (by omega) (by decide) (hW _ (by decide) (by decide)) rfl (fun h12 hS13 hE14 => ?_)
        have hE15 := sm_e_trans hE11 hE14
        refine go_s (pc' := 119) (lo' := [some (.ref 62), some (.int (nI (13 * x))), some (.int 1), some (.int 0), some (.int 2)]) rfl rfl rfl rfl ?_
        refine go_s (pc' := 96) rfl rfl rfl rfl ?_
        refine go_s (pc' := 97) rfl rfl rfl rfl ?_
        refine go_s (pc' := 98) (st' := [.int 6, .int 2]) rfl rfl rfl rfl ?_
        refine go_icmpP (t' := 120) (pc' := 99) rfl rfl rfl (fun (c : 6 ≤ (2 : Int32)) => absurd c (by decide)) (fun _ => ?_)
        refine go_s (pc' := 100) rfl rfl rfl rfl ?_
        refine go_sget (pc' := 101) (v := .ref 87) hS13 rfl rfl rfl (by decide) rfl rfl ?_
        refine go_s (pc' := 102) (st' := [.int 7, .ref 87]) rfl rfl rfl rfl ?_
        refine go_s (pc' := 103) rfl rfl rfl rfl ?_
        refine go_sget (pc' := 104) (v := .int (nI n)) hS13 rfl rfl rfl (by decide) (congrArg Value.int en) rfl ?_
        refine go_nmul (pc' := 105) (a := 7) (b := n) rfl rfl rfl rfl rfl ?_
        refine go_s (pc' := 106) (st' := [.int 1, .int (nI (7 * n)), .ref 87]) rfl rfl rfl rfl ?_
        refine go_nadd (pc' := 107) (a := (7 * n)) (b := 1) rfl rfl rfl rfl rfl ?_
        refine go_s (pc' := 108) rfl rfl rfl rfl ?_
        refine go_nadd (pc' := 109) (a := ((7 * n) + 1)) (b := 2) rfl rfl rfl rfl rfl ?_
        refine go_s (pc' := 110) rfl rfl rfl rfl ?_
        refine go_sget (pc' := 111) (v := .ref am) hS13 rfl rfl rfl (by decide) rfl rfl ?_
        refine go_s (pc' := 112) rfl rfl rfl rfl ?_
        refine go_s (pc' := 113) (st' := [.int 6, .int (nI (13 * x)), .ref am, .int (nI (((7 * n) + 1) + 2)), .ref 87]) rfl rfl rfl rfl ?_
        refine go_nadd (pc' := 114) (a := (13 * x)) (b := 6) rfl rfl rfl rfl rfl ?_
        refine go_s (pc' := 115) rfl rfl rfl rfl ?_
        refine go_nadd (pc' := 116) (a := ((13 * x) + 6)) (b := 2) rfl rfl rfl rfl rfl ?_
        refine go_sald (pc' := 117) (q := (((13 * x) + 6) + 2)) (v := .int (m.1 8)) hS13 rfl (tr_ms hr (by omega)) rfl rfl (by omega) (congrArg Value.int (hx.2.2.2.2.1 2 (by rw [hm0]; decide))) rfl ?_
        refine go_siast (pc' := 118) (q := (((7 * n) + 1) + 2)) hS13 rfl (tr_s hr (a := 87) rfl (by omega)) tbr_inj (Nat.le_of_ble_eq_true rfl) rfl (by omega) (by decide) (hW _ (by decide) (by decide)) rfl (fun h16 hS17 hE18 => ?_)
        have hE19 := sm_e_trans hE15 hE18
        refine go_s (pc' := 119) (lo' := [some (.ref 62), some (.int (nI (13 * x))), some (.int 1), some (.int 0), some (.int 3)]) rfl rfl rfl rfl ?_
        refine go_s (pc' := 96) rfl rfl rfl rfl ?_
        refine go_s (pc' := 97) rfl rfl rfl rfl ?_
        refine go_s (pc' := 98) (st' := [.int 6, .int 3]) rfl rfl rfl rfl ?_
        refine go_icmpP (t' := 120) (pc' := 99) rfl rfl rfl (fun (c : 6 ≤ (3 : Int32)) => absurd c (by decide)) (fun _ => ?_)
        refine go_s (pc' := 100) rfl rfl rfl rfl ?_
        refine go_sget (pc' := 101) (v := .ref 87) hS17 rfl rfl rfl (by decide) rfl rfl ?_
        refine go_s (pc' := 102) (st' := [.int 7, .ref 87]) rfl rfl rfl rfl ?_
        refine go_s (pc' := 103) rfl rfl rfl rfl ?_
        refine go_sget (pc' := 104) (v := .int (nI n)) hS17 rfl rfl rfl (by decide) (congrArg Value.int en) rfl ?_
        refine go_nmul (pc' := 105) (a := 7) (b := n) rfl rfl rfl rfl rfl ?_
        refine go_s (pc' := 106) (st' := [.int 1, .int (nI (7 * n)), .ref 87]) rfl rfl rfl rfl ?_
        refine go_nadd (pc' := 107) (a := (7 * n)) (b := 1) rfl rfl rfl rfl rfl ?_
        refine go_s (pc' := 108) rfl rfl rfl rfl ?_
        refine go_nadd (pc' := 109) (a := ((7 * n) + 1)) (b := 3) rfl rfl rfl rfl rfl ?_
        refine go_s (pc' := 110) rfl rfl rfl rfl ?_
        refine go_sget (pc' := 111) (v := .ref am) hS17 rfl rfl rfl (by decide) rfl rfl ?_
        refine go_s (pc' := 112) rfl rfl rfl rfl ?_
        refine go_s (pc' := 113) (st' := [.int 6, .int (nI (13 * x)), .ref am, .int (nI (((7 * n) + 1) + 3)), .ref 87]) rfl rfl rfl rfl ?_
        refine go_nadd (pc' := 114) (a := (13 * x)) (b := 6) rfl rfl rfl rfl rfl ?_
        refine go_s (pc' := 115) rfl rfl rfl rfl ?_
        refine go_nadd (pc' := 116) (a := ((13 * x) + 6)) (b := 3) rfl rfl rfl rfl rfl ?_
        refine go_sald (pc' := 117) (q := (((13 * x) + 6) + 3)) (v := .int (m.1 9)) hS17 rfl (tr_ms hr (by omega)) rfl rfl (by omega) (congrArg Value.int (hx.2.2.2.2.1 3 (by rw [hm0]; decide))) rfl ?_
        refine go_siast (pc' := 118) (q := (((7 * n) + 1) + 3)) hS17 rfl (tr_s hr (a := 87) rfl (by omega)) tbr_inj (Nat.le_of_ble_eq_true rfl) rfl (by omega) (by decide) (hW _ (by decide) (by decide)) rfl (fun h20 hS21 hE22 => ?_)
        have hE23 := sm_e_trans hE19 hE22
        refine go_s (pc' := 119) (lo' := [some (.ref 62), some (.int (nI (13 * x))), some (.int 1), some (.int 0), some (.int 4)]) rfl rfl rfl rfl ?_
        refine go_s (pc' := 96) rfl rfl rfl rfl ?_
        refine go_s (pc' := 97) rfl rfl rfl rfl ?_
        refine go_s (pc' := 98) (st' := [.int 6, .int 4]) rfl rfl rfl rfl ?_
        refine go_icmpP (t' := 120) (pc' := 99) rfl rfl rfl (fun (c : 6 ≤ (4 : Int32)) => absurd c (by decide)) (fun _ => ?_)
        refine go_s (pc' := 100) rfl rfl rfl rfl ?_
        refine go_sget (pc' := 101) (v := .ref 87) hS21 rfl rfl rfl (by decide) rfl rfl ?_
        refine go_s (pc' := 102) (st' := [.int 7, .ref 87]) rfl rfl rfl rfl ?_
        refine go_s (pc' := 103) rfl rfl rfl rfl ?_
        refine go_sget (pc' := 104) (v := .int (nI n)) hS21 rfl rfl rfl (by decide) (congrArg Value.int en) rfl ?_
        refine go_nmul (pc' := 105) (a := 7) (b := n) rfl rfl rfl rfl rfl ?_
        refine go_s (pc' := 106) (st' := [.int 1, .int (nI (7 * n)), .ref 87]) rfl rfl rfl rfl ?_
        refine go_nadd (pc' := 107) (a := (7 * n)) (b := 1) rfl rfl rfl rfl rfl ?_
        refine go_s (pc' := 108) rfl rfl rfl rfl ?_
        refine go_nadd (pc' := 109) (a := ((7 * n) + 1)) (b := 4) rfl rfl rfl rfl rfl ?_
        refine go_s (pc' := 110) rfl rfl rfl rfl ?_
        refine go_sget (pc' := 111) (v := .ref am) hS21 rfl rfl rfl (by decide) rfl rfl ?_
        refine go_s (pc' := 112) rfl rfl rfl rfl ?_
        refine go_s (pc' := 113) (st' := [.int 6, .int (nI (13 * x)), .ref am, .int (nI (((7 * n) + 1) + 4)), .ref 87]) rfl rfl rfl rfl ?_
        refine go_nadd (pc' := 114) (a := (13 * x)) (b := 6) rfl rfl rfl rfl rfl ?_
        refine go_s (pc' := 115) rfl rfl rfl rfl ?_
        refine go_nadd (pc' := 116) (a := ((13 * x) + 6)) (b := 4) rfl rfl rfl rfl rfl ?_
        refine go_sald (pc' := 117) (q := (((13 * x) + 6) + 4)) (v := .int (m.1 10)) hS21 rfl (tr_ms hr (by omega)) rfl rfl (by omega) (congrArg Value.int (hx.2.2.2.2.1 4 (by rw [hm0]; decide))) rfl ?_
        refine go_siast (pc' := 118) (q := (((7 * n) + 1) + 4)) hS21 rfl (tr_s hr (a := 87) rfl (by omega)) tbr_inj (Nat.le_of_ble_eq_true rfl) rfl (by omega) (by decide) (hW _ (by decide) (by decide)) rfl (fun h24 hS25 hE26 => ?_)
        have hE27 := sm_e_trans hE23 hE26
        refine go_s (pc' := 119) (lo' := [some (.ref 62), some (.int (nI (13 * x))), some (.int 1), some (.int 0), some (.int 5)]) rfl rfl rfl rfl ?_
        refine go_s (pc' := 96) rfl rfl rfl rfl ?_
        refine go_s (pc' := 97) rfl rfl rfl rfl ?_
        refine go_s (pc' := 98) (st' := [.int 6, .int 5]) rfl rfl rfl rfl ?_
        refine go_icmpP (t' := 120) (pc' := 99) rfl rfl rfl (fun (c : 6 ≤ (5 : Int32)) => absurd c (by decide)) (fun _ => ?_)
        refine go_s (pc' := 100) rfl rfl rfl rfl ?_
        refine go_sget (pc' := 101) (v := .ref 87) hS25 rfl rfl rfl (by decide) rfl rfl ?_
        refine go_s (pc' := 102) (st' := [.int 7, .ref 87]) rfl rfl rfl rfl ?_
        refine go_s (pc' := 103) rfl rfl rfl rfl ?_
        refine go_sget (pc' := 104) (v := .int (nI n)) hS25 rfl rfl rfl (by decide) (congrArg Value.int en) rfl ?_
        refine go_nmul (pc' := 105) (a := 7) (b := n) rfl rfl rfl rfl rfl ?_
        refine go_s (pc' := 106) (st' := [.int 1, .int (nI (7 * n)), .ref 87]) rfl rfl rfl rfl ?_
        refine go_nadd (pc' := 107) (a := (7 * n)) (b := 1) rfl rfl rfl rfl rfl ?_
        refine go_s (pc' := 108) rfl rfl rfl rfl ?_
        refine go_nadd (pc' := 109) (a := ((7 * n) + 1)) (b := 5) rfl rfl rfl rfl rfl ?_
        refine go_s (pc' := 110) rfl rfl rfl rfl ?_
        refine go_sget (pc' := 111) (v := .ref am) hS25 rfl rfl rfl (by decide) rfl rfl ?_
        refine go_s (pc' := 112) rfl rfl rfl rfl ?_
        refine go_s (pc' := 113) (st' := [.int 6, .int (nI (13 * x)), .ref am, .int (nI (((7 * n) + 1) + 5)), .ref 87]) rfl rfl rfl rfl ?_
        refine go_nadd (pc' := 114) (a := (13 * x)) (b := 6) rfl rfl rfl rfl rfl ?_
        refine go_s (pc' := 115) rfl rfl rfl rfl ?_
        refine go_nadd (pc' := 116) (a := ((13 * x) + 6)) (b := 5) rfl rfl rfl rfl rfl ?_
        refine go_sald (pc' := 117) (q := (((13 * x) + 6) + 5)) (v := .int (m.1 11)) hS25 rfl (tr_ms hr (by omega)) rfl rfl (by omega) (congrArg Value.int (hx.2.2.2.2.1 5 (by rw [hm0]; decide))) rfl ?_
        refine go_siast (pc' := 118) (q := (((7 * n) + 1) + 5)) hS25 rfl (tr_s hr (a := 87) rfl (by omega)) tbr_inj (Nat.le_of_ble_eq_true rfl) rfl (by omega) (by decide) (hW _ (by decide) (by decide)) rfl (fun h28 hS29 hE30 => ?_)
        have hE31 := sm_e_trans hE27 hE30
        refine go_s (pc' := 119) (lo' := [some (.ref 62), some (.int (nI (13 * x))), some (.int 1), some (.int 0), some (.int 6)]) rfl rfl rfl rfl ?_
        refine go_s (pc' := 96) rfl rfl rfl rfl ?_
        refine go_s (pc' := 97) rfl rfl rfl rfl ?_
        refine go_s (pc' := 98) (st' := [.int 6, .int 6]) rfl rfl rfl rfl ?_
        refine go_icmpP (t' := 120) (pc' := 99) rfl rfl rfl (fun _ => ?_) (fun (c : ¬ (6 ≤ (6 : Int32))) => absurd (by decide) c)
        refine go_s (pc' := 121) rfl rfl rfl rfl ?_
        refine go_s (pc' := 122) rfl rfl rfl rfl ?_
        refine go_sget (pc' := 123) (v := .int (nI n)) hS29 rfl rfl rfl (by decide) (congrArg Value.int en) rfl ?_
        refine go_s (pc' := 124) (st' := [.int 1, .int (nI n), .ref 62]) rfl rfl rfl rfl ?_
        refine go_nadd (pc' := 125) (a := n) (b := 1) rfl rfl rfl rfl rfl ?_
        refine go_sput (pc' := 126) hS29 rfl rfl rfl (by decide) tbr_inj (Nat.le_of_ble_eq_true rfl) rfl (hW _ (by decide) (by decide)) rfl (fun h32 hS33 hE34 => ?_)
        have hE35 := sm_e_trans hE31 hE34
        refine go_ret rfl rfl ?_
        change sm (tbr am (13 * ln) 77 5088) _ (uI (uI (uI (uI (uI (uI (uI (uI (jn I K) 20 (7 * n) 1) 20 (((7 * n) + 1) + 0) (m.1 6)) 20 (((7 * n) + 1) + 1) (m.1 7)) 20 (((7 * n) + 1) + 2) (m.1 8)) 20 (((7 * n) + 1) + 3) (m.1 9)) 20 (((7 * n) + 1) + 4) (m.1 10)) 20 (((7 * n) + 1) + 5) (m.1 11)) 21 0 (nI (n + 1))) Y at hS33
        rw [jn_lo (c := 20) (by decide), jn_lo (c := 20) (by decide), jn_lo (c := 20) (by decide), jn_lo (c := 20) (by decide), jn_lo (c := 20) (by decide), jn_lo (c := 20) (by decide), jn_lo (c := 20) (by decide), jn_lo (c := 21) (by decide)] at hS33
        change sm (tbr am (13 * ln) 77 5088) _ (jn (uI (uI (uI (uI (uI (uI (uI (uI I 20 (7 * n) 1) 20 (((7 * n) + 1) + 0) (m.1 6)) 20 (((7 * n) + 1) + 1) (m.1 7)) 20 (((7 * n) + 1) + 2) (m.1 8)) 20 (((7 * n) + 1) + 3) (m.1 9)) 20 (((7 * n) + 1) + 4) (m.1 10)) 20 (((7 * n) + 1) + 5) (m.1 11)) 21 0 (nI (n + 1))) K) Y at hS33
        rw [mrw_u (q := (fun i => m.1 (5 + i))) e5 rfl rfl rfl rfl rfl rfl] at hS33
        have hms : mac (fun i => m.1 (5 + i)) (I, Q, Z) = (mrw I n (fun i => m.1 (5 + i)), Q, Z) := by
          unfold mac
          rw [show stn ((I, Q, Z) : mM).1 = n from stn_n en hn8, if_neg (fun z => z.elim (fun y => c1 (by rw [y]; rfl)) (fun y => by rw [u4, show mdup ((I, Q, Z) : mM).1 (fun i => m.1 (5 + i)) n = false from hdd] at y; exact absurd y (by decide)))]
        rw [hms]
        refine ⟨rfl, RA_u.mpr ⟨_, _, _, _, hS33, RU_I2 hE35 (fun l => ?_) (fun l => ?_) ?_ hU⟩⟩
        · exact if_neg (by omega)
        · exact if_neg (by omega)
        · rw [stn_n en hn8]
          show stn (mrw I n (fun i => m.1 (5 + i))) ≤ n + 1
          unfold stn mrw
          rw [if_neg (by omega), if_pos ⟨rfl, rfl⟩, nI_clamp (by omega)]
          exact Nat.le_refl _
      · skip
        show am_Go _ _ _ _ _ [some (.ref 62), some (.int (nI (13 * x))), some (.int 1), some (.int 1), some (.int (nI n))] _ _ _
        refine go_s (pc' := 84) rfl rfl rfl rfl ?_
        refine go_ifP (t' := 86) (pc' := 85) rfl rfl rfl (fun (c : (1 : Int32) = 0) => absurd c (by decide)) (fun _ => ?_)
        refine go_ret rfl rfl ?_
        have hms : mac (fun i => m.1 (5 + i)) (I, Q, Z) = (I, Q, Z) := if_pos (Or.inr (by rw [u4, show stn ((I, Q, Z) : mM).1 = n from stn_n en hn8]; exact hdd))
        rw [hms]
        exact ⟨rfl, RA_R (by omega) hA⟩
    · skip
      show am_Go _ _ _ _ 26 _ [.int 1] _ _
      refine go_ifP (t' := 29) (pc' := 27) rfl rfl rfl (fun (c : (1 : Int32) = 0) => absurd c (by decide)) (fun _ => ?_)
      refine go_s (pc' := 28) (st' := [.int 1]) rfl rfl rfl rfl ?_
      refine go_s (pc' := 30) rfl rfl rfl rfl ?_
      refine go_s (pc' := 31) (lo' := [some (.ref 62), some (.int (nI (13 * x))), some (.int 1), some (.int 1), none]) rfl rfl rfl rfl ?_
      refine go_s (pc' := 32) (st' := [.int 0]) rfl rfl rfl rfl ?_
      refine go_s (pc' := 33) (lo' := [some (.ref 62), some (.int (nI (13 * x))), some (.int 1), some (.int 1), some (.int 0)]) rfl rfl rfl rfl ?_
      refine lp_cm_1 (q := (fun i => m.1 (5 + i))) (d0 := true) hr hS hln hxl en hn8 e66 e67 e5 rfl rfl ?_ n 0 (by omega)
      cases hdd : (true || mdup I (fun i => m.1 (5 + i)) n)
      · skip
        exact absurd hdd (by simp)
      · skip
        show am_Go _ _ _ _ _ [some (.ref 62), some (.int (nI (13 * x))), some (.int 1), some (.int 1), some (.int (nI n))] _ _ _
        refine go_s (pc' := 84) rfl rfl rfl rfl ?_
        refine go_ifP (t' := 86) (pc' := 85) rfl rfl rfl (fun (c : (1 : Int32) = 0) => absurd c (by decide)) (fun _ => ?_)
        refine go_ret rfl rfl ?_
        have hms : mac (fun i => m.1 (5 + i)) (I, Q, Z) = (I, Q, Z) := if_pos (Or.inr (by rw [u4]; rfl))
        rw [hms]
        exact ⟨rfl, RA_R (by omega) hA⟩
theorem ra_wd_0 {w : Nat → Bool} {d B R : Nat} {H : List (Nat × mg)} {hb : Bool} {h : am_Hp} {I : sm_I} {Q : mQ} {Z : mZ} (hA : RA w B R H hb h (I, Q, Z)) (hR : R + 6 < 40000) {X : Nat} (hX : X + 60 < 2 ^ 28) (hgo : I 16 0 = 1 → MID (X + 1) (rgo 0 (I, Q, Z))) (hhc : hc H hb = 0) (h5 : sq Q ≤ 5) (hp0 : prk I 0) (hnk : ¬ I 11 0 = -1) (hd : 10 ≤ d) : am_Ev (am_prog w) d 183 [.ref 62, .int 0] h (fun r h' => r = none ∧ RA w B (R + 3) H hb h' (rwd 0 (I, Q, Z))) := by
  obtain ⟨K, Y, am, ln, hS, hU⟩ := RA_u.mp hA
  change sm (tbr am (13 * ln) 77 5088) h (jn I K) Y at hS
  obtain ⟨hW, hWm, -, -, hr, -⟩ := id hU.1
  have hln := RU_ln hU (by omega)
  obtain ⟨d, rfl⟩ : ∃ e, d = e + 1 := ⟨d - 1, by omega⟩
  refine ev_go rfl (Nat.le_of_ble_eq_true rfl) rfl ?_
  rcases hp0 with e1 | e1 | e1
  · skip
    exact absurd e1 hnk
  · skip
    refine go_s (pc' := 1) rfl rfl rfl rfl ?_
    refine go_sget (pc' := 2) (v := .ref 83) hS rfl rfl rfl (by decide) rfl rfl ?_
    refine go_s (pc' := 3) rfl rfl rfl rfl ?_
    refine go_sald (pc' := 4) (q := 0) (v := .int (I 16 0)) hS rfl (tr_s hr (a := 83) rfl (by decide)) rfl rfl (by decide) rfl rfl ?_
    refine go_s (pc' := 5) (st' := [.int 1, .int (I 16 0)]) rfl rfl rfl rfl ?_
    refine go_icmpP (t' := 12) (pc' := 6) rfl rfl rfl (fun (c2 : ¬ (I 16 0) = 1) => ?_) (fun (c2' : ¬ ¬ (I 16 0) = 1) => ?_)
    · skip
      refine go_s (pc' := 13) rfl rfl rfl rfl ?_
      refine go_sget (pc' := 14) (v := .ref 80) hS rfl rfl rfl (by decide) rfl rfl ?_
      refine go_s (pc' := 15) rfl rfl rfl rfl ?_
      refine go_sald (pc' := 16) (q := 0) (v := .int (I 13 0)) hS rfl (tr_s hr (a := 80) rfl (by decide)) rfl rfl (by decide) rfl rfl ?_
      refine go_ifP (t' := 40) (pc' := 17) rfl rfl rfl (fun (c3 : (I 13 0) = 0) => ?_) (fun (c3 : ¬ (I 13 0) = 0) => ?_)
      · skip
        refine go_ret rfl rfl ?_
        have hms : rwd 0 (I, Q, Z) = (I, Q, Z) := by
          unfold rwd
          rw [if_neg (show ¬ ((I, Q, Z) : mM).1 16 0 = 1 from c2), if_pos (show ((I, Q, Z) : mM).1 13 0 = 0 from c3)]
        rw [hms]
        exact ⟨rfl, RA_R (by omega) hA⟩
      · skip
        refine go_s (pc' := 18) rfl rfl rfl rfl ?_
        refine go_sget (pc' := 19) (v := .ref 81) hS rfl rfl rfl (by decide) rfl rfl ?_
        refine go_s (pc' := 20) rfl rfl rfl rfl ?_
        refine go_sald (pc' := 21) (q := 0) (v := .int (I 14 0)) hS rfl (tr_s hr (a := 81) rfl (by decide)) rfl rfl (by decide) rfl rfl ?_
        refine go_ifP (t' := 26) (pc' := 22) rfl rfl rfl (fun (c4 : (I 14 0) = 0) => ?_) (fun (c4 : ¬ (I 14 0) = 0) => ?_)
        · skip
          refine go_s (pc' := 27) rfl rfl rfl rfl ?_
          refine go_sget (pc' := 28) (v := .ref 80) hS rfl rfl rfl (by decide) rfl rfl ?_
          refine go_s (pc' := 29) rfl rfl rfl rfl ?_
          refine go_s (pc' := 30) (st' := [.int 0, .int 0, .ref 80]) rfl rfl rfl rfl ?_
          refine go_szast (pc' := 31) (q := 0) hS rfl (tr_s hr (a := 80) rfl (by decide)) tbr_inj (Nat.le_of_ble_eq_true rfl) rfl (by decide) (by decide) rfl (hW _ (by decide) (by decide)) rfl (fun h5 hS6 hE7 => ?_)
          refine go_s (pc' := 32) rfl rfl rfl rfl ?_
          refine go_sget (pc' := 33) (v := .ref 79) hS6 rfl rfl rfl (by decide) rfl rfl ?_
          refine go_s (pc' := 34) rfl rfl rfl rfl ?_
          refine go_s (pc' := 35) rfl rfl rfl rfl ?_
          refine go_sget (pc' := 36) (v := .ref 78) hS6 rfl rfl rfl (by decide) rfl rfl ?_
          refine go_s (pc' := 37) rfl rfl rfl rfl ?_
          refine go_sald (pc' := 38) (q := 0) (v := .int 0) hS6 rfl (tr_s hr (a := 78) rfl (by decide)) rfl rfl (by decide) (congrArg Value.int e1) rfl ?_
          refine go_callS (pc' := 39) rfl rfl rfl (Nat.le_of_ble_eq_true rfl) rfl rfl rfl (rt_oh_0 (by omega)) (fun r h8 q9 => ?_)
          obtain ⟨rfl, rfl⟩ := q9
          refine go_siast (pc' := 40) (q := 0) hS6 rfl (tr_s hr (a := 79) rfl (by decide)) tbr_inj (Nat.le_of_ble_eq_true rfl) rfl (by decide) (by decide) (hW _ (by decide) (by decide)) rfl (fun h10 hS11 hE12 => ?_)
          have hE13 := sm_e_trans hE7 hE12
          refine go_ret rfl rfl ?_
          change sm (tbr am (13 * ln) 77 5088) _ (uI (uI (jn I K) 13 0 0) 12 0 1) Y at hS11
          rw [jn_lo (c := 13) (by decide), jn_lo (c := 12) (by decide)] at hS11
          have hU14 : RU w B R H hb h10 am ln K ((uI (uI I 13 0 0) 12 0 1), Q, Z) := RU_I (hE13) (I' := (uI (uI I 13 0 0) 12 0 1)) (fun _ => rfl) (fun _ => rfl) (Nat.le_refl _) hU
          have hA15 : RA w B R H hb h10 ((uI (uI I 13 0 0) 12 0 1), Q, Z) := RA_u.mpr ⟨_, _, _, _, hS11, hU14⟩
          have hms : rwd 0 (I, Q, Z) = ((uI (uI I 13 0 0) 12 0 1), Q, Z) := by
            unfold rwd
            rw [if_neg (show ¬ ((I, Q, Z) : mM).1 16 0 = 1 from c2), if_neg (show ¬ ((I, Q, Z) : mM).1 13 0 = 0 from c3), if_pos (show ((I, Q, Z) : mM).1 14 0 = 0 from c4), show ohn ((I, Q, Z) : mM).1 0 = 1 from ohn_l (v := 0) e1 (by decide)]
            rw [show nI 1 = 1 from rfl]
          rw [hms]
          exact ⟨rfl, RA_R (by omega) hA15⟩
        · skip
          refine go_s (pc' := 23) rfl rfl rfl rfl ?_
          refine go_s (pc' := 24) rfl rfl rfl rfl ?_
          have hU16 : RU w B R H hb h am ln K (I, Q, Z) := RU_I (sm_e_refl (tbr am (13 * ln) 77 5088) _) (I' := I) (fun _ => rfl) (fun _ => rfl) (Nat.le_refl _) hU
          have hA17 : RA w B R H hb h (I, Q, Z) := RA_u.mpr ⟨_, _, _, _, hS, hU16⟩
          refine go_callV (pc' := 25) rfl rfl rfl (Nat.le_of_ble_eq_true rfl) rfl (sm_o hS rfl) rfl rfl rfl (ra_sc_0 hA17 (by omega) (Or.inr (Or.inl e1)) (fun z => absurd (e1.symm.trans z) (by decide)) (by omega) (by omega)) (fun r h18 q19 => ?_)
          obtain ⟨rfl, hA20⟩ := q19
          refine go_s (pc' := 40) rfl rfl rfl rfl ?_
          refine go_ret rfl rfl ?_
          have hms : rwd 0 (I, Q, Z) = rsc 0 (I, Q, Z) := by
            unfold rwd
            rw [if_neg (show ¬ ((I, Q, Z) : mM).1 16 0 = 1 from c2), if_neg (show ¬ ((I, Q, Z) : mM).1 13 0 = 0 from c3), if_neg (show ¬ ((I, Q, Z) : mM).1 14 0 = 0 from c4)]
          rw [hms]
          exact ⟨rfl, RA_R (by omega) hA20⟩
    · skip
      have c2 : (I 16 0) = 1 := Decidable.not_not.mp c2'
      refine go_s (pc' := 7) rfl rfl rfl rfl ?_
      refine go_s (pc' := 8) rfl rfl rfl rfl ?_
      have hU21 : RU w B R H hb h am ln K (I, Q, Z) := RU_I (sm_e_refl (tbr am (13 * ln) 77 5088) _) (I' := I) (fun _ => rfl) (fun _ => rfl) (Nat.le_refl _) hU
      have hA22 : RA w B R H hb h (I, Q, Z) := RA_u.mpr ⟨_, _, _, _, hS, hU21⟩
      refine go_callV (pc' := 9) rfl rfl rfl (Nat.le_of_ble_eq_true rfl) rfl (sm_o hS rfl) rfl rfl rfl (ra_go_0 hA22 (by omega) (by omega)) (fun r h23 q24 => ?_)
      obtain ⟨rfl, hA25⟩ := q24
      change RA w B R H hb h23 (rgo 0 (I, Q, Z)) at hA25
      obtain ⟨M26, eM26⟩ : ∃ y : mM, y = (rgo 0 (I, Q, Z)) := ⟨_, rfl⟩
      rw [← eM26] at hA25
      obtain ⟨I26, Q26, Z26⟩ := M26
      obtain ⟨K26, Y26, am26, ln26, hS26, hU26⟩ := RA_u.mp hA25
      change sm (tbr am26 (13 * ln26) 77 5088) h23 (jn I26 K26) Y26 at hS26
      obtain ⟨-, hWm26, -, -, hr26, -⟩ := id hU26.1
      have hln26 := RU_ln hU26 (by omega)
      refine go_s (pc' := 10) rfl rfl rfl rfl ?_
      have hM9 : MID (X + 1) (I26, Q26, Z26) := by
        rw [eM26]
        exact hgo c2
      have hU27 : RU w B R H hb h23 am26 ln26 K26 (I26, Q26, Z26) := RU_I (sm_e_refl (tbr am26 (13 * ln26) 77 5088) _) (I' := I26) (fun _ => rfl) (fun _ => rfl) (Nat.le_refl _) hU26
      have hA28 : RA w B R H hb h23 (I26, Q26, Z26) := RA_u.mpr ⟨_, _, _, _, hS26, hU27⟩
      refine go_callV (pc' := 11) rfl rfl rfl (Nat.le_of_ble_eq_true rfl) rfl (sm_o hS26 rfl) rfl rfl rfl (ra_set hA28 (by omega) hM9 (by omega) hhc (by omega)) (fun r h29 q30 => ?_)
      obtain ⟨rfl, hA31⟩ := q30
      refine go_s (pc' := 40) rfl rfl rfl rfl ?_
      refine go_ret rfl rfl ?_
      have hms : rwd 0 (I, Q, Z) = rset 30 (I26, Q26, Z26) := by
        unfold rwd
        rw [if_pos (show ((I, Q, Z) : mM).1 16 0 = 1 from c2), eM26]
      rw [hms]
      exact ⟨rfl, RA_R (by omega) hA31⟩
  · skip
    refine go_s (pc' := 1) rfl rfl rfl rfl ?_
    refine go_sget (pc' := 2) (v := .ref 83) hS rfl rfl rfl (by decide) rfl rfl ?_
    refine go_s (pc' := 3) rfl rfl rfl rfl ?_
    refine go_sald (pc' := 4) (q := 0) (v := .int (I 16 0)) hS rfl (tr_s hr (a := 83) rfl (by decide)) rfl rfl (by decide) rfl rfl ?_
    refine go_s (pc' := 5) (st' := [.int 1, .int (I 16 0)]) rfl rfl rfl rfl ?_
    refine go_icmpP (t' := 12) (pc' := 6) rfl rfl rfl (fun (c32 : ¬ (I 16 0) = 1) => ?_) (fun (c32' : ¬ ¬ (I 16 0) = 1) => ?_)
    · skip
      refine go_s (pc' := 13) rfl rfl rfl rfl ?_
      refine go_sget (pc' := 14) (v := .ref 80) hS rfl rfl rfl (by decide) rfl rfl ?_
      refine go_s (pc' := 15) rfl rfl rfl rfl ?_
      refine go_sald (pc' := 16) (q := 0) (v := .int (I 13 0)) hS rfl (tr_s hr (a := 80) rfl (by decide)) rfl rfl (by decide) rfl rfl ?_
      refine go_ifP (t' := 40) (pc' := 17) rfl rfl rfl (fun (c33 : (I 13 0) = 0) => ?_) (fun (c33 : ¬ (I 13 0) = 0) => ?_)
      · skip
        refine go_ret rfl rfl ?_
        have hms : rwd 0 (I, Q, Z) = (I, Q, Z) := by
          unfold rwd
          rw [if_neg (show ¬ ((I, Q, Z) : mM).1 16 0 = 1 from c32), if_pos (show ((I, Q, Z) : mM).1 13 0 = 0 from c33)]
        rw [hms]
        exact ⟨rfl, RA_R (by omega) hA⟩
      · skip
        refine go_s (pc' := 18) rfl rfl rfl rfl ?_
        refine go_sget (pc' := 19) (v := .ref 81) hS rfl rfl rfl (by decide) rfl rfl ?_
        refine go_s (pc' := 20) rfl rfl rfl rfl ?_
        refine go_sald (pc' := 21) (q := 0) (v := .int (I 14 0)) hS rfl (tr_s hr (a := 81) rfl (by decide)) rfl rfl (by decide) rfl rfl ?_
        refine go_ifP (t' := 26) (pc' := 22) rfl rfl rfl (fun (c34 : (I 14 0) = 0) => ?_) (fun (c34 : ¬ (I 14 0) = 0) => ?_)
        · skip
          refine go_s (pc' := 27) rfl rfl rfl rfl ?_
          refine go_sget (pc' := 28) (v := .ref 80) hS rfl rfl rfl (by decide) rfl rfl ?_
          refine go_s (pc' := 29) rfl rfl rfl rfl ?_
          refine go_s (pc' := 30) (st' := [.int 0, .int 0, .ref 80]) rfl rfl rfl rfl ?_
          refine go_szast (pc' := 31) (q := 0) hS rfl (tr_s hr (a := 80) rfl (by decide)) tbr_inj (Nat.le_of_ble_eq_true rfl) rfl (by decide) (by decide) rfl (hW _ (by decide) (by decide)) rfl (fun h35 hS36 hE37 => ?_)
          refine go_s (pc' := 32) rfl rfl rfl rfl ?_
          refine go_sget (pc' := 33) (v := .ref 79) hS36 rfl rfl rfl (by decide) rfl rfl ?_
          refine go_s (pc' := 34) rfl rfl rfl rfl ?_
          refine go_s (pc' := 35) rfl rfl rfl rfl ?_
          refine go_sget (pc' := 36) (v := .ref 78) hS36 rfl rfl rfl (by decide) rfl rfl ?_
          refine go_s (pc' := 37) rfl rfl rfl rfl ?_
          refine go_sald (pc' := 38) (q := 0) (v := .int 1) hS36 rfl (tr_s hr (a := 78) rfl (by decide)) rfl rfl (by decide) (congrArg Value.int e1) rfl ?_
          refine go_callS (pc' := 39) rfl rfl rfl (Nat.le_of_ble_eq_true rfl) rfl rfl rfl (rt_oh_1 (by omega)) (fun r h38 q39 => ?_)
          obtain ⟨rfl, rfl⟩ := q39
          refine go_siast (pc' := 40) (q := 0) hS36 rfl (tr_s hr (a := 79) rfl (by decide)) tbr_inj (Nat.le_of_ble_eq_true rfl) rfl (by decide) (by decide) (hW _ (by decide) (by decide)) rfl (fun h40 hS41 hE42 => ?_)
          have hE43 := sm_e_trans hE37 hE42
          refine go_ret rfl rfl ?_
          change sm (tbr am (13 * ln) 77 5088) _ (uI (uI (jn I K) 13 0 0) 12 0 0) Y at hS41
          rw [jn_lo (c := 13) (by decide), jn_lo (c := 12) (by decide)] at hS41
          have hU44 : RU w B R H hb h40 am ln K ((uI (uI I 13 0 0) 12 0 0), Q, Z) := RU_I (hE43) (I' := (uI (uI I 13 0 0) 12 0 0)) (fun _ => rfl) (fun _ => rfl) (Nat.le_refl _) hU
          have hA45 : RA w B R H hb h40 ((uI (uI I 13 0 0) 12 0 0), Q, Z) := RA_u.mpr ⟨_, _, _, _, hS41, hU44⟩
          have hms : rwd 0 (I, Q, Z) = ((uI (uI I 13 0 0) 12 0 0), Q, Z) := by
            unfold rwd
            rw [if_neg (show ¬ ((I, Q, Z) : mM).1 16 0 = 1 from c32), if_neg (show ¬ ((I, Q, Z) : mM).1 13 0 = 0 from c33), if_pos (show ((I, Q, Z) : mM).1 14 0 = 0 from c34), show ohn ((I, Q, Z) : mM).1 0 = 0 from ohn_l (v := 1) e1 (by decide)]
            rw [show nI 0 = 0 from rfl]
          rw [hms]
          exact ⟨rfl, RA_R (by omega) hA45⟩
        · skip
          refine go_s (pc' := 23) rfl rfl rfl rfl ?_
          refine go_s (pc' := 24) rfl rfl rfl rfl ?_
          have hU46 : RU w B R H hb h am ln K (I, Q, Z) := RU_I (sm_e_refl (tbr am (13 * ln) 77 5088) _) (I' := I) (fun _ => rfl) (fun _ => rfl) (Nat.le_refl _) hU
          have hA47 : RA w B R H hb h (I, Q, Z) := RA_u.mpr ⟨_, _, _, _, hS, hU46⟩
          refine go_callV (pc' := 25) rfl rfl rfl (Nat.le_of_ble_eq_true rfl) rfl (sm_o hS rfl) rfl rfl rfl (ra_sc_0 hA47 (by omega) (Or.inr (Or.inr e1)) (fun z => absurd (e1.symm.trans z) (by decide)) (by omega) (by omega)) (fun r h48 q49 => ?_)
          obtain ⟨rfl, hA50⟩ := q49
          refine go_s (pc' := 40) rfl rfl rfl rfl ?_
          refine go_ret rfl rfl ?_
          have hms : rwd 0 (I, Q, Z) = rsc 0 (I, Q, Z) := by
            unfold rwd
            rw [if_neg (show ¬ ((I, Q, Z) : mM).1 16 0 = 1 from c32), if_neg (show ¬ ((I, Q, Z) : mM).1 13 0 = 0 from c33), if_neg (show ¬ ((I, Q, Z) : mM).1 14 0 = 0 from c34)]
          rw [hms]
          exact ⟨rfl, RA_R (by omega) hA50⟩
    · skip
      have c32 : (I 16 0) = 1 := Decidable.not_not.mp c32'
      refine go_s (pc' := 7) rfl rfl rfl rfl ?_
      refine go_s (pc' := 8) rfl rfl rfl rfl ?_
      have hU51 : RU w B R H hb h am ln K (I, Q, Z) := RU_I (sm_e_refl (tbr am (13 * ln) 77 5088) _) (I' := I) (fun _ => rfl) (fun _ => rfl) (Nat.le_refl _) hU
      have hA52 : RA w B R H hb h (I, Q, Z) := RA_u.mpr ⟨_, _, _, _, hS, hU51⟩
      refine go_callV (pc' := 9) rfl rfl rfl (Nat.le_of_ble_eq_true rfl) rfl (sm_o hS rfl) rfl rfl rfl (ra_go_0 hA52 (by omega) (by omega)) (fun r h53 q54 => ?_)
      obtain ⟨rfl, hA55⟩ := q54
      change RA w B R H hb h53 (rgo 0 (I, Q, Z)) at hA55
      obtain ⟨M56, eM56⟩ : ∃ y : mM, y = (rgo 0 (I, Q, Z)) := ⟨_, rfl⟩
      rw [← eM56] at hA55
      obtain ⟨I56, Q56, Z56⟩ := M56
      obtain ⟨K56, Y56, am56, ln56, hS56, hU56⟩ := RA_u.mp hA55
      change sm (tbr am56 (13 * ln56) 77 5088) h53 (jn I56 K56) Y56 at hS56
      obtain ⟨-, hWm56, -, -, hr56, -⟩ := id hU56.1
      have hln56 := RU_ln hU56 (by omega)
      refine go_s (pc' := 10) rfl rfl rfl rfl ?_
      have hM9 : MID (X + 1) (I56, Q56, Z56) := by
        rw [eM56]
        exact hgo c32
      have hU57 : RU w B R H hb h53 am56 ln56 K56 (I56, Q56, Z56) := RU_I (sm_e_refl (tbr am56 (13 * ln56) 77 5088) _) (I' := I56) (fun _ => rfl) (fun _ => rfl) (Nat.le_refl _) hU56
      have hA58 : RA w B R H hb h53 (I56, Q56, Z56) := RA_u.mpr ⟨_, _, _, _, hS56, hU57⟩
      refine go_callV (pc' := 11) rfl rfl rfl (Nat.le_of_ble_eq_true rfl) rfl (sm_o hS56 rfl) rfl rfl rfl (ra_set hA58 (by omega) hM9 (by omega) hhc (by omega)) (fun r h59 q60 => ?_)
      obtain ⟨rfl, hA61⟩ := q60
      refine go_s (pc' := 40) rfl rfl rfl rfl ?_
      refine go_ret rfl rfl ?_
      have hms : rwd 0 (I, Q, Z) = rset 30 (I56, Q56, Z56) := by
        unfold rwd
        rw [if_pos (show ((I, Q, Z) : mM).1 16 0 = 1 from c32), eM56]
      rw [hms]
      exact ⟨rfl, RA_R (by omega) hA61⟩
theorem ra_wd_1 {w : Nat → Bool} {d B R : Nat} {H : List (Nat × mg)} {hb : Bool} {h : am_Hp} {I : sm_I} {Q : mQ} {Z : mZ} (hA : RA w B R H hb h (I, Q, Z)) (hR : R + 6 < 40000) {X : Nat} (hX : X + 60 < 2 ^ 28) (hgo : I 16 1 = 1 → MID (X + 1) (rgo 1 (I, Q, Z))) (hhc : hc H hb = 0) (h5 : sq Q ≤ 5) (hp0 : prk I 0) (hpk : prk I 1) (hnk : ¬ I 11 1 = -1) (hd : 10 ≤ d) : am_Ev (am_prog w) d 183 [.ref 62, .int 1] h (fun r h' => r = none ∧ RA w B (R + 3) H hb h' (rwd 1 (I, Q, Z))) := by
  obtain ⟨K, Y, am, ln, hS, hU⟩ := RA_u.mp hA
  change sm (tbr am (13 * ln) 77 5088) h (jn I K) Y at hS
  obtain ⟨hW, hWm, -, -, hr, -⟩ := id hU.1
  have hln := RU_ln hU (by omega)
  obtain ⟨d, rfl⟩ : ∃ e, d = e + 1 := ⟨d - 1, by omega⟩
  refine ev_go rfl (Nat.le_of_ble_eq_true rfl) rfl ?_
  rcases hpk with e1 | e1 | e1
  · skip
    exact absurd e1 hnk
  · skip
    refine go_s (pc' := 1) rfl rfl rfl rfl ?_
    refine go_sget (pc' := 2) (v := .ref 83) hS rfl rfl rfl (by decide) rfl rfl ?_
    refine go_s (pc' := 3) rfl rfl rfl rfl ?_
    refine go_sald (pc' := 4) (q := 1) (v := .int (I 16 1)) hS rfl (tr_s hr (a := 83) rfl (by decide)) rfl rfl (by decide) rfl rfl ?_
    refine go_s (pc' := 5) (st' := [.int 1, .int (I 16 1)]) rfl rfl rfl rfl ?_
    refine go_icmpP (t' := 12) (pc' := 6) rfl rfl rfl (fun (c2 : ¬ (I 16 1) = 1) => ?_) (fun (c2' : ¬ ¬ (I 16 1) = 1) => ?_)
    · skip
      refine go_s (pc' := 13) rfl rfl rfl rfl ?_
      refine go_sget (pc' := 14) (v := .ref 80) hS rfl rfl rfl (by decide) rfl rfl ?_
      refine go_s (pc' := 15) rfl rfl rfl rfl ?_
      refine go_sald (pc' := 16) (q := 1) (v := .int (I 13 1)) hS rfl (tr_s hr (a := 80) rfl (by decide)) rfl rfl (by decide) rfl rfl ?_
      refine go_ifP (t' := 40) (pc' := 17) rfl rfl rfl (fun (c3 : (I 13 1) = 0) => ?_) (fun (c3 : ¬ (I 13 1) = 0) => ?_)
      · skip
        refine go_ret rfl rfl ?_
        have hms : rwd 1 (I, Q, Z) = (I, Q, Z) := by
          unfold rwd
          rw [if_neg (show ¬ ((I, Q, Z) : mM).1 16 1 = 1 from c2), if_pos (show ((I, Q, Z) : mM).1 13 1 = 0 from c3)]
        rw [hms]
        exact ⟨rfl, RA_R (by omega) hA⟩
      · skip
        refine go_s (pc' := 18) rfl rfl rfl rfl ?_
        refine go_sget (pc' := 19) (v := .ref 81) hS rfl rfl rfl (by decide) rfl rfl ?_
        refine go_s (pc' := 20) rfl rfl rfl rfl ?_
        refine go_sald (pc' := 21) (q := 1) (v := .int (I 14 1)) hS rfl (tr_s hr (a := 81) rfl (by decide)) rfl rfl (by decide) rfl rfl ?_
        refine go_ifP (t' := 26) (pc' := 22) rfl rfl rfl (fun (c4 : (I 14 1) = 0) => ?_) (fun (c4 : ¬ (I 14 1) = 0) => ?_)
        · skip
          refine go_s (pc' := 27) rfl rfl rfl rfl ?_
          refine go_sget (pc' := 28) (v := .ref 80) hS rfl rfl rfl (by decide) rfl rfl ?_
          refine go_s (pc' := 29) rfl rfl rfl rfl ?_
          refine go_s (pc' := 30) (st' := [.int 0, .int 1, .ref 80]) rfl rfl rfl rfl ?_
          refine go_szast (pc' := 31) (q := 1) hS rfl (tr_s hr (a := 80) rfl (by decide)) tbr_inj (Nat.le_of_ble_eq_true rfl) rfl (by decide) (by decide) rfl (hW _ (by decide) (by decide)) rfl (fun h5 hS6 hE7 => ?_)
          refine go_s (pc' := 32) rfl rfl rfl rfl ?_
          refine go_sget (pc' := 33) (v := .ref 79) hS6 rfl rfl rfl (by decide) rfl rfl ?_
          refine go_s (pc' := 34) rfl rfl rfl rfl ?_
          refine go_s (pc' := 35) rfl rfl rfl rfl ?_
          refine go_sget (pc' := 36) (v := .ref 78) hS6 rfl rfl rfl (by decide) rfl rfl ?_
          refine go_s (pc' := 37) rfl rfl rfl rfl ?_
          refine go_sald (pc' := 38) (q := 1) (v := .int 2) hS6 rfl (tr_s hr (a := 78) rfl (by decide)) rfl rfl (by decide) (congrArg Value.int e1) rfl ?_
          refine go_callS (pc' := 39) rfl rfl rfl (Nat.le_of_ble_eq_true rfl) rfl rfl rfl (rt_oh_2 (by omega)) (fun r h8 q9 => ?_)
          obtain ⟨rfl, rfl⟩ := q9
          refine go_siast (pc' := 40) (q := 1) hS6 rfl (tr_s hr (a := 79) rfl (by decide)) tbr_inj (Nat.le_of_ble_eq_true rfl) rfl (by decide) (by decide) (hW _ (by decide) (by decide)) rfl (fun h10 hS11 hE12 => ?_)
          have hE13 := sm_e_trans hE7 hE12
          refine go_ret rfl rfl ?_
          change sm (tbr am (13 * ln) 77 5088) _ (uI (uI (jn I K) 13 1 0) 12 1 3) Y at hS11
          rw [jn_lo (c := 13) (by decide), jn_lo (c := 12) (by decide)] at hS11
          have hU14 : RU w B R H hb h10 am ln K ((uI (uI I 13 1 0) 12 1 3), Q, Z) := RU_I (hE13) (I' := (uI (uI I 13 1 0) 12 1 3)) (fun _ => rfl) (fun _ => rfl) (Nat.le_refl _) hU
          have hA15 : RA w B R H hb h10 ((uI (uI I 13 1 0) 12 1 3), Q, Z) := RA_u.mpr ⟨_, _, _, _, hS11, hU14⟩
          have hms : rwd 1 (I, Q, Z) = ((uI (uI I 13 1 0) 12 1 3), Q, Z) := by
            unfold rwd
            rw [if_neg (show ¬ ((I, Q, Z) : mM).1 16 1 = 1 from c2), if_neg (show ¬ ((I, Q, Z) : mM).1 13 1 = 0 from c3), if_pos (show ((I, Q, Z) : mM).1 14 1 = 0 from c4), show ohn ((I, Q, Z) : mM).1 1 = 3 from ohn_l (v := 2) e1 (by decide)]
            rw [show nI 3 = 3 from rfl]
          rw [hms]
          exact ⟨rfl, RA_R (by omega) hA15⟩
        · skip
          refine go_s (pc' := 23) rfl rfl rfl rfl ?_
          refine go_s (pc' := 24) rfl rfl rfl rfl ?_
          have hU16 : RU w B R H hb h am ln K (I, Q, Z) := RU_I (sm_e_refl (tbr am (13 * ln) 77 5088) _) (I' := I) (fun _ => rfl) (fun _ => rfl) (Nat.le_refl _) hU
          have hA17 : RA w B R H hb h (I, Q, Z) := RA_u.mpr ⟨_, _, _, _, hS, hU16⟩
          refine go_callV (pc' := 25) rfl rfl rfl (Nat.le_of_ble_eq_true rfl) rfl (sm_o hS rfl) rfl rfl rfl (ra_sc_1 hA17 (by omega) (Or.inr (Or.inl e1)) (fun z => absurd (e1.symm.trans z) (by decide)) (by omega) (by omega)) (fun r h18 q19 => ?_)
          obtain ⟨rfl, hA20⟩ := q19
          refine go_s (pc' := 40) rfl rfl rfl rfl ?_
          refine go_ret rfl rfl ?_
          have hms : rwd 1 (I, Q, Z) = rsc 1 (I, Q, Z) := by
            unfold rwd
            rw [if_neg (show ¬ ((I, Q, Z) : mM).1 16 1 = 1 from c2), if_neg (show ¬ ((I, Q, Z) : mM).1 13 1 = 0 from c3), if_neg (show ¬ ((I, Q, Z) : mM).1 14 1 = 0 from c4)]
          rw [hms]
          exact ⟨rfl, RA_R (by omega) hA20⟩
    · skip
      have c2 : (I 16 1) = 1 := Decidable.not_not.mp c2'
      refine go_s (pc' := 7) rfl rfl rfl rfl ?_
      refine go_s (pc' := 8) rfl rfl rfl rfl ?_
      have hU21 : RU w B R H hb h am ln K (I, Q, Z) := RU_I (sm_e_refl (tbr am (13 * ln) 77 5088) _) (I' := I) (fun _ => rfl) (fun _ => rfl) (Nat.le_refl _) hU
      have hA22 : RA w B R H hb h (I, Q, Z) := RA_u.mpr ⟨_, _, _, _, hS, hU21⟩
      refine go_callV (pc' := 9) rfl rfl rfl (Nat.le_of_ble_eq_true rfl) rfl (sm_o hS rfl) rfl rfl rfl (ra_go_1 hA22 (by omega) hp0 (Or.inr (Or.inl e1)) (fun z => absurd (e1.symm.trans z) (by decide)) (by omega)) (fun r h23 q24 => ?_)
      obtain ⟨rfl, hA25⟩ := q24
      change RA w B (R + 1) H hb h23 (rgo 1 (I, Q, Z)) at hA25
      obtain ⟨M26, eM26⟩ : ∃ y : mM, y = (rgo 1 (I, Q, Z)) := ⟨_, rfl⟩
      rw [← eM26] at hA25
      obtain ⟨I26, Q26, Z26⟩ := M26
      obtain ⟨K26, Y26, am26, ln26, hS26, hU26⟩ := RA_u.mp hA25
      change sm (tbr am26 (13 * ln26) 77 5088) h23 (jn I26 K26) Y26 at hS26
      obtain ⟨-, hWm26, -, -, hr26, -⟩ := id hU26.1
      have hln26 := RU_ln hU26 (by omega)
      refine go_s (pc' := 10) rfl rfl rfl rfl ?_
      have hM9 : MID (X + 1) (I26, Q26, Z26) := by
        rw [eM26]
        exact hgo c2
      have hU27 : RU w B (R + 1) H hb h23 am26 ln26 K26 (I26, Q26, Z26) := RU_I (sm_e_refl (tbr am26 (13 * ln26) 77 5088) _) (I' := I26) (fun _ => rfl) (fun _ => rfl) (Nat.le_refl _) hU26
      have hA28 : RA w B (R + 1) H hb h23 (I26, Q26, Z26) := RA_u.mpr ⟨_, _, _, _, hS26, hU27⟩
      refine go_callV (pc' := 11) rfl rfl rfl (Nat.le_of_ble_eq_true rfl) rfl (sm_o hS26 rfl) rfl rfl rfl (ra_set hA28 (by omega) hM9 (by omega) hhc (by omega)) (fun r h29 q30 => ?_)
      obtain ⟨rfl, hA31⟩ := q30
      refine go_s (pc' := 40) rfl rfl rfl rfl ?_
      refine go_ret rfl rfl ?_
      have hms : rwd 1 (I, Q, Z) = rset 30 (I26, Q26, Z26) := by
        unfold rwd
        rw [if_pos (show ((I, Q, Z) : mM).1 16 1 = 1 from c2), eM26]
      rw [hms]
      exact ⟨rfl, RA_R (by omega) hA31⟩
  · skip
    refine go_s (pc' := 1) rfl rfl rfl rfl ?_
    refine go_sget (pc' := 2) (v := .ref 83) hS rfl rfl rfl (by decide) rfl rfl ?_
    refine go_s (pc' := 3) rfl rfl rfl rfl ?_
    refine go_sald (pc' := 4) (q := 1) (v := .int (I 16 1)) hS rfl (tr_s hr (a := 83) rfl (by decide)) rfl rfl (by decide) rfl rfl ?_
    refine go_s (pc' := 5) (st' := [.int 1, .int (I 16 1)]) rfl rfl rfl rfl ?_
    refine go_icmpP (t' := 12) (pc' := 6) rfl rfl rfl (fun (c32 : ¬ (I 16 1) = 1) => ?_) (fun (c32' : ¬ ¬ (I 16 1) = 1) => ?_)
    · skip
      refine go_s (pc' := 13) rfl rfl rfl rfl ?_
      refine go_sget (pc' := 14) (v := .ref 80) hS rfl rfl rfl (by decide) rfl rfl ?_
      refine go_s (pc' := 15) rfl rfl rfl rfl ?_
      refine go_sald (pc' := 16) (q := 1) (v := .int (I 13 1)) hS rfl (tr_s hr (a := 80) rfl (by decide)) rfl rfl (by decide) rfl rfl ?_
      refine go_ifP (t' := 40) (pc' := 17) rfl rfl rfl (fun (c33 : (I 13 1) = 0) => ?_) (fun (c33 : ¬ (I 13 1) = 0) => ?_)
      · skip
        refine go_ret rfl rfl ?_
        have hms : rwd 1 (I, Q, Z) = (I, Q, Z) := by
          unfold rwd
          rw [if_neg (show ¬ ((I, Q, Z) : mM).1 16 1 = 1 from c32), if_pos (show ((I, Q, Z) : mM).1 13 1 = 0 from c33)]
        rw [hms]
        exact ⟨rfl, RA_R (by omega) hA⟩
      · skip
        refine go_s (pc' := 18) rfl rfl rfl rfl ?_
        refine go_sget (pc' := 19) (v := .ref 81) hS rfl rfl rfl (by decide) rfl rfl ?_
        refine go_s (pc' := 20) rfl rfl rfl rfl ?_
        refine go_sald (pc' := 21) (q := 1) (v := .int (I 14 1)) hS rfl (tr_s hr (a := 81) rfl (by decide)) rfl rfl (by decide) rfl rfl ?_
        refine go_ifP (t' := 26) (pc' := 22) rfl rfl rfl (fun (c34 : (I 14 1) = 0) => ?_) (fun (c34 : ¬ (I 14 1) = 0) => ?_)
        · skip
          refine go_s (pc' := 27) rfl rfl rfl rfl ?_
          refine go_sget (pc' := 28) (v := .ref 80) hS rfl rfl rfl (by decide) rfl rfl ?_
          refine go_s (pc' := 29) rfl rfl rfl rfl ?_
          refine go_s (pc' := 30) (st' := [.int 0, .int 1, .ref 80]) rfl rfl rfl rfl ?_
          refine go_szast (pc' := 31) (q := 1) hS rfl (tr_s hr (a := 80) rfl (by decide)) tbr_inj (Nat.le_of_ble_eq_true rfl) rfl (by decide) (by decide) rfl (hW _ (by decide) (by decide)) rfl (fun h35 hS36 hE37 => ?_)
          refine go_s (pc' := 32) rfl rfl rfl rfl ?_
          refine go_sget (pc' := 33) (v := .ref 79) hS36 rfl rfl rfl (by decide) rfl rfl ?_
          refine go_s (pc' := 34) rfl rfl rfl rfl ?_
          refine go_s (pc' := 35) rfl rfl rfl rfl ?_
          refine go_sget (pc' := 36) (v := .ref 78) hS36 rfl rfl rfl (by decide) rfl rfl ?_
          refine go_s (pc' := 37) rfl rfl rfl rfl ?_
          refine go_sald (pc' := 38) (q := 1) (v := .int 3) hS36 rfl (tr_s hr (a := 78) rfl (by decide)) rfl rfl (by decide) (congrArg Value.int e1) rfl ?_
          refine go_callS (pc' := 39) rfl rfl rfl (Nat.le_of_ble_eq_true rfl) rfl rfl rfl (rt_oh_3 (by omega)) (fun r h38 q39 => ?_)
          obtain ⟨rfl, rfl⟩ := q39
          refine go_siast (pc' := 40) (q := 1) hS36 rfl (tr_s hr (a := 79) rfl (by decide)) tbr_inj (Nat.le_of_ble_eq_true rfl) rfl (by decide) (by decide) (hW _ (by decide) (by decide)) rfl (fun h40 hS41 hE42 => ?_)
          have hE43 := sm_e_trans hE37 hE42
          refine go_ret rfl rfl ?_
          change sm (tbr am (13 * ln) 77 5088) _ (uI (uI (jn I K) 13 1 0) 12 1 2) Y at hS41
          rw [jn_lo (c := 13) (by decide), jn_lo (c := 12) (by decide)] at hS41
          have hU44 : RU w B R H hb h40 am ln K ((uI (uI I 13 1 0) 12 1 2), Q, Z) := RU_I (hE43) (I' := (uI (uI I 13 1 0) 12 1 2)) (fun _ => rfl) (fun _ => rfl) (Nat.le_refl _) hU
          have hA45 : RA w B R H hb h40 ((uI (uI I 13 1 0) 12 1 2), Q, Z) := RA_u.mpr ⟨_, _, _, _, hS41, hU44⟩
          have hms : rwd 1 (I, Q, Z) = ((uI (uI I 13 1 0) 12 1 2), Q, Z) := by
            unfold rwd
            rw [if_neg (show ¬ ((I, Q, Z) : mM).1 16 1 = 1 from c32), if_neg (show ¬ ((I, Q, Z) : mM).1 13 1 = 0 from c33), if_pos (show ((I, Q, Z) : mM).1 14 1 = 0 from c34), show ohn ((I, Q, Z) : mM).1 1 = 2 from ohn_l (v := 3) e1 (by decide)]
            rw [show nI 2 = 2 from rfl]
          rw [hms]
          exact ⟨rfl, RA_R (by omega) hA45⟩
        · skip
          refine go_s (pc' := 23) rfl rfl rfl rfl ?_
          refine go_s (pc' := 24) rfl rfl rfl rfl ?_
          have hU46 : RU w B R H hb h am ln K (I, Q, Z) := RU_I (sm_e_refl (tbr am (13 * ln) 77 5088) _) (I' := I) (fun _ => rfl) (fun _ => rfl) (Nat.le_refl _) hU
          have hA47 : RA w B R H hb h (I, Q, Z) := RA_u.mpr ⟨_, _, _, _, hS, hU46⟩
          refine go_callV (pc' := 25) rfl rfl rfl (Nat.le_of_ble_eq_true rfl) rfl (sm_o hS rfl) rfl rfl rfl (ra_sc_1 hA47 (by omega) (Or.inr (Or.inr e1)) (fun z => absurd (e1.symm.trans z) (by decide)) (by omega) (by omega)) (fun r h48 q49 => ?_)
          obtain ⟨rfl, hA50⟩ := q49
          refine go_s (pc' := 40) rfl rfl rfl rfl ?_
          refine go_ret rfl rfl ?_
          have hms : rwd 1 (I, Q, Z) = rsc 1 (I, Q, Z) := by
            unfold rwd
            rw [if_neg (show ¬ ((I, Q, Z) : mM).1 16 1 = 1 from c32), if_neg (show ¬ ((I, Q, Z) : mM).1 13 1 = 0 from c33), if_neg (show ¬ ((I, Q, Z) : mM).1 14 1 = 0 from c34)]
          rw [hms]
          exact ⟨rfl, RA_R (by omega) hA50⟩
    · skip
      have c32 : (I 16 1) = 1 := Decidable.not_not.mp c32'
      refine go_s (pc' := 7) rfl rfl rfl rfl ?_
      refine go_s (pc' := 8) rfl rfl rfl rfl ?_
      have hU51 : RU w B R H hb h am ln K (I, Q, Z) := RU_I (sm_e_refl (tbr am (13 * ln) 77 5088) _) (I' := I) (fun _ => rfl) (fun _ => rfl) (Nat.le_refl _) hU
      have hA52 : RA w B R H hb h (I, Q, Z) := RA_u.mpr ⟨_, _, _, _, hS, hU51⟩
      refine go_callV (pc' := 9) rfl rfl rfl (Nat.le_of_ble_eq_true rfl) rfl (sm_o hS rfl) rfl rfl rfl (ra_go_1 hA52 (by omega) hp0 (Or.inr (Or.inr e1)) (fun z => absurd (e1.symm.trans z) (by decide)) (by omega)) (fun r h53 q54 => ?_)
      obtain ⟨rfl, hA55⟩ := q54
      change RA w B (R + 1) H hb h53 (rgo 1 (I, Q, Z)) at hA55
      obtain ⟨M56, eM56⟩ : ∃ y : mM, y = (rgo 1 (I, Q, Z)) := ⟨_, rfl⟩
      rw [← eM56] at hA55
      obtain ⟨I56, Q56, Z56⟩ := M56
      obtain ⟨K56, Y56, am56, ln56, hS56, hU56⟩ := RA_u.mp hA55
      change sm (tbr am56 (13 * ln56) 77 5088) h53 (jn I56 K56) Y56 at hS56
      obtain ⟨-, hWm56, -, -, hr56, -⟩ := id hU56.1
      have hln56 := RU_ln hU56 (by omega)
      refine go_s (pc' := 10) rfl rfl rfl rfl ?_
      have hM9 : MID (X + 1) (I56, Q56, Z56) := by
        rw [eM56]
        exact hgo c32
      have hU57 : RU w B (R + 1) H hb h53 am56 ln56 K56 (I56, Q56, Z56) := RU_I (sm_e_refl (tbr am56 (13 * ln56) 77 5088) _) (I' := I56) (fun _ => rfl) (fun _ => rfl) (Nat.le_refl _) hU56
      have hA58 : RA w B (R + 1) H hb h53 (I56, Q56, Z56) := RA_u.mpr ⟨_, _, _, _, hS56, hU57⟩
      refine go_callV (pc' := 11) rfl rfl rfl (Nat.le_of_ble_eq_true rfl) rfl (sm_o hS56 rfl) rfl rfl rfl (ra_set hA58 (by omega) hM9 (by omega) hhc (by omega)) (fun r h59 q60 => ?_)
      obtain ⟨rfl, hA61⟩ := q60
      refine go_s (pc' := 40) rfl rfl rfl rfl ?_
      refine go_ret rfl rfl ?_
      have hms : rwd 1 (I, Q, Z) = rset 30 (I56, Q56, Z56) := by
        unfold rwd
        rw [if_pos (show ((I, Q, Z) : mM).1 16 1 = 1 from c32), eM56]
      rw [hms]
      exact ⟨rfl, RA_R (by omega) hA61⟩
theorem ra_wd_2 {w : Nat → Bool} {d B R : Nat} {H : List (Nat × mg)} {hb : Bool} {h : am_Hp} {I : sm_I} {Q : mQ} {Z : mZ} (hA : RA w B R H hb h (I, Q, Z)) (hR : R + 6 < 40000) {X : Nat} (hX : X + 60 < 2 ^ 28) (hgo : I 16 2 = 1 → MID (X + 1) (rgo 2 (I, Q, Z))) (hhc : hc H hb = 0) (h5 : sq Q ≤ 5) (hp0 : prk I 0) (hpk : prk I 2) (hnk : ¬ I 11 2 = -1) (hd : 10 ≤ d) : am_Ev (am_prog w) d 183 [.ref 62, .int 2] h (fun r h' => r = none ∧ RA w B (R + 3) H hb h' (rwd 2 (I, Q, Z))) := by
  obtain ⟨K, Y, am, ln, hS, hU⟩ := RA_u.mp hA
  change sm (tbr am (13 * ln) 77 5088) h (jn I K) Y at hS
  obtain ⟨hW, hWm, -, -, hr, -⟩ := id hU.1
  have hln := RU_ln hU (by omega)
  obtain ⟨d, rfl⟩ : ∃ e, d = e + 1 := ⟨d - 1, by omega⟩
  refine ev_go rfl (Nat.le_of_ble_eq_true rfl) rfl ?_
  rcases hpk with e1 | e1 | e1
  · skip
    exact absurd e1 hnk
  · skip
    refine go_s (pc' := 1) rfl rfl rfl rfl ?_
    refine go_sget (pc' := 2) (v := .ref 83) hS rfl rfl rfl (by decide) rfl rfl ?_
    refine go_s (pc' := 3) rfl rfl rfl rfl ?_
    refine go_sald (pc' := 4) (q := 2) (v := .int (I 16 2)) hS rfl (tr_s hr (a := 83) rfl (by decide)) rfl rfl (by decide) rfl rfl ?_
    refine go_s (pc' := 5) (st' := [.int 1, .int (I 16 2)]) rfl rfl rfl rfl ?_
    refine go_icmpP (t' := 12) (pc' := 6) rfl rfl rfl (fun (c2 : ¬ (I 16 2) = 1) => ?_) (fun (c2' : ¬ ¬ (I 16 2) = 1) => ?_)
    · skip
      refine go_s (pc' := 13) rfl rfl rfl rfl ?_
      refine go_sget (pc' := 14) (v := .ref 80) hS rfl rfl rfl (by decide) rfl rfl ?_
      refine go_s (pc' := 15) rfl rfl rfl rfl ?_
      refine go_sald (pc' := 16) (q := 2) (v := .int (I 13 2)) hS rfl (tr_s hr (a := 80) rfl (by decide)) rfl rfl (by decide) rfl rfl ?_
      refine go_ifP (t' := 40) (pc' := 17) rfl rfl rfl (fun (c3 : (I 13 2) = 0) => ?_) (fun (c3 : ¬ (I 13 2) = 0) => ?_)
      · skip
        refine go_ret rfl rfl ?_
        have hms : rwd 2 (I, Q, Z) = (I, Q, Z) := by
          unfold rwd
          rw [if_neg (show ¬ ((I, Q, Z) : mM).1 16 2 = 1 from c2), if_pos (show ((I, Q, Z) : mM).1 13 2 = 0 from c3)]
        rw [hms]
        exact ⟨rfl, RA_R (by omega) hA⟩
      · skip
        refine go_s (pc' := 18) rfl rfl rfl rfl ?_
        refine go_sget (pc' := 19) (v := .ref 81) hS rfl rfl rfl (by decide) rfl rfl ?_
        refine go_s (pc' := 20) rfl rfl rfl rfl ?_
        refine go_sald (pc' := 21) (q := 2) (v := .int (I 14 2)) hS rfl (tr_s hr (a := 81) rfl (by decide)) rfl rfl (by decide) rfl rfl ?_
        refine go_ifP (t' := 26) (pc' := 22) rfl rfl rfl (fun (c4 : (I 14 2) = 0) => ?_) (fun (c4 : ¬ (I 14 2) = 0) => ?_)
        · skip
          refine go_s (pc' := 27) rfl rfl rfl rfl ?_
          refine go_sget (pc' := 28) (v := .ref 80) hS rfl rfl rfl (by decide) rfl rfl ?_
          refine go_s (pc' := 29) rfl rfl rfl rfl ?_
          refine go_s (pc' := 30) (st' := [.int 0, .int 2, .ref 80]) rfl rfl rfl rfl ?_
          refine go_szast (pc' := 31) (q := 2) hS rfl (tr_s hr (a := 80) rfl (by decide)) tbr_inj (Nat.le_of_ble_eq_true rfl) rfl (by decide) (by decide) rfl (hW _ (by decide) (by decide)) rfl (fun h5 hS6 hE7 => ?_)
          refine go_s (pc' := 32) rfl rfl rfl rfl ?_
          refine go_sget (pc' := 33) (v := .ref 79) hS6 rfl rfl rfl (by decide) rfl rfl ?_
          refine go_s (pc' := 34) rfl rfl rfl rfl ?_
          refine go_s (pc' := 35) rfl rfl rfl rfl ?_
          refine go_sget (pc' := 36) (v := .ref 78) hS6 rfl rfl rfl (by decide) rfl rfl ?_
          refine go_s (pc' := 37) rfl rfl rfl rfl ?_
          refine go_sald (pc' := 38) (q := 2) (v := .int 2) hS6 rfl (tr_s hr (a := 78) rfl (by decide)) rfl rfl (by decide) (congrArg Value.int e1) rfl ?_
          refine go_callS (pc' := 39) rfl rfl rfl (Nat.le_of_ble_eq_true rfl) rfl rfl rfl (rt_oh_2 (by omega)) (fun r h8 q9 => ?_)
          obtain ⟨rfl, rfl⟩ := q9
          refine go_siast (pc' := 40) (q := 2) hS6 rfl (tr_s hr (a := 79) rfl (by decide)) tbr_inj (Nat.le_of_ble_eq_true rfl) rfl (by decide) (by decide) (hW _ (by decide) (by decide)) rfl (fun h10 hS11 hE12 => ?_)
          have hE13 := sm_e_trans hE7 hE12
          refine go_ret rfl rfl ?_
          change sm (tbr am (13 * ln) 77 5088) _ (uI (uI (jn I K) 13 2 0) 12 2 3) Y at hS11
          rw [jn_lo (c := 13) (by decide), jn_lo (c := 12) (by decide)] at hS11
          have hU14 : RU w B R H hb h10 am ln K ((uI (uI I 13 2 0) 12 2 3), Q, Z) := RU_I (hE13) (I' := (uI (uI I 13 2 0) 12 2 3)) (fun _ => rfl) (fun _ => rfl) (Nat.le_refl _) hU
          have hA15 : RA w B R H hb h10 ((uI (uI I 13 2 0) 12 2 3), Q, Z) := RA_u.mpr ⟨_, _, _, _, hS11, hU14⟩
          have hms : rwd 2 (I, Q, Z) = ((uI (uI I 13 2 0) 12 2 3), Q, Z) := by
            unfold rwd
            rw [if_neg (show ¬ ((I, Q, Z) : mM).1 16 2 = 1 from c2), if_neg (show ¬ ((I, Q, Z) : mM).1 13 2 = 0 from c3), if_pos (show ((I, Q, Z) : mM).1 14 2 = 0 from c4), show ohn ((I, Q, Z) : mM).1 2 = 3 from ohn_l (v := 2) e1 (by decide)]
            rw [show nI 3 = 3 from rfl]
          rw [hms]
          exact ⟨rfl, RA_R (by omega) hA15⟩
        · skip
          refine go_s (pc' := 23) rfl rfl rfl rfl ?_
          refine go_s (pc' := 24) rfl rfl rfl rfl ?_
          have hU16 : RU w B R H hb h am ln K (I, Q, Z) := RU_I (sm_e_refl (tbr am (13 * ln) 77 5088) _) (I' := I) (fun _ => rfl) (fun _ => rfl) (Nat.le_refl _) hU
          have hA17 : RA w B R H hb h (I, Q, Z) := RA_u.mpr ⟨_, _, _, _, hS, hU16⟩
          refine go_callV (pc' := 25) rfl rfl rfl (Nat.le_of_ble_eq_true rfl) rfl (sm_o hS rfl) rfl rfl rfl (ra_sc_2 hA17 (by omega) (Or.inr (Or.inl e1)) (fun z => absurd (e1.symm.trans z) (by decide)) (by omega) (by omega)) (fun r h18 q19 => ?_)
          obtain ⟨rfl, hA20⟩ := q19
          refine go_s (pc' := 40) rfl rfl rfl rfl ?_
          refine go_ret rfl rfl ?_
          have hms : rwd 2 (I, Q, Z) = rsc 2 (I, Q, Z) := by
            unfold rwd
            rw [if_neg (show ¬ ((I, Q, Z) : mM).1 16 2 = 1 from c2), if_neg (show ¬ ((I, Q, Z) : mM).1 13 2 = 0 from c3), if_neg (show ¬ ((I, Q, Z) : mM).1 14 2 = 0 from c4)]
          rw [hms]
          exact ⟨rfl, RA_R (by omega) hA20⟩
    · skip
      have c2 : (I 16 2) = 1 := Decidable.not_not.mp c2'
      refine go_s (pc' := 7) rfl rfl rfl rfl ?_
      refine go_s (pc' := 8) rfl rfl rfl rfl ?_
      have hU21 : RU w B R H hb h am ln K (I, Q, Z) := RU_I (sm_e_refl (tbr am (13 * ln) 77 5088) _) (I' := I) (fun _ => rfl) (fun _ => rfl) (Nat.le_refl _) hU
      have hA22 : RA w B R H hb h (I, Q, Z) := RA_u.mpr ⟨_, _, _, _, hS, hU21⟩
      refine go_callV (pc' := 9) rfl rfl rfl (Nat.le_of_ble_eq_true rfl) rfl (sm_o hS rfl) rfl rfl rfl (ra_go_2 hA22 (by omega) hp0 (Or.inr (Or.inl e1)) (fun z => absurd (e1.symm.trans z) (by decide)) (by omega)) (fun r h23 q24 => ?_)
      obtain ⟨rfl, hA25⟩ := q24
      change RA w B (R + 1) H hb h23 (rgo 2 (I, Q, Z)) at hA25
      obtain ⟨M26, eM26⟩ : ∃ y : mM, y = (rgo 2 (I, Q, Z)) := ⟨_, rfl⟩
      rw [← eM26] at hA25
      obtain ⟨I26, Q26, Z26⟩ := M26
      obtain ⟨K26, Y26, am26, ln26, hS26, hU26⟩ := RA_u.mp hA25
      change sm (tbr am26 (13 * ln26) 77 5088) h23 (jn I26 K26) Y26 at hS26
      obtain ⟨-, hWm26, -, -, hr26, -⟩ := id hU26.1
      have hln26 := RU_ln hU26 (by omega)
      refine go_s (pc' := 10) rfl rfl rfl rfl ?_
      have hM9 : MID (X + 1) (I26, Q26, Z26) := by
        rw [eM26]
        exact hgo c2
      have hU27 : RU w B (R + 1) H hb h23 am26 ln26 K26 (I26, Q26, Z26) := RU_I (sm_e_refl (tbr am26 (13 * ln26) 77 5088) _) (I' := I26) (fun _ => rfl) (fun _ => rfl) (Nat.le_refl _) hU26
      have hA28 : RA w B (R + 1) H hb h23 (I26, Q26, Z26) := RA_u.mpr ⟨_, _, _, _, hS26, hU27⟩
      refine go_callV (pc' := 11) rfl rfl rfl (Nat.le_of_ble_eq_true rfl) rfl (sm_o hS26 rfl) rfl rfl rfl (ra_set hA28 (by omega) hM9 (by omega) hhc (by omega)) (fun r h29 q30 => ?_)
      obtain ⟨rfl, hA31⟩ := q30
      refine go_s (pc' := 40) rfl rfl rfl rfl ?_
      refine go_ret rfl rfl ?_
      have hms : rwd 2 (I, Q, Z) = rset 30 (I26, Q26, Z26) := by
        unfold rwd
        rw [if_pos (show ((I, Q, Z) : mM).1 16 2 = 1 from c2), eM26]
      rw [hms]
      exact ⟨rfl, RA_R (by omega) hA31⟩
  · skip
    refine go_s (pc' := 1) rfl rfl rfl rfl ?_
    refine go_sget (pc' := 2) (v := .ref 83) hS rfl rfl rfl (by decide) rfl rfl ?_
    refine go_s (pc' := 3) rfl rfl rfl rfl ?_
    refine go_sald (pc' := 4) (q := 2) (v := .int (I 16 2)) hS rfl (tr_s hr (a := 83) rfl (by decide)) rfl rfl (by decide) rfl rfl ?_
    refine go_s (pc' := 5) (st' := [.int 1, .int (I 16 2)]) rfl rfl rfl rfl ?_
    refine go_icmpP (t' := 12) (pc' := 6) rfl rfl rfl (fun (c32 : ¬ (I 16 2) = 1) => ?_) (fun (c32' : ¬ ¬ (I 16 2) = 1) => ?_)
    · skip
      refine go_s (pc' := 13) rfl rfl rfl rfl ?_
      refine go_sget (pc' := 14) (v := .ref 80) hS rfl rfl rfl (by decide) rfl rfl ?_
      refine go_s (pc' := 15) rfl rfl rfl rfl ?_
      refine go_sald (pc' := 16) (q := 2) (v := .int (I 13 2)) hS rfl (tr_s hr (a := 80) rfl (by decide)) rfl rfl (by decide) rfl rfl ?_
      refine go_ifP (t' := 40) (pc' := 17) rfl rfl rfl (fun (c33 : (I 13 2) = 0) => ?_) (fun (c33 : ¬ (I 13 2) = 0) => ?_)
      · skip
        refine go_ret rfl rfl ?_
        have hms : rwd 2 (I, Q, Z) = (I, Q, Z) := by
          unfold rwd
          rw [if_neg (show ¬ ((I, Q, Z) : mM).1 16 2 = 1 from c32), if_pos (show ((I, Q, Z) : mM).1 13 2 = 0 from c33)]
        rw [hms]
        exact ⟨rfl, RA_R (by omega) hA⟩
      · skip
        refine go_s (pc' := 18) rfl rfl rfl rfl ?_
        refine go_sget (pc' := 19) (v := .ref 81) hS rfl rfl rfl (by decide) rfl rfl ?_
        refine go_s (pc' := 20) rfl rfl rfl rfl ?_
        refine go_sald (pc' := 21) (q := 2) (v := .int (I 14 2)) hS rfl (tr_s hr (a := 81) rfl (by decide)) rfl rfl (by decide) rfl rfl ?_
        refine go_ifP (t' := 26) (pc' := 22) rfl rfl rfl (fun (c34 : (I 14 2) = 0) => ?_) (fun (c34 : ¬ (I 14 2) = 0) => ?_)
        · skip
          refine go_s (pc' := 27) rfl rfl rfl rfl ?_
          refine go_sget (pc' := 28) (v := .ref 80) hS rfl rfl rfl (by decide) rfl rfl ?_
          refine go_s (pc' := 29) rfl rfl rfl rfl ?_
          refine go_s (pc' := 30) (st' := [.int 0, .int 2, .ref 80]) rfl rfl rfl rfl ?_
          refine go_szast (pc' := 31) (q := 2) hS rfl (tr_s hr (a := 80) rfl (by decide)) tbr_inj (Nat.le_of_ble_eq_true rfl) rfl (by decide) (by decide) rfl (hW _ (by decide) (by decide)) rfl (fun h35 hS36 hE37 => ?_)
          refine go_s (pc' := 32) rfl rfl rfl rfl ?_
          refine go_sget (pc' := 33) (v := .ref 79) hS36 rfl rfl rfl (by decide) rfl rfl ?_
          refine go_s (pc' := 34) rfl rfl rfl rfl ?_
          refine go_s (pc' := 35) rfl rfl rfl rfl ?_
          refine go_sget (pc' := 36) (v := .ref 78) hS36 rfl rfl rfl (by decide) rfl rfl ?_
          refine go_s (pc' := 37) rfl rfl rfl rfl ?_
          refine go_sald (pc' := 38) (q := 2) (v := .int 3) hS36 rfl (tr_s hr (a := 78) rfl (by decide)) rfl rfl (by decide) (congrArg Value.int e1) rfl ?_
          refine go_callS (pc' := 39) rfl rfl rfl (Nat.le_of_ble_eq_true rfl) rfl rfl rfl (rt_oh_3 (by omega)) (fun r h38 q39 => ?_)
          obtain ⟨rfl, rfl⟩ := q39
          refine go_siast (pc' := 40) (q := 2) hS36 rfl (tr_s hr (a := 79) rfl (by decide)) tbr_inj (Nat.le_of_ble_eq_true rfl) rfl (by decide) (by decide) (hW _ (by decide) (by decide)) rfl (fun h40 hS41 hE42 => ?_)
          have hE43 := sm_e_trans hE37 hE42
          refine go_ret rfl rfl ?_
          change sm (tbr am (13 * ln) 77 5088) _ (uI (uI (jn I K) 13 2 0) 12 2 2) Y at hS41
          rw [jn_lo (c := 13) (by decide), jn_lo (c := 12) (by decide)] at hS41
          have hU44 : RU w B R H hb h40 am ln K ((uI (uI I 13 2 0) 12 2 2), Q, Z) := RU_I (hE43) (I' := (uI (uI I 13 2 0) 12 2 2)) (fun _ => rfl) (fun _ => rfl) (Nat.le_refl _) hU
          have hA45 : RA w B R H hb h40 ((uI (uI I 13 2 0) 12 2 2), Q, Z) := RA_u.mpr ⟨_, _, _, _, hS41, hU44⟩
          have hms : rwd 2 (I, Q, Z) = ((uI (uI I 13 2 0) 12 2 2), Q, Z) := by
            unfold rwd
            rw [if_neg (show ¬ ((I, Q, Z) : mM).1 16 2 = 1 from c32), if_neg (show ¬ ((I, Q, Z) : mM).1 13 2 = 0 from c33), if_pos (show ((I, Q, Z) : mM).1 14 2 = 0 from c34), show ohn ((I, Q, Z) : mM).1 2 = 2 from ohn_l (v := 3) e1 (by decide)]
            rw [show nI 2 = 2 from rfl]
          rw [hms]
          exact ⟨rfl, RA_R (by omega) hA45⟩
        · skip
          refine go_s (pc' := 23) rfl rfl rfl rfl ?_
          refine go_s (pc' := 24) rfl rfl rfl rfl ?_
          have hU46 : RU w B R H hb h am ln K (I, Q, Z) := RU_I (sm_e_refl (tbr am (13 * ln) 77 5088) _) (I' := I) (fun _ => rfl) (fun _ => rfl) (Nat.le_refl _) hU
          have hA47 : RA w B R H hb h (I, Q, Z) := RA_u.mpr ⟨_, _, _, _, hS, hU46⟩
          refine go_callV (pc' := 25) rfl rfl rfl (Nat.le_of_ble_eq_true rfl) rfl (sm_o hS rfl) rfl rfl rfl (ra_sc_2 hA47 (by omega) (Or.inr (Or.inr e1)) (fun z => absurd (e1.symm.trans z) (by decide)) (by omega) (by omega)) (fun r h48 q49 => ?_)
          obtain ⟨rfl, hA50⟩ := q49
          refine go_s (pc' := 40) rfl rfl rfl rfl ?_
          refine go_ret rfl rfl ?_
          have hms : rwd 2 (I, Q, Z) = rsc 2 (I, Q, Z) := by
            unfold rwd
            rw [if_neg (show ¬ ((I, Q, Z) : mM).1 16 2 = 1 from c32), if_neg (show ¬ ((I, Q, Z) : mM).1 13 2 = 0 from c33), if_neg (show ¬ ((I, Q, Z) : mM).1 14 2 = 0 from c34)]
          rw [hms]
          exact ⟨rfl, RA_R (by omega) hA50⟩
    · skip
      have c32 : (I 16 2) = 1 := Decidable.not_not.mp c32'
      refine go_s (pc' := 7) rfl rfl rfl rfl ?_
      refine go_s (pc' := 8) rfl rfl rfl rfl ?_
      have hU51 : RU w B R H hb h am ln K (I, Q, Z) := RU_I (sm_e_refl (tbr am (13 * ln) 77 5088) _) (I' := I) (fun _ => rfl) (fun _ => rfl) (Nat.le_refl _) hU
      have hA52 : RA w B R H hb h (I, Q, Z) := RA_u.mpr ⟨_, _, _, _, hS, hU51⟩
      refine go_callV (pc' := 9) rfl rfl rfl (Nat.le_of_ble_eq_true rfl) rfl (sm_o hS rfl) rfl rfl rfl (ra_go_2 hA52 (by omega) hp0 (Or.inr (Or.inr e1)) (fun z => absurd (e1.symm.trans z) (by decide)) (by omega)) (fun r h53 q54 => ?_)
      obtain ⟨rfl, hA55⟩ := q54
      change RA w B (R + 1) H hb h53 (rgo 2 (I, Q, Z)) at hA55
      obtain ⟨M56, eM56⟩ : ∃ y : mM, y = (rgo 2 (I, Q, Z)) := ⟨_, rfl⟩
      rw [← eM56] at hA55
      obtain ⟨I56, Q56, Z56⟩ := M56
      obtain ⟨K56, Y56, am56, ln56, hS56, hU56⟩ := RA_u.mp hA55
      change sm (tbr am56 (13 * ln56) 77 5088) h53 (jn I56 K56) Y56 at hS56
      obtain ⟨-, hWm56, -, -, hr56, -⟩ := id hU56.1
      have hln56 := RU_ln hU56 (by omega)
      refine go_s (pc' := 10) rfl rfl rfl rfl ?_
      have hM9 : MID (X + 1) (I56, Q56, Z56) := by
        rw [eM56]
        exact hgo c32
      have hU57 : RU w B (R + 1) H hb h53 am56 ln56 K56 (I56, Q56, Z56) := RU_I (sm_e_refl (tbr am56 (13 * ln56) 77 5088) _) (I' := I56) (fun _ => rfl) (fun _ => rfl) (Nat.le_refl _) hU56
      have hA58 : RA w B (R + 1) H hb h53 (I56, Q56, Z56) := RA_u.mpr ⟨_, _, _, _, hS56, hU57⟩
      refine go_callV (pc' := 11) rfl rfl rfl (Nat.le_of_ble_eq_true rfl) rfl (sm_o hS56 rfl) rfl rfl rfl (ra_set hA58 (by omega) hM9 (by omega) hhc (by omega)) (fun r h59 q60 => ?_)
      obtain ⟨rfl, hA61⟩ := q60
      refine go_s (pc' := 40) rfl rfl rfl rfl ?_
      refine go_ret rfl rfl ?_
      have hms : rwd 2 (I, Q, Z) = rset 30 (I56, Q56, Z56) := by
        unfold rwd
        rw [if_pos (show ((I, Q, Z) : mM).1 16 2 = 1 from c32), eM56]
      rw [hms]
      exact ⟨rfl, RA_R (by omega) hA61⟩
