/-- how many of the first n entries are writes of a terminal -/
def cw (L : List ms_E) (t : Int32) : Nat → Nat
  | 0 => 0
  | n + 1 => cw L t n + (match L[n]? with
    | some e => if eWr e t = true then 1 else 0
    | none => 0)
/-- a terminal's writes are of records -/
def rok (L : List ms_E) (t : Int32) : Prop := ∀ (i : Nat) (e : ms_E), L[i]? = some e → eWr e t = true → ∃ q, q < 16 ∧ e.2.2.1 = nI q
theorem lp_back {w : Nat → Bool} {d : Nat} {Y : sm_X} {ad : Nat → Nat} (hA : adk ad) (hZ : ∀ i, i < 12 → ad i ≠ 0) (hW : ∀ i, i < 12 → w (ad i) = true) {L : List ms_E} {t : Int32} {fr : Nat} (hfr : fr ≤ L.length) (h32 : L.length < 32) (hrec : rok L t) (hd : 2 ≤ d) : ∀ (n : Nat) (S : sm_I) (h : am_Hp) (mc : ms), n ≤ L.length → mc.2.1 = L → sc S mc → sm (tbs ad) h S Y → mc.2.2.length + cw L t n ≤ 33 → am_Go (am_prog w) d am_c61 none 9 [some (.ref (ad 0)), some (.int t), some (.int (nI fr)), some (.int (nI n - 1))] [] h (fun r h' => r = none ∧ ∃ S', sm (tbs ad) h' S' Y ∧ sc S' (mE (bko L t fr n mc) 3 t 0 0) ∧ sm_e (tbs ad) h h' ∧ S' 0 3 = S 0 3) := by
  intro n
  induction n with
  | zero =>
    intro S h mc _ hL hm hS hw
    show am_Go _ _ _ _ 9 [some (.ref (ad 0)), some (.int t), some (.int (nI fr)), some (.int (-1))] _ _ _
    refine go_s (pc' := 10) rfl rfl rfl rfl ?_
    refine go_s (pc' := 11) rfl rfl rfl rfl ?_
    refine go_icmpP (t' := 44) (pc' := 12) rfl rfl rfl (fun _ => ?_) (fun (c : ¬ (((-1) : Int32) < (nI fr))) => absurd (show (-1 : Int32) < nI fr from Int32.lt_of_lt_of_le (by decide : (-1 : Int32) < 0) (nI_pos' (by omega : fr < 2 ^ 31))) c)
    refine go_s (pc' := 45) rfl rfl rfl rfl ?_
    refine go_s (pc' := 46) (st' := [.int 3, .ref (ad 0)]) rfl rfl rfl rfl ?_
    refine go_s (pc' := 47) rfl rfl rfl rfl ?_
    refine go_s (pc' := 48) (st' := [.int 0, .int t, .int 3, .ref (ad 0)]) rfl rfl rfl rfl ?_
    refine go_s (pc' := 49) (st' := [.int 0, .int 0, .int t, .int 3, .ref (ad 0)]) rfl rfl rfl rfl ?_
    refine go_callV (pc' := 50) rfl rfl rfl (Nat.le_of_ble_eq_true rfl) rfl (sm_o hS (tbs_at hA (i := 0) (by decide))) rfl rfl rfl (cs_addE hA hS hZ hW hm.2.2.1 hm.2.2.2.1 (by rw [hL]; exact h32) (by simp only [cw] at hw; omega) 3 t 0 0 (by omega)) (fun r h1 q2 => ?_)
    obtain ⟨rfl, hS3, hE4⟩ := q2
    have hm5 := sc_E (kd := 3) (t := t) (rc := 0) (bf := 0) hm
    have b8 : cE S mc.2.1.length mc.2.2.length 3 t 0 0 0 3 = S 0 3 := rfl
    generalize cE S mc.2.1.length mc.2.2.length 3 t 0 0 = S6 at hS3 hm5 b8
    refine go_ret rfl rfl ?_
    exact ⟨rfl, _, hS3, hm5, hE4, (b8)⟩
  | succ n ih =>
    intro S h mc hn hL hm hS hw
    rw [nI_pred]
    obtain ⟨e, he⟩ := l_some (show n < L.length by omega)
    obtain ⟨e1, e2, e3, e4⟩ := sc_el hm (by rw [hL]; exact he)
    refine go_s (pc' := 10) rfl rfl rfl rfl ?_
    refine go_s (pc' := 11) rfl rfl rfl rfl ?_
    refine go_icmpP (t' := 44) (pc' := 12) rfl rfl rfl (fun (c9 : (nI n) < (nI fr)) => ?_) (fun (c9 : ¬ (nI n) < (nI fr)) => ?_)
    · skip
      have hfn : n < fr := (nI_ltI (by omega) (by omega)).mp c9
      have hh : bko L t fr (n + 1) mc = mc := by
        simp only [bko, he]
        rw [if_pos hfn]
      rw [hh]
      refine go_s (pc' := 45) rfl rfl rfl rfl ?_
      refine go_s (pc' := 46) (st' := [.int 3, .ref (ad 0)]) rfl rfl rfl rfl ?_
      refine go_s (pc' := 47) rfl rfl rfl rfl ?_
      refine go_s (pc' := 48) (st' := [.int 0, .int t, .int 3, .ref (ad 0)]) rfl rfl rfl rfl ?_
      refine go_s (pc' := 49) (st' := [.int 0, .int 0, .int t, .int 3, .ref (ad 0)]) rfl rfl rfl rfl ?_
      refine go_callV (pc' := 50) rfl rfl rfl (Nat.le_of_ble_eq_true rfl) rfl (sm_o hS (tbs_at hA (i := 0) (by decide))) rfl rfl rfl (cs_addE hA hS hZ hW hm.2.2.1 hm.2.2.2.1 (by rw [hL]; exact h32) (by omega) 3 t 0 0 (by omega)) (fun r h10 q11 => ?_)
      obtain ⟨rfl, hS12, hE13⟩ := q11
      have hm14 := sc_E (kd := 3) (t := t) (rc := 0) (bf := 0) hm
      have b17 : cE S mc.2.1.length mc.2.2.length 3 t 0 0 0 3 = S 0 3 := rfl
      generalize cE S mc.2.1.length mc.2.2.length 3 t 0 0 = S15 at hS12 hm14 b17
      refine go_ret rfl rfl ?_
      exact ⟨rfl, _, hS12, hm14, hE13, (b17)⟩
    · skip
      have hfn : fr ≤ n := by
        apply Decidable.byContradiction
        intro z
        exact c9 (nI_lt (by omega) (by omega))
      refine go_s (pc' := 13) rfl rfl rfl rfl ?_
      refine go_s (pc' := 14) rfl rfl rfl rfl ?_
      refine go_s (pc' := 15) (st' := [.int 1, .int (nI n), .ref (ad 0)]) rfl rfl rfl rfl ?_
      refine go_s (pc' := 16) rfl rfl rfl rfl ?_
      refine go_callV (pc' := 17) rfl rfl rfl (Nat.le_of_ble_eq_true rfl) rfl (sm_o hS (tbs_at hA (i := 0) (by decide))) rfl rfl rfl (cs_isE hA hS (by omega) 1 t (by omega)) (fun r h18 q19 => ?_)
      obtain ⟨rfl, rfl⟩ := q19
      cases u20 : (decide (S 8 (n * 5 + 1) = 1 ∧ S 8 (n * 5 + 2) = t))
      · skip
        show am_Go _ _ _ _ 17 _ [.int 0] _ _
        refine go_ifP (t' := 42) (pc' := 18) rfl rfl rfl (fun _ => ?_) (fun (c : ¬ ((0 : Int32) = 0)) => absurd (by decide) c)
        refine go_ndec (pc' := 43) (lo' := [some (.ref (ad 0)), some (.int t), some (.int (nI fr)), some (.int (nI n - 1))]) rfl rfl rfl rfl ?_
        refine go_s (pc' := 9) rfl rfl rfl rfl ?_
        have hz : eWr e t = false := by
          simp [eWr, ← e1, ← e2]
          simpa using u20
        have hh : bko L t fr (n + 1) mc = bko L t fr n mc := by
          simp only [bko, he]
          rw [if_neg (by omega), if_neg (by simp [hz])]
        rw [hh]
        exact ih S _ mc (by omega) hL hm hS (by simp only [cw] at hw; omega)
      · skip
        show am_Go _ _ _ _ 17 _ [.int 1] _ _
        refine go_ifP (t' := 42) (pc' := 18) rfl rfl rfl (fun (c : (1 : Int32) = 0) => absurd c (by decide)) (fun _ => ?_)
        refine go_s (pc' := 19) rfl rfl rfl rfl ?_
        refine go_s (pc' := 20) rfl rfl rfl rfl ?_
        refine go_s (pc' := 21) rfl rfl rfl rfl ?_
        refine go_s (pc' := 22) rfl rfl rfl rfl ?_
        refine go_callV (pc' := 23) rfl rfl rfl (Nat.le_of_ble_eq_true rfl) rfl (sm_o hS (tbs_at hA (i := 0) (by decide))) rfl rfl rfl (cs_first hA hS hm t (by rw [hL]; omega) (by rw [hL]; exact he) hfn (by rw [hL]; omega) (by omega)) (fun r h21 q22 => ?_)
        obtain ⟨rfl, rfl⟩ := q22
        cases u23 : (fst1 mc.2.1 t e.2.2.1 fr n)
        · skip
          show am_Go _ _ _ _ 23 _ [.int 0] _ _
          refine go_ifP (t' := 42) (pc' := 24) rfl rfl rfl (fun _ => ?_) (fun (c : ¬ ((0 : Int32) = 0)) => absurd (by decide) c)
          refine go_ndec (pc' := 43) (lo' := [some (.ref (ad 0)), some (.int t), some (.int (nI fr)), some (.int (nI n - 1))]) rfl rfl rfl rfl ?_
          refine go_s (pc' := 9) rfl rfl rfl rfl ?_
          have hh : bko L t fr (n + 1) mc = bko L t fr n mc := by
            simp only [bko, he]
            rw [if_neg (by omega), if_neg (by rw [hL] at u23; simp [u23])]
          rw [hh]
          exact ih S _ mc (by omega) hL hm hS (by simp only [cw] at hw; omega)
        · skip
          show am_Go _ _ _ _ 23 _ [.int 1] _ _
          refine go_ifP (t' := 42) (pc' := 24) rfl rfl rfl (fun (c : (1 : Int32) = 0) => absurd c (by decide)) (fun _ => ?_)
          have hwr : eWr e t = true := by simpa [eWr, ← e1, ← e2] using u20
          obtain ⟨q, hq, eq⟩ := hrec n e he hwr
          have hw1 : mc.2.2.length < 35 := by simp only [cw, he, hwr, if_true] at hw; omega
          refine go_s (pc' := 25) rfl rfl rfl rfl ?_
          refine go_s (pc' := 26) rfl rfl rfl rfl ?_
          refine go_sget (pc' := 27) (v := .ref (ad 8)) hS rfl rfl (tbs_s hA (i := 0) (by decide) rfl) (by decide) rfl rfl ?_
          refine go_s (pc' := 28) rfl rfl rfl rfl ?_
          refine go_s (pc' := 29) (st' := [.int 5, .int (nI n), .ref (ad 8), .ref (ad 0)]) rfl rfl rfl rfl ?_
          refine go_nmul (pc' := 30) (a := n) (b := 5) rfl rfl rfl rfl rfl ?_
          refine go_s (pc' := 31) (st' := [.int 3, .int (nI (n * 5)), .ref (ad 8), .ref (ad 0)]) rfl rfl rfl rfl ?_
          refine go_nadd (pc' := 32) (a := (n * 5)) (b := 3) rfl rfl rfl rfl rfl ?_
          refine go_sald (pc' := 33) (q := ((n * 5) + 3)) (v := .int (nI q)) hS rfl (tbs_s hA (i := 8) (by decide) (rg_el (by omega))) rfl rfl (by omega) (congrArg Value.int (e3.trans eq)) rfl ?_
          refine go_s (pc' := 34) rfl rfl rfl rfl ?_
          refine go_sget (pc' := 35) (v := .ref (ad 8)) hS rfl rfl (tbs_s hA (i := 0) (by decide) rfl) (by decide) rfl rfl ?_
          refine go_s (pc' := 36) rfl rfl rfl rfl ?_
          refine go_s (pc' := 37) (st' := [.int 5, .int (nI n), .ref (ad 8), .int (nI q), .ref (ad 0)]) rfl rfl rfl rfl ?_
          refine go_nmul (pc' := 38) (a := n) (b := 5) rfl rfl rfl rfl rfl ?_
          refine go_s (pc' := 39) (st' := [.int 4, .int (nI (n * 5)), .ref (ad 8), .int (nI q), .ref (ad 0)]) rfl rfl rfl rfl ?_
          refine go_nadd (pc' := 40) (a := (n * 5)) (b := 4) rfl rfl rfl rfl rfl ?_
          refine go_sald (pc' := 41) (q := ((n * 5) + 4)) (v := .int (S 8 ((n * 5) + 4))) hS rfl (tbs_s hA (i := 8) (by decide) (rg_el (by omega))) rfl rfl (by omega) rfl rfl ?_
          refine go_callV (pc' := 42) rfl rfl rfl (Nat.le_of_ble_eq_true rfl) rfl (sm_o hS (tbs_at hA (i := 0) (by decide))) rfl rfl rfl (cs_setRec hA hS hZ hW hm.2.2.2.1 hw1 hq (S 8 ((n * 5) + 4)) (by omega)) (fun r h24 q25 => ?_)
          obtain ⟨rfl, hS26, hE27⟩ := q25
          have hm28 := sc_R (q := q) (v := (S 8 ((n * 5) + 4))) hm hq hw1
          change sm (tbs ad) h24 (cR S mc.2.2.length q (S 8 ((n * 5) + 4))) Y at hS26
          have b30 : cR S mc.2.2.length q (S 8 ((n * 5) + 4)) 0 3 = S 0 3 := rfl
          generalize cR S mc.2.2.length q (S 8 ((n * 5) + 4)) = S29 at hS26 hm28 b30
          refine go_ndec (pc' := 43) (lo' := [some (.ref (ad 0)), some (.int t), some (.int (nI fr)), some (.int (nI n - 1))]) rfl rfl rfl rfl ?_
          refine go_s (pc' := 9) rfl rfl rfl rfl ?_
          have hh : bko L t fr (n + 1) mc = bko L t fr n (mR mc q (S 8 ((n * 5) + 4))) := by
            simp only [bko, he]
            rw [if_neg (by omega), if_pos (by rw [hL] at u23; simp [hwr, u23]), eq, nI_clamp (by omega), e4]
          rw [hh]
          refine go_post (ih _ _ (mR mc q (S 8 ((n * 5) + 4))) (by omega) hL hm28 hS26 ?_) ?_
          · simp only [cw, he, hwr, if_true] at hw
            simp only [mR, List.length_append, List.length_cons, List.length_nil]
            omega
          · rintro r hx ⟨g1, S9, g2, g3, g4, g5⟩
            exact ⟨g1, S9, g2, g3, sm_e_trans hE27 g4, g5.trans b30⟩
theorem cs_back {w : Nat → Bool} {d : Nat} {h : am_Hp} {S : sm_I} {Y : sm_X} {ad : Nat → Nat} (hA : adk ad) (hS : sm (tbs ad) h S Y) {m : ms} (hm : sc S m) (hZ : ∀ i, i < 12 → ad i ≠ 0) (hW : ∀ i, i < 12 → w (ad i) = true) (t : Int32) (hl : m.2.1.length < 32) (hrec : rok m.2.1 t) (hw : m.2.2.length + cw m.2.1 t m.2.1.length ≤ 33) (hd : 3 ≤ d) : am_Ev (am_prog w) d 61 [.ref (ad 0), .int t] h (fun r h' => r = none ∧ ∃ S', sm (tbs ad) h' S' Y ∧ sc S' (mB m t) ∧ sm_e (tbs ad) h h' ∧ S' 0 3 = S 0 3) := by
  obtain ⟨d, rfl⟩ : ∃ e, d = e + 1 := ⟨d - 1, by omega⟩
  refine ev_go rfl (Nat.le_of_ble_eq_true rfl) rfl ?_
  refine go_s (pc' := 1) rfl rfl rfl rfl ?_
  refine go_s (pc' := 2) rfl rfl rfl rfl ?_
  refine go_callV (pc' := 3) rfl rfl rfl (Nat.le_of_ble_eq_true rfl) rfl (sm_o hS (tbs_at hA (i := 0) (by decide))) rfl rfl rfl (cs_open hA hS hm t (by omega) (by omega)) (fun r h1 q2 => ?_)
  obtain ⟨rfl, rfl⟩ := q2
  refine go_s (pc' := 4) (lo' := [some (.ref (ad 0)), some (.int t), some (.int (nI (mof m t))), none]) rfl rfl rfl rfl ?_
  refine go_s (pc' := 5) rfl rfl rfl rfl ?_
  refine go_sget (pc' := 6) (v := .int (nI m.2.1.length)) hS rfl rfl (tbs_s hA (i := 0) (by decide) rfl) (by decide) (congrArg Value.int hm.2.2.1) rfl ?_
  refine go_s (pc' := 7) (st' := [.int 1, .int (nI m.2.1.length)]) rfl rfl rfl rfl ?_
  refine go_s (pc' := 8) rfl rfl rfl rfl ?_
  refine go_s (pc' := 9) (lo' := [some (.ref (ad 0)), some (.int t), some (.int (nI (mof m t))), some (.int (nI m.2.1.length - 1))]) rfl rfl rfl rfl ?_
  exact lp_back hA hZ hW (mof_le m t) hl hrec (by omega) _ S _ m (Nat.le_refl _) rfl hm hS hw
