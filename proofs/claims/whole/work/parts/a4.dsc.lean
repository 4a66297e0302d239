/-! the discs -/
theorem tb_ds {d : Nat} (hd : d < 2) : tbc (30 + d) = some (.inr .int, (List.range 245).map (fun j => (7, 245 * d + j))) := by
  match d, hd with
  | 0, _ => rfl
  | 1, _ => rfl
theorem CD_206 {w : Nat → Bool} {e d : Nat} {m0 : mg} {h : am_Hp} {I : sm_I} {Q : mQ} {Z : mZ} {X : sm_X} {ow : ow_T} {sb : Nat} {v x : Int32} (c : CD w e m0 h I Q Z X ow sb) (hv : I 16 0 = 2 → x = v) : CD w e m0 h (uI I 22 d v) Q Z (uX X 206 d (.int x)) ow sb := by
  obtain ⟨k1, k2, k3, ⟨d1, d2, d3⟩, k5, k6, k7⟩ := c
  refine ⟨k1, fun l hl => LK_c (k2 l hl) rfl rfl rfl, k3, ⟨d1, fun j hj => ?_, d3⟩, k5, k6, k7⟩
  by_cases e : j = d
  · subst e
    exact ⟨x, by simp [uX], fun z => by simp only [uI]; rw [if_pos ⟨trivial, trivial⟩]; exact hv z⟩
  · obtain ⟨n, a, b⟩ := d2 j hj
    exact ⟨n, by simp [uX, e, a], fun z => by simp only [uI, e, and_false, if_false]; exact b z⟩
theorem CD_205 {w : Nat → Bool} {e d : Nat} {m0 : mg} {h : am_Hp} {I : sm_I} {Q : mQ} {Z : mZ} {X : sm_X} {ow : ow_T} {sb : Nat} {v : Int32} (c : CD w e m0 h I Q Z X ow sb) : CD w e m0 h (uI I 6 d v) Q Z (uX X 205 d (.int v)) ow sb := by
  obtain ⟨k1, k2, k3, ⟨d1, d2, d3⟩, k5, k6, k7⟩ := c
  refine ⟨k1, fun l hl => LK_c (k2 l hl) rfl rfl rfl, k3, ⟨fun j hj => ?_, d2, d3⟩, k5, k6, k7⟩
  by_cases e : j = d
  · subst e
    exact ⟨v, by simp [uX], fun z => by simp [uI]⟩
  · obtain ⟨n, a, b⟩ := d1 j hj
    exact ⟨n, by simp [uX, e, a], fun z => by simp only [uI, e, and_false, if_false]; exact b z⟩
theorem ct_put_0 {w : Nat → Bool} {d : Nat} {h : am_Hp} {I : sm_I} {X : sm_X} (hS : sm tbc h I X) (hW : ∀ a, (tbc a).isSome = true → w a = true) {q sp aq : Nat} {vs : List Value} {g : Nat → Int32} (hq : q < 49) (hsrc : h[aq]? = some (.inr (.int, vs))) (hvl : sp + 5 ≤ vs.length) (hvm : vs.length < 2 ^ 31) (hg : ∀ j, j < 5 → vs[sp + j]? = some (.int (g j))) (haq : aq ≠ 0) (hd : 1 ≤ d) : am_Ev (am_prog w) d 92 [.ref 24, .int 0, .int (nI q), .ref aq, .int (nI sp)] h (fun r h' => r = none ∧ sm tbc h' (uC I 7 (245 * 0 + q * 5) 5 g) X ∧ sm_e tbc h h') := by
  obtain ⟨d, rfl⟩ : ∃ e, d = e + 1 := ⟨d - 1, by omega⟩
  refine ev_go rfl (Nat.le_of_ble_eq_true rfl) rfl ?_
  refine go_s (pc' := 1) rfl rfl rfl rfl ?_
  refine go_s (pc' := 2) rfl rfl rfl rfl ?_
  refine go_s (pc' := 3) rfl rfl rfl rfl ?_
  refine go_sget (pc' := 4) (v := .ref 29) hS rfl rfl rfl (by decide) rfl rfl ?_
  refine go_s (pc' := 5) rfl rfl rfl rfl ?_
  refine go_sald (pc' := 6) (q := 0) (v := .ref 30) hS rfl rfl rfl rfl (by decide) rfl rfl ?_
  refine go_s (pc' := 7) rfl rfl rfl rfl ?_
  refine go_s (pc' := 8) (st' := [.int 5, .int (nI q), .ref 30, .int (nI sp), .ref aq]) rfl rfl rfl rfl ?_
  refine go_nmul (pc' := 9) (a := q) (b := 5) rfl rfl rfl rfl rfl ?_
  refine go_s (pc' := 10) (st' := [.int 5, .int (nI (q * 5)), .ref 30, .int (nI sp), .ref aq]) rfl rfl rfl rfl ?_
  refine go_sacp (pc' := 11) (n := 5) (dp := (q * 5)) (sp := sp) (c := 7) (b := (245 * 0 + q * 5)) (f := g) hS rfl hsrc (tb_ds (d := 0) (by decide)) tbc_inj (by decide) rfl rfl rfl hvl (by simp; omega) hvm (by simp) hg (fun j hj => by rw [List.getElem?_map, List.getElem?_range (by omega)]; simp [Nat.add_assoc]) (by decide) haq rfl (hW _ rfl) rfl (fun h1 hS2 hE3 => ?_)
  refine go_ret rfl rfl ?_
  exact ⟨rfl, hS2, hE3⟩
theorem ct_put_1 {w : Nat → Bool} {d : Nat} {h : am_Hp} {I : sm_I} {X : sm_X} (hS : sm tbc h I X) (hW : ∀ a, (tbc a).isSome = true → w a = true) {q sp aq : Nat} {vs : List Value} {g : Nat → Int32} (hq : q < 49) (hsrc : h[aq]? = some (.inr (.int, vs))) (hvl : sp + 5 ≤ vs.length) (hvm : vs.length < 2 ^ 31) (hg : ∀ j, j < 5 → vs[sp + j]? = some (.int (g j))) (haq : aq ≠ 0) (hd : 1 ≤ d) : am_Ev (am_prog w) d 92 [.ref 24, .int 1, .int (nI q), .ref aq, .int (nI sp)] h (fun r h' => r = none ∧ sm tbc h' (uC I 7 (245 * 1 + q * 5) 5 g) X ∧ sm_e tbc h h') := by
  obtain ⟨d, rfl⟩ : ∃ e, d = e + 1 := ⟨d - 1, by omega⟩
  refine ev_go rfl (Nat.le_of_ble_eq_true rfl) rfl ?_
  refine go_s (pc' := 1) rfl rfl rfl rfl ?_
  refine go_s (pc' := 2) rfl rfl rfl rfl ?_
  refine go_s (pc' := 3) rfl rfl rfl rfl ?_
  refine go_sget (pc' := 4) (v := .ref 29) hS rfl rfl rfl (by decide) rfl rfl ?_
  refine go_s (pc' := 5) rfl rfl rfl rfl ?_
  refine go_sald (pc' := 6) (q := 1) (v := .ref 31) hS rfl rfl rfl rfl (by decide) rfl rfl ?_
  refine go_s (pc' := 7) rfl rfl rfl rfl ?_
  refine go_s (pc' := 8) (st' := [.int 5, .int (nI q), .ref 31, .int (nI sp), .ref aq]) rfl rfl rfl rfl ?_
  refine go_nmul (pc' := 9) (a := q) (b := 5) rfl rfl rfl rfl rfl ?_
  refine go_s (pc' := 10) (st' := [.int 5, .int (nI (q * 5)), .ref 31, .int (nI sp), .ref aq]) rfl rfl rfl rfl ?_
  refine go_sacp (pc' := 11) (n := 5) (dp := (q * 5)) (sp := sp) (c := 7) (b := (245 * 1 + q * 5)) (f := g) hS rfl hsrc (tb_ds (d := 1) (by decide)) tbc_inj (by decide) rfl rfl rfl hvl (by simp; omega) hvm (by simp) hg (fun j hj => by rw [List.getElem?_map, List.getElem?_range (by omega)]; simp [Nat.add_assoc]) (by decide) haq rfl (hW _ rfl) rfl (fun h1 hS2 hE3 => ?_)
  refine go_ret rfl rfl ?_
  exact ⟨rfl, hS2, hE3⟩
def mwrI (I : sm_I) (d q : Nat) (x : ms_W) : sm_I := uI (if rv I (1 - d) = true ∧ nI q < I 6 (1 - d) then uC (uC I 7 (245 * d + q * 5) 5 (fun j => wn x (1 + j))) 7 (245 * (1 - d) + q * 5) 5 (fun j => wn x (1 + j)) else uC I 7 (245 * d + q * 5) 5 (fun j => wn x (1 + j))) 22 d (I 22 d + 1)
def WB (s : ms) : Prop := ∀ (i : Nat) (x : ms_W), s.2.2[i]? = some x → ∃ q, q < 49 ∧ x.1 = nI q
def mwrt (d : Nat) (M : mM) : Int32 × mM := if us M.1 d = true then (match (M.2.2 (rwi M.1 0)).2.2[(M.1 22 d).toNatClampNeg]? with
  | some x => (x.1, (mwrI M.1 d x.1.toNatClampNeg x, M.2))
  | none => (-1, M)) else (-1, M)
def mwr (d : Nat) (M : mM) : Int32 × mM := if lv M.1 0 = true ∧ M.1 16 0 = 2 then ((mwrt d M).1, mset 10 (mwrt d M).2) else (-1, M)
theorem cx_wn_0 {w : Nat → Bool} {d : Nat} {h : am_Hp} {e : Nat} {m0 : mg} {B : Nat} {I : sm_I} {Q : mQ} {Z : mZ} {X : sm_X} {ow : ow_T} {sb : Nat} (hS : sm tbc h I X) (hD : CD w e m0 h I Q Z X ow sb) (hB : co h I ≤ B) (hQ : ∀ l, l < 16 → (Q l).length ≤ h.length) (hB2 : B < 2 ^ 28) {ad : Nat → Nat} {S : sm_I} {Y : sm_X} {g n : Nat} {n5 : Int32} {s : ms} (htc : ∀ i, i < 12 → tbc (ad i) = none) (hZ0 : ∀ i, i < 12 → ad i ≠ 0) (hsw : h[ad 9]? = some (.inl (6, [.ref (ad 10), .ref (ad 11), .int (nI n)]))) (hr10 : h[ad 10]? = some (.inr (.int, ((List.range 35).map (fun j => (9, j))).map (sm_v S Y)))) (hr11 : h[ad 11]? = some (.inr (.int, ((List.range 175).map (fun j => (10, j))).map (sm_v S Y)))) (hs : Z (rwi I 0) = s) (w1 : ∀ i x, s.2.2[i]? = some x → S 9 i = x.1 ∧ ∀ j, j < 5 → S 10 (5 * i + j) = wn x (1 + j)) (hn : n = s.2.2.length) (hn35 : n ≤ 35) (hg36 : g < 2 ^ 30) (hwb : WB s) (h206 : X 206 0 = .int (nI g)) (e22 : I 22 0 = nI g) (h205 : X 205 1 = .int n5) (h56 : ¬ I 4 1 = 0 → n5 = I 6 1) (hd : 4 ≤ d) : am_Ev (am_prog w) d 91 [.ref 24, .int 0, .ref (ad 9)] h (fun r h' => r = some (.int (mwrt 0 (I, Q, Z)).1) ∧ CA w e m0 B h' (mwrt 0 (I, Q, Z)).2) := by
  have hW := hD.1.1
  have hWn : ∀ a, List.length h ≤ a → w a = true := fun a ha => (hD.1.2.1 a ha).1
  have hF1 := fr_refl tbc h
  have hln : 62 ≤ List.length h := sm_len hS
  obtain ⟨d, rfl⟩ : ∃ e, d = e + 1 := ⟨d - 1, by omega⟩
  refine ev_go rfl (Nat.le_of_ble_eq_true rfl) rfl ?_
  refine go_s (pc' := 1) rfl rfl rfl rfl ?_
  refine go_sget (pc' := 2) (v := .ref 28) hS rfl rfl rfl (by decide) rfl rfl ?_
  refine go_s (pc' := 3) rfl rfl rfl rfl ?_
  refine go_sald (pc' := 4) (q := 0) (v := .int (nI g)) hS rfl rfl rfl rfl (by decide) h206 rfl ?_
  refine go_s (pc' := 5) (lo' := [some (.ref 24), some (.int 0), some (.ref (ad 9)), some (.int (nI g)), none]) rfl rfl rfl rfl ?_
  refine go_s (pc' := 6) rfl rfl rfl rfl ?_
  refine go_s (pc' := 7) rfl rfl rfl rfl ?_
  refine go_callV (pc' := 8) rfl rfl rfl (Nat.le_of_ble_eq_true rfl) rfl (sm_o hS rfl) rfl rfl rfl (ct_us_0 hS (by omega)) (fun r h2 q3 => ?_)
  obtain ⟨rfl, rfl⟩ := q3
  cases u4 : us I 0
  · skip
    show am_Go _ _ _ _ 8 _ [.int 0] _ _
    refine go_ifP (t' := 13) (pc' := 9) rfl rfl rfl (fun _ => ?_) (fun (c : ¬ ((0 : Int32) = 0)) => absurd (by decide) c)
    refine go_s (pc' := 14) (st' := [.int (-1)]) rfl rfl rfl rfl ?_
    refine go_ret rfl rfl ?_
    have hms : mwrt 0 (I, Q, Z) = (-1, (I, Q, Z)) := by
      unfold mwrt
      rw [if_neg (by rw [show us (I, Q, Z).1 0 = false from u4]; decide)]
    rw [hms]
    exact ⟨rfl, X, ow, sb, hS, hD, Nat.le_trans hB (by omega), hQ⟩
  · skip
    show am_Go _ _ _ _ 8 _ [.int 1] _ _
    refine go_ifP (t' := 13) (pc' := 9) rfl rfl rfl (fun (c : (1 : Int32) = 0) => absurd c (by decide)) (fun _ => ?_)
    refine go_s (pc' := 10) rfl rfl rfl rfl ?_
    refine go_s (pc' := 11) rfl rfl rfl rfl ?_
    refine go_get (pc' := 12) rfl hsw rfl (by decide) rfl rfl ?_
    refine go_icmpP (t' := 15) (pc' := 13) rfl rfl rfl (fun (c5 : (nI g) < (nI n)) => ?_) (fun (c5 : ¬ (nI g) < (nI n)) => ?_)
    · skip
      have hgn : g < n := by
        by_cases z : g < n
        · exact z
        · exact absurd (show nI n ≤ nI g from nI_le (by omega) (by omega)) (Int32.not_le.mpr c5)
      have hg35 : g < 35 := by omega
      obtain ⟨x, ex⟩ : ∃ x, s.2.2[g]? = some x := ⟨_, List.getElem?_eq_getElem (by omega)⟩
      have hx := w1 g x ex
      obtain ⟨q, hq, eq⟩ := hwb g x ex
      have hx1 : S 9 g = nI q := hx.1.trans eq
      refine go_s (pc' := 16) rfl rfl rfl rfl ?_
      refine go_get (pc' := 17) rfl hsw rfl (by decide) rfl rfl ?_
      refine go_s (pc' := 18) rfl rfl rfl rfl ?_
      refine go_ald (pc' := 19) (q := g) (v := .int (nI q)) rfl rfl hr10 rfl (by omega) ((rg_at hg35).trans (congrArg some (congrArg Value.int hx1))) rfl ?_
      refine go_s (pc' := 20) (lo' := [some (.ref 24), some (.int 0), some (.ref (ad 9)), some (.int (nI g)), some (.int (nI q))]) rfl rfl rfl rfl ?_
      refine go_s (pc' := 21) rfl rfl rfl rfl ?_
      refine go_s (pc' := 22) rfl rfl rfl rfl ?_
      refine go_s (pc' := 23) rfl rfl rfl rfl ?_
      refine go_s (pc' := 24) rfl rfl rfl rfl ?_
      refine go_get (pc' := 25) rfl hsw rfl (by decide) rfl rfl ?_
      refine go_s (pc' := 26) rfl rfl rfl rfl ?_
      refine go_s (pc' := 27) (st' := [.int 5, .int (nI g), .ref (ad 11), .int (nI q), .int 0, .ref 24]) rfl rfl rfl rfl ?_
      refine go_nmul (pc' := 28) (a := g) (b := 5) rfl rfl rfl rfl rfl ?_
      refine go_callV (pc' := 29) rfl rfl rfl (Nat.le_of_ble_eq_true rfl) rfl (sm_o hS rfl) rfl rfl rfl (ct_put_0 hS hW (q := q) (sp := (g * 5)) (g := (fun j => wn x (1 + j))) hq hr11 (by simp; omega) (by simp) (fun j hj => by rw [rg_at (by omega)]; simp only [sm_v]; rw [← (hx.2 j hj)]; simp [Nat.mul_comm]) (hZ0 11 (by decide)) (by omega)) (fun r h6 q7 => ?_)
      obtain ⟨rfl, hS8, hE9⟩ := q7
      have hF10 := fr_trans hF1 (fr_e hE9)
      have hq11 := (hE9.2.2 _ (htc 9 (by decide))).trans hsw
      have hq12 := (hE9.2.2 _ (htc 10 (by decide))).trans hr10
      have hq13 := (hE9.2.2 _ (htc 11 (by decide))).trans hr11
      refine go_s (pc' := 30) rfl rfl rfl rfl ?_
      refine go_s (pc' := 31) (st' := [.int 1, .ref 24]) rfl rfl rfl rfl ?_
      refine go_s (pc' := 32) rfl rfl rfl rfl ?_
      refine go_s (pc' := 33) (st' := [.int 1, .ref 24]) rfl rfl rfl rfl ?_
      refine go_callV (pc' := 34) rfl rfl rfl (Nat.le_of_ble_eq_true rfl) rfl (sm_o hS8 rfl) rfl rfl rfl (ct_rv_1 hS8 (by omega)) (fun r h14 q15 => ?_)
      obtain ⟨rfl, rfl⟩ := q15
      cases u16 : rv (uC I 7 (245 * 0 + q * 5) 5 (fun j => wn x (1 + j))) 1
      · skip
        show am_Go _ _ _ _ 34 _ [.int 0] _ _
        refine go_ifP (t' := 54) (pc' := 35) rfl rfl rfl (fun _ => ?_) (fun (c : ¬ ((0 : Int32) = 0)) => absurd (by decide) c)
        refine go_s (pc' := 55) rfl rfl rfl rfl ?_
        refine go_sget (pc' := 56) (v := .ref 28) hS8 rfl rfl rfl (by decide) rfl rfl ?_
        refine go_s (pc' := 57) rfl rfl rfl rfl ?_
        refine go_s (pc' := 58) rfl rfl rfl rfl ?_
        refine go_sald (pc' := 59) (q := 0) (v := .int (nI g)) hS8 rfl rfl rfl rfl (by decide) h206 rfl ?_
        refine go_s (pc' := 60) (st' := [.int 1, .int (nI g), .int 0, .ref 28]) rfl rfl rfl rfl ?_
        refine go_nadd (pc' := 61) (a := g) (b := 1) rfl rfl rfl rfl rfl ?_
        refine go_siastX (pc' := 62) (q := 0) hS8 rfl rfl tbc_inj (Nat.le_of_ble_eq_true rfl) (Nat.le_of_ble_eq_true rfl) rfl (by decide) (by decide) (hW _ rfl) rfl (fun h17 hS18 hE19 => ?_)
        have hF20 := fr_trans hF10 (fr_e hE19)
        have hq21 := (hE19.2.2 _ (htc 9 (by decide))).trans hq11
        have hq22 := (hE19.2.2 _ (htc 10 (by decide))).trans hq12
        have hq23 := (hE19.2.2 _ (htc 11 (by decide))).trans hq13
        refine go_s (pc' := 63) rfl rfl rfl rfl ?_
        refine go_ret rfl rfl ?_
        have hmI : mwrI I 0 q x = (uI (uC I 7 (245 * 0 + q * 5) 5 (fun j => wn x (1 + j))) 22 0 (nI (g + 1))) := by
          unfold mwrI
          rw [if_neg (show ¬ (rv I (1 - 0) = true ∧ nI q < I 6 (1 - 0)) from fun z => absurd (z.1.symm.trans (show rv I 1 = false from u16)) (by decide)), e22, nI_1]
        have hms : mwrt 0 (I, Q, Z) = (nI q, (mwrI I 0 q x, Q, Z)) := by
          unfold mwrt
          rw [if_pos (show us (I, Q, Z).1 0 = true from u4), show ((I, Q, Z).2.2 (rwi (I, Q, Z).1 0)).2.2[((I, Q, Z).1 22 0).toNatClampNeg]? = some x by rw [show (I, Q, Z).1 22 0 = nI g from e22, nI_clamp (by omega)]; exact (show (Z (rwi I 0)).2.2[g]? = some x by rw [hs]; exact ex)]
          simp only []
          rw [eq, nI_clamp (by omega)]
        have hD9 := CD_206 (d := 0) (v := nI (g + 1)) (x := nI (g + 1)) (CD_I (J := (uC I 7 (245 * 0 + q * 5) 5 (fun j => wn x (1 + j)))) (CD_fr hD hF20) ⟨rfl, rfl, rfl, rfl, rfl, rfl, rfl, rfl, rfl, rfl, rfl, rfl, rfl, rfl, rfl⟩) (fun _ => rfl)
        rw [hms]
        refine ⟨rfl, (uX X 206 0 (.int (nI (g + 1)))), ow, sb, ?_, ?_, ?_, fun l hl => Nat.le_trans (hQ l hl) hF20.1⟩
        · show sm tbc _ (mwrI I 0 q x) _
          rw [hmI]
          exact sm_12 hS18 rfl
        · show CD w e m0 _ (mwrI I 0 q x) Q Z _ ow sb
          rw [hmI]
          exact hD9
        · show co _ (mwrI I 0 q x) ≤ _
          rw [hmI]
          have := co_fr (I := I) (J := uI (uC I 7 (245 * 0 + q * 5) 5 (fun j => wn x (1 + j))) 22 0 (nI (g + 1))) hF20 rfl
          omega
      · skip
        show am_Go _ _ _ _ 34 _ [.int 1] _ _
        refine go_ifP (t' := 54) (pc' := 35) rfl rfl rfl (fun (c : (1 : Int32) = 0) => absurd c (by decide)) (fun _ => ?_)
        refine go_s (pc' := 36) rfl rfl rfl rfl ?_
        refine go_s (pc' := 37) rfl rfl rfl rfl ?_
        refine go_sget (pc' := 38) (v := .ref 27) hS8 rfl rfl rfl (by decide) rfl rfl ?_
        refine go_s (pc' := 39) (st' := [.int 1, .ref 27, .int (nI q)]) rfl rfl rfl rfl ?_
        refine go_s (pc' := 40) rfl rfl rfl rfl ?_
        refine go_s (pc' := 41) (st' := [.int 1, .ref 27, .int (nI q)]) rfl rfl rfl rfl ?_
        refine go_sald (pc' := 42) (q := 1) (v := .int n5) hS8 rfl rfl rfl rfl (by decide) h205 rfl ?_
        refine go_icmpP (t' := 54) (pc' := 43) rfl rfl rfl (fun (c24 : n5 ≤ (nI q)) => ?_) (fun (c24 : ¬ n5 ≤ (nI q)) => ?_)
        · skip
          refine go_s (pc' := 55) rfl rfl rfl rfl ?_
          refine go_sget (pc' := 56) (v := .ref 28) hS8 rfl rfl rfl (by decide) rfl rfl ?_
          refine go_s (pc' := 57) rfl rfl rfl rfl ?_
          refine go_s (pc' := 58) rfl rfl rfl rfl ?_
          refine go_sald (pc' := 59) (q := 0) (v := .int (nI g)) hS8 rfl rfl rfl rfl (by decide) h206 rfl ?_
          refine go_s (pc' := 60) (st' := [.int 1, .int (nI g), .int 0, .ref 28]) rfl rfl rfl rfl ?_
          refine go_nadd (pc' := 61) (a := g) (b := 1) rfl rfl rfl rfl rfl ?_
          refine go_siastX (pc' := 62) (q := 0) hS8 rfl rfl tbc_inj (Nat.le_of_ble_eq_true rfl) (Nat.le_of_ble_eq_true rfl) rfl (by decide) (by decide) (hW _ rfl) rfl (fun h25 hS26 hE27 => ?_)
          have hF28 := fr_trans hF10 (fr_e hE27)
          have hq29 := (hE27.2.2 _ (htc 9 (by decide))).trans hq11
          have hq30 := (hE27.2.2 _ (htc 10 (by decide))).trans hq12
          have hq31 := (hE27.2.2 _ (htc 11 (by decide))).trans hq13
          refine go_s (pc' := 63) rfl rfl rfl rfl ?_
          refine go_ret rfl rfl ?_
          have h5e : n5 = I 6 1 := h56 (by have z : rv I 1 = true := u16; unfold rv at z; simp at z; exact z.1.1)
          have hmI : mwrI I 0 q x = (uI (uC I 7 (245 * 0 + q * 5) 5 (fun j => wn x (1 + j))) 22 0 (nI (g + 1))) := by
            unfold mwrI
            rw [if_neg (show ¬ (rv I (1 - 0) = true ∧ nI q < I 6 (1 - 0)) from fun z => absurd z.2 (by rw [← h5e]; exact Int32.not_lt.mpr c24)), e22, nI_1]
          have hms : mwrt 0 (I, Q, Z) = (nI q, (mwrI I 0 q x, Q, Z)) := by
            unfold mwrt
            rw [if_pos (show us (I, Q, Z).1 0 = true from u4), show ((I, Q, Z).2.2 (rwi (I, Q, Z).1 0)).2.2[((I, Q, Z).1 22 0).toNatClampNeg]? = some x by rw [show (I, Q, Z).1 22 0 = nI g from e22, nI_clamp (by omega)]; exact (show (Z (rwi I 0)).2.2[g]? = some x by rw [hs]; exact ex)]
            simp only []
            rw [eq, nI_clamp (by omega)]
          have hD9 := CD_206 (d := 0) (v := nI (g + 1)) (x := nI (g + 1)) (CD_I (J := (uC I 7 (245 * 0 + q * 5) 5 (fun j => wn x (1 + j)))) (CD_fr hD hF28) ⟨rfl, rfl, rfl, rfl, rfl, rfl, rfl, rfl, rfl, rfl, rfl, rfl, rfl, rfl, rfl⟩) (fun _ => rfl)
          rw [hms]
          refine ⟨rfl, (uX X 206 0 (.int (nI (g + 1)))), ow, sb, ?_, ?_, ?_, fun l hl => Nat.le_trans (hQ l hl) hF28.1⟩
          · show sm tbc _ (mwrI I 0 q x) _
            rw [hmI]
            exact sm_12 hS26 rfl
          · show CD w e m0 _ (mwrI I 0 q x) Q Z _ ow sb
            rw [hmI]
            exact hD9
          · show co _ (mwrI I 0 q x) ≤ _
            rw [hmI]
            have := co_fr (I := I) (J := uI (uC I 7 (245 * 0 + q * 5) 5 (fun j => wn x (1 + j))) 22 0 (nI (g + 1))) hF28 rfl
            omega
        · skip
          refine go_s (pc' := 44) rfl rfl rfl rfl ?_
          refine go_s (pc' := 45) (st' := [.int 1, .ref 24]) rfl rfl rfl rfl ?_
          refine go_s (pc' := 46) rfl rfl rfl rfl ?_
          refine go_s (pc' := 47) (st' := [.int 1, .ref 24]) rfl rfl rfl rfl ?_
          refine go_s (pc' := 48) rfl rfl rfl rfl ?_
          refine go_s (pc' := 49) rfl rfl rfl rfl ?_
          refine go_get (pc' := 50) rfl hq11 rfl (by decide) rfl rfl ?_
          refine go_s (pc' := 51) rfl rfl rfl rfl ?_
          refine go_s (pc' := 52) (st' := [.int 5, .int (nI g), .ref (ad 11), .int (nI q), .int 1, .ref 24]) rfl rfl rfl rfl ?_
          refine go_nmul (pc' := 53) (a := g) (b := 5) rfl rfl rfl rfl rfl ?_
          refine go_callV (pc' := 54) rfl rfl rfl (Nat.le_of_ble_eq_true rfl) rfl (sm_o hS8 rfl) rfl rfl rfl (ct_put_1 hS8 hW (q := q) (sp := (g * 5)) (g := (fun j => wn x (1 + j))) hq hq13 (by simp; omega) (by simp) (fun j hj => by rw [rg_at (by omega)]; simp only [sm_v]; rw [← (hx.2 j hj)]; simp [Nat.mul_comm]) (hZ0 11 (by decide)) (by omega)) (fun r h32 q33 => ?_)
          obtain ⟨rfl, hS34, hE35⟩ := q33
          have hF36 := fr_trans hF10 (fr_e hE35)
          have hq37 := (hE35.2.2 _ (htc 9 (by decide))).trans hq11
          have hq38 := (hE35.2.2 _ (htc 10 (by decide))).trans hq12
          have hq39 := (hE35.2.2 _ (htc 11 (by decide))).trans hq13
          refine go_s (pc' := 55) rfl rfl rfl rfl ?_
          refine go_sget (pc' := 56) (v := .ref 28) hS34 rfl rfl rfl (by decide) rfl rfl ?_
          refine go_s (pc' := 57) rfl rfl rfl rfl ?_
          refine go_s (pc' := 58) rfl rfl rfl rfl ?_
          refine go_sald (pc' := 59) (q := 0) (v := .int (nI g)) hS34 rfl rfl rfl rfl (by decide) h206 rfl ?_
          refine go_s (pc' := 60) (st' := [.int 1, .int (nI g), .int 0, .ref 28]) rfl rfl rfl rfl ?_
          refine go_nadd (pc' := 61) (a := g) (b := 1) rfl rfl rfl rfl rfl ?_
          refine go_siastX (pc' := 62) (q := 0) hS34 rfl rfl tbc_inj (Nat.le_of_ble_eq_true rfl) (Nat.le_of_ble_eq_true rfl) rfl (by decide) (by decide) (hW _ rfl) rfl (fun h40 hS41 hE42 => ?_)
          have hF43 := fr_trans hF36 (fr_e hE42)
          have hq44 := (hE42.2.2 _ (htc 9 (by decide))).trans hq37
          have hq45 := (hE42.2.2 _ (htc 10 (by decide))).trans hq38
          have hq46 := (hE42.2.2 _ (htc 11 (by decide))).trans hq39
          refine go_s (pc' := 63) rfl rfl rfl rfl ?_
          refine go_ret rfl rfl ?_
          have h5e : n5 = I 6 1 := h56 (by have z : rv I 1 = true := u16; unfold rv at z; simp at z; exact z.1.1)
          have hmI : mwrI I 0 q x = (uI (uC (uC I 7 (245 * 0 + q * 5) 5 (fun j => wn x (1 + j))) 7 (245 * 1 + q * 5) 5 (fun j => wn x (1 + j))) 22 0 (nI (g + 1))) := by
            unfold mwrI
            rw [if_pos (show rv I (1 - 0) = true ∧ nI q < I 6 (1 - 0) from ⟨u16, (by rw [← h5e]; exact Int32.not_le.mp c24)⟩), e22, nI_1]
          have hms : mwrt 0 (I, Q, Z) = (nI q, (mwrI I 0 q x, Q, Z)) := by
            unfold mwrt
            rw [if_pos (show us (I, Q, Z).1 0 = true from u4), show ((I, Q, Z).2.2 (rwi (I, Q, Z).1 0)).2.2[((I, Q, Z).1 22 0).toNatClampNeg]? = some x by rw [show (I, Q, Z).1 22 0 = nI g from e22, nI_clamp (by omega)]; exact (show (Z (rwi I 0)).2.2[g]? = some x by rw [hs]; exact ex)]
            simp only []
            rw [eq, nI_clamp (by omega)]
          have hD9 := CD_206 (d := 0) (v := nI (g + 1)) (x := nI (g + 1)) (CD_I (J := (uC (uC I 7 (245 * 0 + q * 5) 5 (fun j => wn x (1 + j))) 7 (245 * 1 + q * 5) 5 (fun j => wn x (1 + j)))) (CD_fr hD hF43) ⟨rfl, rfl, rfl, rfl, rfl, rfl, rfl, rfl, rfl, rfl, rfl, rfl, rfl, rfl, rfl⟩) (fun _ => rfl)
          rw [hms]
          refine ⟨rfl, (uX X 206 0 (.int (nI (g + 1)))), ow, sb, ?_, ?_, ?_, fun l hl => Nat.le_trans (hQ l hl) hF43.1⟩
          · show sm tbc _ (mwrI I 0 q x) _
            rw [hmI]
            exact sm_12 hS41 rfl
          · show CD w e m0 _ (mwrI I 0 q x) Q Z _ ow sb
            rw [hmI]
            exact hD9
          · show co _ (mwrI I 0 q x) ≤ _
            rw [hmI]
            have := co_fr (I := I) (J := uI (uC (uC I 7 (245 * 0 + q * 5) 5 (fun j => wn x (1 + j))) 7 (245 * 1 + q * 5) 5 (fun j => wn x (1 + j))) 22 0 (nI (g + 1))) hF43 rfl
            omega
    · skip
      refine go_s (pc' := 14) (st' := [.int (-1)]) rfl rfl rfl rfl ?_
      refine go_ret rfl rfl ?_
      have hgn : ¬ g < n := fun z => absurd (show nI n ≤ nI g from Int32.not_lt.mp c5) (nI_ge z (by omega))
      have hms : mwrt 0 (I, Q, Z) = (-1, (I, Q, Z)) := by
        unfold mwrt
        rw [if_pos (show us (I, Q, Z).1 0 = true from u4), show ((I, Q, Z).2.2 (rwi (I, Q, Z).1 0)).2.2[((I, Q, Z).1 22 0).toNatClampNeg]? = none by rw [show (I, Q, Z).1 22 0 = nI g from e22, nI_clamp (by omega)]; exact (show (Z (rwi I 0)).2.2[g]? = none by rw [hs]; exact List.getElem?_eq_none (by omega))]
      rw [hms]
      exact ⟨rfl, X, ow, sb, hS, hD, Nat.le_trans hB (by omega), hQ⟩
theorem cx_wn_1 {w : Nat → Bool} {d : Nat} {h : am_Hp} {e : Nat} {m0 : mg} {B : Nat} {I : sm_I} {Q : mQ} {Z : mZ} {X : sm_X} {ow : ow_T} {sb : Nat} (hS : sm tbc h I X) (hD : CD w e m0 h I Q Z X ow sb) (hB : co h I ≤ B) (hQ : ∀ l, l < 16 → (Q l).length ≤ h.length) (hB2 : B < 2 ^ 28) {ad : Nat → Nat} {S : sm_I} {Y : sm_X} {g n : Nat} {n5 : Int32} {s : ms} (htc : ∀ i, i < 12 → tbc (ad i) = none) (hZ0 : ∀ i, i < 12 → ad i ≠ 0) (hsw : h[ad 9]? = some (.inl (6, [.ref (ad 10), .ref (ad 11), .int (nI n)]))) (hr10 : h[ad 10]? = some (.inr (.int, ((List.range 35).map (fun j => (9, j))).map (sm_v S Y)))) (hr11 : h[ad 11]? = some (.inr (.int, ((List.range 175).map (fun j => (10, j))).map (sm_v S Y)))) (hs : Z (rwi I 0) = s) (w1 : ∀ i x, s.2.2[i]? = some x → S 9 i = x.1 ∧ ∀ j, j < 5 → S 10 (5 * i + j) = wn x (1 + j)) (hn : n = s.2.2.length) (hn35 : n ≤ 35) (hg36 : g < 2 ^ 30) (hwb : WB s) (h206 : X 206 1 = .int (nI g)) (e22 : I 22 1 = nI g) (h205 : X 205 0 = .int n5) (h56 : ¬ I 4 0 = 0 → n5 = I 6 0) (hd : 4 ≤ d) : am_Ev (am_prog w) d 91 [.ref 24, .int 1, .ref (ad 9)] h (fun r h' => r = some (.int (mwrt 1 (I, Q, Z)).1) ∧ CA w e m0 B h' (mwrt 1 (I, Q, Z)).2) := by
  have hW := hD.1.1
  have hWn : ∀ a, List.length h ≤ a → w a = true := fun a ha => (hD.1.2.1 a ha).1
  have hF1 := fr_refl tbc h
  have hln : 62 ≤ List.length h := sm_len hS
  obtain ⟨d, rfl⟩ : ∃ e, d = e + 1 := ⟨d - 1, by omega⟩
  refine ev_go rfl (Nat.le_of_ble_eq_true rfl) rfl ?_
  refine go_s (pc' := 1) rfl rfl rfl rfl ?_
  refine go_sget (pc' := 2) (v := .ref 28) hS rfl rfl rfl (by decide) rfl rfl ?_
  refine go_s (pc' := 3) rfl rfl rfl rfl ?_
  refine go_sald (pc' := 4) (q := 1) (v := .int (nI g)) hS rfl rfl rfl rfl (by decide) h206 rfl ?_
  refine go_s (pc' := 5) (lo' := [some (.ref 24), some (.int 1), some (.ref (ad 9)), some (.int (nI g)), none]) rfl rfl rfl rfl ?_
  refine go_s (pc' := 6) rfl rfl rfl rfl ?_
  refine go_s (pc' := 7) rfl rfl rfl rfl ?_
  refine go_callV (pc' := 8) rfl rfl rfl (Nat.le_of_ble_eq_true rfl) rfl (sm_o hS rfl) rfl rfl rfl (ct_us_1 hS (by omega)) (fun r h2 q3 => ?_)
  obtain ⟨rfl, rfl⟩ := q3
  cases u4 : us I 1
  · skip
    show am_Go _ _ _ _ 8 _ [.int 0] _ _
    refine go_ifP (t' := 13) (pc' := 9) rfl rfl rfl (fun _ => ?_) (fun (c : ¬ ((0 : Int32) = 0)) => absurd (by decide) c)
    refine go_s (pc' := 14) (st' := [.int (-1)]) rfl rfl rfl rfl ?_
    refine go_ret rfl rfl ?_
    have hms : mwrt 1 (I, Q, Z) = (-1, (I, Q, Z)) := by
      unfold mwrt
      rw [if_neg (by rw [show us (I, Q, Z).1 1 = false from u4]; decide)]
    rw [hms]
    exact ⟨rfl, X, ow, sb, hS, hD, Nat.le_trans hB (by omega), hQ⟩
  · skip
    show am_Go _ _ _ _ 8 _ [.int 1] _ _
    refine go_ifP (t' := 13) (pc' := 9) rfl rfl rfl (fun (c : (1 : Int32) = 0) => absurd c (by decide)) (fun _ => ?_)
    refine go_s (pc' := 10) rfl rfl rfl rfl ?_
    refine go_s (pc' := 11) rfl rfl rfl rfl ?_
    refine go_get (pc' := 12) rfl hsw rfl (by decide) rfl rfl ?_
    refine go_icmpP (t' := 15) (pc' := 13) rfl rfl rfl (fun (c5 : (nI g) < (nI n)) => ?_) (fun (c5 : ¬ (nI g) < (nI n)) => ?_)
    · skip
      have hgn : g < n := by
        by_cases z : g < n
        · exact z
        · exact absurd (show nI n ≤ nI g from nI_le (by omega) (by omega)) (Int32.not_le.mpr c5)
      have hg35 : g < 35 := by omega
      obtain ⟨x, ex⟩ : ∃ x, s.2.2[g]? = some x := ⟨_, List.getElem?_eq_getElem (by omega)⟩
      have hx := w1 g x ex
      obtain ⟨q, hq, eq⟩ := hwb g x ex
      have hx1 : S 9 g = nI q := hx.1.trans eq
      refine go_s (pc' := 16) rfl rfl rfl rfl ?_
      refine go_get (pc' := 17) rfl hsw rfl (by decide) rfl rfl ?_
      refine go_s (pc' := 18) rfl rfl rfl rfl ?_
      refine go_ald (pc' := 19) (q := g) (v := .int (nI q)) rfl rfl hr10 rfl (by omega) ((rg_at hg35).trans (congrArg some (congrArg Value.int hx1))) rfl ?_
      refine go_s (pc' := 20) (lo' := [some (.ref 24), some (.int 1), some (.ref (ad 9)), some (.int (nI g)), some (.int (nI q))]) rfl rfl rfl rfl ?_
      refine go_s (pc' := 21) rfl rfl rfl rfl ?_
      refine go_s (pc' := 22) rfl rfl rfl rfl ?_
      refine go_s (pc' := 23) rfl rfl rfl rfl ?_
      refine go_s (pc' := 24) rfl rfl rfl rfl ?_
      refine go_get (pc' := 25) rfl hsw rfl (by decide) rfl rfl ?_
      refine go_s (pc' := 26) rfl rfl rfl rfl ?_
      refine go_s (pc' := 27) (st' := [.int 5, .int (nI g), .ref (ad 11), .int (nI q), .int 1, .ref 24]) rfl rfl rfl rfl ?_
      refine go_nmul (pc' := 28) (a := g) (b := 5) rfl rfl rfl rfl rfl ?_
      refine go_callV (pc' := 29) rfl rfl rfl (Nat.le_of_ble_eq_true rfl) rfl (sm_o hS rfl) rfl rfl rfl (ct_put_1 hS hW (q := q) (sp := (g * 5)) (g := (fun j => wn x (1 + j))) hq hr11 (by simp; omega) (by simp) (fun j hj => by rw [rg_at (by omega)]; simp only [sm_v]; rw [← (hx.2 j hj)]; simp [Nat.mul_comm]) (hZ0 11 (by decide)) (by omega)) (fun r h6 q7 => ?_)
      obtain ⟨rfl, hS8, hE9⟩ := q7
      have hF10 := fr_trans hF1 (fr_e hE9)
      have hq11 := (hE9.2.2 _ (htc 9 (by decide))).trans hsw
      have hq12 := (hE9.2.2 _ (htc 10 (by decide))).trans hr10
      have hq13 := (hE9.2.2 _ (htc 11 (by decide))).trans hr11
      refine go_s (pc' := 30) rfl rfl rfl rfl ?_
      refine go_s (pc' := 31) (st' := [.int 1, .ref 24]) rfl rfl rfl rfl ?_
      refine go_s (pc' := 32) rfl rfl rfl rfl ?_
      refine go_s (pc' := 33) (st' := [.int 0, .ref 24]) rfl rfl rfl rfl ?_
      refine go_callV (pc' := 34) rfl rfl rfl (Nat.le_of_ble_eq_true rfl) rfl (sm_o hS8 rfl) rfl rfl rfl (ct_rv_0 hS8 (by omega)) (fun r h14 q15 => ?_)
      obtain ⟨rfl, rfl⟩ := q15
      cases u16 : rv (uC I 7 (245 * 1 + q * 5) 5 (fun j => wn x (1 + j))) 0
      · skip
        show am_Go _ _ _ _ 34 _ [.int 0] _ _
        refine go_ifP (t' := 54) (pc' := 35) rfl rfl rfl (fun _ => ?_) (fun (c : ¬ ((0 : Int32) = 0)) => absurd (by decide) c)
        refine go_s (pc' := 55) rfl rfl rfl rfl ?_
        refine go_sget (pc' := 56) (v := .ref 28) hS8 rfl rfl rfl (by decide) rfl rfl ?_
        refine go_s (pc' := 57) rfl rfl rfl rfl ?_
        refine go_s (pc' := 58) rfl rfl rfl rfl ?_
        refine go_sald (pc' := 59) (q := 1) (v := .int (nI g)) hS8 rfl rfl rfl rfl (by decide) h206 rfl ?_
        refine go_s (pc' := 60) (st' := [.int 1, .int (nI g), .int 1, .ref 28]) rfl rfl rfl rfl ?_
        refine go_nadd (pc' := 61) (a := g) (b := 1) rfl rfl rfl rfl rfl ?_
        refine go_siastX (pc' := 62) (q := 1) hS8 rfl rfl tbc_inj (Nat.le_of_ble_eq_true rfl) (Nat.le_of_ble_eq_true rfl) rfl (by decide) (by decide) (hW _ rfl) rfl (fun h17 hS18 hE19 => ?_)
        have hF20 := fr_trans hF10 (fr_e hE19)
        have hq21 := (hE19.2.2 _ (htc 9 (by decide))).trans hq11
        have hq22 := (hE19.2.2 _ (htc 10 (by decide))).trans hq12
        have hq23 := (hE19.2.2 _ (htc 11 (by decide))).trans hq13
        refine go_s (pc' := 63) rfl rfl rfl rfl ?_
        refine go_ret rfl rfl ?_
        have hmI : mwrI I 1 q x = (uI (uC I 7 (245 * 1 + q * 5) 5 (fun j => wn x (1 + j))) 22 1 (nI (g + 1))) := by
          unfold mwrI
          rw [if_neg (show ¬ (rv I (1 - 1) = true ∧ nI q < I 6 (1 - 1)) from fun z => absurd (z.1.symm.trans (show rv I 0 = false from u16)) (by decide)), e22, nI_1]
        have hms : mwrt 1 (I, Q, Z) = (nI q, (mwrI I 1 q x, Q, Z)) := by
          unfold mwrt
          rw [if_pos (show us (I, Q, Z).1 1 = true from u4), show ((I, Q, Z).2.2 (rwi (I, Q, Z).1 0)).2.2[((I, Q, Z).1 22 1).toNatClampNeg]? = some x by rw [show (I, Q, Z).1 22 1 = nI g from e22, nI_clamp (by omega)]; exact (show (Z (rwi I 0)).2.2[g]? = some x by rw [hs]; exact ex)]
          simp only []
          rw [eq, nI_clamp (by omega)]
        have hD9 := CD_206 (d := 1) (v := nI (g + 1)) (x := nI (g + 1)) (CD_I (J := (uC I 7 (245 * 1 + q * 5) 5 (fun j => wn x (1 + j)))) (CD_fr hD hF20) ⟨rfl, rfl, rfl, rfl, rfl, rfl, rfl, rfl, rfl, rfl, rfl, rfl, rfl, rfl, rfl⟩) (fun _ => rfl)
        rw [hms]
        refine ⟨rfl, (uX X 206 1 (.int (nI (g + 1)))), ow, sb, ?_, ?_, ?_, fun l hl => Nat.le_trans (hQ l hl) hF20.1⟩
        · show sm tbc _ (mwrI I 1 q x) _
          rw [hmI]
          exact sm_12 hS18 rfl
        · show CD w e m0 _ (mwrI I 1 q x) Q Z _ ow sb
          rw [hmI]
          exact hD9
        · show co _ (mwrI I 1 q x) ≤ _
          rw [hmI]
          have := co_fr (I := I) (J := uI (uC I 7 (245 * 1 + q * 5) 5 (fun j => wn x (1 + j))) 22 1 (nI (g + 1))) hF20 rfl
          omega
      · skip
        show am_Go _ _ _ _ 34 _ [.int 1] _ _
        refine go_ifP (t' := 54) (pc' := 35) rfl rfl rfl (fun (c : (1 : Int32) = 0) => absurd c (by decide)) (fun _ => ?_)
        refine go_s (pc' := 36) rfl rfl rfl rfl ?_
        refine go_s (pc' := 37) rfl rfl rfl rfl ?_
        refine go_sget (pc' := 38) (v := .ref 27) hS8 rfl rfl rfl (by decide) rfl rfl ?_
        refine go_s (pc' := 39) (st' := [.int 1, .ref 27, .int (nI q)]) rfl rfl rfl rfl ?_
        refine go_s (pc' := 40) rfl rfl rfl rfl ?_
        refine go_s (pc' := 41) (st' := [.int 0, .ref 27, .int (nI q)]) rfl rfl rfl rfl ?_
        refine go_sald (pc' := 42) (q := 0) (v := .int n5) hS8 rfl rfl rfl rfl (by decide) h205 rfl ?_
        refine go_icmpP (t' := 54) (pc' := 43) rfl rfl rfl (fun (c24 : n5 ≤ (nI q)) => ?_) (fun (c24 : ¬ n5 ≤ (nI q)) => ?_)
        · skip
          refine go_s (pc' := 55) rfl rfl rfl rfl ?_
          refine go_sget (pc' := 56) (v := .ref 28) hS8 rfl rfl rfl (by decide) rfl rfl ?_
          refine go_s (pc' := 57) rfl rfl rfl rfl ?_
          refine go_s (pc' := 58) rfl rfl rfl rfl ?_
          refine go_sald (pc' := 59) (q := 1) (v := .int (nI g)) hS8 rfl rfl rfl rfl (by decide) h206 rfl ?_
          refine go_s (pc' := 60) (st' := [.int 1, .int (nI g), .int 1, .ref 28]) rfl rfl rfl rfl ?_
          refine go_nadd (pc' := 61) (a := g) (b := 1) rfl rfl rfl rfl rfl ?_
          refine go_siastX (pc' := 62) (q := 1) hS8 rfl rfl tbc_inj (Nat.le_of_ble_eq_true rfl) (Nat.le_of_ble_eq_true rfl) rfl (by decide) (by decide) (hW _ rfl) rfl (fun h25 hS26 hE27 => ?_)
          have hF28 := fr_trans hF10 (fr_e hE27)
          have hq29 := (hE27.2.2 _ (htc 9 (by decide))).trans hq11
          have hq30 := (hE27.2.2 _ (htc 10 (by decide))).trans hq12
          have hq31 := (hE27.2.2 _ (htc 11 (by decide))).trans hq13
          refine go_s (pc' := 63) rfl rfl rfl rfl ?_
          refine go_ret rfl rfl ?_
          have h5e : n5 = I 6 0 := h56 (by have z : rv I 0 = true := u16; unfold rv at z; simp at z; exact z.1.1)
          have hmI : mwrI I 1 q x = (uI (uC I 7 (245 * 1 + q * 5) 5 (fun j => wn x (1 + j))) 22 1 (nI (g + 1))) := by
            unfold mwrI
            rw [if_neg (show ¬ (rv I (1 - 1) = true ∧ nI q < I 6 (1 - 1)) from fun z => absurd z.2 (by rw [← h5e]; exact Int32.not_lt.mpr c24)), e22, nI_1]
          have hms : mwrt 1 (I, Q, Z) = (nI q, (mwrI I 1 q x, Q, Z)) := by
            unfold mwrt
            rw [if_pos (show us (I, Q, Z).1 1 = true from u4), show ((I, Q, Z).2.2 (rwi (I, Q, Z).1 0)).2.2[((I, Q, Z).1 22 1).toNatClampNeg]? = some x by rw [show (I, Q, Z).1 22 1 = nI g from e22, nI_clamp (by omega)]; exact (show (Z (rwi I 0)).2.2[g]? = some x by rw [hs]; exact ex)]
            simp only []
            rw [eq, nI_clamp (by omega)]
          have hD9 := CD_206 (d := 1) (v := nI (g + 1)) (x := nI (g + 1)) (CD_I (J := (uC I 7 (245 * 1 + q * 5) 5 (fun j => wn x (1 + j)))) (CD_fr hD hF28) ⟨rfl, rfl, rfl, rfl, rfl, rfl, rfl, rfl, rfl, rfl, rfl, rfl, rfl, rfl, rfl⟩) (fun _ => rfl)
          rw [hms]
          refine ⟨rfl, (uX X 206 1 (.int (nI (g + 1)))), ow, sb, ?_, ?_, ?_, fun l hl => Nat.le_trans (hQ l hl) hF28.1⟩
          · show sm tbc _ (mwrI I 1 q x) _
            rw [hmI]
            exact sm_12 hS26 rfl
          · show CD w e m0 _ (mwrI I 1 q x) Q Z _ ow sb
            rw [hmI]
            exact hD9
          · show co _ (mwrI I 1 q x) ≤ _
            rw [hmI]
            have := co_fr (I := I) (J := uI (uC I 7 (245 * 1 + q * 5) 5 (fun j => wn x (1 + j))) 22 1 (nI (g + 1))) hF28 rfl
            omega
        · skip
          refine go_s (pc' := 44) rfl rfl rfl rfl ?_
          refine go_s (pc' := 45) (st' := [.int 1, .ref 24]) rfl rfl rfl rfl ?_
          refine go_s (pc' := 46) rfl rfl rfl rfl ?_
          refine go_s (pc' := 47) (st' := [.int 0, .ref 24]) rfl rfl rfl rfl ?_
          refine go_s (pc' := 48) rfl rfl rfl rfl ?_
          refine go_s (pc' := 49) rfl rfl rfl rfl ?_
          refine go_get (pc' := 50) rfl hq11 rfl (by decide) rfl rfl ?_
          refine go_s (pc' := 51) rfl rfl rfl rfl ?_
          refine go_s (pc' := 52) (st' := [.int 5, .int (nI g), .ref (ad 11), .int (nI q), .int 0, .ref 24]) rfl rfl rfl rfl ?_
          refine go_nmul (pc' := 53) (a := g) (b := 5) rfl rfl rfl rfl rfl ?_
          refine go_callV (pc' := 54) rfl rfl rfl (Nat.le_of_ble_eq_true rfl) rfl (sm_o hS8 rfl) rfl rfl rfl (ct_put_0 hS8 hW (q := q) (sp := (g * 5)) (g := (fun j => wn x (1 + j))) hq hq13 (by simp; omega) (by simp) (fun j hj => by rw [rg_at (by omega)]; simp only [sm_v]; rw [← (hx.2 j hj)]; simp [Nat.mul_comm]) (hZ0 11 (by decide)) (by omega)) (fun r h32 q33 => ?_)
          obtain ⟨rfl, hS34, hE35⟩ := q33
          have hF36 := fr_trans hF10 (fr_e hE35)
          have hq37 := (hE35.2.2 _ (htc 9 (by decide))).trans hq11
          have hq38 := (hE35.2.2 _ (htc 10 (by decide))).trans hq12
          have hq39 := (hE35.2.2 _ (htc 11 (by decide))).trans hq13
          refine go_s (pc' := 55) rfl rfl rfl rfl ?_
          refine go_sget (pc' := 56) (v := .ref 28) hS34 rfl rfl rfl (by decide) rfl rfl ?_
          refine go_s (pc' := 57) rfl rfl rfl rfl ?_
          refine go_s (pc' := 58) rfl rfl rfl rfl ?_
          refine go_sald (pc' := 59) (q := 1) (v := .int (nI g)) hS34 rfl rfl rfl rfl (by decide) h206 rfl ?_
          refine go_s (pc' := 60) (st' := [.int 1, .int (nI g), .int 1, .ref 28]) rfl rfl rfl rfl ?_
          refine go_nadd (pc' := 61) (a := g) (b := 1) rfl rfl rfl rfl rfl ?_
          refine go_siastX (pc' := 62) (q := 1) hS34 rfl rfl tbc_inj (Nat.le_of_ble_eq_true rfl) (Nat.le_of_ble_eq_true rfl) rfl (by decide) (by decide) (hW _ rfl) rfl (fun h40 hS41 hE42 => ?_)
          have hF43 := fr_trans hF36 (fr_e hE42)
          have hq44 := (hE42.2.2 _ (htc 9 (by decide))).trans hq37
          have hq45 := (hE42.2.2 _ (htc 10 (by decide))).trans hq38
          have hq46 := (hE42.2.2 _ (htc 11 (by decide))).trans hq39
          refine go_s (pc' := 63) rfl rfl rfl rfl ?_
          refine go_ret rfl rfl ?_
          have h5e : n5 = I 6 0 := h56 (by have z : rv I 0 = true := u16; unfold rv at z; simp at z; exact z.1.1)
          have hmI : mwrI I 1 q x = (uI (uC (uC I 7 (245 * 1 + q * 5) 5 (fun j => wn x (1 + j))) 7 (245 * 0 + q * 5) 5 (fun j => wn x (1 + j))) 22 1 (nI (g + 1))) := by
            unfold mwrI
            rw [if_pos (show rv I (1 - 1) = true ∧ nI q < I 6 (1 - 1) from ⟨u16, (by rw [← h5e]; exact Int32.not_le.mp c24)⟩), e22, nI_1]
          have hms : mwrt 1 (I, Q, Z) = (nI q, (mwrI I 1 q x, Q, Z)) := by
            unfold mwrt
            rw [if_pos (show us (I, Q, Z).1 1 = true from u4), show ((I, Q, Z).2.2 (rwi (I, Q, Z).1 0)).2.2[((I, Q, Z).1 22 1).toNatClampNeg]? = some x by rw [show (I, Q, Z).1 22 1 = nI g from e22, nI_clamp (by omega)]; exact (show (Z (rwi I 0)).2.2[g]? = some x by rw [hs]; exact ex)]
            simp only []
            rw [eq, nI_clamp (by omega)]
          have hD9 := CD_206 (d := 1) (v := nI (g + 1)) (x := nI (g + 1)) (CD_I (J := (uC (uC I 7 (245 * 1 + q * 5) 5 (fun j => wn x (1 + j))) 7 (245 * 0 + q * 5) 5 (fun j => wn x (1 + j)))) (CD_fr hD hF43) ⟨rfl, rfl, rfl, rfl, rfl, rfl, rfl, rfl, rfl, rfl, rfl, rfl, rfl, rfl, rfl⟩) (fun _ => rfl)
          rw [hms]
          refine ⟨rfl, (uX X 206 1 (.int (nI (g + 1)))), ow, sb, ?_, ?_, ?_, fun l hl => Nat.le_trans (hQ l hl) hF43.1⟩
          · show sm tbc _ (mwrI I 1 q x) _
            rw [hmI]
            exact sm_12 hS41 rfl
          · show CD w e m0 _ (mwrI I 1 q x) Q Z _ ow sb
            rw [hmI]
            exact hD9
          · show co _ (mwrI I 1 q x) ≤ _
            rw [hmI]
            have := co_fr (I := I) (J := uI (uC (uC I 7 (245 * 1 + q * 5) 5 (fun j => wn x (1 + j))) 7 (245 * 0 + q * 5) 5 (fun j => wn x (1 + j))) 22 1 (nI (g + 1))) hF43 rfl
            omega
    · skip
      refine go_s (pc' := 14) (st' := [.int (-1)]) rfl rfl rfl rfl ?_
      refine go_ret rfl rfl ?_
      have hgn : ¬ g < n := fun z => absurd (show nI n ≤ nI g from Int32.not_lt.mp c5) (nI_ge z (by omega))
      have hms : mwrt 1 (I, Q, Z) = (-1, (I, Q, Z)) := by
        unfold mwrt
        rw [if_pos (show us (I, Q, Z).1 1 = true from u4), show ((I, Q, Z).2.2 (rwi (I, Q, Z).1 0)).2.2[((I, Q, Z).1 22 1).toNatClampNeg]? = none by rw [show (I, Q, Z).1 22 1 = nI g from e22, nI_clamp (by omega)]; exact (show (Z (rwi I 0)).2.2[g]? = none by rw [hs]; exact List.getElem?_eq_none (by omega))]
      rw [hms]
      exact ⟨rfl, X, ow, sb, hS, hD, Nat.le_trans hB (by omega), hQ⟩
