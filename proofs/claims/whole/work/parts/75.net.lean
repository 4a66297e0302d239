/-! a link's chain grows -/
def gf (x y : Nat) (h h2 : am_Hp) : Prop := h2.length = h.length ∧ am_sl h2 = am_sl h ∧ ∀ b, tbc b = none → b ≠ x → b ≠ y → h2[b]? = h[b]?
theorem gf_refl (x y : Nat) (h : am_Hp) : gf x y h h := ⟨rfl, rfl, fun _ _ _ _ => rfl⟩
theorem gf_e {x y : Nat} {h h2 h3 : am_Hp} (a : gf x y h h2) (b : sm_e tbc h2 h3) : gf x y h h3 := ⟨b.1.trans a.1, b.2.1.trans a.2.1, fun z h1 h2 h3 => (b.2.2 z h1).trans (a.2.2 z h1 h2 h3)⟩
theorem gf_p {x y c : Nat} {h h2 h3 : am_Hp} (a : gf x y h h2) (b : pq c h2 h3) (hc : c = x ∨ c = y) : gf x y h h3 := ⟨b.1.trans a.1, b.2.1.trans a.2.1, fun z h1 h2 h3 => (b.2.2 z (by rcases hc with rfl | rfl <;> assumption)).trans (a.2.2 z h1 h2 h3)⟩
theorem ct_app_0 {w : Nat → Bool} {d : Nat} {h : am_Hp} {I : sm_I} {X : sm_X} (hS : sm tbc h I X) (hW : ∀ a, (tbc a).isSome = true → w a = true) {l : Nat} (hl : l < 16) {x : Nat} {k0 n0 pr td : Int32} {vq va vs : Value} (hx : h[x]? = some (.inl (9, [.int k0, .int n0, .int pr, .int td, vq, va, vs, .null]))) (hxw : w x = true) (hxt : tbc x = none) {c : Int32} (h202 : X 202 l = .int c) (h201 : X 201 l = .null) (hd : 1 ≤ d) : am_Ev (am_prog w) d 26 [.ref (8 + l), .ref x] h (fun r h' => r = none ∧ h'[x]? = some (.inl (9, [.int k0, .int (I 9 l + 1), .int pr, .int td, vq, va, vs, .null])) ∧ sm tbc h' (uI I 9 l (I 9 l + 1)) (uX (uX (uX X 200 l (.ref x)) 201 l (.ref x)) 202 l (.int (c + 1))) ∧ gf x x h h') := by
  have hG0 := gf_refl x x h
  obtain ⟨d, rfl⟩ : ∃ e, d = e + 1 := ⟨d - 1, by omega⟩
  refine ev_go rfl (Nat.le_of_ble_eq_true rfl) rfl ?_
  refine go_s (pc' := 1) rfl rfl rfl rfl ?_
  refine go_s (pc' := 2) rfl rfl rfl rfl ?_
  refine go_sget (pc' := 3) (v := .int (I 9 l)) hS rfl rfl (tc_l3 hl) (by decide) rfl rfl ?_
  refine go_s (pc' := 4) (st' := [.int 1, .int (I 9 l), .ref (8 + l)]) rfl rfl rfl rfl ?_
  refine go_s (pc' := 5) rfl rfl rfl rfl ?_
  refine go_sput (pc' := 6) hS rfl rfl (tc_l3 hl) (by decide) tbc_inj (Nat.le_of_ble_eq_true rfl) rfl (hW _ (by rw [tc_lk hl]; rfl)) rfl (fun h1 hS2 hE3 => ?_)
  have hq4 := (hE3.2.2 _ hxt).trans hx
  have hG5 := gf_e hG0 hE3
  refine go_s (pc' := 7) rfl rfl rfl rfl ?_
  refine go_s (pc' := 8) rfl rfl rfl rfl ?_
  refine go_sget (pc' := 9) (v := .int ((I 9 l) + 1)) hS2 rfl rfl (tc_l3 hl) (by decide) (by simp [sm_v, uI, uX]) rfl ?_
  refine go_putF (pc' := 10) rfl hq4 rfl (by decide) (Nat.le_of_ble_eq_true rfl) rfl hxw rfl (fun h6 hc7 hp8 => ?_)
  have hS9 := sm_pq hS2 hp8 hxt
  have hG10 := gf_p hG5 hp8 (by first | exact Or.inl rfl | exact Or.inr rfl)
  refine go_s (pc' := 11) rfl rfl rfl rfl ?_
  refine go_sget (pc' := 12) (v := .null) hS9 rfl rfl (tc_l1 hl) (by decide) h201 rfl ?_
  refine go_s (pc' := 13) rfl rfl rfl rfl ?_
  refine go_s (pc' := 14) rfl rfl rfl rfl ?_
  refine go_s (pc' := 15) rfl rfl rfl rfl ?_
  refine go_sputX (pc' := 16) hS9 rfl rfl (tc_l0 hl) (by decide) tbc_inj (Nat.le_of_ble_eq_true rfl) (Nat.le_of_ble_eq_true rfl) rfl (hW _ (by rw [tc_lk hl]; rfl)) rfl (fun h11 hS12 hE13 => ?_)
  have hq14 := (hE13.2.2 _ hxt).trans hc7
  have hG15 := gf_e hG10 hE13
  refine go_s (pc' := 21) rfl rfl rfl rfl ?_
  refine go_s (pc' := 22) rfl rfl rfl rfl ?_
  refine go_s (pc' := 23) rfl rfl rfl rfl ?_
  refine go_sputX (pc' := 24) hS12 rfl rfl (tc_l1 hl) (by decide) tbc_inj (Nat.le_of_ble_eq_true rfl) (Nat.le_of_ble_eq_true rfl) rfl (hW _ (by rw [tc_lk hl]; rfl)) rfl (fun h16 hS17 hE18 => ?_)
  have hq19 := (hE18.2.2 _ hxt).trans hq14
  have hG20 := gf_e hG15 hE18
  refine go_s (pc' := 25) rfl rfl rfl rfl ?_
  refine go_s (pc' := 26) rfl rfl rfl rfl ?_
  refine go_sget (pc' := 27) (v := .int c) hS17 rfl rfl (tc_l2 hl) (by decide) h202 rfl ?_
  refine go_s (pc' := 28) (st' := [.int 1, .int c, .ref (8 + l)]) rfl rfl rfl rfl ?_
  refine go_s (pc' := 29) rfl rfl rfl rfl ?_
  refine go_sputX (pc' := 30) hS17 rfl rfl (tc_l2 hl) (by decide) tbc_inj (Nat.le_of_ble_eq_true rfl) (Nat.le_of_ble_eq_true rfl) rfl (hW _ (by rw [tc_lk hl]; rfl)) rfl (fun h21 hS22 hE23 => ?_)
  have hq24 := (hE23.2.2 _ hxt).trans hq19
  have hG25 := gf_e hG20 hE23
  refine go_ret rfl rfl ?_
  exact ⟨rfl, hq24, hS22, hG25⟩
theorem ct_app_1 {w : Nat → Bool} {d : Nat} {h : am_Hp} {I : sm_I} {X : sm_X} (hS : sm tbc h I X) (hW : ∀ a, (tbc a).isSome = true → w a = true) {l : Nat} (hl : l < 16) {x : Nat} {k0 n0 pr td : Int32} {vq va vs : Value} (hx : h[x]? = some (.inl (9, [.int k0, .int n0, .int pr, .int td, vq, va, vs, .null]))) (hxw : w x = true) (hxt : tbc x = none) {c : Int32} (h202 : X 202 l = .int c) {y : Nat} (h201 : X 201 l = .ref y) {k1 n1 p1 t1 : Int32} {a1 b1 c1 d1 : Value} (hy : h[y]? = some (.inl (9, [.int k1, .int n1, .int p1, .int t1, a1, b1, c1, d1]))) (hyt : tbc y = none) (hyw : w y = true) (hxy : x ≠ y) (hd : 1 ≤ d) : am_Ev (am_prog w) d 26 [.ref (8 + l), .ref x] h (fun r h' => r = none ∧ h'[x]? = some (.inl (9, [.int k0, .int (I 9 l + 1), .int pr, .int td, vq, va, vs, .null])) ∧ h'[y]? = some (.inl (9, [.int k1, .int n1, .int p1, .int t1, a1, b1, c1, .ref x])) ∧ sm tbc h' (uI I 9 l (I 9 l + 1)) (uX (uX X 201 l (.ref x)) 202 l (.int (c + 1))) ∧ gf x y h h') := by
  have hG0 := gf_refl x y h
  obtain ⟨d, rfl⟩ : ∃ e, d = e + 1 := ⟨d - 1, by omega⟩
  refine ev_go rfl (Nat.le_of_ble_eq_true rfl) rfl ?_
  refine go_s (pc' := 1) rfl rfl rfl rfl ?_
  refine go_s (pc' := 2) rfl rfl rfl rfl ?_
  refine go_sget (pc' := 3) (v := .int (I 9 l)) hS rfl rfl (tc_l3 hl) (by decide) rfl rfl ?_
  refine go_s (pc' := 4) (st' := [.int 1, .int (I 9 l), .ref (8 + l)]) rfl rfl rfl rfl ?_
  refine go_s (pc' := 5) rfl rfl rfl rfl ?_
  refine go_sput (pc' := 6) hS rfl rfl (tc_l3 hl) (by decide) tbc_inj (Nat.le_of_ble_eq_true rfl) rfl (hW _ (by rw [tc_lk hl]; rfl)) rfl (fun h1 hS2 hE3 => ?_)
  have hq4 := (hE3.2.2 _ hxt).trans hx
  have hq5 := (hE3.2.2 _ hyt).trans hy
  have hG6 := gf_e hG0 hE3
  refine go_s (pc' := 7) rfl rfl rfl rfl ?_
  refine go_s (pc' := 8) rfl rfl rfl rfl ?_
  refine go_sget (pc' := 9) (v := .int ((I 9 l) + 1)) hS2 rfl rfl (tc_l3 hl) (by decide) (by simp [sm_v, uI, uX]) rfl ?_
  refine go_putF (pc' := 10) rfl hq4 rfl (by decide) (Nat.le_of_ble_eq_true rfl) rfl hxw rfl (fun h7 hc8 hp9 => ?_)
  have hq10 := (hp9.2.2 _ (by omega)).trans hq5
  have hS11 := sm_pq hS2 hp9 hxt
  have hG12 := gf_p hG6 hp9 (by first | exact Or.inl rfl | exact Or.inr rfl)
  refine go_s (pc' := 11) rfl rfl rfl rfl ?_
  refine go_sget (pc' := 12) (v := .ref y) hS11 rfl rfl (tc_l1 hl) (by decide) h201 rfl ?_
  refine go_s (pc' := 17) rfl rfl rfl rfl ?_
  refine go_s (pc' := 18) rfl rfl rfl rfl ?_
  refine go_sget (pc' := 19) (v := .ref y) hS11 rfl rfl (tc_l1 hl) (by decide) h201 rfl ?_
  refine go_s (pc' := 20) rfl rfl rfl rfl ?_
  refine go_putF (pc' := 21) rfl hq10 rfl (by decide) (Nat.le_of_ble_eq_true rfl) rfl hyw rfl (fun h13 hc14 hp15 => ?_)
  have hq16 := (hp15.2.2 _ (by omega)).trans hc8
  have hS17 := sm_pq hS11 hp15 hyt
  have hG18 := gf_p hG12 hp15 (by first | exact Or.inl rfl | exact Or.inr rfl)
  refine go_s (pc' := 22) rfl rfl rfl rfl ?_
  refine go_s (pc' := 23) rfl rfl rfl rfl ?_
  refine go_sputX (pc' := 24) hS17 rfl rfl (tc_l1 hl) (by decide) tbc_inj (Nat.le_of_ble_eq_true rfl) (Nat.le_of_ble_eq_true rfl) rfl (hW _ (by rw [tc_lk hl]; rfl)) rfl (fun h19 hS20 hE21 => ?_)
  have hq22 := (hE21.2.2 _ hxt).trans hq16
  have hq23 := (hE21.2.2 _ hyt).trans hc14
  have hG24 := gf_e hG18 hE21
  refine go_s (pc' := 25) rfl rfl rfl rfl ?_
  refine go_s (pc' := 26) rfl rfl rfl rfl ?_
  refine go_sget (pc' := 27) (v := .int c) hS20 rfl rfl (tc_l2 hl) (by decide) h202 rfl ?_
  refine go_s (pc' := 28) (st' := [.int 1, .int c, .ref (8 + l)]) rfl rfl rfl rfl ?_
  refine go_s (pc' := 29) rfl rfl rfl rfl ?_
  refine go_sputX (pc' := 30) hS20 rfl rfl (tc_l2 hl) (by decide) tbc_inj (Nat.le_of_ble_eq_true rfl) (Nat.le_of_ble_eq_true rfl) rfl (hW _ (by rw [tc_lk hl]; rfl)) rfl (fun h25 hS26 hE27 => ?_)
  have hq28 := (hE27.2.2 _ hxt).trans hq22
  have hq29 := (hE27.2.2 _ hyt).trans hq23
  have hG30 := gf_e hG24 hE27
  refine go_ret rfl rfl ?_
  exact ⟨rfl, hq28, hq29, hS26, hG30⟩
theorem LK_cs {h : am_Hp} {ow : ow_T} {sb l : Nat} {X : sm_X} {q : List mg} (k : LK h ow sb l X q) : (q = [] ∧ X 200 l = .null ∧ X 201 l = .null ∧ X 202 l = .int 0) ∨ (¬ q = [] ∧ ∃ y n, X 201 l = .ref y ∧ X 202 l = .int (nI n) ∧ n = q.length ∧ 0 < n ∧ ow y = 2 + l ∧ ∃ k1 n1 p1 t1 a1 b1 c1, h[y]? = some (.inl (9, [.int k1, .int n1, .int p1, .int t1, a1, b1, c1, .null]))) := by
  obtain ⟨L, k1, k2, k3, k4, k5⟩ := k
  by_cases e : L = []
  · subst e
    refine Or.inl ⟨List.length_eq_zero_iff.mp k1.symm, k2, k3, k4⟩
  · have hp := List.length_pos_iff.mpr e
    rw [if_neg e] at k3
    obtain ⟨y, hy⟩ : ∃ y, L[L.length - 1]? = some y := ⟨_, List.getElem?_eq_getElem (by omega)⟩
    obtain ⟨m9, hm9⟩ : ∃ m9, q[L.length - 1]? = some m9 := ⟨_, List.getElem?_eq_getElem (by omega)⟩
    obtain ⟨o, p1, t1, a1, b1, c1, hc, -⟩ := k5 _ y m9 hy hm9
    refine Or.inr ⟨fun z => by rw [z] at k1; simp at k1; exact e k1, y, L.length, ?_, k4, k1, hp, o, m9.1 0, m9.1 1, p1, t1, a1, b1, c1, ?_⟩
    · rw [k3]; unfold nxv; rw [hy]
    · rw [hc, show L.length - 1 + 1 = L.length by omega, nxv_out (Nat.le_refl _)]
theorem appI_sm {h : am_Hp} {I : sm_I} {Q : mQ} {X : sm_X} {l : Nat} (s : sm tbc h (uI I 9 l (I 9 l + 1)) X) : sm tbc h (appI I Q l) X := by
  refine sm_hid s (fun c j hc => ?_)
  unfold appI
  split
  · have h1 : c ≠ 24 := fun e => by subst e; cases hc
    have h2 : c ≠ 25 := fun e => by subst e; cases hc
    simp [uI, h1, h2]
  · rfl
theorem ne_of_ow {ow : ow_T} {x y : Nat} (h : ow x = 0) (h2 : ow y ≠ 0) : x ≠ y := fun e => h2 (e ▸ h)
theorem app_len {Q : mQ} {B l : Nat} {m : mg} (h : ∀ l, l < 16 → (Q l).length + 1 ≤ B) : ∀ k, k < 16 → (uQ Q l (Q l ++ [m]) k).length ≤ B := by
  intro k hk
  have := h k hk
  unfold uQ
  split
  · rename_i e; subst e; simp; omega
  · omega
theorem ct_send {w : Nat → Bool} {d : Nat} {h : am_Hp} {I : sm_I} {X : sm_X} (hS : sm tbc h I X) {e : Nat} {m0 : mg} {Q : mQ} {Z : mZ} {ow : ow_T} {sb : Nat} (hD : CD w e m0 h I Q Z X ow sb) {B : Nat} (hB : co h I ≤ B) (hQ : ∀ l, l < 16 → (Q l).length + 1 ≤ h.length) (hB2 : B < 2 ^ 30) {f t : Nat} (hf : f < 4) (ht : t < 4) (hn : ¬ f = t) {x : Nat} {m : mg} {n0 pr td : Int32} {vq va vs : Value} (hx : h[x]? = some (.inl (9, [.int (m.1 0), .int n0, .int pr, .int td, vq, va, vs, .null]))) (hxo : ow x = 0) (hxw : w x = true) (hxt : tbc x = none) (hx0 : x ≠ 0) (hm : MF h ow sb m pr td vq va vs) (hd : 2 ≤ d) : am_Ev (am_prog w) d 24 [.ref 2, .int (nI f), .int (nI t), .ref x] h (fun r h' => r = none ∧ CA w e m0 B h' (msnd f t m (I, Q, Z))) := by
  obtain ⟨l, el⟩ : ∃ l, l = 4 * f + t := ⟨_, rfl⟩
  have hl : l < 16 := by omega
  have hLK := hD.2.1 l hl
  have hWn := hD.1.2.1
  have hW := hD.1.1
  have hhl : h.length ≤ B := by
    unfold co at hB
    omega
  obtain ⟨d, rfl⟩ : ∃ e, d = e + 1 := ⟨d - 1, by omega⟩
  refine ev_go rfl (Nat.le_of_ble_eq_true rfl) rfl ?_
  refine go_s (pc' := 1) rfl rfl rfl rfl ?_
  refine go_s (pc' := 2) rfl rfl rfl rfl ?_
  refine go_s (pc' := 3) rfl rfl rfl rfl ?_
  refine go_callV (pc' := 4) rfl rfl rfl (Nat.le_of_ble_eq_true rfl) rfl (sm_o hS rfl) rfl rfl rfl (ct_between hS hf ht hn (by omega)) (fun r h1 q2 => ?_)
  obtain ⟨rfl, rfl⟩ := q2
  rw [← el]
  refine go_s (pc' := 5) (lo' := [some (.ref 2), some (.int (nI f)), some (.int (nI t)), some (.ref x), some (.ref (8 + l))]) rfl rfl rfl rfl ?_
  refine go_s (pc' := 6) rfl rfl rfl rfl ?_
  refine go_s (pc' := 7) rfl rfl rfl rfl ?_
  refine go_s (pc' := 8) rfl rfl rfl rfl ?_
  refine go_sget (pc' := 9) (v := .ref 3) hS rfl rfl rfl (by decide) rfl rfl ?_
  refine go_s (pc' := 10) rfl rfl rfl rfl ?_
  refine go_sald (pc' := 11) (q := f) (v := .int (I 0 f)) hS rfl (tc_up (by omega)) rfl rfl (by omega) rfl rfl ?_
  refine go_ifP (t' := 17) (pc' := 12) rfl rfl rfl (fun (c3 : (I 0 f) = 0) => ?_) (fun (c3 : ¬ (I 0 f) = 0) => ?_)
  · skip
    refine go_ret rfl rfl ?_
    have hms : msnd f t m (I, Q, Z) = (I, Q, Z) := by
      unfold msnd
      rw [if_pos (by first | exact Or.inl c3 | exact Or.inr c3)]
    rw [hms]
    exact ⟨rfl, X, ow, sb, hS, hD, hB, fun l hl => by have := hQ l hl; show (Q l).length ≤ _; omega⟩
  · skip
    refine go_s (pc' := 13) rfl rfl rfl rfl ?_
    refine go_sget (pc' := 14) (v := .ref 3) hS rfl rfl rfl (by decide) rfl rfl ?_
    refine go_s (pc' := 15) rfl rfl rfl rfl ?_
    refine go_sald (pc' := 16) (q := t) (v := .int (I 0 t)) hS rfl (tc_up (by omega)) rfl rfl (by omega) rfl rfl ?_
    refine go_ifP (t' := 18) (pc' := 17) rfl rfl rfl (fun (c4 : ¬ (I 0 t) = 0) => ?_) (fun (c4' : ¬ ¬ (I 0 t) = 0) => ?_)
    · skip
      have hms : msnd f t m (I, Q, Z) = mapp l m (I, Q, Z) := by
        unfold msnd
        rw [if_neg (fun z => z.elim c3 c4), el]
      rw [hms]
      rcases LK_cs hLK with ⟨hq0, h200, h201, h202⟩ | ⟨hq0, y, n, h201, h202, en, pn0, oy, k1, n1, p1, t1, a1, b1, c1, hy⟩
      · skip
        refine go_s (pc' := 19) rfl rfl rfl rfl ?_
        refine go_s (pc' := 20) rfl rfl rfl rfl ?_
        refine go_callV (pc' := 21) rfl rfl rfl (Nat.le_of_ble_eq_true rfl) rfl (sm_o hS (tc_lk hl)) rfl rfl rfl (ct_app_0 hS hW hl hx hxw hxt h202 h201 (by omega)) (fun r h5 q6 => ?_)
        obtain ⟨rfl, hx8, hS8, hG8⟩ := q6
        refine go_s (pc' := 22) rfl rfl rfl rfl ?_
        refine go_sget (pc' := 23) (v := .int 1) hS8 rfl rfl (tc_l2 hl) (by decide) (by simp [sm_v, uI, uX]) rfl ?_
        refine go_s (pc' := 24) (st' := [.int 1, .int 1]) rfl rfl rfl rfl ?_
        refine go_icmpP (t' := 29) (pc' := 25) rfl rfl rfl (fun (c : ¬ (1 : Int32) = 1) => absurd c (fun z => z rfl)) (fun _ => ?_)
        refine go_s (pc' := 26) rfl rfl rfl rfl ?_
        refine go_s (pc' := 27) rfl rfl rfl rfl ?_
        refine go_callV (pc' := 28) rfl rfl rfl (Nat.le_of_ble_eq_true rfl) rfl (sm_o hS8 rfl) rfl rfl rfl (ct_fbu hS8 (by omega)) (fun r h7 q8 => ?_)
        obtain ⟨rfl, rfl⟩ := q8
        refine go_callV (pc' := 29) rfl rfl rfl (Nat.le_of_ble_eq_true rfl) rfl (sm_o hS8 (tc_lk hl)) rfl rfl rfl (ct_putOn hS8 hW hl (fbu (uI I 9 l (I 9 l + 1))) (by omega)) (fun r h9 q10 => ?_)
        obtain ⟨rfl, hS11, hE12⟩ := q10
        have hG13 := gf_e hG8 hE12
        have hx9 := (hE12.2.2 x hxt).trans hx8
        refine go_ret rfl rfl ?_
        refine ⟨rfl, _, owx ow x (2 + l), sb, appI_sm hS11, ?_, ?_, app_len (fun l hl => by rw [hG13.1]; exact hQ l hl)⟩
        · refine CD_app hD hl hxo hxw hxt hx0 hG13.1 hm hx9 (fun _ => ⟨by simp [uX], fun b h1 h2 => ?_⟩) (fun y z => by rw [h201] at z; cases z) (by simp [uX]) (fun v z => by rw [h202] at z; cases z; simp [uX]) (fun _ => ⟨by simp [uX]; exact fbu_c rfl, by simp [uX]; exact fbu_c rfl⟩) (fun z => absurd hq0 z) (fun c j hj => by simp [uX, hj]) (fun c hc => by funext j; simp only [uX]; repeat rw [if_neg (by omega)])
          exact hG13.2.2 b (hD.1.2.2 b h2).2.1 h1 h1
        · have z1 := hG13.1
          have z2 := hG13.2.1
          show co _ (appI I Q l) ≤ B
          unfold co at hB ⊢
          rw [appI_o (by omega) (by omega) (by omega), z1, z2]
          exact hB
      · skip
        have hyn : ow y ≠ 0 := by omega
        have hxy := ne_of_ow hxo hyn
        obtain ⟨hyw, hyt, -⟩ := hD.1.2.2 y hyn
        have hnb : n ≤ B := by
          have := hQ l hl
          have z : (cq e m0 Q l).length ≤ (Q l).length + 1 := by unfold cq; split <;> simp
          omega
        refine go_s (pc' := 19) rfl rfl rfl rfl ?_
        refine go_s (pc' := 20) rfl rfl rfl rfl ?_
        refine go_callV (pc' := 21) rfl rfl rfl (Nat.le_of_ble_eq_true rfl) rfl (sm_o hS (tc_lk hl)) rfl rfl rfl (ct_app_1 hS hW hl hx hxw hxt h202 h201 hy hyt hyw hxy (by omega)) (fun r h14 q15 => ?_)
        obtain ⟨rfl, hx8, hy8, hS8, hG8⟩ := q15
        refine go_s (pc' := 22) rfl rfl rfl rfl ?_
        refine go_sget (pc' := 23) (v := .int (nI n + 1)) hS8 rfl rfl (tc_l2 hl) (by decide) (by simp [sm_v, uI, uX]) rfl ?_
        refine go_s (pc' := 24) (st' := [.int 1, .int (nI n + 1)]) rfl rfl rfl rfl ?_
        refine go_icmpP (t' := 29) (pc' := 25) rfl rfl rfl (fun _ => ?_) (fun (c : ¬ (¬ (nI n + 1) = 1)) => absurd (by rw [nI_1]; exact fun z => absurd ((nI_eq (a := n + 1) (b := 1) (by omega) (by omega)).mp z) (by omega)) c)
        refine go_ret rfl rfl ?_
        refine ⟨rfl, _, owx ow x (2 + l), sb, appI_sm hS8, ?_, ?_, app_len (fun l hl => by rw [hG8.1]; exact hQ l hl)⟩
        · refine CD_app hD hl hxo hxw hxt hx0 hG8.1 hm hx8 (fun z => by rw [h201] at z; cases z) (fun y2 z => ?_) (by simp [uX]) (fun v z => by rw [h202] at z; cases z; simp [uX]) (fun z => absurd z hq0) (fun _ => ⟨by simp [uX], by simp [uX]⟩) (fun c j hj => by simp [uX, hj]) (fun c hc => by funext j; simp only [uX]; repeat rw [if_neg (by omega)])
          rw [h201] at z
          obtain rfl : y = y2 := by cases z; rfl
          refine ⟨by simp [uX], fun b h1 h2 h3 => hG8.2.2 b (hD.1.2.2 b h3).2.1 h1 h2, fun k n p t a b c d z => ?_⟩
          rw [hy] at z
          simp only [Option.some.injEq, Sum.inl.injEq, Prod.mk.injEq, List.cons.injEq, Value.int.injEq, true_and, and_true] at z
          obtain ⟨rfl, rfl, rfl, rfl, rfl, rfl, rfl, -⟩ := z
          exact hy8
        · have z1 := hG8.1
          have z2 := hG8.2.1
          show co _ (appI I Q l) ≤ B
          unfold co at hB ⊢
          rw [appI_o (by omega) (by omega) (by omega), z1, z2]
          exact hB
    · skip
      have c4 : (I 0 t) = 0 := Decidable.not_not.mp c4'
      refine go_ret rfl rfl ?_
      have hms : msnd f t m (I, Q, Z) = (I, Q, Z) := by
        unfold msnd
        rw [if_pos (by first | exact Or.inl c3 | exact Or.inr c4)]
      rw [hms]
      exact ⟨rfl, X, ow, sb, hS, hD, hB, fun l hl => by have := hQ l hl; show (Q l).length ≤ _; omega⟩
