/-! how the parts stay -/
theorem CD_ex {w : Nat → Bool} {e z : Nat} {m0 : mg} {h h2 : am_Hp} {I : sm_I} {Q : mQ} {Z : mZ} {X : sm_X} {ow ow2 : ow_T} {sb : Nat} (k : CD w e m0 h I Q Z X ow sb) (x : ex z ow h ow2 h2) (hz : z ≠ 1) (hz2 : z < 2 ∨ 18 ≤ z) (hz3 : z < 20) (o : OW w h2 ow2) : CD w e m0 h2 I Q Z X ow2 sb := by
  obtain ⟨-, k2, k3, k4, k5, k6, k7⟩ := k
  exact ⟨o, fun l hl => LK_ex x hz (by omega) (by omega) (k2 l hl), k3, k4, SP_ex x hz3 hz k5, fun t ht => TM_ex x hz (k6 t ht), k7⟩
theorem OW_lt {w : Nat → Bool} {h : am_Hp} {ow : ow_T} (o : OW w h ow) {b : Nat} (hb : ow b ≠ 0) : b < h.length := by
  by_cases c : b < h.length
  · exact c
  · exact absurd (o.2.1 b (by omega)).2 hb
theorem CD_fr {w : Nat → Bool} {e k s : Nat} {m0 : mg} {h h2 : am_Hp} {I : sm_I} {Q : mQ} {Z : mZ} {X : sm_X} {ow : ow_T} {sb : Nat} (c : CD w e m0 h I Q Z X ow sb) (f : fr tbc h h2 k s) : CD w e m0 h2 I Q Z X ow sb := by
  have o := c.1
  refine CD_ex (z := 0) c (fun b hb _ => ⟨f.2.2.2 b (o.2.2 b hb).2.1 (OW_lt o hb), rfl⟩) (by omega) (by omega) (by omega) ⟨o.1, fun a ha => o.2.1 a (Nat.le_trans f.1 ha), o.2.2⟩
theorem CD_e {w : Nat → Bool} {e : Nat} {m0 : mg} {h h2 : am_Hp} {I : sm_I} {Q : mQ} {Z : mZ} {X : sm_X} {ow : ow_T} {sb : Nat} (c : CD w e m0 h I Q Z X ow sb) (f : sm_e tbc h h2) : CD w e m0 h2 I Q Z X ow sb := CD_fr c (fr_e f)
def agr (I J : sm_I) : Prop := J 0 = I 0 ∧ J 3 = I 3 ∧ J 4 = I 4 ∧ J 6 = I 6 ∧ J 11 = I 11 ∧ J 12 = I 12 ∧ J 16 0 = I 16 0 ∧ J 18 = I 18 ∧ J 19 = I 19 ∧ J 20 = I 20 ∧ J 21 = I 21 ∧ J 22 = I 22 ∧ J 24 = I 24 ∧ J 25 = I 25 ∧ J 40 = I 40
theorem CD_I {w : Nat → Bool} {e : Nat} {m0 : mg} {h : am_Hp} {I J : sm_I} {Q : mQ} {Z : mZ} {X : sm_X} {ow : ow_T} {sb : Nat} (c : CD w e m0 h I Q Z X ow sb) (a : agr I J) : CD w e m0 h J Q Z X ow sb := by
  obtain ⟨a1, a2, a3, a4, a5, a6, a7, a8, a9, a10, a11, a12, a13, a14, a15⟩ := a
  obtain ⟨k1, k2, k3, k4, k5, k6, k7⟩ := c
  refine ⟨k1, k2, fun l hl => ?_, ?_, ?_, fun t ht => ?_, fun k hk => ?_⟩
  · have := k3 l hl
    unfold BT fbu at this ⊢
    rw [a2, a13, a14]
    exact this
  · unfold DT at k4 ⊢
    rw [a3, a4, a6, a7, a12]
    exact k4
  · unfold SP lv rwi rwo pn at k5 ⊢
    rw [a1, a5, a10, a11, a15]
    exact k5
  · have := k6 t ht
    unfold TM lv rwi rwo pn at this ⊢
    rw [a1, a5, a8, a9, a15]
    exact this
  · have := k7 k hk
    unfold prk at this ⊢
    rw [a5]
    exact this
theorem co_fr {h h2 : am_Hp} {I J : sm_I} {k s : Nat} (f : fr tbc h h2 k s) (e : J 21 0 = I 21 0) : co h2 J ≤ co h I + 12 * k + s := by
  have h1 := f.2.1
  have h2 := f.2.2.1
  unfold co
  rw [e]
  omega
theorem CA_le {w : Nat → Bool} {e B B2 : Nat} {m0 : mg} {h : am_Hp} {M : mM} (c : CA w e m0 B h M) (hb : B ≤ B2) : CA w e m0 B2 h M := by
  obtain ⟨X, ow, sb, a, b, c, d⟩ := c
  exact ⟨X, ow, sb, a, b, Nat.le_trans c hb, d⟩
/-! what the class's fixed cells do not show -/
def tbc_h (c : Nat) : Bool := c == 6 || c == 12 || c == 18 || c == 19 || c == 20 || c == 22 || c == 24 || c == 25 || c == 40
theorem tbc_hd : tbc_l.all (fun x => match x with
  | some y => y.2.all (fun d => !(tbc_h d.1))
  | none => true) = true := by decide +kernel
theorem sm_hid {h : am_Hp} {I J : sm_I} {X : sm_X} (s : sm tbc h I X) (e : ∀ c j, tbc_h c = false → J c j = I c j) : sm tbc h J X := by
  intro a hd ds hb
  rw [s a hd ds hb]
  congr 2
  apply List.map_congr_left
  intro d hdm
  have h1 : some (hd, ds) ∈ tbc_l := by
    unfold tbc at hb
    split at hb
    · rename_i x hx
      rw [hb] at hx
      exact List.mem_of_getElem? hx
    · cases hb
  have h2 := List.all_eq_true.mp tbc_hd _ h1
  have h3 := List.all_eq_true.mp h2 d hdm
  have h4 : tbc_h d.1 = false := by simpa using h3
  simp only [sm_v, e d.1 d.2 h4]
/-! a message comes to a link -/
def uQ (Q : mQ) (l : Nat) (q : List mg) : mQ := fun k => if k = l then q else Q k
def uZ (Z : mZ) (i : Nat) (s : ms) : mZ := fun k => if k = i then s else Z k
def mgn (m : mg) (n : Int32) : mg := (uF m.1 1 n, m.2)
def appI (I : sm_I) (Q : mQ) (l : Nat) : sm_I := if Q l = [] then uI (uI (uI I 9 l (I 9 l + 1)) 24 l (fbu I)) 25 l (fbu I) else uI I 9 l (I 9 l + 1)
def mapp (l : Nat) (m : mg) (M : mM) : mM := (appI M.1 M.2.1 l, uQ M.2.1 l (M.2.1 l ++ [mgn m (M.1 9 l + 1)]), M.2.2)
def msnd (f t : Nat) (m : mg) (M : mM) : mM := if M.1 0 f = 0 ∨ M.1 0 t = 0 then M else mapp (4 * f + t) m M
theorem nxv_app {L : List Nat} {x j : Nat} (hj : j < L.length) : nxv (L ++ [x]) j = nxv L j := by
  unfold nxv
  rw [List.getElem?_append_left hj]
theorem nxv_last (L : List Nat) (x : Nat) : nxv (L ++ [x]) L.length = .ref x := by
  unfold nxv
  simp
theorem nxv_out {L : List Nat} {j : Nat} (hj : L.length ≤ j) : nxv L j = .null := by
  unfold nxv
  rw [List.getElem?_eq_none hj]
theorem MF_n {h : am_Hp} {ow : ow_T} {sb : Nat} {m : mg} {pr td n : Int32} {vq va vs : Value} (k : MF h ow sb m pr td vq va vs) : MF h ow sb (mgn m n) pr td vq va vs := k
def owx (ow : ow_T) (x z : Nat) : ow_T := fun b => if b = x then z else ow b
theorem LK_app {h h2 : am_Hp} {ow : ow_T} {sb l x : Nat} {X X2 : sm_X} {q : List mg} {m : mg} {pr td n : Int32} {vq va vs : Value} (hl : l < 16) (k : LK h ow sb l X q) (hx : ow x = 0) (hm : MF h ow sb m pr td vq va vs)
    (hc : h2[x]? = some (.inl (9, [.int (m.1 0), .int n, .int pr, .int td, vq, va, vs, .null])))
    (h0 : X 201 l = .null → X2 200 l = .ref x ∧ ∀ b, b ≠ x → ow b ≠ 0 → h2[b]? = h[b]?)
    (h1 : ∀ y, X 201 l = .ref y → X2 200 l = X 200 l ∧ (∀ b, b ≠ x → b ≠ y → ow b ≠ 0 → h2[b]? = h[b]?) ∧ ∀ k n p t a b c d, h[y]? = some (.inl (9, [.int k, .int n, .int p, .int t, a, b, c, d])) → h2[y]? = some (.inl (9, [.int k, .int n, .int p, .int t, a, b, c, .ref x])))
    (h3 : X2 201 l = .ref x) (h4 : ∀ v, X 202 l = .int v → X2 202 l = .int (v + 1)) : LK h2 (owx ow x (2 + l)) sb l X2 (q ++ [mgn m n]) := by
  obtain ⟨L, k1, k2, k3, k4, k5⟩ := k
  have hxe : ex (2 + l) ow h (owx ow x (2 + l)) h2 := by
    intro b hb hz
    have hbx : b ≠ x := fun e => hb (e ▸ hx)
    refine ⟨?_, by simp [owx, hbx]⟩
    by_cases e : L = []
    · rw [if_pos e] at k3
      exact (h0 k3).2 b hbx hb
    · rw [if_neg e] at k3
      obtain ⟨y, hy⟩ : ∃ y, L[L.length - 1]? = some y := ⟨_, List.getElem?_eq_getElem (by have := List.length_pos_iff.mpr e; omega)⟩
      have k3' : X 201 l = .ref y := by rw [k3]; unfold nxv; rw [hy]
      obtain ⟨m9, hm9⟩ : ∃ m9, q[L.length - 1]? = some m9 := ⟨_, List.getElem?_eq_getElem (by have := List.length_pos_iff.mpr e; omega)⟩
      have := (k5 _ y m9 hy hm9).1
      exact (h1 y k3').2.1 b hbx (fun e => by rw [e] at hz; exact hz this) hb
  have hmx := MF_n (n := n) (MF_ex hxe (by omega) (by omega) hm)
  have hnew : MC h2 (owx ow x (2 + l)) sb l x (mgn m n) .null := ⟨by simp [owx], pr, td, vq, va, vs, hc, hmx⟩
  refine ⟨L ++ [x], by simp [k1], ?_, ?_, ?_, ?_⟩
  · by_cases e : L = []
    · subst e
      rw [(h0 k3).1]
      rfl
    · have hp := List.length_pos_iff.mpr e
      rw [if_neg e] at k3
      obtain ⟨y, hy⟩ : ∃ y, L[L.length - 1]? = some y := ⟨_, List.getElem?_eq_getElem (by omega)⟩
      have k3' : X 201 l = .ref y := by rw [k3]; unfold nxv; rw [hy]
      rw [(h1 y k3').1, k2, nxv_app hp]
  · rw [h3, if_neg (by simp)]
    simp [nxv]
  · rw [h4 _ k4]
    simp [nI_1, nI_add]
  · intro i a m1 hi hq
    by_cases c : i < L.length
    · rw [List.getElem?_append_left c] at hi
      rw [List.getElem?_append_left (by omega)] at hq
      have e : L ≠ [] := fun e => by simp [e] at c
      rw [if_neg e] at k3
      obtain ⟨y, hy⟩ : ∃ y, L[L.length - 1]? = some y := ⟨_, List.getElem?_eq_getElem (by omega)⟩
      have k3' : X 201 l = .ref y := by rw [k3]; unfold nxv; rw [hy]
      obtain ⟨o1, pr1, td1, vq1, va1, vs1, c1, f1⟩ := k5 i a m1 hi hq
      have hax : a ≠ x := fun e => by rw [e, hx] at o1; omega
      have f2 := MF_ex hxe (by omega) (by omega) f1
      by_cases c2 : i = L.length - 1
      · subst c2
        rw [hi] at hy
        obtain rfl : a = y := Option.some.inj hy
        refine ⟨by simp [owx, hax, o1], pr1, td1, vq1, va1, vs1, ?_, f2⟩
        rw [show L.length - 1 + 1 = L.length by omega, nxv_last]
        exact (h1 a k3').2.2 _ _ _ _ _ _ _ _ c1
      · refine ⟨by simp [owx, hax, o1], pr1, td1, vq1, va1, vs1, ?_, f2⟩
        rw [nxv_app (by omega), ← c1]
        refine (h1 y k3').2.1 a hax ?_ (by omega)
        intro e
        subst e
        obtain ⟨m9, hm9⟩ : ∃ m9, q[L.length - 1]? = some m9 := ⟨_, List.getElem?_eq_getElem (by omega)⟩
        obtain ⟨-, pr2, td2, vq2, va2, vs2, c3, -⟩ := k5 _ a m9 hy hm9
        rw [c1] at c3
        rw [show L.length - 1 + 1 = L.length by omega, nxv_out (Nat.le_refl _)] at c3
        simp only [Option.some.injEq, Sum.inl.injEq, Prod.mk.injEq, List.cons.injEq] at c3
        have c4 := c3.2.2.2.2.2.2.2.2.1
        unfold nxv at c4
        rw [List.getElem?_eq_getElem (by omega : i + 1 < L.length)] at c4
        cases c4
    · have hi2 : i = L.length := by
        have := (List.getElem?_eq_some_iff.mp hi).1
        simp at this
        omega
      subst hi2
      have e1 : a = x := by simpa using hi.symm
      have e2 : m1 = mgn m n := by
        rw [k1] at hq
        simpa using hq.symm
      subst e1 e2
      rw [nxv_out (by simp)]
      exact hnew
