/-! the store begins by a disc -/
def dsk (I : sm_I) (d : Nat) : Nat → Int32 := fun j => I 7 (245 * d + j)
def mrs2 (f : Nat → Int32) : ms := (uF (uF (mrs f).1 3 2) 4 0, (mrs f).2)
def chI (I : sm_I) : sm_I := if (us I 0 && us I 1) = true then uI (uI I 5 1 0) 6 1 0 else I
def mrS (d hm : Nat) (M : mM) : mM := (uI (uI (uI (uI (uI (uI (chI M.1) 23 0 1) 22 0 0) 22 1 0) 16 0 2) 11 0 (nI hm)) 40 0 0, M.2.1, uZ M.2.2 (hm % 2) (mrs2 (dsk M.1 d)))
def mrsN (k : Nat) (M : mM) : mM := if k = 0 then mrS (chs M.1).toNatClampNeg (fup M.1 0).toNatClampNeg M else mrT (k - 1) (fup M.1 2).toNatClampNeg M
def mrst (k : Nat) (M : mM) : mM := if ¬ M.1 11 k = -1 ∨ fup M.1 (if k = 0 then 0 else 2) = -1 ∨ (k = 0 ∧ chs M.1 = -1) then M else if M.1 0 (ohn (mrsN k M).1 k) = 0 then mrsN k M else msC k (mrsN k M)
theorem MF_sl {h : am_Hp} {ow : ow_T} {sb L : Nat} {w : Nat → Bool} {m : mg} {pr td : Int32} {vq va vs : Value} (o : OW w h ow) (k : MF h ow sb m pr td vq va vs) (hL : h.length ≤ L) : MF h ow L m pr td vq va vs := by
  obtain ⟨k1, k2, k3, k4⟩ := k
  refine ⟨k1, k2, k3, fun c => ?_⟩
  obtain ⟨a1, a2, a3, a4, a5⟩ := k4 c
  refine ⟨a1, a2, fun z => ?_, a4, a5⟩
  obtain ⟨b, b1, b2, b3⟩ := a3 z
  obtain ⟨ad, S, Y, e0, q1, q2, q3, q4, q5⟩ := id b3
  have hb : b < h.length := by
    have := OW_lt o (b := ad 0) (by rw [q2 0 (by omega)]; omega)
    rw [e0] at this
    exact this
  exact ⟨b, b1, fun e => by rw [e] at hb; exact absurd hb (Nat.not_lt.mpr hL), b3⟩
def own (ow : ow_T) (L n : Nat) : ow_T := fun c => if c = L ∨ (n + 3 ≤ c ∧ c ≤ n + 10) then 20 + L else if n ≤ c ∧ c ≤ n + 2 then 1 else ow c
/-- a new state, at L with its cells from n on, becomes the store's own -/
theorem CD_new {w : Nat → Bool} {L n k s hm : Nat} {m0 : mg} {h h2 : am_Hp} {I J : sm_I} {Q : mQ} {Z : mZ} {X X2 : sm_X} {ow : ow_T} {sb : Nat} {S : sm_I} {Y : sm_X} {z : ms} (c : CD w 32 m0 h I Q Z X ow sb) (f : fr tbc h h2 k s) (hln : 62 ≤ h.length) (hL : h.length ≤ L) (hn : L < n) (hn2 : n + 10 < h2.length) (hs : sm (tbs (adN L n)) h2 S Y) (hm2 : hm < 2)
    (ec : ∀ c, c ≠ 5 → c ≠ 6 → c ≠ 23 → c ≠ 22 → c ≠ 16 → c ≠ 11 → c ≠ 40 → c ≠ 21 → J c = I c) (e11 : J 11 0 = nI hm) (e11o : ∀ j, j ≠ 0 → J 11 j = I 11 j) (e40 : J 40 0 = 0) (e40o : ∀ j, j ≠ 0 → J 40 j = I 40 j) (e21 : J 21 = I 21) (hdt : DT J X2) (h208 : X2 208 0 = .ref L) (hx : ∀ c, c ≠ 205 → c ≠ 206 → c ≠ 208 → X2 c = X c) (hq : SQ h2 (own ow L n) S Y z) : CD w 32 m0 h2 J Q (uZ Z (hm % 2) z) X2 (own ow L n) L := by
  have o := c.1
  have ho : ∀ b, ow b ≠ 0 → own ow L n b = ow b := fun b hb => by
    have := OW_lt o hb
    unfold own
    rw [if_neg (by omega), if_neg (by omega)]
  have xe : ex 0 ow h (own ow L n) h2 := fun b hb _ => ⟨f.2.2.2 b (o.2.2 b hb).2.1 (OW_lt o hb), ho b hb⟩
  obtain ⟨k1, k2, k3, k4, ⟨s1, s2, s3, n9, s4, s5, s6⟩, k6, k7⟩ := c
  refine ⟨⟨o.1, fun a ha => ?_, fun a ha => ?_⟩, fun l hl => ?_, fun l hl => ?_, hdt, ⟨h208, fun _ => ?_, fun y => by rw [e40] at y; exact absurd y (by decide), n9, s4, by rw [e21]; exact s5, fun k hk => ?_⟩, fun u hu => ?_, fun j hj => ?_⟩
  · obtain ⟨q1, q2⟩ := o.2.1 a (Nat.le_trans f.1 ha)
    refine ⟨q1, ?_⟩
    unfold own
    rw [if_neg (by omega), if_neg (by omega)]
    exact q2
  · unfold own at ha
    split at ha
    · exact ⟨(o.2.1 a (by omega)).1, tbc_out a (by omega), by omega⟩
    · split at ha
      · exact ⟨(o.2.1 a (by omega)).1, tbc_out a (by omega), by omega⟩
      · exact o.2.2 a ha
  · have := k2 l hl
    rw [cq_32 hl] at this ⊢
    have t2 := LK_ex xe (by omega) (by omega) (Or.inl (by omega)) this
    obtain ⟨L9, l1, l2, l3, l4, l5⟩ := this
    refine LK_c (X := X) ?_ (by rw [hx _ (by omega) (by omega) (by omega)]) (by rw [hx _ (by omega) (by omega) (by omega)]) (by rw [hx _ (by omega) (by omega) (by omega)])
    refine ⟨L9, l1, l2, l3, l4, fun i x m a b => ?_⟩
    obtain ⟨o1, pr, td, vq, va, vs, c1, f1⟩ := l5 i x m a b
    have f2 := MF_ex xe (by omega) (Or.inl (by omega)) (MF_sl o f1 hL)
    obtain ⟨p1, p2⟩ := xe x (by omega) (by omega)
    exact ⟨p2.trans o1, pr, td, vq, va, vs, p1.trans c1, f2⟩
  · have := k3 l hl
    unfold BT fbu at this ⊢
    rw [ec 3 (by omega) (by omega) (by omega) (by omega) (by omega) (by omega) (by omega) (by omega), ec 24 (by omega) (by omega) (by omega) (by omega) (by omega) (by omega) (by omega) (by omega), ec 25 (by omega) (by omega) (by omega) (by omega) (by omega) (by omega) (by omega) (by omega), hx 203 (by omega) (by omega) (by omega), hx 204 (by omega) (by omega) (by omega)]
    exact this
  · have rt : rwi J 0 = hm % 2 := by
      unfold rwi pn
      rw [e11, nI_clamp (by omega)]
      omega
    rw [rt]
    simp only [uZ, if_true]
    refine ⟨adN L n, S, Y, rfl, adN_k hn, fun i hi => ?_, fun i h1 h2 => ?_, hs, hq⟩
    · unfold own adN
      by_cases e : i = 0
      · rw [if_pos e, if_pos (Or.inl rfl)]
      · rw [if_neg e, if_pos hi, if_pos (Or.inr (by omega))]
    · have e : adN L n i = n + (i - 9) := by
        unfold adN
        rw [if_neg (by omega), if_neg (by omega)]
      rw [e]
      unfold own
      rw [if_neg (by omega), if_pos (by omega)]
  · rw [hx 210 (by omega) (by omega) (by omega), ec 20 (by omega) (by omega) (by omega) (by omega) (by omega) (by omega) (by omega) (by omega)]
    exact Rq_ex xe (by omega) (s6 k hk)
  · obtain ⟨a1, a2, a3, a4⟩ := TM_ex xe (by omega) (k6 u hu)
    have hl : lv J (1 + u) = lv I (1 + u) ∧ rwi J (1 + u) = rwi I (1 + u) ∧ rwo J (1 + u) = rwo I (1 + u) := by
      unfold lv rwi rwo pn
      rw [e11o _ (by omega), ec 0 (by omega) (by omega) (by omega) (by omega) (by omega) (by omega) (by omega) (by omega)]
      exact ⟨rfl, rfl, rfl⟩
    obtain ⟨a, b, c⟩ := hl
    have bu := rw_lt I (1 + u)
    unfold TM
    rw [a, b, c, e40o _ (by omega), ec 18 (by omega) (by omega) (by omega) (by omega) (by omega) (by omega) (by omega) (by omega), ec 19 (by omega) (by omega) (by omega) (by omega) (by omega) (by omega) (by omega) (by omega), hx 211 (by omega) (by omega) (by omega), hx 212 (by omega) (by omega) (by omega), hx 213 (by omega) (by omega) (by omega), hx 214 (by omega) (by omega) (by omega), hx 215 (by omega) (by omega) (by omega)]
    refine ⟨?_, ?_, a3, a4⟩
    · simp only [uZ]; rw [if_neg (by omega)]; exact a1
    · simp only [uZ]; rw [if_neg (by omega)]; exact a2
  · have := k7 j hj
    unfold prk at this ⊢
    by_cases ej : j = 0
    · subst ej
      rw [e11, if_pos rfl, if_pos rfl]
      have : hm = 0 ∨ hm = 1 := by omega
      rcases this with rfl | rfl
      · exact Or.inr (Or.inl rfl)
      · exact Or.inr (Or.inr rfl)
    · rw [e11o j ej]
      exact this
