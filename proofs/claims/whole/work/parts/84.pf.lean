/-! the store's state is worked on -/
theorem St_open {w : Nat → Bool} {h : am_Hp} {ow : ow_T} {sb : Nat} {s : ms} (o : OW w h ow) (k : St h ow sb s) : ∃ ad S Y, ad 0 = sb ∧ adk ad ∧ (∀ i, i < 9 → ow (ad i) = 20 + sb) ∧ (∀ i, 9 ≤ i → i < 12 → ow (ad i) = 1) ∧ sm (tbs ad) h S Y ∧ SQ h ow S Y s ∧ (∀ i, i < 12 → ow (ad i) ≠ 0) ∧ (∀ i, i < 12 → ad i ≠ 0) ∧ (∀ i, i < 12 → w (ad i) = true) ∧ (∀ i, i < 12 → tbc (ad i) = none) := by
  obtain ⟨ad, S, Y, k0, k1, k2, k3, k4, k5⟩ := k
  have hoa : ∀ i, i < 12 → ow (ad i) ≠ 0 := fun i hi => by
    by_cases c : i < 9
    · have := k2 i c; omega
    · have := k3 i (by omega) hi; omega
  exact ⟨ad, S, Y, k0, k1, k2, k3, k4, k5, hoa, fun i hi => (o.2.2 _ (hoa i hi)).2.2, fun i hi => (o.2.2 _ (hoa i hi)).1, fun i hi => (o.2.2 _ (hoa i hi)).2.1⟩
/-- the busy flag and the request change -/
theorem CD_end {w : Nat → Bool} {e : Nat} {m0 : mg} {h h2 : am_Hp} {I : sm_I} {Q : mQ} {Z : mZ} {X : sm_X} {ow : ow_T} {sb : Nat} {ad : Nat → Nat} {S : sm_I} {Y : sm_X} {s : ms} (c : CD w e m0 h I Q Z X ow sb) (k0 : ad 0 = sb) (hA : adk ad) (k2 : ∀ i, i < 9 → ow (ad i) = 20 + sb) (k3 : ∀ i, 9 ≤ i → i < 12 → ow (ad i) = 1) (k4 : sm (tbs ad) h S Y) (k5 : SQ h ow S Y s) (hp : pq sb h h2) (h0 : h2[sb]? = some (.inl (5, [.int (S 0 0), .ref (ad 1), .ref (ad 2), .ref (ad 3), .ref (ad 4), .ref (ad 5), .ref (ad 6), .ref (ad 7), .int (S 0 1), .int (S 0 2), .ref (ad 8), .int 0, .null, .ref (ad 9)]))) : CD w e m0 h2 I Q (uZ Z (rwi I 0) (mfs s)) X ow sb := by
  have o := c.1
  have hx : ex (20 + sb) ow h ow h2 := fun b hb hz => ⟨hp.2.2 b (fun e => hz (by rw [e, ← k0, k2 0 (by omega), k0])), rfl⟩
  refine CD_st c hx ⟨o.1, fun a ha => o.2.1 a (by rw [← hp.1]; exact ha), o.2.2⟩ ?_
  subst k0
  refine ⟨ad, _, _, rfl, hA, k2, k3, sm_sb hA k4 hp h0, ?_⟩
  obtain ⟨⟨Wl, q1, q2⟩, q3, q4, q5⟩ := k5
  refine ⟨⟨Wl, ?_, fun z => absurd rfl z⟩, by simp [uI, mfs, uF], fun z => absurd z (by simp [mfs, uF]), fun _ => by simp [uX]⟩
  have := sc_34 (S2 := uI S 0 3 0) (F := uF s.1 3 0) q1 (fun j h1 h2 => by simp [uF, h1]) (fun c j hc => by simp only [uI]; rw [if_neg hc])
  exact this
def ow3 (ow : ow_T) (a b c : Nat) : ow_T := fun x => if x = a ∨ x = b ∨ x = c then 1 else ow x
/-- a request is performed -/
theorem CD_perf {w : Nat → Bool} {e t : Nat} {m0 : mg} {h h2 : am_Hp} {I : sm_I} {Q : mQ} {Z : mZ} {X : sm_X} {ow : ow_T} {sb aq : Nat} {ad ad2 : Nat → Nat} {S2 : sm_I} {Y : sm_X} {m : ms} {q : Nat → Int32} (c : CD w e m0 h I Q Z X ow sb) (hln : 62 ≤ h.length) (k0 : ad 0 = sb) (k2 : ∀ i, i < 9 → ow (ad i) = 20 + sb) (hq : Rq h ow (.ref aq) q) (ht : t < 2) (q0 : q 0 = nI t) (hA2 : adk ad2) (h9 : ∀ i, i < 9 → ad2 i = ad i) (hn : ∀ i, 9 ≤ i → i < 12 → h.length ≤ ad2 i) (hS2 : sm (tbs ad2) h2 S2 (uX Y 200 0 (.ref aq))) (hm : sc S2 m) (hb : S2 0 3 = 1) (f : fr (tb9 ad) h h2 3 213) (e6 : m.1 (6 + t) = q 1) (e8 : m.1 (8 + t) = q 2) : ∃ ow2, CD w e m0 h2 I Q (uZ Z (rwi I 0) (uF (uF m.1 3 1) 4 (nI t), m.2)) X ow2 sb := by
  have o := c.1
  refine ⟨ow3 ow (ad2 9) (ad2 10) (ad2 11), ?_⟩
  have n9 := hn 9 (by omega) (by omega)
  have n10 := hn 10 (by omega) (by omega)
  have n11 := hn 11 (by omega) (by omega)
  have hx : ex (20 + sb) ow h (ow3 ow (ad2 9) (ad2 10) (ad2 11)) h2 := by
    intro b hb hz
    have hl := OW_lt o hb
    refine ⟨f.2.2.2 b (tb9_none.mpr (fun i hi e => hz (by rw [← e]; exact k2 i hi))) hl, ?_⟩
    unfold ow3
    rw [if_neg (by omega)]
  refine CD_st c hx ⟨o.1, fun a ha => ?_, fun a ha => ?_⟩ ?_
  · obtain ⟨q1, q2⟩ := o.2.1 a (Nat.le_trans f.1 ha)
    refine ⟨q1, ?_⟩
    have l9 := tbs_lt hA2 hS2 (i := 9) (by omega)
    have l10 := tbs_lt hA2 hS2 (i := 10) (by omega)
    have l11 := tbs_lt hA2 hS2 (i := 11) (by omega)
    unfold ow3
    rw [if_neg (by omega)]
    exact q2
  · unfold ow3 at ha
    split at ha
    · have : h.length ≤ a := by omega
      exact ⟨(o.2.1 a this).1, tbc_out a (by omega), by omega⟩
    · exact o.2.2 a ha
  · refine ⟨ad2, S2, uX Y 200 0 (.ref aq), by rw [h9 0 (by omega), k0], hA2, fun i hi => ?_, fun i h1 h2 => ?_, hS2, ?_⟩
    · have := k2 i hi
      have hl := OW_lt o (b := ad i) (by omega)
      rw [h9 i hi]
      unfold ow3
      rw [if_neg (by omega)]
      exact this
    · unfold ow3
      have : i = 9 ∨ i = 10 ∨ i = 11 := by omega
      rcases this with rfl | rfl | rfl <;> simp
    · refine ⟨⟨m.2.2, ?_, fun _ => rfl⟩, ?_, fun _ => ⟨q, t, ?_, ht, ?_, q0, ?_, ?_⟩, fun z => absurd (by simp [uF]) z⟩
      · have := sc_34 (S2 := S2) (F := uF (uF m.1 3 1) 4 (nI t)) hm (fun j h1 h2 => by simp [uF, h1, h2]) (fun c j _ => rfl)
        exact this
      · rw [hb, if_neg (by simp [uF])]
      · exact Rq_ex hx (by omega) hq
      · simp [uF]
      · simp only [uF]
        rw [if_neg (by omega), if_neg (by omega), e6]
      · simp only [uF]
        rw [if_neg (by omega), if_neg (by omega), e8]
