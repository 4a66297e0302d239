/-! the state's cells and what is meant, step by step -/
theorem cE_8 {S : sm_I} {ne nw q : Nat} {kd t rc bf : Int32} : cE S ne nw kd t rc bf 8 q = if q = ne * 5 + 4 then bf else if q = ne * 5 + 3 then rc else if q = ne * 5 + 2 then t else if q = ne * 5 + 1 then kd else if q = ne * 5 then S 0 1 else S 8 q := by
  simp [cE, uI, uC]
theorem cE_9 {S : sm_I} {ne nw q : Nat} {kd t rc bf : Int32} : cE S ne nw kd t rc bf 9 q = if q = nw then nI (17 + ne) else S 9 q := by
  simp [cE, uI, uC]
theorem cE_10 {S : sm_I} {ne nw q : Nat} {kd t rc bf : Int32} : cE S ne nw kd t rc bf 10 q = if nw * 5 ≤ q ∧ q < nw * 5 + 5 then (if q - nw * 5 = 4 then bf else if q - nw * 5 = 3 then rc else if q - nw * 5 = 2 then t else if q - nw * 5 = 1 then kd else if q - nw * 5 = 0 then S 0 1 else S 8 (ne * 5 + (q - nw * 5))) else S 10 q := by
  simp [cE, uI, uC]
theorem ap_el {α : Type} {L : List α} {x e : α} {i : Nat} (h : (L ++ [x])[i]? = some e) : (i < L.length ∧ L[i]? = some e) ∨ (i = L.length ∧ e = x) := by
  by_cases hi : i < L.length
  · rw [List.getElem?_append_left hi] at h
    exact Or.inl ⟨hi, h⟩
  · rw [List.getElem?_append_right (by omega)] at h
    by_cases h0 : i - L.length = 0
    · rw [h0] at h
      simp at h
      exact Or.inr ⟨by omega, h.symm⟩
    · rw [List.getElem?_eq_none (by simp; omega)] at h
      cases h
theorem sc_E {S : sm_I} {m : ms} (h : sc S m) {kd t rc bf : Int32} : sc (cE S m.2.1.length m.2.2.length kd t rc bf) (mE m kd t rc bf) := by
  obtain ⟨h1, h2, h3, h4, h5, h6, h7, h8, h9⟩ := h
  refine ⟨h1, h2, ?_, ?_, h5, h6, ?_, ?_, ?_⟩
  · simp [mE, cE, uI]
  · simp [mE, cE, uI, uC]
  · intro i e hi j hj
    rw [cE_8]
    rcases ap_el hi with ⟨hl, hi⟩ | ⟨rfl, rfl⟩
    · rw [if_neg (by omega), if_neg (by omega), if_neg (by omega), if_neg (by omega), if_neg (by omega)]
      exact h7 i e hi j hj
    · match j, hj with
      | 0, _ => rw [if_neg (by omega), if_neg (by omega), if_neg (by omega), if_pos (by omega)]; rfl
      | 1, _ => rw [if_neg (by omega), if_neg (by omega), if_pos (by omega)]; rfl
      | 2, _ => rw [if_neg (by omega), if_pos (by omega)]; rfl
      | 3, _ => rw [if_pos (by omega)]; rfl
  · intro i x hi
    rcases ap_el hi with ⟨hl, hi⟩ | ⟨rfl, rfl⟩
    · refine ⟨?_, fun j hj => ?_⟩
      · rw [cE_9, if_neg (by omega)]
        exact (h8 i x hi).1
      · rw [cE_10, if_neg (by omega)]
        exact (h8 i x hi).2 j hj
    · refine ⟨by rw [cE_9, if_pos rfl], fun j hj => ?_⟩
      rw [cE_10, if_pos (by omega)]
      have e : 5 * m.2.2.length + j - m.2.2.length * 5 = j := by omega
      rw [e]
      match j, hj with
      | 0, _ => exact h2
      | 1, _ => rfl
      | 2, _ => rfl
      | 3, _ => rfl
      | 4, _ => rfl
  · intro q hq hq2
    simp only [mE, List.length_append, List.length_cons, List.length_nil] at hq
    rw [cE_10, if_neg (by omega)]
    exact h9 q (by omega) hq2
theorem uF_ne {F : Nat → Int32} {j k : Nat} {x : Int32} (h : ¬ k = j) : uF F j x k = F k := if_neg h
theorem uF_eq {F : Nat → Int32} {j : Nat} {x : Int32} : uF F j x j = x := if_pos rfl
/-- what setRecord makes of a state -/
def cR (S : sm_I) (nw q : Nat) (v : Int32) : sm_I := uI (uI (uI (uI S 5 q v) 9 nw (nI q)) 0 4 (nI (nw + 1))) 10 (nw * 5) v
theorem sc_R {S : sm_I} {m : ms} (h : sc S m) {q : Nat} (hq : q < 16) (hw : m.2.2.length < 35) {v : Int32} : sc (cR S m.2.2.length q v) (mR m q v) := by
  obtain ⟨h1, h2, h3, h4, h5, h6, h7, h8, h9⟩ := h
  refine ⟨h1.trans (uF_ne (by omega)).symm, h2.trans (uF_ne (by omega)).symm, h3, ?_, ?_, ?_, h7, ?_, ?_⟩
  · simp [mR, cR, uI]
  · intro t ht
    have := h5 t ht
    simp only [mR, uF]
    rw [if_neg (by omega), if_neg (by omega), if_neg (by omega), if_neg (by omega), if_neg (by omega)]
    exact this
  · intro k hk
    have := h6 k hk
    simp only [mR, uF]
    refine ⟨?_, by rw [if_neg (by omega)]; exact this.2⟩
    simp only [cR, uI]
    by_cases e : k = q
    · simp [e]
    · rw [if_neg (by omega), if_neg (by omega), if_neg (by omega), if_neg (by omega), if_neg (by omega)]
      exact this.1
  · intro i x hi
    have c9 : cR S m.2.2.length q v 9 i = if i = m.2.2.length then nI q else S 9 i := by simp [cR, uI]
    have c10 : ∀ z, cR S m.2.2.length q v 10 z = if z = m.2.2.length * 5 then v else S 10 z := by intro z; simp [cR, uI]
    rcases ap_el hi with ⟨hl, hi⟩ | ⟨rfl, rfl⟩
    · refine ⟨?_, fun j hj => ?_⟩
      · rw [c9, if_neg (by omega)]
        exact (h8 i x hi).1
      · rw [c10, if_neg (by omega)]
        exact (h8 i x hi).2 j hj
    · refine ⟨by rw [c9, if_pos rfl], fun j hj => ?_⟩
      rw [c10]
      match j, hj with
      | 0, _ => rw [if_pos (by omega)]; rfl
      | 1, _ => rw [if_neg (by omega)]; exact h9 _ (by omega) (by omega)
      | 2, _ => rw [if_neg (by omega)]; exact h9 _ (by omega) (by omega)
      | 3, _ => rw [if_neg (by omega)]; exact h9 _ (by omega) (by omega)
      | 4, _ => rw [if_neg (by omega)]; exact h9 _ (by omega) (by omega)
  · intro z hz hz2
    simp only [mR, List.length_append, List.length_cons, List.length_nil] at hz
    have c10 : cR S m.2.2.length q v 10 z = if z = m.2.2.length * 5 then v else S 10 z := by simp [cR, uI]
    rw [c10, if_neg (by omega)]
    exact h9 z (by omega) hz2
theorem sc_G {S : sm_I} {m : ms} (h : sc S m) (hw : m.2.2.length < 35) : sc (cG S m.2.2.length) (mG m) := by
  obtain ⟨h1, h2, h3, h4, h5, h6, h7, h8, h9⟩ := h
  refine ⟨h1.trans (show m.1 0 = uF m.1 1 (m.1 1 + 1) 0 from (uF_ne (by decide)).symm), ?_, ?_, ?_, ?_, ?_, ?_, ?_, ?_⟩
  · simp [mG, cG, uI, uF, h2]
  · rfl
  · simp [mG, cG, uI]
  · intro t ht
    have := h5 t ht
    simp only [mG, uF]
    rw [if_neg (by omega), if_neg (by omega), if_neg (by omega), if_neg (by omega), if_neg (by omega)]
    exact this
  · intro k hk
    have := h6 k hk
    simp only [mG, uF]
    rw [if_neg (by omega), if_neg (by omega)]
    exact this
  · intro i e hi
    simp [mG] at hi
  · intro i x hi
    have c9 : cG S m.2.2.length 9 i = if i = m.2.2.length then 16 else S 9 i := by simp [cG, uI]
    have c10 : ∀ z, cG S m.2.2.length 10 z = if z = m.2.2.length * 5 + 1 then S 0 0 else if z = m.2.2.length * 5 then S 0 1 + 1 else S 10 z := by intro z; simp [cG, uI]
    rcases ap_el hi with ⟨hl, hi⟩ | ⟨rfl, rfl⟩
    · refine ⟨?_, fun j hj => ?_⟩
      · rw [c9, if_neg (by omega)]
        exact (h8 i x hi).1
      · rw [c10, if_neg (by omega), if_neg (by omega)]
        exact (h8 i x hi).2 j hj
    · refine ⟨by rw [c9, if_pos rfl], fun j hj => ?_⟩
      rw [c10]
      match j, hj with
      | 0, _ => rw [if_neg (by omega), if_pos (by omega), h2]; rfl
      | 1, _ => rw [if_pos (by omega), h1]; rfl
      | 2, _ => rw [if_neg (by omega), if_neg (by omega)]; exact h9 _ (by omega) (by omega)
      | 3, _ => rw [if_neg (by omega), if_neg (by omega)]; exact h9 _ (by omega) (by omega)
      | 4, _ => rw [if_neg (by omega), if_neg (by omega)]; exact h9 _ (by omega) (by omega)
  · intro z hz hz2
    simp only [mG, List.length_append, List.length_cons, List.length_nil] at hz
    have c10 : cG S m.2.2.length 10 z = if z = m.2.2.length * 5 + 1 then S 0 0 else if z = m.2.2.length * 5 then S 0 1 + 1 else S 10 z := by simp [cG, uI]
    rw [c10, if_neg (by omega), if_neg (by omega)]
    exact h9 z (by omega) hz2
theorem sc_el {S : sm_I} {m : ms} (h : sc S m) {i : Nat} {e : ms_E} (hi : m.2.1[i]? = some e) : S 8 (i * 5 + 1) = e.1 ∧ S 8 (i * 5 + 2) = e.2.1 ∧ S 8 (i * 5 + 3) = e.2.2.1 ∧ S 8 (i * 5 + 4) = e.2.2.2 := by
  have h7 := h.2.2.2.2.2.2.1 i e hi
  refine ⟨?_, ?_, ?_, ?_⟩
  · rw [show i * 5 + 1 = 5 * i + 1 + 0 by omega]; exact h7 0 (by omega)
  · rw [show i * 5 + 2 = 5 * i + 1 + 1 by omega]; exact h7 1 (by omega)
  · rw [show i * 5 + 3 = 5 * i + 1 + 2 by omega]; exact h7 2 (by omega)
  · rw [show i * 5 + 4 = 5 * i + 1 + 3 by omega]; exact h7 3 (by omega)
theorem go_ndec {T : am_T} {d : Nat} {code : List Instr} {rt : Option FieldType} {pc : Nat} {lo : am_Lo} {st : List Value} {h : am_Hp} {Q : Option Value → am_Hp → Prop} {x : Int32} {pc' k : Nat} {lo' : am_Lo} (hi : code[pc]? = some (.iinc k (-1))) (hl : lo[k]? = some (some (.int x))) (hlo : lo.set k (some (.int (x - 1))) = lo') (hp : pc + 1 = pc') (kk : am_Go T d code rt pc' lo' st h Q) : am_Go T d code rt pc lo st h Q := by
  subst hp hlo
  rw [Int32.sub_eq_add_neg] at kk
  exact go_x (ch := none) hi rfl rfl (by simp only [am_x, hl]; rfl) kk
theorem l_some {α : Type} {L : List α} {n : Nat} (h : n < L.length) : ∃ e, L[n]? = some e := ⟨L[n], List.getElem?_eq_getElem h⟩
