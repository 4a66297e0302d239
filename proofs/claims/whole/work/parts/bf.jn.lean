/-! the reference's ints: below 50 the meant ones, from 50 on its own -/
def jn (I K : sm_I) : sm_I := fun c j => if c < 50 then I c j else K c j
theorem jn_lo {I K : sm_I} {c j : Nat} {v : Int32} (h : c < 50) : uI (jn I K) c j v = jn (uI I c j v) K := by
  funext a b
  simp only [uI, jn]
  by_cases e : a = c ∧ b = j
  · rw [if_pos e, if_pos (by omega), if_pos e]
  · rw [if_neg e, if_neg e]
theorem jn_hi {I K : sm_I} {c j : Nat} {v : Int32} (h : 50 ≤ c) : uI (jn I K) c j v = jn I (uI K c j v) := by
  funext a b
  simp only [uI, jn]
  by_cases e : a = c ∧ b = j
  · rw [if_pos e, if_neg (by omega), if_pos e]
  · rw [if_neg e, if_neg e]
theorem jn_e {I K J : sm_I} (h : ∀ c j, c < 50 → J c j = I c j) : J = jn I J := by
  funext c j
  simp only [jn]
  by_cases e : c < 50
  · rw [if_pos e]; exact h c j e
  · rw [if_neg e]
theorem jn_at {I K : sm_I} {c j : Nat} (h : c < 50) : jn I K c j = I c j := by
  simp only [jn]
  rw [if_pos h]
theorem jn_ge {I K : sm_I} {c j : Nat} (h : 50 ≤ c) : jn I K c j = K c j := by
  simp only [jn]
  rw [if_neg (by omega)]
theorem jn_rfr {I K J : sm_I} {r : Nat} (h : rfr (jn I K) J r) : J = jn I J := by
  refine jn_e (K := K) (fun c j hc => ?_)
  rw [h c j (by omega), jn_at hc]
theorem RS_jn {I K : sm_I} {r : Nat} {s : ms} (h : RS K r s) : RS (jn I K) r s := h
theorem RS_nj {I K : sm_I} {r : Nat} {s : ms} (h : RS (jn I K) r s) : RS K r s := h
/-- three components stand in no cell -/
theorem tr_no {am lm as_ ls a : Nat} {hd : Nat ⊕ FieldType} {ds : List (Nat × Nat)} (hr : rk am as_) (h : tbr am lm as_ ls a = some (hd, ds)) : ∀ (i : Nat) (p : Nat × Nat), ds[i]? = some p → p.1 ≠ 24 ∧ p.1 ≠ 25 ∧ p.1 ≠ 40 := by
  intro i p hi
  by_cases hp : p.1 < 1000
  · have hs : sm_s (tbr am lm as_ ls) a i = some (hd, p) := by
      unfold sm_s
      rw [h]
      simp only []
      rw [hi]
    have hk := tr_key hs hp
    have h0 : (tbr am lm as_ ls) a ≠ none := by rw [h]; exact nofun
    refine ⟨fun e => ?_, fun e => ?_, fun e => ?_⟩ <;>
    · obtain ⟨p1, p2⟩ := p
      simp only [] at e
      subst e
      have hk0 : (0, p2) = (a, i) := hk
      have h00 : a = 0 := by
        have := congrArg Prod.fst hk0
        exact this.symm
      subst h00
      obtain ⟨r1, r2⟩ := rk_0 hr
      have hn : tbr am lm as_ ls 0 = none := by
        unfold tbr
        rw [if_neg (by omega), if_neg (by omega), if_neg (by omega)]
        rfl
      exact h0 hn
  · refine ⟨?_, ?_, ?_⟩ <;> omega
theorem sm_jg {am lm as_ ls : Nat} {h : am_Hp} {I I' K : sm_I} {Y : sm_X} (hr : rk am as_) (hS : sm (tbr am lm as_ ls) h (jn I K) Y) (e : ∀ c j, c < 50 → c ≠ 24 → c ≠ 25 → c ≠ 40 → I' c j = I c j) : sm (tbr am lm as_ ls) h (jn I' K) Y := by
  intro a hd ds hb
  rw [hS a hd ds hb]
  congr 2
  apply List.map_congr_left
  intro p hp
  obtain ⟨i, hi⟩ := List.getElem?_of_mem hp
  obtain ⟨n1, n2, n3⟩ := tr_no hr hb i p hi
  unfold sm_v jn
  by_cases c1 : p.1 < 50
  · rw [if_pos c1, if_pos c1, e p.1 p.2 c1 n1 n2 n3]
  · rw [if_neg c1, if_neg c1]
/-- ints that stand in no cell of the messages' end -/
theorem sm_jk {am lm as_ ls : Nat} {h : am_Hp} {I K K' : sm_I} {Y : sm_X} (hr : rk am as_) (hS : sm (tbr am lm as_ ls) h (jn I K) Y) (e : ∀ c j, (c = 50 → j < lm) → K' c j = K c j) : sm (tbr am lm as_ ls) h (jn I K') Y := by
  intro a hd ds hb
  rw [hS a hd ds hb]
  congr 2
  apply List.map_congr_left
  intro p hp
  obtain ⟨i, hi⟩ := List.getElem?_of_mem hp
  unfold sm_v jn
  by_cases c1 : p.1 < 50
  · rw [if_pos c1, if_pos c1]
  · rw [if_neg c1, if_neg c1]
    by_cases c2 : p.1 < 200
    · rw [if_pos c2, if_pos c2, e p.1 p.2 ?_]
      intro c3
      have hs : sm_s (tbr am lm as_ ls) a i = some (hd, p) := by
        unfold sm_s
        rw [hb]
        simp only []
        rw [hi]
      have hk := tr_key hs (by omega)
      obtain ⟨p1, p2⟩ := p
      simp only [] at c3
      subst c3
      have hk0 : (am, p2) = (a, i) := hk
      have ha : am = a := congrArg Prod.fst hk0
      have hp2 : p2 = i := congrArg Prod.snd hk0
      subst ha hp2
      rw [tr_m hr] at hb
      cases hb
      have := (List.getElem?_eq_some_iff.mp hi).1
      simpa using this
    · rw [if_neg c2, if_neg c2]
