/-! the relation between calls -/
def wcl (am a : Nat) : Bool := !(decide (a = 0) || decide (62 ≤ a ∧ a ≤ 88) || decide (a = am))
def wrf (am L a : Nat) : Bool := decide (62 ≤ a ∧ a ≤ 88) || decide (a = am) || decide (L ≤ a)
theorem wcl_t {am a : Nat} : wcl am a = true ↔ a ≠ 0 ∧ ¬ (62 ≤ a ∧ a ≤ 88) ∧ a ≠ am := by
  constructor
  · intro h
    refine ⟨fun e => ?_, fun e => ?_, fun e => ?_⟩
    · unfold wcl at h
      rw [decide_eq_true e] at h
      exact absurd h (by simp)
    · unfold wcl at h
      rw [decide_eq_true e] at h
      exact absurd h (by simp)
    · unfold wcl at h
      rw [decide_eq_true e] at h
      exact absurd h (by simp)
  · intro h
    unfold wcl
    rw [decide_eq_false h.1, decide_eq_false h.2.1, decide_eq_false h.2.2]
    rfl
theorem wcl_0 {am a : Nat} (h : a = 0 ∨ (62 ≤ a ∧ a ≤ 88) ∨ a = am) : wcl am a = false := by
  cases e : wcl am a with
  | false => rfl
  | true =>
    have z := wcl_t.mp e
    rcases h with h | h | h
    · exact absurd h z.1
    · exact absurd h z.2.1
    · exact absurd h z.2.2
theorem wrf_t {am L a : Nat} : wrf am L a = true ↔ (62 ≤ a ∧ a ≤ 88) ∨ a = am ∨ L ≤ a := by
  unfold wrf
  rw [Bool.or_eq_true, Bool.or_eq_true, decide_eq_true_eq, decide_eq_true_eq, decide_eq_true_eq, or_assoc]
theorem wrf_0 {am L a : Nat} (h : ¬ ((62 ≤ a ∧ a ≤ 88) ∨ a = am ∨ L ≤ a)) : wrf am L a = false := by
  cases e : wrf am L a with
  | false => rfl
  | true => exact absurd (wrf_t.mp e) h
theorem tbr_in {am lm a : Nat} (h : tbr am lm 77 5088 a ≠ none) : (62 ≤ a ∧ a ≤ 88) ∨ a = am := by
  by_cases c1 : a = 62
  · exact Or.inl (by omega)
  · by_cases c2 : a = am
    · exact Or.inr c2
    · by_cases c3 : a = 77
      · exact Or.inl (by omega)
      · unfold tbr at h
        rw [if_neg c1, if_neg c2, if_neg c3] at h
        cases e : tbrA a with
        | none =>
          rw [e] at h
          exact absurd rfl h
        | some x =>
          have z := tbrA_r e
          exact Or.inl (by omega)
/-- the reference's cells are left alone -/
theorem RA_fr {w w1 : Nat → Bool} {B B1 R : Nat} {h h1 : am_Hp} {M : mM} (k : RA w B R [] true h M) (hlen : h.length ≤ h1.length) (hw : ∀ a, 62 ≤ a → a ≤ 88 → w1 a = true) (hw2 : ∀ a, h1.length ≤ a → w1 a = true) (hw3 : ∀ a, w a = true → a < h.length → w1 a = true) (hfr : ∀ a, w a = true → a < h.length → 62 ≤ a → h1[a]? = h[a]?) (hB : 12 * h1.length + am_sl h1 + B ≤ 12 * h.length + am_sl h + B1) : RA w1 B1 R [] true h1 M := by
  obtain ⟨K, Y, am, ln, hS, ⟨b1, b2, b3, b4, b5, b6, b7, b8⟩, u2, u3⟩ := RA_u.mp k
  obtain ⟨r1, r2, r3⟩ := id b5
  refine RA_u.mpr ⟨K, Y, am, ln, sm_dyn hS (fun a ha => ?_), ⟨hw, hw3 am b2 b7, hw2, by omega, b5, b6, by omega, by omega⟩, u2, u3⟩
  rcases tbr_in ha with hc | hc
  · exact hfr a (b1 a hc.1 hc.2) (by omega) hc.1
  · rw [hc]
    exact hfr am b2 b7 (by omega)
theorem RA_am {w : Nat → Bool} {B R : Nat} {h : am_Hp} {M : mM} (k : RA w B R [] true h M) : ∃ am, w am = true ∧ am < h.length ∧ (am = 71 ∨ 89 ≤ am) ∧ 89 ≤ h.length ∧ RA (wrf am h.length) B R [] true h M := by
  obtain ⟨K, Y, am, ln, hS, ⟨b1, b2, b3, b4, b5, b6, b7, b8⟩, u2, u3⟩ := RA_u.mp k
  exact ⟨am, b2, b7, b5.2.1, b8, RA_u.mpr ⟨K, Y, am, ln, hS, ⟨fun a h1 h2 => wrf_t.mpr (Or.inl ⟨h1, h2⟩), wrf_t.mpr (Or.inr (Or.inl rfl)), fun a ha => wrf_t.mpr (Or.inr (Or.inr ha)), b4, b5, b6, b7, b8⟩, u2, u3⟩⟩
theorem RA_cost {w : Nat → Bool} {B R : Nat} {h : am_Hp} {M : mM} (k : RA w B R [] true h M) (hR : R ≤ 20000) : 12 * h.length + am_sl h ≤ B + 1080864 ∧ 89 ≤ h.length := by
  obtain ⟨K, Y, am, ln, L, F, G, o, ro, rm, sr, a1, ⟨b1, b2, b3, b4, b5, b6, b7, b8⟩, a3, a4, a5, a6⟩ := k
  exact ⟨by omega, b8⟩
theorem RA_o {w : Nat → Bool} {B R : Nat} {h : am_Hp} {M : mM} (k : RA w B R [] true h M) : ∃ fs, h[62]? = some (.inl (11, fs)) := by
  obtain ⟨K, Y, am, ln, hS, -⟩ := RA_u.mp k
  exact ⟨_, sm_o (a := 62) hS rfl⟩
theorem tbc_in {a : Nat} (h : tbc a ≠ none) : a ≠ 0 ∧ a < 62 := by
  refine ⟨fun e => ?_, ?_⟩
  · subst e
    exact h rfl
  · by_cases c : a < 62
    · exact c
    · exact absurd (tbc_out a (by omega)) h
/-- the class's cells are left alone -/
theorem CA_fr {w w' : Nat → Bool} {m0 : mg} {B : Nat} {h h2 : am_Hp} {M : mM} (k : CA w 32 m0 B h M) (hlen : h.length ≤ h2.length) (hw' : ∀ a, (tbc a).isSome = true → w' a = true) (hw2 : ∀ a, h2.length ≤ a → w' a = true) (hw3 : ∀ a, w a = true → a < h.length → w' a = true) (hfr : ∀ a, w a = true → a < h.length → h2[a]? = h[a]?) : CA w' 32 m0 (co h2 M.1) h2 M := by
  obtain ⟨X, ow, sb, hS, ⟨⟨o1, o2, o3⟩, d2, d3, d4, d5, d6, d7⟩, hB, hQ⟩ := k
  have hlt : ∀ a, ow a ≠ 0 → a < h.length := fun a ha => by
    by_cases c : a < h.length
    · exact c
    · exact absurd (o2 a (by omega)).2 ha
  have e : ex 0 ow h ow h2 := fun b hb _ => ⟨hfr b (o3 b hb).1 (hlt b hb), rfl⟩
  refine ⟨X, ow, sb, sm_dyn hS (fun a ha => ?_), ⟨⟨hw', fun a ha => ⟨hw2 a ha, (o2 a (by omega)).2⟩, fun a ha => ⟨hw3 a (o3 a ha).1 (hlt a ha), (o3 a ha).2⟩⟩, fun l hl => LK_ex e (by decide) (by omega) (Or.inl (by decide)) (d2 l hl), d3, d4, SP_ex e (by decide) (by decide) d5, fun t ht => TM_ex e (by decide) (d6 t ht), d7⟩, Nat.le_refl _, fun l hl => Nat.le_trans (hQ l hl) hlen⟩
  cases z : tbc a with
  | none => exact absurd z ha
  | some x =>
    obtain ⟨hd, ds⟩ := x
    have hl := (List.getElem?_eq_some_iff.mp (hS a hd ds z)).1
    exact hfr a (o1 a (by rw [z]; rfl)) hl
def Rl (sv : List Value) (n : Nat) (h : am_Hp) : Prop := h[0]? = some (.inr (.int, sv)) ∧ ∃ M am B, (am = 71 ∨ 89 ≤ am) ∧ XV (1 + 200 * n) M ∧ CA (wcl am) 32 mo0 (co h M.1) h M ∧ RA (wrf am h.length) B (27 * n) [] true h M ∧ 5600 ≤ B + 700 * stn M.1 ∧ B + 700 * stn M.1 ≤ 40000 + 3400 * n
theorem XV_8 {X : Nat} {M : mM} (k : XV X M) : stn M.1 ≤ 8 := by
  obtain ⟨n, hn8, en, -⟩ := k.1.1.2.2.2.2.1.2.2.2.2.2.1
  rw [stn_n en hn8]
  exact hn8
theorem co_e {h : am_Hp} {I : sm_I} : co h I = 12 * h.length + am_sl h + 700 * stn I := rfl
theorem rl_one {sv : List Value} {mc mr : Nat} {as : List Value} (H : ∀ (n : Nat) (M : mM), n < 512 → XV (1 + 200 * n) M → ∃ (x : Int32) (M' : mM), XV (1 + 200 * n + 200) M' ∧ (∀ (w : Nat → Bool) (h : am_Hp) (C : Nat), CA w 32 mo0 C h M → C < 2 ^ 22 → am_Ev (am_prog w) 12 mc (.ref 1 :: as) h (fun r h1 => r = some (.int x) ∧ CA w 32 mo0 (C + 3400) h1 M')) ∧ (∀ (w : Nat → Bool) (B : Nat) (h : am_Hp), RA w B (27 * n) [] true h M → am_Ev (am_prog w) 12 mr (.ref 62 :: as) h (fun r h2 => r = some (.int x) ∧ RA w B (27 * n + 27) [] true h2 M'))) : am_one sv (Rl sv) mc mr as := by
  intro n h hn hRl
  obtain ⟨h0, M, am, B, ham, hX, hC, hA, hb1, hb2⟩ := hRl
  obtain ⟨x, M', hX', hc, hr⟩ := H n M hn hX
  obtain ⟨hcost, h89⟩ := RA_cost hA (by omega)
  have hco : co h M.1 < 2 ^ 22 := by
    rw [co_e]
    omega
  refine ev_post (ev_open (hc (wcl am) h _ hC hco)) (fun r h1 hp => ?_)
  obtain ⟨⟨rfl, hC1⟩, f1, f2⟩ := hp
  have h01 : h1[0]? = some (.inr (.int, sv)) := by
    rw [f2 0 (by omega) (wcl_0 (Or.inl rfl))]
    exact h0
  obtain ⟨X1, ow1, sb1, hS1, hD1, hco1, hQ1⟩ := id hC1
  rw [co_e, co_e] at hco1
  have h8 := XV_8 hX'
  have hA1 : RA (wrf am h1.length) (B + 700 * stn M.1 + 3400 - 700 * stn M'.1) (27 * n) [] true h1 M := by
    refine RA_fr hA f1 (fun a a1 a2 => wrf_t.mpr (Or.inl ⟨a1, a2⟩)) (fun a ha => wrf_t.mpr (Or.inr (Or.inr ha))) (fun a ha hl => ?_) (fun a ha hl h62 => ?_) (by omega)
    · rcases wrf_t.mp ha with z | z | z
      · exact wrf_t.mpr (Or.inl z)
      · exact wrf_t.mpr (Or.inr (Or.inl z))
      · exact absurd z (by omega)
    · refine f2 a hl (wcl_0 ?_)
      rcases wrf_t.mp ha with z | z | z
      · exact Or.inr (Or.inl z)
      · exact Or.inr (Or.inr z)
      · exact absurd z (by omega)
  refine ⟨x, rfl, ⟨h01, ⟨_, sm_o (a := 1) hS1 rfl⟩, RA_o hA1⟩, ?_⟩
  refine ev_post (ev_open (hr _ _ h1 hA1)) (fun r2 h2 hp => ?_)
  obtain ⟨⟨rfl, hA2⟩, g1, g2⟩ := hp
  obtain ⟨am2, a1, a2, a3, a4, hA3⟩ := RA_am hA2
  refine ⟨rfl, ?_, M', am2, _, a3, XV_X (by omega) hX', CA_fr hC1 g1 (fun a ha => ?_) (fun a ha => ?_) (fun a ha hl => ?_) (fun a ha hl => ?_), by rw [show 27 * (n + 1) = 27 * n + 27 by omega]; exact hA3, by omega, by omega⟩
  · rw [g2 0 (by omega) (wrf_0 (by omega))]
    exact h01
  · have z := tbc_in (a := a) (fun e => by rw [e] at ha; cases ha)
    exact wcl_t.mpr ⟨z.1, by omega, by omega⟩
  · exact wcl_t.mpr ⟨by omega, by omega, by omega⟩
  · have z := wcl_t.mp ha
    refine wcl_t.mpr ⟨z.1, z.2.1, fun e => ?_⟩
    rw [← e] at a1
    rcases wrf_t.mp a1 with y | y | y
    · exact z.2.1 y
    · exact z.2.2 y
    · omega
  · have z := wcl_t.mp ha
    exact g2 a hl (wrf_0 (fun y => y.elim z.2.1 (fun y => y.elim z.2.2 (fun y => by omega))))
theorem rl_base {sv : List Value} : ∀ n h, Rl sv n h → am_base sv h := by
  intro n h hRl
  obtain ⟨h0, M, am, B, ham, hX, ⟨X1, ow1, sb1, hS1, -⟩, hA, -⟩ := hRl
  exact ⟨h0, ⟨_, sm_o (a := 1) hS1 rfl⟩, RA_o hA⟩
theorem rl_room {sv : List Value} : ∀ n h, n ≤ 512 → Rl sv n h → h.length ≤ 600001 ∧ am_sl h ≤ 7302249 := by
  intro n h hn hRl
  obtain ⟨h0, M, am, B, ham, hX, hC, hA, hb1, hb2⟩ := hRl
  obtain ⟨hcost, h89⟩ := RA_cost hA (by omega)
  omega
theorem rl_none {sv : List Value} : ∀ n h, n < 512 → Rl sv n h → Rl sv (n + 1) h := by
  intro n h hn hRl
  obtain ⟨h0, M, am, B, ham, hX, hC, hA, hb1, hb2⟩ := hRl
  exact ⟨h0, M, am, B, ham, XV_X (by omega) hX, hC, RA_R (by omega) hA, hb1, by omega⟩
