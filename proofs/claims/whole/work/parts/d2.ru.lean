/-! the reference's heap between and within sends -/
def RV (I K : sm_I) (Q : mQ) (H : List (Nat × mg)) (hb : Bool) (ln R : Nat) : Prop := ∃ L F G o ro rm sr, RP I K Q H hb L F G o ro 0 rm sr ln 0 ∧ rm + 2 * stn I ≤ R ∧ ln ≤ 32 + 2 * rm
def RU (w : Nat → Bool) (B R : Nat) (H : List (Nat × mg)) (hb : Bool) (h : am_Hp) (am ln : Nat) (K : sm_I) (M : mM) : Prop := HB w h am ln B ∧ RR K M.2.2 ∧ RV M.1 K M.2.1 H hb ln R
theorem RA_u {w : Nat → Bool} {B R : Nat} {H : List (Nat × mg)} {hb : Bool} {h : am_Hp} {M : mM} : RA w B R H hb h M ↔ ∃ K Y am ln, sm (tbr am (13 * ln) 77 5088) h (jn M.1 K) Y ∧ RU w B R H hb h am ln K M := by
  constructor
  · rintro ⟨K, Y, am, ln, L, F, G, o, ro, rm, sr, a1, a2, a3, a4, a5, a6⟩
    exact ⟨K, Y, am, ln, a1, a2, a4, L, F, G, o, ro, rm, sr, a3, a5, a6⟩
  · rintro ⟨K, Y, am, ln, a1, a2, a4, L, F, G, o, ro, rm, sr, a3, a5, a6⟩
    exact ⟨K, Y, am, ln, L, F, G, o, ro, rm, sr, a1, a2, a3, a4, a5, a6⟩
theorem HB_e {w : Nat → Bool} {h h2 : am_Hp} {am ln B : Nat} {tb : sm_T} (e : sm_e tb h h2) (k : HB w h am ln B) : HB w h2 am ln B := by
  obtain ⟨a1, a2, a3, a4, a5, a6, a7, a8⟩ := k
  obtain ⟨e1, e2, -⟩ := e
  exact ⟨a1, a2, by rw [e1]; exact a3, by rw [e1, e2]; exact a4, a5, a6, by rw [e1]; exact a7, by rw [e1]; exact a8⟩
theorem RR_c {K K' : sm_I} {Z : mZ} (e : ∀ j, j < 2544 → K' 51 j = K 51 j) (k : RR K Z) : RR K' Z := fun i hi => RZ_c (fun j hj => e _ (by omega)) (k i hi)
theorem RU_ln {w : Nat → Bool} {B R : Nat} {H : List (Nat × mg)} {hb : Bool} {h : am_Hp} {am ln : Nat} {K : sm_I} {M : mM} (k : RU w B R H hb h am ln K M) (hR : R < 40000) : ln < 2 ^ 20 := by
  obtain ⟨-, -, L, F, G, o, ro, rm, sr, -, a1, a2⟩ := k
  omega
theorem RV_R {I K : sm_I} {Q : mQ} {H : List (Nat × mg)} {hb : Bool} {ln R R' : Nat} (h : R ≤ R') (k : RV I K Q H hb ln R) : RV I K Q H hb ln R' := by
  obtain ⟨L, F, G, o, ro, rm, sr, a1, a2, a3⟩ := k
  exact ⟨L, F, G, o, ro, rm, sr, a1, by omega, a3⟩
theorem RU_R {w : Nat → Bool} {B R R' : Nat} {H : List (Nat × mg)} {hb : Bool} {h : am_Hp} {am ln : Nat} {K : sm_I} {M : mM} (h1 : R ≤ R') (k : RU w B R H hb h am ln K M) : RU w B R' H hb h am ln K M := ⟨k.1, k.2.1, RV_R h1 k.2.2⟩
theorem RA_R {w : Nat → Bool} {B R R' : Nat} {H : List (Nat × mg)} {hb : Bool} {h : am_Hp} {M : mM} (h1 : R ≤ R') (k : RA w B R H hb h M) : RA w B R' H hb h M := by
  obtain ⟨K, Y, am, ln, hS, hU⟩ := RA_u.mp k
  exact RA_u.mpr ⟨K, Y, am, ln, hS, RU_R h1 hU⟩
/-- the meant ints change, but for those of the pools -/
theorem RU_I {w : Nat → Bool} {B R : Nat} {H : List (Nat × mg)} {hb : Bool} {h h2 : am_Hp} {am ln : Nat} {K I I' : sm_I} {Q : mQ} {Z : mZ} {tb : sm_T} (e : sm_e tb h h2) (h4 : ∀ l, I' 24 l = I 24 l) (h5 : ∀ l, I' 25 l = I 25 l) (hs : stn I' ≤ stn I) (k : RU w B R H hb h am ln K (I, Q, Z)) : RU w B R H hb h2 am ln K (I', Q, Z) := by
  obtain ⟨k1, k2, L, F, G, o, ro, rm, sr, a1, a2, a3⟩ := k
  exact ⟨HB_e e k1, k2, L, F, G, o, ro, rm, sr, RP_I (fun l _ => h4 l) (fun l _ => h5 l) a1, by have z : rm + 2 * stn I ≤ R := a2; show rm + 2 * stn I' ≤ R; omega, a3⟩
/-- a fixed row changes -/
theorem RU_row {w : Nat → Bool} {B R : Nat} {H : List (Nat × mg)} {hb : Bool} {h : am_Hp} {am ln i : Nat} {K K' I : sm_I} {Q : mQ} {Z : mZ} {s : ms} (hi : i < 6) (f : ∀ c j, 50 ≤ c → ¬ (c = 51 ∧ 424 * i ≤ j ∧ j < 424 * i + 424) → K' c j = K c j) (hz : RZ K' (decide (i < 2)) i s) (k : RU w B R H hb h am ln K (I, Q, Z)) : RU w B R H hb h am ln K' (I, Q, uZ Z i s) := by
  obtain ⟨k1, k2, L, F, G, o, ro, rm, sr, a1, a2, a3⟩ := k
  refine ⟨k1, fun i' hi' => ?_, L, F, G, o, ro, rm, sr, RP_row (fun c j h1 h2 => f c j h1 (fun z => ?_)) a1, a2, a3⟩
  · by_cases e : i' = i
    · subst e
      show RZ K' _ i' (uZ Z i' s i')
      rw [uZ_s]
      exact hz
    · show RZ K' _ i' (uZ Z i s i')
      rw [uZ_n e]
      exact RZ_c (fun j hj => f 51 _ (by omega) (by omega)) (k2 i' hi')
  · have := h2 z.1
    omega
theorem RR_row {K : sm_I} {Z : mZ} {i : Nat} (k : RR K Z) (hi : i < 2) : RS K i (Z i) ∧ (Z i).2.1.length ≤ 32 ∧ (Z i).2.2.length ≤ 41 ∧ LKs (Z i) := (k i (by omega)).1 (by simp [hi])
theorem RR_t {K : sm_I} {Z : mZ} {i : Nat} (k : RR K Z) (h2 : 2 ≤ i) (hi : i < 6) : ∀ j, j < 12 → K 51 (424 * i + j) = (Z i).1 j := (k i hi).2 (by simp; omega)
theorem RX_c {K K' : sm_I} {c j : Nat} {P : Prop} [Decidable P] {a b : Int32} (h : ¬ P) (e : b = a) : (if P then K c j else b) = a := by rw [if_neg h]; exact e
def mo0 : mg := (fun _ => 0, fun _ => 0, [], [])
theorem mo0_s : isS mo0 = false := rfl
/-- a new slot -/
theorem rn_nm {w : Nat → Bool} {d B R : Nat} {H : List (Nat × mg)} {hb : Bool} {h : am_Hp} {am ln : Nat} {I K : sm_I} {Y : sm_X} {Q : mQ} {Z : mZ} {L : Nat → List Nat} {F G : List Nat} {o ro : Nat → Nat} {rm sr : Nat} (hR : R < 40000) (hS : sm (tbr am (13 * ln) 77 5088) h (jn I K) Y) (hH : HB w h am ln B) (hP : RP I K Q H hb L F G o ro 0 rm sr ln 0) (hrm : rm + 2 * stn I ≤ R) (hln : ln ≤ 32 + 2 * rm) (hd : 1 ≤ d) :
    am_Ev (am_prog w) d 131 [.ref 62] h (fun r h' => ∃ x am' ln' K' F' rm', r = some (.int (nI (13 * x))) ∧ sm (tbr am' (13 * ln') 77 5088) h' (jn I K') Y ∧ HB w h' am' ln' B ∧ RP I K' Q H hb L F' G (owx o x 18) ro 0 rm' sr ln' 0 ∧ x < rm' ∧ rm' + 2 * stn I ≤ R + 1 ∧ ln' ≤ 32 + 2 * rm' ∧ (∀ j, K' 51 j = K 51 j)) := by
  obtain ⟨b1, b2, b3, b4, b5, b6, b7, b8⟩ := id hH
  obtain ⟨⟨p1, p2, p3, p4, p5⟩, -⟩ := id hP
  have l20 : ln < 2 ^ 20 := by omega
  cases F with
  | cons y F' =>
    obtain ⟨q1, q2, q3⟩ := p5 0 y rfl
    refine ev_post (rx_nm_a b5 hS l20 b1 (x := y) (by omega) (by rw [p3]; rfl) hd) (fun r h' ⟨e1, e2, e3⟩ => ?_)
    refine ⟨y, am, ln, _, F', rm, e1, e2, HB_e e3 hH, RP_nm hP ⟨?_, p2, ?_, (List.nodup_cons.mp p4).2, fun i x hi => ?_⟩ (Or.inl q2) (Nat.le_refl _) (fun c j _ h52 _ => uI_c h52) (uI_j (by decide)) (uI_j (by decide)), q1, by omega, hln, fun j => uI_c (by decide)⟩
    · rw [uI_j (by decide)]; exact p1
    · rw [uI_s, q3]; rfl
    · obtain ⟨g1, g2, g3⟩ := p5 (i + 1) x hi
      have hne : x ≠ y := fun e => by
        subst e
        exact (List.nodup_cons.mp p4).1 (List.mem_of_getElem? hi)
      exact ⟨g1, by rw [owx_n hne]; exact g2, by rw [uI_c (by decide)]; exact g3⟩
  | nil =>
    by_cases hl : rm < ln
    · refine ev_post (rx_nm_b b5 hS l20 b1 (rm := rm) hl (by rw [p3]; rfl) p1 hd) (fun r h' ⟨e1, e2, e3⟩ => ?_)
      refine ⟨rm, am, ln, _, [], rm + 1, e1, e2, HB_e e3 hH, RP_nm hP ⟨uI_s, by omega, ?_, List.nodup_nil, fun i x hi => by simp at hi⟩ (Or.inr (Nat.le_refl _)) (by omega) (fun c j _ h52 _ => uI_c h52) (uI_j (by decide)) (uI_j (by decide)), by omega, by omega, by omega, fun j => uI_c (by decide)⟩
      rw [uI_j (by decide)]; exact p3
    · obtain rfl : rm = ln := by omega
      refine ev_post (rx_nm_c b5 hS l20 b1 b8 b7 b3 b6 (by omega) (by rw [p3]; rfl) p1 hd) (fun r h' ⟨e1, L', K', hL, s1, s2, s3, s4, s5⟩ => ?_)
      refine ⟨rm, L', 2 * rm, K', [], rm + 1, e1, s1, ⟨b1, b3 L' (by omega), fun a ha => b3 a (by omega), by rw [s2, s3]; omega, ⟨by omega, Or.inr (by omega), b5.2.2⟩, by omega, by omega, by omega⟩, RP_nm hP ⟨s4, by omega, ?_, List.nodup_nil, fun i x hi => by simp at hi⟩ (Or.inr (Nat.le_refl _)) (by omega) (fun c j h50 h52 h5 => s5 c j (by omega) (by omega)) (s5 52 2 (by omega) (by omega)) (s5 52 3 (by omega) (by omega)), by omega, by omega, by omega, fun j => s5 51 j (by omega) (by omega)⟩
      · rw [s5 52 1 (by omega) (by omega)]; exact p3
