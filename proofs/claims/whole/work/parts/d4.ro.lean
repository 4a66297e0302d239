/-! a message is laid and still open -/
def RO (w : Nat → Bool) (B R : Nat) (H : List (Nat × mg)) (hb : Bool) (h : am_Hp) (am ln : Nat) (K I : sm_I) (Q : mQ) (Z : mZ) (l x : Nat) (kd n wh : Int32) : Prop := HB w h am ln B ∧ RR K Z ∧ (∃ L F G o ro rm sr T, L l = T ++ [x] ∧ RP I K (uQ Q l (Q l ++ [mo0])) H hb L F G o ro (x + 1) rm sr ln 0 ∧ x < rm ∧ rm + 2 * stn I ≤ R ∧ ln ≤ 32 + 2 * rm) ∧ K 50 (13 * x) = kd ∧ K 50 (13 * x + 1) = n ∧ K 50 (13 * x + 5) = wh ∧ K 50 (13 * x + 12) = -1
theorem appI_stn {I : sm_I} {Q : mQ} {l : Nat} : stn (appI I Q l) = stn I := by
  unfold stn
  rw [appI_o (by decide) (by decide) (by decide)]
theorem RO_x {w : Nat → Bool} {B R : Nat} {H : List (Nat × mg)} {hb : Bool} {h : am_Hp} {am ln : Nat} {K I : sm_I} {Q : mQ} {Z : mZ} {l x : Nat} {kd n wh : Int32} (k : RO w B R H hb h am ln K I Q Z l x kd n wh) (hR : R < 40010) : x < ln ∧ ln < 2 ^ 20 ∧ rk am 77 ∧ w am = true := by
  obtain ⟨⟨-, a2, -, -, a5, -⟩, -, ⟨L, F, G, o, ro, rm, sr, T, b1, ⟨⟨-, p2, -⟩, -⟩, b3, b4, b5⟩, -⟩ := k
  exact ⟨by omega, by omega, a5, a2⟩
theorem RO_cl {w : Nat → Bool} {B R : Nat} {H : List (Nat × mg)} {hb : Bool} {h h2 : am_Hp} {am ln : Nat} {K K' I : sm_I} {Q : mQ} {Z : mZ} {l x : Nat} {kd n wh : Int32} {m : mg} {tb : sm_T} (hl : l < 16) (k : RO w B R H hb h am ln K I Q Z l x kd n wh) (e : sm_e tb h h2) (hm : isS m = false) (m0 : m.1 0 = kd) (m1 : m.1 1 = n) (m5 : m.1 5 = wh) (he : ∀ c j, 50 ≤ c → ¬ (c = 50 ∧ 13 * x + 6 ≤ j ∧ j < 13 * x + 12) → K' c j = K c j) (hw : ∀ i, i < mwn kd → K' 50 (13 * x + 6 + i) = m.1 (6 + i)) : RU w B R H hb h2 am ln K' (I, uQ Q l (Q l ++ [m]), Z) := by
  obtain ⟨a1, a2, ⟨L, F, G, o, ro, rm, sr, T, b1, b2, b3, b4, b5⟩, c1, c2, c3, c4⟩ := k
  refine ⟨HB_e e a1, RR_c (fun j hj => he 51 j (by omega) (by omega)) a2, L, F, G, o, ro, rm, sr, RP_close hl b2 b1 mo0_s hm (fun c j h1 h2 => he c j h1 (by omega)) ⟨?_, ?_, ?_, ?_, fun _ => ?_, fun z => by rw [hm] at z; cases z⟩, b4, b5⟩
  · rw [he 50 _ (by omega) (by omega), m0]; exact c1
  · rw [he 50 _ (by omega) (by omega), m1]; exact c2
  · rw [he 50 _ (by omega) (by omega), m5]; exact c3
  · rw [m0]; exact hw
  · rw [he 50 _ (by omega) (by omega)]; exact c4
theorem rn_snd_0 {w : Nat → Bool} {d B R : Nat} {H : List (Nat × mg)} {hb : Bool} {h : am_Hp} {I K : sm_I} {Q : mQ} {Z : mZ} {Y : sm_X} {am ln : Nat} (hS : sm (tbr am (13 * ln) 77 5088) h (jn I K) Y) (hU : RU w B R H hb h am ln K (I, Q, Z)) (hR : R < 40000) {f t : Nat} {kd wh : Int32} (hf : f < 4) (ht : t < 4) (h0 : I 0 t = 0) (hd : 1 ≤ d) : am_Ev (am_prog w) d 130 [.ref 62, .int (nI f), .int (nI t), .int kd, .int wh] h (fun r h' => r = some (.int (-1)) ∧ h' = h) := by
  obtain ⟨d, rfl⟩ : ∃ e, d = e + 1 := ⟨d - 1, by omega⟩
  refine ev_go rfl (Nat.le_of_ble_eq_true rfl) rfl ?_
  obtain ⟨hW, hWm, -, -, hr, -⟩ := id hU.1
  refine go_s (pc' := 1) rfl rfl rfl rfl ?_
  refine go_sget (pc' := 2) (v := .ref 63) hS rfl rfl rfl (by decide) rfl rfl ?_
  refine go_s (pc' := 3) rfl rfl rfl rfl ?_
  refine go_sald (pc' := 4) (q := t) (v := .int (I 0 t)) hS rfl (tr_s hr (a := 63) rfl (by omega)) rfl rfl (by omega) rfl rfl ?_
  refine go_ifP (t' := 7) (pc' := 5) rfl rfl rfl (fun (c : ¬ (I 0 t) = 0) => absurd c (fun z => z h0)) (fun _ => ?_)
  refine go_s (pc' := 6) (st' := [.int (-1)]) rfl rfl rfl rfl ?_
  refine go_ret rfl rfl ?_
  exact ⟨rfl, rfl⟩
theorem rn_snd_1 {w : Nat → Bool} {d B R : Nat} {H : List (Nat × mg)} {hb : Bool} {h : am_Hp} {I K : sm_I} {Q : mQ} {Z : mZ} {Y : sm_X} {am ln : Nat} (hS : sm (tbr am (13 * ln) 77 5088) h (jn I K) Y) (hU : RU w B R H hb h am ln K (I, Q, Z)) (hR : R < 40000) {f t : Nat} {kd wh : Int32} (hf : f < 4) (ht : t < 4) (h0 : ¬ I 0 t = 0) (hd : 2 ≤ d) : am_Ev (am_prog w) d 130 [.ref 62, .int (nI f), .int (nI t), .int kd, .int wh] h (fun r h' => ∃ x am' ln' K', r = some (.int (nI (13 * x))) ∧ sm (tbr am' (13 * ln') 77 5088) h' (jn (appI I Q (4 * f + t)) K') Y ∧ RO w B (R + 1) H hb h' am' ln' K' (appI I Q (4 * f + t)) Q Z (4 * f + t) x kd (I 9 (4 * f + t) + 1) wh) := by
  obtain ⟨d, rfl⟩ : ∃ e, d = e + 1 := ⟨d - 1, by omega⟩
  refine ev_go rfl (Nat.le_of_ble_eq_true rfl) rfl ?_
  obtain ⟨hW, hWm, -, -, hr, -⟩ := id hU.1
  refine go_s (pc' := 1) rfl rfl rfl rfl ?_
  refine go_sget (pc' := 2) (v := .ref 63) hS rfl rfl rfl (by decide) rfl rfl ?_
  refine go_s (pc' := 3) rfl rfl rfl rfl ?_
  refine go_sald (pc' := 4) (q := t) (v := .int (I 0 t)) hS rfl (tr_s hr (a := 63) rfl (by omega)) rfl rfl (by omega) rfl rfl ?_
  refine go_ifP (t' := 7) (pc' := 5) rfl rfl rfl (fun _ => ?_) (fun (c : ¬ (¬ (I 0 t) = 0)) => absurd h0 c)
  refine go_s (pc' := 8) (st' := [.int 4]) rfl rfl rfl rfl ?_
  refine go_s (pc' := 9) rfl rfl rfl rfl ?_
  refine go_nmul (pc' := 10) (a := 4) (b := f) rfl rfl rfl rfl rfl ?_
  refine go_s (pc' := 11) rfl rfl rfl rfl ?_
  refine go_nadd (pc' := 12) (a := (4 * f)) (b := t) rfl rfl rfl rfl rfl ?_
  refine go_s (pc' := 13) (lo' := [some (.ref 62), some (.int (nI f)), some (.int (nI t)), some (.int kd), some (.int wh), some (.int (nI ((4 * f) + t))), none]) rfl rfl rfl rfl ?_
  refine go_s (pc' := 14) rfl rfl rfl rfl ?_
  obtain ⟨uH, uR, L, F, G, o, ro, rm, sr, uP, urm, uln⟩ := hU
  refine go_callV (pc' := 15) rfl rfl rfl (Nat.le_of_ble_eq_true rfl) rfl (sm_o hS rfl) rfl rfl rfl (rn_nm (Z := Z) (by omega) hS uH uP urm uln (by omega)) (fun r h1 q2 => ?_)
  obtain ⟨x, am2, ln2, K2, F2, rm2, rfl, hS2, uH2, uP2, xr, urm2, uln2, u51⟩ := q2
  obtain ⟨hW2, hWm2, -, -, hr2, -⟩ := id uH2
  refine rx_snd_t hr2 hS2 (by omega) hW2 hWm2 hf ht uP2 owx_s xr (by omega) (fun r h9 hp => ?_)
  obtain ⟨K9, rfl, g1, g2, g3, g4, g5, g6, g7, g8⟩ := hp
  exact ⟨x, am2, ln2, K9, rfl, g1, HB_e g2 uH2, RR_c (fun j _ => (g8 j).trans (u51 j)) uR, ⟨_, _, _, _, _, _, _, L (4 * f + t), uL_s, g3, xr, by rw [appI_stn]; exact urm2, uln2⟩, g4, g5, g6, g7⟩
theorem rn_ns {w : Nat → Bool} {d : Nat} {H : List (Nat × mg)} {hb : Bool} {h : am_Hp} {am ln : Nat} {I K : sm_I} {Y : sm_X} {Q : mQ} {L : Nat → List Nat} {F G : List Nat} {o ro : Nat → Nat} {e rm sr dd : Nat} (hr : rk am 77) (hln : ln < 2 ^ 20) (hW : ∀ a, 62 ≤ a → a ≤ 88 → w a = true) (hS : sm (tbr am (13 * ln) 77 5088) h (jn I K) Y) (hP : RP I K Q H hb L F G o ro e rm sr ln dd) (h5 : sq Q + hc H hb + dd ≤ 5) (hd : 1 ≤ d) :
    am_Ev (am_prog w) d 135 [.ref 62] h (fun r h' => ∃ x K' G' sr', r = some (.int (nI x)) ∧ sm (tbr am (13 * ln) 77 5088) h' (jn I K') Y ∧ sm_e (tbr am (13 * ln) 77 5088) h h' ∧ RP I K' Q H hb L F G' o ro e rm sr' ln (dd + 1) ∧ ro x = 0 ∧ 6 ≤ x ∧ x < sr' ∧ sr' ≤ 12 ∧ (∀ i : Nat, ¬ G'[i]? = some x) ∧ ∀ c j, c ≠ 52 → K' c j = K c j) := by
  obtain ⟨-, -, -, -, ⟨g1, g2, g3, g4, g5, g6, g7⟩, -, k7⟩ := id hP
  cases G with
  | cons y G' =>
    obtain ⟨q1, q2, q3, q4⟩ := g6 0 y rfl
    refine ev_post (rx_ns_a hr hS hln hW (x := y) (by omega) (by rw [g4]; rfl) hd) (fun r h' ⟨e1, e2, e3⟩ => ?_)
    refine ⟨y, _, G', sr, e1, e2, e3, RP_ns hP ⟨?_, g2, g3, ?_, (List.nodup_cons.mp g5).2, fun i x hi => ?_, g7⟩ (by simp <;> omega) (fun c j h1 h2 => if_neg (fun z => h2 ⟨z.1, Or.inr z.2⟩)), q3, q1, q2, g3, fun i hi => ?_, fun c j h => uI_c h⟩
    · rw [uI_j (by decide)]; exact g1
    · rw [uI_s, q4]; rfl
    · obtain ⟨z1, z2, z3, z4⟩ := g6 (i + 1) x hi
      exact ⟨z1, z2, z3, by rw [uI_c (by decide)]; exact z4⟩
    · exact (List.nodup_cons.mp g5).1 (List.mem_of_getElem? hi)
  | nil =>
    have hsr : sr < 12 := by simp at k7; omega
    refine ev_post (rx_ns_b hr hS hln hW (sr := sr) hsr (by rw [g4]; rfl) g1 hd) (fun r h' ⟨e1, e2, e3⟩ => ?_)
    refine ⟨sr, _, [], sr + 1, e1, e2, e3, RP_ns hP ⟨uI_s, by omega, by omega, ?_, List.nodup_nil, fun i x hi => by simp at hi, fun r hr => g7 r (by omega)⟩ (by simp; omega) (fun c j h1 h2 => if_neg (fun z => h2 ⟨z.1, Or.inl z.2⟩)), g7 sr (Nat.le_refl _), g2, by omega, by omega, fun i hi => by simp at hi, fun c j h => uI_c h⟩
    rw [uI_j (by decide)]; exact g4
