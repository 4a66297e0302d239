def cst (M : mM) : Nat := if M.1 16 0 = 2 then (if row1 M 0 3 = 1 then 1 else 2) else 0
theorem RA_2 {w : Nat → Bool} {B R : Nat} {H : List (Nat × mg)} {hb : Bool} {h : am_Hp} {M : mM} (k : RA w B R H hb h M) : 2 * stn M.1 ≤ R := by
  obtain ⟨K, Y, am, ln, L, F, G, o, ro, rm, sr, a1, a2, a3, a4, a5, a6⟩ := k
  omega
def SPb (w : Nat → Bool) (B : Nat) (H : List (Nat × mg)) (hb : Bool) (d n : Nat) : Prop := ∀ X M b h R, MID X M → X + 4 * n + 8 < 2 ^ 28 → M.1 21 0 = nI n → 2 * n + 2 ≤ b → R + cst M + 2 < 40000 → RA w B R H hb h M → am_Go (am_prog w) d am_c140 none 0 [some (.ref 62)] [] h (fun r h' => r = none ∧ RA w B (R + cst M) H hb h' (rset b M))
def SPa (w : Nat → Bool) (B : Nat) (H : List (Nat × mg)) (hb : Bool) (d n : Nat) : Prop := ∀ X M b h R, MID X M → X + 4 * n + 6 < 2 ^ 28 → M.1 21 0 = nI n → ¬ M.1 16 0 = 2 → 2 * n + 1 ≤ b → R + 2 < 40000 → RA w B R H hb h M → am_Go (am_prog w) d am_c140 none 0 [some (.ref 62)] [] h (fun r h' => r = none ∧ RA w B R H hb h' (rset b M))
theorem US_no {X k : Nat} {M : mM} (hk : k < 3) (k0 : MID X M) (h1 : ¬ M.1 16 k = 1) (h2 : M.1 13 k = 0) : ∀ i y, ¬ US M.1 M.2.1 k i y := fun i y hu => by
  obtain ⟨-, -, k3⟩ := k0.2.2.2.2.2.2.2.1 k hk
  rcases (k3 i y hu).2.1 with z | z
  · exact h1 z
  · rw [h2] at z
    exact absurd z (by decide)
theorem cst_beg {X n : Nat} {M : mM} (k : MID X M) (hl : lv M.1 0 = true) (h0 : M.1 16 0 = 0) : cst (rbeg M) ≤ 1 := by
  have e : rbeg M = mbeg M := e_beg hl (fun z => ⟨((k.2.2.1 0 (by decide)).2.2.2.2.1 z).2.2.2, ((k.2.2.1 0 (by decide)).2.2.2.2.1 z).1⟩)
  unfold cst
  rw [e]
  by_cases h2 : (mbeg M).1 16 0 = 2
  · rw [if_pos h2, if_pos (mbeg_160 h0 h2)]
    exact Nat.le_refl _
  · rw [if_neg h2]
    exact Nat.zero_le _
theorem rset_no {b : Nat} {M : mM} (h : ¬ (lv M.1 0 = true ∧ ((M.1 16 0 = 2 ∧ raw M = true) ∨ (M.1 16 0 = 0 ∧ 0 < M.1 21 0)))) : rset (b + 1) M = M := by
  rw [rset_s, if_neg h]
theorem st_A0 {w : Nat → Bool} {B : Nat} {H : List (Nat × mg)} {hb : Bool} {d : Nat} (hhc : hc H hb = 0) (hd : 8 ≤ d) : SPa w B H hb d 0 := by
  intro X M b h R hM hX en hne hb2 hR hA
  obtain ⟨I, Q, Z⟩ := M
  change I 21 0 = nI 0 at en
  change ¬ I 16 0 = 2 at hne
  obtain ⟨b, rfl⟩ : ∃ c, b = c + 1 := ⟨b - 1, by omega⟩
  obtain ⟨K, Y, am, ln, hS, hU⟩ := RA_u.mp hA
  change sm (tbr am (13 * ln) 77 5088) h (jn I K) Y at hS
  obtain ⟨hW, hWm, -, -, hr, -⟩ := id hU.1
  have hln := RU_ln hU (by omega)
  have hp0 : prk I 0 := (hM.2.2.1 0 (by decide)).1
  have hp1 : prk I 1 := (hM.2.2.1 1 (by decide)).1
  have hp2 : prk I 2 := (hM.2.2.1 2 (by decide)).1
  refine go_s (pc' := 1) rfl rfl rfl rfl ?_
  refine go_s (pc' := 2) (st' := [.int 0, .ref 62]) rfl rfl rfl rfl ?_
  refine go_callV (pc' := 3) rfl rfl rfl (Nat.le_of_ble_eq_true rfl) rfl (sm_o hS rfl) rfl rfl rfl (rt_lives_0 hr hS hp0 (by omega)) (fun r h1 q2 => ?_)
  obtain ⟨rfl, rfl⟩ := q2
  rw [show lv (jn I K) 0 = lv I 0 from rfl]
  cases u3 : lv I 0
  · skip
    show am_Go _ _ _ _ 3 _ [.int 0] _ _
    refine go_ifP (t' := 33) (pc' := 4) rfl rfl rfl (fun _ => ?_) (fun (c : ¬ ((0 : Int32) = 0)) => absurd (by decide) c)
    refine go_ret rfl rfl ?_
    rw [rset_no (fun z => by rw [show lv (I, Q, Z).1 0 = false from u3] at z; exact absurd z.1 (by decide))]
    exact ⟨rfl, hA⟩
  · skip
    show am_Go _ _ _ _ 3 _ [.int 1] _ _
    refine go_ifP (t' := 33) (pc' := 4) rfl rfl rfl (fun (c : (1 : Int32) = 0) => absurd c (by decide)) (fun _ => ?_)
    refine go_s (pc' := 5) rfl rfl rfl rfl ?_
    refine go_sget (pc' := 6) (v := .ref 83) hS rfl rfl rfl (by decide) rfl rfl ?_
    refine go_s (pc' := 7) (st' := [.int 0, .ref 83]) rfl rfl rfl rfl ?_
    refine go_sald (pc' := 8) (q := 0) (v := .int (I 16 0)) hS rfl (tr_s hr (a := 83) rfl (by decide)) rfl rfl (by decide) rfl rfl ?_
    refine go_s (pc' := 9) (st' := [.int 2, .int (I 16 0)]) rfl rfl rfl rfl ?_
    refine go_icmpP (t' := 13) (pc' := 10) rfl rfl rfl (fun _ => ?_) (fun (c : ¬ (¬ (I 16 0) = 2)) => absurd hne c)
    refine go_s (pc' := 14) rfl rfl rfl rfl ?_
    refine go_sget (pc' := 15) (v := .ref 83) hS rfl rfl rfl (by decide) rfl rfl ?_
    refine go_s (pc' := 16) (st' := [.int 0, .ref 83]) rfl rfl rfl rfl ?_
    refine go_sald (pc' := 17) (q := 0) (v := .int (I 16 0)) hS rfl (tr_s hr (a := 83) rfl (by decide)) rfl rfl (by decide) rfl rfl ?_
    refine go_ifP (t' := 33) (pc' := 18) rfl rfl rfl (fun (c4 : ¬ (I 16 0) = 0) => ?_) (fun (c4' : ¬ ¬ (I 16 0) = 0) => ?_)
    · skip
      refine go_ret rfl rfl ?_
      rw [rset_no (fun z => z.2.elim (fun y => hne y.1) (fun y => c4 y.1))]
      exact ⟨rfl, hA⟩
    · skip
      have c4 : (I 16 0) = 0 := Decidable.not_not.mp c4'
      refine go_s (pc' := 19) rfl rfl rfl rfl ?_
      refine go_sget (pc' := 20) (v := .int 0) hS rfl rfl rfl (by decide) (congrArg Value.int en) rfl ?_
      refine go_ifP (t' := 33) (pc' := 21) rfl rfl rfl (fun _ => ?_) (fun (c : ¬ ((0 : Int32) ≤ 0)) => absurd (by decide) c)
      refine go_ret rfl rfl ?_
      rw [rset_no (fun z => z.2.elim (fun y => hne y.1) (fun y => by have x : (0 : Int32) < I 21 0 := y.2; rw [en] at x; exact absurd x (by decide)))]
      exact ⟨rfl, hA⟩
theorem st_A1 {w : Nat → Bool} {B : Nat} {H : List (Nat × mg)} {hb : Bool} {d m : Nat} (hhc : hc H hb = 0) (hm : m + 1 ≤ 8) (hB : SPb w B H hb d m) (hd : 8 ≤ d) : SPa w B H hb d (m + 1) := by
  intro X M b h R hM hX en hne hb2 hR hA
  obtain ⟨I, Q, Z⟩ := M
  change I 21 0 = nI (m + 1) at en
  change ¬ I 16 0 = 2 at hne
  obtain ⟨b, rfl⟩ : ∃ c, b = c + 1 := ⟨b - 1, by omega⟩
  have x9 : 2 * stn I ≤ R := RA_2 hA
  have y9 : stn I = m + 1 := by
    unfold stn
    rw [en]
    exact nI_clamp (by omega)
  obtain ⟨R, rfl⟩ : ∃ c, R = c + 2 := ⟨R - 2, by omega⟩
  obtain ⟨K, Y, am, ln, hS, hU⟩ := RA_u.mp hA
  change sm (tbr am (13 * ln) 77 5088) h (jn I K) Y at hS
  obtain ⟨hW, hWm, -, -, hr, -⟩ := id hU.1
  have hln := RU_ln hU (by omega)
  have hp0 : prk I 0 := (hM.2.2.1 0 (by decide)).1
  have hp1 : prk I 1 := (hM.2.2.1 1 (by decide)).1
  have hp2 : prk I 2 := (hM.2.2.1 2 (by decide)).1
  refine go_s (pc' := 1) rfl rfl rfl rfl ?_
  refine go_s (pc' := 2) (st' := [.int 0, .ref 62]) rfl rfl rfl rfl ?_
  refine go_callV (pc' := 3) rfl rfl rfl (Nat.le_of_ble_eq_true rfl) rfl (sm_o hS rfl) rfl rfl rfl (rt_lives_0 hr hS hp0 (by omega)) (fun r h1 q2 => ?_)
  obtain ⟨rfl, rfl⟩ := q2
  rw [show lv (jn I K) 0 = lv I 0 from rfl]
  cases u3 : lv I 0
  · skip
    show am_Go _ _ _ _ 3 _ [.int 0] _ _
    refine go_ifP (t' := 33) (pc' := 4) rfl rfl rfl (fun _ => ?_) (fun (c : ¬ ((0 : Int32) = 0)) => absurd (by decide) c)
    refine go_ret rfl rfl ?_
    rw [rset_no (fun z => by rw [show lv (I, Q, Z).1 0 = false from u3] at z; exact absurd z.1 (by decide))]
    exact ⟨rfl, hA⟩
  · skip
    show am_Go _ _ _ _ 3 _ [.int 1] _ _
    refine go_ifP (t' := 33) (pc' := 4) rfl rfl rfl (fun (c : (1 : Int32) = 0) => absurd c (by decide)) (fun _ => ?_)
    refine go_s (pc' := 5) rfl rfl rfl rfl ?_
    refine go_sget (pc' := 6) (v := .ref 83) hS rfl rfl rfl (by decide) rfl rfl ?_
    refine go_s (pc' := 7) (st' := [.int 0, .ref 83]) rfl rfl rfl rfl ?_
    refine go_sald (pc' := 8) (q := 0) (v := .int (I 16 0)) hS rfl (tr_s hr (a := 83) rfl (by decide)) rfl rfl (by decide) rfl rfl ?_
    refine go_s (pc' := 9) (st' := [.int 2, .int (I 16 0)]) rfl rfl rfl rfl ?_
    refine go_icmpP (t' := 13) (pc' := 10) rfl rfl rfl (fun _ => ?_) (fun (c : ¬ (¬ (I 16 0) = 2)) => absurd hne c)
    refine go_s (pc' := 14) rfl rfl rfl rfl ?_
    refine go_sget (pc' := 15) (v := .ref 83) hS rfl rfl rfl (by decide) rfl rfl ?_
    refine go_s (pc' := 16) (st' := [.int 0, .ref 83]) rfl rfl rfl rfl ?_
    refine go_sald (pc' := 17) (q := 0) (v := .int (I 16 0)) hS rfl (tr_s hr (a := 83) rfl (by decide)) rfl rfl (by decide) rfl rfl ?_
    refine go_ifP (t' := 33) (pc' := 18) rfl rfl rfl (fun (c4 : ¬ (I 16 0) = 0) => ?_) (fun (c4' : ¬ ¬ (I 16 0) = 0) => ?_)
    · skip
      refine go_ret rfl rfl ?_
      rw [rset_no (fun z => z.2.elim (fun y => hne y.1) (fun y => c4 y.1))]
      exact ⟨rfl, hA⟩
    · skip
      have c4 : (I 16 0) = 0 := Decidable.not_not.mp c4'
      refine go_s (pc' := 19) rfl rfl rfl rfl ?_
      refine go_sget (pc' := 20) (v := .int (nI (m + 1))) hS rfl rfl rfl (by decide) (congrArg Value.int en) rfl ?_
      refine go_ifP (t' := 33) (pc' := 21) rfl rfl rfl (fun (c : (nI (m + 1)) ≤ 0) => absurd c (fun z => absurd ((nI_p0 (n := m + 1) (by omega)).1.mpr (by omega)) (Int32.not_lt.mpr z))) (fun _ => ?_)
      refine go_s (pc' := 22) rfl rfl rfl rfl ?_
      refine go_sget (pc' := 23) (v := .ref 83) hS rfl rfl rfl (by decide) rfl rfl ?_
      refine go_s (pc' := 24) (st' := [.int 0, .ref 83]) rfl rfl rfl rfl ?_
      refine go_sald (pc' := 25) (q := 0) (v := .int (I 16 0)) hS rfl (tr_s hr (a := 83) rfl (by decide)) rfl rfl (by decide) rfl rfl ?_
      refine go_s (pc' := 26) (st' := [.int 2, .int (I 16 0)]) rfl rfl rfl rfl ?_
      refine go_icmpP (t' := 30) (pc' := 27) rfl rfl rfl (fun _ => ?_) (fun (c : ¬ (¬ (I 16 0) = 2)) => absurd hne c)
      have h0 : I 16 0 = 0 := c4
      have hlv : lv I 0 = true := u3
      obtain ⟨n9, n98, n9e, n9t⟩ := hM.2.2.2.2.1.2.2.2.2.2.1
      have n9m : n9 = m + 1 := by
        have z : nI n9 = nI (m + 1) := n9e.symm.trans en
        exact (nI_eq (by omega) (by omega)).mp z
      subst n9m
      obtain ⟨t, ht, et⟩ := n9t 0 (by omega)
      change I 20 0 = nI t at et
      have hK3 := hM.2.2.1 0 (by decide)
      have hoh : ¬ I 12 0 = -1 → I 12 0 = ohI I 0 := fun z => (hK3.2.2.2.2.1 z).2.2.2
      have h5 : ¬ I 12 0 = -1 → sq Q + hc H hb ≤ 5 := fun z => by
        have y := sq_5 (k := 0) (by omega) hM (by decide) (US_no (by decide) hM (by show ¬ I 16 0 = 1; rw [h0]; decide) (hK3.2.2.2.2.1 z).1)
        have y2 : sq Q ≤ 5 := y
        omega
      have hOK : OK (Z (rwi I 0)) := MID_OK hM
      have hset : rset (b + 1) (I, Q, Z) = rset b (rbeg (I, Q, Z)) := by
        rw [rset_s, if_pos ⟨hlv, Or.inr ⟨h0, by show 0 < I 21 0; rw [en]; exact (nI_p0 (by omega)).1.mpr (by omega)⟩⟩, if_neg (show ¬ I 16 0 = 2 from hne)]
      have hMb := MID_beg (n := m + 1) (by omega) hM hlv h0 en (by omega) (by omega)
      have hlb := (rbeg_lv (n := m + 1) hM hlv h0 en (by omega) (by omega)).2
      have hcb := cst_beg (n := m + 1) hM hlv h0
      obtain rfl | rfl : t = 0 ∨ t = 1 := by omega
      · skip
        refine go_s (pc' := 31) rfl rfl rfl rfl ?_
        refine go_callV (pc' := 32) rfl rfl rfl (Nat.le_of_ble_eq_true rfl) rfl (sm_o hS rfl) rfl rfl rfl (ra_bg_0 hA (by omega) (n := m + 1) (by omega) (by omega) en et hp0 (lv_up hlv).1 hp1 hoh h5 hOK (by omega)) (fun r h5 q6 => ?_)
        obtain ⟨rfl, hA9⟩ := q6
        refine go_s (pc' := 0) rfl rfl rfl rfl ?_
        refine go_post (hB (X + 2) (rbeg (I, Q, Z)) b _ (R + 1) hMb (by omega) (by rw [hlb]; rfl) (by omega) (by omega) hA9) (fun r h9 hp => ⟨hp.1, ?_⟩)
        rw [hset]
        exact RA_R (by omega) hp.2
      · skip
        refine go_s (pc' := 31) rfl rfl rfl rfl ?_
        refine go_callV (pc' := 32) rfl rfl rfl (Nat.le_of_ble_eq_true rfl) rfl (sm_o hS rfl) rfl rfl rfl (ra_bg_1 hA (by omega) (n := m + 1) (by omega) (by omega) en et hp0 (lv_up hlv).1 hp2 hoh h5 hOK (by omega)) (fun r h7 q8 => ?_)
        obtain ⟨rfl, hA9⟩ := q8
        refine go_s (pc' := 0) rfl rfl rfl rfl ?_
        refine go_post (hB (X + 2) (rbeg (I, Q, Z)) b _ (R + 1) hMb (by omega) (by rw [hlb]; rfl) (by omega) (by omega) hA9) (fun r h9 hp => ⟨hp.1, ?_⟩)
        rw [hset]
        exact RA_R (by omega) hp.2
theorem st_B {w : Nat → Bool} {B : Nat} {H : List (Nat × mg)} {hb : Bool} {d n : Nat} (hA0 : SPa w B H hb d n) (hd : 8 ≤ d) (hR4 : 0 < 1) : SPb w B H hb d n := by
  intro X M b h R hM hX en hb2 hR hA
  obtain ⟨I, Q, Z⟩ := M
  by_cases h2 : I 16 0 = 2
  · skip
    obtain ⟨b, rfl⟩ : ∃ c, b = c + 1 := ⟨b - 1, by omega⟩
    obtain ⟨K, Y, am, ln, hS, hU⟩ := RA_u.mp hA
    change sm (tbr am (13 * ln) 77 5088) h (jn I K) Y at hS
    obtain ⟨hW, hWm, -, -, hr, -⟩ := id hU.1
    have hln := RU_ln hU (by omega)
    have hp0 : prk I 0 := (hM.2.2.1 0 (by decide)).1
    have hp1 : prk I 1 := (hM.2.2.1 1 (by decide)).1
    have hp2 : prk I 2 := (hM.2.2.1 2 (by decide)).1
    have hcs : cst (I, Q, Z) = if row1 (I, Q, Z) 0 3 = 1 then 1 else 2 := if_pos h2
    refine go_s (pc' := 1) rfl rfl rfl rfl ?_
    refine go_s (pc' := 2) (st' := [.int 0, .ref 62]) rfl rfl rfl rfl ?_
    refine go_callV (pc' := 3) rfl rfl rfl (Nat.le_of_ble_eq_true rfl) rfl (sm_o hS rfl) rfl rfl rfl (rt_lives_0 hr hS hp0 (by omega)) (fun r h1 q2 => ?_)
    obtain ⟨rfl, rfl⟩ := q2
    rw [show lv (jn I K) 0 = lv I 0 from rfl]
    cases u3 : lv I 0
    · skip
      show am_Go _ _ _ _ 3 _ [.int 0] _ _
      refine go_ifP (t' := 33) (pc' := 4) rfl rfl rfl (fun _ => ?_) (fun (c : ¬ ((0 : Int32) = 0)) => absurd (by decide) c)
      refine go_ret rfl rfl ?_
      rw [rset_no (fun z => by rw [show lv (I, Q, Z).1 0 = false from u3] at z; exact absurd z.1 (by decide))]
      exact ⟨rfl, RA_R (by omega) hA⟩
    · skip
      show am_Go _ _ _ _ 3 _ [.int 1] _ _
      refine go_ifP (t' := 33) (pc' := 4) rfl rfl rfl (fun (c : (1 : Int32) = 0) => absurd c (by decide)) (fun _ => ?_)
      refine go_s (pc' := 5) rfl rfl rfl rfl ?_
      refine go_sget (pc' := 6) (v := .ref 83) hS rfl rfl rfl (by decide) rfl rfl ?_
      refine go_s (pc' := 7) (st' := [.int 0, .ref 83]) rfl rfl rfl rfl ?_
      refine go_sald (pc' := 8) (q := 0) (v := .int (I 16 0)) hS rfl (tr_s hr (a := 83) rfl (by decide)) rfl rfl (by decide) rfl rfl ?_
      refine go_s (pc' := 9) (st' := [.int 2, .int (I 16 0)]) rfl rfl rfl rfl ?_
      refine go_icmpP (t' := 13) (pc' := 10) rfl rfl rfl (fun (c : ¬ (I 16 0) = 2) => absurd c (fun z => z h2)) (fun _ => ?_)
      refine go_s (pc' := 11) rfl rfl rfl rfl ?_
      refine go_callV (pc' := 12) rfl rfl rfl (Nat.le_of_ble_eq_true rfl) rfl (sm_o hS rfl) rfl rfl rfl (ra_aw hA (by omega) hp0 (lv_up u3).1 (by omega)) (fun r h4 q5 => ?_)
      obtain ⟨rfl, rfl⟩ := q5
      cases hraw : raw (I, Q, Z)
      · skip
        show am_Go _ _ _ _ 12 _ [.int 0] _ _
        refine go_ifP (t' := 21) (pc' := 13) rfl rfl rfl (fun (c : ¬ (0 : Int32) = 0) => absurd c (by decide)) (fun _ => ?_)
        refine go_s (pc' := 14) rfl rfl rfl rfl ?_
        refine go_sget (pc' := 15) (v := .ref 83) hS rfl rfl rfl (by decide) rfl rfl ?_
        refine go_s (pc' := 16) (st' := [.int 0, .ref 83]) rfl rfl rfl rfl ?_
        refine go_sald (pc' := 17) (q := 0) (v := .int (I 16 0)) hS rfl (tr_s hr (a := 83) rfl (by decide)) rfl rfl (by decide) rfl rfl ?_
        refine go_ifP (t' := 33) (pc' := 18) rfl rfl rfl (fun _ => ?_) (fun (c : ¬ (¬ (I 16 0) = 0)) => absurd (fun z => absurd (h2.symm.trans z) (by decide)) c)
        refine go_ret rfl rfl ?_
        rw [rset_no (fun z => z.2.elim (fun y => by rw [hraw] at y; exact absurd y.2 (by decide)) (fun y => absurd (h2.symm.trans y.1) (by decide)))]
        exact ⟨rfl, RA_R (by omega) hA⟩
      · skip
        show am_Go _ _ _ _ 12 _ [.int 1] _ _
        refine go_ifP (t' := 21) (pc' := 13) rfl rfl rfl (fun _ => ?_) (fun (c : ¬ (¬ (1 : Int32) = 0)) => absurd (by decide) c)
        refine go_s (pc' := 22) rfl rfl rfl rfl ?_
        refine go_sget (pc' := 23) (v := .ref 83) hS rfl rfl rfl (by decide) rfl rfl ?_
        refine go_s (pc' := 24) (st' := [.int 0, .ref 83]) rfl rfl rfl rfl ?_
        refine go_sald (pc' := 25) (q := 0) (v := .int (I 16 0)) hS rfl (tr_s hr (a := 83) rfl (by decide)) rfl rfl (by decide) rfl rfl ?_
        refine go_s (pc' := 26) (st' := [.int 2, .int (I 16 0)]) rfl rfl rfl rfl ?_
        refine go_icmpP (t' := 30) (pc' := 27) rfl rfl rfl (fun (c : ¬ (I 16 0) = 2) => absurd c (fun z => z h2)) (fun _ => ?_)
        refine go_s (pc' := 28) rfl rfl rfl rfl ?_
        have hlv : lv I 0 = true := u3
        have hOK := MID_OK hM
        have h4 : (Z (rwi I 0)).1 4 = 0 ∨ (Z (rwi I 0)).1 4 = 1 := by
          obtain ⟨t, ht, et⟩ := hOK.2.2.2.2.2.2.1
          obtain rfl | rfl : t = 0 ∨ t = 1 := by omega
          · exact Or.inl et
          · exact Or.inr et
        have hset : rset (b + 1) (I, Q, Z) = rset b (rfin (I, Q, Z)) := by
          rw [rset_s, if_pos ⟨hlv, Or.inl ⟨h2, hraw⟩⟩, if_pos (show I 16 0 = 2 from h2)]
        refine go_callV (pc' := 29) rfl rfl rfl (Nat.le_of_ble_eq_true rfl) rfl (sm_o hS rfl) rfl rfl rfl (ra_fin hA (by omega) hp0 hp1 hp2 (lv_up hlv).1 h4 hM.2.2.2.2.1.2.2.1 (by omega)) (fun r h6 q7 => ?_)
        obtain ⟨rfl, hA9⟩ := q7
        rw [← hcs] at hA9
        have hc2 : cst (I, Q, Z) ≤ 2 := by
          rw [hcs]
          split <;> omega
        refine go_s (pc' := 0) rfl rfl rfl rfl ?_
        have h16 : (rfin (I, Q, Z)).1 16 0 = 0 := by
          rw [e_fin (SM_of hM) h2]
          exact mfin_160
        refine go_post (hA0 (X + 2) (rfin (I, Q, Z)) b _ (R + cst (I, Q, Z)) (MID_fin hM hlv h2 hraw) (by omega) (by rw [rfin_I (by decide) (by decide) (by decide) (by decide) (by decide)]; exact en) (by rw [h16]; decide) (by omega) (by omega) hA9) (fun r h9 hp => ⟨hp.1, ?_⟩)
        rw [hset]
        exact hp.2
  · exact go_post (hA0 X (I, Q, Z) b h R hM (by omega) en h2 (by omega) (by omega) hA) (fun r h9 hp => ⟨hp.1, RA_R (by omega) hp.2⟩)
theorem st_all {w : Nat → Bool} {B : Nat} {H : List (Nat × mg)} {hb : Bool} {d : Nat} (hhc : hc H hb = 0) (hd : 8 ≤ d) : ∀ n, n ≤ 8 → SPb w B H hb d n := by
  intro n
  induction n with
  | zero => intro _; exact st_B (st_A0 hhc hd) hd (by decide)
  | succ m ih => intro hm; exact st_B (st_A1 hhc hm (ih (by omega)) hd) hd (by decide)
theorem ra_set {w : Nat → Bool} {d B R : Nat} {H : List (Nat × mg)} {hb : Bool} {h : am_Hp} {I : sm_I} {Q : mQ} {Z : mZ} (hA : RA w B R H hb h (I, Q, Z)) (hR : R + 4 < 40000) {X : Nat} (hM : MID X (I, Q, Z)) (hX : X + 50 < 2 ^ 28) (hhc : hc H hb = 0) (hd : 9 ≤ d) : am_Ev (am_prog w) d 140 [.ref 62] h (fun r h' => r = none ∧ RA w B (R + 2) H hb h' (rset 30 (I, Q, Z))) := by
  obtain ⟨n, hn8, en, -⟩ := hM.2.2.2.2.1.2.2.2.2.2.1
  have hc9 : cst (I, Q, Z) ≤ 2 := by
    unfold cst
    split
    · split <;> omega
    · omega
  obtain ⟨d, rfl⟩ : ∃ e, d = e + 1 := ⟨d - 1, by omega⟩
  refine ev_go rfl (Nat.le_of_ble_eq_true rfl) rfl ?_
  exact go_post (st_all hhc (by omega) n hn8 X (I, Q, Z) 30 h R hM (by omega) en (by omega) (by omega) hA) (fun r h9 hp => ⟨hp.1, RA_R (by omega) hp.2⟩)
