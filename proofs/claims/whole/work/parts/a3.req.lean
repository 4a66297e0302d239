/-! a terminal asks -/
def mrqr (r : Nat → Int32) (kd rc vl : Int32) : Nat → Int32 := uF (uF (uF (uF (uF r 0 (r 0 + 1)) 1 1) 2 kd) 3 rc) 4 vl
def mrqZ (t : Nat) (kd rc vl : Int32) (M : mM) : mM := (M.1, M.2.1, uZ M.2.2 (rwi M.1 (1 + t)) (mrqr (row1 M (1 + t)) kd rc vl, (M.2.2 (rwi M.1 (1 + t))).2))
def mreq (t : Nat) (kd rc vl : Int32) (M : mM) : Int32 × mM := if lv M.1 (1 + t) = true then (if row1 M (1 + t) 1 = 1 ∨ M.1 16 (1 + t) = 1 then (-1, M) else (row1 M (1 + t) 0 + 1, mtg t (mrqZ t kd rc vl M))) else (-1, M)
theorem i32_s (x : Int32) : ¬ x = x + 1 := by
  intro h
  have : x + 0 = x + 1 := by rw [Int32.add_zero]; exact h
  rw [Int32.add_right_inj] at this
  exact absurd this (by decide)
theorem TR_rq {h : am_Hp} {ow : ow_T} {t : Nat} {va vb v : Value} {r : Nat → Int32} {kd rc vl i : Int32} (k : TR h ow t va vb r) (o : ¬ r 1 = 1) (hi : r 11 = i) (a : Rq h ow v (fun j => match j with
  | 0 => nI t
  | 1 => i
  | 2 => r 0 + 1
  | 3 => r 5
  | 4 => kd
  | 5 => rc
  | _ => vl)) : TR h ow t v vb (mrqr r kd rc vl) := by
  rcases k with ⟨-, k2, k3, k4, k5, k6⟩ | ⟨q, -, -, k4, -⟩ | ⟨q, s9, k1, k2, k3, k4, k5, k6, k7, k8, q0, q1, q2, z⟩
  · exact Or.inr (Or.inl ⟨_, a, k2, by simp [mrqr, uF], by simp [mrqr, uF, k5], by simp [mrqr, uF, k6], rfl, by simp [mrqr, uF, hi], by simp [mrqr, uF], by simp [mrqr, uF], by simp [mrqr, uF], by simp [mrqr, uF], by simp [mrqr, uF]⟩)
  · exact absurd k4 o
  · rcases z with ⟨z1, z2⟩ | ⟨z1, -⟩
    · exact Or.inr (Or.inr ⟨_, s9, a, k2, by simp [mrqr, uF, k3], by simp [mrqr, uF, k4], by simp [mrqr, uF, k5], by simp [mrqr, uF, k6], by simp [mrqr, uF, k7], by simp [mrqr, uF, k8], rfl, by simp [mrqr, uF, hi], by simp [mrqr, uF], Or.inr ⟨by simp [mrqr, uF], by simp [mrqr, uF, z2, i32_s], by simp [mrqr, uF], by simp [mrqr, uF], by simp [mrqr, uF], by simp [mrqr, uF]⟩⟩)
    · exact absurd z1 o
theorem ca_req_0 {w : Nat → Bool} {d : Nat} {h : am_Hp} {m0 : mg} {B : Nat} {I : sm_I} {Q : mQ} {Z : mZ} (hC : CA w 32 m0 B h (I, Q, Z)) (hB2 : B < 2 ^ 26) {kd rc vl : Int32} (hin : lv I 1 = true → row1 (I, Q, Z) (1 + 0) 11 = I 17 0) (hd : 6 ≤ d) : am_Ev (am_prog w) d 9 [.ref 1, .int 0, .int kd, .int rc, .int vl] h (fun r h' => r = some (.int (mreq 0 kd rc vl (I, Q, Z)).1) ∧ CA w 32 m0 (B + 60) h' (mreq 0 kd rc vl (I, Q, Z)).2) := by
  obtain ⟨X, ow, sb, hS, hD, hB, hQ⟩ := hC
  change sm tbc h I X at hS
  change CD w 32 m0 h I Q Z X ow sb at hD
  change co h I ≤ B at hB
  change ∀ l, l < 16 → (Q l).length ≤ h.length at hQ
  have hW := hD.1.1
  have hWn : ∀ a, List.length h ≤ a → w a = true := fun a ha => (hD.1.2.1 a ha).1
  have hF1 := fr_refl tbc h
  have hln : 62 ≤ List.length h := sm_len hS
  obtain ⟨d, rfl⟩ : ∃ e, d = e + 1 := ⟨d - 1, by omega⟩
  refine ev_go rfl (Nat.le_of_ble_eq_true rfl) rfl ?_
  refine go_s (pc' := 1) rfl rfl rfl rfl ?_
  refine go_s (pc' := 2) rfl rfl rfl rfl ?_
  refine go_callV (pc' := 3) rfl rfl rfl (Nat.le_of_ble_eq_true rfl) rfl (sm_o hS rfl) rfl rfl rfl (ct_termAt_0 hS (by omega)) (fun r h2 q3 => ?_)
  obtain ⟨rfl, rfl⟩ := q3
  refine go_s (pc' := 4) (lo' := [some (.ref 1), some (.int 0), some (.int kd), some (.int rc), some (.int vl), some (.ref 59), none]) rfl rfl rfl rfl ?_
  refine go_s (pc' := 5) rfl rfl rfl rfl ?_
  refine go_s (pc' := 6) rfl rfl rfl rfl ?_
  refine go_s (pc' := 7) rfl rfl rfl rfl ?_
  refine go_s (pc' := 8) rfl rfl rfl rfl ?_
  refine go_callV (pc' := 9) rfl rfl rfl (Nat.le_of_ble_eq_true rfl) rfl (sm_o hS rfl) rfl rfl rfl (ct_works_1 hS (hD.2.2.2.2.2.2 1 (by decide)) (by omega)) (fun r h4 q5 => ?_)
  obtain ⟨rfl, rfl⟩ := q5
  cases u6 : lv I 1
  · skip
    show am_Go _ _ _ _ 9 _ [.int 0] _ _
    refine go_ifP (t' := 17) (pc' := 10) rfl rfl rfl (fun _ => ?_) (fun (c : ¬ ((0 : Int32) = 0)) => absurd (by decide) c)
    refine go_s (pc' := 18) (st' := [.int (-1)]) rfl rfl rfl rfl ?_
    refine go_ret rfl rfl ?_
    have hms : mreq 0 kd rc vl (I, Q, Z) = (-1, (I, Q, Z)) := by
      unfold mreq
      rw [if_neg (by rw [show lv (I, Q, Z).1 (1 + 0) = false from u6]; decide)]
    rw [hms]
    exact ⟨rfl, X, ow, sb, hS, hD, Nat.le_trans hB (by omega), hQ⟩
  · skip
    show am_Go _ _ _ _ 9 _ [.int 1] _ _
    refine go_ifP (t' := 17) (pc' := 10) rfl rfl rfl (fun (c : (1 : Int32) = 0) => absurd c (by decide)) (fun _ => ?_)
    have hv := u6
    have htr := (hD.2.2.2.2.2.1 0 (by decide)).1 hv
    change TR _ ow 0 (X 211 0) (X 212 0) (row1 (I, Q, Z) (1 + 0)) at htr
    have hinc := hin hv
    by_cases o1 : row1 (I, Q, Z) (1 + 0) 1 = 1
    · skip
      refine go_s (pc' := 11) rfl rfl rfl rfl ?_
      refine go_callV (pc' := 12) rfl rfl rfl (Nat.le_of_ble_eq_true rfl) rfl (sm_o hS rfl) rfl rfl rfl (ct_isOpen_0 hS htr (by omega)) (fun r h7 q8 => ?_)
      obtain ⟨rfl, rfl⟩ := q8
      rw [if_pos o1]
      refine go_ifP (t' := 17) (pc' := 13) rfl rfl rfl (fun _ => ?_) (fun (c : ¬ (¬ (1 : Int32) = 0)) => absurd (by decide) c)
      refine go_s (pc' := 18) (st' := [.int (-1)]) rfl rfl rfl rfl ?_
      refine go_ret rfl rfl ?_
      have hms : mreq 0 kd rc vl (I, Q, Z) = (-1, (I, Q, Z)) := by
        unfold mreq
        rw [if_pos (show lv (I, Q, Z).1 (1 + 0) = true from u6), if_pos (Or.inl o1)]
      rw [hms]
      exact ⟨rfl, X, ow, sb, hS, hD, Nat.le_trans hB (by omega), hQ⟩
    · skip
      refine go_s (pc' := 11) rfl rfl rfl rfl ?_
      refine go_callV (pc' := 12) rfl rfl rfl (Nat.le_of_ble_eq_true rfl) rfl (sm_o hS rfl) rfl rfl rfl (ct_isOpen_0 hS htr (by omega)) (fun r h9 q10 => ?_)
      obtain ⟨rfl, rfl⟩ := q10
      rw [if_neg o1]
      refine go_ifP (t' := 17) (pc' := 13) rfl rfl rfl (fun (c : ¬ (0 : Int32) = 0) => absurd c (by decide)) (fun _ => ?_)
      refine go_s (pc' := 14) rfl rfl rfl rfl ?_
      refine go_sget (pc' := 15) (v := .int (I 16 1)) hS rfl rfl rfl (by decide) rfl rfl ?_
      refine go_s (pc' := 16) (st' := [.int 1, .int (I 16 1)]) rfl rfl rfl rfl ?_
      refine go_icmpP (t' := 19) (pc' := 17) rfl rfl rfl (fun (c11 : ¬ (I 16 1) = 1) => ?_) (fun (c11' : ¬ ¬ (I 16 1) = 1) => ?_)
      · skip
        refine go_s (pc' := 20) rfl rfl rfl rfl ?_
        refine go_callV (pc' := 21) rfl rfl rfl (Nat.le_of_ble_eq_true rfl) rfl (sm_o hS rfl) rfl rfl rfl (ct_latest_0 hS htr (by omega)) (fun r h12 q13 => ?_)
        obtain ⟨rfl, rfl⟩ := q13
        refine go_s (pc' := 22) (st' := [.int 1, .int (row1 (I, Q, Z) (1 + 0) 0)]) rfl rfl rfl rfl ?_
        refine go_s (pc' := 23) rfl rfl rfl rfl ?_
        refine go_s (pc' := 24) (lo' := [some (.ref 1), some (.int 0), some (.int kd), some (.int rc), some (.int vl), some (.ref 59), some (.int ((row1 (I, Q, Z) (1 + 0) 0) + 1))]) rfl rfl rfl rfl ?_
        refine go_s (pc' := 25) rfl rfl rfl rfl ?_
        refine go_newF (pc' := 26) (n := 7) rfl rfl rfl rfl (fun L14 h15 hL16 hc17 hg18 => ?_)
        have ge_L14 : _ ≤ L14 := hL16 ▸ hF1.1
        have nb_L14 := tbc_out L14 (by have := sm_len hS; omega)
        have hS19 := sm_gq hS hg18
        have hF20 := fr_gq hF1 hg18
        refine go_s (pc' := 27) rfl rfl rfl rfl ?_
        refine go_s (pc' := 28) rfl rfl rfl rfl ?_
        refine go_s (pc' := 29) rfl rfl rfl rfl ?_
        refine go_sget (pc' := 30) (v := .int (I 17 0)) hS19 rfl rfl rfl (by decide) rfl rfl ?_
        refine go_s (pc' := 31) rfl rfl rfl rfl ?_
        refine go_s (pc' := 32) rfl rfl rfl rfl ?_
        refine go_callV (pc' := 33) rfl rfl rfl (Nat.le_of_ble_eq_true rfl) rfl (sm_o hS19 rfl) rfl rfl rfl (ct_epoch_0 hS19 (TR_ex (ex_fr hD.1 hF20) (by omega) htr) hinc (by omega)) (fun r h21 q22 => ?_)
        obtain ⟨rfl, rfl⟩ := q22
        refine go_s (pc' := 34) rfl rfl rfl rfl ?_
        refine go_s (pc' := 35) rfl rfl rfl rfl ?_
        refine go_s (pc' := 36) rfl rfl rfl rfl ?_
        refine go_callI (pc' := 37) rfl rfl rfl (Nat.le_of_ble_eq_true rfl) rfl hc17 rfl rfl rfl (ci_req hc17 (hWn _ (by omega)) (by omega)) (fun r h23 q24 => ?_)
        obtain ⟨rfl, hc25, hp26⟩ := q24
        have hS27 := sm_pq hS19 hp26 nb_L14
        have hF28 := fr_pq hF20 hp26 (by omega)
        refine go_sputX (pc' := 38) hS27 rfl rfl rfl (by decide) tbc_inj (Nat.le_of_ble_eq_true rfl) (Nat.le_of_ble_eq_true rfl) rfl (hW _ rfl) rfl (fun h29 hS30 hE31 => ?_)
        have hF32 := fr_trans hF28 (fr_e hE31)
        have hq33 := (hE31.2.2 _ nb_L14).trans hc25
        have hrq9 : Rq h29 (owx ow L14 1) (.ref L14) (fun j => match j with
          | 0 => nI 0
          | 1 => I 17 0
          | 2 => row1 (I, Q, Z) (1 + 0) 0 + 1
          | 3 => row1 (I, Q, Z) (1 + 0) 5
          | 4 => kd
          | 5 => rc
          | _ => vl) := ⟨L14, rfl, by simp [owx], hq33⟩
        have hD8 := CD_nw (L := L14) hD hF32 (by omega) (lt_of hq33) hln
        have htr8 := (hD8.2.2.2.2.2.1 0 (by decide)).1 hv
        change TR _ _ 0 (X 211 0) (X 212 0) (row1 (I, Q, Z) (1 + 0)) at htr8
        have hD9 : CD w 32 m0 h29 I Q (mrqZ 0 kd rc vl (I, Q, Z)).2.2 (uX X 211 0 (.ref L14)) (owx ow L14 1) sb := CD_tr hD8 (by decide) (fun c h1 h2 => by funext j; simp [uX, h1]) (fun c j hj => by simp [uX, hj]) (by have z := TR_rq htr8 o1 hinc hrq9; simp only [uX]; exact z)
        have hC9 : CA w 32 m0 (B + 19) h29 (mrqZ 0 kd rc vl (I, Q, Z)) := ⟨(uX X 211 0 (.ref L14)), owx ow L14 1, sb, hS30, hD9, by have := co_fr (I := I) (J := I) hF32 rfl; show co _ I ≤ _; omega, fun l hl => Nat.le_trans (hQ l hl) hF32.1⟩
        obtain ⟨X34, ow34, sb34, hS34, hD34, hB34, hQ34⟩ := hC9
        have hW := hD34.1.1
        have hWn : ∀ a, List.length h29 ≤ a → w a = true := fun a ha => (hD34.1.2.1 a ha).1
        have hF35 := fr_refl tbc h29
        have hln : 62 ≤ List.length h29 := sm_len hS34
        refine go_s (pc' := 39) rfl rfl rfl rfl ?_
        refine go_s (pc' := 40) rfl rfl rfl rfl ?_
        by_cases b12 : I 12 1 = -1
        · skip
          have hC36 : CA w 32 m0 (B + 19) h29 (mrqZ 0 kd rc vl (I, Q, Z)) := ⟨X34, ow34, sb34, hS34, hD34, hB34, hQ34⟩
          refine go_callV (pc' := 41) rfl rfl rfl (Nat.le_of_ble_eq_true rfl) rfl (sm_o hS34 rfl) rfl rfl rfl (cm_tl_1 hC36 (by omega) hv (by omega)) (fun r h37 q38 => ?_)
          obtain ⟨rfl, hC39⟩ := q38
          change CA w 32 m0 ((B + 19) + 20) h37 (mtl 1 (mrqZ 0 kd rc vl (I, Q, Z))) at hC39
          obtain ⟨X40, ow40, sb40, hS40, hD40, hB40, hQ40⟩ := hC39
          have hW := hD40.1.1
          have hWn : ∀ a, List.length h37 ≤ a → w a = true := fun a ha => (hD40.1.2.1 a ha).1
          have hF41 := fr_refl tbc h37
          have hln : 62 ≤ List.length h37 := sm_len hS40
          rw [show (if (I, Q, Z).1 12 1 = -1 then (1 : Int32) else 0) = 1 from if_pos b12]
          refine go_ifP (t' := 45) (pc' := 42) rfl rfl rfl (fun (c : (1 : Int32) = 0) => absurd c (by decide)) (fun _ => ?_)
          refine go_s (pc' := 43) rfl rfl rfl rfl ?_
          refine go_s (pc' := 44) rfl rfl rfl rfl ?_
          have hC42 : CA w 32 m0 ((B + 19) + 20) h37 (mtl 1 (mrqZ 0 kd rc vl (I, Q, Z))) := ⟨X40, ow40, sb40, hS40, hD40, hB40, hQ40⟩
          refine go_callV (pc' := 45) rfl rfl rfl (Nat.le_of_ble_eq_true rfl) rfl (sm_o hS40 rfl) rfl rfl rfl (cm_go_0 hC42 (by omega) (by rw [lv_c (I := I) (mtl_I (by omega) (by omega) (by omega) (by omega) (by omega) (by omega)) (mtl_I (by omega) (by omega) (by omega) (by omega) (by omega) (by omega))]; exact hv) (by omega)) (fun r h43 q44 => ?_)
          obtain ⟨rfl, hC45⟩ := q44
          change CA w 32 m0 (((B + 19) + 20) + 20) h43 (mgo 0 (mtl 1 (mrqZ 0 kd rc vl (I, Q, Z)))) at hC45
          obtain ⟨X46, ow46, sb46, hS46, hD46, hB46, hQ46⟩ := hC45
          have hW := hD46.1.1
          have hWn : ∀ a, List.length h43 ≤ a → w a = true := fun a ha => (hD46.1.2.1 a ha).1
          have hF47 := fr_refl tbc h43
          have hln : 62 ≤ List.length h43 := sm_len hS46
          refine go_s (pc' := 46) rfl rfl rfl rfl ?_
          refine go_ret rfl rfl ?_
          have hC48 : CA w 32 m0 (((B + 19) + 20) + 20) h43 (mgo 0 (mtl 1 (mrqZ 0 kd rc vl (I, Q, Z)))) := ⟨X46, ow46, sb46, hS46, hD46, hB46, hQ46⟩
          have hms : mreq 0 kd rc vl (I, Q, Z) = (row1 (I, Q, Z) (1 + 0) 0 + 1, (mgo 0 (mtl 1 (mrqZ 0 kd rc vl (I, Q, Z))))) := by
            unfold mreq
            rw [if_pos (show lv (I, Q, Z).1 (1 + 0) = true from u6), if_neg (fun z => z.elim o1 c11)]
            unfold mtg
            rw [if_pos (show (mrqZ 0 kd rc vl (I, Q, Z)).1 12 (1 + 0) = -1 from b12)]
          rw [hms]
          exact ⟨rfl, CA_le hC48 (by omega)⟩
        · skip
          have hC49 : CA w 32 m0 (B + 19) h29 (mrqZ 0 kd rc vl (I, Q, Z)) := ⟨X34, ow34, sb34, hS34, hD34, hB34, hQ34⟩
          refine go_callV (pc' := 41) rfl rfl rfl (Nat.le_of_ble_eq_true rfl) rfl (sm_o hS34 rfl) rfl rfl rfl (cm_tl_1 hC49 (by omega) hv (by omega)) (fun r h50 q51 => ?_)
          obtain ⟨rfl, hC52⟩ := q51
          change CA w 32 m0 ((B + 19) + 20) h50 (mtl 1 (mrqZ 0 kd rc vl (I, Q, Z))) at hC52
          obtain ⟨X53, ow53, sb53, hS53, hD53, hB53, hQ53⟩ := hC52
          have hW := hD53.1.1
          have hWn : ∀ a, List.length h50 ≤ a → w a = true := fun a ha => (hD53.1.2.1 a ha).1
          have hF54 := fr_refl tbc h50
          have hln : 62 ≤ List.length h50 := sm_len hS53
          rw [show (if (I, Q, Z).1 12 1 = -1 then (1 : Int32) else 0) = 0 from if_neg b12]
          refine go_ifP (t' := 45) (pc' := 42) rfl rfl rfl (fun _ => ?_) (fun (c : ¬ ((0 : Int32) = 0)) => absurd (by decide) c)
          refine go_s (pc' := 46) rfl rfl rfl rfl ?_
          refine go_ret rfl rfl ?_
          have hC55 : CA w 32 m0 ((B + 19) + 20) h50 (mtl 1 (mrqZ 0 kd rc vl (I, Q, Z))) := ⟨X53, ow53, sb53, hS53, hD53, hB53, hQ53⟩
          have hms : mreq 0 kd rc vl (I, Q, Z) = (row1 (I, Q, Z) (1 + 0) 0 + 1, (mtl 1 (mrqZ 0 kd rc vl (I, Q, Z)))) := by
            unfold mreq
            rw [if_pos (show lv (I, Q, Z).1 (1 + 0) = true from u6), if_neg (fun z => z.elim o1 c11)]
            unfold mtg
            rw [if_neg (show ¬ (mrqZ 0 kd rc vl (I, Q, Z)).1 12 (1 + 0) = -1 from b12)]
          rw [hms]
          exact ⟨rfl, CA_le hC55 (by omega)⟩
      · skip
        have c11 : (I 16 1) = 1 := Decidable.not_not.mp c11'
        refine go_s (pc' := 18) (st' := [.int (-1)]) rfl rfl rfl rfl ?_
        refine go_ret rfl rfl ?_
        have hms : mreq 0 kd rc vl (I, Q, Z) = (-1, (I, Q, Z)) := by
          unfold mreq
          rw [if_pos (show lv (I, Q, Z).1 (1 + 0) = true from u6), if_pos (Or.inr c11)]
        rw [hms]
        exact ⟨rfl, X, ow, sb, hS, hD, Nat.le_trans hB (by omega), hQ⟩
theorem ca_req_1 {w : Nat → Bool} {d : Nat} {h : am_Hp} {m0 : mg} {B : Nat} {I : sm_I} {Q : mQ} {Z : mZ} (hC : CA w 32 m0 B h (I, Q, Z)) (hB2 : B < 2 ^ 26) {kd rc vl : Int32} (hin : lv I 2 = true → row1 (I, Q, Z) (1 + 1) 11 = I 17 1) (hd : 6 ≤ d) : am_Ev (am_prog w) d 9 [.ref 1, .int 1, .int kd, .int rc, .int vl] h (fun r h' => r = some (.int (mreq 1 kd rc vl (I, Q, Z)).1) ∧ CA w 32 m0 (B + 60) h' (mreq 1 kd rc vl (I, Q, Z)).2) := by
  obtain ⟨X, ow, sb, hS, hD, hB, hQ⟩ := hC
  change sm tbc h I X at hS
  change CD w 32 m0 h I Q Z X ow sb at hD
  change co h I ≤ B at hB
  change ∀ l, l < 16 → (Q l).length ≤ h.length at hQ
  have hW := hD.1.1
  have hWn : ∀ a, List.length h ≤ a → w a = true := fun a ha => (hD.1.2.1 a ha).1
  have hF1 := fr_refl tbc h
  have hln : 62 ≤ List.length h := sm_len hS
  obtain ⟨d, rfl⟩ : ∃ e, d = e + 1 := ⟨d - 1, by omega⟩
  refine ev_go rfl (Nat.le_of_ble_eq_true rfl) rfl ?_
  refine go_s (pc' := 1) rfl rfl rfl rfl ?_
  refine go_s (pc' := 2) rfl rfl rfl rfl ?_
  refine go_callV (pc' := 3) rfl rfl rfl (Nat.le_of_ble_eq_true rfl) rfl (sm_o hS rfl) rfl rfl rfl (ct_termAt_1 hS (by omega)) (fun r h2 q3 => ?_)
  obtain ⟨rfl, rfl⟩ := q3
  refine go_s (pc' := 4) (lo' := [some (.ref 1), some (.int 1), some (.int kd), some (.int rc), some (.int vl), some (.ref 60), none]) rfl rfl rfl rfl ?_
  refine go_s (pc' := 5) rfl rfl rfl rfl ?_
  refine go_s (pc' := 6) rfl rfl rfl rfl ?_
  refine go_s (pc' := 7) rfl rfl rfl rfl ?_
  refine go_s (pc' := 8) rfl rfl rfl rfl ?_
  refine go_callV (pc' := 9) rfl rfl rfl (Nat.le_of_ble_eq_true rfl) rfl (sm_o hS rfl) rfl rfl rfl (ct_works_2 hS (hD.2.2.2.2.2.2 2 (by decide)) (by omega)) (fun r h4 q5 => ?_)
  obtain ⟨rfl, rfl⟩ := q5
  cases u6 : lv I 2
  · skip
    show am_Go _ _ _ _ 9 _ [.int 0] _ _
    refine go_ifP (t' := 17) (pc' := 10) rfl rfl rfl (fun _ => ?_) (fun (c : ¬ ((0 : Int32) = 0)) => absurd (by decide) c)
    refine go_s (pc' := 18) (st' := [.int (-1)]) rfl rfl rfl rfl ?_
    refine go_ret rfl rfl ?_
    have hms : mreq 1 kd rc vl (I, Q, Z) = (-1, (I, Q, Z)) := by
      unfold mreq
      rw [if_neg (by rw [show lv (I, Q, Z).1 (1 + 1) = false from u6]; decide)]
    rw [hms]
    exact ⟨rfl, X, ow, sb, hS, hD, Nat.le_trans hB (by omega), hQ⟩
  · skip
    show am_Go _ _ _ _ 9 _ [.int 1] _ _
    refine go_ifP (t' := 17) (pc' := 10) rfl rfl rfl (fun (c : (1 : Int32) = 0) => absurd c (by decide)) (fun _ => ?_)
    have hv := u6
    have htr := (hD.2.2.2.2.2.1 1 (by decide)).1 hv
    change TR _ ow 1 (X 211 1) (X 212 1) (row1 (I, Q, Z) (1 + 1)) at htr
    have hinc := hin hv
    by_cases o1 : row1 (I, Q, Z) (1 + 1) 1 = 1
    · skip
      refine go_s (pc' := 11) rfl rfl rfl rfl ?_
      refine go_callV (pc' := 12) rfl rfl rfl (Nat.le_of_ble_eq_true rfl) rfl (sm_o hS rfl) rfl rfl rfl (ct_isOpen_1 hS htr (by omega)) (fun r h7 q8 => ?_)
      obtain ⟨rfl, rfl⟩ := q8
      rw [if_pos o1]
      refine go_ifP (t' := 17) (pc' := 13) rfl rfl rfl (fun _ => ?_) (fun (c : ¬ (¬ (1 : Int32) = 0)) => absurd (by decide) c)
      refine go_s (pc' := 18) (st' := [.int (-1)]) rfl rfl rfl rfl ?_
      refine go_ret rfl rfl ?_
      have hms : mreq 1 kd rc vl (I, Q, Z) = (-1, (I, Q, Z)) := by
        unfold mreq
        rw [if_pos (show lv (I, Q, Z).1 (1 + 1) = true from u6), if_pos (Or.inl o1)]
      rw [hms]
      exact ⟨rfl, X, ow, sb, hS, hD, Nat.le_trans hB (by omega), hQ⟩
    · skip
      refine go_s (pc' := 11) rfl rfl rfl rfl ?_
      refine go_callV (pc' := 12) rfl rfl rfl (Nat.le_of_ble_eq_true rfl) rfl (sm_o hS rfl) rfl rfl rfl (ct_isOpen_1 hS htr (by omega)) (fun r h9 q10 => ?_)
      obtain ⟨rfl, rfl⟩ := q10
      rw [if_neg o1]
      refine go_ifP (t' := 17) (pc' := 13) rfl rfl rfl (fun (c : ¬ (0 : Int32) = 0) => absurd c (by decide)) (fun _ => ?_)
      refine go_s (pc' := 14) rfl rfl rfl rfl ?_
      refine go_sget (pc' := 15) (v := .int (I 16 2)) hS rfl rfl rfl (by decide) rfl rfl ?_
      refine go_s (pc' := 16) (st' := [.int 1, .int (I 16 2)]) rfl rfl rfl rfl ?_
      refine go_icmpP (t' := 19) (pc' := 17) rfl rfl rfl (fun (c11 : ¬ (I 16 2) = 1) => ?_) (fun (c11' : ¬ ¬ (I 16 2) = 1) => ?_)
      · skip
        refine go_s (pc' := 20) rfl rfl rfl rfl ?_
        refine go_callV (pc' := 21) rfl rfl rfl (Nat.le_of_ble_eq_true rfl) rfl (sm_o hS rfl) rfl rfl rfl (ct_latest_1 hS htr (by omega)) (fun r h12 q13 => ?_)
        obtain ⟨rfl, rfl⟩ := q13
        refine go_s (pc' := 22) (st' := [.int 1, .int (row1 (I, Q, Z) (1 + 1) 0)]) rfl rfl rfl rfl ?_
        refine go_s (pc' := 23) rfl rfl rfl rfl ?_
        refine go_s (pc' := 24) (lo' := [some (.ref 1), some (.int 1), some (.int kd), some (.int rc), some (.int vl), some (.ref 60), some (.int ((row1 (I, Q, Z) (1 + 1) 0) + 1))]) rfl rfl rfl rfl ?_
        refine go_s (pc' := 25) rfl rfl rfl rfl ?_
        refine go_newF (pc' := 26) (n := 7) rfl rfl rfl rfl (fun L14 h15 hL16 hc17 hg18 => ?_)
        have ge_L14 : _ ≤ L14 := hL16 ▸ hF1.1
        have nb_L14 := tbc_out L14 (by have := sm_len hS; omega)
        have hS19 := sm_gq hS hg18
        have hF20 := fr_gq hF1 hg18
        refine go_s (pc' := 27) rfl rfl rfl rfl ?_
        refine go_s (pc' := 28) rfl rfl rfl rfl ?_
        refine go_s (pc' := 29) rfl rfl rfl rfl ?_
        refine go_sget (pc' := 30) (v := .int (I 17 1)) hS19 rfl rfl rfl (by decide) rfl rfl ?_
        refine go_s (pc' := 31) rfl rfl rfl rfl ?_
        refine go_s (pc' := 32) rfl rfl rfl rfl ?_
        refine go_callV (pc' := 33) rfl rfl rfl (Nat.le_of_ble_eq_true rfl) rfl (sm_o hS19 rfl) rfl rfl rfl (ct_epoch_1 hS19 (TR_ex (ex_fr hD.1 hF20) (by omega) htr) hinc (by omega)) (fun r h21 q22 => ?_)
        obtain ⟨rfl, rfl⟩ := q22
        refine go_s (pc' := 34) rfl rfl rfl rfl ?_
        refine go_s (pc' := 35) rfl rfl rfl rfl ?_
        refine go_s (pc' := 36) rfl rfl rfl rfl ?_
        refine go_callI (pc' := 37) rfl rfl rfl (Nat.le_of_ble_eq_true rfl) rfl hc17 rfl rfl rfl (ci_req hc17 (hWn _ (by omega)) (by omega)) (fun r h23 q24 => ?_)
        obtain ⟨rfl, hc25, hp26⟩ := q24
        have hS27 := sm_pq hS19 hp26 nb_L14
        have hF28 := fr_pq hF20 hp26 (by omega)
        refine go_sputX (pc' := 38) hS27 rfl rfl rfl (by decide) tbc_inj (Nat.le_of_ble_eq_true rfl) (Nat.le_of_ble_eq_true rfl) rfl (hW _ rfl) rfl (fun h29 hS30 hE31 => ?_)
        have hF32 := fr_trans hF28 (fr_e hE31)
        have hq33 := (hE31.2.2 _ nb_L14).trans hc25
        have hrq9 : Rq h29 (owx ow L14 1) (.ref L14) (fun j => match j with
          | 0 => nI 1
          | 1 => I 17 1
          | 2 => row1 (I, Q, Z) (1 + 1) 0 + 1
          | 3 => row1 (I, Q, Z) (1 + 1) 5
          | 4 => kd
          | 5 => rc
          | _ => vl) := ⟨L14, rfl, by simp [owx], hq33⟩
        have hD8 := CD_nw (L := L14) hD hF32 (by omega) (lt_of hq33) hln
        have htr8 := (hD8.2.2.2.2.2.1 1 (by decide)).1 hv
        change TR _ _ 1 (X 211 1) (X 212 1) (row1 (I, Q, Z) (1 + 1)) at htr8
        have hD9 : CD w 32 m0 h29 I Q (mrqZ 1 kd rc vl (I, Q, Z)).2.2 (uX X 211 1 (.ref L14)) (owx ow L14 1) sb := CD_tr hD8 (by decide) (fun c h1 h2 => by funext j; simp [uX, h1]) (fun c j hj => by simp [uX, hj]) (by have z := TR_rq htr8 o1 hinc hrq9; simp only [uX]; exact z)
        have hC9 : CA w 32 m0 (B + 19) h29 (mrqZ 1 kd rc vl (I, Q, Z)) := ⟨(uX X 211 1 (.ref L14)), owx ow L14 1, sb, hS30, hD9, by have := co_fr (I := I) (J := I) hF32 rfl; show co _ I ≤ _; omega, fun l hl => Nat.le_trans (hQ l hl) hF32.1⟩
        obtain ⟨X34, ow34, sb34, hS34, hD34, hB34, hQ34⟩ := hC9
        have hW := hD34.1.1
        have hWn : ∀ a, List.length h29 ≤ a → w a = true := fun a ha => (hD34.1.2.1 a ha).1
        have hF35 := fr_refl tbc h29
        have hln : 62 ≤ List.length h29 := sm_len hS34
        refine go_s (pc' := 39) rfl rfl rfl rfl ?_
        refine go_s (pc' := 40) rfl rfl rfl rfl ?_
        by_cases b12 : I 12 2 = -1
        · skip
          have hC36 : CA w 32 m0 (B + 19) h29 (mrqZ 1 kd rc vl (I, Q, Z)) := ⟨X34, ow34, sb34, hS34, hD34, hB34, hQ34⟩
          refine go_callV (pc' := 41) rfl rfl rfl (Nat.le_of_ble_eq_true rfl) rfl (sm_o hS34 rfl) rfl rfl rfl (cm_tl_2 hC36 (by omega) hv (by omega)) (fun r h37 q38 => ?_)
          obtain ⟨rfl, hC39⟩ := q38
          change CA w 32 m0 ((B + 19) + 20) h37 (mtl 2 (mrqZ 1 kd rc vl (I, Q, Z))) at hC39
          obtain ⟨X40, ow40, sb40, hS40, hD40, hB40, hQ40⟩ := hC39
          have hW := hD40.1.1
          have hWn : ∀ a, List.length h37 ≤ a → w a = true := fun a ha => (hD40.1.2.1 a ha).1
          have hF41 := fr_refl tbc h37
          have hln : 62 ≤ List.length h37 := sm_len hS40
          rw [show (if (I, Q, Z).1 12 2 = -1 then (1 : Int32) else 0) = 1 from if_pos b12]
          refine go_ifP (t' := 45) (pc' := 42) rfl rfl rfl (fun (c : (1 : Int32) = 0) => absurd c (by decide)) (fun _ => ?_)
          refine go_s (pc' := 43) rfl rfl rfl rfl ?_
          refine go_s (pc' := 44) rfl rfl rfl rfl ?_
          have hC42 : CA w 32 m0 ((B + 19) + 20) h37 (mtl 2 (mrqZ 1 kd rc vl (I, Q, Z))) := ⟨X40, ow40, sb40, hS40, hD40, hB40, hQ40⟩
          refine go_callV (pc' := 45) rfl rfl rfl (Nat.le_of_ble_eq_true rfl) rfl (sm_o hS40 rfl) rfl rfl rfl (cm_go_1 hC42 (by omega) (by rw [lv_c (I := I) (mtl_I (by omega) (by omega) (by omega) (by omega) (by omega) (by omega)) (mtl_I (by omega) (by omega) (by omega) (by omega) (by omega) (by omega))]; exact hv) (by omega)) (fun r h43 q44 => ?_)
          obtain ⟨rfl, hC45⟩ := q44
          change CA w 32 m0 (((B + 19) + 20) + 20) h43 (mgo 1 (mtl 2 (mrqZ 1 kd rc vl (I, Q, Z)))) at hC45
          obtain ⟨X46, ow46, sb46, hS46, hD46, hB46, hQ46⟩ := hC45
          have hW := hD46.1.1
          have hWn : ∀ a, List.length h43 ≤ a → w a = true := fun a ha => (hD46.1.2.1 a ha).1
          have hF47 := fr_refl tbc h43
          have hln : 62 ≤ List.length h43 := sm_len hS46
          refine go_s (pc' := 46) rfl rfl rfl rfl ?_
          refine go_ret rfl rfl ?_
          have hC48 : CA w 32 m0 (((B + 19) + 20) + 20) h43 (mgo 1 (mtl 2 (mrqZ 1 kd rc vl (I, Q, Z)))) := ⟨X46, ow46, sb46, hS46, hD46, hB46, hQ46⟩
          have hms : mreq 1 kd rc vl (I, Q, Z) = (row1 (I, Q, Z) (1 + 1) 0 + 1, (mgo 1 (mtl 2 (mrqZ 1 kd rc vl (I, Q, Z))))) := by
            unfold mreq
            rw [if_pos (show lv (I, Q, Z).1 (1 + 1) = true from u6), if_neg (fun z => z.elim o1 c11)]
            unfold mtg
            rw [if_pos (show (mrqZ 1 kd rc vl (I, Q, Z)).1 12 (1 + 1) = -1 from b12)]
          rw [hms]
          exact ⟨rfl, CA_le hC48 (by omega)⟩
        · skip
          have hC49 : CA w 32 m0 (B + 19) h29 (mrqZ 1 kd rc vl (I, Q, Z)) := ⟨X34, ow34, sb34, hS34, hD34, hB34, hQ34⟩
          refine go_callV (pc' := 41) rfl rfl rfl (Nat.le_of_ble_eq_true rfl) rfl (sm_o hS34 rfl) rfl rfl rfl (cm_tl_2 hC49 (by omega) hv (by omega)) (fun r h50 q51 => ?_)
          obtain ⟨rfl, hC52⟩ := q51
          change CA w 32 m0 ((B + 19) + 20) h50 (mtl 2 (mrqZ 1 kd rc vl (I, Q, Z))) at hC52
          obtain ⟨X53, ow53, sb53, hS53, hD53, hB53, hQ53⟩ := hC52
          have hW := hD53.1.1
          have hWn : ∀ a, List.length h50 ≤ a → w a = true := fun a ha => (hD53.1.2.1 a ha).1
          have hF54 := fr_refl tbc h50
          have hln : 62 ≤ List.length h50 := sm_len hS53
          rw [show (if (I, Q, Z).1 12 2 = -1 then (1 : Int32) else 0) = 0 from if_neg b12]
          refine go_ifP (t' := 45) (pc' := 42) rfl rfl rfl (fun _ => ?_) (fun (c : ¬ ((0 : Int32) = 0)) => absurd (by decide) c)
          refine go_s (pc' := 46) rfl rfl rfl rfl ?_
          refine go_ret rfl rfl ?_
          have hC55 : CA w 32 m0 ((B + 19) + 20) h50 (mtl 2 (mrqZ 1 kd rc vl (I, Q, Z))) := ⟨X53, ow53, sb53, hS53, hD53, hB53, hQ53⟩
          have hms : mreq 1 kd rc vl (I, Q, Z) = (row1 (I, Q, Z) (1 + 1) 0 + 1, (mtl 2 (mrqZ 1 kd rc vl (I, Q, Z)))) := by
            unfold mreq
            rw [if_pos (show lv (I, Q, Z).1 (1 + 1) = true from u6), if_neg (fun z => z.elim o1 c11)]
            unfold mtg
            rw [if_neg (show ¬ (mrqZ 1 kd rc vl (I, Q, Z)).1 12 (1 + 1) = -1 from b12)]
          rw [hms]
          exact ⟨rfl, CA_le hC55 (by omega)⟩
      · skip
        have c11 : (I 16 2) = 1 := Decidable.not_not.mp c11'
        refine go_s (pc' := 18) (st' := [.int (-1)]) rfl rfl rfl rfl ?_
        refine go_ret rfl rfl ?_
        have hms : mreq 1 kd rc vl (I, Q, Z) = (-1, (I, Q, Z)) := by
          unfold mreq
          rw [if_pos (show lv (I, Q, Z).1 (1 + 1) = true from u6), if_pos (Or.inr c11)]
        rw [hms]
        exact ⟨rfl, X, ow, sb, hS, hD, Nat.le_trans hB (by omega), hQ⟩
theorem ca_req_f {w : Nat → Bool} {d : Nat} {h : am_Hp} {m0 : mg} {B : Nat} {I : sm_I} {Q : mQ} {Z : mZ} (hC : CA w 32 m0 B h (I, Q, Z)) (hB2 : B < 2 ^ 26) {a kd rc vl : Int32} (hn : a < 0 ∨ nI 2 ≤ a) (hd : 3 ≤ d) : am_Ev (am_prog w) d 9 [.ref 1, .int a, .int kd, .int rc, .int vl] h (fun r h' => r = some (.int (-1)) ∧ h' = h) := by
  obtain ⟨X, ow, sb, hS, hD, hB, hQ⟩ := hC
  change sm tbc h I X at hS
  change CD w 32 m0 h I Q Z X ow sb at hD
  change co h I ≤ B at hB
  change ∀ l, l < 16 → (Q l).length ≤ h.length at hQ
  have hW := hD.1.1
  have hWn : ∀ a, List.length h ≤ a → w a = true := fun a ha => (hD.1.2.1 a ha).1
  have hF1 := fr_refl tbc h
  have hln : 62 ≤ List.length h := sm_len hS
  obtain ⟨d, rfl⟩ : ∃ e, d = e + 1 := ⟨d - 1, by omega⟩
  refine ev_go rfl (Nat.le_of_ble_eq_true rfl) rfl ?_
  refine go_s (pc' := 1) rfl rfl rfl rfl ?_
  refine go_s (pc' := 2) rfl rfl rfl rfl ?_
  refine go_callV (pc' := 3) rfl rfl rfl (Nat.le_of_ble_eq_true rfl) rfl (sm_o hS rfl) rfl rfl rfl (ct_termAt_f hS hn (by omega)) (fun r h2 q3 => ?_)
  obtain ⟨rfl, rfl⟩ := q3
  refine go_s (pc' := 4) (lo' := [some (.ref 1), some (.int a), some (.int kd), some (.int rc), some (.int vl), some (.null), none]) rfl rfl rfl rfl ?_
  refine go_s (pc' := 5) rfl rfl rfl rfl ?_
  refine go_s (pc' := 17) rfl rfl rfl rfl ?_
  refine go_s (pc' := 18) (st' := [.int (-1)]) rfl rfl rfl rfl ?_
  refine go_ret rfl rfl ?_
  exact ⟨rfl, rfl⟩
