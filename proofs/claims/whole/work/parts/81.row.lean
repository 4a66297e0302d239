theorem ct_same_n {w : Nat → Bool} {d : Nat} {h : am_Hp} {a : Nat} (hd : 1 ≤ d) : am_Ev (am_prog w) d 81 [.ref a, .null] h (fun r h' => r = some (.int 0) ∧ h' = h) := by
  obtain ⟨d, rfl⟩ : ∃ e, d = e + 1 := ⟨d - 1, by omega⟩
  refine ev_go rfl (Nat.le_of_ble_eq_true rfl) rfl ?_
  refine go_s (pc' := 1) rfl rfl rfl rfl ?_
  refine go_s (pc' := 19) rfl rfl rfl rfl ?_
  refine go_s (pc' := 20) (st' := [.int 0]) rfl rfl rfl rfl ?_
  refine go_ret rfl rfl ?_
  exact ⟨rfl, rfl⟩
theorem ct_same {w : Nat → Bool} {d : Nat} {h : am_Hp} {a b : Nat} {q p : Nat → Int32} (h_a : h[a]? = some (.inl (8, rqf q))) (h_b : h[b]? = some (.inl (8, rqf p))) (hd : 1 ≤ d) : am_Ev (am_prog w) d 81 [.ref a, .ref b] h (fun r h' => r = some (.int (b2i (smr q p))) ∧ h' = h) := by
  obtain ⟨d, rfl⟩ : ∃ e, d = e + 1 := ⟨d - 1, by omega⟩
  refine ev_go rfl (Nat.le_of_ble_eq_true rfl) rfl ?_
  refine go_s (pc' := 1) rfl rfl rfl rfl ?_
  refine go_s (pc' := 2) rfl rfl rfl rfl ?_
  refine go_s (pc' := 3) rfl rfl rfl rfl ?_
  refine go_get (pc' := 4) rfl h_a rfl (by decide) rfl rfl ?_
  refine go_s (pc' := 5) rfl rfl rfl rfl ?_
  refine go_get (pc' := 6) rfl h_b rfl (by decide) rfl rfl ?_
  refine go_icmpP (t' := 19) (pc' := 7) rfl rfl rfl (fun (c1 : ¬ (q 0) = (p 0)) => ?_) (fun (c1' : ¬ ¬ (q 0) = (p 0)) => ?_)
  · skip
    refine go_s (pc' := 20) (st' := [.int 0]) rfl rfl rfl rfl ?_
    refine go_ret rfl rfl ?_
    exact ⟨by simp [b2i, smr, c1], rfl⟩
  · skip
    have c1 : (q 0) = (p 0) := Decidable.not_not.mp c1'
    refine go_s (pc' := 8) rfl rfl rfl rfl ?_
    refine go_get (pc' := 9) rfl h_a rfl (by decide) rfl rfl ?_
    refine go_s (pc' := 10) rfl rfl rfl rfl ?_
    refine go_get (pc' := 11) rfl h_b rfl (by decide) rfl rfl ?_
    refine go_icmpP (t' := 19) (pc' := 12) rfl rfl rfl (fun (c2 : ¬ (q 1) = (p 1)) => ?_) (fun (c2' : ¬ ¬ (q 1) = (p 1)) => ?_)
    · skip
      refine go_s (pc' := 20) (st' := [.int 0]) rfl rfl rfl rfl ?_
      refine go_ret rfl rfl ?_
      exact ⟨by simp [b2i, smr, c1, c2], rfl⟩
    · skip
      have c2 : (q 1) = (p 1) := Decidable.not_not.mp c2'
      refine go_s (pc' := 13) rfl rfl rfl rfl ?_
      refine go_get (pc' := 14) rfl h_a rfl (by decide) rfl rfl ?_
      refine go_s (pc' := 15) rfl rfl rfl rfl ?_
      refine go_get (pc' := 16) rfl h_b rfl (by decide) rfl rfl ?_
      refine go_icmpP (t' := 19) (pc' := 17) rfl rfl rfl (fun (c3 : ¬ (q 2) = (p 2)) => ?_) (fun (c3' : ¬ ¬ (q 2) = (p 2)) => ?_)
      · skip
        refine go_s (pc' := 20) (st' := [.int 0]) rfl rfl rfl rfl ?_
        refine go_ret rfl rfl ?_
        exact ⟨by simp [b2i, smr, c1, c2, c3], rfl⟩
      · skip
        have c3 : (q 2) = (p 2) := Decidable.not_not.mp c3'
        refine go_s (pc' := 18) (st' := [.int 1]) rfl rfl rfl rfl ?_
        refine go_s (pc' := 20) rfl rfl rfl rfl ?_
        refine go_ret rfl rfl ?_
        exact ⟨by simp [b2i, smr, c1, c2, c3], rfl⟩
theorem SP_rw {h : am_Hp} {ow : ow_T} {sb : Nat} {I : sm_I} {Z : mZ} {X : sm_X} (k : SP h ow sb I Z X) {n : Nat} (e : I 21 0 = nI n) (hn : n ≤ 8) : ∀ k, k < n → Rq h ow (X 210 k) (fun i => I 20 (7 * k + i)) := by
  obtain ⟨-, -, -, m, h1, h2, h3⟩ := k
  rw [e, nI_eq (by omega) (by omega)] at h2
  subst h2
  exact h3
theorem stn_eq {I : sm_I} {n : Nat} (e : I 21 0 = nI n) (hn : n ≤ 8) : stn I = n := by
  unfold stn
  rw [e]
  exact nI_clamp (by omega)
theorem CD_msh {w : Nat → Bool} {e n : Nat} {m0 : mg} {h : am_Hp} {I : sm_I} {Q : mQ} {Z : mZ} {X X2 : sm_X} {ow : ow_T} {sb : Nat} (c : CD w e m0 h I Q Z X ow sb) (en : I 21 0 = nI (n + 1)) (hn : n + 1 ≤ 8) (hx : ∀ k, k < n → X2 210 k = X 210 (k + 1)) (hc : ∀ c, c ≠ 210 → X2 c = X c) : CD w e m0 h (msh I) Q Z X2 ow sb := by
  have f0 : ∀ c, c ≠ 20 → c ≠ 21 → msh I c = I c := fun c h1 h2 => by funext j; simp [msh, h1, h2]
  have es := stn_eq en hn
  obtain ⟨k1, k2, k3, k4, k5, k6, k7⟩ := c
  have hr := SP_rw k5 en hn
  refine ⟨k1, fun l hl => LK_c (k2 l hl) (by rw [hc _ (by omega)]) (by rw [hc _ (by omega)]) (by rw [hc _ (by omega)]), fun l hl => ?_, DT_c k4 (f0 _ (by omega) (by omega)) (f0 _ (by omega) (by omega)) (f0 _ (by omega) (by omega)) (by rw [f0 _ (by omega) (by omega)]) (f0 _ (by omega) (by omega)) (hc _ (by omega)) (hc _ (by omega)) (hc _ (by omega)), ?_, fun t ht => TM_c (k6 t ht) (f0 _ (by omega) (by omega)) (f0 _ (by omega) (by omega)) (f0 _ (by omega) (by omega)) (f0 _ (by omega) (by omega)) (f0 _ (by omega) (by omega)) (hc _ (by omega)) (hc _ (by omega)) (hc _ (by omega)) (hc _ (by omega)) (hc _ (by omega)), fun k hk => ?_⟩
  · have := k3 l hl
    unfold BT fbu at this ⊢
    rw [f0 _ (by omega) (by omega), f0 _ (by omega) (by omega), f0 _ (by omega) (by omega), hc _ (by omega), hc _ (by omega)]
    exact this
  · obtain ⟨s1, s2, s3, -⟩ := k5
    unfold SP lv rwi rwo pn at *
    rw [f0 0 (by omega) (by omega), f0 11 (by omega) (by omega), f0 40 (by omega) (by omega), hc 208 (by omega), hc 209 (by omega)]
    refine ⟨s1, s2, s3, n, by omega, by simp [msh, es], fun k hk => ?_⟩
    rw [hx k hk]
    refine Rq_eq (hr (k + 1) (by omega)) (fun i hi => ?_)
    simp only [msh, es]
    rw [if_pos ⟨trivial, by omega⟩]
    congr 1
    omega
  · have := k7 k hk
    unfold prk at this ⊢
    rw [f0 _ (by omega) (by omega)]
    exact this
theorem msh_sm {h : am_Hp} {I : sm_I} {X : sm_X} {n : Nat} (en : I 21 0 = nI (n + 1)) (hn : n + 1 ≤ 8) (s : sm tbc h (uI I 21 0 (nI n)) X) : sm tbc h (msh I) X := by
  refine sm_hid s (fun c j hc => ?_)
  have h1 : c ≠ 20 := fun e => by subst e; cases hc
  simp only [msh, uI, stn_eq en hn, h1, false_and, if_false, Nat.add_sub_cancel]
theorem CD_mrw {w : Nat → Bool} {e n : Nat} {m0 : mg} {h : am_Hp} {I : sm_I} {Q : mQ} {Z : mZ} {X X2 : sm_X} {ow : ow_T} {sb : Nat} {q : Nat → Int32} (c : CD w e m0 h I Q Z X ow sb) (en : I 21 0 = nI n) (hn : n < 8) (hq : Rq h ow (X2 210 n) q) (hx : ∀ k, k < n → X2 210 k = X 210 k) (hc : ∀ c, c ≠ 210 → X2 c = X c) : CD w e m0 h (mrw I n q) Q Z X2 ow sb := by
  have f0 : ∀ c, c ≠ 20 → c ≠ 21 → mrw I n q c = I c := fun c h1 h2 => by funext j; simp [mrw, h1, h2]
  obtain ⟨k1, k2, k3, k4, k5, k6, k7⟩ := c
  have hr := SP_rw k5 en (by omega)
  refine ⟨k1, fun l hl => LK_c (k2 l hl) (by rw [hc _ (by omega)]) (by rw [hc _ (by omega)]) (by rw [hc _ (by omega)]), fun l hl => ?_, DT_c k4 (f0 _ (by omega) (by omega)) (f0 _ (by omega) (by omega)) (f0 _ (by omega) (by omega)) (by rw [f0 _ (by omega) (by omega)]) (f0 _ (by omega) (by omega)) (hc _ (by omega)) (hc _ (by omega)) (hc _ (by omega)), ?_, fun t ht => TM_c (k6 t ht) (f0 _ (by omega) (by omega)) (f0 _ (by omega) (by omega)) (f0 _ (by omega) (by omega)) (f0 _ (by omega) (by omega)) (f0 _ (by omega) (by omega)) (hc _ (by omega)) (hc _ (by omega)) (hc _ (by omega)) (hc _ (by omega)) (hc _ (by omega)), fun k hk => ?_⟩
  · have := k3 l hl
    unfold BT fbu at this ⊢
    rw [f0 _ (by omega) (by omega), f0 _ (by omega) (by omega), f0 _ (by omega) (by omega), hc _ (by omega), hc _ (by omega)]
    exact this
  · obtain ⟨s1, s2, s3, -⟩ := k5
    unfold SP lv rwi rwo pn at *
    rw [f0 0 (by omega) (by omega), f0 11 (by omega) (by omega), f0 40 (by omega) (by omega), hc 208 (by omega), hc 209 (by omega)]
    refine ⟨s1, s2, s3, n + 1, by omega, by simp [mrw], fun k hk => ?_⟩
    by_cases ek : k = n
    · subst ek
      refine Rq_eq hq (fun i hi => ?_)
      simp only [mrw]
      rw [if_pos ⟨trivial, by omega, by omega⟩]
      congr 1
      omega
    · rw [hx k (by omega)]
      refine Rq_eq (hr k (by omega)) (fun i hi => ?_)
      simp only [mrw]
      rw [if_neg (by omega), if_neg (by omega)]
  · have := k7 k hk
    unfold prk at this ⊢
    rw [f0 _ (by omega) (by omega)]
    exact this
theorem mrw_sm {h : am_Hp} {I : sm_I} {X : sm_X} {n : Nat} {q : Nat → Int32} (s : sm tbc h (uI I 21 0 (nI (n + 1))) X) : sm tbc h (mrw I n q) X := by
  refine sm_hid s (fun c j hc => ?_)
  have h1 : c ≠ 20 := fun e => by subst e; cases hc
  simp only [mrw, uI, h1, false_and, if_false]
theorem cm_tf_1 {w : Nat → Bool} {d : Nat} {h : am_Hp} {e : Nat} {m0 : mg} {B : Nat} {I : sm_I} {Q : mQ} {Z : mZ} (hC : CA w e m0 B h (I, Q, Z)) (hB2 : B < 2 ^ 29) (en : I 21 0 = 1) (hd : 1 ≤ d) : am_Ev (am_prog w) d 49 [.ref 32] h (fun r h' => ∃ (a : Nat) (X' : sm_X) (ow : ow_T) (sb : Nat), r = some (.ref a) ∧ ow a = 1 ∧ h'[a]? = some (.inl (8, rqf (fun i => I 20 i))) ∧ sm tbc h' (msh I) X' ∧ CD w e m0 h' (msh I) Q Z X' ow sb ∧ co h' (msh I) + 700 ≤ B ∧ h'.length = h.length) := by
  obtain ⟨X, ow, sb, hS, hD, hB, hQ⟩ := hC
  change sm tbc h I X at hS
  change CD w e m0 h I Q Z X ow sb at hD
  change co h I ≤ B at hB
  change ∀ l, l < 16 → (Q l).length ≤ h.length at hQ
  have hW := hD.1.1
  have hWn : ∀ a, List.length h ≤ a → w a = true := fun a ha => (hD.1.2.1 a ha).1
  have hF1 := fr_refl tbc h
  have hln : 62 ≤ List.length h := sm_len hS
  have hrw := SP_rw hD.2.2.2.2.1 (n := 1) en (by decide)
  obtain ⟨a0, x0, o0, ha0⟩ := hrw 0 (by decide)
  obtain ⟨d, rfl⟩ : ∃ e, d = e + 1 := ⟨d - 1, by omega⟩
  refine ev_go rfl (Nat.le_of_ble_eq_true rfl) rfl ?_
  refine go_s (pc' := 1) rfl rfl rfl rfl ?_
  refine go_sget (pc' := 2) (v := .int 1) hS rfl rfl rfl (by decide) (congrArg Value.int en) rfl ?_
  refine go_ifP (t' := 5) (pc' := 3) rfl rfl rfl (fun _ => ?_) (fun (c : ¬ (¬ (1 : Int32) = 0)) => absurd (by decide) c)
  refine go_s (pc' := 6) rfl rfl rfl rfl ?_
  refine go_sget (pc' := 7) (v := .ref 57) hS rfl rfl rfl (by decide) rfl rfl ?_
  refine go_s (pc' := 8) (st' := [.int 0, .ref 57]) rfl rfl rfl rfl ?_
  refine go_sald (pc' := 9) (q := 0) (v := .ref a0) hS rfl rfl rfl rfl (by decide) x0 rfl ?_
  refine go_s (pc' := 10) (lo' := [some (.ref 32), some (.ref a0), none]) rfl rfl rfl rfl ?_
  refine go_s (pc' := 11) rfl rfl rfl rfl ?_
  refine go_s (pc' := 12) rfl rfl rfl rfl ?_
  refine go_sget (pc' := 13) (v := .int 1) hS rfl rfl rfl (by decide) (congrArg Value.int en) rfl ?_
  refine go_s (pc' := 14) (st' := [.int 1, .int 1, .ref 32]) rfl rfl rfl rfl ?_
  refine go_s (pc' := 15) (st' := [.int 0, .ref 32]) rfl rfl rfl rfl ?_
  refine go_sput (pc' := 16) hS rfl rfl rfl (by decide) tbc_inj (Nat.le_of_ble_eq_true rfl) rfl (hW _ rfl) rfl (fun h2 hS3 hE4 => ?_)
  have hF5 := fr_trans hF1 (fr_e hE4)
  refine go_s (pc' := 17) (st' := [.int 0]) rfl rfl rfl rfl ?_
  refine go_s (pc' := 18) (lo' := [some (.ref 32), some (.ref a0), some (.int 0)]) rfl rfl rfl rfl ?_
  refine go_s (pc' := 19) rfl rfl rfl rfl ?_
  refine go_s (pc' := 20) rfl rfl rfl rfl ?_
  refine go_sget (pc' := 21) (v := .int 0) hS3 rfl rfl rfl (by decide) rfl rfl ?_
  refine go_icmpP (t' := 34) (pc' := 22) rfl rfl rfl (fun _ => ?_) (fun (c : ¬ (0 ≤ (0 : Int32))) => absurd (by decide) c)
  refine go_s (pc' := 35) rfl rfl rfl rfl ?_
  refine go_ret rfl rfl ?_
  have hD6 := CD_msh (n := 0) (X2 := X) (CD_fr hD hF5) en (by decide) (fun k hk => by
    match k, hk with
    | _, h => exact absurd h (by omega)) (fun c hc => by funext j; simp [uX, hc])
  refine ⟨a0, X, ow, sb, rfl, o0, ?_, msh_sm (n := 0) en (by decide) hS3, hD6, ?_, by have := hF5.1; have := hF5.2.1; omega⟩
  · have z := ((hF5.2.2.2 _ (hD.1.2.2 _ (by omega)).2.1 (OW_lt hD.1 (by omega))).trans ha0)
    simpa using z
  · have := co_fr (J := I) hF5 rfl
    have es := stn_eq (n := 1) en (by decide)
    have e9 : msh I 21 0 = nI (0) := by simp [msh, es]
    have e8 : I 21 0 = nI 1 := en
    unfold co at hB this ⊢
    rw [e9]
    rw [e8] at hB this
    rw [nI_clamp (by decide)] at hB this ⊢
    omega
theorem cm_tf_2 {w : Nat → Bool} {d : Nat} {h : am_Hp} {e : Nat} {m0 : mg} {B : Nat} {I : sm_I} {Q : mQ} {Z : mZ} (hC : CA w e m0 B h (I, Q, Z)) (hB2 : B < 2 ^ 29) (en : I 21 0 = 2) (hd : 1 ≤ d) : am_Ev (am_prog w) d 49 [.ref 32] h (fun r h' => ∃ (a : Nat) (X' : sm_X) (ow : ow_T) (sb : Nat), r = some (.ref a) ∧ ow a = 1 ∧ h'[a]? = some (.inl (8, rqf (fun i => I 20 i))) ∧ sm tbc h' (msh I) X' ∧ CD w e m0 h' (msh I) Q Z X' ow sb ∧ co h' (msh I) + 700 ≤ B ∧ h'.length = h.length) := by
  obtain ⟨X, ow, sb, hS, hD, hB, hQ⟩ := hC
  change sm tbc h I X at hS
  change CD w e m0 h I Q Z X ow sb at hD
  change co h I ≤ B at hB
  change ∀ l, l < 16 → (Q l).length ≤ h.length at hQ
  have hW := hD.1.1
  have hWn : ∀ a, List.length h ≤ a → w a = true := fun a ha => (hD.1.2.1 a ha).1
  have hF1 := fr_refl tbc h
  have hln : 62 ≤ List.length h := sm_len hS
  have hrw := SP_rw hD.2.2.2.2.1 (n := 2) en (by decide)
  obtain ⟨a0, x0, o0, ha0⟩ := hrw 0 (by decide)
  obtain ⟨a1, x1, o1, ha1⟩ := hrw 1 (by decide)
  obtain ⟨d, rfl⟩ : ∃ e, d = e + 1 := ⟨d - 1, by omega⟩
  refine ev_go rfl (Nat.le_of_ble_eq_true rfl) rfl ?_
  refine go_s (pc' := 1) rfl rfl rfl rfl ?_
  refine go_sget (pc' := 2) (v := .int 2) hS rfl rfl rfl (by decide) (congrArg Value.int en) rfl ?_
  refine go_ifP (t' := 5) (pc' := 3) rfl rfl rfl (fun _ => ?_) (fun (c : ¬ (¬ (2 : Int32) = 0)) => absurd (by decide) c)
  refine go_s (pc' := 6) rfl rfl rfl rfl ?_
  refine go_sget (pc' := 7) (v := .ref 57) hS rfl rfl rfl (by decide) rfl rfl ?_
  refine go_s (pc' := 8) (st' := [.int 0, .ref 57]) rfl rfl rfl rfl ?_
  refine go_sald (pc' := 9) (q := 0) (v := .ref a0) hS rfl rfl rfl rfl (by decide) x0 rfl ?_
  refine go_s (pc' := 10) (lo' := [some (.ref 32), some (.ref a0), none]) rfl rfl rfl rfl ?_
  refine go_s (pc' := 11) rfl rfl rfl rfl ?_
  refine go_s (pc' := 12) rfl rfl rfl rfl ?_
  refine go_sget (pc' := 13) (v := .int 2) hS rfl rfl rfl (by decide) (congrArg Value.int en) rfl ?_
  refine go_s (pc' := 14) (st' := [.int 1, .int 2, .ref 32]) rfl rfl rfl rfl ?_
  refine go_s (pc' := 15) (st' := [.int 1, .ref 32]) rfl rfl rfl rfl ?_
  refine go_sput (pc' := 16) hS rfl rfl rfl (by decide) tbc_inj (Nat.le_of_ble_eq_true rfl) rfl (hW _ rfl) rfl (fun h2 hS3 hE4 => ?_)
  have hF5 := fr_trans hF1 (fr_e hE4)
  refine go_s (pc' := 17) (st' := [.int 0]) rfl rfl rfl rfl ?_
  refine go_s (pc' := 18) (lo' := [some (.ref 32), some (.ref a0), some (.int 0)]) rfl rfl rfl rfl ?_
  refine go_s (pc' := 19) rfl rfl rfl rfl ?_
  refine go_s (pc' := 20) rfl rfl rfl rfl ?_
  refine go_sget (pc' := 21) (v := .int 1) hS3 rfl rfl rfl (by decide) rfl rfl ?_
  refine go_icmpP (t' := 34) (pc' := 22) rfl rfl rfl (fun (c : 1 ≤ (0 : Int32)) => absurd c (by decide)) (fun _ => ?_)
  refine go_s (pc' := 23) rfl rfl rfl rfl ?_
  refine go_sget (pc' := 24) (v := .ref 57) hS3 rfl rfl rfl (by decide) rfl rfl ?_
  refine go_s (pc' := 25) rfl rfl rfl rfl ?_
  refine go_s (pc' := 26) rfl rfl rfl rfl ?_
  refine go_sget (pc' := 27) (v := .ref 57) hS3 rfl rfl rfl (by decide) rfl rfl ?_
  refine go_s (pc' := 28) rfl rfl rfl rfl ?_
  refine go_s (pc' := 29) (st' := [.int 1, .int 0, .ref 57, .int 0, .ref 57]) rfl rfl rfl rfl ?_
  refine go_s (pc' := 30) (st' := [.int 1, .ref 57, .int 0, .ref 57]) rfl rfl rfl rfl ?_
  refine go_sald (pc' := 31) (q := 1) (v := .ref a1) hS3 rfl rfl rfl rfl (by decide) x1 rfl ?_
  refine go_saast (pc' := 32) (q := 0) hS3 rfl rfl tbc_inj (Nat.le_of_ble_eq_true rfl) (Nat.le_of_ble_eq_true rfl) ((hF5.2.2.2 _ (hD.1.2.2 _ (by omega)).2.1 (OW_lt hD.1 (by omega))).trans ha1) (am_S_rq w) rfl (by decide) (by decide) (hW _ rfl) rfl (fun h6 hS7 hE8 => ?_)
  have hF9 := fr_trans hF5 (fr_e hE8)
  refine go_s (pc' := 33) (lo' := [some (.ref 32), some (.ref a0), some (.int 1)]) rfl rfl rfl rfl ?_
  refine go_s (pc' := 18) rfl rfl rfl rfl ?_
  refine go_s (pc' := 19) rfl rfl rfl rfl ?_
  refine go_s (pc' := 20) rfl rfl rfl rfl ?_
  refine go_sget (pc' := 21) (v := .int 1) hS7 rfl rfl rfl (by decide) rfl rfl ?_
  refine go_icmpP (t' := 34) (pc' := 22) rfl rfl rfl (fun _ => ?_) (fun (c : ¬ (1 ≤ (1 : Int32))) => absurd (by decide) c)
  refine go_s (pc' := 35) rfl rfl rfl rfl ?_
  refine go_ret rfl rfl ?_
  have hD10 := CD_msh (n := 1) (X2 := (uX X 210 0 (.ref a1))) (CD_fr hD hF9) en (by decide) (fun k hk => by
    match k, hk with
    | 0, _ => exact x1.symm) (fun c hc => by funext j; simp [uX, hc])
  refine ⟨a0, (uX X 210 0 (.ref a1)), ow, sb, rfl, o0, ?_, msh_sm (n := 1) en (by decide) hS7, hD10, ?_, by have := hF9.1; have := hF9.2.1; omega⟩
  · have z := ((hF9.2.2.2 _ (hD.1.2.2 _ (by omega)).2.1 (OW_lt hD.1 (by omega))).trans ha0)
    simpa using z
  · have := co_fr (J := I) hF9 rfl
    have es := stn_eq (n := 2) en (by decide)
    have e9 : msh I 21 0 = nI (1) := by simp [msh, es]
    have e8 : I 21 0 = nI 2 := en
    unfold co at hB this ⊢
    rw [e9]
    rw [e8] at hB this
    rw [nI_clamp (by decide)] at hB this ⊢
    omega
theorem cm_tf_3 {w : Nat → Bool} {d : Nat} {h : am_Hp} {e : Nat} {m0 : mg} {B : Nat} {I : sm_I} {Q : mQ} {Z : mZ} (hC : CA w e m0 B h (I, Q, Z)) (hB2 : B < 2 ^ 29) (en : I 21 0 = 3) (hd : 1 ≤ d) : am_Ev (am_prog w) d 49 [.ref 32] h (fun r h' => ∃ (a : Nat) (X' : sm_X) (ow : ow_T) (sb : Nat), r = some (.ref a) ∧ ow a = 1 ∧ h'[a]? = some (.inl (8, rqf (fun i => I 20 i))) ∧ sm tbc h' (msh I) X' ∧ CD w e m0 h' (msh I) Q Z X' ow sb ∧ co h' (msh I) + 700 ≤ B ∧ h'.length = h.length) := by
  obtain ⟨X, ow, sb, hS, hD, hB, hQ⟩ := hC
  change sm tbc h I X at hS
  change CD w e m0 h I Q Z X ow sb at hD
  change co h I ≤ B at hB
  change ∀ l, l < 16 → (Q l).length ≤ h.length at hQ
  have hW := hD.1.1
  have hWn : ∀ a, List.length h ≤ a → w a = true := fun a ha => (hD.1.2.1 a ha).1
  have hF1 := fr_refl tbc h
  have hln : 62 ≤ List.length h := sm_len hS
  have hrw := SP_rw hD.2.2.2.2.1 (n := 3) en (by decide)
  obtain ⟨a0, x0, o0, ha0⟩ := hrw 0 (by decide)
  obtain ⟨a1, x1, o1, ha1⟩ := hrw 1 (by decide)
  obtain ⟨a2, x2, o2, ha2⟩ := hrw 2 (by decide)
  obtain ⟨d, rfl⟩ : ∃ e, d = e + 1 := ⟨d - 1, by omega⟩
  refine ev_go rfl (Nat.le_of_ble_eq_true rfl) rfl ?_
  refine go_s (pc' := 1) rfl rfl rfl rfl ?_
  refine go_sget (pc' := 2) (v := .int 3) hS rfl rfl rfl (by decide) (congrArg Value.int en) rfl ?_
  refine go_ifP (t' := 5) (pc' := 3) rfl rfl rfl (fun _ => ?_) (fun (c : ¬ (¬ (3 : Int32) = 0)) => absurd (by decide) c)
  refine go_s (pc' := 6) rfl rfl rfl rfl ?_
  refine go_sget (pc' := 7) (v := .ref 57) hS rfl rfl rfl (by decide) rfl rfl ?_
  refine go_s (pc' := 8) (st' := [.int 0, .ref 57]) rfl rfl rfl rfl ?_
  refine go_sald (pc' := 9) (q := 0) (v := .ref a0) hS rfl rfl rfl rfl (by decide) x0 rfl ?_
  refine go_s (pc' := 10) (lo' := [some (.ref 32), some (.ref a0), none]) rfl rfl rfl rfl ?_
  refine go_s (pc' := 11) rfl rfl rfl rfl ?_
  refine go_s (pc' := 12) rfl rfl rfl rfl ?_
  refine go_sget (pc' := 13) (v := .int 3) hS rfl rfl rfl (by decide) (congrArg Value.int en) rfl ?_
  refine go_s (pc' := 14) (st' := [.int 1, .int 3, .ref 32]) rfl rfl rfl rfl ?_
  refine go_s (pc' := 15) (st' := [.int 2, .ref 32]) rfl rfl rfl rfl ?_
  refine go_sput (pc' := 16) hS rfl rfl rfl (by decide) tbc_inj (Nat.le_of_ble_eq_true rfl) rfl (hW _ rfl) rfl (fun h2 hS3 hE4 => ?_)
  have hF5 := fr_trans hF1 (fr_e hE4)
  refine go_s (pc' := 17) (st' := [.int 0]) rfl rfl rfl rfl ?_
  refine go_s (pc' := 18) (lo' := [some (.ref 32), some (.ref a0), some (.int 0)]) rfl rfl rfl rfl ?_
  refine go_s (pc' := 19) rfl rfl rfl rfl ?_
  refine go_s (pc' := 20) rfl rfl rfl rfl ?_
  refine go_sget (pc' := 21) (v := .int 2) hS3 rfl rfl rfl (by decide) rfl rfl ?_
  refine go_icmpP (t' := 34) (pc' := 22) rfl rfl rfl (fun (c : 2 ≤ (0 : Int32)) => absurd c (by decide)) (fun _ => ?_)
  refine go_s (pc' := 23) rfl rfl rfl rfl ?_
  refine go_sget (pc' := 24) (v := .ref 57) hS3 rfl rfl rfl (by decide) rfl rfl ?_
  refine go_s (pc' := 25) rfl rfl rfl rfl ?_
  refine go_s (pc' := 26) rfl rfl rfl rfl ?_
  refine go_sget (pc' := 27) (v := .ref 57) hS3 rfl rfl rfl (by decide) rfl rfl ?_
  refine go_s (pc' := 28) rfl rfl rfl rfl ?_
  refine go_s (pc' := 29) (st' := [.int 1, .int 0, .ref 57, .int 0, .ref 57]) rfl rfl rfl rfl ?_
  refine go_s (pc' := 30) (st' := [.int 1, .ref 57, .int 0, .ref 57]) rfl rfl rfl rfl ?_
  refine go_sald (pc' := 31) (q := 1) (v := .ref a1) hS3 rfl rfl rfl rfl (by decide) x1 rfl ?_
  refine go_saast (pc' := 32) (q := 0) hS3 rfl rfl tbc_inj (Nat.le_of_ble_eq_true rfl) (Nat.le_of_ble_eq_true rfl) ((hF5.2.2.2 _ (hD.1.2.2 _ (by omega)).2.1 (OW_lt hD.1 (by omega))).trans ha1) (am_S_rq w) rfl (by decide) (by decide) (hW _ rfl) rfl (fun h6 hS7 hE8 => ?_)
  have hF9 := fr_trans hF5 (fr_e hE8)
  refine go_s (pc' := 33) (lo' := [some (.ref 32), some (.ref a0), some (.int 1)]) rfl rfl rfl rfl ?_
  refine go_s (pc' := 18) rfl rfl rfl rfl ?_
  refine go_s (pc' := 19) rfl rfl rfl rfl ?_
  refine go_s (pc' := 20) rfl rfl rfl rfl ?_
  refine go_sget (pc' := 21) (v := .int 2) hS7 rfl rfl rfl (by decide) rfl rfl ?_
  refine go_icmpP (t' := 34) (pc' := 22) rfl rfl rfl (fun (c : 2 ≤ (1 : Int32)) => absurd c (by decide)) (fun _ => ?_)
  refine go_s (pc' := 23) rfl rfl rfl rfl ?_
  refine go_sget (pc' := 24) (v := .ref 57) hS7 rfl rfl rfl (by decide) rfl rfl ?_
  refine go_s (pc' := 25) rfl rfl rfl rfl ?_
  refine go_s (pc' := 26) rfl rfl rfl rfl ?_
  refine go_sget (pc' := 27) (v := .ref 57) hS7 rfl rfl rfl (by decide) rfl rfl ?_
  refine go_s (pc' := 28) rfl rfl rfl rfl ?_
  refine go_s (pc' := 29) (st' := [.int 1, .int 1, .ref 57, .int 1, .ref 57]) rfl rfl rfl rfl ?_
  refine go_s (pc' := 30) (st' := [.int 2, .ref 57, .int 1, .ref 57]) rfl rfl rfl rfl ?_
  refine go_sald (pc' := 31) (q := 2) (v := .ref a2) hS7 rfl rfl rfl rfl (by decide) x2 rfl ?_
  refine go_saast (pc' := 32) (q := 1) hS7 rfl rfl tbc_inj (Nat.le_of_ble_eq_true rfl) (Nat.le_of_ble_eq_true rfl) ((hF9.2.2.2 _ (hD.1.2.2 _ (by omega)).2.1 (OW_lt hD.1 (by omega))).trans ha2) (am_S_rq w) rfl (by decide) (by decide) (hW _ rfl) rfl (fun h10 hS11 hE12 => ?_)
  have hF13 := fr_trans hF9 (fr_e hE12)
  refine go_s (pc' := 33) (lo' := [some (.ref 32), some (.ref a0), some (.int 2)]) rfl rfl rfl rfl ?_
  refine go_s (pc' := 18) rfl rfl rfl rfl ?_
  refine go_s (pc' := 19) rfl rfl rfl rfl ?_
  refine go_s (pc' := 20) rfl rfl rfl rfl ?_
  refine go_sget (pc' := 21) (v := .int 2) hS11 rfl rfl rfl (by decide) rfl rfl ?_
  refine go_icmpP (t' := 34) (pc' := 22) rfl rfl rfl (fun _ => ?_) (fun (c : ¬ (2 ≤ (2 : Int32))) => absurd (by decide) c)
  refine go_s (pc' := 35) rfl rfl rfl rfl ?_
  refine go_ret rfl rfl ?_
  have hD14 := CD_msh (n := 2) (X2 := (uX (uX X 210 0 (.ref a1)) 210 1 (.ref a2))) (CD_fr hD hF13) en (by decide) (fun k hk => by
    match k, hk with
    | 0, _ => exact x1.symm
    | 1, _ => exact x2.symm) (fun c hc => by funext j; simp [uX, hc])
  refine ⟨a0, (uX (uX X 210 0 (.ref a1)) 210 1 (.ref a2)), ow, sb, rfl, o0, ?_, msh_sm (n := 2) en (by decide) hS11, hD14, ?_, by have := hF13.1; have := hF13.2.1; omega⟩
  · have z := ((hF13.2.2.2 _ (hD.1.2.2 _ (by omega)).2.1 (OW_lt hD.1 (by omega))).trans ha0)
    simpa using z
  · have := co_fr (J := I) hF13 rfl
    have es := stn_eq (n := 3) en (by decide)
    have e9 : msh I 21 0 = nI (2) := by simp [msh, es]
    have e8 : I 21 0 = nI 3 := en
    unfold co at hB this ⊢
    rw [e9]
    rw [e8] at hB this
    rw [nI_clamp (by decide)] at hB this ⊢
    omega
theorem cm_tf_4 {w : Nat → Bool} {d : Nat} {h : am_Hp} {e : Nat} {m0 : mg} {B : Nat} {I : sm_I} {Q : mQ} {Z : mZ} (hC : CA w e m0 B h (I, Q, Z)) (hB2 : B < 2 ^ 29) (en : I 21 0 = 4) (hd : 1 ≤ d) : am_Ev (am_prog w) d 49 [.ref 32] h (fun r h' => ∃ (a : Nat) (X' : sm_X) (ow : ow_T) (sb : Nat), r = some (.ref a) ∧ ow a = 1 ∧ h'[a]? = some (.inl (8, rqf (fun i => I 20 i))) ∧ sm tbc h' (msh I) X' ∧ CD w e m0 h' (msh I) Q Z X' ow sb ∧ co h' (msh I) + 700 ≤ B ∧ h'.length = h.length) := by
  obtain ⟨X, ow, sb, hS, hD, hB, hQ⟩ := hC
  change sm tbc h I X at hS
  change CD w e m0 h I Q Z X ow sb at hD
  change co h I ≤ B at hB
  change ∀ l, l < 16 → (Q l).length ≤ h.length at hQ
  have hW := hD.1.1
  have hWn : ∀ a, List.length h ≤ a → w a = true := fun a ha => (hD.1.2.1 a ha).1
  have hF1 := fr_refl tbc h
  have hln : 62 ≤ List.length h := sm_len hS
  have hrw := SP_rw hD.2.2.2.2.1 (n := 4) en (by decide)
  obtain ⟨a0, x0, o0, ha0⟩ := hrw 0 (by decide)
  obtain ⟨a1, x1, o1, ha1⟩ := hrw 1 (by decide)
  obtain ⟨a2, x2, o2, ha2⟩ := hrw 2 (by decide)
  obtain ⟨a3, x3, o3, ha3⟩ := hrw 3 (by decide)
  obtain ⟨d, rfl⟩ : ∃ e, d = e + 1 := ⟨d - 1, by omega⟩
  refine ev_go rfl (Nat.le_of_ble_eq_true rfl) rfl ?_
  refine go_s (pc' := 1) rfl rfl rfl rfl ?_
  refine go_sget (pc' := 2) (v := .int 4) hS rfl rfl rfl (by decide) (congrArg Value.int en) rfl ?_
  refine go_ifP (t' := 5) (pc' := 3) rfl rfl rfl (fun _ => ?_) (fun (c : ¬ (¬ (4 : Int32) = 0)) => absurd (by decide) c)
  refine go_s (pc' := 6) rfl rfl rfl rfl ?_
  refine go_sget (pc' := 7) (v := .ref 57) hS rfl rfl rfl (by decide) rfl rfl ?_
  refine go_s (pc' := 8) (st' := [.int 0, .ref 57]) rfl rfl rfl rfl ?_
  refine go_sald (pc' := 9) (q := 0) (v := .ref a0) hS rfl rfl rfl rfl (by decide) x0 rfl ?_
  refine go_s (pc' := 10) (lo' := [some (.ref 32), some (.ref a0), none]) rfl rfl rfl rfl ?_
  refine go_s (pc' := 11) rfl rfl rfl rfl ?_
  refine go_s (pc' := 12) rfl rfl rfl rfl ?_
  refine go_sget (pc' := 13) (v := .int 4) hS rfl rfl rfl (by decide) (congrArg Value.int en) rfl ?_
  refine go_s (pc' := 14) (st' := [.int 1, .int 4, .ref 32]) rfl rfl rfl rfl ?_
  refine go_s (pc' := 15) (st' := [.int 3, .ref 32]) rfl rfl rfl rfl ?_
  refine go_sput (pc' := 16) hS rfl rfl rfl (by decide) tbc_inj (Nat.le_of_ble_eq_true rfl) rfl (hW _ rfl) rfl (fun h2 hS3 hE4 => ?_)
  have hF5 := fr_trans hF1 (fr_e hE4)
  refine go_s (pc' := 17) (st' := [.int 0]) rfl rfl rfl rfl ?_
  refine go_s (pc' := 18) (lo' := [some (.ref 32), some (.ref a0), some (.int 0)]) rfl rfl rfl rfl ?_
  refine go_s (pc' := 19) rfl rfl rfl rfl ?_
  refine go_s (pc' := 20) rfl rfl rfl rfl ?_
  refine go_sget (pc' := 21) (v := .int 3) hS3 rfl rfl rfl (by decide) rfl rfl ?_
  refine go_icmpP (t' := 34) (pc' := 22) rfl rfl rfl (fun (c : 3 ≤ (0 : Int32)) => absurd c (by decide)) (fun _ => ?_)
  refine go_s (pc' := 23) rfl rfl rfl rfl ?_
  refine go_sget (pc' := 24) (v := .ref 57) hS3 rfl rfl rfl (by decide) rfl rfl ?_
  refine go_s (pc' := 25) rfl rfl rfl rfl ?_
  refine go_s (pc' := 26) rfl rfl rfl rfl ?_
  refine go_sget (pc' := 27) (v := .ref 57) hS3 rfl rfl rfl (by decide) rfl rfl ?_
  refine go_s (pc' := 28) rfl rfl rfl rfl ?_
  refine go_s (pc' := 29) (st' := [.int 1, .int 0, .ref 57, .int 0, .ref 57]) rfl rfl rfl rfl ?_
  refine go_s (pc' := 30) (st' := [.int 1, .ref 57, .int 0, .ref 57]) rfl rfl rfl rfl ?_
  refine go_sald (pc' := 31) (q := 1) (v := .ref a1) hS3 rfl rfl rfl rfl (by decide) x1 rfl ?_
  refine go_saast (pc' := 32) (q := 0) hS3 rfl rfl tbc_inj (Nat.le_of_ble_eq_true rfl) (Nat.le_of_ble_eq_true rfl) ((hF5.2.2.2 _ (hD.1.2.2 _ (by omega)).2.1 (OW_lt hD.1 (by omega))).trans ha1) (am_S_rq w) rfl (by decide) (by decide) (hW _ rfl) rfl (fun h6 hS7 hE8 => ?_)
  have hF9 := fr_trans hF5 (fr_e hE8)
  refine go_s (pc' := 33) (lo' := [some (.ref 32), some (.ref a0), some (.int 1)]) rfl rfl rfl rfl ?_
  refine go_s (pc' := 18) rfl rfl rfl rfl ?_
  refine go_s (pc' := 19) rfl rfl rfl rfl ?_
  refine go_s (pc' := 20) rfl rfl rfl rfl ?_
  refine go_sget (pc' := 21) (v := .int 3) hS7 rfl rfl rfl (by decide) rfl rfl ?_
  refine go_icmpP (t' := 34) (pc' := 22) rfl rfl rfl (fun (c : 3 ≤ (1 : Int32)) => absurd c (by decide)) (fun _ => ?_)
  refine go_s (pc' := 23) rfl rfl rfl rfl ?_
  refine go_sget (pc' := 24) (v := .ref 57) hS7 rfl rfl rfl (by decide) rfl rfl ?_
  refine go_s (pc' := 25) rfl rfl rfl rfl ?_
  refine go_s (pc' := 26) rfl rfl rfl rfl ?_
  refine go_sget (pc' := 27) (v := .ref 57) hS7 rfl rfl rfl (by decide) rfl rfl ?_
  refine go_s (pc' := 28) rfl rfl rfl rfl ?_
  refine go_s (pc' := 29) (st' := [.int 1, .int 1, .ref 57, .int 1, .ref 57]) rfl rfl rfl rfl ?_
  refine go_s (pc' := 30) (st' := [.int 2, .ref 57, .int 1, .ref 57]) rfl rfl rfl rfl ?_
  refine go_sald (pc' := 31) (q := 2) (v := .ref a2) hS7 rfl rfl rfl rfl (by decide) x2 rfl ?_
  refine go_saast (pc' := 32) (q := 1) hS7 rfl rfl tbc_inj (Nat.le_of_ble_eq_true rfl) (Nat.le_of_ble_eq_true rfl) ((hF9.2.2.2 _ (hD.1.2.2 _ (by omega)).2.1 (OW_lt hD.1 (by omega))).trans ha2) (am_S_rq w) rfl (by decide) (by decide) (hW _ rfl) rfl (fun h10 hS11 hE12 => ?_)
  have hF13 := fr_trans hF9 (fr_e hE12)
  refine go_s (pc' := 33) (lo' := [some (.ref 32), some (.ref a0), some (.int 2)]) rfl rfl rfl rfl ?_
  refine go_s (pc' := 18) rfl rfl rfl rfl ?_
  refine go_s (pc' := 19) rfl rfl rfl rfl ?_
  refine go_s (pc' := 20) rfl rfl rfl rfl ?_
  refine go_sget (pc' := 21) (v := .int 3) hS11 rfl rfl rfl (by decide) rfl rfl ?_
  refine go_icmpP (t' := 34) (pc' := 22) rfl rfl rfl (fun (c : 3 ≤ (2 : Int32)) => absurd c (by decide)) (fun _ => ?_)
  refine go_s (pc' := 23) rfl rfl rfl rfl ?_
  refine go_sget (pc' := 24) (v := .ref 57) hS11 rfl rfl rfl (by decide) rfl rfl ?_
  refine go_s (pc' := 25) rfl rfl rfl rfl ?_
  refine go_s (pc' := 26) rfl rfl rfl rfl ?_
  refine go_sget (pc' := 27) (v := .ref 57) hS11 rfl rfl rfl (by decide) rfl rfl ?_
  refine go_s (pc' := 28) rfl rfl rfl rfl ?_
  refine go_s (pc' := 29) (st' := [.int 1, .int 2, .ref 57, .int 2, .ref 57]) rfl rfl rfl rfl ?_
  refine go_s (pc' := 30) (st' := [.int 3, .ref 57, .int 2, .ref 57]) rfl rfl rfl rfl ?_
  refine go_sald (pc' := 31) (q := 3) (v := .ref a3) hS11 rfl rfl rfl rfl (by decide) x3 rfl ?_
  refine go_saast (pc' := 32) (q := 2) hS11 rfl rfl tbc_inj (Nat.le_of_ble_eq_true rfl) (Nat.le_of_ble_eq_true rfl) ((hF13.2.2.2 _ (hD.1.2.2 _ (by omega)).2.1 (OW_lt hD.1 (by omega))).trans ha3) (am_S_rq w) rfl (by decide) (by decide) (hW _ rfl) rfl (fun h14 hS15 hE16 => ?_)
  have hF17 := fr_trans hF13 (fr_e hE16)
  refine go_s (pc' := 33) (lo' := [some (.ref 32), some (.ref a0), some (.int 3)]) rfl rfl rfl rfl ?_
  refine go_s (pc' := 18) rfl rfl rfl rfl ?_
  refine go_s (pc' := 19) rfl rfl rfl rfl ?_
  refine go_s (pc' := 20) rfl rfl rfl rfl ?_
  refine go_sget (pc' := 21) (v := .int 3) hS15 rfl rfl rfl (by decide) rfl rfl ?_
  refine go_icmpP (t' := 34) (pc' := 22) rfl rfl rfl (fun _ => ?_) (fun (c : ¬ (3 ≤ (3 : Int32))) => absurd (by decide) c)
  refine go_s (pc' := 35) rfl rfl rfl rfl ?_
  refine go_ret rfl rfl ?_
  have hD18 := CD_msh (n := 3) (X2 := (uX (uX (uX X 210 0 (.ref a1)) 210 1 (.ref a2)) 210 2 (.ref a3))) (CD_fr hD hF17) en (by decide) (fun k hk => by
    match k, hk with
    | 0, _ => exact x1.symm
    | 1, _ => exact x2.symm
    | 2, _ => exact x3.symm) (fun c hc => by funext j; simp [uX, hc])
  refine ⟨a0, (uX (uX (uX X 210 0 (.ref a1)) 210 1 (.ref a2)) 210 2 (.ref a3)), ow, sb, rfl, o0, ?_, msh_sm (n := 3) en (by decide) hS15, hD18, ?_, by have := hF17.1; have := hF17.2.1; omega⟩
  · have z := ((hF17.2.2.2 _ (hD.1.2.2 _ (by omega)).2.1 (OW_lt hD.1 (by omega))).trans ha0)
    simpa using z
  · have := co_fr (J := I) hF17 rfl
    have es := stn_eq (n := 4) en (by decide)
    have e9 : msh I 21 0 = nI (3) := by simp [msh, es]
    have e8 : I 21 0 = nI 4 := en
    unfold co at hB this ⊢
    rw [e9]
    rw [e8] at hB this
    rw [nI_clamp (by decide)] at hB this ⊢
    omega
theorem cm_tf_5 {w : Nat → Bool} {d : Nat} {h : am_Hp} {e : Nat} {m0 : mg} {B : Nat} {I : sm_I} {Q : mQ} {Z : mZ} (hC : CA w e m0 B h (I, Q, Z)) (hB2 : B < 2 ^ 29) (en : I 21 0 = 5) (hd : 1 ≤ d) : am_Ev (am_prog w) d 49 [.ref 32] h (fun r h' => ∃ (a : Nat) (X' : sm_X) (ow : ow_T) (sb : Nat), r = some (.ref a) ∧ ow a = 1 ∧ h'[a]? = some (.inl (8, rqf (fun i => I 20 i))) ∧ sm tbc h' (msh I) X' ∧ CD w e m0 h' (msh I) Q Z X' ow sb ∧ co h' (msh I) + 700 ≤ B ∧ h'.length = h.length) := by
  obtain ⟨X, ow, sb, hS, hD, hB, hQ⟩ := hC
  change sm tbc h I X at hS
  change CD w e m0 h I Q Z X ow sb at hD
  change co h I ≤ B at hB
  change ∀ l, l < 16 → (Q l).length ≤ h.length at hQ
  have hW := hD.1.1
  have hWn : ∀ a, List.length h ≤ a → w a = true := fun a ha => (hD.1.2.1 a ha).1
  have hF1 := fr_refl tbc h
  have hln : 62 ≤ List.length h := sm_len hS
  have hrw := SP_rw hD.2.2.2.2.1 (n := 5) en (by decide)
  obtain ⟨a0, x0, o0, ha0⟩ := hrw 0 (by decide)
  obtain ⟨a1, x1, o1, ha1⟩ := hrw 1 (by decide)
  obtain ⟨a2, x2, o2, ha2⟩ := hrw 2 (by decide)
  obtain ⟨a3, x3, o3, ha3⟩ := hrw 3 (by decide)
  obtain ⟨a4, x4, o4, ha4⟩ := hrw 4 (by decide)
  obtain ⟨d, rfl⟩ : ∃ e, d = e + 1 := ⟨d - 1, by omega⟩
  refine ev_go rfl (Nat.le_of_ble_eq_true rfl) rfl ?_
  refine go_s (pc' := 1) rfl rfl rfl rfl ?_
  refine go_sget (pc' := 2) (v := .int 5) hS rfl rfl rfl (by decide) (congrArg Value.int en) rfl ?_
  refine go_ifP (t' := 5) (pc' := 3) rfl rfl rfl (fun _ => ?_) (fun (c : ¬ (¬ (5 : Int32) = 0)) => absurd (by decide) c)
  refine go_s (pc' := 6) rfl rfl rfl rfl ?_
  refine go_sget (pc' := 7) (v := .ref 57) hS rfl rfl rfl (by decide) rfl rfl ?_
  refine go_s (pc' := 8) (st' := [.int 0, .ref 57]) rfl rfl rfl rfl ?_
  refine go_sald (pc' := 9) (q := 0) (v := .ref a0) hS rfl rfl rfl rfl (by decide) x0 rfl ?_
  refine go_s (pc' := 10) (lo' := [some (.ref 32), some (.ref a0), none]) rfl rfl rfl rfl ?_
  refine go_s (pc' := 11) rfl rfl rfl rfl ?_
  refine go_s (pc' := 12) rfl rfl rfl rfl ?_
  refine go_sget (pc' := 13) (v := .int 5) hS rfl rfl rfl (by decide) (congrArg Value.int en) rfl ?_
  refine go_s (pc' := 14) (st' := [.int 1, .int 5, .ref 32]) rfl rfl rfl rfl ?_
  refine go_s (pc' := 15) (st' := [.int 4, .ref 32]) rfl rfl rfl rfl ?_
  refine go_sput (pc' := 16) hS rfl rfl rfl (by decide) tbc_inj (Nat.le_of_ble_eq_true rfl) rfl (hW _ rfl) rfl (fun h2 hS3 hE4 => ?_)
  have hF5 := fr_trans hF1 (fr_e hE4)
  refine go_s (pc' := 17) (st' := [.int 0]) rfl rfl rfl rfl ?_
  refine go_s (pc' := 18) (lo' := [some (.ref 32), some (.ref a0), some (.int 0)]) rfl rfl rfl rfl ?_
  refine go_s (pc' := 19) rfl rfl rfl rfl ?_
  refine go_s (pc' := 20) rfl rfl rfl rfl ?_
  refine go_sget (pc' := 21) (v := .int 4) hS3 rfl rfl rfl (by decide) rfl rfl ?_
  refine go_icmpP (t' := 34) (pc' := 22) rfl rfl rfl (fun (c : 4 ≤ (0 : Int32)) => absurd c (by decide)) (fun _ => ?_)
  refine go_s (pc' := 23) rfl rfl rfl rfl ?_
  refine go_sget (pc' := 24) (v := .ref 57) hS3 rfl rfl rfl (by decide) rfl rfl ?_
  refine go_s (pc' := 25) rfl rfl rfl rfl ?_
  refine go_s (pc' := 26) rfl rfl rfl rfl ?_
  refine go_sget (pc' := 27) (v := .ref 57) hS3 rfl rfl rfl (by decide) rfl rfl ?_
  refine go_s (pc' := 28) rfl rfl rfl rfl ?_
  refine go_s (pc' := 29) (st' := [.int 1, .int 0, .ref 57, .int 0, .ref 57]) rfl rfl rfl rfl ?_
  refine go_s (pc' := 30) (st' := [.int 1, .ref 57, .int 0, .ref 57]) rfl rfl rfl rfl ?_
  refine go_sald (pc' := 31) (q := 1) (v := .ref a1) hS3 rfl rfl rfl rfl (by decide) x1 rfl ?_
  refine go_saast (pc' := 32) (q := 0) hS3 rfl rfl tbc_inj (Nat.le_of_ble_eq_true rfl) (Nat.le_of_ble_eq_true rfl) ((hF5.2.2.2 _ (hD.1.2.2 _ (by omega)).2.1 (OW_lt hD.1 (by omega))).trans ha1) (am_S_rq w) rfl (by decide) (by decide) (hW _ rfl) rfl (fun h6 hS7 hE8 => ?_)
  have hF9 := fr_trans hF5 (fr_e hE8)
  refine go_s (pc' := 33) (lo' := [some (.ref 32), some (.ref a0), some (.int 1)]) rfl rfl rfl rfl ?_
  refine go_s (pc' := 18) rfl rfl rfl rfl ?_
  refine go_s (pc' := 19) rfl rfl rfl rfl ?_
  refine go_s (pc' := 20) rfl rfl rfl rfl ?_
  refine go_sget (pc' := 21) (v := .int 4) hS7 rfl rfl rfl (by decide) rfl rfl ?_
  refine go_icmpP (t' := 34) (pc' := 22) rfl rfl rfl (fun (c : 4 ≤ (1 : Int32)) => absurd c (by decide)) (fun _ => ?_)
  refine go_s (pc' := 23) rfl rfl rfl rfl ?_
  refine go_sget (pc' := 24) (v := .ref 57) hS7 rfl rfl rfl (by decide) rfl rfl ?_
  refine go_s (pc' := 25) rfl rfl rfl rfl ?_
  refine go_s (pc' := 26) rfl rfl rfl rfl ?_
  refine go_sget (pc' := 27) (v := .ref 57) hS7 rfl rfl rfl (by decide) rfl rfl ?_
  refine go_s (pc' := 28) rfl rfl rfl rfl ?_
  refine go_s (pc' := 29) (st' := [.int 1, .int 1, .ref 57, .int 1, .ref 57]) rfl rfl rfl rfl ?_
  refine go_s (pc' := 30) (st' := [.int 2, .ref 57, .int 1, .ref 57]) rfl rfl rfl rfl ?_
  refine go_sald (pc' := 31) (q := 2) (v := .ref a2) hS7 rfl rfl rfl rfl (by decide) x2 rfl ?_
  refine go_saast (pc' := 32) (q := 1) hS7 rfl rfl tbc_inj (Nat.le_of_ble_eq_true rfl) (Nat.le_of_ble_eq_true rfl) ((hF9.2.2.2 _ (hD.1.2.2 _ (by omega)).2.1 (OW_lt hD.1 (by omega))).trans ha2) (am_S_rq w) rfl (by decide) (by decide) (hW _ rfl) rfl (fun h10 hS11 hE12 => ?_)
  have hF13 := fr_trans hF9 (fr_e hE12)
  refine go_s (pc' := 33) (lo' := [some (.ref 32), some (.ref a0), some (.int 2)]) rfl rfl rfl rfl ?_
  refine go_s (pc' := 18) rfl rfl rfl rfl ?_
  refine go_s (pc' := 19) rfl rfl rfl rfl ?_
  refine go_s (pc' := 20) rfl rfl rfl rfl ?_
  refine go_sget (pc' := 21) (v := .int 4) hS11 rfl rfl rfl (by decide) rfl rfl ?_
  refine go_icmpP (t' := 34) (pc' := 22) rfl rfl rfl (fun (c : 4 ≤ (2 : Int32)) => absurd c (by decide)) (fun _ => ?_)
  refine go_s (pc' := 23) rfl rfl rfl rfl ?_
  refine go_sget (pc' := 24) (v := .ref 57) hS11 rfl rfl rfl (by decide) rfl rfl ?_
  refine go_s (pc' := 25) rfl rfl rfl rfl ?_
  refine go_s (pc' := 26) rfl rfl rfl rfl ?_
  refine go_sget (pc' := 27) (v := .ref 57) hS11 rfl rfl rfl (by decide) rfl rfl ?_
  refine go_s (pc' := 28) rfl rfl rfl rfl ?_
  refine go_s (pc' := 29) (st' := [.int 1, .int 2, .ref 57, .int 2, .ref 57]) rfl rfl rfl rfl ?_
  refine go_s (pc' := 30) (st' := [.int 3, .ref 57, .int 2, .ref 57]) rfl rfl rfl rfl ?_
  refine go_sald (pc' := 31) (q := 3) (v := .ref a3) hS11 rfl rfl rfl rfl (by decide) x3 rfl ?_
  refine go_saast (pc' := 32) (q := 2) hS11 rfl rfl tbc_inj (Nat.le_of_ble_eq_true rfl) (Nat.le_of_ble_eq_true rfl) ((hF13.2.2.2 _ (hD.1.2.2 _ (by omega)).2.1 (OW_lt hD.1 (by omega))).trans ha3) (am_S_rq w) rfl (by decide) (by decide) (hW _ rfl) rfl (fun h14 hS15 hE16 => ?_)
  have hF17 := fr_trans hF13 (fr_e hE16)
  refine go_s (pc' := 33) (lo' := [some (.ref 32), some (.ref a0), some (.int 3)]) rfl rfl rfl rfl ?_
  refine go_s (pc' := 18) rfl rfl rfl rfl ?_
  refine go_s (pc' := 19) rfl rfl rfl rfl ?_
  refine go_s (pc' := 20) rfl rfl rfl rfl ?_
  refine go_sget (pc' := 21) (v := .int 4) hS15 rfl rfl rfl (by decide) rfl rfl ?_
  refine go_icmpP (t' := 34) (pc' := 22) rfl rfl rfl (fun (c : 4 ≤ (3 : Int32)) => absurd c (by decide)) (fun _ => ?_)
  refine go_s (pc' := 23) rfl rfl rfl rfl ?_
  refine go_sget (pc' := 24) (v := .ref 57) hS15 rfl rfl rfl (by decide) rfl rfl ?_
  refine go_s (pc' := 25) rfl rfl rfl rfl ?_
  refine go_s (pc' := 26) rfl rfl rfl rfl ?_
  refine go_sget (pc' := 27) (v := .ref 57) hS15 rfl rfl rfl (by decide) rfl rfl ?_
  refine go_s (pc' := 28) rfl rfl rfl rfl ?_
  refine go_s (pc' := 29) (st' := [.int 1, .int 3, .ref 57, .int 3, .ref 57]) rfl rfl rfl rfl ?_
  refine go_s (pc' := 30) (st' := [.int 4, .ref 57, .int 3, .ref 57]) rfl rfl rfl rfl ?_
  refine go_sald (pc' := 31) (q := 4) (v := .ref a4) hS15 rfl rfl rfl rfl (by decide) x4 rfl ?_
  refine go_saast (pc' := 32) (q := 3) hS15 rfl rfl tbc_inj (Nat.le_of_ble_eq_true rfl) (Nat.le_of_ble_eq_true rfl) ((hF17.2.2.2 _ (hD.1.2.2 _ (by omega)).2.1 (OW_lt hD.1 (by omega))).trans ha4) (am_S_rq w) rfl (by decide) (by decide) (hW _ rfl) rfl (fun h18 hS19 hE20 => ?_)
  have hF21 := fr_trans hF17 (fr_e hE20)
  refine go_s (pc' := 33) (lo' := [some (.ref 32), some (.ref a0), some (.int 4)]) rfl rfl rfl rfl ?_
  refine go_s (pc' := 18) rfl rfl rfl rfl ?_
  refine go_s (pc' := 19) rfl rfl rfl rfl ?_
  refine go_s (pc' := 20) rfl rfl rfl rfl ?_
  refine go_sget (pc' := 21) (v := .int 4) hS19 rfl rfl rfl (by decide) rfl rfl ?_
  refine go_icmpP (t' := 34) (pc' := 22) rfl rfl rfl (fun _ => ?_) (fun (c : ¬ (4 ≤ (4 : Int32))) => absurd (by decide) c)
  refine go_s (pc' := 35) rfl rfl rfl rfl ?_
  refine go_ret rfl rfl ?_
  have hD22 := CD_msh (n := 4) (X2 := (uX (uX (uX (uX X 210 0 (.ref a1)) 210 1 (.ref a2)) 210 2 (.ref a3)) 210 3 (.ref a4))) (CD_fr hD hF21) en (by decide) (fun k hk => by
    match k, hk with
    | 0, _ => exact x1.symm
    | 1, _ => exact x2.symm
    | 2, _ => exact x3.symm
    | 3, _ => exact x4.symm) (fun c hc => by funext j; simp [uX, hc])
  refine ⟨a0, (uX (uX (uX (uX X 210 0 (.ref a1)) 210 1 (.ref a2)) 210 2 (.ref a3)) 210 3 (.ref a4)), ow, sb, rfl, o0, ?_, msh_sm (n := 4) en (by decide) hS19, hD22, ?_, by have := hF21.1; have := hF21.2.1; omega⟩
  · have z := ((hF21.2.2.2 _ (hD.1.2.2 _ (by omega)).2.1 (OW_lt hD.1 (by omega))).trans ha0)
    simpa using z
  · have := co_fr (J := I) hF21 rfl
    have es := stn_eq (n := 5) en (by decide)
    have e9 : msh I 21 0 = nI (4) := by simp [msh, es]
    have e8 : I 21 0 = nI 5 := en
    unfold co at hB this ⊢
    rw [e9]
    rw [e8] at hB this
    rw [nI_clamp (by decide)] at hB this ⊢
    omega
theorem cm_tf_6 {w : Nat → Bool} {d : Nat} {h : am_Hp} {e : Nat} {m0 : mg} {B : Nat} {I : sm_I} {Q : mQ} {Z : mZ} (hC : CA w e m0 B h (I, Q, Z)) (hB2 : B < 2 ^ 29) (en : I 21 0 = 6) (hd : 1 ≤ d) : am_Ev (am_prog w) d 49 [.ref 32] h (fun r h' => ∃ (a : Nat) (X' : sm_X) (ow : ow_T) (sb : Nat), r = some (.ref a) ∧ ow a = 1 ∧ h'[a]? = some (.inl (8, rqf (fun i => I 20 i))) ∧ sm tbc h' (msh I) X' ∧ CD w e m0 h' (msh I) Q Z X' ow sb ∧ co h' (msh I) + 700 ≤ B ∧ h'.length = h.length) := by
  obtain ⟨X, ow, sb, hS, hD, hB, hQ⟩ := hC
  change sm tbc h I X at hS
  change CD w e m0 h I Q Z X ow sb at hD
  change co h I ≤ B at hB
  change ∀ l, l < 16 → (Q l).length ≤ h.length at hQ
  have hW := hD.1.1
  have hWn : ∀ a, List.length h ≤ a → w a = true := fun a ha => (hD.1.2.1 a ha).1
  have hF1 := fr_refl tbc h
  have hln : 62 ≤ List.length h := sm_len hS
  have hrw := SP_rw hD.2.2.2.2.1 (n := 6) en (by decide)
  obtain ⟨a0, x0, o0, ha0⟩ := hrw 0 (by decide)
  obtain ⟨a1, x1, o1, ha1⟩ := hrw 1 (by decide)
  obtain ⟨a2, x2, o2, ha2⟩ := hrw 2 (by decide)
  obtain ⟨a3, x3, o3, ha3⟩ := hrw 3 (by decide)
  obtain ⟨a4, x4, o4, ha4⟩ := hrw 4 (by decide)
  obtain ⟨a5, x5, o5, ha5⟩ := hrw 5 (by decide)
  obtain ⟨d, rfl⟩ : ∃ e, d = e + 1 := ⟨d - 1, by omega⟩
  refine ev_go rfl (Nat.le_of_ble_eq_true rfl) rfl ?_
  refine go_s (pc' := 1) rfl rfl rfl rfl ?_
  refine go_sget (pc' := 2) (v := .int 6) hS rfl rfl rfl (by decide) (congrArg Value.int en) rfl ?_
  refine go_ifP (t' := 5) (pc' := 3) rfl rfl rfl (fun _ => ?_) (fun (c : ¬ (¬ (6 : Int32) = 0)) => absurd (by decide) c)
  refine go_s (pc' := 6) rfl rfl rfl rfl ?_
  refine go_sget (pc' := 7) (v := .ref 57) hS rfl rfl rfl (by decide) rfl rfl ?_
  refine go_s (pc' := 8) (st' := [.int 0, .ref 57]) rfl rfl rfl rfl ?_
  refine go_sald (pc' := 9) (q := 0) (v := .ref a0) hS rfl rfl rfl rfl (by decide) x0 rfl ?_
  refine go_s (pc' := 10) (lo' := [some (.ref 32), some (.ref a0), none]) rfl rfl rfl rfl ?_
  refine go_s (pc' := 11) rfl rfl rfl rfl ?_
  refine go_s (pc' := 12) rfl rfl rfl rfl ?_
  refine go_sget (pc' := 13) (v := .int 6) hS rfl rfl rfl (by decide) (congrArg Value.int en) rfl ?_
  refine go_s (pc' := 14) (st' := [.int 1, .int 6, .ref 32]) rfl rfl rfl rfl ?_
  refine go_s (pc' := 15) (st' := [.int 5, .ref 32]) rfl rfl rfl rfl ?_
  refine go_sput (pc' := 16) hS rfl rfl rfl (by decide) tbc_inj (Nat.le_of_ble_eq_true rfl) rfl (hW _ rfl) rfl (fun h2 hS3 hE4 => ?_)
  have hF5 := fr_trans hF1 (fr_e hE4)
  refine go_s (pc' := 17) (st' := [.int 0]) rfl rfl rfl rfl ?_
  refine go_s (pc' := 18) (lo' := [some (.ref 32), some (.ref a0), some (.int 0)]) rfl rfl rfl rfl ?_
  refine go_s (pc' := 19) rfl rfl rfl rfl ?_
  refine go_s (pc' := 20) rfl rfl rfl rfl ?_
  refine go_sget (pc' := 21) (v := .int 5) hS3 rfl rfl rfl (by decide) rfl rfl ?_
  refine go_icmpP (t' := 34) (pc' := 22) rfl rfl rfl (fun (c : 5 ≤ (0 : Int32)) => absurd c (by decide)) (fun _ => ?_)
  refine go_s (pc' := 23) rfl rfl rfl rfl ?_
  refine go_sget (pc' := 24) (v := .ref 57) hS3 rfl rfl rfl (by decide) rfl rfl ?_
  refine go_s (pc' := 25) rfl rfl rfl rfl ?_
  refine go_s (pc' := 26) rfl rfl rfl rfl ?_
  refine go_sget (pc' := 27) (v := .ref 57) hS3 rfl rfl rfl (by decide) rfl rfl ?_
  refine go_s (pc' := 28) rfl rfl rfl rfl ?_
  refine go_s (pc' := 29) (st' := [.int 1, .int 0, .ref 57, .int 0, .ref 57]) rfl rfl rfl rfl ?_
  refine go_s (pc' := 30) (st' := [.int 1, .ref 57, .int 0, .ref 57]) rfl rfl rfl rfl ?_
  refine go_sald (pc' := 31) (q := 1) (v := .ref a1) hS3 rfl rfl rfl rfl (by decide) x1 rfl ?_
  refine go_saast (pc' := 32) (q := 0) hS3 rfl rfl tbc_inj (Nat.le_of_ble_eq_true rfl) (Nat.le_of_ble_eq_true rfl) ((hF5.2.2.2 _ (hD.1.2.2 _ (by omega)).2.1 (OW_lt hD.1 (by omega))).trans ha1) (am_S_rq w) rfl (by decide) (by decide) (hW _ rfl) rfl (fun h6 hS7 hE8 => ?_)
  have hF9 := fr_trans hF5 (fr_e hE8)
  refine go_s (pc' := 33) (lo' := [some (.ref 32), some (.ref a0), some (.int 1)]) rfl rfl rfl rfl ?_
  refine go_s (pc' := 18) rfl rfl rfl rfl ?_
  refine go_s (pc' := 19) rfl rfl rfl rfl ?_
  refine go_s (pc' := 20) rfl rfl rfl rfl ?_
  refine go_sget (pc' := 21) (v := .int 5) hS7 rfl rfl rfl (by decide) rfl rfl ?_
  refine go_icmpP (t' := 34) (pc' := 22) rfl rfl rfl (fun (c : 5 ≤ (1 : Int32)) => absurd c (by decide)) (fun _ => ?_)
  refine go_s (pc' := 23) rfl rfl rfl rfl ?_
  refine go_sget (pc' := 24) (v := .ref 57) hS7 rfl rfl rfl (by decide) rfl rfl ?_
  refine go_s (pc' := 25) rfl rfl rfl rfl ?_
  refine go_s (pc' := 26) rfl rfl rfl rfl ?_
  refine go_sget (pc' := 27) (v := .ref 57) hS7 rfl rfl rfl (by decide) rfl rfl ?_
  refine go_s (pc' := 28) rfl rfl rfl rfl ?_
  refine go_s (pc' := 29) (st' := [.int 1, .int 1, .ref 57, .int 1, .ref 57]) rfl rfl rfl rfl ?_
  refine go_s (pc' := 30) (st' := [.int 2, .ref 57, .int 1, .ref 57]) rfl rfl rfl rfl ?_
  refine go_sald (pc' := 31) (q := 2) (v := .ref a2) hS7 rfl rfl rfl rfl (by decide) x2 rfl ?_
  refine go_saast (pc' := 32) (q := 1) hS7 rfl rfl tbc_inj (Nat.le_of_ble_eq_true rfl) (Nat.le_of_ble_eq_true rfl) ((hF9.2.2.2 _ (hD.1.2.2 _ (by omega)).2.1 (OW_lt hD.1 (by omega))).trans ha2) (am_S_rq w) rfl (by decide) (by decide) (hW _ rfl) rfl (fun h10 hS11 hE12 => ?_)
  have hF13 := fr_trans hF9 (fr_e hE12)
  refine go_s (pc' := 33) (lo' := [some (.ref 32), some (.ref a0), some (.int 2)]) rfl rfl rfl rfl ?_
  refine go_s (pc' := 18) rfl rfl rfl rfl ?_
  refine go_s (pc' := 19) rfl rfl rfl rfl ?_
  refine go_s (pc' := 20) rfl rfl rfl rfl ?_
  refine go_sget (pc' := 21) (v := .int 5) hS11 rfl rfl rfl (by decide) rfl rfl ?_
  refine go_icmpP (t' := 34) (pc' := 22) rfl rfl rfl (fun (c : 5 ≤ (2 : Int32)) => absurd c (by decide)) (fun _ => ?_)
  refine go_s (pc' := 23) rfl rfl rfl rfl ?_
  refine go_sget (pc' := 24) (v := .ref 57) hS11 rfl rfl rfl (by decide) rfl rfl ?_
  refine go_s (pc' := 25) rfl rfl rfl rfl ?_
  refine go_s (pc' := 26) rfl rfl rfl rfl ?_
  refine go_sget (pc' := 27) (v := .ref 57) hS11 rfl rfl rfl (by decide) rfl rfl ?_
  refine go_s (pc' := 28) rfl rfl rfl rfl ?_
  refine go_s (pc' := 29) (st' := [.int 1, .int 2, .ref 57, .int 2, .ref 57]) rfl rfl rfl rfl ?_
  refine go_s (pc' := 30) (st' := [.int 3, .ref 57, .int 2, .ref 57]) rfl rfl rfl rfl ?_
  refine go_sald (pc' := 31) (q := 3) (v := .ref a3) hS11 rfl rfl rfl rfl (by decide) x3 rfl ?_
  refine go_saast (pc' := 32) (q := 2) hS11 rfl rfl tbc_inj (Nat.le_of_ble_eq_true rfl) (Nat.le_of_ble_eq_true rfl) ((hF13.2.2.2 _ (hD.1.2.2 _ (by omega)).2.1 (OW_lt hD.1 (by omega))).trans ha3) (am_S_rq w) rfl (by decide) (by decide) (hW _ rfl) rfl (fun h14 hS15 hE16 => ?_)
  have hF17 := fr_trans hF13 (fr_e hE16)
  refine go_s (pc' := 33) (lo' := [some (.ref 32), some (.ref a0), some (.int 3)]) rfl rfl rfl rfl ?_
  refine go_s (pc' := 18) rfl rfl rfl rfl ?_
  refine go_s (pc' := 19) rfl rfl rfl rfl ?_
  refine go_s (pc' := 20) rfl rfl rfl rfl ?_
  refine go_sget (pc' := 21) (v := .int 5) hS15 rfl rfl rfl (by decide) rfl rfl ?_
  refine go_icmpP (t' := 34) (pc' := 22) rfl rfl rfl (fun (c : 5 ≤ (3 : Int32)) => absurd c (by decide)) (fun _ => ?_)
  refine go_s (pc' := 23) rfl rfl rfl rfl ?_
  refine go_sget (pc' := 24) (v := .ref 57) hS15 rfl rfl rfl (by decide) rfl rfl ?_
  refine go_s (pc' := 25) rfl rfl rfl rfl ?_
  refine go_s (pc' := 26) rfl rfl rfl rfl ?_
  refine go_sget (pc' := 27) (v := .ref 57) hS15 rfl rfl rfl (by decide) rfl rfl ?_
  refine go_s (pc' := 28) rfl rfl rfl rfl ?_
  refine go_s (pc' := 29) (st' := [.int 1, .int 3, .ref 57, .int 3, .ref 57]) rfl rfl rfl rfl ?_
  refine go_s (pc' := 30) (st' := [.int 4, .ref 57, .int 3, .ref 57]) rfl rfl rfl rfl ?_
  refine go_sald (pc' := 31) (q := 4) (v := .ref a4) hS15 rfl rfl rfl rfl (by decide) x4 rfl ?_
  refine go_saast (pc' := 32) (q := 3) hS15 rfl rfl tbc_inj (Nat.le_of_ble_eq_true rfl) (Nat.le_of_ble_eq_true rfl) ((hF17.2.2.2 _ (hD.1.2.2 _ (by omega)).2.1 (OW_lt hD.1 (by omega))).trans ha4) (am_S_rq w) rfl (by decide) (by decide) (hW _ rfl) rfl (fun h18 hS19 hE20 => ?_)
  have hF21 := fr_trans hF17 (fr_e hE20)
  refine go_s (pc' := 33) (lo' := [some (.ref 32), some (.ref a0), some (.int 4)]) rfl rfl rfl rfl ?_
  refine go_s (pc' := 18) rfl rfl rfl rfl ?_
  refine go_s (pc' := 19) rfl rfl rfl rfl ?_
  refine go_s (pc' := 20) rfl rfl rfl rfl ?_
  refine go_sget (pc' := 21) (v := .int 5) hS19 rfl rfl rfl (by decide) rfl rfl ?_
  refine go_icmpP (t' := 34) (pc' := 22) rfl rfl rfl (fun (c : 5 ≤ (4 : Int32)) => absurd c (by decide)) (fun _ => ?_)
  refine go_s (pc' := 23) rfl rfl rfl rfl ?_
  refine go_sget (pc' := 24) (v := .ref 57) hS19 rfl rfl rfl (by decide) rfl rfl ?_
  refine go_s (pc' := 25) rfl rfl rfl rfl ?_
  refine go_s (pc' := 26) rfl rfl rfl rfl ?_
  refine go_sget (pc' := 27) (v := .ref 57) hS19 rfl rfl rfl (by decide) rfl rfl ?_
  refine go_s (pc' := 28) rfl rfl rfl rfl ?_
  refine go_s (pc' := 29) (st' := [.int 1, .int 4, .ref 57, .int 4, .ref 57]) rfl rfl rfl rfl ?_
  refine go_s (pc' := 30) (st' := [.int 5, .ref 57, .int 4, .ref 57]) rfl rfl rfl rfl ?_
  refine go_sald (pc' := 31) (q := 5) (v := .ref a5) hS19 rfl rfl rfl rfl (by decide) x5 rfl ?_
  refine go_saast (pc' := 32) (q := 4) hS19 rfl rfl tbc_inj (Nat.le_of_ble_eq_true rfl) (Nat.le_of_ble_eq_true rfl) ((hF21.2.2.2 _ (hD.1.2.2 _ (by omega)).2.1 (OW_lt hD.1 (by omega))).trans ha5) (am_S_rq w) rfl (by decide) (by decide) (hW _ rfl) rfl (fun h22 hS23 hE24 => ?_)
  have hF25 := fr_trans hF21 (fr_e hE24)
  refine go_s (pc' := 33) (lo' := [some (.ref 32), some (.ref a0), some (.int 5)]) rfl rfl rfl rfl ?_
  refine go_s (pc' := 18) rfl rfl rfl rfl ?_
  refine go_s (pc' := 19) rfl rfl rfl rfl ?_
  refine go_s (pc' := 20) rfl rfl rfl rfl ?_
  refine go_sget (pc' := 21) (v := .int 5) hS23 rfl rfl rfl (by decide) rfl rfl ?_
  refine go_icmpP (t' := 34) (pc' := 22) rfl rfl rfl (fun _ => ?_) (fun (c : ¬ (5 ≤ (5 : Int32))) => absurd (by decide) c)
  refine go_s (pc' := 35) rfl rfl rfl rfl ?_
  refine go_ret rfl rfl ?_
  have hD26 := CD_msh (n := 5) (X2 := (uX (uX (uX (uX (uX X 210 0 (.ref a1)) 210 1 (.ref a2)) 210 2 (.ref a3)) 210 3 (.ref a4)) 210 4 (.ref a5))) (CD_fr hD hF25) en (by decide) (fun k hk => by
    match k, hk with
    | 0, _ => exact x1.symm
    | 1, _ => exact x2.symm
    | 2, _ => exact x3.symm
    | 3, _ => exact x4.symm
    | 4, _ => exact x5.symm) (fun c hc => by funext j; simp [uX, hc])
  refine ⟨a0, (uX (uX (uX (uX (uX X 210 0 (.ref a1)) 210 1 (.ref a2)) 210 2 (.ref a3)) 210 3 (.ref a4)) 210 4 (.ref a5)), ow, sb, rfl, o0, ?_, msh_sm (n := 5) en (by decide) hS23, hD26, ?_, by have := hF25.1; have := hF25.2.1; omega⟩
  · have z := ((hF25.2.2.2 _ (hD.1.2.2 _ (by omega)).2.1 (OW_lt hD.1 (by omega))).trans ha0)
    simpa using z
  · have := co_fr (J := I) hF25 rfl
    have es := stn_eq (n := 6) en (by decide)
    have e9 : msh I 21 0 = nI (5) := by simp [msh, es]
    have e8 : I 21 0 = nI 6 := en
    unfold co at hB this ⊢
    rw [e9]
    rw [e8] at hB this
    rw [nI_clamp (by decide)] at hB this ⊢
    omega
theorem cm_tf_7 {w : Nat → Bool} {d : Nat} {h : am_Hp} {e : Nat} {m0 : mg} {B : Nat} {I : sm_I} {Q : mQ} {Z : mZ} (hC : CA w e m0 B h (I, Q, Z)) (hB2 : B < 2 ^ 29) (en : I 21 0 = 7) (hd : 1 ≤ d) : am_Ev (am_prog w) d 49 [.ref 32] h (fun r h' => ∃ (a : Nat) (X' : sm_X) (ow : ow_T) (sb : Nat), r = some (.ref a) ∧ ow a = 1 ∧ h'[a]? = some (.inl (8, rqf (fun i => I 20 i))) ∧ sm tbc h' (msh I) X' ∧ CD w e m0 h' (msh I) Q Z X' ow sb ∧ co h' (msh I) + 700 ≤ B ∧ h'.length = h.length) := by
  obtain ⟨X, ow, sb, hS, hD, hB, hQ⟩ := hC
  change sm tbc h I X at hS
  change CD w e m0 h I Q Z X ow sb at hD
  change co h I ≤ B at hB
  change ∀ l, l < 16 → (Q l).length ≤ h.length at hQ
  have hW := hD.1.1
  have hWn : ∀ a, List.length h ≤ a → w a = true := fun a ha => (hD.1.2.1 a ha).1
  have hF1 := fr_refl tbc h
  have hln : 62 ≤ List.length h := sm_len hS
  have hrw := SP_rw hD.2.2.2.2.1 (n := 7) en (by decide)
  obtain ⟨a0, x0, o0, ha0⟩ := hrw 0 (by decide)
  obtain ⟨a1, x1, o1, ha1⟩ := hrw 1 (by decide)
  obtain ⟨a2, x2, o2, ha2⟩ := hrw 2 (by decide)
  obtain ⟨a3, x3, o3, ha3⟩ := hrw 3 (by decide)
  obtain ⟨a4, x4, o4, ha4⟩ := hrw 4 (by decide)
  obtain ⟨a5, x5, o5, ha5⟩ := hrw 5 (by decide)
  obtain ⟨a6, x6, o6, ha6⟩ := hrw 6 (by decide)
  obtain ⟨d, rfl⟩ : ∃ e, d = e + 1 := ⟨d - 1, by omega⟩
  refine ev_go rfl (Nat.le_of_ble_eq_true rfl) rfl ?_
  refine go_s (pc' := 1) rfl rfl rfl rfl ?_
  refine go_sget (pc' := 2) (v := .int 7) hS rfl rfl rfl (by decide) (congrArg Value.int en) rfl ?_
  refine go_ifP (t' := 5) (pc' := 3) rfl rfl rfl (fun _ => ?_) (fun (c : ¬ (¬ (7 : Int32) = 0)) => absurd (by decide) c)
  refine go_s (pc' := 6) rfl rfl rfl rfl ?_
  refine go_sget (pc' := 7) (v := .ref 57) hS rfl rfl rfl (by decide) rfl rfl ?_
  refine go_s (pc' := 8) (st' := [.int 0, .ref 57]) rfl rfl rfl rfl ?_
  refine go_sald (pc' := 9) (q := 0) (v := .ref a0) hS rfl rfl rfl rfl (by decide) x0 rfl ?_
  refine go_s (pc' := 10) (lo' := [some (.ref 32), some (.ref a0), none]) rfl rfl rfl rfl ?_
  refine go_s (pc' := 11) rfl rfl rfl rfl ?_
  refine go_s (pc' := 12) rfl rfl rfl rfl ?_
  refine go_sget (pc' := 13) (v := .int 7) hS rfl rfl rfl (by decide) (congrArg Value.int en) rfl ?_
  refine go_s (pc' := 14) (st' := [.int 1, .int 7, .ref 32]) rfl rfl rfl rfl ?_
  refine go_s (pc' := 15) (st' := [.int 6, .ref 32]) rfl rfl rfl rfl ?_
  refine go_sput (pc' := 16) hS rfl rfl rfl (by decide) tbc_inj (Nat.le_of_ble_eq_true rfl) rfl (hW _ rfl) rfl (fun h2 hS3 hE4 => ?_)
  have hF5 := fr_trans hF1 (fr_e hE4)
  refine go_s (pc' := 17) (st' := [.int 0]) rfl rfl rfl rfl ?_
  refine go_s (pc' := 18) (lo' := [some (.ref 32), some (.ref a0), some (.int 0)]) rfl rfl rfl rfl ?_
  refine go_s (pc' := 19) rfl rfl rfl rfl ?_
  refine go_s (pc' := 20) rfl rfl rfl rfl ?_
  refine go_sget (pc' := 21) (v := .int 6) hS3 rfl rfl rfl (by decide) rfl rfl ?_
  refine go_icmpP (t' := 34) (pc' := 22) rfl rfl rfl (fun (c : 6 ≤ (0 : Int32)) => absurd c (by decide)) (fun _ => ?_)
  refine go_s (pc' := 23) rfl rfl rfl rfl ?_
  refine go_sget (pc' := 24) (v := .ref 57) hS3 rfl rfl rfl (by decide) rfl rfl ?_
  refine go_s (pc' := 25) rfl rfl rfl rfl ?_
  refine go_s (pc' := 26) rfl rfl rfl rfl ?_
  refine go_sget (pc' := 27) (v := .ref 57) hS3 rfl rfl rfl (by decide) rfl rfl ?_
  refine go_s (pc' := 28) rfl rfl rfl rfl ?_
  refine go_s (pc' := 29) (st' := [.int 1, .int 0, .ref 57, .int 0, .ref 57]) rfl rfl rfl rfl ?_
  refine go_s (pc' := 30) (st' := [.int 1, .ref 57, .int 0, .ref 57]) rfl rfl rfl rfl ?_
  refine go_sald (pc' := 31) (q := 1) (v := .ref a1) hS3 rfl rfl rfl rfl (by decide) x1 rfl ?_
  refine go_saast (pc' := 32) (q := 0) hS3 rfl rfl tbc_inj (Nat.le_of_ble_eq_true rfl) (Nat.le_of_ble_eq_true rfl) ((hF5.2.2.2 _ (hD.1.2.2 _ (by omega)).2.1 (OW_lt hD.1 (by omega))).trans ha1) (am_S_rq w) rfl (by decide) (by decide) (hW _ rfl) rfl (fun h6 hS7 hE8 => ?_)
  have hF9 := fr_trans hF5 (fr_e hE8)
  refine go_s (pc' := 33) (lo' := [some (.ref 32), some (.ref a0), some (.int 1)]) rfl rfl rfl rfl ?_
  refine go_s (pc' := 18) rfl rfl rfl rfl ?_
  refine go_s (pc' := 19) rfl rfl rfl rfl ?_
  refine go_s (pc' := 20) rfl rfl rfl rfl ?_
  refine go_sget (pc' := 21) (v := .int 6) hS7 rfl rfl rfl (by decide) rfl rfl ?_
  refine go_icmpP (t' := 34) (pc' := 22) rfl rfl rfl (fun (c : 6 ≤ (1 : Int32)) => absurd c (by decide)) (fun _ => ?_)
  refine go_s (pc' := 23) rfl rfl rfl rfl ?_
  refine go_sget (pc' := 24) (v := .ref 57) hS7 rfl rfl rfl (by decide) rfl rfl ?_
  refine go_s (pc' := 25) rfl rfl rfl rfl ?_
  refine go_s (pc' := 26) rfl rfl rfl rfl ?_
  refine go_sget (pc' := 27) (v := .ref 57) hS7 rfl rfl rfl (by decide) rfl rfl ?_
  refine go_s (pc' := 28) rfl rfl rfl rfl ?_
  refine go_s (pc' := 29) (st' := [.int 1, .int 1, .ref 57, .int 1, .ref 57]) rfl rfl rfl rfl ?_
  refine go_s (pc' := 30) (st' := [.int 2, .ref 57, .int 1, .ref 57]) rfl rfl rfl rfl ?_
  refine go_sald (pc' := 31) (q := 2) (v := .ref a2) hS7 rfl rfl rfl rfl (by decide) x2 rfl ?_
  refine go_saast (pc' := 32) (q := 1) hS7 rfl rfl tbc_inj (Nat.le_of_ble_eq_true rfl) (Nat.le_of_ble_eq_true rfl) ((hF9.2.2.2 _ (hD.1.2.2 _ (by omega)).2.1 (OW_lt hD.1 (by omega))).trans ha2) (am_S_rq w) rfl (by decide) (by decide) (hW _ rfl) rfl (fun h10 hS11 hE12 => ?_)
  have hF13 := fr_trans hF9 (fr_e hE12)
  refine go_s (pc' := 33) (lo' := [some (.ref 32), some (.ref a0), some (.int 2)]) rfl rfl rfl rfl ?_
  refine go_s (pc' := 18) rfl rfl rfl rfl ?_
  refine go_s (pc' := 19) rfl rfl rfl rfl ?_
  refine go_s (pc' := 20) rfl rfl rfl rfl ?_
  refine go_sget (pc' := 21) (v := .int 6) hS11 rfl rfl rfl (by decide) rfl rfl ?_
  refine go_icmpP (t' := 34) (pc' := 22) rfl rfl rfl (fun (c : 6 ≤ (2 : Int32)) => absurd c (by decide)) (fun _ => ?_)
  refine go_s (pc' := 23) rfl rfl rfl rfl ?_
  refine go_sget (pc' := 24) (v := .ref 57) hS11 rfl rfl rfl (by decide) rfl rfl ?_
  refine go_s (pc' := 25) rfl rfl rfl rfl ?_
  refine go_s (pc' := 26) rfl rfl rfl rfl ?_
  refine go_sget (pc' := 27) (v := .ref 57) hS11 rfl rfl rfl (by decide) rfl rfl ?_
  refine go_s (pc' := 28) rfl rfl rfl rfl ?_
  refine go_s (pc' := 29) (st' := [.int 1, .int 2, .ref 57, .int 2, .ref 57]) rfl rfl rfl rfl ?_
  refine go_s (pc' := 30) (st' := [.int 3, .ref 57, .int 2, .ref 57]) rfl rfl rfl rfl ?_
  refine go_sald (pc' := 31) (q := 3) (v := .ref a3) hS11 rfl rfl rfl rfl (by decide) x3 rfl ?_
  refine go_saast (pc' := 32) (q := 2) hS11 rfl rfl tbc_inj (Nat.le_of_ble_eq_true rfl) (Nat.le_of_ble_eq_true rfl) ((hF13.2.2.2 _ (hD.1.2.2 _ (by omega)).2.1 (OW_lt hD.1 (by omega))).trans ha3) (am_S_rq w) rfl (by decide) (by decide) (hW _ rfl) rfl (fun h14 hS15 hE16 => ?_)
  have hF17 := fr_trans hF13 (fr_e hE16)
  refine go_s (pc' := 33) (lo' := [some (.ref 32), some (.ref a0), some (.int 3)]) rfl rfl rfl rfl ?_
  refine go_s (pc' := 18) rfl rfl rfl rfl ?_
  refine go_s (pc' := 19) rfl rfl rfl rfl ?_
  refine go_s (pc' := 20) rfl rfl rfl rfl ?_
  refine go_sget (pc' := 21) (v := .int 6) hS15 rfl rfl rfl (by decide) rfl rfl ?_
  refine go_icmpP (t' := 34) (pc' := 22) rfl rfl rfl (fun (c : 6 ≤ (3 : Int32)) => absurd c (by decide)) (fun _ => ?_)
  refine go_s (pc' := 23) rfl rfl rfl rfl ?_
  refine go_sget (pc' := 24) (v := .ref 57) hS15 rfl rfl rfl (by decide) rfl rfl ?_
  refine go_s (pc' := 25) rfl rfl rfl rfl ?_
  refine go_s (pc' := 26) rfl rfl rfl rfl ?_
  refine go_sget (pc' := 27) (v := .ref 57) hS15 rfl rfl rfl (by decide) rfl rfl ?_
  refine go_s (pc' := 28) rfl rfl rfl rfl ?_
  refine go_s (pc' := 29) (st' := [.int 1, .int 3, .ref 57, .int 3, .ref 57]) rfl rfl rfl rfl ?_
  refine go_s (pc' := 30) (st' := [.int 4, .ref 57, .int 3, .ref 57]) rfl rfl rfl rfl ?_
  refine go_sald (pc' := 31) (q := 4) (v := .ref a4) hS15 rfl rfl rfl rfl (by decide) x4 rfl ?_
  refine go_saast (pc' := 32) (q := 3) hS15 rfl rfl tbc_inj (Nat.le_of_ble_eq_true rfl) (Nat.le_of_ble_eq_true rfl) ((hF17.2.2.2 _ (hD.1.2.2 _ (by omega)).2.1 (OW_lt hD.1 (by omega))).trans ha4) (am_S_rq w) rfl (by decide) (by decide) (hW _ rfl) rfl (fun h18 hS19 hE20 => ?_)
  have hF21 := fr_trans hF17 (fr_e hE20)
  refine go_s (pc' := 33) (lo' := [some (.ref 32), some (.ref a0), some (.int 4)]) rfl rfl rfl rfl ?_
  refine go_s (pc' := 18) rfl rfl rfl rfl ?_
  refine go_s (pc' := 19) rfl rfl rfl rfl ?_
  refine go_s (pc' := 20) rfl rfl rfl rfl ?_
  refine go_sget (pc' := 21) (v := .int 6) hS19 rfl rfl rfl (by decide) rfl rfl ?_
  refine go_icmpP (t' := 34) (pc' := 22) rfl rfl rfl (fun (c : 6 ≤ (4 : Int32)) => absurd c (by decide)) (fun _ => ?_)
  refine go_s (pc' := 23) rfl rfl rfl rfl ?_
  refine go_sget (pc' := 24) (v := .ref 57) hS19 rfl rfl rfl (by decide) rfl rfl ?_
  refine go_s (pc' := 25) rfl rfl rfl rfl ?_
  refine go_s (pc' := 26) rfl rfl rfl rfl ?_
  refine go_sget (pc' := 27) (v := .ref 57) hS19 rfl rfl rfl (by decide) rfl rfl ?_
  refine go_s (pc' := 28) rfl rfl rfl rfl ?_
  refine go_s (pc' := 29) (st' := [.int 1, .int 4, .ref 57, .int 4, .ref 57]) rfl rfl rfl rfl ?_
  refine go_s (pc' := 30) (st' := [.int 5, .ref 57, .int 4, .ref 57]) rfl rfl rfl rfl ?_
  refine go_sald (pc' := 31) (q := 5) (v := .ref a5) hS19 rfl rfl rfl rfl (by decide) x5 rfl ?_
  refine go_saast (pc' := 32) (q := 4) hS19 rfl rfl tbc_inj (Nat.le_of_ble_eq_true rfl) (Nat.le_of_ble_eq_true rfl) ((hF21.2.2.2 _ (hD.1.2.2 _ (by omega)).2.1 (OW_lt hD.1 (by omega))).trans ha5) (am_S_rq w) rfl (by decide) (by decide) (hW _ rfl) rfl (fun h22 hS23 hE24 => ?_)
  have hF25 := fr_trans hF21 (fr_e hE24)
  refine go_s (pc' := 33) (lo' := [some (.ref 32), some (.ref a0), some (.int 5)]) rfl rfl rfl rfl ?_
  refine go_s (pc' := 18) rfl rfl rfl rfl ?_
  refine go_s (pc' := 19) rfl rfl rfl rfl ?_
  refine go_s (pc' := 20) rfl rfl rfl rfl ?_
  refine go_sget (pc' := 21) (v := .int 6) hS23 rfl rfl rfl (by decide) rfl rfl ?_
  refine go_icmpP (t' := 34) (pc' := 22) rfl rfl rfl (fun (c : 6 ≤ (5 : Int32)) => absurd c (by decide)) (fun _ => ?_)
  refine go_s (pc' := 23) rfl rfl rfl rfl ?_
  refine go_sget (pc' := 24) (v := .ref 57) hS23 rfl rfl rfl (by decide) rfl rfl ?_
  refine go_s (pc' := 25) rfl rfl rfl rfl ?_
  refine go_s (pc' := 26) rfl rfl rfl rfl ?_
  refine go_sget (pc' := 27) (v := .ref 57) hS23 rfl rfl rfl (by decide) rfl rfl ?_
  refine go_s (pc' := 28) rfl rfl rfl rfl ?_
  refine go_s (pc' := 29) (st' := [.int 1, .int 5, .ref 57, .int 5, .ref 57]) rfl rfl rfl rfl ?_
  refine go_s (pc' := 30) (st' := [.int 6, .ref 57, .int 5, .ref 57]) rfl rfl rfl rfl ?_
  refine go_sald (pc' := 31) (q := 6) (v := .ref a6) hS23 rfl rfl rfl rfl (by decide) x6 rfl ?_
  refine go_saast (pc' := 32) (q := 5) hS23 rfl rfl tbc_inj (Nat.le_of_ble_eq_true rfl) (Nat.le_of_ble_eq_true rfl) ((hF25.2.2.2 _ (hD.1.2.2 _ (by omega)).2.1 (OW_lt hD.1 (by omega))).trans ha6) (am_S_rq w) rfl (by decide) (by decide) (hW _ rfl) rfl (fun h26 hS27 hE28 => ?_)
  have hF29 := fr_trans hF25 (fr_e hE28)
  refine go_s (pc' := 33) (lo' := [some (.ref 32), some (.ref a0), some (.int 6)]) rfl rfl rfl rfl ?_
  refine go_s (pc' := 18) rfl rfl rfl rfl ?_
  refine go_s (pc' := 19) rfl rfl rfl rfl ?_
  refine go_s (pc' := 20) rfl rfl rfl rfl ?_
  refine go_sget (pc' := 21) (v := .int 6) hS27 rfl rfl rfl (by decide) rfl rfl ?_
  refine go_icmpP (t' := 34) (pc' := 22) rfl rfl rfl (fun _ => ?_) (fun (c : ¬ (6 ≤ (6 : Int32))) => absurd (by decide) c)
  refine go_s (pc' := 35) rfl rfl rfl rfl ?_
  refine go_ret rfl rfl ?_
  have hD30 := CD_msh (n := 6) (X2 := (uX (uX (uX (uX (uX (uX X 210 0 (.ref a1)) 210 1 (.ref a2)) 210 2 (.ref a3)) 210 3 (.ref a4)) 210 4 (.ref a5)) 210 5 (.ref a6))) (CD_fr hD hF29) en (by decide) (fun k hk => by
    match k, hk with
    | 0, _ => exact x1.symm
    | 1, _ => exact x2.symm
    | 2, _ => exact x3.symm
    | 3, _ => exact x4.symm
    | 4, _ => exact x5.symm
    | 5, _ => exact x6.symm) (fun c hc => by funext j; simp [uX, hc])
  refine ⟨a0, (uX (uX (uX (uX (uX (uX X 210 0 (.ref a1)) 210 1 (.ref a2)) 210 2 (.ref a3)) 210 3 (.ref a4)) 210 4 (.ref a5)) 210 5 (.ref a6)), ow, sb, rfl, o0, ?_, msh_sm (n := 6) en (by decide) hS27, hD30, ?_, by have := hF29.1; have := hF29.2.1; omega⟩
  · have z := ((hF29.2.2.2 _ (hD.1.2.2 _ (by omega)).2.1 (OW_lt hD.1 (by omega))).trans ha0)
    simpa using z
  · have := co_fr (J := I) hF29 rfl
    have es := stn_eq (n := 7) en (by decide)
    have e9 : msh I 21 0 = nI (6) := by simp [msh, es]
    have e8 : I 21 0 = nI 7 := en
    unfold co at hB this ⊢
    rw [e9]
    rw [e8] at hB this
    rw [nI_clamp (by decide)] at hB this ⊢
    omega
theorem cm_tf_8 {w : Nat → Bool} {d : Nat} {h : am_Hp} {e : Nat} {m0 : mg} {B : Nat} {I : sm_I} {Q : mQ} {Z : mZ} (hC : CA w e m0 B h (I, Q, Z)) (hB2 : B < 2 ^ 29) (en : I 21 0 = 8) (hd : 1 ≤ d) : am_Ev (am_prog w) d 49 [.ref 32] h (fun r h' => ∃ (a : Nat) (X' : sm_X) (ow : ow_T) (sb : Nat), r = some (.ref a) ∧ ow a = 1 ∧ h'[a]? = some (.inl (8, rqf (fun i => I 20 i))) ∧ sm tbc h' (msh I) X' ∧ CD w e m0 h' (msh I) Q Z X' ow sb ∧ co h' (msh I) + 700 ≤ B ∧ h'.length = h.length) := by
  obtain ⟨X, ow, sb, hS, hD, hB, hQ⟩ := hC
  change sm tbc h I X at hS
  change CD w e m0 h I Q Z X ow sb at hD
  change co h I ≤ B at hB
  change ∀ l, l < 16 → (Q l).length ≤ h.length at hQ
  have hW := hD.1.1
  have hWn : ∀ a, List.length h ≤ a → w a = true := fun a ha => (hD.1.2.1 a ha).1
  have hF1 := fr_refl tbc h
  have hln : 62 ≤ List.length h := sm_len hS
  have hrw := SP_rw hD.2.2.2.2.1 (n := 8) en (by decide)
  obtain ⟨a0, x0, o0, ha0⟩ := hrw 0 (by decide)
  obtain ⟨a1, x1, o1, ha1⟩ := hrw 1 (by decide)
  obtain ⟨a2, x2, o2, ha2⟩ := hrw 2 (by decide)
  obtain ⟨a3, x3, o3, ha3⟩ := hrw 3 (by decide)
  obtain ⟨a4, x4, o4, ha4⟩ := hrw 4 (by decide)
  obtain ⟨a5, x5, o5, ha5⟩ := hrw 5 (by decide)
  obtain ⟨a6, x6, o6, ha6⟩ := hrw 6 (by decide)
  obtain ⟨a7, x7, o7, ha7⟩ := hrw 7 (by decide)
  obtain ⟨d, rfl⟩ : ∃ e, d = e + 1 := ⟨d - 1, by omega⟩
  refine ev_go rfl (Nat.le_of_ble_eq_true rfl) rfl ?_
  refine go_s (pc' := 1) rfl rfl rfl rfl ?_
  refine go_sget (pc' := 2) (v := .int 8) hS rfl rfl rfl (by decide) (congrArg Value.int en) rfl ?_
  refine go_ifP (t' := 5) (pc' := 3) rfl rfl rfl (fun _ => ?_) (fun (c : ¬ (¬ (8 : Int32) = 0)) => absurd (by decide) c)
  refine go_s (pc' := 6) rfl rfl rfl rfl ?_
  refine go_sget (pc' := 7) (v := .ref 57) hS rfl rfl rfl (by decide) rfl rfl ?_
  refine go_s (pc' := 8) (st' := [.int 0, .ref 57]) rfl rfl rfl rfl ?_
  refine go_sald (pc' := 9) (q := 0) (v := .ref a0) hS rfl rfl rfl rfl (by decide) x0 rfl ?_
  refine go_s (pc' := 10) (lo' := [some (.ref 32), some (.ref a0), none]) rfl rfl rfl rfl ?_
  refine go_s (pc' := 11) rfl rfl rfl rfl ?_
  refine go_s (pc' := 12) rfl rfl rfl rfl ?_
  refine go_sget (pc' := 13) (v := .int 8) hS rfl rfl rfl (by decide) (congrArg Value.int en) rfl ?_
  refine go_s (pc' := 14) (st' := [.int 1, .int 8, .ref 32]) rfl rfl rfl rfl ?_
  refine go_s (pc' := 15) (st' := [.int 7, .ref 32]) rfl rfl rfl rfl ?_
  refine go_sput (pc' := 16) hS rfl rfl rfl (by decide) tbc_inj (Nat.le_of_ble_eq_true rfl) rfl (hW _ rfl) rfl (fun h2 hS3 hE4 => ?_)
  have hF5 := fr_trans hF1 (fr_e hE4)
  refine go_s (pc' := 17) (st' := [.int 0]) rfl rfl rfl rfl ?_
  refine go_s (pc' := 18) (lo' := [some (.ref 32), some (.ref a0), some (.int 0)]) rfl rfl rfl rfl ?_
  refine go_s (pc' := 19) rfl rfl rfl rfl ?_
  refine go_s (pc' := 20) rfl rfl rfl rfl ?_
  refine go_sget (pc' := 21) (v := .int 7) hS3 rfl rfl rfl (by decide) rfl rfl ?_
  refine go_icmpP (t' := 34) (pc' := 22) rfl rfl rfl (fun (c : 7 ≤ (0 : Int32)) => absurd c (by decide)) (fun _ => ?_)
  refine go_s (pc' := 23) rfl rfl rfl rfl ?_
  refine go_sget (pc' := 24) (v := .ref 57) hS3 rfl rfl rfl (by decide) rfl rfl ?_
  refine go_s (pc' := 25) rfl rfl rfl rfl ?_
  refine go_s (pc' := 26) rfl rfl rfl rfl ?_
  refine go_sget (pc' := 27) (v := .ref 57) hS3 rfl rfl rfl (by decide) rfl rfl ?_
  refine go_s (pc' := 28) rfl rfl rfl rfl ?_
  refine go_s (pc' := 29) (st' := [.int 1, .int 0, .ref 57, .int 0, .ref 57]) rfl rfl rfl rfl ?_
  refine go_s (pc' := 30) (st' := [.int 1, .ref 57, .int 0, .ref 57]) rfl rfl rfl rfl ?_
  refine go_sald (pc' := 31) (q := 1) (v := .ref a1) hS3 rfl rfl rfl rfl (by decide) x1 rfl ?_
  refine go_saast (pc' := 32) (q := 0) hS3 rfl rfl tbc_inj (Nat.le_of_ble_eq_true rfl) (Nat.le_of_ble_eq_true rfl) ((hF5.2.2.2 _ (hD.1.2.2 _ (by omega)).2.1 (OW_lt hD.1 (by omega))).trans ha1) (am_S_rq w) rfl (by decide) (by decide) (hW _ rfl) rfl (fun h6 hS7 hE8 => ?_)
  have hF9 := fr_trans hF5 (fr_e hE8)
  refine go_s (pc' := 33) (lo' := [some (.ref 32), some (.ref a0), some (.int 1)]) rfl rfl rfl rfl ?_
  refine go_s (pc' := 18) rfl rfl rfl rfl ?_
  refine go_s (pc' := 19) rfl rfl rfl rfl ?_
  refine go_s (pc' := 20) rfl rfl rfl rfl ?_
  refine go_sget (pc' := 21) (v := .int 7) hS7 rfl rfl rfl (by decide) rfl rfl ?_
  refine go_icmpP (t' := 34) (pc' := 22) rfl rfl rfl (fun (c : 7 ≤ (1 : Int32)) => absurd c (by decide)) (fun _ => ?_)
  refine go_s (pc' := 23) rfl rfl rfl rfl ?_
  refine go_sget (pc' := 24) (v := .ref 57) hS7 rfl rfl rfl (by decide) rfl rfl ?_
  refine go_s (pc' := 25) rfl rfl rfl rfl ?_
  refine go_s (pc' := 26) rfl rfl rfl rfl ?_
  refine go_sget (pc' := 27) (v := .ref 57) hS7 rfl rfl rfl (by decide) rfl rfl ?_
  refine go_s (pc' := 28) rfl rfl rfl rfl ?_
  refine go_s (pc' := 29) (st' := [.int 1, .int 1, .ref 57, .int 1, .ref 57]) rfl rfl rfl rfl ?_
  refine go_s (pc' := 30) (st' := [.int 2, .ref 57, .int 1, .ref 57]) rfl rfl rfl rfl ?_
  refine go_sald (pc' := 31) (q := 2) (v := .ref a2) hS7 rfl rfl rfl rfl (by decide) x2 rfl ?_
  refine go_saast (pc' := 32) (q := 1) hS7 rfl rfl tbc_inj (Nat.le_of_ble_eq_true rfl) (Nat.le_of_ble_eq_true rfl) ((hF9.2.2.2 _ (hD.1.2.2 _ (by omega)).2.1 (OW_lt hD.1 (by omega))).trans ha2) (am_S_rq w) rfl (by decide) (by decide) (hW _ rfl) rfl (fun h10 hS11 hE12 => ?_)
  have hF13 := fr_trans hF9 (fr_e hE12)
  refine go_s (pc' := 33) (lo' := [some (.ref 32), some (.ref a0), some (.int 2)]) rfl rfl rfl rfl ?_
  refine go_s (pc' := 18) rfl rfl rfl rfl ?_
  refine go_s (pc' := 19) rfl rfl rfl rfl ?_
  refine go_s (pc' := 20) rfl rfl rfl rfl ?_
  refine go_sget (pc' := 21) (v := .int 7) hS11 rfl rfl rfl (by decide) rfl rfl ?_
  refine go_icmpP (t' := 34) (pc' := 22) rfl rfl rfl (fun (c : 7 ≤ (2 : Int32)) => absurd c (by decide)) (fun _ => ?_)
  refine go_s (pc' := 23) rfl rfl rfl rfl ?_
  refine go_sget (pc' := 24) (v := .ref 57) hS11 rfl rfl rfl (by decide) rfl rfl ?_
  refine go_s (pc' := 25) rfl rfl rfl rfl ?_
  refine go_s (pc' := 26) rfl rfl rfl rfl ?_
  refine go_sget (pc' := 27) (v := .ref 57) hS11 rfl rfl rfl (by decide) rfl rfl ?_
  refine go_s (pc' := 28) rfl rfl rfl rfl ?_
  refine go_s (pc' := 29) (st' := [.int 1, .int 2, .ref 57, .int 2, .ref 57]) rfl rfl rfl rfl ?_
  refine go_s (pc' := 30) (st' := [.int 3, .ref 57, .int 2, .ref 57]) rfl rfl rfl rfl ?_
  refine go_sald (pc' := 31) (q := 3) (v := .ref a3) hS11 rfl rfl rfl rfl (by decide) x3 rfl ?_
  refine go_saast (pc' := 32) (q := 2) hS11 rfl rfl tbc_inj (Nat.le_of_ble_eq_true rfl) (Nat.le_of_ble_eq_true rfl) ((hF13.2.2.2 _ (hD.1.2.2 _ (by omega)).2.1 (OW_lt hD.1 (by omega))).trans ha3) (am_S_rq w) rfl (by decide) (by decide) (hW _ rfl) rfl (fun h14 hS15 hE16 => ?_)
  have hF17 := fr_trans hF13 (fr_e hE16)
  refine go_s (pc' := 33) (lo' := [some (.ref 32), some (.ref a0), some (.int 3)]) rfl rfl rfl rfl ?_
  refine go_s (pc' := 18) rfl rfl rfl rfl ?_
  refine go_s (pc' := 19) rfl rfl rfl rfl ?_
  refine go_s (pc' := 20) rfl rfl rfl rfl ?_
  refine go_sget (pc' := 21) (v := .int 7) hS15 rfl rfl rfl (by decide) rfl rfl ?_
  refine go_icmpP (t' := 34) (pc' := 22) rfl rfl rfl (fun (c : 7 ≤ (3 : Int32)) => absurd c (by decide)) (fun _ => ?_)
  refine go_s (pc' := 23) rfl rfl rfl rfl ?_
  refine go_sget (pc' := 24) (v := .ref 57) hS15 rfl rfl rfl (by decide) rfl rfl ?_
  refine go_s (pc' := 25) rfl rfl rfl rfl ?_
  refine go_s (pc' := 26) rfl rfl rfl rfl ?_
  refine go_sget (pc' := 27) (v := .ref 57) hS15 rfl rfl rfl (by decide) rfl rfl ?_
  refine go_s (pc' := 28) rfl rfl rfl rfl ?_
  refine go_s (pc' := 29) (st' := [.int 1, .int 3, .ref 57, .int 3, .ref 57]) rfl rfl rfl rfl ?_
  refine go_s (pc' := 30) (st' := [.int 4, .ref 57, .int 3, .ref 57]) rfl rfl rfl rfl ?_
  refine go_sald (pc' := 31) (q := 4) (v := .ref a4) hS15 rfl rfl rfl rfl (by decide) x4 rfl ?_
  refine go_saast (pc' := 32) (q := 3) hS15 rfl rfl tbc_inj (Nat.le_of_ble_eq_true rfl) (Nat.le_of_ble_eq_true rfl) ((hF17.2.2.2 _ (hD.1.2.2 _ (by omega)).2.1 (OW_lt hD.1 (by omega))).trans ha4) (am_S_rq w) rfl (by decide) (by decide) (hW _ rfl) rfl (fun h18 hS19 hE20 => ?_)
  have hF21 := fr_trans hF17 (fr_e hE20)
  refine go_s (pc' := 33) (lo' := [some (.ref 32), some (.ref a0), some (.int 4)]) rfl rfl rfl rfl ?_
  refine go_s (pc' := 18) rfl rfl rfl rfl ?_
  refine go_s (pc' := 19) rfl rfl rfl rfl ?_
  refine go_s (pc' := 20) rfl rfl rfl rfl ?_
  refine go_sget (pc' := 21) (v := .int 7) hS19 rfl rfl rfl (by decide) rfl rfl ?_
  refine go_icmpP (t' := 34) (pc' := 22) rfl rfl rfl (fun (c : 7 ≤ (4 : Int32)) => absurd c (by decide)) (fun _ => ?_)
  refine go_s (pc' := 23) rfl rfl rfl rfl ?_
  refine go_sget (pc' := 24) (v := .ref 57) hS19 rfl rfl rfl (by decide) rfl rfl ?_
  refine go_s (pc' := 25) rfl rfl rfl rfl ?_
  refine go_s (pc' := 26) rfl rfl rfl rfl ?_
  refine go_sget (pc' := 27) (v := .ref 57) hS19 rfl rfl rfl (by decide) rfl rfl ?_
  refine go_s (pc' := 28) rfl rfl rfl rfl ?_
  refine go_s (pc' := 29) (st' := [.int 1, .int 4, .ref 57, .int 4, .ref 57]) rfl rfl rfl rfl ?_
  refine go_s (pc' := 30) (st' := [.int 5, .ref 57, .int 4, .ref 57]) rfl rfl rfl rfl ?_
  refine go_sald (pc' := 31) (q := 5) (v := .ref a5) hS19 rfl rfl rfl rfl (by decide) x5 rfl ?_
  refine go_saast (pc' := 32) (q := 4) hS19 rfl rfl tbc_inj (Nat.le_of_ble_eq_true rfl) (Nat.le_of_ble_eq_true rfl) ((hF21.2.2.2 _ (hD.1.2.2 _ (by omega)).2.1 (OW_lt hD.1 (by omega))).trans ha5) (am_S_rq w) rfl (by decide) (by decide) (hW _ rfl) rfl (fun h22 hS23 hE24 => ?_)
  have hF25 := fr_trans hF21 (fr_e hE24)
  refine go_s (pc' := 33) (lo' := [some (.ref 32), some (.ref a0), some (.int 5)]) rfl rfl rfl rfl ?_
  refine go_s (pc' := 18) rfl rfl rfl rfl ?_
  refine go_s (pc' := 19) rfl rfl rfl rfl ?_
  refine go_s (pc' := 20) rfl rfl rfl rfl ?_
  refine go_sget (pc' := 21) (v := .int 7) hS23 rfl rfl rfl (by decide) rfl rfl ?_
  refine go_icmpP (t' := 34) (pc' := 22) rfl rfl rfl (fun (c : 7 ≤ (5 : Int32)) => absurd c (by decide)) (fun _ => ?_)
  refine go_s (pc' := 23) rfl rfl rfl rfl ?_
  refine go_sget (pc' := 24) (v := .ref 57) hS23 rfl rfl rfl (by decide) rfl rfl ?_
  refine go_s (pc' := 25) rfl rfl rfl rfl ?_
  refine go_s (pc' := 26) rfl rfl rfl rfl ?_
  refine go_sget (pc' := 27) (v := .ref 57) hS23 rfl rfl rfl (by decide) rfl rfl ?_
  refine go_s (pc' := 28) rfl rfl rfl rfl ?_
  refine go_s (pc' := 29) (st' := [.int 1, .int 5, .ref 57, .int 5, .ref 57]) rfl rfl rfl rfl ?_
  refine go_s (pc' := 30) (st' := [.int 6, .ref 57, .int 5, .ref 57]) rfl rfl rfl rfl ?_
  refine go_sald (pc' := 31) (q := 6) (v := .ref a6) hS23 rfl rfl rfl rfl (by decide) x6 rfl ?_
  refine go_saast (pc' := 32) (q := 5) hS23 rfl rfl tbc_inj (Nat.le_of_ble_eq_true rfl) (Nat.le_of_ble_eq_true rfl) ((hF25.2.2.2 _ (hD.1.2.2 _ (by omega)).2.1 (OW_lt hD.1 (by omega))).trans ha6) (am_S_rq w) rfl (by decide) (by decide) (hW _ rfl) rfl (fun h26 hS27 hE28 => ?_)
  have hF29 := fr_trans hF25 (fr_e hE28)
  refine go_s (pc' := 33) (lo' := [some (.ref 32), some (.ref a0), some (.int 6)]) rfl rfl rfl rfl ?_
  refine go_s (pc' := 18) rfl rfl rfl rfl ?_
  refine go_s (pc' := 19) rfl rfl rfl rfl ?_
  refine go_s (pc' := 20) rfl rfl rfl rfl ?_
  refine go_sget (pc' := 21) (v := .int 7) hS27 rfl rfl rfl (by decide) rfl rfl ?_
  refine go_icmpP (t' := 34) (pc' := 22) rfl rfl rfl (fun (c : 7 ≤ (6 : Int32)) => absurd c (by decide)) (fun _ => ?_)
  refine go_s (pc' := 23) rfl rfl rfl rfl ?_
  refine go_sget (pc' := 24) (v := .ref 57) hS27 rfl rfl rfl (by decide) rfl rfl ?_
  refine go_s (pc' := 25) rfl rfl rfl rfl ?_
  refine go_s (pc' := 26) rfl rfl rfl rfl ?_
  refine go_sget (pc' := 27) (v := .ref 57) hS27 rfl rfl rfl (by decide) rfl rfl ?_
  refine go_s (pc' := 28) rfl rfl rfl rfl ?_
  refine go_s (pc' := 29) (st' := [.int 1, .int 6, .ref 57, .int 6, .ref 57]) rfl rfl rfl rfl ?_
  refine go_s (pc' := 30) (st' := [.int 7, .ref 57, .int 6, .ref 57]) rfl rfl rfl rfl ?_
  refine go_sald (pc' := 31) (q := 7) (v := .ref a7) hS27 rfl rfl rfl rfl (by decide) x7 rfl ?_
  refine go_saast (pc' := 32) (q := 6) hS27 rfl rfl tbc_inj (Nat.le_of_ble_eq_true rfl) (Nat.le_of_ble_eq_true rfl) ((hF29.2.2.2 _ (hD.1.2.2 _ (by omega)).2.1 (OW_lt hD.1 (by omega))).trans ha7) (am_S_rq w) rfl (by decide) (by decide) (hW _ rfl) rfl (fun h30 hS31 hE32 => ?_)
  have hF33 := fr_trans hF29 (fr_e hE32)
  refine go_s (pc' := 33) (lo' := [some (.ref 32), some (.ref a0), some (.int 7)]) rfl rfl rfl rfl ?_
  refine go_s (pc' := 18) rfl rfl rfl rfl ?_
  refine go_s (pc' := 19) rfl rfl rfl rfl ?_
  refine go_s (pc' := 20) rfl rfl rfl rfl ?_
  refine go_sget (pc' := 21) (v := .int 7) hS31 rfl rfl rfl (by decide) rfl rfl ?_
  refine go_icmpP (t' := 34) (pc' := 22) rfl rfl rfl (fun _ => ?_) (fun (c : ¬ (7 ≤ (7 : Int32))) => absurd (by decide) c)
  refine go_s (pc' := 35) rfl rfl rfl rfl ?_
  refine go_ret rfl rfl ?_
  have hD34 := CD_msh (n := 7) (X2 := (uX (uX (uX (uX (uX (uX (uX X 210 0 (.ref a1)) 210 1 (.ref a2)) 210 2 (.ref a3)) 210 3 (.ref a4)) 210 4 (.ref a5)) 210 5 (.ref a6)) 210 6 (.ref a7))) (CD_fr hD hF33) en (by decide) (fun k hk => by
    match k, hk with
    | 0, _ => exact x1.symm
    | 1, _ => exact x2.symm
    | 2, _ => exact x3.symm
    | 3, _ => exact x4.symm
    | 4, _ => exact x5.symm
    | 5, _ => exact x6.symm
    | 6, _ => exact x7.symm) (fun c hc => by funext j; simp [uX, hc])
  refine ⟨a0, (uX (uX (uX (uX (uX (uX (uX X 210 0 (.ref a1)) 210 1 (.ref a2)) 210 2 (.ref a3)) 210 3 (.ref a4)) 210 4 (.ref a5)) 210 5 (.ref a6)) 210 6 (.ref a7)), ow, sb, rfl, o0, ?_, msh_sm (n := 7) en (by decide) hS31, hD34, ?_, by have := hF33.1; have := hF33.2.1; omega⟩
  · have z := ((hF33.2.2.2 _ (hD.1.2.2 _ (by omega)).2.1 (OW_lt hD.1 (by omega))).trans ha0)
    simpa using z
  · have := co_fr (J := I) hF33 rfl
    have es := stn_eq (n := 8) en (by decide)
    have e9 : msh I 21 0 = nI (7) := by simp [msh, es]
    have e8 : I 21 0 = nI 8 := en
    unfold co at hB this ⊢
    rw [e9]
    rw [e8] at hB this
    rw [nI_clamp (by decide)] at hB this ⊢
    omega
theorem cm_tf {w : Nat → Bool} {d : Nat} {h : am_Hp} {e : Nat} {m0 : mg} {B : Nat} {I : sm_I} {Q : mQ} {Z : mZ} (hC : CA w e m0 B h (I, Q, Z)) (hB2 : B < 2 ^ 29) {n : Nat} (en : I 21 0 = nI n) (h1 : 1 ≤ n) (h2 : n ≤ 8) (hd : 1 ≤ d) : am_Ev (am_prog w) d 49 [.ref 32] h (fun r h' => ∃ (a : Nat) (X' : sm_X) (ow : ow_T) (sb : Nat), r = some (.ref a) ∧ ow a = 1 ∧ h'[a]? = some (.inl (8, rqf (fun i => I 20 i))) ∧ sm tbc h' (msh I) X' ∧ CD w e m0 h' (msh I) Q Z X' ow sb ∧ co h' (msh I) + 700 ≤ B ∧ h'.length = h.length) := by
  match n, h1, h2 with
  | 1, _, _ => exact cm_tf_1 hC hB2 en hd
  | 2, _, _ => exact cm_tf_2 hC hB2 en hd
  | 3, _, _ => exact cm_tf_3 hC hB2 en hd
  | 4, _, _ => exact cm_tf_4 hC hB2 en hd
  | 5, _, _ => exact cm_tf_5 hC hB2 en hd
  | 6, _, _ => exact cm_tf_6 hC hB2 en hd
  | 7, _, _ => exact cm_tf_7 hC hB2 en hd
  | 8, _, _ => exact cm_tf_8 hC hB2 en hd
