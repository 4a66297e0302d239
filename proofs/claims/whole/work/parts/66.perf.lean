theorem bko_len (L : List ms_E) (t : Int32) (fr_ : Nat) : ∀ n (m : ms), (bko L t fr_ n m).2.2.length ≤ m.2.2.length + cw L t n := by
  intro n
  induction n with
  | zero => intro m; exact Nat.le_refl _
  | succ n ih =>
    intro m
    unfold bko cw
    split
    · omega
    · split
      · rename_i e he
        refine Nat.le_trans (ih _) ?_
        split
        · rename_i hc
          have : eWr e t = true := (Bool.and_eq_true_iff.mp hc).1
          simp only [he, this, if_true, mR, List.length_append, List.length_cons, List.length_nil]
          omega
        · omega
      · omega
theorem mB_len (m : ms) (t : Int32) : (mB m t).2.2.length ≤ m.2.2.length + cw m.2.1 t m.2.1.length + 1 := by
  have := bko_len m.2.1 t (mof m t) m.2.1.length m
  simp only [mB, mE, List.length_append, List.length_cons, List.length_nil]
  omega
theorem cs_pf {w : Nat → Bool} {d : Nat} {h : am_Hp} {S : sm_I} {Y : sm_X} {ad : Nat → Nat} (hA : adk ad) (hS : sm (tbs ad) h S Y) {m : ms} (hm : sc S m) (hZ : ∀ i, i < 12 → ad i ≠ 0) (hW : ∀ i, i < 12 → w (ad i) = true) (hWn : ∀ a, h.length ≤ a → w a = true) {t k : Nat} (ht : t < 2) (hk : k < 16) {aq : Nat} {q1 q2 q3 kd vl : Int32} (hq : h[aq]? = some (.inl (8, [.int (nI t), .int q1, .int q2, .int q3, .int kd, .int (nI k), .int vl]))) (hqn : tbs ad aq = none) (hH : m.2.1.length + mtr m ≤ 32) (hrk : rok m.2.1 (nI t)) (hd : 4 ≤ d) : am_Ev (am_prog w) d 52 [.ref (ad 0), .ref aq] h (fun r h' => r = none ∧ ∃ ad', adk ad' ∧ (∀ i, i < 9 → ad' i = ad i) ∧ (∀ i, 9 ≤ i → i < 12 → h.length ≤ ad' i) ∧ ∃ S', sm (tbs ad') h' S' (uX Y 200 0 (.ref aq)) ∧ sc S' (mpf m t q1 q2 q3 kd (nI k) vl) ∧ S' 0 3 = 1 ∧ fr (tb9 ad) h h' 3 213) := by
  obtain ⟨d, rfl⟩ : ∃ e, d = e + 1 := ⟨d - 1, by omega⟩
  refine ev_go rfl (Nat.le_of_ble_eq_true rfl) rfl ?_
  refine go_s (pc' := 1) rfl rfl rfl rfl ?_
  refine go_get (pc' := 2) rfl hq rfl (by decide) rfl rfl ?_
  refine go_s (pc' := 3) (lo' := [some (.ref (ad 0)), some (.ref aq), some (.int (nI t)), none, none, none, none]) rfl rfl rfl rfl ?_
  refine go_s (pc' := 4) rfl rfl rfl rfl ?_
  refine go_s (pc' := 5) (st' := [.int 1, .ref (ad 0)]) rfl rfl rfl rfl ?_
  refine go_sput (pc' := 6) hS rfl rfl (tbs_s hA (i := 0) (by decide) rfl) (by decide) tbs_inj (Nat.le_of_ble_eq_true rfl) rfl (hW 0 (by decide)) rfl (fun h1 hS2 hE3 => ?_)
  have hq4 := (hE3.2.2 _ hqn).trans hq
  refine go_s (pc' := 7) rfl rfl rfl rfl ?_
  refine go_s (pc' := 8) rfl rfl rfl rfl ?_
  refine go_sputX (pc' := 9) hS2 rfl rfl (tbs_s hA (i := 0) (by decide) rfl) (by decide) tbs_inj (Nat.le_of_ble_eq_true rfl) (Nat.le_of_ble_eq_true rfl) rfl (hW 0 (by decide)) rfl (fun h5 hS6 hE7 => ?_)
  have hE8 := sm_e_trans hE3 hE7
  have hq9 := (hE7.2.2 _ hqn).trans hq4
  have hF0 := fr_ini hA hS hS6 hE8 (fun _ => rfl) (fun _ => rfl) rfl
  have hm0 : sc (uI S 0 3 1) m := hm
  refine go_s (pc' := 10) rfl rfl rfl rfl ?_
  refine go_newF (pc' := 11) (n := 3) rfl rfl rfl rfl (fun L10 h11 hL12 hc13 hg14 => ?_)
  have hq15 := (hg14.2.2 _ (lt_of hq9)).trans hq9
  have lt_aq_L10 : aq < L10 := hL12 ▸ lt_of hq9
  have ge_L10 : _ ≤ L10 := hL12 ▸ hF0.1
  have nb_L10 := tbs_new (L := L10) hA hS6 (by omega)
  have hS16 := sm_gq hS6 hg14
  have hF17 := fr_gq hF0 hg14
  refine go_s (pc' := 12) rfl rfl rfl rfl ?_
  refine go_callI (pc' := 13) rfl rfl rfl (Nat.le_of_ble_eq_true rfl) rfl hc13 rfl rfl rfl (ci_wr hc13 (hWn _ (by omega)) (by omega)) (fun r h18 q19 => ?_)
  obtain ⟨rfl, LA, LB, hLA, hLB, hca, hcb, hcc, hqa⟩ := q19
  have nbA := tbs_new (L := LA) hA hS16 (by omega)
  have nbB := tbs_new (L := LB) hA hS16 (by omega)
  have hSq := sm_qa hS16 hqa nb_L10
  have hFq := fr_qa hF17 hqa ge_L10
  have hqq := (hqa.2.2 _ (lt_of hq15) (by omega)).trans hq15
  refine go_putF (pc' := 14) rfl (hSq (ad 0) _ _ (tbs_at hA (i := 0) (by decide))) rfl (by decide) (Nat.le_of_ble_eq_true rfl) rfl (hW 0 (by decide)) rfl (fun hx hcx hpx => ?_)
  have hS1 := sm_sw hA hSq hpx hcx hca hcb hcc nb_L10 nbA nbB
  have hF1 := fr_pt hFq hpx (fun z => tb9_none.mp z 0 (by decide) rfl)
  have hq1 := (hpx.2.2 _ (fun e => tbs_ne hA hqn (i := 0) (by decide) e.symm)).trans hqq
  have hm1 := sc_0 hm0
  have hlt : L10 < LA ∧ h.length ≤ L10 := ⟨by have := lt_of hc13; omega, ge_L10⟩
  have hNN := adW_none (ad := ad) (L := L10) (L1 := LA) (L2 := LB) (n := h.length) hlt.2 (by omega) (by omega)
  have hqn1 : tbs (adW ad L10 LA LB) aq = none := by
    refine hNN aq (tb9_none.mpr (fun i hi => tbs_ne hA hqn (by omega))) (lt_of hq)
  have hA1 := adW_k hA nb_L10 nbA nbB hlt.1 hLB
  have hW1 : ∀ i, i < 12 → w (adW ad L10 LA LB i) = true := by
    intro i hi
    unfold adW
    split
    · exact hWn _ (by omega)
    · split
      · exact hWn _ (by omega)
      · split
        · exact hWn _ (by omega)
        · exact hW i hi
  have hZ1 : ∀ i, i < 12 → adW ad L10 LA LB i ≠ 0 := by
    intro i hi
    unfold adW
    have := lt_of (hS (ad 0) _ _ (tbs_at hA (i := 0) (by decide)))
    split
    · omega
    · split
      · omega
      · split
        · omega
        · exact hZ i hi
  have hpost : (∀ i, i < 9 → adW ad L10 LA LB i = ad i) ∧ ∀ i, 9 ≤ i → i < 12 → h.length ≤ adW ad L10 LA LB i := by
    refine ⟨fun i hi => ?_, fun i hi hi2 => ?_⟩
    · unfold adW
      rw [if_neg (by omega), if_neg (by omega), if_neg (by omega)]
    · unfold adW
      split
      · omega
      · split
        · omega
        · split
          · omega
          · omega
  have e0 : ad 0 = adW ad L10 LA LB 0 := rfl
  generalize adW ad L10 LA LB = ad2 at hS1 hNN hqn1 hA1 hW1 hZ1 hpost e0
  rw [e0]
  have hA := hA1
  have hW := hW1
  have hZ := hZ1
  obtain ⟨S1, hS1e⟩ : ∃ x, x = S0 (uI S 0 3 1) := ⟨_, rfl⟩
  have hb1 : S1 0 3 = 1 := by rw [hS1e]; rfl
  rw [← hS1e] at hS1 hm1
  refine go_s (pc' := 15) rfl rfl rfl rfl ?_
  refine go_s (pc' := 16) rfl rfl rfl rfl ?_
  refine go_callV (pc' := 17) rfl rfl rfl (Nat.le_of_ble_eq_true rfl) rfl (sm_o hS1 (tbs_at hA (i := 0) (by decide))) rfl rfl rfl (cs_j hA hS1 hm1 hZ hW ht hk hq1 hqn1 hH (by omega)) (fun r h20 q21 => ?_)
  obtain ⟨rfl, S2, hS2, hm2, hE2, hb2⟩ := q21
  obtain ⟨k1, k2, k3⟩ := mj_keep (m.1, m.2.1, []) t q1 q3 kd (nI k)
  have k4 : mtr (mj (m.1, m.2.1, []) t q1 q3 kd (nI k)).2 = mtr m := mtr_congr k3
  have k5 := @mj_has (m.1, m.2.1, []) t q1 q3 kd (nI k)
  have k6 := @mj_rec (m.1, m.2.1, []) t q1 q3 kd (nI k)
  have hpf : mpf m t q1 q2 q3 kd (nI k) vl = mfi (mdo (mj (m.1, m.2.1, []) t q1 q3 kd (nI k)).2 t (mj (m.1, m.2.1, []) t q1 q3 kd (nI k)).1 kd (nI k) vl) t q1 q2 (mj (m.1, m.2.1, []) t q1 q3 kd (nI k)).1 kd (nI k) := rfl
  rw [hpf]
  generalize mj (m.1, m.2.1, []) t q1 q3 kd (nI k) = jr at *
  have hF22 := fr_se hF1 hE2 hNN
  have hq23 := (hE2.2.2 _ hqn1).trans hq1
  have k7 : jr.2.1 (14 + t) = m.1 (14 + t) := k3 _ (by omega)
  refine go_s (pc' := 18) (lo' := [some (.ref (ad2 0)), some (.ref aq), some (.int (nI t)), some (.int jr.1), none, none, none]) rfl rfl rfl rfl ?_
  refine go_s (pc' := 19) rfl rfl rfl rfl ?_
  refine go_ifP (t' := 22) (pc' := 20) rfl rfl rfl (fun (c24 : ¬ jr.1 = 0) => ?_) (fun (c24' : ¬ ¬ jr.1 = 0) => ?_)
  · skip
    refine go_s (pc' := 23) (st' := [.int 0]) rfl rfl rfl rfl ?_
    refine go_s (pc' := 24) (lo' := [some (.ref (ad2 0)), some (.ref aq), some (.int (nI t)), some (.int jr.1), some (.int 0), none, none]) rfl rfl rfl rfl ?_
    refine go_s (pc' := 25) rfl rfl rfl rfl ?_
    refine go_ifP (t' := 32) (pc' := 26) rfl rfl rfl (fun _ => ?_) (fun (c : ¬ ((0 : Int32) = 0)) => absurd (by decide) c)
    refine go_s (pc' := 33) (st' := [.int 0]) rfl rfl rfl rfl ?_
    refine go_s (pc' := 34) (lo' := [some (.ref (ad2 0)), some (.ref aq), some (.int (nI t)), some (.int jr.1), some (.int 0), some (.int 0), none]) rfl rfl rfl rfl ?_
    refine go_s (pc' := 35) rfl rfl rfl rfl ?_
    refine go_s (pc' := 36) (st' := [.int (-9), .int jr.1]) rfl rfl rfl rfl ?_
    refine go_icmpP (t' := 42) (pc' := 37) rfl rfl rfl (fun (c25 : ¬ jr.1 = (-9)) => ?_) (fun (c25' : ¬ ¬ jr.1 = (-9)) => ?_)
    · skip
      refine go_s (pc' := 43) rfl rfl rfl rfl ?_
      refine go_ifP (t' := 50) (pc' := 44) rfl rfl rfl (fun _ => ?_) (fun (c : ¬ ((0 : Int32) = 0)) => absurd (by decide) c)
      refine go_s (pc' := 51) (st' := [.int 0]) rfl rfl rfl rfl ?_
      refine go_s (pc' := 52) (lo' := [some (.ref (ad2 0)), some (.ref aq), some (.int (nI t)), some (.int jr.1), some (.int 0), some (.int 0), some (.int 0)]) rfl rfl rfl rfl ?_
      refine go_s (pc' := 53) rfl rfl rfl rfl ?_
      refine go_ifP (t' := 62) (pc' := 54) rfl rfl rfl (fun _ => ?_) (fun (c : ¬ ((0 : Int32) = 0)) => absurd (by decide) c)
      refine go_s (pc' := 63) rfl rfl rfl rfl ?_
      refine go_ifP (t' := 84) (pc' := 64) rfl rfl rfl (fun _ => ?_) (fun (c : ¬ ((0 : Int32) = 0)) => absurd (by decide) c)
      refine go_s (pc' := 85) rfl rfl rfl rfl ?_
      refine go_ifP (t' := 92) (pc' := 86) rfl rfl rfl (fun _ => ?_) (fun (c : ¬ ((0 : Int32) = 0)) => absurd (by decide) c)
      refine go_s (pc' := 93) rfl rfl rfl rfl ?_
      refine go_ifP (t' := 97) (pc' := 94) rfl rfl rfl (fun _ => ?_) (fun (c : ¬ ((0 : Int32) = 0)) => absurd (by decide) c)
      refine go_s (pc' := 98) rfl rfl rfl rfl ?_
      refine go_ifP (t' := 101) (pc' := 99) rfl rfl rfl (fun (c : ¬ (0 : Int32) = 0) => absurd c (by decide)) (fun _ => ?_)
      refine go_s (pc' := 100) rfl rfl rfl rfl ?_
      refine go_ifP (t' := 104) (pc' := 101) rfl rfl rfl (fun _ => ?_) (fun (c : ¬ ((0 : Int32) = 0)) => absurd (by decide) c)
      have hdo : mdo jr.2 t jr.1 kd (nI k) vl = jr.2 := by
        unfold mdo
        rw [if_neg c25, if_neg c24]
      rw [hdo]
      refine go_s (pc' := 105) rfl rfl rfl rfl ?_
      refine go_sget (pc' := 106) (v := .ref (ad2 1)) hS2 rfl rfl (tbs_s hA (i := 0) (by decide) rfl) (by decide) rfl rfl ?_
      refine go_s (pc' := 107) rfl rfl rfl rfl ?_
      refine go_s (pc' := 108) rfl rfl rfl rfl ?_
      refine go_get (pc' := 109) rfl hq23 rfl (by decide) rfl rfl ?_
      refine go_siast (pc' := 110) (q := t) hS2 rfl (tbs_s hA (i := 1) (by decide) (rg_el (by omega))) tbs_inj (Nat.le_of_ble_eq_true rfl) rfl (by omega) (hZ 1 (by decide)) (hW 1 (by decide)) rfl (fun h26 hS27 hE28 => ?_)
      have hF29 := fr_se hF22 hE28 hNN
      have hE30 := sm_e_trans hE2 hE28
      have hq31 := (hE28.2.2 _ hqn1).trans hq23
      refine go_s (pc' := 111) rfl rfl rfl rfl ?_
      refine go_sget (pc' := 112) (v := .ref (ad2 2)) hS27 rfl rfl (tbs_s hA (i := 0) (by decide) rfl) (by decide) rfl rfl ?_
      refine go_s (pc' := 113) rfl rfl rfl rfl ?_
      refine go_s (pc' := 114) rfl rfl rfl rfl ?_
      refine go_get (pc' := 115) rfl hq31 rfl (by decide) rfl rfl ?_
      refine go_siast (pc' := 116) (q := t) hS27 rfl (tbs_s hA (i := 2) (by decide) (rg_el (by omega))) tbs_inj (Nat.le_of_ble_eq_true rfl) rfl (by omega) (hZ 2 (by decide)) (hW 2 (by decide)) rfl (fun h32 hS33 hE34 => ?_)
      have hF35 := fr_se hF29 hE34 hNN
      have hE36 := sm_e_trans hE30 hE34
      have hq37 := (hE34.2.2 _ hqn1).trans hq31
      refine go_s (pc' := 117) rfl rfl rfl rfl ?_
      refine go_sget (pc' := 118) (v := .ref (ad2 3)) hS33 rfl rfl (tbs_s hA (i := 0) (by decide) rfl) (by decide) rfl rfl ?_
      refine go_s (pc' := 119) rfl rfl rfl rfl ?_
      refine go_s (pc' := 120) rfl rfl rfl rfl ?_
      refine go_siast (pc' := 121) (q := t) hS33 rfl (tbs_s hA (i := 3) (by decide) (rg_el (by omega))) tbs_inj (Nat.le_of_ble_eq_true rfl) rfl (by omega) (hZ 3 (by decide)) (hW 3 (by decide)) rfl (fun h38 hS39 hE40 => ?_)
      have hF41 := fr_se hF35 hE40 hNN
      have hE42 := sm_e_trans hE36 hE40
      have hq43 := (hE40.2.2 _ hqn1).trans hq37
      refine go_s (pc' := 122) rfl rfl rfl rfl ?_
      refine go_sget (pc' := 123) (v := .ref (ad2 4)) hS39 rfl rfl (tbs_s hA (i := 0) (by decide) rfl) (by decide) rfl rfl ?_
      refine go_s (pc' := 124) rfl rfl rfl rfl ?_
      refine go_s (pc' := 125) rfl rfl rfl rfl ?_
      refine go_ifP (t' := 135) (pc' := 126) rfl rfl rfl (fun _ => ?_) (fun (c : ¬ ((0 : Int32) = 0)) => absurd (by decide) c)
      refine go_s (pc' := 136) (st' := [.int 0, .int (nI t), .ref (ad2 4)]) rfl rfl rfl rfl ?_
      refine go_siast (pc' := 137) (q := t) hS39 rfl (tbs_s hA (i := 4) (by decide) (rg_el (by omega))) tbs_inj (Nat.le_of_ble_eq_true rfl) rfl (by omega) (hZ 4 (by decide)) (hW 4 (by decide)) rfl (fun h44 hS45 hE46 => ?_)
      have hF47 := fr_se hF41 hE46 hNN
      have hE48 := sm_e_trans hE42 hE46
      have hq49 := (hE46.2.2 _ hqn1).trans hq43
      refine go_ret rfl rfl ?_
      have hz1 := sc_u1 (k := t) (v := q1) hm2 ht
      have hz2 := sc_u2 (k := t) (v := q2) hz1 ht
      have hz3 := sc_u3 (k := t) (v := jr.1) hz2 ht
      have hz4 := sc_u4 (k := t) (v := 0) hz3 ht
      have hv : (if jr.1 = 0 ∧ kd = 1 then jr.2.1 (16 + ((nI k)).toNatClampNeg) else 0) = 0 := if_neg (fun z => c24 z.1)
      refine ⟨rfl, ad2, hA, hpost.1, hpost.2, _, hS45, ?_, ?_, hF47⟩
      · unfold mfi; rw [hv]; exact hz4
      · exact hb2.trans (hb1)
    · skip
      have c25 : jr.1 = (-9) := Decidable.not_not.mp c25'
      refine go_s (pc' := 38) rfl rfl rfl rfl ?_
      refine go_sget (pc' := 39) (v := .ref (ad2 7)) hS2 rfl rfl (tbs_s hA (i := 0) (by decide) rfl) (by decide) rfl rfl ?_
      refine go_s (pc' := 40) rfl rfl rfl rfl ?_
      refine go_sald (pc' := 41) (q := t) (v := .int (jr.2.1 (14 + t))) hS2 rfl (tbs_s hA (i := 7) (by decide) (rg_el (by omega))) rfl rfl (by omega) (congrArg Value.int (hm2.2.2.2.2.1 t ht).2.2.2.2) rfl ?_
      refine go_s (pc' := 51) rfl rfl rfl rfl ?_
      refine go_s (pc' := 52) (lo' := [some (.ref (ad2 0)), some (.ref aq), some (.int (nI t)), some (.int jr.1), some (.int 0), some (.int 0), some (.int (jr.2.1 (14 + t)))]) rfl rfl rfl rfl ?_
      refine go_s (pc' := 53) rfl rfl rfl rfl ?_
      refine go_ifP (t' := 62) (pc' := 54) rfl rfl rfl (fun _ => ?_) (fun (c : ¬ ((0 : Int32) = 0)) => absurd (by decide) c)
      refine go_s (pc' := 63) rfl rfl rfl rfl ?_
      refine go_ifP (t' := 84) (pc' := 64) rfl rfl rfl (fun _ => ?_) (fun (c : ¬ ((0 : Int32) = 0)) => absurd (by decide) c)
      refine go_s (pc' := 85) rfl rfl rfl rfl ?_
      refine go_ifP (t' := 92) (pc' := 86) rfl rfl rfl (fun _ => ?_) (fun (c : ¬ ((0 : Int32) = 0)) => absurd (by decide) c)
      refine go_s (pc' := 93) rfl rfl rfl rfl ?_
      refine go_ifP (t' := 97) (pc' := 94) rfl rfl rfl (fun (c50 : (jr.2.1 (14 + t)) = 0) => ?_) (fun (c50 : ¬ (jr.2.1 (14 + t)) = 0) => ?_)
      · skip
        refine go_s (pc' := 98) rfl rfl rfl rfl ?_
        refine go_ifP (t' := 101) (pc' := 99) rfl rfl rfl (fun (c : ¬ (0 : Int32) = 0) => absurd c (by decide)) (fun _ => ?_)
        refine go_s (pc' := 100) rfl rfl rfl rfl ?_
        refine go_ifP (t' := 104) (pc' := 101) rfl rfl rfl (fun _ => ?_) (fun (c : ¬ ((jr.2.1 (14 + t)) = 0)) => absurd (by rw [c50] <;> decide) c)
        have hdo : mdo jr.2 t jr.1 kd (nI k) vl = jr.2 := by
          unfold mdo
          rw [if_pos c25, if_pos c50]
        rw [hdo]
        refine go_s (pc' := 105) rfl rfl rfl rfl ?_
        refine go_sget (pc' := 106) (v := .ref (ad2 1)) hS2 rfl rfl (tbs_s hA (i := 0) (by decide) rfl) (by decide) rfl rfl ?_
        refine go_s (pc' := 107) rfl rfl rfl rfl ?_
        refine go_s (pc' := 108) rfl rfl rfl rfl ?_
        refine go_get (pc' := 109) rfl hq23 rfl (by decide) rfl rfl ?_
        refine go_siast (pc' := 110) (q := t) hS2 rfl (tbs_s hA (i := 1) (by decide) (rg_el (by omega))) tbs_inj (Nat.le_of_ble_eq_true rfl) rfl (by omega) (hZ 1 (by decide)) (hW 1 (by decide)) rfl (fun h51 hS52 hE53 => ?_)
        have hF54 := fr_se hF22 hE53 hNN
        have hE55 := sm_e_trans hE2 hE53
        have hq56 := (hE53.2.2 _ hqn1).trans hq23
        refine go_s (pc' := 111) rfl rfl rfl rfl ?_
        refine go_sget (pc' := 112) (v := .ref (ad2 2)) hS52 rfl rfl (tbs_s hA (i := 0) (by decide) rfl) (by decide) rfl rfl ?_
        refine go_s (pc' := 113) rfl rfl rfl rfl ?_
        refine go_s (pc' := 114) rfl rfl rfl rfl ?_
        refine go_get (pc' := 115) rfl hq56 rfl (by decide) rfl rfl ?_
        refine go_siast (pc' := 116) (q := t) hS52 rfl (tbs_s hA (i := 2) (by decide) (rg_el (by omega))) tbs_inj (Nat.le_of_ble_eq_true rfl) rfl (by omega) (hZ 2 (by decide)) (hW 2 (by decide)) rfl (fun h57 hS58 hE59 => ?_)
        have hF60 := fr_se hF54 hE59 hNN
        have hE61 := sm_e_trans hE55 hE59
        have hq62 := (hE59.2.2 _ hqn1).trans hq56
        refine go_s (pc' := 117) rfl rfl rfl rfl ?_
        refine go_sget (pc' := 118) (v := .ref (ad2 3)) hS58 rfl rfl (tbs_s hA (i := 0) (by decide) rfl) (by decide) rfl rfl ?_
        refine go_s (pc' := 119) rfl rfl rfl rfl ?_
        refine go_s (pc' := 120) rfl rfl rfl rfl ?_
        refine go_siast (pc' := 121) (q := t) hS58 rfl (tbs_s hA (i := 3) (by decide) (rg_el (by omega))) tbs_inj (Nat.le_of_ble_eq_true rfl) rfl (by omega) (hZ 3 (by decide)) (hW 3 (by decide)) rfl (fun h63 hS64 hE65 => ?_)
        have hF66 := fr_se hF60 hE65 hNN
        have hE67 := sm_e_trans hE61 hE65
        have hq68 := (hE65.2.2 _ hqn1).trans hq62
        refine go_s (pc' := 122) rfl rfl rfl rfl ?_
        refine go_sget (pc' := 123) (v := .ref (ad2 4)) hS64 rfl rfl (tbs_s hA (i := 0) (by decide) rfl) (by decide) rfl rfl ?_
        refine go_s (pc' := 124) rfl rfl rfl rfl ?_
        refine go_s (pc' := 125) rfl rfl rfl rfl ?_
        refine go_ifP (t' := 135) (pc' := 126) rfl rfl rfl (fun _ => ?_) (fun (c : ¬ ((0 : Int32) = 0)) => absurd (by decide) c)
        refine go_s (pc' := 136) (st' := [.int 0, .int (nI t), .ref (ad2 4)]) rfl rfl rfl rfl ?_
        refine go_siast (pc' := 137) (q := t) hS64 rfl (tbs_s hA (i := 4) (by decide) (rg_el (by omega))) tbs_inj (Nat.le_of_ble_eq_true rfl) rfl (by omega) (hZ 4 (by decide)) (hW 4 (by decide)) rfl (fun h69 hS70 hE71 => ?_)
        have hF72 := fr_se hF66 hE71 hNN
        have hE73 := sm_e_trans hE67 hE71
        have hq74 := (hE71.2.2 _ hqn1).trans hq68
        refine go_ret rfl rfl ?_
        have hz1 := sc_u1 (k := t) (v := q1) hm2 ht
        have hz2 := sc_u2 (k := t) (v := q2) hz1 ht
        have hz3 := sc_u3 (k := t) (v := jr.1) hz2 ht
        have hz4 := sc_u4 (k := t) (v := 0) hz3 ht
        have hv : (if jr.1 = 0 ∧ kd = 1 then jr.2.1 (16 + ((nI k)).toNatClampNeg) else 0) = 0 := if_neg (fun z => c24 z.1)
        refine ⟨rfl, ad2, hA, hpost.1, hpost.2, _, hS70, ?_, ?_, hF72⟩
        · unfold mfi; rw [hv]; exact hz4
        · exact hb2.trans (hb1)
      · skip
        have hT := mtr_pos ht (m := m) (by rw [← k7]; exact c50)
        have hl0 : jr.2.2.1.length < 32 := by rw [k1]; show m.2.1.length < 32; omega
        have hr0 : rok jr.2.2.1 (nI t) := by rw [k1]; exact hrk
        have hc0 : jr.2.2.2.length + cw jr.2.2.1 (nI t) jr.2.2.1.length ≤ 33 := by have := cw_le jr.2.2.1 (nI t) jr.2.2.1.length; rw [k2, List.length_nil]; omega
        have hw1 : (mB jr.2 (nI t)).2.2.length < 35 := by have := mB_len jr.2 (nI t); omega
        refine go_s (pc' := 95) rfl rfl rfl rfl ?_
        refine go_s (pc' := 96) rfl rfl rfl rfl ?_
        refine go_callV (pc' := 97) rfl rfl rfl (Nat.le_of_ble_eq_true rfl) rfl (sm_o hS2 (tbs_at hA (i := 0) (by decide))) rfl rfl rfl (cs_back hA hS2 hm2 hZ hW (nI t) hl0 hr0 hc0 (by omega)) (fun r h75 q76 => ?_)
        obtain ⟨rfl, S77, hS78, hm79, hE80, b81⟩ := q76
        have hF82 := fr_se hF22 hE80 hNN
        have hE83 := sm_e_trans hE2 hE80
        have hq84 := (hE80.2.2 _ hqn1).trans hq23
        refine go_s (pc' := 98) rfl rfl rfl rfl ?_
        refine go_ifP (t' := 101) (pc' := 99) rfl rfl rfl (fun (c : ¬ (0 : Int32) = 0) => absurd c (by decide)) (fun _ => ?_)
        refine go_s (pc' := 100) rfl rfl rfl rfl ?_
        refine go_ifP (t' := 104) (pc' := 101) rfl rfl rfl (fun (c : (jr.2.1 (14 + t)) = 0) => absurd c c50) (fun _ => ?_)
        refine go_s (pc' := 102) rfl rfl rfl rfl ?_
        refine go_s (pc' := 103) rfl rfl rfl rfl ?_
        refine go_callV (pc' := 104) rfl rfl rfl (Nat.le_of_ble_eq_true rfl) rfl (sm_o hS78 (tbs_at hA (i := 0) (by decide))) rfl rfl rfl (cs_end hA hS78 hm79 hZ hW ht hw1 (by omega)) (fun r h85 q86 => ?_)
        obtain ⟨rfl, S87, hS88, hm89, hE90, b91⟩ := q86
        have hF92 := fr_se hF82 hE90 hNN
        have hE93 := sm_e_trans hE83 hE90
        have hq94 := (hE90.2.2 _ hqn1).trans hq84
        have hdo : mdo jr.2 t jr.1 kd (nI k) vl = (mX (mB jr.2 (nI t)) t) := by
          unfold mdo
          rw [if_pos c25, if_neg c50]
        rw [hdo]
        clear hdo
        generalize (mX (mB jr.2 (nI t)) t) = MM at hm89 ⊢
        refine go_s (pc' := 105) rfl rfl rfl rfl ?_
        refine go_sget (pc' := 106) (v := .ref (ad2 1)) hS88 rfl rfl (tbs_s hA (i := 0) (by decide) rfl) (by decide) rfl rfl ?_
        refine go_s (pc' := 107) rfl rfl rfl rfl ?_
        refine go_s (pc' := 108) rfl rfl rfl rfl ?_
        refine go_get (pc' := 109) rfl hq94 rfl (by decide) rfl rfl ?_
        refine go_siast (pc' := 110) (q := t) hS88 rfl (tbs_s hA (i := 1) (by decide) (rg_el (by omega))) tbs_inj (Nat.le_of_ble_eq_true rfl) rfl (by omega) (hZ 1 (by decide)) (hW 1 (by decide)) rfl (fun h95 hS96 hE97 => ?_)
        have hF98 := fr_se hF92 hE97 hNN
        have hE99 := sm_e_trans hE93 hE97
        have hq100 := (hE97.2.2 _ hqn1).trans hq94
        refine go_s (pc' := 111) rfl rfl rfl rfl ?_
        refine go_sget (pc' := 112) (v := .ref (ad2 2)) hS96 rfl rfl (tbs_s hA (i := 0) (by decide) rfl) (by decide) rfl rfl ?_
        refine go_s (pc' := 113) rfl rfl rfl rfl ?_
        refine go_s (pc' := 114) rfl rfl rfl rfl ?_
        refine go_get (pc' := 115) rfl hq100 rfl (by decide) rfl rfl ?_
        refine go_siast (pc' := 116) (q := t) hS96 rfl (tbs_s hA (i := 2) (by decide) (rg_el (by omega))) tbs_inj (Nat.le_of_ble_eq_true rfl) rfl (by omega) (hZ 2 (by decide)) (hW 2 (by decide)) rfl (fun h101 hS102 hE103 => ?_)
        have hF104 := fr_se hF98 hE103 hNN
        have hE105 := sm_e_trans hE99 hE103
        have hq106 := (hE103.2.2 _ hqn1).trans hq100
        refine go_s (pc' := 117) rfl rfl rfl rfl ?_
        refine go_sget (pc' := 118) (v := .ref (ad2 3)) hS102 rfl rfl (tbs_s hA (i := 0) (by decide) rfl) (by decide) rfl rfl ?_
        refine go_s (pc' := 119) rfl rfl rfl rfl ?_
        refine go_s (pc' := 120) rfl rfl rfl rfl ?_
        refine go_siast (pc' := 121) (q := t) hS102 rfl (tbs_s hA (i := 3) (by decide) (rg_el (by omega))) tbs_inj (Nat.le_of_ble_eq_true rfl) rfl (by omega) (hZ 3 (by decide)) (hW 3 (by decide)) rfl (fun h107 hS108 hE109 => ?_)
        have hF110 := fr_se hF104 hE109 hNN
        have hE111 := sm_e_trans hE105 hE109
        have hq112 := (hE109.2.2 _ hqn1).trans hq106
        refine go_s (pc' := 122) rfl rfl rfl rfl ?_
        refine go_sget (pc' := 123) (v := .ref (ad2 4)) hS108 rfl rfl (tbs_s hA (i := 0) (by decide) rfl) (by decide) rfl rfl ?_
        refine go_s (pc' := 124) rfl rfl rfl rfl ?_
        refine go_s (pc' := 125) rfl rfl rfl rfl ?_
        refine go_ifP (t' := 135) (pc' := 126) rfl rfl rfl (fun _ => ?_) (fun (c : ¬ ((0 : Int32) = 0)) => absurd (by decide) c)
        refine go_s (pc' := 136) (st' := [.int 0, .int (nI t), .ref (ad2 4)]) rfl rfl rfl rfl ?_
        refine go_siast (pc' := 137) (q := t) hS108 rfl (tbs_s hA (i := 4) (by decide) (rg_el (by omega))) tbs_inj (Nat.le_of_ble_eq_true rfl) rfl (by omega) (hZ 4 (by decide)) (hW 4 (by decide)) rfl (fun h113 hS114 hE115 => ?_)
        have hF116 := fr_se hF110 hE115 hNN
        have hE117 := sm_e_trans hE111 hE115
        have hq118 := (hE115.2.2 _ hqn1).trans hq112
        refine go_ret rfl rfl ?_
        have hz1 := sc_u1 (k := t) (v := q1) hm89 ht
        have hz2 := sc_u2 (k := t) (v := q2) hz1 ht
        have hz3 := sc_u3 (k := t) (v := jr.1) hz2 ht
        have hz4 := sc_u4 (k := t) (v := 0) hz3 ht
        have hv : (if jr.1 = 0 ∧ kd = 1 then MM.1 (16 + ((nI k)).toNatClampNeg) else 0) = 0 := if_neg (fun z => c24 z.1)
        refine ⟨rfl, ad2, hA, hpost.1, hpost.2, _, hS114, ?_, ?_, hF116⟩
        · unfold mfi; rw [hv]; exact hz4
        · exact b91.trans (b81.trans (hb2.trans (hb1)))
  · skip
    have c24 : jr.1 = 0 := Decidable.not_not.mp c24'
    refine go_s (pc' := 21) (st' := [.int 1]) rfl rfl rfl rfl ?_
    refine go_s (pc' := 23) rfl rfl rfl rfl ?_
    refine go_s (pc' := 24) (lo' := [some (.ref (ad2 0)), some (.ref aq), some (.int (nI t)), some (.int jr.1), some (.int 1), none, none]) rfl rfl rfl rfl ?_
    refine go_s (pc' := 25) rfl rfl rfl rfl ?_
    refine go_ifP (t' := 32) (pc' := 26) rfl rfl rfl (fun (c : (1 : Int32) = 0) => absurd c (by decide)) (fun _ => ?_)
    refine go_s (pc' := 27) rfl rfl rfl rfl ?_
    refine go_get (pc' := 28) rfl hq23 rfl (by decide) rfl rfl ?_
    refine go_s (pc' := 29) (st' := [.int 3, .int kd]) rfl rfl rfl rfl ?_
    refine go_icmpP (t' := 32) (pc' := 30) rfl rfl rfl (fun (c119 : ¬ kd = 3) => ?_) (fun (c119' : ¬ ¬ kd = 3) => ?_)
    · skip
      refine go_s (pc' := 33) (st' := [.int 0]) rfl rfl rfl rfl ?_
      refine go_s (pc' := 34) (lo' := [some (.ref (ad2 0)), some (.ref aq), some (.int (nI t)), some (.int jr.1), some (.int 1), some (.int 0), none]) rfl rfl rfl rfl ?_
      refine go_s (pc' := 35) rfl rfl rfl rfl ?_
      refine go_s (pc' := 36) (st' := [.int (-9), .int jr.1]) rfl rfl rfl rfl ?_
      refine go_icmpP (t' := 42) (pc' := 37) rfl rfl rfl (fun _ => ?_) (fun (c : ¬ (¬ jr.1 = (-9))) => absurd (by rw [c24] <;> decide) c)
      refine go_s (pc' := 43) rfl rfl rfl rfl ?_
      refine go_ifP (t' := 50) (pc' := 44) rfl rfl rfl (fun (c : (1 : Int32) = 0) => absurd c (by decide)) (fun _ => ?_)
      refine go_s (pc' := 45) rfl rfl rfl rfl ?_
      refine go_get (pc' := 46) rfl hq23 rfl (by decide) rfl rfl ?_
      refine go_s (pc' := 47) (st' := [.int 4, .int kd]) rfl rfl rfl rfl ?_
      refine go_icmpP (t' := 50) (pc' := 48) rfl rfl rfl (fun (c120 : ¬ kd = 4) => ?_) (fun (c120' : ¬ ¬ kd = 4) => ?_)
      · skip
        refine go_s (pc' := 51) (st' := [.int 0]) rfl rfl rfl rfl ?_
        refine go_s (pc' := 52) (lo' := [some (.ref (ad2 0)), some (.ref aq), some (.int (nI t)), some (.int jr.1), some (.int 1), some (.int 0), some (.int 0)]) rfl rfl rfl rfl ?_
        refine go_s (pc' := 53) rfl rfl rfl rfl ?_
        refine go_ifP (t' := 62) (pc' := 54) rfl rfl rfl (fun (c : (1 : Int32) = 0) => absurd c (by decide)) (fun _ => ?_)
        refine go_s (pc' := 55) rfl rfl rfl rfl ?_
        refine go_get (pc' := 56) rfl hq23 rfl (by decide) rfl rfl ?_
        refine go_ifP (t' := 62) (pc' := 57) rfl rfl rfl (fun (c121 : ¬ kd = 0) => ?_) (fun (c121' : ¬ ¬ kd = 0) => ?_)
        · skip
          refine go_s (pc' := 63) rfl rfl rfl rfl ?_
          refine go_ifP (t' := 84) (pc' := 64) rfl rfl rfl (fun (c : (1 : Int32) = 0) => absurd c (by decide)) (fun _ => ?_)
          refine go_s (pc' := 65) rfl rfl rfl rfl ?_
          refine go_get (pc' := 66) rfl hq23 rfl (by decide) rfl rfl ?_
          refine go_s (pc' := 67) (st' := [.int 2, .int kd]) rfl rfl rfl rfl ?_
          refine go_icmpP (t' := 84) (pc' := 68) rfl rfl rfl (fun (c122 : ¬ kd = 2) => ?_) (fun (c122' : ¬ ¬ kd = 2) => ?_)
          · skip
            refine go_s (pc' := 85) rfl rfl rfl rfl ?_
            refine go_ifP (t' := 92) (pc' := 86) rfl rfl rfl (fun _ => ?_) (fun (c : ¬ ((0 : Int32) = 0)) => absurd (by decide) c)
            refine go_s (pc' := 93) rfl rfl rfl rfl ?_
            refine go_ifP (t' := 97) (pc' := 94) rfl rfl rfl (fun _ => ?_) (fun (c : ¬ ((0 : Int32) = 0)) => absurd (by decide) c)
            refine go_s (pc' := 98) rfl rfl rfl rfl ?_
            refine go_ifP (t' := 101) (pc' := 99) rfl rfl rfl (fun (c : ¬ (0 : Int32) = 0) => absurd c (by decide)) (fun _ => ?_)
            refine go_s (pc' := 100) rfl rfl rfl rfl ?_
            refine go_ifP (t' := 104) (pc' := 101) rfl rfl rfl (fun _ => ?_) (fun (c : ¬ ((0 : Int32) = 0)) => absurd (by decide) c)
            have hdo : mdo jr.2 t jr.1 kd (nI k) vl = jr.2 := by
              unfold mdo
              rw [if_neg (by rw [c24]; decide), if_pos c24, if_neg c121, if_neg c122, if_neg c119, if_neg c120]
            rw [hdo]
            refine go_s (pc' := 105) rfl rfl rfl rfl ?_
            refine go_sget (pc' := 106) (v := .ref (ad2 1)) hS2 rfl rfl (tbs_s hA (i := 0) (by decide) rfl) (by decide) rfl rfl ?_
            refine go_s (pc' := 107) rfl rfl rfl rfl ?_
            refine go_s (pc' := 108) rfl rfl rfl rfl ?_
            refine go_get (pc' := 109) rfl hq23 rfl (by decide) rfl rfl ?_
            refine go_siast (pc' := 110) (q := t) hS2 rfl (tbs_s hA (i := 1) (by decide) (rg_el (by omega))) tbs_inj (Nat.le_of_ble_eq_true rfl) rfl (by omega) (hZ 1 (by decide)) (hW 1 (by decide)) rfl (fun h123 hS124 hE125 => ?_)
            have hF126 := fr_se hF22 hE125 hNN
            have hE127 := sm_e_trans hE2 hE125
            have hq128 := (hE125.2.2 _ hqn1).trans hq23
            refine go_s (pc' := 111) rfl rfl rfl rfl ?_
            refine go_sget (pc' := 112) (v := .ref (ad2 2)) hS124 rfl rfl (tbs_s hA (i := 0) (by decide) rfl) (by decide) rfl rfl ?_
            refine go_s (pc' := 113) rfl rfl rfl rfl ?_
            refine go_s (pc' := 114) rfl rfl rfl rfl ?_
            refine go_get (pc' := 115) rfl hq128 rfl (by decide) rfl rfl ?_
            refine go_siast (pc' := 116) (q := t) hS124 rfl (tbs_s hA (i := 2) (by decide) (rg_el (by omega))) tbs_inj (Nat.le_of_ble_eq_true rfl) rfl (by omega) (hZ 2 (by decide)) (hW 2 (by decide)) rfl (fun h129 hS130 hE131 => ?_)
            have hF132 := fr_se hF126 hE131 hNN
            have hE133 := sm_e_trans hE127 hE131
            have hq134 := (hE131.2.2 _ hqn1).trans hq128
            refine go_s (pc' := 117) rfl rfl rfl rfl ?_
            refine go_sget (pc' := 118) (v := .ref (ad2 3)) hS130 rfl rfl (tbs_s hA (i := 0) (by decide) rfl) (by decide) rfl rfl ?_
            refine go_s (pc' := 119) rfl rfl rfl rfl ?_
            refine go_s (pc' := 120) rfl rfl rfl rfl ?_
            refine go_siast (pc' := 121) (q := t) hS130 rfl (tbs_s hA (i := 3) (by decide) (rg_el (by omega))) tbs_inj (Nat.le_of_ble_eq_true rfl) rfl (by omega) (hZ 3 (by decide)) (hW 3 (by decide)) rfl (fun h135 hS136 hE137 => ?_)
            have hF138 := fr_se hF132 hE137 hNN
            have hE139 := sm_e_trans hE133 hE137
            have hq140 := (hE137.2.2 _ hqn1).trans hq134
            refine go_s (pc' := 122) rfl rfl rfl rfl ?_
            refine go_sget (pc' := 123) (v := .ref (ad2 4)) hS136 rfl rfl (tbs_s hA (i := 0) (by decide) rfl) (by decide) rfl rfl ?_
            refine go_s (pc' := 124) rfl rfl rfl rfl ?_
            refine go_s (pc' := 125) rfl rfl rfl rfl ?_
            refine go_ifP (t' := 135) (pc' := 126) rfl rfl rfl (fun (c : (1 : Int32) = 0) => absurd c (by decide)) (fun _ => ?_)
            refine go_s (pc' := 127) rfl rfl rfl rfl ?_
            refine go_get (pc' := 128) rfl hq140 rfl (by decide) rfl rfl ?_
            refine go_s (pc' := 129) (st' := [.int 1, .int kd, .int (nI t), .ref (ad2 4)]) rfl rfl rfl rfl ?_
            refine go_icmpP (t' := 135) (pc' := 130) rfl rfl rfl (fun (c141 : ¬ kd = 1) => ?_) (fun (c141' : ¬ ¬ kd = 1) => ?_)
            · skip
              refine go_s (pc' := 136) (st' := [.int 0, .int (nI t), .ref (ad2 4)]) rfl rfl rfl rfl ?_
              refine go_siast (pc' := 137) (q := t) hS136 rfl (tbs_s hA (i := 4) (by decide) (rg_el (by omega))) tbs_inj (Nat.le_of_ble_eq_true rfl) rfl (by omega) (hZ 4 (by decide)) (hW 4 (by decide)) rfl (fun h142 hS143 hE144 => ?_)
              have hF145 := fr_se hF138 hE144 hNN
              have hE146 := sm_e_trans hE139 hE144
              have hq147 := (hE144.2.2 _ hqn1).trans hq140
              refine go_ret rfl rfl ?_
              have hz1 := sc_u1 (k := t) (v := q1) hm2 ht
              have hz2 := sc_u2 (k := t) (v := q2) hz1 ht
              have hz3 := sc_u3 (k := t) (v := jr.1) hz2 ht
              have hz4 := sc_u4 (k := t) (v := 0) hz3 ht
              have hv : (if jr.1 = 0 ∧ kd = 1 then jr.2.1 (16 + ((nI k)).toNatClampNeg) else 0) = 0 := if_neg (fun z => by have := z.2; exact c141 this)
              refine ⟨rfl, ad2, hA, hpost.1, hpost.2, _, hS143, ?_, ?_, hF145⟩
              · unfold mfi; rw [hv]; exact hz4
              · exact hb2.trans (hb1)
            · skip
              have c141 : kd = 1 := Decidable.not_not.mp c141'
              refine go_s (pc' := 131) rfl rfl rfl rfl ?_
              refine go_s (pc' := 132) rfl rfl rfl rfl ?_
              refine go_get (pc' := 133) rfl hq140 rfl (by decide) rfl rfl ?_
              refine go_callV (pc' := 134) rfl rfl rfl (Nat.le_of_ble_eq_true rfl) rfl (sm_o hS136 (tbs_at hA (i := 0) (by decide))) rfl rfl rfl (cs_int hA hS136 hk (by omega)) (fun r h148 q149 => ?_)
              obtain ⟨rfl, rfl⟩ := q149
              show am_Go _ _ _ _ 134 _ [.int (S2 5 k), .int (nI t), .ref (ad2 4)] _ _
              rw [(hm2.2.2.2.2.2.1 k hk).1]
              refine go_s (pc' := 136) rfl rfl rfl rfl ?_
              refine go_siast (pc' := 137) (q := t) hS136 rfl (tbs_s hA (i := 4) (by decide) (rg_el (by omega))) tbs_inj (Nat.le_of_ble_eq_true rfl) rfl (by omega) (hZ 4 (by decide)) (hW 4 (by decide)) rfl (fun h150 hS151 hE152 => ?_)
              have hF153 := fr_se hF138 hE152 hNN
              have hE154 := sm_e_trans hE139 hE152
              have hq155 := (hE152.2.2 _ hqn1).trans hq140
              refine go_ret rfl rfl ?_
              have hz1 := sc_u1 (k := t) (v := q1) hm2 ht
              have hz2 := sc_u2 (k := t) (v := q2) hz1 ht
              have hz3 := sc_u3 (k := t) (v := jr.1) hz2 ht
              have hz4 := sc_u4 (k := t) (v := (jr.2.1 (16 + k))) hz3 ht
              have hv : (if jr.1 = 0 ∧ kd = 1 then jr.2.1 (16 + ((nI k)).toNatClampNeg) else 0) = (jr.2.1 (16 + k)) := by rw [if_pos ⟨c24, c141⟩, nI_clamp (by omega)]
              refine ⟨rfl, ad2, hA, hpost.1, hpost.2, _, hS151, ?_, ?_, hF153⟩
              · unfold mfi; rw [hv]; exact hz4
              · exact hb2.trans (hb1)
          · skip
            have c122 : kd = 2 := Decidable.not_not.mp c122'
            have hT := mtr_pos ht (k5 c24 (by rw [c122]; decide))
            have hl0 : jr.2.2.1.length < 32 := by rw [k1]; show m.2.1.length < 32; have : mtr (m.1, m.2.1, []) = mtr m := rfl; omega
            have hw0 : jr.2.2.2.length < 35 := by rw [k2]; exact (by decide : 0 < 35)
            have hw1 : (mE jr.2 1 (nI t) (nI k) (jr.2.1 (16 + k))).2.2.length < 35 := by simp only [mE, k2, List.length_append, List.length_cons, List.length_nil]; omega
            refine go_s (pc' := 69) rfl rfl rfl rfl ?_
            refine go_s (pc' := 70) (st' := [.int 1, .ref (ad2 0)]) rfl rfl rfl rfl ?_
            refine go_s (pc' := 71) rfl rfl rfl rfl ?_
            refine go_s (pc' := 72) rfl rfl rfl rfl ?_
            refine go_get (pc' := 73) rfl hq23 rfl (by decide) rfl rfl ?_
            refine go_s (pc' := 74) rfl rfl rfl rfl ?_
            refine go_s (pc' := 75) rfl rfl rfl rfl ?_
            refine go_get (pc' := 76) rfl hq23 rfl (by decide) rfl rfl ?_
            refine go_callV (pc' := 77) rfl rfl rfl (Nat.le_of_ble_eq_true rfl) rfl (sm_o hS2 (tbs_at hA (i := 0) (by decide))) rfl rfl rfl (cs_int hA hS2 hk (by omega)) (fun r h156 q157 => ?_)
            obtain ⟨rfl, rfl⟩ := q157
            show am_Go _ _ _ _ 77 _ [.int (S2 5 k), .int (nI k), .int (nI t), .int 1, .ref (ad2 0)] _ _
            rw [(hm2.2.2.2.2.2.1 k hk).1]
            refine go_callV (pc' := 78) rfl rfl rfl (Nat.le_of_ble_eq_true rfl) rfl (sm_o hS2 (tbs_at hA (i := 0) (by decide))) rfl rfl rfl (cs_addE hA hS2 hZ hW hm2.2.2.1 hm2.2.2.2.1 hl0 hw0 1 (nI t) (nI k) (jr.2.1 (16 + k)) (by omega)) (fun r h158 q159 => ?_)
            obtain ⟨rfl, hS160, hE161⟩ := q159
            have hm162 := sc_E (kd := 1) (t := (nI t)) (rc := (nI k)) (bf := (jr.2.1 (16 + k))) hm2
            have b165 : cE S2 jr.2.2.1.length jr.2.2.2.length 1 (nI t) (nI k) (jr.2.1 (16 + k)) 0 3 = S2 0 3 := rfl
            generalize cE S2 jr.2.2.1.length jr.2.2.2.length 1 (nI t) (nI k) (jr.2.1 (16 + k)) = S163 at hS160 hm162 b165
            have hF166 := fr_se hF22 hE161 hNN
            have hE167 := sm_e_trans hE2 hE161
            have hq168 := (hE161.2.2 _ hqn1).trans hq23
            refine go_s (pc' := 79) rfl rfl rfl rfl ?_
            refine go_s (pc' := 80) rfl rfl rfl rfl ?_
            refine go_get (pc' := 81) rfl hq168 rfl (by decide) rfl rfl ?_
            refine go_s (pc' := 82) rfl rfl rfl rfl ?_
            refine go_get (pc' := 83) rfl hq168 rfl (by decide) rfl rfl ?_
            refine go_callV (pc' := 84) rfl rfl rfl (Nat.le_of_ble_eq_true rfl) rfl (sm_o hS160 (tbs_at hA (i := 0) (by decide))) rfl rfl rfl (cs_setRec hA hS160 hZ hW hm162.2.2.2.1 hw1 hk vl (by omega)) (fun r h169 q170 => ?_)
            obtain ⟨rfl, hS171, hE172⟩ := q170
            have hm173 := sc_R (q := k) (v := vl) hm162 hk hw1
            change sm (tbs ad2) h169 (cR S163 (mE jr.2 1 (nI t) (nI k) (jr.2.1 (16 + k))).2.2.length k vl) (uX Y 200 0 (.ref aq)) at hS171
            have b175 : cR S163 (mE jr.2 1 (nI t) (nI k) (jr.2.1 (16 + k))).2.2.length k vl 0 3 = S163 0 3 := rfl
            generalize cR S163 (mE jr.2 1 (nI t) (nI k) (jr.2.1 (16 + k))).2.2.length k vl = S174 at hS171 hm173 b175
            have hF176 := fr_se hF166 hE172 hNN
            have hE177 := sm_e_trans hE167 hE172
            have hq178 := (hE172.2.2 _ hqn1).trans hq168
            refine go_s (pc' := 85) rfl rfl rfl rfl ?_
            refine go_ifP (t' := 92) (pc' := 86) rfl rfl rfl (fun _ => ?_) (fun (c : ¬ ((0 : Int32) = 0)) => absurd (by decide) c)
            refine go_s (pc' := 93) rfl rfl rfl rfl ?_
            refine go_ifP (t' := 97) (pc' := 94) rfl rfl rfl (fun _ => ?_) (fun (c : ¬ ((0 : Int32) = 0)) => absurd (by decide) c)
            refine go_s (pc' := 98) rfl rfl rfl rfl ?_
            refine go_ifP (t' := 101) (pc' := 99) rfl rfl rfl (fun (c : ¬ (0 : Int32) = 0) => absurd c (by decide)) (fun _ => ?_)
            refine go_s (pc' := 100) rfl rfl rfl rfl ?_
            refine go_ifP (t' := 104) (pc' := 101) rfl rfl rfl (fun _ => ?_) (fun (c : ¬ ((0 : Int32) = 0)) => absurd (by decide) c)
            have hdo : mdo jr.2 t jr.1 kd (nI k) vl = (mR (mE jr.2 1 (nI t) (nI k) (jr.2.1 (16 + k))) k vl) := by
              unfold mdo
              rw [if_neg (by rw [c24]; decide), if_pos c24, if_neg (by rw [c122]; decide), if_pos c122]
              rw [nI_clamp (show k < 2 ^ 31 by omega)]
            rw [hdo]
            clear hdo
            generalize (mR (mE jr.2 1 (nI t) (nI k) (jr.2.1 (16 + k))) k vl) = MM at hm173 ⊢
            refine go_s (pc' := 105) rfl rfl rfl rfl ?_
            refine go_sget (pc' := 106) (v := .ref (ad2 1)) hS171 rfl rfl (tbs_s hA (i := 0) (by decide) rfl) (by decide) rfl rfl ?_
            refine go_s (pc' := 107) rfl rfl rfl rfl ?_
            refine go_s (pc' := 108) rfl rfl rfl rfl ?_
            refine go_get (pc' := 109) rfl hq178 rfl (by decide) rfl rfl ?_
            refine go_siast (pc' := 110) (q := t) hS171 rfl (tbs_s hA (i := 1) (by decide) (rg_el (by omega))) tbs_inj (Nat.le_of_ble_eq_true rfl) rfl (by omega) (hZ 1 (by decide)) (hW 1 (by decide)) rfl (fun h179 hS180 hE181 => ?_)
            have hF182 := fr_se hF176 hE181 hNN
            have hE183 := sm_e_trans hE177 hE181
            have hq184 := (hE181.2.2 _ hqn1).trans hq178
            refine go_s (pc' := 111) rfl rfl rfl rfl ?_
            refine go_sget (pc' := 112) (v := .ref (ad2 2)) hS180 rfl rfl (tbs_s hA (i := 0) (by decide) rfl) (by decide) rfl rfl ?_
            refine go_s (pc' := 113) rfl rfl rfl rfl ?_
            refine go_s (pc' := 114) rfl rfl rfl rfl ?_
            refine go_get (pc' := 115) rfl hq184 rfl (by decide) rfl rfl ?_
            refine go_siast (pc' := 116) (q := t) hS180 rfl (tbs_s hA (i := 2) (by decide) (rg_el (by omega))) tbs_inj (Nat.le_of_ble_eq_true rfl) rfl (by omega) (hZ 2 (by decide)) (hW 2 (by decide)) rfl (fun h185 hS186 hE187 => ?_)
            have hF188 := fr_se hF182 hE187 hNN
            have hE189 := sm_e_trans hE183 hE187
            have hq190 := (hE187.2.2 _ hqn1).trans hq184
            refine go_s (pc' := 117) rfl rfl rfl rfl ?_
            refine go_sget (pc' := 118) (v := .ref (ad2 3)) hS186 rfl rfl (tbs_s hA (i := 0) (by decide) rfl) (by decide) rfl rfl ?_
            refine go_s (pc' := 119) rfl rfl rfl rfl ?_
            refine go_s (pc' := 120) rfl rfl rfl rfl ?_
            refine go_siast (pc' := 121) (q := t) hS186 rfl (tbs_s hA (i := 3) (by decide) (rg_el (by omega))) tbs_inj (Nat.le_of_ble_eq_true rfl) rfl (by omega) (hZ 3 (by decide)) (hW 3 (by decide)) rfl (fun h191 hS192 hE193 => ?_)
            have hF194 := fr_se hF188 hE193 hNN
            have hE195 := sm_e_trans hE189 hE193
            have hq196 := (hE193.2.2 _ hqn1).trans hq190
            refine go_s (pc' := 122) rfl rfl rfl rfl ?_
            refine go_sget (pc' := 123) (v := .ref (ad2 4)) hS192 rfl rfl (tbs_s hA (i := 0) (by decide) rfl) (by decide) rfl rfl ?_
            refine go_s (pc' := 124) rfl rfl rfl rfl ?_
            refine go_s (pc' := 125) rfl rfl rfl rfl ?_
            refine go_ifP (t' := 135) (pc' := 126) rfl rfl rfl (fun (c : (1 : Int32) = 0) => absurd c (by decide)) (fun _ => ?_)
            refine go_s (pc' := 127) rfl rfl rfl rfl ?_
            refine go_get (pc' := 128) rfl hq196 rfl (by decide) rfl rfl ?_
            refine go_s (pc' := 129) (st' := [.int 1, .int kd, .int (nI t), .ref (ad2 4)]) rfl rfl rfl rfl ?_
            refine go_icmpP (t' := 135) (pc' := 130) rfl rfl rfl (fun _ => ?_) (fun (c : ¬ (¬ kd = 1)) => absurd (by rw [c122] <;> decide) c)
            refine go_s (pc' := 136) (st' := [.int 0, .int (nI t), .ref (ad2 4)]) rfl rfl rfl rfl ?_
            refine go_siast (pc' := 137) (q := t) hS192 rfl (tbs_s hA (i := 4) (by decide) (rg_el (by omega))) tbs_inj (Nat.le_of_ble_eq_true rfl) rfl (by omega) (hZ 4 (by decide)) (hW 4 (by decide)) rfl (fun h197 hS198 hE199 => ?_)
            have hF200 := fr_se hF194 hE199 hNN
            have hE201 := sm_e_trans hE195 hE199
            have hq202 := (hE199.2.2 _ hqn1).trans hq196
            refine go_ret rfl rfl ?_
            have hz1 := sc_u1 (k := t) (v := q1) hm173 ht
            have hz2 := sc_u2 (k := t) (v := q2) hz1 ht
            have hz3 := sc_u3 (k := t) (v := jr.1) hz2 ht
            have hz4 := sc_u4 (k := t) (v := 0) hz3 ht
            have hv : (if jr.1 = 0 ∧ kd = 1 then MM.1 (16 + ((nI k)).toNatClampNeg) else 0) = 0 := if_neg (fun z => by have := z.2; rw [c122] at this; exact absurd this (by decide))
            refine ⟨rfl, ad2, hA, hpost.1, hpost.2, _, hS198, ?_, ?_, hF200⟩
            · unfold mfi; rw [hv]; exact hz4
            · exact b175.trans (b165.trans (hb2.trans (hb1)))
        · skip
          have c121 : kd = 0 := Decidable.not_not.mp c121'
          refine go_s (pc' := 58) rfl rfl rfl rfl ?_
          refine go_sget (pc' := 59) (v := .ref (ad2 7)) hS2 rfl rfl (tbs_s hA (i := 0) (by decide) rfl) (by decide) rfl rfl ?_
          refine go_s (pc' := 60) rfl rfl rfl rfl ?_
          refine go_s (pc' := 61) (st' := [.int 1, .int (nI t), .ref (ad2 7)]) rfl rfl rfl rfl ?_
          refine go_szast (pc' := 62) (q := t) hS2 rfl (tbs_s hA (i := 7) (by decide) (rg_el (by omega))) tbs_inj (Nat.le_of_ble_eq_true rfl) rfl (by omega) (hZ 7 (by decide)) rfl (hW 7 (by decide)) rfl (fun h203 hS204 hE205 => ?_)
          have hF206 := fr_se hF22 hE205 hNN
          have hE207 := sm_e_trans hE2 hE205
          have hq208 := (hE205.2.2 _ hqn1).trans hq23
          have hm3 := sc_u7 (k := t) (v := 1) hm2 ht
          obtain ⟨S3, hS3e⟩ : ∃ x, x = (uI S2 7 t 1) := ⟨_, rfl⟩
          have hb3 : S3 0 3 = S2 0 3 := by rw [hS3e]; rfl
          change sm _ _ (uI S2 7 t 1) _ at hS204
          rw [← hS3e] at hm3 hS204
          refine go_s (pc' := 63) rfl rfl rfl rfl ?_
          refine go_ifP (t' := 84) (pc' := 64) rfl rfl rfl (fun (c : (1 : Int32) = 0) => absurd c (by decide)) (fun _ => ?_)
          refine go_s (pc' := 65) rfl rfl rfl rfl ?_
          refine go_get (pc' := 66) rfl hq208 rfl (by decide) rfl rfl ?_
          refine go_s (pc' := 67) (st' := [.int 2, .int kd]) rfl rfl rfl rfl ?_
          refine go_icmpP (t' := 84) (pc' := 68) rfl rfl rfl (fun _ => ?_) (fun (c : ¬ (¬ kd = 2)) => absurd (by rw [c121] <;> decide) c)
          refine go_s (pc' := 85) rfl rfl rfl rfl ?_
          refine go_ifP (t' := 92) (pc' := 86) rfl rfl rfl (fun _ => ?_) (fun (c : ¬ ((0 : Int32) = 0)) => absurd (by decide) c)
          refine go_s (pc' := 93) rfl rfl rfl rfl ?_
          refine go_ifP (t' := 97) (pc' := 94) rfl rfl rfl (fun _ => ?_) (fun (c : ¬ ((0 : Int32) = 0)) => absurd (by decide) c)
          refine go_s (pc' := 98) rfl rfl rfl rfl ?_
          refine go_ifP (t' := 101) (pc' := 99) rfl rfl rfl (fun (c : ¬ (0 : Int32) = 0) => absurd c (by decide)) (fun _ => ?_)
          refine go_s (pc' := 100) rfl rfl rfl rfl ?_
          refine go_ifP (t' := 104) (pc' := 101) rfl rfl rfl (fun _ => ?_) (fun (c : ¬ ((0 : Int32) = 0)) => absurd (by decide) c)
          have hdo : mdo jr.2 t jr.1 kd (nI k) vl = (uF jr.2.1 (14 + t) 1, jr.2.2.1, jr.2.2.2) := by
            unfold mdo
            rw [if_neg (by rw [c24]; decide), if_pos c24, if_pos c121]
          rw [hdo]
          clear hdo
          generalize (uF jr.2.1 (14 + t) 1, jr.2.2.1, jr.2.2.2) = MM at hm3 ⊢
          refine go_s (pc' := 105) rfl rfl rfl rfl ?_
          refine go_sget (pc' := 106) (v := .ref (ad2 1)) hS204 rfl rfl (tbs_s hA (i := 0) (by decide) rfl) (by decide) rfl rfl ?_
          refine go_s (pc' := 107) rfl rfl rfl rfl ?_
          refine go_s (pc' := 108) rfl rfl rfl rfl ?_
          refine go_get (pc' := 109) rfl hq208 rfl (by decide) rfl rfl ?_
          refine go_siast (pc' := 110) (q := t) hS204 rfl (tbs_s hA (i := 1) (by decide) (rg_el (by omega))) tbs_inj (Nat.le_of_ble_eq_true rfl) rfl (by omega) (hZ 1 (by decide)) (hW 1 (by decide)) rfl (fun h209 hS210 hE211 => ?_)
          have hF212 := fr_se hF206 hE211 hNN
          have hE213 := sm_e_trans hE207 hE211
          have hq214 := (hE211.2.2 _ hqn1).trans hq208
          refine go_s (pc' := 111) rfl rfl rfl rfl ?_
          refine go_sget (pc' := 112) (v := .ref (ad2 2)) hS210 rfl rfl (tbs_s hA (i := 0) (by decide) rfl) (by decide) rfl rfl ?_
          refine go_s (pc' := 113) rfl rfl rfl rfl ?_
          refine go_s (pc' := 114) rfl rfl rfl rfl ?_
          refine go_get (pc' := 115) rfl hq214 rfl (by decide) rfl rfl ?_
          refine go_siast (pc' := 116) (q := t) hS210 rfl (tbs_s hA (i := 2) (by decide) (rg_el (by omega))) tbs_inj (Nat.le_of_ble_eq_true rfl) rfl (by omega) (hZ 2 (by decide)) (hW 2 (by decide)) rfl (fun h215 hS216 hE217 => ?_)
          have hF218 := fr_se hF212 hE217 hNN
          have hE219 := sm_e_trans hE213 hE217
          have hq220 := (hE217.2.2 _ hqn1).trans hq214
          refine go_s (pc' := 117) rfl rfl rfl rfl ?_
          refine go_sget (pc' := 118) (v := .ref (ad2 3)) hS216 rfl rfl (tbs_s hA (i := 0) (by decide) rfl) (by decide) rfl rfl ?_
          refine go_s (pc' := 119) rfl rfl rfl rfl ?_
          refine go_s (pc' := 120) rfl rfl rfl rfl ?_
          refine go_siast (pc' := 121) (q := t) hS216 rfl (tbs_s hA (i := 3) (by decide) (rg_el (by omega))) tbs_inj (Nat.le_of_ble_eq_true rfl) rfl (by omega) (hZ 3 (by decide)) (hW 3 (by decide)) rfl (fun h221 hS222 hE223 => ?_)
          have hF224 := fr_se hF218 hE223 hNN
          have hE225 := sm_e_trans hE219 hE223
          have hq226 := (hE223.2.2 _ hqn1).trans hq220
          refine go_s (pc' := 122) rfl rfl rfl rfl ?_
          refine go_sget (pc' := 123) (v := .ref (ad2 4)) hS222 rfl rfl (tbs_s hA (i := 0) (by decide) rfl) (by decide) rfl rfl ?_
          refine go_s (pc' := 124) rfl rfl rfl rfl ?_
          refine go_s (pc' := 125) rfl rfl rfl rfl ?_
          refine go_ifP (t' := 135) (pc' := 126) rfl rfl rfl (fun (c : (1 : Int32) = 0) => absurd c (by decide)) (fun _ => ?_)
          refine go_s (pc' := 127) rfl rfl rfl rfl ?_
          refine go_get (pc' := 128) rfl hq226 rfl (by decide) rfl rfl ?_
          refine go_s (pc' := 129) (st' := [.int 1, .int kd, .int (nI t), .ref (ad2 4)]) rfl rfl rfl rfl ?_
          refine go_icmpP (t' := 135) (pc' := 130) rfl rfl rfl (fun _ => ?_) (fun (c : ¬ (¬ kd = 1)) => absurd (by rw [c121] <;> decide) c)
          refine go_s (pc' := 136) (st' := [.int 0, .int (nI t), .ref (ad2 4)]) rfl rfl rfl rfl ?_
          refine go_siast (pc' := 137) (q := t) hS222 rfl (tbs_s hA (i := 4) (by decide) (rg_el (by omega))) tbs_inj (Nat.le_of_ble_eq_true rfl) rfl (by omega) (hZ 4 (by decide)) (hW 4 (by decide)) rfl (fun h227 hS228 hE229 => ?_)
          have hF230 := fr_se hF224 hE229 hNN
          have hE231 := sm_e_trans hE225 hE229
          have hq232 := (hE229.2.2 _ hqn1).trans hq226
          refine go_ret rfl rfl ?_
          have hz1 := sc_u1 (k := t) (v := q1) hm3 ht
          have hz2 := sc_u2 (k := t) (v := q2) hz1 ht
          have hz3 := sc_u3 (k := t) (v := jr.1) hz2 ht
          have hz4 := sc_u4 (k := t) (v := 0) hz3 ht
          have hv : (if jr.1 = 0 ∧ kd = 1 then MM.1 (16 + ((nI k)).toNatClampNeg) else 0) = 0 := if_neg (fun z => by have := z.2; rw [c121] at this; exact absurd this (by decide))
          refine ⟨rfl, ad2, hA, hpost.1, hpost.2, _, hS228, ?_, ?_, hF230⟩
          · unfold mfi; rw [hv]; exact hz4
          · exact hb3.trans (hb2.trans (hb1))
      · skip
        have c120 : kd = 4 := Decidable.not_not.mp c120'
        refine go_s (pc' := 49) (st' := [.int 1]) rfl rfl rfl rfl ?_
        refine go_s (pc' := 51) rfl rfl rfl rfl ?_
        refine go_s (pc' := 52) (lo' := [some (.ref (ad2 0)), some (.ref aq), some (.int (nI t)), some (.int jr.1), some (.int 1), some (.int 0), some (.int 1)]) rfl rfl rfl rfl ?_
        refine go_s (pc' := 53) rfl rfl rfl rfl ?_
        refine go_ifP (t' := 62) (pc' := 54) rfl rfl rfl (fun (c : (1 : Int32) = 0) => absurd c (by decide)) (fun _ => ?_)
        refine go_s (pc' := 55) rfl rfl rfl rfl ?_
        refine go_get (pc' := 56) rfl hq23 rfl (by decide) rfl rfl ?_
        refine go_ifP (t' := 62) (pc' := 57) rfl rfl rfl (fun _ => ?_) (fun (c : ¬ (¬ kd = 0)) => absurd (by rw [c120] <;> decide) c)
        refine go_s (pc' := 63) rfl rfl rfl rfl ?_
        refine go_ifP (t' := 84) (pc' := 64) rfl rfl rfl (fun (c : (1 : Int32) = 0) => absurd c (by decide)) (fun _ => ?_)
        refine go_s (pc' := 65) rfl rfl rfl rfl ?_
        refine go_get (pc' := 66) rfl hq23 rfl (by decide) rfl rfl ?_
        refine go_s (pc' := 67) (st' := [.int 2, .int kd]) rfl rfl rfl rfl ?_
        refine go_icmpP (t' := 84) (pc' := 68) rfl rfl rfl (fun _ => ?_) (fun (c : ¬ (¬ kd = 2)) => absurd (by rw [c120] <;> decide) c)
        refine go_s (pc' := 85) rfl rfl rfl rfl ?_
        refine go_ifP (t' := 92) (pc' := 86) rfl rfl rfl (fun _ => ?_) (fun (c : ¬ ((0 : Int32) = 0)) => absurd (by decide) c)
        refine go_s (pc' := 93) rfl rfl rfl rfl ?_
        refine go_ifP (t' := 97) (pc' := 94) rfl rfl rfl (fun (c : (1 : Int32) = 0) => absurd c (by decide)) (fun _ => ?_)
        have hT := mtr_pos ht (k5 c24 (by rw [c120]; decide))
        have : mtr (m.1, m.2.1, []) = mtr m := rfl
        have hl0 : jr.2.2.1.length < 32 := by rw [k1]; show m.2.1.length < 32; omega
        have hr0 : rok jr.2.2.1 (nI t) := by rw [k1]; exact hrk
        have hc0 : jr.2.2.2.length + cw jr.2.2.1 (nI t) jr.2.2.1.length ≤ 33 := by have := cw_le jr.2.2.1 (nI t) jr.2.2.1.length; rw [k2, List.length_nil]; omega
        have hw1 : (mB jr.2 (nI t)).2.2.length < 35 := by have := mB_len jr.2 (nI t); omega
        refine go_s (pc' := 95) rfl rfl rfl rfl ?_
        refine go_s (pc' := 96) rfl rfl rfl rfl ?_
        refine go_callV (pc' := 97) rfl rfl rfl (Nat.le_of_ble_eq_true rfl) rfl (sm_o hS2 (tbs_at hA (i := 0) (by decide))) rfl rfl rfl (cs_back hA hS2 hm2 hZ hW (nI t) hl0 hr0 hc0 (by omega)) (fun r h233 q234 => ?_)
        obtain ⟨rfl, S235, hS236, hm237, hE238, b239⟩ := q234
        have hF240 := fr_se hF22 hE238 hNN
        have hE241 := sm_e_trans hE2 hE238
        have hq242 := (hE238.2.2 _ hqn1).trans hq23
        refine go_s (pc' := 98) rfl rfl rfl rfl ?_
        refine go_ifP (t' := 101) (pc' := 99) rfl rfl rfl (fun (c : ¬ (0 : Int32) = 0) => absurd c (by decide)) (fun _ => ?_)
        refine go_s (pc' := 100) rfl rfl rfl rfl ?_
        refine go_ifP (t' := 104) (pc' := 101) rfl rfl rfl (fun (c : (1 : Int32) = 0) => absurd c (by decide)) (fun _ => ?_)
        refine go_s (pc' := 102) rfl rfl rfl rfl ?_
        refine go_s (pc' := 103) rfl rfl rfl rfl ?_
        refine go_callV (pc' := 104) rfl rfl rfl (Nat.le_of_ble_eq_true rfl) rfl (sm_o hS236 (tbs_at hA (i := 0) (by decide))) rfl rfl rfl (cs_end hA hS236 hm237 hZ hW ht hw1 (by omega)) (fun r h243 q244 => ?_)
        obtain ⟨rfl, S245, hS246, hm247, hE248, b249⟩ := q244
        have hF250 := fr_se hF240 hE248 hNN
        have hE251 := sm_e_trans hE241 hE248
        have hq252 := (hE248.2.2 _ hqn1).trans hq242
        have hdo : mdo jr.2 t jr.1 kd (nI k) vl = (mX (mB jr.2 (nI t)) t) := by
          unfold mdo
          rw [if_neg (by rw [c24]; decide), if_pos c24, if_neg (by rw [c120]; decide), if_neg (by rw [c120]; decide), if_neg (by rw [c120]; decide), if_pos c120]
        rw [hdo]
        clear hdo
        generalize (mX (mB jr.2 (nI t)) t) = MM at hm247 ⊢
        refine go_s (pc' := 105) rfl rfl rfl rfl ?_
        refine go_sget (pc' := 106) (v := .ref (ad2 1)) hS246 rfl rfl (tbs_s hA (i := 0) (by decide) rfl) (by decide) rfl rfl ?_
        refine go_s (pc' := 107) rfl rfl rfl rfl ?_
        refine go_s (pc' := 108) rfl rfl rfl rfl ?_
        refine go_get (pc' := 109) rfl hq252 rfl (by decide) rfl rfl ?_
        refine go_siast (pc' := 110) (q := t) hS246 rfl (tbs_s hA (i := 1) (by decide) (rg_el (by omega))) tbs_inj (Nat.le_of_ble_eq_true rfl) rfl (by omega) (hZ 1 (by decide)) (hW 1 (by decide)) rfl (fun h253 hS254 hE255 => ?_)
        have hF256 := fr_se hF250 hE255 hNN
        have hE257 := sm_e_trans hE251 hE255
        have hq258 := (hE255.2.2 _ hqn1).trans hq252
        refine go_s (pc' := 111) rfl rfl rfl rfl ?_
        refine go_sget (pc' := 112) (v := .ref (ad2 2)) hS254 rfl rfl (tbs_s hA (i := 0) (by decide) rfl) (by decide) rfl rfl ?_
        refine go_s (pc' := 113) rfl rfl rfl rfl ?_
        refine go_s (pc' := 114) rfl rfl rfl rfl ?_
        refine go_get (pc' := 115) rfl hq258 rfl (by decide) rfl rfl ?_
        refine go_siast (pc' := 116) (q := t) hS254 rfl (tbs_s hA (i := 2) (by decide) (rg_el (by omega))) tbs_inj (Nat.le_of_ble_eq_true rfl) rfl (by omega) (hZ 2 (by decide)) (hW 2 (by decide)) rfl (fun h259 hS260 hE261 => ?_)
        have hF262 := fr_se hF256 hE261 hNN
        have hE263 := sm_e_trans hE257 hE261
        have hq264 := (hE261.2.2 _ hqn1).trans hq258
        refine go_s (pc' := 117) rfl rfl rfl rfl ?_
        refine go_sget (pc' := 118) (v := .ref (ad2 3)) hS260 rfl rfl (tbs_s hA (i := 0) (by decide) rfl) (by decide) rfl rfl ?_
        refine go_s (pc' := 119) rfl rfl rfl rfl ?_
        refine go_s (pc' := 120) rfl rfl rfl rfl ?_
        refine go_siast (pc' := 121) (q := t) hS260 rfl (tbs_s hA (i := 3) (by decide) (rg_el (by omega))) tbs_inj (Nat.le_of_ble_eq_true rfl) rfl (by omega) (hZ 3 (by decide)) (hW 3 (by decide)) rfl (fun h265 hS266 hE267 => ?_)
        have hF268 := fr_se hF262 hE267 hNN
        have hE269 := sm_e_trans hE263 hE267
        have hq270 := (hE267.2.2 _ hqn1).trans hq264
        refine go_s (pc' := 122) rfl rfl rfl rfl ?_
        refine go_sget (pc' := 123) (v := .ref (ad2 4)) hS266 rfl rfl (tbs_s hA (i := 0) (by decide) rfl) (by decide) rfl rfl ?_
        refine go_s (pc' := 124) rfl rfl rfl rfl ?_
        refine go_s (pc' := 125) rfl rfl rfl rfl ?_
        refine go_ifP (t' := 135) (pc' := 126) rfl rfl rfl (fun (c : (1 : Int32) = 0) => absurd c (by decide)) (fun _ => ?_)
        refine go_s (pc' := 127) rfl rfl rfl rfl ?_
        refine go_get (pc' := 128) rfl hq270 rfl (by decide) rfl rfl ?_
        refine go_s (pc' := 129) (st' := [.int 1, .int kd, .int (nI t), .ref (ad2 4)]) rfl rfl rfl rfl ?_
        refine go_icmpP (t' := 135) (pc' := 130) rfl rfl rfl (fun _ => ?_) (fun (c : ¬ (¬ kd = 1)) => absurd (by rw [c120] <;> decide) c)
        refine go_s (pc' := 136) (st' := [.int 0, .int (nI t), .ref (ad2 4)]) rfl rfl rfl rfl ?_
        refine go_siast (pc' := 137) (q := t) hS266 rfl (tbs_s hA (i := 4) (by decide) (rg_el (by omega))) tbs_inj (Nat.le_of_ble_eq_true rfl) rfl (by omega) (hZ 4 (by decide)) (hW 4 (by decide)) rfl (fun h271 hS272 hE273 => ?_)
        have hF274 := fr_se hF268 hE273 hNN
        have hE275 := sm_e_trans hE269 hE273
        have hq276 := (hE273.2.2 _ hqn1).trans hq270
        refine go_ret rfl rfl ?_
        have hz1 := sc_u1 (k := t) (v := q1) hm247 ht
        have hz2 := sc_u2 (k := t) (v := q2) hz1 ht
        have hz3 := sc_u3 (k := t) (v := jr.1) hz2 ht
        have hz4 := sc_u4 (k := t) (v := 0) hz3 ht
        have hv : (if jr.1 = 0 ∧ kd = 1 then MM.1 (16 + ((nI k)).toNatClampNeg) else 0) = 0 := if_neg (fun z => by have := z.2; rw [c120] at this; exact absurd this (by decide))
        refine ⟨rfl, ad2, hA, hpost.1, hpost.2, _, hS272, ?_, ?_, hF274⟩
        · unfold mfi; rw [hv]; exact hz4
        · exact b249.trans (b239.trans (hb2.trans (hb1)))
    · skip
      have c119 : kd = 3 := Decidable.not_not.mp c119'
      refine go_s (pc' := 31) (st' := [.int 1]) rfl rfl rfl rfl ?_
      refine go_s (pc' := 33) rfl rfl rfl rfl ?_
      refine go_s (pc' := 34) (lo' := [some (.ref (ad2 0)), some (.ref aq), some (.int (nI t)), some (.int jr.1), some (.int 1), some (.int 1), none]) rfl rfl rfl rfl ?_
      refine go_s (pc' := 35) rfl rfl rfl rfl ?_
      refine go_s (pc' := 36) (st' := [.int (-9), .int jr.1]) rfl rfl rfl rfl ?_
      refine go_icmpP (t' := 42) (pc' := 37) rfl rfl rfl (fun _ => ?_) (fun (c : ¬ (¬ jr.1 = (-9))) => absurd (by rw [c24] <;> decide) c)
      refine go_s (pc' := 43) rfl rfl rfl rfl ?_
      refine go_ifP (t' := 50) (pc' := 44) rfl rfl rfl (fun (c : (1 : Int32) = 0) => absurd c (by decide)) (fun _ => ?_)
      refine go_s (pc' := 45) rfl rfl rfl rfl ?_
      refine go_get (pc' := 46) rfl hq23 rfl (by decide) rfl rfl ?_
      refine go_s (pc' := 47) (st' := [.int 4, .int kd]) rfl rfl rfl rfl ?_
      refine go_icmpP (t' := 50) (pc' := 48) rfl rfl rfl (fun _ => ?_) (fun (c : ¬ (¬ kd = 4)) => absurd (by rw [c119] <;> decide) c)
      refine go_s (pc' := 51) (st' := [.int 0]) rfl rfl rfl rfl ?_
      refine go_s (pc' := 52) (lo' := [some (.ref (ad2 0)), some (.ref aq), some (.int (nI t)), some (.int jr.1), some (.int 1), some (.int 1), some (.int 0)]) rfl rfl rfl rfl ?_
      refine go_s (pc' := 53) rfl rfl rfl rfl ?_
      refine go_ifP (t' := 62) (pc' := 54) rfl rfl rfl (fun (c : (1 : Int32) = 0) => absurd c (by decide)) (fun _ => ?_)
      refine go_s (pc' := 55) rfl rfl rfl rfl ?_
      refine go_get (pc' := 56) rfl hq23 rfl (by decide) rfl rfl ?_
      refine go_ifP (t' := 62) (pc' := 57) rfl rfl rfl (fun _ => ?_) (fun (c : ¬ (¬ kd = 0)) => absurd (by rw [c119] <;> decide) c)
      refine go_s (pc' := 63) rfl rfl rfl rfl ?_
      refine go_ifP (t' := 84) (pc' := 64) rfl rfl rfl (fun (c : (1 : Int32) = 0) => absurd c (by decide)) (fun _ => ?_)
      refine go_s (pc' := 65) rfl rfl rfl rfl ?_
      refine go_get (pc' := 66) rfl hq23 rfl (by decide) rfl rfl ?_
      refine go_s (pc' := 67) (st' := [.int 2, .int kd]) rfl rfl rfl rfl ?_
      refine go_icmpP (t' := 84) (pc' := 68) rfl rfl rfl (fun _ => ?_) (fun (c : ¬ (¬ kd = 2)) => absurd (by rw [c119] <;> decide) c)
      refine go_s (pc' := 85) rfl rfl rfl rfl ?_
      refine go_ifP (t' := 92) (pc' := 86) rfl rfl rfl (fun (c : (1 : Int32) = 0) => absurd c (by decide)) (fun _ => ?_)
      have hT := mtr_pos ht (k5 c24 (by rw [c119]; decide))
      have hl0 : jr.2.2.1.length < 32 := by rw [k1]; show m.2.1.length < 32; have : mtr (m.1, m.2.1, []) = mtr m := rfl; omega
      have hw0 : jr.2.2.2.length < 35 := by rw [k2]; exact (by decide : 0 < 35)
      have hw1 : (mE jr.2 2 (nI t) 0 0).2.2.length < 35 := by simp only [mE, k2, List.length_append, List.length_cons, List.length_nil]; omega
      refine go_s (pc' := 87) rfl rfl rfl rfl ?_
      refine go_s (pc' := 88) (st' := [.int 2, .ref (ad2 0)]) rfl rfl rfl rfl ?_
      refine go_s (pc' := 89) rfl rfl rfl rfl ?_
      refine go_s (pc' := 90) (st' := [.int 0, .int (nI t), .int 2, .ref (ad2 0)]) rfl rfl rfl rfl ?_
      refine go_s (pc' := 91) (st' := [.int 0, .int 0, .int (nI t), .int 2, .ref (ad2 0)]) rfl rfl rfl rfl ?_
      refine go_callV (pc' := 92) rfl rfl rfl (Nat.le_of_ble_eq_true rfl) rfl (sm_o hS2 (tbs_at hA (i := 0) (by decide))) rfl rfl rfl (cs_addE hA hS2 hZ hW hm2.2.2.1 hm2.2.2.2.1 hl0 hw0 2 (nI t) 0 0 (by omega)) (fun r h277 q278 => ?_)
      obtain ⟨rfl, hS279, hE280⟩ := q278
      have hm281 := sc_E (kd := 2) (t := (nI t)) (rc := 0) (bf := 0) hm2
      have b284 : cE S2 jr.2.2.1.length jr.2.2.2.length 2 (nI t) 0 0 0 3 = S2 0 3 := rfl
      generalize cE S2 jr.2.2.1.length jr.2.2.2.length 2 (nI t) 0 0 = S282 at hS279 hm281 b284
      have hF285 := fr_se hF22 hE280 hNN
      have hE286 := sm_e_trans hE2 hE280
      have hq287 := (hE280.2.2 _ hqn1).trans hq23
      refine go_s (pc' := 93) rfl rfl rfl rfl ?_
      refine go_ifP (t' := 97) (pc' := 94) rfl rfl rfl (fun _ => ?_) (fun (c : ¬ ((0 : Int32) = 0)) => absurd (by decide) c)
      refine go_s (pc' := 98) rfl rfl rfl rfl ?_
      refine go_ifP (t' := 101) (pc' := 99) rfl rfl rfl (fun _ => ?_) (fun (c : ¬ (¬ (1 : Int32) = 0)) => absurd (by decide) c)
      refine go_s (pc' := 102) rfl rfl rfl rfl ?_
      refine go_s (pc' := 103) rfl rfl rfl rfl ?_
      refine go_callV (pc' := 104) rfl rfl rfl (Nat.le_of_ble_eq_true rfl) rfl (sm_o hS279 (tbs_at hA (i := 0) (by decide))) rfl rfl rfl (cs_end hA hS279 hm281 hZ hW ht hw1 (by omega)) (fun r h288 q289 => ?_)
      obtain ⟨rfl, S290, hS291, hm292, hE293, b294⟩ := q289
      have hF295 := fr_se hF285 hE293 hNN
      have hE296 := sm_e_trans hE286 hE293
      have hq297 := (hE293.2.2 _ hqn1).trans hq287
      have hdo : mdo jr.2 t jr.1 kd (nI k) vl = (mX (mE jr.2 2 (nI t) 0 0) t) := by
        unfold mdo
        rw [if_neg (by rw [c24]; decide), if_pos c24, if_neg (by rw [c119]; decide), if_neg (by rw [c119]; decide), if_pos c119]
      rw [hdo]
      clear hdo
      generalize (mX (mE jr.2 2 (nI t) 0 0) t) = MM at hm292 ⊢
      refine go_s (pc' := 105) rfl rfl rfl rfl ?_
      refine go_sget (pc' := 106) (v := .ref (ad2 1)) hS291 rfl rfl (tbs_s hA (i := 0) (by decide) rfl) (by decide) rfl rfl ?_
      refine go_s (pc' := 107) rfl rfl rfl rfl ?_
      refine go_s (pc' := 108) rfl rfl rfl rfl ?_
      refine go_get (pc' := 109) rfl hq297 rfl (by decide) rfl rfl ?_
      refine go_siast (pc' := 110) (q := t) hS291 rfl (tbs_s hA (i := 1) (by decide) (rg_el (by omega))) tbs_inj (Nat.le_of_ble_eq_true rfl) rfl (by omega) (hZ 1 (by decide)) (hW 1 (by decide)) rfl (fun h298 hS299 hE300 => ?_)
      have hF301 := fr_se hF295 hE300 hNN
      have hE302 := sm_e_trans hE296 hE300
      have hq303 := (hE300.2.2 _ hqn1).trans hq297
      refine go_s (pc' := 111) rfl rfl rfl rfl ?_
      refine go_sget (pc' := 112) (v := .ref (ad2 2)) hS299 rfl rfl (tbs_s hA (i := 0) (by decide) rfl) (by decide) rfl rfl ?_
      refine go_s (pc' := 113) rfl rfl rfl rfl ?_
      refine go_s (pc' := 114) rfl rfl rfl rfl ?_
      refine go_get (pc' := 115) rfl hq303 rfl (by decide) rfl rfl ?_
      refine go_siast (pc' := 116) (q := t) hS299 rfl (tbs_s hA (i := 2) (by decide) (rg_el (by omega))) tbs_inj (Nat.le_of_ble_eq_true rfl) rfl (by omega) (hZ 2 (by decide)) (hW 2 (by decide)) rfl (fun h304 hS305 hE306 => ?_)
      have hF307 := fr_se hF301 hE306 hNN
      have hE308 := sm_e_trans hE302 hE306
      have hq309 := (hE306.2.2 _ hqn1).trans hq303
      refine go_s (pc' := 117) rfl rfl rfl rfl ?_
      refine go_sget (pc' := 118) (v := .ref (ad2 3)) hS305 rfl rfl (tbs_s hA (i := 0) (by decide) rfl) (by decide) rfl rfl ?_
      refine go_s (pc' := 119) rfl rfl rfl rfl ?_
      refine go_s (pc' := 120) rfl rfl rfl rfl ?_
      refine go_siast (pc' := 121) (q := t) hS305 rfl (tbs_s hA (i := 3) (by decide) (rg_el (by omega))) tbs_inj (Nat.le_of_ble_eq_true rfl) rfl (by omega) (hZ 3 (by decide)) (hW 3 (by decide)) rfl (fun h310 hS311 hE312 => ?_)
      have hF313 := fr_se hF307 hE312 hNN
      have hE314 := sm_e_trans hE308 hE312
      have hq315 := (hE312.2.2 _ hqn1).trans hq309
      refine go_s (pc' := 122) rfl rfl rfl rfl ?_
      refine go_sget (pc' := 123) (v := .ref (ad2 4)) hS311 rfl rfl (tbs_s hA (i := 0) (by decide) rfl) (by decide) rfl rfl ?_
      refine go_s (pc' := 124) rfl rfl rfl rfl ?_
      refine go_s (pc' := 125) rfl rfl rfl rfl ?_
      refine go_ifP (t' := 135) (pc' := 126) rfl rfl rfl (fun (c : (1 : Int32) = 0) => absurd c (by decide)) (fun _ => ?_)
      refine go_s (pc' := 127) rfl rfl rfl rfl ?_
      refine go_get (pc' := 128) rfl hq315 rfl (by decide) rfl rfl ?_
      refine go_s (pc' := 129) (st' := [.int 1, .int kd, .int (nI t), .ref (ad2 4)]) rfl rfl rfl rfl ?_
      refine go_icmpP (t' := 135) (pc' := 130) rfl rfl rfl (fun _ => ?_) (fun (c : ¬ (¬ kd = 1)) => absurd (by rw [c119] <;> decide) c)
      refine go_s (pc' := 136) (st' := [.int 0, .int (nI t), .ref (ad2 4)]) rfl rfl rfl rfl ?_
      refine go_siast (pc' := 137) (q := t) hS311 rfl (tbs_s hA (i := 4) (by decide) (rg_el (by omega))) tbs_inj (Nat.le_of_ble_eq_true rfl) rfl (by omega) (hZ 4 (by decide)) (hW 4 (by decide)) rfl (fun h316 hS317 hE318 => ?_)
      have hF319 := fr_se hF313 hE318 hNN
      have hE320 := sm_e_trans hE314 hE318
      have hq321 := (hE318.2.2 _ hqn1).trans hq315
      refine go_ret rfl rfl ?_
      have hz1 := sc_u1 (k := t) (v := q1) hm292 ht
      have hz2 := sc_u2 (k := t) (v := q2) hz1 ht
      have hz3 := sc_u3 (k := t) (v := jr.1) hz2 ht
      have hz4 := sc_u4 (k := t) (v := 0) hz3 ht
      have hv : (if jr.1 = 0 ∧ kd = 1 then MM.1 (16 + ((nI k)).toNatClampNeg) else 0) = 0 := if_neg (fun z => by have := z.2; rw [c119] at this; exact absurd this (by decide))
      refine ⟨rfl, ad2, hA, hpost.1, hpost.2, _, hS317, ?_, ?_, hF319⟩
      · unfold mfi; rw [hv]; exact hz4
      · exact b294.trans (b284.trans (hb2.trans (hb1)))
theorem cs_pf_f {w : Nat → Bool} {d : Nat} {h : am_Hp} {S : sm_I} {Y : sm_X} {ad : Nat → Nat} (hA : adk ad) (hS : sm (tbs ad) h S Y) {m : ms} (hm : sc S m) (hZ : ∀ i, i < 12 → ad i ≠ 0) (hW : ∀ i, i < 12 → w (ad i) = true) (hWn : ∀ a, h.length ≤ a → w a = true) {t : Nat} (ht : t < 2) {aq : Nat} {q1 q2 q3 kd rc vl : Int32} (hq : h[aq]? = some (.inl (8, [.int (nI t), .int q1, .int q2, .int q3, .int kd, .int rc, .int vl]))) (hqn : tbs ad aq = none) (hn : rc < 0 ∨ 16 ≤ rc) (hH : m.2.1.length + mtr m ≤ 32) (hrk : rok m.2.1 (nI t)) (hd : 4 ≤ d) : am_Ev (am_prog w) d 52 [.ref (ad 0), .ref aq] h (fun r h' => r = none ∧ ∃ ad', adk ad' ∧ (∀ i, i < 9 → ad' i = ad i) ∧ (∀ i, 9 ≤ i → i < 12 → h.length ≤ ad' i) ∧ ∃ S', sm (tbs ad') h' S' (uX Y 200 0 (.ref aq)) ∧ sc S' (mpf m t q1 q2 q3 kd rc vl) ∧ S' 0 3 = 1 ∧ fr (tb9 ad) h h' 3 213) := by
  obtain ⟨d, rfl⟩ : ∃ e, d = e + 1 := ⟨d - 1, by omega⟩
  refine ev_go rfl (Nat.le_of_ble_eq_true rfl) rfl ?_
  refine go_s (pc' := 1) rfl rfl rfl rfl ?_
  refine go_get (pc' := 2) rfl hq rfl (by decide) rfl rfl ?_
  refine go_s (pc' := 3) (lo' := [some (.ref (ad 0)), some (.ref aq), some (.int (nI t)), none, none, none, none]) rfl rfl rfl rfl ?_
  refine go_s (pc' := 4) rfl rfl rfl rfl ?_
  refine go_s (pc' := 5) (st' := [.int 1, .ref (ad 0)]) rfl rfl rfl rfl ?_
  refine go_sput (pc' := 6) hS rfl rfl (tbs_s hA (i := 0) (by decide) rfl) (by decide) tbs_inj (Nat.le_of_ble_eq_true rfl) rfl (hW 0 (by decide)) rfl (fun h1 hS2 hE3 => ?_)
  have hq4 := (hE3.2.2 _ hqn).trans hq
  refine go_s (pc' := 7) rfl rfl rfl rfl ?_
  refine go_s (pc' := 8) rfl rfl rfl rfl ?_
  refine go_sputX (pc' := 9) hS2 rfl rfl (tbs_s hA (i := 0) (by decide) rfl) (by decide) tbs_inj (Nat.le_of_ble_eq_true rfl) (Nat.le_of_ble_eq_true rfl) rfl (hW 0 (by decide)) rfl (fun h5 hS6 hE7 => ?_)
  have hE8 := sm_e_trans hE3 hE7
  have hq9 := (hE7.2.2 _ hqn).trans hq4
  have hF0 := fr_ini hA hS hS6 hE8 (fun _ => rfl) (fun _ => rfl) rfl
  have hm0 : sc (uI S 0 3 1) m := hm
  refine go_s (pc' := 10) rfl rfl rfl rfl ?_
  refine go_newF (pc' := 11) (n := 3) rfl rfl rfl rfl (fun L10 h11 hL12 hc13 hg14 => ?_)
  have hq15 := (hg14.2.2 _ (lt_of hq9)).trans hq9
  have lt_aq_L10 : aq < L10 := hL12 ▸ lt_of hq9
  have ge_L10 : _ ≤ L10 := hL12 ▸ hF0.1
  have nb_L10 := tbs_new (L := L10) hA hS6 (by omega)
  have hS16 := sm_gq hS6 hg14
  have hF17 := fr_gq hF0 hg14
  refine go_s (pc' := 12) rfl rfl rfl rfl ?_
  refine go_callI (pc' := 13) rfl rfl rfl (Nat.le_of_ble_eq_true rfl) rfl hc13 rfl rfl rfl (ci_wr hc13 (hWn _ (by omega)) (by omega)) (fun r h18 q19 => ?_)
  obtain ⟨rfl, LA, LB, hLA, hLB, hca, hcb, hcc, hqa⟩ := q19
  have nbA := tbs_new (L := LA) hA hS16 (by omega)
  have nbB := tbs_new (L := LB) hA hS16 (by omega)
  have hSq := sm_qa hS16 hqa nb_L10
  have hFq := fr_qa hF17 hqa ge_L10
  have hqq := (hqa.2.2 _ (lt_of hq15) (by omega)).trans hq15
  refine go_putF (pc' := 14) rfl (hSq (ad 0) _ _ (tbs_at hA (i := 0) (by decide))) rfl (by decide) (Nat.le_of_ble_eq_true rfl) rfl (hW 0 (by decide)) rfl (fun hx hcx hpx => ?_)
  have hS1 := sm_sw hA hSq hpx hcx hca hcb hcc nb_L10 nbA nbB
  have hF1 := fr_pt hFq hpx (fun z => tb9_none.mp z 0 (by decide) rfl)
  have hq1 := (hpx.2.2 _ (fun e => tbs_ne hA hqn (i := 0) (by decide) e.symm)).trans hqq
  have hm1 := sc_0 hm0
  have hlt : L10 < LA ∧ h.length ≤ L10 := ⟨by have := lt_of hc13; omega, ge_L10⟩
  have hNN := adW_none (ad := ad) (L := L10) (L1 := LA) (L2 := LB) (n := h.length) hlt.2 (by omega) (by omega)
  have hqn1 : tbs (adW ad L10 LA LB) aq = none := by
    refine hNN aq (tb9_none.mpr (fun i hi => tbs_ne hA hqn (by omega))) (lt_of hq)
  have hA1 := adW_k hA nb_L10 nbA nbB hlt.1 hLB
  have hW1 : ∀ i, i < 12 → w (adW ad L10 LA LB i) = true := by
    intro i hi
    unfold adW
    split
    · exact hWn _ (by omega)
    · split
      · exact hWn _ (by omega)
      · split
        · exact hWn _ (by omega)
        · exact hW i hi
  have hZ1 : ∀ i, i < 12 → adW ad L10 LA LB i ≠ 0 := by
    intro i hi
    unfold adW
    have := lt_of (hS (ad 0) _ _ (tbs_at hA (i := 0) (by decide)))
    split
    · omega
    · split
      · omega
      · split
        · omega
        · exact hZ i hi
  have hpost : (∀ i, i < 9 → adW ad L10 LA LB i = ad i) ∧ ∀ i, 9 ≤ i → i < 12 → h.length ≤ adW ad L10 LA LB i := by
    refine ⟨fun i hi => ?_, fun i hi hi2 => ?_⟩
    · unfold adW
      rw [if_neg (by omega), if_neg (by omega), if_neg (by omega)]
    · unfold adW
      split
      · omega
      · split
        · omega
        · split
          · omega
          · omega
  have e0 : ad 0 = adW ad L10 LA LB 0 := rfl
  generalize adW ad L10 LA LB = ad2 at hS1 hNN hqn1 hA1 hW1 hZ1 hpost e0
  rw [e0]
  have hA := hA1
  have hW := hW1
  have hZ := hZ1
  obtain ⟨S1, hS1e⟩ : ∃ x, x = S0 (uI S 0 3 1) := ⟨_, rfl⟩
  have hb1 : S1 0 3 = 1 := by rw [hS1e]; rfl
  rw [← hS1e] at hS1 hm1
  refine go_s (pc' := 15) rfl rfl rfl rfl ?_
  refine go_s (pc' := 16) rfl rfl rfl rfl ?_
  refine go_callV (pc' := 17) rfl rfl rfl (Nat.le_of_ble_eq_true rfl) rfl (sm_o hS1 (tbs_at hA (i := 0) (by decide))) rfl rfl rfl (cs_j_f hA hS1 hm1 hZ hW ht hq1 hqn1 hn hH (by omega)) (fun r h20 q21 => ?_)
  obtain ⟨rfl, S2, hS2, hm2, hE2, hb2⟩ := q21
  obtain ⟨k1, k2, k3⟩ := mj_keep (m.1, m.2.1, []) t q1 q3 kd rc
  have k4 : mtr (mj (m.1, m.2.1, []) t q1 q3 kd rc).2 = mtr m := mtr_congr k3
  have k5 := @mj_has (m.1, m.2.1, []) t q1 q3 kd rc
  have k6 := @mj_rec (m.1, m.2.1, []) t q1 q3 kd rc
  have hpf : mpf m t q1 q2 q3 kd rc vl = mfi (mdo (mj (m.1, m.2.1, []) t q1 q3 kd rc).2 t (mj (m.1, m.2.1, []) t q1 q3 kd rc).1 kd rc vl) t q1 q2 (mj (m.1, m.2.1, []) t q1 q3 kd rc).1 kd rc := rfl
  rw [hpf]
  generalize mj (m.1, m.2.1, []) t q1 q3 kd rc = jr at *
  have hF22 := fr_se hF1 hE2 hNN
  have hq23 := (hE2.2.2 _ hqn1).trans hq1
  have k7 : jr.2.1 (14 + t) = m.1 (14 + t) := k3 _ (by omega)
  refine go_s (pc' := 18) (lo' := [some (.ref (ad2 0)), some (.ref aq), some (.int (nI t)), some (.int jr.1), none, none, none]) rfl rfl rfl rfl ?_
  refine go_s (pc' := 19) rfl rfl rfl rfl ?_
  refine go_ifP (t' := 22) (pc' := 20) rfl rfl rfl (fun (c24 : ¬ jr.1 = 0) => ?_) (fun (c24' : ¬ ¬ jr.1 = 0) => ?_)
  · skip
    refine go_s (pc' := 23) (st' := [.int 0]) rfl rfl rfl rfl ?_
    refine go_s (pc' := 24) (lo' := [some (.ref (ad2 0)), some (.ref aq), some (.int (nI t)), some (.int jr.1), some (.int 0), none, none]) rfl rfl rfl rfl ?_
    refine go_s (pc' := 25) rfl rfl rfl rfl ?_
    refine go_ifP (t' := 32) (pc' := 26) rfl rfl rfl (fun _ => ?_) (fun (c : ¬ ((0 : Int32) = 0)) => absurd (by decide) c)
    refine go_s (pc' := 33) (st' := [.int 0]) rfl rfl rfl rfl ?_
    refine go_s (pc' := 34) (lo' := [some (.ref (ad2 0)), some (.ref aq), some (.int (nI t)), some (.int jr.1), some (.int 0), some (.int 0), none]) rfl rfl rfl rfl ?_
    refine go_s (pc' := 35) rfl rfl rfl rfl ?_
    refine go_s (pc' := 36) (st' := [.int (-9), .int jr.1]) rfl rfl rfl rfl ?_
    refine go_icmpP (t' := 42) (pc' := 37) rfl rfl rfl (fun (c25 : ¬ jr.1 = (-9)) => ?_) (fun (c25' : ¬ ¬ jr.1 = (-9)) => ?_)
    · skip
      refine go_s (pc' := 43) rfl rfl rfl rfl ?_
      refine go_ifP (t' := 50) (pc' := 44) rfl rfl rfl (fun _ => ?_) (fun (c : ¬ ((0 : Int32) = 0)) => absurd (by decide) c)
      refine go_s (pc' := 51) (st' := [.int 0]) rfl rfl rfl rfl ?_
      refine go_s (pc' := 52) (lo' := [some (.ref (ad2 0)), some (.ref aq), some (.int (nI t)), some (.int jr.1), some (.int 0), some (.int 0), some (.int 0)]) rfl rfl rfl rfl ?_
      refine go_s (pc' := 53) rfl rfl rfl rfl ?_
      refine go_ifP (t' := 62) (pc' := 54) rfl rfl rfl (fun _ => ?_) (fun (c : ¬ ((0 : Int32) = 0)) => absurd (by decide) c)
      refine go_s (pc' := 63) rfl rfl rfl rfl ?_
      refine go_ifP (t' := 84) (pc' := 64) rfl rfl rfl (fun _ => ?_) (fun (c : ¬ ((0 : Int32) = 0)) => absurd (by decide) c)
      refine go_s (pc' := 85) rfl rfl rfl rfl ?_
      refine go_ifP (t' := 92) (pc' := 86) rfl rfl rfl (fun _ => ?_) (fun (c : ¬ ((0 : Int32) = 0)) => absurd (by decide) c)
      refine go_s (pc' := 93) rfl rfl rfl rfl ?_
      refine go_ifP (t' := 97) (pc' := 94) rfl rfl rfl (fun _ => ?_) (fun (c : ¬ ((0 : Int32) = 0)) => absurd (by decide) c)
      refine go_s (pc' := 98) rfl rfl rfl rfl ?_
      refine go_ifP (t' := 101) (pc' := 99) rfl rfl rfl (fun (c : ¬ (0 : Int32) = 0) => absurd c (by decide)) (fun _ => ?_)
      refine go_s (pc' := 100) rfl rfl rfl rfl ?_
      refine go_ifP (t' := 104) (pc' := 101) rfl rfl rfl (fun _ => ?_) (fun (c : ¬ ((0 : Int32) = 0)) => absurd (by decide) c)
      have hdo : mdo jr.2 t jr.1 kd rc vl = jr.2 := by
        unfold mdo
        rw [if_neg c25, if_neg c24]
      rw [hdo]
      refine go_s (pc' := 105) rfl rfl rfl rfl ?_
      refine go_sget (pc' := 106) (v := .ref (ad2 1)) hS2 rfl rfl (tbs_s hA (i := 0) (by decide) rfl) (by decide) rfl rfl ?_
      refine go_s (pc' := 107) rfl rfl rfl rfl ?_
      refine go_s (pc' := 108) rfl rfl rfl rfl ?_
      refine go_get (pc' := 109) rfl hq23 rfl (by decide) rfl rfl ?_
      refine go_siast (pc' := 110) (q := t) hS2 rfl (tbs_s hA (i := 1) (by decide) (rg_el (by omega))) tbs_inj (Nat.le_of_ble_eq_true rfl) rfl (by omega) (hZ 1 (by decide)) (hW 1 (by decide)) rfl (fun h26 hS27 hE28 => ?_)
      have hF29 := fr_se hF22 hE28 hNN
      have hE30 := sm_e_trans hE2 hE28
      have hq31 := (hE28.2.2 _ hqn1).trans hq23
      refine go_s (pc' := 111) rfl rfl rfl rfl ?_
      refine go_sget (pc' := 112) (v := .ref (ad2 2)) hS27 rfl rfl (tbs_s hA (i := 0) (by decide) rfl) (by decide) rfl rfl ?_
      refine go_s (pc' := 113) rfl rfl rfl rfl ?_
      refine go_s (pc' := 114) rfl rfl rfl rfl ?_
      refine go_get (pc' := 115) rfl hq31 rfl (by decide) rfl rfl ?_
      refine go_siast (pc' := 116) (q := t) hS27 rfl (tbs_s hA (i := 2) (by decide) (rg_el (by omega))) tbs_inj (Nat.le_of_ble_eq_true rfl) rfl (by omega) (hZ 2 (by decide)) (hW 2 (by decide)) rfl (fun h32 hS33 hE34 => ?_)
      have hF35 := fr_se hF29 hE34 hNN
      have hE36 := sm_e_trans hE30 hE34
      have hq37 := (hE34.2.2 _ hqn1).trans hq31
      refine go_s (pc' := 117) rfl rfl rfl rfl ?_
      refine go_sget (pc' := 118) (v := .ref (ad2 3)) hS33 rfl rfl (tbs_s hA (i := 0) (by decide) rfl) (by decide) rfl rfl ?_
      refine go_s (pc' := 119) rfl rfl rfl rfl ?_
      refine go_s (pc' := 120) rfl rfl rfl rfl ?_
      refine go_siast (pc' := 121) (q := t) hS33 rfl (tbs_s hA (i := 3) (by decide) (rg_el (by omega))) tbs_inj (Nat.le_of_ble_eq_true rfl) rfl (by omega) (hZ 3 (by decide)) (hW 3 (by decide)) rfl (fun h38 hS39 hE40 => ?_)
      have hF41 := fr_se hF35 hE40 hNN
      have hE42 := sm_e_trans hE36 hE40
      have hq43 := (hE40.2.2 _ hqn1).trans hq37
      refine go_s (pc' := 122) rfl rfl rfl rfl ?_
      refine go_sget (pc' := 123) (v := .ref (ad2 4)) hS39 rfl rfl (tbs_s hA (i := 0) (by decide) rfl) (by decide) rfl rfl ?_
      refine go_s (pc' := 124) rfl rfl rfl rfl ?_
      refine go_s (pc' := 125) rfl rfl rfl rfl ?_
      refine go_ifP (t' := 135) (pc' := 126) rfl rfl rfl (fun _ => ?_) (fun (c : ¬ ((0 : Int32) = 0)) => absurd (by decide) c)
      refine go_s (pc' := 136) (st' := [.int 0, .int (nI t), .ref (ad2 4)]) rfl rfl rfl rfl ?_
      refine go_siast (pc' := 137) (q := t) hS39 rfl (tbs_s hA (i := 4) (by decide) (rg_el (by omega))) tbs_inj (Nat.le_of_ble_eq_true rfl) rfl (by omega) (hZ 4 (by decide)) (hW 4 (by decide)) rfl (fun h44 hS45 hE46 => ?_)
      have hF47 := fr_se hF41 hE46 hNN
      have hE48 := sm_e_trans hE42 hE46
      have hq49 := (hE46.2.2 _ hqn1).trans hq43
      refine go_ret rfl rfl ?_
      have hz1 := sc_u1 (k := t) (v := q1) hm2 ht
      have hz2 := sc_u2 (k := t) (v := q2) hz1 ht
      have hz3 := sc_u3 (k := t) (v := jr.1) hz2 ht
      have hz4 := sc_u4 (k := t) (v := 0) hz3 ht
      have hv : (if jr.1 = 0 ∧ kd = 1 then jr.2.1 (16 + (rc).toNatClampNeg) else 0) = 0 := if_neg (fun z => c24 z.1)
      refine ⟨rfl, ad2, hA, hpost.1, hpost.2, _, hS45, ?_, ?_, hF47⟩
      · unfold mfi; rw [hv]; exact hz4
      · exact hb2.trans (hb1)
    · skip
      have c25 : jr.1 = (-9) := Decidable.not_not.mp c25'
      refine go_s (pc' := 38) rfl rfl rfl rfl ?_
      refine go_sget (pc' := 39) (v := .ref (ad2 7)) hS2 rfl rfl (tbs_s hA (i := 0) (by decide) rfl) (by decide) rfl rfl ?_
      refine go_s (pc' := 40) rfl rfl rfl rfl ?_
      refine go_sald (pc' := 41) (q := t) (v := .int (jr.2.1 (14 + t))) hS2 rfl (tbs_s hA (i := 7) (by decide) (rg_el (by omega))) rfl rfl (by omega) (congrArg Value.int (hm2.2.2.2.2.1 t ht).2.2.2.2) rfl ?_
      refine go_s (pc' := 51) rfl rfl rfl rfl ?_
      refine go_s (pc' := 52) (lo' := [some (.ref (ad2 0)), some (.ref aq), some (.int (nI t)), some (.int jr.1), some (.int 0), some (.int 0), some (.int (jr.2.1 (14 + t)))]) rfl rfl rfl rfl ?_
      refine go_s (pc' := 53) rfl rfl rfl rfl ?_
      refine go_ifP (t' := 62) (pc' := 54) rfl rfl rfl (fun _ => ?_) (fun (c : ¬ ((0 : Int32) = 0)) => absurd (by decide) c)
      refine go_s (pc' := 63) rfl rfl rfl rfl ?_
      refine go_ifP (t' := 84) (pc' := 64) rfl rfl rfl (fun _ => ?_) (fun (c : ¬ ((0 : Int32) = 0)) => absurd (by decide) c)
      refine go_s (pc' := 85) rfl rfl rfl rfl ?_
      refine go_ifP (t' := 92) (pc' := 86) rfl rfl rfl (fun _ => ?_) (fun (c : ¬ ((0 : Int32) = 0)) => absurd (by decide) c)
      refine go_s (pc' := 93) rfl rfl rfl rfl ?_
      refine go_ifP (t' := 97) (pc' := 94) rfl rfl rfl (fun (c50 : (jr.2.1 (14 + t)) = 0) => ?_) (fun (c50 : ¬ (jr.2.1 (14 + t)) = 0) => ?_)
      · skip
        refine go_s (pc' := 98) rfl rfl rfl rfl ?_
        refine go_ifP (t' := 101) (pc' := 99) rfl rfl rfl (fun (c : ¬ (0 : Int32) = 0) => absurd c (by decide)) (fun _ => ?_)
        refine go_s (pc' := 100) rfl rfl rfl rfl ?_
        refine go_ifP (t' := 104) (pc' := 101) rfl rfl rfl (fun _ => ?_) (fun (c : ¬ ((jr.2.1 (14 + t)) = 0)) => absurd (by rw [c50] <;> decide) c)
        have hdo : mdo jr.2 t jr.1 kd rc vl = jr.2 := by
          unfold mdo
          rw [if_pos c25, if_pos c50]
        rw [hdo]
        refine go_s (pc' := 105) rfl rfl rfl rfl ?_
        refine go_sget (pc' := 106) (v := .ref (ad2 1)) hS2 rfl rfl (tbs_s hA (i := 0) (by decide) rfl) (by decide) rfl rfl ?_
        refine go_s (pc' := 107) rfl rfl rfl rfl ?_
        refine go_s (pc' := 108) rfl rfl rfl rfl ?_
        refine go_get (pc' := 109) rfl hq23 rfl (by decide) rfl rfl ?_
        refine go_siast (pc' := 110) (q := t) hS2 rfl (tbs_s hA (i := 1) (by decide) (rg_el (by omega))) tbs_inj (Nat.le_of_ble_eq_true rfl) rfl (by omega) (hZ 1 (by decide)) (hW 1 (by decide)) rfl (fun h51 hS52 hE53 => ?_)
        have hF54 := fr_se hF22 hE53 hNN
        have hE55 := sm_e_trans hE2 hE53
        have hq56 := (hE53.2.2 _ hqn1).trans hq23
        refine go_s (pc' := 111) rfl rfl rfl rfl ?_
        refine go_sget (pc' := 112) (v := .ref (ad2 2)) hS52 rfl rfl (tbs_s hA (i := 0) (by decide) rfl) (by decide) rfl rfl ?_
        refine go_s (pc' := 113) rfl rfl rfl rfl ?_
        refine go_s (pc' := 114) rfl rfl rfl rfl ?_
        refine go_get (pc' := 115) rfl hq56 rfl (by decide) rfl rfl ?_
        refine go_siast (pc' := 116) (q := t) hS52 rfl (tbs_s hA (i := 2) (by decide) (rg_el (by omega))) tbs_inj (Nat.le_of_ble_eq_true rfl) rfl (by omega) (hZ 2 (by decide)) (hW 2 (by decide)) rfl (fun h57 hS58 hE59 => ?_)
        have hF60 := fr_se hF54 hE59 hNN
        have hE61 := sm_e_trans hE55 hE59
        have hq62 := (hE59.2.2 _ hqn1).trans hq56
        refine go_s (pc' := 117) rfl rfl rfl rfl ?_
        refine go_sget (pc' := 118) (v := .ref (ad2 3)) hS58 rfl rfl (tbs_s hA (i := 0) (by decide) rfl) (by decide) rfl rfl ?_
        refine go_s (pc' := 119) rfl rfl rfl rfl ?_
        refine go_s (pc' := 120) rfl rfl rfl rfl ?_
        refine go_siast (pc' := 121) (q := t) hS58 rfl (tbs_s hA (i := 3) (by decide) (rg_el (by omega))) tbs_inj (Nat.le_of_ble_eq_true rfl) rfl (by omega) (hZ 3 (by decide)) (hW 3 (by decide)) rfl (fun h63 hS64 hE65 => ?_)
        have hF66 := fr_se hF60 hE65 hNN
        have hE67 := sm_e_trans hE61 hE65
        have hq68 := (hE65.2.2 _ hqn1).trans hq62
        refine go_s (pc' := 122) rfl rfl rfl rfl ?_
        refine go_sget (pc' := 123) (v := .ref (ad2 4)) hS64 rfl rfl (tbs_s hA (i := 0) (by decide) rfl) (by decide) rfl rfl ?_
        refine go_s (pc' := 124) rfl rfl rfl rfl ?_
        refine go_s (pc' := 125) rfl rfl rfl rfl ?_
        refine go_ifP (t' := 135) (pc' := 126) rfl rfl rfl (fun _ => ?_) (fun (c : ¬ ((0 : Int32) = 0)) => absurd (by decide) c)
        refine go_s (pc' := 136) (st' := [.int 0, .int (nI t), .ref (ad2 4)]) rfl rfl rfl rfl ?_
        refine go_siast (pc' := 137) (q := t) hS64 rfl (tbs_s hA (i := 4) (by decide) (rg_el (by omega))) tbs_inj (Nat.le_of_ble_eq_true rfl) rfl (by omega) (hZ 4 (by decide)) (hW 4 (by decide)) rfl (fun h69 hS70 hE71 => ?_)
        have hF72 := fr_se hF66 hE71 hNN
        have hE73 := sm_e_trans hE67 hE71
        have hq74 := (hE71.2.2 _ hqn1).trans hq68
        refine go_ret rfl rfl ?_
        have hz1 := sc_u1 (k := t) (v := q1) hm2 ht
        have hz2 := sc_u2 (k := t) (v := q2) hz1 ht
        have hz3 := sc_u3 (k := t) (v := jr.1) hz2 ht
        have hz4 := sc_u4 (k := t) (v := 0) hz3 ht
        have hv : (if jr.1 = 0 ∧ kd = 1 then jr.2.1 (16 + (rc).toNatClampNeg) else 0) = 0 := if_neg (fun z => c24 z.1)
        refine ⟨rfl, ad2, hA, hpost.1, hpost.2, _, hS70, ?_, ?_, hF72⟩
        · unfold mfi; rw [hv]; exact hz4
        · exact hb2.trans (hb1)
      · skip
        have hT := mtr_pos ht (m := m) (by rw [← k7]; exact c50)
        have hl0 : jr.2.2.1.length < 32 := by rw [k1]; show m.2.1.length < 32; omega
        have hr0 : rok jr.2.2.1 (nI t) := by rw [k1]; exact hrk
        have hc0 : jr.2.2.2.length + cw jr.2.2.1 (nI t) jr.2.2.1.length ≤ 33 := by have := cw_le jr.2.2.1 (nI t) jr.2.2.1.length; rw [k2, List.length_nil]; omega
        have hw1 : (mB jr.2 (nI t)).2.2.length < 35 := by have := mB_len jr.2 (nI t); omega
        refine go_s (pc' := 95) rfl rfl rfl rfl ?_
        refine go_s (pc' := 96) rfl rfl rfl rfl ?_
        refine go_callV (pc' := 97) rfl rfl rfl (Nat.le_of_ble_eq_true rfl) rfl (sm_o hS2 (tbs_at hA (i := 0) (by decide))) rfl rfl rfl (cs_back hA hS2 hm2 hZ hW (nI t) hl0 hr0 hc0 (by omega)) (fun r h75 q76 => ?_)
        obtain ⟨rfl, S77, hS78, hm79, hE80, b81⟩ := q76
        have hF82 := fr_se hF22 hE80 hNN
        have hE83 := sm_e_trans hE2 hE80
        have hq84 := (hE80.2.2 _ hqn1).trans hq23
        refine go_s (pc' := 98) rfl rfl rfl rfl ?_
        refine go_ifP (t' := 101) (pc' := 99) rfl rfl rfl (fun (c : ¬ (0 : Int32) = 0) => absurd c (by decide)) (fun _ => ?_)
        refine go_s (pc' := 100) rfl rfl rfl rfl ?_
        refine go_ifP (t' := 104) (pc' := 101) rfl rfl rfl (fun (c : (jr.2.1 (14 + t)) = 0) => absurd c c50) (fun _ => ?_)
        refine go_s (pc' := 102) rfl rfl rfl rfl ?_
        refine go_s (pc' := 103) rfl rfl rfl rfl ?_
        refine go_callV (pc' := 104) rfl rfl rfl (Nat.le_of_ble_eq_true rfl) rfl (sm_o hS78 (tbs_at hA (i := 0) (by decide))) rfl rfl rfl (cs_end hA hS78 hm79 hZ hW ht hw1 (by omega)) (fun r h85 q86 => ?_)
        obtain ⟨rfl, S87, hS88, hm89, hE90, b91⟩ := q86
        have hF92 := fr_se hF82 hE90 hNN
        have hE93 := sm_e_trans hE83 hE90
        have hq94 := (hE90.2.2 _ hqn1).trans hq84
        have hdo : mdo jr.2 t jr.1 kd rc vl = (mX (mB jr.2 (nI t)) t) := by
          unfold mdo
          rw [if_pos c25, if_neg c50]
        rw [hdo]
        clear hdo
        generalize (mX (mB jr.2 (nI t)) t) = MM at hm89 ⊢
        refine go_s (pc' := 105) rfl rfl rfl rfl ?_
        refine go_sget (pc' := 106) (v := .ref (ad2 1)) hS88 rfl rfl (tbs_s hA (i := 0) (by decide) rfl) (by decide) rfl rfl ?_
        refine go_s (pc' := 107) rfl rfl rfl rfl ?_
        refine go_s (pc' := 108) rfl rfl rfl rfl ?_
        refine go_get (pc' := 109) rfl hq94 rfl (by decide) rfl rfl ?_
        refine go_siast (pc' := 110) (q := t) hS88 rfl (tbs_s hA (i := 1) (by decide) (rg_el (by omega))) tbs_inj (Nat.le_of_ble_eq_true rfl) rfl (by omega) (hZ 1 (by decide)) (hW 1 (by decide)) rfl (fun h95 hS96 hE97 => ?_)
        have hF98 := fr_se hF92 hE97 hNN
        have hE99 := sm_e_trans hE93 hE97
        have hq100 := (hE97.2.2 _ hqn1).trans hq94
        refine go_s (pc' := 111) rfl rfl rfl rfl ?_
        refine go_sget (pc' := 112) (v := .ref (ad2 2)) hS96 rfl rfl (tbs_s hA (i := 0) (by decide) rfl) (by decide) rfl rfl ?_
        refine go_s (pc' := 113) rfl rfl rfl rfl ?_
        refine go_s (pc' := 114) rfl rfl rfl rfl ?_
        refine go_get (pc' := 115) rfl hq100 rfl (by decide) rfl rfl ?_
        refine go_siast (pc' := 116) (q := t) hS96 rfl (tbs_s hA (i := 2) (by decide) (rg_el (by omega))) tbs_inj (Nat.le_of_ble_eq_true rfl) rfl (by omega) (hZ 2 (by decide)) (hW 2 (by decide)) rfl (fun h101 hS102 hE103 => ?_)
        have hF104 := fr_se hF98 hE103 hNN
        have hE105 := sm_e_trans hE99 hE103
        have hq106 := (hE103.2.2 _ hqn1).trans hq100
        refine go_s (pc' := 117) rfl rfl rfl rfl ?_
        refine go_sget (pc' := 118) (v := .ref (ad2 3)) hS102 rfl rfl (tbs_s hA (i := 0) (by decide) rfl) (by decide) rfl rfl ?_
        refine go_s (pc' := 119) rfl rfl rfl rfl ?_
        refine go_s (pc' := 120) rfl rfl rfl rfl ?_
        refine go_siast (pc' := 121) (q := t) hS102 rfl (tbs_s hA (i := 3) (by decide) (rg_el (by omega))) tbs_inj (Nat.le_of_ble_eq_true rfl) rfl (by omega) (hZ 3 (by decide)) (hW 3 (by decide)) rfl (fun h107 hS108 hE109 => ?_)
        have hF110 := fr_se hF104 hE109 hNN
        have hE111 := sm_e_trans hE105 hE109
        have hq112 := (hE109.2.2 _ hqn1).trans hq106
        refine go_s (pc' := 122) rfl rfl rfl rfl ?_
        refine go_sget (pc' := 123) (v := .ref (ad2 4)) hS108 rfl rfl (tbs_s hA (i := 0) (by decide) rfl) (by decide) rfl rfl ?_
        refine go_s (pc' := 124) rfl rfl rfl rfl ?_
        refine go_s (pc' := 125) rfl rfl rfl rfl ?_
        refine go_ifP (t' := 135) (pc' := 126) rfl rfl rfl (fun _ => ?_) (fun (c : ¬ ((0 : Int32) = 0)) => absurd (by decide) c)
        refine go_s (pc' := 136) (st' := [.int 0, .int (nI t), .ref (ad2 4)]) rfl rfl rfl rfl ?_
        refine go_siast (pc' := 137) (q := t) hS108 rfl (tbs_s hA (i := 4) (by decide) (rg_el (by omega))) tbs_inj (Nat.le_of_ble_eq_true rfl) rfl (by omega) (hZ 4 (by decide)) (hW 4 (by decide)) rfl (fun h113 hS114 hE115 => ?_)
        have hF116 := fr_se hF110 hE115 hNN
        have hE117 := sm_e_trans hE111 hE115
        have hq118 := (hE115.2.2 _ hqn1).trans hq112
        refine go_ret rfl rfl ?_
        have hz1 := sc_u1 (k := t) (v := q1) hm89 ht
        have hz2 := sc_u2 (k := t) (v := q2) hz1 ht
        have hz3 := sc_u3 (k := t) (v := jr.1) hz2 ht
        have hz4 := sc_u4 (k := t) (v := 0) hz3 ht
        have hv : (if jr.1 = 0 ∧ kd = 1 then MM.1 (16 + (rc).toNatClampNeg) else 0) = 0 := if_neg (fun z => c24 z.1)
        refine ⟨rfl, ad2, hA, hpost.1, hpost.2, _, hS114, ?_, ?_, hF116⟩
        · unfold mfi; rw [hv]; exact hz4
        · exact b91.trans (b81.trans (hb2.trans (hb1)))
  · skip
    have c24 : jr.1 = 0 := Decidable.not_not.mp c24'
    refine go_s (pc' := 21) (st' := [.int 1]) rfl rfl rfl rfl ?_
    refine go_s (pc' := 23) rfl rfl rfl rfl ?_
    refine go_s (pc' := 24) (lo' := [some (.ref (ad2 0)), some (.ref aq), some (.int (nI t)), some (.int jr.1), some (.int 1), none, none]) rfl rfl rfl rfl ?_
    refine go_s (pc' := 25) rfl rfl rfl rfl ?_
    refine go_ifP (t' := 32) (pc' := 26) rfl rfl rfl (fun (c : (1 : Int32) = 0) => absurd c (by decide)) (fun _ => ?_)
    refine go_s (pc' := 27) rfl rfl rfl rfl ?_
    refine go_get (pc' := 28) rfl hq23 rfl (by decide) rfl rfl ?_
    refine go_s (pc' := 29) (st' := [.int 3, .int kd]) rfl rfl rfl rfl ?_
    refine go_icmpP (t' := 32) (pc' := 30) rfl rfl rfl (fun (c119 : ¬ kd = 3) => ?_) (fun (c119' : ¬ ¬ kd = 3) => ?_)
    · skip
      refine go_s (pc' := 33) (st' := [.int 0]) rfl rfl rfl rfl ?_
      refine go_s (pc' := 34) (lo' := [some (.ref (ad2 0)), some (.ref aq), some (.int (nI t)), some (.int jr.1), some (.int 1), some (.int 0), none]) rfl rfl rfl rfl ?_
      refine go_s (pc' := 35) rfl rfl rfl rfl ?_
      refine go_s (pc' := 36) (st' := [.int (-9), .int jr.1]) rfl rfl rfl rfl ?_
      refine go_icmpP (t' := 42) (pc' := 37) rfl rfl rfl (fun _ => ?_) (fun (c : ¬ (¬ jr.1 = (-9))) => absurd (by rw [c24] <;> decide) c)
      refine go_s (pc' := 43) rfl rfl rfl rfl ?_
      refine go_ifP (t' := 50) (pc' := 44) rfl rfl rfl (fun (c : (1 : Int32) = 0) => absurd c (by decide)) (fun _ => ?_)
      refine go_s (pc' := 45) rfl rfl rfl rfl ?_
      refine go_get (pc' := 46) rfl hq23 rfl (by decide) rfl rfl ?_
      refine go_s (pc' := 47) (st' := [.int 4, .int kd]) rfl rfl rfl rfl ?_
      refine go_icmpP (t' := 50) (pc' := 48) rfl rfl rfl (fun (c120 : ¬ kd = 4) => ?_) (fun (c120' : ¬ ¬ kd = 4) => ?_)
      · skip
        refine go_s (pc' := 51) (st' := [.int 0]) rfl rfl rfl rfl ?_
        refine go_s (pc' := 52) (lo' := [some (.ref (ad2 0)), some (.ref aq), some (.int (nI t)), some (.int jr.1), some (.int 1), some (.int 0), some (.int 0)]) rfl rfl rfl rfl ?_
        refine go_s (pc' := 53) rfl rfl rfl rfl ?_
        refine go_ifP (t' := 62) (pc' := 54) rfl rfl rfl (fun (c : (1 : Int32) = 0) => absurd c (by decide)) (fun _ => ?_)
        refine go_s (pc' := 55) rfl rfl rfl rfl ?_
        refine go_get (pc' := 56) rfl hq23 rfl (by decide) rfl rfl ?_
        refine go_ifP (t' := 62) (pc' := 57) rfl rfl rfl (fun (c121 : ¬ kd = 0) => ?_) (fun (c121' : ¬ ¬ kd = 0) => ?_)
        · skip
          refine go_s (pc' := 63) rfl rfl rfl rfl ?_
          refine go_ifP (t' := 84) (pc' := 64) rfl rfl rfl (fun (c : (1 : Int32) = 0) => absurd c (by decide)) (fun _ => ?_)
          refine go_s (pc' := 65) rfl rfl rfl rfl ?_
          refine go_get (pc' := 66) rfl hq23 rfl (by decide) rfl rfl ?_
          refine go_s (pc' := 67) (st' := [.int 2, .int kd]) rfl rfl rfl rfl ?_
          refine go_icmpP (t' := 84) (pc' := 68) rfl rfl rfl (fun (c122 : ¬ kd = 2) => ?_) (fun (c122' : ¬ ¬ kd = 2) => ?_)
          · skip
            refine go_s (pc' := 85) rfl rfl rfl rfl ?_
            refine go_ifP (t' := 92) (pc' := 86) rfl rfl rfl (fun _ => ?_) (fun (c : ¬ ((0 : Int32) = 0)) => absurd (by decide) c)
            refine go_s (pc' := 93) rfl rfl rfl rfl ?_
            refine go_ifP (t' := 97) (pc' := 94) rfl rfl rfl (fun _ => ?_) (fun (c : ¬ ((0 : Int32) = 0)) => absurd (by decide) c)
            refine go_s (pc' := 98) rfl rfl rfl rfl ?_
            refine go_ifP (t' := 101) (pc' := 99) rfl rfl rfl (fun (c : ¬ (0 : Int32) = 0) => absurd c (by decide)) (fun _ => ?_)
            refine go_s (pc' := 100) rfl rfl rfl rfl ?_
            refine go_ifP (t' := 104) (pc' := 101) rfl rfl rfl (fun _ => ?_) (fun (c : ¬ ((0 : Int32) = 0)) => absurd (by decide) c)
            have hdo : mdo jr.2 t jr.1 kd rc vl = jr.2 := by
              unfold mdo
              rw [if_neg (by rw [c24]; decide), if_pos c24, if_neg c121, if_neg c122, if_neg c119, if_neg c120]
            rw [hdo]
            refine go_s (pc' := 105) rfl rfl rfl rfl ?_
            refine go_sget (pc' := 106) (v := .ref (ad2 1)) hS2 rfl rfl (tbs_s hA (i := 0) (by decide) rfl) (by decide) rfl rfl ?_
            refine go_s (pc' := 107) rfl rfl rfl rfl ?_
            refine go_s (pc' := 108) rfl rfl rfl rfl ?_
            refine go_get (pc' := 109) rfl hq23 rfl (by decide) rfl rfl ?_
            refine go_siast (pc' := 110) (q := t) hS2 rfl (tbs_s hA (i := 1) (by decide) (rg_el (by omega))) tbs_inj (Nat.le_of_ble_eq_true rfl) rfl (by omega) (hZ 1 (by decide)) (hW 1 (by decide)) rfl (fun h123 hS124 hE125 => ?_)
            have hF126 := fr_se hF22 hE125 hNN
            have hE127 := sm_e_trans hE2 hE125
            have hq128 := (hE125.2.2 _ hqn1).trans hq23
            refine go_s (pc' := 111) rfl rfl rfl rfl ?_
            refine go_sget (pc' := 112) (v := .ref (ad2 2)) hS124 rfl rfl (tbs_s hA (i := 0) (by decide) rfl) (by decide) rfl rfl ?_
            refine go_s (pc' := 113) rfl rfl rfl rfl ?_
            refine go_s (pc' := 114) rfl rfl rfl rfl ?_
            refine go_get (pc' := 115) rfl hq128 rfl (by decide) rfl rfl ?_
            refine go_siast (pc' := 116) (q := t) hS124 rfl (tbs_s hA (i := 2) (by decide) (rg_el (by omega))) tbs_inj (Nat.le_of_ble_eq_true rfl) rfl (by omega) (hZ 2 (by decide)) (hW 2 (by decide)) rfl (fun h129 hS130 hE131 => ?_)
            have hF132 := fr_se hF126 hE131 hNN
            have hE133 := sm_e_trans hE127 hE131
            have hq134 := (hE131.2.2 _ hqn1).trans hq128
            refine go_s (pc' := 117) rfl rfl rfl rfl ?_
            refine go_sget (pc' := 118) (v := .ref (ad2 3)) hS130 rfl rfl (tbs_s hA (i := 0) (by decide) rfl) (by decide) rfl rfl ?_
            refine go_s (pc' := 119) rfl rfl rfl rfl ?_
            refine go_s (pc' := 120) rfl rfl rfl rfl ?_
            refine go_siast (pc' := 121) (q := t) hS130 rfl (tbs_s hA (i := 3) (by decide) (rg_el (by omega))) tbs_inj (Nat.le_of_ble_eq_true rfl) rfl (by omega) (hZ 3 (by decide)) (hW 3 (by decide)) rfl (fun h135 hS136 hE137 => ?_)
            have hF138 := fr_se hF132 hE137 hNN
            have hE139 := sm_e_trans hE133 hE137
            have hq140 := (hE137.2.2 _ hqn1).trans hq134
            refine go_s (pc' := 122) rfl rfl rfl rfl ?_
            refine go_sget (pc' := 123) (v := .ref (ad2 4)) hS136 rfl rfl (tbs_s hA (i := 0) (by decide) rfl) (by decide) rfl rfl ?_
            refine go_s (pc' := 124) rfl rfl rfl rfl ?_
            refine go_s (pc' := 125) rfl rfl rfl rfl ?_
            refine go_ifP (t' := 135) (pc' := 126) rfl rfl rfl (fun (c : (1 : Int32) = 0) => absurd c (by decide)) (fun _ => ?_)
            refine go_s (pc' := 127) rfl rfl rfl rfl ?_
            refine go_get (pc' := 128) rfl hq140 rfl (by decide) rfl rfl ?_
            refine go_s (pc' := 129) (st' := [.int 1, .int kd, .int (nI t), .ref (ad2 4)]) rfl rfl rfl rfl ?_
            refine go_icmpP (t' := 135) (pc' := 130) rfl rfl rfl (fun (c141 : ¬ kd = 1) => ?_) (fun (c141' : ¬ ¬ kd = 1) => ?_)
            · skip
              refine go_s (pc' := 136) (st' := [.int 0, .int (nI t), .ref (ad2 4)]) rfl rfl rfl rfl ?_
              refine go_siast (pc' := 137) (q := t) hS136 rfl (tbs_s hA (i := 4) (by decide) (rg_el (by omega))) tbs_inj (Nat.le_of_ble_eq_true rfl) rfl (by omega) (hZ 4 (by decide)) (hW 4 (by decide)) rfl (fun h142 hS143 hE144 => ?_)
              have hF145 := fr_se hF138 hE144 hNN
              have hE146 := sm_e_trans hE139 hE144
              have hq147 := (hE144.2.2 _ hqn1).trans hq140
              refine go_ret rfl rfl ?_
              have hz1 := sc_u1 (k := t) (v := q1) hm2 ht
              have hz2 := sc_u2 (k := t) (v := q2) hz1 ht
              have hz3 := sc_u3 (k := t) (v := jr.1) hz2 ht
              have hz4 := sc_u4 (k := t) (v := 0) hz3 ht
              have hv : (if jr.1 = 0 ∧ kd = 1 then jr.2.1 (16 + (rc).toNatClampNeg) else 0) = 0 := if_neg (fun z => by have := z.2; exact c141 this)
              refine ⟨rfl, ad2, hA, hpost.1, hpost.2, _, hS143, ?_, ?_, hF145⟩
              · unfold mfi; rw [hv]; exact hz4
              · exact hb2.trans (hb1)
            · skip
              have c141 : kd = 1 := Decidable.not_not.mp c141'
              exact (k6 c24 (Or.inl c141) hn).elim
          · skip
            have c122 : kd = 2 := Decidable.not_not.mp c122'
            exact (k6 c24 (Or.inr c122) hn).elim
        · skip
          have c121 : kd = 0 := Decidable.not_not.mp c121'
          refine go_s (pc' := 58) rfl rfl rfl rfl ?_
          refine go_sget (pc' := 59) (v := .ref (ad2 7)) hS2 rfl rfl (tbs_s hA (i := 0) (by decide) rfl) (by decide) rfl rfl ?_
          refine go_s (pc' := 60) rfl rfl rfl rfl ?_
          refine go_s (pc' := 61) (st' := [.int 1, .int (nI t), .ref (ad2 7)]) rfl rfl rfl rfl ?_
          refine go_szast (pc' := 62) (q := t) hS2 rfl (tbs_s hA (i := 7) (by decide) (rg_el (by omega))) tbs_inj (Nat.le_of_ble_eq_true rfl) rfl (by omega) (hZ 7 (by decide)) rfl (hW 7 (by decide)) rfl (fun h148 hS149 hE150 => ?_)
          have hF151 := fr_se hF22 hE150 hNN
          have hE152 := sm_e_trans hE2 hE150
          have hq153 := (hE150.2.2 _ hqn1).trans hq23
          have hm3 := sc_u7 (k := t) (v := 1) hm2 ht
          obtain ⟨S3, hS3e⟩ : ∃ x, x = (uI S2 7 t 1) := ⟨_, rfl⟩
          have hb3 : S3 0 3 = S2 0 3 := by rw [hS3e]; rfl
          change sm _ _ (uI S2 7 t 1) _ at hS149
          rw [← hS3e] at hm3 hS149
          refine go_s (pc' := 63) rfl rfl rfl rfl ?_
          refine go_ifP (t' := 84) (pc' := 64) rfl rfl rfl (fun (c : (1 : Int32) = 0) => absurd c (by decide)) (fun _ => ?_)
          refine go_s (pc' := 65) rfl rfl rfl rfl ?_
          refine go_get (pc' := 66) rfl hq153 rfl (by decide) rfl rfl ?_
          refine go_s (pc' := 67) (st' := [.int 2, .int kd]) rfl rfl rfl rfl ?_
          refine go_icmpP (t' := 84) (pc' := 68) rfl rfl rfl (fun _ => ?_) (fun (c : ¬ (¬ kd = 2)) => absurd (by rw [c121] <;> decide) c)
          refine go_s (pc' := 85) rfl rfl rfl rfl ?_
          refine go_ifP (t' := 92) (pc' := 86) rfl rfl rfl (fun _ => ?_) (fun (c : ¬ ((0 : Int32) = 0)) => absurd (by decide) c)
          refine go_s (pc' := 93) rfl rfl rfl rfl ?_
          refine go_ifP (t' := 97) (pc' := 94) rfl rfl rfl (fun _ => ?_) (fun (c : ¬ ((0 : Int32) = 0)) => absurd (by decide) c)
          refine go_s (pc' := 98) rfl rfl rfl rfl ?_
          refine go_ifP (t' := 101) (pc' := 99) rfl rfl rfl (fun (c : ¬ (0 : Int32) = 0) => absurd c (by decide)) (fun _ => ?_)
          refine go_s (pc' := 100) rfl rfl rfl rfl ?_
          refine go_ifP (t' := 104) (pc' := 101) rfl rfl rfl (fun _ => ?_) (fun (c : ¬ ((0 : Int32) = 0)) => absurd (by decide) c)
          have hdo : mdo jr.2 t jr.1 kd rc vl = (uF jr.2.1 (14 + t) 1, jr.2.2.1, jr.2.2.2) := by
            unfold mdo
            rw [if_neg (by rw [c24]; decide), if_pos c24, if_pos c121]
          rw [hdo]
          clear hdo
          generalize (uF jr.2.1 (14 + t) 1, jr.2.2.1, jr.2.2.2) = MM at hm3 ⊢
          refine go_s (pc' := 105) rfl rfl rfl rfl ?_
          refine go_sget (pc' := 106) (v := .ref (ad2 1)) hS149 rfl rfl (tbs_s hA (i := 0) (by decide) rfl) (by decide) rfl rfl ?_
          refine go_s (pc' := 107) rfl rfl rfl rfl ?_
          refine go_s (pc' := 108) rfl rfl rfl rfl ?_
          refine go_get (pc' := 109) rfl hq153 rfl (by decide) rfl rfl ?_
          refine go_siast (pc' := 110) (q := t) hS149 rfl (tbs_s hA (i := 1) (by decide) (rg_el (by omega))) tbs_inj (Nat.le_of_ble_eq_true rfl) rfl (by omega) (hZ 1 (by decide)) (hW 1 (by decide)) rfl (fun h154 hS155 hE156 => ?_)
          have hF157 := fr_se hF151 hE156 hNN
          have hE158 := sm_e_trans hE152 hE156
          have hq159 := (hE156.2.2 _ hqn1).trans hq153
          refine go_s (pc' := 111) rfl rfl rfl rfl ?_
          refine go_sget (pc' := 112) (v := .ref (ad2 2)) hS155 rfl rfl (tbs_s hA (i := 0) (by decide) rfl) (by decide) rfl rfl ?_
          refine go_s (pc' := 113) rfl rfl rfl rfl ?_
          refine go_s (pc' := 114) rfl rfl rfl rfl ?_
          refine go_get (pc' := 115) rfl hq159 rfl (by decide) rfl rfl ?_
          refine go_siast (pc' := 116) (q := t) hS155 rfl (tbs_s hA (i := 2) (by decide) (rg_el (by omega))) tbs_inj (Nat.le_of_ble_eq_true rfl) rfl (by omega) (hZ 2 (by decide)) (hW 2 (by decide)) rfl (fun h160 hS161 hE162 => ?_)
          have hF163 := fr_se hF157 hE162 hNN
          have hE164 := sm_e_trans hE158 hE162
          have hq165 := (hE162.2.2 _ hqn1).trans hq159
          refine go_s (pc' := 117) rfl rfl rfl rfl ?_
          refine go_sget (pc' := 118) (v := .ref (ad2 3)) hS161 rfl rfl (tbs_s hA (i := 0) (by decide) rfl) (by decide) rfl rfl ?_
          refine go_s (pc' := 119) rfl rfl rfl rfl ?_
          refine go_s (pc' := 120) rfl rfl rfl rfl ?_
          refine go_siast (pc' := 121) (q := t) hS161 rfl (tbs_s hA (i := 3) (by decide) (rg_el (by omega))) tbs_inj (Nat.le_of_ble_eq_true rfl) rfl (by omega) (hZ 3 (by decide)) (hW 3 (by decide)) rfl (fun h166 hS167 hE168 => ?_)
          have hF169 := fr_se hF163 hE168 hNN
          have hE170 := sm_e_trans hE164 hE168
          have hq171 := (hE168.2.2 _ hqn1).trans hq165
          refine go_s (pc' := 122) rfl rfl rfl rfl ?_
          refine go_sget (pc' := 123) (v := .ref (ad2 4)) hS167 rfl rfl (tbs_s hA (i := 0) (by decide) rfl) (by decide) rfl rfl ?_
          refine go_s (pc' := 124) rfl rfl rfl rfl ?_
          refine go_s (pc' := 125) rfl rfl rfl rfl ?_
          refine go_ifP (t' := 135) (pc' := 126) rfl rfl rfl (fun (c : (1 : Int32) = 0) => absurd c (by decide)) (fun _ => ?_)
          refine go_s (pc' := 127) rfl rfl rfl rfl ?_
          refine go_get (pc' := 128) rfl hq171 rfl (by decide) rfl rfl ?_
          refine go_s (pc' := 129) (st' := [.int 1, .int kd, .int (nI t), .ref (ad2 4)]) rfl rfl rfl rfl ?_
          refine go_icmpP (t' := 135) (pc' := 130) rfl rfl rfl (fun _ => ?_) (fun (c : ¬ (¬ kd = 1)) => absurd (by rw [c121] <;> decide) c)
          refine go_s (pc' := 136) (st' := [.int 0, .int (nI t), .ref (ad2 4)]) rfl rfl rfl rfl ?_
          refine go_siast (pc' := 137) (q := t) hS167 rfl (tbs_s hA (i := 4) (by decide) (rg_el (by omega))) tbs_inj (Nat.le_of_ble_eq_true rfl) rfl (by omega) (hZ 4 (by decide)) (hW 4 (by decide)) rfl (fun h172 hS173 hE174 => ?_)
          have hF175 := fr_se hF169 hE174 hNN
          have hE176 := sm_e_trans hE170 hE174
          have hq177 := (hE174.2.2 _ hqn1).trans hq171
          refine go_ret rfl rfl ?_
          have hz1 := sc_u1 (k := t) (v := q1) hm3 ht
          have hz2 := sc_u2 (k := t) (v := q2) hz1 ht
          have hz3 := sc_u3 (k := t) (v := jr.1) hz2 ht
          have hz4 := sc_u4 (k := t) (v := 0) hz3 ht
          have hv : (if jr.1 = 0 ∧ kd = 1 then MM.1 (16 + (rc).toNatClampNeg) else 0) = 0 := if_neg (fun z => by have := z.2; rw [c121] at this; exact absurd this (by decide))
          refine ⟨rfl, ad2, hA, hpost.1, hpost.2, _, hS173, ?_, ?_, hF175⟩
          · unfold mfi; rw [hv]; exact hz4
          · exact hb3.trans (hb2.trans (hb1))
      · skip
        have c120 : kd = 4 := Decidable.not_not.mp c120'
        refine go_s (pc' := 49) (st' := [.int 1]) rfl rfl rfl rfl ?_
        refine go_s (pc' := 51) rfl rfl rfl rfl ?_
        refine go_s (pc' := 52) (lo' := [some (.ref (ad2 0)), some (.ref aq), some (.int (nI t)), some (.int jr.1), some (.int 1), some (.int 0), some (.int 1)]) rfl rfl rfl rfl ?_
        refine go_s (pc' := 53) rfl rfl rfl rfl ?_
        refine go_ifP (t' := 62) (pc' := 54) rfl rfl rfl (fun (c : (1 : Int32) = 0) => absurd c (by decide)) (fun _ => ?_)
        refine go_s (pc' := 55) rfl rfl rfl rfl ?_
        refine go_get (pc' := 56) rfl hq23 rfl (by decide) rfl rfl ?_
        refine go_ifP (t' := 62) (pc' := 57) rfl rfl rfl (fun _ => ?_) (fun (c : ¬ (¬ kd = 0)) => absurd (by rw [c120] <;> decide) c)
        refine go_s (pc' := 63) rfl rfl rfl rfl ?_
        refine go_ifP (t' := 84) (pc' := 64) rfl rfl rfl (fun (c : (1 : Int32) = 0) => absurd c (by decide)) (fun _ => ?_)
        refine go_s (pc' := 65) rfl rfl rfl rfl ?_
        refine go_get (pc' := 66) rfl hq23 rfl (by decide) rfl rfl ?_
        refine go_s (pc' := 67) (st' := [.int 2, .int kd]) rfl rfl rfl rfl ?_
        refine go_icmpP (t' := 84) (pc' := 68) rfl rfl rfl (fun _ => ?_) (fun (c : ¬ (¬ kd = 2)) => absurd (by rw [c120] <;> decide) c)
        refine go_s (pc' := 85) rfl rfl rfl rfl ?_
        refine go_ifP (t' := 92) (pc' := 86) rfl rfl rfl (fun _ => ?_) (fun (c : ¬ ((0 : Int32) = 0)) => absurd (by decide) c)
        refine go_s (pc' := 93) rfl rfl rfl rfl ?_
        refine go_ifP (t' := 97) (pc' := 94) rfl rfl rfl (fun (c : (1 : Int32) = 0) => absurd c (by decide)) (fun _ => ?_)
        have hT := mtr_pos ht (k5 c24 (by rw [c120]; decide))
        have : mtr (m.1, m.2.1, []) = mtr m := rfl
        have hl0 : jr.2.2.1.length < 32 := by rw [k1]; show m.2.1.length < 32; omega
        have hr0 : rok jr.2.2.1 (nI t) := by rw [k1]; exact hrk
        have hc0 : jr.2.2.2.length + cw jr.2.2.1 (nI t) jr.2.2.1.length ≤ 33 := by have := cw_le jr.2.2.1 (nI t) jr.2.2.1.length; rw [k2, List.length_nil]; omega
        have hw1 : (mB jr.2 (nI t)).2.2.length < 35 := by have := mB_len jr.2 (nI t); omega
        refine go_s (pc' := 95) rfl rfl rfl rfl ?_
        refine go_s (pc' := 96) rfl rfl rfl rfl ?_
        refine go_callV (pc' := 97) rfl rfl rfl (Nat.le_of_ble_eq_true rfl) rfl (sm_o hS2 (tbs_at hA (i := 0) (by decide))) rfl rfl rfl (cs_back hA hS2 hm2 hZ hW (nI t) hl0 hr0 hc0 (by omega)) (fun r h178 q179 => ?_)
        obtain ⟨rfl, S180, hS181, hm182, hE183, b184⟩ := q179
        have hF185 := fr_se hF22 hE183 hNN
        have hE186 := sm_e_trans hE2 hE183
        have hq187 := (hE183.2.2 _ hqn1).trans hq23
        refine go_s (pc' := 98) rfl rfl rfl rfl ?_
        refine go_ifP (t' := 101) (pc' := 99) rfl rfl rfl (fun (c : ¬ (0 : Int32) = 0) => absurd c (by decide)) (fun _ => ?_)
        refine go_s (pc' := 100) rfl rfl rfl rfl ?_
        refine go_ifP (t' := 104) (pc' := 101) rfl rfl rfl (fun (c : (1 : Int32) = 0) => absurd c (by decide)) (fun _ => ?_)
        refine go_s (pc' := 102) rfl rfl rfl rfl ?_
        refine go_s (pc' := 103) rfl rfl rfl rfl ?_
        refine go_callV (pc' := 104) rfl rfl rfl (Nat.le_of_ble_eq_true rfl) rfl (sm_o hS181 (tbs_at hA (i := 0) (by decide))) rfl rfl rfl (cs_end hA hS181 hm182 hZ hW ht hw1 (by omega)) (fun r h188 q189 => ?_)
        obtain ⟨rfl, S190, hS191, hm192, hE193, b194⟩ := q189
        have hF195 := fr_se hF185 hE193 hNN
        have hE196 := sm_e_trans hE186 hE193
        have hq197 := (hE193.2.2 _ hqn1).trans hq187
        have hdo : mdo jr.2 t jr.1 kd rc vl = (mX (mB jr.2 (nI t)) t) := by
          unfold mdo
          rw [if_neg (by rw [c24]; decide), if_pos c24, if_neg (by rw [c120]; decide), if_neg (by rw [c120]; decide), if_neg (by rw [c120]; decide), if_pos c120]
        rw [hdo]
        clear hdo
        generalize (mX (mB jr.2 (nI t)) t) = MM at hm192 ⊢
        refine go_s (pc' := 105) rfl rfl rfl rfl ?_
        refine go_sget (pc' := 106) (v := .ref (ad2 1)) hS191 rfl rfl (tbs_s hA (i := 0) (by decide) rfl) (by decide) rfl rfl ?_
        refine go_s (pc' := 107) rfl rfl rfl rfl ?_
        refine go_s (pc' := 108) rfl rfl rfl rfl ?_
        refine go_get (pc' := 109) rfl hq197 rfl (by decide) rfl rfl ?_
        refine go_siast (pc' := 110) (q := t) hS191 rfl (tbs_s hA (i := 1) (by decide) (rg_el (by omega))) tbs_inj (Nat.le_of_ble_eq_true rfl) rfl (by omega) (hZ 1 (by decide)) (hW 1 (by decide)) rfl (fun h198 hS199 hE200 => ?_)
        have hF201 := fr_se hF195 hE200 hNN
        have hE202 := sm_e_trans hE196 hE200
        have hq203 := (hE200.2.2 _ hqn1).trans hq197
        refine go_s (pc' := 111) rfl rfl rfl rfl ?_
        refine go_sget (pc' := 112) (v := .ref (ad2 2)) hS199 rfl rfl (tbs_s hA (i := 0) (by decide) rfl) (by decide) rfl rfl ?_
        refine go_s (pc' := 113) rfl rfl rfl rfl ?_
        refine go_s (pc' := 114) rfl rfl rfl rfl ?_
        refine go_get (pc' := 115) rfl hq203 rfl (by decide) rfl rfl ?_
        refine go_siast (pc' := 116) (q := t) hS199 rfl (tbs_s hA (i := 2) (by decide) (rg_el (by omega))) tbs_inj (Nat.le_of_ble_eq_true rfl) rfl (by omega) (hZ 2 (by decide)) (hW 2 (by decide)) rfl (fun h204 hS205 hE206 => ?_)
        have hF207 := fr_se hF201 hE206 hNN
        have hE208 := sm_e_trans hE202 hE206
        have hq209 := (hE206.2.2 _ hqn1).trans hq203
        refine go_s (pc' := 117) rfl rfl rfl rfl ?_
        refine go_sget (pc' := 118) (v := .ref (ad2 3)) hS205 rfl rfl (tbs_s hA (i := 0) (by decide) rfl) (by decide) rfl rfl ?_
        refine go_s (pc' := 119) rfl rfl rfl rfl ?_
        refine go_s (pc' := 120) rfl rfl rfl rfl ?_
        refine go_siast (pc' := 121) (q := t) hS205 rfl (tbs_s hA (i := 3) (by decide) (rg_el (by omega))) tbs_inj (Nat.le_of_ble_eq_true rfl) rfl (by omega) (hZ 3 (by decide)) (hW 3 (by decide)) rfl (fun h210 hS211 hE212 => ?_)
        have hF213 := fr_se hF207 hE212 hNN
        have hE214 := sm_e_trans hE208 hE212
        have hq215 := (hE212.2.2 _ hqn1).trans hq209
        refine go_s (pc' := 122) rfl rfl rfl rfl ?_
        refine go_sget (pc' := 123) (v := .ref (ad2 4)) hS211 rfl rfl (tbs_s hA (i := 0) (by decide) rfl) (by decide) rfl rfl ?_
        refine go_s (pc' := 124) rfl rfl rfl rfl ?_
        refine go_s (pc' := 125) rfl rfl rfl rfl ?_
        refine go_ifP (t' := 135) (pc' := 126) rfl rfl rfl (fun (c : (1 : Int32) = 0) => absurd c (by decide)) (fun _ => ?_)
        refine go_s (pc' := 127) rfl rfl rfl rfl ?_
        refine go_get (pc' := 128) rfl hq215 rfl (by decide) rfl rfl ?_
        refine go_s (pc' := 129) (st' := [.int 1, .int kd, .int (nI t), .ref (ad2 4)]) rfl rfl rfl rfl ?_
        refine go_icmpP (t' := 135) (pc' := 130) rfl rfl rfl (fun _ => ?_) (fun (c : ¬ (¬ kd = 1)) => absurd (by rw [c120] <;> decide) c)
        refine go_s (pc' := 136) (st' := [.int 0, .int (nI t), .ref (ad2 4)]) rfl rfl rfl rfl ?_
        refine go_siast (pc' := 137) (q := t) hS211 rfl (tbs_s hA (i := 4) (by decide) (rg_el (by omega))) tbs_inj (Nat.le_of_ble_eq_true rfl) rfl (by omega) (hZ 4 (by decide)) (hW 4 (by decide)) rfl (fun h216 hS217 hE218 => ?_)
        have hF219 := fr_se hF213 hE218 hNN
        have hE220 := sm_e_trans hE214 hE218
        have hq221 := (hE218.2.2 _ hqn1).trans hq215
        refine go_ret rfl rfl ?_
        have hz1 := sc_u1 (k := t) (v := q1) hm192 ht
        have hz2 := sc_u2 (k := t) (v := q2) hz1 ht
        have hz3 := sc_u3 (k := t) (v := jr.1) hz2 ht
        have hz4 := sc_u4 (k := t) (v := 0) hz3 ht
        have hv : (if jr.1 = 0 ∧ kd = 1 then MM.1 (16 + (rc).toNatClampNeg) else 0) = 0 := if_neg (fun z => by have := z.2; rw [c120] at this; exact absurd this (by decide))
        refine ⟨rfl, ad2, hA, hpost.1, hpost.2, _, hS217, ?_, ?_, hF219⟩
        · unfold mfi; rw [hv]; exact hz4
        · exact b194.trans (b184.trans (hb2.trans (hb1)))
    · skip
      have c119 : kd = 3 := Decidable.not_not.mp c119'
      refine go_s (pc' := 31) (st' := [.int 1]) rfl rfl rfl rfl ?_
      refine go_s (pc' := 33) rfl rfl rfl rfl ?_
      refine go_s (pc' := 34) (lo' := [some (.ref (ad2 0)), some (.ref aq), some (.int (nI t)), some (.int jr.1), some (.int 1), some (.int 1), none]) rfl rfl rfl rfl ?_
      refine go_s (pc' := 35) rfl rfl rfl rfl ?_
      refine go_s (pc' := 36) (st' := [.int (-9), .int jr.1]) rfl rfl rfl rfl ?_
      refine go_icmpP (t' := 42) (pc' := 37) rfl rfl rfl (fun _ => ?_) (fun (c : ¬ (¬ jr.1 = (-9))) => absurd (by rw [c24] <;> decide) c)
      refine go_s (pc' := 43) rfl rfl rfl rfl ?_
      refine go_ifP (t' := 50) (pc' := 44) rfl rfl rfl (fun (c : (1 : Int32) = 0) => absurd c (by decide)) (fun _ => ?_)
      refine go_s (pc' := 45) rfl rfl rfl rfl ?_
      refine go_get (pc' := 46) rfl hq23 rfl (by decide) rfl rfl ?_
      refine go_s (pc' := 47) (st' := [.int 4, .int kd]) rfl rfl rfl rfl ?_
      refine go_icmpP (t' := 50) (pc' := 48) rfl rfl rfl (fun _ => ?_) (fun (c : ¬ (¬ kd = 4)) => absurd (by rw [c119] <;> decide) c)
      refine go_s (pc' := 51) (st' := [.int 0]) rfl rfl rfl rfl ?_
      refine go_s (pc' := 52) (lo' := [some (.ref (ad2 0)), some (.ref aq), some (.int (nI t)), some (.int jr.1), some (.int 1), some (.int 1), some (.int 0)]) rfl rfl rfl rfl ?_
      refine go_s (pc' := 53) rfl rfl rfl rfl ?_
      refine go_ifP (t' := 62) (pc' := 54) rfl rfl rfl (fun (c : (1 : Int32) = 0) => absurd c (by decide)) (fun _ => ?_)
      refine go_s (pc' := 55) rfl rfl rfl rfl ?_
      refine go_get (pc' := 56) rfl hq23 rfl (by decide) rfl rfl ?_
      refine go_ifP (t' := 62) (pc' := 57) rfl rfl rfl (fun _ => ?_) (fun (c : ¬ (¬ kd = 0)) => absurd (by rw [c119] <;> decide) c)
      refine go_s (pc' := 63) rfl rfl rfl rfl ?_
      refine go_ifP (t' := 84) (pc' := 64) rfl rfl rfl (fun (c : (1 : Int32) = 0) => absurd c (by decide)) (fun _ => ?_)
      refine go_s (pc' := 65) rfl rfl rfl rfl ?_
      refine go_get (pc' := 66) rfl hq23 rfl (by decide) rfl rfl ?_
      refine go_s (pc' := 67) (st' := [.int 2, .int kd]) rfl rfl rfl rfl ?_
      refine go_icmpP (t' := 84) (pc' := 68) rfl rfl rfl (fun _ => ?_) (fun (c : ¬ (¬ kd = 2)) => absurd (by rw [c119] <;> decide) c)
      refine go_s (pc' := 85) rfl rfl rfl rfl ?_
      refine go_ifP (t' := 92) (pc' := 86) rfl rfl rfl (fun (c : (1 : Int32) = 0) => absurd c (by decide)) (fun _ => ?_)
      have hT := mtr_pos ht (k5 c24 (by rw [c119]; decide))
      have hl0 : jr.2.2.1.length < 32 := by rw [k1]; show m.2.1.length < 32; have : mtr (m.1, m.2.1, []) = mtr m := rfl; omega
      have hw0 : jr.2.2.2.length < 35 := by rw [k2]; exact (by decide : 0 < 35)
      have hw1 : (mE jr.2 2 (nI t) 0 0).2.2.length < 35 := by simp only [mE, k2, List.length_append, List.length_cons, List.length_nil]; omega
      refine go_s (pc' := 87) rfl rfl rfl rfl ?_
      refine go_s (pc' := 88) (st' := [.int 2, .ref (ad2 0)]) rfl rfl rfl rfl ?_
      refine go_s (pc' := 89) rfl rfl rfl rfl ?_
      refine go_s (pc' := 90) (st' := [.int 0, .int (nI t), .int 2, .ref (ad2 0)]) rfl rfl rfl rfl ?_
      refine go_s (pc' := 91) (st' := [.int 0, .int 0, .int (nI t), .int 2, .ref (ad2 0)]) rfl rfl rfl rfl ?_
      refine go_callV (pc' := 92) rfl rfl rfl (Nat.le_of_ble_eq_true rfl) rfl (sm_o hS2 (tbs_at hA (i := 0) (by decide))) rfl rfl rfl (cs_addE hA hS2 hZ hW hm2.2.2.1 hm2.2.2.2.1 hl0 hw0 2 (nI t) 0 0 (by omega)) (fun r h222 q223 => ?_)
      obtain ⟨rfl, hS224, hE225⟩ := q223
      have hm226 := sc_E (kd := 2) (t := (nI t)) (rc := 0) (bf := 0) hm2
      have b229 : cE S2 jr.2.2.1.length jr.2.2.2.length 2 (nI t) 0 0 0 3 = S2 0 3 := rfl
      generalize cE S2 jr.2.2.1.length jr.2.2.2.length 2 (nI t) 0 0 = S227 at hS224 hm226 b229
      have hF230 := fr_se hF22 hE225 hNN
      have hE231 := sm_e_trans hE2 hE225
      have hq232 := (hE225.2.2 _ hqn1).trans hq23
      refine go_s (pc' := 93) rfl rfl rfl rfl ?_
      refine go_ifP (t' := 97) (pc' := 94) rfl rfl rfl (fun _ => ?_) (fun (c : ¬ ((0 : Int32) = 0)) => absurd (by decide) c)
      refine go_s (pc' := 98) rfl rfl rfl rfl ?_
      refine go_ifP (t' := 101) (pc' := 99) rfl rfl rfl (fun _ => ?_) (fun (c : ¬ (¬ (1 : Int32) = 0)) => absurd (by decide) c)
      refine go_s (pc' := 102) rfl rfl rfl rfl ?_
      refine go_s (pc' := 103) rfl rfl rfl rfl ?_
      refine go_callV (pc' := 104) rfl rfl rfl (Nat.le_of_ble_eq_true rfl) rfl (sm_o hS224 (tbs_at hA (i := 0) (by decide))) rfl rfl rfl (cs_end hA hS224 hm226 hZ hW ht hw1 (by omega)) (fun r h233 q234 => ?_)
      obtain ⟨rfl, S235, hS236, hm237, hE238, b239⟩ := q234
      have hF240 := fr_se hF230 hE238 hNN
      have hE241 := sm_e_trans hE231 hE238
      have hq242 := (hE238.2.2 _ hqn1).trans hq232
      have hdo : mdo jr.2 t jr.1 kd rc vl = (mX (mE jr.2 2 (nI t) 0 0) t) := by
        unfold mdo
        rw [if_neg (by rw [c24]; decide), if_pos c24, if_neg (by rw [c119]; decide), if_neg (by rw [c119]; decide), if_pos c119]
      rw [hdo]
      clear hdo
      generalize (mX (mE jr.2 2 (nI t) 0 0) t) = MM at hm237 ⊢
      refine go_s (pc' := 105) rfl rfl rfl rfl ?_
      refine go_sget (pc' := 106) (v := .ref (ad2 1)) hS236 rfl rfl (tbs_s hA (i := 0) (by decide) rfl) (by decide) rfl rfl ?_
      refine go_s (pc' := 107) rfl rfl rfl rfl ?_
      refine go_s (pc' := 108) rfl rfl rfl rfl ?_
      refine go_get (pc' := 109) rfl hq242 rfl (by decide) rfl rfl ?_
      refine go_siast (pc' := 110) (q := t) hS236 rfl (tbs_s hA (i := 1) (by decide) (rg_el (by omega))) tbs_inj (Nat.le_of_ble_eq_true rfl) rfl (by omega) (hZ 1 (by decide)) (hW 1 (by decide)) rfl (fun h243 hS244 hE245 => ?_)
      have hF246 := fr_se hF240 hE245 hNN
      have hE247 := sm_e_trans hE241 hE245
      have hq248 := (hE245.2.2 _ hqn1).trans hq242
      refine go_s (pc' := 111) rfl rfl rfl rfl ?_
      refine go_sget (pc' := 112) (v := .ref (ad2 2)) hS244 rfl rfl (tbs_s hA (i := 0) (by decide) rfl) (by decide) rfl rfl ?_
      refine go_s (pc' := 113) rfl rfl rfl rfl ?_
      refine go_s (pc' := 114) rfl rfl rfl rfl ?_
      refine go_get (pc' := 115) rfl hq248 rfl (by decide) rfl rfl ?_
      refine go_siast (pc' := 116) (q := t) hS244 rfl (tbs_s hA (i := 2) (by decide) (rg_el (by omega))) tbs_inj (Nat.le_of_ble_eq_true rfl) rfl (by omega) (hZ 2 (by decide)) (hW 2 (by decide)) rfl (fun h249 hS250 hE251 => ?_)
      have hF252 := fr_se hF246 hE251 hNN
      have hE253 := sm_e_trans hE247 hE251
      have hq254 := (hE251.2.2 _ hqn1).trans hq248
      refine go_s (pc' := 117) rfl rfl rfl rfl ?_
      refine go_sget (pc' := 118) (v := .ref (ad2 3)) hS250 rfl rfl (tbs_s hA (i := 0) (by decide) rfl) (by decide) rfl rfl ?_
      refine go_s (pc' := 119) rfl rfl rfl rfl ?_
      refine go_s (pc' := 120) rfl rfl rfl rfl ?_
      refine go_siast (pc' := 121) (q := t) hS250 rfl (tbs_s hA (i := 3) (by decide) (rg_el (by omega))) tbs_inj (Nat.le_of_ble_eq_true rfl) rfl (by omega) (hZ 3 (by decide)) (hW 3 (by decide)) rfl (fun h255 hS256 hE257 => ?_)
      have hF258 := fr_se hF252 hE257 hNN
      have hE259 := sm_e_trans hE253 hE257
      have hq260 := (hE257.2.2 _ hqn1).trans hq254
      refine go_s (pc' := 122) rfl rfl rfl rfl ?_
      refine go_sget (pc' := 123) (v := .ref (ad2 4)) hS256 rfl rfl (tbs_s hA (i := 0) (by decide) rfl) (by decide) rfl rfl ?_
      refine go_s (pc' := 124) rfl rfl rfl rfl ?_
      refine go_s (pc' := 125) rfl rfl rfl rfl ?_
      refine go_ifP (t' := 135) (pc' := 126) rfl rfl rfl (fun (c : (1 : Int32) = 0) => absurd c (by decide)) (fun _ => ?_)
      refine go_s (pc' := 127) rfl rfl rfl rfl ?_
      refine go_get (pc' := 128) rfl hq260 rfl (by decide) rfl rfl ?_
      refine go_s (pc' := 129) (st' := [.int 1, .int kd, .int (nI t), .ref (ad2 4)]) rfl rfl rfl rfl ?_
      refine go_icmpP (t' := 135) (pc' := 130) rfl rfl rfl (fun _ => ?_) (fun (c : ¬ (¬ kd = 1)) => absurd (by rw [c119] <;> decide) c)
      refine go_s (pc' := 136) (st' := [.int 0, .int (nI t), .ref (ad2 4)]) rfl rfl rfl rfl ?_
      refine go_siast (pc' := 137) (q := t) hS256 rfl (tbs_s hA (i := 4) (by decide) (rg_el (by omega))) tbs_inj (Nat.le_of_ble_eq_true rfl) rfl (by omega) (hZ 4 (by decide)) (hW 4 (by decide)) rfl (fun h261 hS262 hE263 => ?_)
      have hF264 := fr_se hF258 hE263 hNN
      have hE265 := sm_e_trans hE259 hE263
      have hq266 := (hE263.2.2 _ hqn1).trans hq260
      refine go_ret rfl rfl ?_
      have hz1 := sc_u1 (k := t) (v := q1) hm237 ht
      have hz2 := sc_u2 (k := t) (v := q2) hz1 ht
      have hz3 := sc_u3 (k := t) (v := jr.1) hz2 ht
      have hz4 := sc_u4 (k := t) (v := 0) hz3 ht
      have hv : (if jr.1 = 0 ∧ kd = 1 then MM.1 (16 + (rc).toNatClampNeg) else 0) = 0 := if_neg (fun z => by have := z.2; rw [c119] at this; exact absurd this (by decide))
      refine ⟨rfl, ad2, hA, hpost.1, hpost.2, _, hS262, ?_, ?_, hF264⟩
      · unfold mfi; rw [hv]; exact hz4
      · exact b239.trans (b229.trans (hb2.trans (hb1)))
