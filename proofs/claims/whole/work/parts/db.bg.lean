theorem uZ_r {Z : mZ} {i : Nat} {a b : ms} : uZ (uZ Z i a) i b = uZ Z i b := by
  funext k
  unfold uZ
  split <;> rfl
def lkv (x : Int32) : Prop := x = -1 ∨ x = 0 ∨ x = 1
theorem LKs_m {s s' : ms} (e : ∀ q, q < 16 → s'.1 (32 + q) = s.1 (32 + q)) (h : LKs s) : LKs s' := fun q hq => by
  rw [e q hq]
  exact h q hq
theorem frl_k (F : Nat → Int32) (t : Int32) : ∀ n q, frl F t n (32 + q) = F (32 + q) ∨ frl F t n (32 + q) = -1 := by
  intro n
  induction n with
  | zero => intro q; exact Or.inl rfl
  | succ n ih =>
    intro q
    simp only [frl]
    split
    · unfold uF
      split
      · exact Or.inr rfl
      · exact ih q
    · exact ih q
theorem LKs_X0 {m : ms} {G : Nat → Int32} (h : ∀ q, q < 16 → G (32 + q) = -1 ∨ G (32 + q) = 0 ∨ G (32 + q) = 1) : LKs (if mtr ((G, m.2.1, m.2.2) : ms) = 0 then mG (G, m.2.1, m.2.2) else (G, m.2.1, m.2.2)) := by
  have k1 : LKs (G, m.2.1, m.2.2) := fun q hq => h q hq
  split
  · exact LKs_F (s := (G, m.2.1, m.2.2)) k1 (by decide)
  · exact k1
theorem LKs_X {m : ms} {t : Nat} (ht : t < 2) (h : LKs m) : LKs (mX m t) := by
  have kk : ∀ q, frl (uF m.1 (14 + t) 0) (nI t) 16 (32 + q) = uF m.1 (14 + t) 0 (32 + q) ∨ frl (uF m.1 (14 + t) 0) (nI t) 16 (32 + q) = -1 := frl_k (uF m.1 (14 + t) 0) (nI t) 16
  unfold mX
  simp only []
  generalize frl (uF m.1 (14 + t) 0) (nI t) 16 = G at kk ⊢
  refine LKs_X0 (fun q hq => ?_)
  rcases kk q with e | e
  · rw [e]
    unfold uF
    rw [if_neg (by omega)]
    exact h q hq
  · exact Or.inl e
theorem LKs_bko (L : List ms_E) (t : Int32) (f : Nat) (hr : rok L t) : ∀ n (m : ms), LKs m → LKs (bko L t f n m) := by
  intro n
  induction n with
  | zero => intro m h; exact h
  | succ n ih =>
    intro m h
    simp only [bko]
    split
    · exact h
    · split
      · rename_i e he
        refine ih _ ?_
        split
        · rename_i hc
          rw [Bool.and_eq_true] at hc
          obtain ⟨q, hq, eq⟩ := hr n e he hc.1
          refine LKs_F (s := m) h ?_
          rw [eq, nI_16 hq]
          omega
        · exact h
      · exact h
theorem LKs_B {m : ms} {t : Int32} (hr : rok m.2.1 t) (h : LKs m) : LKs (mB m t) := LKs_bko m.2.1 t (mof m t) hr m.2.1.length m h
theorem LKs_mps {s : ms} {t : Nat} {q : Nat → Int32} (ht : t < 2) (hg : SG s) (h : LKs s) : LKs (mps s t q) := by
  have hs : LKs (s.1, s.2.1, ([] : List ms_W)) := LKs_c rfl h
  have hrk : rok s.2.1 (nI t) := by
    obtain rfl | rfl : t = 0 ∨ t = 1 := by omega
    · exact hg.2.1
    · exact hg.2.2
  have key : ∀ m, m = (s.1, s.2.1, ([] : List ms_W)) → LKs (mdo (mj m t (q 1) (q 3) (q 4) (q 5)).2 t (mj m t (q 1) (q 3) (q 4) (q 5)).1 (q 4) (q 5) (q 6)) := by
    intro m em
    have hm : LKs m := by rw [em]; exact hs
    have hr : rok m.2.1 (nI t) := by rw [em]; exact hrk
    have key2 : ∀ rs m2, mj m t (q 1) (q 3) (q 4) (q 5) = (rs, m2) → LKs m2 ∧ m2.2.1 = m.2.1 ∧ (rs = 0 → q 4 = 2 → ∃ k, k < 16 ∧ q 5 = nI k) := by
      intro rs m2 e
      rw [mj_2] at e
      split at e
      · cases e
        exact ⟨hm, rfl, fun z => absurd z (by decide)⟩
      · unfold mj2 at e
        split at e
        · rename_i k0
          cases e
          exact ⟨hm, rfl, fun _ z => by rw [k0] at z; exact absurd z (by decide)⟩
        · split at e
          · cases e
            exact ⟨hm, rfl, fun z => absurd z (by decide)⟩
          · split at e
            · cases e
              exact ⟨hm, rfl, fun z => absurd z (by decide)⟩
            · split at e
              · unfold mjA at e
                split at e
                · cases e
                  exact ⟨hm, rfl, fun z => absurd z (by decide)⟩
                · rename_i hrc
                  obtain ⟨k, hk, ek⟩ : ∃ k, k < 16 ∧ q 5 = nI k := by
                    rcases nI_within (x := q 5) (n := 16) (by decide) with z | z
                    · exact z
                    · exact absurd z hrc
                  split at e
                  · cases e
                    exact ⟨hm, rfl, fun z => absurd z (by decide)⟩
                  · cases e
                    refine ⟨fun y hy => ?_, rfl, fun _ _ => ⟨k, hk, ek⟩⟩
                    show uF m.1 (32 + (q 5).toNatClampNeg) (nI t) (32 + y) = -1 ∨ uF m.1 (32 + (q 5).toNatClampNeg) (nI t) (32 + y) = 0 ∨ uF m.1 (32 + (q 5).toNatClampNeg) (nI t) (32 + y) = 1
                    unfold uF
                    split
                    · obtain rfl | rfl : t = 0 ∨ t = 1 := by omega
                      · exact Or.inr (Or.inl rfl)
                      · exact Or.inr (Or.inr rfl)
                    · exact hm y hy
              · rename_i h12
                cases e
                exact ⟨hm, rfl, fun _ z => absurd (Or.inr z) h12⟩
    generalize hX : mj m t (q 1) (q 3) (q 4) (q 5) = X
    obtain ⟨rs, m2⟩ := X
    obtain ⟨a1, a2, a3⟩ := key2 rs m2 hX
    have hr2 : rok m2.2.1 (nI t) := by rw [a2]; exact hr
    show LKs (mdo m2 t rs (q 4) (q 5) (q 6))
    unfold mdo
    split
    · split
      · exact a1
      · exact LKs_X ht (LKs_B hr2 a1)
    · split
      · rename_i h0
        split
        · exact LKs_F a1 (by omega)
        · split
          · rename_i k2
            obtain ⟨k, hk, ek⟩ := a3 h0 k2
            refine LKs_F (s := mE m2 1 (nI t) (q 5) (m2.1 (16 + (q 5).toNatClampNeg))) (LKs_c rfl a1) ?_
            rw [ek, nI_16 hk]
            omega
          · split
            · exact LKs_X ht (LKs_c rfl a1)
            · split
              · exact LKs_X ht (LKs_B hr2 a1)
              · exact a1
      · exact a1
  rw [mps_e]
  refine LKs_m (fun y hy => ?_) (key _ rfl)
  unfold msd
  simp only [uF]
  rw [if_neg (by omega), if_neg (by omega), if_neg (by omega), if_neg (by omega), if_neg (by omega), if_neg (by omega)]
theorem mord_0 {F q : Nat → Int32} {t : Nat} (h1 : q 1 = F (6 + t)) (h2 : q 2 = F (8 + t)) : mord F q t = 0 := by
  unfold mord cmp3
  rw [h1, h2]
  rw [if_neg Int32.lt_irrefl, if_pos rfl, if_pos rfl, if_neg Int32.lt_irrefl, if_pos rfl]
theorem mord_n {F q : Nat → Int32} {t : Nat} (h : q 1 < F (6 + t) ∨ (q 1 = F (6 + t) ∧ q 2 < F (8 + t))) : ¬ mord F q t = 0 ∧ mord F q t ≤ 0 := by
  unfold mord cmp3
  rcases h with h | ⟨h, h2⟩
  · rw [if_pos h, if_neg (by decide)]
    decide
  · rw [h, if_neg Int32.lt_irrefl, if_pos rfl, if_pos rfl, if_pos h2]
    decide
theorem mord_p {F q : Nat → Int32} {t : Nat} (h : ¬ q 1 < F (6 + t)) (h2 : q 1 = F (6 + t) → ¬ q 2 < F (8 + t) ∧ ¬ q 2 = F (8 + t)) : ¬ mord F q t = 0 ∧ ¬ mord F q t ≤ 0 := by
  unfold mord cmp3
  rw [if_neg h]
  by_cases e : q 1 = F (6 + t)
  · obtain ⟨a, b⟩ := h2 e
    rw [if_pos e, if_pos rfl, if_neg a, if_neg b]
    decide
  · rw [if_neg e, if_neg (by decide)]
    decide
theorem RU_sh {w : Nat → Bool} {B R : Nat} {H : List (Nat × mg)} {hb : Bool} {h h2 : am_Hp} {am ln n : Nat} {K I : sm_I} {Q : mQ} {Z : mZ} {tb : sm_T} (e : sm_e tb h h2) (hn : stn I = n) (hn1 : 1 ≤ n) (hn8 : n ≤ 8) (k : RU w B (R + 2) H hb h am ln K (I, Q, Z)) : RU w B R H hb h2 am ln K (msh I, Q, Z) := by
  obtain ⟨k1, k2, L, F, G, o, ro, rm, sr, a1, a2, a3⟩ := k
  have z : rm + 2 * stn I ≤ R + 2 := a2
  have y : stn (msh I) = n - 1 := by
    unfold stn msh
    rw [if_neg (by omega), if_pos ⟨rfl, rfl⟩, hn]
    exact nI_clamp (by omega)
  exact ⟨HB_e e k1, k2, L, F, G, o, ro, rm, sr, RP_I (fun l _ => by show msh I 24 l = _; rw [msh_o (by decide) (by decide)]) (fun l _ => by show msh I 25 l = _; rw [msh_o (by decide) (by decide)]) a1, by show rm + 2 * stn (msh I) ≤ R; omega, a3⟩
theorem ra_bg_0 {w : Nat → Bool} {d B R : Nat} {H : List (Nat × mg)} {hb : Bool} {h : am_Hp} {I : sm_I} {Q : mQ} {Z : mZ} (hA : RA w B (R + 2) H hb h (I, Q, Z)) (hR : R + 3 < 40000) {n : Nat} (hn1 : 1 ≤ n) (hn8 : n ≤ 8) (en : I 21 0 = nI n) (e20 : I 20 0 = 0) (hp0 : prk I 0) (hn0 : ¬ I 11 0 = -1) (hpk : prk I 1) (hoh : ¬ I 12 0 = -1 → I 12 0 = ohI I 0) (h5 : ¬ I 12 0 = -1 → sq Q + hc H hb ≤ 5) (hOK : OK (Z (rwi I 0))) (hd : 8 ≤ d) : am_Ev (am_prog w) d 145 [.ref 62] h (fun r h' => r = none ∧ RA w B (R + 1) H hb h' (rbeg (I, Q, Z))) := by
  obtain ⟨K, Y, am, ln, hS, hU⟩ := RA_u.mp hA
  change sm (tbr am (13 * ln) 77 5088) h (jn I K) Y at hS
  obtain ⟨hW, hWm, -, -, hr, -⟩ := id hU.1
  have hln := RU_ln hU (by omega)
  obtain ⟨d, rfl⟩ : ∃ e, d = e + 1 := ⟨d - 1, by omega⟩
  refine ev_go rfl (Nat.le_of_ble_eq_true rfl) rfl ?_
  have hst : stn I = n := by
    unfold stn
    rw [en]
    exact nI_clamp (by omega)
  have hbt : mbt (I, Q, Z) = 0 := by
    show (I 20 0).toNatClampNeg = 0
    rw [e20]
    rfl
  rcases (id hp0) with e1 | e1 | e1
  · skip
    exact absurd e1 hn0
  · skip
    have hO : OK (Z 0) := by
      have z := hOK
      rw [show rwi I 0 = 0 from rwi_l (v := 0) e1 (by decide)] at z
      exact z
    refine go_s (pc' := 1) rfl rfl rfl rfl ?_
    refine go_s (pc' := 2) (st' := [.int 0, .ref 62]) rfl rfl rfl rfl ?_
    refine go_callV (pc' := 3) rfl rfl rfl (Nat.le_of_ble_eq_true rfl) rfl (sm_o hS rfl) rfl rfl rfl (rt_at_0 hr hS (Or.inr (Or.inl e1)) (fun z => absurd (e1.symm.trans z) (by decide)) (by omega)) (fun r h2 q3 => ?_)
    obtain ⟨rfl, rfl⟩ := q3
    rw [show rwi (jn I K) 0 = 0 by unfold rwi pn; rw [show (jn I K) 11 0 = 0 from e1]; rfl]
    show am_Go _ _ _ _ 3 _ [.int 0] _ _
    refine go_s (pc' := 4) (lo' := [some (.ref 62), some (.int 0), none, none, none, none, none, none, none, none, none]) rfl rfl rfl rfl ?_
    refine go_s (pc' := 5) rfl rfl rfl rfl ?_
    refine go_sget (pc' := 6) (v := .ref 87) hS rfl rfl rfl (by decide) rfl rfl ?_
    refine go_s (pc' := 7) (st' := [.int 0, .ref 87]) rfl rfl rfl rfl ?_
    refine go_sald (pc' := 8) (q := 0) (v := .int 0) hS rfl (tr_s hr (a := 87) rfl (by decide)) rfl rfl (by decide) (congrArg Value.int e20) rfl ?_
    refine go_s (pc' := 9) (lo' := [some (.ref 62), some (.int 0), some (.int 0), none, none, none, none, none, none, none, none]) rfl rfl rfl rfl ?_
    refine go_s (pc' := 10) rfl rfl rfl rfl ?_
    refine go_sget (pc' := 11) (v := .ref 87) hS rfl rfl rfl (by decide) rfl rfl ?_
    refine go_s (pc' := 12) (st' := [.int 1, .ref 87]) rfl rfl rfl rfl ?_
    refine go_sald (pc' := 13) (q := 1) (v := .int (I 20 1)) hS rfl (tr_s hr (a := 87) rfl (by decide)) rfl rfl (by decide) rfl rfl ?_
    refine go_s (pc' := 14) (lo' := [some (.ref 62), some (.int 0), some (.int 0), some (.int (I 20 1)), none, none, none, none, none, none, none]) rfl rfl rfl rfl ?_
    refine go_s (pc' := 15) rfl rfl rfl rfl ?_
    refine go_sget (pc' := 16) (v := .ref 87) hS rfl rfl rfl (by decide) rfl rfl ?_
    refine go_s (pc' := 17) (st' := [.int 2, .ref 87]) rfl rfl rfl rfl ?_
    refine go_sald (pc' := 18) (q := 2) (v := .int (I 20 2)) hS rfl (tr_s hr (a := 87) rfl (by decide)) rfl rfl (by decide) rfl rfl ?_
    refine go_s (pc' := 19) (lo' := [some (.ref 62), some (.int 0), some (.int 0), some (.int (I 20 1)), some (.int (I 20 2)), none, none, none, none, none, none]) rfl rfl rfl rfl ?_
    refine go_s (pc' := 20) rfl rfl rfl rfl ?_
    refine go_sget (pc' := 21) (v := .ref 87) hS rfl rfl rfl (by decide) rfl rfl ?_
    refine go_s (pc' := 22) (st' := [.int 3, .ref 87]) rfl rfl rfl rfl ?_
    refine go_sald (pc' := 23) (q := 3) (v := .int (I 20 3)) hS rfl (tr_s hr (a := 87) rfl (by decide)) rfl rfl (by decide) rfl rfl ?_
    refine go_s (pc' := 24) (lo' := [some (.ref 62), some (.int 0), some (.int 0), some (.int (I 20 1)), some (.int (I 20 2)), some (.int (I 20 3)), none, none, none, none, none]) rfl rfl rfl rfl ?_
    refine go_s (pc' := 25) rfl rfl rfl rfl ?_
    refine go_sget (pc' := 26) (v := .ref 87) hS rfl rfl rfl (by decide) rfl rfl ?_
    refine go_s (pc' := 27) (st' := [.int 4, .ref 87]) rfl rfl rfl rfl ?_
    refine go_sald (pc' := 28) (q := 4) (v := .int (I 20 4)) hS rfl (tr_s hr (a := 87) rfl (by decide)) rfl rfl (by decide) rfl rfl ?_
    refine go_s (pc' := 29) (lo' := [some (.ref 62), some (.int 0), some (.int 0), some (.int (I 20 1)), some (.int (I 20 2)), some (.int (I 20 3)), some (.int (I 20 4)), none, none, none, none]) rfl rfl rfl rfl ?_
    refine go_s (pc' := 30) rfl rfl rfl rfl ?_
    refine go_sget (pc' := 31) (v := .ref 87) hS rfl rfl rfl (by decide) rfl rfl ?_
    refine go_s (pc' := 32) (st' := [.int 5, .ref 87]) rfl rfl rfl rfl ?_
    refine go_sald (pc' := 33) (q := 5) (v := .int (I 20 5)) hS rfl (tr_s hr (a := 87) rfl (by decide)) rfl rfl (by decide) rfl rfl ?_
    refine go_s (pc' := 34) (lo' := [some (.ref 62), some (.int 0), some (.int 0), some (.int (I 20 1)), some (.int (I 20 2)), some (.int (I 20 3)), some (.int (I 20 4)), some (.int (I 20 5)), none, none, none]) rfl rfl rfl rfl ?_
    refine go_s (pc' := 35) rfl rfl rfl rfl ?_
    refine go_sget (pc' := 36) (v := .ref 87) hS rfl rfl rfl (by decide) rfl rfl ?_
    refine go_s (pc' := 37) (st' := [.int 6, .ref 87]) rfl rfl rfl rfl ?_
    refine go_sald (pc' := 38) (q := 6) (v := .int (I 20 6)) hS rfl (tr_s hr (a := 87) rfl (by decide)) rfl rfl (by decide) rfl rfl ?_
    refine go_s (pc' := 39) (lo' := [some (.ref 62), some (.int 0), some (.int 0), some (.int (I 20 1)), some (.int (I 20 2)), some (.int (I 20 3)), some (.int (I 20 4)), some (.int (I 20 5)), some (.int (I 20 6)), none, none]) rfl rfl rfl rfl ?_
    refine go_s (pc' := 40) rfl rfl rfl rfl ?_
    refine go_s (pc' := 41) rfl rfl rfl rfl ?_
    refine go_sget (pc' := 42) (v := .int (nI n)) hS rfl rfl rfl (by decide) (congrArg Value.int en) rfl ?_
    refine go_s (pc' := 43) (st' := [.int 1, .int (nI n), .ref 62]) rfl rfl rfl rfl ?_
    refine go_nsub (pc' := 44) (a := n) (b := 1) rfl rfl rfl (by omega) rfl rfl ?_
    refine go_sput (pc' := 45) hS rfl rfl rfl (by decide) tbr_inj (Nat.le_of_ble_eq_true rfl) rfl (hW _ (by decide) (by decide)) rfl (fun h4 hS5 hE6 => ?_)
    refine go_s (pc' := 46) (st' := [.int 0]) rfl rfl rfl rfl ?_
    refine go_s (pc' := 47) (lo' := [some (.ref 62), some (.int 0), some (.int 0), some (.int (I 20 1)), some (.int (I 20 2)), some (.int (I 20 3)), some (.int (I 20 4)), some (.int (I 20 5)), some (.int (I 20 6)), some (.int 0), none]) rfl rfl rfl rfl ?_
    change sm (tbr am (13 * ln) 77 5088) _ (uI (jn I K) 21 0 (nI (n - 1))) Y at hS5
    rw [jn_lo (c := 21) (by decide)] at hS5
    rw [← sh_0] at hS5
    refine lp_sh hr hW hn1 hn8 (7 * (n - 1)) 0 _ (by omega) hS5 (fun h9 hS9 hE9 => ?_)
    have hE9b := sm_e_trans hE6 hE9
    rw [sh_e hst] at hS9
    have hU1 := RU_sh (R := R) hE9b hst hn1 hn8 hU
    obtain ⟨I1, eI⟩ : ∃ y, y = msh I := ⟨_, rfl⟩
    rw [← eI] at hS9 hU1
    have hp7 : prk I1 0 := (prk_p (congrFun (by rw [eI]; exact msh_o (by decide) (by decide)) 0)).mpr hp0
    have hp8 : prk I1 1 := (prk_p (congrFun (by rw [eI]; exact msh_o (by decide) (by decide)) 1)).mpr hpk
    have ep9 : I1 11 0 = 0 := (congrFun (by rw [eI]; exact msh_o (by decide) (by decide)) 0).trans e1
    have hoh1 : ¬ I1 12 0 = -1 → I1 12 0 = ohI I1 0 := by
      rw [eI, msh_o (by decide) (by decide), ohI_c (msh_o (by decide) (by decide))]
      exact hoh
    have h51 : ¬ I1 12 0 = -1 → sq Q + hc H hb ≤ 5 := by
      rw [eI, msh_o (by decide) (by decide)]
      exact h5
    have hnn : ¬ I1 11 0 = -1 := (fun z => absurd (ep9.symm.trans z) (by decide))
    refine go_s (pc' := 66) rfl rfl rfl rfl ?_
    refine go_sget (pc' := 67) (v := .ref 77) hS9 rfl rfl rfl (by decide) rfl rfl ?_
    refine go_s (pc' := 68) rfl rfl rfl rfl ?_
    refine go_s (pc' := 69) (st' := [.int 6, .int 0, .ref 77]) rfl rfl rfl rfl ?_
    refine go_s (pc' := 70) (st' := [.int 6, .ref 77]) rfl rfl rfl rfl ?_
    refine go_s (pc' := 71) rfl rfl rfl rfl ?_
    refine go_s (pc' := 72) (st' := [.int 6, .ref 77]) rfl rfl rfl rfl ?_
    refine go_sald (pc' := 73) (q := 6) (v := .int ((Z 0).1 6)) hS9 rfl (tr_as hr (by omega)) rfl rfl (by decide) (congrArg Value.int ((RR_row hU1.2.1 (i := 0) (by decide)).1.1 6 (by decide) (by decide) (by decide))) rfl ?_
    refine go_s (pc' := 74) (lo' := [some (.ref 62), some (.int 0), some (.int 0), some (.int (I 20 1)), some (.int (I 20 2)), some (.int (I 20 3)), some (.int (I 20 4)), some (.int (I 20 5)), some (.int (I 20 6)), some (.int ((Z 0).1 6)), none]) rfl rfl rfl rfl ?_
    refine go_s (pc' := 75) rfl rfl rfl rfl ?_
    refine go_s (pc' := 76) rfl rfl rfl rfl ?_
    refine go_icmpP (t' := 90) (pc' := 77) rfl rfl rfl (fun (c10 : (I 20 1) < ((Z 0).1 6)) => ?_) (fun (c10 : ¬ (I 20 1) < ((Z 0).1 6)) => ?_)
    · skip
      refine go_ret rfl rfl ?_
      have hq : mord (row1 (I, Q, Z) 0) (mbq (I, Q, Z)) (mbt (I, Q, Z)) = mord (Z 0).1 (I 20) 0 := by
        rw [show row1 (I, Q, Z) 0 = (Z 0).1 from row1_l (v := 0) e1 (by decide), hbt]
        rfl
      have hmo := mord_n (F := (Z 0).1) (q := I 20) (t := 0) (Or.inl c10)
      have hms : rbeg (I, Q, Z) = (I1, Q, Z) := by
        unfold rbeg
        rw [hq, if_neg hmo.1, if_pos hmo.2, eI]
      have hA11 : RA w B R H hb h9 (I1, Q, Z) := RA_u.mpr ⟨_, _, _, _, hS9, hU1⟩
      rw [hms]
      exact ⟨rfl, RA_R (by omega) hA11⟩
    · skip
      refine go_s (pc' := 78) rfl rfl rfl rfl ?_
      refine go_s (pc' := 79) rfl rfl rfl rfl ?_
      refine go_icmpP (t' := 91) (pc' := 80) rfl rfl rfl (fun (c12 : ¬ (I 20 1) = ((Z 0).1 6)) => ?_) (fun (c12' : ¬ ¬ (I 20 1) = ((Z 0).1 6)) => ?_)
      · skip
        refine go_s (pc' := 92) rfl rfl rfl rfl ?_
        refine go_s (pc' := 93) rfl rfl rfl rfl ?_
        refine go_icmpP (t' := 108) (pc' := 94) rfl rfl rfl (fun _ => ?_) (fun (c : ¬ (¬ (I 20 1) = ((Z 0).1 6))) => absurd c12 c)
        refine go_s (pc' := 109) rfl rfl rfl rfl ?_
        refine go_sget (pc' := 110) (v := .ref 77) hS9 rfl rfl rfl (by decide) rfl rfl ?_
        refine go_s (pc' := 111) rfl rfl rfl rfl ?_
        refine go_s (pc' := 112) (st' := [.int 5, .int 0, .ref 77]) rfl rfl rfl rfl ?_
        refine go_s (pc' := 113) (st' := [.int 5, .ref 77]) rfl rfl rfl rfl ?_
        refine go_s (pc' := 114) (st' := [.int 0, .int 5, .ref 77]) rfl rfl rfl rfl ?_
        refine go_siast (pc' := 115) (q := 5) hS9 rfl (tr_as hr (by omega)) tbr_inj (Nat.le_of_ble_eq_true rfl) rfl (by decide) (by decide) (hW _ (by decide) (by decide)) rfl (fun h13 hS14 hE15 => ?_)
        refine go_s (pc' := 116) rfl rfl rfl rfl ?_
        refine go_sget (pc' := 117) (v := .ref 88) hS14 rfl rfl rfl (by decide) rfl rfl ?_
        refine go_s (pc' := 118) (st' := [.int 0, .ref 88]) rfl rfl rfl rfl ?_
        refine go_s (pc' := 119) (st' := [.int 0, .int 0, .ref 88]) rfl rfl rfl rfl ?_
        refine go_siast (pc' := 120) (q := 0) hS14 rfl (tr_s hr (a := 88) rfl (by decide)) tbr_inj (Nat.le_of_ble_eq_true rfl) rfl (by decide) (by decide) (hW _ (by decide) (by decide)) rfl (fun h16 hS17 hE18 => ?_)
        have hE19 := sm_e_trans hE15 hE18
        refine go_s (pc' := 121) rfl rfl rfl rfl ?_
        refine go_sget (pc' := 122) (v := .ref 88) hS17 rfl rfl rfl (by decide) rfl rfl ?_
        refine go_s (pc' := 123) (st' := [.int 1, .ref 88]) rfl rfl rfl rfl ?_
        refine go_s (pc' := 124) (st' := [.int 0, .int 1, .ref 88]) rfl rfl rfl rfl ?_
        refine go_siast (pc' := 125) (q := 1) hS17 rfl (tr_s hr (a := 88) rfl (by decide)) tbr_inj (Nat.le_of_ble_eq_true rfl) rfl (by decide) (by decide) (hW _ (by decide) (by decide)) rfl (fun h20 hS21 hE22 => ?_)
        have hE23 := sm_e_trans hE19 hE22
        change sm (tbr am (13 * ln) 77 5088) _ (uI (uI (uI (jn I1 K) 51 5 0) 22 0 0) 22 1 0) Y at hS21
        rw [jn_hi (c := 51) (by decide), jn_lo (c := 22) (by decide), jn_lo (c := 22) (by decide)] at hS21
        have hU24 : RU w B R H hb h20 am ln (uI K 51 5 0) ((uI (uI I1 22 0 0) 22 1 0), Q, (uZ Z 0 ((Z 0).1, (Z 0).2.1, []))) := RU_row (K' := (uI K 51 5 0)) (s := ((Z 0).1, (Z 0).2.1, [])) (by decide) (fun c j _ hc => by
          simp only [uI]
          rw [if_neg (by omega)]) (⟨fun _ => ⟨RS_w0 (RR_row hU1.2.1 (i := 0) (by decide)).1, (RR_row hU1.2.1 (i := 0) (by decide)).2.1, Nat.zero_le _, LKs_c rfl (RR_row hU1.2.1 (i := 0) (by decide)).2.2.2⟩, fun h => absurd h (by decide)⟩) (RU_I (hE23) (I' := (uI (uI I1 22 0 0) 22 1 0)) (fun _ => rfl) (fun _ => rfl) (Nat.le_refl _) hU1)
        refine bg_c_0 hr hS21 hW (hW 77 (by decide) (by decide)) (rho := 0) (s := ((Z 0).1, (Z 0).2.1, [])) (show prk (jn (uI (uI I1 22 0 0) 22 1 0) (uI K 51 5 0)) 0 from (Or.inr (Or.inl ep9))) (show ¬ (jn (uI (uI I1 22 0 0) 22 1 0) (uI K 51 5 0)) 11 0 = -1 from hnn) (show rwi (jn (uI (uI I1 22 0 0) 22 1 0) (uI K 51 5 0)) 0 = 0 from rwi_l (v := 0) ep9 (by decide)) (by decide) (by decide) (show RS (jn (uI (uI I1 22 0 0) 22 1 0) (uI K 51 5 0)) 0 ((Z 0).1, (Z 0).2.1, []) from (RR_row hU24.2.1 (i := 0) (by decide)).1) rfl hO.1.1 hO.2.2.1 hO.1.2.1 hO.2.2.2.1 (LKs_c rfl (RR_row hU1.2.1 (i := 0) (by decide)).2.2.2) (q := I 20) (by omega) (fun v10 h8 K8 g1 g2 g3 g4 => ?_)
        have g1b : sm (tbr am (13 * ln) 77 5088) h8 (jn (uI (uI I1 22 0 0) 22 1 0) K8) Y := by
          have z := g1
          rw [jn_rfr g4] at z
          exact z
        have hOm := OK_mps (t := 0) (q := I 20) (by decide) hO
        have hOm1 := hOm.1.1
        have hOm2 := hOm.2.2.2.2.1
        have hU25 : RU w B R H hb h8 am ln K8 ((uI (uI I1 22 0 0) 22 1 0), Q, uZ (uZ Z 0 ((Z 0).1, (Z 0).2.1, [])) 0 (mps ((Z 0).1, (Z 0).2.1, []) 0 (I 20))) := RU_row (i := 0) (by decide) (fun c j h50 hc => (g4 c j hc).trans (jn_ge h50)) ⟨fun _ => ⟨g3, by show (mps (Z 0) 0 (I 20)).2.1.length ≤ 32; omega, by show (mps (Z 0) 0 (I 20)).2.2.length ≤ 41; omega, LKs_mps (by decide) hO.1 (RR_row hU1.2.1 (i := 0) (by decide)).2.2.2⟩, fun h => absurd h (by decide)⟩ (RU_I g2 (I' := (uI (uI I1 22 0 0) 22 1 0)) (fun _ => rfl) (fun _ => rfl) (Nat.le_refl _) hU24)
        refine go_s (pc' := 225) rfl rfl rfl rfl ?_
        refine go_s (pc' := 226) (st' := [.int 0, .ref 62]) rfl rfl rfl rfl ?_
        have hU26 : RU w B R H hb h8 am ln K8 ((uI (uI I1 22 0 0) 22 1 0), Q, (uZ (uZ Z 0 ((Z 0).1, (Z 0).2.1, [])) 0 (mps ((Z 0).1, (Z 0).2.1, []) 0 (I 20)))) := RU_I (sm_e_refl (tbr am (13 * ln) 77 5088) _) (I' := (uI (uI I1 22 0 0) 22 1 0)) (fun _ => rfl) (fun _ => rfl) (Nat.le_refl _) hU25
        have hA27 : RA w B R H hb h8 ((uI (uI I1 22 0 0) 22 1 0), Q, (uZ (uZ Z 0 ((Z 0).1, (Z 0).2.1, [])) 0 (mps ((Z 0).1, (Z 0).2.1, []) 0 (I 20)))) := RA_u.mpr ⟨_, _, _, _, g1b, hU26⟩
        refine go_callV (pc' := 227) rfl rfl rfl (Nat.le_of_ble_eq_true rfl) rfl (sm_o g1b rfl) rfl rfl rfl (ra_tl_0 hA27 (by omega) (Or.inr (Or.inl ep9)) (fun z => absurd (ep9.symm.trans z) (by decide)) hoh1 h51 (by omega)) (fun r h28 q29 => ?_)
        obtain ⟨rfl, hA30⟩ := q29
        refine go_ret rfl rfl ?_
        have hq : mord (row1 (I, Q, Z) 0) (mbq (I, Q, Z)) (mbt (I, Q, Z)) = mord (Z 0).1 (I 20) 0 := by
          rw [show row1 (I, Q, Z) 0 = (Z 0).1 from row1_l (v := 0) e1 (by decide), hbt]
          rfl
        have hmo := mord_p (F := (Z 0).1) (q := I 20) (t := 0) c10 (fun z => absurd z c12)
        have hbp : mbp (I, Q, Z) = ((uI (uI I1 22 0 0) 22 1 0), Q, (uZ (uZ Z 0 ((Z 0).1, (Z 0).2.1, [])) 0 (mps ((Z 0).1, (Z 0).2.1, []) 0 (I 20)))) := by
          unfold mbp
          rw [show rwi (I, Q, Z).1 0 = 0 from rwi_l (v := 0) e1 (by decide), hbt, uZ_r, eI]
          rfl
        have hms : rbeg (I, Q, Z) = rtl 0 ((uI (uI I1 22 0 0) 22 1 0), Q, (uZ (uZ Z 0 ((Z 0).1, (Z 0).2.1, [])) 0 (mps ((Z 0).1, (Z 0).2.1, []) 0 (I 20)))) := by
          unfold rbeg
          rw [hq, if_neg hmo.1, if_neg hmo.2, hbp]
        rw [hms]
        exact ⟨rfl, hA30⟩
      · skip
        have c12 : (I 20 1) = ((Z 0).1 6) := Decidable.not_not.mp c12'
        refine go_s (pc' := 81) rfl rfl rfl rfl ?_
        refine go_s (pc' := 82) rfl rfl rfl rfl ?_
        refine go_sget (pc' := 83) (v := .ref 77) hS9 rfl rfl rfl (by decide) rfl rfl ?_
        refine go_s (pc' := 84) rfl rfl rfl rfl ?_
        refine go_s (pc' := 85) (st' := [.int 8, .int 0, .ref 77, .int (I 20 2)]) rfl rfl rfl rfl ?_
        refine go_s (pc' := 86) (st' := [.int 8, .ref 77, .int (I 20 2)]) rfl rfl rfl rfl ?_
        refine go_s (pc' := 87) rfl rfl rfl rfl ?_
        refine go_s (pc' := 88) (st' := [.int 8, .ref 77, .int (I 20 2)]) rfl rfl rfl rfl ?_
        refine go_sald (pc' := 89) (q := 8) (v := .int ((Z 0).1 8)) hS9 rfl (tr_as hr (by omega)) rfl rfl (by decide) (congrArg Value.int ((RR_row hU1.2.1 (i := 0) (by decide)).1.1 8 (by decide) (by decide) (by decide))) rfl ?_
        refine go_icmpP (t' := 91) (pc' := 90) rfl rfl rfl (fun (c31 : ((Z 0).1 8) ≤ (I 20 2)) => ?_) (fun (c31 : ¬ ((Z 0).1 8) ≤ (I 20 2)) => ?_)
        · skip
          refine go_s (pc' := 92) rfl rfl rfl rfl ?_
          refine go_s (pc' := 93) rfl rfl rfl rfl ?_
          refine go_icmpP (t' := 108) (pc' := 94) rfl rfl rfl (fun (c : ¬ (I 20 1) = ((Z 0).1 6)) => absurd c (fun z => z c12)) (fun _ => ?_)
          refine go_s (pc' := 95) rfl rfl rfl rfl ?_
          refine go_s (pc' := 96) rfl rfl rfl rfl ?_
          refine go_sget (pc' := 97) (v := .ref 77) hS9 rfl rfl rfl (by decide) rfl rfl ?_
          refine go_s (pc' := 98) rfl rfl rfl rfl ?_
          refine go_s (pc' := 99) (st' := [.int 8, .int 0, .ref 77, .int (I 20 2)]) rfl rfl rfl rfl ?_
          refine go_s (pc' := 100) (st' := [.int 8, .ref 77, .int (I 20 2)]) rfl rfl rfl rfl ?_
          refine go_s (pc' := 101) rfl rfl rfl rfl ?_
          refine go_s (pc' := 102) (st' := [.int 8, .ref 77, .int (I 20 2)]) rfl rfl rfl rfl ?_
          refine go_sald (pc' := 103) (q := 8) (v := .int ((Z 0).1 8)) hS9 rfl (tr_as hr (by omega)) rfl rfl (by decide) (congrArg Value.int ((RR_row hU1.2.1 (i := 0) (by decide)).1.1 8 (by decide) (by decide) (by decide))) rfl ?_
          refine go_icmpP (t' := 108) (pc' := 104) rfl rfl rfl (fun (c32 : ¬ (I 20 2) = ((Z 0).1 8)) => ?_) (fun (c32' : ¬ ¬ (I 20 2) = ((Z 0).1 8)) => ?_)
          · skip
            refine go_s (pc' := 109) rfl rfl rfl rfl ?_
            refine go_sget (pc' := 110) (v := .ref 77) hS9 rfl rfl rfl (by decide) rfl rfl ?_
            refine go_s (pc' := 111) rfl rfl rfl rfl ?_
            refine go_s (pc' := 112) (st' := [.int 5, .int 0, .ref 77]) rfl rfl rfl rfl ?_
            refine go_s (pc' := 113) (st' := [.int 5, .ref 77]) rfl rfl rfl rfl ?_
            refine go_s (pc' := 114) (st' := [.int 0, .int 5, .ref 77]) rfl rfl rfl rfl ?_
            refine go_siast (pc' := 115) (q := 5) hS9 rfl (tr_as hr (by omega)) tbr_inj (Nat.le_of_ble_eq_true rfl) rfl (by decide) (by decide) (hW _ (by decide) (by decide)) rfl (fun h33 hS34 hE35 => ?_)
            refine go_s (pc' := 116) rfl rfl rfl rfl ?_
            refine go_sget (pc' := 117) (v := .ref 88) hS34 rfl rfl rfl (by decide) rfl rfl ?_
            refine go_s (pc' := 118) (st' := [.int 0, .ref 88]) rfl rfl rfl rfl ?_
            refine go_s (pc' := 119) (st' := [.int 0, .int 0, .ref 88]) rfl rfl rfl rfl ?_
            refine go_siast (pc' := 120) (q := 0) hS34 rfl (tr_s hr (a := 88) rfl (by decide)) tbr_inj (Nat.le_of_ble_eq_true rfl) rfl (by decide) (by decide) (hW _ (by decide) (by decide)) rfl (fun h36 hS37 hE38 => ?_)
            have hE39 := sm_e_trans hE35 hE38
            refine go_s (pc' := 121) rfl rfl rfl rfl ?_
            refine go_sget (pc' := 122) (v := .ref 88) hS37 rfl rfl rfl (by decide) rfl rfl ?_
            refine go_s (pc' := 123) (st' := [.int 1, .ref 88]) rfl rfl rfl rfl ?_
            refine go_s (pc' := 124) (st' := [.int 0, .int 1, .ref 88]) rfl rfl rfl rfl ?_
            refine go_siast (pc' := 125) (q := 1) hS37 rfl (tr_s hr (a := 88) rfl (by decide)) tbr_inj (Nat.le_of_ble_eq_true rfl) rfl (by decide) (by decide) (hW _ (by decide) (by decide)) rfl (fun h40 hS41 hE42 => ?_)
            have hE43 := sm_e_trans hE39 hE42
            change sm (tbr am (13 * ln) 77 5088) _ (uI (uI (uI (jn I1 K) 51 5 0) 22 0 0) 22 1 0) Y at hS41
            rw [jn_hi (c := 51) (by decide), jn_lo (c := 22) (by decide), jn_lo (c := 22) (by decide)] at hS41
            have hU44 : RU w B R H hb h40 am ln (uI K 51 5 0) ((uI (uI I1 22 0 0) 22 1 0), Q, (uZ Z 0 ((Z 0).1, (Z 0).2.1, []))) := RU_row (K' := (uI K 51 5 0)) (s := ((Z 0).1, (Z 0).2.1, [])) (by decide) (fun c j _ hc => by
              simp only [uI]
              rw [if_neg (by omega)]) (⟨fun _ => ⟨RS_w0 (RR_row hU1.2.1 (i := 0) (by decide)).1, (RR_row hU1.2.1 (i := 0) (by decide)).2.1, Nat.zero_le _, LKs_c rfl (RR_row hU1.2.1 (i := 0) (by decide)).2.2.2⟩, fun h => absurd h (by decide)⟩) (RU_I (hE43) (I' := (uI (uI I1 22 0 0) 22 1 0)) (fun _ => rfl) (fun _ => rfl) (Nat.le_refl _) hU1)
            refine bg_c_0 hr hS41 hW (hW 77 (by decide) (by decide)) (rho := 0) (s := ((Z 0).1, (Z 0).2.1, [])) (show prk (jn (uI (uI I1 22 0 0) 22 1 0) (uI K 51 5 0)) 0 from (Or.inr (Or.inl ep9))) (show ¬ (jn (uI (uI I1 22 0 0) 22 1 0) (uI K 51 5 0)) 11 0 = -1 from hnn) (show rwi (jn (uI (uI I1 22 0 0) 22 1 0) (uI K 51 5 0)) 0 = 0 from rwi_l (v := 0) ep9 (by decide)) (by decide) (by decide) (show RS (jn (uI (uI I1 22 0 0) 22 1 0) (uI K 51 5 0)) 0 ((Z 0).1, (Z 0).2.1, []) from (RR_row hU44.2.1 (i := 0) (by decide)).1) rfl hO.1.1 hO.2.2.1 hO.1.2.1 hO.2.2.2.1 (LKs_c rfl (RR_row hU1.2.1 (i := 0) (by decide)).2.2.2) (q := I 20) (by omega) (fun v10 h8 K8 g1 g2 g3 g4 => ?_)
            have g1b : sm (tbr am (13 * ln) 77 5088) h8 (jn (uI (uI I1 22 0 0) 22 1 0) K8) Y := by
              have z := g1
              rw [jn_rfr g4] at z
              exact z
            have hOm := OK_mps (t := 0) (q := I 20) (by decide) hO
            have hOm1 := hOm.1.1
            have hOm2 := hOm.2.2.2.2.1
            have hU45 : RU w B R H hb h8 am ln K8 ((uI (uI I1 22 0 0) 22 1 0), Q, uZ (uZ Z 0 ((Z 0).1, (Z 0).2.1, [])) 0 (mps ((Z 0).1, (Z 0).2.1, []) 0 (I 20))) := RU_row (i := 0) (by decide) (fun c j h50 hc => (g4 c j hc).trans (jn_ge h50)) ⟨fun _ => ⟨g3, by show (mps (Z 0) 0 (I 20)).2.1.length ≤ 32; omega, by show (mps (Z 0) 0 (I 20)).2.2.length ≤ 41; omega, LKs_mps (by decide) hO.1 (RR_row hU1.2.1 (i := 0) (by decide)).2.2.2⟩, fun h => absurd h (by decide)⟩ (RU_I g2 (I' := (uI (uI I1 22 0 0) 22 1 0)) (fun _ => rfl) (fun _ => rfl) (Nat.le_refl _) hU44)
            refine go_s (pc' := 225) rfl rfl rfl rfl ?_
            refine go_s (pc' := 226) (st' := [.int 0, .ref 62]) rfl rfl rfl rfl ?_
            have hU46 : RU w B R H hb h8 am ln K8 ((uI (uI I1 22 0 0) 22 1 0), Q, (uZ (uZ Z 0 ((Z 0).1, (Z 0).2.1, [])) 0 (mps ((Z 0).1, (Z 0).2.1, []) 0 (I 20)))) := RU_I (sm_e_refl (tbr am (13 * ln) 77 5088) _) (I' := (uI (uI I1 22 0 0) 22 1 0)) (fun _ => rfl) (fun _ => rfl) (Nat.le_refl _) hU45
            have hA47 : RA w B R H hb h8 ((uI (uI I1 22 0 0) 22 1 0), Q, (uZ (uZ Z 0 ((Z 0).1, (Z 0).2.1, [])) 0 (mps ((Z 0).1, (Z 0).2.1, []) 0 (I 20)))) := RA_u.mpr ⟨_, _, _, _, g1b, hU46⟩
            refine go_callV (pc' := 227) rfl rfl rfl (Nat.le_of_ble_eq_true rfl) rfl (sm_o g1b rfl) rfl rfl rfl (ra_tl_0 hA47 (by omega) (Or.inr (Or.inl ep9)) (fun z => absurd (ep9.symm.trans z) (by decide)) hoh1 h51 (by omega)) (fun r h48 q49 => ?_)
            obtain ⟨rfl, hA50⟩ := q49
            refine go_ret rfl rfl ?_
            have hq : mord (row1 (I, Q, Z) 0) (mbq (I, Q, Z)) (mbt (I, Q, Z)) = mord (Z 0).1 (I 20) 0 := by
              rw [show row1 (I, Q, Z) 0 = (Z 0).1 from row1_l (v := 0) e1 (by decide), hbt]
              rfl
            have hmo := mord_p (F := (Z 0).1) (q := I 20) (t := 0) c10 (fun _ => ⟨Int32.not_lt.mpr c31, c32⟩)
            have hbp : mbp (I, Q, Z) = ((uI (uI I1 22 0 0) 22 1 0), Q, (uZ (uZ Z 0 ((Z 0).1, (Z 0).2.1, [])) 0 (mps ((Z 0).1, (Z 0).2.1, []) 0 (I 20)))) := by
              unfold mbp
              rw [show rwi (I, Q, Z).1 0 = 0 from rwi_l (v := 0) e1 (by decide), hbt, uZ_r, eI]
              rfl
            have hms : rbeg (I, Q, Z) = rtl 0 ((uI (uI I1 22 0 0) 22 1 0), Q, (uZ (uZ Z 0 ((Z 0).1, (Z 0).2.1, [])) 0 (mps ((Z 0).1, (Z 0).2.1, []) 0 (I 20)))) := by
              unfold rbeg
              rw [hq, if_neg hmo.1, if_neg hmo.2, hbp]
            rw [hms]
            exact ⟨rfl, hA50⟩
          · skip
            have c32 : (I 20 2) = ((Z 0).1 8) := Decidable.not_not.mp c32'
            refine go_s (pc' := 105) rfl rfl rfl rfl ?_
            refine go_s (pc' := 106) rfl rfl rfl rfl ?_
            have hU51 : RU w B R H hb h9 am ln K (I1, Q, Z) := RU_I (sm_e_refl (tbr am (13 * ln) 77 5088) _) (I' := I1) (fun _ => rfl) (fun _ => rfl) (Nat.le_refl _) hU1
            have hA52 : RA w B R H hb h9 (I1, Q, Z) := RA_u.mpr ⟨_, _, _, _, hS9, hU51⟩
            refine go_callV (pc' := 107) rfl rfl rfl (Nat.le_of_ble_eq_true rfl) rfl (sm_o hS9 rfl) rfl rfl rfl (ra_rp_0 hA52 (by omega) (Or.inr (Or.inl ep9)) hnn hp8 (by omega)) (fun r h53 q54 => ?_)
            obtain ⟨rfl, hA55⟩ := q54
            refine go_ret rfl rfl ?_
            have hq : mord (row1 (I, Q, Z) 0) (mbq (I, Q, Z)) (mbt (I, Q, Z)) = mord (Z 0).1 (I 20) 0 := by
              rw [show row1 (I, Q, Z) 0 = (Z 0).1 from row1_l (v := 0) e1 (by decide), hbt]
              rfl
            have hmo := mord_0 (F := (Z 0).1) (q := I 20) (t := 0) c12 c32
            have hms : rbeg (I, Q, Z) = rrp 0 (I1, Q, Z) := by
              unfold rbeg
              rw [hq, if_pos hmo, hbt, eI]
            rw [hms]
            exact ⟨rfl, hA55⟩
        · skip
          refine go_ret rfl rfl ?_
          have hq : mord (row1 (I, Q, Z) 0) (mbq (I, Q, Z)) (mbt (I, Q, Z)) = mord (Z 0).1 (I 20) 0 := by
            rw [show row1 (I, Q, Z) 0 = (Z 0).1 from row1_l (v := 0) e1 (by decide), hbt]
            rfl
          have hmo := mord_n (F := (Z 0).1) (q := I 20) (t := 0) (Or.inr ⟨c12, Int32.not_le.mp c31⟩)
          have hms : rbeg (I, Q, Z) = (I1, Q, Z) := by
            unfold rbeg
            rw [hq, if_neg hmo.1, if_pos hmo.2, eI]
          have hA56 : RA w B R H hb h9 (I1, Q, Z) := RA_u.mpr ⟨_, _, _, _, hS9, hU1⟩
          rw [hms]
          exact ⟨rfl, RA_R (by omega) hA56⟩
  · skip
    have hO : OK (Z 1) := by
      have z := hOK
      rw [show rwi I 0 = 1 from rwi_l (v := 1) e1 (by decide)] at z
      exact z
    refine go_s (pc' := 1) rfl rfl rfl rfl ?_
    refine go_s (pc' := 2) (st' := [.int 0, .ref 62]) rfl rfl rfl rfl ?_
    refine go_callV (pc' := 3) rfl rfl rfl (Nat.le_of_ble_eq_true rfl) rfl (sm_o hS rfl) rfl rfl rfl (rt_at_0 hr hS (Or.inr (Or.inr e1)) (fun z => absurd (e1.symm.trans z) (by decide)) (by omega)) (fun r h57 q58 => ?_)
    obtain ⟨rfl, rfl⟩ := q58
    rw [show rwi (jn I K) 0 = 1 by unfold rwi pn; rw [show (jn I K) 11 0 = 1 from e1]; rfl]
    show am_Go _ _ _ _ 3 _ [.int 424] _ _
    refine go_s (pc' := 4) (lo' := [some (.ref 62), some (.int 424), none, none, none, none, none, none, none, none, none]) rfl rfl rfl rfl ?_
    refine go_s (pc' := 5) rfl rfl rfl rfl ?_
    refine go_sget (pc' := 6) (v := .ref 87) hS rfl rfl rfl (by decide) rfl rfl ?_
    refine go_s (pc' := 7) (st' := [.int 0, .ref 87]) rfl rfl rfl rfl ?_
    refine go_sald (pc' := 8) (q := 0) (v := .int 0) hS rfl (tr_s hr (a := 87) rfl (by decide)) rfl rfl (by decide) (congrArg Value.int e20) rfl ?_
    refine go_s (pc' := 9) (lo' := [some (.ref 62), some (.int 424), some (.int 0), none, none, none, none, none, none, none, none]) rfl rfl rfl rfl ?_
    refine go_s (pc' := 10) rfl rfl rfl rfl ?_
    refine go_sget (pc' := 11) (v := .ref 87) hS rfl rfl rfl (by decide) rfl rfl ?_
    refine go_s (pc' := 12) (st' := [.int 1, .ref 87]) rfl rfl rfl rfl ?_
    refine go_sald (pc' := 13) (q := 1) (v := .int (I 20 1)) hS rfl (tr_s hr (a := 87) rfl (by decide)) rfl rfl (by decide) rfl rfl ?_
    refine go_s (pc' := 14) (lo' := [some (.ref 62), some (.int 424), some (.int 0), some (.int (I 20 1)), none, none, none, none, none, none, none]) rfl rfl rfl rfl ?_
    refine go_s (pc' := 15) rfl rfl rfl rfl ?_
    refine go_sget (pc' := 16) (v := .ref 87) hS rfl rfl rfl (by decide) rfl rfl ?_
    refine go_s (pc' := 17) (st' := [.int 2, .ref 87]) rfl rfl rfl rfl ?_
    refine go_sald (pc' := 18) (q := 2) (v := .int (I 20 2)) hS rfl (tr_s hr (a := 87) rfl (by decide)) rfl rfl (by decide) rfl rfl ?_
    refine go_s (pc' := 19) (lo' := [some (.ref 62), some (.int 424), some (.int 0), some (.int (I 20 1)), some (.int (I 20 2)), none, none, none, none, none, none]) rfl rfl rfl rfl ?_
    refine go_s (pc' := 20) rfl rfl rfl rfl ?_
    refine go_sget (pc' := 21) (v := .ref 87) hS rfl rfl rfl (by decide) rfl rfl ?_
    refine go_s (pc' := 22) (st' := [.int 3, .ref 87]) rfl rfl rfl rfl ?_
    refine go_sald (pc' := 23) (q := 3) (v := .int (I 20 3)) hS rfl (tr_s hr (a := 87) rfl (by decide)) rfl rfl (by decide) rfl rfl ?_
    refine go_s (pc' := 24) (lo' := [some (.ref 62), some (.int 424), some (.int 0), some (.int (I 20 1)), some (.int (I 20 2)), some (.int (I 20 3)), none, none, none, none, none]) rfl rfl rfl rfl ?_
    refine go_s (pc' := 25) rfl rfl rfl rfl ?_
    refine go_sget (pc' := 26) (v := .ref 87) hS rfl rfl rfl (by decide) rfl rfl ?_
    refine go_s (pc' := 27) (st' := [.int 4, .ref 87]) rfl rfl rfl rfl ?_
    refine go_sald (pc' := 28) (q := 4) (v := .int (I 20 4)) hS rfl (tr_s hr (a := 87) rfl (by decide)) rfl rfl (by decide) rfl rfl ?_
    refine go_s (pc' := 29) (lo' := [some (.ref 62), some (.int 424), some (.int 0), some (.int (I 20 1)), some (.int (I 20 2)), some (.int (I 20 3)), some (.int (I 20 4)), none, none, none, none]) rfl rfl rfl rfl ?_
    refine go_s (pc' := 30) rfl rfl rfl rfl ?_
    refine go_sget (pc' := 31) (v := .ref 87) hS rfl rfl rfl (by decide) rfl rfl ?_
    refine go_s (pc' := 32) (st' := [.int 5, .ref 87]) rfl rfl rfl rfl ?_
    refine go_sald (pc' := 33) (q := 5) (v := .int (I 20 5)) hS rfl (tr_s hr (a := 87) rfl (by decide)) rfl rfl (by decide) rfl rfl ?_
    refine go_s (pc' := 34) (lo' := [some (.ref 62), some (.int 424), some (.int 0), some (.int (I 20 1)), some (.int (I 20 2)), some (.int (I 20 3)), some (.int (I 20 4)), some (.int (I 20 5)), none, none, none]) rfl rfl rfl rfl ?_
    refine go_s (pc' := 35) rfl rfl rfl rfl ?_
    refine go_sget (pc' := 36) (v := .ref 87) hS rfl rfl rfl (by decide) rfl rfl ?_
    refine go_s (pc' := 37) (st' := [.int 6, .ref 87]) rfl rfl rfl rfl ?_
    refine go_sald (pc' := 38) (q := 6) (v := .int (I 20 6)) hS rfl (tr_s hr (a := 87) rfl (by decide)) rfl rfl (by decide) rfl rfl ?_
    refine go_s (pc' := 39) (lo' := [some (.ref 62), some (.int 424), some (.int 0), some (.int (I 20 1)), some (.int (I 20 2)), some (.int (I 20 3)), some (.int (I 20 4)), some (.int (I 20 5)), some (.int (I 20 6)), none, none]) rfl rfl rfl rfl ?_
    refine go_s (pc' := 40) rfl rfl rfl rfl ?_
    refine go_s (pc' := 41) rfl rfl rfl rfl ?_
    refine go_sget (pc' := 42) (v := .int (nI n)) hS rfl rfl rfl (by decide) (congrArg Value.int en) rfl ?_
    refine go_s (pc' := 43) (st' := [.int 1, .int (nI n), .ref 62]) rfl rfl rfl rfl ?_
    refine go_nsub (pc' := 44) (a := n) (b := 1) rfl rfl rfl (by omega) rfl rfl ?_
    refine go_sput (pc' := 45) hS rfl rfl rfl (by decide) tbr_inj (Nat.le_of_ble_eq_true rfl) rfl (hW _ (by decide) (by decide)) rfl (fun h59 hS60 hE61 => ?_)
    refine go_s (pc' := 46) (st' := [.int 0]) rfl rfl rfl rfl ?_
    refine go_s (pc' := 47) (lo' := [some (.ref 62), some (.int 424), some (.int 0), some (.int (I 20 1)), some (.int (I 20 2)), some (.int (I 20 3)), some (.int (I 20 4)), some (.int (I 20 5)), some (.int (I 20 6)), some (.int 0), none]) rfl rfl rfl rfl ?_
    change sm (tbr am (13 * ln) 77 5088) _ (uI (jn I K) 21 0 (nI (n - 1))) Y at hS60
    rw [jn_lo (c := 21) (by decide)] at hS60
    rw [← sh_0] at hS60
    refine lp_sh hr hW hn1 hn8 (7 * (n - 1)) 0 _ (by omega) hS60 (fun h9 hS9 hE9 => ?_)
    have hE9b := sm_e_trans hE61 hE9
    rw [sh_e hst] at hS9
    have hU1 := RU_sh (R := R) hE9b hst hn1 hn8 hU
    obtain ⟨I1, eI⟩ : ∃ y, y = msh I := ⟨_, rfl⟩
    rw [← eI] at hS9 hU1
    have hp62 : prk I1 0 := (prk_p (congrFun (by rw [eI]; exact msh_o (by decide) (by decide)) 0)).mpr hp0
    have hp63 : prk I1 1 := (prk_p (congrFun (by rw [eI]; exact msh_o (by decide) (by decide)) 1)).mpr hpk
    have ep64 : I1 11 0 = 1 := (congrFun (by rw [eI]; exact msh_o (by decide) (by decide)) 0).trans e1
    have hoh1 : ¬ I1 12 0 = -1 → I1 12 0 = ohI I1 0 := by
      rw [eI, msh_o (by decide) (by decide), ohI_c (msh_o (by decide) (by decide))]
      exact hoh
    have h51 : ¬ I1 12 0 = -1 → sq Q + hc H hb ≤ 5 := by
      rw [eI, msh_o (by decide) (by decide)]
      exact h5
    have hnn : ¬ I1 11 0 = -1 := (fun z => absurd (ep64.symm.trans z) (by decide))
    refine go_s (pc' := 66) rfl rfl rfl rfl ?_
    refine go_sget (pc' := 67) (v := .ref 77) hS9 rfl rfl rfl (by decide) rfl rfl ?_
    refine go_s (pc' := 68) rfl rfl rfl rfl ?_
    refine go_s (pc' := 69) (st' := [.int 6, .int 424, .ref 77]) rfl rfl rfl rfl ?_
    refine go_s (pc' := 70) (st' := [.int 430, .ref 77]) rfl rfl rfl rfl ?_
    refine go_s (pc' := 71) rfl rfl rfl rfl ?_
    refine go_s (pc' := 72) (st' := [.int 430, .ref 77]) rfl rfl rfl rfl ?_
    refine go_sald (pc' := 73) (q := 430) (v := .int ((Z 1).1 6)) hS9 rfl (tr_as hr (by omega)) rfl rfl (by decide) (congrArg Value.int ((RR_row hU1.2.1 (i := 1) (by decide)).1.1 6 (by decide) (by decide) (by decide))) rfl ?_
    refine go_s (pc' := 74) (lo' := [some (.ref 62), some (.int 424), some (.int 0), some (.int (I 20 1)), some (.int (I 20 2)), some (.int (I 20 3)), some (.int (I 20 4)), some (.int (I 20 5)), some (.int (I 20 6)), some (.int ((Z 1).1 6)), none]) rfl rfl rfl rfl ?_
    refine go_s (pc' := 75) rfl rfl rfl rfl ?_
    refine go_s (pc' := 76) rfl rfl rfl rfl ?_
    refine go_icmpP (t' := 90) (pc' := 77) rfl rfl rfl (fun (c65 : (I 20 1) < ((Z 1).1 6)) => ?_) (fun (c65 : ¬ (I 20 1) < ((Z 1).1 6)) => ?_)
    · skip
      refine go_ret rfl rfl ?_
      have hq : mord (row1 (I, Q, Z) 0) (mbq (I, Q, Z)) (mbt (I, Q, Z)) = mord (Z 1).1 (I 20) 0 := by
        rw [show row1 (I, Q, Z) 0 = (Z 1).1 from row1_l (v := 1) e1 (by decide), hbt]
        rfl
      have hmo := mord_n (F := (Z 1).1) (q := I 20) (t := 0) (Or.inl c65)
      have hms : rbeg (I, Q, Z) = (I1, Q, Z) := by
        unfold rbeg
        rw [hq, if_neg hmo.1, if_pos hmo.2, eI]
      have hA66 : RA w B R H hb h9 (I1, Q, Z) := RA_u.mpr ⟨_, _, _, _, hS9, hU1⟩
      rw [hms]
      exact ⟨rfl, RA_R (by omega) hA66⟩
    · skip
      refine go_s (pc' := 78) rfl rfl rfl rfl ?_
      refine go_s (pc' := 79) rfl rfl rfl rfl ?_
      refine go_icmpP (t' := 91) (pc' := 80) rfl rfl rfl (fun (c67 : ¬ (I 20 1) = ((Z 1).1 6)) => ?_) (fun (c67' : ¬ ¬ (I 20 1) = ((Z 1).1 6)) => ?_)
      · skip
        refine go_s (pc' := 92) rfl rfl rfl rfl ?_
        refine go_s (pc' := 93) rfl rfl rfl rfl ?_
        refine go_icmpP (t' := 108) (pc' := 94) rfl rfl rfl (fun _ => ?_) (fun (c : ¬ (¬ (I 20 1) = ((Z 1).1 6))) => absurd c67 c)
        refine go_s (pc' := 109) rfl rfl rfl rfl ?_
        refine go_sget (pc' := 110) (v := .ref 77) hS9 rfl rfl rfl (by decide) rfl rfl ?_
        refine go_s (pc' := 111) rfl rfl rfl rfl ?_
        refine go_s (pc' := 112) (st' := [.int 5, .int 424, .ref 77]) rfl rfl rfl rfl ?_
        refine go_s (pc' := 113) (st' := [.int 429, .ref 77]) rfl rfl rfl rfl ?_
        refine go_s (pc' := 114) (st' := [.int 0, .int 429, .ref 77]) rfl rfl rfl rfl ?_
        refine go_siast (pc' := 115) (q := 429) hS9 rfl (tr_as hr (by omega)) tbr_inj (Nat.le_of_ble_eq_true rfl) rfl (by decide) (by decide) (hW _ (by decide) (by decide)) rfl (fun h68 hS69 hE70 => ?_)
        refine go_s (pc' := 116) rfl rfl rfl rfl ?_
        refine go_sget (pc' := 117) (v := .ref 88) hS69 rfl rfl rfl (by decide) rfl rfl ?_
        refine go_s (pc' := 118) (st' := [.int 0, .ref 88]) rfl rfl rfl rfl ?_
        refine go_s (pc' := 119) (st' := [.int 0, .int 0, .ref 88]) rfl rfl rfl rfl ?_
        refine go_siast (pc' := 120) (q := 0) hS69 rfl (tr_s hr (a := 88) rfl (by decide)) tbr_inj (Nat.le_of_ble_eq_true rfl) rfl (by decide) (by decide) (hW _ (by decide) (by decide)) rfl (fun h71 hS72 hE73 => ?_)
        have hE74 := sm_e_trans hE70 hE73
        refine go_s (pc' := 121) rfl rfl rfl rfl ?_
        refine go_sget (pc' := 122) (v := .ref 88) hS72 rfl rfl rfl (by decide) rfl rfl ?_
        refine go_s (pc' := 123) (st' := [.int 1, .ref 88]) rfl rfl rfl rfl ?_
        refine go_s (pc' := 124) (st' := [.int 0, .int 1, .ref 88]) rfl rfl rfl rfl ?_
        refine go_siast (pc' := 125) (q := 1) hS72 rfl (tr_s hr (a := 88) rfl (by decide)) tbr_inj (Nat.le_of_ble_eq_true rfl) rfl (by decide) (by decide) (hW _ (by decide) (by decide)) rfl (fun h75 hS76 hE77 => ?_)
        have hE78 := sm_e_trans hE74 hE77
        change sm (tbr am (13 * ln) 77 5088) _ (uI (uI (uI (jn I1 K) 51 429 0) 22 0 0) 22 1 0) Y at hS76
        rw [jn_hi (c := 51) (by decide), jn_lo (c := 22) (by decide), jn_lo (c := 22) (by decide)] at hS76
        have hU79 : RU w B R H hb h75 am ln (uI K 51 429 0) ((uI (uI I1 22 0 0) 22 1 0), Q, (uZ Z 1 ((Z 1).1, (Z 1).2.1, []))) := RU_row (K' := (uI K 51 429 0)) (s := ((Z 1).1, (Z 1).2.1, [])) (by decide) (fun c j _ hc => by
          simp only [uI]
          rw [if_neg (by omega)]) (⟨fun _ => ⟨RS_w0 (RR_row hU1.2.1 (i := 1) (by decide)).1, (RR_row hU1.2.1 (i := 1) (by decide)).2.1, Nat.zero_le _, LKs_c rfl (RR_row hU1.2.1 (i := 1) (by decide)).2.2.2⟩, fun h => absurd h (by decide)⟩) (RU_I (hE78) (I' := (uI (uI I1 22 0 0) 22 1 0)) (fun _ => rfl) (fun _ => rfl) (Nat.le_refl _) hU1)
        refine bg_c_0 hr hS76 hW (hW 77 (by decide) (by decide)) (rho := 1) (s := ((Z 1).1, (Z 1).2.1, [])) (show prk (jn (uI (uI I1 22 0 0) 22 1 0) (uI K 51 429 0)) 0 from (Or.inr (Or.inr ep64))) (show ¬ (jn (uI (uI I1 22 0 0) 22 1 0) (uI K 51 429 0)) 11 0 = -1 from hnn) (show rwi (jn (uI (uI I1 22 0 0) 22 1 0) (uI K 51 429 0)) 0 = 1 from rwi_l (v := 1) ep64 (by decide)) (by decide) (by decide) (show RS (jn (uI (uI I1 22 0 0) 22 1 0) (uI K 51 429 0)) 1 ((Z 1).1, (Z 1).2.1, []) from (RR_row hU79.2.1 (i := 1) (by decide)).1) rfl hO.1.1 hO.2.2.1 hO.1.2.1 hO.2.2.2.1 (LKs_c rfl (RR_row hU1.2.1 (i := 1) (by decide)).2.2.2) (q := I 20) (by omega) (fun v10 h8 K8 g1 g2 g3 g4 => ?_)
        have g1b : sm (tbr am (13 * ln) 77 5088) h8 (jn (uI (uI I1 22 0 0) 22 1 0) K8) Y := by
          have z := g1
          rw [jn_rfr g4] at z
          exact z
        have hOm := OK_mps (t := 0) (q := I 20) (by decide) hO
        have hOm1 := hOm.1.1
        have hOm2 := hOm.2.2.2.2.1
        have hU80 : RU w B R H hb h8 am ln K8 ((uI (uI I1 22 0 0) 22 1 0), Q, uZ (uZ Z 1 ((Z 1).1, (Z 1).2.1, [])) 1 (mps ((Z 1).1, (Z 1).2.1, []) 0 (I 20))) := RU_row (i := 1) (by decide) (fun c j h50 hc => (g4 c j hc).trans (jn_ge h50)) ⟨fun _ => ⟨g3, by show (mps (Z 1) 0 (I 20)).2.1.length ≤ 32; omega, by show (mps (Z 1) 0 (I 20)).2.2.length ≤ 41; omega, LKs_mps (by decide) hO.1 (RR_row hU1.2.1 (i := 1) (by decide)).2.2.2⟩, fun h => absurd h (by decide)⟩ (RU_I g2 (I' := (uI (uI I1 22 0 0) 22 1 0)) (fun _ => rfl) (fun _ => rfl) (Nat.le_refl _) hU79)
        refine go_s (pc' := 225) rfl rfl rfl rfl ?_
        refine go_s (pc' := 226) (st' := [.int 0, .ref 62]) rfl rfl rfl rfl ?_
        have hU81 : RU w B R H hb h8 am ln K8 ((uI (uI I1 22 0 0) 22 1 0), Q, (uZ (uZ Z 1 ((Z 1).1, (Z 1).2.1, [])) 1 (mps ((Z 1).1, (Z 1).2.1, []) 0 (I 20)))) := RU_I (sm_e_refl (tbr am (13 * ln) 77 5088) _) (I' := (uI (uI I1 22 0 0) 22 1 0)) (fun _ => rfl) (fun _ => rfl) (Nat.le_refl _) hU80
        have hA82 : RA w B R H hb h8 ((uI (uI I1 22 0 0) 22 1 0), Q, (uZ (uZ Z 1 ((Z 1).1, (Z 1).2.1, [])) 1 (mps ((Z 1).1, (Z 1).2.1, []) 0 (I 20)))) := RA_u.mpr ⟨_, _, _, _, g1b, hU81⟩
        refine go_callV (pc' := 227) rfl rfl rfl (Nat.le_of_ble_eq_true rfl) rfl (sm_o g1b rfl) rfl rfl rfl (ra_tl_0 hA82 (by omega) (Or.inr (Or.inr ep64)) (fun z => absurd (ep64.symm.trans z) (by decide)) hoh1 h51 (by omega)) (fun r h83 q84 => ?_)
        obtain ⟨rfl, hA85⟩ := q84
        refine go_ret rfl rfl ?_
        have hq : mord (row1 (I, Q, Z) 0) (mbq (I, Q, Z)) (mbt (I, Q, Z)) = mord (Z 1).1 (I 20) 0 := by
          rw [show row1 (I, Q, Z) 0 = (Z 1).1 from row1_l (v := 1) e1 (by decide), hbt]
          rfl
        have hmo := mord_p (F := (Z 1).1) (q := I 20) (t := 0) c65 (fun z => absurd z c67)
        have hbp : mbp (I, Q, Z) = ((uI (uI I1 22 0 0) 22 1 0), Q, (uZ (uZ Z 1 ((Z 1).1, (Z 1).2.1, [])) 1 (mps ((Z 1).1, (Z 1).2.1, []) 0 (I 20)))) := by
          unfold mbp
          rw [show rwi (I, Q, Z).1 0 = 1 from rwi_l (v := 1) e1 (by decide), hbt, uZ_r, eI]
          rfl
        have hms : rbeg (I, Q, Z) = rtl 0 ((uI (uI I1 22 0 0) 22 1 0), Q, (uZ (uZ Z 1 ((Z 1).1, (Z 1).2.1, [])) 1 (mps ((Z 1).1, (Z 1).2.1, []) 0 (I 20)))) := by
          unfold rbeg
          rw [hq, if_neg hmo.1, if_neg hmo.2, hbp]
        rw [hms]
        exact ⟨rfl, hA85⟩
      · skip
        have c67 : (I 20 1) = ((Z 1).1 6) := Decidable.not_not.mp c67'
        refine go_s (pc' := 81) rfl rfl rfl rfl ?_
        refine go_s (pc' := 82) rfl rfl rfl rfl ?_
        refine go_sget (pc' := 83) (v := .ref 77) hS9 rfl rfl rfl (by decide) rfl rfl ?_
        refine go_s (pc' := 84) rfl rfl rfl rfl ?_
        refine go_s (pc' := 85) (st' := [.int 8, .int 424, .ref 77, .int (I 20 2)]) rfl rfl rfl rfl ?_
        refine go_s (pc' := 86) (st' := [.int 432, .ref 77, .int (I 20 2)]) rfl rfl rfl rfl ?_
        refine go_s (pc' := 87) rfl rfl rfl rfl ?_
        refine go_s (pc' := 88) (st' := [.int 432, .ref 77, .int (I 20 2)]) rfl rfl rfl rfl ?_
        refine go_sald (pc' := 89) (q := 432) (v := .int ((Z 1).1 8)) hS9 rfl (tr_as hr (by omega)) rfl rfl (by decide) (congrArg Value.int ((RR_row hU1.2.1 (i := 1) (by decide)).1.1 8 (by decide) (by decide) (by decide))) rfl ?_
        refine go_icmpP (t' := 91) (pc' := 90) rfl rfl rfl (fun (c86 : ((Z 1).1 8) ≤ (I 20 2)) => ?_) (fun (c86 : ¬ ((Z 1).1 8) ≤ (I 20 2)) => ?_)
        · skip
          refine go_s (pc' := 92) rfl rfl rfl rfl ?_
          refine go_s (pc' := 93) rfl rfl rfl rfl ?_
          refine go_icmpP (t' := 108) (pc' := 94) rfl rfl rfl (fun (c : ¬ (I 20 1) = ((Z 1).1 6)) => absurd c (fun z => z c67)) (fun _ => ?_)
          refine go_s (pc' := 95) rfl rfl rfl rfl ?_
          refine go_s (pc' := 96) rfl rfl rfl rfl ?_
          refine go_sget (pc' := 97) (v := .ref 77) hS9 rfl rfl rfl (by decide) rfl rfl ?_
          refine go_s (pc' := 98) rfl rfl rfl rfl ?_
          refine go_s (pc' := 99) (st' := [.int 8, .int 424, .ref 77, .int (I 20 2)]) rfl rfl rfl rfl ?_
          refine go_s (pc' := 100) (st' := [.int 432, .ref 77, .int (I 20 2)]) rfl rfl rfl rfl ?_
          refine go_s (pc' := 101) rfl rfl rfl rfl ?_
          refine go_s (pc' := 102) (st' := [.int 432, .ref 77, .int (I 20 2)]) rfl rfl rfl rfl ?_
          refine go_sald (pc' := 103) (q := 432) (v := .int ((Z 1).1 8)) hS9 rfl (tr_as hr (by omega)) rfl rfl (by decide) (congrArg Value.int ((RR_row hU1.2.1 (i := 1) (by decide)).1.1 8 (by decide) (by decide) (by decide))) rfl ?_
          refine go_icmpP (t' := 108) (pc' := 104) rfl rfl rfl (fun (c87 : ¬ (I 20 2) = ((Z 1).1 8)) => ?_) (fun (c87' : ¬ ¬ (I 20 2) = ((Z 1).1 8)) => ?_)
          · skip
            refine go_s (pc' := 109) rfl rfl rfl rfl ?_
            refine go_sget (pc' := 110) (v := .ref 77) hS9 rfl rfl rfl (by decide) rfl rfl ?_
            refine go_s (pc' := 111) rfl rfl rfl rfl ?_
            refine go_s (pc' := 112) (st' := [.int 5, .int 424, .ref 77]) rfl rfl rfl rfl ?_
            refine go_s (pc' := 113) (st' := [.int 429, .ref 77]) rfl rfl rfl rfl ?_
            refine go_s (pc' := 114) (st' := [.int 0, .int 429, .ref 77]) rfl rfl rfl rfl ?_
            refine go_siast (pc' := 115) (q := 429) hS9 rfl (tr_as hr (by omega)) tbr_inj (Nat.le_of_ble_eq_true rfl) rfl (by decide) (by decide) (hW _ (by decide) (by decide)) rfl (fun h88 hS89 hE90 => ?_)
            refine go_s (pc' := 116) rfl rfl rfl rfl ?_
            refine go_sget (pc' := 117) (v := .ref 88) hS89 rfl rfl rfl (by decide) rfl rfl ?_
            refine go_s (pc' := 118) (st' := [.int 0, .ref 88]) rfl rfl rfl rfl ?_
            refine go_s (pc' := 119) (st' := [.int 0, .int 0, .ref 88]) rfl rfl rfl rfl ?_
            refine go_siast (pc' := 120) (q := 0) hS89 rfl (tr_s hr (a := 88) rfl (by decide)) tbr_inj (Nat.le_of_ble_eq_true rfl) rfl (by decide) (by decide) (hW _ (by decide) (by decide)) rfl (fun h91 hS92 hE93 => ?_)
            have hE94 := sm_e_trans hE90 hE93
            refine go_s (pc' := 121) rfl rfl rfl rfl ?_
            refine go_sget (pc' := 122) (v := .ref 88) hS92 rfl rfl rfl (by decide) rfl rfl ?_
            refine go_s (pc' := 123) (st' := [.int 1, .ref 88]) rfl rfl rfl rfl ?_
            refine go_s (pc' := 124) (st' := [.int 0, .int 1, .ref 88]) rfl rfl rfl rfl ?_
            refine go_siast (pc' := 125) (q := 1) hS92 rfl (tr_s hr (a := 88) rfl (by decide)) tbr_inj (Nat.le_of_ble_eq_true rfl) rfl (by decide) (by decide) (hW _ (by decide) (by decide)) rfl (fun h95 hS96 hE97 => ?_)
            have hE98 := sm_e_trans hE94 hE97
            change sm (tbr am (13 * ln) 77 5088) _ (uI (uI (uI (jn I1 K) 51 429 0) 22 0 0) 22 1 0) Y at hS96
            rw [jn_hi (c := 51) (by decide), jn_lo (c := 22) (by decide), jn_lo (c := 22) (by decide)] at hS96
            have hU99 : RU w B R H hb h95 am ln (uI K 51 429 0) ((uI (uI I1 22 0 0) 22 1 0), Q, (uZ Z 1 ((Z 1).1, (Z 1).2.1, []))) := RU_row (K' := (uI K 51 429 0)) (s := ((Z 1).1, (Z 1).2.1, [])) (by decide) (fun c j _ hc => by
              simp only [uI]
              rw [if_neg (by omega)]) (⟨fun _ => ⟨RS_w0 (RR_row hU1.2.1 (i := 1) (by decide)).1, (RR_row hU1.2.1 (i := 1) (by decide)).2.1, Nat.zero_le _, LKs_c rfl (RR_row hU1.2.1 (i := 1) (by decide)).2.2.2⟩, fun h => absurd h (by decide)⟩) (RU_I (hE98) (I' := (uI (uI I1 22 0 0) 22 1 0)) (fun _ => rfl) (fun _ => rfl) (Nat.le_refl _) hU1)
            refine bg_c_0 hr hS96 hW (hW 77 (by decide) (by decide)) (rho := 1) (s := ((Z 1).1, (Z 1).2.1, [])) (show prk (jn (uI (uI I1 22 0 0) 22 1 0) (uI K 51 429 0)) 0 from (Or.inr (Or.inr ep64))) (show ¬ (jn (uI (uI I1 22 0 0) 22 1 0) (uI K 51 429 0)) 11 0 = -1 from hnn) (show rwi (jn (uI (uI I1 22 0 0) 22 1 0) (uI K 51 429 0)) 0 = 1 from rwi_l (v := 1) ep64 (by decide)) (by decide) (by decide) (show RS (jn (uI (uI I1 22 0 0) 22 1 0) (uI K 51 429 0)) 1 ((Z 1).1, (Z 1).2.1, []) from (RR_row hU99.2.1 (i := 1) (by decide)).1) rfl hO.1.1 hO.2.2.1 hO.1.2.1 hO.2.2.2.1 (LKs_c rfl (RR_row hU1.2.1 (i := 1) (by decide)).2.2.2) (q := I 20) (by omega) (fun v10 h8 K8 g1 g2 g3 g4 => ?_)
            have g1b : sm (tbr am (13 * ln) 77 5088) h8 (jn (uI (uI I1 22 0 0) 22 1 0) K8) Y := by
              have z := g1
              rw [jn_rfr g4] at z
              exact z
            have hOm := OK_mps (t := 0) (q := I 20) (by decide) hO
            have hOm1 := hOm.1.1
            have hOm2 := hOm.2.2.2.2.1
            have hU100 : RU w B R H hb h8 am ln K8 ((uI (uI I1 22 0 0) 22 1 0), Q, uZ (uZ Z 1 ((Z 1).1, (Z 1).2.1, [])) 1 (mps ((Z 1).1, (Z 1).2.1, []) 0 (I 20))) := RU_row (i := 1) (by decide) (fun c j h50 hc => (g4 c j hc).trans (jn_ge h50)) ⟨fun _ => ⟨g3, by show (mps (Z 1) 0 (I 20)).2.1.length ≤ 32; omega, by show (mps (Z 1) 0 (I 20)).2.2.length ≤ 41; omega, LKs_mps (by decide) hO.1 (RR_row hU1.2.1 (i := 1) (by decide)).2.2.2⟩, fun h => absurd h (by decide)⟩ (RU_I g2 (I' := (uI (uI I1 22 0 0) 22 1 0)) (fun _ => rfl) (fun _ => rfl) (Nat.le_refl _) hU99)
            refine go_s (pc' := 225) rfl rfl rfl rfl ?_
            refine go_s (pc' := 226) (st' := [.int 0, .ref 62]) rfl rfl rfl rfl ?_
            have hU101 : RU w B R H hb h8 am ln K8 ((uI (uI I1 22 0 0) 22 1 0), Q, (uZ (uZ Z 1 ((Z 1).1, (Z 1).2.1, [])) 1 (mps ((Z 1).1, (Z 1).2.1, []) 0 (I 20)))) := RU_I (sm_e_refl (tbr am (13 * ln) 77 5088) _) (I' := (uI (uI I1 22 0 0) 22 1 0)) (fun _ => rfl) (fun _ => rfl) (Nat.le_refl _) hU100
            have hA102 : RA w B R H hb h8 ((uI (uI I1 22 0 0) 22 1 0), Q, (uZ (uZ Z 1 ((Z 1).1, (Z 1).2.1, [])) 1 (mps ((Z 1).1, (Z 1).2.1, []) 0 (I 20)))) := RA_u.mpr ⟨_, _, _, _, g1b, hU101⟩
            refine go_callV (pc' := 227) rfl rfl rfl (Nat.le_of_ble_eq_true rfl) rfl (sm_o g1b rfl) rfl rfl rfl (ra_tl_0 hA102 (by omega) (Or.inr (Or.inr ep64)) (fun z => absurd (ep64.symm.trans z) (by decide)) hoh1 h51 (by omega)) (fun r h103 q104 => ?_)
            obtain ⟨rfl, hA105⟩ := q104
            refine go_ret rfl rfl ?_
            have hq : mord (row1 (I, Q, Z) 0) (mbq (I, Q, Z)) (mbt (I, Q, Z)) = mord (Z 1).1 (I 20) 0 := by
              rw [show row1 (I, Q, Z) 0 = (Z 1).1 from row1_l (v := 1) e1 (by decide), hbt]
              rfl
            have hmo := mord_p (F := (Z 1).1) (q := I 20) (t := 0) c65 (fun _ => ⟨Int32.not_lt.mpr c86, c87⟩)
            have hbp : mbp (I, Q, Z) = ((uI (uI I1 22 0 0) 22 1 0), Q, (uZ (uZ Z 1 ((Z 1).1, (Z 1).2.1, [])) 1 (mps ((Z 1).1, (Z 1).2.1, []) 0 (I 20)))) := by
              unfold mbp
              rw [show rwi (I, Q, Z).1 0 = 1 from rwi_l (v := 1) e1 (by decide), hbt, uZ_r, eI]
              rfl
            have hms : rbeg (I, Q, Z) = rtl 0 ((uI (uI I1 22 0 0) 22 1 0), Q, (uZ (uZ Z 1 ((Z 1).1, (Z 1).2.1, [])) 1 (mps ((Z 1).1, (Z 1).2.1, []) 0 (I 20)))) := by
              unfold rbeg
              rw [hq, if_neg hmo.1, if_neg hmo.2, hbp]
            rw [hms]
            exact ⟨rfl, hA105⟩
          · skip
            have c87 : (I 20 2) = ((Z 1).1 8) := Decidable.not_not.mp c87'
            refine go_s (pc' := 105) rfl rfl rfl rfl ?_
            refine go_s (pc' := 106) rfl rfl rfl rfl ?_
            have hU106 : RU w B R H hb h9 am ln K (I1, Q, Z) := RU_I (sm_e_refl (tbr am (13 * ln) 77 5088) _) (I' := I1) (fun _ => rfl) (fun _ => rfl) (Nat.le_refl _) hU1
            have hA107 : RA w B R H hb h9 (I1, Q, Z) := RA_u.mpr ⟨_, _, _, _, hS9, hU106⟩
            refine go_callV (pc' := 107) rfl rfl rfl (Nat.le_of_ble_eq_true rfl) rfl (sm_o hS9 rfl) rfl rfl rfl (ra_rp_0 hA107 (by omega) (Or.inr (Or.inr ep64)) hnn hp63 (by omega)) (fun r h108 q109 => ?_)
            obtain ⟨rfl, hA110⟩ := q109
            refine go_ret rfl rfl ?_
            have hq : mord (row1 (I, Q, Z) 0) (mbq (I, Q, Z)) (mbt (I, Q, Z)) = mord (Z 1).1 (I 20) 0 := by
              rw [show row1 (I, Q, Z) 0 = (Z 1).1 from row1_l (v := 1) e1 (by decide), hbt]
              rfl
            have hmo := mord_0 (F := (Z 1).1) (q := I 20) (t := 0) c67 c87
            have hms : rbeg (I, Q, Z) = rrp 0 (I1, Q, Z) := by
              unfold rbeg
              rw [hq, if_pos hmo, hbt, eI]
            rw [hms]
            exact ⟨rfl, hA110⟩
        · skip
          refine go_ret rfl rfl ?_
          have hq : mord (row1 (I, Q, Z) 0) (mbq (I, Q, Z)) (mbt (I, Q, Z)) = mord (Z 1).1 (I 20) 0 := by
            rw [show row1 (I, Q, Z) 0 = (Z 1).1 from row1_l (v := 1) e1 (by decide), hbt]
            rfl
          have hmo := mord_n (F := (Z 1).1) (q := I 20) (t := 0) (Or.inr ⟨c67, Int32.not_le.mp c86⟩)
          have hms : rbeg (I, Q, Z) = (I1, Q, Z) := by
            unfold rbeg
            rw [hq, if_neg hmo.1, if_pos hmo.2, eI]
          have hA111 : RA w B R H hb h9 (I1, Q, Z) := RA_u.mpr ⟨_, _, _, _, hS9, hU1⟩
          rw [hms]
          exact ⟨rfl, RA_R (by omega) hA111⟩
theorem ra_bg_1 {w : Nat → Bool} {d B R : Nat} {H : List (Nat × mg)} {hb : Bool} {h : am_Hp} {I : sm_I} {Q : mQ} {Z : mZ} (hA : RA w B (R + 2) H hb h (I, Q, Z)) (hR : R + 3 < 40000) {n : Nat} (hn1 : 1 ≤ n) (hn8 : n ≤ 8) (en : I 21 0 = nI n) (e20 : I 20 0 = 1) (hp0 : prk I 0) (hn0 : ¬ I 11 0 = -1) (hpk : prk I 2) (hoh : ¬ I 12 0 = -1 → I 12 0 = ohI I 0) (h5 : ¬ I 12 0 = -1 → sq Q + hc H hb ≤ 5) (hOK : OK (Z (rwi I 0))) (hd : 8 ≤ d) : am_Ev (am_prog w) d 145 [.ref 62] h (fun r h' => r = none ∧ RA w B (R + 1) H hb h' (rbeg (I, Q, Z))) := by
  obtain ⟨K, Y, am, ln, hS, hU⟩ := RA_u.mp hA
  change sm (tbr am (13 * ln) 77 5088) h (jn I K) Y at hS
  obtain ⟨hW, hWm, -, -, hr, -⟩ := id hU.1
  have hln := RU_ln hU (by omega)
  obtain ⟨d, rfl⟩ : ∃ e, d = e + 1 := ⟨d - 1, by omega⟩
  refine ev_go rfl (Nat.le_of_ble_eq_true rfl) rfl ?_
  have hst : stn I = n := by
    unfold stn
    rw [en]
    exact nI_clamp (by omega)
  have hbt : mbt (I, Q, Z) = 1 := by
    show (I 20 0).toNatClampNeg = 1
    rw [e20]
    rfl
  rcases (id hp0) with e1 | e1 | e1
  · skip
    exact absurd e1 hn0
  · skip
    have hO : OK (Z 0) := by
      have z := hOK
      rw [show rwi I 0 = 0 from rwi_l (v := 0) e1 (by decide)] at z
      exact z
    refine go_s (pc' := 1) rfl rfl rfl rfl ?_
    refine go_s (pc' := 2) (st' := [.int 0, .ref 62]) rfl rfl rfl rfl ?_
    refine go_callV (pc' := 3) rfl rfl rfl (Nat.le_of_ble_eq_true rfl) rfl (sm_o hS rfl) rfl rfl rfl (rt_at_0 hr hS (Or.inr (Or.inl e1)) (fun z => absurd (e1.symm.trans z) (by decide)) (by omega)) (fun r h2 q3 => ?_)
    obtain ⟨rfl, rfl⟩ := q3
    rw [show rwi (jn I K) 0 = 0 by unfold rwi pn; rw [show (jn I K) 11 0 = 0 from e1]; rfl]
    show am_Go _ _ _ _ 3 _ [.int 0] _ _
    refine go_s (pc' := 4) (lo' := [some (.ref 62), some (.int 0), none, none, none, none, none, none, none, none, none]) rfl rfl rfl rfl ?_
    refine go_s (pc' := 5) rfl rfl rfl rfl ?_
    refine go_sget (pc' := 6) (v := .ref 87) hS rfl rfl rfl (by decide) rfl rfl ?_
    refine go_s (pc' := 7) (st' := [.int 0, .ref 87]) rfl rfl rfl rfl ?_
    refine go_sald (pc' := 8) (q := 0) (v := .int 1) hS rfl (tr_s hr (a := 87) rfl (by decide)) rfl rfl (by decide) (congrArg Value.int e20) rfl ?_
    refine go_s (pc' := 9) (lo' := [some (.ref 62), some (.int 0), some (.int 1), none, none, none, none, none, none, none, none]) rfl rfl rfl rfl ?_
    refine go_s (pc' := 10) rfl rfl rfl rfl ?_
    refine go_sget (pc' := 11) (v := .ref 87) hS rfl rfl rfl (by decide) rfl rfl ?_
    refine go_s (pc' := 12) (st' := [.int 1, .ref 87]) rfl rfl rfl rfl ?_
    refine go_sald (pc' := 13) (q := 1) (v := .int (I 20 1)) hS rfl (tr_s hr (a := 87) rfl (by decide)) rfl rfl (by decide) rfl rfl ?_
    refine go_s (pc' := 14) (lo' := [some (.ref 62), some (.int 0), some (.int 1), some (.int (I 20 1)), none, none, none, none, none, none, none]) rfl rfl rfl rfl ?_
    refine go_s (pc' := 15) rfl rfl rfl rfl ?_
    refine go_sget (pc' := 16) (v := .ref 87) hS rfl rfl rfl (by decide) rfl rfl ?_
    refine go_s (pc' := 17) (st' := [.int 2, .ref 87]) rfl rfl rfl rfl ?_
    refine go_sald (pc' := 18) (q := 2) (v := .int (I 20 2)) hS rfl (tr_s hr (a := 87) rfl (by decide)) rfl rfl (by decide) rfl rfl ?_
    refine go_s (pc' := 19) (lo' := [some (.ref 62), some (.int 0), some (.int 1), some (.int (I 20 1)), some (.int (I 20 2)), none, none, none, none, none, none]) rfl rfl rfl rfl ?_
    refine go_s (pc' := 20) rfl rfl rfl rfl ?_
    refine go_sget (pc' := 21) (v := .ref 87) hS rfl rfl rfl (by decide) rfl rfl ?_
    refine go_s (pc' := 22) (st' := [.int 3, .ref 87]) rfl rfl rfl rfl ?_
    refine go_sald (pc' := 23) (q := 3) (v := .int (I 20 3)) hS rfl (tr_s hr (a := 87) rfl (by decide)) rfl rfl (by decide) rfl rfl ?_
    refine go_s (pc' := 24) (lo' := [some (.ref 62), some (.int 0), some (.int 1), some (.int (I 20 1)), some (.int (I 20 2)), some (.int (I 20 3)), none, none, none, none, none]) rfl rfl rfl rfl ?_
    refine go_s (pc' := 25) rfl rfl rfl rfl ?_
    refine go_sget (pc' := 26) (v := .ref 87) hS rfl rfl rfl (by decide) rfl rfl ?_
    refine go_s (pc' := 27) (st' := [.int 4, .ref 87]) rfl rfl rfl rfl ?_
    refine go_sald (pc' := 28) (q := 4) (v := .int (I 20 4)) hS rfl (tr_s hr (a := 87) rfl (by decide)) rfl rfl (by decide) rfl rfl ?_
    refine go_s (pc' := 29) (lo' := [some (.ref 62), some (.int 0), some (.int 1), some (.int (I 20 1)), some (.int (I 20 2)), some (.int (I 20 3)), some (.int (I 20 4)), none, none, none, none]) rfl rfl rfl rfl ?_
    refine go_s (pc' := 30) rfl rfl rfl rfl ?_
    refine go_sget (pc' := 31) (v := .ref 87) hS rfl rfl rfl (by decide) rfl rfl ?_
    refine go_s (pc' := 32) (st' := [.int 5, .ref 87]) rfl rfl rfl rfl ?_
    refine go_sald (pc' := 33) (q := 5) (v := .int (I 20 5)) hS rfl (tr_s hr (a := 87) rfl (by decide)) rfl rfl (by decide) rfl rfl ?_
    refine go_s (pc' := 34) (lo' := [some (.ref 62), some (.int 0), some (.int 1), some (.int (I 20 1)), some (.int (I 20 2)), some (.int (I 20 3)), some (.int (I 20 4)), some (.int (I 20 5)), none, none, none]) rfl rfl rfl rfl ?_
    refine go_s (pc' := 35) rfl rfl rfl rfl ?_
    refine go_sget (pc' := 36) (v := .ref 87) hS rfl rfl rfl (by decide) rfl rfl ?_
    refine go_s (pc' := 37) (st' := [.int 6, .ref 87]) rfl rfl rfl rfl ?_
    refine go_sald (pc' := 38) (q := 6) (v := .int (I 20 6)) hS rfl (tr_s hr (a := 87) rfl (by decide)) rfl rfl (by decide) rfl rfl ?_
    refine go_s (pc' := 39) (lo' := [some (.ref 62), some (.int 0), some (.int 1), some (.int (I 20 1)), some (.int (I 20 2)), some (.int (I 20 3)), some (.int (I 20 4)), some (.int (I 20 5)), some (.int (I 20 6)), none, none]) rfl rfl rfl rfl ?_
    refine go_s (pc' := 40) rfl rfl rfl rfl ?_
    refine go_s (pc' := 41) rfl rfl rfl rfl ?_
    refine go_sget (pc' := 42) (v := .int (nI n)) hS rfl rfl rfl (by decide) (congrArg Value.int en) rfl ?_
    refine go_s (pc' := 43) (st' := [.int 1, .int (nI n), .ref 62]) rfl rfl rfl rfl ?_
    refine go_nsub (pc' := 44) (a := n) (b := 1) rfl rfl rfl (by omega) rfl rfl ?_
    refine go_sput (pc' := 45) hS rfl rfl rfl (by decide) tbr_inj (Nat.le_of_ble_eq_true rfl) rfl (hW _ (by decide) (by decide)) rfl (fun h4 hS5 hE6 => ?_)
    refine go_s (pc' := 46) (st' := [.int 0]) rfl rfl rfl rfl ?_
    refine go_s (pc' := 47) (lo' := [some (.ref 62), some (.int 0), some (.int 1), some (.int (I 20 1)), some (.int (I 20 2)), some (.int (I 20 3)), some (.int (I 20 4)), some (.int (I 20 5)), some (.int (I 20 6)), some (.int 0), none]) rfl rfl rfl rfl ?_
    change sm (tbr am (13 * ln) 77 5088) _ (uI (jn I K) 21 0 (nI (n - 1))) Y at hS5
    rw [jn_lo (c := 21) (by decide)] at hS5
    rw [← sh_0] at hS5
    refine lp_sh hr hW hn1 hn8 (7 * (n - 1)) 0 _ (by omega) hS5 (fun h9 hS9 hE9 => ?_)
    have hE9b := sm_e_trans hE6 hE9
    rw [sh_e hst] at hS9
    have hU1 := RU_sh (R := R) hE9b hst hn1 hn8 hU
    obtain ⟨I1, eI⟩ : ∃ y, y = msh I := ⟨_, rfl⟩
    rw [← eI] at hS9 hU1
    have hp7 : prk I1 0 := (prk_p (congrFun (by rw [eI]; exact msh_o (by decide) (by decide)) 0)).mpr hp0
    have hp8 : prk I1 2 := (prk_p (congrFun (by rw [eI]; exact msh_o (by decide) (by decide)) 2)).mpr hpk
    have ep9 : I1 11 0 = 0 := (congrFun (by rw [eI]; exact msh_o (by decide) (by decide)) 0).trans e1
    have hoh1 : ¬ I1 12 0 = -1 → I1 12 0 = ohI I1 0 := by
      rw [eI, msh_o (by decide) (by decide), ohI_c (msh_o (by decide) (by decide))]
      exact hoh
    have h51 : ¬ I1 12 0 = -1 → sq Q + hc H hb ≤ 5 := by
      rw [eI, msh_o (by decide) (by decide)]
      exact h5
    have hnn : ¬ I1 11 0 = -1 := (fun z => absurd (ep9.symm.trans z) (by decide))
    refine go_s (pc' := 66) rfl rfl rfl rfl ?_
    refine go_sget (pc' := 67) (v := .ref 77) hS9 rfl rfl rfl (by decide) rfl rfl ?_
    refine go_s (pc' := 68) rfl rfl rfl rfl ?_
    refine go_s (pc' := 69) (st' := [.int 6, .int 0, .ref 77]) rfl rfl rfl rfl ?_
    refine go_s (pc' := 70) (st' := [.int 6, .ref 77]) rfl rfl rfl rfl ?_
    refine go_s (pc' := 71) rfl rfl rfl rfl ?_
    refine go_s (pc' := 72) (st' := [.int 7, .ref 77]) rfl rfl rfl rfl ?_
    refine go_sald (pc' := 73) (q := 7) (v := .int ((Z 0).1 7)) hS9 rfl (tr_as hr (by omega)) rfl rfl (by decide) (congrArg Value.int ((RR_row hU1.2.1 (i := 0) (by decide)).1.1 7 (by decide) (by decide) (by decide))) rfl ?_
    refine go_s (pc' := 74) (lo' := [some (.ref 62), some (.int 0), some (.int 1), some (.int (I 20 1)), some (.int (I 20 2)), some (.int (I 20 3)), some (.int (I 20 4)), some (.int (I 20 5)), some (.int (I 20 6)), some (.int ((Z 0).1 7)), none]) rfl rfl rfl rfl ?_
    refine go_s (pc' := 75) rfl rfl rfl rfl ?_
    refine go_s (pc' := 76) rfl rfl rfl rfl ?_
    refine go_icmpP (t' := 90) (pc' := 77) rfl rfl rfl (fun (c10 : (I 20 1) < ((Z 0).1 7)) => ?_) (fun (c10 : ¬ (I 20 1) < ((Z 0).1 7)) => ?_)
    · skip
      refine go_ret rfl rfl ?_
      have hq : mord (row1 (I, Q, Z) 0) (mbq (I, Q, Z)) (mbt (I, Q, Z)) = mord (Z 0).1 (I 20) 1 := by
        rw [show row1 (I, Q, Z) 0 = (Z 0).1 from row1_l (v := 0) e1 (by decide), hbt]
        rfl
      have hmo := mord_n (F := (Z 0).1) (q := I 20) (t := 1) (Or.inl c10)
      have hms : rbeg (I, Q, Z) = (I1, Q, Z) := by
        unfold rbeg
        rw [hq, if_neg hmo.1, if_pos hmo.2, eI]
      have hA11 : RA w B R H hb h9 (I1, Q, Z) := RA_u.mpr ⟨_, _, _, _, hS9, hU1⟩
      rw [hms]
      exact ⟨rfl, RA_R (by omega) hA11⟩
    · skip
      refine go_s (pc' := 78) rfl rfl rfl rfl ?_
      refine go_s (pc' := 79) rfl rfl rfl rfl ?_
      refine go_icmpP (t' := 91) (pc' := 80) rfl rfl rfl (fun (c12 : ¬ (I 20 1) = ((Z 0).1 7)) => ?_) (fun (c12' : ¬ ¬ (I 20 1) = ((Z 0).1 7)) => ?_)
      · skip
        refine go_s (pc' := 92) rfl rfl rfl rfl ?_
        refine go_s (pc' := 93) rfl rfl rfl rfl ?_
        refine go_icmpP (t' := 108) (pc' := 94) rfl rfl rfl (fun _ => ?_) (fun (c : ¬ (¬ (I 20 1) = ((Z 0).1 7))) => absurd c12 c)
        refine go_s (pc' := 109) rfl rfl rfl rfl ?_
        refine go_sget (pc' := 110) (v := .ref 77) hS9 rfl rfl rfl (by decide) rfl rfl ?_
        refine go_s (pc' := 111) rfl rfl rfl rfl ?_
        refine go_s (pc' := 112) (st' := [.int 5, .int 0, .ref 77]) rfl rfl rfl rfl ?_
        refine go_s (pc' := 113) (st' := [.int 5, .ref 77]) rfl rfl rfl rfl ?_
        refine go_s (pc' := 114) (st' := [.int 0, .int 5, .ref 77]) rfl rfl rfl rfl ?_
        refine go_siast (pc' := 115) (q := 5) hS9 rfl (tr_as hr (by omega)) tbr_inj (Nat.le_of_ble_eq_true rfl) rfl (by decide) (by decide) (hW _ (by decide) (by decide)) rfl (fun h13 hS14 hE15 => ?_)
        refine go_s (pc' := 116) rfl rfl rfl rfl ?_
        refine go_sget (pc' := 117) (v := .ref 88) hS14 rfl rfl rfl (by decide) rfl rfl ?_
        refine go_s (pc' := 118) (st' := [.int 0, .ref 88]) rfl rfl rfl rfl ?_
        refine go_s (pc' := 119) (st' := [.int 0, .int 0, .ref 88]) rfl rfl rfl rfl ?_
        refine go_siast (pc' := 120) (q := 0) hS14 rfl (tr_s hr (a := 88) rfl (by decide)) tbr_inj (Nat.le_of_ble_eq_true rfl) rfl (by decide) (by decide) (hW _ (by decide) (by decide)) rfl (fun h16 hS17 hE18 => ?_)
        have hE19 := sm_e_trans hE15 hE18
        refine go_s (pc' := 121) rfl rfl rfl rfl ?_
        refine go_sget (pc' := 122) (v := .ref 88) hS17 rfl rfl rfl (by decide) rfl rfl ?_
        refine go_s (pc' := 123) (st' := [.int 1, .ref 88]) rfl rfl rfl rfl ?_
        refine go_s (pc' := 124) (st' := [.int 0, .int 1, .ref 88]) rfl rfl rfl rfl ?_
        refine go_siast (pc' := 125) (q := 1) hS17 rfl (tr_s hr (a := 88) rfl (by decide)) tbr_inj (Nat.le_of_ble_eq_true rfl) rfl (by decide) (by decide) (hW _ (by decide) (by decide)) rfl (fun h20 hS21 hE22 => ?_)
        have hE23 := sm_e_trans hE19 hE22
        change sm (tbr am (13 * ln) 77 5088) _ (uI (uI (uI (jn I1 K) 51 5 0) 22 0 0) 22 1 0) Y at hS21
        rw [jn_hi (c := 51) (by decide), jn_lo (c := 22) (by decide), jn_lo (c := 22) (by decide)] at hS21
        have hU24 : RU w B R H hb h20 am ln (uI K 51 5 0) ((uI (uI I1 22 0 0) 22 1 0), Q, (uZ Z 0 ((Z 0).1, (Z 0).2.1, []))) := RU_row (K' := (uI K 51 5 0)) (s := ((Z 0).1, (Z 0).2.1, [])) (by decide) (fun c j _ hc => by
          simp only [uI]
          rw [if_neg (by omega)]) (⟨fun _ => ⟨RS_w0 (RR_row hU1.2.1 (i := 0) (by decide)).1, (RR_row hU1.2.1 (i := 0) (by decide)).2.1, Nat.zero_le _, LKs_c rfl (RR_row hU1.2.1 (i := 0) (by decide)).2.2.2⟩, fun h => absurd h (by decide)⟩) (RU_I (hE23) (I' := (uI (uI I1 22 0 0) 22 1 0)) (fun _ => rfl) (fun _ => rfl) (Nat.le_refl _) hU1)
        refine bg_c_1 hr hS21 hW (hW 77 (by decide) (by decide)) (rho := 0) (s := ((Z 0).1, (Z 0).2.1, [])) (show prk (jn (uI (uI I1 22 0 0) 22 1 0) (uI K 51 5 0)) 0 from (Or.inr (Or.inl ep9))) (show ¬ (jn (uI (uI I1 22 0 0) 22 1 0) (uI K 51 5 0)) 11 0 = -1 from hnn) (show rwi (jn (uI (uI I1 22 0 0) 22 1 0) (uI K 51 5 0)) 0 = 0 from rwi_l (v := 0) ep9 (by decide)) (by decide) (by decide) (show RS (jn (uI (uI I1 22 0 0) 22 1 0) (uI K 51 5 0)) 0 ((Z 0).1, (Z 0).2.1, []) from (RR_row hU24.2.1 (i := 0) (by decide)).1) rfl hO.1.1 hO.2.2.1 hO.1.2.2 hO.2.2.2.1 (LKs_c rfl (RR_row hU1.2.1 (i := 0) (by decide)).2.2.2) (q := I 20) (by omega) (fun v10 h8 K8 g1 g2 g3 g4 => ?_)
        have g1b : sm (tbr am (13 * ln) 77 5088) h8 (jn (uI (uI I1 22 0 0) 22 1 0) K8) Y := by
          have z := g1
          rw [jn_rfr g4] at z
          exact z
        have hOm := OK_mps (t := 1) (q := I 20) (by decide) hO
        have hOm1 := hOm.1.1
        have hOm2 := hOm.2.2.2.2.1
        have hU25 : RU w B R H hb h8 am ln K8 ((uI (uI I1 22 0 0) 22 1 0), Q, uZ (uZ Z 0 ((Z 0).1, (Z 0).2.1, [])) 0 (mps ((Z 0).1, (Z 0).2.1, []) 1 (I 20))) := RU_row (i := 0) (by decide) (fun c j h50 hc => (g4 c j hc).trans (jn_ge h50)) ⟨fun _ => ⟨g3, by show (mps (Z 0) 1 (I 20)).2.1.length ≤ 32; omega, by show (mps (Z 0) 1 (I 20)).2.2.length ≤ 41; omega, LKs_mps (by decide) hO.1 (RR_row hU1.2.1 (i := 0) (by decide)).2.2.2⟩, fun h => absurd h (by decide)⟩ (RU_I g2 (I' := (uI (uI I1 22 0 0) 22 1 0)) (fun _ => rfl) (fun _ => rfl) (Nat.le_refl _) hU24)
        refine go_s (pc' := 225) rfl rfl rfl rfl ?_
        refine go_s (pc' := 226) (st' := [.int 0, .ref 62]) rfl rfl rfl rfl ?_
        have hU26 : RU w B R H hb h8 am ln K8 ((uI (uI I1 22 0 0) 22 1 0), Q, (uZ (uZ Z 0 ((Z 0).1, (Z 0).2.1, [])) 0 (mps ((Z 0).1, (Z 0).2.1, []) 1 (I 20)))) := RU_I (sm_e_refl (tbr am (13 * ln) 77 5088) _) (I' := (uI (uI I1 22 0 0) 22 1 0)) (fun _ => rfl) (fun _ => rfl) (Nat.le_refl _) hU25
        have hA27 : RA w B R H hb h8 ((uI (uI I1 22 0 0) 22 1 0), Q, (uZ (uZ Z 0 ((Z 0).1, (Z 0).2.1, [])) 0 (mps ((Z 0).1, (Z 0).2.1, []) 1 (I 20)))) := RA_u.mpr ⟨_, _, _, _, g1b, hU26⟩
        refine go_callV (pc' := 227) rfl rfl rfl (Nat.le_of_ble_eq_true rfl) rfl (sm_o g1b rfl) rfl rfl rfl (ra_tl_0 hA27 (by omega) (Or.inr (Or.inl ep9)) (fun z => absurd (ep9.symm.trans z) (by decide)) hoh1 h51 (by omega)) (fun r h28 q29 => ?_)
        obtain ⟨rfl, hA30⟩ := q29
        refine go_ret rfl rfl ?_
        have hq : mord (row1 (I, Q, Z) 0) (mbq (I, Q, Z)) (mbt (I, Q, Z)) = mord (Z 0).1 (I 20) 1 := by
          rw [show row1 (I, Q, Z) 0 = (Z 0).1 from row1_l (v := 0) e1 (by decide), hbt]
          rfl
        have hmo := mord_p (F := (Z 0).1) (q := I 20) (t := 1) c10 (fun z => absurd z c12)
        have hbp : mbp (I, Q, Z) = ((uI (uI I1 22 0 0) 22 1 0), Q, (uZ (uZ Z 0 ((Z 0).1, (Z 0).2.1, [])) 0 (mps ((Z 0).1, (Z 0).2.1, []) 1 (I 20)))) := by
          unfold mbp
          rw [show rwi (I, Q, Z).1 0 = 0 from rwi_l (v := 0) e1 (by decide), hbt, uZ_r, eI]
          rfl
        have hms : rbeg (I, Q, Z) = rtl 0 ((uI (uI I1 22 0 0) 22 1 0), Q, (uZ (uZ Z 0 ((Z 0).1, (Z 0).2.1, [])) 0 (mps ((Z 0).1, (Z 0).2.1, []) 1 (I 20)))) := by
          unfold rbeg
          rw [hq, if_neg hmo.1, if_neg hmo.2, hbp]
        rw [hms]
        exact ⟨rfl, hA30⟩
      · skip
        have c12 : (I 20 1) = ((Z 0).1 7) := Decidable.not_not.mp c12'
        refine go_s (pc' := 81) rfl rfl rfl rfl ?_
        refine go_s (pc' := 82) rfl rfl rfl rfl ?_
        refine go_sget (pc' := 83) (v := .ref 77) hS9 rfl rfl rfl (by decide) rfl rfl ?_
        refine go_s (pc' := 84) rfl rfl rfl rfl ?_
        refine go_s (pc' := 85) (st' := [.int 8, .int 0, .ref 77, .int (I 20 2)]) rfl rfl rfl rfl ?_
        refine go_s (pc' := 86) (st' := [.int 8, .ref 77, .int (I 20 2)]) rfl rfl rfl rfl ?_
        refine go_s (pc' := 87) rfl rfl rfl rfl ?_
        refine go_s (pc' := 88) (st' := [.int 9, .ref 77, .int (I 20 2)]) rfl rfl rfl rfl ?_
        refine go_sald (pc' := 89) (q := 9) (v := .int ((Z 0).1 9)) hS9 rfl (tr_as hr (by omega)) rfl rfl (by decide) (congrArg Value.int ((RR_row hU1.2.1 (i := 0) (by decide)).1.1 9 (by decide) (by decide) (by decide))) rfl ?_
        refine go_icmpP (t' := 91) (pc' := 90) rfl rfl rfl (fun (c31 : ((Z 0).1 9) ≤ (I 20 2)) => ?_) (fun (c31 : ¬ ((Z 0).1 9) ≤ (I 20 2)) => ?_)
        · skip
          refine go_s (pc' := 92) rfl rfl rfl rfl ?_
          refine go_s (pc' := 93) rfl rfl rfl rfl ?_
          refine go_icmpP (t' := 108) (pc' := 94) rfl rfl rfl (fun (c : ¬ (I 20 1) = ((Z 0).1 7)) => absurd c (fun z => z c12)) (fun _ => ?_)
          refine go_s (pc' := 95) rfl rfl rfl rfl ?_
          refine go_s (pc' := 96) rfl rfl rfl rfl ?_
          refine go_sget (pc' := 97) (v := .ref 77) hS9 rfl rfl rfl (by decide) rfl rfl ?_
          refine go_s (pc' := 98) rfl rfl rfl rfl ?_
          refine go_s (pc' := 99) (st' := [.int 8, .int 0, .ref 77, .int (I 20 2)]) rfl rfl rfl rfl ?_
          refine go_s (pc' := 100) (st' := [.int 8, .ref 77, .int (I 20 2)]) rfl rfl rfl rfl ?_
          refine go_s (pc' := 101) rfl rfl rfl rfl ?_
          refine go_s (pc' := 102) (st' := [.int 9, .ref 77, .int (I 20 2)]) rfl rfl rfl rfl ?_
          refine go_sald (pc' := 103) (q := 9) (v := .int ((Z 0).1 9)) hS9 rfl (tr_as hr (by omega)) rfl rfl (by decide) (congrArg Value.int ((RR_row hU1.2.1 (i := 0) (by decide)).1.1 9 (by decide) (by decide) (by decide))) rfl ?_
          refine go_icmpP (t' := 108) (pc' := 104) rfl rfl rfl (fun (c32 : ¬ (I 20 2) = ((Z 0).1 9)) => ?_) (fun (c32' : ¬ ¬ (I 20 2) = ((Z 0).1 9)) => ?_)
          · skip
            refine go_s (pc' := 109) rfl rfl rfl rfl ?_
            refine go_sget (pc' := 110) (v := .ref 77) hS9 rfl rfl rfl (by decide) rfl rfl ?_
            refine go_s (pc' := 111) rfl rfl rfl rfl ?_
            refine go_s (pc' := 112) (st' := [.int 5, .int 0, .ref 77]) rfl rfl rfl rfl ?_
            refine go_s (pc' := 113) (st' := [.int 5, .ref 77]) rfl rfl rfl rfl ?_
            refine go_s (pc' := 114) (st' := [.int 0, .int 5, .ref 77]) rfl rfl rfl rfl ?_
            refine go_siast (pc' := 115) (q := 5) hS9 rfl (tr_as hr (by omega)) tbr_inj (Nat.le_of_ble_eq_true rfl) rfl (by decide) (by decide) (hW _ (by decide) (by decide)) rfl (fun h33 hS34 hE35 => ?_)
            refine go_s (pc' := 116) rfl rfl rfl rfl ?_
            refine go_sget (pc' := 117) (v := .ref 88) hS34 rfl rfl rfl (by decide) rfl rfl ?_
            refine go_s (pc' := 118) (st' := [.int 0, .ref 88]) rfl rfl rfl rfl ?_
            refine go_s (pc' := 119) (st' := [.int 0, .int 0, .ref 88]) rfl rfl rfl rfl ?_
            refine go_siast (pc' := 120) (q := 0) hS34 rfl (tr_s hr (a := 88) rfl (by decide)) tbr_inj (Nat.le_of_ble_eq_true rfl) rfl (by decide) (by decide) (hW _ (by decide) (by decide)) rfl (fun h36 hS37 hE38 => ?_)
            have hE39 := sm_e_trans hE35 hE38
            refine go_s (pc' := 121) rfl rfl rfl rfl ?_
            refine go_sget (pc' := 122) (v := .ref 88) hS37 rfl rfl rfl (by decide) rfl rfl ?_
            refine go_s (pc' := 123) (st' := [.int 1, .ref 88]) rfl rfl rfl rfl ?_
            refine go_s (pc' := 124) (st' := [.int 0, .int 1, .ref 88]) rfl rfl rfl rfl ?_
            refine go_siast (pc' := 125) (q := 1) hS37 rfl (tr_s hr (a := 88) rfl (by decide)) tbr_inj (Nat.le_of_ble_eq_true rfl) rfl (by decide) (by decide) (hW _ (by decide) (by decide)) rfl (fun h40 hS41 hE42 => ?_)
            have hE43 := sm_e_trans hE39 hE42
            change sm (tbr am (13 * ln) 77 5088) _ (uI (uI (uI (jn I1 K) 51 5 0) 22 0 0) 22 1 0) Y at hS41
            rw [jn_hi (c := 51) (by decide), jn_lo (c := 22) (by decide), jn_lo (c := 22) (by decide)] at hS41
            have hU44 : RU w B R H hb h40 am ln (uI K 51 5 0) ((uI (uI I1 22 0 0) 22 1 0), Q, (uZ Z 0 ((Z 0).1, (Z 0).2.1, []))) := RU_row (K' := (uI K 51 5 0)) (s := ((Z 0).1, (Z 0).2.1, [])) (by decide) (fun c j _ hc => by
              simp only [uI]
              rw [if_neg (by omega)]) (⟨fun _ => ⟨RS_w0 (RR_row hU1.2.1 (i := 0) (by decide)).1, (RR_row hU1.2.1 (i := 0) (by decide)).2.1, Nat.zero_le _, LKs_c rfl (RR_row hU1.2.1 (i := 0) (by decide)).2.2.2⟩, fun h => absurd h (by decide)⟩) (RU_I (hE43) (I' := (uI (uI I1 22 0 0) 22 1 0)) (fun _ => rfl) (fun _ => rfl) (Nat.le_refl _) hU1)
            refine bg_c_1 hr hS41 hW (hW 77 (by decide) (by decide)) (rho := 0) (s := ((Z 0).1, (Z 0).2.1, [])) (show prk (jn (uI (uI I1 22 0 0) 22 1 0) (uI K 51 5 0)) 0 from (Or.inr (Or.inl ep9))) (show ¬ (jn (uI (uI I1 22 0 0) 22 1 0) (uI K 51 5 0)) 11 0 = -1 from hnn) (show rwi (jn (uI (uI I1 22 0 0) 22 1 0) (uI K 51 5 0)) 0 = 0 from rwi_l (v := 0) ep9 (by decide)) (by decide) (by decide) (show RS (jn (uI (uI I1 22 0 0) 22 1 0) (uI K 51 5 0)) 0 ((Z 0).1, (Z 0).2.1, []) from (RR_row hU44.2.1 (i := 0) (by decide)).1) rfl hO.1.1 hO.2.2.1 hO.1.2.2 hO.2.2.2.1 (LKs_c rfl (RR_row hU1.2.1 (i := 0) (by decide)).2.2.2) (q := I 20) (by omega) (fun v10 h8 K8 g1 g2 g3 g4 => ?_)
            have g1b : sm (tbr am (13 * ln) 77 5088) h8 (jn (uI (uI I1 22 0 0) 22 1 0) K8) Y := by
              have z := g1
              rw [jn_rfr g4] at z
              exact z
            have hOm := OK_mps (t := 1) (q := I 20) (by decide) hO
            have hOm1 := hOm.1.1
            have hOm2 := hOm.2.2.2.2.1
            have hU45 : RU w B R H hb h8 am ln K8 ((uI (uI I1 22 0 0) 22 1 0), Q, uZ (uZ Z 0 ((Z 0).1, (Z 0).2.1, [])) 0 (mps ((Z 0).1, (Z 0).2.1, []) 1 (I 20))) := RU_row (i := 0) (by decide) (fun c j h50 hc => (g4 c j hc).trans (jn_ge h50)) ⟨fun _ => ⟨g3, by show (mps (Z 0) 1 (I 20)).2.1.length ≤ 32; omega, by show (mps (Z 0) 1 (I 20)).2.2.length ≤ 41; omega, LKs_mps (by decide) hO.1 (RR_row hU1.2.1 (i := 0) (by decide)).2.2.2⟩, fun h => absurd h (by decide)⟩ (RU_I g2 (I' := (uI (uI I1 22 0 0) 22 1 0)) (fun _ => rfl) (fun _ => rfl) (Nat.le_refl _) hU44)
            refine go_s (pc' := 225) rfl rfl rfl rfl ?_
            refine go_s (pc' := 226) (st' := [.int 0, .ref 62]) rfl rfl rfl rfl ?_
            have hU46 : RU w B R H hb h8 am ln K8 ((uI (uI I1 22 0 0) 22 1 0), Q, (uZ (uZ Z 0 ((Z 0).1, (Z 0).2.1, [])) 0 (mps ((Z 0).1, (Z 0).2.1, []) 1 (I 20)))) := RU_I (sm_e_refl (tbr am (13 * ln) 77 5088) _) (I' := (uI (uI I1 22 0 0) 22 1 0)) (fun _ => rfl) (fun _ => rfl) (Nat.le_refl _) hU45
            have hA47 : RA w B R H hb h8 ((uI (uI I1 22 0 0) 22 1 0), Q, (uZ (uZ Z 0 ((Z 0).1, (Z 0).2.1, [])) 0 (mps ((Z 0).1, (Z 0).2.1, []) 1 (I 20)))) := RA_u.mpr ⟨_, _, _, _, g1b, hU46⟩
            refine go_callV (pc' := 227) rfl rfl rfl (Nat.le_of_ble_eq_true rfl) rfl (sm_o g1b rfl) rfl rfl rfl (ra_tl_0 hA47 (by omega) (Or.inr (Or.inl ep9)) (fun z => absurd (ep9.symm.trans z) (by decide)) hoh1 h51 (by omega)) (fun r h48 q49 => ?_)
            obtain ⟨rfl, hA50⟩ := q49
            refine go_ret rfl rfl ?_
            have hq : mord (row1 (I, Q, Z) 0) (mbq (I, Q, Z)) (mbt (I, Q, Z)) = mord (Z 0).1 (I 20) 1 := by
              rw [show row1 (I, Q, Z) 0 = (Z 0).1 from row1_l (v := 0) e1 (by decide), hbt]
              rfl
            have hmo := mord_p (F := (Z 0).1) (q := I 20) (t := 1) c10 (fun _ => ⟨Int32.not_lt.mpr c31, c32⟩)
            have hbp : mbp (I, Q, Z) = ((uI (uI I1 22 0 0) 22 1 0), Q, (uZ (uZ Z 0 ((Z 0).1, (Z 0).2.1, [])) 0 (mps ((Z 0).1, (Z 0).2.1, []) 1 (I 20)))) := by
              unfold mbp
              rw [show rwi (I, Q, Z).1 0 = 0 from rwi_l (v := 0) e1 (by decide), hbt, uZ_r, eI]
              rfl
            have hms : rbeg (I, Q, Z) = rtl 0 ((uI (uI I1 22 0 0) 22 1 0), Q, (uZ (uZ Z 0 ((Z 0).1, (Z 0).2.1, [])) 0 (mps ((Z 0).1, (Z 0).2.1, []) 1 (I 20)))) := by
              unfold rbeg
              rw [hq, if_neg hmo.1, if_neg hmo.2, hbp]
            rw [hms]
            exact ⟨rfl, hA50⟩
          · skip
            have c32 : (I 20 2) = ((Z 0).1 9) := Decidable.not_not.mp c32'
            refine go_s (pc' := 105) rfl rfl rfl rfl ?_
            refine go_s (pc' := 106) rfl rfl rfl rfl ?_
            have hU51 : RU w B R H hb h9 am ln K (I1, Q, Z) := RU_I (sm_e_refl (tbr am (13 * ln) 77 5088) _) (I' := I1) (fun _ => rfl) (fun _ => rfl) (Nat.le_refl _) hU1
            have hA52 : RA w B R H hb h9 (I1, Q, Z) := RA_u.mpr ⟨_, _, _, _, hS9, hU51⟩
            refine go_callV (pc' := 107) rfl rfl rfl (Nat.le_of_ble_eq_true rfl) rfl (sm_o hS9 rfl) rfl rfl rfl (ra_rp_1 hA52 (by omega) (Or.inr (Or.inl ep9)) hnn hp8 (by omega)) (fun r h53 q54 => ?_)
            obtain ⟨rfl, hA55⟩ := q54
            refine go_ret rfl rfl ?_
            have hq : mord (row1 (I, Q, Z) 0) (mbq (I, Q, Z)) (mbt (I, Q, Z)) = mord (Z 0).1 (I 20) 1 := by
              rw [show row1 (I, Q, Z) 0 = (Z 0).1 from row1_l (v := 0) e1 (by decide), hbt]
              rfl
            have hmo := mord_0 (F := (Z 0).1) (q := I 20) (t := 1) c12 c32
            have hms : rbeg (I, Q, Z) = rrp 1 (I1, Q, Z) := by
              unfold rbeg
              rw [hq, if_pos hmo, hbt, eI]
            rw [hms]
            exact ⟨rfl, hA55⟩
        · skip
          refine go_ret rfl rfl ?_
          have hq : mord (row1 (I, Q, Z) 0) (mbq (I, Q, Z)) (mbt (I, Q, Z)) = mord (Z 0).1 (I 20) 1 := by
            rw [show row1 (I, Q, Z) 0 = (Z 0).1 from row1_l (v := 0) e1 (by decide), hbt]
            rfl
          have hmo := mord_n (F := (Z 0).1) (q := I 20) (t := 1) (Or.inr ⟨c12, Int32.not_le.mp c31⟩)
          have hms : rbeg (I, Q, Z) = (I1, Q, Z) := by
            unfold rbeg
            rw [hq, if_neg hmo.1, if_pos hmo.2, eI]
          have hA56 : RA w B R H hb h9 (I1, Q, Z) := RA_u.mpr ⟨_, _, _, _, hS9, hU1⟩
          rw [hms]
          exact ⟨rfl, RA_R (by omega) hA56⟩
  · skip
    have hO : OK (Z 1) := by
      have z := hOK
      rw [show rwi I 0 = 1 from rwi_l (v := 1) e1 (by decide)] at z
      exact z
    refine go_s (pc' := 1) rfl rfl rfl rfl ?_
    refine go_s (pc' := 2) (st' := [.int 0, .ref 62]) rfl rfl rfl rfl ?_
    refine go_callV (pc' := 3) rfl rfl rfl (Nat.le_of_ble_eq_true rfl) rfl (sm_o hS rfl) rfl rfl rfl (rt_at_0 hr hS (Or.inr (Or.inr e1)) (fun z => absurd (e1.symm.trans z) (by decide)) (by omega)) (fun r h57 q58 => ?_)
    obtain ⟨rfl, rfl⟩ := q58
    rw [show rwi (jn I K) 0 = 1 by unfold rwi pn; rw [show (jn I K) 11 0 = 1 from e1]; rfl]
    show am_Go _ _ _ _ 3 _ [.int 424] _ _
    refine go_s (pc' := 4) (lo' := [some (.ref 62), some (.int 424), none, none, none, none, none, none, none, none, none]) rfl rfl rfl rfl ?_
    refine go_s (pc' := 5) rfl rfl rfl rfl ?_
    refine go_sget (pc' := 6) (v := .ref 87) hS rfl rfl rfl (by decide) rfl rfl ?_
    refine go_s (pc' := 7) (st' := [.int 0, .ref 87]) rfl rfl rfl rfl ?_
    refine go_sald (pc' := 8) (q := 0) (v := .int 1) hS rfl (tr_s hr (a := 87) rfl (by decide)) rfl rfl (by decide) (congrArg Value.int e20) rfl ?_
    refine go_s (pc' := 9) (lo' := [some (.ref 62), some (.int 424), some (.int 1), none, none, none, none, none, none, none, none]) rfl rfl rfl rfl ?_
    refine go_s (pc' := 10) rfl rfl rfl rfl ?_
    refine go_sget (pc' := 11) (v := .ref 87) hS rfl rfl rfl (by decide) rfl rfl ?_
    refine go_s (pc' := 12) (st' := [.int 1, .ref 87]) rfl rfl rfl rfl ?_
    refine go_sald (pc' := 13) (q := 1) (v := .int (I 20 1)) hS rfl (tr_s hr (a := 87) rfl (by decide)) rfl rfl (by decide) rfl rfl ?_
    refine go_s (pc' := 14) (lo' := [some (.ref 62), some (.int 424), some (.int 1), some (.int (I 20 1)), none, none, none, none, none, none, none]) rfl rfl rfl rfl ?_
    refine go_s (pc' := 15) rfl rfl rfl rfl ?_
    refine go_sget (pc' := 16) (v := .ref 87) hS rfl rfl rfl (by decide) rfl rfl ?_
    refine go_s (pc' := 17) (st' := [.int 2, .ref 87]) rfl rfl rfl rfl ?_
    refine go_sald (pc' := 18) (q := 2) (v := .int (I 20 2)) hS rfl (tr_s hr (a := 87) rfl (by decide)) rfl rfl (by decide) rfl rfl ?_
    refine go_s (pc' := 19) (lo' := [some (.ref 62), some (.int 424), some (.int 1), some (.int (I 20 1)), some (.int (I 20 2)), none, none, none, none, none, none]) rfl rfl rfl rfl ?_
    refine go_s (pc' := 20) rfl rfl rfl rfl ?_
    refine go_sget (pc' := 21) (v := .ref 87) hS rfl rfl rfl (by decide) rfl rfl ?_
    refine go_s (pc' := 22) (st' := [.int 3, .ref 87]) rfl rfl rfl rfl ?_
    refine go_sald (pc' := 23) (q := 3) (v := .int (I 20 3)) hS rfl (tr_s hr (a := 87) rfl (by decide)) rfl rfl (by decide) rfl rfl ?_
    refine go_s (pc' := 24) (lo' := [some (.ref 62), some (.int 424), some (.int 1), some (.int (I 20 1)), some (.int (I 20 2)), some (.int (I 20 3)), none, none, none, none, none]) rfl rfl rfl rfl ?_
    refine go_s (pc' := 25) rfl rfl rfl rfl ?_
    refine go_sget (pc' := 26) (v := .ref 87) hS rfl rfl rfl (by decide) rfl rfl ?_
    refine go_s (pc' := 27) (st' := [.int 4, .ref 87]) rfl rfl rfl rfl ?_
    refine go_sald (pc' := 28) (q := 4) (v := .int (I 20 4)) hS rfl (tr_s hr (a := 87) rfl (by decide)) rfl rfl (by decide) rfl rfl ?_
    refine go_s (pc' := 29) (lo' := [some (.ref 62), some (.int 424), some (.int 1), some (.int (I 20 1)), some (.int (I 20 2)), some (.int (I 20 3)), some (.int (I 20 4)), none, none, none, none]) rfl rfl rfl rfl ?_
    refine go_s (pc' := 30) rfl rfl rfl rfl ?_
    refine go_sget (pc' := 31) (v := .ref 87) hS rfl rfl rfl (by decide) rfl rfl ?_
    refine go_s (pc' := 32) (st' := [.int 5, .ref 87]) rfl rfl rfl rfl ?_
    refine go_sald (pc' := 33) (q := 5) (v := .int (I 20 5)) hS rfl (tr_s hr (a := 87) rfl (by decide)) rfl rfl (by decide) rfl rfl ?_
    refine go_s (pc' := 34) (lo' := [some (.ref 62), some (.int 424), some (.int 1), some (.int (I 20 1)), some (.int (I 20 2)), some (.int (I 20 3)), some (.int (I 20 4)), some (.int (I 20 5)), none, none, none]) rfl rfl rfl rfl ?_
    refine go_s (pc' := 35) rfl rfl rfl rfl ?_
    refine go_sget (pc' := 36) (v := .ref 87) hS rfl rfl rfl (by decide) rfl rfl ?_
    refine go_s (pc' := 37) (st' := [.int 6, .ref 87]) rfl rfl rfl rfl ?_
    refine go_sald (pc' := 38) (q := 6) (v := .int (I 20 6)) hS rfl (tr_s hr (a := 87) rfl (by decide)) rfl rfl (by decide) rfl rfl ?_
    refine go_s (pc' := 39) (lo' := [some (.ref 62), some (.int 424), some (.int 1), some (.int (I 20 1)), some (.int (I 20 2)), some (.int (I 20 3)), some (.int (I 20 4)), some (.int (I 20 5)), some (.int (I 20 6)), none, none]) rfl rfl rfl rfl ?_
    refine go_s (pc' := 40) rfl rfl rfl rfl ?_
    refine go_s (pc' := 41) rfl rfl rfl rfl ?_
    refine go_sget (pc' := 42) (v := .int (nI n)) hS rfl rfl rfl (by decide) (congrArg Value.int en) rfl ?_
    refine go_s (pc' := 43) (st' := [.int 1, .int (nI n), .ref 62]) rfl rfl rfl rfl ?_
    refine go_nsub (pc' := 44) (a := n) (b := 1) rfl rfl rfl (by omega) rfl rfl ?_
    refine go_sput (pc' := 45) hS rfl rfl rfl (by decide) tbr_inj (Nat.le_of_ble_eq_true rfl) rfl (hW _ (by decide) (by decide)) rfl (fun h59 hS60 hE61 => ?_)
    refine go_s (pc' := 46) (st' := [.int 0]) rfl rfl rfl rfl ?_
    refine go_s (pc' := 47) (lo' := [some (.ref 62), some (.int 424), some (.int 1), some (.int (I 20 1)), some (.int (I 20 2)), some (.int (I 20 3)), some (.int (I 20 4)), some (.int (I 20 5)), some (.int (I 20 6)), some (.int 0), none]) rfl rfl rfl rfl ?_
    change sm (tbr am (13 * ln) 77 5088) _ (uI (jn I K) 21 0 (nI (n - 1))) Y at hS60
    rw [jn_lo (c := 21) (by decide)] at hS60
    rw [← sh_0] at hS60
    refine lp_sh hr hW hn1 hn8 (7 * (n - 1)) 0 _ (by omega) hS60 (fun h9 hS9 hE9 => ?_)
    have hE9b := sm_e_trans hE61 hE9
    rw [sh_e hst] at hS9
    have hU1 := RU_sh (R := R) hE9b hst hn1 hn8 hU
    obtain ⟨I1, eI⟩ : ∃ y, y = msh I := ⟨_, rfl⟩
    rw [← eI] at hS9 hU1
    have hp62 : prk I1 0 := (prk_p (congrFun (by rw [eI]; exact msh_o (by decide) (by decide)) 0)).mpr hp0
    have hp63 : prk I1 2 := (prk_p (congrFun (by rw [eI]; exact msh_o (by decide) (by decide)) 2)).mpr hpk
    have ep64 : I1 11 0 = 1 := (congrFun (by rw [eI]; exact msh_o (by decide) (by decide)) 0).trans e1
    have hoh1 : ¬ I1 12 0 = -1 → I1 12 0 = ohI I1 0 := by
      rw [eI, msh_o (by decide) (by decide), ohI_c (msh_o (by decide) (by decide))]
      exact hoh
    have h51 : ¬ I1 12 0 = -1 → sq Q + hc H hb ≤ 5 := by
      rw [eI, msh_o (by decide) (by decide)]
      exact h5
    have hnn : ¬ I1 11 0 = -1 := (fun z => absurd (ep64.symm.trans z) (by decide))
    refine go_s (pc' := 66) rfl rfl rfl rfl ?_
    refine go_sget (pc' := 67) (v := .ref 77) hS9 rfl rfl rfl (by decide) rfl rfl ?_
    refine go_s (pc' := 68) rfl rfl rfl rfl ?_
    refine go_s (pc' := 69) (st' := [.int 6, .int 424, .ref 77]) rfl rfl rfl rfl ?_
    refine go_s (pc' := 70) (st' := [.int 430, .ref 77]) rfl rfl rfl rfl ?_
    refine go_s (pc' := 71) rfl rfl rfl rfl ?_
    refine go_s (pc' := 72) (st' := [.int 431, .ref 77]) rfl rfl rfl rfl ?_
    refine go_sald (pc' := 73) (q := 431) (v := .int ((Z 1).1 7)) hS9 rfl (tr_as hr (by omega)) rfl rfl (by decide) (congrArg Value.int ((RR_row hU1.2.1 (i := 1) (by decide)).1.1 7 (by decide) (by decide) (by decide))) rfl ?_
    refine go_s (pc' := 74) (lo' := [some (.ref 62), some (.int 424), some (.int 1), some (.int (I 20 1)), some (.int (I 20 2)), some (.int (I 20 3)), some (.int (I 20 4)), some (.int (I 20 5)), some (.int (I 20 6)), some (.int ((Z 1).1 7)), none]) rfl rfl rfl rfl ?_
    refine go_s (pc' := 75) rfl rfl rfl rfl ?_
    refine go_s (pc' := 76) rfl rfl rfl rfl ?_
    refine go_icmpP (t' := 90) (pc' := 77) rfl rfl rfl (fun (c65 : (I 20 1) < ((Z 1).1 7)) => ?_) (fun (c65 : ¬ (I 20 1) < ((Z 1).1 7)) => ?_)
    · skip
      refine go_ret rfl rfl ?_
      have hq : mord (row1 (I, Q, Z) 0) (mbq (I, Q, Z)) (mbt (I, Q, Z)) = mord (Z 1).1 (I 20) 1 := by
        rw [show row1 (I, Q, Z) 0 = (Z 1).1 from row1_l (v := 1) e1 (by decide), hbt]
        rfl
      have hmo := mord_n (F := (Z 1).1) (q := I 20) (t := 1) (Or.inl c65)
      have hms : rbeg (I, Q, Z) = (I1, Q, Z) := by
        unfold rbeg
        rw [hq, if_neg hmo.1, if_pos hmo.2, eI]
      have hA66 : RA w B R H hb h9 (I1, Q, Z) := RA_u.mpr ⟨_, _, _, _, hS9, hU1⟩
      rw [hms]
      exact ⟨rfl, RA_R (by omega) hA66⟩
    · skip
      refine go_s (pc' := 78) rfl rfl rfl rfl ?_
      refine go_s (pc' := 79) rfl rfl rfl rfl ?_
      refine go_icmpP (t' := 91) (pc' := 80) rfl rfl rfl (fun (c67 : ¬ (I 20 1) = ((Z 1).1 7)) => ?_) (fun (c67' : ¬ ¬ (I 20 1) = ((Z 1).1 7)) => ?_)
      · skip
        refine go_s (pc' := 92) rfl rfl rfl rfl ?_
        refine go_s (pc' := 93) rfl rfl rfl rfl ?_
        refine go_icmpP (t' := 108) (pc' := 94) rfl rfl rfl (fun _ => ?_) (fun (c : ¬ (¬ (I 20 1) = ((Z 1).1 7))) => absurd c67 c)
        refine go_s (pc' := 109) rfl rfl rfl rfl ?_
        refine go_sget (pc' := 110) (v := .ref 77) hS9 rfl rfl rfl (by decide) rfl rfl ?_
        refine go_s (pc' := 111) rfl rfl rfl rfl ?_
        refine go_s (pc' := 112) (st' := [.int 5, .int 424, .ref 77]) rfl rfl rfl rfl ?_
        refine go_s (pc' := 113) (st' := [.int 429, .ref 77]) rfl rfl rfl rfl ?_
        refine go_s (pc' := 114) (st' := [.int 0, .int 429, .ref 77]) rfl rfl rfl rfl ?_
        refine go_siast (pc' := 115) (q := 429) hS9 rfl (tr_as hr (by omega)) tbr_inj (Nat.le_of_ble_eq_true rfl) rfl (by decide) (by decide) (hW _ (by decide) (by decide)) rfl (fun h68 hS69 hE70 => ?_)
        refine go_s (pc' := 116) rfl rfl rfl rfl ?_
        refine go_sget (pc' := 117) (v := .ref 88) hS69 rfl rfl rfl (by decide) rfl rfl ?_
        refine go_s (pc' := 118) (st' := [.int 0, .ref 88]) rfl rfl rfl rfl ?_
        refine go_s (pc' := 119) (st' := [.int 0, .int 0, .ref 88]) rfl rfl rfl rfl ?_
        refine go_siast (pc' := 120) (q := 0) hS69 rfl (tr_s hr (a := 88) rfl (by decide)) tbr_inj (Nat.le_of_ble_eq_true rfl) rfl (by decide) (by decide) (hW _ (by decide) (by decide)) rfl (fun h71 hS72 hE73 => ?_)
        have hE74 := sm_e_trans hE70 hE73
        refine go_s (pc' := 121) rfl rfl rfl rfl ?_
        refine go_sget (pc' := 122) (v := .ref 88) hS72 rfl rfl rfl (by decide) rfl rfl ?_
        refine go_s (pc' := 123) (st' := [.int 1, .ref 88]) rfl rfl rfl rfl ?_
        refine go_s (pc' := 124) (st' := [.int 0, .int 1, .ref 88]) rfl rfl rfl rfl ?_
        refine go_siast (pc' := 125) (q := 1) hS72 rfl (tr_s hr (a := 88) rfl (by decide)) tbr_inj (Nat.le_of_ble_eq_true rfl) rfl (by decide) (by decide) (hW _ (by decide) (by decide)) rfl (fun h75 hS76 hE77 => ?_)
        have hE78 := sm_e_trans hE74 hE77
        change sm (tbr am (13 * ln) 77 5088) _ (uI (uI (uI (jn I1 K) 51 429 0) 22 0 0) 22 1 0) Y at hS76
        rw [jn_hi (c := 51) (by decide), jn_lo (c := 22) (by decide), jn_lo (c := 22) (by decide)] at hS76
        have hU79 : RU w B R H hb h75 am ln (uI K 51 429 0) ((uI (uI I1 22 0 0) 22 1 0), Q, (uZ Z 1 ((Z 1).1, (Z 1).2.1, []))) := RU_row (K' := (uI K 51 429 0)) (s := ((Z 1).1, (Z 1).2.1, [])) (by decide) (fun c j _ hc => by
          simp only [uI]
          rw [if_neg (by omega)]) (⟨fun _ => ⟨RS_w0 (RR_row hU1.2.1 (i := 1) (by decide)).1, (RR_row hU1.2.1 (i := 1) (by decide)).2.1, Nat.zero_le _, LKs_c rfl (RR_row hU1.2.1 (i := 1) (by decide)).2.2.2⟩, fun h => absurd h (by decide)⟩) (RU_I (hE78) (I' := (uI (uI I1 22 0 0) 22 1 0)) (fun _ => rfl) (fun _ => rfl) (Nat.le_refl _) hU1)
        refine bg_c_1 hr hS76 hW (hW 77 (by decide) (by decide)) (rho := 1) (s := ((Z 1).1, (Z 1).2.1, [])) (show prk (jn (uI (uI I1 22 0 0) 22 1 0) (uI K 51 429 0)) 0 from (Or.inr (Or.inr ep64))) (show ¬ (jn (uI (uI I1 22 0 0) 22 1 0) (uI K 51 429 0)) 11 0 = -1 from hnn) (show rwi (jn (uI (uI I1 22 0 0) 22 1 0) (uI K 51 429 0)) 0 = 1 from rwi_l (v := 1) ep64 (by decide)) (by decide) (by decide) (show RS (jn (uI (uI I1 22 0 0) 22 1 0) (uI K 51 429 0)) 1 ((Z 1).1, (Z 1).2.1, []) from (RR_row hU79.2.1 (i := 1) (by decide)).1) rfl hO.1.1 hO.2.2.1 hO.1.2.2 hO.2.2.2.1 (LKs_c rfl (RR_row hU1.2.1 (i := 1) (by decide)).2.2.2) (q := I 20) (by omega) (fun v10 h8 K8 g1 g2 g3 g4 => ?_)
        have g1b : sm (tbr am (13 * ln) 77 5088) h8 (jn (uI (uI I1 22 0 0) 22 1 0) K8) Y := by
          have z := g1
          rw [jn_rfr g4] at z
          exact z
        have hOm := OK_mps (t := 1) (q := I 20) (by decide) hO
        have hOm1 := hOm.1.1
        have hOm2 := hOm.2.2.2.2.1
        have hU80 : RU w B R H hb h8 am ln K8 ((uI (uI I1 22 0 0) 22 1 0), Q, uZ (uZ Z 1 ((Z 1).1, (Z 1).2.1, [])) 1 (mps ((Z 1).1, (Z 1).2.1, []) 1 (I 20))) := RU_row (i := 1) (by decide) (fun c j h50 hc => (g4 c j hc).trans (jn_ge h50)) ⟨fun _ => ⟨g3, by show (mps (Z 1) 1 (I 20)).2.1.length ≤ 32; omega, by show (mps (Z 1) 1 (I 20)).2.2.length ≤ 41; omega, LKs_mps (by decide) hO.1 (RR_row hU1.2.1 (i := 1) (by decide)).2.2.2⟩, fun h => absurd h (by decide)⟩ (RU_I g2 (I' := (uI (uI I1 22 0 0) 22 1 0)) (fun _ => rfl) (fun _ => rfl) (Nat.le_refl _) hU79)
        refine go_s (pc' := 225) rfl rfl rfl rfl ?_
        refine go_s (pc' := 226) (st' := [.int 0, .ref 62]) rfl rfl rfl rfl ?_
        have hU81 : RU w B R H hb h8 am ln K8 ((uI (uI I1 22 0 0) 22 1 0), Q, (uZ (uZ Z 1 ((Z 1).1, (Z 1).2.1, [])) 1 (mps ((Z 1).1, (Z 1).2.1, []) 1 (I 20)))) := RU_I (sm_e_refl (tbr am (13 * ln) 77 5088) _) (I' := (uI (uI I1 22 0 0) 22 1 0)) (fun _ => rfl) (fun _ => rfl) (Nat.le_refl _) hU80
        have hA82 : RA w B R H hb h8 ((uI (uI I1 22 0 0) 22 1 0), Q, (uZ (uZ Z 1 ((Z 1).1, (Z 1).2.1, [])) 1 (mps ((Z 1).1, (Z 1).2.1, []) 1 (I 20)))) := RA_u.mpr ⟨_, _, _, _, g1b, hU81⟩
        refine go_callV (pc' := 227) rfl rfl rfl (Nat.le_of_ble_eq_true rfl) rfl (sm_o g1b rfl) rfl rfl rfl (ra_tl_0 hA82 (by omega) (Or.inr (Or.inr ep64)) (fun z => absurd (ep64.symm.trans z) (by decide)) hoh1 h51 (by omega)) (fun r h83 q84 => ?_)
        obtain ⟨rfl, hA85⟩ := q84
        refine go_ret rfl rfl ?_
        have hq : mord (row1 (I, Q, Z) 0) (mbq (I, Q, Z)) (mbt (I, Q, Z)) = mord (Z 1).1 (I 20) 1 := by
          rw [show row1 (I, Q, Z) 0 = (Z 1).1 from row1_l (v := 1) e1 (by decide), hbt]
          rfl
        have hmo := mord_p (F := (Z 1).1) (q := I 20) (t := 1) c65 (fun z => absurd z c67)
        have hbp : mbp (I, Q, Z) = ((uI (uI I1 22 0 0) 22 1 0), Q, (uZ (uZ Z 1 ((Z 1).1, (Z 1).2.1, [])) 1 (mps ((Z 1).1, (Z 1).2.1, []) 1 (I 20)))) := by
          unfold mbp
          rw [show rwi (I, Q, Z).1 0 = 1 from rwi_l (v := 1) e1 (by decide), hbt, uZ_r, eI]
          rfl
        have hms : rbeg (I, Q, Z) = rtl 0 ((uI (uI I1 22 0 0) 22 1 0), Q, (uZ (uZ Z 1 ((Z 1).1, (Z 1).2.1, [])) 1 (mps ((Z 1).1, (Z 1).2.1, []) 1 (I 20)))) := by
          unfold rbeg
          rw [hq, if_neg hmo.1, if_neg hmo.2, hbp]
        rw [hms]
        exact ⟨rfl, hA85⟩
      · skip
        have c67 : (I 20 1) = ((Z 1).1 7) := Decidable.not_not.mp c67'
        refine go_s (pc' := 81) rfl rfl rfl rfl ?_
        refine go_s (pc' := 82) rfl rfl rfl rfl ?_
        refine go_sget (pc' := 83) (v := .ref 77) hS9 rfl rfl rfl (by decide) rfl rfl ?_
        refine go_s (pc' := 84) rfl rfl rfl rfl ?_
        refine go_s (pc' := 85) (st' := [.int 8, .int 424, .ref 77, .int (I 20 2)]) rfl rfl rfl rfl ?_
        refine go_s (pc' := 86) (st' := [.int 432, .ref 77, .int (I 20 2)]) rfl rfl rfl rfl ?_
        refine go_s (pc' := 87) rfl rfl rfl rfl ?_
        refine go_s (pc' := 88) (st' := [.int 433, .ref 77, .int (I 20 2)]) rfl rfl rfl rfl ?_
        refine go_sald (pc' := 89) (q := 433) (v := .int ((Z 1).1 9)) hS9 rfl (tr_as hr (by omega)) rfl rfl (by decide) (congrArg Value.int ((RR_row hU1.2.1 (i := 1) (by decide)).1.1 9 (by decide) (by decide) (by decide))) rfl ?_
        refine go_icmpP (t' := 91) (pc' := 90) rfl rfl rfl (fun (c86 : ((Z 1).1 9) ≤ (I 20 2)) => ?_) (fun (c86 : ¬ ((Z 1).1 9) ≤ (I 20 2)) => ?_)
        · skip
          refine go_s (pc' := 92) rfl rfl rfl rfl ?_
          refine go_s (pc' := 93) rfl rfl rfl rfl ?_
          refine go_icmpP (t' := 108) (pc' := 94) rfl rfl rfl (fun (c : ¬ (I 20 1) = ((Z 1).1 7)) => absurd c (fun z => z c67)) (fun _ => ?_)
          refine go_s (pc' := 95) rfl rfl rfl rfl ?_
          refine go_s (pc' := 96) rfl rfl rfl rfl ?_
          refine go_sget (pc' := 97) (v := .ref 77) hS9 rfl rfl rfl (by decide) rfl rfl ?_
          refine go_s (pc' := 98) rfl rfl rfl rfl ?_
          refine go_s (pc' := 99) (st' := [.int 8, .int 424, .ref 77, .int (I 20 2)]) rfl rfl rfl rfl ?_
          refine go_s (pc' := 100) (st' := [.int 432, .ref 77, .int (I 20 2)]) rfl rfl rfl rfl ?_
          refine go_s (pc' := 101) rfl rfl rfl rfl ?_
          refine go_s (pc' := 102) (st' := [.int 433, .ref 77, .int (I 20 2)]) rfl rfl rfl rfl ?_
          refine go_sald (pc' := 103) (q := 433) (v := .int ((Z 1).1 9)) hS9 rfl (tr_as hr (by omega)) rfl rfl (by decide) (congrArg Value.int ((RR_row hU1.2.1 (i := 1) (by decide)).1.1 9 (by decide) (by decide) (by decide))) rfl ?_
          refine go_icmpP (t' := 108) (pc' := 104) rfl rfl rfl (fun (c87 : ¬ (I 20 2) = ((Z 1).1 9)) => ?_) (fun (c87' : ¬ ¬ (I 20 2) = ((Z 1).1 9)) => ?_)
          · skip
            refine go_s (pc' := 109) rfl rfl rfl rfl ?_
            refine go_sget (pc' := 110) (v := .ref 77) hS9 rfl rfl rfl (by decide) rfl rfl ?_
            refine go_s (pc' := 111) rfl rfl rfl rfl ?_
            refine go_s (pc' := 112) (st' := [.int 5, .int 424, .ref 77]) rfl rfl rfl rfl ?_
            refine go_s (pc' := 113) (st' := [.int 429, .ref 77]) rfl rfl rfl rfl ?_
            refine go_s (pc' := 114) (st' := [.int 0, .int 429, .ref 77]) rfl rfl rfl rfl ?_
            refine go_siast (pc' := 115) (q := 429) hS9 rfl (tr_as hr (by omega)) tbr_inj (Nat.le_of_ble_eq_true rfl) rfl (by decide) (by decide) (hW _ (by decide) (by decide)) rfl (fun h88 hS89 hE90 => ?_)
            refine go_s (pc' := 116) rfl rfl rfl rfl ?_
            refine go_sget (pc' := 117) (v := .ref 88) hS89 rfl rfl rfl (by decide) rfl rfl ?_
            refine go_s (pc' := 118) (st' := [.int 0, .ref 88]) rfl rfl rfl rfl ?_
            refine go_s (pc' := 119) (st' := [.int 0, .int 0, .ref 88]) rfl rfl rfl rfl ?_
            refine go_siast (pc' := 120) (q := 0) hS89 rfl (tr_s hr (a := 88) rfl (by decide)) tbr_inj (Nat.le_of_ble_eq_true rfl) rfl (by decide) (by decide) (hW _ (by decide) (by decide)) rfl (fun h91 hS92 hE93 => ?_)
            have hE94 := sm_e_trans hE90 hE93
            refine go_s (pc' := 121) rfl rfl rfl rfl ?_
            refine go_sget (pc' := 122) (v := .ref 88) hS92 rfl rfl rfl (by decide) rfl rfl ?_
            refine go_s (pc' := 123) (st' := [.int 1, .ref 88]) rfl rfl rfl rfl ?_
            refine go_s (pc' := 124) (st' := [.int 0, .int 1, .ref 88]) rfl rfl rfl rfl ?_
            refine go_siast (pc' := 125) (q := 1) hS92 rfl (tr_s hr (a := 88) rfl (by decide)) tbr_inj (Nat.le_of_ble_eq_true rfl) rfl (by decide) (by decide) (hW _ (by decide) (by decide)) rfl (fun h95 hS96 hE97 => ?_)
            have hE98 := sm_e_trans hE94 hE97
            change sm (tbr am (13 * ln) 77 5088) _ (uI (uI (uI (jn I1 K) 51 429 0) 22 0 0) 22 1 0) Y at hS96
            rw [jn_hi (c := 51) (by decide), jn_lo (c := 22) (by decide), jn_lo (c := 22) (by decide)] at hS96
            have hU99 : RU w B R H hb h95 am ln (uI K 51 429 0) ((uI (uI I1 22 0 0) 22 1 0), Q, (uZ Z 1 ((Z 1).1, (Z 1).2.1, []))) := RU_row (K' := (uI K 51 429 0)) (s := ((Z 1).1, (Z 1).2.1, [])) (by decide) (fun c j _ hc => by
              simp only [uI]
              rw [if_neg (by omega)]) (⟨fun _ => ⟨RS_w0 (RR_row hU1.2.1 (i := 1) (by decide)).1, (RR_row hU1.2.1 (i := 1) (by decide)).2.1, Nat.zero_le _, LKs_c rfl (RR_row hU1.2.1 (i := 1) (by decide)).2.2.2⟩, fun h => absurd h (by decide)⟩) (RU_I (hE98) (I' := (uI (uI I1 22 0 0) 22 1 0)) (fun _ => rfl) (fun _ => rfl) (Nat.le_refl _) hU1)
            refine bg_c_1 hr hS96 hW (hW 77 (by decide) (by decide)) (rho := 1) (s := ((Z 1).1, (Z 1).2.1, [])) (show prk (jn (uI (uI I1 22 0 0) 22 1 0) (uI K 51 429 0)) 0 from (Or.inr (Or.inr ep64))) (show ¬ (jn (uI (uI I1 22 0 0) 22 1 0) (uI K 51 429 0)) 11 0 = -1 from hnn) (show rwi (jn (uI (uI I1 22 0 0) 22 1 0) (uI K 51 429 0)) 0 = 1 from rwi_l (v := 1) ep64 (by decide)) (by decide) (by decide) (show RS (jn (uI (uI I1 22 0 0) 22 1 0) (uI K 51 429 0)) 1 ((Z 1).1, (Z 1).2.1, []) from (RR_row hU99.2.1 (i := 1) (by decide)).1) rfl hO.1.1 hO.2.2.1 hO.1.2.2 hO.2.2.2.1 (LKs_c rfl (RR_row hU1.2.1 (i := 1) (by decide)).2.2.2) (q := I 20) (by omega) (fun v10 h8 K8 g1 g2 g3 g4 => ?_)
            have g1b : sm (tbr am (13 * ln) 77 5088) h8 (jn (uI (uI I1 22 0 0) 22 1 0) K8) Y := by
              have z := g1
              rw [jn_rfr g4] at z
              exact z
            have hOm := OK_mps (t := 1) (q := I 20) (by decide) hO
            have hOm1 := hOm.1.1
            have hOm2 := hOm.2.2.2.2.1
            have hU100 : RU w B R H hb h8 am ln K8 ((uI (uI I1 22 0 0) 22 1 0), Q, uZ (uZ Z 1 ((Z 1).1, (Z 1).2.1, [])) 1 (mps ((Z 1).1, (Z 1).2.1, []) 1 (I 20))) := RU_row (i := 1) (by decide) (fun c j h50 hc => (g4 c j hc).trans (jn_ge h50)) ⟨fun _ => ⟨g3, by show (mps (Z 1) 1 (I 20)).2.1.length ≤ 32; omega, by show (mps (Z 1) 1 (I 20)).2.2.length ≤ 41; omega, LKs_mps (by decide) hO.1 (RR_row hU1.2.1 (i := 1) (by decide)).2.2.2⟩, fun h => absurd h (by decide)⟩ (RU_I g2 (I' := (uI (uI I1 22 0 0) 22 1 0)) (fun _ => rfl) (fun _ => rfl) (Nat.le_refl _) hU99)
            refine go_s (pc' := 225) rfl rfl rfl rfl ?_
            refine go_s (pc' := 226) (st' := [.int 0, .ref 62]) rfl rfl rfl rfl ?_
            have hU101 : RU w B R H hb h8 am ln K8 ((uI (uI I1 22 0 0) 22 1 0), Q, (uZ (uZ Z 1 ((Z 1).1, (Z 1).2.1, [])) 1 (mps ((Z 1).1, (Z 1).2.1, []) 1 (I 20)))) := RU_I (sm_e_refl (tbr am (13 * ln) 77 5088) _) (I' := (uI (uI I1 22 0 0) 22 1 0)) (fun _ => rfl) (fun _ => rfl) (Nat.le_refl _) hU100
            have hA102 : RA w B R H hb h8 ((uI (uI I1 22 0 0) 22 1 0), Q, (uZ (uZ Z 1 ((Z 1).1, (Z 1).2.1, [])) 1 (mps ((Z 1).1, (Z 1).2.1, []) 1 (I 20)))) := RA_u.mpr ⟨_, _, _, _, g1b, hU101⟩
            refine go_callV (pc' := 227) rfl rfl rfl (Nat.le_of_ble_eq_true rfl) rfl (sm_o g1b rfl) rfl rfl rfl (ra_tl_0 hA102 (by omega) (Or.inr (Or.inr ep64)) (fun z => absurd (ep64.symm.trans z) (by decide)) hoh1 h51 (by omega)) (fun r h103 q104 => ?_)
            obtain ⟨rfl, hA105⟩ := q104
            refine go_ret rfl rfl ?_
            have hq : mord (row1 (I, Q, Z) 0) (mbq (I, Q, Z)) (mbt (I, Q, Z)) = mord (Z 1).1 (I 20) 1 := by
              rw [show row1 (I, Q, Z) 0 = (Z 1).1 from row1_l (v := 1) e1 (by decide), hbt]
              rfl
            have hmo := mord_p (F := (Z 1).1) (q := I 20) (t := 1) c65 (fun _ => ⟨Int32.not_lt.mpr c86, c87⟩)
            have hbp : mbp (I, Q, Z) = ((uI (uI I1 22 0 0) 22 1 0), Q, (uZ (uZ Z 1 ((Z 1).1, (Z 1).2.1, [])) 1 (mps ((Z 1).1, (Z 1).2.1, []) 1 (I 20)))) := by
              unfold mbp
              rw [show rwi (I, Q, Z).1 0 = 1 from rwi_l (v := 1) e1 (by decide), hbt, uZ_r, eI]
              rfl
            have hms : rbeg (I, Q, Z) = rtl 0 ((uI (uI I1 22 0 0) 22 1 0), Q, (uZ (uZ Z 1 ((Z 1).1, (Z 1).2.1, [])) 1 (mps ((Z 1).1, (Z 1).2.1, []) 1 (I 20)))) := by
              unfold rbeg
              rw [hq, if_neg hmo.1, if_neg hmo.2, hbp]
            rw [hms]
            exact ⟨rfl, hA105⟩
          · skip
            have c87 : (I 20 2) = ((Z 1).1 9) := Decidable.not_not.mp c87'
            refine go_s (pc' := 105) rfl rfl rfl rfl ?_
            refine go_s (pc' := 106) rfl rfl rfl rfl ?_
            have hU106 : RU w B R H hb h9 am ln K (I1, Q, Z) := RU_I (sm_e_refl (tbr am (13 * ln) 77 5088) _) (I' := I1) (fun _ => rfl) (fun _ => rfl) (Nat.le_refl _) hU1
            have hA107 : RA w B R H hb h9 (I1, Q, Z) := RA_u.mpr ⟨_, _, _, _, hS9, hU106⟩
            refine go_callV (pc' := 107) rfl rfl rfl (Nat.le_of_ble_eq_true rfl) rfl (sm_o hS9 rfl) rfl rfl rfl (ra_rp_1 hA107 (by omega) (Or.inr (Or.inr ep64)) hnn hp63 (by omega)) (fun r h108 q109 => ?_)
            obtain ⟨rfl, hA110⟩ := q109
            refine go_ret rfl rfl ?_
            have hq : mord (row1 (I, Q, Z) 0) (mbq (I, Q, Z)) (mbt (I, Q, Z)) = mord (Z 1).1 (I 20) 1 := by
              rw [show row1 (I, Q, Z) 0 = (Z 1).1 from row1_l (v := 1) e1 (by decide), hbt]
              rfl
            have hmo := mord_0 (F := (Z 1).1) (q := I 20) (t := 1) c67 c87
            have hms : rbeg (I, Q, Z) = rrp 1 (I1, Q, Z) := by
              unfold rbeg
              rw [hq, if_pos hmo, hbt, eI]
            rw [hms]
            exact ⟨rfl, hA110⟩
        · skip
          refine go_ret rfl rfl ?_
          have hq : mord (row1 (I, Q, Z) 0) (mbq (I, Q, Z)) (mbt (I, Q, Z)) = mord (Z 1).1 (I 20) 1 := by
            rw [show row1 (I, Q, Z) 0 = (Z 1).1 from row1_l (v := 1) e1 (by decide), hbt]
            rfl
          have hmo := mord_n (F := (Z 1).1) (q := I 20) (t := 1) (Or.inr ⟨c67, Int32.not_le.mp c86⟩)
          have hms : rbeg (I, Q, Z) = (I1, Q, Z) := by
            unfold rbeg
            rw [hq, if_neg hmo.1, if_pos hmo.2, eI]
          have hA111 : RA w B R H hb h9 (I1, Q, Z) := RA_u.mpr ⟨_, _, _, _, hS9, hU1⟩
          rw [hms]
          exact ⟨rfl, RA_R (by omega) hA111⟩
