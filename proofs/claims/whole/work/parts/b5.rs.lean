theorem lp_in {w : Nat → Bool} {d : Nat} {J : sm_I} {Y : sm_X} {am lm as_ ls : Nat} (hr : rk am as_) {rho : Nat} {s : ms} (hp : prk J 0) (hn : ¬ J 11 0 = -1) (hrho : rwi J 0 = rho) (hls : 424 * rho + 424 ≤ ls) (hl31 : ls < 2 ^ 31) (hR : RS J rho s) {t rc : Int32} {f k : Nat} {P : Option Value → am_Hp → Prop} (hfk : f ≤ k) (hk32 : k ≤ s.2.1.length) (hl : s.2.1.length ≤ 32) (hd : 2 ≤ d) : ∀ (c i : Nat) (b : Bool) (h : am_Hp), i + c = k ∧ f ≤ i → sm (tbr am lm as_ ls) h J Y → am_Go (am_prog w) d am_c152 none 75 [some (.ref 62), some (.int t), some (.int (nI (424 * rho))), some (.int (nI f)), some (.int (nI k)), some (.int rc), some (.int (b2i (b && afs s.2.1 t rc i c))), some (.int (nI k))] [] h P → am_Go (am_prog w) d am_c152 none 44 [some (.ref 62), some (.int t), some (.int (nI (424 * rho))), some (.int (nI f)), some (.int (nI k)), some (.int rc), some (.int (b2i b)), some (.int (nI i))] [] h P := by
  intro c
  induction c with
  | zero =>
    intro i b h hk hS hP
    obtain rfl : k = i := by omega
    refine go_s (pc' := 45) rfl rfl rfl rfl ?_
    refine go_s (pc' := 46) rfl rfl rfl rfl ?_
    refine go_icmpP (t' := 75) (pc' := 47) rfl rfl rfl (fun _ => ?_) (fun (c : ¬ ((nI k) ≤ (nI k))) => absurd (Int32.le_refl _) c)
    have z := hP
    simp only [afs, Bool.and_true] at z
    exact z
  | succ c ih =>
    intro i b h hk hS hP
    obtain ⟨e, he⟩ : ∃ e, s.2.1[i]? = some e := ⟨_, List.getElem?_eq_getElem (by omega)⟩
    have ha : afs s.2.1 t rc i (c + 1) = (!(eWr e t && decide (e.2.2.1 = rc)) && afs s.2.1 t rc (i + 1) c) := by simp only [afs, he]
    cases b
    · skip
      refine go_s (pc' := 45) rfl rfl rfl rfl ?_
      refine go_s (pc' := 46) rfl rfl rfl rfl ?_
      refine go_icmpP (t' := 75) (pc' := 47) rfl rfl rfl (fun (c : (nI k) ≤ (nI i)) => absurd c (nI_ge (show i < k by omega) (by omega))) (fun _ => ?_)
      refine go_s (pc' := 48) rfl rfl rfl rfl ?_
      refine go_ifP (t' := 71) (pc' := 49) rfl rfl rfl (fun _ => ?_) (fun (c : ¬ ((0 : Int32) = 0)) => absurd (by decide) c)
      refine go_s (pc' := 72) (st' := [.int 0]) rfl rfl rfl rfl ?_
      refine go_s (pc' := 73) (lo' := [some (.ref 62), some (.int t), some (.int (nI (424 * rho))), some (.int (nI f)), some (.int (nI k)), some (.int rc), some (.int 0), some (.int (nI i))]) rfl rfl rfl rfl ?_
      refine go_ninc (pc' := 74) (a := i) (n := 1) (lo' := [some (.ref 62), some (.int t), some (.int (nI (424 * rho))), some (.int (nI f)), some (.int (nI k)), some (.int rc), some (.int 0), some (.int (nI (i + 1)))]) rfl rfl rfl rfl rfl rfl ?_
      refine go_s (pc' := 44) rfl rfl rfl rfl ?_
      refine ih (i + 1) false _ (by omega) hS ?_
      have z := hP
      simp only [Bool.false_and] at z ⊢
      exact z
    · skip
      refine go_s (pc' := 45) rfl rfl rfl rfl ?_
      refine go_s (pc' := 46) rfl rfl rfl rfl ?_
      refine go_icmpP (t' := 75) (pc' := 47) rfl rfl rfl (fun (c : (nI k) ≤ (nI i)) => absurd c (nI_ge (show i < k by omega) (by omega))) (fun _ => ?_)
      refine go_s (pc' := 48) rfl rfl rfl rfl ?_
      refine go_ifP (t' := 71) (pc' := 49) rfl rfl rfl (fun (c : (1 : Int32) = 0) => absurd c (by decide)) (fun _ => ?_)
      refine go_s (pc' := 50) rfl rfl rfl rfl ?_
      refine go_s (pc' := 51) rfl rfl rfl rfl ?_
      refine go_s (pc' := 52) rfl rfl rfl rfl ?_
      refine go_s (pc' := 53) rfl rfl rfl rfl ?_
      refine go_callV (pc' := 54) rfl rfl rfl (Nat.le_of_ble_eq_true rfl) rfl (sm_o hS rfl) rfl rfl rfl (rs_oe hr hS hp hn hrho hls hl31 hR (f := f) he (by omega) (by omega) (by omega)) (fun r h1 q2 => ?_)
      obtain ⟨rfl, rfl⟩ := q2
      cases u3 : (decide (f ≤ i) && eWr e t)
      · skip
        show am_Go _ _ _ _ 54 _ [.int 0] _ _
        refine go_ifP (t' := 69) (pc' := 55) rfl rfl rfl (fun _ => ?_) (fun (c : ¬ ((0 : Int32) = 0)) => absurd (by decide) c)
        refine go_s (pc' := 70) (st' := [.int 1]) rfl rfl rfl rfl ?_
        refine go_s (pc' := 72) rfl rfl rfl rfl ?_
        refine go_s (pc' := 73) (lo' := [some (.ref 62), some (.int t), some (.int (nI (424 * rho))), some (.int (nI f)), some (.int (nI k)), some (.int rc), some (.int 1), some (.int (nI i))]) rfl rfl rfl rfl ?_
        refine go_ninc (pc' := 74) (a := i) (n := 1) (lo' := [some (.ref 62), some (.int t), some (.int (nI (424 * rho))), some (.int (nI f)), some (.int (nI k)), some (.int rc), some (.int 1), some (.int (nI (i + 1)))]) rfl rfl rfl rfl rfl rfl ?_
        refine go_s (pc' := 44) rfl rfl rfl rfl ?_
        have hfi : decide (f ≤ i) = true := by simp; omega
        have hu : eWr e t = false := by
          have z := u3
          rw [hfi] at z
          simpa using z
        refine ih (i + 1) true _ (by omega) hS ?_
        have z := hP
        rw [ha] at z
        simp only [hu, Bool.false_and, Bool.not_false, Bool.true_and, Bool.false_and, Bool.and_true] at z ⊢
        exact z
      · skip
        show am_Go _ _ _ _ 54 _ [.int 1] _ _
        refine go_ifP (t' := 69) (pc' := 55) rfl rfl rfl (fun (c : (1 : Int32) = 0) => absurd c (by decide)) (fun _ => ?_)
        refine go_s (pc' := 56) rfl rfl rfl rfl ?_
        refine go_sget (pc' := 57) (v := .ref as_) hS rfl rfl rfl (by decide) rfl rfl ?_
        refine go_s (pc' := 58) rfl rfl rfl rfl ?_
        refine go_s (pc' := 59) (st' := [.int 48, .int (nI (424 * rho)), .ref as_]) rfl rfl rfl rfl ?_
        refine go_nadd (pc' := 60) (a := (424 * rho)) (b := 48) rfl rfl rfl rfl rfl ?_
        refine go_s (pc' := 61) (st' := [.int 4, .int (nI ((424 * rho) + 48)), .ref as_]) rfl rfl rfl rfl ?_
        refine go_s (pc' := 62) rfl rfl rfl rfl ?_
        refine go_nmul (pc' := 63) (a := 4) (b := i) rfl rfl rfl rfl rfl ?_
        refine go_nadd (pc' := 64) (a := ((424 * rho) + 48)) (b := (4 * i)) rfl rfl rfl rfl rfl ?_
        refine go_s (pc' := 65) (st' := [.int 2, .int (nI (((424 * rho) + 48) + (4 * i))), .ref as_]) rfl rfl rfl rfl ?_
        refine go_nadd (pc' := 66) (a := (((424 * rho) + 48) + (4 * i))) (b := 2) rfl rfl rfl rfl rfl ?_
        refine go_sald (pc' := 67) (q := ((((424 * rho) + 48) + (4 * i)) + 2)) (v := .int (en e 2)) hS rfl (tr_as hr (by omega)) rfl rfl (by omega) (congrArg Value.int (hR.2.2.2.1 i e he 2 (by decide))) rfl ?_
        refine go_s (pc' := 68) rfl rfl rfl rfl ?_
        refine go_icmpP (t' := 71) (pc' := 69) rfl rfl rfl (fun (c4 : (en e 2) = rc) => ?_) (fun (c4 : ¬ (en e 2) = rc) => ?_)
        · skip
          refine go_s (pc' := 72) (st' := [.int 0]) rfl rfl rfl rfl ?_
          refine go_s (pc' := 73) (lo' := [some (.ref 62), some (.int t), some (.int (nI (424 * rho))), some (.int (nI f)), some (.int (nI k)), some (.int rc), some (.int 0), some (.int (nI i))]) rfl rfl rfl rfl ?_
          refine go_ninc (pc' := 74) (a := i) (n := 1) (lo' := [some (.ref 62), some (.int t), some (.int (nI (424 * rho))), some (.int (nI f)), some (.int (nI k)), some (.int rc), some (.int 0), some (.int (nI (i + 1)))]) rfl rfl rfl rfl rfl rfl ?_
          refine go_s (pc' := 44) rfl rfl rfl rfl ?_
          have hfi : decide (f ≤ i) = true := by simp; omega
          have hu : eWr e t = true := by
            have z := u3
            rw [hfi] at z
            simpa using z
          have hd9 : decide (e.2.2.1 = rc) = true := by simp [show e.2.2.1 = rc from c4]
          refine ih (i + 1) false _ (by omega) hS ?_
          have z := hP
          rw [ha] at z
          simp only [hu, hd9, Bool.true_and, Bool.not_false, Bool.not_true, Bool.true_and, Bool.false_and, Bool.and_true] at z ⊢
          exact z
        · skip
          refine go_s (pc' := 70) (st' := [.int 1]) rfl rfl rfl rfl ?_
          refine go_s (pc' := 72) rfl rfl rfl rfl ?_
          refine go_s (pc' := 73) (lo' := [some (.ref 62), some (.int t), some (.int (nI (424 * rho))), some (.int (nI f)), some (.int (nI k)), some (.int rc), some (.int 1), some (.int (nI i))]) rfl rfl rfl rfl ?_
          refine go_ninc (pc' := 74) (a := i) (n := 1) (lo' := [some (.ref 62), some (.int t), some (.int (nI (424 * rho))), some (.int (nI f)), some (.int (nI k)), some (.int rc), some (.int 1), some (.int (nI (i + 1)))]) rfl rfl rfl rfl rfl rfl ?_
          refine go_s (pc' := 44) rfl rfl rfl rfl ?_
          have hfi : decide (f ≤ i) = true := by simp; omega
          have hu : eWr e t = true := by
            have z := u3
            rw [hfi] at z
            simpa using z
          have hd9 : decide (e.2.2.1 = rc) = false := by simp [show ¬ e.2.2.1 = rc from c4]
          refine ih (i + 1) true _ (by omega) hS ?_
          have z := hP
          rw [ha] at z
          simp only [hu, hd9, Bool.true_and, Bool.not_false, Bool.not_true, Bool.true_and, Bool.false_and, Bool.and_true] at z ⊢
          exact z
theorem lp_bo {w : Nat → Bool} {d : Nat} {J : sm_I} {Y : sm_X} {am lm as_ ls : Nat} (hr : rk am as_) {rho : Nat} (hp : prk J 0) (hn : ¬ J 11 0 = -1) (hrho : rwi J 0 = rho) (hls : 424 * rho + 424 ≤ ls) (hl31 : ls < 2 ^ 31) (hW : ∀ a, 62 ≤ a → a ≤ 88 → w a = true) (hWa : w as_ = true) {L : List ms_E} {t : Int32} {f : Nat} {h0 : am_Hp} {P : Option Value → am_Hp → Prop} (hl : L.length ≤ 32) (hf32 : f ≤ 32) (hrk : rok L t) (hd : 3 ≤ d) : ∀ (n : Nat) (K : sm_I) (m : ms) (h : am_Hp) (v5 v6 v7 : Option Value), n ≤ L.length → m.2.1 = L → sm (tbr am lm as_ ls) h K Y → sm_e (tbr am lm as_ ls) h0 h → RS K rho m → rfr J K rho → m.2.2.length + cw L t n ≤ 40 → (∀ K h v4 v5 v6 v7, sm (tbr am lm as_ ls) h K Y → sm_e (tbr am lm as_ ls) h0 h → RS K rho (bko L t f n m) → rfr J K rho → (bko L t f n m).2.1 = L → (bko L t f n m).2.2.length ≤ 40 → am_Go (am_prog w) d am_c152 none 115 [some (.ref 62), some (.int t), some (.int (nI (424 * rho))), some (.int (nI f)), v4, v5, v6, v7] [] h P) → am_Go (am_prog w) d am_c152 none 17 [some (.ref 62), some (.int t), some (.int (nI (424 * rho))), some (.int (nI f)), some (.int (nI n - 1)), v5, v6, v7] [] h P := by
  intro n
  induction n with
  | zero =>
    intro K m h v5 v6 v7 hnl hml hS hE0 hR hf hww hP
    have hml2 : m.2.1.length = L.length := by rw [hml]
    refine go_s (pc' := 18) rfl rfl rfl rfl ?_
    refine go_s (pc' := 19) rfl rfl rfl rfl ?_
    refine go_icmpP (t' := 115) (pc' := 20) rfl rfl rfl (fun _ => ?_) (fun (c : ¬ ((nI 0 - 1) < (nI f))) => absurd (show (nI 0 - 1) < nI f from Int32.not_le.mp (fun z => absurd (Int32.le_trans (Int32.not_lt.mp (nI_pos (n := f) (by omega))) z) (by decide))) c)
    exact hP K h _ v5 v6 v7 hS hE0 hR hf hml (Nat.le_trans (Nat.le_add_right _ _) hww)
  | succ n ih =>
    intro K m h v5 v6 v7 hnl hml hS hE0 hR hf hww hP
    have hml2 : m.2.1.length = L.length := by rw [hml]
    obtain ⟨e, he⟩ : ∃ e, L[n]? = some e := ⟨_, List.getElem?_eq_getElem (by omega)⟩
    have he2 : m.2.1[n]? = some e := by rw [hml]; exact he
    have hpK : prk K 0 := by unfold prk; rw [rfr_c hf (by omega)]; exact hp
    have hnK : ¬ K 11 0 = -1 := by rw [rfr_c hf (by omega)]; exact hn
    have hrhoK : rwi K 0 = rho := (rfr_w hf).trans hrho
    have e1 : nI (n + 1) - 1 = nI n := by rw [← nI_1, Int32.add_sub_cancel]
    rw [e1]
    by_cases hnf : n < f
    · skip
      refine go_s (pc' := 18) rfl rfl rfl rfl ?_
      refine go_s (pc' := 19) rfl rfl rfl rfl ?_
      refine go_icmpP (t' := 115) (pc' := 20) rfl rfl rfl (fun _ => ?_) (fun (c : ¬ ((nI n) < (nI f))) => absurd (Int32.not_le.mp (nI_ge hnf (by omega))) c)
      have hb : bko L t f (n + 1) m = m := by simp only [bko, if_pos hnf]
      rw [hb] at hP
      exact hP K h _ v5 v6 v7 hS hE0 hR hf hml (Nat.le_trans (Nat.le_add_right _ _) hww)
    · skip
      have hb : bko L t f (n + 1) m = bko L t f n (if (eWr e t && fst1 L t e.2.2.1 f n) = true then mR m e.2.2.1.toNatClampNeg e.2.2.2 else m) := by simp only [bko, if_neg hnf, he]
      rw [hb] at hP
      refine go_s (pc' := 18) rfl rfl rfl rfl ?_
      refine go_s (pc' := 19) rfl rfl rfl rfl ?_
      refine go_icmpP (t' := 115) (pc' := 20) rfl rfl rfl (fun (c : (nI n) < (nI f)) => absurd c (Int32.not_lt.mpr (nI_le (show f ≤ n by omega) (by omega)))) (fun _ => ?_)
      refine go_s (pc' := 21) rfl rfl rfl rfl ?_
      refine go_s (pc' := 22) rfl rfl rfl rfl ?_
      refine go_s (pc' := 23) rfl rfl rfl rfl ?_
      refine go_s (pc' := 24) rfl rfl rfl rfl ?_
      refine go_callV (pc' := 25) rfl rfl rfl (Nat.le_of_ble_eq_true rfl) rfl (sm_o hS rfl) rfl rfl rfl (rs_oe hr hS hpK hnK hrhoK hls hl31 hR (f := f) he2 (by omega) (by omega) (by omega)) (fun r h1 q2 => ?_)
      obtain ⟨rfl, rfl⟩ := q2
      cases u3 : (decide (f ≤ n) && eWr e t)
      · skip
        show am_Go _ _ _ _ 25 _ [.int 0] _ _
        refine go_ifP (t' := 27) (pc' := 26) rfl rfl rfl (fun (c : ¬ (0 : Int32) = 0) => absurd c (by decide)) (fun _ => ?_)
        have hu : eWr e t = false := by
          have z := u3
          rw [show decide (f ≤ n) = true by simp; omega] at z
          simpa using z
        refine go_s (pc' := 113) rfl rfl rfl rfl ?_
        refine go_ndec (pc' := 114) (lo' := [some (.ref 62), some (.int t), some (.int (nI (424 * rho))), some (.int (nI f)), some (.int (nI n - 1)), v5, v6, v7]) rfl rfl rfl rfl ?_
        refine go_s (pc' := 17) rfl rfl rfl rfl ?_
        rw [if_neg (by rw [show (eWr e t && fst1 L t e.2.2.1 f n) = false by rw [hu]; rfl]; decide)] at hP
        exact ih K m _ _ _ _ (by omega) hml hS hE0 hR hf (by have z := hww; simp only [cw, he] at z; omega) hP
      · skip
        show am_Go _ _ _ _ 25 _ [.int 1] _ _
        refine go_ifP (t' := 27) (pc' := 26) rfl rfl rfl (fun _ => ?_) (fun (c : ¬ (¬ (1 : Int32) = 0)) => absurd (by decide) c)
        have hu : eWr e t = true := by
          have z := u3
          rw [show decide (f ≤ n) = true by simp; omega] at z
          simpa using z
        obtain ⟨q, hq, eq⟩ := hrk n e he hu
        refine go_s (pc' := 28) rfl rfl rfl rfl ?_
        refine go_sget (pc' := 29) (v := .ref as_) hS rfl rfl rfl (by decide) rfl rfl ?_
        refine go_s (pc' := 30) rfl rfl rfl rfl ?_
        refine go_s (pc' := 31) (st' := [.int 48, .int (nI (424 * rho)), .ref as_]) rfl rfl rfl rfl ?_
        refine go_nadd (pc' := 32) (a := (424 * rho)) (b := 48) rfl rfl rfl rfl rfl ?_
        refine go_s (pc' := 33) (st' := [.int 4, .int (nI ((424 * rho) + 48)), .ref as_]) rfl rfl rfl rfl ?_
        refine go_s (pc' := 34) rfl rfl rfl rfl ?_
        refine go_nmul (pc' := 35) (a := 4) (b := n) rfl rfl rfl rfl rfl ?_
        refine go_nadd (pc' := 36) (a := ((424 * rho) + 48)) (b := (4 * n)) rfl rfl rfl rfl rfl ?_
        refine go_s (pc' := 37) (st' := [.int 2, .int (nI (((424 * rho) + 48) + (4 * n))), .ref as_]) rfl rfl rfl rfl ?_
        refine go_nadd (pc' := 38) (a := (((424 * rho) + 48) + (4 * n))) (b := 2) rfl rfl rfl rfl rfl ?_
        refine go_sald (pc' := 39) (q := ((((424 * rho) + 48) + (4 * n)) + 2)) (v := .int (nI q)) hS rfl (tr_as hr (by omega)) rfl rfl (by omega) (congrArg Value.int ((hR.2.2.2.1 n e he2 2 (by decide)).trans eq)) rfl ?_
        refine go_s (pc' := 40) (lo' := [some (.ref 62), some (.int t), some (.int (nI (424 * rho))), some (.int (nI f)), some (.int (nI n)), some (.int (nI q)), v6, v7]) rfl rfl rfl rfl ?_
        refine go_s (pc' := 41) (st' := [.int 1]) rfl rfl rfl rfl ?_
        refine go_s (pc' := 42) (lo' := [some (.ref 62), some (.int t), some (.int (nI (424 * rho))), some (.int (nI f)), some (.int (nI n)), some (.int (nI q)), some (.int 1), v7]) rfl rfl rfl rfl ?_
        refine go_s (pc' := 43) rfl rfl rfl rfl ?_
        refine go_s (pc' := 44) (lo' := [some (.ref 62), some (.int t), some (.int (nI (424 * rho))), some (.int (nI f)), some (.int (nI n)), some (.int (nI q)), some (.int 1), some (.int (nI f))]) rfl rfl rfl rfl ?_
        refine lp_in hr hpK hnK hrhoK hls hl31 hR (t := t) (rc := nI q) (f := f) (k := n) (by omega) (by omega) (by omega) (by omega) (n - f) f true _ ⟨by omega, Nat.le_refl _⟩ hS ?_
        have hfs : (true && afs m.2.1 t (nI q) f (n - f)) = fst1 L t e.2.2.1 f n := by rw [hml, eq]; rfl
        rw [hfs]
        cases hfi : fst1 L t e.2.2.1 f n
        · skip
          show am_Go _ _ _ _ 75 [some (.ref 62), some (.int t), some (.int (nI (424 * rho))), some (.int (nI f)), some (.int (nI n)), some (.int (nI q)), some (.int 0), some (.int (nI n))] _ _ _
          refine go_s (pc' := 76) rfl rfl rfl rfl ?_
          refine go_ifP (t' := 78) (pc' := 77) rfl rfl rfl (fun (c : ¬ (0 : Int32) = 0) => absurd c (by decide)) (fun _ => ?_)
          refine go_s (pc' := 113) rfl rfl rfl rfl ?_
          refine go_ndec (pc' := 114) (lo' := [some (.ref 62), some (.int t), some (.int (nI (424 * rho))), some (.int (nI f)), some (.int (nI n - 1)), some (.int (nI q)), some (.int 0), some (.int (nI n))]) rfl rfl rfl rfl ?_
          refine go_s (pc' := 17) rfl rfl rfl rfl ?_
          rw [if_neg (by rw [show (eWr e t && fst1 L t e.2.2.1 f n) = false by rw [hu, hfi]; rfl]; decide)] at hP
          exact ih K m _ _ _ _ (by omega) hml hS hE0 hR hf (by have z := hww; simp only [cw, he] at z; omega) hP
        · skip
          show am_Go _ _ _ _ 75 [some (.ref 62), some (.int t), some (.int (nI (424 * rho))), some (.int (nI f)), some (.int (nI n)), some (.int (nI q)), some (.int 1), some (.int (nI n))] _ _ _
          refine go_s (pc' := 76) rfl rfl rfl rfl ?_
          refine go_ifP (t' := 78) (pc' := 77) rfl rfl rfl (fun _ => ?_) (fun (c : ¬ (¬ (1 : Int32) = 0)) => absurd (by decide) c)
          refine go_s (pc' := 79) rfl rfl rfl rfl ?_
          refine go_sget (pc' := 80) (v := .ref as_) hS rfl rfl rfl (by decide) rfl rfl ?_
          refine go_s (pc' := 81) rfl rfl rfl rfl ?_
          refine go_s (pc' := 82) (st' := [.int 16, .int (nI (424 * rho)), .ref as_]) rfl rfl rfl rfl ?_
          refine go_nadd (pc' := 83) (a := (424 * rho)) (b := 16) rfl rfl rfl rfl rfl ?_
          refine go_s (pc' := 84) rfl rfl rfl rfl ?_
          refine go_nadd (pc' := 85) (a := ((424 * rho) + 16)) (b := q) rfl rfl rfl rfl rfl ?_
          refine go_s (pc' := 86) rfl rfl rfl rfl ?_
          refine go_sget (pc' := 87) (v := .ref as_) hS rfl rfl rfl (by decide) rfl rfl ?_
          refine go_s (pc' := 88) rfl rfl rfl rfl ?_
          refine go_s (pc' := 89) (st' := [.int 48, .int (nI (424 * rho)), .ref as_, .int (nI (((424 * rho) + 16) + q)), .ref as_]) rfl rfl rfl rfl ?_
          refine go_nadd (pc' := 90) (a := (424 * rho)) (b := 48) rfl rfl rfl rfl rfl ?_
          refine go_s (pc' := 91) (st' := [.int 4, .int (nI ((424 * rho) + 48)), .ref as_, .int (nI (((424 * rho) + 16) + q)), .ref as_]) rfl rfl rfl rfl ?_
          refine go_s (pc' := 92) rfl rfl rfl rfl ?_
          refine go_nmul (pc' := 93) (a := 4) (b := n) rfl rfl rfl rfl rfl ?_
          refine go_nadd (pc' := 94) (a := ((424 * rho) + 48)) (b := (4 * n)) rfl rfl rfl rfl rfl ?_
          refine go_s (pc' := 95) (st' := [.int 3, .int (nI (((424 * rho) + 48) + (4 * n))), .ref as_, .int (nI (((424 * rho) + 16) + q)), .ref as_]) rfl rfl rfl rfl ?_
          refine go_nadd (pc' := 96) (a := (((424 * rho) + 48) + (4 * n))) (b := 3) rfl rfl rfl rfl rfl ?_
          refine go_sald (pc' := 97) (q := ((((424 * rho) + 48) + (4 * n)) + 3)) (v := .int (en e 3)) hS rfl (tr_as hr (by omega)) rfl rfl (by omega) (congrArg Value.int (hR.2.2.2.1 n e he2 3 (by decide))) rfl ?_
          refine go_siast (pc' := 98) (q := (((424 * rho) + 16) + q)) hS rfl (tr_as hr (by omega)) tbr_inj (Nat.le_of_ble_eq_true rfl) rfl (by omega) (rk_0 hr).2 hWa rfl (fun h4 hS5 hE6 => ?_)
          have hR2 : RS (uI K 51 (((424 * rho) + 16) + q) (en e 3)) rho (uF m.1 (16 + q) (e.2.2.2), m.2) := by
            have z := RS_F (j := 16 + q) (v := e.2.2.2) hR (by omega) (by omega) (by omega)
            rw [show 424 * rho + (16 + q) = 424 * rho + 16 + q by omega] at z
            exact z
          have hf2 : rfr K (uI K 51 (((424 * rho) + 16) + q) (en e 3)) rho := rfr_trans (rfr_refl _ _) (rfr_u (by omega) (by omega))
          obtain ⟨K2, eK2⟩ : ∃ y, y = (uI K 51 (((424 * rho) + 16) + q) (en e 3)) := ⟨_, rfl⟩
          change sm (tbr am lm as_ ls) _ (uI K 51 (((424 * rho) + 16) + q) (en e 3)) Y at hS5
          rw [← eK2] at hR2 hf2 hS5
          refine go_s (pc' := 99) rfl rfl rfl rfl ?_
          refine go_s (pc' := 100) rfl rfl rfl rfl ?_
          refine go_s (pc' := 101) rfl rfl rfl rfl ?_
          refine go_sget (pc' := 102) (v := .ref as_) hS5 rfl rfl rfl (by decide) rfl rfl ?_
          refine go_s (pc' := 103) rfl rfl rfl rfl ?_
          refine go_s (pc' := 104) (st' := [.int 16, .int (nI (424 * rho)), .ref as_, .int (nI q), .ref 62]) rfl rfl rfl rfl ?_
          refine go_nadd (pc' := 105) (a := (424 * rho)) (b := 16) rfl rfl rfl rfl rfl ?_
          refine go_s (pc' := 106) rfl rfl rfl rfl ?_
          refine go_nadd (pc' := 107) (a := ((424 * rho) + 16)) (b := q) rfl rfl rfl rfl rfl ?_
          refine go_sald (pc' := 108) (q := (((424 * rho) + 16) + q)) (v := .int e.2.2.2) hS5 rfl (tr_as hr (by omega)) rfl rfl (by omega) (congrArg Value.int (by rw [show 424 * rho + 16 + q = 424 * rho + (16 + q) by omega, hR2.1 (16 + q) (by omega) (by omega) (by omega)]; simp [uF])) rfl ?_
          refine go_s (pc' := 109) (st' := [.int 0, .int e.2.2.2, .int (nI q), .ref 62]) rfl rfl rfl rfl ?_
          refine go_s (pc' := 110) (st' := [.int 0, .int 0, .int e.2.2.2, .int (nI q), .ref 62]) rfl rfl rfl rfl ?_
          refine go_s (pc' := 111) (st' := [.int 0, .int 0, .int 0, .int e.2.2.2, .int (nI q), .ref 62]) rfl rfl rfl rfl ?_
          refine go_s (pc' := 112) (st' := [.int 0, .int 0, .int 0, .int 0, .int e.2.2.2, .int (nI q), .ref 62]) rfl rfl rfl rfl ?_
          refine go_callV (pc' := 113) rfl rfl rfl (Nat.le_of_ble_eq_true rfl) rfl (sm_o hS5 rfl) rfl rfl rfl (rs_aw hr hS5 hW hWa (s := (uF m.1 (16 + q) (e.2.2.2), m.2)) (by unfold prk; rw [rfr_c hf2 (by omega)]; exact hpK) (by rw [rfr_c hf2 (by omega)]; exact hnK) ((rfr_w hf2).trans hrhoK) hls hl31 hR2 (by show m.2.2.length < 41; have z := hww; simp only [cw, he, hu, if_true] at z; omega) (by show m.2.1.length ≤ 32; omega) (by omega)) (fun r h7 q8 => ?_)
          obtain ⟨rfl, K3, hS3, hE3, hR3, hf3a⟩ := q8
          have hf3 := rfr_trans hf2 hf3a
          have hq0 : e.2.2.1.toNatClampNeg = q := by rw [eq]; exact nI_clamp (by omega)
          change RS K3 rho (mR m q e.2.2.2) at hR3
          rw [if_pos (by rw [hu, hfi]; rfl), hq0] at hP
          have hE9 := sm_e_trans hE6 hE3
          have hq0 : q = q := rfl
          refine go_ndec (pc' := 114) (lo' := [some (.ref 62), some (.int t), some (.int (nI (424 * rho))), some (.int (nI f)), some (.int (nI n - 1)), some (.int (nI q)), some (.int 1), some (.int (nI n))]) rfl rfl rfl rfl ?_
          refine go_s (pc' := 17) rfl rfl rfl rfl ?_
          exact ih K3 (mR m q e.2.2.2) _ _ _ _ (by omega) hml hS3 (sm_e_trans hE0 hE9) hR3 (rfr_trans hf hf3) (by show (m.2.2 ++ [_]).length + cw L t n ≤ 40; have z := hww; simp only [cw, he, hu, if_true] at z; simp; omega) (hq0 ▸ hP)
theorem rs_bo {w : Nat → Bool} {d : Nat} {h : am_Hp} {J : sm_I} {Y : sm_X} {am lm as_ ls : Nat} (hr : rk am as_) (hS : sm (tbr am lm as_ ls) h J Y) (hW : ∀ a, 62 ≤ a → a ≤ 88 → w a = true) (hWa : w as_ = true) {rho : Nat} {s : ms} (hp : prk J 0) (hn : ¬ J 11 0 = -1) (hrho : rwi J 0 = rho) (hls : 424 * rho + 424 ≤ ls) (hl31 : ls < 2 ^ 31) (hR : RS J rho s) {t : Int32} (hl : s.2.1.length < 32) (hK : EK s.2.1) (hrk : rok s.2.1 t) (hww : s.2.2.length + cw s.2.1 t s.2.1.length ≤ 40) (hd : 4 ≤ d) : am_Ev (am_prog w) d 152 [.ref 62, .int t] h (fun r h' => r = none ∧ ∃ K, sm (tbr am lm as_ ls) h' K Y ∧ sm_e (tbr am lm as_ ls) h h' ∧ RS K rho (mB s t) ∧ rfr J K rho) := by
  obtain ⟨d, rfl⟩ : ∃ e, d = e + 1 := ⟨d - 1, by omega⟩
  refine ev_go rfl (Nat.le_of_ble_eq_true rfl) rfl ?_
  refine go_s (pc' := 1) rfl rfl rfl rfl ?_
  refine go_s (pc' := 2) (st' := [.int 0, .ref 62]) rfl rfl rfl rfl ?_
  refine go_callV (pc' := 3) rfl rfl rfl (Nat.le_of_ble_eq_true rfl) rfl (sm_o hS rfl) rfl rfl rfl (rt_at_0 hr hS hp hn (by omega)) (fun r h1 q2 => ?_)
  obtain ⟨rfl, rfl⟩ := q2
  rw [show rwi J 0 = rho from hrho]
  refine go_s (pc' := 4) (lo' := [some (.ref 62), some (.int t), some (.int (nI (424 * rho))), none, none, none, none, none]) rfl rfl rfl rfl ?_
  refine go_s (pc' := 5) rfl rfl rfl rfl ?_
  refine go_s (pc' := 6) rfl rfl rfl rfl ?_
  refine go_callV (pc' := 7) rfl rfl rfl (Nat.le_of_ble_eq_true rfl) rfl (sm_o hS rfl) rfl rfl rfl (rs_bg hr hS hp hn hrho hls hl31 hR (by omega) hK (by omega)) (fun r h3 q4 => ?_)
  obtain ⟨rfl, rfl⟩ := q4
  refine go_s (pc' := 8) (lo' := [some (.ref 62), some (.int t), some (.int (nI (424 * rho))), some (.int (nI (mof s t))), none, none, none, none]) rfl rfl rfl rfl ?_
  refine go_s (pc' := 9) rfl rfl rfl rfl ?_
  refine go_sget (pc' := 10) (v := .ref as_) hS rfl rfl rfl (by decide) rfl rfl ?_
  refine go_s (pc' := 11) rfl rfl rfl rfl ?_
  refine go_s (pc' := 12) (st' := [.int 2, .int (nI (424 * rho)), .ref as_]) rfl rfl rfl rfl ?_
  refine go_nadd (pc' := 13) (a := (424 * rho)) (b := 2) rfl rfl rfl rfl rfl ?_
  refine go_sald (pc' := 14) (q := ((424 * rho) + 2)) (v := .int (nI (List.length s.2.1))) hS rfl (tr_as hr (by omega)) rfl rfl (by omega) (congrArg Value.int hR.2.1) rfl ?_
  refine go_s (pc' := 15) (st' := [.int 1, .int (nI (List.length s.2.1))]) rfl rfl rfl rfl ?_
  refine go_s (pc' := 16) rfl rfl rfl rfl ?_
  refine go_s (pc' := 17) (lo' := [some (.ref 62), some (.int t), some (.int (nI (424 * rho))), some (.int (nI (mof s t))), some (.int (nI (List.length s.2.1) - 1)), none, none, none]) rfl rfl rfl rfl ?_
  have hml : mof s t ≤ s.2.1.length := opn_le _ _ _ (Nat.le_refl _)
  refine lp_bo (d := d) hr hp hn hrho hls hl31 hW hWa (L := s.2.1) (t := t) (f := mof s t) (by omega) (by omega) hrk (by omega) s.2.1.length J s _ none none none (Nat.le_refl _) rfl hS (sm_e_refl _ _) hR (rfr_refl _ _) hww ?_
  intro K h9 v4 v5 v6 v7 hSK hEK hRK hfK hlK hwK
  have hpK : prk K 0 := by unfold prk; rw [rfr_c hfK (by omega)]; exact hp
  have hnK : ¬ K 11 0 = -1 := by rw [rfr_c hfK (by omega)]; exact hn
  have hrhoK : rwi K 0 = rho := (rfr_w hfK).trans hrho
  refine go_s (pc' := 116) rfl rfl rfl rfl ?_
  refine go_s (pc' := 117) (st' := [.int 3, .ref 62]) rfl rfl rfl rfl ?_
  refine go_s (pc' := 118) rfl rfl rfl rfl ?_
  refine go_s (pc' := 119) (st' := [.int 0, .int t, .int 3, .ref 62]) rfl rfl rfl rfl ?_
  refine go_s (pc' := 120) (st' := [.int 0, .int 0, .int t, .int 3, .ref 62]) rfl rfl rfl rfl ?_
  refine go_callV (pc' := 121) rfl rfl rfl (Nat.le_of_ble_eq_true rfl) rfl (sm_o hSK rfl) rfl rfl rfl (rs_ae hr hSK hW hWa hpK hnK hrhoK hls hl31 hRK (by omega) (by rw [hlK]; omega) (by omega)) (fun r h5 q6 => ?_)
  obtain ⟨rfl, K2, hS2, hE2, hR2, hf2⟩ := q6
  refine go_ret rfl rfl ?_
  exact ⟨rfl, K2, hS2, sm_e_trans hEK hE2, hR2, rfr_trans hfK hf2⟩
