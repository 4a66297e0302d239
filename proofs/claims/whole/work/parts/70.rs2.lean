theorem lp_rd {w : Nat → Bool} {d : Nat} {Y : sm_X} {ad : Nat → Nat} {S : sm_I} {h0 : am_Hp} {Q : Option Value → am_Hp → Prop} (hA : adk ad) (hZ : ∀ i, i < 12 → ad i ≠ 0) (hW : ∀ i, i < 12 → w (ad i) = true) {aw : Nat} {vs : List Value} {f : Nat → Int32} (hvs : ∀ j, j < 245 → vs[j]? = some (.int (f j))) (hwn : tbs ad aw = none) (K : ∀ c h, rd f (S 0 1) 32 0 = c → c ≤ 32 → sm (tbs ad) h (uI S 0 2 (nI c)) Y → h[aw]? = some (.inr (.int, vs)) → sm_e (tbs ad) h0 h → am_Go (am_prog w) d am_c75 none 24 [some (.ref (ad 0)), some (.ref aw), some (.int (nI 85))] [] h Q) : ∀ (k n : Nat) (h : am_Hp), n + k = 32 ∧ rd f (S 0 1) k n = rd f (S 0 1) 32 0 → sm (tbs ad) h (uI S 0 2 (nI n)) Y → h[aw]? = some (.inr (.int, vs)) → sm_e (tbs ad) h0 h → am_Go (am_prog w) d am_c75 none 2 [some (.ref (ad 0)), some (.ref aw), some (.int (nI 85))] [] h Q := by
  intro k
  induction k with
  | zero =>
    intro n h hn hS hwd hE0
    obtain rfl : n = 32 := by omega
    refine go_s (pc' := 3) rfl rfl rfl rfl ?_
    refine go_sget (pc' := 4) (v := .int (nI 32)) hS rfl rfl (tbs_s hA (i := 0) (by decide) rfl) (by decide) rfl rfl ?_
    refine go_s (pc' := 5) (st' := [.int 32, .int (nI 32)]) rfl rfl rfl rfl ?_
    refine go_icmpP (t' := 24) (pc' := 6) rfl rfl rfl (fun _ => ?_) (fun (c : ¬ (32 ≤ (nI 32))) => absurd (by decide) c)
    exact K 32 _ hn.2.symm (by omega) hS hwd hE0
  | succ k ih =>
    intro n h hn hS hwd hE0
    refine go_s (pc' := 3) rfl rfl rfl rfl ?_
    refine go_sget (pc' := 4) (v := .int (nI n)) hS rfl rfl (tbs_s hA (i := 0) (by decide) rfl) (by decide) rfl rfl ?_
    refine go_s (pc' := 5) (st' := [.int 32, .int (nI n)]) rfl rfl rfl rfl ?_
    refine go_icmpP (t' := 24) (pc' := 6) rfl rfl rfl (fun (c : 32 ≤ (nI n)) => absurd c (nI_ge (b := 32) (by omega) (by decide))) (fun _ => ?_)
    refine go_s (pc' := 7) rfl rfl rfl rfl ?_
    refine go_s (pc' := 8) rfl rfl rfl rfl ?_
    refine go_s (pc' := 9) rfl rfl rfl rfl ?_
    refine go_sget (pc' := 10) (v := .int (nI n)) hS rfl rfl (tbs_s hA (i := 0) (by decide) rfl) (by decide) rfl rfl ?_
    refine go_s (pc' := 11) (st' := [.int 5, .int (nI n), .int (nI 85), .ref aw]) rfl rfl rfl rfl ?_
    refine go_nmul (pc' := 12) (a := n) (b := 5) rfl rfl rfl rfl rfl ?_
    refine go_nadd (pc' := 13) (a := 85) (b := (n * 5)) rfl rfl rfl rfl rfl ?_
    refine go_ald (pc' := 14) (q := (85 + (n * 5))) (v := .int (f (85 + (n * 5)))) rfl rfl hwd rfl (by omega) (hvs _ (by omega)) rfl ?_
    refine go_s (pc' := 15) rfl rfl rfl rfl ?_
    refine go_sget (pc' := 16) (v := .int (S 0 1)) hS rfl rfl (tbs_s hA (i := 0) (by decide) rfl) (by decide) rfl rfl ?_
    refine go_icmpP (t' := 24) (pc' := 17) rfl rfl rfl (fun (c1 : ¬ (f (85 + (n * 5))) = (S 0 1)) => ?_) (fun (c1' : ¬ ¬ (f (85 + (n * 5))) = (S 0 1)) => ?_)
    · skip
      have hr : rd f (S 0 1) (k + 1) n = n := by
        simp only [rd]
        rw [if_neg (by rw [show 85 + 5 * n = 85 + n * 5 by omega]; exact c1)]
      exact K n _ (hn.2.symm.trans hr) (by omega) hS hwd hE0
    · skip
      have c1 : (f (85 + (n * 5))) = (S 0 1) := Decidable.not_not.mp c1'
      refine go_s (pc' := 18) rfl rfl rfl rfl ?_
      refine go_s (pc' := 19) rfl rfl rfl rfl ?_
      refine go_sget (pc' := 20) (v := .int (nI n)) hS rfl rfl (tbs_s hA (i := 0) (by decide) rfl) (by decide) rfl rfl ?_
      refine go_s (pc' := 21) (st' := [.int 1, .int (nI n), .ref (ad 0)]) rfl rfl rfl rfl ?_
      refine go_nadd (pc' := 22) (a := n) (b := 1) rfl rfl rfl rfl rfl ?_
      refine go_sput (pc' := 23) hS rfl rfl (tbs_s hA (i := 0) (by decide) rfl) (by decide) tbs_inj (Nat.le_of_ble_eq_true rfl) rfl (hW 0 (by decide)) rfl (fun h2 hS3 hE4 => ?_)
      have hq5 := (hE4.2.2 _ hwn).trans hwd
      refine go_s (pc' := 2) rfl rfl rfl rfl ?_
      have hu : uI (uI S 0 2 (nI n)) 0 2 (nI (n + 1)) = uI S 0 2 (nI (n + 1)) := by
        funext c j
        simp only [uI]
        split <;> rfl
      have hr : rd f (S 0 1) (k + 1) n = rd f (S 0 1) k (n + 1) := by
        rw [rd, if_pos (by rw [show 85 + 5 * n = 85 + n * 5 by omega]; exact c1)]
      exact ih (n + 1) _ ⟨by omega, hr.symm.trans hn.2⟩ (by rw [← hu]; exact hS3) hq5 (sm_e_trans hE0 hE4)
theorem cs_rdT {w : Nat → Bool} {d : Nat} {h : am_Hp} {S : sm_I} {Y : sm_X} {ad : Nat → Nat} (hA : adk ad) (hS : sm (tbs ad) h S Y) (hZ : ∀ i, i < 12 → ad i ≠ 0) (hW : ∀ i, i < 12 → w (ad i) = true) {aw : Nat} {vs : List Value} {f : Nat → Int32} (hwd : h[aw]? = some (.inr (.int, vs))) (hvs : ∀ j, j < 245 → vs[j]? = some (.int (f j))) (hvl : vs.length = 245) (hwn : tbs ad aw = none) (hwz : aw ≠ 0) (he : S 0 2 = 0) (hd : 1 ≤ d) : am_Ev (am_prog w) d 75 [.ref (ad 0), .ref aw] h (fun r h' => r = none ∧ sm (tbs ad) h' (uC (uI S 0 2 (nI (rd f (S 0 1) 32 0))) 8 0 (rd f (S 0 1) 32 0 * 5) (fun j => f (85 + j))) Y ∧ sm_e (tbs ad) h h') := by
  obtain ⟨d, rfl⟩ : ∃ e, d = e + 1 := ⟨d - 1, by omega⟩
  refine ev_go rfl (Nat.le_of_ble_eq_true rfl) rfl ?_
  refine go_s (pc' := 1) (st' := [.int 85]) rfl rfl rfl rfl ?_
  refine go_s (pc' := 2) (lo' := [some (.ref (ad 0)), some (.ref aw), some (.int 85)]) rfl rfl rfl rfl ?_
  have hu : uI S 0 2 (nI 0) = S := by
    funext c j
    simp only [uI]
    split
    · rename_i e; rw [e.1, e.2, he]; rfl
    · rfl
  refine lp_rd hA hZ hW hvs hwn (K := ?_) 32 0 _ ⟨rfl, rfl⟩ (by rw [hu]; exact hS) hwd (sm_e_refl _ _)
  intro c h9 ec hc hS9 hw9 hE9
  refine go_s (pc' := 25) rfl rfl rfl rfl ?_
  refine go_s (pc' := 26) rfl rfl rfl rfl ?_
  refine go_s (pc' := 27) rfl rfl rfl rfl ?_
  refine go_sget (pc' := 28) (v := .ref (ad 8)) hS9 rfl rfl (tbs_s hA (i := 0) (by decide) rfl) (by decide) rfl rfl ?_
  refine go_s (pc' := 29) (st' := [.int 0, .ref (ad 8), .int (nI 85), .ref aw]) rfl rfl rfl rfl ?_
  refine go_s (pc' := 30) rfl rfl rfl rfl ?_
  refine go_sget (pc' := 31) (v := .int (nI c)) hS9 rfl rfl (tbs_s hA (i := 0) (by decide) rfl) (by decide) rfl rfl ?_
  refine go_s (pc' := 32) (st' := [.int 5, .int (nI c), .int 0, .ref (ad 8), .int (nI 85), .ref aw]) rfl rfl rfl rfl ?_
  refine go_nmul (pc' := 33) (a := c) (b := 5) rfl rfl rfl rfl rfl ?_
  refine go_sacp (pc' := 34) (n := (c * 5)) (dp := 0) (sp := 85) (c := 8) (b := 0) (f := (fun j => f (85 + j))) hS9 rfl hw9 (tbs_at hA (i := 8) (by decide)) tbs_inj (by decide) rfl rfl rfl (by omega) (by simp [tbsE]; omega) (by omega) (by simp [tbsE]) (fun j hj => hvs _ (by omega)) (fun j hj => by rw [Nat.zero_add]; exact rg_el (by omega)) (hZ 8 (by decide)) hwz rfl (hW 8 (by decide)) rfl (fun h1 hS2 hE3 => ?_)
  have hE4 := sm_e_trans hE9 hE3
  have hq5 := (hE3.2.2 _ hwn).trans hw9
  refine go_ret rfl rfl ?_
  rw [ec]
  exact ⟨rfl, hS2, hE4⟩
theorem lp_rs {w : Nat → Bool} {d : Nat} {Y : sm_X} {ad : Nat → Nat} {h0 : am_Hp} {Q : Option Value → am_Hp → Prop} (hA : adk ad) (hZ : ∀ i, i < 12 → ad i ≠ 0) (hW : ∀ i, i < 12 → w (ad i) = true) {aw : Nat} {vs : List Value} {f : Nat → Int32} (hvs : ∀ j, j < 245 → vs[j]? = some (.int (f j))) (hwn : tbs ad aw = none) (K : ∀ h, sm (tbs ad) h (SD f 16) Y → h[aw]? = some (.inr (.int, vs)) → sm_e (tbs ad) h0 h → am_Go (am_prog w) d am_c74 none 16 [some (.ref (ad 0)), some (.ref aw), some (.int (nI 16))] [] h Q) : ∀ (k n : Nat) (h : am_Hp), n + k = 16 → sm (tbs ad) h (SD f n) Y → h[aw]? = some (.inr (.int, vs)) → sm_e (tbs ad) h0 h → am_Go (am_prog w) d am_c74 none 2 [some (.ref (ad 0)), some (.ref aw), some (.int (nI n))] [] h Q := by
  intro k
  induction k with
  | zero =>
    intro n h hn hS hwd hE0
    obtain rfl : n = 16 := by omega
    refine go_s (pc' := 3) rfl rfl rfl rfl ?_
    refine go_s (pc' := 4) (st' := [.int 16, .int (nI 16)]) rfl rfl rfl rfl ?_
    refine go_icmpP (t' := 16) (pc' := 5) rfl rfl rfl (fun _ => ?_) (fun (c : ¬ (16 ≤ (nI 16))) => absurd (by decide) c)
    exact K _ hS hwd hE0
  | succ k ih =>
    intro n h hn hS hwd hE0
    refine go_s (pc' := 3) rfl rfl rfl rfl ?_
    refine go_s (pc' := 4) (st' := [.int 16, .int (nI n)]) rfl rfl rfl rfl ?_
    refine go_icmpP (t' := 16) (pc' := 5) rfl rfl rfl (fun (c : 16 ≤ (nI n)) => absurd c (nI_ge (b := 16) (by omega) (by decide))) (fun _ => ?_)
    refine go_s (pc' := 6) rfl rfl rfl rfl ?_
    refine go_sget (pc' := 7) (v := .ref (ad 5)) hS rfl rfl (tbs_s hA (i := 0) (by decide) rfl) (by decide) rfl rfl ?_
    refine go_s (pc' := 8) rfl rfl rfl rfl ?_
    refine go_s (pc' := 9) rfl rfl rfl rfl ?_
    refine go_s (pc' := 10) rfl rfl rfl rfl ?_
    refine go_s (pc' := 11) (st' := [.int 5, .int (nI n), .ref aw, .int (nI n), .ref (ad 5)]) rfl rfl rfl rfl ?_
    refine go_nmul (pc' := 12) (a := n) (b := 5) rfl rfl rfl rfl rfl ?_
    refine go_ald (pc' := 13) (q := (n * 5)) (v := .int (f (n * 5))) rfl rfl hwd rfl (by omega) (hvs _ (by omega)) rfl ?_
    refine go_siast (pc' := 14) (q := n) hS rfl (tbs_s hA (i := 5) (by decide) (rg_el (by omega))) tbs_inj (Nat.le_of_ble_eq_true rfl) rfl (by omega) (hZ 5 (by decide)) (hW 5 (by decide)) rfl (fun h1 hS2 hE3 => ?_)
    have hq4 := (hE3.2.2 _ hwn).trans hwd
    refine go_ninc (pc' := 15) (a := n) (n := 1) (lo' := [some (.ref (ad 0)), some (.ref aw), some (.int (nI (n + 1)))]) rfl rfl rfl rfl rfl rfl ?_
    refine go_s (pc' := 2) rfl rfl rfl rfl ?_
    exact ih (n + 1) _ (by omega) (by rw [← SD_s]; exact hS2) hq4 (sm_e_trans hE0 hE3)
theorem cs_rst {w : Nat → Bool} {d : Nat} {h : am_Hp} {Y : sm_X} {ad : Nat → Nat} (hA : adk ad) (hS : sm (tbs ad) h (SL 16) Y) (hZ : ∀ i, i < 12 → ad i ≠ 0) (hW : ∀ i, i < 12 → w (ad i) = true) {aw : Nat} {vs : List Value} {f : Nat → Int32} (hwd : h[aw]? = some (.inr (.int, vs))) (hvs : ∀ j, j < 245 → vs[j]? = some (.int (f j))) (hvl : vs.length = 245) (hwn : tbs ad aw = none) (hwz : aw ≠ 0) (hK : mrk f) (hd : 4 ≤ d) : am_Ev (am_prog w) d 74 [.ref (ad 0), .ref aw] h (fun r h' => r = none ∧ ∃ S', sm (tbs ad) h' S' Y ∧ sc S' (mrs f) ∧ S' 0 3 = 1 ∧ sm_e (tbs ad) h h') := by
  obtain ⟨d, rfl⟩ : ∃ e, d = e + 1 := ⟨d - 1, by omega⟩
  refine ev_go rfl (Nat.le_of_ble_eq_true rfl) rfl ?_
  refine go_s (pc' := 1) (st' := [.int 0]) rfl rfl rfl rfl ?_
  refine go_s (pc' := 2) (lo' := [some (.ref (ad 0)), some (.ref aw), some (.int 0)]) rfl rfl rfl rfl ?_
  refine lp_rs hA hZ hW hvs hwn (K := ?_) 16 0 _ rfl (by rw [SD_0]; exact hS) hwd (sm_e_refl _ _)
  intro h9 hS9 hw9 hE9
  refine go_s (pc' := 17) rfl rfl rfl rfl ?_
  refine go_s (pc' := 18) rfl rfl rfl rfl ?_
  refine go_s (pc' := 19) (st' := [.int 80, .ref aw, .ref (ad 0)]) rfl rfl rfl rfl ?_
  refine go_ald (pc' := 20) (q := 80) (v := .int (f 80)) rfl rfl hw9 rfl (by decide) (hvs _ (by omega)) rfl ?_
  refine go_sput (pc' := 21) hS9 rfl rfl (tbs_s hA (i := 0) (by decide) rfl) (by decide) tbs_inj (Nat.le_of_ble_eq_true rfl) rfl (hW 0 (by decide)) rfl (fun h1 hS2 hE3 => ?_)
  have hE4 := sm_e_trans hE9 hE3
  have hq5 := (hE3.2.2 _ hwn).trans hw9
  refine go_s (pc' := 22) rfl rfl rfl rfl ?_
  refine go_s (pc' := 23) rfl rfl rfl rfl ?_
  refine go_s (pc' := 24) (st' := [.int 81, .ref aw, .ref (ad 0)]) rfl rfl rfl rfl ?_
  refine go_ald (pc' := 25) (q := 81) (v := .int (f 81)) rfl rfl hq5 rfl (by decide) (hvs _ (by omega)) rfl ?_
  refine go_s (pc' := 26) (st' := [.int 1, .int (f 81), .ref (ad 0)]) rfl rfl rfl rfl ?_
  refine go_s (pc' := 27) rfl rfl rfl rfl ?_
  refine go_sput (pc' := 28) hS2 rfl rfl (tbs_s hA (i := 0) (by decide) rfl) (by decide) tbs_inj (Nat.le_of_ble_eq_true rfl) rfl (hW 0 (by decide)) rfl (fun h6 hS7 hE8 => ?_)
  have hE9 := sm_e_trans hE4 hE8
  have hq10 := (hE8.2.2 _ hwn).trans hq5
  refine go_s (pc' := 29) rfl rfl rfl rfl ?_
  refine go_s (pc' := 30) rfl rfl rfl rfl ?_
  refine go_callV (pc' := 31) rfl rfl rfl (Nat.le_of_ble_eq_true rfl) rfl (sm_o hS7 (tbs_at hA (i := 0) (by decide))) rfl rfl rfl (cs_rdT hA hS7 hZ hW hq10 hvs hvl hwn hwz rfl (by omega)) (fun r h11 q12 => ?_)
  obtain ⟨rfl, hS8, hE8⟩ := q12
  have hE13 := sm_e_trans hE9 hE8
  have hq14 := (hE8.2.2 _ hwn).trans hq10
  refine go_s (pc' := 32) rfl rfl rfl rfl ?_
  refine go_s (pc' := 33) (st' := [.int 1, .ref (ad 0)]) rfl rfl rfl rfl ?_
  refine go_sput (pc' := 34) hS8 rfl rfl (tbs_s hA (i := 0) (by decide) rfl) (by decide) tbs_inj (Nat.le_of_ble_eq_true rfl) rfl (hW 0 (by decide)) rfl (fun h15 hS16 hE17 => ?_)
  have hE18 := sm_e_trans hE13 hE17
  have hq19 := (hE17.2.2 _ hwn).trans hq14
  refine go_s (pc' := 35) (st' := [.int 0]) rfl rfl rfl rfl ?_
  refine go_s (pc' := 36) (lo' := [some (.ref (ad 0)), some (.ref aw), some (.int 0)]) rfl rfl rfl rfl ?_
  refine go_s (pc' := 37) rfl rfl rfl rfl ?_
  refine go_s (pc' := 38) (st' := [.int 2, .int 0]) rfl rfl rfl rfl ?_
  refine go_icmpP (t' := 53) (pc' := 39) rfl rfl rfl (fun (c : 2 ≤ (0 : Int32)) => absurd c (by decide)) (fun _ => ?_)
  refine go_s (pc' := 40) rfl rfl rfl rfl ?_
  refine go_sget (pc' := 41) (v := .ref (ad 1)) hS16 rfl rfl (tbs_s hA (i := 0) (by decide) rfl) (by decide) rfl rfl ?_
  refine go_s (pc' := 42) rfl rfl rfl rfl ?_
  refine go_s (pc' := 43) (st' := [.int (-1), .int 0, .ref (ad 1)]) rfl rfl rfl rfl ?_
  refine go_siast (pc' := 44) (q := 0) hS16 rfl (tbs_s hA (i := 1) (by decide) (rg_el (by omega))) tbs_inj (Nat.le_of_ble_eq_true rfl) rfl (by decide) (hZ 1 (by decide)) (hW 1 (by decide)) rfl (fun h20 hS21 hE22 => ?_)
  have hE23 := sm_e_trans hE18 hE22
  have hq24 := (hE22.2.2 _ hwn).trans hq19
  refine go_s (pc' := 45) rfl rfl rfl rfl ?_
  have hb7 : (uI (uI (uC (uI (uI (uI (SD f 16) 0 1 (f 80)) 0 0 ((f 81) + 1)) 0 2 (nI (rd f (f 80) 32 0))) 8 0 (rd f (f 80) 32 0 * 5) (fun j => f (85 + j))) 0 3 1) 1 0 (-1)) = uI (SE f) 0 3 1 := by
    funext c j
    simp only [SE, uI, uC]
    by_cases e1 : c = 1
    · subst e1
      by_cases e2 : j = 0
      · subst e2; simp
      · simp [e2]
    · simp [e1]
  change sm _ _ (uI (uI (uC (uI (uI (uI (SD f 16) 0 1 (f 80)) 0 0 ((f 81) + 1)) 0 2 (nI (rd f (f 80) 32 0))) 8 0 (rd f (f 80) 32 0 * 5) (fun j => f (85 + j))) 0 3 1) 1 0 (-1)) _ at hS21
  rw [hb7] at hS21
  have hm7 : sc (uI (SE f) 0 3 1) (mr1 f) := sc_rd f
  have hb8 : uI (SE f) 0 3 1 0 3 = 1 := rfl
  generalize uI (SE f) 0 3 1 = S7 at hS21 hm7 hb8
  refine go_s (pc' := 46) rfl rfl rfl rfl ?_
  refine go_callV (pc' := 47) rfl rfl rfl (Nat.le_of_ble_eq_true rfl) rfl (sm_o hS21 (tbs_at hA (i := 0) (by decide))) rfl rfl rfl (cs_hop hA hS21 hm7 0 (by show (rdL f).length ≤ 32; have := rd_le f (f 80) 32 0; simp [rdL]; omega) (by omega)) (fun r h25 q26 => ?_)
  obtain ⟨rfl, rfl⟩ := q26
  cases u27 : hop (mr1 f) 0
  · skip
    show am_Go _ _ _ _ 47 _ [.int 0] _ _
    refine go_ifP (t' := 51) (pc' := 48) rfl rfl rfl (fun _ => ?_) (fun (c : ¬ ((0 : Int32) = 0)) => absurd (by decide) c)
    refine go_s (pc' := 52) (lo' := [some (.ref (ad 0)), some (.ref aw), some (.int 1)]) rfl rfl rfl rfl ?_
    refine go_s (pc' := 36) rfl rfl rfl rfl ?_
    refine go_s (pc' := 37) rfl rfl rfl rfl ?_
    refine go_s (pc' := 38) (st' := [.int 2, .int 1]) rfl rfl rfl rfl ?_
    refine go_icmpP (t' := 53) (pc' := 39) rfl rfl rfl (fun (c : 2 ≤ (1 : Int32)) => absurd c (by decide)) (fun _ => ?_)
    refine go_s (pc' := 40) rfl rfl rfl rfl ?_
    refine go_sget (pc' := 41) (v := .ref (ad 1)) hS21 rfl rfl (tbs_s hA (i := 0) (by decide) rfl) (by decide) rfl rfl ?_
    refine go_s (pc' := 42) rfl rfl rfl rfl ?_
    refine go_s (pc' := 43) (st' := [.int (-1), .int 1, .ref (ad 1)]) rfl rfl rfl rfl ?_
    refine go_siast (pc' := 44) (q := 1) hS21 rfl (tbs_s hA (i := 1) (by decide) (rg_el (by omega))) tbs_inj (Nat.le_of_ble_eq_true rfl) rfl (by decide) (hZ 1 (by decide)) (hW 1 (by decide)) rfl (fun h28 hS29 hE30 => ?_)
    have hE31 := sm_e_trans hE23 hE30
    have hq32 := (hE30.2.2 _ hwn).trans hq24
    refine go_s (pc' := 45) rfl rfl rfl rfl ?_
    have hm6 := sc_u1 (k := 1) (v := -1) hm7 (by decide)
    obtain ⟨S6, hS6⟩ : ∃ x, x = (uI S7 1 1 (-1)) := ⟨_, rfl⟩
    have hb6 : S6 0 3 = S7 0 3 := by rw [hS6]; rfl
    change sm _ _ (uI S7 1 1 (-1)) _ at hS29
    rw [← hS6] at hS29 hm6
    have e3 : mr3 f = (uF (mr2 f).1 7 (-1), (mr2 f).2.1, (mr2 f).2.2) := rfl
    have e2 : mr2 f = (mr1 f) := by unfold mr2; rw [if_neg (by rw [u27]; decide)]
    change sc S6 (uF ((mr1 f)).1 7 (-1), ((mr1 f)).2.1, ((mr1 f)).2.2) at hm6
    rw [← e2, ← e3] at hm6
    refine go_s (pc' := 46) rfl rfl rfl rfl ?_
    refine go_callV (pc' := 47) rfl rfl rfl (Nat.le_of_ble_eq_true rfl) rfl (sm_o hS29 (tbs_at hA (i := 0) (by decide))) rfl rfl rfl (cs_hop hA hS29 hm6 1 hK.2.2.2.1 (by omega)) (fun r h33 q34 => ?_)
    obtain ⟨rfl, rfl⟩ := q34
    cases u35 : hop (mr3 f) 1
    · skip
      show am_Go _ _ _ _ 47 _ [.int 0] _ _
      refine go_ifP (t' := 51) (pc' := 48) rfl rfl rfl (fun _ => ?_) (fun (c : ¬ ((0 : Int32) = 0)) => absurd (by decide) c)
      refine go_s (pc' := 52) (lo' := [some (.ref (ad 0)), some (.ref aw), some (.int 2)]) rfl rfl rfl rfl ?_
      refine go_s (pc' := 36) rfl rfl rfl rfl ?_
      refine go_s (pc' := 37) rfl rfl rfl rfl ?_
      refine go_s (pc' := 38) (st' := [.int 2, .int 2]) rfl rfl rfl rfl ?_
      refine go_icmpP (t' := 53) (pc' := 39) rfl rfl rfl (fun _ => ?_) (fun (c : ¬ (2 ≤ (2 : Int32))) => absurd (by decide) c)
      have e4 : mr4 f = (mr3 f) := by unfold mr4; rw [if_neg (by rw [u35]; decide)]
      rw [← e4] at hm6
      refine go_s (pc' := 54) rfl rfl rfl rfl ?_
      refine go_callV (pc' := 55) rfl rfl rfl (Nat.le_of_ble_eq_true rfl) rfl (sm_o hS29 (tbs_at hA (i := 0) (by decide))) rfl rfl rfl (cs_gen hA hS29 hZ hW hm6.2.2.2.1 hK.2.2.2.2.2 (by omega)) (fun r h36 q37 => ?_)
      obtain ⟨rfl, hS38, hE39⟩ := q37
      have hm40 := sc_G hm6 hK.2.2.2.2.2
      have b42 : cG S6 (mr4 f).2.2.length 0 3 = S6 0 3 := rfl
      generalize cG S6 (mr4 f).2.2.length = S41 at hS38 hm40 b42
      have hE43 := sm_e_trans hE31 hE39
      have hq44 := (hE39.2.2 _ hwn).trans hq32
      refine go_ret rfl rfl ?_
      exact ⟨rfl, _, hS38, hm40, b42.trans (hb6.trans (hb8)), hE43⟩
    · skip
      show am_Go _ _ _ _ 47 _ [.int 1] _ _
      refine go_ifP (t' := 51) (pc' := 48) rfl rfl rfl (fun (c : (1 : Int32) = 0) => absurd c (by decide)) (fun _ => ?_)
      refine go_s (pc' := 49) rfl rfl rfl rfl ?_
      refine go_s (pc' := 50) rfl rfl rfl rfl ?_
      refine go_callV (pc' := 51) rfl rfl rfl (Nat.le_of_ble_eq_true rfl) rfl (sm_o hS29 (tbs_at hA (i := 0) (by decide))) rfl rfl rfl (cs_back hA hS29 hm6 hZ hW 1 (hK.2.2.2.2.1 u35).1 hK.2.2.1 (hK.2.2.2.2.1 u35).2 (by omega)) (fun r h45 q46 => ?_)
      obtain ⟨rfl, S47, hS48, hm49, hE50, b51⟩ := q46
      have hE52 := sm_e_trans hE31 hE50
      have hq53 := (hE50.2.2 _ hwn).trans hq32
      refine go_s (pc' := 52) (lo' := [some (.ref (ad 0)), some (.ref aw), some (.int 2)]) rfl rfl rfl rfl ?_
      refine go_s (pc' := 36) rfl rfl rfl rfl ?_
      refine go_s (pc' := 37) rfl rfl rfl rfl ?_
      refine go_s (pc' := 38) (st' := [.int 2, .int 2]) rfl rfl rfl rfl ?_
      refine go_icmpP (t' := 53) (pc' := 39) rfl rfl rfl (fun _ => ?_) (fun (c : ¬ (2 ≤ (2 : Int32))) => absurd (by decide) c)
      have e4 : mr4 f = (mB (mr3 f) 1) := by unfold mr4; rw [if_pos u35]
      rw [← e4] at hm49
      refine go_s (pc' := 54) rfl rfl rfl rfl ?_
      refine go_callV (pc' := 55) rfl rfl rfl (Nat.le_of_ble_eq_true rfl) rfl (sm_o hS48 (tbs_at hA (i := 0) (by decide))) rfl rfl rfl (cs_gen hA hS48 hZ hW hm49.2.2.2.1 hK.2.2.2.2.2 (by omega)) (fun r h54 q55 => ?_)
      obtain ⟨rfl, hS56, hE57⟩ := q55
      have hm58 := sc_G hm49 hK.2.2.2.2.2
      have b60 : cG S47 (mr4 f).2.2.length 0 3 = S47 0 3 := rfl
      generalize cG S47 (mr4 f).2.2.length = S59 at hS56 hm58 b60
      have hE61 := sm_e_trans hE52 hE57
      have hq62 := (hE57.2.2 _ hwn).trans hq53
      refine go_ret rfl rfl ?_
      exact ⟨rfl, _, hS56, hm58, b60.trans (b51.trans (hb6.trans (hb8))), hE61⟩
  · skip
    show am_Go _ _ _ _ 47 _ [.int 1] _ _
    refine go_ifP (t' := 51) (pc' := 48) rfl rfl rfl (fun (c : (1 : Int32) = 0) => absurd c (by decide)) (fun _ => ?_)
    refine go_s (pc' := 49) rfl rfl rfl rfl ?_
    refine go_s (pc' := 50) rfl rfl rfl rfl ?_
    refine go_callV (pc' := 51) rfl rfl rfl (Nat.le_of_ble_eq_true rfl) rfl (sm_o hS21 (tbs_at hA (i := 0) (by decide))) rfl rfl rfl (cs_back hA hS21 hm7 hZ hW 0 (hK.2.1 u27) hK.1 (by show 0 + _ ≤ 33; have := cw_le (mr1 f).2.1 0 (mr1 f).2.1.length; have := hK.2.1 u27; show 0 + cw (mr1 f).2.1 0 (mr1 f).2.1.length ≤ 33; have : (mr1 f).2.1.length = (rdL f).length := rfl; omega) (by omega)) (fun r h63 q64 => ?_)
    obtain ⟨rfl, S65, hS66, hm67, hE68, b69⟩ := q64
    have hE70 := sm_e_trans hE23 hE68
    have hq71 := (hE68.2.2 _ hwn).trans hq24
    refine go_s (pc' := 52) (lo' := [some (.ref (ad 0)), some (.ref aw), some (.int 1)]) rfl rfl rfl rfl ?_
    refine go_s (pc' := 36) rfl rfl rfl rfl ?_
    refine go_s (pc' := 37) rfl rfl rfl rfl ?_
    refine go_s (pc' := 38) (st' := [.int 2, .int 1]) rfl rfl rfl rfl ?_
    refine go_icmpP (t' := 53) (pc' := 39) rfl rfl rfl (fun (c : 2 ≤ (1 : Int32)) => absurd c (by decide)) (fun _ => ?_)
    refine go_s (pc' := 40) rfl rfl rfl rfl ?_
    refine go_sget (pc' := 41) (v := .ref (ad 1)) hS66 rfl rfl (tbs_s hA (i := 0) (by decide) rfl) (by decide) rfl rfl ?_
    refine go_s (pc' := 42) rfl rfl rfl rfl ?_
    refine go_s (pc' := 43) (st' := [.int (-1), .int 1, .ref (ad 1)]) rfl rfl rfl rfl ?_
    refine go_siast (pc' := 44) (q := 1) hS66 rfl (tbs_s hA (i := 1) (by decide) (rg_el (by omega))) tbs_inj (Nat.le_of_ble_eq_true rfl) rfl (by decide) (hZ 1 (by decide)) (hW 1 (by decide)) rfl (fun h72 hS73 hE74 => ?_)
    have hE75 := sm_e_trans hE70 hE74
    have hq76 := (hE74.2.2 _ hwn).trans hq71
    refine go_s (pc' := 45) rfl rfl rfl rfl ?_
    have hm6 := sc_u1 (k := 1) (v := -1) hm67 (by decide)
    obtain ⟨S6, hS6⟩ : ∃ x, x = (uI S65 1 1 (-1)) := ⟨_, rfl⟩
    have hb6 : S6 0 3 = S65 0 3 := by rw [hS6]; rfl
    change sm _ _ (uI S65 1 1 (-1)) _ at hS73
    rw [← hS6] at hS73 hm6
    have e3 : mr3 f = (uF (mr2 f).1 7 (-1), (mr2 f).2.1, (mr2 f).2.2) := rfl
    have e2 : mr2 f = (mB (mr1 f) 0) := by unfold mr2; rw [if_pos u27]
    change sc S6 (uF ((mB (mr1 f) 0)).1 7 (-1), ((mB (mr1 f) 0)).2.1, ((mB (mr1 f) 0)).2.2) at hm6
    rw [← e2, ← e3] at hm6
    refine go_s (pc' := 46) rfl rfl rfl rfl ?_
    refine go_callV (pc' := 47) rfl rfl rfl (Nat.le_of_ble_eq_true rfl) rfl (sm_o hS73 (tbs_at hA (i := 0) (by decide))) rfl rfl rfl (cs_hop hA hS73 hm6 1 hK.2.2.2.1 (by omega)) (fun r h77 q78 => ?_)
    obtain ⟨rfl, rfl⟩ := q78
    cases u79 : hop (mr3 f) 1
    · skip
      show am_Go _ _ _ _ 47 _ [.int 0] _ _
      refine go_ifP (t' := 51) (pc' := 48) rfl rfl rfl (fun _ => ?_) (fun (c : ¬ ((0 : Int32) = 0)) => absurd (by decide) c)
      refine go_s (pc' := 52) (lo' := [some (.ref (ad 0)), some (.ref aw), some (.int 2)]) rfl rfl rfl rfl ?_
      refine go_s (pc' := 36) rfl rfl rfl rfl ?_
      refine go_s (pc' := 37) rfl rfl rfl rfl ?_
      refine go_s (pc' := 38) (st' := [.int 2, .int 2]) rfl rfl rfl rfl ?_
      refine go_icmpP (t' := 53) (pc' := 39) rfl rfl rfl (fun _ => ?_) (fun (c : ¬ (2 ≤ (2 : Int32))) => absurd (by decide) c)
      have e4 : mr4 f = (mr3 f) := by unfold mr4; rw [if_neg (by rw [u79]; decide)]
      rw [← e4] at hm6
      refine go_s (pc' := 54) rfl rfl rfl rfl ?_
      refine go_callV (pc' := 55) rfl rfl rfl (Nat.le_of_ble_eq_true rfl) rfl (sm_o hS73 (tbs_at hA (i := 0) (by decide))) rfl rfl rfl (cs_gen hA hS73 hZ hW hm6.2.2.2.1 hK.2.2.2.2.2 (by omega)) (fun r h80 q81 => ?_)
      obtain ⟨rfl, hS82, hE83⟩ := q81
      have hm84 := sc_G hm6 hK.2.2.2.2.2
      have b86 : cG S6 (mr4 f).2.2.length 0 3 = S6 0 3 := rfl
      generalize cG S6 (mr4 f).2.2.length = S85 at hS82 hm84 b86
      have hE87 := sm_e_trans hE75 hE83
      have hq88 := (hE83.2.2 _ hwn).trans hq76
      refine go_ret rfl rfl ?_
      exact ⟨rfl, _, hS82, hm84, b86.trans (hb6.trans (b69.trans (hb8))), hE87⟩
    · skip
      show am_Go _ _ _ _ 47 _ [.int 1] _ _
      refine go_ifP (t' := 51) (pc' := 48) rfl rfl rfl (fun (c : (1 : Int32) = 0) => absurd c (by decide)) (fun _ => ?_)
      refine go_s (pc' := 49) rfl rfl rfl rfl ?_
      refine go_s (pc' := 50) rfl rfl rfl rfl ?_
      refine go_callV (pc' := 51) rfl rfl rfl (Nat.le_of_ble_eq_true rfl) rfl (sm_o hS73 (tbs_at hA (i := 0) (by decide))) rfl rfl rfl (cs_back hA hS73 hm6 hZ hW 1 (hK.2.2.2.2.1 u79).1 hK.2.2.1 (hK.2.2.2.2.1 u79).2 (by omega)) (fun r h89 q90 => ?_)
      obtain ⟨rfl, S91, hS92, hm93, hE94, b95⟩ := q90
      have hE96 := sm_e_trans hE75 hE94
      have hq97 := (hE94.2.2 _ hwn).trans hq76
      refine go_s (pc' := 52) (lo' := [some (.ref (ad 0)), some (.ref aw), some (.int 2)]) rfl rfl rfl rfl ?_
      refine go_s (pc' := 36) rfl rfl rfl rfl ?_
      refine go_s (pc' := 37) rfl rfl rfl rfl ?_
      refine go_s (pc' := 38) (st' := [.int 2, .int 2]) rfl rfl rfl rfl ?_
      refine go_icmpP (t' := 53) (pc' := 39) rfl rfl rfl (fun _ => ?_) (fun (c : ¬ (2 ≤ (2 : Int32))) => absurd (by decide) c)
      have e4 : mr4 f = (mB (mr3 f) 1) := by unfold mr4; rw [if_pos u79]
      rw [← e4] at hm93
      refine go_s (pc' := 54) rfl rfl rfl rfl ?_
      refine go_callV (pc' := 55) rfl rfl rfl (Nat.le_of_ble_eq_true rfl) rfl (sm_o hS92 (tbs_at hA (i := 0) (by decide))) rfl rfl rfl (cs_gen hA hS92 hZ hW hm93.2.2.2.1 hK.2.2.2.2.2 (by omega)) (fun r h98 q99 => ?_)
      obtain ⟨rfl, hS100, hE101⟩ := q99
      have hm102 := sc_G hm93 hK.2.2.2.2.2
      have b104 : cG S91 (mr4 f).2.2.length 0 3 = S91 0 3 := rfl
      generalize cG S91 (mr4 f).2.2.length = S103 at hS100 hm102 b104
      have hE105 := sm_e_trans hE96 hE101
      have hq106 := (hE101.2.2 _ hwn).trans hq97
      refine go_ret rfl rfl ?_
      exact ⟨rfl, _, hS100, hm102, b104.trans (b95.trans (hb6.trans (b69.trans (hb8)))), hE105⟩
