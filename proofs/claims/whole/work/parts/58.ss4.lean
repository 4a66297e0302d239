theorem sc_u1 {S : sm_I} {m : ms} (h : sc S m) {k : Nat} (hk : k < 2) {v : Int32} : sc (uI S 1 k v) (uF m.1 (6 + k) v, m.2.1, m.2.2) := by
  obtain ⟨h1, h2, h3, h4, h5, h6, h7, h8, h9⟩ := h
  exact ⟨h1.trans (show m.1 0 = uF m.1 (6 + k) v 0 from (uF_ne (by omega)).symm), h2.trans (show m.1 1 = uF m.1 (6 + k) v 1 from (uF_ne (by omega)).symm), h3, h4, fun t ht => ⟨(by by_cases e : t = k <;> simp [uI, uF, e, h5 t ht]), (((h5 t ht).2.1).trans (show m.1 (8 + t) = uF m.1 (6 + k) v (8 + t) from (uF_ne (by omega)).symm)), (((h5 t ht).2.2.1).trans (show m.1 (10 + t) = uF m.1 (6 + k) v (10 + t) from (uF_ne (by omega)).symm)), (((h5 t ht).2.2.2.1).trans (show m.1 (12 + t) = uF m.1 (6 + k) v (12 + t) from (uF_ne (by omega)).symm)), (((h5 t ht).2.2.2.2).trans (show m.1 (14 + t) = uF m.1 (6 + k) v (14 + t) from (uF_ne (by omega)).symm))⟩, fun t ht => ⟨(((h6 t ht).1).trans (show m.1 (16 + t) = uF m.1 (6 + k) v (16 + t) from (uF_ne (by omega)).symm)), (((h6 t ht).2).trans (show m.1 (32 + t) = uF m.1 (6 + k) v (32 + t) from (uF_ne (by omega)).symm))⟩, h7, h8, h9⟩
theorem sc_u2 {S : sm_I} {m : ms} (h : sc S m) {k : Nat} (hk : k < 2) {v : Int32} : sc (uI S 2 k v) (uF m.1 (8 + k) v, m.2.1, m.2.2) := by
  obtain ⟨h1, h2, h3, h4, h5, h6, h7, h8, h9⟩ := h
  exact ⟨h1.trans (show m.1 0 = uF m.1 (8 + k) v 0 from (uF_ne (by omega)).symm), h2.trans (show m.1 1 = uF m.1 (8 + k) v 1 from (uF_ne (by omega)).symm), h3, h4, fun t ht => ⟨(((h5 t ht).1).trans (show m.1 (6 + t) = uF m.1 (8 + k) v (6 + t) from (uF_ne (by omega)).symm)), (by by_cases e : t = k <;> simp [uI, uF, e, h5 t ht]), (((h5 t ht).2.2.1).trans (show m.1 (10 + t) = uF m.1 (8 + k) v (10 + t) from (uF_ne (by omega)).symm)), (((h5 t ht).2.2.2.1).trans (show m.1 (12 + t) = uF m.1 (8 + k) v (12 + t) from (uF_ne (by omega)).symm)), (((h5 t ht).2.2.2.2).trans (show m.1 (14 + t) = uF m.1 (8 + k) v (14 + t) from (uF_ne (by omega)).symm))⟩, fun t ht => ⟨(((h6 t ht).1).trans (show m.1 (16 + t) = uF m.1 (8 + k) v (16 + t) from (uF_ne (by omega)).symm)), (((h6 t ht).2).trans (show m.1 (32 + t) = uF m.1 (8 + k) v (32 + t) from (uF_ne (by omega)).symm))⟩, h7, h8, h9⟩
theorem sc_u3 {S : sm_I} {m : ms} (h : sc S m) {k : Nat} (hk : k < 2) {v : Int32} : sc (uI S 3 k v) (uF m.1 (10 + k) v, m.2.1, m.2.2) := by
  obtain ⟨h1, h2, h3, h4, h5, h6, h7, h8, h9⟩ := h
  exact ⟨h1.trans (show m.1 0 = uF m.1 (10 + k) v 0 from (uF_ne (by omega)).symm), h2.trans (show m.1 1 = uF m.1 (10 + k) v 1 from (uF_ne (by omega)).symm), h3, h4, fun t ht => ⟨(((h5 t ht).1).trans (show m.1 (6 + t) = uF m.1 (10 + k) v (6 + t) from (uF_ne (by omega)).symm)), (((h5 t ht).2.1).trans (show m.1 (8 + t) = uF m.1 (10 + k) v (8 + t) from (uF_ne (by omega)).symm)), (by by_cases e : t = k <;> simp [uI, uF, e, h5 t ht]), (((h5 t ht).2.2.2.1).trans (show m.1 (12 + t) = uF m.1 (10 + k) v (12 + t) from (uF_ne (by omega)).symm)), (((h5 t ht).2.2.2.2).trans (show m.1 (14 + t) = uF m.1 (10 + k) v (14 + t) from (uF_ne (by omega)).symm))⟩, fun t ht => ⟨(((h6 t ht).1).trans (show m.1 (16 + t) = uF m.1 (10 + k) v (16 + t) from (uF_ne (by omega)).symm)), (((h6 t ht).2).trans (show m.1 (32 + t) = uF m.1 (10 + k) v (32 + t) from (uF_ne (by omega)).symm))⟩, h7, h8, h9⟩
theorem sc_u4 {S : sm_I} {m : ms} (h : sc S m) {k : Nat} (hk : k < 2) {v : Int32} : sc (uI S 4 k v) (uF m.1 (12 + k) v, m.2.1, m.2.2) := by
  obtain ⟨h1, h2, h3, h4, h5, h6, h7, h8, h9⟩ := h
  exact ⟨h1.trans (show m.1 0 = uF m.1 (12 + k) v 0 from (uF_ne (by omega)).symm), h2.trans (show m.1 1 = uF m.1 (12 + k) v 1 from (uF_ne (by omega)).symm), h3, h4, fun t ht => ⟨(((h5 t ht).1).trans (show m.1 (6 + t) = uF m.1 (12 + k) v (6 + t) from (uF_ne (by omega)).symm)), (((h5 t ht).2.1).trans (show m.1 (8 + t) = uF m.1 (12 + k) v (8 + t) from (uF_ne (by omega)).symm)), (((h5 t ht).2.2.1).trans (show m.1 (10 + t) = uF m.1 (12 + k) v (10 + t) from (uF_ne (by omega)).symm)), (by by_cases e : t = k <;> simp [uI, uF, e, h5 t ht]), (((h5 t ht).2.2.2.2).trans (show m.1 (14 + t) = uF m.1 (12 + k) v (14 + t) from (uF_ne (by omega)).symm))⟩, fun t ht => ⟨(((h6 t ht).1).trans (show m.1 (16 + t) = uF m.1 (12 + k) v (16 + t) from (uF_ne (by omega)).symm)), (((h6 t ht).2).trans (show m.1 (32 + t) = uF m.1 (12 + k) v (32 + t) from (uF_ne (by omega)).symm))⟩, h7, h8, h9⟩
theorem sc_u7 {S : sm_I} {m : ms} (h : sc S m) {k : Nat} (hk : k < 2) {v : Int32} : sc (uI S 7 k v) (uF m.1 (14 + k) v, m.2.1, m.2.2) := by
  obtain ⟨h1, h2, h3, h4, h5, h6, h7, h8, h9⟩ := h
  exact ⟨h1.trans (show m.1 0 = uF m.1 (14 + k) v 0 from (uF_ne (by omega)).symm), h2.trans (show m.1 1 = uF m.1 (14 + k) v 1 from (uF_ne (by omega)).symm), h3, h4, fun t ht => ⟨(((h5 t ht).1).trans (show m.1 (6 + t) = uF m.1 (14 + k) v (6 + t) from (uF_ne (by omega)).symm)), (((h5 t ht).2.1).trans (show m.1 (8 + t) = uF m.1 (14 + k) v (8 + t) from (uF_ne (by omega)).symm)), (((h5 t ht).2.2.1).trans (show m.1 (10 + t) = uF m.1 (14 + k) v (10 + t) from (uF_ne (by omega)).symm)), (((h5 t ht).2.2.2.1).trans (show m.1 (12 + t) = uF m.1 (14 + k) v (12 + t) from (uF_ne (by omega)).symm)), (by by_cases e : t = k <;> simp [uI, uF, e, h5 t ht])⟩, fun t ht => ⟨(((h6 t ht).1).trans (show m.1 (16 + t) = uF m.1 (14 + k) v (16 + t) from (uF_ne (by omega)).symm)), (((h6 t ht).2).trans (show m.1 (32 + t) = uF m.1 (14 + k) v (32 + t) from (uF_ne (by omega)).symm))⟩, h7, h8, h9⟩
theorem sc_u5 {S : sm_I} {m : ms} (h : sc S m) {k : Nat} (hk : k < 16) {v : Int32} : sc (uI S 5 k v) (uF m.1 (16 + k) v, m.2.1, m.2.2) := by
  obtain ⟨h1, h2, h3, h4, h5, h6, h7, h8, h9⟩ := h
  exact ⟨h1.trans (show m.1 0 = uF m.1 (16 + k) v 0 from (uF_ne (by omega)).symm), h2.trans (show m.1 1 = uF m.1 (16 + k) v 1 from (uF_ne (by omega)).symm), h3, h4, fun t ht => ⟨(((h5 t ht).1).trans (show m.1 (6 + t) = uF m.1 (16 + k) v (6 + t) from (uF_ne (by omega)).symm)), (((h5 t ht).2.1).trans (show m.1 (8 + t) = uF m.1 (16 + k) v (8 + t) from (uF_ne (by omega)).symm)), (((h5 t ht).2.2.1).trans (show m.1 (10 + t) = uF m.1 (16 + k) v (10 + t) from (uF_ne (by omega)).symm)), (((h5 t ht).2.2.2.1).trans (show m.1 (12 + t) = uF m.1 (16 + k) v (12 + t) from (uF_ne (by omega)).symm)), (((h5 t ht).2.2.2.2).trans (show m.1 (14 + t) = uF m.1 (16 + k) v (14 + t) from (uF_ne (by omega)).symm))⟩, fun t ht => ⟨(by by_cases e : t = k <;> simp [uI, uF, e, h6 t ht]), (((h6 t ht).2).trans (show m.1 (32 + t) = uF m.1 (16 + k) v (32 + t) from (uF_ne (by omega)).symm))⟩, h7, h8, h9⟩
theorem sc_u6 {S : sm_I} {m : ms} (h : sc S m) {k : Nat} (hk : k < 16) {v : Int32} : sc (uI S 6 k v) (uF m.1 (32 + k) v, m.2.1, m.2.2) := by
  obtain ⟨h1, h2, h3, h4, h5, h6, h7, h8, h9⟩ := h
  exact ⟨h1.trans (show m.1 0 = uF m.1 (32 + k) v 0 from (uF_ne (by omega)).symm), h2.trans (show m.1 1 = uF m.1 (32 + k) v 1 from (uF_ne (by omega)).symm), h3, h4, fun t ht => ⟨(((h5 t ht).1).trans (show m.1 (6 + t) = uF m.1 (32 + k) v (6 + t) from (uF_ne (by omega)).symm)), (((h5 t ht).2.1).trans (show m.1 (8 + t) = uF m.1 (32 + k) v (8 + t) from (uF_ne (by omega)).symm)), (((h5 t ht).2.2.1).trans (show m.1 (10 + t) = uF m.1 (32 + k) v (10 + t) from (uF_ne (by omega)).symm)), (((h5 t ht).2.2.2.1).trans (show m.1 (12 + t) = uF m.1 (32 + k) v (12 + t) from (uF_ne (by omega)).symm)), (((h5 t ht).2.2.2.2).trans (show m.1 (14 + t) = uF m.1 (32 + k) v (14 + t) from (uF_ne (by omega)).symm))⟩, fun t ht => ⟨(((h6 t ht).1).trans (show m.1 (16 + t) = uF m.1 (32 + k) v (16 + t) from (uF_ne (by omega)).symm)), (by by_cases e : t = k <;> simp [uI, uF, e, h6 t ht])⟩, h7, h8, h9⟩
theorem sc_tr {S : sm_I} {m : ms} (h : sc S m) : trS S = mtr m := by
  obtain ⟨-, -, -, -, h5, -⟩ := h
  simp only [trS, mtr, (h5 0 (by omega)).2.2.2.2, (h5 1 (by omega)).2.2.2.2]
theorem mtr_le (m : ms) : mtr m ≤ 2 := by
  unfold mtr
  split <;> split <;> omega
theorem lp_lock {w : Nat → Bool} {d : Nat} {Y : sm_X} {ad : Nat → Nat} (hA : adk ad) (hZ : ∀ i, i < 12 → ad i ≠ 0) (hW : ∀ i, i < 12 → w (ad i) = true) {F : Nat → Int32} {L : List ms_E} {Wl : List ms_W} {t : Nat} (ht : t < 2) {h0 : am_Hp} {Q : Option Value → am_Hp → Prop} {b : Int32} (K : ∀ S h, sc S (frl F (nI t) 16, L, Wl) → sm (tbs ad) h S Y → sm_e (tbs ad) h0 h → S 0 3 = b → am_Go (am_prog w) d am_c65 none 23 [some (.ref (ad 0)), some (.int (nI t)), some (.int (nI 16))] [] h Q) : ∀ (k n : Nat) (S : sm_I) (h : am_Hp), n + k = 16 → sc S (frl F (nI t) n, L, Wl) → sm (tbs ad) h S Y → sm_e (tbs ad) h0 h → S 0 3 = b → am_Go (am_prog w) d am_c65 none 7 [some (.ref (ad 0)), some (.int (nI t)), some (.int (nI n))] [] h Q := by
  intro k
  induction k with
  | zero =>
    intro n S h hn hm hS hE hb
    obtain rfl : n = 16 := by omega
    refine go_s (pc' := 8) rfl rfl rfl rfl ?_
    refine go_s (pc' := 9) (st' := [.int 16, .int (nI 16)]) rfl rfl rfl rfl ?_
    refine go_icmpP (t' := 23) (pc' := 10) rfl rfl rfl (fun _ => ?_) (fun (c : ¬ (16 ≤ (nI 16))) => absurd (by decide) c)
    exact K S _ hm hS hE hb
  | succ k ih =>
    intro n S h hn hm hS hE hb
    have hl : S 6 n = frl F (nI t) n (32 + n) := (hm.2.2.2.2.2.1 n (by omega)).2
    refine go_s (pc' := 8) rfl rfl rfl rfl ?_
    refine go_s (pc' := 9) (st' := [.int 16, .int (nI n)]) rfl rfl rfl rfl ?_
    refine go_icmpP (t' := 23) (pc' := 10) rfl rfl rfl (fun (c : 16 ≤ (nI n)) => absurd c (nI_ge (b := 16) (by omega) (by decide))) (fun _ => ?_)
    refine go_s (pc' := 11) rfl rfl rfl rfl ?_
    refine go_sget (pc' := 12) (v := .ref (ad 6)) hS rfl rfl (tbs_s hA (i := 0) (by decide) rfl) (by decide) rfl rfl ?_
    refine go_s (pc' := 13) rfl rfl rfl rfl ?_
    refine go_sald (pc' := 14) (q := n) (v := .int (S 6 n)) hS rfl (tbs_s hA (i := 6) (by decide) (rg_el (by omega))) rfl rfl (by omega) rfl rfl ?_
    refine go_s (pc' := 15) rfl rfl rfl rfl ?_
    refine go_icmpP (t' := 21) (pc' := 16) rfl rfl rfl (fun (c1 : ¬ (S 6 n) = (nI t)) => ?_) (fun (c1' : ¬ ¬ (S 6 n) = (nI t)) => ?_)
    · skip
      refine go_ninc (pc' := 22) (a := n) (n := 1) (lo' := [some (.ref (ad 0)), some (.int (nI t)), some (.int (nI (n + 1)))]) rfl rfl rfl rfl rfl rfl ?_
      refine go_s (pc' := 7) rfl rfl rfl rfl ?_
      refine ih (n + 1) S _ (by omega) ?_ hS hE hb
      have hh : frl F (nI t) (n + 1) = frl F (nI t) n := by
        simp only [frl]
        rw [if_neg]
        rw [← hl]
        exact c1
      rw [hh]; exact hm
    · skip
      have c1 : (S 6 n) = (nI t) := Decidable.not_not.mp c1'
      refine go_s (pc' := 17) rfl rfl rfl rfl ?_
      refine go_sget (pc' := 18) (v := .ref (ad 6)) hS rfl rfl (tbs_s hA (i := 0) (by decide) rfl) (by decide) rfl rfl ?_
      refine go_s (pc' := 19) rfl rfl rfl rfl ?_
      refine go_s (pc' := 20) (st' := [.int (-1), .int (nI n), .ref (ad 6)]) rfl rfl rfl rfl ?_
      refine go_siast (pc' := 21) (q := n) hS rfl (tbs_s hA (i := 6) (by decide) (rg_el (by omega))) tbs_inj (Nat.le_of_ble_eq_true rfl) rfl (by omega) (hZ 6 (by decide)) (hW 6 (by decide)) rfl (fun h2 hS3 hE4 => ?_)
      refine go_ninc (pc' := 22) (a := n) (n := 1) (lo' := [some (.ref (ad 0)), some (.int (nI t)), some (.int (nI (n + 1)))]) rfl rfl rfl rfl rfl rfl ?_
      refine go_s (pc' := 7) rfl rfl rfl rfl ?_
      refine ih (n + 1) _ _ (by omega) ?_ hS3 (sm_e_trans hE hE4) hb
      have hh : frl F (nI t) (n + 1) = uF (frl F (nI t) n) (32 + n) (-1) := by
        simp only [frl]
        rw [if_pos]
        rw [← hl]
        exact c1
      rw [hh]; exact sc_u6 hm (by omega)
theorem cs_end {w : Nat → Bool} {d : Nat} {h : am_Hp} {S : sm_I} {Y : sm_X} {ad : Nat → Nat} (hA : adk ad) (hS : sm (tbs ad) h S Y) {m : ms} (hm : sc S m) (hZ : ∀ i, i < 12 → ad i ≠ 0) (hW : ∀ i, i < 12 → w (ad i) = true) {t : Nat} (ht : t < 2) (hw : m.2.2.length < 35) (hd : 3 ≤ d) : am_Ev (am_prog w) d 65 [.ref (ad 0), .int (nI t)] h (fun r h' => r = none ∧ ∃ S', sm (tbs ad) h' S' Y ∧ sc S' (mX m t) ∧ sm_e (tbs ad) h h' ∧ S' 0 3 = S 0 3) := by
  obtain ⟨d, rfl⟩ : ∃ e, d = e + 1 := ⟨d - 1, by omega⟩
  refine ev_go rfl (Nat.le_of_ble_eq_true rfl) rfl ?_
  refine go_s (pc' := 1) rfl rfl rfl rfl ?_
  refine go_sget (pc' := 2) (v := .ref (ad 7)) hS rfl rfl (tbs_s hA (i := 0) (by decide) rfl) (by decide) rfl rfl ?_
  refine go_s (pc' := 3) rfl rfl rfl rfl ?_
  refine go_s (pc' := 4) (st' := [.int 0, .int (nI t), .ref (ad 7)]) rfl rfl rfl rfl ?_
  refine go_szast (pc' := 5) (q := t) hS rfl (tbs_s hA (i := 7) (by decide) (rg_el (by omega))) tbs_inj (Nat.le_of_ble_eq_true rfl) rfl (by omega) (hZ 7 (by decide)) rfl (hW 7 (by decide)) rfl (fun h1 hS2 hE3 => ?_)
  have hm1 := sc_u7 (k := t) (v := 0) hm ht
  refine go_s (pc' := 6) (st' := [.int 0]) rfl rfl rfl rfl ?_
  refine go_s (pc' := 7) (lo' := [some (.ref (ad 0)), some (.int (nI t)), some (.int (nI 0))]) rfl rfl rfl rfl ?_
  refine lp_lock (F := uF m.1 (14 + t) 0) hA hZ hW ht (K := ?_) 16 0 _ _ (by omega) hm1 hS2 hE3 rfl
  intro S9 h9 hm9 hS9 hE9 hb9
  refine go_s (pc' := 24) rfl rfl rfl rfl ?_
  refine go_callV (pc' := 25) rfl rfl rfl (Nat.le_of_ble_eq_true rfl) rfl (sm_o hS9 (tbs_at hA (i := 0) (by decide))) rfl rfl rfl (cs_trans hA hS9 (by omega)) (fun r h4 q5 => ?_)
  obtain ⟨rfl, rfl⟩ := q5
  refine go_ifP (t' := 28) (pc' := 26) rfl rfl rfl (fun (c6 : ¬ (nI (trS S9)) = 0) => ?_) (fun (c6' : ¬ ¬ (nI (trS S9)) = 0) => ?_)
  · skip
    refine go_ret rfl rfl ?_
    refine ⟨rfl, _, hS9, ?_, hE9, hb9⟩
    have z : ¬ mtr (frl (uF m.1 (14 + t) 0) (nI t) 16, m.2.1, m.2.2) = 0 := by
      intro z
      rw [sc_tr hm9, z] at c6
      exact c6 rfl
    unfold mX; simp only; rw [if_neg z]; exact hm9
  · skip
    have c6 : (nI (trS S9)) = 0 := Decidable.not_not.mp c6'
    refine go_s (pc' := 27) rfl rfl rfl rfl ?_
    refine go_callV (pc' := 28) rfl rfl rfl (Nat.le_of_ble_eq_true rfl) rfl (sm_o hS9 (tbs_at hA (i := 0) (by decide))) rfl rfl rfl (cs_gen hA hS9 hZ hW hm9.2.2.2.1 hw (by omega)) (fun r h7 q8 => ?_)
    obtain ⟨rfl, hS9, hE10⟩ := q8
    have hm11 := sc_G hm9 hw
    have b13 : cG S9 (frl (uF m.1 (14 + t) 0) (nI t) 16, m.2.1, m.2.2).2.2.length 0 3 = S9 0 3 := rfl
    generalize cG S9 (frl (uF m.1 (14 + t) 0) (nI t) 16, m.2.1, m.2.2).2.2.length = S12 at hS9 hm11 b13
    have hE14 := sm_e_trans hE9 hE10
    refine go_ret rfl rfl ?_
    refine ⟨rfl, _, hS9, ?_, hE14, b13.trans hb9⟩
    have z : mtr (frl (uF m.1 (14 + t) 0) (nI t) 16, m.2.1, m.2.2) = 0 := by
      have y := mtr_le (frl (uF m.1 (14 + t) 0) (nI t) 16, m.2.1, m.2.2)
      rw [sc_tr hm9] at c6
      exact (nI_eq (b := 0) (by omega) (by omega)).mp c6
    unfold mX; simp only; rw [if_pos z]; exact hm11
