/-- how a request is judged -/
def mjB (m : ms) (t : Nat) : Int32 := if m.1 (14 + t) = 0 then (if 32 - m.2.1.length < mtr m + 1 then -4 else 0) else -1
def mjA (m : ms) (t : Nat) (kd rc : Int32) : Int32 × ms := if rc < 0 ∨ 16 ≤ rc then (-5, m) else
  if ¬ m.1 (32 + rc.toNatClampNeg) = -1 ∧ ¬ m.1 (32 + rc.toNatClampNeg) = nI t then (-3, m) else
  (if kd = 2 ∧ 32 - m.2.1.length - 1 < mtr m then -4 else 0, (uF m.1 (32 + rc.toNatClampNeg) (nI t), m.2.1, m.2.2))
def mj (m : ms) (t : Nat) (q1 q3 kd rc : Int32) : Int32 × ms := if ¬ q1 = m.1 (6 + t) ∨ ¬ q3 = m.1 0 then (-9, m) else
  if kd = 0 then (mjB m t, m) else if kd < 0 ∨ 4 < kd then (-5, m) else if m.1 (14 + t) = 0 then (-2, m) else
  if kd = 1 ∨ kd = 2 then mjA m t kd rc else (0, m)
/-- what is done then -/
def mdo (m : ms) (t : Nat) (rs kd rc vl : Int32) : ms := if rs = -9 then (if m.1 (14 + t) = 0 then m else mX (mB m (nI t)) t) else
  if rs = 0 then (if kd = 0 then (uF m.1 (14 + t) 1, m.2.1, m.2.2) else if kd = 2 then mR (mE m 1 (nI t) rc (m.1 (16 + rc.toNatClampNeg))) rc.toNatClampNeg vl else
    if kd = 3 then mX (mE m 2 (nI t) 0 0) t else if kd = 4 then mX (mB m (nI t)) t else m) else m
def mfi (m : ms) (t : Nat) (q1 q2 rs kd rc : Int32) : ms := (uF (uF (uF (uF m.1 (6 + t) q1) (8 + t) q2) (10 + t) rs) (12 + t) (if rs = 0 ∧ kd = 1 then m.1 (16 + rc.toNatClampNeg) else 0), m.2.1, m.2.2)
def mpf (m : ms) (t : Nat) (q1 q2 q3 kd rc vl : Int32) : ms := mfi (mdo (mj (m.1, m.2.1, []) t q1 q3 kd rc).2 t (mj (m.1, m.2.1, []) t q1 q3 kd rc).1 kd rc vl) t q1 q2 (mj (m.1, m.2.1, []) t q1 q3 kd rc).1 kd rc
theorem cs_jB {w : Nat → Bool} {d : Nat} {h : am_Hp} {S : sm_I} {Y : sm_X} {ad : Nat → Nat} (hA : adk ad) (hS : sm (tbs ad) h S Y) {m : ms} (hm : sc S m) {t : Nat} (ht : t < 2) (hH : m.2.1.length + mtr m ≤ 32) (hd : 2 ≤ d) : am_Ev (am_prog w) d 54 [.ref (ad 0), .int (nI t)] h (fun r h' => r = some (.int (mjB m t)) ∧ h' = h) := by
  obtain ⟨d, rfl⟩ : ∃ e, d = e + 1 := ⟨d - 1, by omega⟩
  refine ev_go rfl (Nat.le_of_ble_eq_true rfl) rfl ?_
  refine go_s (pc' := 1) rfl rfl rfl rfl ?_
  refine go_sget (pc' := 2) (v := .ref (ad 7)) hS rfl rfl (tbs_s hA (i := 0) (by decide) rfl) (by decide) rfl rfl ?_
  refine go_s (pc' := 3) rfl rfl rfl rfl ?_
  refine go_sald (pc' := 4) (q := t) (v := .int (m.1 (14 + t))) hS rfl (tbs_s hA (i := 7) (by decide) (rg_el (by omega))) rfl rfl (by omega) (congrArg Value.int (hm.2.2.2.2.1 t ht).2.2.2.2) rfl ?_
  refine go_ifP (t' := 7) (pc' := 5) rfl rfl rfl (fun (c1 : (m.1 (14 + t)) = 0) => ?_) (fun (c1 : ¬ (m.1 (14 + t)) = 0) => ?_)
  · skip
    refine go_s (pc' := 8) (st' := [.int 32]) rfl rfl rfl rfl ?_
    refine go_s (pc' := 9) rfl rfl rfl rfl ?_
    refine go_sget (pc' := 10) (v := .int (nI m.2.1.length)) hS rfl rfl (tbs_s hA (i := 0) (by decide) rfl) (by decide) (congrArg Value.int hm.2.2.1) rfl ?_
    refine go_nsub (pc' := 11) (a := 32) (b := m.2.1.length) rfl rfl rfl (by omega) rfl rfl ?_
    refine go_s (pc' := 12) rfl rfl rfl rfl ?_
    refine go_callV (pc' := 13) rfl rfl rfl (Nat.le_of_ble_eq_true rfl) rfl (sm_o hS (tbs_at hA (i := 0) (by decide))) rfl rfl rfl (cs_trans hA hS (by omega)) (fun r h2 q3 => ?_)
    obtain ⟨rfl, rfl⟩ := q3
    rw [sc_tr hm]
    have htr := mtr_le m
    refine go_s (pc' := 14) (st' := [.int 1, .int (nI (mtr m)), .int (nI (32 - m.2.1.length))]) rfl rfl rfl rfl ?_
    refine go_nadd (pc' := 15) (a := (mtr m)) (b := 1) rfl rfl rfl rfl rfl ?_
    refine go_icmpP (t' := 18) (pc' := 16) rfl rfl rfl (fun (c4 : (nI (32 - m.2.1.length)) < (nI ((mtr m) + 1))) => ?_) (fun (c4 : ¬ (nI (32 - m.2.1.length)) < (nI ((mtr m) + 1))) => ?_)
    · skip
      refine go_s (pc' := 19) (st' := [.int (-4)]) rfl rfl rfl rfl ?_
      refine go_ret rfl rfl ?_
      exact ⟨by unfold mjB; rw [if_pos c1, if_pos ((nI_ltI (by omega) (by omega)).mp c4)], rfl⟩
    · skip
      refine go_s (pc' := 17) (st' := [.int 0]) rfl rfl rfl rfl ?_
      refine go_s (pc' := 19) rfl rfl rfl rfl ?_
      refine go_ret rfl rfl ?_
      exact ⟨by unfold mjB; rw [if_pos c1, if_neg (fun z => c4 (nI_lt z (by omega)))], rfl⟩
  · skip
    refine go_s (pc' := 6) (st' := [.int (-1)]) rfl rfl rfl rfl ?_
    refine go_ret rfl rfl ?_
    exact ⟨by unfold mjB; rw [if_neg c1], rfl⟩
theorem cs_jA {w : Nat → Bool} {d : Nat} {h : am_Hp} {S : sm_I} {Y : sm_X} {ad : Nat → Nat} (hA : adk ad) (hS : sm (tbs ad) h S Y) {m : ms} (hm : sc S m) (hZ : ∀ i, i < 12 → ad i ≠ 0) (hW : ∀ i, i < 12 → w (ad i) = true) {t k : Nat} (ht : t < 2) (hk : k < 16) {aq : Nat} {q1 q2 q3 kd vl : Int32} (hq : h[aq]? = some (.inl (8, [.int (nI t), .int q1, .int q2, .int q3, .int kd, .int (nI k), .int vl]))) (hqn : tbs ad aq = none) (hl : m.2.1.length < 32) (hd : 2 ≤ d) : am_Ev (am_prog w) d 56 [.ref (ad 0), .ref aq] h (fun r h' => r = some (.int (mjA m t kd (nI k)).1) ∧ ∃ S', sm (tbs ad) h' S' Y ∧ sc S' (mjA m t kd (nI k)).2 ∧ sm_e (tbs ad) h h' ∧ S' 0 3 = S 0 3) := by
  obtain ⟨d, rfl⟩ : ∃ e, d = e + 1 := ⟨d - 1, by omega⟩
  refine ev_go rfl (Nat.le_of_ble_eq_true rfl) rfl ?_
  refine go_s (pc' := 1) rfl rfl rfl rfl ?_
  refine go_get (pc' := 2) rfl hq rfl (by decide) rfl rfl ?_
  refine go_s (pc' := 3) (lo' := [some (.ref (ad 0)), some (.ref aq), some (.int (nI k)), none]) rfl rfl rfl rfl ?_
  refine go_s (pc' := 4) rfl rfl rfl rfl ?_
  refine go_s (pc' := 5) (st' := [.int 16, .int (nI k)]) rfl rfl rfl rfl ?_
  refine go_callS (pc' := 6) rfl rfl rfl (Nat.le_of_ble_eq_true rfl) rfl rfl rfl (ct_within_t (n := 16) hk (by decide) (by omega)) (fun r h1 q2 => ?_)
  obtain ⟨rfl, rfl⟩ := q2
  refine go_ifP (t' := 9) (pc' := 7) rfl rfl rfl (fun _ => ?_) (fun (c : ¬ (¬ (1 : Int32) = 0)) => absurd (by decide) c)
  refine go_s (pc' := 10) rfl rfl rfl rfl ?_
  refine go_sget (pc' := 11) (v := .ref (ad 6)) hS rfl rfl (tbs_s hA (i := 0) (by decide) rfl) (by decide) rfl rfl ?_
  refine go_s (pc' := 12) rfl rfl rfl rfl ?_
  refine go_sald (pc' := 13) (q := k) (v := .int (m.1 (32 + k))) hS rfl (tbs_s hA (i := 6) (by decide) (rg_el (by omega))) rfl rfl (by omega) (congrArg Value.int (hm.2.2.2.2.2.1 k hk).2) rfl ?_
  refine go_s (pc' := 14) (st' := [.int (-1), .int (m.1 (32 + k))]) rfl rfl rfl rfl ?_
  refine go_icmpP (t' := 24) (pc' := 15) rfl rfl rfl (fun (c3 : (m.1 (32 + k)) = (-1)) => ?_) (fun (c3 : ¬ (m.1 (32 + k)) = (-1)) => ?_)
  · skip
    refine go_s (pc' := 25) rfl rfl rfl rfl ?_
    refine go_sget (pc' := 26) (v := .ref (ad 6)) hS rfl rfl (tbs_s hA (i := 0) (by decide) rfl) (by decide) rfl rfl ?_
    refine go_s (pc' := 27) rfl rfl rfl rfl ?_
    refine go_s (pc' := 28) rfl rfl rfl rfl ?_
    refine go_get (pc' := 29) rfl hq rfl (by decide) rfl rfl ?_
    refine go_siast (pc' := 30) (q := k) hS rfl (tbs_s hA (i := 6) (by decide) (rg_el (by omega))) tbs_inj (Nat.le_of_ble_eq_true rfl) rfl (by omega) (hZ 6 (by decide)) (hW 6 (by decide)) rfl (fun h4 hS5 hE6 => ?_)
    have hq7 := (hE6.2.2 _ hqn).trans hq
    have hm1 := sc_u6 (k := k) (v := nI t) hm hk
    refine go_s (pc' := 31) (st' := [.int 32]) rfl rfl rfl rfl ?_
    refine go_s (pc' := 32) rfl rfl rfl rfl ?_
    refine go_sget (pc' := 33) (v := .int (nI m.2.1.length)) hS5 rfl rfl (tbs_s hA (i := 0) (by decide) rfl) (by decide) (congrArg Value.int hm1.2.2.1) rfl ?_
    refine go_nsub (pc' := 34) (a := 32) (b := m.2.1.length) rfl rfl rfl (by omega) rfl rfl ?_
    refine go_s (pc' := 35) (st' := [.int 1, .int (nI (32 - m.2.1.length))]) rfl rfl rfl rfl ?_
    refine go_nsub (pc' := 36) (a := (32 - m.2.1.length)) (b := 1) rfl rfl rfl (by omega) rfl rfl ?_
    refine go_s (pc' := 37) rfl rfl rfl rfl ?_
    refine go_callV (pc' := 38) rfl rfl rfl (Nat.le_of_ble_eq_true rfl) rfl (sm_o hS5 (tbs_at hA (i := 0) (by decide))) rfl rfl rfl (cs_trans hA hS5 (by omega)) (fun r h8 q9 => ?_)
    obtain ⟨rfl, rfl⟩ := q9
    rw [show trS (uI S 6 k (nI t)) = trS S from rfl, sc_tr hm]
    have htr := mtr_le m
    refine go_icmpP (t' := 41) (pc' := 39) rfl rfl rfl (fun (c10 : (nI ((32 - m.2.1.length) - 1)) < (nI (mtr m))) => ?_) (fun (c10 : ¬ (nI ((32 - m.2.1.length) - 1)) < (nI (mtr m))) => ?_)
    · skip
      refine go_s (pc' := 42) (st' := [.int 0]) rfl rfl rfl rfl ?_
      refine go_s (pc' := 43) (lo' := [some (.ref (ad 0)), some (.ref aq), some (.int (nI k)), some (.int 0)]) rfl rfl rfl rfl ?_
      refine go_s (pc' := 44) rfl rfl rfl rfl ?_
      refine go_get (pc' := 45) rfl hq7 rfl (by decide) rfl rfl ?_
      refine go_s (pc' := 46) (st' := [.int 2, .int kd]) rfl rfl rfl rfl ?_
      refine go_icmpP (t' := 51) (pc' := 47) rfl rfl rfl (fun (c11 : ¬ kd = 2) => ?_) (fun (c11' : ¬ ¬ kd = 2) => ?_)
      · skip
        refine go_s (pc' := 52) (st' := [.int 0]) rfl rfl rfl rfl ?_
        refine go_ret rfl rfl ?_
        have c16 : ¬ (nI k < 0 ∨ 16 ≤ nI k) := fun z => z.elim (fun z => nI_pos (by omega) z) (fun z => nI_ge (b := 16) hk (by decide) z)
        have ck : (nI k).toNatClampNeg = k := nI_clamp (by omega)
        exact ⟨by unfold mjA; rw [if_neg c16, ck, if_neg (fun z => z.1 c3)]; simp only; rw [if_neg (fun z => c11 z.1)], _, hS5, by unfold mjA; rw [if_neg c16, ck, if_neg (fun z => z.1 c3)]; exact hm1, hE6, rfl⟩
      · skip
        have c11 : kd = 2 := Decidable.not_not.mp c11'
        refine go_s (pc' := 48) rfl rfl rfl rfl ?_
        refine go_ifP (t' := 51) (pc' := 49) rfl rfl rfl (fun (c : ¬ (0 : Int32) = 0) => absurd c (by decide)) (fun _ => ?_)
        refine go_s (pc' := 50) (st' := [.int (-4)]) rfl rfl rfl rfl ?_
        refine go_s (pc' := 52) rfl rfl rfl rfl ?_
        refine go_ret rfl rfl ?_
        have c16 : ¬ (nI k < 0 ∨ 16 ≤ nI k) := fun z => z.elim (fun z => nI_pos (by omega) z) (fun z => nI_ge (b := 16) hk (by decide) z)
        have ck : (nI k).toNatClampNeg = k := nI_clamp (by omega)
        exact ⟨by unfold mjA; rw [if_neg c16, ck, if_neg (fun z => z.1 c3)]; simp only; rw [if_pos ⟨c11, (nI_ltI (by omega) (by omega)).mp c10⟩], _, hS5, by unfold mjA; rw [if_neg c16, ck, if_neg (fun z => z.1 c3)]; exact hm1, hE6, rfl⟩
    · skip
      refine go_s (pc' := 40) (st' := [.int 1]) rfl rfl rfl rfl ?_
      refine go_s (pc' := 42) rfl rfl rfl rfl ?_
      refine go_s (pc' := 43) (lo' := [some (.ref (ad 0)), some (.ref aq), some (.int (nI k)), some (.int 1)]) rfl rfl rfl rfl ?_
      refine go_s (pc' := 44) rfl rfl rfl rfl ?_
      refine go_get (pc' := 45) rfl hq7 rfl (by decide) rfl rfl ?_
      refine go_s (pc' := 46) (st' := [.int 2, .int kd]) rfl rfl rfl rfl ?_
      refine go_icmpP (t' := 51) (pc' := 47) rfl rfl rfl (fun (c12 : ¬ kd = 2) => ?_) (fun (c12' : ¬ ¬ kd = 2) => ?_)
      · skip
        refine go_s (pc' := 52) (st' := [.int 0]) rfl rfl rfl rfl ?_
        refine go_ret rfl rfl ?_
        have c16 : ¬ (nI k < 0 ∨ 16 ≤ nI k) := fun z => z.elim (fun z => nI_pos (by omega) z) (fun z => nI_ge (b := 16) hk (by decide) z)
        have ck : (nI k).toNatClampNeg = k := nI_clamp (by omega)
        exact ⟨by unfold mjA; rw [if_neg c16, ck, if_neg (fun z => z.1 c3)]; simp only; rw [if_neg (fun z => c12 z.1)], _, hS5, by unfold mjA; rw [if_neg c16, ck, if_neg (fun z => z.1 c3)]; exact hm1, hE6, rfl⟩
      · skip
        have c12 : kd = 2 := Decidable.not_not.mp c12'
        refine go_s (pc' := 48) rfl rfl rfl rfl ?_
        refine go_ifP (t' := 51) (pc' := 49) rfl rfl rfl (fun _ => ?_) (fun (c : ¬ (¬ (1 : Int32) = 0)) => absurd (by decide) c)
        refine go_s (pc' := 52) (st' := [.int 0]) rfl rfl rfl rfl ?_
        refine go_ret rfl rfl ?_
        have c16 : ¬ (nI k < 0 ∨ 16 ≤ nI k) := fun z => z.elim (fun z => nI_pos (by omega) z) (fun z => nI_ge (b := 16) hk (by decide) z)
        have ck : (nI k).toNatClampNeg = k := nI_clamp (by omega)
        exact ⟨by unfold mjA; rw [if_neg c16, ck, if_neg (fun z => z.1 c3)]; simp only; rw [if_neg (fun z => c10 (nI_lt z.2 (by omega)))], _, hS5, by unfold mjA; rw [if_neg c16, ck, if_neg (fun z => z.1 c3)]; exact hm1, hE6, rfl⟩
  · skip
    refine go_s (pc' := 16) rfl rfl rfl rfl ?_
    refine go_sget (pc' := 17) (v := .ref (ad 6)) hS rfl rfl (tbs_s hA (i := 0) (by decide) rfl) (by decide) rfl rfl ?_
    refine go_s (pc' := 18) rfl rfl rfl rfl ?_
    refine go_sald (pc' := 19) (q := k) (v := .int (m.1 (32 + k))) hS rfl (tbs_s hA (i := 6) (by decide) (rg_el (by omega))) rfl rfl (by omega) (congrArg Value.int (hm.2.2.2.2.2.1 k hk).2) rfl ?_
    refine go_s (pc' := 20) rfl rfl rfl rfl ?_
    refine go_get (pc' := 21) rfl hq rfl (by decide) rfl rfl ?_
    refine go_icmpP (t' := 24) (pc' := 22) rfl rfl rfl (fun (c13 : (m.1 (32 + k)) = (nI t)) => ?_) (fun (c13 : ¬ (m.1 (32 + k)) = (nI t)) => ?_)
    · skip
      refine go_s (pc' := 25) rfl rfl rfl rfl ?_
      refine go_sget (pc' := 26) (v := .ref (ad 6)) hS rfl rfl (tbs_s hA (i := 0) (by decide) rfl) (by decide) rfl rfl ?_
      refine go_s (pc' := 27) rfl rfl rfl rfl ?_
      refine go_s (pc' := 28) rfl rfl rfl rfl ?_
      refine go_get (pc' := 29) rfl hq rfl (by decide) rfl rfl ?_
      refine go_siast (pc' := 30) (q := k) hS rfl (tbs_s hA (i := 6) (by decide) (rg_el (by omega))) tbs_inj (Nat.le_of_ble_eq_true rfl) rfl (by omega) (hZ 6 (by decide)) (hW 6 (by decide)) rfl (fun h14 hS15 hE16 => ?_)
      have hq17 := (hE16.2.2 _ hqn).trans hq
      have hm1 := sc_u6 (k := k) (v := nI t) hm hk
      refine go_s (pc' := 31) (st' := [.int 32]) rfl rfl rfl rfl ?_
      refine go_s (pc' := 32) rfl rfl rfl rfl ?_
      refine go_sget (pc' := 33) (v := .int (nI m.2.1.length)) hS15 rfl rfl (tbs_s hA (i := 0) (by decide) rfl) (by decide) (congrArg Value.int hm1.2.2.1) rfl ?_
      refine go_nsub (pc' := 34) (a := 32) (b := m.2.1.length) rfl rfl rfl (by omega) rfl rfl ?_
      refine go_s (pc' := 35) (st' := [.int 1, .int (nI (32 - m.2.1.length))]) rfl rfl rfl rfl ?_
      refine go_nsub (pc' := 36) (a := (32 - m.2.1.length)) (b := 1) rfl rfl rfl (by omega) rfl rfl ?_
      refine go_s (pc' := 37) rfl rfl rfl rfl ?_
      refine go_callV (pc' := 38) rfl rfl rfl (Nat.le_of_ble_eq_true rfl) rfl (sm_o hS15 (tbs_at hA (i := 0) (by decide))) rfl rfl rfl (cs_trans hA hS15 (by omega)) (fun r h18 q19 => ?_)
      obtain ⟨rfl, rfl⟩ := q19
      rw [show trS (uI S 6 k (nI t)) = trS S from rfl, sc_tr hm]
      have htr := mtr_le m
      refine go_icmpP (t' := 41) (pc' := 39) rfl rfl rfl (fun (c20 : (nI ((32 - m.2.1.length) - 1)) < (nI (mtr m))) => ?_) (fun (c20 : ¬ (nI ((32 - m.2.1.length) - 1)) < (nI (mtr m))) => ?_)
      · skip
        refine go_s (pc' := 42) (st' := [.int 0]) rfl rfl rfl rfl ?_
        refine go_s (pc' := 43) (lo' := [some (.ref (ad 0)), some (.ref aq), some (.int (nI k)), some (.int 0)]) rfl rfl rfl rfl ?_
        refine go_s (pc' := 44) rfl rfl rfl rfl ?_
        refine go_get (pc' := 45) rfl hq17 rfl (by decide) rfl rfl ?_
        refine go_s (pc' := 46) (st' := [.int 2, .int kd]) rfl rfl rfl rfl ?_
        refine go_icmpP (t' := 51) (pc' := 47) rfl rfl rfl (fun (c21 : ¬ kd = 2) => ?_) (fun (c21' : ¬ ¬ kd = 2) => ?_)
        · skip
          refine go_s (pc' := 52) (st' := [.int 0]) rfl rfl rfl rfl ?_
          refine go_ret rfl rfl ?_
          have c16 : ¬ (nI k < 0 ∨ 16 ≤ nI k) := fun z => z.elim (fun z => nI_pos (by omega) z) (fun z => nI_ge (b := 16) hk (by decide) z)
          have ck : (nI k).toNatClampNeg = k := nI_clamp (by omega)
          exact ⟨by unfold mjA; rw [if_neg c16, ck, if_neg (fun z => z.2 c13)]; simp only; rw [if_neg (fun z => c21 z.1)], _, hS15, by unfold mjA; rw [if_neg c16, ck, if_neg (fun z => z.2 c13)]; exact hm1, hE16, rfl⟩
        · skip
          have c21 : kd = 2 := Decidable.not_not.mp c21'
          refine go_s (pc' := 48) rfl rfl rfl rfl ?_
          refine go_ifP (t' := 51) (pc' := 49) rfl rfl rfl (fun (c : ¬ (0 : Int32) = 0) => absurd c (by decide)) (fun _ => ?_)
          refine go_s (pc' := 50) (st' := [.int (-4)]) rfl rfl rfl rfl ?_
          refine go_s (pc' := 52) rfl rfl rfl rfl ?_
          refine go_ret rfl rfl ?_
          have c16 : ¬ (nI k < 0 ∨ 16 ≤ nI k) := fun z => z.elim (fun z => nI_pos (by omega) z) (fun z => nI_ge (b := 16) hk (by decide) z)
          have ck : (nI k).toNatClampNeg = k := nI_clamp (by omega)
          exact ⟨by unfold mjA; rw [if_neg c16, ck, if_neg (fun z => z.2 c13)]; simp only; rw [if_pos ⟨c21, (nI_ltI (by omega) (by omega)).mp c20⟩], _, hS15, by unfold mjA; rw [if_neg c16, ck, if_neg (fun z => z.2 c13)]; exact hm1, hE16, rfl⟩
      · skip
        refine go_s (pc' := 40) (st' := [.int 1]) rfl rfl rfl rfl ?_
        refine go_s (pc' := 42) rfl rfl rfl rfl ?_
        refine go_s (pc' := 43) (lo' := [some (.ref (ad 0)), some (.ref aq), some (.int (nI k)), some (.int 1)]) rfl rfl rfl rfl ?_
        refine go_s (pc' := 44) rfl rfl rfl rfl ?_
        refine go_get (pc' := 45) rfl hq17 rfl (by decide) rfl rfl ?_
        refine go_s (pc' := 46) (st' := [.int 2, .int kd]) rfl rfl rfl rfl ?_
        refine go_icmpP (t' := 51) (pc' := 47) rfl rfl rfl (fun (c22 : ¬ kd = 2) => ?_) (fun (c22' : ¬ ¬ kd = 2) => ?_)
        · skip
          refine go_s (pc' := 52) (st' := [.int 0]) rfl rfl rfl rfl ?_
          refine go_ret rfl rfl ?_
          have c16 : ¬ (nI k < 0 ∨ 16 ≤ nI k) := fun z => z.elim (fun z => nI_pos (by omega) z) (fun z => nI_ge (b := 16) hk (by decide) z)
          have ck : (nI k).toNatClampNeg = k := nI_clamp (by omega)
          exact ⟨by unfold mjA; rw [if_neg c16, ck, if_neg (fun z => z.2 c13)]; simp only; rw [if_neg (fun z => c22 z.1)], _, hS15, by unfold mjA; rw [if_neg c16, ck, if_neg (fun z => z.2 c13)]; exact hm1, hE16, rfl⟩
        · skip
          have c22 : kd = 2 := Decidable.not_not.mp c22'
          refine go_s (pc' := 48) rfl rfl rfl rfl ?_
          refine go_ifP (t' := 51) (pc' := 49) rfl rfl rfl (fun _ => ?_) (fun (c : ¬ (¬ (1 : Int32) = 0)) => absurd (by decide) c)
          refine go_s (pc' := 52) (st' := [.int 0]) rfl rfl rfl rfl ?_
          refine go_ret rfl rfl ?_
          have c16 : ¬ (nI k < 0 ∨ 16 ≤ nI k) := fun z => z.elim (fun z => nI_pos (by omega) z) (fun z => nI_ge (b := 16) hk (by decide) z)
          have ck : (nI k).toNatClampNeg = k := nI_clamp (by omega)
          exact ⟨by unfold mjA; rw [if_neg c16, ck, if_neg (fun z => z.2 c13)]; simp only; rw [if_neg (fun z => c20 (nI_lt z.2 (by omega)))], _, hS15, by unfold mjA; rw [if_neg c16, ck, if_neg (fun z => z.2 c13)]; exact hm1, hE16, rfl⟩
    · skip
      refine go_s (pc' := 23) (st' := [.int (-3)]) rfl rfl rfl rfl ?_
      refine go_ret rfl rfl ?_
      have c16 : ¬ (nI k < 0 ∨ 16 ≤ nI k) := fun z => z.elim (fun z => nI_pos (by omega) z) (fun z => nI_ge (b := 16) hk (by decide) z)
      have ck : (nI k).toNatClampNeg = k := nI_clamp (by omega)
      exact ⟨by unfold mjA; rw [if_neg c16, ck, if_pos ⟨c3, c13⟩], S, hS, by unfold mjA; rw [if_neg c16, ck, if_pos ⟨c3, c13⟩]; exact hm, sm_e_refl _ _, rfl⟩
theorem cs_jA_f {w : Nat → Bool} {d : Nat} {h : am_Hp} {S : sm_I} {Y : sm_X} {ad : Nat → Nat} (hA : adk ad) (hS : sm (tbs ad) h S Y) {m : ms} (hm : sc S m) {t : Nat} {aq : Nat} {q1 q2 q3 kd rc vl : Int32} (hq : h[aq]? = some (.inl (8, [.int (nI t), .int q1, .int q2, .int q3, .int kd, .int rc, .int vl]))) (hqn : tbs ad aq = none) (hn : rc < 0 ∨ 16 ≤ rc) (hd : 2 ≤ d) : am_Ev (am_prog w) d 56 [.ref (ad 0), .ref aq] h (fun r h' => r = some (.int (mjA m t kd rc).1) ∧ ∃ S', sm (tbs ad) h' S' Y ∧ sc S' (mjA m t kd rc).2 ∧ sm_e (tbs ad) h h' ∧ S' 0 3 = S 0 3) := by
  obtain ⟨d, rfl⟩ : ∃ e, d = e + 1 := ⟨d - 1, by omega⟩
  refine ev_go rfl (Nat.le_of_ble_eq_true rfl) rfl ?_
  refine go_s (pc' := 1) rfl rfl rfl rfl ?_
  refine go_get (pc' := 2) rfl hq rfl (by decide) rfl rfl ?_
  refine go_s (pc' := 3) (lo' := [some (.ref (ad 0)), some (.ref aq), some (.int rc), none]) rfl rfl rfl rfl ?_
  refine go_s (pc' := 4) rfl rfl rfl rfl ?_
  refine go_s (pc' := 5) (st' := [.int 16, .int rc]) rfl rfl rfl rfl ?_
  refine go_callS (pc' := 6) rfl rfl rfl (Nat.le_of_ble_eq_true rfl) rfl rfl rfl (ct_within_f (a := rc) (n := 16) hn (by omega)) (fun r h1 q2 => ?_)
  obtain ⟨rfl, rfl⟩ := q2
  refine go_ifP (t' := 9) (pc' := 7) rfl rfl rfl (fun (c : ¬ (0 : Int32) = 0) => absurd c (by decide)) (fun _ => ?_)
  refine go_s (pc' := 8) (st' := [.int (-5)]) rfl rfl rfl rfl ?_
  refine go_ret rfl rfl ?_
  exact ⟨by unfold mjA; rw [if_pos hn], S, hS, by unfold mjA; rw [if_pos hn]; exact hm, sm_e_refl _ _, rfl⟩
theorem mtr_pos {m : ms} {t : Nat} (ht : t < 2) (h : ¬ m.1 (14 + t) = 0) : 1 ≤ mtr m := by
  unfold mtr
  match t, ht with
  | 0, _ => rw [if_neg h]; omega
  | 1, _ => rw [if_neg (show ¬ m.1 15 = 0 from h)]; omega
theorem cs_j {w : Nat → Bool} {d : Nat} {h : am_Hp} {S : sm_I} {Y : sm_X} {ad : Nat → Nat} (hA : adk ad) (hS : sm (tbs ad) h S Y) {m : ms} (hm : sc S m) (hZ : ∀ i, i < 12 → ad i ≠ 0) (hW : ∀ i, i < 12 → w (ad i) = true) {t k : Nat} (ht : t < 2) (hk : k < 16) {aq : Nat} {q1 q2 q3 kd vl : Int32} (hq : h[aq]? = some (.inl (8, [.int (nI t), .int q1, .int q2, .int q3, .int kd, .int (nI k), .int vl]))) (hqn : tbs ad aq = none) (hH : m.2.1.length + mtr m ≤ 32) (hd : 3 ≤ d) : am_Ev (am_prog w) d 53 [.ref (ad 0), .ref aq] h (fun r h' => r = some (.int (mj m t q1 q3 kd (nI k)).1) ∧ ∃ S', sm (tbs ad) h' S' Y ∧ sc S' (mj m t q1 q3 kd (nI k)).2 ∧ sm_e (tbs ad) h h' ∧ S' 0 3 = S 0 3) := by
  obtain ⟨d, rfl⟩ : ∃ e, d = e + 1 := ⟨d - 1, by omega⟩
  refine ev_go rfl (Nat.le_of_ble_eq_true rfl) rfl ?_
  refine go_s (pc' := 1) rfl rfl rfl rfl ?_
  refine go_get (pc' := 2) rfl hq rfl (by decide) rfl rfl ?_
  refine go_s (pc' := 3) (lo' := [some (.ref (ad 0)), some (.ref aq), some (.int (nI t))]) rfl rfl rfl rfl ?_
  refine go_s (pc' := 4) rfl rfl rfl rfl ?_
  refine go_get (pc' := 5) rfl hq rfl (by decide) rfl rfl ?_
  refine go_s (pc' := 6) rfl rfl rfl rfl ?_
  refine go_sget (pc' := 7) (v := .ref (ad 1)) hS rfl rfl (tbs_s hA (i := 0) (by decide) rfl) (by decide) rfl rfl ?_
  refine go_s (pc' := 8) rfl rfl rfl rfl ?_
  refine go_sald (pc' := 9) (q := t) (v := .int (m.1 (6 + t))) hS rfl (tbs_s hA (i := 1) (by decide) (rg_el (by omega))) rfl rfl (by omega) (congrArg Value.int (hm.2.2.2.2.1 t ht).1) rfl ?_
  refine go_icmpP (t' := 15) (pc' := 10) rfl rfl rfl (fun (c1 : ¬ q1 = (m.1 (6 + t))) => ?_) (fun (c1' : ¬ ¬ q1 = (m.1 (6 + t))) => ?_)
  · skip
    refine go_s (pc' := 16) (st' := [.int (-9)]) rfl rfl rfl rfl ?_
    refine go_ret rfl rfl ?_
    have hj : mj m t q1 q3 kd (nI k) = ((-9), m) := by
      unfold mj
      rw [if_pos (Or.inl c1)]
    exact ⟨by rw [hj], S, hS, by rw [hj]; exact hm, sm_e_refl _ _, rfl⟩
  · skip
    have c1 : q1 = (m.1 (6 + t)) := Decidable.not_not.mp c1'
    refine go_s (pc' := 11) rfl rfl rfl rfl ?_
    refine go_get (pc' := 12) rfl hq rfl (by decide) rfl rfl ?_
    refine go_s (pc' := 13) rfl rfl rfl rfl ?_
    refine go_sget (pc' := 14) (v := .int (m.1 0)) hS rfl rfl (tbs_s hA (i := 0) (by decide) rfl) (by decide) (congrArg Value.int hm.1) rfl ?_
    refine go_icmpP (t' := 17) (pc' := 15) rfl rfl rfl (fun (c2 : q3 = (m.1 0)) => ?_) (fun (c2 : ¬ q3 = (m.1 0)) => ?_)
    · skip
      refine go_s (pc' := 18) rfl rfl rfl rfl ?_
      refine go_get (pc' := 19) rfl hq rfl (by decide) rfl rfl ?_
      refine go_ifP (t' := 24) (pc' := 20) rfl rfl rfl (fun (c3 : ¬ kd = 0) => ?_) (fun (c3' : ¬ ¬ kd = 0) => ?_)
      · skip
        refine go_s (pc' := 25) rfl rfl rfl rfl ?_
        refine go_get (pc' := 26) rfl hq rfl (by decide) rfl rfl ?_
        refine go_ifP (t' := 31) (pc' := 27) rfl rfl rfl (fun (c4 : kd < 0) => ?_) (fun (c4 : ¬ kd < 0) => ?_)
        · skip
          refine go_s (pc' := 32) (st' := [.int (-5)]) rfl rfl rfl rfl ?_
          refine go_ret rfl rfl ?_
          have hj : mj m t q1 q3 kd (nI k) = ((-5), m) := by
            unfold mj
            rw [if_neg (fun z => z.elim (fun z => z c1) (fun z => z c2)), if_neg c3, if_pos (Or.inl c4)]
          exact ⟨by rw [hj], S, hS, by rw [hj]; exact hm, sm_e_refl _ _, rfl⟩
        · skip
          refine go_s (pc' := 28) rfl rfl rfl rfl ?_
          refine go_get (pc' := 29) rfl hq rfl (by decide) rfl rfl ?_
          refine go_s (pc' := 30) (st' := [.int 4, .int kd]) rfl rfl rfl rfl ?_
          refine go_icmpP (t' := 33) (pc' := 31) rfl rfl rfl (fun (c5 : kd ≤ 4) => ?_) (fun (c5 : ¬ kd ≤ 4) => ?_)
          · skip
            refine go_s (pc' := 34) rfl rfl rfl rfl ?_
            refine go_sget (pc' := 35) (v := .ref (ad 7)) hS rfl rfl (tbs_s hA (i := 0) (by decide) rfl) (by decide) rfl rfl ?_
            refine go_s (pc' := 36) rfl rfl rfl rfl ?_
            refine go_sald (pc' := 37) (q := t) (v := .int (m.1 (14 + t))) hS rfl (tbs_s hA (i := 7) (by decide) (rg_el (by omega))) rfl rfl (by omega) (congrArg Value.int (hm.2.2.2.2.1 t ht).2.2.2.2) rfl ?_
            refine go_ifP (t' := 40) (pc' := 38) rfl rfl rfl (fun (c6 : ¬ (m.1 (14 + t)) = 0) => ?_) (fun (c6' : ¬ ¬ (m.1 (14 + t)) = 0) => ?_)
            · skip
              refine go_s (pc' := 41) rfl rfl rfl rfl ?_
              refine go_get (pc' := 42) rfl hq rfl (by decide) rfl rfl ?_
              refine go_s (pc' := 43) (st' := [.int 1, .int kd]) rfl rfl rfl rfl ?_
              refine go_icmpP (t' := 48) (pc' := 44) rfl rfl rfl (fun (c7 : kd = 1) => ?_) (fun (c7 : ¬ kd = 1) => ?_)
              · skip
                refine go_s (pc' := 49) rfl rfl rfl rfl ?_
                refine go_s (pc' := 50) rfl rfl rfl rfl ?_
                have hl32 : m.2.1.length < 32 := by
                  have := mtr_pos ht c6
                  omega
                refine go_callV (pc' := 51) rfl rfl rfl (Nat.le_of_ble_eq_true rfl) rfl (sm_o hS (tbs_at hA (i := 0) (by decide))) rfl rfl rfl (cs_jA hA hS hm hZ hW ht hk hq hqn hl32 (by omega)) (fun r h8 q9 => ?_)
                obtain ⟨rfl, S8, hS8, hm8, hE8, hb8⟩ := q9
                refine go_s (pc' := 53) rfl rfl rfl rfl ?_
                refine go_ret rfl rfl ?_
                have hj : mj m t q1 q3 kd (nI k) = mjA m t kd (nI k) := by
                  unfold mj
                  rw [if_neg (fun z => z.elim (fun z => z c1) (fun z => z c2)), if_neg c3, if_neg (fun z => z.elim (fun z => c4 z) (fun z => Int32.not_le.mpr z c5)), if_neg c6, if_pos (Or.inl c7)]
                exact ⟨by rw [hj], S8, hS8, by rw [hj]; exact hm8, hE8, hb8⟩
              · skip
                refine go_s (pc' := 45) rfl rfl rfl rfl ?_
                refine go_get (pc' := 46) rfl hq rfl (by decide) rfl rfl ?_
                refine go_s (pc' := 47) (st' := [.int 2, .int kd]) rfl rfl rfl rfl ?_
                refine go_icmpP (t' := 52) (pc' := 48) rfl rfl rfl (fun (c10 : ¬ kd = 2) => ?_) (fun (c10' : ¬ ¬ kd = 2) => ?_)
                · skip
                  refine go_s (pc' := 53) (st' := [.int 0]) rfl rfl rfl rfl ?_
                  refine go_ret rfl rfl ?_
                  have hj : mj m t q1 q3 kd (nI k) = (0, m) := by
                    unfold mj
                    rw [if_neg (fun z => z.elim (fun z => z c1) (fun z => z c2)), if_neg c3, if_neg (fun z => z.elim (fun z => c4 z) (fun z => Int32.not_le.mpr z c5)), if_neg c6, if_neg (fun z => z.elim (fun z => c7 z) (fun z => c10 z))]
                  exact ⟨by rw [hj], S, hS, by rw [hj]; exact hm, sm_e_refl _ _, rfl⟩
                · skip
                  have c10 : kd = 2 := Decidable.not_not.mp c10'
                  refine go_s (pc' := 49) rfl rfl rfl rfl ?_
                  refine go_s (pc' := 50) rfl rfl rfl rfl ?_
                  have hl32 : m.2.1.length < 32 := by
                    have := mtr_pos ht c6
                    omega
                  refine go_callV (pc' := 51) rfl rfl rfl (Nat.le_of_ble_eq_true rfl) rfl (sm_o hS (tbs_at hA (i := 0) (by decide))) rfl rfl rfl (cs_jA hA hS hm hZ hW ht hk hq hqn hl32 (by omega)) (fun r h11 q12 => ?_)
                  obtain ⟨rfl, S8, hS8, hm8, hE8, hb8⟩ := q12
                  refine go_s (pc' := 53) rfl rfl rfl rfl ?_
                  refine go_ret rfl rfl ?_
                  have hj : mj m t q1 q3 kd (nI k) = mjA m t kd (nI k) := by
                    unfold mj
                    rw [if_neg (fun z => z.elim (fun z => z c1) (fun z => z c2)), if_neg c3, if_neg (fun z => z.elim (fun z => c4 z) (fun z => Int32.not_le.mpr z c5)), if_neg c6, if_pos (Or.inr c10)]
                  exact ⟨by rw [hj], S8, hS8, by rw [hj]; exact hm8, hE8, hb8⟩
            · skip
              have c6 : (m.1 (14 + t)) = 0 := Decidable.not_not.mp c6'
              refine go_s (pc' := 39) (st' := [.int (-2)]) rfl rfl rfl rfl ?_
              refine go_ret rfl rfl ?_
              have hj : mj m t q1 q3 kd (nI k) = ((-2), m) := by
                unfold mj
                rw [if_neg (fun z => z.elim (fun z => z c1) (fun z => z c2)), if_neg c3, if_neg (fun z => z.elim (fun z => c4 z) (fun z => Int32.not_le.mpr z c5)), if_pos c6]
              exact ⟨by rw [hj], S, hS, by rw [hj]; exact hm, sm_e_refl _ _, rfl⟩
          · skip
            refine go_s (pc' := 32) (st' := [.int (-5)]) rfl rfl rfl rfl ?_
            refine go_ret rfl rfl ?_
            have hj : mj m t q1 q3 kd (nI k) = ((-5), m) := by
              unfold mj
              rw [if_neg (fun z => z.elim (fun z => z c1) (fun z => z c2)), if_neg c3, if_pos (Or.inr (Int32.not_le.mp c5))]
            exact ⟨by rw [hj], S, hS, by rw [hj]; exact hm, sm_e_refl _ _, rfl⟩
      · skip
        have c3 : kd = 0 := Decidable.not_not.mp c3'
        refine go_s (pc' := 21) rfl rfl rfl rfl ?_
        refine go_s (pc' := 22) rfl rfl rfl rfl ?_
        refine go_callV (pc' := 23) rfl rfl rfl (Nat.le_of_ble_eq_true rfl) rfl (sm_o hS (tbs_at hA (i := 0) (by decide))) rfl rfl rfl (cs_jB hA hS hm ht hH (by omega)) (fun r h13 q14 => ?_)
        obtain ⟨rfl, rfl⟩ := q14
        refine go_ret rfl rfl ?_
        have hj : mj m t q1 q3 kd (nI k) = ((mjB m t), m) := by
          unfold mj
          rw [if_neg (fun z => z.elim (fun z => z c1) (fun z => z c2)), if_pos c3]
        exact ⟨by rw [hj], S, hS, by rw [hj]; exact hm, sm_e_refl _ _, rfl⟩
    · skip
      refine go_s (pc' := 16) (st' := [.int (-9)]) rfl rfl rfl rfl ?_
      refine go_ret rfl rfl ?_
      have hj : mj m t q1 q3 kd (nI k) = ((-9), m) := by
        unfold mj
        rw [if_pos (Or.inr c2)]
      exact ⟨by rw [hj], S, hS, by rw [hj]; exact hm, sm_e_refl _ _, rfl⟩
theorem cs_j_f {w : Nat → Bool} {d : Nat} {h : am_Hp} {S : sm_I} {Y : sm_X} {ad : Nat → Nat} (hA : adk ad) (hS : sm (tbs ad) h S Y) {m : ms} (hm : sc S m) (hZ : ∀ i, i < 12 → ad i ≠ 0) (hW : ∀ i, i < 12 → w (ad i) = true) {t : Nat} (ht : t < 2) {aq : Nat} {q1 q2 q3 kd rc vl : Int32} (hq : h[aq]? = some (.inl (8, [.int (nI t), .int q1, .int q2, .int q3, .int kd, .int rc, .int vl]))) (hqn : tbs ad aq = none) (hn : rc < 0 ∨ 16 ≤ rc) (hH : m.2.1.length + mtr m ≤ 32) (hd : 3 ≤ d) : am_Ev (am_prog w) d 53 [.ref (ad 0), .ref aq] h (fun r h' => r = some (.int (mj m t q1 q3 kd rc).1) ∧ ∃ S', sm (tbs ad) h' S' Y ∧ sc S' (mj m t q1 q3 kd rc).2 ∧ sm_e (tbs ad) h h' ∧ S' 0 3 = S 0 3) := by
  obtain ⟨d, rfl⟩ : ∃ e, d = e + 1 := ⟨d - 1, by omega⟩
  refine ev_go rfl (Nat.le_of_ble_eq_true rfl) rfl ?_
  refine go_s (pc' := 1) rfl rfl rfl rfl ?_
  refine go_get (pc' := 2) rfl hq rfl (by decide) rfl rfl ?_
  refine go_s (pc' := 3) (lo' := [some (.ref (ad 0)), some (.ref aq), some (.int (nI t))]) rfl rfl rfl rfl ?_
  refine go_s (pc' := 4) rfl rfl rfl rfl ?_
  refine go_get (pc' := 5) rfl hq rfl (by decide) rfl rfl ?_
  refine go_s (pc' := 6) rfl rfl rfl rfl ?_
  refine go_sget (pc' := 7) (v := .ref (ad 1)) hS rfl rfl (tbs_s hA (i := 0) (by decide) rfl) (by decide) rfl rfl ?_
  refine go_s (pc' := 8) rfl rfl rfl rfl ?_
  refine go_sald (pc' := 9) (q := t) (v := .int (m.1 (6 + t))) hS rfl (tbs_s hA (i := 1) (by decide) (rg_el (by omega))) rfl rfl (by omega) (congrArg Value.int (hm.2.2.2.2.1 t ht).1) rfl ?_
  refine go_icmpP (t' := 15) (pc' := 10) rfl rfl rfl (fun (c1 : ¬ q1 = (m.1 (6 + t))) => ?_) (fun (c1' : ¬ ¬ q1 = (m.1 (6 + t))) => ?_)
  · skip
    refine go_s (pc' := 16) (st' := [.int (-9)]) rfl rfl rfl rfl ?_
    refine go_ret rfl rfl ?_
    have hj : mj m t q1 q3 kd rc = ((-9), m) := by
      unfold mj
      rw [if_pos (Or.inl c1)]
    exact ⟨by rw [hj], S, hS, by rw [hj]; exact hm, sm_e_refl _ _, rfl⟩
  · skip
    have c1 : q1 = (m.1 (6 + t)) := Decidable.not_not.mp c1'
    refine go_s (pc' := 11) rfl rfl rfl rfl ?_
    refine go_get (pc' := 12) rfl hq rfl (by decide) rfl rfl ?_
    refine go_s (pc' := 13) rfl rfl rfl rfl ?_
    refine go_sget (pc' := 14) (v := .int (m.1 0)) hS rfl rfl (tbs_s hA (i := 0) (by decide) rfl) (by decide) (congrArg Value.int hm.1) rfl ?_
    refine go_icmpP (t' := 17) (pc' := 15) rfl rfl rfl (fun (c2 : q3 = (m.1 0)) => ?_) (fun (c2 : ¬ q3 = (m.1 0)) => ?_)
    · skip
      refine go_s (pc' := 18) rfl rfl rfl rfl ?_
      refine go_get (pc' := 19) rfl hq rfl (by decide) rfl rfl ?_
      refine go_ifP (t' := 24) (pc' := 20) rfl rfl rfl (fun (c3 : ¬ kd = 0) => ?_) (fun (c3' : ¬ ¬ kd = 0) => ?_)
      · skip
        refine go_s (pc' := 25) rfl rfl rfl rfl ?_
        refine go_get (pc' := 26) rfl hq rfl (by decide) rfl rfl ?_
        refine go_ifP (t' := 31) (pc' := 27) rfl rfl rfl (fun (c4 : kd < 0) => ?_) (fun (c4 : ¬ kd < 0) => ?_)
        · skip
          refine go_s (pc' := 32) (st' := [.int (-5)]) rfl rfl rfl rfl ?_
          refine go_ret rfl rfl ?_
          have hj : mj m t q1 q3 kd rc = ((-5), m) := by
            unfold mj
            rw [if_neg (fun z => z.elim (fun z => z c1) (fun z => z c2)), if_neg c3, if_pos (Or.inl c4)]
          exact ⟨by rw [hj], S, hS, by rw [hj]; exact hm, sm_e_refl _ _, rfl⟩
        · skip
          refine go_s (pc' := 28) rfl rfl rfl rfl ?_
          refine go_get (pc' := 29) rfl hq rfl (by decide) rfl rfl ?_
          refine go_s (pc' := 30) (st' := [.int 4, .int kd]) rfl rfl rfl rfl ?_
          refine go_icmpP (t' := 33) (pc' := 31) rfl rfl rfl (fun (c5 : kd ≤ 4) => ?_) (fun (c5 : ¬ kd ≤ 4) => ?_)
          · skip
            refine go_s (pc' := 34) rfl rfl rfl rfl ?_
            refine go_sget (pc' := 35) (v := .ref (ad 7)) hS rfl rfl (tbs_s hA (i := 0) (by decide) rfl) (by decide) rfl rfl ?_
            refine go_s (pc' := 36) rfl rfl rfl rfl ?_
            refine go_sald (pc' := 37) (q := t) (v := .int (m.1 (14 + t))) hS rfl (tbs_s hA (i := 7) (by decide) (rg_el (by omega))) rfl rfl (by omega) (congrArg Value.int (hm.2.2.2.2.1 t ht).2.2.2.2) rfl ?_
            refine go_ifP (t' := 40) (pc' := 38) rfl rfl rfl (fun (c6 : ¬ (m.1 (14 + t)) = 0) => ?_) (fun (c6' : ¬ ¬ (m.1 (14 + t)) = 0) => ?_)
            · skip
              refine go_s (pc' := 41) rfl rfl rfl rfl ?_
              refine go_get (pc' := 42) rfl hq rfl (by decide) rfl rfl ?_
              refine go_s (pc' := 43) (st' := [.int 1, .int kd]) rfl rfl rfl rfl ?_
              refine go_icmpP (t' := 48) (pc' := 44) rfl rfl rfl (fun (c7 : kd = 1) => ?_) (fun (c7 : ¬ kd = 1) => ?_)
              · skip
                refine go_s (pc' := 49) rfl rfl rfl rfl ?_
                refine go_s (pc' := 50) rfl rfl rfl rfl ?_
                refine go_callV (pc' := 51) rfl rfl rfl (Nat.le_of_ble_eq_true rfl) rfl (sm_o hS (tbs_at hA (i := 0) (by decide))) rfl rfl rfl (cs_jA_f hA hS hm hq hqn hn (by omega)) (fun r h8 q9 => ?_)
                obtain ⟨rfl, S8, hS8, hm8, hE8, hb8⟩ := q9
                refine go_s (pc' := 53) rfl rfl rfl rfl ?_
                refine go_ret rfl rfl ?_
                have hj : mj m t q1 q3 kd rc = mjA m t kd rc := by
                  unfold mj
                  rw [if_neg (fun z => z.elim (fun z => z c1) (fun z => z c2)), if_neg c3, if_neg (fun z => z.elim (fun z => c4 z) (fun z => Int32.not_le.mpr z c5)), if_neg c6, if_pos (Or.inl c7)]
                exact ⟨by rw [hj], S8, hS8, by rw [hj]; exact hm8, hE8, hb8⟩
              · skip
                refine go_s (pc' := 45) rfl rfl rfl rfl ?_
                refine go_get (pc' := 46) rfl hq rfl (by decide) rfl rfl ?_
                refine go_s (pc' := 47) (st' := [.int 2, .int kd]) rfl rfl rfl rfl ?_
                refine go_icmpP (t' := 52) (pc' := 48) rfl rfl rfl (fun (c10 : ¬ kd = 2) => ?_) (fun (c10' : ¬ ¬ kd = 2) => ?_)
                · skip
                  refine go_s (pc' := 53) (st' := [.int 0]) rfl rfl rfl rfl ?_
                  refine go_ret rfl rfl ?_
                  have hj : mj m t q1 q3 kd rc = (0, m) := by
                    unfold mj
                    rw [if_neg (fun z => z.elim (fun z => z c1) (fun z => z c2)), if_neg c3, if_neg (fun z => z.elim (fun z => c4 z) (fun z => Int32.not_le.mpr z c5)), if_neg c6, if_neg (fun z => z.elim (fun z => c7 z) (fun z => c10 z))]
                  exact ⟨by rw [hj], S, hS, by rw [hj]; exact hm, sm_e_refl _ _, rfl⟩
                · skip
                  have c10 : kd = 2 := Decidable.not_not.mp c10'
                  refine go_s (pc' := 49) rfl rfl rfl rfl ?_
                  refine go_s (pc' := 50) rfl rfl rfl rfl ?_
                  refine go_callV (pc' := 51) rfl rfl rfl (Nat.le_of_ble_eq_true rfl) rfl (sm_o hS (tbs_at hA (i := 0) (by decide))) rfl rfl rfl (cs_jA_f hA hS hm hq hqn hn (by omega)) (fun r h11 q12 => ?_)
                  obtain ⟨rfl, S8, hS8, hm8, hE8, hb8⟩ := q12
                  refine go_s (pc' := 53) rfl rfl rfl rfl ?_
                  refine go_ret rfl rfl ?_
                  have hj : mj m t q1 q3 kd rc = mjA m t kd rc := by
                    unfold mj
                    rw [if_neg (fun z => z.elim (fun z => z c1) (fun z => z c2)), if_neg c3, if_neg (fun z => z.elim (fun z => c4 z) (fun z => Int32.not_le.mpr z c5)), if_neg c6, if_pos (Or.inr c10)]
                  exact ⟨by rw [hj], S8, hS8, by rw [hj]; exact hm8, hE8, hb8⟩
            · skip
              have c6 : (m.1 (14 + t)) = 0 := Decidable.not_not.mp c6'
              refine go_s (pc' := 39) (st' := [.int (-2)]) rfl rfl rfl rfl ?_
              refine go_ret rfl rfl ?_
              have hj : mj m t q1 q3 kd rc = ((-2), m) := by
                unfold mj
                rw [if_neg (fun z => z.elim (fun z => z c1) (fun z => z c2)), if_neg c3, if_neg (fun z => z.elim (fun z => c4 z) (fun z => Int32.not_le.mpr z c5)), if_pos c6]
              exact ⟨by rw [hj], S, hS, by rw [hj]; exact hm, sm_e_refl _ _, rfl⟩
          · skip
            refine go_s (pc' := 32) (st' := [.int (-5)]) rfl rfl rfl rfl ?_
            refine go_ret rfl rfl ?_
            have hj : mj m t q1 q3 kd rc = ((-5), m) := by
              unfold mj
              rw [if_neg (fun z => z.elim (fun z => z c1) (fun z => z c2)), if_neg c3, if_pos (Or.inr (Int32.not_le.mp c5))]
            exact ⟨by rw [hj], S, hS, by rw [hj]; exact hm, sm_e_refl _ _, rfl⟩
      · skip
        have c3 : kd = 0 := Decidable.not_not.mp c3'
        refine go_s (pc' := 21) rfl rfl rfl rfl ?_
        refine go_s (pc' := 22) rfl rfl rfl rfl ?_
        refine go_callV (pc' := 23) rfl rfl rfl (Nat.le_of_ble_eq_true rfl) rfl (sm_o hS (tbs_at hA (i := 0) (by decide))) rfl rfl rfl (cs_jB hA hS hm ht hH (by omega)) (fun r h13 q14 => ?_)
        obtain ⟨rfl, rfl⟩ := q14
        refine go_ret rfl rfl ?_
        have hj : mj m t q1 q3 kd rc = ((mjB m t), m) := by
          unfold mj
          rw [if_neg (fun z => z.elim (fun z => z c1) (fun z => z c2)), if_pos c3]
        exact ⟨by rw [hj], S, hS, by rw [hj]; exact hm, sm_e_refl _ _, rfl⟩
    · skip
      refine go_s (pc' := 16) (st' := [.int (-9)]) rfl rfl rfl rfl ?_
      refine go_ret rfl rfl ?_
      have hj : mj m t q1 q3 kd rc = ((-9), m) := by
        unfold mj
        rw [if_pos (Or.inr c2)]
      exact ⟨by rw [hj], S, hS, by rw [hj]; exact hm, sm_e_refl _ _, rfl⟩
