/-! the store's restart, on a row -/
def rcI (J : sm_I) (rho dd n : Nat) : sm_I := fun c j => if c = 51 ∧ 424 * rho + 16 ≤ j ∧ j < 424 * rho + 16 + n then J 7 (245 * dd + 5 * (j - (424 * rho + 16))) else if c = 51 ∧ 424 * rho + 32 ≤ j ∧ j < 424 * rho + 32 + n then -1 else J c j
theorem rc_0 {J : sm_I} {rho dd : Nat} : rcI J rho dd 0 = J := by
  funext c j
  simp only [rcI]
  rw [if_neg (by omega), if_neg (by omega)]
theorem rc_s {J : sm_I} {rho dd n : Nat} {v : Int32} (hn : n < 16) (hv : v = J 7 (245 * dd + 5 * n)) : uI (uI (rcI J rho dd n) 51 (424 * rho + 16 + n) v) 51 (424 * rho + 32 + n) (-1) = rcI J rho dd (n + 1) := by
  funext c j
  simp only [uI, rcI]
  by_cases hc : c = 51
  · subst hc
    by_cases e2 : j = 424 * rho + 32 + n
    · subst e2
      rw [if_pos ⟨rfl, rfl⟩, if_neg (by omega), if_pos ⟨rfl, by omega, by omega⟩]
    · rw [if_neg (by omega)]
      by_cases e1 : j = 424 * rho + 16 + n
      · subst e1
        rw [if_pos ⟨rfl, rfl⟩, if_pos ⟨rfl, by omega, by omega⟩, hv]
        congr 1
        omega
      · rw [if_neg (by omega)]
        by_cases a : 424 * rho + 16 ≤ j ∧ j < 424 * rho + 16 + n
        · rw [if_pos ⟨rfl, a⟩, if_pos ⟨rfl, by omega, by omega⟩]
        · rw [if_neg (fun z => a z.2)]
          by_cases b : 424 * rho + 32 ≤ j ∧ j < 424 * rho + 32 + n
          · rw [if_pos ⟨rfl, b⟩, if_neg (by omega), if_pos ⟨rfl, by omega, by omega⟩]
          · rw [if_neg (fun z => b z.2), if_neg (by omega), if_neg (by omega)]
  · rw [if_neg (fun z => hc z.1), if_neg (fun z => hc z.1), if_neg (fun z => hc z.1), if_neg (fun z => hc z.1), if_neg (fun z => hc z.1), if_neg (fun z => hc z.1)]
theorem rc_r {J : sm_I} {rho dd n : Nat} (hn : n ≤ 16) : rfr J (rcI J rho dd n) rho := by
  intro c j h
  simp only [rcI]
  rw [if_neg (fun z => h ⟨z.1, by omega⟩), if_neg (fun z => h ⟨z.1, by omega⟩)]
def reI (J : sm_I) (rho dd n : Nat) : sm_I := fun c j => if c = 51 ∧ 424 * rho + 48 ≤ j ∧ j < 424 * rho + 48 + 4 * n then J 7 (245 * dd + 86 + 5 * ((j - (424 * rho + 48)) / 4) + (j - (424 * rho + 48)) % 4) else J c j
theorem re_0 {J : sm_I} {rho dd : Nat} : reI J rho dd 0 = J := by
  funext c j
  simp only [reI]
  rw [if_neg (by omega)]
theorem re_s {J : sm_I} {rho dd n : Nat} {v0 v1 v2 v3 : Int32} (h0 : v0 = J 7 (245 * dd + 86 + 5 * n)) (h1 : v1 = J 7 (245 * dd + 86 + 5 * n + 1)) (h2 : v2 = J 7 (245 * dd + 86 + 5 * n + 2)) (h3 : v3 = J 7 (245 * dd + 86 + 5 * n + 3)) : uI (uI (uI (uI (reI J rho dd n) 51 (424 * rho + 48 + 4 * n + 0) v0) 51 (424 * rho + 48 + 4 * n + 1) v1) 51 (424 * rho + 48 + 4 * n + 2) v2) 51 (424 * rho + 48 + 4 * n + 3) v3 = reI J rho dd (n + 1) := by
  funext c j
  simp only [uI, reI]
  by_cases hc : c = 51
  · subst hc
    by_cases a : 424 * rho + 48 ≤ j ∧ j < 424 * rho + 48 + 4 * n
    · rw [if_neg (by omega), if_neg (by omega), if_neg (by omega), if_neg (by omega), if_pos ⟨rfl, a⟩, if_pos ⟨rfl, by omega, by omega⟩]
    · by_cases b : 424 * rho + 48 + 4 * n ≤ j ∧ j < 424 * rho + 48 + 4 * n + 4
      · obtain ⟨i, rfl⟩ : ∃ i, j = 424 * rho + 48 + 4 * n + i := ⟨j - (424 * rho + 48 + 4 * n), by omega⟩
        have e1 : (424 * rho + 48 + 4 * n + i - (424 * rho + 48)) / 4 = n := by omega
        have e2 : (424 * rho + 48 + 4 * n + i - (424 * rho + 48)) % 4 = i := by omega
        rw [if_pos (show (51 : Nat) = 51 ∧ 424 * rho + 48 ≤ 424 * rho + 48 + 4 * n + i ∧ 424 * rho + 48 + 4 * n + i < 424 * rho + 48 + 4 * (n + 1) from ⟨rfl, by omega, by omega⟩), e1, e2]
        obtain rfl | rfl | rfl | rfl : i = 0 ∨ i = 1 ∨ i = 2 ∨ i = 3 := by omega
        · rw [if_neg (by omega), if_neg (by omega), if_neg (by omega), if_pos ⟨rfl, rfl⟩, h0]
          rfl
        · rw [if_neg (by omega), if_neg (by omega), if_pos ⟨rfl, rfl⟩, h1]
        · rw [if_neg (by omega), if_pos ⟨rfl, rfl⟩, h2]
        · rw [if_pos ⟨rfl, rfl⟩, h3]
      · rw [if_neg (by omega), if_neg (by omega), if_neg (by omega), if_neg (by omega), if_neg (fun z => a z.2), if_neg (by omega)]
  · rw [if_neg (fun z => hc z.1), if_neg (fun z => hc z.1), if_neg (fun z => hc z.1), if_neg (fun z => hc z.1), if_neg (fun z => hc z.1), if_neg (fun z => hc z.1)]
theorem re_r {J : sm_I} {rho dd n : Nat} (hn : n ≤ 32) : rfr J (reI J rho dd n) rho := by
  intro c j h
  simp only [reI]
  rw [if_neg (fun z => h ⟨z.1, by omega⟩)]
theorem RS_rd {J : sm_I} {rho dd : Nat} {f : Nat → Int32} (h7 : ∀ j, J 7 (245 * dd + j) = f j) (hz : ∀ j, j < 48 → J 51 (424 * rho + j) = if j = 0 then f 81 + 1 else if j = 1 then f 80 else 0) (hw : J 51 (424 * rho + 5) = 0) : RS (uI (uI (uI (reI (rcI J rho dd 16) rho dd (rd f (f 80) 32 0)) 51 (424 * rho + 2) (nI (rd f (f 80) 32 0))) 51 (424 * rho + 6) (-1)) 51 (424 * rho + 7) (-1)) rho (uF (mr1 f).1 7 (-1), rdL f, []) := by
  have hl : (rdL f).length = rd f (f 80) 32 0 := by simp [rdL]
  have h32 := rd_le f (f 80) 32 0
  obtain ⟨N, hN⟩ : ∃ N, N = rd f (f 80) 32 0 := ⟨_, rfl⟩
  rw [← hN] at hl h32 ⊢
  have o : ∀ j, j ≠ 2 → j ≠ 6 → j ≠ 7 → uI (uI (uI (reI (rcI J rho dd 16) rho dd N) 51 (424 * rho + 2) (nI N)) 51 (424 * rho + 6) (-1)) 51 (424 * rho + 7) (-1) 51 (424 * rho + j) = reI (rcI J rho dd 16) rho dd N 51 (424 * rho + j) := fun j a b c => by
    simp only [uI]
    rw [if_neg (by omega), if_neg (by omega), if_neg (by omega)]
  refine ⟨fun j j48 j2 j5 => ?_, ?_, ?_, fun i e hi j hj => ?_, fun i x hi => by simp at hi⟩
  · by_cases e7 : j = 7
    · subst e7
      simp [uI, uF]
    · by_cases e6 : j = 6
      · subst e6
        simp [uI, uF, mr1]
      · rw [o j j2 e6 e7]
        show _ = uF (mr1 f).1 7 (-1) j
        simp only [uF, reI, rcI, mr1]
        rw [if_neg (by omega), if_neg e7]
        by_cases a : 16 ≤ j ∧ j < 32
        · rw [if_pos ⟨trivial, by omega, by omega⟩, if_neg (by omega), if_neg (by omega), if_neg e6, if_pos a, h7]
          congr 1
          omega
        · rw [if_neg (by omega)]
          by_cases b : 32 ≤ j ∧ j < 48
          · rw [if_pos ⟨trivial, by omega, by omega⟩, if_neg (by omega), if_neg (by omega), if_neg e6, if_neg a, if_pos b]
          · rw [if_neg (by omega), hz j (by omega)]
            by_cases e0 : j = 0
            · rw [if_pos e0, if_pos e0]
            · rw [if_neg e0, if_neg e0]
              by_cases e1 : j = 1
              · rw [if_pos e1, if_pos e1]
              · rw [if_neg e1, if_neg e1, if_neg e6, if_neg a, if_neg b]
  · show _ = nI (rdL f).length
    rw [hl]
    simp [uI]
  · show _ = nI 0
    rw [o 5 (by omega) (by omega) (by omega)]
    simp only [reI, rcI]
    rw [if_neg (by omega), if_neg (by omega), if_neg (by omega), hw]
    rfl
  · have hil : i < N := by
      have z := (List.getElem?_eq_some_iff.mp hi).1
      have z2 : i < (rdL f).length := z
      omega
    have he : e = (f (86 + 5 * i), f (87 + 5 * i), f (88 + 5 * i), f (89 + 5 * i)) := by
      have z : (rdL f)[i]? = some e := hi
      rw [rdL, List.getElem?_map, List.getElem?_range (by rw [← hN]; exact hil)] at z
      simpa using z.symm
    subst he
    rw [show 424 * rho + 48 + 4 * i + j = 424 * rho + (48 + 4 * i + j) by omega, o _ (by omega) (by omega) (by omega)]
    simp only [reI]
    rw [if_pos ⟨trivial, by omega, by omega⟩]
    have e1 : (424 * rho + (48 + 4 * i + j) - (424 * rho + 48)) / 4 = i := by omega
    have e2 : (424 * rho + (48 + 4 * i + j) - (424 * rho + 48)) % 4 = j := by omega
    rw [e1, e2]
    show J 7 _ = _
    rw [show 245 * dd + 86 + 5 * i + j = 245 * dd + (86 + 5 * i + j) by omega, h7]
    match j, hj with
    | 0, _ => rfl
    | 1, _ => show _ = f (87 + 5 * i); congr 1; omega
    | 2, _ => show _ = f (88 + 5 * i); congr 1; omega
    | 3, _ => show _ = f (89 + 5 * i); congr 1; omega
theorem bko_7 (L : List ms_E) (t : Int32) (g : Nat) (v : Int32) : ∀ n (m : ms), bko L t g n (uF m.1 7 v, m.2) = (uF (bko L t g n m).1 7 v, (bko L t g n m).2) := by
  intro n
  induction n with
  | zero => intro m; rfl
  | succ n ih =>
    intro m
    simp only [bko]
    split
    · rfl
    · split
      · rename_i e he
        split
        · rw [show mR (uF m.1 7 v, m.2) e.2.2.1.toNatClampNeg e.2.2.2 = (uF (mR m e.2.2.1.toNatClampNeg e.2.2.2).1 7 v, (mR m e.2.2.1.toNatClampNeg e.2.2.2).2) from ?_]
          · exact ih _
          · unfold mR
            refine Prod.ext ?_ rfl
            funext j
            simp only [uF]
            by_cases e7 : j = 7
            · rw [if_neg (by omega), if_pos e7, if_pos e7]
            · rw [if_neg e7, if_neg e7]
        · exact ih m
      · rfl
theorem mB_7 (m : ms) (t : Int32) (v : Int32) : mB (uF m.1 7 v, m.2) t = (uF (mB m t).1 7 v, (mB m t).2) := by
  unfold mB
  rw [show mof (uF m.1 7 v, m.2) t = mof m t from rfl, show (uF m.1 7 v, m.2).2.1 = m.2.1 from rfl, bko_7]
  unfold mE
  simp only [uF]
  rw [if_neg (by decide)]
theorem RS_e0 {J : sm_I} {r : Nat} {s : ms} (k : RS J r s) : RS (uI J 51 (424 * r + 2) 0) r (s.1, [], s.2.2) := by
  obtain ⟨k1, k2, k3, k4, k5⟩ := k
  have o : ∀ i, i ≠ 424 * r + 2 → uI J 51 (424 * r + 2) 0 51 i = J 51 i := fun i hi => by simp [uI, hi]
  refine ⟨fun i h1 h2 h3 => ?_, by simp [uI]; rfl, ?_, fun i e hi => by simp at hi, fun i y hi q hq => ?_⟩
  · rw [o _ (by omega)]; exact k1 i h1 h2 h3
  · rw [o _ (by omega)]; exact k3
  · rw [o _ (by omega)]; exact k5 i y hi q hq
theorem rfr_i {J K : sm_I} {r c j : Nat} {v : Int32} (hc : c ≠ 51) (h : rfr J K r) : rfr (uI J c j v) (uI K c j v) r := by
  intro a b hab
  simp only [uI]
  rw [h a b hab]
theorem mrs_4 (f : Nat → Int32) : (mrs f).1 4 = 0 := by
  have h2 : (mr2 f).1 4 = 0 := by
    unfold mr2
    split
    · rw [(mB_1 (mr1 f) 0).1 4 (by decide)]; rfl
    · rfl
  have h3 : (mr3 f).1 4 = 0 := by
    show uF (mr2 f).1 7 (-1) 4 = 0
    simp only [uF]
    rw [if_neg (by decide)]
    exact h2
  have h4 : (mr4 f).1 4 = 0 := by
    unfold mr4
    split
    · rw [(mB_1 (mr3 f) 1).1 4 (by decide)]; exact h3
    · exact h3
  show uF (mr4 f).1 1 ((mr4 f).1 1 + 1) 4 = 0
  simp only [uF]
  rw [if_neg (by decide)]
  exact h4
theorem mrs2_e (f : Nat → Int32) : mrs2 f = (uF (mrs f).1 3 2, (mrs f).2) := by
  unfold mrs2
  refine Prod.ext ?_ rfl
  funext j
  simp only [uF]
  by_cases e4 : j = 4
  · subst e4
    rw [if_pos rfl, if_neg (by decide), mrs_4]
  · rw [if_neg e4]
theorem mr3_n {f : Nat → Int32} (h : hop (mr1 f) 0 = false) : mr3 f = (uF (mr1 f).1 7 (-1), (mr1 f).2) := by
  unfold mr3 mr2
  rw [if_neg (by rw [h]; decide)]
theorem mr3_y {f : Nat → Int32} (h : hop (mr1 f) 0 = true) : mr3 f = mB (uF (mr1 f).1 7 (-1), (mr1 f).2) 0 := by
  rw [mB_7]
  unfold mr3 mr2
  rw [if_pos h]
theorem EK_3 {f : Nat → Int32} (h : EK (rdL f)) : EK (mr3 f).2.1 := by
  cases e : hop (mr1 f) 0
  · rw [mr3_n e]; exact h
  · rw [mr3_y e]
    unfold mB mE
    refine EK_ap ?_ (Or.inr (Or.inr rfl))
    rw [bko_7]
    show EK (bko _ _ _ _ (mr1 f)).2.1
    rw [(bko_k _ _ _ _ _).1]
    exact h
theorem LKs_rs {f : Nat → Int32} (hm : mrk f) : LKs (mrs2 f) := by
  have h1 : LKs (mr1 f) := fun q hq => Or.inl (by
    show (mr1 f).1 (32 + q) = -1
    unfold mr1
    simp only []
    rw [if_neg (by omega), if_neg (by omega), if_neg (by omega), if_neg (by omega), if_pos (by omega)])
  have h2 : LKs (mr2 f) := by
    unfold mr2
    split
    · exact LKs_B hm.1 h1
    · exact h1
  have h3 : LKs (mr3 f) := LKs_F h2 (by decide)
  have h4 : LKs (mr4 f) := by
    unfold mr4
    split
    · exact LKs_B hm.2.2.1 h3
    · exact h3
  have h5 : LKs (mrs f) := LKs_F h4 (by decide)
  rw [mrs2_e]
  exact LKs_F h5 (by decide)
theorem lp_rc_0 {w : Nat → Bool} {d : Nat} {J : sm_I} {Y : sm_X} {am lm as_ ls : Nat} {P : Option Value → am_Hp → Prop} (hr : rk am as_) (hW : ∀ a, 62 ≤ a → a ≤ 88 → w a = true) (hWa : w as_ = true) {rho : Nat} (hls : 424 * rho + 424 ≤ ls) (hl31 : ls < 2 ^ 31) : ∀ (k n : Nat) (h : am_Hp), n + k = 16 → sm (tbr am lm as_ ls) h (rcI J rho 0 n) Y → (∀ h', sm (tbr am lm as_ ls) h' (rcI J rho 0 16) Y → sm_e (tbr am lm as_ ls) h h' → am_Go (am_prog w) d am_c173 none 89 [some (.ref 62), some (.int 0), some (.int (nI (424 * rho))), some (.int 0), some (.int (nI 16)), none] [] h' P) → am_Go (am_prog w) d am_c173 none 59 [some (.ref 62), some (.int 0), some (.int (nI (424 * rho))), some (.int 0), some (.int (nI n)), none] [] h P := by
  intro k
  induction k with
  | zero =>
    intro n h hnk hS C
    obtain rfl : n = 16 := by omega
    refine go_s (pc' := 60) rfl rfl rfl rfl ?_
    refine go_s (pc' := 61) (st' := [.int 16, .int (nI 16)]) rfl rfl rfl rfl ?_
    refine go_icmpP (t' := 89) (pc' := 62) rfl rfl rfl (fun _ => ?_) (fun (c : ¬ (16 ≤ (nI 16))) => absurd (by decide) c)
    exact C h hS (sm_e_refl _ _)
  | succ k ih =>
    intro n h hnk hS C
    refine go_s (pc' := 60) rfl rfl rfl rfl ?_
    refine go_s (pc' := 61) (st' := [.int 16, .int (nI n)]) rfl rfl rfl rfl ?_
    refine go_icmpP (t' := 89) (pc' := 62) rfl rfl rfl (fun (c : 16 ≤ (nI n)) => absurd c (nI_ge (b := 16) (show n < 16 by omega) (by decide))) (fun _ => ?_)
    refine go_s (pc' := 63) rfl rfl rfl rfl ?_
    refine go_sget (pc' := 64) (v := .ref as_) hS rfl rfl rfl (by decide) rfl rfl ?_
    refine go_s (pc' := 65) rfl rfl rfl rfl ?_
    refine go_s (pc' := 66) (st' := [.int 16, .int (nI (424 * rho)), .ref as_]) rfl rfl rfl rfl ?_
    refine go_nadd (pc' := 67) (a := (424 * rho)) (b := 16) rfl rfl rfl rfl rfl ?_
    refine go_s (pc' := 68) rfl rfl rfl rfl ?_
    refine go_nadd (pc' := 69) (a := ((424 * rho) + 16)) (b := n) rfl rfl rfl rfl rfl ?_
    refine go_s (pc' := 70) rfl rfl rfl rfl ?_
    refine go_sget (pc' := 71) (v := .ref 70) hS rfl rfl rfl (by decide) rfl rfl ?_
    refine go_s (pc' := 72) rfl rfl rfl rfl ?_
    refine go_s (pc' := 73) (st' := [.int 5, .int 0, .ref 70, .int (nI (((424 * rho) + 16) + n)), .ref as_]) rfl rfl rfl rfl ?_
    refine go_s (pc' := 74) rfl rfl rfl rfl ?_
    refine go_nmul (pc' := 75) (a := 5) (b := n) rfl rfl rfl rfl rfl ?_
    refine go_nadd (pc' := 76) (a := 0) (b := (5 * n)) rfl rfl rfl rfl rfl ?_
    refine go_sald (pc' := 77) (q := (0 + (5 * n))) (v := .int ((rcI J rho 0 n) 7 (0 + (5 * n)))) hS rfl (tr_s hr (a := 70) rfl (by omega)) rfl rfl (by omega) rfl rfl ?_
    refine go_siast (pc' := 78) (q := (((424 * rho) + 16) + n)) hS rfl (tr_as hr (by omega)) tbr_inj (Nat.le_of_ble_eq_true rfl) rfl (by omega) (rk_0 hr).2 hWa rfl (fun h1 hS2 hE3 => ?_)
    refine go_s (pc' := 79) rfl rfl rfl rfl ?_
    refine go_sget (pc' := 80) (v := .ref as_) hS2 rfl rfl rfl (by decide) rfl rfl ?_
    refine go_s (pc' := 81) rfl rfl rfl rfl ?_
    refine go_s (pc' := 82) (st' := [.int 32, .int (nI (424 * rho)), .ref as_]) rfl rfl rfl rfl ?_
    refine go_nadd (pc' := 83) (a := (424 * rho)) (b := 32) rfl rfl rfl rfl rfl ?_
    refine go_s (pc' := 84) rfl rfl rfl rfl ?_
    refine go_nadd (pc' := 85) (a := ((424 * rho) + 32)) (b := n) rfl rfl rfl rfl rfl ?_
    refine go_s (pc' := 86) (st' := [.int (-1), .int (nI (((424 * rho) + 32) + n)), .ref as_]) rfl rfl rfl rfl ?_
    refine go_siast (pc' := 87) (q := (((424 * rho) + 32) + n)) hS2 rfl (tr_as hr (by omega)) tbr_inj (Nat.le_of_ble_eq_true rfl) rfl (by omega) (rk_0 hr).2 hWa rfl (fun h4 hS5 hE6 => ?_)
    have hE7 := sm_e_trans hE3 hE6
    refine go_ninc (pc' := 88) (a := n) (n := 1) (lo' := [some (.ref 62), some (.int 0), some (.int (nI (424 * rho))), some (.int 0), some (.int (nI (n + 1))), none]) rfl rfl rfl rfl rfl rfl ?_
    refine go_s (pc' := 59) rfl rfl rfl rfl ?_
    change sm (tbr am lm as_ ls) _ (uI (uI (rcI J rho 0 n) 51 (424 * rho + 16 + n) _) 51 (424 * rho + 32 + n) (-1)) Y at hS5
    rw [rc_s (n := n) (v := rcI J rho 0 n 7 (0 + 5 * n)) (by omega) (show J 7 (0 + 5 * n) = J 7 (245 * 0 + 5 * n) from congrArg (J 7) (by omega))] at hS5
    exact ih (n + 1) _ (by omega) hS5 (fun h9 s1 s2 => C h9 s1 (sm_e_trans hE7 s2))
theorem lp_re_0 {w : Nat → Bool} {d : Nat} {J : sm_I} {Y : sm_X} {am lm as_ ls : Nat} {P : Option Value → am_Hp → Prop} (hr : rk am as_) (hW : ∀ a, 62 ≤ a → a ≤ 88 → w a = true) (hWa : w as_ = true) {rho : Nat} (hls : 424 * rho + 424 ≤ ls) (hl31 : ls < 2 ^ 31) {f : Nat → Int32} (h7 : ∀ j, J 7 (245 * 0 + j) = f j) (hg : J 51 (424 * rho + 1) = f 80) : ∀ (k n : Nat) (h : am_Hp) (v5 : Option Value), n + k = 32 → sm (tbr am lm as_ ls) h (reI J rho 0 n) Y → (∀ h' v5, sm (tbr am lm as_ ls) h' (reI J rho 0 (rd f (f 80) k n)) Y → sm_e (tbr am lm as_ ls) h h' → am_Go (am_prog w) d am_c173 none 146 [some (.ref 62), some (.int 0), some (.int (nI (424 * rho))), some (.int 0), some (.int (nI (rd f (f 80) k n))), v5] [] h' P) → am_Go (am_prog w) d am_c173 none 91 [some (.ref 62), some (.int 0), some (.int (nI (424 * rho))), some (.int 0), some (.int (nI n)), v5] [] h P := by
  intro k
  induction k with
  | zero =>
    intro n h v5 hnk hS C
    obtain rfl : n = 32 := by omega
    refine go_s (pc' := 92) rfl rfl rfl rfl ?_
    refine go_s (pc' := 93) (st' := [.int 32, .int (nI 32)]) rfl rfl rfl rfl ?_
    refine go_icmpP (t' := 146) (pc' := 94) rfl rfl rfl (fun _ => ?_) (fun (c : ¬ (32 ≤ (nI 32))) => absurd (by decide) c)
    exact C h v5 hS (sm_e_refl _ _)
  | succ k ih =>
    intro n h v5 hnk hS C
    have h1g : reI J rho 0 n 51 (424 * rho + 1) = f 80 := by
      simp only [reI]
      rw [if_neg (by omega)]
      exact hg
    have h85 : reI J rho 0 n 7 (0 + (5 * (17 + n))) = f (85 + 5 * n) := (congrArg (J 7) (show (0 + (5 * (17 + n))) = 245 * 0 + (85 + 5 * n) by omega)).trans (h7 _)
    have hrd : rd f (f 80) (k + 1) n = if f (85 + 5 * n) = f 80 then rd f (f 80) k (n + 1) else n := rfl
    refine go_s (pc' := 92) rfl rfl rfl rfl ?_
    refine go_s (pc' := 93) (st' := [.int 32, .int (nI n)]) rfl rfl rfl rfl ?_
    refine go_icmpP (t' := 146) (pc' := 94) rfl rfl rfl (fun (c : 32 ≤ (nI n)) => absurd c (nI_ge (b := 32) (show n < 32 by omega) (by decide))) (fun _ => ?_)
    refine go_s (pc' := 95) rfl rfl rfl rfl ?_
    refine go_sget (pc' := 96) (v := .ref 70) hS rfl rfl rfl (by decide) rfl rfl ?_
    refine go_s (pc' := 97) rfl rfl rfl rfl ?_
    refine go_s (pc' := 98) (st' := [.int 5, .int 0, .ref 70]) rfl rfl rfl rfl ?_
    refine go_s (pc' := 99) (st' := [.int 17, .int 5, .int 0, .ref 70]) rfl rfl rfl rfl ?_
    refine go_s (pc' := 100) rfl rfl rfl rfl ?_
    refine go_nadd (pc' := 101) (a := 17) (b := n) rfl rfl rfl rfl rfl ?_
    refine go_nmul (pc' := 102) (a := 5) (b := (17 + n)) rfl rfl rfl rfl rfl ?_
    refine go_nadd (pc' := 103) (a := 0) (b := (5 * (17 + n))) rfl rfl rfl rfl rfl ?_
    refine go_sald (pc' := 104) (q := (0 + (5 * (17 + n)))) (v := .int (f (85 + 5 * n))) hS rfl (tr_s hr (a := 70) rfl (by omega)) rfl rfl (by omega) (congrArg Value.int h85) rfl ?_
    refine go_s (pc' := 105) rfl rfl rfl rfl ?_
    refine go_sget (pc' := 106) (v := .ref as_) hS rfl rfl rfl (by decide) rfl rfl ?_
    refine go_s (pc' := 107) rfl rfl rfl rfl ?_
    refine go_s (pc' := 108) (st' := [.int 1, .int (nI (424 * rho)), .ref as_, .int (f (85 + 5 * n))]) rfl rfl rfl rfl ?_
    refine go_nadd (pc' := 109) (a := (424 * rho)) (b := 1) rfl rfl rfl rfl rfl ?_
    refine go_sald (pc' := 110) (q := ((424 * rho) + 1)) (v := .int (f 80)) hS rfl (tr_as hr (by omega)) rfl rfl (by omega) (congrArg Value.int h1g) rfl ?_
    refine go_icmpP (t' := 146) (pc' := 111) rfl rfl rfl (fun (c1 : ¬ (f (85 + 5 * n)) = (f 80)) => ?_) (fun (c1' : ¬ ¬ (f (85 + 5 * n)) = (f 80)) => ?_)
    · skip
      rw [hrd, if_neg c1] at C
      exact C h v5 hS (sm_e_refl _ _)
    · skip
      have c1 : (f (85 + 5 * n)) = (f 80) := Decidable.not_not.mp c1'
      refine go_s (pc' := 112) (st' := [.int 0]) rfl rfl rfl rfl ?_
      refine go_s (pc' := 113) (lo' := [some (.ref 62), some (.int 0), some (.int (nI (424 * rho))), some (.int 0), some (.int (nI n)), some (.int 0)]) rfl rfl rfl rfl ?_
      refine go_s (pc' := 114) rfl rfl rfl rfl ?_
      refine go_s (pc' := 115) (st' := [.int 4, .int 0]) rfl rfl rfl rfl ?_
      refine go_icmpP (t' := 144) (pc' := 116) rfl rfl rfl (fun (c : 4 ≤ (0 : Int32)) => absurd c (by decide)) (fun _ => ?_)
      refine go_s (pc' := 117) rfl rfl rfl rfl ?_
      refine go_sget (pc' := 118) (v := .ref as_) hS rfl rfl rfl (by decide) rfl rfl ?_
      refine go_s (pc' := 119) rfl rfl rfl rfl ?_
      refine go_s (pc' := 120) (st' := [.int 48, .int (nI (424 * rho)), .ref as_]) rfl rfl rfl rfl ?_
      refine go_nadd (pc' := 121) (a := (424 * rho)) (b := 48) rfl rfl rfl rfl rfl ?_
      refine go_s (pc' := 122) (st' := [.int 4, .int (nI ((424 * rho) + 48)), .ref as_]) rfl rfl rfl rfl ?_
      refine go_s (pc' := 123) rfl rfl rfl rfl ?_
      refine go_nmul (pc' := 124) (a := 4) (b := n) rfl rfl rfl rfl rfl ?_
      refine go_nadd (pc' := 125) (a := ((424 * rho) + 48)) (b := (4 * n)) rfl rfl rfl rfl rfl ?_
      refine go_s (pc' := 126) rfl rfl rfl rfl ?_
      refine go_nadd (pc' := 127) (a := (((424 * rho) + 48) + (4 * n))) (b := 0) rfl rfl rfl rfl rfl ?_
      refine go_s (pc' := 128) rfl rfl rfl rfl ?_
      refine go_sget (pc' := 129) (v := .ref 70) hS rfl rfl rfl (by decide) rfl rfl ?_
      refine go_s (pc' := 130) rfl rfl rfl rfl ?_
      refine go_s (pc' := 131) (st' := [.int 5, .int 0, .ref 70, .int (nI ((((424 * rho) + 48) + (4 * n)) + 0)), .ref as_]) rfl rfl rfl rfl ?_
      refine go_s (pc' := 132) (st' := [.int 17, .int 5, .int 0, .ref 70, .int (nI ((((424 * rho) + 48) + (4 * n)) + 0)), .ref as_]) rfl rfl rfl rfl ?_
      refine go_s (pc' := 133) rfl rfl rfl rfl ?_
      refine go_nadd (pc' := 134) (a := 17) (b := n) rfl rfl rfl rfl rfl ?_
      refine go_nmul (pc' := 135) (a := 5) (b := (17 + n)) rfl rfl rfl rfl rfl ?_
      refine go_nadd (pc' := 136) (a := 0) (b := (5 * (17 + n))) rfl rfl rfl rfl rfl ?_
      refine go_s (pc' := 137) (st' := [.int 1, .int (nI (0 + (5 * (17 + n)))), .ref 70, .int (nI ((((424 * rho) + 48) + (4 * n)) + 0)), .ref as_]) rfl rfl rfl rfl ?_
      refine go_nadd (pc' := 138) (a := (0 + (5 * (17 + n)))) (b := 1) rfl rfl rfl rfl rfl ?_
      refine go_s (pc' := 139) rfl rfl rfl rfl ?_
      refine go_nadd (pc' := 140) (a := ((0 + (5 * (17 + n))) + 1)) (b := 0) rfl rfl rfl rfl rfl ?_
      refine go_sald (pc' := 141) (q := (((0 + (5 * (17 + n))) + 1) + 0)) (v := .int ((reI J rho 0 n) 7 (((0 + (5 * (17 + n))) + 1) + 0))) hS rfl (tr_s hr (a := 70) rfl (by omega)) rfl rfl (by omega) rfl rfl ?_
      refine go_siast (pc' := 142) (q := ((((424 * rho) + 48) + (4 * n)) + 0)) hS rfl (tr_as hr (by omega)) tbr_inj (Nat.le_of_ble_eq_true rfl) rfl (by omega) (rk_0 hr).2 hWa rfl (fun h2 hS3 hE4 => ?_)
      refine go_s (pc' := 143) (lo' := [some (.ref 62), some (.int 0), some (.int (nI (424 * rho))), some (.int 0), some (.int (nI n)), some (.int 1)]) rfl rfl rfl rfl ?_
      refine go_s (pc' := 113) rfl rfl rfl rfl ?_
      refine go_s (pc' := 114) rfl rfl rfl rfl ?_
      refine go_s (pc' := 115) (st' := [.int 4, .int 1]) rfl rfl rfl rfl ?_
      refine go_icmpP (t' := 144) (pc' := 116) rfl rfl rfl (fun (c : 4 ≤ (1 : Int32)) => absurd c (by decide)) (fun _ => ?_)
      refine go_s (pc' := 117) rfl rfl rfl rfl ?_
      refine go_sget (pc' := 118) (v := .ref as_) hS3 rfl rfl rfl (by decide) rfl rfl ?_
      refine go_s (pc' := 119) rfl rfl rfl rfl ?_
      refine go_s (pc' := 120) (st' := [.int 48, .int (nI (424 * rho)), .ref as_]) rfl rfl rfl rfl ?_
      refine go_nadd (pc' := 121) (a := (424 * rho)) (b := 48) rfl rfl rfl rfl rfl ?_
      refine go_s (pc' := 122) (st' := [.int 4, .int (nI ((424 * rho) + 48)), .ref as_]) rfl rfl rfl rfl ?_
      refine go_s (pc' := 123) rfl rfl rfl rfl ?_
      refine go_nmul (pc' := 124) (a := 4) (b := n) rfl rfl rfl rfl rfl ?_
      refine go_nadd (pc' := 125) (a := ((424 * rho) + 48)) (b := (4 * n)) rfl rfl rfl rfl rfl ?_
      refine go_s (pc' := 126) rfl rfl rfl rfl ?_
      refine go_nadd (pc' := 127) (a := (((424 * rho) + 48) + (4 * n))) (b := 1) rfl rfl rfl rfl rfl ?_
      refine go_s (pc' := 128) rfl rfl rfl rfl ?_
      refine go_sget (pc' := 129) (v := .ref 70) hS3 rfl rfl rfl (by decide) rfl rfl ?_
      refine go_s (pc' := 130) rfl rfl rfl rfl ?_
      refine go_s (pc' := 131) (st' := [.int 5, .int 0, .ref 70, .int (nI ((((424 * rho) + 48) + (4 * n)) + 1)), .ref as_]) rfl rfl rfl rfl ?_
      refine go_s (pc' := 132) (st' := [.int 17, .int 5, .int 0, .ref 70, .int (nI ((((424 * rho) + 48) + (4 * n)) + 1)), .ref as_]) rfl rfl rfl rfl ?_
      refine go_s (pc' := 133) rfl rfl rfl rfl ?_
      refine go_nadd (pc' := 134) (a := 17) (b := n) rfl rfl rfl rfl rfl ?_
      refine go_nmul (pc' := 135) (a := 5) (b := (17 + n)) rfl rfl rfl rfl rfl ?_
      refine go_nadd (pc' := 136) (a := 0) (b := (5 * (17 + n))) rfl rfl rfl rfl rfl ?_
      refine go_s (pc' := 137) (st' := [.int 1, .int (nI (0 + (5 * (17 + n)))), .ref 70, .int (nI ((((424 * rho) + 48) + (4 * n)) + 1)), .ref as_]) rfl rfl rfl rfl ?_
      refine go_nadd (pc' := 138) (a := (0 + (5 * (17 + n)))) (b := 1) rfl rfl rfl rfl rfl ?_
      refine go_s (pc' := 139) rfl rfl rfl rfl ?_
      refine go_nadd (pc' := 140) (a := ((0 + (5 * (17 + n))) + 1)) (b := 1) rfl rfl rfl rfl rfl ?_
      refine go_sald (pc' := 141) (q := (((0 + (5 * (17 + n))) + 1) + 1)) (v := .int ((reI J rho 0 n) 7 (((0 + (5 * (17 + n))) + 1) + 1))) hS3 rfl (tr_s hr (a := 70) rfl (by omega)) rfl rfl (by omega) rfl rfl ?_
      refine go_siast (pc' := 142) (q := ((((424 * rho) + 48) + (4 * n)) + 1)) hS3 rfl (tr_as hr (by omega)) tbr_inj (Nat.le_of_ble_eq_true rfl) rfl (by omega) (rk_0 hr).2 hWa rfl (fun h5 hS6 hE7 => ?_)
      have hE8 := sm_e_trans hE4 hE7
      refine go_s (pc' := 143) (lo' := [some (.ref 62), some (.int 0), some (.int (nI (424 * rho))), some (.int 0), some (.int (nI n)), some (.int 2)]) rfl rfl rfl rfl ?_
      refine go_s (pc' := 113) rfl rfl rfl rfl ?_
      refine go_s (pc' := 114) rfl rfl rfl rfl ?_
      refine go_s (pc' := 115) (st' := [.int 4, .int 2]) rfl rfl rfl rfl ?_
      refine go_icmpP (t' := 144) (pc' := 116) rfl rfl rfl (fun (c : 4 ≤ (2 : Int32)) => absurd c (by decide)) (fun _ => ?_)
      refine go_s (pc' := 117) rfl rfl rfl rfl ?_
      refine go_sget (pc' := 118) (v := .ref as_) hS6 rfl rfl rfl (by decide) rfl rfl ?_
      refine go_s (pc' := 119) rfl rfl rfl rfl ?_
      refine go_s (pc' := 120) (st' := [.int 48, .int (nI (424 * rho)), .ref as_]) rfl rfl rfl rfl ?_
      refine go_nadd (pc' := 121) (a := (424 * rho)) (b := 48) rfl rfl rfl rfl rfl ?_
      refine go_s (pc' := 122) (st' := [.int 4, .int (nI ((424 * rho) + 48)), .ref as_]) rfl rfl rfl rfl ?_
      refine go_s (pc' := 123) rfl rfl rfl rfl ?_
      refine go_nmul (pc' := 124) (a := 4) (b := n) rfl rfl rfl rfl rfl ?_
      refine go_nadd (pc' := 125) (a := ((424 * rho) + 48)) (b := (4 * n)) rfl rfl rfl rfl rfl ?_
      refine go_s (pc' := 126) rfl rfl rfl rfl ?_
      refine go_nadd (pc' := 127) (a := (((424 * rho) + 48) + (4 * n))) (b := 2) rfl rfl rfl rfl rfl ?_
      refine go_s (pc' := 128) rfl rfl rfl rfl ?_
      refine go_sget (pc' := 129) (v := .ref 70) hS6 rfl rfl rfl (by decide) rfl rfl ?_
      refine go_s (pc' := 130) rfl rfl rfl rfl ?_
      refine go_s (pc' := 131) (st' := [.int 5, .int 0, .ref 70, .int (nI ((((424 * rho) + 48) + (4 * n)) + 2)), .ref as_]) rfl rfl rfl rfl ?_
      refine go_s (pc' := 132) (st' := [.int 17, .int 5, .int 0, .ref 70, .int (nI ((((424 * rho) + 48) + (4 * n)) + 2)), .ref as_]) rfl rfl rfl rfl ?_
      refine go_s (pc' := 133) rfl rfl rfl rfl ?_
      refine go_nadd (pc' := 134) (a := 17) (b := n) rfl rfl rfl rfl rfl ?_
      refine go_nmul (pc' := 135) (a := 5) (b := (17 + n)) rfl rfl rfl rfl rfl ?_
      refine go_nadd (pc' := 136) (a := 0) (b := (5 * (17 + n))) rfl rfl rfl rfl rfl ?_
      refine go_s (pc' := 137) (st' := [.int 1, .int (nI (0 + (5 * (17 + n)))), .ref 70, .int (nI ((((424 * rho) + 48) + (4 * n)) + 2)), .ref as_]) rfl rfl rfl rfl ?_
      refine go_nadd (pc' := 138) (a := (0 + (5 * (17 + n)))) (b := 1) rfl rfl rfl rfl rfl ?_
      refine go_s (pc' := 139) rfl rfl rfl rfl ?_
      refine go_nadd (pc' := 140) (a := ((0 + (5 * (17 + n))) + 1)) (b := 2) rfl rfl rfl rfl rfl ?_
      refine go_sald (pc' := 141) (q := (((0 + (5 * (17 + n))) + 1) + 2)) (v := .int ((reI J rho 0 n) 7 (((0 + (5 * (17 + n))) + 1) + 2))) hS6 rfl (tr_s hr (a := 70) rfl (by omega)) rfl rfl (by omega) rfl rfl ?_
      refine go_siast (pc' := 142) (q := ((((424 * rho) + 48) + (4 * n)) + 2)) hS6 rfl (tr_as hr (by omega)) tbr_inj (Nat.le_of_ble_eq_true rfl) rfl (by omega) (rk_0 hr).2 hWa rfl (fun h9 hS10 hE11 => ?_)
      have hE12 := sm_e_trans hE8 hE11
      refine go_s (pc' := 143) (lo' := [some (.ref 62), some (.int 0), some (.int (nI (424 * rho))), some (.int 0), some (.int (nI n)), some (.int 3)]) rfl rfl rfl rfl ?_
      refine go_s (pc' := 113) rfl rfl rfl rfl ?_
      refine go_s (pc' := 114) rfl rfl rfl rfl ?_
      refine go_s (pc' := 115) (st' := [.int 4, .int 3]) rfl rfl rfl rfl ?_
      refine go_icmpP (t' := 144) (pc' := 116) rfl rfl rfl (fun (c : 4 ≤ (3 : Int32)) => absurd c (by decide)) (fun _ => ?_)
      refine go_s (pc' := 117) rfl rfl rfl rfl ?_
      refine go_sget (pc' := 118) (v := .ref as_) hS10 rfl rfl rfl (by decide) rfl rfl ?_
      refine go_s (pc' := 119) rfl rfl rfl rfl ?_
      refine go_s (pc' := 120) (st' := [.int 48, .int (nI (424 * rho)), .ref as_]) rfl rfl rfl rfl ?_
      refine go_nadd (pc' := 121) (a := (424 * rho)) (b := 48) rfl rfl rfl rfl rfl ?_
      refine go_s (pc' := 122) (st' := [.int 4, .int (nI ((424 * rho) + 48)), .ref as_]) rfl rfl rfl rfl ?_
      refine go_s (pc' := 123) rfl rfl rfl rfl ?_
      refine go_nmul (pc' := 124) (a := 4) (b := n) rfl rfl rfl rfl rfl ?_
      refine go_nadd (pc' := 125) (a := ((424 * rho) + 48)) (b := (4 * n)) rfl rfl rfl rfl rfl ?_
      refine go_s (pc' := 126) rfl rfl rfl rfl ?_
      refine go_nadd (pc' := 127) (a := (((424 * rho) + 48) + (4 * n))) (b := 3) rfl rfl rfl rfl rfl ?_
      refine go_s (pc' := 128) rfl rfl rfl rfl ?_
      refine go_sget (pc' := 129) (v := .ref 70) hS10 rfl rfl rfl (by decide) rfl rfl ?_
      refine go_s (pc' := 130) rfl rfl rfl rfl ?_
      refine go_s (pc' := 131) (st' := [.int 5, .int 0, .ref 70, .int (nI ((((424 * rho) + 48) + (4 * n)) + 3)), .ref as_]) rfl rfl rfl rfl ?_
      refine go_s (pc' := 132) (st' := [.int 17, .int 5, .int 0, .ref 70, .int (nI ((((424 * rho) + 48) + (4 * n)) + 3)), .ref as_]) rfl rfl rfl rfl ?_
      refine go_s (pc' := 133) rfl rfl rfl rfl ?_
      refine go_nadd (pc' := 134) (a := 17) (b := n) rfl rfl rfl rfl rfl ?_
      refine go_nmul (pc' := 135) (a := 5) (b := (17 + n)) rfl rfl rfl rfl rfl ?_
      refine go_nadd (pc' := 136) (a := 0) (b := (5 * (17 + n))) rfl rfl rfl rfl rfl ?_
      refine go_s (pc' := 137) (st' := [.int 1, .int (nI (0 + (5 * (17 + n)))), .ref 70, .int (nI ((((424 * rho) + 48) + (4 * n)) + 3)), .ref as_]) rfl rfl rfl rfl ?_
      refine go_nadd (pc' := 138) (a := (0 + (5 * (17 + n)))) (b := 1) rfl rfl rfl rfl rfl ?_
      refine go_s (pc' := 139) rfl rfl rfl rfl ?_
      refine go_nadd (pc' := 140) (a := ((0 + (5 * (17 + n))) + 1)) (b := 3) rfl rfl rfl rfl rfl ?_
      refine go_sald (pc' := 141) (q := (((0 + (5 * (17 + n))) + 1) + 3)) (v := .int ((reI J rho 0 n) 7 (((0 + (5 * (17 + n))) + 1) + 3))) hS10 rfl (tr_s hr (a := 70) rfl (by omega)) rfl rfl (by omega) rfl rfl ?_
      refine go_siast (pc' := 142) (q := ((((424 * rho) + 48) + (4 * n)) + 3)) hS10 rfl (tr_as hr (by omega)) tbr_inj (Nat.le_of_ble_eq_true rfl) rfl (by omega) (rk_0 hr).2 hWa rfl (fun h13 hS14 hE15 => ?_)
      have hE16 := sm_e_trans hE12 hE15
      refine go_s (pc' := 143) (lo' := [some (.ref 62), some (.int 0), some (.int (nI (424 * rho))), some (.int 0), some (.int (nI n)), some (.int 4)]) rfl rfl rfl rfl ?_
      refine go_s (pc' := 113) rfl rfl rfl rfl ?_
      refine go_s (pc' := 114) rfl rfl rfl rfl ?_
      refine go_s (pc' := 115) (st' := [.int 4, .int 4]) rfl rfl rfl rfl ?_
      refine go_icmpP (t' := 144) (pc' := 116) rfl rfl rfl (fun _ => ?_) (fun (c : ¬ (4 ≤ (4 : Int32))) => absurd (by decide) c)
      refine go_ninc (pc' := 145) (a := n) (n := 1) (lo' := [some (.ref 62), some (.int 0), some (.int (nI (424 * rho))), some (.int 0), some (.int (nI (n + 1))), some (.int 4)]) rfl rfl rfl rfl rfl rfl ?_
      refine go_s (pc' := 91) rfl rfl rfl rfl ?_
      rw [hrd, if_pos c1] at C
      change sm (tbr am lm as_ ls) _ (uI (uI (uI (uI (reI J rho 0 n) 51 (424 * rho + 48 + 4 * n + 0) _) 51 (424 * rho + 48 + 4 * n + 1) _) 51 (424 * rho + 48 + 4 * n + 2) _) 51 (424 * rho + 48 + 4 * n + 3) _) Y at hS14
      rw [re_s (n := n) (v0 := reI J rho 0 n 7 (0 + 5 * (17 + n) + 1 + 0)) (v1 := reI J rho 0 n 7 (0 + 5 * (17 + n) + 1 + 1)) (v2 := reI J rho 0 n 7 (0 + 5 * (17 + n) + 1 + 2)) (v3 := reI J rho 0 n 7 (0 + 5 * (17 + n) + 1 + 3)) (show J 7 (0 + 5 * (17 + n) + 1 + 0) = J 7 (245 * 0 + 86 + 5 * n) from congrArg (J 7) (by omega)) (show J 7 (0 + 5 * (17 + n) + 1 + 1) = J 7 (245 * 0 + 86 + 5 * n + 1) from congrArg (J 7) (by omega)) (show J 7 (0 + 5 * (17 + n) + 1 + 2) = J 7 (245 * 0 + 86 + 5 * n + 2) from congrArg (J 7) (by omega)) (show J 7 (0 + 5 * (17 + n) + 1 + 3) = J 7 (245 * 0 + 86 + 5 * n + 3) from congrArg (J 7) (by omega))] at hS14
      exact ih (n + 1) _ _ (by omega) hS14 (fun h9 v9 s1 s2 => C h9 v9 s1 (sm_e_trans hE16 s2))
theorem RS_c {J K : sm_I} {r : Nat} {s : ms} (e : ∀ j, K 51 j = J 51 j) (k : RS J r s) : RS K r s := by
  obtain ⟨k1, k2, k3, k4, k5⟩ := k
  exact ⟨fun j a b c => (e _).trans (k1 j a b c), (e _).trans k2, (e _).trans k3, fun i x hi j hj => (e _).trans (k4 i x hi j hj), fun i x hi j hj => (e _).trans (k5 i x hi j hj)⟩
theorem rs_rst_0 {w : Nat → Bool} {d : Nat} {h : am_Hp} {J : sm_I} {Y : sm_X} {am lm as_ ls : Nat} (hr : rk am as_) (hS : sm (tbr am lm as_ ls) h J Y) (hW : ∀ a, 62 ≤ a → a ≤ 88 → w a = true) (hWa : w as_ = true) {rho : Nat} (hp : prk J 0) (hn : ¬ J 11 0 = -1) (hrho : rwi J 0 = rho) (hls : 424 * rho + 424 ≤ ls) (hl31 : ls < 2 ^ 31) (hR : RS J rho (fun _ => 0, [], [])) (hmk : mrk (dsk J 0)) (hEK : EK (rdL (dsk J 0))) (hd : 5 ≤ d) : am_Ev (am_prog w) d 173 [.ref 62, .int 0] h (fun r h' => r = none ∧ ∃ K, sm (tbr am lm as_ ls) h' K Y ∧ sm_e (tbr am lm as_ ls) h h' ∧ RS K rho (mrs2 (dsk J 0)) ∧ rfr (uI (uI (uI (uI (rchI 0 J) 22 0 0) 22 1 0) 16 0 2) 23 0 1) K rho) := by
  obtain ⟨d, rfl⟩ : ∃ e, d = e + 1 := ⟨d - 1, by omega⟩
  refine ev_go rfl (Nat.le_of_ble_eq_true rfl) rfl ?_
  obtain ⟨f, ef⟩ : ∃ f, f = dsk J 0 := ⟨_, rfl⟩
  have hdk : ∀ j, J 7 (245 * 0 + j) = f j := fun j => by rw [ef]; rfl
  rw [← ef] at hmk hEK ⊢
  have hz0 : ∀ j, j < 48 → J 51 (424 * rho + j) = 0 := fun j hj => by
    by_cases e2 : j = 2
    · rw [e2]; exact hR.2.1
    by_cases e5 : j = 5
    · rw [e5]; exact hR.2.2.1
    exact hR.1 j hj e2 e5
  have hrd32 := rd_le f (f 80) 32 0
  have hll : (rdL f).length = rd f (f 80) 32 0 := by simp [rdL]
  refine go_s (pc' := 1) rfl rfl rfl rfl ?_
  refine go_s (pc' := 2) (st' := [.int 0, .ref 62]) rfl rfl rfl rfl ?_
  refine go_callV (pc' := 3) rfl rfl rfl (Nat.le_of_ble_eq_true rfl) rfl (sm_o hS rfl) rfl rfl rfl (rt_at_0 hr hS hp hn (by omega)) (fun r h1 q2 => ?_)
  obtain ⟨rfl, rfl⟩ := q2
  rw [show rwi J 0 = rho from hrho]
  refine go_s (pc' := 4) (lo' := [some (.ref 62), some (.int 0), some (.int (nI (424 * rho))), none, none, none]) rfl rfl rfl rfl ?_
  refine go_s (pc' := 5) (st' := [.int 245]) rfl rfl rfl rfl ?_
  refine go_s (pc' := 6) rfl rfl rfl rfl ?_
  refine go_s (pc' := 7) (st' := [.int 0]) rfl rfl rfl rfl ?_
  refine go_s (pc' := 8) (lo' := [some (.ref 62), some (.int 0), some (.int (nI (424 * rho))), some (.int 0), none, none]) rfl rfl rfl rfl ?_
  refine go_s (pc' := 9) rfl rfl rfl rfl ?_
  refine go_sget (pc' := 10) (v := .ref 68) hS rfl rfl rfl (by decide) rfl rfl ?_
  refine go_s (pc' := 11) (st' := [.int 1, .ref 68]) rfl rfl rfl rfl ?_
  refine go_s (pc' := 12) rfl rfl rfl rfl ?_
  refine go_s (pc' := 13) (st' := [.int 1, .ref 68]) rfl rfl rfl rfl ?_
  refine go_sald (pc' := 14) (q := 1) (v := .int (J 5 1)) hS rfl (tr_s hr (a := 68) rfl (by decide)) rfl rfl (by decide) rfl rfl ?_
  refine go_ifP (t' := 22) (pc' := 15) rfl rfl rfl (fun (c3 : (J 5 1) = 0) => ?_) (fun (c3 : ¬ (J 5 1) = 0) => ?_)
  · skip
    refine go_s (pc' := 23) rfl rfl rfl rfl ?_
    refine go_sget (pc' := 24) (v := .ref 68) hS rfl rfl rfl (by decide) rfl rfl ?_
    refine go_s (pc' := 25) (st' := [.int 1, .ref 68]) rfl rfl rfl rfl ?_
    refine go_s (pc' := 26) rfl rfl rfl rfl ?_
    refine go_s (pc' := 27) (st' := [.int 1, .ref 68]) rfl rfl rfl rfl ?_
    refine go_s (pc' := 28) (st' := [.int 0, .int 1, .ref 68]) rfl rfl rfl rfl ?_
    refine go_szast (pc' := 29) (q := 1) hS rfl (tr_s hr (a := 68) rfl (by decide)) tbr_inj (Nat.le_of_ble_eq_true rfl) rfl (by decide) (by decide) rfl (hW _ (by decide) (by decide)) rfl (fun h4 hS5 hE6 => ?_)
    refine go_s (pc' := 30) rfl rfl rfl rfl ?_
    refine go_sget (pc' := 31) (v := .ref as_) hS5 rfl rfl rfl (by decide) rfl rfl ?_
    refine go_s (pc' := 32) rfl rfl rfl rfl ?_
    refine go_s (pc' := 33) (st' := [.int 1, .int (nI (424 * rho)), .ref as_]) rfl rfl rfl rfl ?_
    refine go_nadd (pc' := 34) (a := (424 * rho)) (b := 1) rfl rfl rfl rfl rfl ?_
    refine go_s (pc' := 35) rfl rfl rfl rfl ?_
    refine go_sget (pc' := 36) (v := .ref 70) hS5 rfl rfl rfl (by decide) rfl rfl ?_
    refine go_s (pc' := 37) rfl rfl rfl rfl ?_
    refine go_s (pc' := 38) (st' := [.int 80, .int 0, .ref 70, .int (nI ((424 * rho) + 1)), .ref as_]) rfl rfl rfl rfl ?_
    refine go_s (pc' := 39) (st' := [.int 80, .ref 70, .int (nI ((424 * rho) + 1)), .ref as_]) rfl rfl rfl rfl ?_
    refine go_sald (pc' := 40) (q := 80) (v := .int (f 80)) hS5 rfl (tr_s hr (a := 70) rfl (by decide)) rfl rfl (by decide) (congrArg Value.int (hdk 80)) rfl ?_
    refine go_siast (pc' := 41) (q := ((424 * rho) + 1)) hS5 rfl (tr_as hr (by omega)) tbr_inj (Nat.le_of_ble_eq_true rfl) rfl (by omega) (rk_0 hr).2 hWa rfl (fun h7 hS8 hE9 => ?_)
    have hE10 := sm_e_trans hE6 hE9
    refine go_s (pc' := 42) rfl rfl rfl rfl ?_
    refine go_sget (pc' := 43) (v := .ref as_) hS8 rfl rfl rfl (by decide) rfl rfl ?_
    refine go_s (pc' := 44) rfl rfl rfl rfl ?_
    refine go_s (pc' := 45) (st' := [.int 0, .int (nI (424 * rho)), .ref as_]) rfl rfl rfl rfl ?_
    refine go_nadd (pc' := 46) (a := (424 * rho)) (b := 0) rfl rfl rfl rfl rfl ?_
    refine go_s (pc' := 47) rfl rfl rfl rfl ?_
    refine go_sget (pc' := 48) (v := .ref 70) hS8 rfl rfl rfl (by decide) rfl rfl ?_
    refine go_s (pc' := 49) rfl rfl rfl rfl ?_
    refine go_s (pc' := 50) (st' := [.int 80, .int 0, .ref 70, .int (nI ((424 * rho) + 0)), .ref as_]) rfl rfl rfl rfl ?_
    refine go_s (pc' := 51) (st' := [.int 80, .ref 70, .int (nI ((424 * rho) + 0)), .ref as_]) rfl rfl rfl rfl ?_
    refine go_s (pc' := 52) (st' := [.int 1, .int 80, .ref 70, .int (nI ((424 * rho) + 0)), .ref as_]) rfl rfl rfl rfl ?_
    refine go_s (pc' := 53) (st' := [.int 81, .ref 70, .int (nI ((424 * rho) + 0)), .ref as_]) rfl rfl rfl rfl ?_
    refine go_sald (pc' := 54) (q := 81) (v := .int (f 81)) hS8 rfl (tr_s hr (a := 70) rfl (by decide)) rfl rfl (by decide) (congrArg Value.int (hdk 81)) rfl ?_
    refine go_s (pc' := 55) (st' := [.int 1, .int (f 81), .int (nI ((424 * rho) + 0)), .ref as_]) rfl rfl rfl rfl ?_
    refine go_s (pc' := 56) rfl rfl rfl rfl ?_
    refine go_siast (pc' := 57) (q := ((424 * rho) + 0)) hS8 rfl (tr_as hr (by omega)) tbr_inj (Nat.le_of_ble_eq_true rfl) rfl (by omega) (rk_0 hr).2 hWa rfl (fun h11 hS12 hE13 => ?_)
    have hE14 := sm_e_trans hE10 hE13
    refine go_s (pc' := 58) (st' := [.int 0]) rfl rfl rfl rfl ?_
    refine go_s (pc' := 59) (lo' := [some (.ref 62), some (.int 0), some (.int (nI (424 * rho))), some (.int 0), some (.int 0), none]) rfl rfl rfl rfl ?_
    have hch : rchI 0 J = (uI J 5 1 0) := by
      unfold rchI
      rw [if_pos c3]
    obtain ⟨JA, eA⟩ : ∃ y, y = (uI (uI (uI J 5 1 0) 51 ((424 * rho) + 1) (f 80)) 51 ((424 * rho) + 0) ((f 81) + 1)) := ⟨_, rfl⟩
    change sm (tbr am lm as_ ls) _ (uI (uI (uI J 5 1 0) 51 ((424 * rho) + 1) (f 80)) 51 ((424 * rho) + 0) ((f 81) + 1)) Y at hS12
    have hfA : rfr (uI J 5 1 0) JA rho := by
      rw [eA]
      exact rfr_trans (rfr_u (by omega) (by omega)) (rfr_u (by omega) (by omega))
    have h7A : ∀ j, JA 7 (245 * 0 + j) = f j := fun j => (hfA 7 _ (by omega)).trans (hdk j)
    have hzA : ∀ j, j < 48 → JA 51 (424 * rho + j) = if j = 0 then f 81 + 1 else if j = 1 then f 80 else 0 := fun j hj => by
      rw [eA]
      by_cases e0 : j = 0
      · rw [if_pos e0]
        repeat (first | rw [uI_e (by omega)] | rw [uI_j (by omega)])
      · rw [if_neg e0]
        by_cases e1 : j = 1
        · rw [if_pos e1]
          repeat (first | rw [uI_e (by omega)] | rw [uI_j (by omega)])
        · rw [if_neg e1, uI_j (by omega), uI_j (by omega)]
          exact hz0 j hj
    rw [← eA] at hS12
    refine lp_rc_0 hr hW hWa hls hl31 (J := JA) 16 0 _ rfl (by rw [rc_0]; exact hS12) (fun h8 hS8 hE8 => ?_)
    have hE8b := sm_e_trans hE14 hE8
    refine go_s (pc' := 90) (st' := [.int 0]) rfl rfl rfl rfl ?_
    refine go_s (pc' := 91) (lo' := [some (.ref 62), some (.int 0), some (.int (nI (424 * rho))), some (.int 0), some (.int 0), none]) rfl rfl rfl rfl ?_
    refine lp_re_0 hr hW hWa hls hl31 (J := rcI JA rho 0 16) (f := f) (fun j => (rc_r (Nat.le_refl _) 7 _ (by omega)).trans (h7A j)) ?_ 32 0 _ none rfl (by rw [re_0]; exact hS8) (fun h9 v5 hS9 hE9 => ?_)
    · simp only [rcI]
      rw [if_neg (by omega), if_neg (by omega)]
      exact hzA 1 (by decide)
    have hE9b := sm_e_trans hE8b hE9
    refine go_s (pc' := 147) rfl rfl rfl rfl ?_
    refine go_sget (pc' := 148) (v := .ref as_) hS9 rfl rfl rfl (by decide) rfl rfl ?_
    refine go_s (pc' := 149) rfl rfl rfl rfl ?_
    refine go_s (pc' := 150) (st' := [.int 2, .int (nI (424 * rho)), .ref as_]) rfl rfl rfl rfl ?_
    refine go_nadd (pc' := 151) (a := (424 * rho)) (b := 2) rfl rfl rfl rfl rfl ?_
    refine go_s (pc' := 152) rfl rfl rfl rfl ?_
    refine go_siast (pc' := 153) (q := ((424 * rho) + 2)) hS9 rfl (tr_as hr (by omega)) tbr_inj (Nat.le_of_ble_eq_true rfl) rfl (by omega) (rk_0 hr).2 hWa rfl (fun h15 hS16 hE17 => ?_)
    have hE18 := sm_e_trans hE9b hE17
    refine go_s (pc' := 154) (st' := [.int 0]) rfl rfl rfl rfl ?_
    refine go_s (pc' := 155) (lo' := [some (.ref 62), some (.int 0), some (.int (nI (424 * rho))), some (.int 0), some (.int (nI (rd f (f 80) 32 0))), some (.int 0)]) rfl rfl rfl rfl ?_
    refine go_s (pc' := 156) rfl rfl rfl rfl ?_
    refine go_s (pc' := 157) (st' := [.int 2, .int 0]) rfl rfl rfl rfl ?_
    refine go_icmpP (t' := 169) (pc' := 158) rfl rfl rfl (fun (c : 2 ≤ (0 : Int32)) => absurd c (by decide)) (fun _ => ?_)
    refine go_s (pc' := 159) rfl rfl rfl rfl ?_
    refine go_sget (pc' := 160) (v := .ref as_) hS16 rfl rfl rfl (by decide) rfl rfl ?_
    refine go_s (pc' := 161) rfl rfl rfl rfl ?_
    refine go_s (pc' := 162) (st' := [.int 6, .int (nI (424 * rho)), .ref as_]) rfl rfl rfl rfl ?_
    refine go_nadd (pc' := 163) (a := (424 * rho)) (b := 6) rfl rfl rfl rfl rfl ?_
    refine go_s (pc' := 164) rfl rfl rfl rfl ?_
    refine go_nadd (pc' := 165) (a := ((424 * rho) + 6)) (b := 0) rfl rfl rfl rfl rfl ?_
    refine go_s (pc' := 166) (st' := [.int (-1), .int (nI (((424 * rho) + 6) + 0)), .ref as_]) rfl rfl rfl rfl ?_
    refine go_siast (pc' := 167) (q := (((424 * rho) + 6) + 0)) hS16 rfl (tr_as hr (by omega)) tbr_inj (Nat.le_of_ble_eq_true rfl) rfl (by omega) (rk_0 hr).2 hWa rfl (fun h19 hS20 hE21 => ?_)
    have hE22 := sm_e_trans hE18 hE21
    refine go_s (pc' := 168) (lo' := [some (.ref 62), some (.int 0), some (.int (nI (424 * rho))), some (.int 0), some (.int (nI (rd f (f 80) 32 0))), some (.int 1)]) rfl rfl rfl rfl ?_
    refine go_s (pc' := 155) rfl rfl rfl rfl ?_
    refine go_s (pc' := 156) rfl rfl rfl rfl ?_
    refine go_s (pc' := 157) (st' := [.int 2, .int 1]) rfl rfl rfl rfl ?_
    refine go_icmpP (t' := 169) (pc' := 158) rfl rfl rfl (fun (c : 2 ≤ (1 : Int32)) => absurd c (by decide)) (fun _ => ?_)
    refine go_s (pc' := 159) rfl rfl rfl rfl ?_
    refine go_sget (pc' := 160) (v := .ref as_) hS20 rfl rfl rfl (by decide) rfl rfl ?_
    refine go_s (pc' := 161) rfl rfl rfl rfl ?_
    refine go_s (pc' := 162) (st' := [.int 6, .int (nI (424 * rho)), .ref as_]) rfl rfl rfl rfl ?_
    refine go_nadd (pc' := 163) (a := (424 * rho)) (b := 6) rfl rfl rfl rfl rfl ?_
    refine go_s (pc' := 164) rfl rfl rfl rfl ?_
    refine go_nadd (pc' := 165) (a := ((424 * rho) + 6)) (b := 1) rfl rfl rfl rfl rfl ?_
    refine go_s (pc' := 166) (st' := [.int (-1), .int (nI (((424 * rho) + 6) + 1)), .ref as_]) rfl rfl rfl rfl ?_
    refine go_siast (pc' := 167) (q := (((424 * rho) + 6) + 1)) hS20 rfl (tr_as hr (by omega)) tbr_inj (Nat.le_of_ble_eq_true rfl) rfl (by omega) (rk_0 hr).2 hWa rfl (fun h23 hS24 hE25 => ?_)
    have hE26 := sm_e_trans hE22 hE25
    refine go_s (pc' := 168) (lo' := [some (.ref 62), some (.int 0), some (.int (nI (424 * rho))), some (.int 0), some (.int (nI (rd f (f 80) 32 0))), some (.int 2)]) rfl rfl rfl rfl ?_
    refine go_s (pc' := 155) rfl rfl rfl rfl ?_
    refine go_s (pc' := 156) rfl rfl rfl rfl ?_
    refine go_s (pc' := 157) (st' := [.int 2, .int 2]) rfl rfl rfl rfl ?_
    refine go_icmpP (t' := 169) (pc' := 158) rfl rfl rfl (fun _ => ?_) (fun (c : ¬ (2 ≤ (2 : Int32))) => absurd (by decide) c)
    refine go_s (pc' := 170) (st' := [.int 0]) rfl rfl rfl rfl ?_
    refine go_s (pc' := 171) (lo' := [some (.ref 62), some (.int 0), some (.int (nI (424 * rho))), some (.int 0), some (.int (nI (rd f (f 80) 32 0))), some (.int 0)]) rfl rfl rfl rfl ?_
    have hR27 : RS (uI (uI (uI (reI (rcI JA rho 0 16) rho 0 (rd f (f 80) 32 0)) 51 ((424 * rho) + 2) (nI (rd f (f 80) 32 0))) 51 (((424 * rho) + 6) + 0) (-1)) 51 (((424 * rho) + 6) + 1) (-1)) rho (uF (mr1 f).1 7 (-1), rdL f, []) := RS_rd h7A hzA ((hzA 5 (by decide)).trans rfl)
    have hf27 : rfr (uI J 5 1 0) (uI (uI (uI (reI (rcI JA rho 0 16) rho 0 (rd f (f 80) 32 0)) 51 ((424 * rho) + 2) (nI (rd f (f 80) 32 0))) 51 (((424 * rho) + 6) + 0) (-1)) 51 (((424 * rho) + 6) + 1) (-1)) rho := rfr_trans hfA (rfr_trans (rc_r (Nat.le_refl _)) (rfr_trans (re_r (by omega)) (rfr_trans (rfr_u (by omega) (by omega)) (rfr_trans (rfr_u (by omega) (by omega)) (rfr_u (by omega) (by omega))))))
    change sm (tbr am lm as_ ls) _ (uI (uI (uI (reI (rcI JA rho 0 16) rho 0 (rd f (f 80) 32 0)) 51 ((424 * rho) + 2) (nI (rd f (f 80) 32 0))) 51 (((424 * rho) + 6) + 0) (-1)) 51 (((424 * rho) + 6) + 1) (-1)) Y at hS24
    obtain ⟨K27, eK27⟩ : ∃ y, y = (uI (uI (uI (reI (rcI JA rho 0 16) rho 0 (rd f (f 80) 32 0)) 51 ((424 * rho) + 2) (nI (rd f (f 80) 32 0))) 51 (((424 * rho) + 6) + 0) (-1)) 51 (((424 * rho) + 6) + 1) (-1)) := ⟨_, rfl⟩
    rw [← eK27] at hR27 hf27 hS24
    have hk28 : prk K27 0 ∧ ¬ K27 11 0 = -1 ∧ rwi K27 0 = rho := ⟨by unfold prk; rw [rfr_c hf27 (by decide)]; exact hp, by rw [rfr_c hf27 (by decide)]; exact hn, (rfr_w hf27).trans hrho⟩
    refine go_s (pc' := 172) rfl rfl rfl rfl ?_
    refine go_s (pc' := 173) (st' := [.int 2, .int 0]) rfl rfl rfl rfl ?_
    refine go_icmpP (t' := 183) (pc' := 174) rfl rfl rfl (fun (c : 2 ≤ (0 : Int32)) => absurd c (by decide)) (fun _ => ?_)
    refine go_s (pc' := 175) rfl rfl rfl rfl ?_
    refine go_s (pc' := 176) rfl rfl rfl rfl ?_
    refine go_callV (pc' := 177) rfl rfl rfl (Nat.le_of_ble_eq_true rfl) rfl (sm_o hS24 rfl) rfl rfl rfl (rs_ho hr hS24 hk28.1 hk28.2.1 hk28.2.2 hls hl31 hR27 (t := 0) (by show (rdL f).length ≤ 32; omega) hEK (by omega)) (fun r h29 q30 => ?_)
    obtain ⟨rfl, rfl⟩ := q30
    rw [show hop (uF (mr1 f).1 7 (-1), rdL f, []) 0 = hop (mr1 f) 0 from rfl]
    cases u31 : hop (mr1 f) 0
    · skip
      show am_Go _ _ _ _ 177 _ [.int 0] _ _
      refine go_ifP (t' := 181) (pc' := 178) rfl rfl rfl (fun _ => ?_) (fun (c : ¬ ((0 : Int32) = 0)) => absurd (by decide) c)
      have hR32 : RS K27 rho (mr3 f) := by rw [mr3_n u31]; exact hR27
      refine go_s (pc' := 182) (lo' := [some (.ref 62), some (.int 0), some (.int (nI (424 * rho))), some (.int 0), some (.int (nI (rd f (f 80) 32 0))), some (.int 1)]) rfl rfl rfl rfl ?_
      refine go_s (pc' := 171) rfl rfl rfl rfl ?_
      refine go_s (pc' := 172) rfl rfl rfl rfl ?_
      refine go_s (pc' := 173) (st' := [.int 2, .int 1]) rfl rfl rfl rfl ?_
      refine go_icmpP (t' := 183) (pc' := 174) rfl rfl rfl (fun (c : 2 ≤ (1 : Int32)) => absurd c (by decide)) (fun _ => ?_)
      refine go_s (pc' := 175) rfl rfl rfl rfl ?_
      refine go_s (pc' := 176) rfl rfl rfl rfl ?_
      refine go_callV (pc' := 177) rfl rfl rfl (Nat.le_of_ble_eq_true rfl) rfl (sm_o hS24 rfl) rfl rfl rfl (rs_ho hr hS24 hk28.1 hk28.2.1 hk28.2.2 hls hl31 hR32 (t := 1) hmk.2.2.2.1 (EK_3 hEK) (by omega)) (fun r h33 q34 => ?_)
      obtain ⟨rfl, rfl⟩ := q34
      rw [show hop (mr3 f) 1 = hop (mr3 f) 1 from rfl]
      cases u35 : hop (mr3 f) 1
      · skip
        show am_Go _ _ _ _ 177 _ [.int 0] _ _
        refine go_ifP (t' := 181) (pc' := 178) rfl rfl rfl (fun _ => ?_) (fun (c : ¬ ((0 : Int32) = 0)) => absurd (by decide) c)
        have hR36 : RS K27 rho (mr4 f) := by rw [show mr4 f = mr3 f from if_neg (by rw [u35]; decide)]; exact hR32
        obtain ⟨m4, e4⟩ : ∃ y : ms, y = mr4 f := ⟨_, rfl⟩
        rw [← e4] at hR36
        refine go_s (pc' := 182) (lo' := [some (.ref 62), some (.int 0), some (.int (nI (424 * rho))), some (.int 0), some (.int (nI (rd f (f 80) 32 0))), some (.int 2)]) rfl rfl rfl rfl ?_
        refine go_s (pc' := 171) rfl rfl rfl rfl ?_
        refine go_s (pc' := 172) rfl rfl rfl rfl ?_
        refine go_s (pc' := 173) (st' := [.int 2, .int 2]) rfl rfl rfl rfl ?_
        refine go_icmpP (t' := 183) (pc' := 174) rfl rfl rfl (fun _ => ?_) (fun (c : ¬ (2 ≤ (2 : Int32))) => absurd (by decide) c)
        refine go_s (pc' := 184) rfl rfl rfl rfl ?_
        refine go_sget (pc' := 185) (v := .ref as_) hS24 rfl rfl rfl (by decide) rfl rfl ?_
        refine go_s (pc' := 186) rfl rfl rfl rfl ?_
        refine go_s (pc' := 187) (st' := [.int 1, .int (nI (424 * rho)), .ref as_]) rfl rfl rfl rfl ?_
        refine go_nadd (pc' := 188) (a := (424 * rho)) (b := 1) rfl rfl rfl rfl rfl ?_
        refine go_s (pc' := 189) rfl rfl rfl rfl ?_
        refine go_sald (pc' := 190) (q := ((424 * rho) + 1)) (v := .int (m4.1 1)) hS24 rfl (tr_as hr (by omega)) rfl rfl (by omega) (congrArg Value.int (hR36.1 1 (by decide) (by decide) (by decide))) rfl ?_
        refine go_s (pc' := 191) (st' := [.int 1, .int (m4.1 1), .int (nI ((424 * rho) + 1)), .ref as_]) rfl rfl rfl rfl ?_
        refine go_s (pc' := 192) rfl rfl rfl rfl ?_
        refine go_siast (pc' := 193) (q := ((424 * rho) + 1)) hS24 rfl (tr_as hr (by omega)) tbr_inj (Nat.le_of_ble_eq_true rfl) rfl (by omega) (rk_0 hr).2 hWa rfl (fun h37 hS38 hE39 => ?_)
        have hE40 := sm_e_trans hE26 hE39
        refine go_s (pc' := 194) rfl rfl rfl rfl ?_
        refine go_sget (pc' := 195) (v := .ref as_) hS38 rfl rfl rfl (by decide) rfl rfl ?_
        refine go_s (pc' := 196) rfl rfl rfl rfl ?_
        refine go_s (pc' := 197) (st' := [.int 2, .int (nI (424 * rho)), .ref as_]) rfl rfl rfl rfl ?_
        refine go_nadd (pc' := 198) (a := (424 * rho)) (b := 2) rfl rfl rfl rfl rfl ?_
        refine go_s (pc' := 199) (st' := [.int 0, .int (nI ((424 * rho) + 2)), .ref as_]) rfl rfl rfl rfl ?_
        refine go_siast (pc' := 200) (q := ((424 * rho) + 2)) hS38 rfl (tr_as hr (by omega)) tbr_inj (Nat.le_of_ble_eq_true rfl) rfl (by omega) (rk_0 hr).2 hWa rfl (fun h41 hS42 hE43 => ?_)
        have hE44 := sm_e_trans hE40 hE43
        have hR45 : RS (uI (uI K27 51 ((424 * rho) + 1) ((m4.1 1) + 1)) 51 ((424 * rho) + 2) 0) rho (uF m4.1 1 (m4.1 1 + 1), [], m4.2.2) := RS_e0 (RS_F (j := 1) hR36 (by decide) (by decide) (by decide))
        have hf45 : rfr (uI J 5 1 0) (uI (uI K27 51 ((424 * rho) + 1) ((m4.1 1) + 1)) 51 ((424 * rho) + 2) 0) rho := rfr_trans hf27 (rfr_trans (rfr_u (by omega) (by omega)) (rfr_u (by omega) (by omega)))
        change sm (tbr am lm as_ ls) _ (uI (uI K27 51 ((424 * rho) + 1) ((m4.1 1) + 1)) 51 ((424 * rho) + 2) 0) Y at hS42
        obtain ⟨K45, eK45⟩ : ∃ y, y = (uI (uI K27 51 ((424 * rho) + 1) ((m4.1 1) + 1)) 51 ((424 * rho) + 2) 0) := ⟨_, rfl⟩
        rw [← eK45] at hR45 hf45 hS42
        have hk46 : prk K45 0 ∧ ¬ K45 11 0 = -1 ∧ rwi K45 0 = rho := ⟨by unfold prk; rw [rfr_c hf45 (by decide)]; exact hp, by rw [rfr_c hf45 (by decide)]; exact hn, (rfr_w hf45).trans hrho⟩
        refine go_s (pc' := 201) rfl rfl rfl rfl ?_
        refine go_s (pc' := 202) (st' := [.int 16, .ref 62]) rfl rfl rfl rfl ?_
        refine go_s (pc' := 203) rfl rfl rfl rfl ?_
        refine go_sget (pc' := 204) (v := .ref as_) hS42 rfl rfl rfl (by decide) rfl rfl ?_
        refine go_s (pc' := 205) rfl rfl rfl rfl ?_
        refine go_s (pc' := 206) (st' := [.int 1, .int (nI (424 * rho)), .ref as_, .int 16, .ref 62]) rfl rfl rfl rfl ?_
        refine go_nadd (pc' := 207) (a := (424 * rho)) (b := 1) rfl rfl rfl rfl rfl ?_
        refine go_sald (pc' := 208) (q := ((424 * rho) + 1)) (v := .int (m4.1 1 + 1)) hS42 rfl (tr_as hr (by omega)) rfl rfl (by omega) (congrArg Value.int (hR45.1 1 (by decide) (by decide) (by decide))) rfl ?_
        refine go_s (pc' := 209) rfl rfl rfl rfl ?_
        refine go_sget (pc' := 210) (v := .ref as_) hS42 rfl rfl rfl (by decide) rfl rfl ?_
        refine go_s (pc' := 211) rfl rfl rfl rfl ?_
        refine go_s (pc' := 212) (st' := [.int 0, .int (nI (424 * rho)), .ref as_, .int (m4.1 1 + 1), .int 16, .ref 62]) rfl rfl rfl rfl ?_
        refine go_nadd (pc' := 213) (a := (424 * rho)) (b := 0) rfl rfl rfl rfl rfl ?_
        refine go_sald (pc' := 214) (q := ((424 * rho) + 0)) (v := .int (m4.1 0)) hS42 rfl (tr_as hr (by omega)) rfl rfl (by omega) (congrArg Value.int (hR45.1 0 (by decide) (by decide) (by decide))) rfl ?_
        refine go_s (pc' := 215) (st' := [.int 0, .int (m4.1 0), .int (m4.1 1 + 1), .int 16, .ref 62]) rfl rfl rfl rfl ?_
        refine go_s (pc' := 216) (st' := [.int 0, .int 0, .int (m4.1 0), .int (m4.1 1 + 1), .int 16, .ref 62]) rfl rfl rfl rfl ?_
        refine go_s (pc' := 217) (st' := [.int 0, .int 0, .int 0, .int (m4.1 0), .int (m4.1 1 + 1), .int 16, .ref 62]) rfl rfl rfl rfl ?_
        refine go_callV (pc' := 218) rfl rfl rfl (Nat.le_of_ble_eq_true rfl) rfl (sm_o hS42 rfl) rfl rfl rfl (rs_aw hr hS42 hW hWa hk46.1 hk46.2.1 hk46.2.2 hls hl31 hR45 (by show m4.2.2.length < 41; have z := hmk.2.2.2.2.2; rw [← e4] at z; omega) (by show 0 ≤ 32; decide) (by omega)) (fun r h47 q48 => ?_)
        obtain ⟨rfl, K49, hS49, hE49, hR49, hg49⟩ := q48
        have hE50 := sm_e_trans hE44 hE49
        have hf49 := rfr_trans hf45 hg49
        change RS K49 rho (mG m4) at hR49
        rw [show mG m4 = mrs f by unfold mrs; rw [e4]] at hR49
        have hk51 : prk K49 0 ∧ ¬ K49 11 0 = -1 ∧ rwi K49 0 = rho := ⟨by unfold prk; rw [rfr_c hf49 (by decide)]; exact hp, by rw [rfr_c hf49 (by decide)]; exact hn, (rfr_w hf49).trans hrho⟩
        refine go_s (pc' := 219) rfl rfl rfl rfl ?_
        refine go_sget (pc' := 220) (v := .ref as_) hS49 rfl rfl rfl (by decide) rfl rfl ?_
        refine go_s (pc' := 221) rfl rfl rfl rfl ?_
        refine go_s (pc' := 222) (st' := [.int 3, .int (nI (424 * rho)), .ref as_]) rfl rfl rfl rfl ?_
        refine go_nadd (pc' := 223) (a := (424 * rho)) (b := 3) rfl rfl rfl rfl rfl ?_
        refine go_s (pc' := 224) (st' := [.int 2, .int (nI ((424 * rho) + 3)), .ref as_]) rfl rfl rfl rfl ?_
        refine go_siast (pc' := 225) (q := ((424 * rho) + 3)) hS49 rfl (tr_as hr (by omega)) tbr_inj (Nat.le_of_ble_eq_true rfl) rfl (by omega) (rk_0 hr).2 hWa rfl (fun h52 hS53 hE54 => ?_)
        have hE55 := sm_e_trans hE50 hE54
        refine go_s (pc' := 226) rfl rfl rfl rfl ?_
        refine go_sget (pc' := 227) (v := .ref 88) hS53 rfl rfl rfl (by decide) rfl rfl ?_
        refine go_s (pc' := 228) (st' := [.int 0, .ref 88]) rfl rfl rfl rfl ?_
        refine go_s (pc' := 229) (st' := [.int 0, .int 0, .ref 88]) rfl rfl rfl rfl ?_
        refine go_siast (pc' := 230) (q := 0) hS53 rfl (tr_s hr (a := 88) rfl (by decide)) tbr_inj (Nat.le_of_ble_eq_true rfl) rfl (by decide) (by decide) (hW _ (by decide) (by decide)) rfl (fun h56 hS57 hE58 => ?_)
        have hE59 := sm_e_trans hE55 hE58
        refine go_s (pc' := 231) rfl rfl rfl rfl ?_
        refine go_sget (pc' := 232) (v := .ref 88) hS57 rfl rfl rfl (by decide) rfl rfl ?_
        refine go_s (pc' := 233) (st' := [.int 1, .ref 88]) rfl rfl rfl rfl ?_
        refine go_s (pc' := 234) (st' := [.int 0, .int 1, .ref 88]) rfl rfl rfl rfl ?_
        refine go_siast (pc' := 235) (q := 1) hS57 rfl (tr_s hr (a := 88) rfl (by decide)) tbr_inj (Nat.le_of_ble_eq_true rfl) rfl (by decide) (by decide) (hW _ (by decide) (by decide)) rfl (fun h60 hS61 hE62 => ?_)
        have hE63 := sm_e_trans hE59 hE62
        refine go_s (pc' := 236) rfl rfl rfl rfl ?_
        refine go_sget (pc' := 237) (v := .ref 83) hS61 rfl rfl rfl (by decide) rfl rfl ?_
        refine go_s (pc' := 238) (st' := [.int 0, .ref 83]) rfl rfl rfl rfl ?_
        refine go_s (pc' := 239) (st' := [.int 2, .int 0, .ref 83]) rfl rfl rfl rfl ?_
        refine go_siast (pc' := 240) (q := 0) hS61 rfl (tr_s hr (a := 83) rfl (by decide)) tbr_inj (Nat.le_of_ble_eq_true rfl) rfl (by decide) (by decide) (hW _ (by decide) (by decide)) rfl (fun h64 hS65 hE66 => ?_)
        have hE67 := sm_e_trans hE63 hE66
        refine go_s (pc' := 241) rfl rfl rfl rfl ?_
        refine go_s (pc' := 242) (st' := [.int 1, .ref 62]) rfl rfl rfl rfl ?_
        refine go_sput (pc' := 243) hS65 rfl rfl rfl (by decide) tbr_inj (Nat.le_of_ble_eq_true rfl) rfl (hW _ (by decide) (by decide)) rfl (fun h68 hS69 hE70 => ?_)
        have hE71 := sm_e_trans hE67 hE70
        refine go_ret rfl rfl ?_
        refine ⟨rfl, _, hS69, hE71, ?_, ?_⟩
        · rw [mrs2_e]
          refine RS_c (J := uI K49 51 (424 * rho + 3) 2) (fun j => rfl) (RS_F (j := 3) hR49 (by decide) (by decide) (by decide))
        · rw [hch]
          exact rfr_i (by decide) (rfr_i (by decide) (rfr_i (by decide) (rfr_i (by decide) (rfr_trans hf49 (rfr_u (by omega) (by omega))))))
      · skip
        show am_Go _ _ _ _ 177 _ [.int 1] _ _
        refine go_ifP (t' := 181) (pc' := 178) rfl rfl rfl (fun (c : (1 : Int32) = 0) => absurd c (by decide)) (fun _ => ?_)
        refine go_s (pc' := 179) rfl rfl rfl rfl ?_
        refine go_s (pc' := 180) rfl rfl rfl rfl ?_
        refine go_callV (pc' := 181) rfl rfl rfl (Nat.le_of_ble_eq_true rfl) rfl (sm_o hS24 rfl) rfl rfl rfl (rs_bo hr hS24 hW hWa hk28.1 hk28.2.1 hk28.2.2 hls hl31 hR32 (t := 1) (hmk.2.2.2.2.1 u35).1 (EK_3 hEK) hmk.2.2.1 (by have z := (hmk.2.2.2.2.1 u35).2; omega) (by omega)) (fun r h72 q73 => ?_)
        obtain ⟨rfl, K74, hS74, hE74, hR74, hg74⟩ := q73
        have hE75 := sm_e_trans hE26 hE74
        have hf74 := rfr_trans hf27 hg74
        have hk76 : prk K74 0 ∧ ¬ K74 11 0 = -1 ∧ rwi K74 0 = rho := ⟨by unfold prk; rw [rfr_c hf74 (by decide)]; exact hp, by rw [rfr_c hf74 (by decide)]; exact hn, (rfr_w hf74).trans hrho⟩
        have hR77 : RS K74 rho (mr4 f) := by rw [show mr4 f = mB (mr3 f) 1 from if_pos u35]; exact hR74
        obtain ⟨m4, e4⟩ : ∃ y : ms, y = mr4 f := ⟨_, rfl⟩
        rw [← e4] at hR77
        refine go_s (pc' := 182) (lo' := [some (.ref 62), some (.int 0), some (.int (nI (424 * rho))), some (.int 0), some (.int (nI (rd f (f 80) 32 0))), some (.int 2)]) rfl rfl rfl rfl ?_
        refine go_s (pc' := 171) rfl rfl rfl rfl ?_
        refine go_s (pc' := 172) rfl rfl rfl rfl ?_
        refine go_s (pc' := 173) (st' := [.int 2, .int 2]) rfl rfl rfl rfl ?_
        refine go_icmpP (t' := 183) (pc' := 174) rfl rfl rfl (fun _ => ?_) (fun (c : ¬ (2 ≤ (2 : Int32))) => absurd (by decide) c)
        refine go_s (pc' := 184) rfl rfl rfl rfl ?_
        refine go_sget (pc' := 185) (v := .ref as_) hS74 rfl rfl rfl (by decide) rfl rfl ?_
        refine go_s (pc' := 186) rfl rfl rfl rfl ?_
        refine go_s (pc' := 187) (st' := [.int 1, .int (nI (424 * rho)), .ref as_]) rfl rfl rfl rfl ?_
        refine go_nadd (pc' := 188) (a := (424 * rho)) (b := 1) rfl rfl rfl rfl rfl ?_
        refine go_s (pc' := 189) rfl rfl rfl rfl ?_
        refine go_sald (pc' := 190) (q := ((424 * rho) + 1)) (v := .int (m4.1 1)) hS74 rfl (tr_as hr (by omega)) rfl rfl (by omega) (congrArg Value.int (hR77.1 1 (by decide) (by decide) (by decide))) rfl ?_
        refine go_s (pc' := 191) (st' := [.int 1, .int (m4.1 1), .int (nI ((424 * rho) + 1)), .ref as_]) rfl rfl rfl rfl ?_
        refine go_s (pc' := 192) rfl rfl rfl rfl ?_
        refine go_siast (pc' := 193) (q := ((424 * rho) + 1)) hS74 rfl (tr_as hr (by omega)) tbr_inj (Nat.le_of_ble_eq_true rfl) rfl (by omega) (rk_0 hr).2 hWa rfl (fun h78 hS79 hE80 => ?_)
        have hE81 := sm_e_trans hE75 hE80
        refine go_s (pc' := 194) rfl rfl rfl rfl ?_
        refine go_sget (pc' := 195) (v := .ref as_) hS79 rfl rfl rfl (by decide) rfl rfl ?_
        refine go_s (pc' := 196) rfl rfl rfl rfl ?_
        refine go_s (pc' := 197) (st' := [.int 2, .int (nI (424 * rho)), .ref as_]) rfl rfl rfl rfl ?_
        refine go_nadd (pc' := 198) (a := (424 * rho)) (b := 2) rfl rfl rfl rfl rfl ?_
        refine go_s (pc' := 199) (st' := [.int 0, .int (nI ((424 * rho) + 2)), .ref as_]) rfl rfl rfl rfl ?_
        refine go_siast (pc' := 200) (q := ((424 * rho) + 2)) hS79 rfl (tr_as hr (by omega)) tbr_inj (Nat.le_of_ble_eq_true rfl) rfl (by omega) (rk_0 hr).2 hWa rfl (fun h82 hS83 hE84 => ?_)
        have hE85 := sm_e_trans hE81 hE84
        have hR86 : RS (uI (uI K74 51 ((424 * rho) + 1) ((m4.1 1) + 1)) 51 ((424 * rho) + 2) 0) rho (uF m4.1 1 (m4.1 1 + 1), [], m4.2.2) := RS_e0 (RS_F (j := 1) hR77 (by decide) (by decide) (by decide))
        have hf86 : rfr (uI J 5 1 0) (uI (uI K74 51 ((424 * rho) + 1) ((m4.1 1) + 1)) 51 ((424 * rho) + 2) 0) rho := rfr_trans hf74 (rfr_trans (rfr_u (by omega) (by omega)) (rfr_u (by omega) (by omega)))
        change sm (tbr am lm as_ ls) _ (uI (uI K74 51 ((424 * rho) + 1) ((m4.1 1) + 1)) 51 ((424 * rho) + 2) 0) Y at hS83
        obtain ⟨K86, eK86⟩ : ∃ y, y = (uI (uI K74 51 ((424 * rho) + 1) ((m4.1 1) + 1)) 51 ((424 * rho) + 2) 0) := ⟨_, rfl⟩
        rw [← eK86] at hR86 hf86 hS83
        have hk87 : prk K86 0 ∧ ¬ K86 11 0 = -1 ∧ rwi K86 0 = rho := ⟨by unfold prk; rw [rfr_c hf86 (by decide)]; exact hp, by rw [rfr_c hf86 (by decide)]; exact hn, (rfr_w hf86).trans hrho⟩
        refine go_s (pc' := 201) rfl rfl rfl rfl ?_
        refine go_s (pc' := 202) (st' := [.int 16, .ref 62]) rfl rfl rfl rfl ?_
        refine go_s (pc' := 203) rfl rfl rfl rfl ?_
        refine go_sget (pc' := 204) (v := .ref as_) hS83 rfl rfl rfl (by decide) rfl rfl ?_
        refine go_s (pc' := 205) rfl rfl rfl rfl ?_
        refine go_s (pc' := 206) (st' := [.int 1, .int (nI (424 * rho)), .ref as_, .int 16, .ref 62]) rfl rfl rfl rfl ?_
        refine go_nadd (pc' := 207) (a := (424 * rho)) (b := 1) rfl rfl rfl rfl rfl ?_
        refine go_sald (pc' := 208) (q := ((424 * rho) + 1)) (v := .int (m4.1 1 + 1)) hS83 rfl (tr_as hr (by omega)) rfl rfl (by omega) (congrArg Value.int (hR86.1 1 (by decide) (by decide) (by decide))) rfl ?_
        refine go_s (pc' := 209) rfl rfl rfl rfl ?_
        refine go_sget (pc' := 210) (v := .ref as_) hS83 rfl rfl rfl (by decide) rfl rfl ?_
        refine go_s (pc' := 211) rfl rfl rfl rfl ?_
        refine go_s (pc' := 212) (st' := [.int 0, .int (nI (424 * rho)), .ref as_, .int (m4.1 1 + 1), .int 16, .ref 62]) rfl rfl rfl rfl ?_
        refine go_nadd (pc' := 213) (a := (424 * rho)) (b := 0) rfl rfl rfl rfl rfl ?_
        refine go_sald (pc' := 214) (q := ((424 * rho) + 0)) (v := .int (m4.1 0)) hS83 rfl (tr_as hr (by omega)) rfl rfl (by omega) (congrArg Value.int (hR86.1 0 (by decide) (by decide) (by decide))) rfl ?_
        refine go_s (pc' := 215) (st' := [.int 0, .int (m4.1 0), .int (m4.1 1 + 1), .int 16, .ref 62]) rfl rfl rfl rfl ?_
        refine go_s (pc' := 216) (st' := [.int 0, .int 0, .int (m4.1 0), .int (m4.1 1 + 1), .int 16, .ref 62]) rfl rfl rfl rfl ?_
        refine go_s (pc' := 217) (st' := [.int 0, .int 0, .int 0, .int (m4.1 0), .int (m4.1 1 + 1), .int 16, .ref 62]) rfl rfl rfl rfl ?_
        refine go_callV (pc' := 218) rfl rfl rfl (Nat.le_of_ble_eq_true rfl) rfl (sm_o hS83 rfl) rfl rfl rfl (rs_aw hr hS83 hW hWa hk87.1 hk87.2.1 hk87.2.2 hls hl31 hR86 (by show m4.2.2.length < 41; have z := hmk.2.2.2.2.2; rw [← e4] at z; omega) (by show 0 ≤ 32; decide) (by omega)) (fun r h88 q89 => ?_)
        obtain ⟨rfl, K90, hS90, hE90, hR90, hg90⟩ := q89
        have hE91 := sm_e_trans hE85 hE90
        have hf90 := rfr_trans hf86 hg90
        change RS K90 rho (mG m4) at hR90
        rw [show mG m4 = mrs f by unfold mrs; rw [e4]] at hR90
        have hk92 : prk K90 0 ∧ ¬ K90 11 0 = -1 ∧ rwi K90 0 = rho := ⟨by unfold prk; rw [rfr_c hf90 (by decide)]; exact hp, by rw [rfr_c hf90 (by decide)]; exact hn, (rfr_w hf90).trans hrho⟩
        refine go_s (pc' := 219) rfl rfl rfl rfl ?_
        refine go_sget (pc' := 220) (v := .ref as_) hS90 rfl rfl rfl (by decide) rfl rfl ?_
        refine go_s (pc' := 221) rfl rfl rfl rfl ?_
        refine go_s (pc' := 222) (st' := [.int 3, .int (nI (424 * rho)), .ref as_]) rfl rfl rfl rfl ?_
        refine go_nadd (pc' := 223) (a := (424 * rho)) (b := 3) rfl rfl rfl rfl rfl ?_
        refine go_s (pc' := 224) (st' := [.int 2, .int (nI ((424 * rho) + 3)), .ref as_]) rfl rfl rfl rfl ?_
        refine go_siast (pc' := 225) (q := ((424 * rho) + 3)) hS90 rfl (tr_as hr (by omega)) tbr_inj (Nat.le_of_ble_eq_true rfl) rfl (by omega) (rk_0 hr).2 hWa rfl (fun h93 hS94 hE95 => ?_)
        have hE96 := sm_e_trans hE91 hE95
        refine go_s (pc' := 226) rfl rfl rfl rfl ?_
        refine go_sget (pc' := 227) (v := .ref 88) hS94 rfl rfl rfl (by decide) rfl rfl ?_
        refine go_s (pc' := 228) (st' := [.int 0, .ref 88]) rfl rfl rfl rfl ?_
        refine go_s (pc' := 229) (st' := [.int 0, .int 0, .ref 88]) rfl rfl rfl rfl ?_
        refine go_siast (pc' := 230) (q := 0) hS94 rfl (tr_s hr (a := 88) rfl (by decide)) tbr_inj (Nat.le_of_ble_eq_true rfl) rfl (by decide) (by decide) (hW _ (by decide) (by decide)) rfl (fun h97 hS98 hE99 => ?_)
        have hE100 := sm_e_trans hE96 hE99
        refine go_s (pc' := 231) rfl rfl rfl rfl ?_
        refine go_sget (pc' := 232) (v := .ref 88) hS98 rfl rfl rfl (by decide) rfl rfl ?_
        refine go_s (pc' := 233) (st' := [.int 1, .ref 88]) rfl rfl rfl rfl ?_
        refine go_s (pc' := 234) (st' := [.int 0, .int 1, .ref 88]) rfl rfl rfl rfl ?_
        refine go_siast (pc' := 235) (q := 1) hS98 rfl (tr_s hr (a := 88) rfl (by decide)) tbr_inj (Nat.le_of_ble_eq_true rfl) rfl (by decide) (by decide) (hW _ (by decide) (by decide)) rfl (fun h101 hS102 hE103 => ?_)
        have hE104 := sm_e_trans hE100 hE103
        refine go_s (pc' := 236) rfl rfl rfl rfl ?_
        refine go_sget (pc' := 237) (v := .ref 83) hS102 rfl rfl rfl (by decide) rfl rfl ?_
        refine go_s (pc' := 238) (st' := [.int 0, .ref 83]) rfl rfl rfl rfl ?_
        refine go_s (pc' := 239) (st' := [.int 2, .int 0, .ref 83]) rfl rfl rfl rfl ?_
        refine go_siast (pc' := 240) (q := 0) hS102 rfl (tr_s hr (a := 83) rfl (by decide)) tbr_inj (Nat.le_of_ble_eq_true rfl) rfl (by decide) (by decide) (hW _ (by decide) (by decide)) rfl (fun h105 hS106 hE107 => ?_)
        have hE108 := sm_e_trans hE104 hE107
        refine go_s (pc' := 241) rfl rfl rfl rfl ?_
        refine go_s (pc' := 242) (st' := [.int 1, .ref 62]) rfl rfl rfl rfl ?_
        refine go_sput (pc' := 243) hS106 rfl rfl rfl (by decide) tbr_inj (Nat.le_of_ble_eq_true rfl) rfl (hW _ (by decide) (by decide)) rfl (fun h109 hS110 hE111 => ?_)
        have hE112 := sm_e_trans hE108 hE111
        refine go_ret rfl rfl ?_
        refine ⟨rfl, _, hS110, hE112, ?_, ?_⟩
        · rw [mrs2_e]
          refine RS_c (J := uI K90 51 (424 * rho + 3) 2) (fun j => rfl) (RS_F (j := 3) hR90 (by decide) (by decide) (by decide))
        · rw [hch]
          exact rfr_i (by decide) (rfr_i (by decide) (rfr_i (by decide) (rfr_i (by decide) (rfr_trans hf90 (rfr_u (by omega) (by omega))))))
    · skip
      show am_Go _ _ _ _ 177 _ [.int 1] _ _
      refine go_ifP (t' := 181) (pc' := 178) rfl rfl rfl (fun (c : (1 : Int32) = 0) => absurd c (by decide)) (fun _ => ?_)
      refine go_s (pc' := 179) rfl rfl rfl rfl ?_
      refine go_s (pc' := 180) rfl rfl rfl rfl ?_
      refine go_callV (pc' := 181) rfl rfl rfl (Nat.le_of_ble_eq_true rfl) rfl (sm_o hS24 rfl) rfl rfl rfl (rs_bo hr hS24 hW hWa hk28.1 hk28.2.1 hk28.2.2 hls hl31 hR27 (t := 0) (by have z := hmk.2.1 u31; exact z) hEK hmk.1 (by show 0 + cw (rdL f) 0 (rdL f).length ≤ 40; have z := cw_le (rdL f) 0 (rdL f).length; omega) (by omega)) (fun r h113 q114 => ?_)
      obtain ⟨rfl, K115, hS115, hE115, hR115, hg115⟩ := q114
      have hE116 := sm_e_trans hE26 hE115
      have hf115 := rfr_trans hf27 hg115
      have hk117 : prk K115 0 ∧ ¬ K115 11 0 = -1 ∧ rwi K115 0 = rho := ⟨by unfold prk; rw [rfr_c hf115 (by decide)]; exact hp, by rw [rfr_c hf115 (by decide)]; exact hn, (rfr_w hf115).trans hrho⟩
      have hR118 : RS K115 rho (mr3 f) := by rw [mr3_y u31]; exact hR115
      refine go_s (pc' := 182) (lo' := [some (.ref 62), some (.int 0), some (.int (nI (424 * rho))), some (.int 0), some (.int (nI (rd f (f 80) 32 0))), some (.int 1)]) rfl rfl rfl rfl ?_
      refine go_s (pc' := 171) rfl rfl rfl rfl ?_
      refine go_s (pc' := 172) rfl rfl rfl rfl ?_
      refine go_s (pc' := 173) (st' := [.int 2, .int 1]) rfl rfl rfl rfl ?_
      refine go_icmpP (t' := 183) (pc' := 174) rfl rfl rfl (fun (c : 2 ≤ (1 : Int32)) => absurd c (by decide)) (fun _ => ?_)
      refine go_s (pc' := 175) rfl rfl rfl rfl ?_
      refine go_s (pc' := 176) rfl rfl rfl rfl ?_
      refine go_callV (pc' := 177) rfl rfl rfl (Nat.le_of_ble_eq_true rfl) rfl (sm_o hS115 rfl) rfl rfl rfl (rs_ho hr hS115 hk117.1 hk117.2.1 hk117.2.2 hls hl31 hR118 (t := 1) hmk.2.2.2.1 (EK_3 hEK) (by omega)) (fun r h119 q120 => ?_)
      obtain ⟨rfl, rfl⟩ := q120
      rw [show hop (mr3 f) 1 = hop (mr3 f) 1 from rfl]
      cases u121 : hop (mr3 f) 1
      · skip
        show am_Go _ _ _ _ 177 _ [.int 0] _ _
        refine go_ifP (t' := 181) (pc' := 178) rfl rfl rfl (fun _ => ?_) (fun (c : ¬ ((0 : Int32) = 0)) => absurd (by decide) c)
        have hR122 : RS K115 rho (mr4 f) := by rw [show mr4 f = mr3 f from if_neg (by rw [u121]; decide)]; exact hR118
        obtain ⟨m4, e4⟩ : ∃ y : ms, y = mr4 f := ⟨_, rfl⟩
        rw [← e4] at hR122
        refine go_s (pc' := 182) (lo' := [some (.ref 62), some (.int 0), some (.int (nI (424 * rho))), some (.int 0), some (.int (nI (rd f (f 80) 32 0))), some (.int 2)]) rfl rfl rfl rfl ?_
        refine go_s (pc' := 171) rfl rfl rfl rfl ?_
        refine go_s (pc' := 172) rfl rfl rfl rfl ?_
        refine go_s (pc' := 173) (st' := [.int 2, .int 2]) rfl rfl rfl rfl ?_
        refine go_icmpP (t' := 183) (pc' := 174) rfl rfl rfl (fun _ => ?_) (fun (c : ¬ (2 ≤ (2 : Int32))) => absurd (by decide) c)
        refine go_s (pc' := 184) rfl rfl rfl rfl ?_
        refine go_sget (pc' := 185) (v := .ref as_) hS115 rfl rfl rfl (by decide) rfl rfl ?_
        refine go_s (pc' := 186) rfl rfl rfl rfl ?_
        refine go_s (pc' := 187) (st' := [.int 1, .int (nI (424 * rho)), .ref as_]) rfl rfl rfl rfl ?_
        refine go_nadd (pc' := 188) (a := (424 * rho)) (b := 1) rfl rfl rfl rfl rfl ?_
        refine go_s (pc' := 189) rfl rfl rfl rfl ?_
        refine go_sald (pc' := 190) (q := ((424 * rho) + 1)) (v := .int (m4.1 1)) hS115 rfl (tr_as hr (by omega)) rfl rfl (by omega) (congrArg Value.int (hR122.1 1 (by decide) (by decide) (by decide))) rfl ?_
        refine go_s (pc' := 191) (st' := [.int 1, .int (m4.1 1), .int (nI ((424 * rho) + 1)), .ref as_]) rfl rfl rfl rfl ?_
        refine go_s (pc' := 192) rfl rfl rfl rfl ?_
        refine go_siast (pc' := 193) (q := ((424 * rho) + 1)) hS115 rfl (tr_as hr (by omega)) tbr_inj (Nat.le_of_ble_eq_true rfl) rfl (by omega) (rk_0 hr).2 hWa rfl (fun h123 hS124 hE125 => ?_)
        have hE126 := sm_e_trans hE116 hE125
        refine go_s (pc' := 194) rfl rfl rfl rfl ?_
        refine go_sget (pc' := 195) (v := .ref as_) hS124 rfl rfl rfl (by decide) rfl rfl ?_
        refine go_s (pc' := 196) rfl rfl rfl rfl ?_
        refine go_s (pc' := 197) (st' := [.int 2, .int (nI (424 * rho)), .ref as_]) rfl rfl rfl rfl ?_
        refine go_nadd (pc' := 198) (a := (424 * rho)) (b := 2) rfl rfl rfl rfl rfl ?_
        refine go_s (pc' := 199) (st' := [.int 0, .int (nI ((424 * rho) + 2)), .ref as_]) rfl rfl rfl rfl ?_
        refine go_siast (pc' := 200) (q := ((424 * rho) + 2)) hS124 rfl (tr_as hr (by omega)) tbr_inj (Nat.le_of_ble_eq_true rfl) rfl (by omega) (rk_0 hr).2 hWa rfl (fun h127 hS128 hE129 => ?_)
        have hE130 := sm_e_trans hE126 hE129
        have hR131 : RS (uI (uI K115 51 ((424 * rho) + 1) ((m4.1 1) + 1)) 51 ((424 * rho) + 2) 0) rho (uF m4.1 1 (m4.1 1 + 1), [], m4.2.2) := RS_e0 (RS_F (j := 1) hR122 (by decide) (by decide) (by decide))
        have hf131 : rfr (uI J 5 1 0) (uI (uI K115 51 ((424 * rho) + 1) ((m4.1 1) + 1)) 51 ((424 * rho) + 2) 0) rho := rfr_trans hf115 (rfr_trans (rfr_u (by omega) (by omega)) (rfr_u (by omega) (by omega)))
        change sm (tbr am lm as_ ls) _ (uI (uI K115 51 ((424 * rho) + 1) ((m4.1 1) + 1)) 51 ((424 * rho) + 2) 0) Y at hS128
        obtain ⟨K131, eK131⟩ : ∃ y, y = (uI (uI K115 51 ((424 * rho) + 1) ((m4.1 1) + 1)) 51 ((424 * rho) + 2) 0) := ⟨_, rfl⟩
        rw [← eK131] at hR131 hf131 hS128
        have hk132 : prk K131 0 ∧ ¬ K131 11 0 = -1 ∧ rwi K131 0 = rho := ⟨by unfold prk; rw [rfr_c hf131 (by decide)]; exact hp, by rw [rfr_c hf131 (by decide)]; exact hn, (rfr_w hf131).trans hrho⟩
        refine go_s (pc' := 201) rfl rfl rfl rfl ?_
        refine go_s (pc' := 202) (st' := [.int 16, .ref 62]) rfl rfl rfl rfl ?_
        refine go_s (pc' := 203) rfl rfl rfl rfl ?_
        refine go_sget (pc' := 204) (v := .ref as_) hS128 rfl rfl rfl (by decide) rfl rfl ?_
        refine go_s (pc' := 205) rfl rfl rfl rfl ?_
        refine go_s (pc' := 206) (st' := [.int 1, .int (nI (424 * rho)), .ref as_, .int 16, .ref 62]) rfl rfl rfl rfl ?_
        refine go_nadd (pc' := 207) (a := (424 * rho)) (b := 1) rfl rfl rfl rfl rfl ?_
        refine go_sald (pc' := 208) (q := ((424 * rho) + 1)) (v := .int (m4.1 1 + 1)) hS128 rfl (tr_as hr (by omega)) rfl rfl (by omega) (congrArg Value.int (hR131.1 1 (by decide) (by decide) (by decide))) rfl ?_
        refine go_s (pc' := 209) rfl rfl rfl rfl ?_
        refine go_sget (pc' := 210) (v := .ref as_) hS128 rfl rfl rfl (by decide) rfl rfl ?_
        refine go_s (pc' := 211) rfl rfl rfl rfl ?_
        refine go_s (pc' := 212) (st' := [.int 0, .int (nI (424 * rho)), .ref as_, .int (m4.1 1 + 1), .int 16, .ref 62]) rfl rfl rfl rfl ?_
        refine go_nadd (pc' := 213) (a := (424 * rho)) (b := 0) rfl rfl rfl rfl rfl ?_
        refine go_sald (pc' := 214) (q := ((424 * rho) + 0)) (v := .int (m4.1 0)) hS128 rfl (tr_as hr (by omega)) rfl rfl (by omega) (congrArg Value.int (hR131.1 0 (by decide) (by decide) (by decide))) rfl ?_
        refine go_s (pc' := 215) (st' := [.int 0, .int (m4.1 0), .int (m4.1 1 + 1), .int 16, .ref 62]) rfl rfl rfl rfl ?_
        refine go_s (pc' := 216) (st' := [.int 0, .int 0, .int (m4.1 0), .int (m4.1 1 + 1), .int 16, .ref 62]) rfl rfl rfl rfl ?_
        refine go_s (pc' := 217) (st' := [.int 0, .int 0, .int 0, .int (m4.1 0), .int (m4.1 1 + 1), .int 16, .ref 62]) rfl rfl rfl rfl ?_
        refine go_callV (pc' := 218) rfl rfl rfl (Nat.le_of_ble_eq_true rfl) rfl (sm_o hS128 rfl) rfl rfl rfl (rs_aw hr hS128 hW hWa hk132.1 hk132.2.1 hk132.2.2 hls hl31 hR131 (by show m4.2.2.length < 41; have z := hmk.2.2.2.2.2; rw [← e4] at z; omega) (by show 0 ≤ 32; decide) (by omega)) (fun r h133 q134 => ?_)
        obtain ⟨rfl, K135, hS135, hE135, hR135, hg135⟩ := q134
        have hE136 := sm_e_trans hE130 hE135
        have hf135 := rfr_trans hf131 hg135
        change RS K135 rho (mG m4) at hR135
        rw [show mG m4 = mrs f by unfold mrs; rw [e4]] at hR135
        have hk137 : prk K135 0 ∧ ¬ K135 11 0 = -1 ∧ rwi K135 0 = rho := ⟨by unfold prk; rw [rfr_c hf135 (by decide)]; exact hp, by rw [rfr_c hf135 (by decide)]; exact hn, (rfr_w hf135).trans hrho⟩
        refine go_s (pc' := 219) rfl rfl rfl rfl ?_
        refine go_sget (pc' := 220) (v := .ref as_) hS135 rfl rfl rfl (by decide) rfl rfl ?_
        refine go_s (pc' := 221) rfl rfl rfl rfl ?_
        refine go_s (pc' := 222) (st' := [.int 3, .int (nI (424 * rho)), .ref as_]) rfl rfl rfl rfl ?_
        refine go_nadd (pc' := 223) (a := (424 * rho)) (b := 3) rfl rfl rfl rfl rfl ?_
        refine go_s (pc' := 224) (st' := [.int 2, .int (nI ((424 * rho) + 3)), .ref as_]) rfl rfl rfl rfl ?_
        refine go_siast (pc' := 225) (q := ((424 * rho) + 3)) hS135 rfl (tr_as hr (by omega)) tbr_inj (Nat.le_of_ble_eq_true rfl) rfl (by omega) (rk_0 hr).2 hWa rfl (fun h138 hS139 hE140 => ?_)
        have hE141 := sm_e_trans hE136 hE140
        refine go_s (pc' := 226) rfl rfl rfl rfl ?_
        refine go_sget (pc' := 227) (v := .ref 88) hS139 rfl rfl rfl (by decide) rfl rfl ?_
        refine go_s (pc' := 228) (st' := [.int 0, .ref 88]) rfl rfl rfl rfl ?_
        refine go_s (pc' := 229) (st' := [.int 0, .int 0, .ref 88]) rfl rfl rfl rfl ?_
        refine go_siast (pc' := 230) (q := 0) hS139 rfl (tr_s hr (a := 88) rfl (by decide)) tbr_inj (Nat.le_of_ble_eq_true rfl) rfl (by decide) (by decide) (hW _ (by decide) (by decide)) rfl (fun h142 hS143 hE144 => ?_)
        have hE145 := sm_e_trans hE141 hE144
        refine go_s (pc' := 231) rfl rfl rfl rfl ?_
        refine go_sget (pc' := 232) (v := .ref 88) hS143 rfl rfl rfl (by decide) rfl rfl ?_
        refine go_s (pc' := 233) (st' := [.int 1, .ref 88]) rfl rfl rfl rfl ?_
        refine go_s (pc' := 234) (st' := [.int 0, .int 1, .ref 88]) rfl rfl rfl rfl ?_
        refine go_siast (pc' := 235) (q := 1) hS143 rfl (tr_s hr (a := 88) rfl (by decide)) tbr_inj (Nat.le_of_ble_eq_true rfl) rfl (by decide) (by decide) (hW _ (by decide) (by decide)) rfl (fun h146 hS147 hE148 => ?_)
        have hE149 := sm_e_trans hE145 hE148
        refine go_s (pc' := 236) rfl rfl rfl rfl ?_
        refine go_sget (pc' := 237) (v := .ref 83) hS147 rfl rfl rfl (by decide) rfl rfl ?_
        refine go_s (pc' := 238) (st' := [.int 0, .ref 83]) rfl rfl rfl rfl ?_
        refine go_s (pc' := 239) (st' := [.int 2, .int 0, .ref 83]) rfl rfl rfl rfl ?_
        refine go_siast (pc' := 240) (q := 0) hS147 rfl (tr_s hr (a := 83) rfl (by decide)) tbr_inj (Nat.le_of_ble_eq_true rfl) rfl (by decide) (by decide) (hW _ (by decide) (by decide)) rfl (fun h150 hS151 hE152 => ?_)
        have hE153 := sm_e_trans hE149 hE152
        refine go_s (pc' := 241) rfl rfl rfl rfl ?_
        refine go_s (pc' := 242) (st' := [.int 1, .ref 62]) rfl rfl rfl rfl ?_
        refine go_sput (pc' := 243) hS151 rfl rfl rfl (by decide) tbr_inj (Nat.le_of_ble_eq_true rfl) rfl (hW _ (by decide) (by decide)) rfl (fun h154 hS155 hE156 => ?_)
        have hE157 := sm_e_trans hE153 hE156
        refine go_ret rfl rfl ?_
        refine ⟨rfl, _, hS155, hE157, ?_, ?_⟩
        · rw [mrs2_e]
          refine RS_c (J := uI K135 51 (424 * rho + 3) 2) (fun j => rfl) (RS_F (j := 3) hR135 (by decide) (by decide) (by decide))
        · rw [hch]
          exact rfr_i (by decide) (rfr_i (by decide) (rfr_i (by decide) (rfr_i (by decide) (rfr_trans hf135 (rfr_u (by omega) (by omega))))))
      · skip
        show am_Go _ _ _ _ 177 _ [.int 1] _ _
        refine go_ifP (t' := 181) (pc' := 178) rfl rfl rfl (fun (c : (1 : Int32) = 0) => absurd c (by decide)) (fun _ => ?_)
        refine go_s (pc' := 179) rfl rfl rfl rfl ?_
        refine go_s (pc' := 180) rfl rfl rfl rfl ?_
        refine go_callV (pc' := 181) rfl rfl rfl (Nat.le_of_ble_eq_true rfl) rfl (sm_o hS115 rfl) rfl rfl rfl (rs_bo hr hS115 hW hWa hk117.1 hk117.2.1 hk117.2.2 hls hl31 hR118 (t := 1) (hmk.2.2.2.2.1 u121).1 (EK_3 hEK) hmk.2.2.1 (by have z := (hmk.2.2.2.2.1 u121).2; omega) (by omega)) (fun r h158 q159 => ?_)
        obtain ⟨rfl, K160, hS160, hE160, hR160, hg160⟩ := q159
        have hE161 := sm_e_trans hE116 hE160
        have hf160 := rfr_trans hf115 hg160
        have hk162 : prk K160 0 ∧ ¬ K160 11 0 = -1 ∧ rwi K160 0 = rho := ⟨by unfold prk; rw [rfr_c hf160 (by decide)]; exact hp, by rw [rfr_c hf160 (by decide)]; exact hn, (rfr_w hf160).trans hrho⟩
        have hR163 : RS K160 rho (mr4 f) := by rw [show mr4 f = mB (mr3 f) 1 from if_pos u121]; exact hR160
        obtain ⟨m4, e4⟩ : ∃ y : ms, y = mr4 f := ⟨_, rfl⟩
        rw [← e4] at hR163
        refine go_s (pc' := 182) (lo' := [some (.ref 62), some (.int 0), some (.int (nI (424 * rho))), some (.int 0), some (.int (nI (rd f (f 80) 32 0))), some (.int 2)]) rfl rfl rfl rfl ?_
        refine go_s (pc' := 171) rfl rfl rfl rfl ?_
        refine go_s (pc' := 172) rfl rfl rfl rfl ?_
        refine go_s (pc' := 173) (st' := [.int 2, .int 2]) rfl rfl rfl rfl ?_
        refine go_icmpP (t' := 183) (pc' := 174) rfl rfl rfl (fun _ => ?_) (fun (c : ¬ (2 ≤ (2 : Int32))) => absurd (by decide) c)
        refine go_s (pc' := 184) rfl rfl rfl rfl ?_
        refine go_sget (pc' := 185) (v := .ref as_) hS160 rfl rfl rfl (by decide) rfl rfl ?_
        refine go_s (pc' := 186) rfl rfl rfl rfl ?_
        refine go_s (pc' := 187) (st' := [.int 1, .int (nI (424 * rho)), .ref as_]) rfl rfl rfl rfl ?_
        refine go_nadd (pc' := 188) (a := (424 * rho)) (b := 1) rfl rfl rfl rfl rfl ?_
        refine go_s (pc' := 189) rfl rfl rfl rfl ?_
        refine go_sald (pc' := 190) (q := ((424 * rho) + 1)) (v := .int (m4.1 1)) hS160 rfl (tr_as hr (by omega)) rfl rfl (by omega) (congrArg Value.int (hR163.1 1 (by decide) (by decide) (by decide))) rfl ?_
        refine go_s (pc' := 191) (st' := [.int 1, .int (m4.1 1), .int (nI ((424 * rho) + 1)), .ref as_]) rfl rfl rfl rfl ?_
        refine go_s (pc' := 192) rfl rfl rfl rfl ?_
        refine go_siast (pc' := 193) (q := ((424 * rho) + 1)) hS160 rfl (tr_as hr (by omega)) tbr_inj (Nat.le_of_ble_eq_true rfl) rfl (by omega) (rk_0 hr).2 hWa rfl (fun h164 hS165 hE166 => ?_)
        have hE167 := sm_e_trans hE161 hE166
        refine go_s (pc' := 194) rfl rfl rfl rfl ?_
        refine go_sget (pc' := 195) (v := .ref as_) hS165 rfl rfl rfl (by decide) rfl rfl ?_
        refine go_s (pc' := 196) rfl rfl rfl rfl ?_
        refine go_s (pc' := 197) (st' := [.int 2, .int (nI (424 * rho)), .ref as_]) rfl rfl rfl rfl ?_
        refine go_nadd (pc' := 198) (a := (424 * rho)) (b := 2) rfl rfl rfl rfl rfl ?_
        refine go_s (pc' := 199) (st' := [.int 0, .int (nI ((424 * rho) + 2)), .ref as_]) rfl rfl rfl rfl ?_
        refine go_siast (pc' := 200) (q := ((424 * rho) + 2)) hS165 rfl (tr_as hr (by omega)) tbr_inj (Nat.le_of_ble_eq_true rfl) rfl (by omega) (rk_0 hr).2 hWa rfl (fun h168 hS169 hE170 => ?_)
        have hE171 := sm_e_trans hE167 hE170
        have hR172 : RS (uI (uI K160 51 ((424 * rho) + 1) ((m4.1 1) + 1)) 51 ((424 * rho) + 2) 0) rho (uF m4.1 1 (m4.1 1 + 1), [], m4.2.2) := RS_e0 (RS_F (j := 1) hR163 (by decide) (by decide) (by decide))
        have hf172 : rfr (uI J 5 1 0) (uI (uI K160 51 ((424 * rho) + 1) ((m4.1 1) + 1)) 51 ((424 * rho) + 2) 0) rho := rfr_trans hf160 (rfr_trans (rfr_u (by omega) (by omega)) (rfr_u (by omega) (by omega)))
        change sm (tbr am lm as_ ls) _ (uI (uI K160 51 ((424 * rho) + 1) ((m4.1 1) + 1)) 51 ((424 * rho) + 2) 0) Y at hS169
        obtain ⟨K172, eK172⟩ : ∃ y, y = (uI (uI K160 51 ((424 * rho) + 1) ((m4.1 1) + 1)) 51 ((424 * rho) + 2) 0) := ⟨_, rfl⟩
        rw [← eK172] at hR172 hf172 hS169
        have hk173 : prk K172 0 ∧ ¬ K172 11 0 = -1 ∧ rwi K172 0 = rho := ⟨by unfold prk; rw [rfr_c hf172 (by decide)]; exact hp, by rw [rfr_c hf172 (by decide)]; exact hn, (rfr_w hf172).trans hrho⟩
        refine go_s (pc' := 201) rfl rfl rfl rfl ?_
        refine go_s (pc' := 202) (st' := [.int 16, .ref 62]) rfl rfl rfl rfl ?_
        refine go_s (pc' := 203) rfl rfl rfl rfl ?_
        refine go_sget (pc' := 204) (v := .ref as_) hS169 rfl rfl rfl (by decide) rfl rfl ?_
        refine go_s (pc' := 205) rfl rfl rfl rfl ?_
        refine go_s (pc' := 206) (st' := [.int 1, .int (nI (424 * rho)), .ref as_, .int 16, .ref 62]) rfl rfl rfl rfl ?_
        refine go_nadd (pc' := 207) (a := (424 * rho)) (b := 1) rfl rfl rfl rfl rfl ?_
        refine go_sald (pc' := 208) (q := ((424 * rho) + 1)) (v := .int (m4.1 1 + 1)) hS169 rfl (tr_as hr (by omega)) rfl rfl (by omega) (congrArg Value.int (hR172.1 1 (by decide) (by decide) (by decide))) rfl ?_
        refine go_s (pc' := 209) rfl rfl rfl rfl ?_
        refine go_sget (pc' := 210) (v := .ref as_) hS169 rfl rfl rfl (by decide) rfl rfl ?_
        refine go_s (pc' := 211) rfl rfl rfl rfl ?_
        refine go_s (pc' := 212) (st' := [.int 0, .int (nI (424 * rho)), .ref as_, .int (m4.1 1 + 1), .int 16, .ref 62]) rfl rfl rfl rfl ?_
        refine go_nadd (pc' := 213) (a := (424 * rho)) (b := 0) rfl rfl rfl rfl rfl ?_
        refine go_sald (pc' := 214) (q := ((424 * rho) + 0)) (v := .int (m4.1 0)) hS169 rfl (tr_as hr (by omega)) rfl rfl (by omega) (congrArg Value.int (hR172.1 0 (by decide) (by decide) (by decide))) rfl ?_
        refine go_s (pc' := 215) (st' := [.int 0, .int (m4.1 0), .int (m4.1 1 + 1), .int 16, .ref 62]) rfl rfl rfl rfl ?_
        refine go_s (pc' := 216) (st' := [.int 0, .int 0, .int (m4.1 0), .int (m4.1 1 + 1), .int 16, .ref 62]) rfl rfl rfl rfl ?_
        refine go_s (pc' := 217) (st' := [.int 0, .int 0, .int 0, .int (m4.1 0), .int (m4.1 1 + 1), .int 16, .ref 62]) rfl rfl rfl rfl ?_
        refine go_callV (pc' := 218) rfl rfl rfl (Nat.le_of_ble_eq_true rfl) rfl (sm_o hS169 rfl) rfl rfl rfl (rs_aw hr hS169 hW hWa hk173.1 hk173.2.1 hk173.2.2 hls hl31 hR172 (by show m4.2.2.length < 41; have z := hmk.2.2.2.2.2; rw [← e4] at z; omega) (by show 0 ≤ 32; decide) (by omega)) (fun r h174 q175 => ?_)
        obtain ⟨rfl, K176, hS176, hE176, hR176, hg176⟩ := q175
        have hE177 := sm_e_trans hE171 hE176
        have hf176 := rfr_trans hf172 hg176
        change RS K176 rho (mG m4) at hR176
        rw [show mG m4 = mrs f by unfold mrs; rw [e4]] at hR176
        have hk178 : prk K176 0 ∧ ¬ K176 11 0 = -1 ∧ rwi K176 0 = rho := ⟨by unfold prk; rw [rfr_c hf176 (by decide)]; exact hp, by rw [rfr_c hf176 (by decide)]; exact hn, (rfr_w hf176).trans hrho⟩
        refine go_s (pc' := 219) rfl rfl rfl rfl ?_
        refine go_sget (pc' := 220) (v := .ref as_) hS176 rfl rfl rfl (by decide) rfl rfl ?_
        refine go_s (pc' := 221) rfl rfl rfl rfl ?_
        refine go_s (pc' := 222) (st' := [.int 3, .int (nI (424 * rho)), .ref as_]) rfl rfl rfl rfl ?_
        refine go_nadd (pc' := 223) (a := (424 * rho)) (b := 3) rfl rfl rfl rfl rfl ?_
        refine go_s (pc' := 224) (st' := [.int 2, .int (nI ((424 * rho) + 3)), .ref as_]) rfl rfl rfl rfl ?_
        refine go_siast (pc' := 225) (q := ((424 * rho) + 3)) hS176 rfl (tr_as hr (by omega)) tbr_inj (Nat.le_of_ble_eq_true rfl) rfl (by omega) (rk_0 hr).2 hWa rfl (fun h179 hS180 hE181 => ?_)
        have hE182 := sm_e_trans hE177 hE181
        refine go_s (pc' := 226) rfl rfl rfl rfl ?_
        refine go_sget (pc' := 227) (v := .ref 88) hS180 rfl rfl rfl (by decide) rfl rfl ?_
        refine go_s (pc' := 228) (st' := [.int 0, .ref 88]) rfl rfl rfl rfl ?_
        refine go_s (pc' := 229) (st' := [.int 0, .int 0, .ref 88]) rfl rfl rfl rfl ?_
        refine go_siast (pc' := 230) (q := 0) hS180 rfl (tr_s hr (a := 88) rfl (by decide)) tbr_inj (Nat.le_of_ble_eq_true rfl) rfl (by decide) (by decide) (hW _ (by decide) (by decide)) rfl (fun h183 hS184 hE185 => ?_)
        have hE186 := sm_e_trans hE182 hE185
        refine go_s (pc' := 231) rfl rfl rfl rfl ?_
        refine go_sget (pc' := 232) (v := .ref 88) hS184 rfl rfl rfl (by decide) rfl rfl ?_
        refine go_s (pc' := 233) (st' := [.int 1, .ref 88]) rfl rfl rfl rfl ?_
        refine go_s (pc' := 234) (st' := [.int 0, .int 1, .ref 88]) rfl rfl rfl rfl ?_
        refine go_siast (pc' := 235) (q := 1) hS184 rfl (tr_s hr (a := 88) rfl (by decide)) tbr_inj (Nat.le_of_ble_eq_true rfl) rfl (by decide) (by decide) (hW _ (by decide) (by decide)) rfl (fun h187 hS188 hE189 => ?_)
        have hE190 := sm_e_trans hE186 hE189
        refine go_s (pc' := 236) rfl rfl rfl rfl ?_
        refine go_sget (pc' := 237) (v := .ref 83) hS188 rfl rfl rfl (by decide) rfl rfl ?_
        refine go_s (pc' := 238) (st' := [.int 0, .ref 83]) rfl rfl rfl rfl ?_
        refine go_s (pc' := 239) (st' := [.int 2, .int 0, .ref 83]) rfl rfl rfl rfl ?_
        refine go_siast (pc' := 240) (q := 0) hS188 rfl (tr_s hr (a := 83) rfl (by decide)) tbr_inj (Nat.le_of_ble_eq_true rfl) rfl (by decide) (by decide) (hW _ (by decide) (by decide)) rfl (fun h191 hS192 hE193 => ?_)
        have hE194 := sm_e_trans hE190 hE193
        refine go_s (pc' := 241) rfl rfl rfl rfl ?_
        refine go_s (pc' := 242) (st' := [.int 1, .ref 62]) rfl rfl rfl rfl ?_
        refine go_sput (pc' := 243) hS192 rfl rfl rfl (by decide) tbr_inj (Nat.le_of_ble_eq_true rfl) rfl (hW _ (by decide) (by decide)) rfl (fun h195 hS196 hE197 => ?_)
        have hE198 := sm_e_trans hE194 hE197
        refine go_ret rfl rfl ?_
        refine ⟨rfl, _, hS196, hE198, ?_, ?_⟩
        · rw [mrs2_e]
          refine RS_c (J := uI K176 51 (424 * rho + 3) 2) (fun j => rfl) (RS_F (j := 3) hR176 (by decide) (by decide) (by decide))
        · rw [hch]
          exact rfr_i (by decide) (rfr_i (by decide) (rfr_i (by decide) (rfr_i (by decide) (rfr_trans hf176 (rfr_u (by omega) (by omega))))))
  · skip
    refine go_s (pc' := 16) rfl rfl rfl rfl ?_
    refine go_sget (pc' := 17) (v := .ref 69) hS rfl rfl rfl (by decide) rfl rfl ?_
    refine go_s (pc' := 18) (st' := [.int 1, .ref 69]) rfl rfl rfl rfl ?_
    refine go_s (pc' := 19) rfl rfl rfl rfl ?_
    refine go_s (pc' := 20) (st' := [.int 1, .ref 69]) rfl rfl rfl rfl ?_
    refine go_s (pc' := 21) (st' := [.int 0, .int 1, .ref 69]) rfl rfl rfl rfl ?_
    refine go_siast (pc' := 22) (q := 1) hS rfl (tr_s hr (a := 69) rfl (by decide)) tbr_inj (Nat.le_of_ble_eq_true rfl) rfl (by decide) (by decide) (hW _ (by decide) (by decide)) rfl (fun h199 hS200 hE201 => ?_)
    refine go_s (pc' := 23) rfl rfl rfl rfl ?_
    refine go_sget (pc' := 24) (v := .ref 68) hS200 rfl rfl rfl (by decide) rfl rfl ?_
    refine go_s (pc' := 25) (st' := [.int 1, .ref 68]) rfl rfl rfl rfl ?_
    refine go_s (pc' := 26) rfl rfl rfl rfl ?_
    refine go_s (pc' := 27) (st' := [.int 1, .ref 68]) rfl rfl rfl rfl ?_
    refine go_s (pc' := 28) (st' := [.int 0, .int 1, .ref 68]) rfl rfl rfl rfl ?_
    refine go_szast (pc' := 29) (q := 1) hS200 rfl (tr_s hr (a := 68) rfl (by decide)) tbr_inj (Nat.le_of_ble_eq_true rfl) rfl (by decide) (by decide) rfl (hW _ (by decide) (by decide)) rfl (fun h202 hS203 hE204 => ?_)
    have hE205 := sm_e_trans hE201 hE204
    refine go_s (pc' := 30) rfl rfl rfl rfl ?_
    refine go_sget (pc' := 31) (v := .ref as_) hS203 rfl rfl rfl (by decide) rfl rfl ?_
    refine go_s (pc' := 32) rfl rfl rfl rfl ?_
    refine go_s (pc' := 33) (st' := [.int 1, .int (nI (424 * rho)), .ref as_]) rfl rfl rfl rfl ?_
    refine go_nadd (pc' := 34) (a := (424 * rho)) (b := 1) rfl rfl rfl rfl rfl ?_
    refine go_s (pc' := 35) rfl rfl rfl rfl ?_
    refine go_sget (pc' := 36) (v := .ref 70) hS203 rfl rfl rfl (by decide) rfl rfl ?_
    refine go_s (pc' := 37) rfl rfl rfl rfl ?_
    refine go_s (pc' := 38) (st' := [.int 80, .int 0, .ref 70, .int (nI ((424 * rho) + 1)), .ref as_]) rfl rfl rfl rfl ?_
    refine go_s (pc' := 39) (st' := [.int 80, .ref 70, .int (nI ((424 * rho) + 1)), .ref as_]) rfl rfl rfl rfl ?_
    refine go_sald (pc' := 40) (q := 80) (v := .int (f 80)) hS203 rfl (tr_s hr (a := 70) rfl (by decide)) rfl rfl (by decide) (congrArg Value.int (hdk 80)) rfl ?_
    refine go_siast (pc' := 41) (q := ((424 * rho) + 1)) hS203 rfl (tr_as hr (by omega)) tbr_inj (Nat.le_of_ble_eq_true rfl) rfl (by omega) (rk_0 hr).2 hWa rfl (fun h206 hS207 hE208 => ?_)
    have hE209 := sm_e_trans hE205 hE208
    refine go_s (pc' := 42) rfl rfl rfl rfl ?_
    refine go_sget (pc' := 43) (v := .ref as_) hS207 rfl rfl rfl (by decide) rfl rfl ?_
    refine go_s (pc' := 44) rfl rfl rfl rfl ?_
    refine go_s (pc' := 45) (st' := [.int 0, .int (nI (424 * rho)), .ref as_]) rfl rfl rfl rfl ?_
    refine go_nadd (pc' := 46) (a := (424 * rho)) (b := 0) rfl rfl rfl rfl rfl ?_
    refine go_s (pc' := 47) rfl rfl rfl rfl ?_
    refine go_sget (pc' := 48) (v := .ref 70) hS207 rfl rfl rfl (by decide) rfl rfl ?_
    refine go_s (pc' := 49) rfl rfl rfl rfl ?_
    refine go_s (pc' := 50) (st' := [.int 80, .int 0, .ref 70, .int (nI ((424 * rho) + 0)), .ref as_]) rfl rfl rfl rfl ?_
    refine go_s (pc' := 51) (st' := [.int 80, .ref 70, .int (nI ((424 * rho) + 0)), .ref as_]) rfl rfl rfl rfl ?_
    refine go_s (pc' := 52) (st' := [.int 1, .int 80, .ref 70, .int (nI ((424 * rho) + 0)), .ref as_]) rfl rfl rfl rfl ?_
    refine go_s (pc' := 53) (st' := [.int 81, .ref 70, .int (nI ((424 * rho) + 0)), .ref as_]) rfl rfl rfl rfl ?_
    refine go_sald (pc' := 54) (q := 81) (v := .int (f 81)) hS207 rfl (tr_s hr (a := 70) rfl (by decide)) rfl rfl (by decide) (congrArg Value.int (hdk 81)) rfl ?_
    refine go_s (pc' := 55) (st' := [.int 1, .int (f 81), .int (nI ((424 * rho) + 0)), .ref as_]) rfl rfl rfl rfl ?_
    refine go_s (pc' := 56) rfl rfl rfl rfl ?_
    refine go_siast (pc' := 57) (q := ((424 * rho) + 0)) hS207 rfl (tr_as hr (by omega)) tbr_inj (Nat.le_of_ble_eq_true rfl) rfl (by omega) (rk_0 hr).2 hWa rfl (fun h210 hS211 hE212 => ?_)
    have hE213 := sm_e_trans hE209 hE212
    refine go_s (pc' := 58) (st' := [.int 0]) rfl rfl rfl rfl ?_
    refine go_s (pc' := 59) (lo' := [some (.ref 62), some (.int 0), some (.int (nI (424 * rho))), some (.int 0), some (.int 0), none]) rfl rfl rfl rfl ?_
    have hch : rchI 0 J = (uI (uI J 6 1 0) 5 1 0) := by
      unfold rchI
      rw [if_neg c3]
    obtain ⟨JA, eA⟩ : ∃ y, y = (uI (uI (uI (uI J 6 1 0) 5 1 0) 51 ((424 * rho) + 1) (f 80)) 51 ((424 * rho) + 0) ((f 81) + 1)) := ⟨_, rfl⟩
    change sm (tbr am lm as_ ls) _ (uI (uI (uI (uI J 6 1 0) 5 1 0) 51 ((424 * rho) + 1) (f 80)) 51 ((424 * rho) + 0) ((f 81) + 1)) Y at hS211
    have hfA : rfr (uI (uI J 6 1 0) 5 1 0) JA rho := by
      rw [eA]
      exact rfr_trans (rfr_u (by omega) (by omega)) (rfr_u (by omega) (by omega))
    have h7A : ∀ j, JA 7 (245 * 0 + j) = f j := fun j => (hfA 7 _ (by omega)).trans (hdk j)
    have hzA : ∀ j, j < 48 → JA 51 (424 * rho + j) = if j = 0 then f 81 + 1 else if j = 1 then f 80 else 0 := fun j hj => by
      rw [eA]
      by_cases e0 : j = 0
      · rw [if_pos e0]
        repeat (first | rw [uI_e (by omega)] | rw [uI_j (by omega)])
      · rw [if_neg e0]
        by_cases e1 : j = 1
        · rw [if_pos e1]
          repeat (first | rw [uI_e (by omega)] | rw [uI_j (by omega)])
        · rw [if_neg e1, uI_j (by omega), uI_j (by omega)]
          exact hz0 j hj
    rw [← eA] at hS211
    refine lp_rc_0 hr hW hWa hls hl31 (J := JA) 16 0 _ rfl (by rw [rc_0]; exact hS211) (fun h8 hS8 hE8 => ?_)
    have hE8b := sm_e_trans hE213 hE8
    refine go_s (pc' := 90) (st' := [.int 0]) rfl rfl rfl rfl ?_
    refine go_s (pc' := 91) (lo' := [some (.ref 62), some (.int 0), some (.int (nI (424 * rho))), some (.int 0), some (.int 0), none]) rfl rfl rfl rfl ?_
    refine lp_re_0 hr hW hWa hls hl31 (J := rcI JA rho 0 16) (f := f) (fun j => (rc_r (Nat.le_refl _) 7 _ (by omega)).trans (h7A j)) ?_ 32 0 _ none rfl (by rw [re_0]; exact hS8) (fun h9 v5 hS9 hE9 => ?_)
    · simp only [rcI]
      rw [if_neg (by omega), if_neg (by omega)]
      exact hzA 1 (by decide)
    have hE9b := sm_e_trans hE8b hE9
    refine go_s (pc' := 147) rfl rfl rfl rfl ?_
    refine go_sget (pc' := 148) (v := .ref as_) hS9 rfl rfl rfl (by decide) rfl rfl ?_
    refine go_s (pc' := 149) rfl rfl rfl rfl ?_
    refine go_s (pc' := 150) (st' := [.int 2, .int (nI (424 * rho)), .ref as_]) rfl rfl rfl rfl ?_
    refine go_nadd (pc' := 151) (a := (424 * rho)) (b := 2) rfl rfl rfl rfl rfl ?_
    refine go_s (pc' := 152) rfl rfl rfl rfl ?_
    refine go_siast (pc' := 153) (q := ((424 * rho) + 2)) hS9 rfl (tr_as hr (by omega)) tbr_inj (Nat.le_of_ble_eq_true rfl) rfl (by omega) (rk_0 hr).2 hWa rfl (fun h214 hS215 hE216 => ?_)
    have hE217 := sm_e_trans hE9b hE216
    refine go_s (pc' := 154) (st' := [.int 0]) rfl rfl rfl rfl ?_
    refine go_s (pc' := 155) (lo' := [some (.ref 62), some (.int 0), some (.int (nI (424 * rho))), some (.int 0), some (.int (nI (rd f (f 80) 32 0))), some (.int 0)]) rfl rfl rfl rfl ?_
    refine go_s (pc' := 156) rfl rfl rfl rfl ?_
    refine go_s (pc' := 157) (st' := [.int 2, .int 0]) rfl rfl rfl rfl ?_
    refine go_icmpP (t' := 169) (pc' := 158) rfl rfl rfl (fun (c : 2 ≤ (0 : Int32)) => absurd c (by decide)) (fun _ => ?_)
    refine go_s (pc' := 159) rfl rfl rfl rfl ?_
    refine go_sget (pc' := 160) (v := .ref as_) hS215 rfl rfl rfl (by decide) rfl rfl ?_
    refine go_s (pc' := 161) rfl rfl rfl rfl ?_
    refine go_s (pc' := 162) (st' := [.int 6, .int (nI (424 * rho)), .ref as_]) rfl rfl rfl rfl ?_
    refine go_nadd (pc' := 163) (a := (424 * rho)) (b := 6) rfl rfl rfl rfl rfl ?_
    refine go_s (pc' := 164) rfl rfl rfl rfl ?_
    refine go_nadd (pc' := 165) (a := ((424 * rho) + 6)) (b := 0) rfl rfl rfl rfl rfl ?_
    refine go_s (pc' := 166) (st' := [.int (-1), .int (nI (((424 * rho) + 6) + 0)), .ref as_]) rfl rfl rfl rfl ?_
    refine go_siast (pc' := 167) (q := (((424 * rho) + 6) + 0)) hS215 rfl (tr_as hr (by omega)) tbr_inj (Nat.le_of_ble_eq_true rfl) rfl (by omega) (rk_0 hr).2 hWa rfl (fun h218 hS219 hE220 => ?_)
    have hE221 := sm_e_trans hE217 hE220
    refine go_s (pc' := 168) (lo' := [some (.ref 62), some (.int 0), some (.int (nI (424 * rho))), some (.int 0), some (.int (nI (rd f (f 80) 32 0))), some (.int 1)]) rfl rfl rfl rfl ?_
    refine go_s (pc' := 155) rfl rfl rfl rfl ?_
    refine go_s (pc' := 156) rfl rfl rfl rfl ?_
    refine go_s (pc' := 157) (st' := [.int 2, .int 1]) rfl rfl rfl rfl ?_
    refine go_icmpP (t' := 169) (pc' := 158) rfl rfl rfl (fun (c : 2 ≤ (1 : Int32)) => absurd c (by decide)) (fun _ => ?_)
    refine go_s (pc' := 159) rfl rfl rfl rfl ?_
    refine go_sget (pc' := 160) (v := .ref as_) hS219 rfl rfl rfl (by decide) rfl rfl ?_
    refine go_s (pc' := 161) rfl rfl rfl rfl ?_
    refine go_s (pc' := 162) (st' := [.int 6, .int (nI (424 * rho)), .ref as_]) rfl rfl rfl rfl ?_
    refine go_nadd (pc' := 163) (a := (424 * rho)) (b := 6) rfl rfl rfl rfl rfl ?_
    refine go_s (pc' := 164) rfl rfl rfl rfl ?_
    refine go_nadd (pc' := 165) (a := ((424 * rho) + 6)) (b := 1) rfl rfl rfl rfl rfl ?_
    refine go_s (pc' := 166) (st' := [.int (-1), .int (nI (((424 * rho) + 6) + 1)), .ref as_]) rfl rfl rfl rfl ?_
    refine go_siast (pc' := 167) (q := (((424 * rho) + 6) + 1)) hS219 rfl (tr_as hr (by omega)) tbr_inj (Nat.le_of_ble_eq_true rfl) rfl (by omega) (rk_0 hr).2 hWa rfl (fun h222 hS223 hE224 => ?_)
    have hE225 := sm_e_trans hE221 hE224
    refine go_s (pc' := 168) (lo' := [some (.ref 62), some (.int 0), some (.int (nI (424 * rho))), some (.int 0), some (.int (nI (rd f (f 80) 32 0))), some (.int 2)]) rfl rfl rfl rfl ?_
    refine go_s (pc' := 155) rfl rfl rfl rfl ?_
    refine go_s (pc' := 156) rfl rfl rfl rfl ?_
    refine go_s (pc' := 157) (st' := [.int 2, .int 2]) rfl rfl rfl rfl ?_
    refine go_icmpP (t' := 169) (pc' := 158) rfl rfl rfl (fun _ => ?_) (fun (c : ¬ (2 ≤ (2 : Int32))) => absurd (by decide) c)
    refine go_s (pc' := 170) (st' := [.int 0]) rfl rfl rfl rfl ?_
    refine go_s (pc' := 171) (lo' := [some (.ref 62), some (.int 0), some (.int (nI (424 * rho))), some (.int 0), some (.int (nI (rd f (f 80) 32 0))), some (.int 0)]) rfl rfl rfl rfl ?_
    have hR226 : RS (uI (uI (uI (reI (rcI JA rho 0 16) rho 0 (rd f (f 80) 32 0)) 51 ((424 * rho) + 2) (nI (rd f (f 80) 32 0))) 51 (((424 * rho) + 6) + 0) (-1)) 51 (((424 * rho) + 6) + 1) (-1)) rho (uF (mr1 f).1 7 (-1), rdL f, []) := RS_rd h7A hzA ((hzA 5 (by decide)).trans rfl)
    have hf226 : rfr (uI (uI J 6 1 0) 5 1 0) (uI (uI (uI (reI (rcI JA rho 0 16) rho 0 (rd f (f 80) 32 0)) 51 ((424 * rho) + 2) (nI (rd f (f 80) 32 0))) 51 (((424 * rho) + 6) + 0) (-1)) 51 (((424 * rho) + 6) + 1) (-1)) rho := rfr_trans hfA (rfr_trans (rc_r (Nat.le_refl _)) (rfr_trans (re_r (by omega)) (rfr_trans (rfr_u (by omega) (by omega)) (rfr_trans (rfr_u (by omega) (by omega)) (rfr_u (by omega) (by omega))))))
    change sm (tbr am lm as_ ls) _ (uI (uI (uI (reI (rcI JA rho 0 16) rho 0 (rd f (f 80) 32 0)) 51 ((424 * rho) + 2) (nI (rd f (f 80) 32 0))) 51 (((424 * rho) + 6) + 0) (-1)) 51 (((424 * rho) + 6) + 1) (-1)) Y at hS223
    obtain ⟨K226, eK226⟩ : ∃ y, y = (uI (uI (uI (reI (rcI JA rho 0 16) rho 0 (rd f (f 80) 32 0)) 51 ((424 * rho) + 2) (nI (rd f (f 80) 32 0))) 51 (((424 * rho) + 6) + 0) (-1)) 51 (((424 * rho) + 6) + 1) (-1)) := ⟨_, rfl⟩
    rw [← eK226] at hR226 hf226 hS223
    have hk227 : prk K226 0 ∧ ¬ K226 11 0 = -1 ∧ rwi K226 0 = rho := ⟨by unfold prk; rw [rfr_c hf226 (by decide)]; exact hp, by rw [rfr_c hf226 (by decide)]; exact hn, (rfr_w hf226).trans hrho⟩
    refine go_s (pc' := 172) rfl rfl rfl rfl ?_
    refine go_s (pc' := 173) (st' := [.int 2, .int 0]) rfl rfl rfl rfl ?_
    refine go_icmpP (t' := 183) (pc' := 174) rfl rfl rfl (fun (c : 2 ≤ (0 : Int32)) => absurd c (by decide)) (fun _ => ?_)
    refine go_s (pc' := 175) rfl rfl rfl rfl ?_
    refine go_s (pc' := 176) rfl rfl rfl rfl ?_
    refine go_callV (pc' := 177) rfl rfl rfl (Nat.le_of_ble_eq_true rfl) rfl (sm_o hS223 rfl) rfl rfl rfl (rs_ho hr hS223 hk227.1 hk227.2.1 hk227.2.2 hls hl31 hR226 (t := 0) (by show (rdL f).length ≤ 32; omega) hEK (by omega)) (fun r h228 q229 => ?_)
    obtain ⟨rfl, rfl⟩ := q229
    rw [show hop (uF (mr1 f).1 7 (-1), rdL f, []) 0 = hop (mr1 f) 0 from rfl]
    cases u230 : hop (mr1 f) 0
    · skip
      show am_Go _ _ _ _ 177 _ [.int 0] _ _
      refine go_ifP (t' := 181) (pc' := 178) rfl rfl rfl (fun _ => ?_) (fun (c : ¬ ((0 : Int32) = 0)) => absurd (by decide) c)
      have hR231 : RS K226 rho (mr3 f) := by rw [mr3_n u230]; exact hR226
      refine go_s (pc' := 182) (lo' := [some (.ref 62), some (.int 0), some (.int (nI (424 * rho))), some (.int 0), some (.int (nI (rd f (f 80) 32 0))), some (.int 1)]) rfl rfl rfl rfl ?_
      refine go_s (pc' := 171) rfl rfl rfl rfl ?_
      refine go_s (pc' := 172) rfl rfl rfl rfl ?_
      refine go_s (pc' := 173) (st' := [.int 2, .int 1]) rfl rfl rfl rfl ?_
      refine go_icmpP (t' := 183) (pc' := 174) rfl rfl rfl (fun (c : 2 ≤ (1 : Int32)) => absurd c (by decide)) (fun _ => ?_)
      refine go_s (pc' := 175) rfl rfl rfl rfl ?_
      refine go_s (pc' := 176) rfl rfl rfl rfl ?_
      refine go_callV (pc' := 177) rfl rfl rfl (Nat.le_of_ble_eq_true rfl) rfl (sm_o hS223 rfl) rfl rfl rfl (rs_ho hr hS223 hk227.1 hk227.2.1 hk227.2.2 hls hl31 hR231 (t := 1) hmk.2.2.2.1 (EK_3 hEK) (by omega)) (fun r h232 q233 => ?_)
      obtain ⟨rfl, rfl⟩ := q233
      rw [show hop (mr3 f) 1 = hop (mr3 f) 1 from rfl]
      cases u234 : hop (mr3 f) 1
      · skip
        show am_Go _ _ _ _ 177 _ [.int 0] _ _
        refine go_ifP (t' := 181) (pc' := 178) rfl rfl rfl (fun _ => ?_) (fun (c : ¬ ((0 : Int32) = 0)) => absurd (by decide) c)
        have hR235 : RS K226 rho (mr4 f) := by rw [show mr4 f = mr3 f from if_neg (by rw [u234]; decide)]; exact hR231
        obtain ⟨m4, e4⟩ : ∃ y : ms, y = mr4 f := ⟨_, rfl⟩
        rw [← e4] at hR235
        refine go_s (pc' := 182) (lo' := [some (.ref 62), some (.int 0), some (.int (nI (424 * rho))), some (.int 0), some (.int (nI (rd f (f 80) 32 0))), some (.int 2)]) rfl rfl rfl rfl ?_
        refine go_s (pc' := 171) rfl rfl rfl rfl ?_
        refine go_s (pc' := 172) rfl rfl rfl rfl ?_
        refine go_s (pc' := 173) (st' := [.int 2, .int 2]) rfl rfl rfl rfl ?_
        refine go_icmpP (t' := 183) (pc' := 174) rfl rfl rfl (fun _ => ?_) (fun (c : ¬ (2 ≤ (2 : Int32))) => absurd (by decide) c)
        refine go_s (pc' := 184) rfl rfl rfl rfl ?_
        refine go_sget (pc' := 185) (v := .ref as_) hS223 rfl rfl rfl (by decide) rfl rfl ?_
        refine go_s (pc' := 186) rfl rfl rfl rfl ?_
        refine go_s (pc' := 187) (st' := [.int 1, .int (nI (424 * rho)), .ref as_]) rfl rfl rfl rfl ?_
        refine go_nadd (pc' := 188) (a := (424 * rho)) (b := 1) rfl rfl rfl rfl rfl ?_
        refine go_s (pc' := 189) rfl rfl rfl rfl ?_
        refine go_sald (pc' := 190) (q := ((424 * rho) + 1)) (v := .int (m4.1 1)) hS223 rfl (tr_as hr (by omega)) rfl rfl (by omega) (congrArg Value.int (hR235.1 1 (by decide) (by decide) (by decide))) rfl ?_
        refine go_s (pc' := 191) (st' := [.int 1, .int (m4.1 1), .int (nI ((424 * rho) + 1)), .ref as_]) rfl rfl rfl rfl ?_
        refine go_s (pc' := 192) rfl rfl rfl rfl ?_
        refine go_siast (pc' := 193) (q := ((424 * rho) + 1)) hS223 rfl (tr_as hr (by omega)) tbr_inj (Nat.le_of_ble_eq_true rfl) rfl (by omega) (rk_0 hr).2 hWa rfl (fun h236 hS237 hE238 => ?_)
        have hE239 := sm_e_trans hE225 hE238
        refine go_s (pc' := 194) rfl rfl rfl rfl ?_
        refine go_sget (pc' := 195) (v := .ref as_) hS237 rfl rfl rfl (by decide) rfl rfl ?_
        refine go_s (pc' := 196) rfl rfl rfl rfl ?_
        refine go_s (pc' := 197) (st' := [.int 2, .int (nI (424 * rho)), .ref as_]) rfl rfl rfl rfl ?_
        refine go_nadd (pc' := 198) (a := (424 * rho)) (b := 2) rfl rfl rfl rfl rfl ?_
        refine go_s (pc' := 199) (st' := [.int 0, .int (nI ((424 * rho) + 2)), .ref as_]) rfl rfl rfl rfl ?_
        refine go_siast (pc' := 200) (q := ((424 * rho) + 2)) hS237 rfl (tr_as hr (by omega)) tbr_inj (Nat.le_of_ble_eq_true rfl) rfl (by omega) (rk_0 hr).2 hWa rfl (fun h240 hS241 hE242 => ?_)
        have hE243 := sm_e_trans hE239 hE242
        have hR244 : RS (uI (uI K226 51 ((424 * rho) + 1) ((m4.1 1) + 1)) 51 ((424 * rho) + 2) 0) rho (uF m4.1 1 (m4.1 1 + 1), [], m4.2.2) := RS_e0 (RS_F (j := 1) hR235 (by decide) (by decide) (by decide))
        have hf244 : rfr (uI (uI J 6 1 0) 5 1 0) (uI (uI K226 51 ((424 * rho) + 1) ((m4.1 1) + 1)) 51 ((424 * rho) + 2) 0) rho := rfr_trans hf226 (rfr_trans (rfr_u (by omega) (by omega)) (rfr_u (by omega) (by omega)))
        change sm (tbr am lm as_ ls) _ (uI (uI K226 51 ((424 * rho) + 1) ((m4.1 1) + 1)) 51 ((424 * rho) + 2) 0) Y at hS241
        obtain ⟨K244, eK244⟩ : ∃ y, y = (uI (uI K226 51 ((424 * rho) + 1) ((m4.1 1) + 1)) 51 ((424 * rho) + 2) 0) := ⟨_, rfl⟩
        rw [← eK244] at hR244 hf244 hS241
        have hk245 : prk K244 0 ∧ ¬ K244 11 0 = -1 ∧ rwi K244 0 = rho := ⟨by unfold prk; rw [rfr_c hf244 (by decide)]; exact hp, by rw [rfr_c hf244 (by decide)]; exact hn, (rfr_w hf244).trans hrho⟩
        refine go_s (pc' := 201) rfl rfl rfl rfl ?_
        refine go_s (pc' := 202) (st' := [.int 16, .ref 62]) rfl rfl rfl rfl ?_
        refine go_s (pc' := 203) rfl rfl rfl rfl ?_
        refine go_sget (pc' := 204) (v := .ref as_) hS241 rfl rfl rfl (by decide) rfl rfl ?_
        refine go_s (pc' := 205) rfl rfl rfl rfl ?_
        refine go_s (pc' := 206) (st' := [.int 1, .int (nI (424 * rho)), .ref as_, .int 16, .ref 62]) rfl rfl rfl rfl ?_
        refine go_nadd (pc' := 207) (a := (424 * rho)) (b := 1) rfl rfl rfl rfl rfl ?_
        refine go_sald (pc' := 208) (q := ((424 * rho) + 1)) (v := .int (m4.1 1 + 1)) hS241 rfl (tr_as hr (by omega)) rfl rfl (by omega) (congrArg Value.int (hR244.1 1 (by decide) (by decide) (by decide))) rfl ?_
        refine go_s (pc' := 209) rfl rfl rfl rfl ?_
        refine go_sget (pc' := 210) (v := .ref as_) hS241 rfl rfl rfl (by decide) rfl rfl ?_
        refine go_s (pc' := 211) rfl rfl rfl rfl ?_
        refine go_s (pc' := 212) (st' := [.int 0, .int (nI (424 * rho)), .ref as_, .int (m4.1 1 + 1), .int 16, .ref 62]) rfl rfl rfl rfl ?_
        refine go_nadd (pc' := 213) (a := (424 * rho)) (b := 0) rfl rfl rfl rfl rfl ?_
        refine go_sald (pc' := 214) (q := ((424 * rho) + 0)) (v := .int (m4.1 0)) hS241 rfl (tr_as hr (by omega)) rfl rfl (by omega) (congrArg Value.int (hR244.1 0 (by decide) (by decide) (by decide))) rfl ?_
        refine go_s (pc' := 215) (st' := [.int 0, .int (m4.1 0), .int (m4.1 1 + 1), .int 16, .ref 62]) rfl rfl rfl rfl ?_
        refine go_s (pc' := 216) (st' := [.int 0, .int 0, .int (m4.1 0), .int (m4.1 1 + 1), .int 16, .ref 62]) rfl rfl rfl rfl ?_
        refine go_s (pc' := 217) (st' := [.int 0, .int 0, .int 0, .int (m4.1 0), .int (m4.1 1 + 1), .int 16, .ref 62]) rfl rfl rfl rfl ?_
        refine go_callV (pc' := 218) rfl rfl rfl (Nat.le_of_ble_eq_true rfl) rfl (sm_o hS241 rfl) rfl rfl rfl (rs_aw hr hS241 hW hWa hk245.1 hk245.2.1 hk245.2.2 hls hl31 hR244 (by show m4.2.2.length < 41; have z := hmk.2.2.2.2.2; rw [← e4] at z; omega) (by show 0 ≤ 32; decide) (by omega)) (fun r h246 q247 => ?_)
        obtain ⟨rfl, K248, hS248, hE248, hR248, hg248⟩ := q247
        have hE249 := sm_e_trans hE243 hE248
        have hf248 := rfr_trans hf244 hg248
        change RS K248 rho (mG m4) at hR248
        rw [show mG m4 = mrs f by unfold mrs; rw [e4]] at hR248
        have hk250 : prk K248 0 ∧ ¬ K248 11 0 = -1 ∧ rwi K248 0 = rho := ⟨by unfold prk; rw [rfr_c hf248 (by decide)]; exact hp, by rw [rfr_c hf248 (by decide)]; exact hn, (rfr_w hf248).trans hrho⟩
        refine go_s (pc' := 219) rfl rfl rfl rfl ?_
        refine go_sget (pc' := 220) (v := .ref as_) hS248 rfl rfl rfl (by decide) rfl rfl ?_
        refine go_s (pc' := 221) rfl rfl rfl rfl ?_
        refine go_s (pc' := 222) (st' := [.int 3, .int (nI (424 * rho)), .ref as_]) rfl rfl rfl rfl ?_
        refine go_nadd (pc' := 223) (a := (424 * rho)) (b := 3) rfl rfl rfl rfl rfl ?_
        refine go_s (pc' := 224) (st' := [.int 2, .int (nI ((424 * rho) + 3)), .ref as_]) rfl rfl rfl rfl ?_
        refine go_siast (pc' := 225) (q := ((424 * rho) + 3)) hS248 rfl (tr_as hr (by omega)) tbr_inj (Nat.le_of_ble_eq_true rfl) rfl (by omega) (rk_0 hr).2 hWa rfl (fun h251 hS252 hE253 => ?_)
        have hE254 := sm_e_trans hE249 hE253
        refine go_s (pc' := 226) rfl rfl rfl rfl ?_
        refine go_sget (pc' := 227) (v := .ref 88) hS252 rfl rfl rfl (by decide) rfl rfl ?_
        refine go_s (pc' := 228) (st' := [.int 0, .ref 88]) rfl rfl rfl rfl ?_
        refine go_s (pc' := 229) (st' := [.int 0, .int 0, .ref 88]) rfl rfl rfl rfl ?_
        refine go_siast (pc' := 230) (q := 0) hS252 rfl (tr_s hr (a := 88) rfl (by decide)) tbr_inj (Nat.le_of_ble_eq_true rfl) rfl (by decide) (by decide) (hW _ (by decide) (by decide)) rfl (fun h255 hS256 hE257 => ?_)
        have hE258 := sm_e_trans hE254 hE257
        refine go_s (pc' := 231) rfl rfl rfl rfl ?_
        refine go_sget (pc' := 232) (v := .ref 88) hS256 rfl rfl rfl (by decide) rfl rfl ?_
        refine go_s (pc' := 233) (st' := [.int 1, .ref 88]) rfl rfl rfl rfl ?_
        refine go_s (pc' := 234) (st' := [.int 0, .int 1, .ref 88]) rfl rfl rfl rfl ?_
        refine go_siast (pc' := 235) (q := 1) hS256 rfl (tr_s hr (a := 88) rfl (by decide)) tbr_inj (Nat.le_of_ble_eq_true rfl) rfl (by decide) (by decide) (hW _ (by decide) (by decide)) rfl (fun h259 hS260 hE261 => ?_)
        have hE262 := sm_e_trans hE258 hE261
        refine go_s (pc' := 236) rfl rfl rfl rfl ?_
        refine go_sget (pc' := 237) (v := .ref 83) hS260 rfl rfl rfl (by decide) rfl rfl ?_
        refine go_s (pc' := 238) (st' := [.int 0, .ref 83]) rfl rfl rfl rfl ?_
        refine go_s (pc' := 239) (st' := [.int 2, .int 0, .ref 83]) rfl rfl rfl rfl ?_
        refine go_siast (pc' := 240) (q := 0) hS260 rfl (tr_s hr (a := 83) rfl (by decide)) tbr_inj (Nat.le_of_ble_eq_true rfl) rfl (by decide) (by decide) (hW _ (by decide) (by decide)) rfl (fun h263 hS264 hE265 => ?_)
        have hE266 := sm_e_trans hE262 hE265
        refine go_s (pc' := 241) rfl rfl rfl rfl ?_
        refine go_s (pc' := 242) (st' := [.int 1, .ref 62]) rfl rfl rfl rfl ?_
        refine go_sput (pc' := 243) hS264 rfl rfl rfl (by decide) tbr_inj (Nat.le_of_ble_eq_true rfl) rfl (hW _ (by decide) (by decide)) rfl (fun h267 hS268 hE269 => ?_)
        have hE270 := sm_e_trans hE266 hE269
        refine go_ret rfl rfl ?_
        refine ⟨rfl, _, hS268, hE270, ?_, ?_⟩
        · rw [mrs2_e]
          refine RS_c (J := uI K248 51 (424 * rho + 3) 2) (fun j => rfl) (RS_F (j := 3) hR248 (by decide) (by decide) (by decide))
        · rw [hch]
          exact rfr_i (by decide) (rfr_i (by decide) (rfr_i (by decide) (rfr_i (by decide) (rfr_trans hf248 (rfr_u (by omega) (by omega))))))
      · skip
        show am_Go _ _ _ _ 177 _ [.int 1] _ _
        refine go_ifP (t' := 181) (pc' := 178) rfl rfl rfl (fun (c : (1 : Int32) = 0) => absurd c (by decide)) (fun _ => ?_)
        refine go_s (pc' := 179) rfl rfl rfl rfl ?_
        refine go_s (pc' := 180) rfl rfl rfl rfl ?_
        refine go_callV (pc' := 181) rfl rfl rfl (Nat.le_of_ble_eq_true rfl) rfl (sm_o hS223 rfl) rfl rfl rfl (rs_bo hr hS223 hW hWa hk227.1 hk227.2.1 hk227.2.2 hls hl31 hR231 (t := 1) (hmk.2.2.2.2.1 u234).1 (EK_3 hEK) hmk.2.2.1 (by have z := (hmk.2.2.2.2.1 u234).2; omega) (by omega)) (fun r h271 q272 => ?_)
        obtain ⟨rfl, K273, hS273, hE273, hR273, hg273⟩ := q272
        have hE274 := sm_e_trans hE225 hE273
        have hf273 := rfr_trans hf226 hg273
        have hk275 : prk K273 0 ∧ ¬ K273 11 0 = -1 ∧ rwi K273 0 = rho := ⟨by unfold prk; rw [rfr_c hf273 (by decide)]; exact hp, by rw [rfr_c hf273 (by decide)]; exact hn, (rfr_w hf273).trans hrho⟩
        have hR276 : RS K273 rho (mr4 f) := by rw [show mr4 f = mB (mr3 f) 1 from if_pos u234]; exact hR273
        obtain ⟨m4, e4⟩ : ∃ y : ms, y = mr4 f := ⟨_, rfl⟩
        rw [← e4] at hR276
        refine go_s (pc' := 182) (lo' := [some (.ref 62), some (.int 0), some (.int (nI (424 * rho))), some (.int 0), some (.int (nI (rd f (f 80) 32 0))), some (.int 2)]) rfl rfl rfl rfl ?_
        refine go_s (pc' := 171) rfl rfl rfl rfl ?_
        refine go_s (pc' := 172) rfl rfl rfl rfl ?_
        refine go_s (pc' := 173) (st' := [.int 2, .int 2]) rfl rfl rfl rfl ?_
        refine go_icmpP (t' := 183) (pc' := 174) rfl rfl rfl (fun _ => ?_) (fun (c : ¬ (2 ≤ (2 : Int32))) => absurd (by decide) c)
        refine go_s (pc' := 184) rfl rfl rfl rfl ?_
        refine go_sget (pc' := 185) (v := .ref as_) hS273 rfl rfl rfl (by decide) rfl rfl ?_
        refine go_s (pc' := 186) rfl rfl rfl rfl ?_
        refine go_s (pc' := 187) (st' := [.int 1, .int (nI (424 * rho)), .ref as_]) rfl rfl rfl rfl ?_
        refine go_nadd (pc' := 188) (a := (424 * rho)) (b := 1) rfl rfl rfl rfl rfl ?_
        refine go_s (pc' := 189) rfl rfl rfl rfl ?_
        refine go_sald (pc' := 190) (q := ((424 * rho) + 1)) (v := .int (m4.1 1)) hS273 rfl (tr_as hr (by omega)) rfl rfl (by omega) (congrArg Value.int (hR276.1 1 (by decide) (by decide) (by decide))) rfl ?_
        refine go_s (pc' := 191) (st' := [.int 1, .int (m4.1 1), .int (nI ((424 * rho) + 1)), .ref as_]) rfl rfl rfl rfl ?_
        refine go_s (pc' := 192) rfl rfl rfl rfl ?_
        refine go_siast (pc' := 193) (q := ((424 * rho) + 1)) hS273 rfl (tr_as hr (by omega)) tbr_inj (Nat.le_of_ble_eq_true rfl) rfl (by omega) (rk_0 hr).2 hWa rfl (fun h277 hS278 hE279 => ?_)
        have hE280 := sm_e_trans hE274 hE279
        refine go_s (pc' := 194) rfl rfl rfl rfl ?_
        refine go_sget (pc' := 195) (v := .ref as_) hS278 rfl rfl rfl (by decide) rfl rfl ?_
        refine go_s (pc' := 196) rfl rfl rfl rfl ?_
        refine go_s (pc' := 197) (st' := [.int 2, .int (nI (424 * rho)), .ref as_]) rfl rfl rfl rfl ?_
        refine go_nadd (pc' := 198) (a := (424 * rho)) (b := 2) rfl rfl rfl rfl rfl ?_
        refine go_s (pc' := 199) (st' := [.int 0, .int (nI ((424 * rho) + 2)), .ref as_]) rfl rfl rfl rfl ?_
        refine go_siast (pc' := 200) (q := ((424 * rho) + 2)) hS278 rfl (tr_as hr (by omega)) tbr_inj (Nat.le_of_ble_eq_true rfl) rfl (by omega) (rk_0 hr).2 hWa rfl (fun h281 hS282 hE283 => ?_)
        have hE284 := sm_e_trans hE280 hE283
        have hR285 : RS (uI (uI K273 51 ((424 * rho) + 1) ((m4.1 1) + 1)) 51 ((424 * rho) + 2) 0) rho (uF m4.1 1 (m4.1 1 + 1), [], m4.2.2) := RS_e0 (RS_F (j := 1) hR276 (by decide) (by decide) (by decide))
        have hf285 : rfr (uI (uI J 6 1 0) 5 1 0) (uI (uI K273 51 ((424 * rho) + 1) ((m4.1 1) + 1)) 51 ((424 * rho) + 2) 0) rho := rfr_trans hf273 (rfr_trans (rfr_u (by omega) (by omega)) (rfr_u (by omega) (by omega)))
        change sm (tbr am lm as_ ls) _ (uI (uI K273 51 ((424 * rho) + 1) ((m4.1 1) + 1)) 51 ((424 * rho) + 2) 0) Y at hS282
        obtain ⟨K285, eK285⟩ : ∃ y, y = (uI (uI K273 51 ((424 * rho) + 1) ((m4.1 1) + 1)) 51 ((424 * rho) + 2) 0) := ⟨_, rfl⟩
        rw [← eK285] at hR285 hf285 hS282
        have hk286 : prk K285 0 ∧ ¬ K285 11 0 = -1 ∧ rwi K285 0 = rho := ⟨by unfold prk; rw [rfr_c hf285 (by decide)]; exact hp, by rw [rfr_c hf285 (by decide)]; exact hn, (rfr_w hf285).trans hrho⟩
        refine go_s (pc' := 201) rfl rfl rfl rfl ?_
        refine go_s (pc' := 202) (st' := [.int 16, .ref 62]) rfl rfl rfl rfl ?_
        refine go_s (pc' := 203) rfl rfl rfl rfl ?_
        refine go_sget (pc' := 204) (v := .ref as_) hS282 rfl rfl rfl (by decide) rfl rfl ?_
        refine go_s (pc' := 205) rfl rfl rfl rfl ?_
        refine go_s (pc' := 206) (st' := [.int 1, .int (nI (424 * rho)), .ref as_, .int 16, .ref 62]) rfl rfl rfl rfl ?_
        refine go_nadd (pc' := 207) (a := (424 * rho)) (b := 1) rfl rfl rfl rfl rfl ?_
        refine go_sald (pc' := 208) (q := ((424 * rho) + 1)) (v := .int (m4.1 1 + 1)) hS282 rfl (tr_as hr (by omega)) rfl rfl (by omega) (congrArg Value.int (hR285.1 1 (by decide) (by decide) (by decide))) rfl ?_
        refine go_s (pc' := 209) rfl rfl rfl rfl ?_
        refine go_sget (pc' := 210) (v := .ref as_) hS282 rfl rfl rfl (by decide) rfl rfl ?_
        refine go_s (pc' := 211) rfl rfl rfl rfl ?_
        refine go_s (pc' := 212) (st' := [.int 0, .int (nI (424 * rho)), .ref as_, .int (m4.1 1 + 1), .int 16, .ref 62]) rfl rfl rfl rfl ?_
        refine go_nadd (pc' := 213) (a := (424 * rho)) (b := 0) rfl rfl rfl rfl rfl ?_
        refine go_sald (pc' := 214) (q := ((424 * rho) + 0)) (v := .int (m4.1 0)) hS282 rfl (tr_as hr (by omega)) rfl rfl (by omega) (congrArg Value.int (hR285.1 0 (by decide) (by decide) (by decide))) rfl ?_
        refine go_s (pc' := 215) (st' := [.int 0, .int (m4.1 0), .int (m4.1 1 + 1), .int 16, .ref 62]) rfl rfl rfl rfl ?_
        refine go_s (pc' := 216) (st' := [.int 0, .int 0, .int (m4.1 0), .int (m4.1 1 + 1), .int 16, .ref 62]) rfl rfl rfl rfl ?_
        refine go_s (pc' := 217) (st' := [.int 0, .int 0, .int 0, .int (m4.1 0), .int (m4.1 1 + 1), .int 16, .ref 62]) rfl rfl rfl rfl ?_
        refine go_callV (pc' := 218) rfl rfl rfl (Nat.le_of_ble_eq_true rfl) rfl (sm_o hS282 rfl) rfl rfl rfl (rs_aw hr hS282 hW hWa hk286.1 hk286.2.1 hk286.2.2 hls hl31 hR285 (by show m4.2.2.length < 41; have z := hmk.2.2.2.2.2; rw [← e4] at z; omega) (by show 0 ≤ 32; decide) (by omega)) (fun r h287 q288 => ?_)
        obtain ⟨rfl, K289, hS289, hE289, hR289, hg289⟩ := q288
        have hE290 := sm_e_trans hE284 hE289
        have hf289 := rfr_trans hf285 hg289
        change RS K289 rho (mG m4) at hR289
        rw [show mG m4 = mrs f by unfold mrs; rw [e4]] at hR289
        have hk291 : prk K289 0 ∧ ¬ K289 11 0 = -1 ∧ rwi K289 0 = rho := ⟨by unfold prk; rw [rfr_c hf289 (by decide)]; exact hp, by rw [rfr_c hf289 (by decide)]; exact hn, (rfr_w hf289).trans hrho⟩
        refine go_s (pc' := 219) rfl rfl rfl rfl ?_
        refine go_sget (pc' := 220) (v := .ref as_) hS289 rfl rfl rfl (by decide) rfl rfl ?_
        refine go_s (pc' := 221) rfl rfl rfl rfl ?_
        refine go_s (pc' := 222) (st' := [.int 3, .int (nI (424 * rho)), .ref as_]) rfl rfl rfl rfl ?_
        refine go_nadd (pc' := 223) (a := (424 * rho)) (b := 3) rfl rfl rfl rfl rfl ?_
        refine go_s (pc' := 224) (st' := [.int 2, .int (nI ((424 * rho) + 3)), .ref as_]) rfl rfl rfl rfl ?_
        refine go_siast (pc' := 225) (q := ((424 * rho) + 3)) hS289 rfl (tr_as hr (by omega)) tbr_inj (Nat.le_of_ble_eq_true rfl) rfl (by omega) (rk_0 hr).2 hWa rfl (fun h292 hS293 hE294 => ?_)
        have hE295 := sm_e_trans hE290 hE294
        refine go_s (pc' := 226) rfl rfl rfl rfl ?_
        refine go_sget (pc' := 227) (v := .ref 88) hS293 rfl rfl rfl (by decide) rfl rfl ?_
        refine go_s (pc' := 228) (st' := [.int 0, .ref 88]) rfl rfl rfl rfl ?_
        refine go_s (pc' := 229) (st' := [.int 0, .int 0, .ref 88]) rfl rfl rfl rfl ?_
        refine go_siast (pc' := 230) (q := 0) hS293 rfl (tr_s hr (a := 88) rfl (by decide)) tbr_inj (Nat.le_of_ble_eq_true rfl) rfl (by decide) (by decide) (hW _ (by decide) (by decide)) rfl (fun h296 hS297 hE298 => ?_)
        have hE299 := sm_e_trans hE295 hE298
        refine go_s (pc' := 231) rfl rfl rfl rfl ?_
        refine go_sget (pc' := 232) (v := .ref 88) hS297 rfl rfl rfl (by decide) rfl rfl ?_
        refine go_s (pc' := 233) (st' := [.int 1, .ref 88]) rfl rfl rfl rfl ?_
        refine go_s (pc' := 234) (st' := [.int 0, .int 1, .ref 88]) rfl rfl rfl rfl ?_
        refine go_siast (pc' := 235) (q := 1) hS297 rfl (tr_s hr (a := 88) rfl (by decide)) tbr_inj (Nat.le_of_ble_eq_true rfl) rfl (by decide) (by decide) (hW _ (by decide) (by decide)) rfl (fun h300 hS301 hE302 => ?_)
        have hE303 := sm_e_trans hE299 hE302
        refine go_s (pc' := 236) rfl rfl rfl rfl ?_
        refine go_sget (pc' := 237) (v := .ref 83) hS301 rfl rfl rfl (by decide) rfl rfl ?_
        refine go_s (pc' := 238) (st' := [.int 0, .ref 83]) rfl rfl rfl rfl ?_
        refine go_s (pc' := 239) (st' := [.int 2, .int 0, .ref 83]) rfl rfl rfl rfl ?_
        refine go_siast (pc' := 240) (q := 0) hS301 rfl (tr_s hr (a := 83) rfl (by decide)) tbr_inj (Nat.le_of_ble_eq_true rfl) rfl (by decide) (by decide) (hW _ (by decide) (by decide)) rfl (fun h304 hS305 hE306 => ?_)
        have hE307 := sm_e_trans hE303 hE306
        refine go_s (pc' := 241) rfl rfl rfl rfl ?_
        refine go_s (pc' := 242) (st' := [.int 1, .ref 62]) rfl rfl rfl rfl ?_
        refine go_sput (pc' := 243) hS305 rfl rfl rfl (by decide) tbr_inj (Nat.le_of_ble_eq_true rfl) rfl (hW _ (by decide) (by decide)) rfl (fun h308 hS309 hE310 => ?_)
        have hE311 := sm_e_trans hE307 hE310
        refine go_ret rfl rfl ?_
        refine ⟨rfl, _, hS309, hE311, ?_, ?_⟩
        · rw [mrs2_e]
          refine RS_c (J := uI K289 51 (424 * rho + 3) 2) (fun j => rfl) (RS_F (j := 3) hR289 (by decide) (by decide) (by decide))
        · rw [hch]
          exact rfr_i (by decide) (rfr_i (by decide) (rfr_i (by decide) (rfr_i (by decide) (rfr_trans hf289 (rfr_u (by omega) (by omega))))))
    · skip
      show am_Go _ _ _ _ 177 _ [.int 1] _ _
      refine go_ifP (t' := 181) (pc' := 178) rfl rfl rfl (fun (c : (1 : Int32) = 0) => absurd c (by decide)) (fun _ => ?_)
      refine go_s (pc' := 179) rfl rfl rfl rfl ?_
      refine go_s (pc' := 180) rfl rfl rfl rfl ?_
      refine go_callV (pc' := 181) rfl rfl rfl (Nat.le_of_ble_eq_true rfl) rfl (sm_o hS223 rfl) rfl rfl rfl (rs_bo hr hS223 hW hWa hk227.1 hk227.2.1 hk227.2.2 hls hl31 hR226 (t := 0) (by have z := hmk.2.1 u230; exact z) hEK hmk.1 (by show 0 + cw (rdL f) 0 (rdL f).length ≤ 40; have z := cw_le (rdL f) 0 (rdL f).length; omega) (by omega)) (fun r h312 q313 => ?_)
      obtain ⟨rfl, K314, hS314, hE314, hR314, hg314⟩ := q313
      have hE315 := sm_e_trans hE225 hE314
      have hf314 := rfr_trans hf226 hg314
      have hk316 : prk K314 0 ∧ ¬ K314 11 0 = -1 ∧ rwi K314 0 = rho := ⟨by unfold prk; rw [rfr_c hf314 (by decide)]; exact hp, by rw [rfr_c hf314 (by decide)]; exact hn, (rfr_w hf314).trans hrho⟩
      have hR317 : RS K314 rho (mr3 f) := by rw [mr3_y u230]; exact hR314
      refine go_s (pc' := 182) (lo' := [some (.ref 62), some (.int 0), some (.int (nI (424 * rho))), some (.int 0), some (.int (nI (rd f (f 80) 32 0))), some (.int 1)]) rfl rfl rfl rfl ?_
      refine go_s (pc' := 171) rfl rfl rfl rfl ?_
      refine go_s (pc' := 172) rfl rfl rfl rfl ?_
      refine go_s (pc' := 173) (st' := [.int 2, .int 1]) rfl rfl rfl rfl ?_
      refine go_icmpP (t' := 183) (pc' := 174) rfl rfl rfl (fun (c : 2 ≤ (1 : Int32)) => absurd c (by decide)) (fun _ => ?_)
      refine go_s (pc' := 175) rfl rfl rfl rfl ?_
      refine go_s (pc' := 176) rfl rfl rfl rfl ?_
      refine go_callV (pc' := 177) rfl rfl rfl (Nat.le_of_ble_eq_true rfl) rfl (sm_o hS314 rfl) rfl rfl rfl (rs_ho hr hS314 hk316.1 hk316.2.1 hk316.2.2 hls hl31 hR317 (t := 1) hmk.2.2.2.1 (EK_3 hEK) (by omega)) (fun r h318 q319 => ?_)
      obtain ⟨rfl, rfl⟩ := q319
      rw [show hop (mr3 f) 1 = hop (mr3 f) 1 from rfl]
      cases u320 : hop (mr3 f) 1
      · skip
        show am_Go _ _ _ _ 177 _ [.int 0] _ _
        refine go_ifP (t' := 181) (pc' := 178) rfl rfl rfl (fun _ => ?_) (fun (c : ¬ ((0 : Int32) = 0)) => absurd (by decide) c)
        have hR321 : RS K314 rho (mr4 f) := by rw [show mr4 f = mr3 f from if_neg (by rw [u320]; decide)]; exact hR317
        obtain ⟨m4, e4⟩ : ∃ y : ms, y = mr4 f := ⟨_, rfl⟩
        rw [← e4] at hR321
        refine go_s (pc' := 182) (lo' := [some (.ref 62), some (.int 0), some (.int (nI (424 * rho))), some (.int 0), some (.int (nI (rd f (f 80) 32 0))), some (.int 2)]) rfl rfl rfl rfl ?_
        refine go_s (pc' := 171) rfl rfl rfl rfl ?_
        refine go_s (pc' := 172) rfl rfl rfl rfl ?_
        refine go_s (pc' := 173) (st' := [.int 2, .int 2]) rfl rfl rfl rfl ?_
        refine go_icmpP (t' := 183) (pc' := 174) rfl rfl rfl (fun _ => ?_) (fun (c : ¬ (2 ≤ (2 : Int32))) => absurd (by decide) c)
        refine go_s (pc' := 184) rfl rfl rfl rfl ?_
        refine go_sget (pc' := 185) (v := .ref as_) hS314 rfl rfl rfl (by decide) rfl rfl ?_
        refine go_s (pc' := 186) rfl rfl rfl rfl ?_
        refine go_s (pc' := 187) (st' := [.int 1, .int (nI (424 * rho)), .ref as_]) rfl rfl rfl rfl ?_
        refine go_nadd (pc' := 188) (a := (424 * rho)) (b := 1) rfl rfl rfl rfl rfl ?_
        refine go_s (pc' := 189) rfl rfl rfl rfl ?_
        refine go_sald (pc' := 190) (q := ((424 * rho) + 1)) (v := .int (m4.1 1)) hS314 rfl (tr_as hr (by omega)) rfl rfl (by omega) (congrArg Value.int (hR321.1 1 (by decide) (by decide) (by decide))) rfl ?_
        refine go_s (pc' := 191) (st' := [.int 1, .int (m4.1 1), .int (nI ((424 * rho) + 1)), .ref as_]) rfl rfl rfl rfl ?_
        refine go_s (pc' := 192) rfl rfl rfl rfl ?_
        refine go_siast (pc' := 193) (q := ((424 * rho) + 1)) hS314 rfl (tr_as hr (by omega)) tbr_inj (Nat.le_of_ble_eq_true rfl) rfl (by omega) (rk_0 hr).2 hWa rfl (fun h322 hS323 hE324 => ?_)
        have hE325 := sm_e_trans hE315 hE324
        refine go_s (pc' := 194) rfl rfl rfl rfl ?_
        refine go_sget (pc' := 195) (v := .ref as_) hS323 rfl rfl rfl (by decide) rfl rfl ?_
        refine go_s (pc' := 196) rfl rfl rfl rfl ?_
        refine go_s (pc' := 197) (st' := [.int 2, .int (nI (424 * rho)), .ref as_]) rfl rfl rfl rfl ?_
        refine go_nadd (pc' := 198) (a := (424 * rho)) (b := 2) rfl rfl rfl rfl rfl ?_
        refine go_s (pc' := 199) (st' := [.int 0, .int (nI ((424 * rho) + 2)), .ref as_]) rfl rfl rfl rfl ?_
        refine go_siast (pc' := 200) (q := ((424 * rho) + 2)) hS323 rfl (tr_as hr (by omega)) tbr_inj (Nat.le_of_ble_eq_true rfl) rfl (by omega) (rk_0 hr).2 hWa rfl (fun h326 hS327 hE328 => ?_)
        have hE329 := sm_e_trans hE325 hE328
        have hR330 : RS (uI (uI K314 51 ((424 * rho) + 1) ((m4.1 1) + 1)) 51 ((424 * rho) + 2) 0) rho (uF m4.1 1 (m4.1 1 + 1), [], m4.2.2) := RS_e0 (RS_F (j := 1) hR321 (by decide) (by decide) (by decide))
        have hf330 : rfr (uI (uI J 6 1 0) 5 1 0) (uI (uI K314 51 ((424 * rho) + 1) ((m4.1 1) + 1)) 51 ((424 * rho) + 2) 0) rho := rfr_trans hf314 (rfr_trans (rfr_u (by omega) (by omega)) (rfr_u (by omega) (by omega)))
        change sm (tbr am lm as_ ls) _ (uI (uI K314 51 ((424 * rho) + 1) ((m4.1 1) + 1)) 51 ((424 * rho) + 2) 0) Y at hS327
        obtain ⟨K330, eK330⟩ : ∃ y, y = (uI (uI K314 51 ((424 * rho) + 1) ((m4.1 1) + 1)) 51 ((424 * rho) + 2) 0) := ⟨_, rfl⟩
        rw [← eK330] at hR330 hf330 hS327
        have hk331 : prk K330 0 ∧ ¬ K330 11 0 = -1 ∧ rwi K330 0 = rho := ⟨by unfold prk; rw [rfr_c hf330 (by decide)]; exact hp, by rw [rfr_c hf330 (by decide)]; exact hn, (rfr_w hf330).trans hrho⟩
        refine go_s (pc' := 201) rfl rfl rfl rfl ?_
        refine go_s (pc' := 202) (st' := [.int 16, .ref 62]) rfl rfl rfl rfl ?_
        refine go_s (pc' := 203) rfl rfl rfl rfl ?_
        refine go_sget (pc' := 204) (v := .ref as_) hS327 rfl rfl rfl (by decide) rfl rfl ?_
        refine go_s (pc' := 205) rfl rfl rfl rfl ?_
        refine go_s (pc' := 206) (st' := [.int 1, .int (nI (424 * rho)), .ref as_, .int 16, .ref 62]) rfl rfl rfl rfl ?_
        refine go_nadd (pc' := 207) (a := (424 * rho)) (b := 1) rfl rfl rfl rfl rfl ?_
        refine go_sald (pc' := 208) (q := ((424 * rho) + 1)) (v := .int (m4.1 1 + 1)) hS327 rfl (tr_as hr (by omega)) rfl rfl (by omega) (congrArg Value.int (hR330.1 1 (by decide) (by decide) (by decide))) rfl ?_
        refine go_s (pc' := 209) rfl rfl rfl rfl ?_
        refine go_sget (pc' := 210) (v := .ref as_) hS327 rfl rfl rfl (by decide) rfl rfl ?_
        refine go_s (pc' := 211) rfl rfl rfl rfl ?_
        refine go_s (pc' := 212) (st' := [.int 0, .int (nI (424 * rho)), .ref as_, .int (m4.1 1 + 1), .int 16, .ref 62]) rfl rfl rfl rfl ?_
        refine go_nadd (pc' := 213) (a := (424 * rho)) (b := 0) rfl rfl rfl rfl rfl ?_
        refine go_sald (pc' := 214) (q := ((424 * rho) + 0)) (v := .int (m4.1 0)) hS327 rfl (tr_as hr (by omega)) rfl rfl (by omega) (congrArg Value.int (hR330.1 0 (by decide) (by decide) (by decide))) rfl ?_
        refine go_s (pc' := 215) (st' := [.int 0, .int (m4.1 0), .int (m4.1 1 + 1), .int 16, .ref 62]) rfl rfl rfl rfl ?_
        refine go_s (pc' := 216) (st' := [.int 0, .int 0, .int (m4.1 0), .int (m4.1 1 + 1), .int 16, .ref 62]) rfl rfl rfl rfl ?_
        refine go_s (pc' := 217) (st' := [.int 0, .int 0, .int 0, .int (m4.1 0), .int (m4.1 1 + 1), .int 16, .ref 62]) rfl rfl rfl rfl ?_
        refine go_callV (pc' := 218) rfl rfl rfl (Nat.le_of_ble_eq_true rfl) rfl (sm_o hS327 rfl) rfl rfl rfl (rs_aw hr hS327 hW hWa hk331.1 hk331.2.1 hk331.2.2 hls hl31 hR330 (by show m4.2.2.length < 41; have z := hmk.2.2.2.2.2; rw [← e4] at z; omega) (by show 0 ≤ 32; decide) (by omega)) (fun r h332 q333 => ?_)
        obtain ⟨rfl, K334, hS334, hE334, hR334, hg334⟩ := q333
        have hE335 := sm_e_trans hE329 hE334
        have hf334 := rfr_trans hf330 hg334
        change RS K334 rho (mG m4) at hR334
        rw [show mG m4 = mrs f by unfold mrs; rw [e4]] at hR334
        have hk336 : prk K334 0 ∧ ¬ K334 11 0 = -1 ∧ rwi K334 0 = rho := ⟨by unfold prk; rw [rfr_c hf334 (by decide)]; exact hp, by rw [rfr_c hf334 (by decide)]; exact hn, (rfr_w hf334).trans hrho⟩
        refine go_s (pc' := 219) rfl rfl rfl rfl ?_
        refine go_sget (pc' := 220) (v := .ref as_) hS334 rfl rfl rfl (by decide) rfl rfl ?_
        refine go_s (pc' := 221) rfl rfl rfl rfl ?_
        refine go_s (pc' := 222) (st' := [.int 3, .int (nI (424 * rho)), .ref as_]) rfl rfl rfl rfl ?_
        refine go_nadd (pc' := 223) (a := (424 * rho)) (b := 3) rfl rfl rfl rfl rfl ?_
        refine go_s (pc' := 224) (st' := [.int 2, .int (nI ((424 * rho) + 3)), .ref as_]) rfl rfl rfl rfl ?_
        refine go_siast (pc' := 225) (q := ((424 * rho) + 3)) hS334 rfl (tr_as hr (by omega)) tbr_inj (Nat.le_of_ble_eq_true rfl) rfl (by omega) (rk_0 hr).2 hWa rfl (fun h337 hS338 hE339 => ?_)
        have hE340 := sm_e_trans hE335 hE339
        refine go_s (pc' := 226) rfl rfl rfl rfl ?_
        refine go_sget (pc' := 227) (v := .ref 88) hS338 rfl rfl rfl (by decide) rfl rfl ?_
        refine go_s (pc' := 228) (st' := [.int 0, .ref 88]) rfl rfl rfl rfl ?_
        refine go_s (pc' := 229) (st' := [.int 0, .int 0, .ref 88]) rfl rfl rfl rfl ?_
        refine go_siast (pc' := 230) (q := 0) hS338 rfl (tr_s hr (a := 88) rfl (by decide)) tbr_inj (Nat.le_of_ble_eq_true rfl) rfl (by decide) (by decide) (hW _ (by decide) (by decide)) rfl (fun h341 hS342 hE343 => ?_)
        have hE344 := sm_e_trans hE340 hE343
        refine go_s (pc' := 231) rfl rfl rfl rfl ?_
        refine go_sget (pc' := 232) (v := .ref 88) hS342 rfl rfl rfl (by decide) rfl rfl ?_
        refine go_s (pc' := 233) (st' := [.int 1, .ref 88]) rfl rfl rfl rfl ?_
        refine go_s (pc' := 234) (st' := [.int 0, .int 1, .ref 88]) rfl rfl rfl rfl ?_
        refine go_siast (pc' := 235) (q := 1) hS342 rfl (tr_s hr (a := 88) rfl (by decide)) tbr_inj (Nat.le_of_ble_eq_true rfl) rfl (by decide) (by decide) (hW _ (by decide) (by decide)) rfl (fun h345 hS346 hE347 => ?_)
        have hE348 := sm_e_trans hE344 hE347
        refine go_s (pc' := 236) rfl rfl rfl rfl ?_
        refine go_sget (pc' := 237) (v := .ref 83) hS346 rfl rfl rfl (by decide) rfl rfl ?_
        refine go_s (pc' := 238) (st' := [.int 0, .ref 83]) rfl rfl rfl rfl ?_
        refine go_s (pc' := 239) (st' := [.int 2, .int 0, .ref 83]) rfl rfl rfl rfl ?_
        refine go_siast (pc' := 240) (q := 0) hS346 rfl (tr_s hr (a := 83) rfl (by decide)) tbr_inj (Nat.le_of_ble_eq_true rfl) rfl (by decide) (by decide) (hW _ (by decide) (by decide)) rfl (fun h349 hS350 hE351 => ?_)
        have hE352 := sm_e_trans hE348 hE351
        refine go_s (pc' := 241) rfl rfl rfl rfl ?_
        refine go_s (pc' := 242) (st' := [.int 1, .ref 62]) rfl rfl rfl rfl ?_
        refine go_sput (pc' := 243) hS350 rfl rfl rfl (by decide) tbr_inj (Nat.le_of_ble_eq_true rfl) rfl (hW _ (by decide) (by decide)) rfl (fun h353 hS354 hE355 => ?_)
        have hE356 := sm_e_trans hE352 hE355
        refine go_ret rfl rfl ?_
        refine ⟨rfl, _, hS354, hE356, ?_, ?_⟩
        · rw [mrs2_e]
          refine RS_c (J := uI K334 51 (424 * rho + 3) 2) (fun j => rfl) (RS_F (j := 3) hR334 (by decide) (by decide) (by decide))
        · rw [hch]
          exact rfr_i (by decide) (rfr_i (by decide) (rfr_i (by decide) (rfr_i (by decide) (rfr_trans hf334 (rfr_u (by omega) (by omega))))))
      · skip
        show am_Go _ _ _ _ 177 _ [.int 1] _ _
        refine go_ifP (t' := 181) (pc' := 178) rfl rfl rfl (fun (c : (1 : Int32) = 0) => absurd c (by decide)) (fun _ => ?_)
        refine go_s (pc' := 179) rfl rfl rfl rfl ?_
        refine go_s (pc' := 180) rfl rfl rfl rfl ?_
        refine go_callV (pc' := 181) rfl rfl rfl (Nat.le_of_ble_eq_true rfl) rfl (sm_o hS314 rfl) rfl rfl rfl (rs_bo hr hS314 hW hWa hk316.1 hk316.2.1 hk316.2.2 hls hl31 hR317 (t := 1) (hmk.2.2.2.2.1 u320).1 (EK_3 hEK) hmk.2.2.1 (by have z := (hmk.2.2.2.2.1 u320).2; omega) (by omega)) (fun r h357 q358 => ?_)
        obtain ⟨rfl, K359, hS359, hE359, hR359, hg359⟩ := q358
        have hE360 := sm_e_trans hE315 hE359
        have hf359 := rfr_trans hf314 hg359
        have hk361 : prk K359 0 ∧ ¬ K359 11 0 = -1 ∧ rwi K359 0 = rho := ⟨by unfold prk; rw [rfr_c hf359 (by decide)]; exact hp, by rw [rfr_c hf359 (by decide)]; exact hn, (rfr_w hf359).trans hrho⟩
        have hR362 : RS K359 rho (mr4 f) := by rw [show mr4 f = mB (mr3 f) 1 from if_pos u320]; exact hR359
        obtain ⟨m4, e4⟩ : ∃ y : ms, y = mr4 f := ⟨_, rfl⟩
        rw [← e4] at hR362
        refine go_s (pc' := 182) (lo' := [some (.ref 62), some (.int 0), some (.int (nI (424 * rho))), some (.int 0), some (.int (nI (rd f (f 80) 32 0))), some (.int 2)]) rfl rfl rfl rfl ?_
        refine go_s (pc' := 171) rfl rfl rfl rfl ?_
        refine go_s (pc' := 172) rfl rfl rfl rfl ?_
        refine go_s (pc' := 173) (st' := [.int 2, .int 2]) rfl rfl rfl rfl ?_
        refine go_icmpP (t' := 183) (pc' := 174) rfl rfl rfl (fun _ => ?_) (fun (c : ¬ (2 ≤ (2 : Int32))) => absurd (by decide) c)
        refine go_s (pc' := 184) rfl rfl rfl rfl ?_
        refine go_sget (pc' := 185) (v := .ref as_) hS359 rfl rfl rfl (by decide) rfl rfl ?_
        refine go_s (pc' := 186) rfl rfl rfl rfl ?_
        refine go_s (pc' := 187) (st' := [.int 1, .int (nI (424 * rho)), .ref as_]) rfl rfl rfl rfl ?_
        refine go_nadd (pc' := 188) (a := (424 * rho)) (b := 1) rfl rfl rfl rfl rfl ?_
        refine go_s (pc' := 189) rfl rfl rfl rfl ?_
        refine go_sald (pc' := 190) (q := ((424 * rho) + 1)) (v := .int (m4.1 1)) hS359 rfl (tr_as hr (by omega)) rfl rfl (by omega) (congrArg Value.int (hR362.1 1 (by decide) (by decide) (by decide))) rfl ?_
        refine go_s (pc' := 191) (st' := [.int 1, .int (m4.1 1), .int (nI ((424 * rho) + 1)), .ref as_]) rfl rfl rfl rfl ?_
        refine go_s (pc' := 192) rfl rfl rfl rfl ?_
        refine go_siast (pc' := 193) (q := ((424 * rho) + 1)) hS359 rfl (tr_as hr (by omega)) tbr_inj (Nat.le_of_ble_eq_true rfl) rfl (by omega) (rk_0 hr).2 hWa rfl (fun h363 hS364 hE365 => ?_)
        have hE366 := sm_e_trans hE360 hE365
        refine go_s (pc' := 194) rfl rfl rfl rfl ?_
        refine go_sget (pc' := 195) (v := .ref as_) hS364 rfl rfl rfl (by decide) rfl rfl ?_
        refine go_s (pc' := 196) rfl rfl rfl rfl ?_
        refine go_s (pc' := 197) (st' := [.int 2, .int (nI (424 * rho)), .ref as_]) rfl rfl rfl rfl ?_
        refine go_nadd (pc' := 198) (a := (424 * rho)) (b := 2) rfl rfl rfl rfl rfl ?_
        refine go_s (pc' := 199) (st' := [.int 0, .int (nI ((424 * rho) + 2)), .ref as_]) rfl rfl rfl rfl ?_
        refine go_siast (pc' := 200) (q := ((424 * rho) + 2)) hS364 rfl (tr_as hr (by omega)) tbr_inj (Nat.le_of_ble_eq_true rfl) rfl (by omega) (rk_0 hr).2 hWa rfl (fun h367 hS368 hE369 => ?_)
        have hE370 := sm_e_trans hE366 hE369
        have hR371 : RS (uI (uI K359 51 ((424 * rho) + 1) ((m4.1 1) + 1)) 51 ((424 * rho) + 2) 0) rho (uF m4.1 1 (m4.1 1 + 1), [], m4.2.2) := RS_e0 (RS_F (j := 1) hR362 (by decide) (by decide) (by decide))
        have hf371 : rfr (uI (uI J 6 1 0) 5 1 0) (uI (uI K359 51 ((424 * rho) + 1) ((m4.1 1) + 1)) 51 ((424 * rho) + 2) 0) rho := rfr_trans hf359 (rfr_trans (rfr_u (by omega) (by omega)) (rfr_u (by omega) (by omega)))
        change sm (tbr am lm as_ ls) _ (uI (uI K359 51 ((424 * rho) + 1) ((m4.1 1) + 1)) 51 ((424 * rho) + 2) 0) Y at hS368
        obtain ⟨K371, eK371⟩ : ∃ y, y = (uI (uI K359 51 ((424 * rho) + 1) ((m4.1 1) + 1)) 51 ((424 * rho) + 2) 0) := ⟨_, rfl⟩
        rw [← eK371] at hR371 hf371 hS368
        have hk372 : prk K371 0 ∧ ¬ K371 11 0 = -1 ∧ rwi K371 0 = rho := ⟨by unfold prk; rw [rfr_c hf371 (by decide)]; exact hp, by rw [rfr_c hf371 (by decide)]; exact hn, (rfr_w hf371).trans hrho⟩
        refine go_s (pc' := 201) rfl rfl rfl rfl ?_
        refine go_s (pc' := 202) (st' := [.int 16, .ref 62]) rfl rfl rfl rfl ?_
        refine go_s (pc' := 203) rfl rfl rfl rfl ?_
        refine go_sget (pc' := 204) (v := .ref as_) hS368 rfl rfl rfl (by decide) rfl rfl ?_
        refine go_s (pc' := 205) rfl rfl rfl rfl ?_
        refine go_s (pc' := 206) (st' := [.int 1, .int (nI (424 * rho)), .ref as_, .int 16, .ref 62]) rfl rfl rfl rfl ?_
        refine go_nadd (pc' := 207) (a := (424 * rho)) (b := 1) rfl rfl rfl rfl rfl ?_
        refine go_sald (pc' := 208) (q := ((424 * rho) + 1)) (v := .int (m4.1 1 + 1)) hS368 rfl (tr_as hr (by omega)) rfl rfl (by omega) (congrArg Value.int (hR371.1 1 (by decide) (by decide) (by decide))) rfl ?_
        refine go_s (pc' := 209) rfl rfl rfl rfl ?_
        refine go_sget (pc' := 210) (v := .ref as_) hS368 rfl rfl rfl (by decide) rfl rfl ?_
        refine go_s (pc' := 211) rfl rfl rfl rfl ?_
        refine go_s (pc' := 212) (st' := [.int 0, .int (nI (424 * rho)), .ref as_, .int (m4.1 1 + 1), .int 16, .ref 62]) rfl rfl rfl rfl ?_
        refine go_nadd (pc' := 213) (a := (424 * rho)) (b := 0) rfl rfl rfl rfl rfl ?_
        refine go_sald (pc' := 214) (q := ((424 * rho) + 0)) (v := .int (m4.1 0)) hS368 rfl (tr_as hr (by omega)) rfl rfl (by omega) (congrArg Value.int (hR371.1 0 (by decide) (by decide) (by decide))) rfl ?_
        refine go_s (pc' := 215) (st' := [.int 0, .int (m4.1 0), .int (m4.1 1 + 1), .int 16, .ref 62]) rfl rfl rfl rfl ?_
        refine go_s (pc' := 216) (st' := [.int 0, .int 0, .int (m4.1 0), .int (m4.1 1 + 1), .int 16, .ref 62]) rfl rfl rfl rfl ?_
        refine go_s (pc' := 217) (st' := [.int 0, .int 0, .int 0, .int (m4.1 0), .int (m4.1 1 + 1), .int 16, .ref 62]) rfl rfl rfl rfl ?_
        refine go_callV (pc' := 218) rfl rfl rfl (Nat.le_of_ble_eq_true rfl) rfl (sm_o hS368 rfl) rfl rfl rfl (rs_aw hr hS368 hW hWa hk372.1 hk372.2.1 hk372.2.2 hls hl31 hR371 (by show m4.2.2.length < 41; have z := hmk.2.2.2.2.2; rw [← e4] at z; omega) (by show 0 ≤ 32; decide) (by omega)) (fun r h373 q374 => ?_)
        obtain ⟨rfl, K375, hS375, hE375, hR375, hg375⟩ := q374
        have hE376 := sm_e_trans hE370 hE375
        have hf375 := rfr_trans hf371 hg375
        change RS K375 rho (mG m4) at hR375
        rw [show mG m4 = mrs f by unfold mrs; rw [e4]] at hR375
        have hk377 : prk K375 0 ∧ ¬ K375 11 0 = -1 ∧ rwi K375 0 = rho := ⟨by unfold prk; rw [rfr_c hf375 (by decide)]; exact hp, by rw [rfr_c hf375 (by decide)]; exact hn, (rfr_w hf375).trans hrho⟩
        refine go_s (pc' := 219) rfl rfl rfl rfl ?_
        refine go_sget (pc' := 220) (v := .ref as_) hS375 rfl rfl rfl (by decide) rfl rfl ?_
        refine go_s (pc' := 221) rfl rfl rfl rfl ?_
        refine go_s (pc' := 222) (st' := [.int 3, .int (nI (424 * rho)), .ref as_]) rfl rfl rfl rfl ?_
        refine go_nadd (pc' := 223) (a := (424 * rho)) (b := 3) rfl rfl rfl rfl rfl ?_
        refine go_s (pc' := 224) (st' := [.int 2, .int (nI ((424 * rho) + 3)), .ref as_]) rfl rfl rfl rfl ?_
        refine go_siast (pc' := 225) (q := ((424 * rho) + 3)) hS375 rfl (tr_as hr (by omega)) tbr_inj (Nat.le_of_ble_eq_true rfl) rfl (by omega) (rk_0 hr).2 hWa rfl (fun h378 hS379 hE380 => ?_)
        have hE381 := sm_e_trans hE376 hE380
        refine go_s (pc' := 226) rfl rfl rfl rfl ?_
        refine go_sget (pc' := 227) (v := .ref 88) hS379 rfl rfl rfl (by decide) rfl rfl ?_
        refine go_s (pc' := 228) (st' := [.int 0, .ref 88]) rfl rfl rfl rfl ?_
        refine go_s (pc' := 229) (st' := [.int 0, .int 0, .ref 88]) rfl rfl rfl rfl ?_
        refine go_siast (pc' := 230) (q := 0) hS379 rfl (tr_s hr (a := 88) rfl (by decide)) tbr_inj (Nat.le_of_ble_eq_true rfl) rfl (by decide) (by decide) (hW _ (by decide) (by decide)) rfl (fun h382 hS383 hE384 => ?_)
        have hE385 := sm_e_trans hE381 hE384
        refine go_s (pc' := 231) rfl rfl rfl rfl ?_
        refine go_sget (pc' := 232) (v := .ref 88) hS383 rfl rfl rfl (by decide) rfl rfl ?_
        refine go_s (pc' := 233) (st' := [.int 1, .ref 88]) rfl rfl rfl rfl ?_
        refine go_s (pc' := 234) (st' := [.int 0, .int 1, .ref 88]) rfl rfl rfl rfl ?_
        refine go_siast (pc' := 235) (q := 1) hS383 rfl (tr_s hr (a := 88) rfl (by decide)) tbr_inj (Nat.le_of_ble_eq_true rfl) rfl (by decide) (by decide) (hW _ (by decide) (by decide)) rfl (fun h386 hS387 hE388 => ?_)
        have hE389 := sm_e_trans hE385 hE388
        refine go_s (pc' := 236) rfl rfl rfl rfl ?_
        refine go_sget (pc' := 237) (v := .ref 83) hS387 rfl rfl rfl (by decide) rfl rfl ?_
        refine go_s (pc' := 238) (st' := [.int 0, .ref 83]) rfl rfl rfl rfl ?_
        refine go_s (pc' := 239) (st' := [.int 2, .int 0, .ref 83]) rfl rfl rfl rfl ?_
        refine go_siast (pc' := 240) (q := 0) hS387 rfl (tr_s hr (a := 83) rfl (by decide)) tbr_inj (Nat.le_of_ble_eq_true rfl) rfl (by decide) (by decide) (hW _ (by decide) (by decide)) rfl (fun h390 hS391 hE392 => ?_)
        have hE393 := sm_e_trans hE389 hE392
        refine go_s (pc' := 241) rfl rfl rfl rfl ?_
        refine go_s (pc' := 242) (st' := [.int 1, .ref 62]) rfl rfl rfl rfl ?_
        refine go_sput (pc' := 243) hS391 rfl rfl rfl (by decide) tbr_inj (Nat.le_of_ble_eq_true rfl) rfl (hW _ (by decide) (by decide)) rfl (fun h394 hS395 hE396 => ?_)
        have hE397 := sm_e_trans hE393 hE396
        refine go_ret rfl rfl ?_
        refine ⟨rfl, _, hS395, hE397, ?_, ?_⟩
        · rw [mrs2_e]
          refine RS_c (J := uI K375 51 (424 * rho + 3) 2) (fun j => rfl) (RS_F (j := 3) hR375 (by decide) (by decide) (by decide))
        · rw [hch]
          exact rfr_i (by decide) (rfr_i (by decide) (rfr_i (by decide) (rfr_i (by decide) (rfr_trans hf375 (rfr_u (by omega) (by omega))))))
theorem lp_rc_1 {w : Nat → Bool} {d : Nat} {J : sm_I} {Y : sm_X} {am lm as_ ls : Nat} {P : Option Value → am_Hp → Prop} (hr : rk am as_) (hW : ∀ a, 62 ≤ a → a ≤ 88 → w a = true) (hWa : w as_ = true) {rho : Nat} (hls : 424 * rho + 424 ≤ ls) (hl31 : ls < 2 ^ 31) : ∀ (k n : Nat) (h : am_Hp), n + k = 16 → sm (tbr am lm as_ ls) h (rcI J rho 1 n) Y → (∀ h', sm (tbr am lm as_ ls) h' (rcI J rho 1 16) Y → sm_e (tbr am lm as_ ls) h h' → am_Go (am_prog w) d am_c173 none 89 [some (.ref 62), some (.int 1), some (.int (nI (424 * rho))), some (.int 245), some (.int (nI 16)), none] [] h' P) → am_Go (am_prog w) d am_c173 none 59 [some (.ref 62), some (.int 1), some (.int (nI (424 * rho))), some (.int 245), some (.int (nI n)), none] [] h P := by
  intro k
  induction k with
  | zero =>
    intro n h hnk hS C
    obtain rfl : n = 16 := by omega
    refine go_s (pc' := 60) rfl rfl rfl rfl ?_
    refine go_s (pc' := 61) (st' := [.int 16, .int (nI 16)]) rfl rfl rfl rfl ?_
    refine go_icmpP (t' := 89) (pc' := 62) rfl rfl rfl (fun _ => ?_) (fun (c : ¬ (16 ≤ (nI 16))) => absurd (by decide) c)
    exact C h hS (sm_e_refl _ _)
  | succ k ih =>
    intro n h hnk hS C
    refine go_s (pc' := 60) rfl rfl rfl rfl ?_
    refine go_s (pc' := 61) (st' := [.int 16, .int (nI n)]) rfl rfl rfl rfl ?_
    refine go_icmpP (t' := 89) (pc' := 62) rfl rfl rfl (fun (c : 16 ≤ (nI n)) => absurd c (nI_ge (b := 16) (show n < 16 by omega) (by decide))) (fun _ => ?_)
    refine go_s (pc' := 63) rfl rfl rfl rfl ?_
    refine go_sget (pc' := 64) (v := .ref as_) hS rfl rfl rfl (by decide) rfl rfl ?_
    refine go_s (pc' := 65) rfl rfl rfl rfl ?_
    refine go_s (pc' := 66) (st' := [.int 16, .int (nI (424 * rho)), .ref as_]) rfl rfl rfl rfl ?_
    refine go_nadd (pc' := 67) (a := (424 * rho)) (b := 16) rfl rfl rfl rfl rfl ?_
    refine go_s (pc' := 68) rfl rfl rfl rfl ?_
    refine go_nadd (pc' := 69) (a := ((424 * rho) + 16)) (b := n) rfl rfl rfl rfl rfl ?_
    refine go_s (pc' := 70) rfl rfl rfl rfl ?_
    refine go_sget (pc' := 71) (v := .ref 70) hS rfl rfl rfl (by decide) rfl rfl ?_
    refine go_s (pc' := 72) rfl rfl rfl rfl ?_
    refine go_s (pc' := 73) (st' := [.int 5, .int 245, .ref 70, .int (nI (((424 * rho) + 16) + n)), .ref as_]) rfl rfl rfl rfl ?_
    refine go_s (pc' := 74) rfl rfl rfl rfl ?_
    refine go_nmul (pc' := 75) (a := 5) (b := n) rfl rfl rfl rfl rfl ?_
    refine go_nadd (pc' := 76) (a := 245) (b := (5 * n)) rfl rfl rfl rfl rfl ?_
    refine go_sald (pc' := 77) (q := (245 + (5 * n))) (v := .int ((rcI J rho 1 n) 7 (245 + (5 * n)))) hS rfl (tr_s hr (a := 70) rfl (by omega)) rfl rfl (by omega) rfl rfl ?_
    refine go_siast (pc' := 78) (q := (((424 * rho) + 16) + n)) hS rfl (tr_as hr (by omega)) tbr_inj (Nat.le_of_ble_eq_true rfl) rfl (by omega) (rk_0 hr).2 hWa rfl (fun h1 hS2 hE3 => ?_)
    refine go_s (pc' := 79) rfl rfl rfl rfl ?_
    refine go_sget (pc' := 80) (v := .ref as_) hS2 rfl rfl rfl (by decide) rfl rfl ?_
    refine go_s (pc' := 81) rfl rfl rfl rfl ?_
    refine go_s (pc' := 82) (st' := [.int 32, .int (nI (424 * rho)), .ref as_]) rfl rfl rfl rfl ?_
    refine go_nadd (pc' := 83) (a := (424 * rho)) (b := 32) rfl rfl rfl rfl rfl ?_
    refine go_s (pc' := 84) rfl rfl rfl rfl ?_
    refine go_nadd (pc' := 85) (a := ((424 * rho) + 32)) (b := n) rfl rfl rfl rfl rfl ?_
    refine go_s (pc' := 86) (st' := [.int (-1), .int (nI (((424 * rho) + 32) + n)), .ref as_]) rfl rfl rfl rfl ?_
    refine go_siast (pc' := 87) (q := (((424 * rho) + 32) + n)) hS2 rfl (tr_as hr (by omega)) tbr_inj (Nat.le_of_ble_eq_true rfl) rfl (by omega) (rk_0 hr).2 hWa rfl (fun h4 hS5 hE6 => ?_)
    have hE7 := sm_e_trans hE3 hE6
    refine go_ninc (pc' := 88) (a := n) (n := 1) (lo' := [some (.ref 62), some (.int 1), some (.int (nI (424 * rho))), some (.int 245), some (.int (nI (n + 1))), none]) rfl rfl rfl rfl rfl rfl ?_
    refine go_s (pc' := 59) rfl rfl rfl rfl ?_
    change sm (tbr am lm as_ ls) _ (uI (uI (rcI J rho 1 n) 51 (424 * rho + 16 + n) _) 51 (424 * rho + 32 + n) (-1)) Y at hS5
    rw [rc_s (n := n) (v := rcI J rho 1 n 7 (245 + 5 * n)) (by omega) (show J 7 (245 + 5 * n) = J 7 (245 * 1 + 5 * n) from congrArg (J 7) (by omega))] at hS5
    exact ih (n + 1) _ (by omega) hS5 (fun h9 s1 s2 => C h9 s1 (sm_e_trans hE7 s2))
theorem lp_re_1 {w : Nat → Bool} {d : Nat} {J : sm_I} {Y : sm_X} {am lm as_ ls : Nat} {P : Option Value → am_Hp → Prop} (hr : rk am as_) (hW : ∀ a, 62 ≤ a → a ≤ 88 → w a = true) (hWa : w as_ = true) {rho : Nat} (hls : 424 * rho + 424 ≤ ls) (hl31 : ls < 2 ^ 31) {f : Nat → Int32} (h7 : ∀ j, J 7 (245 * 1 + j) = f j) (hg : J 51 (424 * rho + 1) = f 80) : ∀ (k n : Nat) (h : am_Hp) (v5 : Option Value), n + k = 32 → sm (tbr am lm as_ ls) h (reI J rho 1 n) Y → (∀ h' v5, sm (tbr am lm as_ ls) h' (reI J rho 1 (rd f (f 80) k n)) Y → sm_e (tbr am lm as_ ls) h h' → am_Go (am_prog w) d am_c173 none 146 [some (.ref 62), some (.int 1), some (.int (nI (424 * rho))), some (.int 245), some (.int (nI (rd f (f 80) k n))), v5] [] h' P) → am_Go (am_prog w) d am_c173 none 91 [some (.ref 62), some (.int 1), some (.int (nI (424 * rho))), some (.int 245), some (.int (nI n)), v5] [] h P := by
  intro k
  induction k with
  | zero =>
    intro n h v5 hnk hS C
    obtain rfl : n = 32 := by omega
    refine go_s (pc' := 92) rfl rfl rfl rfl ?_
    refine go_s (pc' := 93) (st' := [.int 32, .int (nI 32)]) rfl rfl rfl rfl ?_
    refine go_icmpP (t' := 146) (pc' := 94) rfl rfl rfl (fun _ => ?_) (fun (c : ¬ (32 ≤ (nI 32))) => absurd (by decide) c)
    exact C h v5 hS (sm_e_refl _ _)
  | succ k ih =>
    intro n h v5 hnk hS C
    have h1g : reI J rho 1 n 51 (424 * rho + 1) = f 80 := by
      simp only [reI]
      rw [if_neg (by omega)]
      exact hg
    have h85 : reI J rho 1 n 7 (245 + (5 * (17 + n))) = f (85 + 5 * n) := (congrArg (J 7) (show (245 + (5 * (17 + n))) = 245 * 1 + (85 + 5 * n) by omega)).trans (h7 _)
    have hrd : rd f (f 80) (k + 1) n = if f (85 + 5 * n) = f 80 then rd f (f 80) k (n + 1) else n := rfl
    refine go_s (pc' := 92) rfl rfl rfl rfl ?_
    refine go_s (pc' := 93) (st' := [.int 32, .int (nI n)]) rfl rfl rfl rfl ?_
    refine go_icmpP (t' := 146) (pc' := 94) rfl rfl rfl (fun (c : 32 ≤ (nI n)) => absurd c (nI_ge (b := 32) (show n < 32 by omega) (by decide))) (fun _ => ?_)
    refine go_s (pc' := 95) rfl rfl rfl rfl ?_
    refine go_sget (pc' := 96) (v := .ref 70) hS rfl rfl rfl (by decide) rfl rfl ?_
    refine go_s (pc' := 97) rfl rfl rfl rfl ?_
    refine go_s (pc' := 98) (st' := [.int 5, .int 245, .ref 70]) rfl rfl rfl rfl ?_
    refine go_s (pc' := 99) (st' := [.int 17, .int 5, .int 245, .ref 70]) rfl rfl rfl rfl ?_
    refine go_s (pc' := 100) rfl rfl rfl rfl ?_
    refine go_nadd (pc' := 101) (a := 17) (b := n) rfl rfl rfl rfl rfl ?_
    refine go_nmul (pc' := 102) (a := 5) (b := (17 + n)) rfl rfl rfl rfl rfl ?_
    refine go_nadd (pc' := 103) (a := 245) (b := (5 * (17 + n))) rfl rfl rfl rfl rfl ?_
    refine go_sald (pc' := 104) (q := (245 + (5 * (17 + n)))) (v := .int (f (85 + 5 * n))) hS rfl (tr_s hr (a := 70) rfl (by omega)) rfl rfl (by omega) (congrArg Value.int h85) rfl ?_
    refine go_s (pc' := 105) rfl rfl rfl rfl ?_
    refine go_sget (pc' := 106) (v := .ref as_) hS rfl rfl rfl (by decide) rfl rfl ?_
    refine go_s (pc' := 107) rfl rfl rfl rfl ?_
    refine go_s (pc' := 108) (st' := [.int 1, .int (nI (424 * rho)), .ref as_, .int (f (85 + 5 * n))]) rfl rfl rfl rfl ?_
    refine go_nadd (pc' := 109) (a := (424 * rho)) (b := 1) rfl rfl rfl rfl rfl ?_
    refine go_sald (pc' := 110) (q := ((424 * rho) + 1)) (v := .int (f 80)) hS rfl (tr_as hr (by omega)) rfl rfl (by omega) (congrArg Value.int h1g) rfl ?_
    refine go_icmpP (t' := 146) (pc' := 111) rfl rfl rfl (fun (c1 : ¬ (f (85 + 5 * n)) = (f 80)) => ?_) (fun (c1' : ¬ ¬ (f (85 + 5 * n)) = (f 80)) => ?_)
    · skip
      rw [hrd, if_neg c1] at C
      exact C h v5 hS (sm_e_refl _ _)
    · skip
      have c1 : (f (85 + 5 * n)) = (f 80) := Decidable.not_not.mp c1'
      refine go_s (pc' := 112) (st' := [.int 0]) rfl rfl rfl rfl ?_
      refine go_s (pc' := 113) (lo' := [some (.ref 62), some (.int 1), some (.int (nI (424 * rho))), some (.int 245), some (.int (nI n)), some (.int 0)]) rfl rfl rfl rfl ?_
      refine go_s (pc' := 114) rfl rfl rfl rfl ?_
      refine go_s (pc' := 115) (st' := [.int 4, .int 0]) rfl rfl rfl rfl ?_
      refine go_icmpP (t' := 144) (pc' := 116) rfl rfl rfl (fun (c : 4 ≤ (0 : Int32)) => absurd c (by decide)) (fun _ => ?_)
      refine go_s (pc' := 117) rfl rfl rfl rfl ?_
      refine go_sget (pc' := 118) (v := .ref as_) hS rfl rfl rfl (by decide) rfl rfl ?_
      refine go_s (pc' := 119) rfl rfl rfl rfl ?_
      refine go_s (pc' := 120) (st' := [.int 48, .int (nI (424 * rho)), .ref as_]) rfl rfl rfl rfl ?_
      refine go_nadd (pc' := 121) (a := (424 * rho)) (b := 48) rfl rfl rfl rfl rfl ?_
      refine go_s (pc' := 122) (st' := [.int 4, .int (nI ((424 * rho) + 48)), .ref as_]) rfl rfl rfl rfl ?_
      refine go_s (pc' := 123) rfl rfl rfl rfl ?_
      refine go_nmul (pc' := 124) (a := 4) (b := n) rfl rfl rfl rfl rfl ?_
      refine go_nadd (pc' := 125) (a := ((424 * rho) + 48)) (b := (4 * n)) rfl rfl rfl rfl rfl ?_
      refine go_s (pc' := 126) rfl rfl rfl rfl ?_
      refine go_nadd (pc' := 127) (a := (((424 * rho) + 48) + (4 * n))) (b := 0) rfl rfl rfl rfl rfl ?_
      refine go_s (pc' := 128) rfl rfl rfl rfl ?_
      refine go_sget (pc' := 129) (v := .ref 70) hS rfl rfl rfl (by decide) rfl rfl ?_
      refine go_s (pc' := 130) rfl rfl rfl rfl ?_
      refine go_s (pc' := 131) (st' := [.int 5, .int 245, .ref 70, .int (nI ((((424 * rho) + 48) + (4 * n)) + 0)), .ref as_]) rfl rfl rfl rfl ?_
      refine go_s (pc' := 132) (st' := [.int 17, .int 5, .int 245, .ref 70, .int (nI ((((424 * rho) + 48) + (4 * n)) + 0)), .ref as_]) rfl rfl rfl rfl ?_
      refine go_s (pc' := 133) rfl rfl rfl rfl ?_
      refine go_nadd (pc' := 134) (a := 17) (b := n) rfl rfl rfl rfl rfl ?_
      refine go_nmul (pc' := 135) (a := 5) (b := (17 + n)) rfl rfl rfl rfl rfl ?_
      refine go_nadd (pc' := 136) (a := 245) (b := (5 * (17 + n))) rfl rfl rfl rfl rfl ?_
      refine go_s (pc' := 137) (st' := [.int 1, .int (nI (245 + (5 * (17 + n)))), .ref 70, .int (nI ((((424 * rho) + 48) + (4 * n)) + 0)), .ref as_]) rfl rfl rfl rfl ?_
      refine go_nadd (pc' := 138) (a := (245 + (5 * (17 + n)))) (b := 1) rfl rfl rfl rfl rfl ?_
      refine go_s (pc' := 139) rfl rfl rfl rfl ?_
      refine go_nadd (pc' := 140) (a := ((245 + (5 * (17 + n))) + 1)) (b := 0) rfl rfl rfl rfl rfl ?_
      refine go_sald (pc' := 141) (q := (((245 + (5 * (17 + n))) + 1) + 0)) (v := .int ((reI J rho 1 n) 7 (((245 + (5 * (17 + n))) + 1) + 0))) hS rfl (tr_s hr (a := 70) rfl (by omega)) rfl rfl (by omega) rfl rfl ?_
      refine go_siast (pc' := 142) (q := ((((424 * rho) + 48) + (4 * n)) + 0)) hS rfl (tr_as hr (by omega)) tbr_inj (Nat.le_of_ble_eq_true rfl) rfl (by omega) (rk_0 hr).2 hWa rfl (fun h2 hS3 hE4 => ?_)
      refine go_s (pc' := 143) (lo' := [some (.ref 62), some (.int 1), some (.int (nI (424 * rho))), some (.int 245), some (.int (nI n)), some (.int 1)]) rfl rfl rfl rfl ?_
      refine go_s (pc' := 113) rfl rfl rfl rfl ?_
      refine go_s (pc' := 114) rfl rfl rfl rfl ?_
      refine go_s (pc' := 115) (st' := [.int 4, .int 1]) rfl rfl rfl rfl ?_
      refine go_icmpP (t' := 144) (pc' := 116) rfl rfl rfl (fun (c : 4 ≤ (1 : Int32)) => absurd c (by decide)) (fun _ => ?_)
      refine go_s (pc' := 117) rfl rfl rfl rfl ?_
      refine go_sget (pc' := 118) (v := .ref as_) hS3 rfl rfl rfl (by decide) rfl rfl ?_
      refine go_s (pc' := 119) rfl rfl rfl rfl ?_
      refine go_s (pc' := 120) (st' := [.int 48, .int (nI (424 * rho)), .ref as_]) rfl rfl rfl rfl ?_
      refine go_nadd (pc' := 121) (a := (424 * rho)) (b := 48) rfl rfl rfl rfl rfl ?_
      refine go_s (pc' := 122) (st' := [.int 4, .int (nI ((424 * rho) + 48)), .ref as_]) rfl rfl rfl rfl ?_
      refine go_s (pc' := 123) rfl rfl rfl rfl ?_
      refine go_nmul (pc' := 124) (a := 4) (b := n) rfl rfl rfl rfl rfl ?_
      refine go_nadd (pc' := 125) (a := ((424 * rho) + 48)) (b := (4 * n)) rfl rfl rfl rfl rfl ?_
      refine go_s (pc' := 126) rfl rfl rfl rfl ?_
      refine go_nadd (pc' := 127) (a := (((424 * rho) + 48) + (4 * n))) (b := 1) rfl rfl rfl rfl rfl ?_
      refine go_s (pc' := 128) rfl rfl rfl rfl ?_
      refine go_sget (pc' := 129) (v := .ref 70) hS3 rfl rfl rfl (by decide) rfl rfl ?_
      refine go_s (pc' := 130) rfl rfl rfl rfl ?_
      refine go_s (pc' := 131) (st' := [.int 5, .int 245, .ref 70, .int (nI ((((424 * rho) + 48) + (4 * n)) + 1)), .ref as_]) rfl rfl rfl rfl ?_
      refine go_s (pc' := 132) (st' := [.int 17, .int 5, .int 245, .ref 70, .int (nI ((((424 * rho) + 48) + (4 * n)) + 1)), .ref as_]) rfl rfl rfl rfl ?_
      refine go_s (pc' := 133) rfl rfl rfl rfl ?_
      refine go_nadd (pc' := 134) (a := 17) (b := n) rfl rfl rfl rfl rfl ?_
      refine go_nmul (pc' := 135) (a := 5) (b := (17 + n)) rfl rfl rfl rfl rfl ?_
      refine go_nadd (pc' := 136) (a := 245) (b := (5 * (17 + n))) rfl rfl rfl rfl rfl ?_
      refine go_s (pc' := 137) (st' := [.int 1, .int (nI (245 + (5 * (17 + n)))), .ref 70, .int (nI ((((424 * rho) + 48) + (4 * n)) + 1)), .ref as_]) rfl rfl rfl rfl ?_
      refine go_nadd (pc' := 138) (a := (245 + (5 * (17 + n)))) (b := 1) rfl rfl rfl rfl rfl ?_
      refine go_s (pc' := 139) rfl rfl rfl rfl ?_
      refine go_nadd (pc' := 140) (a := ((245 + (5 * (17 + n))) + 1)) (b := 1) rfl rfl rfl rfl rfl ?_
      refine go_sald (pc' := 141) (q := (((245 + (5 * (17 + n))) + 1) + 1)) (v := .int ((reI J rho 1 n) 7 (((245 + (5 * (17 + n))) + 1) + 1))) hS3 rfl (tr_s hr (a := 70) rfl (by omega)) rfl rfl (by omega) rfl rfl ?_
      refine go_siast (pc' := 142) (q := ((((424 * rho) + 48) + (4 * n)) + 1)) hS3 rfl (tr_as hr (by omega)) tbr_inj (Nat.le_of_ble_eq_true rfl) rfl (by omega) (rk_0 hr).2 hWa rfl (fun h5 hS6 hE7 => ?_)
      have hE8 := sm_e_trans hE4 hE7
      refine go_s (pc' := 143) (lo' := [some (.ref 62), some (.int 1), some (.int (nI (424 * rho))), some (.int 245), some (.int (nI n)), some (.int 2)]) rfl rfl rfl rfl ?_
      refine go_s (pc' := 113) rfl rfl rfl rfl ?_
      refine go_s (pc' := 114) rfl rfl rfl rfl ?_
      refine go_s (pc' := 115) (st' := [.int 4, .int 2]) rfl rfl rfl rfl ?_
      refine go_icmpP (t' := 144) (pc' := 116) rfl rfl rfl (fun (c : 4 ≤ (2 : Int32)) => absurd c (by decide)) (fun _ => ?_)
      refine go_s (pc' := 117) rfl rfl rfl rfl ?_
      refine go_sget (pc' := 118) (v := .ref as_) hS6 rfl rfl rfl (by decide) rfl rfl ?_
      refine go_s (pc' := 119) rfl rfl rfl rfl ?_
      refine go_s (pc' := 120) (st' := [.int 48, .int (nI (424 * rho)), .ref as_]) rfl rfl rfl rfl ?_
      refine go_nadd (pc' := 121) (a := (424 * rho)) (b := 48) rfl rfl rfl rfl rfl ?_
      refine go_s (pc' := 122) (st' := [.int 4, .int (nI ((424 * rho) + 48)), .ref as_]) rfl rfl rfl rfl ?_
      refine go_s (pc' := 123) rfl rfl rfl rfl ?_
      refine go_nmul (pc' := 124) (a := 4) (b := n) rfl rfl rfl rfl rfl ?_
      refine go_nadd (pc' := 125) (a := ((424 * rho) + 48)) (b := (4 * n)) rfl rfl rfl rfl rfl ?_
      refine go_s (pc' := 126) rfl rfl rfl rfl ?_
      refine go_nadd (pc' := 127) (a := (((424 * rho) + 48) + (4 * n))) (b := 2) rfl rfl rfl rfl rfl ?_
      refine go_s (pc' := 128) rfl rfl rfl rfl ?_
      refine go_sget (pc' := 129) (v := .ref 70) hS6 rfl rfl rfl (by decide) rfl rfl ?_
      refine go_s (pc' := 130) rfl rfl rfl rfl ?_
      refine go_s (pc' := 131) (st' := [.int 5, .int 245, .ref 70, .int (nI ((((424 * rho) + 48) + (4 * n)) + 2)), .ref as_]) rfl rfl rfl rfl ?_
      refine go_s (pc' := 132) (st' := [.int 17, .int 5, .int 245, .ref 70, .int (nI ((((424 * rho) + 48) + (4 * n)) + 2)), .ref as_]) rfl rfl rfl rfl ?_
      refine go_s (pc' := 133) rfl rfl rfl rfl ?_
      refine go_nadd (pc' := 134) (a := 17) (b := n) rfl rfl rfl rfl rfl ?_
      refine go_nmul (pc' := 135) (a := 5) (b := (17 + n)) rfl rfl rfl rfl rfl ?_
      refine go_nadd (pc' := 136) (a := 245) (b := (5 * (17 + n))) rfl rfl rfl rfl rfl ?_
      refine go_s (pc' := 137) (st' := [.int 1, .int (nI (245 + (5 * (17 + n)))), .ref 70, .int (nI ((((424 * rho) + 48) + (4 * n)) + 2)), .ref as_]) rfl rfl rfl rfl ?_
      refine go_nadd (pc' := 138) (a := (245 + (5 * (17 + n)))) (b := 1) rfl rfl rfl rfl rfl ?_
      refine go_s (pc' := 139) rfl rfl rfl rfl ?_
      refine go_nadd (pc' := 140) (a := ((245 + (5 * (17 + n))) + 1)) (b := 2) rfl rfl rfl rfl rfl ?_
      refine go_sald (pc' := 141) (q := (((245 + (5 * (17 + n))) + 1) + 2)) (v := .int ((reI J rho 1 n) 7 (((245 + (5 * (17 + n))) + 1) + 2))) hS6 rfl (tr_s hr (a := 70) rfl (by omega)) rfl rfl (by omega) rfl rfl ?_
      refine go_siast (pc' := 142) (q := ((((424 * rho) + 48) + (4 * n)) + 2)) hS6 rfl (tr_as hr (by omega)) tbr_inj (Nat.le_of_ble_eq_true rfl) rfl (by omega) (rk_0 hr).2 hWa rfl (fun h9 hS10 hE11 => ?_)
      have hE12 := sm_e_trans hE8 hE11
      refine go_s (pc' := 143) (lo' := [some (.ref 62), some (.int 1), some (.int (nI (424 * rho))), some (.int 245), some (.int (nI n)), some (.int 3)]) rfl rfl rfl rfl ?_
      refine go_s (pc' := 113) rfl rfl rfl rfl ?_
      refine go_s (pc' := 114) rfl rfl rfl rfl ?_
      refine go_s (pc' := 115) (st' := [.int 4, .int 3]) rfl rfl rfl rfl ?_
      refine go_icmpP (t' := 144) (pc' := 116) rfl rfl rfl (fun (c : 4 ≤ (3 : Int32)) => absurd c (by decide)) (fun _ => ?_)
      refine go_s (pc' := 117) rfl rfl rfl rfl ?_
      refine go_sget (pc' := 118) (v := .ref as_) hS10 rfl rfl rfl (by decide) rfl rfl ?_
      refine go_s (pc' := 119) rfl rfl rfl rfl ?_
      refine go_s (pc' := 120) (st' := [.int 48, .int (nI (424 * rho)), .ref as_]) rfl rfl rfl rfl ?_
      refine go_nadd (pc' := 121) (a := (424 * rho)) (b := 48) rfl rfl rfl rfl rfl ?_
      refine go_s (pc' := 122) (st' := [.int 4, .int (nI ((424 * rho) + 48)), .ref as_]) rfl rfl rfl rfl ?_
      refine go_s (pc' := 123) rfl rfl rfl rfl ?_
      refine go_nmul (pc' := 124) (a := 4) (b := n) rfl rfl rfl rfl rfl ?_
      refine go_nadd (pc' := 125) (a := ((424 * rho) + 48)) (b := (4 * n)) rfl rfl rfl rfl rfl ?_
      refine go_s (pc' := 126) rfl rfl rfl rfl ?_
      refine go_nadd (pc' := 127) (a := (((424 * rho) + 48) + (4 * n))) (b := 3) rfl rfl rfl rfl rfl ?_
      refine go_s (pc' := 128) rfl rfl rfl rfl ?_
      refine go_sget (pc' := 129) (v := .ref 70) hS10 rfl rfl rfl (by decide) rfl rfl ?_
      refine go_s (pc' := 130) rfl rfl rfl rfl ?_
      refine go_s (pc' := 131) (st' := [.int 5, .int 245, .ref 70, .int (nI ((((424 * rho) + 48) + (4 * n)) + 3)), .ref as_]) rfl rfl rfl rfl ?_
      refine go_s (pc' := 132) (st' := [.int 17, .int 5, .int 245, .ref 70, .int (nI ((((424 * rho) + 48) + (4 * n)) + 3)), .ref as_]) rfl rfl rfl rfl ?_
      refine go_s (pc' := 133) rfl rfl rfl rfl ?_
      refine go_nadd (pc' := 134) (a := 17) (b := n) rfl rfl rfl rfl rfl ?_
      refine go_nmul (pc' := 135) (a := 5) (b := (17 + n)) rfl rfl rfl rfl rfl ?_
      refine go_nadd (pc' := 136) (a := 245) (b := (5 * (17 + n))) rfl rfl rfl rfl rfl ?_
      refine go_s (pc' := 137) (st' := [.int 1, .int (nI (245 + (5 * (17 + n)))), .ref 70, .int (nI ((((424 * rho) + 48) + (4 * n)) + 3)), .ref as_]) rfl rfl rfl rfl ?_
      refine go_nadd (pc' := 138) (a := (245 + (5 * (17 + n)))) (b := 1) rfl rfl rfl rfl rfl ?_
      refine go_s (pc' := 139) rfl rfl rfl rfl ?_
      refine go_nadd (pc' := 140) (a := ((245 + (5 * (17 + n))) + 1)) (b := 3) rfl rfl rfl rfl rfl ?_
      refine go_sald (pc' := 141) (q := (((245 + (5 * (17 + n))) + 1) + 3)) (v := .int ((reI J rho 1 n) 7 (((245 + (5 * (17 + n))) + 1) + 3))) hS10 rfl (tr_s hr (a := 70) rfl (by omega)) rfl rfl (by omega) rfl rfl ?_
      refine go_siast (pc' := 142) (q := ((((424 * rho) + 48) + (4 * n)) + 3)) hS10 rfl (tr_as hr (by omega)) tbr_inj (Nat.le_of_ble_eq_true rfl) rfl (by omega) (rk_0 hr).2 hWa rfl (fun h13 hS14 hE15 => ?_)
      have hE16 := sm_e_trans hE12 hE15
      refine go_s (pc' := 143) (lo' := [some (.ref 62), some (.int 1), some (.int (nI (424 * rho))), some (.int 245), some (.int (nI n)), some (.int 4)]) rfl rfl rfl rfl ?_
      refine go_s (pc' := 113) rfl rfl rfl rfl ?_
      refine go_s (pc' := 114) rfl rfl rfl rfl ?_
      refine go_s (pc' := 115) (st' := [.int 4, .int 4]) rfl rfl rfl rfl ?_
      refine go_icmpP (t' := 144) (pc' := 116) rfl rfl rfl (fun _ => ?_) (fun (c : ¬ (4 ≤ (4 : Int32))) => absurd (by decide) c)
      refine go_ninc (pc' := 145) (a := n) (n := 1) (lo' := [some (.ref 62), some (.int 1), some (.int (nI (424 * rho))), some (.int 245), some (.int (nI (n + 1))), some (.int 4)]) rfl rfl rfl rfl rfl rfl ?_
      refine go_s (pc' := 91) rfl rfl rfl rfl ?_
      rw [hrd, if_pos c1] at C
      change sm (tbr am lm as_ ls) _ (uI (uI (uI (uI (reI J rho 1 n) 51 (424 * rho + 48 + 4 * n + 0) _) 51 (424 * rho + 48 + 4 * n + 1) _) 51 (424 * rho + 48 + 4 * n + 2) _) 51 (424 * rho + 48 + 4 * n + 3) _) Y at hS14
      rw [re_s (n := n) (v0 := reI J rho 1 n 7 (245 + 5 * (17 + n) + 1 + 0)) (v1 := reI J rho 1 n 7 (245 + 5 * (17 + n) + 1 + 1)) (v2 := reI J rho 1 n 7 (245 + 5 * (17 + n) + 1 + 2)) (v3 := reI J rho 1 n 7 (245 + 5 * (17 + n) + 1 + 3)) (show J 7 (245 + 5 * (17 + n) + 1 + 0) = J 7 (245 * 1 + 86 + 5 * n) from congrArg (J 7) (by omega)) (show J 7 (245 + 5 * (17 + n) + 1 + 1) = J 7 (245 * 1 + 86 + 5 * n + 1) from congrArg (J 7) (by omega)) (show J 7 (245 + 5 * (17 + n) + 1 + 2) = J 7 (245 * 1 + 86 + 5 * n + 2) from congrArg (J 7) (by omega)) (show J 7 (245 + 5 * (17 + n) + 1 + 3) = J 7 (245 * 1 + 86 + 5 * n + 3) from congrArg (J 7) (by omega))] at hS14
      exact ih (n + 1) _ _ (by omega) hS14 (fun h9 v9 s1 s2 => C h9 v9 s1 (sm_e_trans hE16 s2))
theorem rs_rst_1 {w : Nat → Bool} {d : Nat} {h : am_Hp} {J : sm_I} {Y : sm_X} {am lm as_ ls : Nat} (hr : rk am as_) (hS : sm (tbr am lm as_ ls) h J Y) (hW : ∀ a, 62 ≤ a → a ≤ 88 → w a = true) (hWa : w as_ = true) {rho : Nat} (hp : prk J 0) (hn : ¬ J 11 0 = -1) (hrho : rwi J 0 = rho) (hls : 424 * rho + 424 ≤ ls) (hl31 : ls < 2 ^ 31) (hR : RS J rho (fun _ => 0, [], [])) (hmk : mrk (dsk J 1)) (hEK : EK (rdL (dsk J 1))) (hd : 5 ≤ d) : am_Ev (am_prog w) d 173 [.ref 62, .int 1] h (fun r h' => r = none ∧ ∃ K, sm (tbr am lm as_ ls) h' K Y ∧ sm_e (tbr am lm as_ ls) h h' ∧ RS K rho (mrs2 (dsk J 1)) ∧ rfr (uI (uI (uI (uI (rchI 1 J) 22 0 0) 22 1 0) 16 0 2) 23 0 1) K rho) := by
  obtain ⟨d, rfl⟩ : ∃ e, d = e + 1 := ⟨d - 1, by omega⟩
  refine ev_go rfl (Nat.le_of_ble_eq_true rfl) rfl ?_
  obtain ⟨f, ef⟩ : ∃ f, f = dsk J 1 := ⟨_, rfl⟩
  have hdk : ∀ j, J 7 (245 * 1 + j) = f j := fun j => by rw [ef]; rfl
  rw [← ef] at hmk hEK ⊢
  have hz0 : ∀ j, j < 48 → J 51 (424 * rho + j) = 0 := fun j hj => by
    by_cases e2 : j = 2
    · rw [e2]; exact hR.2.1
    by_cases e5 : j = 5
    · rw [e5]; exact hR.2.2.1
    exact hR.1 j hj e2 e5
  have hrd32 := rd_le f (f 80) 32 0
  have hll : (rdL f).length = rd f (f 80) 32 0 := by simp [rdL]
  refine go_s (pc' := 1) rfl rfl rfl rfl ?_
  refine go_s (pc' := 2) (st' := [.int 0, .ref 62]) rfl rfl rfl rfl ?_
  refine go_callV (pc' := 3) rfl rfl rfl (Nat.le_of_ble_eq_true rfl) rfl (sm_o hS rfl) rfl rfl rfl (rt_at_0 hr hS hp hn (by omega)) (fun r h1 q2 => ?_)
  obtain ⟨rfl, rfl⟩ := q2
  rw [show rwi J 0 = rho from hrho]
  refine go_s (pc' := 4) (lo' := [some (.ref 62), some (.int 1), some (.int (nI (424 * rho))), none, none, none]) rfl rfl rfl rfl ?_
  refine go_s (pc' := 5) (st' := [.int 245]) rfl rfl rfl rfl ?_
  refine go_s (pc' := 6) rfl rfl rfl rfl ?_
  refine go_s (pc' := 7) (st' := [.int 245]) rfl rfl rfl rfl ?_
  refine go_s (pc' := 8) (lo' := [some (.ref 62), some (.int 1), some (.int (nI (424 * rho))), some (.int 245), none, none]) rfl rfl rfl rfl ?_
  refine go_s (pc' := 9) rfl rfl rfl rfl ?_
  refine go_sget (pc' := 10) (v := .ref 68) hS rfl rfl rfl (by decide) rfl rfl ?_
  refine go_s (pc' := 11) (st' := [.int 1, .ref 68]) rfl rfl rfl rfl ?_
  refine go_s (pc' := 12) rfl rfl rfl rfl ?_
  refine go_s (pc' := 13) (st' := [.int 0, .ref 68]) rfl rfl rfl rfl ?_
  refine go_sald (pc' := 14) (q := 0) (v := .int (J 5 0)) hS rfl (tr_s hr (a := 68) rfl (by decide)) rfl rfl (by decide) rfl rfl ?_
  refine go_ifP (t' := 22) (pc' := 15) rfl rfl rfl (fun (c3 : (J 5 0) = 0) => ?_) (fun (c3 : ¬ (J 5 0) = 0) => ?_)
  · skip
    refine go_s (pc' := 23) rfl rfl rfl rfl ?_
    refine go_sget (pc' := 24) (v := .ref 68) hS rfl rfl rfl (by decide) rfl rfl ?_
    refine go_s (pc' := 25) (st' := [.int 1, .ref 68]) rfl rfl rfl rfl ?_
    refine go_s (pc' := 26) rfl rfl rfl rfl ?_
    refine go_s (pc' := 27) (st' := [.int 0, .ref 68]) rfl rfl rfl rfl ?_
    refine go_s (pc' := 28) (st' := [.int 0, .int 0, .ref 68]) rfl rfl rfl rfl ?_
    refine go_szast (pc' := 29) (q := 0) hS rfl (tr_s hr (a := 68) rfl (by decide)) tbr_inj (Nat.le_of_ble_eq_true rfl) rfl (by decide) (by decide) rfl (hW _ (by decide) (by decide)) rfl (fun h4 hS5 hE6 => ?_)
    refine go_s (pc' := 30) rfl rfl rfl rfl ?_
    refine go_sget (pc' := 31) (v := .ref as_) hS5 rfl rfl rfl (by decide) rfl rfl ?_
    refine go_s (pc' := 32) rfl rfl rfl rfl ?_
    refine go_s (pc' := 33) (st' := [.int 1, .int (nI (424 * rho)), .ref as_]) rfl rfl rfl rfl ?_
    refine go_nadd (pc' := 34) (a := (424 * rho)) (b := 1) rfl rfl rfl rfl rfl ?_
    refine go_s (pc' := 35) rfl rfl rfl rfl ?_
    refine go_sget (pc' := 36) (v := .ref 70) hS5 rfl rfl rfl (by decide) rfl rfl ?_
    refine go_s (pc' := 37) rfl rfl rfl rfl ?_
    refine go_s (pc' := 38) (st' := [.int 80, .int 245, .ref 70, .int (nI ((424 * rho) + 1)), .ref as_]) rfl rfl rfl rfl ?_
    refine go_s (pc' := 39) (st' := [.int 325, .ref 70, .int (nI ((424 * rho) + 1)), .ref as_]) rfl rfl rfl rfl ?_
    refine go_sald (pc' := 40) (q := 325) (v := .int (f 80)) hS5 rfl (tr_s hr (a := 70) rfl (by decide)) rfl rfl (by decide) (congrArg Value.int (hdk 80)) rfl ?_
    refine go_siast (pc' := 41) (q := ((424 * rho) + 1)) hS5 rfl (tr_as hr (by omega)) tbr_inj (Nat.le_of_ble_eq_true rfl) rfl (by omega) (rk_0 hr).2 hWa rfl (fun h7 hS8 hE9 => ?_)
    have hE10 := sm_e_trans hE6 hE9
    refine go_s (pc' := 42) rfl rfl rfl rfl ?_
    refine go_sget (pc' := 43) (v := .ref as_) hS8 rfl rfl rfl (by decide) rfl rfl ?_
    refine go_s (pc' := 44) rfl rfl rfl rfl ?_
    refine go_s (pc' := 45) (st' := [.int 0, .int (nI (424 * rho)), .ref as_]) rfl rfl rfl rfl ?_
    refine go_nadd (pc' := 46) (a := (424 * rho)) (b := 0) rfl rfl rfl rfl rfl ?_
    refine go_s (pc' := 47) rfl rfl rfl rfl ?_
    refine go_sget (pc' := 48) (v := .ref 70) hS8 rfl rfl rfl (by decide) rfl rfl ?_
    refine go_s (pc' := 49) rfl rfl rfl rfl ?_
    refine go_s (pc' := 50) (st' := [.int 80, .int 245, .ref 70, .int (nI ((424 * rho) + 0)), .ref as_]) rfl rfl rfl rfl ?_
    refine go_s (pc' := 51) (st' := [.int 325, .ref 70, .int (nI ((424 * rho) + 0)), .ref as_]) rfl rfl rfl rfl ?_
    refine go_s (pc' := 52) (st' := [.int 1, .int 325, .ref 70, .int (nI ((424 * rho) + 0)), .ref as_]) rfl rfl rfl rfl ?_
    refine go_s (pc' := 53) (st' := [.int 326, .ref 70, .int (nI ((424 * rho) + 0)), .ref as_]) rfl rfl rfl rfl ?_
    refine go_sald (pc' := 54) (q := 326) (v := .int (f 81)) hS8 rfl (tr_s hr (a := 70) rfl (by decide)) rfl rfl (by decide) (congrArg Value.int (hdk 81)) rfl ?_
    refine go_s (pc' := 55) (st' := [.int 1, .int (f 81), .int (nI ((424 * rho) + 0)), .ref as_]) rfl rfl rfl rfl ?_
    refine go_s (pc' := 56) rfl rfl rfl rfl ?_
    refine go_siast (pc' := 57) (q := ((424 * rho) + 0)) hS8 rfl (tr_as hr (by omega)) tbr_inj (Nat.le_of_ble_eq_true rfl) rfl (by omega) (rk_0 hr).2 hWa rfl (fun h11 hS12 hE13 => ?_)
    have hE14 := sm_e_trans hE10 hE13
    refine go_s (pc' := 58) (st' := [.int 0]) rfl rfl rfl rfl ?_
    refine go_s (pc' := 59) (lo' := [some (.ref 62), some (.int 1), some (.int (nI (424 * rho))), some (.int 245), some (.int 0), none]) rfl rfl rfl rfl ?_
    have hch : rchI 1 J = (uI J 5 0 0) := by
      unfold rchI
      rw [if_pos c3]
    obtain ⟨JA, eA⟩ : ∃ y, y = (uI (uI (uI J 5 0 0) 51 ((424 * rho) + 1) (f 80)) 51 ((424 * rho) + 0) ((f 81) + 1)) := ⟨_, rfl⟩
    change sm (tbr am lm as_ ls) _ (uI (uI (uI J 5 0 0) 51 ((424 * rho) + 1) (f 80)) 51 ((424 * rho) + 0) ((f 81) + 1)) Y at hS12
    have hfA : rfr (uI J 5 0 0) JA rho := by
      rw [eA]
      exact rfr_trans (rfr_u (by omega) (by omega)) (rfr_u (by omega) (by omega))
    have h7A : ∀ j, JA 7 (245 * 1 + j) = f j := fun j => (hfA 7 _ (by omega)).trans (hdk j)
    have hzA : ∀ j, j < 48 → JA 51 (424 * rho + j) = if j = 0 then f 81 + 1 else if j = 1 then f 80 else 0 := fun j hj => by
      rw [eA]
      by_cases e0 : j = 0
      · rw [if_pos e0]
        repeat (first | rw [uI_e (by omega)] | rw [uI_j (by omega)])
      · rw [if_neg e0]
        by_cases e1 : j = 1
        · rw [if_pos e1]
          repeat (first | rw [uI_e (by omega)] | rw [uI_j (by omega)])
        · rw [if_neg e1, uI_j (by omega), uI_j (by omega)]
          exact hz0 j hj
    rw [← eA] at hS12
    refine lp_rc_1 hr hW hWa hls hl31 (J := JA) 16 0 _ rfl (by rw [rc_0]; exact hS12) (fun h8 hS8 hE8 => ?_)
    have hE8b := sm_e_trans hE14 hE8
    refine go_s (pc' := 90) (st' := [.int 0]) rfl rfl rfl rfl ?_
    refine go_s (pc' := 91) (lo' := [some (.ref 62), some (.int 1), some (.int (nI (424 * rho))), some (.int 245), some (.int 0), none]) rfl rfl rfl rfl ?_
    refine lp_re_1 hr hW hWa hls hl31 (J := rcI JA rho 1 16) (f := f) (fun j => (rc_r (Nat.le_refl _) 7 _ (by omega)).trans (h7A j)) ?_ 32 0 _ none rfl (by rw [re_0]; exact hS8) (fun h9 v5 hS9 hE9 => ?_)
    · simp only [rcI]
      rw [if_neg (by omega), if_neg (by omega)]
      exact hzA 1 (by decide)
    have hE9b := sm_e_trans hE8b hE9
    refine go_s (pc' := 147) rfl rfl rfl rfl ?_
    refine go_sget (pc' := 148) (v := .ref as_) hS9 rfl rfl rfl (by decide) rfl rfl ?_
    refine go_s (pc' := 149) rfl rfl rfl rfl ?_
    refine go_s (pc' := 150) (st' := [.int 2, .int (nI (424 * rho)), .ref as_]) rfl rfl rfl rfl ?_
    refine go_nadd (pc' := 151) (a := (424 * rho)) (b := 2) rfl rfl rfl rfl rfl ?_
    refine go_s (pc' := 152) rfl rfl rfl rfl ?_
    refine go_siast (pc' := 153) (q := ((424 * rho) + 2)) hS9 rfl (tr_as hr (by omega)) tbr_inj (Nat.le_of_ble_eq_true rfl) rfl (by omega) (rk_0 hr).2 hWa rfl (fun h15 hS16 hE17 => ?_)
    have hE18 := sm_e_trans hE9b hE17
    refine go_s (pc' := 154) (st' := [.int 0]) rfl rfl rfl rfl ?_
    refine go_s (pc' := 155) (lo' := [some (.ref 62), some (.int 1), some (.int (nI (424 * rho))), some (.int 245), some (.int (nI (rd f (f 80) 32 0))), some (.int 0)]) rfl rfl rfl rfl ?_
    refine go_s (pc' := 156) rfl rfl rfl rfl ?_
    refine go_s (pc' := 157) (st' := [.int 2, .int 0]) rfl rfl rfl rfl ?_
    refine go_icmpP (t' := 169) (pc' := 158) rfl rfl rfl (fun (c : 2 ≤ (0 : Int32)) => absurd c (by decide)) (fun _ => ?_)
    refine go_s (pc' := 159) rfl rfl rfl rfl ?_
    refine go_sget (pc' := 160) (v := .ref as_) hS16 rfl rfl rfl (by decide) rfl rfl ?_
    refine go_s (pc' := 161) rfl rfl rfl rfl ?_
    refine go_s (pc' := 162) (st' := [.int 6, .int (nI (424 * rho)), .ref as_]) rfl rfl rfl rfl ?_
    refine go_nadd (pc' := 163) (a := (424 * rho)) (b := 6) rfl rfl rfl rfl rfl ?_
    refine go_s (pc' := 164) rfl rfl rfl rfl ?_
    refine go_nadd (pc' := 165) (a := ((424 * rho) + 6)) (b := 0) rfl rfl rfl rfl rfl ?_
    refine go_s (pc' := 166) (st' := [.int (-1), .int (nI (((424 * rho) + 6) + 0)), .ref as_]) rfl rfl rfl rfl ?_
    refine go_siast (pc' := 167) (q := (((424 * rho) + 6) + 0)) hS16 rfl (tr_as hr (by omega)) tbr_inj (Nat.le_of_ble_eq_true rfl) rfl (by omega) (rk_0 hr).2 hWa rfl (fun h19 hS20 hE21 => ?_)
    have hE22 := sm_e_trans hE18 hE21
    refine go_s (pc' := 168) (lo' := [some (.ref 62), some (.int 1), some (.int (nI (424 * rho))), some (.int 245), some (.int (nI (rd f (f 80) 32 0))), some (.int 1)]) rfl rfl rfl rfl ?_
    refine go_s (pc' := 155) rfl rfl rfl rfl ?_
    refine go_s (pc' := 156) rfl rfl rfl rfl ?_
    refine go_s (pc' := 157) (st' := [.int 2, .int 1]) rfl rfl rfl rfl ?_
    refine go_icmpP (t' := 169) (pc' := 158) rfl rfl rfl (fun (c : 2 ≤ (1 : Int32)) => absurd c (by decide)) (fun _ => ?_)
    refine go_s (pc' := 159) rfl rfl rfl rfl ?_
    refine go_sget (pc' := 160) (v := .ref as_) hS20 rfl rfl rfl (by decide) rfl rfl ?_
    refine go_s (pc' := 161) rfl rfl rfl rfl ?_
    refine go_s (pc' := 162) (st' := [.int 6, .int (nI (424 * rho)), .ref as_]) rfl rfl rfl rfl ?_
    refine go_nadd (pc' := 163) (a := (424 * rho)) (b := 6) rfl rfl rfl rfl rfl ?_
    refine go_s (pc' := 164) rfl rfl rfl rfl ?_
    refine go_nadd (pc' := 165) (a := ((424 * rho) + 6)) (b := 1) rfl rfl rfl rfl rfl ?_
    refine go_s (pc' := 166) (st' := [.int (-1), .int (nI (((424 * rho) + 6) + 1)), .ref as_]) rfl rfl rfl rfl ?_
    refine go_siast (pc' := 167) (q := (((424 * rho) + 6) + 1)) hS20 rfl (tr_as hr (by omega)) tbr_inj (Nat.le_of_ble_eq_true rfl) rfl (by omega) (rk_0 hr).2 hWa rfl (fun h23 hS24 hE25 => ?_)
    have hE26 := sm_e_trans hE22 hE25
    refine go_s (pc' := 168) (lo' := [some (.ref 62), some (.int 1), some (.int (nI (424 * rho))), some (.int 245), some (.int (nI (rd f (f 80) 32 0))), some (.int 2)]) rfl rfl rfl rfl ?_
    refine go_s (pc' := 155) rfl rfl rfl rfl ?_
    refine go_s (pc' := 156) rfl rfl rfl rfl ?_
    refine go_s (pc' := 157) (st' := [.int 2, .int 2]) rfl rfl rfl rfl ?_
    refine go_icmpP (t' := 169) (pc' := 158) rfl rfl rfl (fun _ => ?_) (fun (c : ¬ (2 ≤ (2 : Int32))) => absurd (by decide) c)
    refine go_s (pc' := 170) (st' := [.int 0]) rfl rfl rfl rfl ?_
    refine go_s (pc' := 171) (lo' := [some (.ref 62), some (.int 1), some (.int (nI (424 * rho))), some (.int 245), some (.int (nI (rd f (f 80) 32 0))), some (.int 0)]) rfl rfl rfl rfl ?_
    have hR27 : RS (uI (uI (uI (reI (rcI JA rho 1 16) rho 1 (rd f (f 80) 32 0)) 51 ((424 * rho) + 2) (nI (rd f (f 80) 32 0))) 51 (((424 * rho) + 6) + 0) (-1)) 51 (((424 * rho) + 6) + 1) (-1)) rho (uF (mr1 f).1 7 (-1), rdL f, []) := RS_rd h7A hzA ((hzA 5 (by decide)).trans rfl)
    have hf27 : rfr (uI J 5 0 0) (uI (uI (uI (reI (rcI JA rho 1 16) rho 1 (rd f (f 80) 32 0)) 51 ((424 * rho) + 2) (nI (rd f (f 80) 32 0))) 51 (((424 * rho) + 6) + 0) (-1)) 51 (((424 * rho) + 6) + 1) (-1)) rho := rfr_trans hfA (rfr_trans (rc_r (Nat.le_refl _)) (rfr_trans (re_r (by omega)) (rfr_trans (rfr_u (by omega) (by omega)) (rfr_trans (rfr_u (by omega) (by omega)) (rfr_u (by omega) (by omega))))))
    change sm (tbr am lm as_ ls) _ (uI (uI (uI (reI (rcI JA rho 1 16) rho 1 (rd f (f 80) 32 0)) 51 ((424 * rho) + 2) (nI (rd f (f 80) 32 0))) 51 (((424 * rho) + 6) + 0) (-1)) 51 (((424 * rho) + 6) + 1) (-1)) Y at hS24
    obtain ⟨K27, eK27⟩ : ∃ y, y = (uI (uI (uI (reI (rcI JA rho 1 16) rho 1 (rd f (f 80) 32 0)) 51 ((424 * rho) + 2) (nI (rd f (f 80) 32 0))) 51 (((424 * rho) + 6) + 0) (-1)) 51 (((424 * rho) + 6) + 1) (-1)) := ⟨_, rfl⟩
    rw [← eK27] at hR27 hf27 hS24
    have hk28 : prk K27 0 ∧ ¬ K27 11 0 = -1 ∧ rwi K27 0 = rho := ⟨by unfold prk; rw [rfr_c hf27 (by decide)]; exact hp, by rw [rfr_c hf27 (by decide)]; exact hn, (rfr_w hf27).trans hrho⟩
    refine go_s (pc' := 172) rfl rfl rfl rfl ?_
    refine go_s (pc' := 173) (st' := [.int 2, .int 0]) rfl rfl rfl rfl ?_
    refine go_icmpP (t' := 183) (pc' := 174) rfl rfl rfl (fun (c : 2 ≤ (0 : Int32)) => absurd c (by decide)) (fun _ => ?_)
    refine go_s (pc' := 175) rfl rfl rfl rfl ?_
    refine go_s (pc' := 176) rfl rfl rfl rfl ?_
    refine go_callV (pc' := 177) rfl rfl rfl (Nat.le_of_ble_eq_true rfl) rfl (sm_o hS24 rfl) rfl rfl rfl (rs_ho hr hS24 hk28.1 hk28.2.1 hk28.2.2 hls hl31 hR27 (t := 0) (by show (rdL f).length ≤ 32; omega) hEK (by omega)) (fun r h29 q30 => ?_)
    obtain ⟨rfl, rfl⟩ := q30
    rw [show hop (uF (mr1 f).1 7 (-1), rdL f, []) 0 = hop (mr1 f) 0 from rfl]
    cases u31 : hop (mr1 f) 0
    · skip
      show am_Go _ _ _ _ 177 _ [.int 0] _ _
      refine go_ifP (t' := 181) (pc' := 178) rfl rfl rfl (fun _ => ?_) (fun (c : ¬ ((0 : Int32) = 0)) => absurd (by decide) c)
      have hR32 : RS K27 rho (mr3 f) := by rw [mr3_n u31]; exact hR27
      refine go_s (pc' := 182) (lo' := [some (.ref 62), some (.int 1), some (.int (nI (424 * rho))), some (.int 245), some (.int (nI (rd f (f 80) 32 0))), some (.int 1)]) rfl rfl rfl rfl ?_
      refine go_s (pc' := 171) rfl rfl rfl rfl ?_
      refine go_s (pc' := 172) rfl rfl rfl rfl ?_
      refine go_s (pc' := 173) (st' := [.int 2, .int 1]) rfl rfl rfl rfl ?_
      refine go_icmpP (t' := 183) (pc' := 174) rfl rfl rfl (fun (c : 2 ≤ (1 : Int32)) => absurd c (by decide)) (fun _ => ?_)
      refine go_s (pc' := 175) rfl rfl rfl rfl ?_
      refine go_s (pc' := 176) rfl rfl rfl rfl ?_
      refine go_callV (pc' := 177) rfl rfl rfl (Nat.le_of_ble_eq_true rfl) rfl (sm_o hS24 rfl) rfl rfl rfl (rs_ho hr hS24 hk28.1 hk28.2.1 hk28.2.2 hls hl31 hR32 (t := 1) hmk.2.2.2.1 (EK_3 hEK) (by omega)) (fun r h33 q34 => ?_)
      obtain ⟨rfl, rfl⟩ := q34
      rw [show hop (mr3 f) 1 = hop (mr3 f) 1 from rfl]
      cases u35 : hop (mr3 f) 1
      · skip
        show am_Go _ _ _ _ 177 _ [.int 0] _ _
        refine go_ifP (t' := 181) (pc' := 178) rfl rfl rfl (fun _ => ?_) (fun (c : ¬ ((0 : Int32) = 0)) => absurd (by decide) c)
        have hR36 : RS K27 rho (mr4 f) := by rw [show mr4 f = mr3 f from if_neg (by rw [u35]; decide)]; exact hR32
        obtain ⟨m4, e4⟩ : ∃ y : ms, y = mr4 f := ⟨_, rfl⟩
        rw [← e4] at hR36
        refine go_s (pc' := 182) (lo' := [some (.ref 62), some (.int 1), some (.int (nI (424 * rho))), some (.int 245), some (.int (nI (rd f (f 80) 32 0))), some (.int 2)]) rfl rfl rfl rfl ?_
        refine go_s (pc' := 171) rfl rfl rfl rfl ?_
        refine go_s (pc' := 172) rfl rfl rfl rfl ?_
        refine go_s (pc' := 173) (st' := [.int 2, .int 2]) rfl rfl rfl rfl ?_
        refine go_icmpP (t' := 183) (pc' := 174) rfl rfl rfl (fun _ => ?_) (fun (c : ¬ (2 ≤ (2 : Int32))) => absurd (by decide) c)
        refine go_s (pc' := 184) rfl rfl rfl rfl ?_
        refine go_sget (pc' := 185) (v := .ref as_) hS24 rfl rfl rfl (by decide) rfl rfl ?_
        refine go_s (pc' := 186) rfl rfl rfl rfl ?_
        refine go_s (pc' := 187) (st' := [.int 1, .int (nI (424 * rho)), .ref as_]) rfl rfl rfl rfl ?_
        refine go_nadd (pc' := 188) (a := (424 * rho)) (b := 1) rfl rfl rfl rfl rfl ?_
        refine go_s (pc' := 189) rfl rfl rfl rfl ?_
        refine go_sald (pc' := 190) (q := ((424 * rho) + 1)) (v := .int (m4.1 1)) hS24 rfl (tr_as hr (by omega)) rfl rfl (by omega) (congrArg Value.int (hR36.1 1 (by decide) (by decide) (by decide))) rfl ?_
        refine go_s (pc' := 191) (st' := [.int 1, .int (m4.1 1), .int (nI ((424 * rho) + 1)), .ref as_]) rfl rfl rfl rfl ?_
        refine go_s (pc' := 192) rfl rfl rfl rfl ?_
        refine go_siast (pc' := 193) (q := ((424 * rho) + 1)) hS24 rfl (tr_as hr (by omega)) tbr_inj (Nat.le_of_ble_eq_true rfl) rfl (by omega) (rk_0 hr).2 hWa rfl (fun h37 hS38 hE39 => ?_)
        have hE40 := sm_e_trans hE26 hE39
        refine go_s (pc' := 194) rfl rfl rfl rfl ?_
        refine go_sget (pc' := 195) (v := .ref as_) hS38 rfl rfl rfl (by decide) rfl rfl ?_
        refine go_s (pc' := 196) rfl rfl rfl rfl ?_
        refine go_s (pc' := 197) (st' := [.int 2, .int (nI (424 * rho)), .ref as_]) rfl rfl rfl rfl ?_
        refine go_nadd (pc' := 198) (a := (424 * rho)) (b := 2) rfl rfl rfl rfl rfl ?_
        refine go_s (pc' := 199) (st' := [.int 0, .int (nI ((424 * rho) + 2)), .ref as_]) rfl rfl rfl rfl ?_
        refine go_siast (pc' := 200) (q := ((424 * rho) + 2)) hS38 rfl (tr_as hr (by omega)) tbr_inj (Nat.le_of_ble_eq_true rfl) rfl (by omega) (rk_0 hr).2 hWa rfl (fun h41 hS42 hE43 => ?_)
        have hE44 := sm_e_trans hE40 hE43
        have hR45 : RS (uI (uI K27 51 ((424 * rho) + 1) ((m4.1 1) + 1)) 51 ((424 * rho) + 2) 0) rho (uF m4.1 1 (m4.1 1 + 1), [], m4.2.2) := RS_e0 (RS_F (j := 1) hR36 (by decide) (by decide) (by decide))
        have hf45 : rfr (uI J 5 0 0) (uI (uI K27 51 ((424 * rho) + 1) ((m4.1 1) + 1)) 51 ((424 * rho) + 2) 0) rho := rfr_trans hf27 (rfr_trans (rfr_u (by omega) (by omega)) (rfr_u (by omega) (by omega)))
        change sm (tbr am lm as_ ls) _ (uI (uI K27 51 ((424 * rho) + 1) ((m4.1 1) + 1)) 51 ((424 * rho) + 2) 0) Y at hS42
        obtain ⟨K45, eK45⟩ : ∃ y, y = (uI (uI K27 51 ((424 * rho) + 1) ((m4.1 1) + 1)) 51 ((424 * rho) + 2) 0) := ⟨_, rfl⟩
        rw [← eK45] at hR45 hf45 hS42
        have hk46 : prk K45 0 ∧ ¬ K45 11 0 = -1 ∧ rwi K45 0 = rho := ⟨by unfold prk; rw [rfr_c hf45 (by decide)]; exact hp, by rw [rfr_c hf45 (by decide)]; exact hn, (rfr_w hf45).trans hrho⟩
        refine go_s (pc' := 201) rfl rfl rfl rfl ?_
        refine go_s (pc' := 202) (st' := [.int 16, .ref 62]) rfl rfl rfl rfl ?_
        refine go_s (pc' := 203) rfl rfl rfl rfl ?_
        refine go_sget (pc' := 204) (v := .ref as_) hS42 rfl rfl rfl (by decide) rfl rfl ?_
        refine go_s (pc' := 205) rfl rfl rfl rfl ?_
        refine go_s (pc' := 206) (st' := [.int 1, .int (nI (424 * rho)), .ref as_, .int 16, .ref 62]) rfl rfl rfl rfl ?_
        refine go_nadd (pc' := 207) (a := (424 * rho)) (b := 1) rfl rfl rfl rfl rfl ?_
        refine go_sald (pc' := 208) (q := ((424 * rho) + 1)) (v := .int (m4.1 1 + 1)) hS42 rfl (tr_as hr (by omega)) rfl rfl (by omega) (congrArg Value.int (hR45.1 1 (by decide) (by decide) (by decide))) rfl ?_
        refine go_s (pc' := 209) rfl rfl rfl rfl ?_
        refine go_sget (pc' := 210) (v := .ref as_) hS42 rfl rfl rfl (by decide) rfl rfl ?_
        refine go_s (pc' := 211) rfl rfl rfl rfl ?_
        refine go_s (pc' := 212) (st' := [.int 0, .int (nI (424 * rho)), .ref as_, .int (m4.1 1 + 1), .int 16, .ref 62]) rfl rfl rfl rfl ?_
        refine go_nadd (pc' := 213) (a := (424 * rho)) (b := 0) rfl rfl rfl rfl rfl ?_
        refine go_sald (pc' := 214) (q := ((424 * rho) + 0)) (v := .int (m4.1 0)) hS42 rfl (tr_as hr (by omega)) rfl rfl (by omega) (congrArg Value.int (hR45.1 0 (by decide) (by decide) (by decide))) rfl ?_
        refine go_s (pc' := 215) (st' := [.int 0, .int (m4.1 0), .int (m4.1 1 + 1), .int 16, .ref 62]) rfl rfl rfl rfl ?_
        refine go_s (pc' := 216) (st' := [.int 0, .int 0, .int (m4.1 0), .int (m4.1 1 + 1), .int 16, .ref 62]) rfl rfl rfl rfl ?_
        refine go_s (pc' := 217) (st' := [.int 0, .int 0, .int 0, .int (m4.1 0), .int (m4.1 1 + 1), .int 16, .ref 62]) rfl rfl rfl rfl ?_
        refine go_callV (pc' := 218) rfl rfl rfl (Nat.le_of_ble_eq_true rfl) rfl (sm_o hS42 rfl) rfl rfl rfl (rs_aw hr hS42 hW hWa hk46.1 hk46.2.1 hk46.2.2 hls hl31 hR45 (by show m4.2.2.length < 41; have z := hmk.2.2.2.2.2; rw [← e4] at z; omega) (by show 0 ≤ 32; decide) (by omega)) (fun r h47 q48 => ?_)
        obtain ⟨rfl, K49, hS49, hE49, hR49, hg49⟩ := q48
        have hE50 := sm_e_trans hE44 hE49
        have hf49 := rfr_trans hf45 hg49
        change RS K49 rho (mG m4) at hR49
        rw [show mG m4 = mrs f by unfold mrs; rw [e4]] at hR49
        have hk51 : prk K49 0 ∧ ¬ K49 11 0 = -1 ∧ rwi K49 0 = rho := ⟨by unfold prk; rw [rfr_c hf49 (by decide)]; exact hp, by rw [rfr_c hf49 (by decide)]; exact hn, (rfr_w hf49).trans hrho⟩
        refine go_s (pc' := 219) rfl rfl rfl rfl ?_
        refine go_sget (pc' := 220) (v := .ref as_) hS49 rfl rfl rfl (by decide) rfl rfl ?_
        refine go_s (pc' := 221) rfl rfl rfl rfl ?_
        refine go_s (pc' := 222) (st' := [.int 3, .int (nI (424 * rho)), .ref as_]) rfl rfl rfl rfl ?_
        refine go_nadd (pc' := 223) (a := (424 * rho)) (b := 3) rfl rfl rfl rfl rfl ?_
        refine go_s (pc' := 224) (st' := [.int 2, .int (nI ((424 * rho) + 3)), .ref as_]) rfl rfl rfl rfl ?_
        refine go_siast (pc' := 225) (q := ((424 * rho) + 3)) hS49 rfl (tr_as hr (by omega)) tbr_inj (Nat.le_of_ble_eq_true rfl) rfl (by omega) (rk_0 hr).2 hWa rfl (fun h52 hS53 hE54 => ?_)
        have hE55 := sm_e_trans hE50 hE54
        refine go_s (pc' := 226) rfl rfl rfl rfl ?_
        refine go_sget (pc' := 227) (v := .ref 88) hS53 rfl rfl rfl (by decide) rfl rfl ?_
        refine go_s (pc' := 228) (st' := [.int 0, .ref 88]) rfl rfl rfl rfl ?_
        refine go_s (pc' := 229) (st' := [.int 0, .int 0, .ref 88]) rfl rfl rfl rfl ?_
        refine go_siast (pc' := 230) (q := 0) hS53 rfl (tr_s hr (a := 88) rfl (by decide)) tbr_inj (Nat.le_of_ble_eq_true rfl) rfl (by decide) (by decide) (hW _ (by decide) (by decide)) rfl (fun h56 hS57 hE58 => ?_)
        have hE59 := sm_e_trans hE55 hE58
        refine go_s (pc' := 231) rfl rfl rfl rfl ?_
        refine go_sget (pc' := 232) (v := .ref 88) hS57 rfl rfl rfl (by decide) rfl rfl ?_
        refine go_s (pc' := 233) (st' := [.int 1, .ref 88]) rfl rfl rfl rfl ?_
        refine go_s (pc' := 234) (st' := [.int 0, .int 1, .ref 88]) rfl rfl rfl rfl ?_
        refine go_siast (pc' := 235) (q := 1) hS57 rfl (tr_s hr (a := 88) rfl (by decide)) tbr_inj (Nat.le_of_ble_eq_true rfl) rfl (by decide) (by decide) (hW _ (by decide) (by decide)) rfl (fun h60 hS61 hE62 => ?_)
        have hE63 := sm_e_trans hE59 hE62
        refine go_s (pc' := 236) rfl rfl rfl rfl ?_
        refine go_sget (pc' := 237) (v := .ref 83) hS61 rfl rfl rfl (by decide) rfl rfl ?_
        refine go_s (pc' := 238) (st' := [.int 0, .ref 83]) rfl rfl rfl rfl ?_
        refine go_s (pc' := 239) (st' := [.int 2, .int 0, .ref 83]) rfl rfl rfl rfl ?_
        refine go_siast (pc' := 240) (q := 0) hS61 rfl (tr_s hr (a := 83) rfl (by decide)) tbr_inj (Nat.le_of_ble_eq_true rfl) rfl (by decide) (by decide) (hW _ (by decide) (by decide)) rfl (fun h64 hS65 hE66 => ?_)
        have hE67 := sm_e_trans hE63 hE66
        refine go_s (pc' := 241) rfl rfl rfl rfl ?_
        refine go_s (pc' := 242) (st' := [.int 1, .ref 62]) rfl rfl rfl rfl ?_
        refine go_sput (pc' := 243) hS65 rfl rfl rfl (by decide) tbr_inj (Nat.le_of_ble_eq_true rfl) rfl (hW _ (by decide) (by decide)) rfl (fun h68 hS69 hE70 => ?_)
        have hE71 := sm_e_trans hE67 hE70
        refine go_ret rfl rfl ?_
        refine ⟨rfl, _, hS69, hE71, ?_, ?_⟩
        · rw [mrs2_e]
          refine RS_c (J := uI K49 51 (424 * rho + 3) 2) (fun j => rfl) (RS_F (j := 3) hR49 (by decide) (by decide) (by decide))
        · rw [hch]
          exact rfr_i (by decide) (rfr_i (by decide) (rfr_i (by decide) (rfr_i (by decide) (rfr_trans hf49 (rfr_u (by omega) (by omega))))))
      · skip
        show am_Go _ _ _ _ 177 _ [.int 1] _ _
        refine go_ifP (t' := 181) (pc' := 178) rfl rfl rfl (fun (c : (1 : Int32) = 0) => absurd c (by decide)) (fun _ => ?_)
        refine go_s (pc' := 179) rfl rfl rfl rfl ?_
        refine go_s (pc' := 180) rfl rfl rfl rfl ?_
        refine go_callV (pc' := 181) rfl rfl rfl (Nat.le_of_ble_eq_true rfl) rfl (sm_o hS24 rfl) rfl rfl rfl (rs_bo hr hS24 hW hWa hk28.1 hk28.2.1 hk28.2.2 hls hl31 hR32 (t := 1) (hmk.2.2.2.2.1 u35).1 (EK_3 hEK) hmk.2.2.1 (by have z := (hmk.2.2.2.2.1 u35).2; omega) (by omega)) (fun r h72 q73 => ?_)
        obtain ⟨rfl, K74, hS74, hE74, hR74, hg74⟩ := q73
        have hE75 := sm_e_trans hE26 hE74
        have hf74 := rfr_trans hf27 hg74
        have hk76 : prk K74 0 ∧ ¬ K74 11 0 = -1 ∧ rwi K74 0 = rho := ⟨by unfold prk; rw [rfr_c hf74 (by decide)]; exact hp, by rw [rfr_c hf74 (by decide)]; exact hn, (rfr_w hf74).trans hrho⟩
        have hR77 : RS K74 rho (mr4 f) := by rw [show mr4 f = mB (mr3 f) 1 from if_pos u35]; exact hR74
        obtain ⟨m4, e4⟩ : ∃ y : ms, y = mr4 f := ⟨_, rfl⟩
        rw [← e4] at hR77
        refine go_s (pc' := 182) (lo' := [some (.ref 62), some (.int 1), some (.int (nI (424 * rho))), some (.int 245), some (.int (nI (rd f (f 80) 32 0))), some (.int 2)]) rfl rfl rfl rfl ?_
        refine go_s (pc' := 171) rfl rfl rfl rfl ?_
        refine go_s (pc' := 172) rfl rfl rfl rfl ?_
        refine go_s (pc' := 173) (st' := [.int 2, .int 2]) rfl rfl rfl rfl ?_
        refine go_icmpP (t' := 183) (pc' := 174) rfl rfl rfl (fun _ => ?_) (fun (c : ¬ (2 ≤ (2 : Int32))) => absurd (by decide) c)
        refine go_s (pc' := 184) rfl rfl rfl rfl ?_
        refine go_sget (pc' := 185) (v := .ref as_) hS74 rfl rfl rfl (by decide) rfl rfl ?_
        refine go_s (pc' := 186) rfl rfl rfl rfl ?_
        refine go_s (pc' := 187) (st' := [.int 1, .int (nI (424 * rho)), .ref as_]) rfl rfl rfl rfl ?_
        refine go_nadd (pc' := 188) (a := (424 * rho)) (b := 1) rfl rfl rfl rfl rfl ?_
        refine go_s (pc' := 189) rfl rfl rfl rfl ?_
        refine go_sald (pc' := 190) (q := ((424 * rho) + 1)) (v := .int (m4.1 1)) hS74 rfl (tr_as hr (by omega)) rfl rfl (by omega) (congrArg Value.int (hR77.1 1 (by decide) (by decide) (by decide))) rfl ?_
        refine go_s (pc' := 191) (st' := [.int 1, .int (m4.1 1), .int (nI ((424 * rho) + 1)), .ref as_]) rfl rfl rfl rfl ?_
        refine go_s (pc' := 192) rfl rfl rfl rfl ?_
        refine go_siast (pc' := 193) (q := ((424 * rho) + 1)) hS74 rfl (tr_as hr (by omega)) tbr_inj (Nat.le_of_ble_eq_true rfl) rfl (by omega) (rk_0 hr).2 hWa rfl (fun h78 hS79 hE80 => ?_)
        have hE81 := sm_e_trans hE75 hE80
        refine go_s (pc' := 194) rfl rfl rfl rfl ?_
        refine go_sget (pc' := 195) (v := .ref as_) hS79 rfl rfl rfl (by decide) rfl rfl ?_
        refine go_s (pc' := 196) rfl rfl rfl rfl ?_
        refine go_s (pc' := 197) (st' := [.int 2, .int (nI (424 * rho)), .ref as_]) rfl rfl rfl rfl ?_
        refine go_nadd (pc' := 198) (a := (424 * rho)) (b := 2) rfl rfl rfl rfl rfl ?_
        refine go_s (pc' := 199) (st' := [.int 0, .int (nI ((424 * rho) + 2)), .ref as_]) rfl rfl rfl rfl ?_
        refine go_siast (pc' := 200) (q := ((424 * rho) + 2)) hS79 rfl (tr_as hr (by omega)) tbr_inj (Nat.le_of_ble_eq_true rfl) rfl (by omega) (rk_0 hr).2 hWa rfl (fun h82 hS83 hE84 => ?_)
        have hE85 := sm_e_trans hE81 hE84
        have hR86 : RS (uI (uI K74 51 ((424 * rho) + 1) ((m4.1 1) + 1)) 51 ((424 * rho) + 2) 0) rho (uF m4.1 1 (m4.1 1 + 1), [], m4.2.2) := RS_e0 (RS_F (j := 1) hR77 (by decide) (by decide) (by decide))
        have hf86 : rfr (uI J 5 0 0) (uI (uI K74 51 ((424 * rho) + 1) ((m4.1 1) + 1)) 51 ((424 * rho) + 2) 0) rho := rfr_trans hf74 (rfr_trans (rfr_u (by omega) (by omega)) (rfr_u (by omega) (by omega)))
        change sm (tbr am lm as_ ls) _ (uI (uI K74 51 ((424 * rho) + 1) ((m4.1 1) + 1)) 51 ((424 * rho) + 2) 0) Y at hS83
        obtain ⟨K86, eK86⟩ : ∃ y, y = (uI (uI K74 51 ((424 * rho) + 1) ((m4.1 1) + 1)) 51 ((424 * rho) + 2) 0) := ⟨_, rfl⟩
        rw [← eK86] at hR86 hf86 hS83
        have hk87 : prk K86 0 ∧ ¬ K86 11 0 = -1 ∧ rwi K86 0 = rho := ⟨by unfold prk; rw [rfr_c hf86 (by decide)]; exact hp, by rw [rfr_c hf86 (by decide)]; exact hn, (rfr_w hf86).trans hrho⟩
        refine go_s (pc' := 201) rfl rfl rfl rfl ?_
        refine go_s (pc' := 202) (st' := [.int 16, .ref 62]) rfl rfl rfl rfl ?_
        refine go_s (pc' := 203) rfl rfl rfl rfl ?_
        refine go_sget (pc' := 204) (v := .ref as_) hS83 rfl rfl rfl (by decide) rfl rfl ?_
        refine go_s (pc' := 205) rfl rfl rfl rfl ?_
        refine go_s (pc' := 206) (st' := [.int 1, .int (nI (424 * rho)), .ref as_, .int 16, .ref 62]) rfl rfl rfl rfl ?_
        refine go_nadd (pc' := 207) (a := (424 * rho)) (b := 1) rfl rfl rfl rfl rfl ?_
        refine go_sald (pc' := 208) (q := ((424 * rho) + 1)) (v := .int (m4.1 1 + 1)) hS83 rfl (tr_as hr (by omega)) rfl rfl (by omega) (congrArg Value.int (hR86.1 1 (by decide) (by decide) (by decide))) rfl ?_
        refine go_s (pc' := 209) rfl rfl rfl rfl ?_
        refine go_sget (pc' := 210) (v := .ref as_) hS83 rfl rfl rfl (by decide) rfl rfl ?_
        refine go_s (pc' := 211) rfl rfl rfl rfl ?_
        refine go_s (pc' := 212) (st' := [.int 0, .int (nI (424 * rho)), .ref as_, .int (m4.1 1 + 1), .int 16, .ref 62]) rfl rfl rfl rfl ?_
        refine go_nadd (pc' := 213) (a := (424 * rho)) (b := 0) rfl rfl rfl rfl rfl ?_
        refine go_sald (pc' := 214) (q := ((424 * rho) + 0)) (v := .int (m4.1 0)) hS83 rfl (tr_as hr (by omega)) rfl rfl (by omega) (congrArg Value.int (hR86.1 0 (by decide) (by decide) (by decide))) rfl ?_
        refine go_s (pc' := 215) (st' := [.int 0, .int (m4.1 0), .int (m4.1 1 + 1), .int 16, .ref 62]) rfl rfl rfl rfl ?_
        refine go_s (pc' := 216) (st' := [.int 0, .int 0, .int (m4.1 0), .int (m4.1 1 + 1), .int 16, .ref 62]) rfl rfl rfl rfl ?_
        refine go_s (pc' := 217) (st' := [.int 0, .int 0, .int 0, .int (m4.1 0), .int (m4.1 1 + 1), .int 16, .ref 62]) rfl rfl rfl rfl ?_
        refine go_callV (pc' := 218) rfl rfl rfl (Nat.le_of_ble_eq_true rfl) rfl (sm_o hS83 rfl) rfl rfl rfl (rs_aw hr hS83 hW hWa hk87.1 hk87.2.1 hk87.2.2 hls hl31 hR86 (by show m4.2.2.length < 41; have z := hmk.2.2.2.2.2; rw [← e4] at z; omega) (by show 0 ≤ 32; decide) (by omega)) (fun r h88 q89 => ?_)
        obtain ⟨rfl, K90, hS90, hE90, hR90, hg90⟩ := q89
        have hE91 := sm_e_trans hE85 hE90
        have hf90 := rfr_trans hf86 hg90
        change RS K90 rho (mG m4) at hR90
        rw [show mG m4 = mrs f by unfold mrs; rw [e4]] at hR90
        have hk92 : prk K90 0 ∧ ¬ K90 11 0 = -1 ∧ rwi K90 0 = rho := ⟨by unfold prk; rw [rfr_c hf90 (by decide)]; exact hp, by rw [rfr_c hf90 (by decide)]; exact hn, (rfr_w hf90).trans hrho⟩
        refine go_s (pc' := 219) rfl rfl rfl rfl ?_
        refine go_sget (pc' := 220) (v := .ref as_) hS90 rfl rfl rfl (by decide) rfl rfl ?_
        refine go_s (pc' := 221) rfl rfl rfl rfl ?_
        refine go_s (pc' := 222) (st' := [.int 3, .int (nI (424 * rho)), .ref as_]) rfl rfl rfl rfl ?_
        refine go_nadd (pc' := 223) (a := (424 * rho)) (b := 3) rfl rfl rfl rfl rfl ?_
        refine go_s (pc' := 224) (st' := [.int 2, .int (nI ((424 * rho) + 3)), .ref as_]) rfl rfl rfl rfl ?_
        refine go_siast (pc' := 225) (q := ((424 * rho) + 3)) hS90 rfl (tr_as hr (by omega)) tbr_inj (Nat.le_of_ble_eq_true rfl) rfl (by omega) (rk_0 hr).2 hWa rfl (fun h93 hS94 hE95 => ?_)
        have hE96 := sm_e_trans hE91 hE95
        refine go_s (pc' := 226) rfl rfl rfl rfl ?_
        refine go_sget (pc' := 227) (v := .ref 88) hS94 rfl rfl rfl (by decide) rfl rfl ?_
        refine go_s (pc' := 228) (st' := [.int 0, .ref 88]) rfl rfl rfl rfl ?_
        refine go_s (pc' := 229) (st' := [.int 0, .int 0, .ref 88]) rfl rfl rfl rfl ?_
        refine go_siast (pc' := 230) (q := 0) hS94 rfl (tr_s hr (a := 88) rfl (by decide)) tbr_inj (Nat.le_of_ble_eq_true rfl) rfl (by decide) (by decide) (hW _ (by decide) (by decide)) rfl (fun h97 hS98 hE99 => ?_)
        have hE100 := sm_e_trans hE96 hE99
        refine go_s (pc' := 231) rfl rfl rfl rfl ?_
        refine go_sget (pc' := 232) (v := .ref 88) hS98 rfl rfl rfl (by decide) rfl rfl ?_
        refine go_s (pc' := 233) (st' := [.int 1, .ref 88]) rfl rfl rfl rfl ?_
        refine go_s (pc' := 234) (st' := [.int 0, .int 1, .ref 88]) rfl rfl rfl rfl ?_
        refine go_siast (pc' := 235) (q := 1) hS98 rfl (tr_s hr (a := 88) rfl (by decide)) tbr_inj (Nat.le_of_ble_eq_true rfl) rfl (by decide) (by decide) (hW _ (by decide) (by decide)) rfl (fun h101 hS102 hE103 => ?_)
        have hE104 := sm_e_trans hE100 hE103
        refine go_s (pc' := 236) rfl rfl rfl rfl ?_
        refine go_sget (pc' := 237) (v := .ref 83) hS102 rfl rfl rfl (by decide) rfl rfl ?_
        refine go_s (pc' := 238) (st' := [.int 0, .ref 83]) rfl rfl rfl rfl ?_
        refine go_s (pc' := 239) (st' := [.int 2, .int 0, .ref 83]) rfl rfl rfl rfl ?_
        refine go_siast (pc' := 240) (q := 0) hS102 rfl (tr_s hr (a := 83) rfl (by decide)) tbr_inj (Nat.le_of_ble_eq_true rfl) rfl (by decide) (by decide) (hW _ (by decide) (by decide)) rfl (fun h105 hS106 hE107 => ?_)
        have hE108 := sm_e_trans hE104 hE107
        refine go_s (pc' := 241) rfl rfl rfl rfl ?_
        refine go_s (pc' := 242) (st' := [.int 1, .ref 62]) rfl rfl rfl rfl ?_
        refine go_sput (pc' := 243) hS106 rfl rfl rfl (by decide) tbr_inj (Nat.le_of_ble_eq_true rfl) rfl (hW _ (by decide) (by decide)) rfl (fun h109 hS110 hE111 => ?_)
        have hE112 := sm_e_trans hE108 hE111
        refine go_ret rfl rfl ?_
        refine ⟨rfl, _, hS110, hE112, ?_, ?_⟩
        · rw [mrs2_e]
          refine RS_c (J := uI K90 51 (424 * rho + 3) 2) (fun j => rfl) (RS_F (j := 3) hR90 (by decide) (by decide) (by decide))
        · rw [hch]
          exact rfr_i (by decide) (rfr_i (by decide) (rfr_i (by decide) (rfr_i (by decide) (rfr_trans hf90 (rfr_u (by omega) (by omega))))))
    · skip
      show am_Go _ _ _ _ 177 _ [.int 1] _ _
      refine go_ifP (t' := 181) (pc' := 178) rfl rfl rfl (fun (c : (1 : Int32) = 0) => absurd c (by decide)) (fun _ => ?_)
      refine go_s (pc' := 179) rfl rfl rfl rfl ?_
      refine go_s (pc' := 180) rfl rfl rfl rfl ?_
      refine go_callV (pc' := 181) rfl rfl rfl (Nat.le_of_ble_eq_true rfl) rfl (sm_o hS24 rfl) rfl rfl rfl (rs_bo hr hS24 hW hWa hk28.1 hk28.2.1 hk28.2.2 hls hl31 hR27 (t := 0) (by have z := hmk.2.1 u31; exact z) hEK hmk.1 (by show 0 + cw (rdL f) 0 (rdL f).length ≤ 40; have z := cw_le (rdL f) 0 (rdL f).length; omega) (by omega)) (fun r h113 q114 => ?_)
      obtain ⟨rfl, K115, hS115, hE115, hR115, hg115⟩ := q114
      have hE116 := sm_e_trans hE26 hE115
      have hf115 := rfr_trans hf27 hg115
      have hk117 : prk K115 0 ∧ ¬ K115 11 0 = -1 ∧ rwi K115 0 = rho := ⟨by unfold prk; rw [rfr_c hf115 (by decide)]; exact hp, by rw [rfr_c hf115 (by decide)]; exact hn, (rfr_w hf115).trans hrho⟩
      have hR118 : RS K115 rho (mr3 f) := by rw [mr3_y u31]; exact hR115
      refine go_s (pc' := 182) (lo' := [some (.ref 62), some (.int 1), some (.int (nI (424 * rho))), some (.int 245), some (.int (nI (rd f (f 80) 32 0))), some (.int 1)]) rfl rfl rfl rfl ?_
      refine go_s (pc' := 171) rfl rfl rfl rfl ?_
      refine go_s (pc' := 172) rfl rfl rfl rfl ?_
      refine go_s (pc' := 173) (st' := [.int 2, .int 1]) rfl rfl rfl rfl ?_
      refine go_icmpP (t' := 183) (pc' := 174) rfl rfl rfl (fun (c : 2 ≤ (1 : Int32)) => absurd c (by decide)) (fun _ => ?_)
      refine go_s (pc' := 175) rfl rfl rfl rfl ?_
      refine go_s (pc' := 176) rfl rfl rfl rfl ?_
      refine go_callV (pc' := 177) rfl rfl rfl (Nat.le_of_ble_eq_true rfl) rfl (sm_o hS115 rfl) rfl rfl rfl (rs_ho hr hS115 hk117.1 hk117.2.1 hk117.2.2 hls hl31 hR118 (t := 1) hmk.2.2.2.1 (EK_3 hEK) (by omega)) (fun r h119 q120 => ?_)
      obtain ⟨rfl, rfl⟩ := q120
      rw [show hop (mr3 f) 1 = hop (mr3 f) 1 from rfl]
      cases u121 : hop (mr3 f) 1
      · skip
        show am_Go _ _ _ _ 177 _ [.int 0] _ _
        refine go_ifP (t' := 181) (pc' := 178) rfl rfl rfl (fun _ => ?_) (fun (c : ¬ ((0 : Int32) = 0)) => absurd (by decide) c)
        have hR122 : RS K115 rho (mr4 f) := by rw [show mr4 f = mr3 f from if_neg (by rw [u121]; decide)]; exact hR118
        obtain ⟨m4, e4⟩ : ∃ y : ms, y = mr4 f := ⟨_, rfl⟩
        rw [← e4] at hR122
        refine go_s (pc' := 182) (lo' := [some (.ref 62), some (.int 1), some (.int (nI (424 * rho))), some (.int 245), some (.int (nI (rd f (f 80) 32 0))), some (.int 2)]) rfl rfl rfl rfl ?_
        refine go_s (pc' := 171) rfl rfl rfl rfl ?_
        refine go_s (pc' := 172) rfl rfl rfl rfl ?_
        refine go_s (pc' := 173) (st' := [.int 2, .int 2]) rfl rfl rfl rfl ?_
        refine go_icmpP (t' := 183) (pc' := 174) rfl rfl rfl (fun _ => ?_) (fun (c : ¬ (2 ≤ (2 : Int32))) => absurd (by decide) c)
        refine go_s (pc' := 184) rfl rfl rfl rfl ?_
        refine go_sget (pc' := 185) (v := .ref as_) hS115 rfl rfl rfl (by decide) rfl rfl ?_
        refine go_s (pc' := 186) rfl rfl rfl rfl ?_
        refine go_s (pc' := 187) (st' := [.int 1, .int (nI (424 * rho)), .ref as_]) rfl rfl rfl rfl ?_
        refine go_nadd (pc' := 188) (a := (424 * rho)) (b := 1) rfl rfl rfl rfl rfl ?_
        refine go_s (pc' := 189) rfl rfl rfl rfl ?_
        refine go_sald (pc' := 190) (q := ((424 * rho) + 1)) (v := .int (m4.1 1)) hS115 rfl (tr_as hr (by omega)) rfl rfl (by omega) (congrArg Value.int (hR122.1 1 (by decide) (by decide) (by decide))) rfl ?_
        refine go_s (pc' := 191) (st' := [.int 1, .int (m4.1 1), .int (nI ((424 * rho) + 1)), .ref as_]) rfl rfl rfl rfl ?_
        refine go_s (pc' := 192) rfl rfl rfl rfl ?_
        refine go_siast (pc' := 193) (q := ((424 * rho) + 1)) hS115 rfl (tr_as hr (by omega)) tbr_inj (Nat.le_of_ble_eq_true rfl) rfl (by omega) (rk_0 hr).2 hWa rfl (fun h123 hS124 hE125 => ?_)
        have hE126 := sm_e_trans hE116 hE125
        refine go_s (pc' := 194) rfl rfl rfl rfl ?_
        refine go_sget (pc' := 195) (v := .ref as_) hS124 rfl rfl rfl (by decide) rfl rfl ?_
        refine go_s (pc' := 196) rfl rfl rfl rfl ?_
        refine go_s (pc' := 197) (st' := [.int 2, .int (nI (424 * rho)), .ref as_]) rfl rfl rfl rfl ?_
        refine go_nadd (pc' := 198) (a := (424 * rho)) (b := 2) rfl rfl rfl rfl rfl ?_
        refine go_s (pc' := 199) (st' := [.int 0, .int (nI ((424 * rho) + 2)), .ref as_]) rfl rfl rfl rfl ?_
        refine go_siast (pc' := 200) (q := ((424 * rho) + 2)) hS124 rfl (tr_as hr (by omega)) tbr_inj (Nat.le_of_ble_eq_true rfl) rfl (by omega) (rk_0 hr).2 hWa rfl (fun h127 hS128 hE129 => ?_)
        have hE130 := sm_e_trans hE126 hE129
        have hR131 : RS (uI (uI K115 51 ((424 * rho) + 1) ((m4.1 1) + 1)) 51 ((424 * rho) + 2) 0) rho (uF m4.1 1 (m4.1 1 + 1), [], m4.2.2) := RS_e0 (RS_F (j := 1) hR122 (by decide) (by decide) (by decide))
        have hf131 : rfr (uI J 5 0 0) (uI (uI K115 51 ((424 * rho) + 1) ((m4.1 1) + 1)) 51 ((424 * rho) + 2) 0) rho := rfr_trans hf115 (rfr_trans (rfr_u (by omega) (by omega)) (rfr_u (by omega) (by omega)))
        change sm (tbr am lm as_ ls) _ (uI (uI K115 51 ((424 * rho) + 1) ((m4.1 1) + 1)) 51 ((424 * rho) + 2) 0) Y at hS128
        obtain ⟨K131, eK131⟩ : ∃ y, y = (uI (uI K115 51 ((424 * rho) + 1) ((m4.1 1) + 1)) 51 ((424 * rho) + 2) 0) := ⟨_, rfl⟩
        rw [← eK131] at hR131 hf131 hS128
        have hk132 : prk K131 0 ∧ ¬ K131 11 0 = -1 ∧ rwi K131 0 = rho := ⟨by unfold prk; rw [rfr_c hf131 (by decide)]; exact hp, by rw [rfr_c hf131 (by decide)]; exact hn, (rfr_w hf131).trans hrho⟩
        refine go_s (pc' := 201) rfl rfl rfl rfl ?_
        refine go_s (pc' := 202) (st' := [.int 16, .ref 62]) rfl rfl rfl rfl ?_
        refine go_s (pc' := 203) rfl rfl rfl rfl ?_
        refine go_sget (pc' := 204) (v := .ref as_) hS128 rfl rfl rfl (by decide) rfl rfl ?_
        refine go_s (pc' := 205) rfl rfl rfl rfl ?_
        refine go_s (pc' := 206) (st' := [.int 1, .int (nI (424 * rho)), .ref as_, .int 16, .ref 62]) rfl rfl rfl rfl ?_
        refine go_nadd (pc' := 207) (a := (424 * rho)) (b := 1) rfl rfl rfl rfl rfl ?_
        refine go_sald (pc' := 208) (q := ((424 * rho) + 1)) (v := .int (m4.1 1 + 1)) hS128 rfl (tr_as hr (by omega)) rfl rfl (by omega) (congrArg Value.int (hR131.1 1 (by decide) (by decide) (by decide))) rfl ?_
        refine go_s (pc' := 209) rfl rfl rfl rfl ?_
        refine go_sget (pc' := 210) (v := .ref as_) hS128 rfl rfl rfl (by decide) rfl rfl ?_
        refine go_s (pc' := 211) rfl rfl rfl rfl ?_
        refine go_s (pc' := 212) (st' := [.int 0, .int (nI (424 * rho)), .ref as_, .int (m4.1 1 + 1), .int 16, .ref 62]) rfl rfl rfl rfl ?_
        refine go_nadd (pc' := 213) (a := (424 * rho)) (b := 0) rfl rfl rfl rfl rfl ?_
        refine go_sald (pc' := 214) (q := ((424 * rho) + 0)) (v := .int (m4.1 0)) hS128 rfl (tr_as hr (by omega)) rfl rfl (by omega) (congrArg Value.int (hR131.1 0 (by decide) (by decide) (by decide))) rfl ?_
        refine go_s (pc' := 215) (st' := [.int 0, .int (m4.1 0), .int (m4.1 1 + 1), .int 16, .ref 62]) rfl rfl rfl rfl ?_
        refine go_s (pc' := 216) (st' := [.int 0, .int 0, .int (m4.1 0), .int (m4.1 1 + 1), .int 16, .ref 62]) rfl rfl rfl rfl ?_
        refine go_s (pc' := 217) (st' := [.int 0, .int 0, .int 0, .int (m4.1 0), .int (m4.1 1 + 1), .int 16, .ref 62]) rfl rfl rfl rfl ?_
        refine go_callV (pc' := 218) rfl rfl rfl (Nat.le_of_ble_eq_true rfl) rfl (sm_o hS128 rfl) rfl rfl rfl (rs_aw hr hS128 hW hWa hk132.1 hk132.2.1 hk132.2.2 hls hl31 hR131 (by show m4.2.2.length < 41; have z := hmk.2.2.2.2.2; rw [← e4] at z; omega) (by show 0 ≤ 32; decide) (by omega)) (fun r h133 q134 => ?_)
        obtain ⟨rfl, K135, hS135, hE135, hR135, hg135⟩ := q134
        have hE136 := sm_e_trans hE130 hE135
        have hf135 := rfr_trans hf131 hg135
        change RS K135 rho (mG m4) at hR135
        rw [show mG m4 = mrs f by unfold mrs; rw [e4]] at hR135
        have hk137 : prk K135 0 ∧ ¬ K135 11 0 = -1 ∧ rwi K135 0 = rho := ⟨by unfold prk; rw [rfr_c hf135 (by decide)]; exact hp, by rw [rfr_c hf135 (by decide)]; exact hn, (rfr_w hf135).trans hrho⟩
        refine go_s (pc' := 219) rfl rfl rfl rfl ?_
        refine go_sget (pc' := 220) (v := .ref as_) hS135 rfl rfl rfl (by decide) rfl rfl ?_
        refine go_s (pc' := 221) rfl rfl rfl rfl ?_
        refine go_s (pc' := 222) (st' := [.int 3, .int (nI (424 * rho)), .ref as_]) rfl rfl rfl rfl ?_
        refine go_nadd (pc' := 223) (a := (424 * rho)) (b := 3) rfl rfl rfl rfl rfl ?_
        refine go_s (pc' := 224) (st' := [.int 2, .int (nI ((424 * rho) + 3)), .ref as_]) rfl rfl rfl rfl ?_
        refine go_siast (pc' := 225) (q := ((424 * rho) + 3)) hS135 rfl (tr_as hr (by omega)) tbr_inj (Nat.le_of_ble_eq_true rfl) rfl (by omega) (rk_0 hr).2 hWa rfl (fun h138 hS139 hE140 => ?_)
        have hE141 := sm_e_trans hE136 hE140
        refine go_s (pc' := 226) rfl rfl rfl rfl ?_
        refine go_sget (pc' := 227) (v := .ref 88) hS139 rfl rfl rfl (by decide) rfl rfl ?_
        refine go_s (pc' := 228) (st' := [.int 0, .ref 88]) rfl rfl rfl rfl ?_
        refine go_s (pc' := 229) (st' := [.int 0, .int 0, .ref 88]) rfl rfl rfl rfl ?_
        refine go_siast (pc' := 230) (q := 0) hS139 rfl (tr_s hr (a := 88) rfl (by decide)) tbr_inj (Nat.le_of_ble_eq_true rfl) rfl (by decide) (by decide) (hW _ (by decide) (by decide)) rfl (fun h142 hS143 hE144 => ?_)
        have hE145 := sm_e_trans hE141 hE144
        refine go_s (pc' := 231) rfl rfl rfl rfl ?_
        refine go_sget (pc' := 232) (v := .ref 88) hS143 rfl rfl rfl (by decide) rfl rfl ?_
        refine go_s (pc' := 233) (st' := [.int 1, .ref 88]) rfl rfl rfl rfl ?_
        refine go_s (pc' := 234) (st' := [.int 0, .int 1, .ref 88]) rfl rfl rfl rfl ?_
        refine go_siast (pc' := 235) (q := 1) hS143 rfl (tr_s hr (a := 88) rfl (by decide)) tbr_inj (Nat.le_of_ble_eq_true rfl) rfl (by decide) (by decide) (hW _ (by decide) (by decide)) rfl (fun h146 hS147 hE148 => ?_)
        have hE149 := sm_e_trans hE145 hE148
        refine go_s (pc' := 236) rfl rfl rfl rfl ?_
        refine go_sget (pc' := 237) (v := .ref 83) hS147 rfl rfl rfl (by decide) rfl rfl ?_
        refine go_s (pc' := 238) (st' := [.int 0, .ref 83]) rfl rfl rfl rfl ?_
        refine go_s (pc' := 239) (st' := [.int 2, .int 0, .ref 83]) rfl rfl rfl rfl ?_
        refine go_siast (pc' := 240) (q := 0) hS147 rfl (tr_s hr (a := 83) rfl (by decide)) tbr_inj (Nat.le_of_ble_eq_true rfl) rfl (by decide) (by decide) (hW _ (by decide) (by decide)) rfl (fun h150 hS151 hE152 => ?_)
        have hE153 := sm_e_trans hE149 hE152
        refine go_s (pc' := 241) rfl rfl rfl rfl ?_
        refine go_s (pc' := 242) (st' := [.int 1, .ref 62]) rfl rfl rfl rfl ?_
        refine go_sput (pc' := 243) hS151 rfl rfl rfl (by decide) tbr_inj (Nat.le_of_ble_eq_true rfl) rfl (hW _ (by decide) (by decide)) rfl (fun h154 hS155 hE156 => ?_)
        have hE157 := sm_e_trans hE153 hE156
        refine go_ret rfl rfl ?_
        refine ⟨rfl, _, hS155, hE157, ?_, ?_⟩
        · rw [mrs2_e]
          refine RS_c (J := uI K135 51 (424 * rho + 3) 2) (fun j => rfl) (RS_F (j := 3) hR135 (by decide) (by decide) (by decide))
        · rw [hch]
          exact rfr_i (by decide) (rfr_i (by decide) (rfr_i (by decide) (rfr_i (by decide) (rfr_trans hf135 (rfr_u (by omega) (by omega))))))
      · skip
        show am_Go _ _ _ _ 177 _ [.int 1] _ _
        refine go_ifP (t' := 181) (pc' := 178) rfl rfl rfl (fun (c : (1 : Int32) = 0) => absurd c (by decide)) (fun _ => ?_)
        refine go_s (pc' := 179) rfl rfl rfl rfl ?_
        refine go_s (pc' := 180) rfl rfl rfl rfl ?_
        refine go_callV (pc' := 181) rfl rfl rfl (Nat.le_of_ble_eq_true rfl) rfl (sm_o hS115 rfl) rfl rfl rfl (rs_bo hr hS115 hW hWa hk117.1 hk117.2.1 hk117.2.2 hls hl31 hR118 (t := 1) (hmk.2.2.2.2.1 u121).1 (EK_3 hEK) hmk.2.2.1 (by have z := (hmk.2.2.2.2.1 u121).2; omega) (by omega)) (fun r h158 q159 => ?_)
        obtain ⟨rfl, K160, hS160, hE160, hR160, hg160⟩ := q159
        have hE161 := sm_e_trans hE116 hE160
        have hf160 := rfr_trans hf115 hg160
        have hk162 : prk K160 0 ∧ ¬ K160 11 0 = -1 ∧ rwi K160 0 = rho := ⟨by unfold prk; rw [rfr_c hf160 (by decide)]; exact hp, by rw [rfr_c hf160 (by decide)]; exact hn, (rfr_w hf160).trans hrho⟩
        have hR163 : RS K160 rho (mr4 f) := by rw [show mr4 f = mB (mr3 f) 1 from if_pos u121]; exact hR160
        obtain ⟨m4, e4⟩ : ∃ y : ms, y = mr4 f := ⟨_, rfl⟩
        rw [← e4] at hR163
        refine go_s (pc' := 182) (lo' := [some (.ref 62), some (.int 1), some (.int (nI (424 * rho))), some (.int 245), some (.int (nI (rd f (f 80) 32 0))), some (.int 2)]) rfl rfl rfl rfl ?_
        refine go_s (pc' := 171) rfl rfl rfl rfl ?_
        refine go_s (pc' := 172) rfl rfl rfl rfl ?_
        refine go_s (pc' := 173) (st' := [.int 2, .int 2]) rfl rfl rfl rfl ?_
        refine go_icmpP (t' := 183) (pc' := 174) rfl rfl rfl (fun _ => ?_) (fun (c : ¬ (2 ≤ (2 : Int32))) => absurd (by decide) c)
        refine go_s (pc' := 184) rfl rfl rfl rfl ?_
        refine go_sget (pc' := 185) (v := .ref as_) hS160 rfl rfl rfl (by decide) rfl rfl ?_
        refine go_s (pc' := 186) rfl rfl rfl rfl ?_
        refine go_s (pc' := 187) (st' := [.int 1, .int (nI (424 * rho)), .ref as_]) rfl rfl rfl rfl ?_
        refine go_nadd (pc' := 188) (a := (424 * rho)) (b := 1) rfl rfl rfl rfl rfl ?_
        refine go_s (pc' := 189) rfl rfl rfl rfl ?_
        refine go_sald (pc' := 190) (q := ((424 * rho) + 1)) (v := .int (m4.1 1)) hS160 rfl (tr_as hr (by omega)) rfl rfl (by omega) (congrArg Value.int (hR163.1 1 (by decide) (by decide) (by decide))) rfl ?_
        refine go_s (pc' := 191) (st' := [.int 1, .int (m4.1 1), .int (nI ((424 * rho) + 1)), .ref as_]) rfl rfl rfl rfl ?_
        refine go_s (pc' := 192) rfl rfl rfl rfl ?_
        refine go_siast (pc' := 193) (q := ((424 * rho) + 1)) hS160 rfl (tr_as hr (by omega)) tbr_inj (Nat.le_of_ble_eq_true rfl) rfl (by omega) (rk_0 hr).2 hWa rfl (fun h164 hS165 hE166 => ?_)
        have hE167 := sm_e_trans hE161 hE166
        refine go_s (pc' := 194) rfl rfl rfl rfl ?_
        refine go_sget (pc' := 195) (v := .ref as_) hS165 rfl rfl rfl (by decide) rfl rfl ?_
        refine go_s (pc' := 196) rfl rfl rfl rfl ?_
        refine go_s (pc' := 197) (st' := [.int 2, .int (nI (424 * rho)), .ref as_]) rfl rfl rfl rfl ?_
        refine go_nadd (pc' := 198) (a := (424 * rho)) (b := 2) rfl rfl rfl rfl rfl ?_
        refine go_s (pc' := 199) (st' := [.int 0, .int (nI ((424 * rho) + 2)), .ref as_]) rfl rfl rfl rfl ?_
        refine go_siast (pc' := 200) (q := ((424 * rho) + 2)) hS165 rfl (tr_as hr (by omega)) tbr_inj (Nat.le_of_ble_eq_true rfl) rfl (by omega) (rk_0 hr).2 hWa rfl (fun h168 hS169 hE170 => ?_)
        have hE171 := sm_e_trans hE167 hE170
        have hR172 : RS (uI (uI K160 51 ((424 * rho) + 1) ((m4.1 1) + 1)) 51 ((424 * rho) + 2) 0) rho (uF m4.1 1 (m4.1 1 + 1), [], m4.2.2) := RS_e0 (RS_F (j := 1) hR163 (by decide) (by decide) (by decide))
        have hf172 : rfr (uI J 5 0 0) (uI (uI K160 51 ((424 * rho) + 1) ((m4.1 1) + 1)) 51 ((424 * rho) + 2) 0) rho := rfr_trans hf160 (rfr_trans (rfr_u (by omega) (by omega)) (rfr_u (by omega) (by omega)))
        change sm (tbr am lm as_ ls) _ (uI (uI K160 51 ((424 * rho) + 1) ((m4.1 1) + 1)) 51 ((424 * rho) + 2) 0) Y at hS169
        obtain ⟨K172, eK172⟩ : ∃ y, y = (uI (uI K160 51 ((424 * rho) + 1) ((m4.1 1) + 1)) 51 ((424 * rho) + 2) 0) := ⟨_, rfl⟩
        rw [← eK172] at hR172 hf172 hS169
        have hk173 : prk K172 0 ∧ ¬ K172 11 0 = -1 ∧ rwi K172 0 = rho := ⟨by unfold prk; rw [rfr_c hf172 (by decide)]; exact hp, by rw [rfr_c hf172 (by decide)]; exact hn, (rfr_w hf172).trans hrho⟩
        refine go_s (pc' := 201) rfl rfl rfl rfl ?_
        refine go_s (pc' := 202) (st' := [.int 16, .ref 62]) rfl rfl rfl rfl ?_
        refine go_s (pc' := 203) rfl rfl rfl rfl ?_
        refine go_sget (pc' := 204) (v := .ref as_) hS169 rfl rfl rfl (by decide) rfl rfl ?_
        refine go_s (pc' := 205) rfl rfl rfl rfl ?_
        refine go_s (pc' := 206) (st' := [.int 1, .int (nI (424 * rho)), .ref as_, .int 16, .ref 62]) rfl rfl rfl rfl ?_
        refine go_nadd (pc' := 207) (a := (424 * rho)) (b := 1) rfl rfl rfl rfl rfl ?_
        refine go_sald (pc' := 208) (q := ((424 * rho) + 1)) (v := .int (m4.1 1 + 1)) hS169 rfl (tr_as hr (by omega)) rfl rfl (by omega) (congrArg Value.int (hR172.1 1 (by decide) (by decide) (by decide))) rfl ?_
        refine go_s (pc' := 209) rfl rfl rfl rfl ?_
        refine go_sget (pc' := 210) (v := .ref as_) hS169 rfl rfl rfl (by decide) rfl rfl ?_
        refine go_s (pc' := 211) rfl rfl rfl rfl ?_
        refine go_s (pc' := 212) (st' := [.int 0, .int (nI (424 * rho)), .ref as_, .int (m4.1 1 + 1), .int 16, .ref 62]) rfl rfl rfl rfl ?_
        refine go_nadd (pc' := 213) (a := (424 * rho)) (b := 0) rfl rfl rfl rfl rfl ?_
        refine go_sald (pc' := 214) (q := ((424 * rho) + 0)) (v := .int (m4.1 0)) hS169 rfl (tr_as hr (by omega)) rfl rfl (by omega) (congrArg Value.int (hR172.1 0 (by decide) (by decide) (by decide))) rfl ?_
        refine go_s (pc' := 215) (st' := [.int 0, .int (m4.1 0), .int (m4.1 1 + 1), .int 16, .ref 62]) rfl rfl rfl rfl ?_
        refine go_s (pc' := 216) (st' := [.int 0, .int 0, .int (m4.1 0), .int (m4.1 1 + 1), .int 16, .ref 62]) rfl rfl rfl rfl ?_
        refine go_s (pc' := 217) (st' := [.int 0, .int 0, .int 0, .int (m4.1 0), .int (m4.1 1 + 1), .int 16, .ref 62]) rfl rfl rfl rfl ?_
        refine go_callV (pc' := 218) rfl rfl rfl (Nat.le_of_ble_eq_true rfl) rfl (sm_o hS169 rfl) rfl rfl rfl (rs_aw hr hS169 hW hWa hk173.1 hk173.2.1 hk173.2.2 hls hl31 hR172 (by show m4.2.2.length < 41; have z := hmk.2.2.2.2.2; rw [← e4] at z; omega) (by show 0 ≤ 32; decide) (by omega)) (fun r h174 q175 => ?_)
        obtain ⟨rfl, K176, hS176, hE176, hR176, hg176⟩ := q175
        have hE177 := sm_e_trans hE171 hE176
        have hf176 := rfr_trans hf172 hg176
        change RS K176 rho (mG m4) at hR176
        rw [show mG m4 = mrs f by unfold mrs; rw [e4]] at hR176
        have hk178 : prk K176 0 ∧ ¬ K176 11 0 = -1 ∧ rwi K176 0 = rho := ⟨by unfold prk; rw [rfr_c hf176 (by decide)]; exact hp, by rw [rfr_c hf176 (by decide)]; exact hn, (rfr_w hf176).trans hrho⟩
        refine go_s (pc' := 219) rfl rfl rfl rfl ?_
        refine go_sget (pc' := 220) (v := .ref as_) hS176 rfl rfl rfl (by decide) rfl rfl ?_
        refine go_s (pc' := 221) rfl rfl rfl rfl ?_
        refine go_s (pc' := 222) (st' := [.int 3, .int (nI (424 * rho)), .ref as_]) rfl rfl rfl rfl ?_
        refine go_nadd (pc' := 223) (a := (424 * rho)) (b := 3) rfl rfl rfl rfl rfl ?_
        refine go_s (pc' := 224) (st' := [.int 2, .int (nI ((424 * rho) + 3)), .ref as_]) rfl rfl rfl rfl ?_
        refine go_siast (pc' := 225) (q := ((424 * rho) + 3)) hS176 rfl (tr_as hr (by omega)) tbr_inj (Nat.le_of_ble_eq_true rfl) rfl (by omega) (rk_0 hr).2 hWa rfl (fun h179 hS180 hE181 => ?_)
        have hE182 := sm_e_trans hE177 hE181
        refine go_s (pc' := 226) rfl rfl rfl rfl ?_
        refine go_sget (pc' := 227) (v := .ref 88) hS180 rfl rfl rfl (by decide) rfl rfl ?_
        refine go_s (pc' := 228) (st' := [.int 0, .ref 88]) rfl rfl rfl rfl ?_
        refine go_s (pc' := 229) (st' := [.int 0, .int 0, .ref 88]) rfl rfl rfl rfl ?_
        refine go_siast (pc' := 230) (q := 0) hS180 rfl (tr_s hr (a := 88) rfl (by decide)) tbr_inj (Nat.le_of_ble_eq_true rfl) rfl (by decide) (by decide) (hW _ (by decide) (by decide)) rfl (fun h183 hS184 hE185 => ?_)
        have hE186 := sm_e_trans hE182 hE185
        refine go_s (pc' := 231) rfl rfl rfl rfl ?_
        refine go_sget (pc' := 232) (v := .ref 88) hS184 rfl rfl rfl (by decide) rfl rfl ?_
        refine go_s (pc' := 233) (st' := [.int 1, .ref 88]) rfl rfl rfl rfl ?_
        refine go_s (pc' := 234) (st' := [.int 0, .int 1, .ref 88]) rfl rfl rfl rfl ?_
        refine go_siast (pc' := 235) (q := 1) hS184 rfl (tr_s hr (a := 88) rfl (by decide)) tbr_inj (Nat.le_of_ble_eq_true rfl) rfl (by decide) (by decide) (hW _ (by decide) (by decide)) rfl (fun h187 hS188 hE189 => ?_)
        have hE190 := sm_e_trans hE186 hE189
        refine go_s (pc' := 236) rfl rfl rfl rfl ?_
        refine go_sget (pc' := 237) (v := .ref 83) hS188 rfl rfl rfl (by decide) rfl rfl ?_
        refine go_s (pc' := 238) (st' := [.int 0, .ref 83]) rfl rfl rfl rfl ?_
        refine go_s (pc' := 239) (st' := [.int 2, .int 0, .ref 83]) rfl rfl rfl rfl ?_
        refine go_siast (pc' := 240) (q := 0) hS188 rfl (tr_s hr (a := 83) rfl (by decide)) tbr_inj (Nat.le_of_ble_eq_true rfl) rfl (by decide) (by decide) (hW _ (by decide) (by decide)) rfl (fun h191 hS192 hE193 => ?_)
        have hE194 := sm_e_trans hE190 hE193
        refine go_s (pc' := 241) rfl rfl rfl rfl ?_
        refine go_s (pc' := 242) (st' := [.int 1, .ref 62]) rfl rfl rfl rfl ?_
        refine go_sput (pc' := 243) hS192 rfl rfl rfl (by decide) tbr_inj (Nat.le_of_ble_eq_true rfl) rfl (hW _ (by decide) (by decide)) rfl (fun h195 hS196 hE197 => ?_)
        have hE198 := sm_e_trans hE194 hE197
        refine go_ret rfl rfl ?_
        refine ⟨rfl, _, hS196, hE198, ?_, ?_⟩
        · rw [mrs2_e]
          refine RS_c (J := uI K176 51 (424 * rho + 3) 2) (fun j => rfl) (RS_F (j := 3) hR176 (by decide) (by decide) (by decide))
        · rw [hch]
          exact rfr_i (by decide) (rfr_i (by decide) (rfr_i (by decide) (rfr_i (by decide) (rfr_trans hf176 (rfr_u (by omega) (by omega))))))
  · skip
    refine go_s (pc' := 16) rfl rfl rfl rfl ?_
    refine go_sget (pc' := 17) (v := .ref 69) hS rfl rfl rfl (by decide) rfl rfl ?_
    refine go_s (pc' := 18) (st' := [.int 1, .ref 69]) rfl rfl rfl rfl ?_
    refine go_s (pc' := 19) rfl rfl rfl rfl ?_
    refine go_s (pc' := 20) (st' := [.int 0, .ref 69]) rfl rfl rfl rfl ?_
    refine go_s (pc' := 21) (st' := [.int 0, .int 0, .ref 69]) rfl rfl rfl rfl ?_
    refine go_siast (pc' := 22) (q := 0) hS rfl (tr_s hr (a := 69) rfl (by decide)) tbr_inj (Nat.le_of_ble_eq_true rfl) rfl (by decide) (by decide) (hW _ (by decide) (by decide)) rfl (fun h199 hS200 hE201 => ?_)
    refine go_s (pc' := 23) rfl rfl rfl rfl ?_
    refine go_sget (pc' := 24) (v := .ref 68) hS200 rfl rfl rfl (by decide) rfl rfl ?_
    refine go_s (pc' := 25) (st' := [.int 1, .ref 68]) rfl rfl rfl rfl ?_
    refine go_s (pc' := 26) rfl rfl rfl rfl ?_
    refine go_s (pc' := 27) (st' := [.int 0, .ref 68]) rfl rfl rfl rfl ?_
    refine go_s (pc' := 28) (st' := [.int 0, .int 0, .ref 68]) rfl rfl rfl rfl ?_
    refine go_szast (pc' := 29) (q := 0) hS200 rfl (tr_s hr (a := 68) rfl (by decide)) tbr_inj (Nat.le_of_ble_eq_true rfl) rfl (by decide) (by decide) rfl (hW _ (by decide) (by decide)) rfl (fun h202 hS203 hE204 => ?_)
    have hE205 := sm_e_trans hE201 hE204
    refine go_s (pc' := 30) rfl rfl rfl rfl ?_
    refine go_sget (pc' := 31) (v := .ref as_) hS203 rfl rfl rfl (by decide) rfl rfl ?_
    refine go_s (pc' := 32) rfl rfl rfl rfl ?_
    refine go_s (pc' := 33) (st' := [.int 1, .int (nI (424 * rho)), .ref as_]) rfl rfl rfl rfl ?_
    refine go_nadd (pc' := 34) (a := (424 * rho)) (b := 1) rfl rfl rfl rfl rfl ?_
    refine go_s (pc' := 35) rfl rfl rfl rfl ?_
    refine go_sget (pc' := 36) (v := .ref 70) hS203 rfl rfl rfl (by decide) rfl rfl ?_
    refine go_s (pc' := 37) rfl rfl rfl rfl ?_
    refine go_s (pc' := 38) (st' := [.int 80, .int 245, .ref 70, .int (nI ((424 * rho) + 1)), .ref as_]) rfl rfl rfl rfl ?_
    refine go_s (pc' := 39) (st' := [.int 325, .ref 70, .int (nI ((424 * rho) + 1)), .ref as_]) rfl rfl rfl rfl ?_
    refine go_sald (pc' := 40) (q := 325) (v := .int (f 80)) hS203 rfl (tr_s hr (a := 70) rfl (by decide)) rfl rfl (by decide) (congrArg Value.int (hdk 80)) rfl ?_
    refine go_siast (pc' := 41) (q := ((424 * rho) + 1)) hS203 rfl (tr_as hr (by omega)) tbr_inj (Nat.le_of_ble_eq_true rfl) rfl (by omega) (rk_0 hr).2 hWa rfl (fun h206 hS207 hE208 => ?_)
    have hE209 := sm_e_trans hE205 hE208
    refine go_s (pc' := 42) rfl rfl rfl rfl ?_
    refine go_sget (pc' := 43) (v := .ref as_) hS207 rfl rfl rfl (by decide) rfl rfl ?_
    refine go_s (pc' := 44) rfl rfl rfl rfl ?_
    refine go_s (pc' := 45) (st' := [.int 0, .int (nI (424 * rho)), .ref as_]) rfl rfl rfl rfl ?_
    refine go_nadd (pc' := 46) (a := (424 * rho)) (b := 0) rfl rfl rfl rfl rfl ?_
    refine go_s (pc' := 47) rfl rfl rfl rfl ?_
    refine go_sget (pc' := 48) (v := .ref 70) hS207 rfl rfl rfl (by decide) rfl rfl ?_
    refine go_s (pc' := 49) rfl rfl rfl rfl ?_
    refine go_s (pc' := 50) (st' := [.int 80, .int 245, .ref 70, .int (nI ((424 * rho) + 0)), .ref as_]) rfl rfl rfl rfl ?_
    refine go_s (pc' := 51) (st' := [.int 325, .ref 70, .int (nI ((424 * rho) + 0)), .ref as_]) rfl rfl rfl rfl ?_
    refine go_s (pc' := 52) (st' := [.int 1, .int 325, .ref 70, .int (nI ((424 * rho) + 0)), .ref as_]) rfl rfl rfl rfl ?_
    refine go_s (pc' := 53) (st' := [.int 326, .ref 70, .int (nI ((424 * rho) + 0)), .ref as_]) rfl rfl rfl rfl ?_
    refine go_sald (pc' := 54) (q := 326) (v := .int (f 81)) hS207 rfl (tr_s hr (a := 70) rfl (by decide)) rfl rfl (by decide) (congrArg Value.int (hdk 81)) rfl ?_
    refine go_s (pc' := 55) (st' := [.int 1, .int (f 81), .int (nI ((424 * rho) + 0)), .ref as_]) rfl rfl rfl rfl ?_
    refine go_s (pc' := 56) rfl rfl rfl rfl ?_
    refine go_siast (pc' := 57) (q := ((424 * rho) + 0)) hS207 rfl (tr_as hr (by omega)) tbr_inj (Nat.le_of_ble_eq_true rfl) rfl (by omega) (rk_0 hr).2 hWa rfl (fun h210 hS211 hE212 => ?_)
    have hE213 := sm_e_trans hE209 hE212
    refine go_s (pc' := 58) (st' := [.int 0]) rfl rfl rfl rfl ?_
    refine go_s (pc' := 59) (lo' := [some (.ref 62), some (.int 1), some (.int (nI (424 * rho))), some (.int 245), some (.int 0), none]) rfl rfl rfl rfl ?_
    have hch : rchI 1 J = (uI (uI J 6 0 0) 5 0 0) := by
      unfold rchI
      rw [if_neg c3]
    obtain ⟨JA, eA⟩ : ∃ y, y = (uI (uI (uI (uI J 6 0 0) 5 0 0) 51 ((424 * rho) + 1) (f 80)) 51 ((424 * rho) + 0) ((f 81) + 1)) := ⟨_, rfl⟩
    change sm (tbr am lm as_ ls) _ (uI (uI (uI (uI J 6 0 0) 5 0 0) 51 ((424 * rho) + 1) (f 80)) 51 ((424 * rho) + 0) ((f 81) + 1)) Y at hS211
    have hfA : rfr (uI (uI J 6 0 0) 5 0 0) JA rho := by
      rw [eA]
      exact rfr_trans (rfr_u (by omega) (by omega)) (rfr_u (by omega) (by omega))
    have h7A : ∀ j, JA 7 (245 * 1 + j) = f j := fun j => (hfA 7 _ (by omega)).trans (hdk j)
    have hzA : ∀ j, j < 48 → JA 51 (424 * rho + j) = if j = 0 then f 81 + 1 else if j = 1 then f 80 else 0 := fun j hj => by
      rw [eA]
      by_cases e0 : j = 0
      · rw [if_pos e0]
        repeat (first | rw [uI_e (by omega)] | rw [uI_j (by omega)])
      · rw [if_neg e0]
        by_cases e1 : j = 1
        · rw [if_pos e1]
          repeat (first | rw [uI_e (by omega)] | rw [uI_j (by omega)])
        · rw [if_neg e1, uI_j (by omega), uI_j (by omega)]
          exact hz0 j hj
    rw [← eA] at hS211
    refine lp_rc_1 hr hW hWa hls hl31 (J := JA) 16 0 _ rfl (by rw [rc_0]; exact hS211) (fun h8 hS8 hE8 => ?_)
    have hE8b := sm_e_trans hE213 hE8
    refine go_s (pc' := 90) (st' := [.int 0]) rfl rfl rfl rfl ?_
    refine go_s (pc' := 91) (lo' := [some (.ref 62), some (.int 1), some (.int (nI (424 * rho))), some (.int 245), some (.int 0), none]) rfl rfl rfl rfl ?_
    refine lp_re_1 hr hW hWa hls hl31 (J := rcI JA rho 1 16) (f := f) (fun j => (rc_r (Nat.le_refl _) 7 _ (by omega)).trans (h7A j)) ?_ 32 0 _ none rfl (by rw [re_0]; exact hS8) (fun h9 v5 hS9 hE9 => ?_)
    · simp only [rcI]
      rw [if_neg (by omega), if_neg (by omega)]
      exact hzA 1 (by decide)
    have hE9b := sm_e_trans hE8b hE9
    refine go_s (pc' := 147) rfl rfl rfl rfl ?_
    refine go_sget (pc' := 148) (v := .ref as_) hS9 rfl rfl rfl (by decide) rfl rfl ?_
    refine go_s (pc' := 149) rfl rfl rfl rfl ?_
    refine go_s (pc' := 150) (st' := [.int 2, .int (nI (424 * rho)), .ref as_]) rfl rfl rfl rfl ?_
    refine go_nadd (pc' := 151) (a := (424 * rho)) (b := 2) rfl rfl rfl rfl rfl ?_
    refine go_s (pc' := 152) rfl rfl rfl rfl ?_
    refine go_siast (pc' := 153) (q := ((424 * rho) + 2)) hS9 rfl (tr_as hr (by omega)) tbr_inj (Nat.le_of_ble_eq_true rfl) rfl (by omega) (rk_0 hr).2 hWa rfl (fun h214 hS215 hE216 => ?_)
    have hE217 := sm_e_trans hE9b hE216
    refine go_s (pc' := 154) (st' := [.int 0]) rfl rfl rfl rfl ?_
    refine go_s (pc' := 155) (lo' := [some (.ref 62), some (.int 1), some (.int (nI (424 * rho))), some (.int 245), some (.int (nI (rd f (f 80) 32 0))), some (.int 0)]) rfl rfl rfl rfl ?_
    refine go_s (pc' := 156) rfl rfl rfl rfl ?_
    refine go_s (pc' := 157) (st' := [.int 2, .int 0]) rfl rfl rfl rfl ?_
    refine go_icmpP (t' := 169) (pc' := 158) rfl rfl rfl (fun (c : 2 ≤ (0 : Int32)) => absurd c (by decide)) (fun _ => ?_)
    refine go_s (pc' := 159) rfl rfl rfl rfl ?_
    refine go_sget (pc' := 160) (v := .ref as_) hS215 rfl rfl rfl (by decide) rfl rfl ?_
    refine go_s (pc' := 161) rfl rfl rfl rfl ?_
    refine go_s (pc' := 162) (st' := [.int 6, .int (nI (424 * rho)), .ref as_]) rfl rfl rfl rfl ?_
    refine go_nadd (pc' := 163) (a := (424 * rho)) (b := 6) rfl rfl rfl rfl rfl ?_
    refine go_s (pc' := 164) rfl rfl rfl rfl ?_
    refine go_nadd (pc' := 165) (a := ((424 * rho) + 6)) (b := 0) rfl rfl rfl rfl rfl ?_
    refine go_s (pc' := 166) (st' := [.int (-1), .int (nI (((424 * rho) + 6) + 0)), .ref as_]) rfl rfl rfl rfl ?_
    refine go_siast (pc' := 167) (q := (((424 * rho) + 6) + 0)) hS215 rfl (tr_as hr (by omega)) tbr_inj (Nat.le_of_ble_eq_true rfl) rfl (by omega) (rk_0 hr).2 hWa rfl (fun h218 hS219 hE220 => ?_)
    have hE221 := sm_e_trans hE217 hE220
    refine go_s (pc' := 168) (lo' := [some (.ref 62), some (.int 1), some (.int (nI (424 * rho))), some (.int 245), some (.int (nI (rd f (f 80) 32 0))), some (.int 1)]) rfl rfl rfl rfl ?_
    refine go_s (pc' := 155) rfl rfl rfl rfl ?_
    refine go_s (pc' := 156) rfl rfl rfl rfl ?_
    refine go_s (pc' := 157) (st' := [.int 2, .int 1]) rfl rfl rfl rfl ?_
    refine go_icmpP (t' := 169) (pc' := 158) rfl rfl rfl (fun (c : 2 ≤ (1 : Int32)) => absurd c (by decide)) (fun _ => ?_)
    refine go_s (pc' := 159) rfl rfl rfl rfl ?_
    refine go_sget (pc' := 160) (v := .ref as_) hS219 rfl rfl rfl (by decide) rfl rfl ?_
    refine go_s (pc' := 161) rfl rfl rfl rfl ?_
    refine go_s (pc' := 162) (st' := [.int 6, .int (nI (424 * rho)), .ref as_]) rfl rfl rfl rfl ?_
    refine go_nadd (pc' := 163) (a := (424 * rho)) (b := 6) rfl rfl rfl rfl rfl ?_
    refine go_s (pc' := 164) rfl rfl rfl rfl ?_
    refine go_nadd (pc' := 165) (a := ((424 * rho) + 6)) (b := 1) rfl rfl rfl rfl rfl ?_
    refine go_s (pc' := 166) (st' := [.int (-1), .int (nI (((424 * rho) + 6) + 1)), .ref as_]) rfl rfl rfl rfl ?_
    refine go_siast (pc' := 167) (q := (((424 * rho) + 6) + 1)) hS219 rfl (tr_as hr (by omega)) tbr_inj (Nat.le_of_ble_eq_true rfl) rfl (by omega) (rk_0 hr).2 hWa rfl (fun h222 hS223 hE224 => ?_)
    have hE225 := sm_e_trans hE221 hE224
    refine go_s (pc' := 168) (lo' := [some (.ref 62), some (.int 1), some (.int (nI (424 * rho))), some (.int 245), some (.int (nI (rd f (f 80) 32 0))), some (.int 2)]) rfl rfl rfl rfl ?_
    refine go_s (pc' := 155) rfl rfl rfl rfl ?_
    refine go_s (pc' := 156) rfl rfl rfl rfl ?_
    refine go_s (pc' := 157) (st' := [.int 2, .int 2]) rfl rfl rfl rfl ?_
    refine go_icmpP (t' := 169) (pc' := 158) rfl rfl rfl (fun _ => ?_) (fun (c : ¬ (2 ≤ (2 : Int32))) => absurd (by decide) c)
    refine go_s (pc' := 170) (st' := [.int 0]) rfl rfl rfl rfl ?_
    refine go_s (pc' := 171) (lo' := [some (.ref 62), some (.int 1), some (.int (nI (424 * rho))), some (.int 245), some (.int (nI (rd f (f 80) 32 0))), some (.int 0)]) rfl rfl rfl rfl ?_
    have hR226 : RS (uI (uI (uI (reI (rcI JA rho 1 16) rho 1 (rd f (f 80) 32 0)) 51 ((424 * rho) + 2) (nI (rd f (f 80) 32 0))) 51 (((424 * rho) + 6) + 0) (-1)) 51 (((424 * rho) + 6) + 1) (-1)) rho (uF (mr1 f).1 7 (-1), rdL f, []) := RS_rd h7A hzA ((hzA 5 (by decide)).trans rfl)
    have hf226 : rfr (uI (uI J 6 0 0) 5 0 0) (uI (uI (uI (reI (rcI JA rho 1 16) rho 1 (rd f (f 80) 32 0)) 51 ((424 * rho) + 2) (nI (rd f (f 80) 32 0))) 51 (((424 * rho) + 6) + 0) (-1)) 51 (((424 * rho) + 6) + 1) (-1)) rho := rfr_trans hfA (rfr_trans (rc_r (Nat.le_refl _)) (rfr_trans (re_r (by omega)) (rfr_trans (rfr_u (by omega) (by omega)) (rfr_trans (rfr_u (by omega) (by omega)) (rfr_u (by omega) (by omega))))))
    change sm (tbr am lm as_ ls) _ (uI (uI (uI (reI (rcI JA rho 1 16) rho 1 (rd f (f 80) 32 0)) 51 ((424 * rho) + 2) (nI (rd f (f 80) 32 0))) 51 (((424 * rho) + 6) + 0) (-1)) 51 (((424 * rho) + 6) + 1) (-1)) Y at hS223
    obtain ⟨K226, eK226⟩ : ∃ y, y = (uI (uI (uI (reI (rcI JA rho 1 16) rho 1 (rd f (f 80) 32 0)) 51 ((424 * rho) + 2) (nI (rd f (f 80) 32 0))) 51 (((424 * rho) + 6) + 0) (-1)) 51 (((424 * rho) + 6) + 1) (-1)) := ⟨_, rfl⟩
    rw [← eK226] at hR226 hf226 hS223
    have hk227 : prk K226 0 ∧ ¬ K226 11 0 = -1 ∧ rwi K226 0 = rho := ⟨by unfold prk; rw [rfr_c hf226 (by decide)]; exact hp, by rw [rfr_c hf226 (by decide)]; exact hn, (rfr_w hf226).trans hrho⟩
    refine go_s (pc' := 172) rfl rfl rfl rfl ?_
    refine go_s (pc' := 173) (st' := [.int 2, .int 0]) rfl rfl rfl rfl ?_
    refine go_icmpP (t' := 183) (pc' := 174) rfl rfl rfl (fun (c : 2 ≤ (0 : Int32)) => absurd c (by decide)) (fun _ => ?_)
    refine go_s (pc' := 175) rfl rfl rfl rfl ?_
    refine go_s (pc' := 176) rfl rfl rfl rfl ?_
    refine go_callV (pc' := 177) rfl rfl rfl (Nat.le_of_ble_eq_true rfl) rfl (sm_o hS223 rfl) rfl rfl rfl (rs_ho hr hS223 hk227.1 hk227.2.1 hk227.2.2 hls hl31 hR226 (t := 0) (by show (rdL f).length ≤ 32; omega) hEK (by omega)) (fun r h228 q229 => ?_)
    obtain ⟨rfl, rfl⟩ := q229
    rw [show hop (uF (mr1 f).1 7 (-1), rdL f, []) 0 = hop (mr1 f) 0 from rfl]
    cases u230 : hop (mr1 f) 0
    · skip
      show am_Go _ _ _ _ 177 _ [.int 0] _ _
      refine go_ifP (t' := 181) (pc' := 178) rfl rfl rfl (fun _ => ?_) (fun (c : ¬ ((0 : Int32) = 0)) => absurd (by decide) c)
      have hR231 : RS K226 rho (mr3 f) := by rw [mr3_n u230]; exact hR226
      refine go_s (pc' := 182) (lo' := [some (.ref 62), some (.int 1), some (.int (nI (424 * rho))), some (.int 245), some (.int (nI (rd f (f 80) 32 0))), some (.int 1)]) rfl rfl rfl rfl ?_
      refine go_s (pc' := 171) rfl rfl rfl rfl ?_
      refine go_s (pc' := 172) rfl rfl rfl rfl ?_
      refine go_s (pc' := 173) (st' := [.int 2, .int 1]) rfl rfl rfl rfl ?_
      refine go_icmpP (t' := 183) (pc' := 174) rfl rfl rfl (fun (c : 2 ≤ (1 : Int32)) => absurd c (by decide)) (fun _ => ?_)
      refine go_s (pc' := 175) rfl rfl rfl rfl ?_
      refine go_s (pc' := 176) rfl rfl rfl rfl ?_
      refine go_callV (pc' := 177) rfl rfl rfl (Nat.le_of_ble_eq_true rfl) rfl (sm_o hS223 rfl) rfl rfl rfl (rs_ho hr hS223 hk227.1 hk227.2.1 hk227.2.2 hls hl31 hR231 (t := 1) hmk.2.2.2.1 (EK_3 hEK) (by omega)) (fun r h232 q233 => ?_)
      obtain ⟨rfl, rfl⟩ := q233
      rw [show hop (mr3 f) 1 = hop (mr3 f) 1 from rfl]
      cases u234 : hop (mr3 f) 1
      · skip
        show am_Go _ _ _ _ 177 _ [.int 0] _ _
        refine go_ifP (t' := 181) (pc' := 178) rfl rfl rfl (fun _ => ?_) (fun (c : ¬ ((0 : Int32) = 0)) => absurd (by decide) c)
        have hR235 : RS K226 rho (mr4 f) := by rw [show mr4 f = mr3 f from if_neg (by rw [u234]; decide)]; exact hR231
        obtain ⟨m4, e4⟩ : ∃ y : ms, y = mr4 f := ⟨_, rfl⟩
        rw [← e4] at hR235
        refine go_s (pc' := 182) (lo' := [some (.ref 62), some (.int 1), some (.int (nI (424 * rho))), some (.int 245), some (.int (nI (rd f (f 80) 32 0))), some (.int 2)]) rfl rfl rfl rfl ?_
        refine go_s (pc' := 171) rfl rfl rfl rfl ?_
        refine go_s (pc' := 172) rfl rfl rfl rfl ?_
        refine go_s (pc' := 173) (st' := [.int 2, .int 2]) rfl rfl rfl rfl ?_
        refine go_icmpP (t' := 183) (pc' := 174) rfl rfl rfl (fun _ => ?_) (fun (c : ¬ (2 ≤ (2 : Int32))) => absurd (by decide) c)
        refine go_s (pc' := 184) rfl rfl rfl rfl ?_
        refine go_sget (pc' := 185) (v := .ref as_) hS223 rfl rfl rfl (by decide) rfl rfl ?_
        refine go_s (pc' := 186) rfl rfl rfl rfl ?_
        refine go_s (pc' := 187) (st' := [.int 1, .int (nI (424 * rho)), .ref as_]) rfl rfl rfl rfl ?_
        refine go_nadd (pc' := 188) (a := (424 * rho)) (b := 1) rfl rfl rfl rfl rfl ?_
        refine go_s (pc' := 189) rfl rfl rfl rfl ?_
        refine go_sald (pc' := 190) (q := ((424 * rho) + 1)) (v := .int (m4.1 1)) hS223 rfl (tr_as hr (by omega)) rfl rfl (by omega) (congrArg Value.int (hR235.1 1 (by decide) (by decide) (by decide))) rfl ?_
        refine go_s (pc' := 191) (st' := [.int 1, .int (m4.1 1), .int (nI ((424 * rho) + 1)), .ref as_]) rfl rfl rfl rfl ?_
        refine go_s (pc' := 192) rfl rfl rfl rfl ?_
        refine go_siast (pc' := 193) (q := ((424 * rho) + 1)) hS223 rfl (tr_as hr (by omega)) tbr_inj (Nat.le_of_ble_eq_true rfl) rfl (by omega) (rk_0 hr).2 hWa rfl (fun h236 hS237 hE238 => ?_)
        have hE239 := sm_e_trans hE225 hE238
        refine go_s (pc' := 194) rfl rfl rfl rfl ?_
        refine go_sget (pc' := 195) (v := .ref as_) hS237 rfl rfl rfl (by decide) rfl rfl ?_
        refine go_s (pc' := 196) rfl rfl rfl rfl ?_
        refine go_s (pc' := 197) (st' := [.int 2, .int (nI (424 * rho)), .ref as_]) rfl rfl rfl rfl ?_
        refine go_nadd (pc' := 198) (a := (424 * rho)) (b := 2) rfl rfl rfl rfl rfl ?_
        refine go_s (pc' := 199) (st' := [.int 0, .int (nI ((424 * rho) + 2)), .ref as_]) rfl rfl rfl rfl ?_
        refine go_siast (pc' := 200) (q := ((424 * rho) + 2)) hS237 rfl (tr_as hr (by omega)) tbr_inj (Nat.le_of_ble_eq_true rfl) rfl (by omega) (rk_0 hr).2 hWa rfl (fun h240 hS241 hE242 => ?_)
        have hE243 := sm_e_trans hE239 hE242
        have hR244 : RS (uI (uI K226 51 ((424 * rho) + 1) ((m4.1 1) + 1)) 51 ((424 * rho) + 2) 0) rho (uF m4.1 1 (m4.1 1 + 1), [], m4.2.2) := RS_e0 (RS_F (j := 1) hR235 (by decide) (by decide) (by decide))
        have hf244 : rfr (uI (uI J 6 0 0) 5 0 0) (uI (uI K226 51 ((424 * rho) + 1) ((m4.1 1) + 1)) 51 ((424 * rho) + 2) 0) rho := rfr_trans hf226 (rfr_trans (rfr_u (by omega) (by omega)) (rfr_u (by omega) (by omega)))
        change sm (tbr am lm as_ ls) _ (uI (uI K226 51 ((424 * rho) + 1) ((m4.1 1) + 1)) 51 ((424 * rho) + 2) 0) Y at hS241
        obtain ⟨K244, eK244⟩ : ∃ y, y = (uI (uI K226 51 ((424 * rho) + 1) ((m4.1 1) + 1)) 51 ((424 * rho) + 2) 0) := ⟨_, rfl⟩
        rw [← eK244] at hR244 hf244 hS241
        have hk245 : prk K244 0 ∧ ¬ K244 11 0 = -1 ∧ rwi K244 0 = rho := ⟨by unfold prk; rw [rfr_c hf244 (by decide)]; exact hp, by rw [rfr_c hf244 (by decide)]; exact hn, (rfr_w hf244).trans hrho⟩
        refine go_s (pc' := 201) rfl rfl rfl rfl ?_
        refine go_s (pc' := 202) (st' := [.int 16, .ref 62]) rfl rfl rfl rfl ?_
        refine go_s (pc' := 203) rfl rfl rfl rfl ?_
        refine go_sget (pc' := 204) (v := .ref as_) hS241 rfl rfl rfl (by decide) rfl rfl ?_
        refine go_s (pc' := 205) rfl rfl rfl rfl ?_
        refine go_s (pc' := 206) (st' := [.int 1, .int (nI (424 * rho)), .ref as_, .int 16, .ref 62]) rfl rfl rfl rfl ?_
        refine go_nadd (pc' := 207) (a := (424 * rho)) (b := 1) rfl rfl rfl rfl rfl ?_
        refine go_sald (pc' := 208) (q := ((424 * rho) + 1)) (v := .int (m4.1 1 + 1)) hS241 rfl (tr_as hr (by omega)) rfl rfl (by omega) (congrArg Value.int (hR244.1 1 (by decide) (by decide) (by decide))) rfl ?_
        refine go_s (pc' := 209) rfl rfl rfl rfl ?_
        refine go_sget (pc' := 210) (v := .ref as_) hS241 rfl rfl rfl (by decide) rfl rfl ?_
        refine go_s (pc' := 211) rfl rfl rfl rfl ?_
        refine go_s (pc' := 212) (st' := [.int 0, .int (nI (424 * rho)), .ref as_, .int (m4.1 1 + 1), .int 16, .ref 62]) rfl rfl rfl rfl ?_
        refine go_nadd (pc' := 213) (a := (424 * rho)) (b := 0) rfl rfl rfl rfl rfl ?_
        refine go_sald (pc' := 214) (q := ((424 * rho) + 0)) (v := .int (m4.1 0)) hS241 rfl (tr_as hr (by omega)) rfl rfl (by omega) (congrArg Value.int (hR244.1 0 (by decide) (by decide) (by decide))) rfl ?_
        refine go_s (pc' := 215) (st' := [.int 0, .int (m4.1 0), .int (m4.1 1 + 1), .int 16, .ref 62]) rfl rfl rfl rfl ?_
        refine go_s (pc' := 216) (st' := [.int 0, .int 0, .int (m4.1 0), .int (m4.1 1 + 1), .int 16, .ref 62]) rfl rfl rfl rfl ?_
        refine go_s (pc' := 217) (st' := [.int 0, .int 0, .int 0, .int (m4.1 0), .int (m4.1 1 + 1), .int 16, .ref 62]) rfl rfl rfl rfl ?_
        refine go_callV (pc' := 218) rfl rfl rfl (Nat.le_of_ble_eq_true rfl) rfl (sm_o hS241 rfl) rfl rfl rfl (rs_aw hr hS241 hW hWa hk245.1 hk245.2.1 hk245.2.2 hls hl31 hR244 (by show m4.2.2.length < 41; have z := hmk.2.2.2.2.2; rw [← e4] at z; omega) (by show 0 ≤ 32; decide) (by omega)) (fun r h246 q247 => ?_)
        obtain ⟨rfl, K248, hS248, hE248, hR248, hg248⟩ := q247
        have hE249 := sm_e_trans hE243 hE248
        have hf248 := rfr_trans hf244 hg248
        change RS K248 rho (mG m4) at hR248
        rw [show mG m4 = mrs f by unfold mrs; rw [e4]] at hR248
        have hk250 : prk K248 0 ∧ ¬ K248 11 0 = -1 ∧ rwi K248 0 = rho := ⟨by unfold prk; rw [rfr_c hf248 (by decide)]; exact hp, by rw [rfr_c hf248 (by decide)]; exact hn, (rfr_w hf248).trans hrho⟩
        refine go_s (pc' := 219) rfl rfl rfl rfl ?_
        refine go_sget (pc' := 220) (v := .ref as_) hS248 rfl rfl rfl (by decide) rfl rfl ?_
        refine go_s (pc' := 221) rfl rfl rfl rfl ?_
        refine go_s (pc' := 222) (st' := [.int 3, .int (nI (424 * rho)), .ref as_]) rfl rfl rfl rfl ?_
        refine go_nadd (pc' := 223) (a := (424 * rho)) (b := 3) rfl rfl rfl rfl rfl ?_
        refine go_s (pc' := 224) (st' := [.int 2, .int (nI ((424 * rho) + 3)), .ref as_]) rfl rfl rfl rfl ?_
        refine go_siast (pc' := 225) (q := ((424 * rho) + 3)) hS248 rfl (tr_as hr (by omega)) tbr_inj (Nat.le_of_ble_eq_true rfl) rfl (by omega) (rk_0 hr).2 hWa rfl (fun h251 hS252 hE253 => ?_)
        have hE254 := sm_e_trans hE249 hE253
        refine go_s (pc' := 226) rfl rfl rfl rfl ?_
        refine go_sget (pc' := 227) (v := .ref 88) hS252 rfl rfl rfl (by decide) rfl rfl ?_
        refine go_s (pc' := 228) (st' := [.int 0, .ref 88]) rfl rfl rfl rfl ?_
        refine go_s (pc' := 229) (st' := [.int 0, .int 0, .ref 88]) rfl rfl rfl rfl ?_
        refine go_siast (pc' := 230) (q := 0) hS252 rfl (tr_s hr (a := 88) rfl (by decide)) tbr_inj (Nat.le_of_ble_eq_true rfl) rfl (by decide) (by decide) (hW _ (by decide) (by decide)) rfl (fun h255 hS256 hE257 => ?_)
        have hE258 := sm_e_trans hE254 hE257
        refine go_s (pc' := 231) rfl rfl rfl rfl ?_
        refine go_sget (pc' := 232) (v := .ref 88) hS256 rfl rfl rfl (by decide) rfl rfl ?_
        refine go_s (pc' := 233) (st' := [.int 1, .ref 88]) rfl rfl rfl rfl ?_
        refine go_s (pc' := 234) (st' := [.int 0, .int 1, .ref 88]) rfl rfl rfl rfl ?_
        refine go_siast (pc' := 235) (q := 1) hS256 rfl (tr_s hr (a := 88) rfl (by decide)) tbr_inj (Nat.le_of_ble_eq_true rfl) rfl (by decide) (by decide) (hW _ (by decide) (by decide)) rfl (fun h259 hS260 hE261 => ?_)
        have hE262 := sm_e_trans hE258 hE261
        refine go_s (pc' := 236) rfl rfl rfl rfl ?_
        refine go_sget (pc' := 237) (v := .ref 83) hS260 rfl rfl rfl (by decide) rfl rfl ?_
        refine go_s (pc' := 238) (st' := [.int 0, .ref 83]) rfl rfl rfl rfl ?_
        refine go_s (pc' := 239) (st' := [.int 2, .int 0, .ref 83]) rfl rfl rfl rfl ?_
        refine go_siast (pc' := 240) (q := 0) hS260 rfl (tr_s hr (a := 83) rfl (by decide)) tbr_inj (Nat.le_of_ble_eq_true rfl) rfl (by decide) (by decide) (hW _ (by decide) (by decide)) rfl (fun h263 hS264 hE265 => ?_)
        have hE266 := sm_e_trans hE262 hE265
        refine go_s (pc' := 241) rfl rfl rfl rfl ?_
        refine go_s (pc' := 242) (st' := [.int 1, .ref 62]) rfl rfl rfl rfl ?_
        refine go_sput (pc' := 243) hS264 rfl rfl rfl (by decide) tbr_inj (Nat.le_of_ble_eq_true rfl) rfl (hW _ (by decide) (by decide)) rfl (fun h267 hS268 hE269 => ?_)
        have hE270 := sm_e_trans hE266 hE269
        refine go_ret rfl rfl ?_
        refine ⟨rfl, _, hS268, hE270, ?_, ?_⟩
        · rw [mrs2_e]
          refine RS_c (J := uI K248 51 (424 * rho + 3) 2) (fun j => rfl) (RS_F (j := 3) hR248 (by decide) (by decide) (by decide))
        · rw [hch]
          exact rfr_i (by decide) (rfr_i (by decide) (rfr_i (by decide) (rfr_i (by decide) (rfr_trans hf248 (rfr_u (by omega) (by omega))))))
      · skip
        show am_Go _ _ _ _ 177 _ [.int 1] _ _
        refine go_ifP (t' := 181) (pc' := 178) rfl rfl rfl (fun (c : (1 : Int32) = 0) => absurd c (by decide)) (fun _ => ?_)
        refine go_s (pc' := 179) rfl rfl rfl rfl ?_
        refine go_s (pc' := 180) rfl rfl rfl rfl ?_
        refine go_callV (pc' := 181) rfl rfl rfl (Nat.le_of_ble_eq_true rfl) rfl (sm_o hS223 rfl) rfl rfl rfl (rs_bo hr hS223 hW hWa hk227.1 hk227.2.1 hk227.2.2 hls hl31 hR231 (t := 1) (hmk.2.2.2.2.1 u234).1 (EK_3 hEK) hmk.2.2.1 (by have z := (hmk.2.2.2.2.1 u234).2; omega) (by omega)) (fun r h271 q272 => ?_)
        obtain ⟨rfl, K273, hS273, hE273, hR273, hg273⟩ := q272
        have hE274 := sm_e_trans hE225 hE273
        have hf273 := rfr_trans hf226 hg273
        have hk275 : prk K273 0 ∧ ¬ K273 11 0 = -1 ∧ rwi K273 0 = rho := ⟨by unfold prk; rw [rfr_c hf273 (by decide)]; exact hp, by rw [rfr_c hf273 (by decide)]; exact hn, (rfr_w hf273).trans hrho⟩
        have hR276 : RS K273 rho (mr4 f) := by rw [show mr4 f = mB (mr3 f) 1 from if_pos u234]; exact hR273
        obtain ⟨m4, e4⟩ : ∃ y : ms, y = mr4 f := ⟨_, rfl⟩
        rw [← e4] at hR276
        refine go_s (pc' := 182) (lo' := [some (.ref 62), some (.int 1), some (.int (nI (424 * rho))), some (.int 245), some (.int (nI (rd f (f 80) 32 0))), some (.int 2)]) rfl rfl rfl rfl ?_
        refine go_s (pc' := 171) rfl rfl rfl rfl ?_
        refine go_s (pc' := 172) rfl rfl rfl rfl ?_
        refine go_s (pc' := 173) (st' := [.int 2, .int 2]) rfl rfl rfl rfl ?_
        refine go_icmpP (t' := 183) (pc' := 174) rfl rfl rfl (fun _ => ?_) (fun (c : ¬ (2 ≤ (2 : Int32))) => absurd (by decide) c)
        refine go_s (pc' := 184) rfl rfl rfl rfl ?_
        refine go_sget (pc' := 185) (v := .ref as_) hS273 rfl rfl rfl (by decide) rfl rfl ?_
        refine go_s (pc' := 186) rfl rfl rfl rfl ?_
        refine go_s (pc' := 187) (st' := [.int 1, .int (nI (424 * rho)), .ref as_]) rfl rfl rfl rfl ?_
        refine go_nadd (pc' := 188) (a := (424 * rho)) (b := 1) rfl rfl rfl rfl rfl ?_
        refine go_s (pc' := 189) rfl rfl rfl rfl ?_
        refine go_sald (pc' := 190) (q := ((424 * rho) + 1)) (v := .int (m4.1 1)) hS273 rfl (tr_as hr (by omega)) rfl rfl (by omega) (congrArg Value.int (hR276.1 1 (by decide) (by decide) (by decide))) rfl ?_
        refine go_s (pc' := 191) (st' := [.int 1, .int (m4.1 1), .int (nI ((424 * rho) + 1)), .ref as_]) rfl rfl rfl rfl ?_
        refine go_s (pc' := 192) rfl rfl rfl rfl ?_
        refine go_siast (pc' := 193) (q := ((424 * rho) + 1)) hS273 rfl (tr_as hr (by omega)) tbr_inj (Nat.le_of_ble_eq_true rfl) rfl (by omega) (rk_0 hr).2 hWa rfl (fun h277 hS278 hE279 => ?_)
        have hE280 := sm_e_trans hE274 hE279
        refine go_s (pc' := 194) rfl rfl rfl rfl ?_
        refine go_sget (pc' := 195) (v := .ref as_) hS278 rfl rfl rfl (by decide) rfl rfl ?_
        refine go_s (pc' := 196) rfl rfl rfl rfl ?_
        refine go_s (pc' := 197) (st' := [.int 2, .int (nI (424 * rho)), .ref as_]) rfl rfl rfl rfl ?_
        refine go_nadd (pc' := 198) (a := (424 * rho)) (b := 2) rfl rfl rfl rfl rfl ?_
        refine go_s (pc' := 199) (st' := [.int 0, .int (nI ((424 * rho) + 2)), .ref as_]) rfl rfl rfl rfl ?_
        refine go_siast (pc' := 200) (q := ((424 * rho) + 2)) hS278 rfl (tr_as hr (by omega)) tbr_inj (Nat.le_of_ble_eq_true rfl) rfl (by omega) (rk_0 hr).2 hWa rfl (fun h281 hS282 hE283 => ?_)
        have hE284 := sm_e_trans hE280 hE283
        have hR285 : RS (uI (uI K273 51 ((424 * rho) + 1) ((m4.1 1) + 1)) 51 ((424 * rho) + 2) 0) rho (uF m4.1 1 (m4.1 1 + 1), [], m4.2.2) := RS_e0 (RS_F (j := 1) hR276 (by decide) (by decide) (by decide))
        have hf285 : rfr (uI (uI J 6 0 0) 5 0 0) (uI (uI K273 51 ((424 * rho) + 1) ((m4.1 1) + 1)) 51 ((424 * rho) + 2) 0) rho := rfr_trans hf273 (rfr_trans (rfr_u (by omega) (by omega)) (rfr_u (by omega) (by omega)))
        change sm (tbr am lm as_ ls) _ (uI (uI K273 51 ((424 * rho) + 1) ((m4.1 1) + 1)) 51 ((424 * rho) + 2) 0) Y at hS282
        obtain ⟨K285, eK285⟩ : ∃ y, y = (uI (uI K273 51 ((424 * rho) + 1) ((m4.1 1) + 1)) 51 ((424 * rho) + 2) 0) := ⟨_, rfl⟩
        rw [← eK285] at hR285 hf285 hS282
        have hk286 : prk K285 0 ∧ ¬ K285 11 0 = -1 ∧ rwi K285 0 = rho := ⟨by unfold prk; rw [rfr_c hf285 (by decide)]; exact hp, by rw [rfr_c hf285 (by decide)]; exact hn, (rfr_w hf285).trans hrho⟩
        refine go_s (pc' := 201) rfl rfl rfl rfl ?_
        refine go_s (pc' := 202) (st' := [.int 16, .ref 62]) rfl rfl rfl rfl ?_
        refine go_s (pc' := 203) rfl rfl rfl rfl ?_
        refine go_sget (pc' := 204) (v := .ref as_) hS282 rfl rfl rfl (by decide) rfl rfl ?_
        refine go_s (pc' := 205) rfl rfl rfl rfl ?_
        refine go_s (pc' := 206) (st' := [.int 1, .int (nI (424 * rho)), .ref as_, .int 16, .ref 62]) rfl rfl rfl rfl ?_
        refine go_nadd (pc' := 207) (a := (424 * rho)) (b := 1) rfl rfl rfl rfl rfl ?_
        refine go_sald (pc' := 208) (q := ((424 * rho) + 1)) (v := .int (m4.1 1 + 1)) hS282 rfl (tr_as hr (by omega)) rfl rfl (by omega) (congrArg Value.int (hR285.1 1 (by decide) (by decide) (by decide))) rfl ?_
        refine go_s (pc' := 209) rfl rfl rfl rfl ?_
        refine go_sget (pc' := 210) (v := .ref as_) hS282 rfl rfl rfl (by decide) rfl rfl ?_
        refine go_s (pc' := 211) rfl rfl rfl rfl ?_
        refine go_s (pc' := 212) (st' := [.int 0, .int (nI (424 * rho)), .ref as_, .int (m4.1 1 + 1), .int 16, .ref 62]) rfl rfl rfl rfl ?_
        refine go_nadd (pc' := 213) (a := (424 * rho)) (b := 0) rfl rfl rfl rfl rfl ?_
        refine go_sald (pc' := 214) (q := ((424 * rho) + 0)) (v := .int (m4.1 0)) hS282 rfl (tr_as hr (by omega)) rfl rfl (by omega) (congrArg Value.int (hR285.1 0 (by decide) (by decide) (by decide))) rfl ?_
        refine go_s (pc' := 215) (st' := [.int 0, .int (m4.1 0), .int (m4.1 1 + 1), .int 16, .ref 62]) rfl rfl rfl rfl ?_
        refine go_s (pc' := 216) (st' := [.int 0, .int 0, .int (m4.1 0), .int (m4.1 1 + 1), .int 16, .ref 62]) rfl rfl rfl rfl ?_
        refine go_s (pc' := 217) (st' := [.int 0, .int 0, .int 0, .int (m4.1 0), .int (m4.1 1 + 1), .int 16, .ref 62]) rfl rfl rfl rfl ?_
        refine go_callV (pc' := 218) rfl rfl rfl (Nat.le_of_ble_eq_true rfl) rfl (sm_o hS282 rfl) rfl rfl rfl (rs_aw hr hS282 hW hWa hk286.1 hk286.2.1 hk286.2.2 hls hl31 hR285 (by show m4.2.2.length < 41; have z := hmk.2.2.2.2.2; rw [← e4] at z; omega) (by show 0 ≤ 32; decide) (by omega)) (fun r h287 q288 => ?_)
        obtain ⟨rfl, K289, hS289, hE289, hR289, hg289⟩ := q288
        have hE290 := sm_e_trans hE284 hE289
        have hf289 := rfr_trans hf285 hg289
        change RS K289 rho (mG m4) at hR289
        rw [show mG m4 = mrs f by unfold mrs; rw [e4]] at hR289
        have hk291 : prk K289 0 ∧ ¬ K289 11 0 = -1 ∧ rwi K289 0 = rho := ⟨by unfold prk; rw [rfr_c hf289 (by decide)]; exact hp, by rw [rfr_c hf289 (by decide)]; exact hn, (rfr_w hf289).trans hrho⟩
        refine go_s (pc' := 219) rfl rfl rfl rfl ?_
        refine go_sget (pc' := 220) (v := .ref as_) hS289 rfl rfl rfl (by decide) rfl rfl ?_
        refine go_s (pc' := 221) rfl rfl rfl rfl ?_
        refine go_s (pc' := 222) (st' := [.int 3, .int (nI (424 * rho)), .ref as_]) rfl rfl rfl rfl ?_
        refine go_nadd (pc' := 223) (a := (424 * rho)) (b := 3) rfl rfl rfl rfl rfl ?_
        refine go_s (pc' := 224) (st' := [.int 2, .int (nI ((424 * rho) + 3)), .ref as_]) rfl rfl rfl rfl ?_
        refine go_siast (pc' := 225) (q := ((424 * rho) + 3)) hS289 rfl (tr_as hr (by omega)) tbr_inj (Nat.le_of_ble_eq_true rfl) rfl (by omega) (rk_0 hr).2 hWa rfl (fun h292 hS293 hE294 => ?_)
        have hE295 := sm_e_trans hE290 hE294
        refine go_s (pc' := 226) rfl rfl rfl rfl ?_
        refine go_sget (pc' := 227) (v := .ref 88) hS293 rfl rfl rfl (by decide) rfl rfl ?_
        refine go_s (pc' := 228) (st' := [.int 0, .ref 88]) rfl rfl rfl rfl ?_
        refine go_s (pc' := 229) (st' := [.int 0, .int 0, .ref 88]) rfl rfl rfl rfl ?_
        refine go_siast (pc' := 230) (q := 0) hS293 rfl (tr_s hr (a := 88) rfl (by decide)) tbr_inj (Nat.le_of_ble_eq_true rfl) rfl (by decide) (by decide) (hW _ (by decide) (by decide)) rfl (fun h296 hS297 hE298 => ?_)
        have hE299 := sm_e_trans hE295 hE298
        refine go_s (pc' := 231) rfl rfl rfl rfl ?_
        refine go_sget (pc' := 232) (v := .ref 88) hS297 rfl rfl rfl (by decide) rfl rfl ?_
        refine go_s (pc' := 233) (st' := [.int 1, .ref 88]) rfl rfl rfl rfl ?_
        refine go_s (pc' := 234) (st' := [.int 0, .int 1, .ref 88]) rfl rfl rfl rfl ?_
        refine go_siast (pc' := 235) (q := 1) hS297 rfl (tr_s hr (a := 88) rfl (by decide)) tbr_inj (Nat.le_of_ble_eq_true rfl) rfl (by decide) (by decide) (hW _ (by decide) (by decide)) rfl (fun h300 hS301 hE302 => ?_)
        have hE303 := sm_e_trans hE299 hE302
        refine go_s (pc' := 236) rfl rfl rfl rfl ?_
        refine go_sget (pc' := 237) (v := .ref 83) hS301 rfl rfl rfl (by decide) rfl rfl ?_
        refine go_s (pc' := 238) (st' := [.int 0, .ref 83]) rfl rfl rfl rfl ?_
        refine go_s (pc' := 239) (st' := [.int 2, .int 0, .ref 83]) rfl rfl rfl rfl ?_
        refine go_siast (pc' := 240) (q := 0) hS301 rfl (tr_s hr (a := 83) rfl (by decide)) tbr_inj (Nat.le_of_ble_eq_true rfl) rfl (by decide) (by decide) (hW _ (by decide) (by decide)) rfl (fun h304 hS305 hE306 => ?_)
        have hE307 := sm_e_trans hE303 hE306
        refine go_s (pc' := 241) rfl rfl rfl rfl ?_
        refine go_s (pc' := 242) (st' := [.int 1, .ref 62]) rfl rfl rfl rfl ?_
        refine go_sput (pc' := 243) hS305 rfl rfl rfl (by decide) tbr_inj (Nat.le_of_ble_eq_true rfl) rfl (hW _ (by decide) (by decide)) rfl (fun h308 hS309 hE310 => ?_)
        have hE311 := sm_e_trans hE307 hE310
        refine go_ret rfl rfl ?_
        refine ⟨rfl, _, hS309, hE311, ?_, ?_⟩
        · rw [mrs2_e]
          refine RS_c (J := uI K289 51 (424 * rho + 3) 2) (fun j => rfl) (RS_F (j := 3) hR289 (by decide) (by decide) (by decide))
        · rw [hch]
          exact rfr_i (by decide) (rfr_i (by decide) (rfr_i (by decide) (rfr_i (by decide) (rfr_trans hf289 (rfr_u (by omega) (by omega))))))
    · skip
      show am_Go _ _ _ _ 177 _ [.int 1] _ _
      refine go_ifP (t' := 181) (pc' := 178) rfl rfl rfl (fun (c : (1 : Int32) = 0) => absurd c (by decide)) (fun _ => ?_)
      refine go_s (pc' := 179) rfl rfl rfl rfl ?_
      refine go_s (pc' := 180) rfl rfl rfl rfl ?_
      refine go_callV (pc' := 181) rfl rfl rfl (Nat.le_of_ble_eq_true rfl) rfl (sm_o hS223 rfl) rfl rfl rfl (rs_bo hr hS223 hW hWa hk227.1 hk227.2.1 hk227.2.2 hls hl31 hR226 (t := 0) (by have z := hmk.2.1 u230; exact z) hEK hmk.1 (by show 0 + cw (rdL f) 0 (rdL f).length ≤ 40; have z := cw_le (rdL f) 0 (rdL f).length; omega) (by omega)) (fun r h312 q313 => ?_)
      obtain ⟨rfl, K314, hS314, hE314, hR314, hg314⟩ := q313
      have hE315 := sm_e_trans hE225 hE314
      have hf314 := rfr_trans hf226 hg314
      have hk316 : prk K314 0 ∧ ¬ K314 11 0 = -1 ∧ rwi K314 0 = rho := ⟨by unfold prk; rw [rfr_c hf314 (by decide)]; exact hp, by rw [rfr_c hf314 (by decide)]; exact hn, (rfr_w hf314).trans hrho⟩
      have hR317 : RS K314 rho (mr3 f) := by rw [mr3_y u230]; exact hR314
      refine go_s (pc' := 182) (lo' := [some (.ref 62), some (.int 1), some (.int (nI (424 * rho))), some (.int 245), some (.int (nI (rd f (f 80) 32 0))), some (.int 1)]) rfl rfl rfl rfl ?_
      refine go_s (pc' := 171) rfl rfl rfl rfl ?_
      refine go_s (pc' := 172) rfl rfl rfl rfl ?_
      refine go_s (pc' := 173) (st' := [.int 2, .int 1]) rfl rfl rfl rfl ?_
      refine go_icmpP (t' := 183) (pc' := 174) rfl rfl rfl (fun (c : 2 ≤ (1 : Int32)) => absurd c (by decide)) (fun _ => ?_)
      refine go_s (pc' := 175) rfl rfl rfl rfl ?_
      refine go_s (pc' := 176) rfl rfl rfl rfl ?_
      refine go_callV (pc' := 177) rfl rfl rfl (Nat.le_of_ble_eq_true rfl) rfl (sm_o hS314 rfl) rfl rfl rfl (rs_ho hr hS314 hk316.1 hk316.2.1 hk316.2.2 hls hl31 hR317 (t := 1) hmk.2.2.2.1 (EK_3 hEK) (by omega)) (fun r h318 q319 => ?_)
      obtain ⟨rfl, rfl⟩ := q319
      rw [show hop (mr3 f) 1 = hop (mr3 f) 1 from rfl]
      cases u320 : hop (mr3 f) 1
      · skip
        show am_Go _ _ _ _ 177 _ [.int 0] _ _
        refine go_ifP (t' := 181) (pc' := 178) rfl rfl rfl (fun _ => ?_) (fun (c : ¬ ((0 : Int32) = 0)) => absurd (by decide) c)
        have hR321 : RS K314 rho (mr4 f) := by rw [show mr4 f = mr3 f from if_neg (by rw [u320]; decide)]; exact hR317
        obtain ⟨m4, e4⟩ : ∃ y : ms, y = mr4 f := ⟨_, rfl⟩
        rw [← e4] at hR321
        refine go_s (pc' := 182) (lo' := [some (.ref 62), some (.int 1), some (.int (nI (424 * rho))), some (.int 245), some (.int (nI (rd f (f 80) 32 0))), some (.int 2)]) rfl rfl rfl rfl ?_
        refine go_s (pc' := 171) rfl rfl rfl rfl ?_
        refine go_s (pc' := 172) rfl rfl rfl rfl ?_
        refine go_s (pc' := 173) (st' := [.int 2, .int 2]) rfl rfl rfl rfl ?_
        refine go_icmpP (t' := 183) (pc' := 174) rfl rfl rfl (fun _ => ?_) (fun (c : ¬ (2 ≤ (2 : Int32))) => absurd (by decide) c)
        refine go_s (pc' := 184) rfl rfl rfl rfl ?_
        refine go_sget (pc' := 185) (v := .ref as_) hS314 rfl rfl rfl (by decide) rfl rfl ?_
        refine go_s (pc' := 186) rfl rfl rfl rfl ?_
        refine go_s (pc' := 187) (st' := [.int 1, .int (nI (424 * rho)), .ref as_]) rfl rfl rfl rfl ?_
        refine go_nadd (pc' := 188) (a := (424 * rho)) (b := 1) rfl rfl rfl rfl rfl ?_
        refine go_s (pc' := 189) rfl rfl rfl rfl ?_
        refine go_sald (pc' := 190) (q := ((424 * rho) + 1)) (v := .int (m4.1 1)) hS314 rfl (tr_as hr (by omega)) rfl rfl (by omega) (congrArg Value.int (hR321.1 1 (by decide) (by decide) (by decide))) rfl ?_
        refine go_s (pc' := 191) (st' := [.int 1, .int (m4.1 1), .int (nI ((424 * rho) + 1)), .ref as_]) rfl rfl rfl rfl ?_
        refine go_s (pc' := 192) rfl rfl rfl rfl ?_
        refine go_siast (pc' := 193) (q := ((424 * rho) + 1)) hS314 rfl (tr_as hr (by omega)) tbr_inj (Nat.le_of_ble_eq_true rfl) rfl (by omega) (rk_0 hr).2 hWa rfl (fun h322 hS323 hE324 => ?_)
        have hE325 := sm_e_trans hE315 hE324
        refine go_s (pc' := 194) rfl rfl rfl rfl ?_
        refine go_sget (pc' := 195) (v := .ref as_) hS323 rfl rfl rfl (by decide) rfl rfl ?_
        refine go_s (pc' := 196) rfl rfl rfl rfl ?_
        refine go_s (pc' := 197) (st' := [.int 2, .int (nI (424 * rho)), .ref as_]) rfl rfl rfl rfl ?_
        refine go_nadd (pc' := 198) (a := (424 * rho)) (b := 2) rfl rfl rfl rfl rfl ?_
        refine go_s (pc' := 199) (st' := [.int 0, .int (nI ((424 * rho) + 2)), .ref as_]) rfl rfl rfl rfl ?_
        refine go_siast (pc' := 200) (q := ((424 * rho) + 2)) hS323 rfl (tr_as hr (by omega)) tbr_inj (Nat.le_of_ble_eq_true rfl) rfl (by omega) (rk_0 hr).2 hWa rfl (fun h326 hS327 hE328 => ?_)
        have hE329 := sm_e_trans hE325 hE328
        have hR330 : RS (uI (uI K314 51 ((424 * rho) + 1) ((m4.1 1) + 1)) 51 ((424 * rho) + 2) 0) rho (uF m4.1 1 (m4.1 1 + 1), [], m4.2.2) := RS_e0 (RS_F (j := 1) hR321 (by decide) (by decide) (by decide))
        have hf330 : rfr (uI (uI J 6 0 0) 5 0 0) (uI (uI K314 51 ((424 * rho) + 1) ((m4.1 1) + 1)) 51 ((424 * rho) + 2) 0) rho := rfr_trans hf314 (rfr_trans (rfr_u (by omega) (by omega)) (rfr_u (by omega) (by omega)))
        change sm (tbr am lm as_ ls) _ (uI (uI K314 51 ((424 * rho) + 1) ((m4.1 1) + 1)) 51 ((424 * rho) + 2) 0) Y at hS327
        obtain ⟨K330, eK330⟩ : ∃ y, y = (uI (uI K314 51 ((424 * rho) + 1) ((m4.1 1) + 1)) 51 ((424 * rho) + 2) 0) := ⟨_, rfl⟩
        rw [← eK330] at hR330 hf330 hS327
        have hk331 : prk K330 0 ∧ ¬ K330 11 0 = -1 ∧ rwi K330 0 = rho := ⟨by unfold prk; rw [rfr_c hf330 (by decide)]; exact hp, by rw [rfr_c hf330 (by decide)]; exact hn, (rfr_w hf330).trans hrho⟩
        refine go_s (pc' := 201) rfl rfl rfl rfl ?_
        refine go_s (pc' := 202) (st' := [.int 16, .ref 62]) rfl rfl rfl rfl ?_
        refine go_s (pc' := 203) rfl rfl rfl rfl ?_
        refine go_sget (pc' := 204) (v := .ref as_) hS327 rfl rfl rfl (by decide) rfl rfl ?_
        refine go_s (pc' := 205) rfl rfl rfl rfl ?_
        refine go_s (pc' := 206) (st' := [.int 1, .int (nI (424 * rho)), .ref as_, .int 16, .ref 62]) rfl rfl rfl rfl ?_
        refine go_nadd (pc' := 207) (a := (424 * rho)) (b := 1) rfl rfl rfl rfl rfl ?_
        refine go_sald (pc' := 208) (q := ((424 * rho) + 1)) (v := .int (m4.1 1 + 1)) hS327 rfl (tr_as hr (by omega)) rfl rfl (by omega) (congrArg Value.int (hR330.1 1 (by decide) (by decide) (by decide))) rfl ?_
        refine go_s (pc' := 209) rfl rfl rfl rfl ?_
        refine go_sget (pc' := 210) (v := .ref as_) hS327 rfl rfl rfl (by decide) rfl rfl ?_
        refine go_s (pc' := 211) rfl rfl rfl rfl ?_
        refine go_s (pc' := 212) (st' := [.int 0, .int (nI (424 * rho)), .ref as_, .int (m4.1 1 + 1), .int 16, .ref 62]) rfl rfl rfl rfl ?_
        refine go_nadd (pc' := 213) (a := (424 * rho)) (b := 0) rfl rfl rfl rfl rfl ?_
        refine go_sald (pc' := 214) (q := ((424 * rho) + 0)) (v := .int (m4.1 0)) hS327 rfl (tr_as hr (by omega)) rfl rfl (by omega) (congrArg Value.int (hR330.1 0 (by decide) (by decide) (by decide))) rfl ?_
        refine go_s (pc' := 215) (st' := [.int 0, .int (m4.1 0), .int (m4.1 1 + 1), .int 16, .ref 62]) rfl rfl rfl rfl ?_
        refine go_s (pc' := 216) (st' := [.int 0, .int 0, .int (m4.1 0), .int (m4.1 1 + 1), .int 16, .ref 62]) rfl rfl rfl rfl ?_
        refine go_s (pc' := 217) (st' := [.int 0, .int 0, .int 0, .int (m4.1 0), .int (m4.1 1 + 1), .int 16, .ref 62]) rfl rfl rfl rfl ?_
        refine go_callV (pc' := 218) rfl rfl rfl (Nat.le_of_ble_eq_true rfl) rfl (sm_o hS327 rfl) rfl rfl rfl (rs_aw hr hS327 hW hWa hk331.1 hk331.2.1 hk331.2.2 hls hl31 hR330 (by show m4.2.2.length < 41; have z := hmk.2.2.2.2.2; rw [← e4] at z; omega) (by show 0 ≤ 32; decide) (by omega)) (fun r h332 q333 => ?_)
        obtain ⟨rfl, K334, hS334, hE334, hR334, hg334⟩ := q333
        have hE335 := sm_e_trans hE329 hE334
        have hf334 := rfr_trans hf330 hg334
        change RS K334 rho (mG m4) at hR334
        rw [show mG m4 = mrs f by unfold mrs; rw [e4]] at hR334
        have hk336 : prk K334 0 ∧ ¬ K334 11 0 = -1 ∧ rwi K334 0 = rho := ⟨by unfold prk; rw [rfr_c hf334 (by decide)]; exact hp, by rw [rfr_c hf334 (by decide)]; exact hn, (rfr_w hf334).trans hrho⟩
        refine go_s (pc' := 219) rfl rfl rfl rfl ?_
        refine go_sget (pc' := 220) (v := .ref as_) hS334 rfl rfl rfl (by decide) rfl rfl ?_
        refine go_s (pc' := 221) rfl rfl rfl rfl ?_
        refine go_s (pc' := 222) (st' := [.int 3, .int (nI (424 * rho)), .ref as_]) rfl rfl rfl rfl ?_
        refine go_nadd (pc' := 223) (a := (424 * rho)) (b := 3) rfl rfl rfl rfl rfl ?_
        refine go_s (pc' := 224) (st' := [.int 2, .int (nI ((424 * rho) + 3)), .ref as_]) rfl rfl rfl rfl ?_
        refine go_siast (pc' := 225) (q := ((424 * rho) + 3)) hS334 rfl (tr_as hr (by omega)) tbr_inj (Nat.le_of_ble_eq_true rfl) rfl (by omega) (rk_0 hr).2 hWa rfl (fun h337 hS338 hE339 => ?_)
        have hE340 := sm_e_trans hE335 hE339
        refine go_s (pc' := 226) rfl rfl rfl rfl ?_
        refine go_sget (pc' := 227) (v := .ref 88) hS338 rfl rfl rfl (by decide) rfl rfl ?_
        refine go_s (pc' := 228) (st' := [.int 0, .ref 88]) rfl rfl rfl rfl ?_
        refine go_s (pc' := 229) (st' := [.int 0, .int 0, .ref 88]) rfl rfl rfl rfl ?_
        refine go_siast (pc' := 230) (q := 0) hS338 rfl (tr_s hr (a := 88) rfl (by decide)) tbr_inj (Nat.le_of_ble_eq_true rfl) rfl (by decide) (by decide) (hW _ (by decide) (by decide)) rfl (fun h341 hS342 hE343 => ?_)
        have hE344 := sm_e_trans hE340 hE343
        refine go_s (pc' := 231) rfl rfl rfl rfl ?_
        refine go_sget (pc' := 232) (v := .ref 88) hS342 rfl rfl rfl (by decide) rfl rfl ?_
        refine go_s (pc' := 233) (st' := [.int 1, .ref 88]) rfl rfl rfl rfl ?_
        refine go_s (pc' := 234) (st' := [.int 0, .int 1, .ref 88]) rfl rfl rfl rfl ?_
        refine go_siast (pc' := 235) (q := 1) hS342 rfl (tr_s hr (a := 88) rfl (by decide)) tbr_inj (Nat.le_of_ble_eq_true rfl) rfl (by decide) (by decide) (hW _ (by decide) (by decide)) rfl (fun h345 hS346 hE347 => ?_)
        have hE348 := sm_e_trans hE344 hE347
        refine go_s (pc' := 236) rfl rfl rfl rfl ?_
        refine go_sget (pc' := 237) (v := .ref 83) hS346 rfl rfl rfl (by decide) rfl rfl ?_
        refine go_s (pc' := 238) (st' := [.int 0, .ref 83]) rfl rfl rfl rfl ?_
        refine go_s (pc' := 239) (st' := [.int 2, .int 0, .ref 83]) rfl rfl rfl rfl ?_
        refine go_siast (pc' := 240) (q := 0) hS346 rfl (tr_s hr (a := 83) rfl (by decide)) tbr_inj (Nat.le_of_ble_eq_true rfl) rfl (by decide) (by decide) (hW _ (by decide) (by decide)) rfl (fun h349 hS350 hE351 => ?_)
        have hE352 := sm_e_trans hE348 hE351
        refine go_s (pc' := 241) rfl rfl rfl rfl ?_
        refine go_s (pc' := 242) (st' := [.int 1, .ref 62]) rfl rfl rfl rfl ?_
        refine go_sput (pc' := 243) hS350 rfl rfl rfl (by decide) tbr_inj (Nat.le_of_ble_eq_true rfl) rfl (hW _ (by decide) (by decide)) rfl (fun h353 hS354 hE355 => ?_)
        have hE356 := sm_e_trans hE352 hE355
        refine go_ret rfl rfl ?_
        refine ⟨rfl, _, hS354, hE356, ?_, ?_⟩
        · rw [mrs2_e]
          refine RS_c (J := uI K334 51 (424 * rho + 3) 2) (fun j => rfl) (RS_F (j := 3) hR334 (by decide) (by decide) (by decide))
        · rw [hch]
          exact rfr_i (by decide) (rfr_i (by decide) (rfr_i (by decide) (rfr_i (by decide) (rfr_trans hf334 (rfr_u (by omega) (by omega))))))
      · skip
        show am_Go _ _ _ _ 177 _ [.int 1] _ _
        refine go_ifP (t' := 181) (pc' := 178) rfl rfl rfl (fun (c : (1 : Int32) = 0) => absurd c (by decide)) (fun _ => ?_)
        refine go_s (pc' := 179) rfl rfl rfl rfl ?_
        refine go_s (pc' := 180) rfl rfl rfl rfl ?_
        refine go_callV (pc' := 181) rfl rfl rfl (Nat.le_of_ble_eq_true rfl) rfl (sm_o hS314 rfl) rfl rfl rfl (rs_bo hr hS314 hW hWa hk316.1 hk316.2.1 hk316.2.2 hls hl31 hR317 (t := 1) (hmk.2.2.2.2.1 u320).1 (EK_3 hEK) hmk.2.2.1 (by have z := (hmk.2.2.2.2.1 u320).2; omega) (by omega)) (fun r h357 q358 => ?_)
        obtain ⟨rfl, K359, hS359, hE359, hR359, hg359⟩ := q358
        have hE360 := sm_e_trans hE315 hE359
        have hf359 := rfr_trans hf314 hg359
        have hk361 : prk K359 0 ∧ ¬ K359 11 0 = -1 ∧ rwi K359 0 = rho := ⟨by unfold prk; rw [rfr_c hf359 (by decide)]; exact hp, by rw [rfr_c hf359 (by decide)]; exact hn, (rfr_w hf359).trans hrho⟩
        have hR362 : RS K359 rho (mr4 f) := by rw [show mr4 f = mB (mr3 f) 1 from if_pos u320]; exact hR359
        obtain ⟨m4, e4⟩ : ∃ y : ms, y = mr4 f := ⟨_, rfl⟩
        rw [← e4] at hR362
        refine go_s (pc' := 182) (lo' := [some (.ref 62), some (.int 1), some (.int (nI (424 * rho))), some (.int 245), some (.int (nI (rd f (f 80) 32 0))), some (.int 2)]) rfl rfl rfl rfl ?_
        refine go_s (pc' := 171) rfl rfl rfl rfl ?_
        refine go_s (pc' := 172) rfl rfl rfl rfl ?_
        refine go_s (pc' := 173) (st' := [.int 2, .int 2]) rfl rfl rfl rfl ?_
        refine go_icmpP (t' := 183) (pc' := 174) rfl rfl rfl (fun _ => ?_) (fun (c : ¬ (2 ≤ (2 : Int32))) => absurd (by decide) c)
        refine go_s (pc' := 184) rfl rfl rfl rfl ?_
        refine go_sget (pc' := 185) (v := .ref as_) hS359 rfl rfl rfl (by decide) rfl rfl ?_
        refine go_s (pc' := 186) rfl rfl rfl rfl ?_
        refine go_s (pc' := 187) (st' := [.int 1, .int (nI (424 * rho)), .ref as_]) rfl rfl rfl rfl ?_
        refine go_nadd (pc' := 188) (a := (424 * rho)) (b := 1) rfl rfl rfl rfl rfl ?_
        refine go_s (pc' := 189) rfl rfl rfl rfl ?_
        refine go_sald (pc' := 190) (q := ((424 * rho) + 1)) (v := .int (m4.1 1)) hS359 rfl (tr_as hr (by omega)) rfl rfl (by omega) (congrArg Value.int (hR362.1 1 (by decide) (by decide) (by decide))) rfl ?_
        refine go_s (pc' := 191) (st' := [.int 1, .int (m4.1 1), .int (nI ((424 * rho) + 1)), .ref as_]) rfl rfl rfl rfl ?_
        refine go_s (pc' := 192) rfl rfl rfl rfl ?_
        refine go_siast (pc' := 193) (q := ((424 * rho) + 1)) hS359 rfl (tr_as hr (by omega)) tbr_inj (Nat.le_of_ble_eq_true rfl) rfl (by omega) (rk_0 hr).2 hWa rfl (fun h363 hS364 hE365 => ?_)
        have hE366 := sm_e_trans hE360 hE365
        refine go_s (pc' := 194) rfl rfl rfl rfl ?_
        refine go_sget (pc' := 195) (v := .ref as_) hS364 rfl rfl rfl (by decide) rfl rfl ?_
        refine go_s (pc' := 196) rfl rfl rfl rfl ?_
        refine go_s (pc' := 197) (st' := [.int 2, .int (nI (424 * rho)), .ref as_]) rfl rfl rfl rfl ?_
        refine go_nadd (pc' := 198) (a := (424 * rho)) (b := 2) rfl rfl rfl rfl rfl ?_
        refine go_s (pc' := 199) (st' := [.int 0, .int (nI ((424 * rho) + 2)), .ref as_]) rfl rfl rfl rfl ?_
        refine go_siast (pc' := 200) (q := ((424 * rho) + 2)) hS364 rfl (tr_as hr (by omega)) tbr_inj (Nat.le_of_ble_eq_true rfl) rfl (by omega) (rk_0 hr).2 hWa rfl (fun h367 hS368 hE369 => ?_)
        have hE370 := sm_e_trans hE366 hE369
        have hR371 : RS (uI (uI K359 51 ((424 * rho) + 1) ((m4.1 1) + 1)) 51 ((424 * rho) + 2) 0) rho (uF m4.1 1 (m4.1 1 + 1), [], m4.2.2) := RS_e0 (RS_F (j := 1) hR362 (by decide) (by decide) (by decide))
        have hf371 : rfr (uI (uI J 6 0 0) 5 0 0) (uI (uI K359 51 ((424 * rho) + 1) ((m4.1 1) + 1)) 51 ((424 * rho) + 2) 0) rho := rfr_trans hf359 (rfr_trans (rfr_u (by omega) (by omega)) (rfr_u (by omega) (by omega)))
        change sm (tbr am lm as_ ls) _ (uI (uI K359 51 ((424 * rho) + 1) ((m4.1 1) + 1)) 51 ((424 * rho) + 2) 0) Y at hS368
        obtain ⟨K371, eK371⟩ : ∃ y, y = (uI (uI K359 51 ((424 * rho) + 1) ((m4.1 1) + 1)) 51 ((424 * rho) + 2) 0) := ⟨_, rfl⟩
        rw [← eK371] at hR371 hf371 hS368
        have hk372 : prk K371 0 ∧ ¬ K371 11 0 = -1 ∧ rwi K371 0 = rho := ⟨by unfold prk; rw [rfr_c hf371 (by decide)]; exact hp, by rw [rfr_c hf371 (by decide)]; exact hn, (rfr_w hf371).trans hrho⟩
        refine go_s (pc' := 201) rfl rfl rfl rfl ?_
        refine go_s (pc' := 202) (st' := [.int 16, .ref 62]) rfl rfl rfl rfl ?_
        refine go_s (pc' := 203) rfl rfl rfl rfl ?_
        refine go_sget (pc' := 204) (v := .ref as_) hS368 rfl rfl rfl (by decide) rfl rfl ?_
        refine go_s (pc' := 205) rfl rfl rfl rfl ?_
        refine go_s (pc' := 206) (st' := [.int 1, .int (nI (424 * rho)), .ref as_, .int 16, .ref 62]) rfl rfl rfl rfl ?_
        refine go_nadd (pc' := 207) (a := (424 * rho)) (b := 1) rfl rfl rfl rfl rfl ?_
        refine go_sald (pc' := 208) (q := ((424 * rho) + 1)) (v := .int (m4.1 1 + 1)) hS368 rfl (tr_as hr (by omega)) rfl rfl (by omega) (congrArg Value.int (hR371.1 1 (by decide) (by decide) (by decide))) rfl ?_
        refine go_s (pc' := 209) rfl rfl rfl rfl ?_
        refine go_sget (pc' := 210) (v := .ref as_) hS368 rfl rfl rfl (by decide) rfl rfl ?_
        refine go_s (pc' := 211) rfl rfl rfl rfl ?_
        refine go_s (pc' := 212) (st' := [.int 0, .int (nI (424 * rho)), .ref as_, .int (m4.1 1 + 1), .int 16, .ref 62]) rfl rfl rfl rfl ?_
        refine go_nadd (pc' := 213) (a := (424 * rho)) (b := 0) rfl rfl rfl rfl rfl ?_
        refine go_sald (pc' := 214) (q := ((424 * rho) + 0)) (v := .int (m4.1 0)) hS368 rfl (tr_as hr (by omega)) rfl rfl (by omega) (congrArg Value.int (hR371.1 0 (by decide) (by decide) (by decide))) rfl ?_
        refine go_s (pc' := 215) (st' := [.int 0, .int (m4.1 0), .int (m4.1 1 + 1), .int 16, .ref 62]) rfl rfl rfl rfl ?_
        refine go_s (pc' := 216) (st' := [.int 0, .int 0, .int (m4.1 0), .int (m4.1 1 + 1), .int 16, .ref 62]) rfl rfl rfl rfl ?_
        refine go_s (pc' := 217) (st' := [.int 0, .int 0, .int 0, .int (m4.1 0), .int (m4.1 1 + 1), .int 16, .ref 62]) rfl rfl rfl rfl ?_
        refine go_callV (pc' := 218) rfl rfl rfl (Nat.le_of_ble_eq_true rfl) rfl (sm_o hS368 rfl) rfl rfl rfl (rs_aw hr hS368 hW hWa hk372.1 hk372.2.1 hk372.2.2 hls hl31 hR371 (by show m4.2.2.length < 41; have z := hmk.2.2.2.2.2; rw [← e4] at z; omega) (by show 0 ≤ 32; decide) (by omega)) (fun r h373 q374 => ?_)
        obtain ⟨rfl, K375, hS375, hE375, hR375, hg375⟩ := q374
        have hE376 := sm_e_trans hE370 hE375
        have hf375 := rfr_trans hf371 hg375
        change RS K375 rho (mG m4) at hR375
        rw [show mG m4 = mrs f by unfold mrs; rw [e4]] at hR375
        have hk377 : prk K375 0 ∧ ¬ K375 11 0 = -1 ∧ rwi K375 0 = rho := ⟨by unfold prk; rw [rfr_c hf375 (by decide)]; exact hp, by rw [rfr_c hf375 (by decide)]; exact hn, (rfr_w hf375).trans hrho⟩
        refine go_s (pc' := 219) rfl rfl rfl rfl ?_
        refine go_sget (pc' := 220) (v := .ref as_) hS375 rfl rfl rfl (by decide) rfl rfl ?_
        refine go_s (pc' := 221) rfl rfl rfl rfl ?_
        refine go_s (pc' := 222) (st' := [.int 3, .int (nI (424 * rho)), .ref as_]) rfl rfl rfl rfl ?_
        refine go_nadd (pc' := 223) (a := (424 * rho)) (b := 3) rfl rfl rfl rfl rfl ?_
        refine go_s (pc' := 224) (st' := [.int 2, .int (nI ((424 * rho) + 3)), .ref as_]) rfl rfl rfl rfl ?_
        refine go_siast (pc' := 225) (q := ((424 * rho) + 3)) hS375 rfl (tr_as hr (by omega)) tbr_inj (Nat.le_of_ble_eq_true rfl) rfl (by omega) (rk_0 hr).2 hWa rfl (fun h378 hS379 hE380 => ?_)
        have hE381 := sm_e_trans hE376 hE380
        refine go_s (pc' := 226) rfl rfl rfl rfl ?_
        refine go_sget (pc' := 227) (v := .ref 88) hS379 rfl rfl rfl (by decide) rfl rfl ?_
        refine go_s (pc' := 228) (st' := [.int 0, .ref 88]) rfl rfl rfl rfl ?_
        refine go_s (pc' := 229) (st' := [.int 0, .int 0, .ref 88]) rfl rfl rfl rfl ?_
        refine go_siast (pc' := 230) (q := 0) hS379 rfl (tr_s hr (a := 88) rfl (by decide)) tbr_inj (Nat.le_of_ble_eq_true rfl) rfl (by decide) (by decide) (hW _ (by decide) (by decide)) rfl (fun h382 hS383 hE384 => ?_)
        have hE385 := sm_e_trans hE381 hE384
        refine go_s (pc' := 231) rfl rfl rfl rfl ?_
        refine go_sget (pc' := 232) (v := .ref 88) hS383 rfl rfl rfl (by decide) rfl rfl ?_
        refine go_s (pc' := 233) (st' := [.int 1, .ref 88]) rfl rfl rfl rfl ?_
        refine go_s (pc' := 234) (st' := [.int 0, .int 1, .ref 88]) rfl rfl rfl rfl ?_
        refine go_siast (pc' := 235) (q := 1) hS383 rfl (tr_s hr (a := 88) rfl (by decide)) tbr_inj (Nat.le_of_ble_eq_true rfl) rfl (by decide) (by decide) (hW _ (by decide) (by decide)) rfl (fun h386 hS387 hE388 => ?_)
        have hE389 := sm_e_trans hE385 hE388
        refine go_s (pc' := 236) rfl rfl rfl rfl ?_
        refine go_sget (pc' := 237) (v := .ref 83) hS387 rfl rfl rfl (by decide) rfl rfl ?_
        refine go_s (pc' := 238) (st' := [.int 0, .ref 83]) rfl rfl rfl rfl ?_
        refine go_s (pc' := 239) (st' := [.int 2, .int 0, .ref 83]) rfl rfl rfl rfl ?_
        refine go_siast (pc' := 240) (q := 0) hS387 rfl (tr_s hr (a := 83) rfl (by decide)) tbr_inj (Nat.le_of_ble_eq_true rfl) rfl (by decide) (by decide) (hW _ (by decide) (by decide)) rfl (fun h390 hS391 hE392 => ?_)
        have hE393 := sm_e_trans hE389 hE392
        refine go_s (pc' := 241) rfl rfl rfl rfl ?_
        refine go_s (pc' := 242) (st' := [.int 1, .ref 62]) rfl rfl rfl rfl ?_
        refine go_sput (pc' := 243) hS391 rfl rfl rfl (by decide) tbr_inj (Nat.le_of_ble_eq_true rfl) rfl (hW _ (by decide) (by decide)) rfl (fun h394 hS395 hE396 => ?_)
        have hE397 := sm_e_trans hE393 hE396
        refine go_ret rfl rfl ?_
        refine ⟨rfl, _, hS395, hE397, ?_, ?_⟩
        · rw [mrs2_e]
          refine RS_c (J := uI K375 51 (424 * rho + 3) 2) (fun j => rfl) (RS_F (j := 3) hR375 (by decide) (by decide) (by decide))
        · rw [hch]
          exact rfr_i (by decide) (rfr_i (by decide) (rfr_i (by decide) (rfr_i (by decide) (rfr_trans hf375 (rfr_u (by omega) (by omega))))))
