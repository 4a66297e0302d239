theorem le_15 {x : Int32} (h : x < 0 ∨ nI 16 ≤ x) : x < 0 ∨ nI 15 < x := h.imp id (fun z => by
  rw [Int32.le_iff_toInt_le] at z
  rw [Int32.lt_iff_toInt_lt]
  have e1 : (nI 15).toInt = 15 := rfl
  have e2 : (nI 16).toInt = 16 := rfl
  omega)
theorem le_4 {x : Int32} (h0 : ¬ x = 0) (h1 : ¬ x = 1) (h2 : ¬ x = 2) (h3 : ¬ x = 3) (h4 : ¬ x = 4) : x < 0 ∨ nI 4 < x := by
  rw [← Int32.toInt_inj] at h0 h1 h2 h3 h4
  rw [Int32.lt_iff_toInt_lt, Int32.lt_iff_toInt_lt]
  have e1 : (nI 4).toInt = 4 := rfl
  simp at h0 h1 h2 h3 h4 ⊢
  omega
def msd (s : ms) (t : Nat) (inc num rs v : Int32) : ms := (uF (uF (uF (uF (uF (uF s.1 (6 + t) inc) (8 + t) num) (10 + t) rs) (12 + t) v) 3 1) 4 (nI t), s.2)
theorem rs_re_0 {w : Nat → Bool} {d : Nat} {h : am_Hp} {J : sm_I} {Y : sm_X} {am lm as_ ls : Nat} (hr : rk am as_) (hS : sm (tbr am lm as_ ls) h J Y) (hW : ∀ a, 62 ≤ a → a ≤ 88 → w a = true) (hWa : w as_ = true) {rho : Nat} {s : ms} (hp : prk J 0) (hn : ¬ J 11 0 = -1) (hrho : rwi J 0 = rho) (hls : 424 * rho + 424 ≤ ls) (hl31 : ls < 2 ^ 31) (hR : RS J rho s) (hw0 : s.2.2 = []) (hH : s.2.1.length + mtr s ≤ 32) (hK : EK s.2.1) (hrk : rok s.2.1 (nI 0)) (hb : bok s) (hlk : LKs s) {kd rc vl : Int32} (hd : 6 ≤ d) : am_Ev (am_prog w) d 146 [.ref 62, .int 0, .int kd, .int rc, .int vl] h (fun r h' => r = some (.int (mj2 s 0 kd rc).1) ∧ ∃ K, sm (tbr am lm as_ ls) h' K Y ∧ sm_e (tbr am lm as_ ls) h h' ∧ RS K rho (mdo (mj2 s 0 kd rc).2 0 (mj2 s 0 kd rc).1 kd rc vl) ∧ rfr J K rho) := by
  by_cases k0 : kd = 0
  · subst k0; exact rs_re_0_0 hr hS hW hWa hp hn hrho hls hl31 hR hw0 hH hK hrk hb hd
  by_cases k1 : kd = 1
  · subst k1
    rcases nI_within (x := rc) (n := 16) (by decide) with ⟨q, hq, rfl⟩ | ho
    · exact rs_re_0_1 hr hS hW hWa hp hn hrho hls hl31 hR hw0 hH hK hrk hb hq (hlk q hq) hd
    · exact rs_re_0_1_f hr hS hW hWa hp hn hrho hls hl31 hR hw0 hH hK hrk hb (le_15 ho) hd
  by_cases k2 : kd = 2
  · subst k2
    rcases nI_within (x := rc) (n := 16) (by decide) with ⟨q, hq, rfl⟩ | ho
    · exact rs_re_0_2 hr hS hW hWa hp hn hrho hls hl31 hR hw0 hH hK hrk hb hq (hlk q hq) hd
    · exact rs_re_0_2_f hr hS hW hWa hp hn hrho hls hl31 hR hw0 hH hK hrk hb (le_15 ho) hd
  by_cases k3 : kd = 3
  · subst k3; exact rs_re_0_3 hr hS hW hWa hp hn hrho hls hl31 hR hw0 hH hK hrk hb hd
  by_cases k4 : kd = 4
  · subst k4; exact rs_re_0_4 hr hS hW hWa hp hn hrho hls hl31 hR hw0 hH hK hrk hb hd
  exact rs_re_0_n hr hS hW hWa hp hn hrho hls hl31 hR hw0 hH hK hrk hb (le_4 k0 k1 k2 k3 k4) hd
theorem rs_re_1 {w : Nat → Bool} {d : Nat} {h : am_Hp} {J : sm_I} {Y : sm_X} {am lm as_ ls : Nat} (hr : rk am as_) (hS : sm (tbr am lm as_ ls) h J Y) (hW : ∀ a, 62 ≤ a → a ≤ 88 → w a = true) (hWa : w as_ = true) {rho : Nat} {s : ms} (hp : prk J 0) (hn : ¬ J 11 0 = -1) (hrho : rwi J 0 = rho) (hls : 424 * rho + 424 ≤ ls) (hl31 : ls < 2 ^ 31) (hR : RS J rho s) (hw0 : s.2.2 = []) (hH : s.2.1.length + mtr s ≤ 32) (hK : EK s.2.1) (hrk : rok s.2.1 (nI 1)) (hb : bok s) (hlk : LKs s) {kd rc vl : Int32} (hd : 6 ≤ d) : am_Ev (am_prog w) d 146 [.ref 62, .int 1, .int kd, .int rc, .int vl] h (fun r h' => r = some (.int (mj2 s 1 kd rc).1) ∧ ∃ K, sm (tbr am lm as_ ls) h' K Y ∧ sm_e (tbr am lm as_ ls) h h' ∧ RS K rho (mdo (mj2 s 1 kd rc).2 1 (mj2 s 1 kd rc).1 kd rc vl) ∧ rfr J K rho) := by
  by_cases k0 : kd = 0
  · subst k0; exact rs_re_1_0 hr hS hW hWa hp hn hrho hls hl31 hR hw0 hH hK hrk hb hd
  by_cases k1 : kd = 1
  · subst k1
    rcases nI_within (x := rc) (n := 16) (by decide) with ⟨q, hq, rfl⟩ | ho
    · exact rs_re_1_1 hr hS hW hWa hp hn hrho hls hl31 hR hw0 hH hK hrk hb hq (hlk q hq) hd
    · exact rs_re_1_1_f hr hS hW hWa hp hn hrho hls hl31 hR hw0 hH hK hrk hb (le_15 ho) hd
  by_cases k2 : kd = 2
  · subst k2
    rcases nI_within (x := rc) (n := 16) (by decide) with ⟨q, hq, rfl⟩ | ho
    · exact rs_re_1_2 hr hS hW hWa hp hn hrho hls hl31 hR hw0 hH hK hrk hb hq (hlk q hq) hd
    · exact rs_re_1_2_f hr hS hW hWa hp hn hrho hls hl31 hR hw0 hH hK hrk hb (le_15 ho) hd
  by_cases k3 : kd = 3
  · subst k3; exact rs_re_1_3 hr hS hW hWa hp hn hrho hls hl31 hR hw0 hH hK hrk hb hd
  by_cases k4 : kd = 4
  · subst k4; exact rs_re_1_4 hr hS hW hWa hp hn hrho hls hl31 hR hw0 hH hK hrk hb hd
  exact rs_re_1_n hr hS hW hWa hp hn hrho hls hl31 hR hw0 hH hK hrk hb (le_4 k0 k1 k2 k3 k4) hd
theorem bg_d_0 {w : Nat → Bool} {d : Nat} {h : am_Hp} {P : Option Value → am_Hp → Prop} {J : sm_I} {Y : sm_X} {am lm as_ ls : Nat} (hr : rk am as_) (hS : sm (tbr am lm as_ ls) h J Y) (hW : ∀ a, 62 ≤ a → a ≤ 88 → w a = true) (hWa : w as_ = true) {rho : Nat} {s : ms} (hp : prk J 0) (hn : ¬ J 11 0 = -1) (hrho : rwi J 0 = rho) (hls : 424 * rho + 424 ≤ ls) (hl31 : ls < 2 ^ 31) (hR : RS J rho s) {inc num kd rc rs : Int32} {v5 v8 v9 : Value} (hrc : kd = 1 → rs = 0 → ∃ q, q < 16 ∧ rc = nI q) (C : ∀ h' K, sm (tbr am lm as_ ls) h' K Y → sm_e (tbr am lm as_ ls) h h' → RS K rho (msd s 0 inc num rs (if rs = 0 ∧ kd = 1 then s.1 (16 + rc.toNatClampNeg) else 0)) → rfr J K rho → am_Go (am_prog w) d am_c145 none 224 [some (.ref 62), some (.int (nI (424 * rho))), some (.int 0), some (.int inc), some (.int num), some (v5), some (.int kd), some (.int rc), some (v8), some (v9), some (.int rs)] [] h' P) : am_Go (am_prog w) d am_c145 none 160 [some (.ref 62), some (.int (nI (424 * rho))), some (.int 0), some (.int inc), some (.int num), some (v5), some (.int kd), some (.int rc), some (v8), some (v9), some (.int rs)] [] h P := by
  refine go_s (pc' := 161) rfl rfl rfl rfl ?_
  refine go_sget (pc' := 162) (v := .ref as_) hS rfl rfl rfl (by decide) rfl rfl ?_
  refine go_s (pc' := 163) rfl rfl rfl rfl ?_
  refine go_s (pc' := 164) (st' := [.int 6, .int (nI (424 * rho)), .ref as_]) rfl rfl rfl rfl ?_
  refine go_nadd (pc' := 165) (a := (424 * rho)) (b := 6) rfl rfl rfl rfl rfl ?_
  refine go_s (pc' := 166) rfl rfl rfl rfl ?_
  refine go_nadd (pc' := 167) (a := ((424 * rho) + 6)) (b := 0) rfl rfl rfl rfl rfl ?_
  refine go_s (pc' := 168) rfl rfl rfl rfl ?_
  refine go_siast (pc' := 169) (q := (((424 * rho) + 6) + 0)) hS rfl (tr_as hr (by omega)) tbr_inj (Nat.le_of_ble_eq_true rfl) rfl (by omega) (rk_0 hr).2 hWa rfl (fun h1 hS2 hE3 => ?_)
  refine go_s (pc' := 170) rfl rfl rfl rfl ?_
  refine go_sget (pc' := 171) (v := .ref as_) hS2 rfl rfl rfl (by decide) rfl rfl ?_
  refine go_s (pc' := 172) rfl rfl rfl rfl ?_
  refine go_s (pc' := 173) (st' := [.int 8, .int (nI (424 * rho)), .ref as_]) rfl rfl rfl rfl ?_
  refine go_nadd (pc' := 174) (a := (424 * rho)) (b := 8) rfl rfl rfl rfl rfl ?_
  refine go_s (pc' := 175) rfl rfl rfl rfl ?_
  refine go_nadd (pc' := 176) (a := ((424 * rho) + 8)) (b := 0) rfl rfl rfl rfl rfl ?_
  refine go_s (pc' := 177) rfl rfl rfl rfl ?_
  refine go_siast (pc' := 178) (q := (((424 * rho) + 8) + 0)) hS2 rfl (tr_as hr (by omega)) tbr_inj (Nat.le_of_ble_eq_true rfl) rfl (by omega) (rk_0 hr).2 hWa rfl (fun h4 hS5 hE6 => ?_)
  have hE7 := sm_e_trans hE3 hE6
  refine go_s (pc' := 179) rfl rfl rfl rfl ?_
  refine go_sget (pc' := 180) (v := .ref as_) hS5 rfl rfl rfl (by decide) rfl rfl ?_
  refine go_s (pc' := 181) rfl rfl rfl rfl ?_
  refine go_s (pc' := 182) (st' := [.int 10, .int (nI (424 * rho)), .ref as_]) rfl rfl rfl rfl ?_
  refine go_nadd (pc' := 183) (a := (424 * rho)) (b := 10) rfl rfl rfl rfl rfl ?_
  refine go_s (pc' := 184) rfl rfl rfl rfl ?_
  refine go_nadd (pc' := 185) (a := ((424 * rho) + 10)) (b := 0) rfl rfl rfl rfl rfl ?_
  refine go_s (pc' := 186) rfl rfl rfl rfl ?_
  refine go_siast (pc' := 187) (q := (((424 * rho) + 10) + 0)) hS5 rfl (tr_as hr (by omega)) tbr_inj (Nat.le_of_ble_eq_true rfl) rfl (by omega) (rk_0 hr).2 hWa rfl (fun h8 hS9 hE10 => ?_)
  have hE11 := sm_e_trans hE7 hE10
  have hR1 : RS (uI (uI (uI J 51 (((424 * rho) + 6) + 0) inc) 51 (((424 * rho) + 8) + 0) num) 51 (((424 * rho) + 10) + 0) rs) rho (uF (uF (uF s.1 6 inc) 8 num) 10 rs, s.2) := RS_F (j := 10) (RS_F (j := 8) (RS_F (j := 6) hR (by decide) (by decide) (by decide)) (by decide) (by decide) (by decide)) (by decide) (by decide) (by decide)
  have hf1 : rfr J (uI (uI (uI J 51 (((424 * rho) + 6) + 0) inc) 51 (((424 * rho) + 8) + 0) num) 51 (((424 * rho) + 10) + 0) rs) rho := rfr_trans (rfr_trans (rfr_trans (rfr_refl _ _) (rfr_u (by omega) (by omega))) (rfr_u (by omega) (by omega))) (rfr_u (by omega) (by omega))
  obtain ⟨J1, eJ1⟩ : ∃ y, y = (uI (uI (uI J 51 (((424 * rho) + 6) + 0) inc) 51 (((424 * rho) + 8) + 0) num) 51 (((424 * rho) + 10) + 0) rs) := ⟨_, rfl⟩
  change sm (tbr am lm as_ ls) _ (uI (uI (uI J 51 (((424 * rho) + 6) + 0) inc) 51 (((424 * rho) + 8) + 0) num) 51 (((424 * rho) + 10) + 0) rs) Y at hS9
  rw [← eJ1] at hR1 hf1 hS9
  refine go_s (pc' := 188) rfl rfl rfl rfl ?_
  refine go_sget (pc' := 189) (v := .ref as_) hS9 rfl rfl rfl (by decide) rfl rfl ?_
  refine go_s (pc' := 190) rfl rfl rfl rfl ?_
  refine go_s (pc' := 191) (st' := [.int 12, .int (nI (424 * rho)), .ref as_]) rfl rfl rfl rfl ?_
  refine go_nadd (pc' := 192) (a := (424 * rho)) (b := 12) rfl rfl rfl rfl rfl ?_
  refine go_s (pc' := 193) rfl rfl rfl rfl ?_
  refine go_nadd (pc' := 194) (a := ((424 * rho) + 12)) (b := 0) rfl rfl rfl rfl rfl ?_
  refine go_s (pc' := 195) rfl rfl rfl rfl ?_
  refine go_s (pc' := 196) (st' := [.int 1, .int kd, .int (nI (((424 * rho) + 12) + 0)), .ref as_]) rfl rfl rfl rfl ?_
  refine go_icmpP (t' := 208) (pc' := 197) rfl rfl rfl (fun (c12 : ¬ kd = 1) => ?_) (fun (c12' : ¬ ¬ kd = 1) => ?_)
  · skip
    refine go_s (pc' := 209) (st' := [.int 0, .int (nI (((424 * rho) + 12) + 0)), .ref as_]) rfl rfl rfl rfl ?_
    refine go_siast (pc' := 210) (q := (((424 * rho) + 12) + 0)) hS9 rfl (tr_as hr (by omega)) tbr_inj (Nat.le_of_ble_eq_true rfl) rfl (by omega) (rk_0 hr).2 hWa rfl (fun h13 hS14 hE15 => ?_)
    have hE16 := sm_e_trans hE11 hE15
    refine go_s (pc' := 211) rfl rfl rfl rfl ?_
    refine go_sget (pc' := 212) (v := .ref as_) hS14 rfl rfl rfl (by decide) rfl rfl ?_
    refine go_s (pc' := 213) rfl rfl rfl rfl ?_
    refine go_s (pc' := 214) (st' := [.int 3, .int (nI (424 * rho)), .ref as_]) rfl rfl rfl rfl ?_
    refine go_nadd (pc' := 215) (a := (424 * rho)) (b := 3) rfl rfl rfl rfl rfl ?_
    refine go_s (pc' := 216) (st' := [.int 1, .int (nI ((424 * rho) + 3)), .ref as_]) rfl rfl rfl rfl ?_
    refine go_siast (pc' := 217) (q := ((424 * rho) + 3)) hS14 rfl (tr_as hr (by omega)) tbr_inj (Nat.le_of_ble_eq_true rfl) rfl (by omega) (rk_0 hr).2 hWa rfl (fun h17 hS18 hE19 => ?_)
    have hE20 := sm_e_trans hE16 hE19
    refine go_s (pc' := 218) rfl rfl rfl rfl ?_
    refine go_sget (pc' := 219) (v := .ref as_) hS18 rfl rfl rfl (by decide) rfl rfl ?_
    refine go_s (pc' := 220) rfl rfl rfl rfl ?_
    refine go_s (pc' := 221) (st' := [.int 4, .int (nI (424 * rho)), .ref as_]) rfl rfl rfl rfl ?_
    refine go_nadd (pc' := 222) (a := (424 * rho)) (b := 4) rfl rfl rfl rfl rfl ?_
    refine go_s (pc' := 223) rfl rfl rfl rfl ?_
    refine go_siast (pc' := 224) (q := ((424 * rho) + 4)) hS18 rfl (tr_as hr (by omega)) tbr_inj (Nat.le_of_ble_eq_true rfl) rfl (by omega) (rk_0 hr).2 hWa rfl (fun h21 hS22 hE23 => ?_)
    have hE24 := sm_e_trans hE20 hE23
    have hv9 : (if rs = 0 ∧ kd = 1 then s.1 (16 + rc.toNatClampNeg) else 0) = 0 := if_neg (fun z => c12 z.2)
    refine C _ _ hS22 hE24 ?_ (rfr_trans hf1 (rfr_trans (rfr_trans (rfr_trans (rfr_refl _ _) (rfr_u (by omega) (by omega))) (rfr_u (by omega) (by omega))) (rfr_u (by omega) (by omega))))
    rw [hv9]
    exact RS_F (j := 4) (RS_F (j := 3) (RS_F (j := 12) hR1 (by decide) (by decide) (by decide)) (by decide) (by decide) (by decide)) (by decide) (by decide) (by decide)
  · skip
    have c12 : kd = 1 := Decidable.not_not.mp c12'
    refine go_s (pc' := 198) rfl rfl rfl rfl ?_
    refine go_ifP (t' := 208) (pc' := 199) rfl rfl rfl (fun (c25 : ¬ rs = 0) => ?_) (fun (c25' : ¬ ¬ rs = 0) => ?_)
    · skip
      refine go_s (pc' := 209) (st' := [.int 0, .int (nI (((424 * rho) + 12) + 0)), .ref as_]) rfl rfl rfl rfl ?_
      refine go_siast (pc' := 210) (q := (((424 * rho) + 12) + 0)) hS9 rfl (tr_as hr (by omega)) tbr_inj (Nat.le_of_ble_eq_true rfl) rfl (by omega) (rk_0 hr).2 hWa rfl (fun h26 hS27 hE28 => ?_)
      have hE29 := sm_e_trans hE11 hE28
      refine go_s (pc' := 211) rfl rfl rfl rfl ?_
      refine go_sget (pc' := 212) (v := .ref as_) hS27 rfl rfl rfl (by decide) rfl rfl ?_
      refine go_s (pc' := 213) rfl rfl rfl rfl ?_
      refine go_s (pc' := 214) (st' := [.int 3, .int (nI (424 * rho)), .ref as_]) rfl rfl rfl rfl ?_
      refine go_nadd (pc' := 215) (a := (424 * rho)) (b := 3) rfl rfl rfl rfl rfl ?_
      refine go_s (pc' := 216) (st' := [.int 1, .int (nI ((424 * rho) + 3)), .ref as_]) rfl rfl rfl rfl ?_
      refine go_siast (pc' := 217) (q := ((424 * rho) + 3)) hS27 rfl (tr_as hr (by omega)) tbr_inj (Nat.le_of_ble_eq_true rfl) rfl (by omega) (rk_0 hr).2 hWa rfl (fun h30 hS31 hE32 => ?_)
      have hE33 := sm_e_trans hE29 hE32
      refine go_s (pc' := 218) rfl rfl rfl rfl ?_
      refine go_sget (pc' := 219) (v := .ref as_) hS31 rfl rfl rfl (by decide) rfl rfl ?_
      refine go_s (pc' := 220) rfl rfl rfl rfl ?_
      refine go_s (pc' := 221) (st' := [.int 4, .int (nI (424 * rho)), .ref as_]) rfl rfl rfl rfl ?_
      refine go_nadd (pc' := 222) (a := (424 * rho)) (b := 4) rfl rfl rfl rfl rfl ?_
      refine go_s (pc' := 223) rfl rfl rfl rfl ?_
      refine go_siast (pc' := 224) (q := ((424 * rho) + 4)) hS31 rfl (tr_as hr (by omega)) tbr_inj (Nat.le_of_ble_eq_true rfl) rfl (by omega) (rk_0 hr).2 hWa rfl (fun h34 hS35 hE36 => ?_)
      have hE37 := sm_e_trans hE33 hE36
      have hv9 : (if rs = 0 ∧ kd = 1 then s.1 (16 + rc.toNatClampNeg) else 0) = 0 := if_neg (fun z => c25 z.1)
      refine C _ _ hS35 hE37 ?_ (rfr_trans hf1 (rfr_trans (rfr_trans (rfr_trans (rfr_refl _ _) (rfr_u (by omega) (by omega))) (rfr_u (by omega) (by omega))) (rfr_u (by omega) (by omega))))
      rw [hv9]
      exact RS_F (j := 4) (RS_F (j := 3) (RS_F (j := 12) hR1 (by decide) (by decide) (by decide)) (by decide) (by decide) (by decide)) (by decide) (by decide) (by decide)
    · skip
      have c25 : rs = 0 := Decidable.not_not.mp c25'
      obtain ⟨q, hq, eq⟩ := hrc c12 c25
      subst eq
      have h16 : J1 51 (424 * rho + 16 + q) = s.1 (16 + q) := by
        have z := hR1.1 (16 + q) (by omega) (by omega) (by omega)
        rw [show 424 * rho + (16 + q) = 424 * rho + 16 + q by omega] at z
        rw [z]
        simp only [uF]
        rw [if_neg (by omega), if_neg (by omega), if_neg (by omega)]
      refine go_s (pc' := 200) rfl rfl rfl rfl ?_
      refine go_sget (pc' := 201) (v := .ref as_) hS9 rfl rfl rfl (by decide) rfl rfl ?_
      refine go_s (pc' := 202) rfl rfl rfl rfl ?_
      refine go_s (pc' := 203) (st' := [.int 16, .int (nI (424 * rho)), .ref as_, .int (nI (((424 * rho) + 12) + 0)), .ref as_]) rfl rfl rfl rfl ?_
      refine go_nadd (pc' := 204) (a := (424 * rho)) (b := 16) rfl rfl rfl rfl rfl ?_
      refine go_s (pc' := 205) rfl rfl rfl rfl ?_
      refine go_nadd (pc' := 206) (a := ((424 * rho) + 16)) (b := q) rfl rfl rfl rfl rfl ?_
      refine go_sald (pc' := 207) (q := (((424 * rho) + 16) + q)) (v := .int (s.1 (16 + q))) hS9 rfl (tr_as hr (by omega)) rfl rfl (by omega) (congrArg Value.int h16) rfl ?_
      refine go_s (pc' := 209) rfl rfl rfl rfl ?_
      refine go_siast (pc' := 210) (q := (((424 * rho) + 12) + 0)) hS9 rfl (tr_as hr (by omega)) tbr_inj (Nat.le_of_ble_eq_true rfl) rfl (by omega) (rk_0 hr).2 hWa rfl (fun h38 hS39 hE40 => ?_)
      have hE41 := sm_e_trans hE11 hE40
      refine go_s (pc' := 211) rfl rfl rfl rfl ?_
      refine go_sget (pc' := 212) (v := .ref as_) hS39 rfl rfl rfl (by decide) rfl rfl ?_
      refine go_s (pc' := 213) rfl rfl rfl rfl ?_
      refine go_s (pc' := 214) (st' := [.int 3, .int (nI (424 * rho)), .ref as_]) rfl rfl rfl rfl ?_
      refine go_nadd (pc' := 215) (a := (424 * rho)) (b := 3) rfl rfl rfl rfl rfl ?_
      refine go_s (pc' := 216) (st' := [.int 1, .int (nI ((424 * rho) + 3)), .ref as_]) rfl rfl rfl rfl ?_
      refine go_siast (pc' := 217) (q := ((424 * rho) + 3)) hS39 rfl (tr_as hr (by omega)) tbr_inj (Nat.le_of_ble_eq_true rfl) rfl (by omega) (rk_0 hr).2 hWa rfl (fun h42 hS43 hE44 => ?_)
      have hE45 := sm_e_trans hE41 hE44
      refine go_s (pc' := 218) rfl rfl rfl rfl ?_
      refine go_sget (pc' := 219) (v := .ref as_) hS43 rfl rfl rfl (by decide) rfl rfl ?_
      refine go_s (pc' := 220) rfl rfl rfl rfl ?_
      refine go_s (pc' := 221) (st' := [.int 4, .int (nI (424 * rho)), .ref as_]) rfl rfl rfl rfl ?_
      refine go_nadd (pc' := 222) (a := (424 * rho)) (b := 4) rfl rfl rfl rfl rfl ?_
      refine go_s (pc' := 223) rfl rfl rfl rfl ?_
      refine go_siast (pc' := 224) (q := ((424 * rho) + 4)) hS43 rfl (tr_as hr (by omega)) tbr_inj (Nat.le_of_ble_eq_true rfl) rfl (by omega) (rk_0 hr).2 hWa rfl (fun h46 hS47 hE48 => ?_)
      have hE49 := sm_e_trans hE45 hE48
      have hv9 : (if rs = 0 ∧ kd = 1 then s.1 (16 + (nI q).toNatClampNeg) else 0) = s.1 (16 + q) := by rw [if_pos ⟨c25, c12⟩, nI_16 hq]
      refine C _ _ hS47 hE49 ?_ (rfr_trans hf1 (rfr_trans (rfr_trans (rfr_trans (rfr_refl _ _) (rfr_u (by omega) (by omega))) (rfr_u (by omega) (by omega))) (rfr_u (by omega) (by omega))))
      rw [hv9]
      exact RS_F (j := 4) (RS_F (j := 3) (RS_F (j := 12) hR1 (by decide) (by decide) (by decide)) (by decide) (by decide) (by decide)) (by decide) (by decide) (by decide)
theorem bg_d_1 {w : Nat → Bool} {d : Nat} {h : am_Hp} {P : Option Value → am_Hp → Prop} {J : sm_I} {Y : sm_X} {am lm as_ ls : Nat} (hr : rk am as_) (hS : sm (tbr am lm as_ ls) h J Y) (hW : ∀ a, 62 ≤ a → a ≤ 88 → w a = true) (hWa : w as_ = true) {rho : Nat} {s : ms} (hp : prk J 0) (hn : ¬ J 11 0 = -1) (hrho : rwi J 0 = rho) (hls : 424 * rho + 424 ≤ ls) (hl31 : ls < 2 ^ 31) (hR : RS J rho s) {inc num kd rc rs : Int32} {v5 v8 v9 : Value} (hrc : kd = 1 → rs = 0 → ∃ q, q < 16 ∧ rc = nI q) (C : ∀ h' K, sm (tbr am lm as_ ls) h' K Y → sm_e (tbr am lm as_ ls) h h' → RS K rho (msd s 1 inc num rs (if rs = 0 ∧ kd = 1 then s.1 (16 + rc.toNatClampNeg) else 0)) → rfr J K rho → am_Go (am_prog w) d am_c145 none 224 [some (.ref 62), some (.int (nI (424 * rho))), some (.int 1), some (.int inc), some (.int num), some (v5), some (.int kd), some (.int rc), some (v8), some (v9), some (.int rs)] [] h' P) : am_Go (am_prog w) d am_c145 none 160 [some (.ref 62), some (.int (nI (424 * rho))), some (.int 1), some (.int inc), some (.int num), some (v5), some (.int kd), some (.int rc), some (v8), some (v9), some (.int rs)] [] h P := by
  refine go_s (pc' := 161) rfl rfl rfl rfl ?_
  refine go_sget (pc' := 162) (v := .ref as_) hS rfl rfl rfl (by decide) rfl rfl ?_
  refine go_s (pc' := 163) rfl rfl rfl rfl ?_
  refine go_s (pc' := 164) (st' := [.int 6, .int (nI (424 * rho)), .ref as_]) rfl rfl rfl rfl ?_
  refine go_nadd (pc' := 165) (a := (424 * rho)) (b := 6) rfl rfl rfl rfl rfl ?_
  refine go_s (pc' := 166) rfl rfl rfl rfl ?_
  refine go_nadd (pc' := 167) (a := ((424 * rho) + 6)) (b := 1) rfl rfl rfl rfl rfl ?_
  refine go_s (pc' := 168) rfl rfl rfl rfl ?_
  refine go_siast (pc' := 169) (q := (((424 * rho) + 6) + 1)) hS rfl (tr_as hr (by omega)) tbr_inj (Nat.le_of_ble_eq_true rfl) rfl (by omega) (rk_0 hr).2 hWa rfl (fun h1 hS2 hE3 => ?_)
  refine go_s (pc' := 170) rfl rfl rfl rfl ?_
  refine go_sget (pc' := 171) (v := .ref as_) hS2 rfl rfl rfl (by decide) rfl rfl ?_
  refine go_s (pc' := 172) rfl rfl rfl rfl ?_
  refine go_s (pc' := 173) (st' := [.int 8, .int (nI (424 * rho)), .ref as_]) rfl rfl rfl rfl ?_
  refine go_nadd (pc' := 174) (a := (424 * rho)) (b := 8) rfl rfl rfl rfl rfl ?_
  refine go_s (pc' := 175) rfl rfl rfl rfl ?_
  refine go_nadd (pc' := 176) (a := ((424 * rho) + 8)) (b := 1) rfl rfl rfl rfl rfl ?_
  refine go_s (pc' := 177) rfl rfl rfl rfl ?_
  refine go_siast (pc' := 178) (q := (((424 * rho) + 8) + 1)) hS2 rfl (tr_as hr (by omega)) tbr_inj (Nat.le_of_ble_eq_true rfl) rfl (by omega) (rk_0 hr).2 hWa rfl (fun h4 hS5 hE6 => ?_)
  have hE7 := sm_e_trans hE3 hE6
  refine go_s (pc' := 179) rfl rfl rfl rfl ?_
  refine go_sget (pc' := 180) (v := .ref as_) hS5 rfl rfl rfl (by decide) rfl rfl ?_
  refine go_s (pc' := 181) rfl rfl rfl rfl ?_
  refine go_s (pc' := 182) (st' := [.int 10, .int (nI (424 * rho)), .ref as_]) rfl rfl rfl rfl ?_
  refine go_nadd (pc' := 183) (a := (424 * rho)) (b := 10) rfl rfl rfl rfl rfl ?_
  refine go_s (pc' := 184) rfl rfl rfl rfl ?_
  refine go_nadd (pc' := 185) (a := ((424 * rho) + 10)) (b := 1) rfl rfl rfl rfl rfl ?_
  refine go_s (pc' := 186) rfl rfl rfl rfl ?_
  refine go_siast (pc' := 187) (q := (((424 * rho) + 10) + 1)) hS5 rfl (tr_as hr (by omega)) tbr_inj (Nat.le_of_ble_eq_true rfl) rfl (by omega) (rk_0 hr).2 hWa rfl (fun h8 hS9 hE10 => ?_)
  have hE11 := sm_e_trans hE7 hE10
  have hR1 : RS (uI (uI (uI J 51 (((424 * rho) + 6) + 1) inc) 51 (((424 * rho) + 8) + 1) num) 51 (((424 * rho) + 10) + 1) rs) rho (uF (uF (uF s.1 7 inc) 9 num) 11 rs, s.2) := RS_F (j := 11) (RS_F (j := 9) (RS_F (j := 7) hR (by decide) (by decide) (by decide)) (by decide) (by decide) (by decide)) (by decide) (by decide) (by decide)
  have hf1 : rfr J (uI (uI (uI J 51 (((424 * rho) + 6) + 1) inc) 51 (((424 * rho) + 8) + 1) num) 51 (((424 * rho) + 10) + 1) rs) rho := rfr_trans (rfr_trans (rfr_trans (rfr_refl _ _) (rfr_u (by omega) (by omega))) (rfr_u (by omega) (by omega))) (rfr_u (by omega) (by omega))
  obtain ⟨J1, eJ1⟩ : ∃ y, y = (uI (uI (uI J 51 (((424 * rho) + 6) + 1) inc) 51 (((424 * rho) + 8) + 1) num) 51 (((424 * rho) + 10) + 1) rs) := ⟨_, rfl⟩
  change sm (tbr am lm as_ ls) _ (uI (uI (uI J 51 (((424 * rho) + 6) + 1) inc) 51 (((424 * rho) + 8) + 1) num) 51 (((424 * rho) + 10) + 1) rs) Y at hS9
  rw [← eJ1] at hR1 hf1 hS9
  refine go_s (pc' := 188) rfl rfl rfl rfl ?_
  refine go_sget (pc' := 189) (v := .ref as_) hS9 rfl rfl rfl (by decide) rfl rfl ?_
  refine go_s (pc' := 190) rfl rfl rfl rfl ?_
  refine go_s (pc' := 191) (st' := [.int 12, .int (nI (424 * rho)), .ref as_]) rfl rfl rfl rfl ?_
  refine go_nadd (pc' := 192) (a := (424 * rho)) (b := 12) rfl rfl rfl rfl rfl ?_
  refine go_s (pc' := 193) rfl rfl rfl rfl ?_
  refine go_nadd (pc' := 194) (a := ((424 * rho) + 12)) (b := 1) rfl rfl rfl rfl rfl ?_
  refine go_s (pc' := 195) rfl rfl rfl rfl ?_
  refine go_s (pc' := 196) (st' := [.int 1, .int kd, .int (nI (((424 * rho) + 12) + 1)), .ref as_]) rfl rfl rfl rfl ?_
  refine go_icmpP (t' := 208) (pc' := 197) rfl rfl rfl (fun (c12 : ¬ kd = 1) => ?_) (fun (c12' : ¬ ¬ kd = 1) => ?_)
  · skip
    refine go_s (pc' := 209) (st' := [.int 0, .int (nI (((424 * rho) + 12) + 1)), .ref as_]) rfl rfl rfl rfl ?_
    refine go_siast (pc' := 210) (q := (((424 * rho) + 12) + 1)) hS9 rfl (tr_as hr (by omega)) tbr_inj (Nat.le_of_ble_eq_true rfl) rfl (by omega) (rk_0 hr).2 hWa rfl (fun h13 hS14 hE15 => ?_)
    have hE16 := sm_e_trans hE11 hE15
    refine go_s (pc' := 211) rfl rfl rfl rfl ?_
    refine go_sget (pc' := 212) (v := .ref as_) hS14 rfl rfl rfl (by decide) rfl rfl ?_
    refine go_s (pc' := 213) rfl rfl rfl rfl ?_
    refine go_s (pc' := 214) (st' := [.int 3, .int (nI (424 * rho)), .ref as_]) rfl rfl rfl rfl ?_
    refine go_nadd (pc' := 215) (a := (424 * rho)) (b := 3) rfl rfl rfl rfl rfl ?_
    refine go_s (pc' := 216) (st' := [.int 1, .int (nI ((424 * rho) + 3)), .ref as_]) rfl rfl rfl rfl ?_
    refine go_siast (pc' := 217) (q := ((424 * rho) + 3)) hS14 rfl (tr_as hr (by omega)) tbr_inj (Nat.le_of_ble_eq_true rfl) rfl (by omega) (rk_0 hr).2 hWa rfl (fun h17 hS18 hE19 => ?_)
    have hE20 := sm_e_trans hE16 hE19
    refine go_s (pc' := 218) rfl rfl rfl rfl ?_
    refine go_sget (pc' := 219) (v := .ref as_) hS18 rfl rfl rfl (by decide) rfl rfl ?_
    refine go_s (pc' := 220) rfl rfl rfl rfl ?_
    refine go_s (pc' := 221) (st' := [.int 4, .int (nI (424 * rho)), .ref as_]) rfl rfl rfl rfl ?_
    refine go_nadd (pc' := 222) (a := (424 * rho)) (b := 4) rfl rfl rfl rfl rfl ?_
    refine go_s (pc' := 223) rfl rfl rfl rfl ?_
    refine go_siast (pc' := 224) (q := ((424 * rho) + 4)) hS18 rfl (tr_as hr (by omega)) tbr_inj (Nat.le_of_ble_eq_true rfl) rfl (by omega) (rk_0 hr).2 hWa rfl (fun h21 hS22 hE23 => ?_)
    have hE24 := sm_e_trans hE20 hE23
    have hv9 : (if rs = 0 ∧ kd = 1 then s.1 (16 + rc.toNatClampNeg) else 0) = 0 := if_neg (fun z => c12 z.2)
    refine C _ _ hS22 hE24 ?_ (rfr_trans hf1 (rfr_trans (rfr_trans (rfr_trans (rfr_refl _ _) (rfr_u (by omega) (by omega))) (rfr_u (by omega) (by omega))) (rfr_u (by omega) (by omega))))
    rw [hv9]
    exact RS_F (j := 4) (RS_F (j := 3) (RS_F (j := 13) hR1 (by decide) (by decide) (by decide)) (by decide) (by decide) (by decide)) (by decide) (by decide) (by decide)
  · skip
    have c12 : kd = 1 := Decidable.not_not.mp c12'
    refine go_s (pc' := 198) rfl rfl rfl rfl ?_
    refine go_ifP (t' := 208) (pc' := 199) rfl rfl rfl (fun (c25 : ¬ rs = 0) => ?_) (fun (c25' : ¬ ¬ rs = 0) => ?_)
    · skip
      refine go_s (pc' := 209) (st' := [.int 0, .int (nI (((424 * rho) + 12) + 1)), .ref as_]) rfl rfl rfl rfl ?_
      refine go_siast (pc' := 210) (q := (((424 * rho) + 12) + 1)) hS9 rfl (tr_as hr (by omega)) tbr_inj (Nat.le_of_ble_eq_true rfl) rfl (by omega) (rk_0 hr).2 hWa rfl (fun h26 hS27 hE28 => ?_)
      have hE29 := sm_e_trans hE11 hE28
      refine go_s (pc' := 211) rfl rfl rfl rfl ?_
      refine go_sget (pc' := 212) (v := .ref as_) hS27 rfl rfl rfl (by decide) rfl rfl ?_
      refine go_s (pc' := 213) rfl rfl rfl rfl ?_
      refine go_s (pc' := 214) (st' := [.int 3, .int (nI (424 * rho)), .ref as_]) rfl rfl rfl rfl ?_
      refine go_nadd (pc' := 215) (a := (424 * rho)) (b := 3) rfl rfl rfl rfl rfl ?_
      refine go_s (pc' := 216) (st' := [.int 1, .int (nI ((424 * rho) + 3)), .ref as_]) rfl rfl rfl rfl ?_
      refine go_siast (pc' := 217) (q := ((424 * rho) + 3)) hS27 rfl (tr_as hr (by omega)) tbr_inj (Nat.le_of_ble_eq_true rfl) rfl (by omega) (rk_0 hr).2 hWa rfl (fun h30 hS31 hE32 => ?_)
      have hE33 := sm_e_trans hE29 hE32
      refine go_s (pc' := 218) rfl rfl rfl rfl ?_
      refine go_sget (pc' := 219) (v := .ref as_) hS31 rfl rfl rfl (by decide) rfl rfl ?_
      refine go_s (pc' := 220) rfl rfl rfl rfl ?_
      refine go_s (pc' := 221) (st' := [.int 4, .int (nI (424 * rho)), .ref as_]) rfl rfl rfl rfl ?_
      refine go_nadd (pc' := 222) (a := (424 * rho)) (b := 4) rfl rfl rfl rfl rfl ?_
      refine go_s (pc' := 223) rfl rfl rfl rfl ?_
      refine go_siast (pc' := 224) (q := ((424 * rho) + 4)) hS31 rfl (tr_as hr (by omega)) tbr_inj (Nat.le_of_ble_eq_true rfl) rfl (by omega) (rk_0 hr).2 hWa rfl (fun h34 hS35 hE36 => ?_)
      have hE37 := sm_e_trans hE33 hE36
      have hv9 : (if rs = 0 ∧ kd = 1 then s.1 (16 + rc.toNatClampNeg) else 0) = 0 := if_neg (fun z => c25 z.1)
      refine C _ _ hS35 hE37 ?_ (rfr_trans hf1 (rfr_trans (rfr_trans (rfr_trans (rfr_refl _ _) (rfr_u (by omega) (by omega))) (rfr_u (by omega) (by omega))) (rfr_u (by omega) (by omega))))
      rw [hv9]
      exact RS_F (j := 4) (RS_F (j := 3) (RS_F (j := 13) hR1 (by decide) (by decide) (by decide)) (by decide) (by decide) (by decide)) (by decide) (by decide) (by decide)
    · skip
      have c25 : rs = 0 := Decidable.not_not.mp c25'
      obtain ⟨q, hq, eq⟩ := hrc c12 c25
      subst eq
      have h16 : J1 51 (424 * rho + 16 + q) = s.1 (16 + q) := by
        have z := hR1.1 (16 + q) (by omega) (by omega) (by omega)
        rw [show 424 * rho + (16 + q) = 424 * rho + 16 + q by omega] at z
        rw [z]
        simp only [uF]
        rw [if_neg (by omega), if_neg (by omega), if_neg (by omega)]
      refine go_s (pc' := 200) rfl rfl rfl rfl ?_
      refine go_sget (pc' := 201) (v := .ref as_) hS9 rfl rfl rfl (by decide) rfl rfl ?_
      refine go_s (pc' := 202) rfl rfl rfl rfl ?_
      refine go_s (pc' := 203) (st' := [.int 16, .int (nI (424 * rho)), .ref as_, .int (nI (((424 * rho) + 12) + 1)), .ref as_]) rfl rfl rfl rfl ?_
      refine go_nadd (pc' := 204) (a := (424 * rho)) (b := 16) rfl rfl rfl rfl rfl ?_
      refine go_s (pc' := 205) rfl rfl rfl rfl ?_
      refine go_nadd (pc' := 206) (a := ((424 * rho) + 16)) (b := q) rfl rfl rfl rfl rfl ?_
      refine go_sald (pc' := 207) (q := (((424 * rho) + 16) + q)) (v := .int (s.1 (16 + q))) hS9 rfl (tr_as hr (by omega)) rfl rfl (by omega) (congrArg Value.int h16) rfl ?_
      refine go_s (pc' := 209) rfl rfl rfl rfl ?_
      refine go_siast (pc' := 210) (q := (((424 * rho) + 12) + 1)) hS9 rfl (tr_as hr (by omega)) tbr_inj (Nat.le_of_ble_eq_true rfl) rfl (by omega) (rk_0 hr).2 hWa rfl (fun h38 hS39 hE40 => ?_)
      have hE41 := sm_e_trans hE11 hE40
      refine go_s (pc' := 211) rfl rfl rfl rfl ?_
      refine go_sget (pc' := 212) (v := .ref as_) hS39 rfl rfl rfl (by decide) rfl rfl ?_
      refine go_s (pc' := 213) rfl rfl rfl rfl ?_
      refine go_s (pc' := 214) (st' := [.int 3, .int (nI (424 * rho)), .ref as_]) rfl rfl rfl rfl ?_
      refine go_nadd (pc' := 215) (a := (424 * rho)) (b := 3) rfl rfl rfl rfl rfl ?_
      refine go_s (pc' := 216) (st' := [.int 1, .int (nI ((424 * rho) + 3)), .ref as_]) rfl rfl rfl rfl ?_
      refine go_siast (pc' := 217) (q := ((424 * rho) + 3)) hS39 rfl (tr_as hr (by omega)) tbr_inj (Nat.le_of_ble_eq_true rfl) rfl (by omega) (rk_0 hr).2 hWa rfl (fun h42 hS43 hE44 => ?_)
      have hE45 := sm_e_trans hE41 hE44
      refine go_s (pc' := 218) rfl rfl rfl rfl ?_
      refine go_sget (pc' := 219) (v := .ref as_) hS43 rfl rfl rfl (by decide) rfl rfl ?_
      refine go_s (pc' := 220) rfl rfl rfl rfl ?_
      refine go_s (pc' := 221) (st' := [.int 4, .int (nI (424 * rho)), .ref as_]) rfl rfl rfl rfl ?_
      refine go_nadd (pc' := 222) (a := (424 * rho)) (b := 4) rfl rfl rfl rfl rfl ?_
      refine go_s (pc' := 223) rfl rfl rfl rfl ?_
      refine go_siast (pc' := 224) (q := ((424 * rho) + 4)) hS43 rfl (tr_as hr (by omega)) tbr_inj (Nat.le_of_ble_eq_true rfl) rfl (by omega) (rk_0 hr).2 hWa rfl (fun h46 hS47 hE48 => ?_)
      have hE49 := sm_e_trans hE45 hE48
      have hv9 : (if rs = 0 ∧ kd = 1 then s.1 (16 + (nI q).toNatClampNeg) else 0) = s.1 (16 + q) := by rw [if_pos ⟨c25, c12⟩, nI_16 hq]
      refine C _ _ hS47 hE49 ?_ (rfr_trans hf1 (rfr_trans (rfr_trans (rfr_trans (rfr_refl _ _) (rfr_u (by omega) (by omega))) (rfr_u (by omega) (by omega))) (rfr_u (by omega) (by omega))))
      rw [hv9]
      exact RS_F (j := 4) (RS_F (j := 3) (RS_F (j := 13) hR1 (by decide) (by decide) (by decide)) (by decide) (by decide) (by decide)) (by decide) (by decide) (by decide)
theorem mps_e {s : ms} {t : Nat} {q : Nat → Int32} : mps s t q = msd (mdo (mj (s.1, s.2.1, []) t (q 1) (q 3) (q 4) (q 5)).2 t (mj (s.1, s.2.1, []) t (q 1) (q 3) (q 4) (q 5)).1 (q 4) (q 5) (q 6)) t (q 1) (q 2) (mj (s.1, s.2.1, []) t (q 1) (q 3) (q 4) (q 5)).1 (if (mj (s.1, s.2.1, []) t (q 1) (q 3) (q 4) (q 5)).1 = 0 ∧ q 4 = 1 then (mdo (mj (s.1, s.2.1, []) t (q 1) (q 3) (q 4) (q 5)).2 t (mj (s.1, s.2.1, []) t (q 1) (q 3) (q 4) (q 5)).1 (q 4) (q 5) (q 6)).1 (16 + (q 5).toNatClampNeg) else 0) := rfl
theorem mj2_rc {s : ms} {t : Nat} {kd rc : Int32} (h1 : kd = 1) (h0 : (mj2 s t kd rc).1 = 0) : ∃ q, q < 16 ∧ rc = nI q := by
  subst h1
  rcases nI_within (x := rc) (n := 16) (by decide) with z | ho
  · exact z
  · exfalso
    unfold mj2 at h0
    rw [if_neg (by decide), if_neg (by decide)] at h0
    by_cases e : s.1 (14 + t) = 0
    · rw [if_pos e] at h0
      exact absurd (show (-2 : Int32) = 0 from h0) (by decide)
    · rw [if_neg e, if_pos (by decide)] at h0
      unfold mjA at h0
      rw [if_pos (show rc < 0 ∨ 16 ≤ rc from ho)] at h0
      exact absurd (show (-5 : Int32) = 0 from h0) (by decide)
theorem bg_c_0 {w : Nat → Bool} {d : Nat} {h : am_Hp} {P : Option Value → am_Hp → Prop} {J : sm_I} {Y : sm_X} {am lm as_ ls : Nat} (hr : rk am as_) (hS : sm (tbr am lm as_ ls) h J Y) (hW : ∀ a, 62 ≤ a → a ≤ 88 → w a = true) (hWa : w as_ = true) {rho : Nat} {s : ms} (hp : prk J 0) (hn : ¬ J 11 0 = -1) (hrho : rwi J 0 = rho) (hls : 424 * rho + 424 ≤ ls) (hl31 : ls < 2 ^ 31) (hR : RS J rho s) (hw0 : s.2.2 = []) (hH : s.2.1.length + mtr s ≤ 32) (hK : EK s.2.1) (hrk : rok s.2.1 (nI 0)) (hb : bok s) (hlk : LKs s) {q : Nat → Int32} (hd : 7 ≤ d) (C : ∀ v10 h' K, sm (tbr am lm as_ ls) h' K Y → sm_e (tbr am lm as_ ls) h h' → RS K rho (mps s 0 q) → rfr J K rho → am_Go (am_prog w) d am_c145 none 224 [some (.ref 62), some (.int (nI (424 * rho))), some (.int 0), some (.int (q 1)), some (.int (q 2)), some (.int (q 3)), some (.int (q 4)), some (.int (q 5)), some (.int (q 6)), some (.int (s.1 6)), some (v10)] [] h' P) : am_Go (am_prog w) d am_c145 none 125 [some (.ref 62), some (.int (nI (424 * rho))), some (.int 0), some (.int (q 1)), some (.int (q 2)), some (.int (q 3)), some (.int (q 4)), some (.int (q 5)), some (.int (q 6)), some (.int (s.1 6)), none] [] h P := by
  have hs0 : (s.1, s.2.1, ([] : List ms_W)) = s := by
    obtain ⟨a, b, c⟩ := s
    simp only [] at hw0
    subst hw0
    rfl
  have hwl : s.2.2.length = 0 := by rw [hw0]; rfl
  have hmle := mtr_le s
  have hbt : s.1 14 = 0 ∨ s.1 14 = 1 := hb.1
  refine go_s (pc' := 126) (st' := [.int (-9)]) rfl rfl rfl rfl ?_
  refine go_s (pc' := 127) (lo' := [some (.ref 62), some (.int (nI (424 * rho))), some (.int 0), some (.int (q 1)), some (.int (q 2)), some (.int (q 3)), some (.int (q 4)), some (.int (q 5)), some (.int (q 6)), some (.int (s.1 6)), some (.int (-9))]) rfl rfl rfl rfl ?_
  refine go_s (pc' := 128) rfl rfl rfl rfl ?_
  refine go_s (pc' := 129) rfl rfl rfl rfl ?_
  refine go_icmpP (t' := 146) (pc' := 130) rfl rfl rfl (fun (c1 : ¬ (q 1) = (s.1 6)) => ?_) (fun (c1' : ¬ ¬ (q 1) = (s.1 6)) => ?_)
  · skip
    refine go_s (pc' := 147) rfl rfl rfl rfl ?_
    refine go_sget (pc' := 148) (v := .ref as_) hS rfl rfl rfl (by decide) rfl rfl ?_
    refine go_s (pc' := 149) rfl rfl rfl rfl ?_
    refine go_s (pc' := 150) (st' := [.int 14, .int (nI (424 * rho)), .ref as_]) rfl rfl rfl rfl ?_
    refine go_nadd (pc' := 151) (a := (424 * rho)) (b := 14) rfl rfl rfl rfl rfl ?_
    refine go_s (pc' := 152) rfl rfl rfl rfl ?_
    refine go_nadd (pc' := 153) (a := ((424 * rho) + 14)) (b := 0) rfl rfl rfl rfl rfl ?_
    refine go_sald (pc' := 154) (q := (((424 * rho) + 14) + 0)) (v := .int (s.1 14)) hS rfl (tr_as hr (by omega)) rfl rfl (by omega) (congrArg Value.int (hR.1 14 (by decide) (by decide) (by decide))) rfl ?_
    refine go_s (pc' := 155) (st' := [.int 1, .int (s.1 14)]) rfl rfl rfl rfl ?_
    refine go_icmpP (t' := 160) (pc' := 156) rfl rfl rfl (fun (c2 : ¬ (s.1 14) = 1) => ?_) (fun (c2' : ¬ ¬ (s.1 14) = 1) => ?_)
    · skip
      have hmj : mj (s.1, s.2.1, []) 0 (q 1) (q 3) (q 4) (q 5) = (-9, s) := by
        rw [hs0, mj_2, if_pos (Or.inl c1)]
      have h0t : s.1 (14 + 0) = 0 := hbt.elim id (fun z => absurd z c2)
      have hmd : mdo s 0 (-9) (q 4) (q 5) (q 6) = s := by
        unfold mdo
        rw [if_pos rfl, if_pos h0t]
      have hK9 := hR
      refine bg_d_0 hr hS hW hWa (s := s) hp hn hrho hls hl31 hR (rs := (-9)) (rc := q 5) (kd := q 4) (fun _ y => absurd y (by decide)) (fun h9 K9 g1 g2 g3 g4 => C _ h9 K9 g1 (sm_e_trans (sm_e_refl _ _) g2) ?_ (rfr_trans (rfr_refl J rho) g4))
      rw [mps_e, hmj]
      dsimp only
      rw [hmd]
      exact g3
    · skip
      have c2 : (s.1 14) = 1 := Decidable.not_not.mp c2'
      refine go_s (pc' := 157) rfl rfl rfl rfl ?_
      refine go_s (pc' := 158) rfl rfl rfl rfl ?_
      refine go_s (pc' := 159) (st' := [.int 0, .int 0, .ref 62]) rfl rfl rfl rfl ?_
      have hpos : 0 < mtr s := by
        rw [mtr_e]
        have z : bz (s.1 14) = 1 := by rw [show s.1 14 = 1 from c2]; rfl
        omega
      have hl : s.2.1.length < 32 := by omega
      have hcw := cw_le s.2.1 (nI 0) s.2.1.length
      refine go_callV (pc' := 160) rfl rfl rfl (Nat.le_of_ble_eq_true rfl) rfl (sm_o hS rfl) rfl rfl rfl (rs_en_0_0 hr hS hW hWa hp hn hrho hls hl31 hR hl hK hrk (by omega) ⟨by have z := mB_len s (nI 0); omega, by rw [(mB_1 s (nI 0)).2]; omega⟩ (fun m em => bok_e (by decide) (bok_F (s := s) (by rw [em]; exact (mB_1 s (nI 0)).1 14 (by omega)) (by rw [em]; exact (mB_1 s (nI 0)).1 15 (by omega)) hb)) (by omega)) (fun r h3 q4 => ?_)
      obtain ⟨rfl, K, hSK, hEK, hRK, hfK⟩ := q4
      have hmj : mj (s.1, s.2.1, []) 0 (q 1) (q 3) (q 4) (q 5) = (-9, s) := by
        rw [hs0, mj_2, if_pos (Or.inl c1)]
      have hmd : mdo s 0 (-9) (q 4) (q 5) (q 6) = (mX (mB s (nI 0)) 0) := by
        unfold mdo
        rw [if_pos rfl, if_neg (by rw [show s.1 (14 + 0) = 1 from c2]; decide)]
      refine bg_d_0 hr hSK hW hWa (s := (mX (mB s (nI 0)) 0)) (by unfold prk; rw [rfr_c hfK (by omega)]; exact hp) (by rw [rfr_c hfK (by omega)]; exact hn) ((rfr_w hfK).trans hrho) hls hl31 hRK (rs := (-9)) (rc := q 5) (kd := q 4) (fun _ y => absurd y (by decide)) (fun h9 K9 g1 g2 g3 g4 => C _ h9 K9 g1 (sm_e_trans hEK g2) ?_ (rfr_trans hfK g4))
      rw [mps_e, hmj]
      dsimp only
      rw [hmd]
      exact g3
  · skip
    have c1 : (q 1) = (s.1 6) := Decidable.not_not.mp c1'
    refine go_s (pc' := 131) rfl rfl rfl rfl ?_
    refine go_s (pc' := 132) rfl rfl rfl rfl ?_
    refine go_sget (pc' := 133) (v := .ref as_) hS rfl rfl rfl (by decide) rfl rfl ?_
    refine go_s (pc' := 134) rfl rfl rfl rfl ?_
    refine go_s (pc' := 135) (st' := [.int 0, .int (nI (424 * rho)), .ref as_, .int (q 3)]) rfl rfl rfl rfl ?_
    refine go_nadd (pc' := 136) (a := (424 * rho)) (b := 0) rfl rfl rfl rfl rfl ?_
    refine go_sald (pc' := 137) (q := ((424 * rho) + 0)) (v := .int (s.1 0)) hS rfl (tr_as hr (by omega)) rfl rfl (by omega) (congrArg Value.int (hR.1 0 (by decide) (by decide) (by decide))) rfl ?_
    refine go_icmpP (t' := 146) (pc' := 138) rfl rfl rfl (fun (c5 : ¬ (q 3) = (s.1 0)) => ?_) (fun (c5' : ¬ ¬ (q 3) = (s.1 0)) => ?_)
    · skip
      refine go_s (pc' := 147) rfl rfl rfl rfl ?_
      refine go_sget (pc' := 148) (v := .ref as_) hS rfl rfl rfl (by decide) rfl rfl ?_
      refine go_s (pc' := 149) rfl rfl rfl rfl ?_
      refine go_s (pc' := 150) (st' := [.int 14, .int (nI (424 * rho)), .ref as_]) rfl rfl rfl rfl ?_
      refine go_nadd (pc' := 151) (a := (424 * rho)) (b := 14) rfl rfl rfl rfl rfl ?_
      refine go_s (pc' := 152) rfl rfl rfl rfl ?_
      refine go_nadd (pc' := 153) (a := ((424 * rho) + 14)) (b := 0) rfl rfl rfl rfl rfl ?_
      refine go_sald (pc' := 154) (q := (((424 * rho) + 14) + 0)) (v := .int (s.1 14)) hS rfl (tr_as hr (by omega)) rfl rfl (by omega) (congrArg Value.int (hR.1 14 (by decide) (by decide) (by decide))) rfl ?_
      refine go_s (pc' := 155) (st' := [.int 1, .int (s.1 14)]) rfl rfl rfl rfl ?_
      refine go_icmpP (t' := 160) (pc' := 156) rfl rfl rfl (fun (c6 : ¬ (s.1 14) = 1) => ?_) (fun (c6' : ¬ ¬ (s.1 14) = 1) => ?_)
      · skip
        have hmj : mj (s.1, s.2.1, []) 0 (q 1) (q 3) (q 4) (q 5) = (-9, s) := by
          rw [hs0, mj_2, if_pos (Or.inr c5)]
        have h0t : s.1 (14 + 0) = 0 := hbt.elim id (fun z => absurd z c6)
        have hmd : mdo s 0 (-9) (q 4) (q 5) (q 6) = s := by
          unfold mdo
          rw [if_pos rfl, if_pos h0t]
        have hK9 := hR
        refine bg_d_0 hr hS hW hWa (s := s) hp hn hrho hls hl31 hR (rs := (-9)) (rc := q 5) (kd := q 4) (fun _ y => absurd y (by decide)) (fun h9 K9 g1 g2 g3 g4 => C _ h9 K9 g1 (sm_e_trans (sm_e_refl _ _) g2) ?_ (rfr_trans (rfr_refl J rho) g4))
        rw [mps_e, hmj]
        dsimp only
        rw [hmd]
        exact g3
      · skip
        have c6 : (s.1 14) = 1 := Decidable.not_not.mp c6'
        refine go_s (pc' := 157) rfl rfl rfl rfl ?_
        refine go_s (pc' := 158) rfl rfl rfl rfl ?_
        refine go_s (pc' := 159) (st' := [.int 0, .int 0, .ref 62]) rfl rfl rfl rfl ?_
        have hpos : 0 < mtr s := by
          rw [mtr_e]
          have z : bz (s.1 14) = 1 := by rw [show s.1 14 = 1 from c6]; rfl
          omega
        have hl : s.2.1.length < 32 := by omega
        have hcw := cw_le s.2.1 (nI 0) s.2.1.length
        refine go_callV (pc' := 160) rfl rfl rfl (Nat.le_of_ble_eq_true rfl) rfl (sm_o hS rfl) rfl rfl rfl (rs_en_0_0 hr hS hW hWa hp hn hrho hls hl31 hR hl hK hrk (by omega) ⟨by have z := mB_len s (nI 0); omega, by rw [(mB_1 s (nI 0)).2]; omega⟩ (fun m em => bok_e (by decide) (bok_F (s := s) (by rw [em]; exact (mB_1 s (nI 0)).1 14 (by omega)) (by rw [em]; exact (mB_1 s (nI 0)).1 15 (by omega)) hb)) (by omega)) (fun r h7 q8 => ?_)
        obtain ⟨rfl, K, hSK, hEK, hRK, hfK⟩ := q8
        have hmj : mj (s.1, s.2.1, []) 0 (q 1) (q 3) (q 4) (q 5) = (-9, s) := by
          rw [hs0, mj_2, if_pos (Or.inr c5)]
        have hmd : mdo s 0 (-9) (q 4) (q 5) (q 6) = (mX (mB s (nI 0)) 0) := by
          unfold mdo
          rw [if_pos rfl, if_neg (by rw [show s.1 (14 + 0) = 1 from c6]; decide)]
        refine bg_d_0 hr hSK hW hWa (s := (mX (mB s (nI 0)) 0)) (by unfold prk; rw [rfr_c hfK (by omega)]; exact hp) (by rw [rfr_c hfK (by omega)]; exact hn) ((rfr_w hfK).trans hrho) hls hl31 hRK (rs := (-9)) (rc := q 5) (kd := q 4) (fun _ y => absurd y (by decide)) (fun h9 K9 g1 g2 g3 g4 => C _ h9 K9 g1 (sm_e_trans hEK g2) ?_ (rfr_trans hfK g4))
        rw [mps_e, hmj]
        dsimp only
        rw [hmd]
        exact g3
    · skip
      have c5 : (q 3) = (s.1 0) := Decidable.not_not.mp c5'
      refine go_s (pc' := 139) rfl rfl rfl rfl ?_
      refine go_s (pc' := 140) rfl rfl rfl rfl ?_
      refine go_s (pc' := 141) rfl rfl rfl rfl ?_
      refine go_s (pc' := 142) rfl rfl rfl rfl ?_
      refine go_s (pc' := 143) rfl rfl rfl rfl ?_
      refine go_callV (pc' := 144) rfl rfl rfl (Nat.le_of_ble_eq_true rfl) rfl (sm_o hS rfl) rfl rfl rfl (rs_re_0 hr hS hW hWa hp hn hrho hls hl31 hR hw0 hH hK hrk hb hlk (by omega)) (fun r h9 q10 => ?_)
      obtain ⟨rfl, K, hSK, hEK, hRK, hfK⟩ := q10
      refine go_s (pc' := 145) (lo' := [some (.ref 62), some (.int (nI (424 * rho))), some (.int 0), some (.int (q 1)), some (.int (q 2)), some (.int (q 3)), some (.int (q 4)), some (.int (q 5)), some (.int (q 6)), some (.int (s.1 6)), some (.int ((mj2 s 0 (q 4) (q 5)).1))]) rfl rfl rfl rfl ?_
      refine go_s (pc' := 160) rfl rfl rfl rfl ?_
      have hmj : mj (s.1, s.2.1, []) 0 (q 1) (q 3) (q 4) (q 5) = mj2 s 0 (q 4) (q 5) := by
        rw [hs0, mj_2, if_neg (fun z => z.elim (fun y => y c1) (fun y => y c5))]
      refine bg_d_0 hr hSK hW hWa (s := (mdo (mj2 s 0 (q 4) (q 5)).2 0 (mj2 s 0 (q 4) (q 5)).1 (q 4) (q 5) (q 6))) (by unfold prk; rw [rfr_c hfK (by omega)]; exact hp) (by rw [rfr_c hfK (by omega)]; exact hn) ((rfr_w hfK).trans hrho) hls hl31 hRK (rs := (mj2 s 0 (q 4) (q 5)).1) (rc := q 5) (kd := q 4) (fun y1 y2 => mj2_rc (s := s) (t := 0) y1 y2) (fun h9 K9 g1 g2 g3 g4 => C _ h9 K9 g1 (sm_e_trans hEK g2) ?_ (rfr_trans hfK g4))
      rw [mps_e, hmj]
      exact g3
theorem bg_c_1 {w : Nat → Bool} {d : Nat} {h : am_Hp} {P : Option Value → am_Hp → Prop} {J : sm_I} {Y : sm_X} {am lm as_ ls : Nat} (hr : rk am as_) (hS : sm (tbr am lm as_ ls) h J Y) (hW : ∀ a, 62 ≤ a → a ≤ 88 → w a = true) (hWa : w as_ = true) {rho : Nat} {s : ms} (hp : prk J 0) (hn : ¬ J 11 0 = -1) (hrho : rwi J 0 = rho) (hls : 424 * rho + 424 ≤ ls) (hl31 : ls < 2 ^ 31) (hR : RS J rho s) (hw0 : s.2.2 = []) (hH : s.2.1.length + mtr s ≤ 32) (hK : EK s.2.1) (hrk : rok s.2.1 (nI 1)) (hb : bok s) (hlk : LKs s) {q : Nat → Int32} (hd : 7 ≤ d) (C : ∀ v10 h' K, sm (tbr am lm as_ ls) h' K Y → sm_e (tbr am lm as_ ls) h h' → RS K rho (mps s 1 q) → rfr J K rho → am_Go (am_prog w) d am_c145 none 224 [some (.ref 62), some (.int (nI (424 * rho))), some (.int 1), some (.int (q 1)), some (.int (q 2)), some (.int (q 3)), some (.int (q 4)), some (.int (q 5)), some (.int (q 6)), some (.int (s.1 7)), some (v10)] [] h' P) : am_Go (am_prog w) d am_c145 none 125 [some (.ref 62), some (.int (nI (424 * rho))), some (.int 1), some (.int (q 1)), some (.int (q 2)), some (.int (q 3)), some (.int (q 4)), some (.int (q 5)), some (.int (q 6)), some (.int (s.1 7)), none] [] h P := by
  have hs0 : (s.1, s.2.1, ([] : List ms_W)) = s := by
    obtain ⟨a, b, c⟩ := s
    simp only [] at hw0
    subst hw0
    rfl
  have hwl : s.2.2.length = 0 := by rw [hw0]; rfl
  have hmle := mtr_le s
  have hbt : s.1 15 = 0 ∨ s.1 15 = 1 := hb.2
  refine go_s (pc' := 126) (st' := [.int (-9)]) rfl rfl rfl rfl ?_
  refine go_s (pc' := 127) (lo' := [some (.ref 62), some (.int (nI (424 * rho))), some (.int 1), some (.int (q 1)), some (.int (q 2)), some (.int (q 3)), some (.int (q 4)), some (.int (q 5)), some (.int (q 6)), some (.int (s.1 7)), some (.int (-9))]) rfl rfl rfl rfl ?_
  refine go_s (pc' := 128) rfl rfl rfl rfl ?_
  refine go_s (pc' := 129) rfl rfl rfl rfl ?_
  refine go_icmpP (t' := 146) (pc' := 130) rfl rfl rfl (fun (c1 : ¬ (q 1) = (s.1 7)) => ?_) (fun (c1' : ¬ ¬ (q 1) = (s.1 7)) => ?_)
  · skip
    refine go_s (pc' := 147) rfl rfl rfl rfl ?_
    refine go_sget (pc' := 148) (v := .ref as_) hS rfl rfl rfl (by decide) rfl rfl ?_
    refine go_s (pc' := 149) rfl rfl rfl rfl ?_
    refine go_s (pc' := 150) (st' := [.int 14, .int (nI (424 * rho)), .ref as_]) rfl rfl rfl rfl ?_
    refine go_nadd (pc' := 151) (a := (424 * rho)) (b := 14) rfl rfl rfl rfl rfl ?_
    refine go_s (pc' := 152) rfl rfl rfl rfl ?_
    refine go_nadd (pc' := 153) (a := ((424 * rho) + 14)) (b := 1) rfl rfl rfl rfl rfl ?_
    refine go_sald (pc' := 154) (q := (((424 * rho) + 14) + 1)) (v := .int (s.1 15)) hS rfl (tr_as hr (by omega)) rfl rfl (by omega) (congrArg Value.int (hR.1 15 (by decide) (by decide) (by decide))) rfl ?_
    refine go_s (pc' := 155) (st' := [.int 1, .int (s.1 15)]) rfl rfl rfl rfl ?_
    refine go_icmpP (t' := 160) (pc' := 156) rfl rfl rfl (fun (c2 : ¬ (s.1 15) = 1) => ?_) (fun (c2' : ¬ ¬ (s.1 15) = 1) => ?_)
    · skip
      have hmj : mj (s.1, s.2.1, []) 1 (q 1) (q 3) (q 4) (q 5) = (-9, s) := by
        rw [hs0, mj_2, if_pos (Or.inl c1)]
      have h0t : s.1 (14 + 1) = 0 := hbt.elim id (fun z => absurd z c2)
      have hmd : mdo s 1 (-9) (q 4) (q 5) (q 6) = s := by
        unfold mdo
        rw [if_pos rfl, if_pos h0t]
      have hK9 := hR
      refine bg_d_1 hr hS hW hWa (s := s) hp hn hrho hls hl31 hR (rs := (-9)) (rc := q 5) (kd := q 4) (fun _ y => absurd y (by decide)) (fun h9 K9 g1 g2 g3 g4 => C _ h9 K9 g1 (sm_e_trans (sm_e_refl _ _) g2) ?_ (rfr_trans (rfr_refl J rho) g4))
      rw [mps_e, hmj]
      dsimp only
      rw [hmd]
      exact g3
    · skip
      have c2 : (s.1 15) = 1 := Decidable.not_not.mp c2'
      refine go_s (pc' := 157) rfl rfl rfl rfl ?_
      refine go_s (pc' := 158) rfl rfl rfl rfl ?_
      refine go_s (pc' := 159) (st' := [.int 0, .int 1, .ref 62]) rfl rfl rfl rfl ?_
      have hpos : 0 < mtr s := by
        rw [mtr_e]
        have z : bz (s.1 15) = 1 := by rw [show s.1 15 = 1 from c2]; rfl
        omega
      have hl : s.2.1.length < 32 := by omega
      have hcw := cw_le s.2.1 (nI 1) s.2.1.length
      refine go_callV (pc' := 160) rfl rfl rfl (Nat.le_of_ble_eq_true rfl) rfl (sm_o hS rfl) rfl rfl rfl (rs_en_1_0 hr hS hW hWa hp hn hrho hls hl31 hR hl hK hrk (by omega) ⟨by have z := mB_len s (nI 1); omega, by rw [(mB_1 s (nI 1)).2]; omega⟩ (fun m em => bok_e (by decide) (bok_F (s := s) (by rw [em]; exact (mB_1 s (nI 1)).1 14 (by omega)) (by rw [em]; exact (mB_1 s (nI 1)).1 15 (by omega)) hb)) (by omega)) (fun r h3 q4 => ?_)
      obtain ⟨rfl, K, hSK, hEK, hRK, hfK⟩ := q4
      have hmj : mj (s.1, s.2.1, []) 1 (q 1) (q 3) (q 4) (q 5) = (-9, s) := by
        rw [hs0, mj_2, if_pos (Or.inl c1)]
      have hmd : mdo s 1 (-9) (q 4) (q 5) (q 6) = (mX (mB s (nI 1)) 1) := by
        unfold mdo
        rw [if_pos rfl, if_neg (by rw [show s.1 (14 + 1) = 1 from c2]; decide)]
      refine bg_d_1 hr hSK hW hWa (s := (mX (mB s (nI 1)) 1)) (by unfold prk; rw [rfr_c hfK (by omega)]; exact hp) (by rw [rfr_c hfK (by omega)]; exact hn) ((rfr_w hfK).trans hrho) hls hl31 hRK (rs := (-9)) (rc := q 5) (kd := q 4) (fun _ y => absurd y (by decide)) (fun h9 K9 g1 g2 g3 g4 => C _ h9 K9 g1 (sm_e_trans hEK g2) ?_ (rfr_trans hfK g4))
      rw [mps_e, hmj]
      dsimp only
      rw [hmd]
      exact g3
  · skip
    have c1 : (q 1) = (s.1 7) := Decidable.not_not.mp c1'
    refine go_s (pc' := 131) rfl rfl rfl rfl ?_
    refine go_s (pc' := 132) rfl rfl rfl rfl ?_
    refine go_sget (pc' := 133) (v := .ref as_) hS rfl rfl rfl (by decide) rfl rfl ?_
    refine go_s (pc' := 134) rfl rfl rfl rfl ?_
    refine go_s (pc' := 135) (st' := [.int 0, .int (nI (424 * rho)), .ref as_, .int (q 3)]) rfl rfl rfl rfl ?_
    refine go_nadd (pc' := 136) (a := (424 * rho)) (b := 0) rfl rfl rfl rfl rfl ?_
    refine go_sald (pc' := 137) (q := ((424 * rho) + 0)) (v := .int (s.1 0)) hS rfl (tr_as hr (by omega)) rfl rfl (by omega) (congrArg Value.int (hR.1 0 (by decide) (by decide) (by decide))) rfl ?_
    refine go_icmpP (t' := 146) (pc' := 138) rfl rfl rfl (fun (c5 : ¬ (q 3) = (s.1 0)) => ?_) (fun (c5' : ¬ ¬ (q 3) = (s.1 0)) => ?_)
    · skip
      refine go_s (pc' := 147) rfl rfl rfl rfl ?_
      refine go_sget (pc' := 148) (v := .ref as_) hS rfl rfl rfl (by decide) rfl rfl ?_
      refine go_s (pc' := 149) rfl rfl rfl rfl ?_
      refine go_s (pc' := 150) (st' := [.int 14, .int (nI (424 * rho)), .ref as_]) rfl rfl rfl rfl ?_
      refine go_nadd (pc' := 151) (a := (424 * rho)) (b := 14) rfl rfl rfl rfl rfl ?_
      refine go_s (pc' := 152) rfl rfl rfl rfl ?_
      refine go_nadd (pc' := 153) (a := ((424 * rho) + 14)) (b := 1) rfl rfl rfl rfl rfl ?_
      refine go_sald (pc' := 154) (q := (((424 * rho) + 14) + 1)) (v := .int (s.1 15)) hS rfl (tr_as hr (by omega)) rfl rfl (by omega) (congrArg Value.int (hR.1 15 (by decide) (by decide) (by decide))) rfl ?_
      refine go_s (pc' := 155) (st' := [.int 1, .int (s.1 15)]) rfl rfl rfl rfl ?_
      refine go_icmpP (t' := 160) (pc' := 156) rfl rfl rfl (fun (c6 : ¬ (s.1 15) = 1) => ?_) (fun (c6' : ¬ ¬ (s.1 15) = 1) => ?_)
      · skip
        have hmj : mj (s.1, s.2.1, []) 1 (q 1) (q 3) (q 4) (q 5) = (-9, s) := by
          rw [hs0, mj_2, if_pos (Or.inr c5)]
        have h0t : s.1 (14 + 1) = 0 := hbt.elim id (fun z => absurd z c6)
        have hmd : mdo s 1 (-9) (q 4) (q 5) (q 6) = s := by
          unfold mdo
          rw [if_pos rfl, if_pos h0t]
        have hK9 := hR
        refine bg_d_1 hr hS hW hWa (s := s) hp hn hrho hls hl31 hR (rs := (-9)) (rc := q 5) (kd := q 4) (fun _ y => absurd y (by decide)) (fun h9 K9 g1 g2 g3 g4 => C _ h9 K9 g1 (sm_e_trans (sm_e_refl _ _) g2) ?_ (rfr_trans (rfr_refl J rho) g4))
        rw [mps_e, hmj]
        dsimp only
        rw [hmd]
        exact g3
      · skip
        have c6 : (s.1 15) = 1 := Decidable.not_not.mp c6'
        refine go_s (pc' := 157) rfl rfl rfl rfl ?_
        refine go_s (pc' := 158) rfl rfl rfl rfl ?_
        refine go_s (pc' := 159) (st' := [.int 0, .int 1, .ref 62]) rfl rfl rfl rfl ?_
        have hpos : 0 < mtr s := by
          rw [mtr_e]
          have z : bz (s.1 15) = 1 := by rw [show s.1 15 = 1 from c6]; rfl
          omega
        have hl : s.2.1.length < 32 := by omega
        have hcw := cw_le s.2.1 (nI 1) s.2.1.length
        refine go_callV (pc' := 160) rfl rfl rfl (Nat.le_of_ble_eq_true rfl) rfl (sm_o hS rfl) rfl rfl rfl (rs_en_1_0 hr hS hW hWa hp hn hrho hls hl31 hR hl hK hrk (by omega) ⟨by have z := mB_len s (nI 1); omega, by rw [(mB_1 s (nI 1)).2]; omega⟩ (fun m em => bok_e (by decide) (bok_F (s := s) (by rw [em]; exact (mB_1 s (nI 1)).1 14 (by omega)) (by rw [em]; exact (mB_1 s (nI 1)).1 15 (by omega)) hb)) (by omega)) (fun r h7 q8 => ?_)
        obtain ⟨rfl, K, hSK, hEK, hRK, hfK⟩ := q8
        have hmj : mj (s.1, s.2.1, []) 1 (q 1) (q 3) (q 4) (q 5) = (-9, s) := by
          rw [hs0, mj_2, if_pos (Or.inr c5)]
        have hmd : mdo s 1 (-9) (q 4) (q 5) (q 6) = (mX (mB s (nI 1)) 1) := by
          unfold mdo
          rw [if_pos rfl, if_neg (by rw [show s.1 (14 + 1) = 1 from c6]; decide)]
        refine bg_d_1 hr hSK hW hWa (s := (mX (mB s (nI 1)) 1)) (by unfold prk; rw [rfr_c hfK (by omega)]; exact hp) (by rw [rfr_c hfK (by omega)]; exact hn) ((rfr_w hfK).trans hrho) hls hl31 hRK (rs := (-9)) (rc := q 5) (kd := q 4) (fun _ y => absurd y (by decide)) (fun h9 K9 g1 g2 g3 g4 => C _ h9 K9 g1 (sm_e_trans hEK g2) ?_ (rfr_trans hfK g4))
        rw [mps_e, hmj]
        dsimp only
        rw [hmd]
        exact g3
    · skip
      have c5 : (q 3) = (s.1 0) := Decidable.not_not.mp c5'
      refine go_s (pc' := 139) rfl rfl rfl rfl ?_
      refine go_s (pc' := 140) rfl rfl rfl rfl ?_
      refine go_s (pc' := 141) rfl rfl rfl rfl ?_
      refine go_s (pc' := 142) rfl rfl rfl rfl ?_
      refine go_s (pc' := 143) rfl rfl rfl rfl ?_
      refine go_callV (pc' := 144) rfl rfl rfl (Nat.le_of_ble_eq_true rfl) rfl (sm_o hS rfl) rfl rfl rfl (rs_re_1 hr hS hW hWa hp hn hrho hls hl31 hR hw0 hH hK hrk hb hlk (by omega)) (fun r h9 q10 => ?_)
      obtain ⟨rfl, K, hSK, hEK, hRK, hfK⟩ := q10
      refine go_s (pc' := 145) (lo' := [some (.ref 62), some (.int (nI (424 * rho))), some (.int 1), some (.int (q 1)), some (.int (q 2)), some (.int (q 3)), some (.int (q 4)), some (.int (q 5)), some (.int (q 6)), some (.int (s.1 7)), some (.int ((mj2 s 1 (q 4) (q 5)).1))]) rfl rfl rfl rfl ?_
      refine go_s (pc' := 160) rfl rfl rfl rfl ?_
      have hmj : mj (s.1, s.2.1, []) 1 (q 1) (q 3) (q 4) (q 5) = mj2 s 1 (q 4) (q 5) := by
        rw [hs0, mj_2, if_neg (fun z => z.elim (fun y => y c1) (fun y => y c5))]
      refine bg_d_1 hr hSK hW hWa (s := (mdo (mj2 s 1 (q 4) (q 5)).2 1 (mj2 s 1 (q 4) (q 5)).1 (q 4) (q 5) (q 6))) (by unfold prk; rw [rfr_c hfK (by omega)]; exact hp) (by rw [rfr_c hfK (by omega)]; exact hn) ((rfr_w hfK).trans hrho) hls hl31 hRK (rs := (mj2 s 1 (q 4) (q 5)).1) (rc := q 5) (kd := q 4) (fun y1 y2 => mj2_rc (s := s) (t := 1) y1 y2) (fun h9 K9 g1 g2 g3 g4 => C _ h9 K9 g1 (sm_e_trans hEK g2) ?_ (rfr_trans hfK g4))
      rw [mps_e, hmj]
      exact g3
def shI (I : sm_I) (n i : Nat) : sm_I := fun c j => if c = 20 ∧ j < i then I 20 (j + 7) else if c = 21 ∧ j = 0 then nI (n - 1) else I c j
theorem sh_r {I : sm_I} {n i : Nat} : shI I n i 20 (i + 7) = I 20 (i + 7) := by
  simp only [shI]
  rw [if_neg (by omega), if_neg (by omega)]
theorem sh_s {I : sm_I} {n i : Nat} : uI (shI I n i) 20 i (I 20 (i + 7)) = shI I n (i + 1) := by
  funext c j
  simp only [uI, shI]
  by_cases e : c = 20 ∧ j = i
  · obtain ⟨rfl, rfl⟩ := e
    rw [if_pos ⟨rfl, rfl⟩, if_pos ⟨rfl, by omega⟩]
  · rw [if_neg e]
    by_cases e2 : c = 20 ∧ j < i
    · rw [if_pos e2, if_pos ⟨e2.1, by omega⟩]
    · rw [if_neg e2, if_neg (show ¬ (c = 20 ∧ j < i + 1) by omega)]
theorem sh_0 {I : sm_I} {n : Nat} : shI I n 0 = uI I 21 0 (nI (n - 1)) := by
  funext c j
  simp only [uI, shI]
  rw [if_neg (by omega)]
theorem sh_e {I : sm_I} {n : Nat} (h : stn I = n) : shI I n (7 * (n - 1)) = msh I := by
  unfold shI msh
  rw [h]
theorem lp_sh {w : Nat → Bool} {d : Nat} {I K : sm_I} {Y : sm_X} {am ln : Nat} {P : Option Value → am_Hp → Prop} (hr : rk am 77) (hW : ∀ a, 62 ≤ a → a ≤ 88 → w a = true) {n : Nat} (hn1 : 1 ≤ n) (hn8 : n ≤ 8) {v1 v2 v3 v4 v5 v6 v7 v8 : Value} : ∀ (k i : Nat) (h : am_Hp), i + k = 7 * (n - 1) → sm (tbr am (13 * ln) 77 5088) h (jn (shI I n i) K) Y → (∀ h', sm (tbr am (13 * ln) 77 5088) h' (jn (shI I n (7 * (n - 1))) K) Y → sm_e (tbr am (13 * ln) 77 5088) h h' → am_Go (am_prog w) d am_c145 none 65 [some (.ref 62), some (v1), some (v2), some (v3), some (v4), some (v5), some (v6), some (v7), some (v8), some (.int (nI (7 * (n - 1)))), none] [] h' P) → am_Go (am_prog w) d am_c145 none 47 [some (.ref 62), some (v1), some (v2), some (v3), some (v4), some (v5), some (v6), some (v7), some (v8), some (.int (nI i)), none] [] h P := by
  intro k
  induction k with
  | zero =>
    intro i h hik hS C
    obtain rfl : i = 7 * (n - 1) := by omega
    refine go_s (pc' := 48) rfl rfl rfl rfl ?_
    refine go_s (pc' := 49) (st' := [.int 7, .int (nI (7 * (n - 1)))]) rfl rfl rfl rfl ?_
    refine go_s (pc' := 50) rfl rfl rfl rfl ?_
    refine go_sget (pc' := 51) (v := .int (nI (n - 1))) hS rfl rfl rfl (by decide) rfl rfl ?_
    refine go_nmul (pc' := 52) (a := 7) (b := (n - 1)) rfl rfl rfl rfl rfl ?_
    refine go_icmpP (t' := 65) (pc' := 53) rfl rfl rfl (fun _ => ?_) (fun (c : ¬ ((nI (7 * (n - 1))) ≤ (nI (7 * (n - 1))))) => absurd (Int32.le_refl _) c)
    exact C h hS (sm_e_refl _ _)
  | succ k ih =>
    intro i h hik hS C
    refine go_s (pc' := 48) rfl rfl rfl rfl ?_
    refine go_s (pc' := 49) (st' := [.int 7, .int (nI i)]) rfl rfl rfl rfl ?_
    refine go_s (pc' := 50) rfl rfl rfl rfl ?_
    refine go_sget (pc' := 51) (v := .int (nI (n - 1))) hS rfl rfl rfl (by decide) rfl rfl ?_
    refine go_nmul (pc' := 52) (a := 7) (b := (n - 1)) rfl rfl rfl rfl rfl ?_
    refine go_icmpP (t' := 65) (pc' := 53) rfl rfl rfl (fun (c : (nI (7 * (n - 1))) ≤ (nI i)) => absurd c (nI_ge (b := 7 * (n - 1)) (by omega) (by omega))) (fun _ => ?_)
    refine go_s (pc' := 54) rfl rfl rfl rfl ?_
    refine go_sget (pc' := 55) (v := .ref 87) hS rfl rfl rfl (by decide) rfl rfl ?_
    refine go_s (pc' := 56) rfl rfl rfl rfl ?_
    refine go_s (pc' := 57) rfl rfl rfl rfl ?_
    refine go_sget (pc' := 58) (v := .ref 87) hS rfl rfl rfl (by decide) rfl rfl ?_
    refine go_s (pc' := 59) rfl rfl rfl rfl ?_
    refine go_s (pc' := 60) (st' := [.int 7, .int (nI i), .ref 87, .int (nI i), .ref 87]) rfl rfl rfl rfl ?_
    refine go_nadd (pc' := 61) (a := i) (b := 7) rfl rfl rfl rfl rfl ?_
    refine go_sald (pc' := 62) (q := (i + 7)) (v := .int (I 20 (i + 7))) hS rfl (tr_s hr (a := 87) rfl (by omega)) rfl rfl (by omega) (congrArg Value.int sh_r) rfl ?_
    refine go_siast (pc' := 63) (q := i) hS rfl (tr_s hr (a := 87) rfl (by omega)) tbr_inj (Nat.le_of_ble_eq_true rfl) rfl (by omega) (by decide) (hW _ (by decide) (by decide)) rfl (fun h1 hS2 hE3 => ?_)
    refine go_ninc (pc' := 64) (a := i) (n := 1) (lo' := [some (.ref 62), some (v1), some (v2), some (v3), some (v4), some (v5), some (v6), some (v7), some (v8), some (.int (nI (i + 1))), none]) rfl rfl rfl rfl rfl rfl ?_
    refine go_s (pc' := 47) rfl rfl rfl rfl ?_
    change sm (tbr am (13 * ln) 77 5088) _ (uI (jn (shI I n i) K) 20 i (I 20 (i + 7))) Y at hS2
    rw [jn_lo (c := 20) (by decide), sh_s] at hS2
    exact ih (i + 1) _ (by omega) hS2 (fun h9 s1 s2 => C h9 s1 (sm_e_trans hE3 s2))
