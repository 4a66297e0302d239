/-- what a message may be -/
def MK (m : mg) : Prop := (m.1 0 = 1 ∧ ∃ t, t < 2 ∧ m.1 5 = nI t) ∨ (m.1 0 = 2 ∧ ∃ t, t < 2 ∧ m.1 5 = nI t) ∨ ((m.1 0 = 3 ∨ m.1 0 = 4) ∧ ∃ k, k < 3 ∧ m.1 5 = nI k) ∨ (m.1 0 = 5 ∧ ∃ k, k < 3 ∧ m.1 5 = nI k)
theorem cx_dl_1_0 {w : Nat → Bool} {d : Nat} {h : am_Hp} {e : Nat} {m0 : mg} {B : Nat} {I : sm_I} {Q : mQ} {Z : mZ} {X : sm_X} {ow : ow_T} {sb : Nat} (hS : sm tbc h I X) (hD : CD w e m0 h I Q Z X ow sb) (hB : co h I ≤ B) (hQ : ∀ l, l < 16 → (Q l).length ≤ h.length) (hB2 : B < 2 ^ 27) {f p : Nat} (hf : f < 4) (hp : p < 4) (hfp : ¬ f = p) (hu : ¬ I 0 p = 0) (hw0 : I 16 0 = 1 → I 22 0 = 0 ∧ I 22 1 = 0) (hw1 : I 16 1 = 1 → lv I 1 = true) (hw2 : I 16 2 = 1 → lv I 2 = true) {x : Nat} {m : mg} {pr td : Int32} {vq va vs nx : Value} (ox : ow x ≠ 0) (hm : MF h ow sb m pr td vq va vs) (hx : h[x]? = some (.inl (9, [.int (m.1 0), .int (m.1 1), .int pr, .int td, vq, va, vs, nx]))) (k0 : m.1 0 = 1) (k5 : m.1 5 = nI 0) (hd : 7 ≤ d) : am_Ev (am_prog w) d 79 [.ref 1, .ref x, .int (nI f), .int (nI p)] h (fun r h' => r = none ∧ CA w e m0 (B + 700) h' (mdel f p m (I, Q, Z))) := by
  have hW := hD.1.1
  have hWn : ∀ a, List.length h ≤ a → w a = true := fun a ha => (hD.1.2.1 a ha).1
  have hF1 := fr_refl tbc h
  have hln : 62 ≤ List.length h := sm_len hS
  have e0 : m.1 0 = 1 := k0
  have e5 : m.1 5 = nI 0 := k5
  obtain ⟨a, rfl, oa, ha⟩ := hm.1 e0
  have hx2 : h[x]? = some (.inl (9, [.int 1, .int (m.1 1), .int pr, .int td, .ref a, va, vs, nx])) := by
    rw [hx, e0]
  obtain ⟨d, rfl⟩ : ∃ e, d = e + 1 := ⟨d - 1, by omega⟩
  refine ev_go rfl (Nat.le_of_ble_eq_true rfl) rfl ?_
  refine go_s (pc' := 1) rfl rfl rfl rfl ?_
  refine go_get (pc' := 2) rfl hx2 rfl (by decide) rfl rfl ?_
  refine go_tsw (t' := 3) rfl (Or.inr ⟨by decide, rfl⟩) rfl ?_
  refine go_s (pc' := 4) rfl rfl rfl rfl ?_
  refine go_sget (pc' := 5) (v := .ref 32) hS rfl rfl rfl (by decide) rfl rfl ?_
  refine go_sget (pc' := 6) (v := .int (I 11 0)) hS rfl rfl rfl (by decide) rfl rfl ?_
  refine go_s (pc' := 7) rfl rfl rfl rfl ?_
  refine go_icmpP (t' := 33) (pc' := 8) rfl rfl rfl (fun (c2 : ¬ (I 11 0) = (nI p)) => ?_) (fun (c2' : ¬ ¬ (I 11 0) = (nI p)) => ?_)
  · skip
    refine go_ret rfl rfl ?_
    have hms : mdel f p m (I, Q, Z) = (I, Q, Z) := by
      unfold mdel
      rw [if_pos e0, if_neg (show ¬ I 11 0 = nI p from c2)]
    have hD3 : CD w e m0 h I Q Z X ow sb := CD_I (CD_fr hD hF1) ⟨rfl, rfl, rfl, rfl, rfl, rfl, rfl, rfl, rfl, rfl, rfl, rfl, rfl, rfl, rfl⟩
    have hB4 : co h I ≤ B + 0 := by
      have := co_fr (I := I) (J := I) hF1 rfl
      have := hB
      omega
    have hC5 : CA w e m0 (B + 0) h (I, Q, Z) := ⟨X, ow, sb, hS, hD3, hB4, fun l hl => Nat.le_trans (hQ l hl) hF1.1⟩
    rw [hms]
    exact ⟨rfl, CA_le hC5 (by omega)⟩
  · skip
    have c2 : (I 11 0) = (nI p) := Decidable.not_not.mp c2'
    refine go_s (pc' := 9) rfl rfl rfl rfl ?_
    refine go_get (pc' := 10) rfl hx2 rfl (by decide) rfl rfl ?_
    refine go_s (pc' := 11) rfl rfl rfl rfl ?_
    refine go_s (pc' := 12) rfl rfl rfl rfl ?_
    refine go_sget (pc' := 13) (v := .ref 32) hS rfl rfl rfl (by decide) rfl rfl ?_
    refine go_s (pc' := 14) rfl rfl rfl rfl ?_
    refine go_get (pc' := 15) rfl hx2 rfl (by decide) rfl rfl ?_
    refine go_callV (pc' := 16) rfl rfl rfl (Nat.le_of_ble_eq_true rfl) rfl (sm_o hS rfl) rfl rfl rfl (cx_ac hS hD hB hQ (by omega) (lv_of c2 hp hu) (t := 0) (q := fun i => m.1 (5 + i)) (by decide) e5 oa ha (by omega)) (fun r h6 q7 => ?_)
    obtain ⟨rfl, hC9⟩ := q7
    refine go_s (pc' := 33) rfl rfl rfl rfl ?_
    refine go_ret rfl rfl ?_
    have hms : mdel f p m (I, Q, Z) = mac (fun i => m.1 (5 + i)) (I, Q, Z) := by
      unfold mdel
      rw [if_pos e0, if_pos (show I 11 0 = nI p from c2)]
    rw [hms]
    exact ⟨rfl, CA_le hC9 (by omega)⟩
theorem cx_dl_1_1 {w : Nat → Bool} {d : Nat} {h : am_Hp} {e : Nat} {m0 : mg} {B : Nat} {I : sm_I} {Q : mQ} {Z : mZ} {X : sm_X} {ow : ow_T} {sb : Nat} (hS : sm tbc h I X) (hD : CD w e m0 h I Q Z X ow sb) (hB : co h I ≤ B) (hQ : ∀ l, l < 16 → (Q l).length ≤ h.length) (hB2 : B < 2 ^ 27) {f p : Nat} (hf : f < 4) (hp : p < 4) (hfp : ¬ f = p) (hu : ¬ I 0 p = 0) (hw0 : I 16 0 = 1 → I 22 0 = 0 ∧ I 22 1 = 0) (hw1 : I 16 1 = 1 → lv I 1 = true) (hw2 : I 16 2 = 1 → lv I 2 = true) {x : Nat} {m : mg} {pr td : Int32} {vq va vs nx : Value} (ox : ow x ≠ 0) (hm : MF h ow sb m pr td vq va vs) (hx : h[x]? = some (.inl (9, [.int (m.1 0), .int (m.1 1), .int pr, .int td, vq, va, vs, nx]))) (k0 : m.1 0 = 1) (k5 : m.1 5 = nI 1) (hd : 7 ≤ d) : am_Ev (am_prog w) d 79 [.ref 1, .ref x, .int (nI f), .int (nI p)] h (fun r h' => r = none ∧ CA w e m0 (B + 700) h' (mdel f p m (I, Q, Z))) := by
  have hW := hD.1.1
  have hWn : ∀ a, List.length h ≤ a → w a = true := fun a ha => (hD.1.2.1 a ha).1
  have hF1 := fr_refl tbc h
  have hln : 62 ≤ List.length h := sm_len hS
  have e0 : m.1 0 = 1 := k0
  have e5 : m.1 5 = nI 1 := k5
  obtain ⟨a, rfl, oa, ha⟩ := hm.1 e0
  have hx2 : h[x]? = some (.inl (9, [.int 1, .int (m.1 1), .int pr, .int td, .ref a, va, vs, nx])) := by
    rw [hx, e0]
  obtain ⟨d, rfl⟩ : ∃ e, d = e + 1 := ⟨d - 1, by omega⟩
  refine ev_go rfl (Nat.le_of_ble_eq_true rfl) rfl ?_
  refine go_s (pc' := 1) rfl rfl rfl rfl ?_
  refine go_get (pc' := 2) rfl hx2 rfl (by decide) rfl rfl ?_
  refine go_tsw (t' := 3) rfl (Or.inr ⟨by decide, rfl⟩) rfl ?_
  refine go_s (pc' := 4) rfl rfl rfl rfl ?_
  refine go_sget (pc' := 5) (v := .ref 32) hS rfl rfl rfl (by decide) rfl rfl ?_
  refine go_sget (pc' := 6) (v := .int (I 11 0)) hS rfl rfl rfl (by decide) rfl rfl ?_
  refine go_s (pc' := 7) rfl rfl rfl rfl ?_
  refine go_icmpP (t' := 33) (pc' := 8) rfl rfl rfl (fun (c2 : ¬ (I 11 0) = (nI p)) => ?_) (fun (c2' : ¬ ¬ (I 11 0) = (nI p)) => ?_)
  · skip
    refine go_ret rfl rfl ?_
    have hms : mdel f p m (I, Q, Z) = (I, Q, Z) := by
      unfold mdel
      rw [if_pos e0, if_neg (show ¬ I 11 0 = nI p from c2)]
    have hD3 : CD w e m0 h I Q Z X ow sb := CD_I (CD_fr hD hF1) ⟨rfl, rfl, rfl, rfl, rfl, rfl, rfl, rfl, rfl, rfl, rfl, rfl, rfl, rfl, rfl⟩
    have hB4 : co h I ≤ B + 0 := by
      have := co_fr (I := I) (J := I) hF1 rfl
      have := hB
      omega
    have hC5 : CA w e m0 (B + 0) h (I, Q, Z) := ⟨X, ow, sb, hS, hD3, hB4, fun l hl => Nat.le_trans (hQ l hl) hF1.1⟩
    rw [hms]
    exact ⟨rfl, CA_le hC5 (by omega)⟩
  · skip
    have c2 : (I 11 0) = (nI p) := Decidable.not_not.mp c2'
    refine go_s (pc' := 9) rfl rfl rfl rfl ?_
    refine go_get (pc' := 10) rfl hx2 rfl (by decide) rfl rfl ?_
    refine go_s (pc' := 11) rfl rfl rfl rfl ?_
    refine go_s (pc' := 12) rfl rfl rfl rfl ?_
    refine go_sget (pc' := 13) (v := .ref 32) hS rfl rfl rfl (by decide) rfl rfl ?_
    refine go_s (pc' := 14) rfl rfl rfl rfl ?_
    refine go_get (pc' := 15) rfl hx2 rfl (by decide) rfl rfl ?_
    refine go_callV (pc' := 16) rfl rfl rfl (Nat.le_of_ble_eq_true rfl) rfl (sm_o hS rfl) rfl rfl rfl (cx_ac hS hD hB hQ (by omega) (lv_of c2 hp hu) (t := 1) (q := fun i => m.1 (5 + i)) (by decide) e5 oa ha (by omega)) (fun r h6 q7 => ?_)
    obtain ⟨rfl, hC9⟩ := q7
    refine go_s (pc' := 33) rfl rfl rfl rfl ?_
    refine go_ret rfl rfl ?_
    have hms : mdel f p m (I, Q, Z) = mac (fun i => m.1 (5 + i)) (I, Q, Z) := by
      unfold mdel
      rw [if_pos e0, if_pos (show I 11 0 = nI p from c2)]
    rw [hms]
    exact ⟨rfl, CA_le hC9 (by omega)⟩
theorem cx_dl_2_0 {w : Nat → Bool} {d : Nat} {h : am_Hp} {e : Nat} {m0 : mg} {B : Nat} {I : sm_I} {Q : mQ} {Z : mZ} {X : sm_X} {ow : ow_T} {sb : Nat} (hS : sm tbc h I X) (hD : CD w e m0 h I Q Z X ow sb) (hB : co h I ≤ B) (hQ : ∀ l, l < 16 → (Q l).length ≤ h.length) (hB2 : B < 2 ^ 27) {f p : Nat} (hf : f < 4) (hp : p < 4) (hfp : ¬ f = p) (hu : ¬ I 0 p = 0) (hw0 : I 16 0 = 1 → I 22 0 = 0 ∧ I 22 1 = 0) (hw1 : I 16 1 = 1 → lv I 1 = true) (hw2 : I 16 2 = 1 → lv I 2 = true) {x : Nat} {m : mg} {pr td : Int32} {vq va vs nx : Value} (ox : ow x ≠ 0) (hm : MF h ow sb m pr td vq va vs) (hx : h[x]? = some (.inl (9, [.int (m.1 0), .int (m.1 1), .int pr, .int td, vq, va, vs, nx]))) (k0 : m.1 0 = 2) (k5 : m.1 5 = nI 0) (hd : 7 ≤ d) : am_Ev (am_prog w) d 79 [.ref 1, .ref x, .int (nI f), .int (nI p)] h (fun r h' => r = none ∧ CA w e m0 (B + 700) h' (mdel f p m (I, Q, Z))) := by
  have hW := hD.1.1
  have hWn : ∀ a, List.length h ≤ a → w a = true := fun a ha => (hD.1.2.1 a ha).1
  have hF1 := fr_refl tbc h
  have hln : 62 ≤ List.length h := sm_len hS
  have e0 : m.1 0 = 2 := k0
  have e5 : m.1 5 = nI 0 := k5
  obtain ⟨a, rfl, oa, ha⟩ := hm.2.1 e0
  have hx2 : h[x]? = some (.inl (9, [.int 2, .int (m.1 1), .int pr, .int td, vq, .ref a, vs, nx])) := by
    rw [hx, e0]
  obtain ⟨d, rfl⟩ : ∃ e, d = e + 1 := ⟨d - 1, by omega⟩
  refine ev_go rfl (Nat.le_of_ble_eq_true rfl) rfl ?_
  refine go_s (pc' := 1) rfl rfl rfl rfl ?_
  refine go_get (pc' := 2) rfl hx2 rfl (by decide) rfl rfl ?_
  refine go_tsw (t' := 17) rfl (Or.inr ⟨by decide, rfl⟩) rfl ?_
  refine go_s (pc' := 18) rfl rfl rfl rfl ?_
  refine go_s (pc' := 19) rfl rfl rfl rfl ?_
  refine go_get (pc' := 20) rfl hx2 rfl (by decide) rfl rfl ?_
  refine go_s (pc' := 21) rfl rfl rfl rfl ?_
  refine go_callV (pc' := 22) rfl rfl rfl (Nat.le_of_ble_eq_true rfl) rfl (sm_o hS rfl) rfl rfl rfl (cx_rp_0 hS hD hB hQ (by omega) (s := fun i => m.1 (5 + i)) hp hu e5 oa ha (by omega)) (fun r h2 q3 => ?_)
  obtain ⟨rfl, hC9⟩ := q3
  refine go_s (pc' := 33) rfl rfl rfl rfl ?_
  refine go_ret rfl rfl ?_
  have hms : mdel f p m (I, Q, Z) = mrd 0 p (fun i => m.1 (5 + i)) (I, Q, Z) := by
    unfold mdel
    rw [if_neg (by rw [e0]; decide), if_pos e0, (show (m.1 5).toNatClampNeg = 0 by rw [e5]; rfl)]
  rw [hms]
  exact ⟨rfl, CA_le hC9 (by omega)⟩
theorem cx_dl_2_1 {w : Nat → Bool} {d : Nat} {h : am_Hp} {e : Nat} {m0 : mg} {B : Nat} {I : sm_I} {Q : mQ} {Z : mZ} {X : sm_X} {ow : ow_T} {sb : Nat} (hS : sm tbc h I X) (hD : CD w e m0 h I Q Z X ow sb) (hB : co h I ≤ B) (hQ : ∀ l, l < 16 → (Q l).length ≤ h.length) (hB2 : B < 2 ^ 27) {f p : Nat} (hf : f < 4) (hp : p < 4) (hfp : ¬ f = p) (hu : ¬ I 0 p = 0) (hw0 : I 16 0 = 1 → I 22 0 = 0 ∧ I 22 1 = 0) (hw1 : I 16 1 = 1 → lv I 1 = true) (hw2 : I 16 2 = 1 → lv I 2 = true) {x : Nat} {m : mg} {pr td : Int32} {vq va vs nx : Value} (ox : ow x ≠ 0) (hm : MF h ow sb m pr td vq va vs) (hx : h[x]? = some (.inl (9, [.int (m.1 0), .int (m.1 1), .int pr, .int td, vq, va, vs, nx]))) (k0 : m.1 0 = 2) (k5 : m.1 5 = nI 1) (hd : 7 ≤ d) : am_Ev (am_prog w) d 79 [.ref 1, .ref x, .int (nI f), .int (nI p)] h (fun r h' => r = none ∧ CA w e m0 (B + 700) h' (mdel f p m (I, Q, Z))) := by
  have hW := hD.1.1
  have hWn : ∀ a, List.length h ≤ a → w a = true := fun a ha => (hD.1.2.1 a ha).1
  have hF1 := fr_refl tbc h
  have hln : 62 ≤ List.length h := sm_len hS
  have e0 : m.1 0 = 2 := k0
  have e5 : m.1 5 = nI 1 := k5
  obtain ⟨a, rfl, oa, ha⟩ := hm.2.1 e0
  have hx2 : h[x]? = some (.inl (9, [.int 2, .int (m.1 1), .int pr, .int td, vq, .ref a, vs, nx])) := by
    rw [hx, e0]
  obtain ⟨d, rfl⟩ : ∃ e, d = e + 1 := ⟨d - 1, by omega⟩
  refine ev_go rfl (Nat.le_of_ble_eq_true rfl) rfl ?_
  refine go_s (pc' := 1) rfl rfl rfl rfl ?_
  refine go_get (pc' := 2) rfl hx2 rfl (by decide) rfl rfl ?_
  refine go_tsw (t' := 17) rfl (Or.inr ⟨by decide, rfl⟩) rfl ?_
  refine go_s (pc' := 18) rfl rfl rfl rfl ?_
  refine go_s (pc' := 19) rfl rfl rfl rfl ?_
  refine go_get (pc' := 20) rfl hx2 rfl (by decide) rfl rfl ?_
  refine go_s (pc' := 21) rfl rfl rfl rfl ?_
  refine go_callV (pc' := 22) rfl rfl rfl (Nat.le_of_ble_eq_true rfl) rfl (sm_o hS rfl) rfl rfl rfl (cx_rp_1 hS hD hB hQ (by omega) (s := fun i => m.1 (5 + i)) hp hu e5 oa ha (by omega)) (fun r h2 q3 => ?_)
  obtain ⟨rfl, hC9⟩ := q3
  refine go_s (pc' := 33) rfl rfl rfl rfl ?_
  refine go_ret rfl rfl ?_
  have hms : mdel f p m (I, Q, Z) = mrd 1 p (fun i => m.1 (5 + i)) (I, Q, Z) := by
    unfold mdel
    rw [if_neg (by rw [e0]; decide), if_pos e0, (show (m.1 5).toNatClampNeg = 1 by rw [e5]; rfl)]
  rw [hms]
  exact ⟨rfl, CA_le hC9 (by omega)⟩
theorem cx_dl_3_0 {w : Nat → Bool} {d : Nat} {h : am_Hp} {e : Nat} {m0 : mg} {B : Nat} {I : sm_I} {Q : mQ} {Z : mZ} {X : sm_X} {ow : ow_T} {sb : Nat} (hS : sm tbc h I X) (hD : CD w e m0 h I Q Z X ow sb) (hB : co h I ≤ B) (hQ : ∀ l, l < 16 → (Q l).length ≤ h.length) (hB2 : B < 2 ^ 27) {f p : Nat} (hf : f < 4) (hp : p < 4) (hfp : ¬ f = p) (hu : ¬ I 0 p = 0) (hw0 : I 16 0 = 1 → I 22 0 = 0 ∧ I 22 1 = 0) (hw1 : I 16 1 = 1 → lv I 1 = true) (hw2 : I 16 2 = 1 → lv I 2 = true) {x : Nat} {m : mg} {pr td : Int32} {vq va vs nx : Value} (ox : ow x ≠ 0) (hm : MF h ow sb m pr td vq va vs) (hx : h[x]? = some (.inl (9, [.int (m.1 0), .int (m.1 1), .int pr, .int td, vq, va, vs, nx]))) (k0 : m.1 0 = 3) (k5 : m.1 5 = nI 0) (hd : 7 ≤ d) : am_Ev (am_prog w) d 79 [.ref 1, .ref x, .int (nI f), .int (nI p)] h (fun r h' => r = none ∧ CA w e m0 (B + 700) h' (mdel f p m (I, Q, Z))) := by
  have hW := hD.1.1
  have hWn : ∀ a, List.length h ≤ a → w a = true := fun a ha => (hD.1.2.1 a ha).1
  have hF1 := fr_refl tbc h
  have hln : 62 ≤ List.length h := sm_len hS
  have e0 : m.1 0 = 3 := k0
  have e5 : m.1 5 = nI 0 := k5
  obtain ⟨rfl, rfl, ms0, ms1, ms2⟩ := hm.2.2.2 (by first | exact Or.inl e0 | exact Or.inr e0)
  obtain ⟨b, rfl, hbs, hst⟩ := ms0 e5
  have hx2 : h[x]? = some (.inl (9, [.int 3, .int (m.1 1), .int 0, .int (m.1 6), vq, va, .ref b, nx])) := by
    rw [hx, e0, e5]
    rfl
  obtain ⟨d, rfl⟩ : ∃ e, d = e + 1 := ⟨d - 1, by omega⟩
  refine ev_go rfl (Nat.le_of_ble_eq_true rfl) rfl ?_
  refine go_s (pc' := 1) rfl rfl rfl rfl ?_
  refine go_get (pc' := 2) rfl hx2 rfl (by decide) rfl rfl ?_
  refine go_tsw (t' := 28) rfl (Or.inr ⟨by decide, rfl⟩) rfl ?_
  refine go_s (pc' := 29) rfl rfl rfl rfl ?_
  refine go_s (pc' := 30) rfl rfl rfl rfl ?_
  refine go_s (pc' := 31) rfl rfl rfl rfl ?_
  refine go_s (pc' := 32) rfl rfl rfl rfl ?_
  refine go_callV (pc' := 33) rfl rfl rfl (Nat.le_of_ble_eq_true rfl) rfl (sm_o hS rfl) rfl rfl rfl (cx_ts_0 hS hD hB hQ (by omega) (z := m.2) hf hp hfp ox hbs hst hx2 (by omega)) (fun r h2 q3 => ?_)
  obtain ⟨rfl, hC9⟩ := q3
  refine go_ret rfl rfl ?_
  have hms : mdel f p m (I, Q, Z) = mts 0 f p (m.1 6) m.2 (I, Q, Z) := by
    unfold mdel
    rw [if_neg (by rw [e0]; decide), if_neg (by rw [e0]; decide), if_neg (by rw [e0]; decide), (show (m.1 5).toNatClampNeg = 0 by rw [e5]; rfl)]
  rw [hms]
  exact ⟨rfl, CA_le hC9 (by omega)⟩
theorem cx_dl_3_1 {w : Nat → Bool} {d : Nat} {h : am_Hp} {e : Nat} {m0 : mg} {B : Nat} {I : sm_I} {Q : mQ} {Z : mZ} {X : sm_X} {ow : ow_T} {sb : Nat} (hS : sm tbc h I X) (hD : CD w e m0 h I Q Z X ow sb) (hB : co h I ≤ B) (hQ : ∀ l, l < 16 → (Q l).length ≤ h.length) (hB2 : B < 2 ^ 27) {f p : Nat} (hf : f < 4) (hp : p < 4) (hfp : ¬ f = p) (hu : ¬ I 0 p = 0) (hw0 : I 16 0 = 1 → I 22 0 = 0 ∧ I 22 1 = 0) (hw1 : I 16 1 = 1 → lv I 1 = true) (hw2 : I 16 2 = 1 → lv I 2 = true) {x : Nat} {m : mg} {pr td : Int32} {vq va vs nx : Value} (ox : ow x ≠ 0) (hm : MF h ow sb m pr td vq va vs) (hx : h[x]? = some (.inl (9, [.int (m.1 0), .int (m.1 1), .int pr, .int td, vq, va, vs, nx]))) (k0 : m.1 0 = 3) (k5 : m.1 5 = nI 1) (hd : 7 ≤ d) : am_Ev (am_prog w) d 79 [.ref 1, .ref x, .int (nI f), .int (nI p)] h (fun r h' => r = none ∧ CA w e m0 (B + 700) h' (mdel f p m (I, Q, Z))) := by
  have hW := hD.1.1
  have hWn : ∀ a, List.length h ≤ a → w a = true := fun a ha => (hD.1.2.1 a ha).1
  have hF1 := fr_refl tbc h
  have hln : 62 ≤ List.length h := sm_len hS
  have e0 : m.1 0 = 3 := k0
  have e5 : m.1 5 = nI 1 := k5
  obtain ⟨rfl, rfl, ms0, ms1, ms2⟩ := hm.2.2.2 (by first | exact Or.inl e0 | exact Or.inr e0)
  have htr := ms1 e5
  have hx2 : h[x]? = some (.inl (9, [.int 3, .int (m.1 1), .int 1, .int (m.1 6), vq, va, vs, nx])) := by
    rw [hx, e0, e5]
    rfl
  obtain ⟨d, rfl⟩ : ∃ e, d = e + 1 := ⟨d - 1, by omega⟩
  refine ev_go rfl (Nat.le_of_ble_eq_true rfl) rfl ?_
  refine go_s (pc' := 1) rfl rfl rfl rfl ?_
  refine go_get (pc' := 2) rfl hx2 rfl (by decide) rfl rfl ?_
  refine go_tsw (t' := 28) rfl (Or.inr ⟨by decide, rfl⟩) rfl ?_
  refine go_s (pc' := 29) rfl rfl rfl rfl ?_
  refine go_s (pc' := 30) rfl rfl rfl rfl ?_
  refine go_s (pc' := 31) rfl rfl rfl rfl ?_
  refine go_s (pc' := 32) rfl rfl rfl rfl ?_
  refine go_callV (pc' := 33) rfl rfl rfl (Nat.le_of_ble_eq_true rfl) rfl (sm_o hS rfl) rfl rfl rfl (cx_ts_1 hS hD hB hQ (by omega) (z := m.2) hf hp hfp ox htr hx2 (by omega)) (fun r h2 q3 => ?_)
  obtain ⟨rfl, hC9⟩ := q3
  refine go_ret rfl rfl ?_
  have hms : mdel f p m (I, Q, Z) = mts 1 f p (m.1 6) m.2 (I, Q, Z) := by
    unfold mdel
    rw [if_neg (by rw [e0]; decide), if_neg (by rw [e0]; decide), if_neg (by rw [e0]; decide), (show (m.1 5).toNatClampNeg = 1 by rw [e5]; rfl)]
  rw [hms]
  exact ⟨rfl, CA_le hC9 (by omega)⟩
theorem cx_dl_3_2 {w : Nat → Bool} {d : Nat} {h : am_Hp} {e : Nat} {m0 : mg} {B : Nat} {I : sm_I} {Q : mQ} {Z : mZ} {X : sm_X} {ow : ow_T} {sb : Nat} (hS : sm tbc h I X) (hD : CD w e m0 h I Q Z X ow sb) (hB : co h I ≤ B) (hQ : ∀ l, l < 16 → (Q l).length ≤ h.length) (hB2 : B < 2 ^ 27) {f p : Nat} (hf : f < 4) (hp : p < 4) (hfp : ¬ f = p) (hu : ¬ I 0 p = 0) (hw0 : I 16 0 = 1 → I 22 0 = 0 ∧ I 22 1 = 0) (hw1 : I 16 1 = 1 → lv I 1 = true) (hw2 : I 16 2 = 1 → lv I 2 = true) {x : Nat} {m : mg} {pr td : Int32} {vq va vs nx : Value} (ox : ow x ≠ 0) (hm : MF h ow sb m pr td vq va vs) (hx : h[x]? = some (.inl (9, [.int (m.1 0), .int (m.1 1), .int pr, .int td, vq, va, vs, nx]))) (k0 : m.1 0 = 3) (k5 : m.1 5 = nI 2) (hd : 7 ≤ d) : am_Ev (am_prog w) d 79 [.ref 1, .ref x, .int (nI f), .int (nI p)] h (fun r h' => r = none ∧ CA w e m0 (B + 700) h' (mdel f p m (I, Q, Z))) := by
  have hW := hD.1.1
  have hWn : ∀ a, List.length h ≤ a → w a = true := fun a ha => (hD.1.2.1 a ha).1
  have hF1 := fr_refl tbc h
  have hln : 62 ≤ List.length h := sm_len hS
  have e0 : m.1 0 = 3 := k0
  have e5 : m.1 5 = nI 2 := k5
  obtain ⟨rfl, rfl, ms0, ms1, ms2⟩ := hm.2.2.2 (by first | exact Or.inl e0 | exact Or.inr e0)
  have htr := ms2 e5
  have hx2 : h[x]? = some (.inl (9, [.int 3, .int (m.1 1), .int 2, .int (m.1 6), vq, va, vs, nx])) := by
    rw [hx, e0, e5]
    rfl
  obtain ⟨d, rfl⟩ : ∃ e, d = e + 1 := ⟨d - 1, by omega⟩
  refine ev_go rfl (Nat.le_of_ble_eq_true rfl) rfl ?_
  refine go_s (pc' := 1) rfl rfl rfl rfl ?_
  refine go_get (pc' := 2) rfl hx2 rfl (by decide) rfl rfl ?_
  refine go_tsw (t' := 28) rfl (Or.inr ⟨by decide, rfl⟩) rfl ?_
  refine go_s (pc' := 29) rfl rfl rfl rfl ?_
  refine go_s (pc' := 30) rfl rfl rfl rfl ?_
  refine go_s (pc' := 31) rfl rfl rfl rfl ?_
  refine go_s (pc' := 32) rfl rfl rfl rfl ?_
  refine go_callV (pc' := 33) rfl rfl rfl (Nat.le_of_ble_eq_true rfl) rfl (sm_o hS rfl) rfl rfl rfl (cx_ts_2 hS hD hB hQ (by omega) (z := m.2) hf hp hfp ox htr hx2 (by omega)) (fun r h2 q3 => ?_)
  obtain ⟨rfl, hC9⟩ := q3
  refine go_ret rfl rfl ?_
  have hms : mdel f p m (I, Q, Z) = mts 2 f p (m.1 6) m.2 (I, Q, Z) := by
    unfold mdel
    rw [if_neg (by rw [e0]; decide), if_neg (by rw [e0]; decide), if_neg (by rw [e0]; decide), (show (m.1 5).toNatClampNeg = 2 by rw [e5]; rfl)]
  rw [hms]
  exact ⟨rfl, CA_le hC9 (by omega)⟩
theorem cx_dl_4_0 {w : Nat → Bool} {d : Nat} {h : am_Hp} {e : Nat} {m0 : mg} {B : Nat} {I : sm_I} {Q : mQ} {Z : mZ} {X : sm_X} {ow : ow_T} {sb : Nat} (hS : sm tbc h I X) (hD : CD w e m0 h I Q Z X ow sb) (hB : co h I ≤ B) (hQ : ∀ l, l < 16 → (Q l).length ≤ h.length) (hB2 : B < 2 ^ 27) {f p : Nat} (hf : f < 4) (hp : p < 4) (hfp : ¬ f = p) (hu : ¬ I 0 p = 0) (hw0 : I 16 0 = 1 → I 22 0 = 0 ∧ I 22 1 = 0) (hw1 : I 16 1 = 1 → lv I 1 = true) (hw2 : I 16 2 = 1 → lv I 2 = true) {x : Nat} {m : mg} {pr td : Int32} {vq va vs nx : Value} (ox : ow x ≠ 0) (hm : MF h ow sb m pr td vq va vs) (hx : h[x]? = some (.inl (9, [.int (m.1 0), .int (m.1 1), .int pr, .int td, vq, va, vs, nx]))) (k0 : m.1 0 = 4) (k5 : m.1 5 = nI 0) (hd : 7 ≤ d) : am_Ev (am_prog w) d 79 [.ref 1, .ref x, .int (nI f), .int (nI p)] h (fun r h' => r = none ∧ CA w e m0 (B + 700) h' (mdel f p m (I, Q, Z))) := by
  have hW := hD.1.1
  have hWn : ∀ a, List.length h ≤ a → w a = true := fun a ha => (hD.1.2.1 a ha).1
  have hF1 := fr_refl tbc h
  have hln : 62 ≤ List.length h := sm_len hS
  have e0 : m.1 0 = 4 := k0
  have e5 : m.1 5 = nI 0 := k5
  obtain ⟨rfl, rfl, ms0, ms1, ms2⟩ := hm.2.2.2 (by first | exact Or.inl e0 | exact Or.inr e0)
  obtain ⟨b, rfl, hbs, hst⟩ := ms0 e5
  have hx2 : h[x]? = some (.inl (9, [.int 4, .int (m.1 1), .int 0, .int (m.1 6), vq, va, .ref b, nx])) := by
    rw [hx, e0, e5]
    rfl
  obtain ⟨d, rfl⟩ : ∃ e, d = e + 1 := ⟨d - 1, by omega⟩
  refine ev_go rfl (Nat.le_of_ble_eq_true rfl) rfl ?_
  refine go_s (pc' := 1) rfl rfl rfl rfl ?_
  refine go_get (pc' := 2) rfl hx2 rfl (by decide) rfl rfl ?_
  refine go_tsw (t' := 28) rfl (Or.inr ⟨by decide, rfl⟩) rfl ?_
  refine go_s (pc' := 29) rfl rfl rfl rfl ?_
  refine go_s (pc' := 30) rfl rfl rfl rfl ?_
  refine go_s (pc' := 31) rfl rfl rfl rfl ?_
  refine go_s (pc' := 32) rfl rfl rfl rfl ?_
  refine go_callV (pc' := 33) rfl rfl rfl (Nat.le_of_ble_eq_true rfl) rfl (sm_o hS rfl) rfl rfl rfl (cx_ts_0 hS hD hB hQ (by omega) (z := m.2) hf hp hfp ox hbs hst hx2 (by omega)) (fun r h2 q3 => ?_)
  obtain ⟨rfl, hC9⟩ := q3
  refine go_ret rfl rfl ?_
  have hms : mdel f p m (I, Q, Z) = mts 0 f p (m.1 6) m.2 (I, Q, Z) := by
    unfold mdel
    rw [if_neg (by rw [e0]; decide), if_neg (by rw [e0]; decide), if_neg (by rw [e0]; decide), (show (m.1 5).toNatClampNeg = 0 by rw [e5]; rfl)]
  rw [hms]
  exact ⟨rfl, CA_le hC9 (by omega)⟩
theorem cx_dl_4_1 {w : Nat → Bool} {d : Nat} {h : am_Hp} {e : Nat} {m0 : mg} {B : Nat} {I : sm_I} {Q : mQ} {Z : mZ} {X : sm_X} {ow : ow_T} {sb : Nat} (hS : sm tbc h I X) (hD : CD w e m0 h I Q Z X ow sb) (hB : co h I ≤ B) (hQ : ∀ l, l < 16 → (Q l).length ≤ h.length) (hB2 : B < 2 ^ 27) {f p : Nat} (hf : f < 4) (hp : p < 4) (hfp : ¬ f = p) (hu : ¬ I 0 p = 0) (hw0 : I 16 0 = 1 → I 22 0 = 0 ∧ I 22 1 = 0) (hw1 : I 16 1 = 1 → lv I 1 = true) (hw2 : I 16 2 = 1 → lv I 2 = true) {x : Nat} {m : mg} {pr td : Int32} {vq va vs nx : Value} (ox : ow x ≠ 0) (hm : MF h ow sb m pr td vq va vs) (hx : h[x]? = some (.inl (9, [.int (m.1 0), .int (m.1 1), .int pr, .int td, vq, va, vs, nx]))) (k0 : m.1 0 = 4) (k5 : m.1 5 = nI 1) (hd : 7 ≤ d) : am_Ev (am_prog w) d 79 [.ref 1, .ref x, .int (nI f), .int (nI p)] h (fun r h' => r = none ∧ CA w e m0 (B + 700) h' (mdel f p m (I, Q, Z))) := by
  have hW := hD.1.1
  have hWn : ∀ a, List.length h ≤ a → w a = true := fun a ha => (hD.1.2.1 a ha).1
  have hF1 := fr_refl tbc h
  have hln : 62 ≤ List.length h := sm_len hS
  have e0 : m.1 0 = 4 := k0
  have e5 : m.1 5 = nI 1 := k5
  obtain ⟨rfl, rfl, ms0, ms1, ms2⟩ := hm.2.2.2 (by first | exact Or.inl e0 | exact Or.inr e0)
  have htr := ms1 e5
  have hx2 : h[x]? = some (.inl (9, [.int 4, .int (m.1 1), .int 1, .int (m.1 6), vq, va, vs, nx])) := by
    rw [hx, e0, e5]
    rfl
  obtain ⟨d, rfl⟩ : ∃ e, d = e + 1 := ⟨d - 1, by omega⟩
  refine ev_go rfl (Nat.le_of_ble_eq_true rfl) rfl ?_
  refine go_s (pc' := 1) rfl rfl rfl rfl ?_
  refine go_get (pc' := 2) rfl hx2 rfl (by decide) rfl rfl ?_
  refine go_tsw (t' := 28) rfl (Or.inr ⟨by decide, rfl⟩) rfl ?_
  refine go_s (pc' := 29) rfl rfl rfl rfl ?_
  refine go_s (pc' := 30) rfl rfl rfl rfl ?_
  refine go_s (pc' := 31) rfl rfl rfl rfl ?_
  refine go_s (pc' := 32) rfl rfl rfl rfl ?_
  refine go_callV (pc' := 33) rfl rfl rfl (Nat.le_of_ble_eq_true rfl) rfl (sm_o hS rfl) rfl rfl rfl (cx_ts_1 hS hD hB hQ (by omega) (z := m.2) hf hp hfp ox htr hx2 (by omega)) (fun r h2 q3 => ?_)
  obtain ⟨rfl, hC9⟩ := q3
  refine go_ret rfl rfl ?_
  have hms : mdel f p m (I, Q, Z) = mts 1 f p (m.1 6) m.2 (I, Q, Z) := by
    unfold mdel
    rw [if_neg (by rw [e0]; decide), if_neg (by rw [e0]; decide), if_neg (by rw [e0]; decide), (show (m.1 5).toNatClampNeg = 1 by rw [e5]; rfl)]
  rw [hms]
  exact ⟨rfl, CA_le hC9 (by omega)⟩
theorem cx_dl_4_2 {w : Nat → Bool} {d : Nat} {h : am_Hp} {e : Nat} {m0 : mg} {B : Nat} {I : sm_I} {Q : mQ} {Z : mZ} {X : sm_X} {ow : ow_T} {sb : Nat} (hS : sm tbc h I X) (hD : CD w e m0 h I Q Z X ow sb) (hB : co h I ≤ B) (hQ : ∀ l, l < 16 → (Q l).length ≤ h.length) (hB2 : B < 2 ^ 27) {f p : Nat} (hf : f < 4) (hp : p < 4) (hfp : ¬ f = p) (hu : ¬ I 0 p = 0) (hw0 : I 16 0 = 1 → I 22 0 = 0 ∧ I 22 1 = 0) (hw1 : I 16 1 = 1 → lv I 1 = true) (hw2 : I 16 2 = 1 → lv I 2 = true) {x : Nat} {m : mg} {pr td : Int32} {vq va vs nx : Value} (ox : ow x ≠ 0) (hm : MF h ow sb m pr td vq va vs) (hx : h[x]? = some (.inl (9, [.int (m.1 0), .int (m.1 1), .int pr, .int td, vq, va, vs, nx]))) (k0 : m.1 0 = 4) (k5 : m.1 5 = nI 2) (hd : 7 ≤ d) : am_Ev (am_prog w) d 79 [.ref 1, .ref x, .int (nI f), .int (nI p)] h (fun r h' => r = none ∧ CA w e m0 (B + 700) h' (mdel f p m (I, Q, Z))) := by
  have hW := hD.1.1
  have hWn : ∀ a, List.length h ≤ a → w a = true := fun a ha => (hD.1.2.1 a ha).1
  have hF1 := fr_refl tbc h
  have hln : 62 ≤ List.length h := sm_len hS
  have e0 : m.1 0 = 4 := k0
  have e5 : m.1 5 = nI 2 := k5
  obtain ⟨rfl, rfl, ms0, ms1, ms2⟩ := hm.2.2.2 (by first | exact Or.inl e0 | exact Or.inr e0)
  have htr := ms2 e5
  have hx2 : h[x]? = some (.inl (9, [.int 4, .int (m.1 1), .int 2, .int (m.1 6), vq, va, vs, nx])) := by
    rw [hx, e0, e5]
    rfl
  obtain ⟨d, rfl⟩ : ∃ e, d = e + 1 := ⟨d - 1, by omega⟩
  refine ev_go rfl (Nat.le_of_ble_eq_true rfl) rfl ?_
  refine go_s (pc' := 1) rfl rfl rfl rfl ?_
  refine go_get (pc' := 2) rfl hx2 rfl (by decide) rfl rfl ?_
  refine go_tsw (t' := 28) rfl (Or.inr ⟨by decide, rfl⟩) rfl ?_
  refine go_s (pc' := 29) rfl rfl rfl rfl ?_
  refine go_s (pc' := 30) rfl rfl rfl rfl ?_
  refine go_s (pc' := 31) rfl rfl rfl rfl ?_
  refine go_s (pc' := 32) rfl rfl rfl rfl ?_
  refine go_callV (pc' := 33) rfl rfl rfl (Nat.le_of_ble_eq_true rfl) rfl (sm_o hS rfl) rfl rfl rfl (cx_ts_2 hS hD hB hQ (by omega) (z := m.2) hf hp hfp ox htr hx2 (by omega)) (fun r h2 q3 => ?_)
  obtain ⟨rfl, hC9⟩ := q3
  refine go_ret rfl rfl ?_
  have hms : mdel f p m (I, Q, Z) = mts 2 f p (m.1 6) m.2 (I, Q, Z) := by
    unfold mdel
    rw [if_neg (by rw [e0]; decide), if_neg (by rw [e0]; decide), if_neg (by rw [e0]; decide), (show (m.1 5).toNatClampNeg = 2 by rw [e5]; rfl)]
  rw [hms]
  exact ⟨rfl, CA_le hC9 (by omega)⟩
theorem cx_dl_5_0 {w : Nat → Bool} {d : Nat} {h : am_Hp} {e : Nat} {m0 : mg} {B : Nat} {I : sm_I} {Q : mQ} {Z : mZ} {X : sm_X} {ow : ow_T} {sb : Nat} (hS : sm tbc h I X) (hD : CD w e m0 h I Q Z X ow sb) (hB : co h I ≤ B) (hQ : ∀ l, l < 16 → (Q l).length ≤ h.length) (hB2 : B < 2 ^ 27) {f p : Nat} (hf : f < 4) (hp : p < 4) (hfp : ¬ f = p) (hu : ¬ I 0 p = 0) (hw0 : I 16 0 = 1 → I 22 0 = 0 ∧ I 22 1 = 0) (hw1 : I 16 1 = 1 → lv I 1 = true) (hw2 : I 16 2 = 1 → lv I 2 = true) {x : Nat} {m : mg} {pr td : Int32} {vq va vs nx : Value} (ox : ow x ≠ 0) (hm : MF h ow sb m pr td vq va vs) (hx : h[x]? = some (.inl (9, [.int (m.1 0), .int (m.1 1), .int pr, .int td, vq, va, vs, nx]))) (k0 : m.1 0 = 5) (k5 : m.1 5 = nI 0) (hd : 7 ≤ d) : am_Ev (am_prog w) d 79 [.ref 1, .ref x, .int (nI f), .int (nI p)] h (fun r h' => r = none ∧ CA w e m0 (B + 700) h' (mdel f p m (I, Q, Z))) := by
  have hW := hD.1.1
  have hWn : ∀ a, List.length h ≤ a → w a = true := fun a ha => (hD.1.2.1 a ha).1
  have hF1 := fr_refl tbc h
  have hln : 62 ≤ List.length h := sm_len hS
  have e0 : m.1 0 = 5 := k0
  have e5 : m.1 5 = nI 0 := k5
  obtain ⟨rfl, rfl⟩ := hm.2.2.1 e0
  have hx2 : h[x]? = some (.inl (9, [.int 5, .int (m.1 1), .int 0, .int (m.1 6), vq, va, vs, nx])) := by
    rw [hx, e0, e5]
    rfl
  obtain ⟨d, rfl⟩ : ∃ e, d = e + 1 := ⟨d - 1, by omega⟩
  refine ev_go rfl (Nat.le_of_ble_eq_true rfl) rfl ?_
  refine go_s (pc' := 1) rfl rfl rfl rfl ?_
  refine go_get (pc' := 2) rfl hx2 rfl (by decide) rfl rfl ?_
  refine go_tsw (t' := 23) rfl (Or.inr ⟨by decide, rfl⟩) rfl ?_
  refine go_s (pc' := 24) rfl rfl rfl rfl ?_
  refine go_s (pc' := 25) rfl rfl rfl rfl ?_
  refine go_s (pc' := 26) rfl rfl rfl rfl ?_
  refine go_callV (pc' := 27) rfl rfl rfl (Nat.le_of_ble_eq_true rfl) rfl (sm_o hS rfl) rfl rfl rfl (cx_wd_0 hS hD hB hQ (by omega) hp hu ox hx2 hw0 (by omega)) (fun r h2 q3 => ?_)
  obtain ⟨rfl, hC9⟩ := q3
  refine go_s (pc' := 33) rfl rfl rfl rfl ?_
  refine go_ret rfl rfl ?_
  have hms : mdel f p m (I, Q, Z) = mwd 0 p (m.1 6) (I, Q, Z) := by
    unfold mdel
    rw [if_neg (by rw [e0]; decide), if_neg (by rw [e0]; decide), if_pos e0, (show (m.1 5).toNatClampNeg = 0 by rw [e5]; rfl)]
  rw [hms]
  exact ⟨rfl, CA_le hC9 (by omega)⟩
theorem cx_dl_5_1 {w : Nat → Bool} {d : Nat} {h : am_Hp} {e : Nat} {m0 : mg} {B : Nat} {I : sm_I} {Q : mQ} {Z : mZ} {X : sm_X} {ow : ow_T} {sb : Nat} (hS : sm tbc h I X) (hD : CD w e m0 h I Q Z X ow sb) (hB : co h I ≤ B) (hQ : ∀ l, l < 16 → (Q l).length ≤ h.length) (hB2 : B < 2 ^ 27) {f p : Nat} (hf : f < 4) (hp : p < 4) (hfp : ¬ f = p) (hu : ¬ I 0 p = 0) (hw0 : I 16 0 = 1 → I 22 0 = 0 ∧ I 22 1 = 0) (hw1 : I 16 1 = 1 → lv I 1 = true) (hw2 : I 16 2 = 1 → lv I 2 = true) {x : Nat} {m : mg} {pr td : Int32} {vq va vs nx : Value} (ox : ow x ≠ 0) (hm : MF h ow sb m pr td vq va vs) (hx : h[x]? = some (.inl (9, [.int (m.1 0), .int (m.1 1), .int pr, .int td, vq, va, vs, nx]))) (k0 : m.1 0 = 5) (k5 : m.1 5 = nI 1) (hd : 7 ≤ d) : am_Ev (am_prog w) d 79 [.ref 1, .ref x, .int (nI f), .int (nI p)] h (fun r h' => r = none ∧ CA w e m0 (B + 700) h' (mdel f p m (I, Q, Z))) := by
  have hW := hD.1.1
  have hWn : ∀ a, List.length h ≤ a → w a = true := fun a ha => (hD.1.2.1 a ha).1
  have hF1 := fr_refl tbc h
  have hln : 62 ≤ List.length h := sm_len hS
  have e0 : m.1 0 = 5 := k0
  have e5 : m.1 5 = nI 1 := k5
  obtain ⟨rfl, rfl⟩ := hm.2.2.1 e0
  have hx2 : h[x]? = some (.inl (9, [.int 5, .int (m.1 1), .int 1, .int (m.1 6), vq, va, vs, nx])) := by
    rw [hx, e0, e5]
    rfl
  obtain ⟨d, rfl⟩ : ∃ e, d = e + 1 := ⟨d - 1, by omega⟩
  refine ev_go rfl (Nat.le_of_ble_eq_true rfl) rfl ?_
  refine go_s (pc' := 1) rfl rfl rfl rfl ?_
  refine go_get (pc' := 2) rfl hx2 rfl (by decide) rfl rfl ?_
  refine go_tsw (t' := 23) rfl (Or.inr ⟨by decide, rfl⟩) rfl ?_
  refine go_s (pc' := 24) rfl rfl rfl rfl ?_
  refine go_s (pc' := 25) rfl rfl rfl rfl ?_
  refine go_s (pc' := 26) rfl rfl rfl rfl ?_
  refine go_callV (pc' := 27) rfl rfl rfl (Nat.le_of_ble_eq_true rfl) rfl (sm_o hS rfl) rfl rfl rfl (cx_wd_1 hS hD hB hQ (by omega) hp hu ox hx2 hw1 (by omega)) (fun r h2 q3 => ?_)
  obtain ⟨rfl, hC9⟩ := q3
  refine go_s (pc' := 33) rfl rfl rfl rfl ?_
  refine go_ret rfl rfl ?_
  have hms : mdel f p m (I, Q, Z) = mwd 1 p (m.1 6) (I, Q, Z) := by
    unfold mdel
    rw [if_neg (by rw [e0]; decide), if_neg (by rw [e0]; decide), if_pos e0, (show (m.1 5).toNatClampNeg = 1 by rw [e5]; rfl)]
  rw [hms]
  exact ⟨rfl, CA_le hC9 (by omega)⟩
theorem cx_dl_5_2 {w : Nat → Bool} {d : Nat} {h : am_Hp} {e : Nat} {m0 : mg} {B : Nat} {I : sm_I} {Q : mQ} {Z : mZ} {X : sm_X} {ow : ow_T} {sb : Nat} (hS : sm tbc h I X) (hD : CD w e m0 h I Q Z X ow sb) (hB : co h I ≤ B) (hQ : ∀ l, l < 16 → (Q l).length ≤ h.length) (hB2 : B < 2 ^ 27) {f p : Nat} (hf : f < 4) (hp : p < 4) (hfp : ¬ f = p) (hu : ¬ I 0 p = 0) (hw0 : I 16 0 = 1 → I 22 0 = 0 ∧ I 22 1 = 0) (hw1 : I 16 1 = 1 → lv I 1 = true) (hw2 : I 16 2 = 1 → lv I 2 = true) {x : Nat} {m : mg} {pr td : Int32} {vq va vs nx : Value} (ox : ow x ≠ 0) (hm : MF h ow sb m pr td vq va vs) (hx : h[x]? = some (.inl (9, [.int (m.1 0), .int (m.1 1), .int pr, .int td, vq, va, vs, nx]))) (k0 : m.1 0 = 5) (k5 : m.1 5 = nI 2) (hd : 7 ≤ d) : am_Ev (am_prog w) d 79 [.ref 1, .ref x, .int (nI f), .int (nI p)] h (fun r h' => r = none ∧ CA w e m0 (B + 700) h' (mdel f p m (I, Q, Z))) := by
  have hW := hD.1.1
  have hWn : ∀ a, List.length h ≤ a → w a = true := fun a ha => (hD.1.2.1 a ha).1
  have hF1 := fr_refl tbc h
  have hln : 62 ≤ List.length h := sm_len hS
  have e0 : m.1 0 = 5 := k0
  have e5 : m.1 5 = nI 2 := k5
  obtain ⟨rfl, rfl⟩ := hm.2.2.1 e0
  have hx2 : h[x]? = some (.inl (9, [.int 5, .int (m.1 1), .int 2, .int (m.1 6), vq, va, vs, nx])) := by
    rw [hx, e0, e5]
    rfl
  obtain ⟨d, rfl⟩ : ∃ e, d = e + 1 := ⟨d - 1, by omega⟩
  refine ev_go rfl (Nat.le_of_ble_eq_true rfl) rfl ?_
  refine go_s (pc' := 1) rfl rfl rfl rfl ?_
  refine go_get (pc' := 2) rfl hx2 rfl (by decide) rfl rfl ?_
  refine go_tsw (t' := 23) rfl (Or.inr ⟨by decide, rfl⟩) rfl ?_
  refine go_s (pc' := 24) rfl rfl rfl rfl ?_
  refine go_s (pc' := 25) rfl rfl rfl rfl ?_
  refine go_s (pc' := 26) rfl rfl rfl rfl ?_
  refine go_callV (pc' := 27) rfl rfl rfl (Nat.le_of_ble_eq_true rfl) rfl (sm_o hS rfl) rfl rfl rfl (cx_wd_2 hS hD hB hQ (by omega) hp hu ox hx2 hw2 (by omega)) (fun r h2 q3 => ?_)
  obtain ⟨rfl, hC9⟩ := q3
  refine go_s (pc' := 33) rfl rfl rfl rfl ?_
  refine go_ret rfl rfl ?_
  have hms : mdel f p m (I, Q, Z) = mwd 2 p (m.1 6) (I, Q, Z) := by
    unfold mdel
    rw [if_neg (by rw [e0]; decide), if_neg (by rw [e0]; decide), if_pos e0, (show (m.1 5).toNatClampNeg = 2 by rw [e5]; rfl)]
  rw [hms]
  exact ⟨rfl, CA_le hC9 (by omega)⟩
theorem cx_dl {w : Nat → Bool} {d : Nat} {h : am_Hp} {e : Nat} {m0 : mg} {B : Nat} {I : sm_I} {Q : mQ} {Z : mZ} {X : sm_X} {ow : ow_T} {sb : Nat} (hS : sm tbc h I X) (hD : CD w e m0 h I Q Z X ow sb) (hB : co h I ≤ B) (hQ : ∀ l, l < 16 → (Q l).length ≤ h.length) (hB2 : B < 2 ^ 27) {f p : Nat} (hf : f < 4) (hp : p < 4) (hfp : ¬ f = p) (hu : ¬ I 0 p = 0) (hw0 : I 16 0 = 1 → I 22 0 = 0 ∧ I 22 1 = 0) (hw1 : I 16 1 = 1 → lv I 1 = true) (hw2 : I 16 2 = 1 → lv I 2 = true) {x : Nat} {m : mg} {pr td : Int32} {vq va vs nx : Value} (ox : ow x ≠ 0) (hm : MF h ow sb m pr td vq va vs) (hx : h[x]? = some (.inl (9, [.int (m.1 0), .int (m.1 1), .int pr, .int td, vq, va, vs, nx]))) (hk : MK m) (hd : 7 ≤ d) : am_Ev (am_prog w) d 79 [.ref 1, .ref x, .int (nI f), .int (nI p)] h (fun r h' => r = none ∧ CA w e m0 (B + 700) h' (mdel f p m (I, Q, Z))) := by
  rcases hk with ⟨k0, t, ht, k5⟩ | ⟨k0, t, ht, k5⟩ | ⟨k0, t, ht, k5⟩ | ⟨k0, t, ht, k5⟩
  · match t, ht with
    | 0, _ => exact cx_dl_1_0 hS hD hB hQ hB2 hf hp hfp hu hw0 hw1 hw2 ox hm hx k0 k5 hd
    | 1, _ => exact cx_dl_1_1 hS hD hB hQ hB2 hf hp hfp hu hw0 hw1 hw2 ox hm hx k0 k5 hd
  · match t, ht with
    | 0, _ => exact cx_dl_2_0 hS hD hB hQ hB2 hf hp hfp hu hw0 hw1 hw2 ox hm hx k0 k5 hd
    | 1, _ => exact cx_dl_2_1 hS hD hB hQ hB2 hf hp hfp hu hw0 hw1 hw2 ox hm hx k0 k5 hd
  · rcases k0 with k0 | k0
    · match t, ht with
      | 0, _ => exact cx_dl_3_0 hS hD hB hQ hB2 hf hp hfp hu hw0 hw1 hw2 ox hm hx k0 k5 hd
      | 1, _ => exact cx_dl_3_1 hS hD hB hQ hB2 hf hp hfp hu hw0 hw1 hw2 ox hm hx k0 k5 hd
      | 2, _ => exact cx_dl_3_2 hS hD hB hQ hB2 hf hp hfp hu hw0 hw1 hw2 ox hm hx k0 k5 hd
    · match t, ht with
      | 0, _ => exact cx_dl_4_0 hS hD hB hQ hB2 hf hp hfp hu hw0 hw1 hw2 ox hm hx k0 k5 hd
      | 1, _ => exact cx_dl_4_1 hS hD hB hQ hB2 hf hp hfp hu hw0 hw1 hw2 ox hm hx k0 k5 hd
      | 2, _ => exact cx_dl_4_2 hS hD hB hQ hB2 hf hp hfp hu hw0 hw1 hw2 ox hm hx k0 k5 hd
  · match t, ht with
    | 0, _ => exact cx_dl_5_0 hS hD hB hQ hB2 hf hp hfp hu hw0 hw1 hw2 ox hm hx k0 k5 hd
    | 1, _ => exact cx_dl_5_1 hS hD hB hQ hB2 hf hp hfp hu hw0 hw1 hw2 ox hm hx k0 k5 hd
    | 2, _ => exact cx_dl_5_2 hS hD hB hQ hB2 hf hp hfp hu hw0 hw1 hw2 ox hm hx k0 k5 hd
