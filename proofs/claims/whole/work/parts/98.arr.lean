theorem cm_rf {w : Nat → Bool} {d : Nat} {h : am_Hp} {l : Nat} {m m1 : mg} (hl : l < 16) {B : Nat} {I : sm_I} {Q : mQ} {Z : mZ} (hC : CA w l m B h (I, Q, Z)) (hB2 : B < 2 ^ 28) (hd : 2 ≤ d) : am_Ev (am_prog w) d 88 [.ref 2, .ref (8 + l)] h (fun r h' => r = none ∧ CA w 32 m1 B h' (I, Q, Z)) := by
  obtain ⟨X, ow, sb, hS, hD, hB, hQ⟩ := hC
  change sm tbc h I X at hS
  change CD w l m h I Q Z X ow sb at hD
  change co h I ≤ B at hB
  change ∀ l, l < 16 → (Q l).length ≤ h.length at hQ
  have hW := hD.1.1
  have hWn : ∀ a, List.length h ≤ a → w a = true := fun a ha => (hD.1.2.1 a ha).1
  have hF1 := fr_refl tbc h
  have hln : 62 ≤ List.length h := sm_len hS
  have hLK : LK h ow sb l X (m :: Q l) := by
    have := hD.2.1 l hl
    rw [show cq l m Q l = m :: Q l from if_pos rfl] at this
    exact this
  obtain ⟨x, L, x200, lenL, x202, ⟨ox, pr, td, vq, va, vs, hx, hmf⟩, x201, rest⟩ := LK_hd hLK
  obtain ⟨-, y2, y3⟩ := (hD.2.2.1 l hl).1 rfl
  have hlb : L.length ≤ B := by
    have := hQ l hl
    unfold co at hB
    omega
  obtain ⟨d, rfl⟩ : ∃ e, d = e + 1 := ⟨d - 1, by omega⟩
  refine ev_go rfl (Nat.le_of_ble_eq_true rfl) rfl ?_
  cases L with
  | nil =>
    have hx : h[x]? = some (.inl (9, [.int (m.1 0), .int (m.1 1), .int pr, .int td, vq, va, vs, .null])) := hx
    have hql : Q l = [] := by
      exact List.length_eq_zero_iff.mp lenL.symm
    refine go_s (pc' := 1) rfl rfl rfl rfl ?_
    refine go_sget (pc' := 2) (v := .ref x) hS rfl rfl (tc_l0 hl) (by decide) x200 rfl ?_
    refine go_s (pc' := 4) rfl rfl rfl rfl ?_
    refine go_s (pc' := 5) rfl rfl rfl rfl ?_
    refine go_s (pc' := 6) rfl rfl rfl rfl ?_
    refine go_sget (pc' := 7) (v := .ref x) hS rfl rfl (tc_l0 hl) (by decide) x200 rfl ?_
    refine go_get (pc' := 8) rfl ((hF1.2.2.2 _ (hD.1.2.2 _ (by omega)).2.1 (OW_lt hD.1 (by omega))).trans hx) rfl (by decide) rfl rfl ?_
    refine go_sputX (pc' := 9) hS rfl rfl (tc_l0 hl) (by decide) tbc_inj (Nat.le_of_ble_eq_true rfl) (Nat.le_of_ble_eq_true rfl) rfl (hW _ (by rw [tc_lk hl]; rfl)) rfl (fun h2 hS3 hE4 => ?_)
    have hF5 := fr_trans hF1 (fr_e hE4)
    refine go_s (pc' := 10) rfl rfl rfl rfl ?_
    refine go_s (pc' := 11) rfl rfl rfl rfl ?_
    refine go_sget (pc' := 12) (v := .int (nI (List.length (α := Nat) [] + 1))) hS3 rfl rfl (tc_l2 hl) (by decide) x202 rfl ?_
    refine go_s (pc' := 13) (st' := [.int 1, .int (nI (List.length (α := Nat) [] + 1)), .ref (8 + l)]) rfl rfl rfl rfl ?_
    refine go_nsub (pc' := 14) (a := (List.length (α := Nat) [] + 1)) (b := 1) rfl rfl rfl (by omega) rfl rfl ?_
    refine go_sputX (pc' := 15) hS3 rfl rfl (tc_l2 hl) (by decide) tbc_inj (Nat.le_of_ble_eq_true rfl) (Nat.le_of_ble_eq_true rfl) rfl (hW _ (by rw [tc_lk hl]; rfl)) rfl (fun h6 hS7 hE8 => ?_)
    have hF9 := fr_trans hF5 (fr_e hE8)
    refine go_s (pc' := 16) rfl rfl rfl rfl ?_
    refine go_sget (pc' := 17) (v := .null) hS7 rfl rfl (tc_l0 hl) (by decide) (by simp [sm_v, uI, uX]) rfl ?_
    refine go_s (pc' := 18) rfl rfl rfl rfl ?_
    refine go_s (pc' := 19) rfl rfl rfl rfl ?_
    refine go_s (pc' := 20) rfl rfl rfl rfl ?_
    refine go_sputX (pc' := 21) hS7 rfl rfl (tc_l1 hl) (by decide) tbc_inj (Nat.le_of_ble_eq_true rfl) (Nat.le_of_ble_eq_true rfl) rfl (hW _ (by rw [tc_lk hl]; rfl)) rfl (fun h10 hS11 hE12 => ?_)
    have hF13 := fr_trans hF9 (fr_e hE12)
    refine go_s (pc' := 22) rfl rfl rfl rfl ?_
    refine go_s (pc' := 23) (st' := [.int (-1), .ref (8 + l)]) rfl rfl rfl rfl ?_
    refine go_callV (pc' := 24) rfl rfl rfl (Nat.le_of_ble_eq_true rfl) rfl (sm_o hS11 (tc_lk hl)) rfl rfl rfl (ct_putOn hS11 hW hl (-1) (by omega)) (fun r h14 q15 => ?_)
    obtain ⟨rfl, hS16, hE17⟩ := q15
    have hF18 := fr_trans hF13 (fr_e hE17)
    refine go_s (pc' := 29) rfl rfl rfl rfl ?_
    refine go_ret rfl rfl ?_
    have hD9 := CD_fr hD hF18
    refine ⟨rfl, (uX (uX (uX (uX (uX X 200 l (.null)) 202 l (.int (nI ((List.length (α := Nat) [] + 1) - 1)))) 201 l (.null)) 203 l (.int (-1))) 204 l (.int (-1))), ow, sb, hS16, CD_rf hD9 hl (Or.inl rfl) (fun c j hj => by simp [uX, hj]) (fun c hc => by funext j; simp only [uX]; repeat rw [if_neg (by omega)]) ?_ ?_ ⟨[], lenL, by simp [uX, nxv], ?_, ?_, fun i y m a b => MC_ex (ex_fr hD.1 hF18) (by omega) (by omega) (by omega) (rest i y m a b)⟩, ?_, fun l hl => Nat.le_trans (hQ l hl) hF18.1⟩
    · show _ = Value.int (I 24 l)
      rw [y2, if_pos hql]; simp [uX]
    · show _ = Value.int (I 25 l)
      rw [y3, if_pos hql]; simp [uX]
    · simp [uX]
    · simp [uX]
    have := co_fr (I := I) (J := I) hF18 rfl
    show co _ I ≤ B
    omega
  | cons y L2 =>
    have hx : h[x]? = some (.inl (9, [.int (m.1 0), .int (m.1 1), .int pr, .int td, vq, va, vs, .ref y])) := hx
    have hql : ¬ Q l = [] := by
      intro z
      rw [z] at lenL
      simp at lenL
    refine go_s (pc' := 1) rfl rfl rfl rfl ?_
    refine go_sget (pc' := 2) (v := .ref x) hS rfl rfl (tc_l0 hl) (by decide) x200 rfl ?_
    refine go_s (pc' := 4) rfl rfl rfl rfl ?_
    refine go_s (pc' := 5) rfl rfl rfl rfl ?_
    refine go_s (pc' := 6) rfl rfl rfl rfl ?_
    refine go_sget (pc' := 7) (v := .ref x) hS rfl rfl (tc_l0 hl) (by decide) x200 rfl ?_
    refine go_get (pc' := 8) rfl ((hF1.2.2.2 _ (hD.1.2.2 _ (by omega)).2.1 (OW_lt hD.1 (by omega))).trans hx) rfl (by decide) rfl rfl ?_
    refine go_sputX (pc' := 9) hS rfl rfl (tc_l0 hl) (by decide) tbc_inj (Nat.le_of_ble_eq_true rfl) (Nat.le_of_ble_eq_true rfl) rfl (hW _ (by rw [tc_lk hl]; rfl)) rfl (fun h19 hS20 hE21 => ?_)
    have hF22 := fr_trans hF1 (fr_e hE21)
    refine go_s (pc' := 10) rfl rfl rfl rfl ?_
    refine go_s (pc' := 11) rfl rfl rfl rfl ?_
    refine go_sget (pc' := 12) (v := .int (nI (List.length (α := Nat) (y :: L2) + 1))) hS20 rfl rfl (tc_l2 hl) (by decide) x202 rfl ?_
    refine go_s (pc' := 13) (st' := [.int 1, .int (nI (List.length (α := Nat) (y :: L2) + 1)), .ref (8 + l)]) rfl rfl rfl rfl ?_
    refine go_nsub (pc' := 14) (a := (List.length (α := Nat) (y :: L2) + 1)) (b := 1) rfl rfl rfl (by omega) rfl rfl ?_
    refine go_sputX (pc' := 15) hS20 rfl rfl (tc_l2 hl) (by decide) tbc_inj (Nat.le_of_ble_eq_true rfl) (Nat.le_of_ble_eq_true rfl) rfl (hW _ (by rw [tc_lk hl]; rfl)) rfl (fun h23 hS24 hE25 => ?_)
    have hF26 := fr_trans hF22 (fr_e hE25)
    refine go_s (pc' := 16) rfl rfl rfl rfl ?_
    refine go_sget (pc' := 17) (v := .ref y) hS24 rfl rfl (tc_l0 hl) (by decide) (by simp [sm_v, uI, uX]) rfl ?_
    refine go_s (pc' := 25) rfl rfl rfl rfl ?_
    refine go_s (pc' := 26) rfl rfl rfl rfl ?_
    refine go_s (pc' := 27) rfl rfl rfl rfl ?_
    refine go_callV (pc' := 28) rfl rfl rfl (Nat.le_of_ble_eq_true rfl) rfl (sm_o hS24 rfl) rfl rfl rfl (ct_fbu hS24 (by omega)) (fun r h27 q28 => ?_)
    obtain ⟨rfl, rfl⟩ := q28
    refine go_callV (pc' := 29) rfl rfl rfl (Nat.le_of_ble_eq_true rfl) rfl (sm_o hS24 (tc_lk hl)) rfl rfl rfl (ct_putOn hS24 hW hl (fbu I) (by omega)) (fun r h29 q30 => ?_)
    obtain ⟨rfl, hS31, hE32⟩ := q30
    have hF33 := fr_trans hF26 (fr_e hE32)
    refine go_ret rfl rfl ?_
    have hD9 := CD_fr hD hF33
    refine ⟨rfl, (uX (uX (uX (uX X 200 l (.ref y)) 202 l (.int (nI ((List.length (α := Nat) (y :: L2) + 1) - 1)))) 203 l (.int (fbu I))) 204 l (.int (fbu I))), ow, sb, hS31, CD_rf hD9 hl (Or.inl rfl) (fun c j hj => by simp [uX, hj]) (fun c hc => by funext j; simp only [uX]; repeat rw [if_neg (by omega)]) ?_ ?_ ⟨(y :: L2), lenL, by simp [uX, nxv], ?_, ?_, fun i y m a b => MC_ex (ex_fr hD.1 hF33) (by omega) (by omega) (by omega) (rest i y m a b)⟩, ?_, fun l hl => Nat.le_trans (hQ l hl) hF33.1⟩
    · show _ = Value.int (I 24 l)
      rw [y2, if_neg hql]; simp [uX]
    · show _ = Value.int (I 25 l)
      rw [y3, if_neg hql]; simp [uX]
    · have z := x201.resolve_left (by simp)
      simp [uX, z]
    · simp [uX]
    have := co_fr (I := I) (J := I) hF33 rfl
    show co _ I ≤ B
    omega
theorem ca_arr_0 {w : Nat → Bool} {d : Nat} {h : am_Hp} {m0 : mg} {B : Nat} {I : sm_I} {Q : mQ} {Z : mZ} (hC : CA w 32 m0 B h (I, Q, Z)) (hB2 : B < 2 ^ 26) {f p : Nat} (hf : f < 4) (hp : p < 4) (hfp : ¬ f = p) {c : Int32} (hc : c = 0) (hw0 : I 16 0 = 1 → I 22 0 = 0 ∧ I 22 1 = 0) (hw1 : I 16 1 = 1 → lv I 1 = true) (hw2 : I 16 2 = 1 → lv I 2 = true) (hsi : ∀ m qs, Q (4 * f + p) = m :: qs → ¬ m.1 1 ≤ I 10 (4 * f + p) → MK m ∧ ¬ I 0 p = 0 ∧ SI (mdel f p m (mar2 (4 * f + p) (m.1 1) (mlv (4 * f + p) (I, Q, Z))))) (hd : 8 ≤ d) : am_Ev (am_prog w) d 78 [.ref 1, .int (nI f), .int (nI p), .int c] h (fun r h' => r = some (.int (marr f p false (I, Q, Z)).1) ∧ CA w 32 m0 (B + 1100) h' (marr f p false (I, Q, Z)).2) := by
  obtain ⟨X, ow, sb, hS, hD, hB, hQ⟩ := hC
  change sm tbc h I X at hS
  change CD w 32 m0 h I Q Z X ow sb at hD
  change co h I ≤ B at hB
  change ∀ l, l < 16 → (Q l).length ≤ h.length at hQ
  have hW := hD.1.1
  have hWn : ∀ a, List.length h ≤ a → w a = true := fun a ha => (hD.1.2.1 a ha).1
  have hF1 := fr_refl tbc h
  have hln : 62 ≤ List.length h := sm_len hS
  obtain ⟨l, el⟩ : ∃ l, l = 4 * f + p := ⟨_, rfl⟩
  have hl : l < 16 := by omega
  rw [← el] at hsi
  obtain ⟨d, rfl⟩ : ∃ e, d = e + 1 := ⟨d - 1, by omega⟩
  refine ev_go rfl (Nat.le_of_ble_eq_true rfl) rfl ?_
  have hLK : LK h ow sb l X (Q l) := by
    have := hD.2.1 l hl
    rw [cq_32 hl] at this
    exact this
  obtain ⟨b1, b2⟩ := (hD.2.2.1 l hl).2.2 (by omega) (by omega)
  cases hq : Q l with
  | nil =>
    rw [hq] at hLK
    rcases LK_cs hLK with ⟨-, x200, -, -⟩ | ⟨z, -⟩
    · skip
      refine go_s (pc' := 1) rfl rfl rfl rfl ?_
      refine go_sget (pc' := 2) (v := .ref 2) hS rfl rfl rfl (by decide) rfl rfl ?_
      refine go_s (pc' := 3) rfl rfl rfl rfl ?_
      refine go_s (pc' := 4) rfl rfl rfl rfl ?_
      refine go_callV (pc' := 5) rfl rfl rfl (Nat.le_of_ble_eq_true rfl) rfl (sm_o hS rfl) rfl rfl rfl (ct_between hS hf hp hfp (by omega)) (fun r h2 q3 => ?_)
      obtain ⟨rfl, rfl⟩ := q3
      rw [← el]
      refine go_s (pc' := 6) (lo' := [some (.ref 1), some (.int (nI f)), some (.int (nI p)), some (.int c), some (.ref (8 + l)), none, none]) rfl rfl rfl rfl ?_
      refine go_s (pc' := 7) rfl rfl rfl rfl ?_
      refine go_s (pc' := 10) rfl rfl rfl rfl ?_
      refine go_s (pc' := 11) rfl rfl rfl rfl ?_
      refine go_sget (pc' := 12) (v := .null) hS rfl rfl (tc_l0 hl) (by decide) x200 rfl ?_
      refine go_s (pc' := 13) (lo' := [some (.ref 1), some (.int (nI f)), some (.int (nI p)), some (.int c), some (.ref (8 + l)), some (.null), none]) rfl rfl rfl rfl ?_
      refine go_s (pc' := 14) rfl rfl rfl rfl ?_
      refine go_s (pc' := 19) rfl rfl rfl rfl ?_
      refine go_s (pc' := 20) (st' := [.int 0]) rfl rfl rfl rfl ?_
      refine go_ret rfl rfl ?_
      have hms : marr f p false (I, Q, Z) = (0, (I, Q, Z)) := by
        unfold marr
        rw [← el, show (I, Q, Z).2.1 l = [] from hq]
      rw [hms]
      exact ⟨rfl, ⟨X, ow, sb, hS, hD, by show co _ I ≤ _; omega, hQ⟩⟩
    · exact absurd rfl z
  | cons m qs =>
    rw [hq] at hLK
    obtain ⟨x, L, x200, lenL, x202, ⟨ox, pr, td, vq, va, vs, hx, hmf⟩, x201, rest⟩ := LK_hd hLK
    refine go_s (pc' := 1) rfl rfl rfl rfl ?_
    refine go_sget (pc' := 2) (v := .ref 2) hS rfl rfl rfl (by decide) rfl rfl ?_
    refine go_s (pc' := 3) rfl rfl rfl rfl ?_
    refine go_s (pc' := 4) rfl rfl rfl rfl ?_
    refine go_callV (pc' := 5) rfl rfl rfl (Nat.le_of_ble_eq_true rfl) rfl (sm_o hS rfl) rfl rfl rfl (ct_between hS hf hp hfp (by omega)) (fun r h4 q5 => ?_)
    obtain ⟨rfl, rfl⟩ := q5
    rw [← el]
    refine go_s (pc' := 6) (lo' := [some (.ref 1), some (.int (nI f)), some (.int (nI p)), some (.int c), some (.ref (8 + l)), none, none]) rfl rfl rfl rfl ?_
    refine go_s (pc' := 7) rfl rfl rfl rfl ?_
    refine go_s (pc' := 10) rfl rfl rfl rfl ?_
    refine go_s (pc' := 11) rfl rfl rfl rfl ?_
    refine go_sget (pc' := 12) (v := .ref x) hS rfl rfl (tc_l0 hl) (by decide) x200 rfl ?_
    refine go_s (pc' := 13) (lo' := [some (.ref 1), some (.int (nI f)), some (.int (nI p)), some (.int c), some (.ref (8 + l)), some (.ref x), none]) rfl rfl rfl rfl ?_
    refine go_s (pc' := 14) rfl rfl rfl rfl ?_
    refine go_s (pc' := 15) rfl rfl rfl rfl ?_
    refine go_s (pc' := 16) rfl rfl rfl rfl ?_
    refine go_sget (pc' := 17) (v := .int (I 24 l)) hS rfl rfl (tc_l5 hl) (by decide) b1 rfl ?_
    refine go_s (pc' := 18) (st' := [.int (-1), .int (I 24 l)]) rfl rfl rfl rfl ?_
    refine go_icmpP (t' := 21) (pc' := 19) rfl rfl rfl (fun (c6 : ¬ (I 24 l) = (-1)) => ?_) (fun (c6' : ¬ ¬ (I 24 l) = (-1)) => ?_)
    · skip
      refine go_s (pc' := 22) rfl rfl rfl rfl ?_
      refine go_get (pc' := 23) rfl hx rfl (by decide) rfl rfl ?_
      refine go_s (pc' := 24) rfl rfl rfl rfl ?_
      refine go_sget (pc' := 25) (v := .int (I 10 l)) hS rfl rfl (tc_l4 hl) (by decide) rfl rfl ?_
      refine go_icmpP (t' := 28) (pc' := 26) rfl rfl rfl (fun (c7 : (m.1 1) ≤ (I 10 l)) => ?_) (fun (c7 : ¬ (m.1 1) ≤ (I 10 l)) => ?_)
      · skip
        refine go_s (pc' := 29) (st' := [.int 0]) rfl rfl rfl rfl ?_
        refine go_s (pc' := 30) (lo' := [some (.ref 1), some (.int (nI f)), some (.int (nI p)), some (.int c), some (.ref (8 + l)), some (.ref x), some (.int 0)]) rfl rfl rfl rfl ?_
        have etl : mlv l (I, Q, Z) = (mlvI I l (if qs = [] then -1 else fbu I), uQ Q l qs, Z) := by
          unfold mlv
          rw [show (I, Q, Z).2.1 l = m :: qs from hq]
          rfl
        have hD1 : CD w l m h4 (mlv l (I, Q, Z)).1 (mlv l (I, Q, Z)).2.1 (mlv l (I, Q, Z)).2.2 X ow sb := by
          rw [etl]
          exact CD_in hD hl hq
        have hS1 : sm tbc h4 (mlv l (I, Q, Z)).1 X := by
          rw [etl]
          exact mlvI_sm hS
        have hB1 : co h4 (mlv l (I, Q, Z)).1 ≤ B := by rw [etl]; exact hB
        have hQ1 : ∀ j, j < 16 → ((mlv l (I, Q, Z)).2.1 j).length ≤ List.length h4 := by
          rw [etl]
          intro j hj
          have := hQ j hj
          show (uQ Q l qs j).length ≤ _
          unfold uQ
          split
          · rename_i ej; subst ej; rw [hq] at this; simp at this; omega
          · exact this
        have hW := hD1.1.1
        have hWn : ∀ a, List.length h4 ≤ a → w a = true := fun a ha => (hD1.1.2.1 a ha).1
        have hF8 := fr_refl tbc h4
        have hln : 62 ≤ List.length h4 := sm_len hS1
        refine go_s (pc' := 31) rfl rfl rfl rfl ?_
        refine go_ifP (t' := 43) (pc' := 32) rfl rfl rfl (fun _ => ?_) (fun (c : ¬ ((0 : Int32) = 0)) => absurd (by decide) c)
        refine go_s (pc' := 44) rfl rfl rfl rfl ?_
        refine go_ifP (t' := 49) (pc' := 45) rfl rfl rfl (fun _ => ?_) (fun (c : ¬ (c = 0)) => absurd hc c)
        refine go_s (pc' := 50) rfl rfl rfl rfl ?_
        refine go_sget (pc' := 51) (v := .ref 2) hS1 rfl rfl rfl (by decide) rfl rfl ?_
        refine go_s (pc' := 52) rfl rfl rfl rfl ?_
        have hC1 : CA w l m B h4 (mlv l (I, Q, Z)) := ⟨X, ow, sb, hS1, hD1, hB1, hQ1⟩
        obtain ⟨M6, eM6⟩ : ∃ y, y = (mlv l (I, Q, Z)) := ⟨_, rfl⟩
        rw [← eM6] at hC1
        obtain ⟨I6, Q6, Z6⟩ := M6
        refine go_callV (pc' := 53) rfl rfl rfl (Nat.le_of_ble_eq_true rfl) rfl (sm_o hS1 rfl) rfl rfl rfl (cm_rf (m1 := m0) hl hC1 (by omega) (by omega)) (fun r h9 q10 => ?_)
        obtain ⟨rfl, hC7⟩ := q10
        refine go_s (pc' := 54) rfl rfl rfl rfl ?_
        refine go_ifP (t' := 57) (pc' := 55) rfl rfl rfl (fun _ => ?_) (fun (c : ¬ ((0 : Int32) = 0)) => absurd (by decide) c)
        refine go_s (pc' := 58) (st' := [.int 2]) rfl rfl rfl rfl ?_
        refine go_ret rfl rfl ?_
        have hms : marr f p false (I, Q, Z) = (2, (mlv l (I, Q, Z))) := by
          unfold marr
          rw [← el, show (I, Q, Z).2.1 l = m :: qs from hq]
          simp only []
          rw [if_neg (show ¬ I 24 l = -1 from c6), if_pos (show m.1 1 ≤ I 10 l from c7)]
          rfl
        rw [hms]
        exact ⟨rfl, by show CA w 32 m0 _ _ (mlv l (I, Q, Z)); rw [← eM6]; exact CA_le hC7 (by omega)⟩
      · skip
        refine go_s (pc' := 27) (st' := [.int 1]) rfl rfl rfl rfl ?_
        refine go_s (pc' := 29) rfl rfl rfl rfl ?_
        refine go_s (pc' := 30) (lo' := [some (.ref 1), some (.int (nI f)), some (.int (nI p)), some (.int c), some (.ref (8 + l)), some (.ref x), some (.int 1)]) rfl rfl rfl rfl ?_
        have etl : mlv l (I, Q, Z) = (mlvI I l (if qs = [] then -1 else fbu I), uQ Q l qs, Z) := by
          unfold mlv
          rw [show (I, Q, Z).2.1 l = m :: qs from hq]
          rfl
        have hD1 : CD w l m h4 (mlv l (I, Q, Z)).1 (mlv l (I, Q, Z)).2.1 (mlv l (I, Q, Z)).2.2 X ow sb := by
          rw [etl]
          exact CD_in hD hl hq
        have hS1 : sm tbc h4 (mlv l (I, Q, Z)).1 X := by
          rw [etl]
          exact mlvI_sm hS
        have hB1 : co h4 (mlv l (I, Q, Z)).1 ≤ B := by rw [etl]; exact hB
        have hQ1 : ∀ j, j < 16 → ((mlv l (I, Q, Z)).2.1 j).length ≤ List.length h4 := by
          rw [etl]
          intro j hj
          have := hQ j hj
          show (uQ Q l qs j).length ≤ _
          unfold uQ
          split
          · rename_i ej; subst ej; rw [hq] at this; simp at this; omega
          · exact this
        have hW := hD1.1.1
        have hWn : ∀ a, List.length h4 ≤ a → w a = true := fun a ha => (hD1.1.2.1 a ha).1
        have hF11 := fr_refl tbc h4
        have hln : 62 ≤ List.length h4 := sm_len hS1
        refine go_s (pc' := 31) rfl rfl rfl rfl ?_
        refine go_ifP (t' := 43) (pc' := 32) rfl rfl rfl (fun (c : (1 : Int32) = 0) => absurd c (by decide)) (fun _ => ?_)
        refine go_s (pc' := 33) rfl rfl rfl rfl ?_
        refine go_s (pc' := 34) rfl rfl rfl rfl ?_
        refine go_get (pc' := 35) rfl hx rfl (by decide) rfl rfl ?_
        refine go_sput (pc' := 36) hS1 rfl rfl (tc_l4 hl) (by decide) tbc_inj (Nat.le_of_ble_eq_true rfl) rfl (hW _ (by rw [tc_lk hl]; rfl)) rfl (fun h12 hS13 hE14 => ?_)
        have hF15 := fr_trans hF11 (fr_e hE14)
        refine go_s (pc' := 37) rfl rfl rfl rfl ?_
        refine go_s (pc' := 38) rfl rfl rfl rfl ?_
        refine go_s (pc' := 39) rfl rfl rfl rfl ?_
        refine go_s (pc' := 40) rfl rfl rfl rfl ?_
        have hD2 : CD w l m h12 (mar2 l (m.1 1) (mlv l (I, Q, Z))).1 (mar2 l (m.1 1) (mlv l (I, Q, Z))).2.1 (mar2 l (m.1 1) (mlv l (I, Q, Z))).2.2 X ow sb := CD_I (CD_fr hD1 hF15) ⟨rfl, rfl, rfl, rfl, rfl, rfl, rfl, rfl, rfl, rfl, rfl, rfl, rfl, rfl, rfl⟩
        have hB3 : co h12 (mar2 l (m.1 1) (mlv l (I, Q, Z))).1 ≤ B := by
          have := co_fr (I := (mlv l (I, Q, Z)).1) (J := (mar2 l (m.1 1) (mlv l (I, Q, Z))).1) hF15 rfl
          omega
        have hQ2 : ∀ j, j < 16 → ((mar2 l (m.1 1) (mlv l (I, Q, Z))).2.1 j).length ≤ List.length h12 := fun j hj => Nat.le_trans (hQ1 j hj) hF15.1
        have hx2 := (hF15.2.2.2 x (hD.1.2.2 x (by omega)).2.1 (lt_of hx)).trans hx
        have hmf2 := MF_ex (ex_fr hD.1 hF15) (by omega) (by omega) hmf
        obtain ⟨hmk, hu, hI9⟩ := hsi m qs hq c7
        refine go_callV (pc' := 41) rfl rfl rfl (Nat.le_of_ble_eq_true rfl) rfl (sm_o hS13 rfl) rfl rfl rfl (cx_dl (I := (mar2 l (m.1 1) (mlv l (I, Q, Z))).1) (Q := (mar2 l (m.1 1) (mlv l (I, Q, Z))).2.1) (Z := (mar2 l (m.1 1) (mlv l (I, Q, Z))).2.2) hS13 hD2 hB3 hQ2 (by omega) hf hp hfp hu hw0 hw1 hw2 (by omega) hmf2 hx2 hmk (by omega)) (fun r h16 q17 => ?_)
        obtain ⟨rfl, hC18⟩ := q17
        change CA w l m (B + 700) h16 (mdel f p m (mar2 l (m.1 1) (mlv l (I, Q, Z)))) at hC18
        obtain ⟨M5, eM5⟩ : ∃ y, y = mdel f p m (mar2 l (m.1 1) (mlv l (I, Q, Z))) := ⟨_, rfl⟩
        have hI9 : SI (mdel f p m (mar2 l (m.1 1) (mlv l (I, Q, Z)))) := hI9
        rw [← eM5] at hI9 hC18
        obtain ⟨I5, Q5, Z5⟩ := M5
        obtain ⟨X5, ow5, sb5, hS5, hD5, hB5, hQ5⟩ := id hC18
        refine go_s (pc' := 42) rfl rfl rfl rfl ?_
        refine go_callV (pc' := 43) rfl rfl rfl (Nat.le_of_ble_eq_true rfl) rfl (sm_o hS5 rfl) rfl rfl rfl (cm_run hC18 (by omega) hI9 (by omega)) (fun r h19 q20 => ?_)
        obtain ⟨rfl, hC21⟩ := q20
        obtain ⟨M6, eM6⟩ : ∃ y, y = mset 10 (I5, Q5, Z5) := ⟨_, rfl⟩
        rw [← eM6] at hC21
        obtain ⟨I6, Q6, Z6⟩ := M6
        change CA w l m (B + 1100) h19 (I6, Q6, Z6) at hC21
        obtain ⟨X6, ow6, sb6, hS6, hD6, hB6, hQ6⟩ := id hC21
        have hW := hD6.1.1
        have hWn : ∀ a, List.length h19 ≤ a → w a = true := fun a ha => (hD6.1.2.1 a ha).1
        have hF22 := fr_refl tbc h19
        have hln : 62 ≤ List.length h19 := sm_len hS6
        refine go_s (pc' := 44) rfl rfl rfl rfl ?_
        refine go_ifP (t' := 49) (pc' := 45) rfl rfl rfl (fun _ => ?_) (fun (c : ¬ (c = 0)) => absurd hc c)
        refine go_s (pc' := 50) rfl rfl rfl rfl ?_
        refine go_sget (pc' := 51) (v := .ref 2) hS6 rfl rfl rfl (by decide) rfl rfl ?_
        refine go_s (pc' := 52) rfl rfl rfl rfl ?_
        refine go_callV (pc' := 53) rfl rfl rfl (Nat.le_of_ble_eq_true rfl) rfl (sm_o hS6 rfl) rfl rfl rfl (cm_rf (m1 := m0) hl hC21 (by omega) (by omega)) (fun r h23 q24 => ?_)
        obtain ⟨rfl, hC7⟩ := q24
        refine go_s (pc' := 54) rfl rfl rfl rfl ?_
        refine go_ifP (t' := 57) (pc' := 55) rfl rfl rfl (fun (c : (1 : Int32) = 0) => absurd c (by decide)) (fun _ => ?_)
        refine go_s (pc' := 56) (st' := [.int 1]) rfl rfl rfl rfl ?_
        refine go_s (pc' := 58) rfl rfl rfl rfl ?_
        refine go_ret rfl rfl ?_
        have hms : marr f p false (I, Q, Z) = (1, mset 10 (mdel f p m (mar2 l (m.1 1) (mlv l (I, Q, Z))))) := by
          unfold marr
          rw [← el, show (I, Q, Z).2.1 l = m :: qs from hq]
          simp only []
          rw [if_neg (show ¬ I 24 l = -1 from c6), if_neg (show ¬ m.1 1 ≤ I 10 l from c7)]
          rfl
        rw [hms]
        exact ⟨rfl, by show CA w 32 m0 _ _ (mset 10 (mdel f p m (mar2 l (m.1 1) (mlv l (I, Q, Z))))); rw [← eM5, ← eM6]; exact hC7⟩
    · skip
      have c6 : (I 24 l) = (-1) := Decidable.not_not.mp c6'
      refine go_s (pc' := 20) (st' := [.int 0]) rfl rfl rfl rfl ?_
      refine go_ret rfl rfl ?_
      have hms : marr f p false (I, Q, Z) = (0, (I, Q, Z)) := by
        unfold marr
        rw [← el, show (I, Q, Z).2.1 l = m :: qs from hq]
        simp only []
        rw [if_pos (show I 24 l = -1 from c6)]
      rw [hms]
      exact ⟨rfl, ⟨X, ow, sb, hS, hD, by show co _ I ≤ _; omega, hQ⟩⟩
theorem ca_arr_1 {w : Nat → Bool} {d : Nat} {h : am_Hp} {m0 : mg} {B : Nat} {I : sm_I} {Q : mQ} {Z : mZ} (hC : CA w 32 m0 B h (I, Q, Z)) (hB2 : B < 2 ^ 26) {f p : Nat} (hf : f < 4) (hp : p < 4) (hfp : ¬ f = p) {c : Int32} (hc : ¬ c = 0) (hw0 : I 16 0 = 1 → I 22 0 = 0 ∧ I 22 1 = 0) (hw1 : I 16 1 = 1 → lv I 1 = true) (hw2 : I 16 2 = 1 → lv I 2 = true) (hsi : ∀ m qs, Q (4 * f + p) = m :: qs → ¬ m.1 1 ≤ I 10 (4 * f + p) → MK m ∧ ¬ I 0 p = 0 ∧ SI (mdel f p m (mar2 (4 * f + p) (m.1 1) (mwt (4 * f + p) (I, Q, Z))))) (hd : 8 ≤ d) : am_Ev (am_prog w) d 78 [.ref 1, .int (nI f), .int (nI p), .int c] h (fun r h' => r = some (.int (marr f p true (I, Q, Z)).1) ∧ CA w 32 m0 (B + 1100) h' (marr f p true (I, Q, Z)).2) := by
  obtain ⟨X, ow, sb, hS, hD, hB, hQ⟩ := hC
  change sm tbc h I X at hS
  change CD w 32 m0 h I Q Z X ow sb at hD
  change co h I ≤ B at hB
  change ∀ l, l < 16 → (Q l).length ≤ h.length at hQ
  have hW := hD.1.1
  have hWn : ∀ a, List.length h ≤ a → w a = true := fun a ha => (hD.1.2.1 a ha).1
  have hF1 := fr_refl tbc h
  have hln : 62 ≤ List.length h := sm_len hS
  obtain ⟨l, el⟩ : ∃ l, l = 4 * f + p := ⟨_, rfl⟩
  have hl : l < 16 := by omega
  rw [← el] at hsi
  obtain ⟨d, rfl⟩ : ∃ e, d = e + 1 := ⟨d - 1, by omega⟩
  refine ev_go rfl (Nat.le_of_ble_eq_true rfl) rfl ?_
  have hLK : LK h ow sb l X (Q l) := by
    have := hD.2.1 l hl
    rw [cq_32 hl] at this
    exact this
  obtain ⟨b1, b2⟩ := (hD.2.2.1 l hl).2.2 (by omega) (by omega)
  cases hq : Q l with
  | nil =>
    rw [hq] at hLK
    rcases LK_cs hLK with ⟨-, x200, -, -⟩ | ⟨z, -⟩
    · skip
      refine go_s (pc' := 1) rfl rfl rfl rfl ?_
      refine go_sget (pc' := 2) (v := .ref 2) hS rfl rfl rfl (by decide) rfl rfl ?_
      refine go_s (pc' := 3) rfl rfl rfl rfl ?_
      refine go_s (pc' := 4) rfl rfl rfl rfl ?_
      refine go_callV (pc' := 5) rfl rfl rfl (Nat.le_of_ble_eq_true rfl) rfl (sm_o hS rfl) rfl rfl rfl (ct_between hS hf hp hfp (by omega)) (fun r h2 q3 => ?_)
      obtain ⟨rfl, rfl⟩ := q3
      rw [← el]
      refine go_s (pc' := 6) (lo' := [some (.ref 1), some (.int (nI f)), some (.int (nI p)), some (.int c), some (.ref (8 + l)), none, none]) rfl rfl rfl rfl ?_
      refine go_s (pc' := 7) rfl rfl rfl rfl ?_
      refine go_s (pc' := 10) rfl rfl rfl rfl ?_
      refine go_s (pc' := 11) rfl rfl rfl rfl ?_
      refine go_sget (pc' := 12) (v := .null) hS rfl rfl (tc_l0 hl) (by decide) x200 rfl ?_
      refine go_s (pc' := 13) (lo' := [some (.ref 1), some (.int (nI f)), some (.int (nI p)), some (.int c), some (.ref (8 + l)), some (.null), none]) rfl rfl rfl rfl ?_
      refine go_s (pc' := 14) rfl rfl rfl rfl ?_
      refine go_s (pc' := 19) rfl rfl rfl rfl ?_
      refine go_s (pc' := 20) (st' := [.int 0]) rfl rfl rfl rfl ?_
      refine go_ret rfl rfl ?_
      have hms : marr f p true (I, Q, Z) = (0, (I, Q, Z)) := by
        unfold marr
        rw [← el, show (I, Q, Z).2.1 l = [] from hq]
      rw [hms]
      exact ⟨rfl, ⟨X, ow, sb, hS, hD, by show co _ I ≤ _; omega, hQ⟩⟩
    · exact absurd rfl z
  | cons m qs =>
    rw [hq] at hLK
    obtain ⟨x, L, x200, lenL, x202, ⟨ox, pr, td, vq, va, vs, hx, hmf⟩, x201, rest⟩ := LK_hd hLK
    refine go_s (pc' := 1) rfl rfl rfl rfl ?_
    refine go_sget (pc' := 2) (v := .ref 2) hS rfl rfl rfl (by decide) rfl rfl ?_
    refine go_s (pc' := 3) rfl rfl rfl rfl ?_
    refine go_s (pc' := 4) rfl rfl rfl rfl ?_
    refine go_callV (pc' := 5) rfl rfl rfl (Nat.le_of_ble_eq_true rfl) rfl (sm_o hS rfl) rfl rfl rfl (ct_between hS hf hp hfp (by omega)) (fun r h4 q5 => ?_)
    obtain ⟨rfl, rfl⟩ := q5
    rw [← el]
    refine go_s (pc' := 6) (lo' := [some (.ref 1), some (.int (nI f)), some (.int (nI p)), some (.int c), some (.ref (8 + l)), none, none]) rfl rfl rfl rfl ?_
    refine go_s (pc' := 7) rfl rfl rfl rfl ?_
    refine go_s (pc' := 10) rfl rfl rfl rfl ?_
    refine go_s (pc' := 11) rfl rfl rfl rfl ?_
    refine go_sget (pc' := 12) (v := .ref x) hS rfl rfl (tc_l0 hl) (by decide) x200 rfl ?_
    refine go_s (pc' := 13) (lo' := [some (.ref 1), some (.int (nI f)), some (.int (nI p)), some (.int c), some (.ref (8 + l)), some (.ref x), none]) rfl rfl rfl rfl ?_
    refine go_s (pc' := 14) rfl rfl rfl rfl ?_
    refine go_s (pc' := 15) rfl rfl rfl rfl ?_
    refine go_s (pc' := 16) rfl rfl rfl rfl ?_
    refine go_sget (pc' := 17) (v := .int (I 24 l)) hS rfl rfl (tc_l5 hl) (by decide) b1 rfl ?_
    refine go_s (pc' := 18) (st' := [.int (-1), .int (I 24 l)]) rfl rfl rfl rfl ?_
    refine go_icmpP (t' := 21) (pc' := 19) rfl rfl rfl (fun (c6 : ¬ (I 24 l) = (-1)) => ?_) (fun (c6' : ¬ ¬ (I 24 l) = (-1)) => ?_)
    · skip
      refine go_s (pc' := 22) rfl rfl rfl rfl ?_
      refine go_get (pc' := 23) rfl hx rfl (by decide) rfl rfl ?_
      refine go_s (pc' := 24) rfl rfl rfl rfl ?_
      refine go_sget (pc' := 25) (v := .int (I 10 l)) hS rfl rfl (tc_l4 hl) (by decide) rfl rfl ?_
      refine go_icmpP (t' := 28) (pc' := 26) rfl rfl rfl (fun (c7 : (m.1 1) ≤ (I 10 l)) => ?_) (fun (c7 : ¬ (m.1 1) ≤ (I 10 l)) => ?_)
      · skip
        refine go_s (pc' := 29) (st' := [.int 0]) rfl rfl rfl rfl ?_
        refine go_s (pc' := 30) (lo' := [some (.ref 1), some (.int (nI f)), some (.int (nI p)), some (.int c), some (.ref (8 + l)), some (.ref x), some (.int 0)]) rfl rfl rfl rfl ?_
        have hD1 : CD w (16 + l) m h4 (mwt l (I, Q, Z)).1 (mwt l (I, Q, Z)).2.1 (mwt l (I, Q, Z)).2.2 X ow sb := CD_in2 hD hl hq
        have hS1 : sm tbc h4 (mwt l (I, Q, Z)).1 X := sm_12 hS rfl
        have hB1 : co h4 (mwt l (I, Q, Z)).1 ≤ B := hB
        have hQ1 : ∀ j, j < 16 → ((mwt l (I, Q, Z)).2.1 j).length ≤ List.length h4 := hQ
        have hW := hD1.1.1
        have hWn : ∀ a, List.length h4 ≤ a → w a = true := fun a ha => (hD1.1.2.1 a ha).1
        have hF8 := fr_refl tbc h4
        have hln : 62 ≤ List.length h4 := sm_len hS1
        refine go_s (pc' := 31) rfl rfl rfl rfl ?_
        refine go_ifP (t' := 43) (pc' := 32) rfl rfl rfl (fun _ => ?_) (fun (c : ¬ ((0 : Int32) = 0)) => absurd (by decide) c)
        refine go_s (pc' := 44) rfl rfl rfl rfl ?_
        refine go_ifP (t' := 49) (pc' := 45) rfl rfl rfl (fun (c : c = 0) => absurd c hc) (fun _ => ?_)
        refine go_s (pc' := 46) rfl rfl rfl rfl ?_
        refine go_s (pc' := 47) (st' := [.int (-1), .ref (8 + l)]) rfl rfl rfl rfl ?_
        refine go_sputX (pc' := 48) hS1 rfl rfl (tc_l5 hl) (by decide) tbc_inj (Nat.le_of_ble_eq_true rfl) (Nat.le_of_ble_eq_true rfl) rfl (hW _ (by rw [tc_lk hl]; rfl)) rfl (fun h9 hS10 hE11 => ?_)
        have hF12 := fr_trans hF8 (fr_e hE11)
        have hD8 := CD_fr hD1 hF12
        obtain ⟨-, y2, y3, y4⟩ := (hD8.2.2.1 l hl).2.1 rfl
        have hC7 : CA w 32 m0 (B + 1100) h9 (mwt l (I, Q, Z)) := by
          refine ⟨(uX X 203 l (.int (-1))), ow, sb, hS10, CD_rf hD8 hl (Or.inr rfl) (fun c j hj => by simp [uX, hj]) (fun c hc => by funext j; simp only [uX]; rw [if_neg (by omega)]) (by rw [y4]; simp [uX]) (by simp only [uX]; simpa using y2) ?_, ?_, fun j hj => Nat.le_trans (hQ1 j hj) hF12.1⟩
          · have := hD8.2.1 l hl
            rw [show cq (16 + l) m (mwt l (I, Q, Z)).2.1 l = (mwt l (I, Q, Z)).2.1 l by unfold cq; rw [if_neg (by omega)]] at this
            exact LK_c this rfl rfl rfl
          · have := co_fr (I := (mwt l (I, Q, Z)).1) (J := (mwt l (I, Q, Z)).1) hF12 rfl
            have : co _ (mwt l (I, Q, Z)).1 ≤ _ := hB1
            omega
        refine go_s (pc' := 53) rfl rfl rfl rfl ?_
        refine go_s (pc' := 54) rfl rfl rfl rfl ?_
        refine go_ifP (t' := 57) (pc' := 55) rfl rfl rfl (fun _ => ?_) (fun (c : ¬ ((0 : Int32) = 0)) => absurd (by decide) c)
        refine go_s (pc' := 58) (st' := [.int 2]) rfl rfl rfl rfl ?_
        refine go_ret rfl rfl ?_
        have hms : marr f p true (I, Q, Z) = (2, (mwt l (I, Q, Z))) := by
          unfold marr
          rw [← el, show (I, Q, Z).2.1 l = m :: qs from hq]
          simp only []
          rw [if_neg (show ¬ I 24 l = -1 from c6), if_pos (show m.1 1 ≤ I 10 l from c7)]
          rfl
        rw [hms]
        exact ⟨rfl, hC7⟩
      · skip
        refine go_s (pc' := 27) (st' := [.int 1]) rfl rfl rfl rfl ?_
        refine go_s (pc' := 29) rfl rfl rfl rfl ?_
        refine go_s (pc' := 30) (lo' := [some (.ref 1), some (.int (nI f)), some (.int (nI p)), some (.int c), some (.ref (8 + l)), some (.ref x), some (.int 1)]) rfl rfl rfl rfl ?_
        have hD1 : CD w (16 + l) m h4 (mwt l (I, Q, Z)).1 (mwt l (I, Q, Z)).2.1 (mwt l (I, Q, Z)).2.2 X ow sb := CD_in2 hD hl hq
        have hS1 : sm tbc h4 (mwt l (I, Q, Z)).1 X := sm_12 hS rfl
        have hB1 : co h4 (mwt l (I, Q, Z)).1 ≤ B := hB
        have hQ1 : ∀ j, j < 16 → ((mwt l (I, Q, Z)).2.1 j).length ≤ List.length h4 := hQ
        have hW := hD1.1.1
        have hWn : ∀ a, List.length h4 ≤ a → w a = true := fun a ha => (hD1.1.2.1 a ha).1
        have hF13 := fr_refl tbc h4
        have hln : 62 ≤ List.length h4 := sm_len hS1
        refine go_s (pc' := 31) rfl rfl rfl rfl ?_
        refine go_ifP (t' := 43) (pc' := 32) rfl rfl rfl (fun (c : (1 : Int32) = 0) => absurd c (by decide)) (fun _ => ?_)
        refine go_s (pc' := 33) rfl rfl rfl rfl ?_
        refine go_s (pc' := 34) rfl rfl rfl rfl ?_
        refine go_get (pc' := 35) rfl hx rfl (by decide) rfl rfl ?_
        refine go_sput (pc' := 36) hS1 rfl rfl (tc_l4 hl) (by decide) tbc_inj (Nat.le_of_ble_eq_true rfl) rfl (hW _ (by rw [tc_lk hl]; rfl)) rfl (fun h14 hS15 hE16 => ?_)
        have hF17 := fr_trans hF13 (fr_e hE16)
        refine go_s (pc' := 37) rfl rfl rfl rfl ?_
        refine go_s (pc' := 38) rfl rfl rfl rfl ?_
        refine go_s (pc' := 39) rfl rfl rfl rfl ?_
        refine go_s (pc' := 40) rfl rfl rfl rfl ?_
        have hD2 : CD w (16 + l) m h14 (mar2 l (m.1 1) (mwt l (I, Q, Z))).1 (mar2 l (m.1 1) (mwt l (I, Q, Z))).2.1 (mar2 l (m.1 1) (mwt l (I, Q, Z))).2.2 X ow sb := CD_I (CD_fr hD1 hF17) ⟨rfl, rfl, rfl, rfl, rfl, rfl, rfl, rfl, rfl, rfl, rfl, rfl, rfl, rfl, rfl⟩
        have hB3 : co h14 (mar2 l (m.1 1) (mwt l (I, Q, Z))).1 ≤ B := by
          have := co_fr (I := (mwt l (I, Q, Z)).1) (J := (mar2 l (m.1 1) (mwt l (I, Q, Z))).1) hF17 rfl
          omega
        have hQ2 : ∀ j, j < 16 → ((mar2 l (m.1 1) (mwt l (I, Q, Z))).2.1 j).length ≤ List.length h14 := fun j hj => Nat.le_trans (hQ1 j hj) hF17.1
        have hx2 := (hF17.2.2.2 x (hD.1.2.2 x (by omega)).2.1 (lt_of hx)).trans hx
        have hmf2 := MF_ex (ex_fr hD.1 hF17) (by omega) (by omega) hmf
        obtain ⟨hmk, hu, hI9⟩ := hsi m qs hq c7
        refine go_callV (pc' := 41) rfl rfl rfl (Nat.le_of_ble_eq_true rfl) rfl (sm_o hS15 rfl) rfl rfl rfl (cx_dl (I := (mar2 l (m.1 1) (mwt l (I, Q, Z))).1) (Q := (mar2 l (m.1 1) (mwt l (I, Q, Z))).2.1) (Z := (mar2 l (m.1 1) (mwt l (I, Q, Z))).2.2) hS15 hD2 hB3 hQ2 (by omega) hf hp hfp hu hw0 hw1 hw2 (by omega) hmf2 hx2 hmk (by omega)) (fun r h18 q19 => ?_)
        obtain ⟨rfl, hC20⟩ := q19
        change CA w (16 + l) m (B + 700) h18 (mdel f p m (mar2 l (m.1 1) (mwt l (I, Q, Z)))) at hC20
        obtain ⟨M5, eM5⟩ : ∃ y, y = mdel f p m (mar2 l (m.1 1) (mwt l (I, Q, Z))) := ⟨_, rfl⟩
        have hI9 : SI (mdel f p m (mar2 l (m.1 1) (mwt l (I, Q, Z)))) := hI9
        rw [← eM5] at hI9 hC20
        obtain ⟨I5, Q5, Z5⟩ := M5
        obtain ⟨X5, ow5, sb5, hS5, hD5, hB5, hQ5⟩ := id hC20
        refine go_s (pc' := 42) rfl rfl rfl rfl ?_
        refine go_callV (pc' := 43) rfl rfl rfl (Nat.le_of_ble_eq_true rfl) rfl (sm_o hS5 rfl) rfl rfl rfl (cm_run hC20 (by omega) hI9 (by omega)) (fun r h21 q22 => ?_)
        obtain ⟨rfl, hC23⟩ := q22
        obtain ⟨M6, eM6⟩ : ∃ y, y = mset 10 (I5, Q5, Z5) := ⟨_, rfl⟩
        rw [← eM6] at hC23
        obtain ⟨I6, Q6, Z6⟩ := M6
        change CA w (16 + l) m (B + 1100) h21 (I6, Q6, Z6) at hC23
        obtain ⟨X6, ow6, sb6, hS6, hD6, hB6, hQ6⟩ := id hC23
        have hW := hD6.1.1
        have hWn : ∀ a, List.length h21 ≤ a → w a = true := fun a ha => (hD6.1.2.1 a ha).1
        have hF24 := fr_refl tbc h21
        have hln : 62 ≤ List.length h21 := sm_len hS6
        refine go_s (pc' := 44) rfl rfl rfl rfl ?_
        refine go_ifP (t' := 49) (pc' := 45) rfl rfl rfl (fun (c : c = 0) => absurd c hc) (fun _ => ?_)
        refine go_s (pc' := 46) rfl rfl rfl rfl ?_
        refine go_s (pc' := 47) (st' := [.int (-1), .ref (8 + l)]) rfl rfl rfl rfl ?_
        refine go_sputX (pc' := 48) hS6 rfl rfl (tc_l5 hl) (by decide) tbc_inj (Nat.le_of_ble_eq_true rfl) (Nat.le_of_ble_eq_true rfl) rfl (hW _ (by rw [tc_lk hl]; rfl)) rfl (fun h25 hS26 hE27 => ?_)
        have hF28 := fr_trans hF24 (fr_e hE27)
        have hD8 := CD_fr hD6 hF28
        obtain ⟨-, y2, y3, y4⟩ := (hD8.2.2.1 l hl).2.1 rfl
        have hC7 : CA w 32 m0 (B + 1100) h25 (I6, Q6, Z6) := by
          refine ⟨(uX X6 203 l (.int (-1))), ow6, sb6, hS26, CD_rf hD8 hl (Or.inr rfl) (fun c j hj => by simp [uX, hj]) (fun c hc => by funext j; simp only [uX]; rw [if_neg (by omega)]) (by rw [y4]; simp [uX]) (by simp only [uX]; simpa using y2) ?_, ?_, fun j hj => Nat.le_trans (hQ6 j hj) hF28.1⟩
          · have := hD8.2.1 l hl
            rw [show cq (16 + l) m (I6, Q6, Z6).2.1 l = (I6, Q6, Z6).2.1 l by unfold cq; rw [if_neg (by omega)]] at this
            exact LK_c this rfl rfl rfl
          · have := co_fr (I := (I6, Q6, Z6).1) (J := (I6, Q6, Z6).1) hF28 rfl
            have : co _ (I6, Q6, Z6).1 ≤ _ := hB6
            omega
        refine go_s (pc' := 53) rfl rfl rfl rfl ?_
        refine go_s (pc' := 54) rfl rfl rfl rfl ?_
        refine go_ifP (t' := 57) (pc' := 55) rfl rfl rfl (fun (c : (1 : Int32) = 0) => absurd c (by decide)) (fun _ => ?_)
        refine go_s (pc' := 56) (st' := [.int 1]) rfl rfl rfl rfl ?_
        refine go_s (pc' := 58) rfl rfl rfl rfl ?_
        refine go_ret rfl rfl ?_
        have hms : marr f p true (I, Q, Z) = (1, mset 10 (mdel f p m (mar2 l (m.1 1) (mwt l (I, Q, Z))))) := by
          unfold marr
          rw [← el, show (I, Q, Z).2.1 l = m :: qs from hq]
          simp only []
          rw [if_neg (show ¬ I 24 l = -1 from c6), if_neg (show ¬ m.1 1 ≤ I 10 l from c7)]
          rfl
        rw [hms]
        exact ⟨rfl, by show CA w 32 m0 _ _ (mset 10 (mdel f p m (mar2 l (m.1 1) (mwt l (I, Q, Z))))); rw [← eM5, ← eM6]; exact hC7⟩
    · skip
      have c6 : (I 24 l) = (-1) := Decidable.not_not.mp c6'
      refine go_s (pc' := 20) (st' := [.int 0]) rfl rfl rfl rfl ?_
      refine go_ret rfl rfl ?_
      have hms : marr f p true (I, Q, Z) = (0, (I, Q, Z)) := by
        unfold marr
        rw [← el, show (I, Q, Z).2.1 l = m :: qs from hq]
        simp only []
        rw [if_pos (show I 24 l = -1 from c6)]
      rw [hms]
      exact ⟨rfl, ⟨X, ow, sb, hS, hD, by show co _ I ≤ _; omega, hQ⟩⟩
