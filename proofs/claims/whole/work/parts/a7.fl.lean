theorem co_le {h h2 : am_Hp} {I J : sm_I} {k s : Nat} (f : fr tbc h h2 k s) (e : J 21 0 = 0) : co h2 J ≤ co h I + 12 * k + s := by
  have h1 := f.2.1
  have h2 := f.2.2.1
  unfold co
  rw [e]
  have : (0 : Int32).toNatClampNeg = 0 := rfl
  omega
theorem mcl_len {Q : mQ} {l n : Nat} (h : ∀ j, j < 16 → (Q j).length ≤ n) : ∀ j, j < 16 → (uQ Q l [] j).length ≤ n := by
  intro j hj
  have := h j hj
  unfold uQ
  split
  · simp
  · exact this
theorem cm_nst_0 {w : Nat → Bool} {d : Nat} {h : am_Hp} {m0 : mg} {B : Nat} {I : sm_I} {Q : mQ} {Z : mZ} (hC : CA w 32 m0 B h (I, Q, Z)) (hB2 : B < 2 ^ 26) (hd : 2 ≤ d) : am_Ev (am_prog w) d 100 [.ref 2, .int 0] h (fun r h' => r = none ∧ CA w 32 m0 B h' (mnst 0 (I, Q, Z))) := by
  obtain ⟨X, ow, sb, hS, hD, hB, hQ⟩ := hC
  change sm tbc h I X at hS
  change CD w 32 m0 h I Q Z X ow sb at hD
  change co h I ≤ B at hB
  change ∀ l, l < 16 → (Q l).length ≤ h.length at hQ
  have hW := hD.1.1
  have hWn : ∀ a, List.length h ≤ a → w a = true := fun a ha => (hD.1.2.1 a ha).1
  have hF1 := fr_refl tbc h
  have hln : 62 ≤ List.length h := sm_len hS
  obtain ⟨d, rfl⟩ : ∃ e, d = e + 1 := ⟨d - 1, by omega⟩
  refine ev_go rfl (Nat.le_of_ble_eq_true rfl) rfl ?_
  refine go_s (pc' := 1) rfl rfl rfl rfl ?_
  refine go_sget (pc' := 2) (v := .ref 3) hS rfl rfl rfl (by decide) rfl rfl ?_
  refine go_s (pc' := 3) rfl rfl rfl rfl ?_
  refine go_s (pc' := 4) (st' := [.int 0, .int 0, .ref 3]) rfl rfl rfl rfl ?_
  refine go_szast (pc' := 5) (q := 0) hS rfl rfl tbc_inj (Nat.le_of_ble_eq_true rfl) rfl (by decide) (by decide) rfl (hW _ rfl) rfl (fun h2 hS3 hE4 => ?_)
  have hF5 := fr_trans hF1 (fr_e hE4)
  refine go_s (pc' := 6) rfl rfl rfl rfl ?_
  refine go_sget (pc' := 7) (v := .ref 5) hS3 rfl rfl rfl (by decide) rfl rfl ?_
  refine go_s (pc' := 8) rfl rfl rfl rfl ?_
  refine go_s (pc' := 9) (st' := [.int 0, .int 0, .ref 5]) rfl rfl rfl rfl ?_
  refine go_siast (pc' := 10) (q := 0) hS3 rfl rfl tbc_inj (Nat.le_of_ble_eq_true rfl) rfl (by decide) (by decide) (hW _ rfl) rfl (fun h6 hS7 hE8 => ?_)
  have hF9 := fr_trans hF5 (fr_e hE8)
  refine go_s (pc' := 11) (st' := [.int 0]) rfl rfl rfl rfl ?_
  refine go_s (pc' := 12) (lo' := [some (.ref 2), some (.int 0), some (.int 0)]) rfl rfl rfl rfl ?_
  have hD10 : CD w 32 m0 h6 (mst0 0 (I, Q, Z)).1 (mst0 0 (I, Q, Z)).2.1 (mst0 0 (I, Q, Z)).2.2 (X) ow sb := CD_I (J := (mst0 0 (I, Q, Z)).1) (CD_up0 (p := 0) (CD_fr hD hF9)) ⟨rfl, rfl, rfl, rfl, rfl, rfl, rfl, rfl, rfl, rfl, rfl, rfl, rfl, rfl, rfl⟩
  have hS13 : sm tbc h6 (mst0 0 (I, Q, Z)).1 (X) := hS7
  have hB11 : co h6 (mst0 0 (I, Q, Z)).1 ≤ B := by
    have z1 := co_fr (I := I) (J := (mst0 0 (I, Q, Z)).1) hF9 rfl
    have z2 := hB
    omega
  have hQ12 : ∀ l, l < 16 → ((mst0 0 (I, Q, Z)).2.1 l).length ≤ List.length h6 := fun l hl => Nat.le_trans (hQ l hl) hF9.1
  obtain ⟨X14, eX14⟩ : ∃ y, y = (X) := ⟨_, rfl⟩
  rw [← eX14] at hD10 hS13
  obtain ⟨M15, eM15⟩ : ∃ y : mM, y = (mst0 0 (I, Q, Z)) := ⟨_, rfl⟩
  rw [← eM15] at hD10 hS13 hB11 hQ12
  obtain ⟨I15, Q15, Z15⟩ := M15
  change CD w 32 m0 h6 I15 Q15 Z15 X14 ow sb at hD10
  change sm tbc h6 I15 X14 at hS13
  change co h6 I15 ≤ B at hB11
  change ∀ l, l < 16 → (Q15 l).length ≤ List.length h6 at hQ12
  have hW := hD10.1.1
  have hWn : ∀ a, List.length h6 ≤ a → w a = true := fun a ha => (hD10.1.2.1 a ha).1
  have hF16 := fr_refl tbc h6
  have hln : 62 ≤ List.length h6 := sm_len hS13
  refine go_s (pc' := 13) rfl rfl rfl rfl ?_
  refine go_s (pc' := 14) (st' := [.int 4, .int 0]) rfl rfl rfl rfl ?_
  refine go_icmpP (t' := 35) (pc' := 15) rfl rfl rfl (fun (c : 4 ≤ (0 : Int32)) => absurd c (by decide)) (fun _ => ?_)
  refine go_s (pc' := 16) rfl rfl rfl rfl ?_
  refine go_sget (pc' := 17) (v := .ref 7) hS13 rfl rfl rfl (by decide) rfl rfl ?_
  refine go_s (pc' := 18) rfl rfl rfl rfl ?_
  refine go_s (pc' := 19) (st' := [.int 4, .int 0, .ref 7]) rfl rfl rfl rfl ?_
  refine go_s (pc' := 20) (st' := [.int 0, .ref 7]) rfl rfl rfl rfl ?_
  refine go_s (pc' := 21) rfl rfl rfl rfl ?_
  refine go_s (pc' := 22) (st' := [.int 0, .ref 7]) rfl rfl rfl rfl ?_
  refine go_sald (pc' := 23) (q := 0) (v := .ref 8) hS13 rfl rfl rfl rfl (by decide) rfl rfl ?_
  refine go_callV (pc' := 24) rfl rfl rfl (Nat.le_of_ble_eq_true rfl) rfl (sm_o hS13 rfl) rfl rfl rfl (ct_clear hS13 hW (l := 0) (by decide) (by omega)) (fun r h17 q18 => ?_)
  obtain ⟨rfl, hS19, hE20⟩ := q18
  have hF21 := fr_trans hF16 (fr_e hE20)
  have hD22 : CD w 32 m0 h17 (mclr 0 (I15, Q15, Z15)).1 (mclr 0 (I15, Q15, Z15)).2.1 (mclr 0 (I15, Q15, Z15)).2.2 (uX (uX (uX (uX (uX X14 200 0 .null) 201 0 .null) 202 0 (.int 0)) 203 0 (.int (-1))) 204 0 (.int (-1))) ow sb := CD_clr (CD_fr hD10 hF21)
  have hS25 : sm tbc h17 (mclr 0 (I15, Q15, Z15)).1 (uX (uX (uX (uX (uX X14 200 0 .null) 201 0 .null) 202 0 (.int 0)) 203 0 (.int (-1))) 204 0 (.int (-1))) := mclI_sm hS19
  have hB23 : co h17 (mclr 0 (I15, Q15, Z15)).1 ≤ B := by
    have z1 := co_fr (I := I15) (J := (mclr 0 (I15, Q15, Z15)).1) hF21 rfl
    have z2 := hB11
    omega
  have hQ24 : ∀ l, l < 16 → ((mclr 0 (I15, Q15, Z15)).2.1 l).length ≤ List.length h17 := mcl_len (fun l hl => Nat.le_trans (hQ12 l hl) hF21.1)
  obtain ⟨X26, eX26⟩ : ∃ y, y = (uX (uX (uX (uX (uX X14 200 0 .null) 201 0 .null) 202 0 (.int 0)) 203 0 (.int (-1))) 204 0 (.int (-1))) := ⟨_, rfl⟩
  rw [← eX26] at hD22 hS25
  obtain ⟨M27, eM27⟩ : ∃ y : mM, y = (mclr 0 (I15, Q15, Z15)) := ⟨_, rfl⟩
  rw [← eM27] at hD22 hS25 hB23 hQ24
  obtain ⟨I27, Q27, Z27⟩ := M27
  change CD w 32 m0 h17 I27 Q27 Z27 X26 ow sb at hD22
  change sm tbc h17 I27 X26 at hS25
  change co h17 I27 ≤ B at hB23
  change ∀ l, l < 16 → (Q27 l).length ≤ List.length h17 at hQ24
  have hW := hD22.1.1
  have hWn : ∀ a, List.length h17 ≤ a → w a = true := fun a ha => (hD22.1.2.1 a ha).1
  have hF28 := fr_refl tbc h17
  have hln : 62 ≤ List.length h17 := sm_len hS25
  refine go_s (pc' := 25) rfl rfl rfl rfl ?_
  refine go_sget (pc' := 26) (v := .ref 7) hS25 rfl rfl rfl (by decide) rfl rfl ?_
  refine go_s (pc' := 27) rfl rfl rfl rfl ?_
  refine go_s (pc' := 28) (st' := [.int 4, .int 0, .ref 7]) rfl rfl rfl rfl ?_
  refine go_s (pc' := 29) (st' := [.int 0, .ref 7]) rfl rfl rfl rfl ?_
  refine go_s (pc' := 30) rfl rfl rfl rfl ?_
  refine go_s (pc' := 31) (st' := [.int 0, .ref 7]) rfl rfl rfl rfl ?_
  refine go_sald (pc' := 32) (q := 0) (v := .ref 8) hS25 rfl rfl rfl rfl (by decide) rfl rfl ?_
  refine go_callV (pc' := 33) rfl rfl rfl (Nat.le_of_ble_eq_true rfl) rfl (sm_o hS25 rfl) rfl rfl rfl (ct_clear hS25 hW (l := 0) (by decide) (by omega)) (fun r h29 q30 => ?_)
  obtain ⟨rfl, hS31, hE32⟩ := q30
  have hF33 := fr_trans hF28 (fr_e hE32)
  have hD34 : CD w 32 m0 h29 (mclr 0 (I27, Q27, Z27)).1 (mclr 0 (I27, Q27, Z27)).2.1 (mclr 0 (I27, Q27, Z27)).2.2 (uX (uX (uX (uX (uX X26 200 0 .null) 201 0 .null) 202 0 (.int 0)) 203 0 (.int (-1))) 204 0 (.int (-1))) ow sb := CD_clr (CD_fr hD22 hF33)
  have hS37 : sm tbc h29 (mclr 0 (I27, Q27, Z27)).1 (uX (uX (uX (uX (uX X26 200 0 .null) 201 0 .null) 202 0 (.int 0)) 203 0 (.int (-1))) 204 0 (.int (-1))) := mclI_sm hS31
  have hB35 : co h29 (mclr 0 (I27, Q27, Z27)).1 ≤ B := by
    have z1 := co_fr (I := I27) (J := (mclr 0 (I27, Q27, Z27)).1) hF33 rfl
    have z2 := hB23
    omega
  have hQ36 : ∀ l, l < 16 → ((mclr 0 (I27, Q27, Z27)).2.1 l).length ≤ List.length h29 := mcl_len (fun l hl => Nat.le_trans (hQ24 l hl) hF33.1)
  obtain ⟨X38, eX38⟩ : ∃ y, y = (uX (uX (uX (uX (uX X26 200 0 .null) 201 0 .null) 202 0 (.int 0)) 203 0 (.int (-1))) 204 0 (.int (-1))) := ⟨_, rfl⟩
  rw [← eX38] at hD34 hS37
  obtain ⟨M39, eM39⟩ : ∃ y : mM, y = (mclr 0 (I27, Q27, Z27)) := ⟨_, rfl⟩
  rw [← eM39] at hD34 hS37 hB35 hQ36
  obtain ⟨I39, Q39, Z39⟩ := M39
  change CD w 32 m0 h29 I39 Q39 Z39 X38 ow sb at hD34
  change sm tbc h29 I39 X38 at hS37
  change co h29 I39 ≤ B at hB35
  change ∀ l, l < 16 → (Q39 l).length ≤ List.length h29 at hQ36
  have hW := hD34.1.1
  have hWn : ∀ a, List.length h29 ≤ a → w a = true := fun a ha => (hD34.1.2.1 a ha).1
  have hF40 := fr_refl tbc h29
  have hln : 62 ≤ List.length h29 := sm_len hS37
  refine go_s (pc' := 34) (lo' := [some (.ref 2), some (.int 0), some (.int 1)]) rfl rfl rfl rfl ?_
  refine go_s (pc' := 12) rfl rfl rfl rfl ?_
  refine go_s (pc' := 13) rfl rfl rfl rfl ?_
  refine go_s (pc' := 14) (st' := [.int 4, .int 1]) rfl rfl rfl rfl ?_
  refine go_icmpP (t' := 35) (pc' := 15) rfl rfl rfl (fun (c : 4 ≤ (1 : Int32)) => absurd c (by decide)) (fun _ => ?_)
  refine go_s (pc' := 16) rfl rfl rfl rfl ?_
  refine go_sget (pc' := 17) (v := .ref 7) hS37 rfl rfl rfl (by decide) rfl rfl ?_
  refine go_s (pc' := 18) rfl rfl rfl rfl ?_
  refine go_s (pc' := 19) (st' := [.int 4, .int 0, .ref 7]) rfl rfl rfl rfl ?_
  refine go_s (pc' := 20) (st' := [.int 0, .ref 7]) rfl rfl rfl rfl ?_
  refine go_s (pc' := 21) rfl rfl rfl rfl ?_
  refine go_s (pc' := 22) (st' := [.int 1, .ref 7]) rfl rfl rfl rfl ?_
  refine go_sald (pc' := 23) (q := 1) (v := .ref 9) hS37 rfl rfl rfl rfl (by decide) rfl rfl ?_
  refine go_callV (pc' := 24) rfl rfl rfl (Nat.le_of_ble_eq_true rfl) rfl (sm_o hS37 rfl) rfl rfl rfl (ct_clear hS37 hW (l := 1) (by decide) (by omega)) (fun r h41 q42 => ?_)
  obtain ⟨rfl, hS43, hE44⟩ := q42
  have hF45 := fr_trans hF40 (fr_e hE44)
  have hD46 : CD w 32 m0 h41 (mclr 1 (I39, Q39, Z39)).1 (mclr 1 (I39, Q39, Z39)).2.1 (mclr 1 (I39, Q39, Z39)).2.2 (uX (uX (uX (uX (uX X38 200 1 .null) 201 1 .null) 202 1 (.int 0)) 203 1 (.int (-1))) 204 1 (.int (-1))) ow sb := CD_clr (CD_fr hD34 hF45)
  have hS49 : sm tbc h41 (mclr 1 (I39, Q39, Z39)).1 (uX (uX (uX (uX (uX X38 200 1 .null) 201 1 .null) 202 1 (.int 0)) 203 1 (.int (-1))) 204 1 (.int (-1))) := mclI_sm hS43
  have hB47 : co h41 (mclr 1 (I39, Q39, Z39)).1 ≤ B := by
    have z1 := co_fr (I := I39) (J := (mclr 1 (I39, Q39, Z39)).1) hF45 rfl
    have z2 := hB35
    omega
  have hQ48 : ∀ l, l < 16 → ((mclr 1 (I39, Q39, Z39)).2.1 l).length ≤ List.length h41 := mcl_len (fun l hl => Nat.le_trans (hQ36 l hl) hF45.1)
  obtain ⟨X50, eX50⟩ : ∃ y, y = (uX (uX (uX (uX (uX X38 200 1 .null) 201 1 .null) 202 1 (.int 0)) 203 1 (.int (-1))) 204 1 (.int (-1))) := ⟨_, rfl⟩
  rw [← eX50] at hD46 hS49
  obtain ⟨M51, eM51⟩ : ∃ y : mM, y = (mclr 1 (I39, Q39, Z39)) := ⟨_, rfl⟩
  rw [← eM51] at hD46 hS49 hB47 hQ48
  obtain ⟨I51, Q51, Z51⟩ := M51
  change CD w 32 m0 h41 I51 Q51 Z51 X50 ow sb at hD46
  change sm tbc h41 I51 X50 at hS49
  change co h41 I51 ≤ B at hB47
  change ∀ l, l < 16 → (Q51 l).length ≤ List.length h41 at hQ48
  have hW := hD46.1.1
  have hWn : ∀ a, List.length h41 ≤ a → w a = true := fun a ha => (hD46.1.2.1 a ha).1
  have hF52 := fr_refl tbc h41
  have hln : 62 ≤ List.length h41 := sm_len hS49
  refine go_s (pc' := 25) rfl rfl rfl rfl ?_
  refine go_sget (pc' := 26) (v := .ref 7) hS49 rfl rfl rfl (by decide) rfl rfl ?_
  refine go_s (pc' := 27) rfl rfl rfl rfl ?_
  refine go_s (pc' := 28) (st' := [.int 4, .int 1, .ref 7]) rfl rfl rfl rfl ?_
  refine go_s (pc' := 29) (st' := [.int 4, .ref 7]) rfl rfl rfl rfl ?_
  refine go_s (pc' := 30) rfl rfl rfl rfl ?_
  refine go_s (pc' := 31) (st' := [.int 4, .ref 7]) rfl rfl rfl rfl ?_
  refine go_sald (pc' := 32) (q := 4) (v := .ref 12) hS49 rfl rfl rfl rfl (by decide) rfl rfl ?_
  refine go_callV (pc' := 33) rfl rfl rfl (Nat.le_of_ble_eq_true rfl) rfl (sm_o hS49 rfl) rfl rfl rfl (ct_clear hS49 hW (l := 4) (by decide) (by omega)) (fun r h53 q54 => ?_)
  obtain ⟨rfl, hS55, hE56⟩ := q54
  have hF57 := fr_trans hF52 (fr_e hE56)
  have hD58 : CD w 32 m0 h53 (mclr 4 (I51, Q51, Z51)).1 (mclr 4 (I51, Q51, Z51)).2.1 (mclr 4 (I51, Q51, Z51)).2.2 (uX (uX (uX (uX (uX X50 200 4 .null) 201 4 .null) 202 4 (.int 0)) 203 4 (.int (-1))) 204 4 (.int (-1))) ow sb := CD_clr (CD_fr hD46 hF57)
  have hS61 : sm tbc h53 (mclr 4 (I51, Q51, Z51)).1 (uX (uX (uX (uX (uX X50 200 4 .null) 201 4 .null) 202 4 (.int 0)) 203 4 (.int (-1))) 204 4 (.int (-1))) := mclI_sm hS55
  have hB59 : co h53 (mclr 4 (I51, Q51, Z51)).1 ≤ B := by
    have z1 := co_fr (I := I51) (J := (mclr 4 (I51, Q51, Z51)).1) hF57 rfl
    have z2 := hB47
    omega
  have hQ60 : ∀ l, l < 16 → ((mclr 4 (I51, Q51, Z51)).2.1 l).length ≤ List.length h53 := mcl_len (fun l hl => Nat.le_trans (hQ48 l hl) hF57.1)
  obtain ⟨X62, eX62⟩ : ∃ y, y = (uX (uX (uX (uX (uX X50 200 4 .null) 201 4 .null) 202 4 (.int 0)) 203 4 (.int (-1))) 204 4 (.int (-1))) := ⟨_, rfl⟩
  rw [← eX62] at hD58 hS61
  obtain ⟨M63, eM63⟩ : ∃ y : mM, y = (mclr 4 (I51, Q51, Z51)) := ⟨_, rfl⟩
  rw [← eM63] at hD58 hS61 hB59 hQ60
  obtain ⟨I63, Q63, Z63⟩ := M63
  change CD w 32 m0 h53 I63 Q63 Z63 X62 ow sb at hD58
  change sm tbc h53 I63 X62 at hS61
  change co h53 I63 ≤ B at hB59
  change ∀ l, l < 16 → (Q63 l).length ≤ List.length h53 at hQ60
  have hW := hD58.1.1
  have hWn : ∀ a, List.length h53 ≤ a → w a = true := fun a ha => (hD58.1.2.1 a ha).1
  have hF64 := fr_refl tbc h53
  have hln : 62 ≤ List.length h53 := sm_len hS61
  refine go_s (pc' := 34) (lo' := [some (.ref 2), some (.int 0), some (.int 2)]) rfl rfl rfl rfl ?_
  refine go_s (pc' := 12) rfl rfl rfl rfl ?_
  refine go_s (pc' := 13) rfl rfl rfl rfl ?_
  refine go_s (pc' := 14) (st' := [.int 4, .int 2]) rfl rfl rfl rfl ?_
  refine go_icmpP (t' := 35) (pc' := 15) rfl rfl rfl (fun (c : 4 ≤ (2 : Int32)) => absurd c (by decide)) (fun _ => ?_)
  refine go_s (pc' := 16) rfl rfl rfl rfl ?_
  refine go_sget (pc' := 17) (v := .ref 7) hS61 rfl rfl rfl (by decide) rfl rfl ?_
  refine go_s (pc' := 18) rfl rfl rfl rfl ?_
  refine go_s (pc' := 19) (st' := [.int 4, .int 0, .ref 7]) rfl rfl rfl rfl ?_
  refine go_s (pc' := 20) (st' := [.int 0, .ref 7]) rfl rfl rfl rfl ?_
  refine go_s (pc' := 21) rfl rfl rfl rfl ?_
  refine go_s (pc' := 22) (st' := [.int 2, .ref 7]) rfl rfl rfl rfl ?_
  refine go_sald (pc' := 23) (q := 2) (v := .ref 10) hS61 rfl rfl rfl rfl (by decide) rfl rfl ?_
  refine go_callV (pc' := 24) rfl rfl rfl (Nat.le_of_ble_eq_true rfl) rfl (sm_o hS61 rfl) rfl rfl rfl (ct_clear hS61 hW (l := 2) (by decide) (by omega)) (fun r h65 q66 => ?_)
  obtain ⟨rfl, hS67, hE68⟩ := q66
  have hF69 := fr_trans hF64 (fr_e hE68)
  have hD70 : CD w 32 m0 h65 (mclr 2 (I63, Q63, Z63)).1 (mclr 2 (I63, Q63, Z63)).2.1 (mclr 2 (I63, Q63, Z63)).2.2 (uX (uX (uX (uX (uX X62 200 2 .null) 201 2 .null) 202 2 (.int 0)) 203 2 (.int (-1))) 204 2 (.int (-1))) ow sb := CD_clr (CD_fr hD58 hF69)
  have hS73 : sm tbc h65 (mclr 2 (I63, Q63, Z63)).1 (uX (uX (uX (uX (uX X62 200 2 .null) 201 2 .null) 202 2 (.int 0)) 203 2 (.int (-1))) 204 2 (.int (-1))) := mclI_sm hS67
  have hB71 : co h65 (mclr 2 (I63, Q63, Z63)).1 ≤ B := by
    have z1 := co_fr (I := I63) (J := (mclr 2 (I63, Q63, Z63)).1) hF69 rfl
    have z2 := hB59
    omega
  have hQ72 : ∀ l, l < 16 → ((mclr 2 (I63, Q63, Z63)).2.1 l).length ≤ List.length h65 := mcl_len (fun l hl => Nat.le_trans (hQ60 l hl) hF69.1)
  obtain ⟨X74, eX74⟩ : ∃ y, y = (uX (uX (uX (uX (uX X62 200 2 .null) 201 2 .null) 202 2 (.int 0)) 203 2 (.int (-1))) 204 2 (.int (-1))) := ⟨_, rfl⟩
  rw [← eX74] at hD70 hS73
  obtain ⟨M75, eM75⟩ : ∃ y : mM, y = (mclr 2 (I63, Q63, Z63)) := ⟨_, rfl⟩
  rw [← eM75] at hD70 hS73 hB71 hQ72
  obtain ⟨I75, Q75, Z75⟩ := M75
  change CD w 32 m0 h65 I75 Q75 Z75 X74 ow sb at hD70
  change sm tbc h65 I75 X74 at hS73
  change co h65 I75 ≤ B at hB71
  change ∀ l, l < 16 → (Q75 l).length ≤ List.length h65 at hQ72
  have hW := hD70.1.1
  have hWn : ∀ a, List.length h65 ≤ a → w a = true := fun a ha => (hD70.1.2.1 a ha).1
  have hF76 := fr_refl tbc h65
  have hln : 62 ≤ List.length h65 := sm_len hS73
  refine go_s (pc' := 25) rfl rfl rfl rfl ?_
  refine go_sget (pc' := 26) (v := .ref 7) hS73 rfl rfl rfl (by decide) rfl rfl ?_
  refine go_s (pc' := 27) rfl rfl rfl rfl ?_
  refine go_s (pc' := 28) (st' := [.int 4, .int 2, .ref 7]) rfl rfl rfl rfl ?_
  refine go_s (pc' := 29) (st' := [.int 8, .ref 7]) rfl rfl rfl rfl ?_
  refine go_s (pc' := 30) rfl rfl rfl rfl ?_
  refine go_s (pc' := 31) (st' := [.int 8, .ref 7]) rfl rfl rfl rfl ?_
  refine go_sald (pc' := 32) (q := 8) (v := .ref 16) hS73 rfl rfl rfl rfl (by decide) rfl rfl ?_
  refine go_callV (pc' := 33) rfl rfl rfl (Nat.le_of_ble_eq_true rfl) rfl (sm_o hS73 rfl) rfl rfl rfl (ct_clear hS73 hW (l := 8) (by decide) (by omega)) (fun r h77 q78 => ?_)
  obtain ⟨rfl, hS79, hE80⟩ := q78
  have hF81 := fr_trans hF76 (fr_e hE80)
  have hD82 : CD w 32 m0 h77 (mclr 8 (I75, Q75, Z75)).1 (mclr 8 (I75, Q75, Z75)).2.1 (mclr 8 (I75, Q75, Z75)).2.2 (uX (uX (uX (uX (uX X74 200 8 .null) 201 8 .null) 202 8 (.int 0)) 203 8 (.int (-1))) 204 8 (.int (-1))) ow sb := CD_clr (CD_fr hD70 hF81)
  have hS85 : sm tbc h77 (mclr 8 (I75, Q75, Z75)).1 (uX (uX (uX (uX (uX X74 200 8 .null) 201 8 .null) 202 8 (.int 0)) 203 8 (.int (-1))) 204 8 (.int (-1))) := mclI_sm hS79
  have hB83 : co h77 (mclr 8 (I75, Q75, Z75)).1 ≤ B := by
    have z1 := co_fr (I := I75) (J := (mclr 8 (I75, Q75, Z75)).1) hF81 rfl
    have z2 := hB71
    omega
  have hQ84 : ∀ l, l < 16 → ((mclr 8 (I75, Q75, Z75)).2.1 l).length ≤ List.length h77 := mcl_len (fun l hl => Nat.le_trans (hQ72 l hl) hF81.1)
  obtain ⟨X86, eX86⟩ : ∃ y, y = (uX (uX (uX (uX (uX X74 200 8 .null) 201 8 .null) 202 8 (.int 0)) 203 8 (.int (-1))) 204 8 (.int (-1))) := ⟨_, rfl⟩
  rw [← eX86] at hD82 hS85
  obtain ⟨M87, eM87⟩ : ∃ y : mM, y = (mclr 8 (I75, Q75, Z75)) := ⟨_, rfl⟩
  rw [← eM87] at hD82 hS85 hB83 hQ84
  obtain ⟨I87, Q87, Z87⟩ := M87
  change CD w 32 m0 h77 I87 Q87 Z87 X86 ow sb at hD82
  change sm tbc h77 I87 X86 at hS85
  change co h77 I87 ≤ B at hB83
  change ∀ l, l < 16 → (Q87 l).length ≤ List.length h77 at hQ84
  have hW := hD82.1.1
  have hWn : ∀ a, List.length h77 ≤ a → w a = true := fun a ha => (hD82.1.2.1 a ha).1
  have hF88 := fr_refl tbc h77
  have hln : 62 ≤ List.length h77 := sm_len hS85
  refine go_s (pc' := 34) (lo' := [some (.ref 2), some (.int 0), some (.int 3)]) rfl rfl rfl rfl ?_
  refine go_s (pc' := 12) rfl rfl rfl rfl ?_
  refine go_s (pc' := 13) rfl rfl rfl rfl ?_
  refine go_s (pc' := 14) (st' := [.int 4, .int 3]) rfl rfl rfl rfl ?_
  refine go_icmpP (t' := 35) (pc' := 15) rfl rfl rfl (fun (c : 4 ≤ (3 : Int32)) => absurd c (by decide)) (fun _ => ?_)
  refine go_s (pc' := 16) rfl rfl rfl rfl ?_
  refine go_sget (pc' := 17) (v := .ref 7) hS85 rfl rfl rfl (by decide) rfl rfl ?_
  refine go_s (pc' := 18) rfl rfl rfl rfl ?_
  refine go_s (pc' := 19) (st' := [.int 4, .int 0, .ref 7]) rfl rfl rfl rfl ?_
  refine go_s (pc' := 20) (st' := [.int 0, .ref 7]) rfl rfl rfl rfl ?_
  refine go_s (pc' := 21) rfl rfl rfl rfl ?_
  refine go_s (pc' := 22) (st' := [.int 3, .ref 7]) rfl rfl rfl rfl ?_
  refine go_sald (pc' := 23) (q := 3) (v := .ref 11) hS85 rfl rfl rfl rfl (by decide) rfl rfl ?_
  refine go_callV (pc' := 24) rfl rfl rfl (Nat.le_of_ble_eq_true rfl) rfl (sm_o hS85 rfl) rfl rfl rfl (ct_clear hS85 hW (l := 3) (by decide) (by omega)) (fun r h89 q90 => ?_)
  obtain ⟨rfl, hS91, hE92⟩ := q90
  have hF93 := fr_trans hF88 (fr_e hE92)
  have hD94 : CD w 32 m0 h89 (mclr 3 (I87, Q87, Z87)).1 (mclr 3 (I87, Q87, Z87)).2.1 (mclr 3 (I87, Q87, Z87)).2.2 (uX (uX (uX (uX (uX X86 200 3 .null) 201 3 .null) 202 3 (.int 0)) 203 3 (.int (-1))) 204 3 (.int (-1))) ow sb := CD_clr (CD_fr hD82 hF93)
  have hS97 : sm tbc h89 (mclr 3 (I87, Q87, Z87)).1 (uX (uX (uX (uX (uX X86 200 3 .null) 201 3 .null) 202 3 (.int 0)) 203 3 (.int (-1))) 204 3 (.int (-1))) := mclI_sm hS91
  have hB95 : co h89 (mclr 3 (I87, Q87, Z87)).1 ≤ B := by
    have z1 := co_fr (I := I87) (J := (mclr 3 (I87, Q87, Z87)).1) hF93 rfl
    have z2 := hB83
    omega
  have hQ96 : ∀ l, l < 16 → ((mclr 3 (I87, Q87, Z87)).2.1 l).length ≤ List.length h89 := mcl_len (fun l hl => Nat.le_trans (hQ84 l hl) hF93.1)
  obtain ⟨X98, eX98⟩ : ∃ y, y = (uX (uX (uX (uX (uX X86 200 3 .null) 201 3 .null) 202 3 (.int 0)) 203 3 (.int (-1))) 204 3 (.int (-1))) := ⟨_, rfl⟩
  rw [← eX98] at hD94 hS97
  obtain ⟨M99, eM99⟩ : ∃ y : mM, y = (mclr 3 (I87, Q87, Z87)) := ⟨_, rfl⟩
  rw [← eM99] at hD94 hS97 hB95 hQ96
  obtain ⟨I99, Q99, Z99⟩ := M99
  change CD w 32 m0 h89 I99 Q99 Z99 X98 ow sb at hD94
  change sm tbc h89 I99 X98 at hS97
  change co h89 I99 ≤ B at hB95
  change ∀ l, l < 16 → (Q99 l).length ≤ List.length h89 at hQ96
  have hW := hD94.1.1
  have hWn : ∀ a, List.length h89 ≤ a → w a = true := fun a ha => (hD94.1.2.1 a ha).1
  have hF100 := fr_refl tbc h89
  have hln : 62 ≤ List.length h89 := sm_len hS97
  refine go_s (pc' := 25) rfl rfl rfl rfl ?_
  refine go_sget (pc' := 26) (v := .ref 7) hS97 rfl rfl rfl (by decide) rfl rfl ?_
  refine go_s (pc' := 27) rfl rfl rfl rfl ?_
  refine go_s (pc' := 28) (st' := [.int 4, .int 3, .ref 7]) rfl rfl rfl rfl ?_
  refine go_s (pc' := 29) (st' := [.int 12, .ref 7]) rfl rfl rfl rfl ?_
  refine go_s (pc' := 30) rfl rfl rfl rfl ?_
  refine go_s (pc' := 31) (st' := [.int 12, .ref 7]) rfl rfl rfl rfl ?_
  refine go_sald (pc' := 32) (q := 12) (v := .ref 20) hS97 rfl rfl rfl rfl (by decide) rfl rfl ?_
  refine go_callV (pc' := 33) rfl rfl rfl (Nat.le_of_ble_eq_true rfl) rfl (sm_o hS97 rfl) rfl rfl rfl (ct_clear hS97 hW (l := 12) (by decide) (by omega)) (fun r h101 q102 => ?_)
  obtain ⟨rfl, hS103, hE104⟩ := q102
  have hF105 := fr_trans hF100 (fr_e hE104)
  have hD106 : CD w 32 m0 h101 (mclr 12 (I99, Q99, Z99)).1 (mclr 12 (I99, Q99, Z99)).2.1 (mclr 12 (I99, Q99, Z99)).2.2 (uX (uX (uX (uX (uX X98 200 12 .null) 201 12 .null) 202 12 (.int 0)) 203 12 (.int (-1))) 204 12 (.int (-1))) ow sb := CD_clr (CD_fr hD94 hF105)
  have hS109 : sm tbc h101 (mclr 12 (I99, Q99, Z99)).1 (uX (uX (uX (uX (uX X98 200 12 .null) 201 12 .null) 202 12 (.int 0)) 203 12 (.int (-1))) 204 12 (.int (-1))) := mclI_sm hS103
  have hB107 : co h101 (mclr 12 (I99, Q99, Z99)).1 ≤ B := by
    have z1 := co_fr (I := I99) (J := (mclr 12 (I99, Q99, Z99)).1) hF105 rfl
    have z2 := hB95
    omega
  have hQ108 : ∀ l, l < 16 → ((mclr 12 (I99, Q99, Z99)).2.1 l).length ≤ List.length h101 := mcl_len (fun l hl => Nat.le_trans (hQ96 l hl) hF105.1)
  obtain ⟨X110, eX110⟩ : ∃ y, y = (uX (uX (uX (uX (uX X98 200 12 .null) 201 12 .null) 202 12 (.int 0)) 203 12 (.int (-1))) 204 12 (.int (-1))) := ⟨_, rfl⟩
  rw [← eX110] at hD106 hS109
  obtain ⟨M111, eM111⟩ : ∃ y : mM, y = (mclr 12 (I99, Q99, Z99)) := ⟨_, rfl⟩
  rw [← eM111] at hD106 hS109 hB107 hQ108
  obtain ⟨I111, Q111, Z111⟩ := M111
  change CD w 32 m0 h101 I111 Q111 Z111 X110 ow sb at hD106
  change sm tbc h101 I111 X110 at hS109
  change co h101 I111 ≤ B at hB107
  change ∀ l, l < 16 → (Q111 l).length ≤ List.length h101 at hQ108
  have hW := hD106.1.1
  have hWn : ∀ a, List.length h101 ≤ a → w a = true := fun a ha => (hD106.1.2.1 a ha).1
  have hF112 := fr_refl tbc h101
  have hln : 62 ≤ List.length h101 := sm_len hS109
  refine go_s (pc' := 34) (lo' := [some (.ref 2), some (.int 0), some (.int 4)]) rfl rfl rfl rfl ?_
  refine go_s (pc' := 12) rfl rfl rfl rfl ?_
  refine go_s (pc' := 13) rfl rfl rfl rfl ?_
  refine go_s (pc' := 14) (st' := [.int 4, .int 4]) rfl rfl rfl rfl ?_
  refine go_icmpP (t' := 35) (pc' := 15) rfl rfl rfl (fun _ => ?_) (fun (c : ¬ (4 ≤ (4 : Int32))) => absurd (by decide) c)
  refine go_ret rfl rfl ?_
  have hms : mnst 0 (I, Q, Z) = (I111, Q111, Z111) := by
    unfold mnst mcl2
    rw [← eM15, ← eM27, ← eM39, ← eM51, ← eM63, ← eM75, ← eM87, ← eM99, ← eM111]
  have hC113 : CA w 32 m0 B h101 (I111, Q111, Z111) := ⟨X110, ow, sb, hS109, hD106, hB107, hQ108⟩
  rw [hms]
  exact ⟨rfl, hC113⟩
theorem cm_nst_1 {w : Nat → Bool} {d : Nat} {h : am_Hp} {m0 : mg} {B : Nat} {I : sm_I} {Q : mQ} {Z : mZ} (hC : CA w 32 m0 B h (I, Q, Z)) (hB2 : B < 2 ^ 26) (hd : 2 ≤ d) : am_Ev (am_prog w) d 100 [.ref 2, .int 1] h (fun r h' => r = none ∧ CA w 32 m0 B h' (mnst 1 (I, Q, Z))) := by
  obtain ⟨X, ow, sb, hS, hD, hB, hQ⟩ := hC
  change sm tbc h I X at hS
  change CD w 32 m0 h I Q Z X ow sb at hD
  change co h I ≤ B at hB
  change ∀ l, l < 16 → (Q l).length ≤ h.length at hQ
  have hW := hD.1.1
  have hWn : ∀ a, List.length h ≤ a → w a = true := fun a ha => (hD.1.2.1 a ha).1
  have hF1 := fr_refl tbc h
  have hln : 62 ≤ List.length h := sm_len hS
  obtain ⟨d, rfl⟩ : ∃ e, d = e + 1 := ⟨d - 1, by omega⟩
  refine ev_go rfl (Nat.le_of_ble_eq_true rfl) rfl ?_
  refine go_s (pc' := 1) rfl rfl rfl rfl ?_
  refine go_sget (pc' := 2) (v := .ref 3) hS rfl rfl rfl (by decide) rfl rfl ?_
  refine go_s (pc' := 3) rfl rfl rfl rfl ?_
  refine go_s (pc' := 4) (st' := [.int 0, .int 1, .ref 3]) rfl rfl rfl rfl ?_
  refine go_szast (pc' := 5) (q := 1) hS rfl rfl tbc_inj (Nat.le_of_ble_eq_true rfl) rfl (by decide) (by decide) rfl (hW _ rfl) rfl (fun h2 hS3 hE4 => ?_)
  have hF5 := fr_trans hF1 (fr_e hE4)
  refine go_s (pc' := 6) rfl rfl rfl rfl ?_
  refine go_sget (pc' := 7) (v := .ref 5) hS3 rfl rfl rfl (by decide) rfl rfl ?_
  refine go_s (pc' := 8) rfl rfl rfl rfl ?_
  refine go_s (pc' := 9) (st' := [.int 0, .int 1, .ref 5]) rfl rfl rfl rfl ?_
  refine go_siast (pc' := 10) (q := 1) hS3 rfl rfl tbc_inj (Nat.le_of_ble_eq_true rfl) rfl (by decide) (by decide) (hW _ rfl) rfl (fun h6 hS7 hE8 => ?_)
  have hF9 := fr_trans hF5 (fr_e hE8)
  refine go_s (pc' := 11) (st' := [.int 0]) rfl rfl rfl rfl ?_
  refine go_s (pc' := 12) (lo' := [some (.ref 2), some (.int 1), some (.int 0)]) rfl rfl rfl rfl ?_
  have hD10 : CD w 32 m0 h6 (mst0 1 (I, Q, Z)).1 (mst0 1 (I, Q, Z)).2.1 (mst0 1 (I, Q, Z)).2.2 (X) ow sb := CD_I (J := (mst0 1 (I, Q, Z)).1) (CD_up0 (p := 1) (CD_fr hD hF9)) ⟨rfl, rfl, rfl, rfl, rfl, rfl, rfl, rfl, rfl, rfl, rfl, rfl, rfl, rfl, rfl⟩
  have hS13 : sm tbc h6 (mst0 1 (I, Q, Z)).1 (X) := hS7
  have hB11 : co h6 (mst0 1 (I, Q, Z)).1 ≤ B := by
    have z1 := co_fr (I := I) (J := (mst0 1 (I, Q, Z)).1) hF9 rfl
    have z2 := hB
    omega
  have hQ12 : ∀ l, l < 16 → ((mst0 1 (I, Q, Z)).2.1 l).length ≤ List.length h6 := fun l hl => Nat.le_trans (hQ l hl) hF9.1
  obtain ⟨X14, eX14⟩ : ∃ y, y = (X) := ⟨_, rfl⟩
  rw [← eX14] at hD10 hS13
  obtain ⟨M15, eM15⟩ : ∃ y : mM, y = (mst0 1 (I, Q, Z)) := ⟨_, rfl⟩
  rw [← eM15] at hD10 hS13 hB11 hQ12
  obtain ⟨I15, Q15, Z15⟩ := M15
  change CD w 32 m0 h6 I15 Q15 Z15 X14 ow sb at hD10
  change sm tbc h6 I15 X14 at hS13
  change co h6 I15 ≤ B at hB11
  change ∀ l, l < 16 → (Q15 l).length ≤ List.length h6 at hQ12
  have hW := hD10.1.1
  have hWn : ∀ a, List.length h6 ≤ a → w a = true := fun a ha => (hD10.1.2.1 a ha).1
  have hF16 := fr_refl tbc h6
  have hln : 62 ≤ List.length h6 := sm_len hS13
  refine go_s (pc' := 13) rfl rfl rfl rfl ?_
  refine go_s (pc' := 14) (st' := [.int 4, .int 0]) rfl rfl rfl rfl ?_
  refine go_icmpP (t' := 35) (pc' := 15) rfl rfl rfl (fun (c : 4 ≤ (0 : Int32)) => absurd c (by decide)) (fun _ => ?_)
  refine go_s (pc' := 16) rfl rfl rfl rfl ?_
  refine go_sget (pc' := 17) (v := .ref 7) hS13 rfl rfl rfl (by decide) rfl rfl ?_
  refine go_s (pc' := 18) rfl rfl rfl rfl ?_
  refine go_s (pc' := 19) (st' := [.int 4, .int 1, .ref 7]) rfl rfl rfl rfl ?_
  refine go_s (pc' := 20) (st' := [.int 4, .ref 7]) rfl rfl rfl rfl ?_
  refine go_s (pc' := 21) rfl rfl rfl rfl ?_
  refine go_s (pc' := 22) (st' := [.int 4, .ref 7]) rfl rfl rfl rfl ?_
  refine go_sald (pc' := 23) (q := 4) (v := .ref 12) hS13 rfl rfl rfl rfl (by decide) rfl rfl ?_
  refine go_callV (pc' := 24) rfl rfl rfl (Nat.le_of_ble_eq_true rfl) rfl (sm_o hS13 rfl) rfl rfl rfl (ct_clear hS13 hW (l := 4) (by decide) (by omega)) (fun r h17 q18 => ?_)
  obtain ⟨rfl, hS19, hE20⟩ := q18
  have hF21 := fr_trans hF16 (fr_e hE20)
  have hD22 : CD w 32 m0 h17 (mclr 4 (I15, Q15, Z15)).1 (mclr 4 (I15, Q15, Z15)).2.1 (mclr 4 (I15, Q15, Z15)).2.2 (uX (uX (uX (uX (uX X14 200 4 .null) 201 4 .null) 202 4 (.int 0)) 203 4 (.int (-1))) 204 4 (.int (-1))) ow sb := CD_clr (CD_fr hD10 hF21)
  have hS25 : sm tbc h17 (mclr 4 (I15, Q15, Z15)).1 (uX (uX (uX (uX (uX X14 200 4 .null) 201 4 .null) 202 4 (.int 0)) 203 4 (.int (-1))) 204 4 (.int (-1))) := mclI_sm hS19
  have hB23 : co h17 (mclr 4 (I15, Q15, Z15)).1 ≤ B := by
    have z1 := co_fr (I := I15) (J := (mclr 4 (I15, Q15, Z15)).1) hF21 rfl
    have z2 := hB11
    omega
  have hQ24 : ∀ l, l < 16 → ((mclr 4 (I15, Q15, Z15)).2.1 l).length ≤ List.length h17 := mcl_len (fun l hl => Nat.le_trans (hQ12 l hl) hF21.1)
  obtain ⟨X26, eX26⟩ : ∃ y, y = (uX (uX (uX (uX (uX X14 200 4 .null) 201 4 .null) 202 4 (.int 0)) 203 4 (.int (-1))) 204 4 (.int (-1))) := ⟨_, rfl⟩
  rw [← eX26] at hD22 hS25
  obtain ⟨M27, eM27⟩ : ∃ y : mM, y = (mclr 4 (I15, Q15, Z15)) := ⟨_, rfl⟩
  rw [← eM27] at hD22 hS25 hB23 hQ24
  obtain ⟨I27, Q27, Z27⟩ := M27
  change CD w 32 m0 h17 I27 Q27 Z27 X26 ow sb at hD22
  change sm tbc h17 I27 X26 at hS25
  change co h17 I27 ≤ B at hB23
  change ∀ l, l < 16 → (Q27 l).length ≤ List.length h17 at hQ24
  have hW := hD22.1.1
  have hWn : ∀ a, List.length h17 ≤ a → w a = true := fun a ha => (hD22.1.2.1 a ha).1
  have hF28 := fr_refl tbc h17
  have hln : 62 ≤ List.length h17 := sm_len hS25
  refine go_s (pc' := 25) rfl rfl rfl rfl ?_
  refine go_sget (pc' := 26) (v := .ref 7) hS25 rfl rfl rfl (by decide) rfl rfl ?_
  refine go_s (pc' := 27) rfl rfl rfl rfl ?_
  refine go_s (pc' := 28) (st' := [.int 4, .int 0, .ref 7]) rfl rfl rfl rfl ?_
  refine go_s (pc' := 29) (st' := [.int 0, .ref 7]) rfl rfl rfl rfl ?_
  refine go_s (pc' := 30) rfl rfl rfl rfl ?_
  refine go_s (pc' := 31) (st' := [.int 1, .ref 7]) rfl rfl rfl rfl ?_
  refine go_sald (pc' := 32) (q := 1) (v := .ref 9) hS25 rfl rfl rfl rfl (by decide) rfl rfl ?_
  refine go_callV (pc' := 33) rfl rfl rfl (Nat.le_of_ble_eq_true rfl) rfl (sm_o hS25 rfl) rfl rfl rfl (ct_clear hS25 hW (l := 1) (by decide) (by omega)) (fun r h29 q30 => ?_)
  obtain ⟨rfl, hS31, hE32⟩ := q30
  have hF33 := fr_trans hF28 (fr_e hE32)
  have hD34 : CD w 32 m0 h29 (mclr 1 (I27, Q27, Z27)).1 (mclr 1 (I27, Q27, Z27)).2.1 (mclr 1 (I27, Q27, Z27)).2.2 (uX (uX (uX (uX (uX X26 200 1 .null) 201 1 .null) 202 1 (.int 0)) 203 1 (.int (-1))) 204 1 (.int (-1))) ow sb := CD_clr (CD_fr hD22 hF33)
  have hS37 : sm tbc h29 (mclr 1 (I27, Q27, Z27)).1 (uX (uX (uX (uX (uX X26 200 1 .null) 201 1 .null) 202 1 (.int 0)) 203 1 (.int (-1))) 204 1 (.int (-1))) := mclI_sm hS31
  have hB35 : co h29 (mclr 1 (I27, Q27, Z27)).1 ≤ B := by
    have z1 := co_fr (I := I27) (J := (mclr 1 (I27, Q27, Z27)).1) hF33 rfl
    have z2 := hB23
    omega
  have hQ36 : ∀ l, l < 16 → ((mclr 1 (I27, Q27, Z27)).2.1 l).length ≤ List.length h29 := mcl_len (fun l hl => Nat.le_trans (hQ24 l hl) hF33.1)
  obtain ⟨X38, eX38⟩ : ∃ y, y = (uX (uX (uX (uX (uX X26 200 1 .null) 201 1 .null) 202 1 (.int 0)) 203 1 (.int (-1))) 204 1 (.int (-1))) := ⟨_, rfl⟩
  rw [← eX38] at hD34 hS37
  obtain ⟨M39, eM39⟩ : ∃ y : mM, y = (mclr 1 (I27, Q27, Z27)) := ⟨_, rfl⟩
  rw [← eM39] at hD34 hS37 hB35 hQ36
  obtain ⟨I39, Q39, Z39⟩ := M39
  change CD w 32 m0 h29 I39 Q39 Z39 X38 ow sb at hD34
  change sm tbc h29 I39 X38 at hS37
  change co h29 I39 ≤ B at hB35
  change ∀ l, l < 16 → (Q39 l).length ≤ List.length h29 at hQ36
  have hW := hD34.1.1
  have hWn : ∀ a, List.length h29 ≤ a → w a = true := fun a ha => (hD34.1.2.1 a ha).1
  have hF40 := fr_refl tbc h29
  have hln : 62 ≤ List.length h29 := sm_len hS37
  refine go_s (pc' := 34) (lo' := [some (.ref 2), some (.int 1), some (.int 1)]) rfl rfl rfl rfl ?_
  refine go_s (pc' := 12) rfl rfl rfl rfl ?_
  refine go_s (pc' := 13) rfl rfl rfl rfl ?_
  refine go_s (pc' := 14) (st' := [.int 4, .int 1]) rfl rfl rfl rfl ?_
  refine go_icmpP (t' := 35) (pc' := 15) rfl rfl rfl (fun (c : 4 ≤ (1 : Int32)) => absurd c (by decide)) (fun _ => ?_)
  refine go_s (pc' := 16) rfl rfl rfl rfl ?_
  refine go_sget (pc' := 17) (v := .ref 7) hS37 rfl rfl rfl (by decide) rfl rfl ?_
  refine go_s (pc' := 18) rfl rfl rfl rfl ?_
  refine go_s (pc' := 19) (st' := [.int 4, .int 1, .ref 7]) rfl rfl rfl rfl ?_
  refine go_s (pc' := 20) (st' := [.int 4, .ref 7]) rfl rfl rfl rfl ?_
  refine go_s (pc' := 21) rfl rfl rfl rfl ?_
  refine go_s (pc' := 22) (st' := [.int 5, .ref 7]) rfl rfl rfl rfl ?_
  refine go_sald (pc' := 23) (q := 5) (v := .ref 13) hS37 rfl rfl rfl rfl (by decide) rfl rfl ?_
  refine go_callV (pc' := 24) rfl rfl rfl (Nat.le_of_ble_eq_true rfl) rfl (sm_o hS37 rfl) rfl rfl rfl (ct_clear hS37 hW (l := 5) (by decide) (by omega)) (fun r h41 q42 => ?_)
  obtain ⟨rfl, hS43, hE44⟩ := q42
  have hF45 := fr_trans hF40 (fr_e hE44)
  have hD46 : CD w 32 m0 h41 (mclr 5 (I39, Q39, Z39)).1 (mclr 5 (I39, Q39, Z39)).2.1 (mclr 5 (I39, Q39, Z39)).2.2 (uX (uX (uX (uX (uX X38 200 5 .null) 201 5 .null) 202 5 (.int 0)) 203 5 (.int (-1))) 204 5 (.int (-1))) ow sb := CD_clr (CD_fr hD34 hF45)
  have hS49 : sm tbc h41 (mclr 5 (I39, Q39, Z39)).1 (uX (uX (uX (uX (uX X38 200 5 .null) 201 5 .null) 202 5 (.int 0)) 203 5 (.int (-1))) 204 5 (.int (-1))) := mclI_sm hS43
  have hB47 : co h41 (mclr 5 (I39, Q39, Z39)).1 ≤ B := by
    have z1 := co_fr (I := I39) (J := (mclr 5 (I39, Q39, Z39)).1) hF45 rfl
    have z2 := hB35
    omega
  have hQ48 : ∀ l, l < 16 → ((mclr 5 (I39, Q39, Z39)).2.1 l).length ≤ List.length h41 := mcl_len (fun l hl => Nat.le_trans (hQ36 l hl) hF45.1)
  obtain ⟨X50, eX50⟩ : ∃ y, y = (uX (uX (uX (uX (uX X38 200 5 .null) 201 5 .null) 202 5 (.int 0)) 203 5 (.int (-1))) 204 5 (.int (-1))) := ⟨_, rfl⟩
  rw [← eX50] at hD46 hS49
  obtain ⟨M51, eM51⟩ : ∃ y : mM, y = (mclr 5 (I39, Q39, Z39)) := ⟨_, rfl⟩
  rw [← eM51] at hD46 hS49 hB47 hQ48
  obtain ⟨I51, Q51, Z51⟩ := M51
  change CD w 32 m0 h41 I51 Q51 Z51 X50 ow sb at hD46
  change sm tbc h41 I51 X50 at hS49
  change co h41 I51 ≤ B at hB47
  change ∀ l, l < 16 → (Q51 l).length ≤ List.length h41 at hQ48
  have hW := hD46.1.1
  have hWn : ∀ a, List.length h41 ≤ a → w a = true := fun a ha => (hD46.1.2.1 a ha).1
  have hF52 := fr_refl tbc h41
  have hln : 62 ≤ List.length h41 := sm_len hS49
  refine go_s (pc' := 25) rfl rfl rfl rfl ?_
  refine go_sget (pc' := 26) (v := .ref 7) hS49 rfl rfl rfl (by decide) rfl rfl ?_
  refine go_s (pc' := 27) rfl rfl rfl rfl ?_
  refine go_s (pc' := 28) (st' := [.int 4, .int 1, .ref 7]) rfl rfl rfl rfl ?_
  refine go_s (pc' := 29) (st' := [.int 4, .ref 7]) rfl rfl rfl rfl ?_
  refine go_s (pc' := 30) rfl rfl rfl rfl ?_
  refine go_s (pc' := 31) (st' := [.int 5, .ref 7]) rfl rfl rfl rfl ?_
  refine go_sald (pc' := 32) (q := 5) (v := .ref 13) hS49 rfl rfl rfl rfl (by decide) rfl rfl ?_
  refine go_callV (pc' := 33) rfl rfl rfl (Nat.le_of_ble_eq_true rfl) rfl (sm_o hS49 rfl) rfl rfl rfl (ct_clear hS49 hW (l := 5) (by decide) (by omega)) (fun r h53 q54 => ?_)
  obtain ⟨rfl, hS55, hE56⟩ := q54
  have hF57 := fr_trans hF52 (fr_e hE56)
  have hD58 : CD w 32 m0 h53 (mclr 5 (I51, Q51, Z51)).1 (mclr 5 (I51, Q51, Z51)).2.1 (mclr 5 (I51, Q51, Z51)).2.2 (uX (uX (uX (uX (uX X50 200 5 .null) 201 5 .null) 202 5 (.int 0)) 203 5 (.int (-1))) 204 5 (.int (-1))) ow sb := CD_clr (CD_fr hD46 hF57)
  have hS61 : sm tbc h53 (mclr 5 (I51, Q51, Z51)).1 (uX (uX (uX (uX (uX X50 200 5 .null) 201 5 .null) 202 5 (.int 0)) 203 5 (.int (-1))) 204 5 (.int (-1))) := mclI_sm hS55
  have hB59 : co h53 (mclr 5 (I51, Q51, Z51)).1 ≤ B := by
    have z1 := co_fr (I := I51) (J := (mclr 5 (I51, Q51, Z51)).1) hF57 rfl
    have z2 := hB47
    omega
  have hQ60 : ∀ l, l < 16 → ((mclr 5 (I51, Q51, Z51)).2.1 l).length ≤ List.length h53 := mcl_len (fun l hl => Nat.le_trans (hQ48 l hl) hF57.1)
  obtain ⟨X62, eX62⟩ : ∃ y, y = (uX (uX (uX (uX (uX X50 200 5 .null) 201 5 .null) 202 5 (.int 0)) 203 5 (.int (-1))) 204 5 (.int (-1))) := ⟨_, rfl⟩
  rw [← eX62] at hD58 hS61
  obtain ⟨M63, eM63⟩ : ∃ y : mM, y = (mclr 5 (I51, Q51, Z51)) := ⟨_, rfl⟩
  rw [← eM63] at hD58 hS61 hB59 hQ60
  obtain ⟨I63, Q63, Z63⟩ := M63
  change CD w 32 m0 h53 I63 Q63 Z63 X62 ow sb at hD58
  change sm tbc h53 I63 X62 at hS61
  change co h53 I63 ≤ B at hB59
  change ∀ l, l < 16 → (Q63 l).length ≤ List.length h53 at hQ60
  have hW := hD58.1.1
  have hWn : ∀ a, List.length h53 ≤ a → w a = true := fun a ha => (hD58.1.2.1 a ha).1
  have hF64 := fr_refl tbc h53
  have hln : 62 ≤ List.length h53 := sm_len hS61
  refine go_s (pc' := 34) (lo' := [some (.ref 2), some (.int 1), some (.int 2)]) rfl rfl rfl rfl ?_
  refine go_s (pc' := 12) rfl rfl rfl rfl ?_
  refine go_s (pc' := 13) rfl rfl rfl rfl ?_
  refine go_s (pc' := 14) (st' := [.int 4, .int 2]) rfl rfl rfl rfl ?_
  refine go_icmpP (t' := 35) (pc' := 15) rfl rfl rfl (fun (c : 4 ≤ (2 : Int32)) => absurd c (by decide)) (fun _ => ?_)
  refine go_s (pc' := 16) rfl rfl rfl rfl ?_
  refine go_sget (pc' := 17) (v := .ref 7) hS61 rfl rfl rfl (by decide) rfl rfl ?_
  refine go_s (pc' := 18) rfl rfl rfl rfl ?_
  refine go_s (pc' := 19) (st' := [.int 4, .int 1, .ref 7]) rfl rfl rfl rfl ?_
  refine go_s (pc' := 20) (st' := [.int 4, .ref 7]) rfl rfl rfl rfl ?_
  refine go_s (pc' := 21) rfl rfl rfl rfl ?_
  refine go_s (pc' := 22) (st' := [.int 6, .ref 7]) rfl rfl rfl rfl ?_
  refine go_sald (pc' := 23) (q := 6) (v := .ref 14) hS61 rfl rfl rfl rfl (by decide) rfl rfl ?_
  refine go_callV (pc' := 24) rfl rfl rfl (Nat.le_of_ble_eq_true rfl) rfl (sm_o hS61 rfl) rfl rfl rfl (ct_clear hS61 hW (l := 6) (by decide) (by omega)) (fun r h65 q66 => ?_)
  obtain ⟨rfl, hS67, hE68⟩ := q66
  have hF69 := fr_trans hF64 (fr_e hE68)
  have hD70 : CD w 32 m0 h65 (mclr 6 (I63, Q63, Z63)).1 (mclr 6 (I63, Q63, Z63)).2.1 (mclr 6 (I63, Q63, Z63)).2.2 (uX (uX (uX (uX (uX X62 200 6 .null) 201 6 .null) 202 6 (.int 0)) 203 6 (.int (-1))) 204 6 (.int (-1))) ow sb := CD_clr (CD_fr hD58 hF69)
  have hS73 : sm tbc h65 (mclr 6 (I63, Q63, Z63)).1 (uX (uX (uX (uX (uX X62 200 6 .null) 201 6 .null) 202 6 (.int 0)) 203 6 (.int (-1))) 204 6 (.int (-1))) := mclI_sm hS67
  have hB71 : co h65 (mclr 6 (I63, Q63, Z63)).1 ≤ B := by
    have z1 := co_fr (I := I63) (J := (mclr 6 (I63, Q63, Z63)).1) hF69 rfl
    have z2 := hB59
    omega
  have hQ72 : ∀ l, l < 16 → ((mclr 6 (I63, Q63, Z63)).2.1 l).length ≤ List.length h65 := mcl_len (fun l hl => Nat.le_trans (hQ60 l hl) hF69.1)
  obtain ⟨X74, eX74⟩ : ∃ y, y = (uX (uX (uX (uX (uX X62 200 6 .null) 201 6 .null) 202 6 (.int 0)) 203 6 (.int (-1))) 204 6 (.int (-1))) := ⟨_, rfl⟩
  rw [← eX74] at hD70 hS73
  obtain ⟨M75, eM75⟩ : ∃ y : mM, y = (mclr 6 (I63, Q63, Z63)) := ⟨_, rfl⟩
  rw [← eM75] at hD70 hS73 hB71 hQ72
  obtain ⟨I75, Q75, Z75⟩ := M75
  change CD w 32 m0 h65 I75 Q75 Z75 X74 ow sb at hD70
  change sm tbc h65 I75 X74 at hS73
  change co h65 I75 ≤ B at hB71
  change ∀ l, l < 16 → (Q75 l).length ≤ List.length h65 at hQ72
  have hW := hD70.1.1
  have hWn : ∀ a, List.length h65 ≤ a → w a = true := fun a ha => (hD70.1.2.1 a ha).1
  have hF76 := fr_refl tbc h65
  have hln : 62 ≤ List.length h65 := sm_len hS73
  refine go_s (pc' := 25) rfl rfl rfl rfl ?_
  refine go_sget (pc' := 26) (v := .ref 7) hS73 rfl rfl rfl (by decide) rfl rfl ?_
  refine go_s (pc' := 27) rfl rfl rfl rfl ?_
  refine go_s (pc' := 28) (st' := [.int 4, .int 2, .ref 7]) rfl rfl rfl rfl ?_
  refine go_s (pc' := 29) (st' := [.int 8, .ref 7]) rfl rfl rfl rfl ?_
  refine go_s (pc' := 30) rfl rfl rfl rfl ?_
  refine go_s (pc' := 31) (st' := [.int 9, .ref 7]) rfl rfl rfl rfl ?_
  refine go_sald (pc' := 32) (q := 9) (v := .ref 17) hS73 rfl rfl rfl rfl (by decide) rfl rfl ?_
  refine go_callV (pc' := 33) rfl rfl rfl (Nat.le_of_ble_eq_true rfl) rfl (sm_o hS73 rfl) rfl rfl rfl (ct_clear hS73 hW (l := 9) (by decide) (by omega)) (fun r h77 q78 => ?_)
  obtain ⟨rfl, hS79, hE80⟩ := q78
  have hF81 := fr_trans hF76 (fr_e hE80)
  have hD82 : CD w 32 m0 h77 (mclr 9 (I75, Q75, Z75)).1 (mclr 9 (I75, Q75, Z75)).2.1 (mclr 9 (I75, Q75, Z75)).2.2 (uX (uX (uX (uX (uX X74 200 9 .null) 201 9 .null) 202 9 (.int 0)) 203 9 (.int (-1))) 204 9 (.int (-1))) ow sb := CD_clr (CD_fr hD70 hF81)
  have hS85 : sm tbc h77 (mclr 9 (I75, Q75, Z75)).1 (uX (uX (uX (uX (uX X74 200 9 .null) 201 9 .null) 202 9 (.int 0)) 203 9 (.int (-1))) 204 9 (.int (-1))) := mclI_sm hS79
  have hB83 : co h77 (mclr 9 (I75, Q75, Z75)).1 ≤ B := by
    have z1 := co_fr (I := I75) (J := (mclr 9 (I75, Q75, Z75)).1) hF81 rfl
    have z2 := hB71
    omega
  have hQ84 : ∀ l, l < 16 → ((mclr 9 (I75, Q75, Z75)).2.1 l).length ≤ List.length h77 := mcl_len (fun l hl => Nat.le_trans (hQ72 l hl) hF81.1)
  obtain ⟨X86, eX86⟩ : ∃ y, y = (uX (uX (uX (uX (uX X74 200 9 .null) 201 9 .null) 202 9 (.int 0)) 203 9 (.int (-1))) 204 9 (.int (-1))) := ⟨_, rfl⟩
  rw [← eX86] at hD82 hS85
  obtain ⟨M87, eM87⟩ : ∃ y : mM, y = (mclr 9 (I75, Q75, Z75)) := ⟨_, rfl⟩
  rw [← eM87] at hD82 hS85 hB83 hQ84
  obtain ⟨I87, Q87, Z87⟩ := M87
  change CD w 32 m0 h77 I87 Q87 Z87 X86 ow sb at hD82
  change sm tbc h77 I87 X86 at hS85
  change co h77 I87 ≤ B at hB83
  change ∀ l, l < 16 → (Q87 l).length ≤ List.length h77 at hQ84
  have hW := hD82.1.1
  have hWn : ∀ a, List.length h77 ≤ a → w a = true := fun a ha => (hD82.1.2.1 a ha).1
  have hF88 := fr_refl tbc h77
  have hln : 62 ≤ List.length h77 := sm_len hS85
  refine go_s (pc' := 34) (lo' := [some (.ref 2), some (.int 1), some (.int 3)]) rfl rfl rfl rfl ?_
  refine go_s (pc' := 12) rfl rfl rfl rfl ?_
  refine go_s (pc' := 13) rfl rfl rfl rfl ?_
  refine go_s (pc' := 14) (st' := [.int 4, .int 3]) rfl rfl rfl rfl ?_
  refine go_icmpP (t' := 35) (pc' := 15) rfl rfl rfl (fun (c : 4 ≤ (3 : Int32)) => absurd c (by decide)) (fun _ => ?_)
  refine go_s (pc' := 16) rfl rfl rfl rfl ?_
  refine go_sget (pc' := 17) (v := .ref 7) hS85 rfl rfl rfl (by decide) rfl rfl ?_
  refine go_s (pc' := 18) rfl rfl rfl rfl ?_
  refine go_s (pc' := 19) (st' := [.int 4, .int 1, .ref 7]) rfl rfl rfl rfl ?_
  refine go_s (pc' := 20) (st' := [.int 4, .ref 7]) rfl rfl rfl rfl ?_
  refine go_s (pc' := 21) rfl rfl rfl rfl ?_
  refine go_s (pc' := 22) (st' := [.int 7, .ref 7]) rfl rfl rfl rfl ?_
  refine go_sald (pc' := 23) (q := 7) (v := .ref 15) hS85 rfl rfl rfl rfl (by decide) rfl rfl ?_
  refine go_callV (pc' := 24) rfl rfl rfl (Nat.le_of_ble_eq_true rfl) rfl (sm_o hS85 rfl) rfl rfl rfl (ct_clear hS85 hW (l := 7) (by decide) (by omega)) (fun r h89 q90 => ?_)
  obtain ⟨rfl, hS91, hE92⟩ := q90
  have hF93 := fr_trans hF88 (fr_e hE92)
  have hD94 : CD w 32 m0 h89 (mclr 7 (I87, Q87, Z87)).1 (mclr 7 (I87, Q87, Z87)).2.1 (mclr 7 (I87, Q87, Z87)).2.2 (uX (uX (uX (uX (uX X86 200 7 .null) 201 7 .null) 202 7 (.int 0)) 203 7 (.int (-1))) 204 7 (.int (-1))) ow sb := CD_clr (CD_fr hD82 hF93)
  have hS97 : sm tbc h89 (mclr 7 (I87, Q87, Z87)).1 (uX (uX (uX (uX (uX X86 200 7 .null) 201 7 .null) 202 7 (.int 0)) 203 7 (.int (-1))) 204 7 (.int (-1))) := mclI_sm hS91
  have hB95 : co h89 (mclr 7 (I87, Q87, Z87)).1 ≤ B := by
    have z1 := co_fr (I := I87) (J := (mclr 7 (I87, Q87, Z87)).1) hF93 rfl
    have z2 := hB83
    omega
  have hQ96 : ∀ l, l < 16 → ((mclr 7 (I87, Q87, Z87)).2.1 l).length ≤ List.length h89 := mcl_len (fun l hl => Nat.le_trans (hQ84 l hl) hF93.1)
  obtain ⟨X98, eX98⟩ : ∃ y, y = (uX (uX (uX (uX (uX X86 200 7 .null) 201 7 .null) 202 7 (.int 0)) 203 7 (.int (-1))) 204 7 (.int (-1))) := ⟨_, rfl⟩
  rw [← eX98] at hD94 hS97
  obtain ⟨M99, eM99⟩ : ∃ y : mM, y = (mclr 7 (I87, Q87, Z87)) := ⟨_, rfl⟩
  rw [← eM99] at hD94 hS97 hB95 hQ96
  obtain ⟨I99, Q99, Z99⟩ := M99
  change CD w 32 m0 h89 I99 Q99 Z99 X98 ow sb at hD94
  change sm tbc h89 I99 X98 at hS97
  change co h89 I99 ≤ B at hB95
  change ∀ l, l < 16 → (Q99 l).length ≤ List.length h89 at hQ96
  have hW := hD94.1.1
  have hWn : ∀ a, List.length h89 ≤ a → w a = true := fun a ha => (hD94.1.2.1 a ha).1
  have hF100 := fr_refl tbc h89
  have hln : 62 ≤ List.length h89 := sm_len hS97
  refine go_s (pc' := 25) rfl rfl rfl rfl ?_
  refine go_sget (pc' := 26) (v := .ref 7) hS97 rfl rfl rfl (by decide) rfl rfl ?_
  refine go_s (pc' := 27) rfl rfl rfl rfl ?_
  refine go_s (pc' := 28) (st' := [.int 4, .int 3, .ref 7]) rfl rfl rfl rfl ?_
  refine go_s (pc' := 29) (st' := [.int 12, .ref 7]) rfl rfl rfl rfl ?_
  refine go_s (pc' := 30) rfl rfl rfl rfl ?_
  refine go_s (pc' := 31) (st' := [.int 13, .ref 7]) rfl rfl rfl rfl ?_
  refine go_sald (pc' := 32) (q := 13) (v := .ref 21) hS97 rfl rfl rfl rfl (by decide) rfl rfl ?_
  refine go_callV (pc' := 33) rfl rfl rfl (Nat.le_of_ble_eq_true rfl) rfl (sm_o hS97 rfl) rfl rfl rfl (ct_clear hS97 hW (l := 13) (by decide) (by omega)) (fun r h101 q102 => ?_)
  obtain ⟨rfl, hS103, hE104⟩ := q102
  have hF105 := fr_trans hF100 (fr_e hE104)
  have hD106 : CD w 32 m0 h101 (mclr 13 (I99, Q99, Z99)).1 (mclr 13 (I99, Q99, Z99)).2.1 (mclr 13 (I99, Q99, Z99)).2.2 (uX (uX (uX (uX (uX X98 200 13 .null) 201 13 .null) 202 13 (.int 0)) 203 13 (.int (-1))) 204 13 (.int (-1))) ow sb := CD_clr (CD_fr hD94 hF105)
  have hS109 : sm tbc h101 (mclr 13 (I99, Q99, Z99)).1 (uX (uX (uX (uX (uX X98 200 13 .null) 201 13 .null) 202 13 (.int 0)) 203 13 (.int (-1))) 204 13 (.int (-1))) := mclI_sm hS103
  have hB107 : co h101 (mclr 13 (I99, Q99, Z99)).1 ≤ B := by
    have z1 := co_fr (I := I99) (J := (mclr 13 (I99, Q99, Z99)).1) hF105 rfl
    have z2 := hB95
    omega
  have hQ108 : ∀ l, l < 16 → ((mclr 13 (I99, Q99, Z99)).2.1 l).length ≤ List.length h101 := mcl_len (fun l hl => Nat.le_trans (hQ96 l hl) hF105.1)
  obtain ⟨X110, eX110⟩ : ∃ y, y = (uX (uX (uX (uX (uX X98 200 13 .null) 201 13 .null) 202 13 (.int 0)) 203 13 (.int (-1))) 204 13 (.int (-1))) := ⟨_, rfl⟩
  rw [← eX110] at hD106 hS109
  obtain ⟨M111, eM111⟩ : ∃ y : mM, y = (mclr 13 (I99, Q99, Z99)) := ⟨_, rfl⟩
  rw [← eM111] at hD106 hS109 hB107 hQ108
  obtain ⟨I111, Q111, Z111⟩ := M111
  change CD w 32 m0 h101 I111 Q111 Z111 X110 ow sb at hD106
  change sm tbc h101 I111 X110 at hS109
  change co h101 I111 ≤ B at hB107
  change ∀ l, l < 16 → (Q111 l).length ≤ List.length h101 at hQ108
  have hW := hD106.1.1
  have hWn : ∀ a, List.length h101 ≤ a → w a = true := fun a ha => (hD106.1.2.1 a ha).1
  have hF112 := fr_refl tbc h101
  have hln : 62 ≤ List.length h101 := sm_len hS109
  refine go_s (pc' := 34) (lo' := [some (.ref 2), some (.int 1), some (.int 4)]) rfl rfl rfl rfl ?_
  refine go_s (pc' := 12) rfl rfl rfl rfl ?_
  refine go_s (pc' := 13) rfl rfl rfl rfl ?_
  refine go_s (pc' := 14) (st' := [.int 4, .int 4]) rfl rfl rfl rfl ?_
  refine go_icmpP (t' := 35) (pc' := 15) rfl rfl rfl (fun _ => ?_) (fun (c : ¬ (4 ≤ (4 : Int32))) => absurd (by decide) c)
  refine go_ret rfl rfl ?_
  have hms : mnst 1 (I, Q, Z) = (I111, Q111, Z111) := by
    unfold mnst mcl2
    rw [← eM15, ← eM27, ← eM39, ← eM51, ← eM63, ← eM75, ← eM87, ← eM99, ← eM111]
  have hC113 : CA w 32 m0 B h101 (I111, Q111, Z111) := ⟨X110, ow, sb, hS109, hD106, hB107, hQ108⟩
  rw [hms]
  exact ⟨rfl, hC113⟩
theorem cm_nst_2 {w : Nat → Bool} {d : Nat} {h : am_Hp} {m0 : mg} {B : Nat} {I : sm_I} {Q : mQ} {Z : mZ} (hC : CA w 32 m0 B h (I, Q, Z)) (hB2 : B < 2 ^ 26) (hd : 2 ≤ d) : am_Ev (am_prog w) d 100 [.ref 2, .int 2] h (fun r h' => r = none ∧ CA w 32 m0 B h' (mnst 2 (I, Q, Z))) := by
  obtain ⟨X, ow, sb, hS, hD, hB, hQ⟩ := hC
  change sm tbc h I X at hS
  change CD w 32 m0 h I Q Z X ow sb at hD
  change co h I ≤ B at hB
  change ∀ l, l < 16 → (Q l).length ≤ h.length at hQ
  have hW := hD.1.1
  have hWn : ∀ a, List.length h ≤ a → w a = true := fun a ha => (hD.1.2.1 a ha).1
  have hF1 := fr_refl tbc h
  have hln : 62 ≤ List.length h := sm_len hS
  obtain ⟨d, rfl⟩ : ∃ e, d = e + 1 := ⟨d - 1, by omega⟩
  refine ev_go rfl (Nat.le_of_ble_eq_true rfl) rfl ?_
  refine go_s (pc' := 1) rfl rfl rfl rfl ?_
  refine go_sget (pc' := 2) (v := .ref 3) hS rfl rfl rfl (by decide) rfl rfl ?_
  refine go_s (pc' := 3) rfl rfl rfl rfl ?_
  refine go_s (pc' := 4) (st' := [.int 0, .int 2, .ref 3]) rfl rfl rfl rfl ?_
  refine go_szast (pc' := 5) (q := 2) hS rfl rfl tbc_inj (Nat.le_of_ble_eq_true rfl) rfl (by decide) (by decide) rfl (hW _ rfl) rfl (fun h2 hS3 hE4 => ?_)
  have hF5 := fr_trans hF1 (fr_e hE4)
  refine go_s (pc' := 6) rfl rfl rfl rfl ?_
  refine go_sget (pc' := 7) (v := .ref 5) hS3 rfl rfl rfl (by decide) rfl rfl ?_
  refine go_s (pc' := 8) rfl rfl rfl rfl ?_
  refine go_s (pc' := 9) (st' := [.int 0, .int 2, .ref 5]) rfl rfl rfl rfl ?_
  refine go_siast (pc' := 10) (q := 2) hS3 rfl rfl tbc_inj (Nat.le_of_ble_eq_true rfl) rfl (by decide) (by decide) (hW _ rfl) rfl (fun h6 hS7 hE8 => ?_)
  have hF9 := fr_trans hF5 (fr_e hE8)
  refine go_s (pc' := 11) (st' := [.int 0]) rfl rfl rfl rfl ?_
  refine go_s (pc' := 12) (lo' := [some (.ref 2), some (.int 2), some (.int 0)]) rfl rfl rfl rfl ?_
  have hD10 : CD w 32 m0 h6 (mst0 2 (I, Q, Z)).1 (mst0 2 (I, Q, Z)).2.1 (mst0 2 (I, Q, Z)).2.2 (X) ow sb := CD_I (J := (mst0 2 (I, Q, Z)).1) (CD_up0 (p := 2) (CD_fr hD hF9)) ⟨rfl, rfl, rfl, rfl, rfl, rfl, rfl, rfl, rfl, rfl, rfl, rfl, rfl, rfl, rfl⟩
  have hS13 : sm tbc h6 (mst0 2 (I, Q, Z)).1 (X) := hS7
  have hB11 : co h6 (mst0 2 (I, Q, Z)).1 ≤ B := by
    have z1 := co_fr (I := I) (J := (mst0 2 (I, Q, Z)).1) hF9 rfl
    have z2 := hB
    omega
  have hQ12 : ∀ l, l < 16 → ((mst0 2 (I, Q, Z)).2.1 l).length ≤ List.length h6 := fun l hl => Nat.le_trans (hQ l hl) hF9.1
  obtain ⟨X14, eX14⟩ : ∃ y, y = (X) := ⟨_, rfl⟩
  rw [← eX14] at hD10 hS13
  obtain ⟨M15, eM15⟩ : ∃ y : mM, y = (mst0 2 (I, Q, Z)) := ⟨_, rfl⟩
  rw [← eM15] at hD10 hS13 hB11 hQ12
  obtain ⟨I15, Q15, Z15⟩ := M15
  change CD w 32 m0 h6 I15 Q15 Z15 X14 ow sb at hD10
  change sm tbc h6 I15 X14 at hS13
  change co h6 I15 ≤ B at hB11
  change ∀ l, l < 16 → (Q15 l).length ≤ List.length h6 at hQ12
  have hW := hD10.1.1
  have hWn : ∀ a, List.length h6 ≤ a → w a = true := fun a ha => (hD10.1.2.1 a ha).1
  have hF16 := fr_refl tbc h6
  have hln : 62 ≤ List.length h6 := sm_len hS13
  refine go_s (pc' := 13) rfl rfl rfl rfl ?_
  refine go_s (pc' := 14) (st' := [.int 4, .int 0]) rfl rfl rfl rfl ?_
  refine go_icmpP (t' := 35) (pc' := 15) rfl rfl rfl (fun (c : 4 ≤ (0 : Int32)) => absurd c (by decide)) (fun _ => ?_)
  refine go_s (pc' := 16) rfl rfl rfl rfl ?_
  refine go_sget (pc' := 17) (v := .ref 7) hS13 rfl rfl rfl (by decide) rfl rfl ?_
  refine go_s (pc' := 18) rfl rfl rfl rfl ?_
  refine go_s (pc' := 19) (st' := [.int 4, .int 2, .ref 7]) rfl rfl rfl rfl ?_
  refine go_s (pc' := 20) (st' := [.int 8, .ref 7]) rfl rfl rfl rfl ?_
  refine go_s (pc' := 21) rfl rfl rfl rfl ?_
  refine go_s (pc' := 22) (st' := [.int 8, .ref 7]) rfl rfl rfl rfl ?_
  refine go_sald (pc' := 23) (q := 8) (v := .ref 16) hS13 rfl rfl rfl rfl (by decide) rfl rfl ?_
  refine go_callV (pc' := 24) rfl rfl rfl (Nat.le_of_ble_eq_true rfl) rfl (sm_o hS13 rfl) rfl rfl rfl (ct_clear hS13 hW (l := 8) (by decide) (by omega)) (fun r h17 q18 => ?_)
  obtain ⟨rfl, hS19, hE20⟩ := q18
  have hF21 := fr_trans hF16 (fr_e hE20)
  have hD22 : CD w 32 m0 h17 (mclr 8 (I15, Q15, Z15)).1 (mclr 8 (I15, Q15, Z15)).2.1 (mclr 8 (I15, Q15, Z15)).2.2 (uX (uX (uX (uX (uX X14 200 8 .null) 201 8 .null) 202 8 (.int 0)) 203 8 (.int (-1))) 204 8 (.int (-1))) ow sb := CD_clr (CD_fr hD10 hF21)
  have hS25 : sm tbc h17 (mclr 8 (I15, Q15, Z15)).1 (uX (uX (uX (uX (uX X14 200 8 .null) 201 8 .null) 202 8 (.int 0)) 203 8 (.int (-1))) 204 8 (.int (-1))) := mclI_sm hS19
  have hB23 : co h17 (mclr 8 (I15, Q15, Z15)).1 ≤ B := by
    have z1 := co_fr (I := I15) (J := (mclr 8 (I15, Q15, Z15)).1) hF21 rfl
    have z2 := hB11
    omega
  have hQ24 : ∀ l, l < 16 → ((mclr 8 (I15, Q15, Z15)).2.1 l).length ≤ List.length h17 := mcl_len (fun l hl => Nat.le_trans (hQ12 l hl) hF21.1)
  obtain ⟨X26, eX26⟩ : ∃ y, y = (uX (uX (uX (uX (uX X14 200 8 .null) 201 8 .null) 202 8 (.int 0)) 203 8 (.int (-1))) 204 8 (.int (-1))) := ⟨_, rfl⟩
  rw [← eX26] at hD22 hS25
  obtain ⟨M27, eM27⟩ : ∃ y : mM, y = (mclr 8 (I15, Q15, Z15)) := ⟨_, rfl⟩
  rw [← eM27] at hD22 hS25 hB23 hQ24
  obtain ⟨I27, Q27, Z27⟩ := M27
  change CD w 32 m0 h17 I27 Q27 Z27 X26 ow sb at hD22
  change sm tbc h17 I27 X26 at hS25
  change co h17 I27 ≤ B at hB23
  change ∀ l, l < 16 → (Q27 l).length ≤ List.length h17 at hQ24
  have hW := hD22.1.1
  have hWn : ∀ a, List.length h17 ≤ a → w a = true := fun a ha => (hD22.1.2.1 a ha).1
  have hF28 := fr_refl tbc h17
  have hln : 62 ≤ List.length h17 := sm_len hS25
  refine go_s (pc' := 25) rfl rfl rfl rfl ?_
  refine go_sget (pc' := 26) (v := .ref 7) hS25 rfl rfl rfl (by decide) rfl rfl ?_
  refine go_s (pc' := 27) rfl rfl rfl rfl ?_
  refine go_s (pc' := 28) (st' := [.int 4, .int 0, .ref 7]) rfl rfl rfl rfl ?_
  refine go_s (pc' := 29) (st' := [.int 0, .ref 7]) rfl rfl rfl rfl ?_
  refine go_s (pc' := 30) rfl rfl rfl rfl ?_
  refine go_s (pc' := 31) (st' := [.int 2, .ref 7]) rfl rfl rfl rfl ?_
  refine go_sald (pc' := 32) (q := 2) (v := .ref 10) hS25 rfl rfl rfl rfl (by decide) rfl rfl ?_
  refine go_callV (pc' := 33) rfl rfl rfl (Nat.le_of_ble_eq_true rfl) rfl (sm_o hS25 rfl) rfl rfl rfl (ct_clear hS25 hW (l := 2) (by decide) (by omega)) (fun r h29 q30 => ?_)
  obtain ⟨rfl, hS31, hE32⟩ := q30
  have hF33 := fr_trans hF28 (fr_e hE32)
  have hD34 : CD w 32 m0 h29 (mclr 2 (I27, Q27, Z27)).1 (mclr 2 (I27, Q27, Z27)).2.1 (mclr 2 (I27, Q27, Z27)).2.2 (uX (uX (uX (uX (uX X26 200 2 .null) 201 2 .null) 202 2 (.int 0)) 203 2 (.int (-1))) 204 2 (.int (-1))) ow sb := CD_clr (CD_fr hD22 hF33)
  have hS37 : sm tbc h29 (mclr 2 (I27, Q27, Z27)).1 (uX (uX (uX (uX (uX X26 200 2 .null) 201 2 .null) 202 2 (.int 0)) 203 2 (.int (-1))) 204 2 (.int (-1))) := mclI_sm hS31
  have hB35 : co h29 (mclr 2 (I27, Q27, Z27)).1 ≤ B := by
    have z1 := co_fr (I := I27) (J := (mclr 2 (I27, Q27, Z27)).1) hF33 rfl
    have z2 := hB23
    omega
  have hQ36 : ∀ l, l < 16 → ((mclr 2 (I27, Q27, Z27)).2.1 l).length ≤ List.length h29 := mcl_len (fun l hl => Nat.le_trans (hQ24 l hl) hF33.1)
  obtain ⟨X38, eX38⟩ : ∃ y, y = (uX (uX (uX (uX (uX X26 200 2 .null) 201 2 .null) 202 2 (.int 0)) 203 2 (.int (-1))) 204 2 (.int (-1))) := ⟨_, rfl⟩
  rw [← eX38] at hD34 hS37
  obtain ⟨M39, eM39⟩ : ∃ y : mM, y = (mclr 2 (I27, Q27, Z27)) := ⟨_, rfl⟩
  rw [← eM39] at hD34 hS37 hB35 hQ36
  obtain ⟨I39, Q39, Z39⟩ := M39
  change CD w 32 m0 h29 I39 Q39 Z39 X38 ow sb at hD34
  change sm tbc h29 I39 X38 at hS37
  change co h29 I39 ≤ B at hB35
  change ∀ l, l < 16 → (Q39 l).length ≤ List.length h29 at hQ36
  have hW := hD34.1.1
  have hWn : ∀ a, List.length h29 ≤ a → w a = true := fun a ha => (hD34.1.2.1 a ha).1
  have hF40 := fr_refl tbc h29
  have hln : 62 ≤ List.length h29 := sm_len hS37
  refine go_s (pc' := 34) (lo' := [some (.ref 2), some (.int 2), some (.int 1)]) rfl rfl rfl rfl ?_
  refine go_s (pc' := 12) rfl rfl rfl rfl ?_
  refine go_s (pc' := 13) rfl rfl rfl rfl ?_
  refine go_s (pc' := 14) (st' := [.int 4, .int 1]) rfl rfl rfl rfl ?_
  refine go_icmpP (t' := 35) (pc' := 15) rfl rfl rfl (fun (c : 4 ≤ (1 : Int32)) => absurd c (by decide)) (fun _ => ?_)
  refine go_s (pc' := 16) rfl rfl rfl rfl ?_
  refine go_sget (pc' := 17) (v := .ref 7) hS37 rfl rfl rfl (by decide) rfl rfl ?_
  refine go_s (pc' := 18) rfl rfl rfl rfl ?_
  refine go_s (pc' := 19) (st' := [.int 4, .int 2, .ref 7]) rfl rfl rfl rfl ?_
  refine go_s (pc' := 20) (st' := [.int 8, .ref 7]) rfl rfl rfl rfl ?_
  refine go_s (pc' := 21) rfl rfl rfl rfl ?_
  refine go_s (pc' := 22) (st' := [.int 9, .ref 7]) rfl rfl rfl rfl ?_
  refine go_sald (pc' := 23) (q := 9) (v := .ref 17) hS37 rfl rfl rfl rfl (by decide) rfl rfl ?_
  refine go_callV (pc' := 24) rfl rfl rfl (Nat.le_of_ble_eq_true rfl) rfl (sm_o hS37 rfl) rfl rfl rfl (ct_clear hS37 hW (l := 9) (by decide) (by omega)) (fun r h41 q42 => ?_)
  obtain ⟨rfl, hS43, hE44⟩ := q42
  have hF45 := fr_trans hF40 (fr_e hE44)
  have hD46 : CD w 32 m0 h41 (mclr 9 (I39, Q39, Z39)).1 (mclr 9 (I39, Q39, Z39)).2.1 (mclr 9 (I39, Q39, Z39)).2.2 (uX (uX (uX (uX (uX X38 200 9 .null) 201 9 .null) 202 9 (.int 0)) 203 9 (.int (-1))) 204 9 (.int (-1))) ow sb := CD_clr (CD_fr hD34 hF45)
  have hS49 : sm tbc h41 (mclr 9 (I39, Q39, Z39)).1 (uX (uX (uX (uX (uX X38 200 9 .null) 201 9 .null) 202 9 (.int 0)) 203 9 (.int (-1))) 204 9 (.int (-1))) := mclI_sm hS43
  have hB47 : co h41 (mclr 9 (I39, Q39, Z39)).1 ≤ B := by
    have z1 := co_fr (I := I39) (J := (mclr 9 (I39, Q39, Z39)).1) hF45 rfl
    have z2 := hB35
    omega
  have hQ48 : ∀ l, l < 16 → ((mclr 9 (I39, Q39, Z39)).2.1 l).length ≤ List.length h41 := mcl_len (fun l hl => Nat.le_trans (hQ36 l hl) hF45.1)
  obtain ⟨X50, eX50⟩ : ∃ y, y = (uX (uX (uX (uX (uX X38 200 9 .null) 201 9 .null) 202 9 (.int 0)) 203 9 (.int (-1))) 204 9 (.int (-1))) := ⟨_, rfl⟩
  rw [← eX50] at hD46 hS49
  obtain ⟨M51, eM51⟩ : ∃ y : mM, y = (mclr 9 (I39, Q39, Z39)) := ⟨_, rfl⟩
  rw [← eM51] at hD46 hS49 hB47 hQ48
  obtain ⟨I51, Q51, Z51⟩ := M51
  change CD w 32 m0 h41 I51 Q51 Z51 X50 ow sb at hD46
  change sm tbc h41 I51 X50 at hS49
  change co h41 I51 ≤ B at hB47
  change ∀ l, l < 16 → (Q51 l).length ≤ List.length h41 at hQ48
  have hW := hD46.1.1
  have hWn : ∀ a, List.length h41 ≤ a → w a = true := fun a ha => (hD46.1.2.1 a ha).1
  have hF52 := fr_refl tbc h41
  have hln : 62 ≤ List.length h41 := sm_len hS49
  refine go_s (pc' := 25) rfl rfl rfl rfl ?_
  refine go_sget (pc' := 26) (v := .ref 7) hS49 rfl rfl rfl (by decide) rfl rfl ?_
  refine go_s (pc' := 27) rfl rfl rfl rfl ?_
  refine go_s (pc' := 28) (st' := [.int 4, .int 1, .ref 7]) rfl rfl rfl rfl ?_
  refine go_s (pc' := 29) (st' := [.int 4, .ref 7]) rfl rfl rfl rfl ?_
  refine go_s (pc' := 30) rfl rfl rfl rfl ?_
  refine go_s (pc' := 31) (st' := [.int 6, .ref 7]) rfl rfl rfl rfl ?_
  refine go_sald (pc' := 32) (q := 6) (v := .ref 14) hS49 rfl rfl rfl rfl (by decide) rfl rfl ?_
  refine go_callV (pc' := 33) rfl rfl rfl (Nat.le_of_ble_eq_true rfl) rfl (sm_o hS49 rfl) rfl rfl rfl (ct_clear hS49 hW (l := 6) (by decide) (by omega)) (fun r h53 q54 => ?_)
  obtain ⟨rfl, hS55, hE56⟩ := q54
  have hF57 := fr_trans hF52 (fr_e hE56)
  have hD58 : CD w 32 m0 h53 (mclr 6 (I51, Q51, Z51)).1 (mclr 6 (I51, Q51, Z51)).2.1 (mclr 6 (I51, Q51, Z51)).2.2 (uX (uX (uX (uX (uX X50 200 6 .null) 201 6 .null) 202 6 (.int 0)) 203 6 (.int (-1))) 204 6 (.int (-1))) ow sb := CD_clr (CD_fr hD46 hF57)
  have hS61 : sm tbc h53 (mclr 6 (I51, Q51, Z51)).1 (uX (uX (uX (uX (uX X50 200 6 .null) 201 6 .null) 202 6 (.int 0)) 203 6 (.int (-1))) 204 6 (.int (-1))) := mclI_sm hS55
  have hB59 : co h53 (mclr 6 (I51, Q51, Z51)).1 ≤ B := by
    have z1 := co_fr (I := I51) (J := (mclr 6 (I51, Q51, Z51)).1) hF57 rfl
    have z2 := hB47
    omega
  have hQ60 : ∀ l, l < 16 → ((mclr 6 (I51, Q51, Z51)).2.1 l).length ≤ List.length h53 := mcl_len (fun l hl => Nat.le_trans (hQ48 l hl) hF57.1)
  obtain ⟨X62, eX62⟩ : ∃ y, y = (uX (uX (uX (uX (uX X50 200 6 .null) 201 6 .null) 202 6 (.int 0)) 203 6 (.int (-1))) 204 6 (.int (-1))) := ⟨_, rfl⟩
  rw [← eX62] at hD58 hS61
  obtain ⟨M63, eM63⟩ : ∃ y : mM, y = (mclr 6 (I51, Q51, Z51)) := ⟨_, rfl⟩
  rw [← eM63] at hD58 hS61 hB59 hQ60
  obtain ⟨I63, Q63, Z63⟩ := M63
  change CD w 32 m0 h53 I63 Q63 Z63 X62 ow sb at hD58
  change sm tbc h53 I63 X62 at hS61
  change co h53 I63 ≤ B at hB59
  change ∀ l, l < 16 → (Q63 l).length ≤ List.length h53 at hQ60
  have hW := hD58.1.1
  have hWn : ∀ a, List.length h53 ≤ a → w a = true := fun a ha => (hD58.1.2.1 a ha).1
  have hF64 := fr_refl tbc h53
  have hln : 62 ≤ List.length h53 := sm_len hS61
  refine go_s (pc' := 34) (lo' := [some (.ref 2), some (.int 2), some (.int 2)]) rfl rfl rfl rfl ?_
  refine go_s (pc' := 12) rfl rfl rfl rfl ?_
  refine go_s (pc' := 13) rfl rfl rfl rfl ?_
  refine go_s (pc' := 14) (st' := [.int 4, .int 2]) rfl rfl rfl rfl ?_
  refine go_icmpP (t' := 35) (pc' := 15) rfl rfl rfl (fun (c : 4 ≤ (2 : Int32)) => absurd c (by decide)) (fun _ => ?_)
  refine go_s (pc' := 16) rfl rfl rfl rfl ?_
  refine go_sget (pc' := 17) (v := .ref 7) hS61 rfl rfl rfl (by decide) rfl rfl ?_
  refine go_s (pc' := 18) rfl rfl rfl rfl ?_
  refine go_s (pc' := 19) (st' := [.int 4, .int 2, .ref 7]) rfl rfl rfl rfl ?_
  refine go_s (pc' := 20) (st' := [.int 8, .ref 7]) rfl rfl rfl rfl ?_
  refine go_s (pc' := 21) rfl rfl rfl rfl ?_
  refine go_s (pc' := 22) (st' := [.int 10, .ref 7]) rfl rfl rfl rfl ?_
  refine go_sald (pc' := 23) (q := 10) (v := .ref 18) hS61 rfl rfl rfl rfl (by decide) rfl rfl ?_
  refine go_callV (pc' := 24) rfl rfl rfl (Nat.le_of_ble_eq_true rfl) rfl (sm_o hS61 rfl) rfl rfl rfl (ct_clear hS61 hW (l := 10) (by decide) (by omega)) (fun r h65 q66 => ?_)
  obtain ⟨rfl, hS67, hE68⟩ := q66
  have hF69 := fr_trans hF64 (fr_e hE68)
  have hD70 : CD w 32 m0 h65 (mclr 10 (I63, Q63, Z63)).1 (mclr 10 (I63, Q63, Z63)).2.1 (mclr 10 (I63, Q63, Z63)).2.2 (uX (uX (uX (uX (uX X62 200 10 .null) 201 10 .null) 202 10 (.int 0)) 203 10 (.int (-1))) 204 10 (.int (-1))) ow sb := CD_clr (CD_fr hD58 hF69)
  have hS73 : sm tbc h65 (mclr 10 (I63, Q63, Z63)).1 (uX (uX (uX (uX (uX X62 200 10 .null) 201 10 .null) 202 10 (.int 0)) 203 10 (.int (-1))) 204 10 (.int (-1))) := mclI_sm hS67
  have hB71 : co h65 (mclr 10 (I63, Q63, Z63)).1 ≤ B := by
    have z1 := co_fr (I := I63) (J := (mclr 10 (I63, Q63, Z63)).1) hF69 rfl
    have z2 := hB59
    omega
  have hQ72 : ∀ l, l < 16 → ((mclr 10 (I63, Q63, Z63)).2.1 l).length ≤ List.length h65 := mcl_len (fun l hl => Nat.le_trans (hQ60 l hl) hF69.1)
  obtain ⟨X74, eX74⟩ : ∃ y, y = (uX (uX (uX (uX (uX X62 200 10 .null) 201 10 .null) 202 10 (.int 0)) 203 10 (.int (-1))) 204 10 (.int (-1))) := ⟨_, rfl⟩
  rw [← eX74] at hD70 hS73
  obtain ⟨M75, eM75⟩ : ∃ y : mM, y = (mclr 10 (I63, Q63, Z63)) := ⟨_, rfl⟩
  rw [← eM75] at hD70 hS73 hB71 hQ72
  obtain ⟨I75, Q75, Z75⟩ := M75
  change CD w 32 m0 h65 I75 Q75 Z75 X74 ow sb at hD70
  change sm tbc h65 I75 X74 at hS73
  change co h65 I75 ≤ B at hB71
  change ∀ l, l < 16 → (Q75 l).length ≤ List.length h65 at hQ72
  have hW := hD70.1.1
  have hWn : ∀ a, List.length h65 ≤ a → w a = true := fun a ha => (hD70.1.2.1 a ha).1
  have hF76 := fr_refl tbc h65
  have hln : 62 ≤ List.length h65 := sm_len hS73
  refine go_s (pc' := 25) rfl rfl rfl rfl ?_
  refine go_sget (pc' := 26) (v := .ref 7) hS73 rfl rfl rfl (by decide) rfl rfl ?_
  refine go_s (pc' := 27) rfl rfl rfl rfl ?_
  refine go_s (pc' := 28) (st' := [.int 4, .int 2, .ref 7]) rfl rfl rfl rfl ?_
  refine go_s (pc' := 29) (st' := [.int 8, .ref 7]) rfl rfl rfl rfl ?_
  refine go_s (pc' := 30) rfl rfl rfl rfl ?_
  refine go_s (pc' := 31) (st' := [.int 10, .ref 7]) rfl rfl rfl rfl ?_
  refine go_sald (pc' := 32) (q := 10) (v := .ref 18) hS73 rfl rfl rfl rfl (by decide) rfl rfl ?_
  refine go_callV (pc' := 33) rfl rfl rfl (Nat.le_of_ble_eq_true rfl) rfl (sm_o hS73 rfl) rfl rfl rfl (ct_clear hS73 hW (l := 10) (by decide) (by omega)) (fun r h77 q78 => ?_)
  obtain ⟨rfl, hS79, hE80⟩ := q78
  have hF81 := fr_trans hF76 (fr_e hE80)
  have hD82 : CD w 32 m0 h77 (mclr 10 (I75, Q75, Z75)).1 (mclr 10 (I75, Q75, Z75)).2.1 (mclr 10 (I75, Q75, Z75)).2.2 (uX (uX (uX (uX (uX X74 200 10 .null) 201 10 .null) 202 10 (.int 0)) 203 10 (.int (-1))) 204 10 (.int (-1))) ow sb := CD_clr (CD_fr hD70 hF81)
  have hS85 : sm tbc h77 (mclr 10 (I75, Q75, Z75)).1 (uX (uX (uX (uX (uX X74 200 10 .null) 201 10 .null) 202 10 (.int 0)) 203 10 (.int (-1))) 204 10 (.int (-1))) := mclI_sm hS79
  have hB83 : co h77 (mclr 10 (I75, Q75, Z75)).1 ≤ B := by
    have z1 := co_fr (I := I75) (J := (mclr 10 (I75, Q75, Z75)).1) hF81 rfl
    have z2 := hB71
    omega
  have hQ84 : ∀ l, l < 16 → ((mclr 10 (I75, Q75, Z75)).2.1 l).length ≤ List.length h77 := mcl_len (fun l hl => Nat.le_trans (hQ72 l hl) hF81.1)
  obtain ⟨X86, eX86⟩ : ∃ y, y = (uX (uX (uX (uX (uX X74 200 10 .null) 201 10 .null) 202 10 (.int 0)) 203 10 (.int (-1))) 204 10 (.int (-1))) := ⟨_, rfl⟩
  rw [← eX86] at hD82 hS85
  obtain ⟨M87, eM87⟩ : ∃ y : mM, y = (mclr 10 (I75, Q75, Z75)) := ⟨_, rfl⟩
  rw [← eM87] at hD82 hS85 hB83 hQ84
  obtain ⟨I87, Q87, Z87⟩ := M87
  change CD w 32 m0 h77 I87 Q87 Z87 X86 ow sb at hD82
  change sm tbc h77 I87 X86 at hS85
  change co h77 I87 ≤ B at hB83
  change ∀ l, l < 16 → (Q87 l).length ≤ List.length h77 at hQ84
  have hW := hD82.1.1
  have hWn : ∀ a, List.length h77 ≤ a → w a = true := fun a ha => (hD82.1.2.1 a ha).1
  have hF88 := fr_refl tbc h77
  have hln : 62 ≤ List.length h77 := sm_len hS85
  refine go_s (pc' := 34) (lo' := [some (.ref 2), some (.int 2), some (.int 3)]) rfl rfl rfl rfl ?_
  refine go_s (pc' := 12) rfl rfl rfl rfl ?_
  refine go_s (pc' := 13) rfl rfl rfl rfl ?_
  refine go_s (pc' := 14) (st' := [.int 4, .int 3]) rfl rfl rfl rfl ?_
  refine go_icmpP (t' := 35) (pc' := 15) rfl rfl rfl (fun (c : 4 ≤ (3 : Int32)) => absurd c (by decide)) (fun _ => ?_)
  refine go_s (pc' := 16) rfl rfl rfl rfl ?_
  refine go_sget (pc' := 17) (v := .ref 7) hS85 rfl rfl rfl (by decide) rfl rfl ?_
  refine go_s (pc' := 18) rfl rfl rfl rfl ?_
  refine go_s (pc' := 19) (st' := [.int 4, .int 2, .ref 7]) rfl rfl rfl rfl ?_
  refine go_s (pc' := 20) (st' := [.int 8, .ref 7]) rfl rfl rfl rfl ?_
  refine go_s (pc' := 21) rfl rfl rfl rfl ?_
  refine go_s (pc' := 22) (st' := [.int 11, .ref 7]) rfl rfl rfl rfl ?_
  refine go_sald (pc' := 23) (q := 11) (v := .ref 19) hS85 rfl rfl rfl rfl (by decide) rfl rfl ?_
  refine go_callV (pc' := 24) rfl rfl rfl (Nat.le_of_ble_eq_true rfl) rfl (sm_o hS85 rfl) rfl rfl rfl (ct_clear hS85 hW (l := 11) (by decide) (by omega)) (fun r h89 q90 => ?_)
  obtain ⟨rfl, hS91, hE92⟩ := q90
  have hF93 := fr_trans hF88 (fr_e hE92)
  have hD94 : CD w 32 m0 h89 (mclr 11 (I87, Q87, Z87)).1 (mclr 11 (I87, Q87, Z87)).2.1 (mclr 11 (I87, Q87, Z87)).2.2 (uX (uX (uX (uX (uX X86 200 11 .null) 201 11 .null) 202 11 (.int 0)) 203 11 (.int (-1))) 204 11 (.int (-1))) ow sb := CD_clr (CD_fr hD82 hF93)
  have hS97 : sm tbc h89 (mclr 11 (I87, Q87, Z87)).1 (uX (uX (uX (uX (uX X86 200 11 .null) 201 11 .null) 202 11 (.int 0)) 203 11 (.int (-1))) 204 11 (.int (-1))) := mclI_sm hS91
  have hB95 : co h89 (mclr 11 (I87, Q87, Z87)).1 ≤ B := by
    have z1 := co_fr (I := I87) (J := (mclr 11 (I87, Q87, Z87)).1) hF93 rfl
    have z2 := hB83
    omega
  have hQ96 : ∀ l, l < 16 → ((mclr 11 (I87, Q87, Z87)).2.1 l).length ≤ List.length h89 := mcl_len (fun l hl => Nat.le_trans (hQ84 l hl) hF93.1)
  obtain ⟨X98, eX98⟩ : ∃ y, y = (uX (uX (uX (uX (uX X86 200 11 .null) 201 11 .null) 202 11 (.int 0)) 203 11 (.int (-1))) 204 11 (.int (-1))) := ⟨_, rfl⟩
  rw [← eX98] at hD94 hS97
  obtain ⟨M99, eM99⟩ : ∃ y : mM, y = (mclr 11 (I87, Q87, Z87)) := ⟨_, rfl⟩
  rw [← eM99] at hD94 hS97 hB95 hQ96
  obtain ⟨I99, Q99, Z99⟩ := M99
  change CD w 32 m0 h89 I99 Q99 Z99 X98 ow sb at hD94
  change sm tbc h89 I99 X98 at hS97
  change co h89 I99 ≤ B at hB95
  change ∀ l, l < 16 → (Q99 l).length ≤ List.length h89 at hQ96
  have hW := hD94.1.1
  have hWn : ∀ a, List.length h89 ≤ a → w a = true := fun a ha => (hD94.1.2.1 a ha).1
  have hF100 := fr_refl tbc h89
  have hln : 62 ≤ List.length h89 := sm_len hS97
  refine go_s (pc' := 25) rfl rfl rfl rfl ?_
  refine go_sget (pc' := 26) (v := .ref 7) hS97 rfl rfl rfl (by decide) rfl rfl ?_
  refine go_s (pc' := 27) rfl rfl rfl rfl ?_
  refine go_s (pc' := 28) (st' := [.int 4, .int 3, .ref 7]) rfl rfl rfl rfl ?_
  refine go_s (pc' := 29) (st' := [.int 12, .ref 7]) rfl rfl rfl rfl ?_
  refine go_s (pc' := 30) rfl rfl rfl rfl ?_
  refine go_s (pc' := 31) (st' := [.int 14, .ref 7]) rfl rfl rfl rfl ?_
  refine go_sald (pc' := 32) (q := 14) (v := .ref 22) hS97 rfl rfl rfl rfl (by decide) rfl rfl ?_
  refine go_callV (pc' := 33) rfl rfl rfl (Nat.le_of_ble_eq_true rfl) rfl (sm_o hS97 rfl) rfl rfl rfl (ct_clear hS97 hW (l := 14) (by decide) (by omega)) (fun r h101 q102 => ?_)
  obtain ⟨rfl, hS103, hE104⟩ := q102
  have hF105 := fr_trans hF100 (fr_e hE104)
  have hD106 : CD w 32 m0 h101 (mclr 14 (I99, Q99, Z99)).1 (mclr 14 (I99, Q99, Z99)).2.1 (mclr 14 (I99, Q99, Z99)).2.2 (uX (uX (uX (uX (uX X98 200 14 .null) 201 14 .null) 202 14 (.int 0)) 203 14 (.int (-1))) 204 14 (.int (-1))) ow sb := CD_clr (CD_fr hD94 hF105)
  have hS109 : sm tbc h101 (mclr 14 (I99, Q99, Z99)).1 (uX (uX (uX (uX (uX X98 200 14 .null) 201 14 .null) 202 14 (.int 0)) 203 14 (.int (-1))) 204 14 (.int (-1))) := mclI_sm hS103
  have hB107 : co h101 (mclr 14 (I99, Q99, Z99)).1 ≤ B := by
    have z1 := co_fr (I := I99) (J := (mclr 14 (I99, Q99, Z99)).1) hF105 rfl
    have z2 := hB95
    omega
  have hQ108 : ∀ l, l < 16 → ((mclr 14 (I99, Q99, Z99)).2.1 l).length ≤ List.length h101 := mcl_len (fun l hl => Nat.le_trans (hQ96 l hl) hF105.1)
  obtain ⟨X110, eX110⟩ : ∃ y, y = (uX (uX (uX (uX (uX X98 200 14 .null) 201 14 .null) 202 14 (.int 0)) 203 14 (.int (-1))) 204 14 (.int (-1))) := ⟨_, rfl⟩
  rw [← eX110] at hD106 hS109
  obtain ⟨M111, eM111⟩ : ∃ y : mM, y = (mclr 14 (I99, Q99, Z99)) := ⟨_, rfl⟩
  rw [← eM111] at hD106 hS109 hB107 hQ108
  obtain ⟨I111, Q111, Z111⟩ := M111
  change CD w 32 m0 h101 I111 Q111 Z111 X110 ow sb at hD106
  change sm tbc h101 I111 X110 at hS109
  change co h101 I111 ≤ B at hB107
  change ∀ l, l < 16 → (Q111 l).length ≤ List.length h101 at hQ108
  have hW := hD106.1.1
  have hWn : ∀ a, List.length h101 ≤ a → w a = true := fun a ha => (hD106.1.2.1 a ha).1
  have hF112 := fr_refl tbc h101
  have hln : 62 ≤ List.length h101 := sm_len hS109
  refine go_s (pc' := 34) (lo' := [some (.ref 2), some (.int 2), some (.int 4)]) rfl rfl rfl rfl ?_
  refine go_s (pc' := 12) rfl rfl rfl rfl ?_
  refine go_s (pc' := 13) rfl rfl rfl rfl ?_
  refine go_s (pc' := 14) (st' := [.int 4, .int 4]) rfl rfl rfl rfl ?_
  refine go_icmpP (t' := 35) (pc' := 15) rfl rfl rfl (fun _ => ?_) (fun (c : ¬ (4 ≤ (4 : Int32))) => absurd (by decide) c)
  refine go_ret rfl rfl ?_
  have hms : mnst 2 (I, Q, Z) = (I111, Q111, Z111) := by
    unfold mnst mcl2
    rw [← eM15, ← eM27, ← eM39, ← eM51, ← eM63, ← eM75, ← eM87, ← eM99, ← eM111]
  have hC113 : CA w 32 m0 B h101 (I111, Q111, Z111) := ⟨X110, ow, sb, hS109, hD106, hB107, hQ108⟩
  rw [hms]
  exact ⟨rfl, hC113⟩
theorem cm_nst_3 {w : Nat → Bool} {d : Nat} {h : am_Hp} {m0 : mg} {B : Nat} {I : sm_I} {Q : mQ} {Z : mZ} (hC : CA w 32 m0 B h (I, Q, Z)) (hB2 : B < 2 ^ 26) (hd : 2 ≤ d) : am_Ev (am_prog w) d 100 [.ref 2, .int 3] h (fun r h' => r = none ∧ CA w 32 m0 B h' (mnst 3 (I, Q, Z))) := by
  obtain ⟨X, ow, sb, hS, hD, hB, hQ⟩ := hC
  change sm tbc h I X at hS
  change CD w 32 m0 h I Q Z X ow sb at hD
  change co h I ≤ B at hB
  change ∀ l, l < 16 → (Q l).length ≤ h.length at hQ
  have hW := hD.1.1
  have hWn : ∀ a, List.length h ≤ a → w a = true := fun a ha => (hD.1.2.1 a ha).1
  have hF1 := fr_refl tbc h
  have hln : 62 ≤ List.length h := sm_len hS
  obtain ⟨d, rfl⟩ : ∃ e, d = e + 1 := ⟨d - 1, by omega⟩
  refine ev_go rfl (Nat.le_of_ble_eq_true rfl) rfl ?_
  refine go_s (pc' := 1) rfl rfl rfl rfl ?_
  refine go_sget (pc' := 2) (v := .ref 3) hS rfl rfl rfl (by decide) rfl rfl ?_
  refine go_s (pc' := 3) rfl rfl rfl rfl ?_
  refine go_s (pc' := 4) (st' := [.int 0, .int 3, .ref 3]) rfl rfl rfl rfl ?_
  refine go_szast (pc' := 5) (q := 3) hS rfl rfl tbc_inj (Nat.le_of_ble_eq_true rfl) rfl (by decide) (by decide) rfl (hW _ rfl) rfl (fun h2 hS3 hE4 => ?_)
  have hF5 := fr_trans hF1 (fr_e hE4)
  refine go_s (pc' := 6) rfl rfl rfl rfl ?_
  refine go_sget (pc' := 7) (v := .ref 5) hS3 rfl rfl rfl (by decide) rfl rfl ?_
  refine go_s (pc' := 8) rfl rfl rfl rfl ?_
  refine go_s (pc' := 9) (st' := [.int 0, .int 3, .ref 5]) rfl rfl rfl rfl ?_
  refine go_siast (pc' := 10) (q := 3) hS3 rfl rfl tbc_inj (Nat.le_of_ble_eq_true rfl) rfl (by decide) (by decide) (hW _ rfl) rfl (fun h6 hS7 hE8 => ?_)
  have hF9 := fr_trans hF5 (fr_e hE8)
  refine go_s (pc' := 11) (st' := [.int 0]) rfl rfl rfl rfl ?_
  refine go_s (pc' := 12) (lo' := [some (.ref 2), some (.int 3), some (.int 0)]) rfl rfl rfl rfl ?_
  have hD10 : CD w 32 m0 h6 (mst0 3 (I, Q, Z)).1 (mst0 3 (I, Q, Z)).2.1 (mst0 3 (I, Q, Z)).2.2 (X) ow sb := CD_I (J := (mst0 3 (I, Q, Z)).1) (CD_up0 (p := 3) (CD_fr hD hF9)) ⟨rfl, rfl, rfl, rfl, rfl, rfl, rfl, rfl, rfl, rfl, rfl, rfl, rfl, rfl, rfl⟩
  have hS13 : sm tbc h6 (mst0 3 (I, Q, Z)).1 (X) := hS7
  have hB11 : co h6 (mst0 3 (I, Q, Z)).1 ≤ B := by
    have z1 := co_fr (I := I) (J := (mst0 3 (I, Q, Z)).1) hF9 rfl
    have z2 := hB
    omega
  have hQ12 : ∀ l, l < 16 → ((mst0 3 (I, Q, Z)).2.1 l).length ≤ List.length h6 := fun l hl => Nat.le_trans (hQ l hl) hF9.1
  obtain ⟨X14, eX14⟩ : ∃ y, y = (X) := ⟨_, rfl⟩
  rw [← eX14] at hD10 hS13
  obtain ⟨M15, eM15⟩ : ∃ y : mM, y = (mst0 3 (I, Q, Z)) := ⟨_, rfl⟩
  rw [← eM15] at hD10 hS13 hB11 hQ12
  obtain ⟨I15, Q15, Z15⟩ := M15
  change CD w 32 m0 h6 I15 Q15 Z15 X14 ow sb at hD10
  change sm tbc h6 I15 X14 at hS13
  change co h6 I15 ≤ B at hB11
  change ∀ l, l < 16 → (Q15 l).length ≤ List.length h6 at hQ12
  have hW := hD10.1.1
  have hWn : ∀ a, List.length h6 ≤ a → w a = true := fun a ha => (hD10.1.2.1 a ha).1
  have hF16 := fr_refl tbc h6
  have hln : 62 ≤ List.length h6 := sm_len hS13
  refine go_s (pc' := 13) rfl rfl rfl rfl ?_
  refine go_s (pc' := 14) (st' := [.int 4, .int 0]) rfl rfl rfl rfl ?_
  refine go_icmpP (t' := 35) (pc' := 15) rfl rfl rfl (fun (c : 4 ≤ (0 : Int32)) => absurd c (by decide)) (fun _ => ?_)
  refine go_s (pc' := 16) rfl rfl rfl rfl ?_
  refine go_sget (pc' := 17) (v := .ref 7) hS13 rfl rfl rfl (by decide) rfl rfl ?_
  refine go_s (pc' := 18) rfl rfl rfl rfl ?_
  refine go_s (pc' := 19) (st' := [.int 4, .int 3, .ref 7]) rfl rfl rfl rfl ?_
  refine go_s (pc' := 20) (st' := [.int 12, .ref 7]) rfl rfl rfl rfl ?_
  refine go_s (pc' := 21) rfl rfl rfl rfl ?_
  refine go_s (pc' := 22) (st' := [.int 12, .ref 7]) rfl rfl rfl rfl ?_
  refine go_sald (pc' := 23) (q := 12) (v := .ref 20) hS13 rfl rfl rfl rfl (by decide) rfl rfl ?_
  refine go_callV (pc' := 24) rfl rfl rfl (Nat.le_of_ble_eq_true rfl) rfl (sm_o hS13 rfl) rfl rfl rfl (ct_clear hS13 hW (l := 12) (by decide) (by omega)) (fun r h17 q18 => ?_)
  obtain ⟨rfl, hS19, hE20⟩ := q18
  have hF21 := fr_trans hF16 (fr_e hE20)
  have hD22 : CD w 32 m0 h17 (mclr 12 (I15, Q15, Z15)).1 (mclr 12 (I15, Q15, Z15)).2.1 (mclr 12 (I15, Q15, Z15)).2.2 (uX (uX (uX (uX (uX X14 200 12 .null) 201 12 .null) 202 12 (.int 0)) 203 12 (.int (-1))) 204 12 (.int (-1))) ow sb := CD_clr (CD_fr hD10 hF21)
  have hS25 : sm tbc h17 (mclr 12 (I15, Q15, Z15)).1 (uX (uX (uX (uX (uX X14 200 12 .null) 201 12 .null) 202 12 (.int 0)) 203 12 (.int (-1))) 204 12 (.int (-1))) := mclI_sm hS19
  have hB23 : co h17 (mclr 12 (I15, Q15, Z15)).1 ≤ B := by
    have z1 := co_fr (I := I15) (J := (mclr 12 (I15, Q15, Z15)).1) hF21 rfl
    have z2 := hB11
    omega
  have hQ24 : ∀ l, l < 16 → ((mclr 12 (I15, Q15, Z15)).2.1 l).length ≤ List.length h17 := mcl_len (fun l hl => Nat.le_trans (hQ12 l hl) hF21.1)
  obtain ⟨X26, eX26⟩ : ∃ y, y = (uX (uX (uX (uX (uX X14 200 12 .null) 201 12 .null) 202 12 (.int 0)) 203 12 (.int (-1))) 204 12 (.int (-1))) := ⟨_, rfl⟩
  rw [← eX26] at hD22 hS25
  obtain ⟨M27, eM27⟩ : ∃ y : mM, y = (mclr 12 (I15, Q15, Z15)) := ⟨_, rfl⟩
  rw [← eM27] at hD22 hS25 hB23 hQ24
  obtain ⟨I27, Q27, Z27⟩ := M27
  change CD w 32 m0 h17 I27 Q27 Z27 X26 ow sb at hD22
  change sm tbc h17 I27 X26 at hS25
  change co h17 I27 ≤ B at hB23
  change ∀ l, l < 16 → (Q27 l).length ≤ List.length h17 at hQ24
  have hW := hD22.1.1
  have hWn : ∀ a, List.length h17 ≤ a → w a = true := fun a ha => (hD22.1.2.1 a ha).1
  have hF28 := fr_refl tbc h17
  have hln : 62 ≤ List.length h17 := sm_len hS25
  refine go_s (pc' := 25) rfl rfl rfl rfl ?_
  refine go_sget (pc' := 26) (v := .ref 7) hS25 rfl rfl rfl (by decide) rfl rfl ?_
  refine go_s (pc' := 27) rfl rfl rfl rfl ?_
  refine go_s (pc' := 28) (st' := [.int 4, .int 0, .ref 7]) rfl rfl rfl rfl ?_
  refine go_s (pc' := 29) (st' := [.int 0, .ref 7]) rfl rfl rfl rfl ?_
  refine go_s (pc' := 30) rfl rfl rfl rfl ?_
  refine go_s (pc' := 31) (st' := [.int 3, .ref 7]) rfl rfl rfl rfl ?_
  refine go_sald (pc' := 32) (q := 3) (v := .ref 11) hS25 rfl rfl rfl rfl (by decide) rfl rfl ?_
  refine go_callV (pc' := 33) rfl rfl rfl (Nat.le_of_ble_eq_true rfl) rfl (sm_o hS25 rfl) rfl rfl rfl (ct_clear hS25 hW (l := 3) (by decide) (by omega)) (fun r h29 q30 => ?_)
  obtain ⟨rfl, hS31, hE32⟩ := q30
  have hF33 := fr_trans hF28 (fr_e hE32)
  have hD34 : CD w 32 m0 h29 (mclr 3 (I27, Q27, Z27)).1 (mclr 3 (I27, Q27, Z27)).2.1 (mclr 3 (I27, Q27, Z27)).2.2 (uX (uX (uX (uX (uX X26 200 3 .null) 201 3 .null) 202 3 (.int 0)) 203 3 (.int (-1))) 204 3 (.int (-1))) ow sb := CD_clr (CD_fr hD22 hF33)
  have hS37 : sm tbc h29 (mclr 3 (I27, Q27, Z27)).1 (uX (uX (uX (uX (uX X26 200 3 .null) 201 3 .null) 202 3 (.int 0)) 203 3 (.int (-1))) 204 3 (.int (-1))) := mclI_sm hS31
  have hB35 : co h29 (mclr 3 (I27, Q27, Z27)).1 ≤ B := by
    have z1 := co_fr (I := I27) (J := (mclr 3 (I27, Q27, Z27)).1) hF33 rfl
    have z2 := hB23
    omega
  have hQ36 : ∀ l, l < 16 → ((mclr 3 (I27, Q27, Z27)).2.1 l).length ≤ List.length h29 := mcl_len (fun l hl => Nat.le_trans (hQ24 l hl) hF33.1)
  obtain ⟨X38, eX38⟩ : ∃ y, y = (uX (uX (uX (uX (uX X26 200 3 .null) 201 3 .null) 202 3 (.int 0)) 203 3 (.int (-1))) 204 3 (.int (-1))) := ⟨_, rfl⟩
  rw [← eX38] at hD34 hS37
  obtain ⟨M39, eM39⟩ : ∃ y : mM, y = (mclr 3 (I27, Q27, Z27)) := ⟨_, rfl⟩
  rw [← eM39] at hD34 hS37 hB35 hQ36
  obtain ⟨I39, Q39, Z39⟩ := M39
  change CD w 32 m0 h29 I39 Q39 Z39 X38 ow sb at hD34
  change sm tbc h29 I39 X38 at hS37
  change co h29 I39 ≤ B at hB35
  change ∀ l, l < 16 → (Q39 l).length ≤ List.length h29 at hQ36
  have hW := hD34.1.1
  have hWn : ∀ a, List.length h29 ≤ a → w a = true := fun a ha => (hD34.1.2.1 a ha).1
  have hF40 := fr_refl tbc h29
  have hln : 62 ≤ List.length h29 := sm_len hS37
  refine go_s (pc' := 34) (lo' := [some (.ref 2), some (.int 3), some (.int 1)]) rfl rfl rfl rfl ?_
  refine go_s (pc' := 12) rfl rfl rfl rfl ?_
  refine go_s (pc' := 13) rfl rfl rfl rfl ?_
  refine go_s (pc' := 14) (st' := [.int 4, .int 1]) rfl rfl rfl rfl ?_
  refine go_icmpP (t' := 35) (pc' := 15) rfl rfl rfl (fun (c : 4 ≤ (1 : Int32)) => absurd c (by decide)) (fun _ => ?_)
  refine go_s (pc' := 16) rfl rfl rfl rfl ?_
  refine go_sget (pc' := 17) (v := .ref 7) hS37 rfl rfl rfl (by decide) rfl rfl ?_
  refine go_s (pc' := 18) rfl rfl rfl rfl ?_
  refine go_s (pc' := 19) (st' := [.int 4, .int 3, .ref 7]) rfl rfl rfl rfl ?_
  refine go_s (pc' := 20) (st' := [.int 12, .ref 7]) rfl rfl rfl rfl ?_
  refine go_s (pc' := 21) rfl rfl rfl rfl ?_
  refine go_s (pc' := 22) (st' := [.int 13, .ref 7]) rfl rfl rfl rfl ?_
  refine go_sald (pc' := 23) (q := 13) (v := .ref 21) hS37 rfl rfl rfl rfl (by decide) rfl rfl ?_
  refine go_callV (pc' := 24) rfl rfl rfl (Nat.le_of_ble_eq_true rfl) rfl (sm_o hS37 rfl) rfl rfl rfl (ct_clear hS37 hW (l := 13) (by decide) (by omega)) (fun r h41 q42 => ?_)
  obtain ⟨rfl, hS43, hE44⟩ := q42
  have hF45 := fr_trans hF40 (fr_e hE44)
  have hD46 : CD w 32 m0 h41 (mclr 13 (I39, Q39, Z39)).1 (mclr 13 (I39, Q39, Z39)).2.1 (mclr 13 (I39, Q39, Z39)).2.2 (uX (uX (uX (uX (uX X38 200 13 .null) 201 13 .null) 202 13 (.int 0)) 203 13 (.int (-1))) 204 13 (.int (-1))) ow sb := CD_clr (CD_fr hD34 hF45)
  have hS49 : sm tbc h41 (mclr 13 (I39, Q39, Z39)).1 (uX (uX (uX (uX (uX X38 200 13 .null) 201 13 .null) 202 13 (.int 0)) 203 13 (.int (-1))) 204 13 (.int (-1))) := mclI_sm hS43
  have hB47 : co h41 (mclr 13 (I39, Q39, Z39)).1 ≤ B := by
    have z1 := co_fr (I := I39) (J := (mclr 13 (I39, Q39, Z39)).1) hF45 rfl
    have z2 := hB35
    omega
  have hQ48 : ∀ l, l < 16 → ((mclr 13 (I39, Q39, Z39)).2.1 l).length ≤ List.length h41 := mcl_len (fun l hl => Nat.le_trans (hQ36 l hl) hF45.1)
  obtain ⟨X50, eX50⟩ : ∃ y, y = (uX (uX (uX (uX (uX X38 200 13 .null) 201 13 .null) 202 13 (.int 0)) 203 13 (.int (-1))) 204 13 (.int (-1))) := ⟨_, rfl⟩
  rw [← eX50] at hD46 hS49
  obtain ⟨M51, eM51⟩ : ∃ y : mM, y = (mclr 13 (I39, Q39, Z39)) := ⟨_, rfl⟩
  rw [← eM51] at hD46 hS49 hB47 hQ48
  obtain ⟨I51, Q51, Z51⟩ := M51
  change CD w 32 m0 h41 I51 Q51 Z51 X50 ow sb at hD46
  change sm tbc h41 I51 X50 at hS49
  change co h41 I51 ≤ B at hB47
  change ∀ l, l < 16 → (Q51 l).length ≤ List.length h41 at hQ48
  have hW := hD46.1.1
  have hWn : ∀ a, List.length h41 ≤ a → w a = true := fun a ha => (hD46.1.2.1 a ha).1
  have hF52 := fr_refl tbc h41
  have hln : 62 ≤ List.length h41 := sm_len hS49
  refine go_s (pc' := 25) rfl rfl rfl rfl ?_
  refine go_sget (pc' := 26) (v := .ref 7) hS49 rfl rfl rfl (by decide) rfl rfl ?_
  refine go_s (pc' := 27) rfl rfl rfl rfl ?_
  refine go_s (pc' := 28) (st' := [.int 4, .int 1, .ref 7]) rfl rfl rfl rfl ?_
  refine go_s (pc' := 29) (st' := [.int 4, .ref 7]) rfl rfl rfl rfl ?_
  refine go_s (pc' := 30) rfl rfl rfl rfl ?_
  refine go_s (pc' := 31) (st' := [.int 7, .ref 7]) rfl rfl rfl rfl ?_
  refine go_sald (pc' := 32) (q := 7) (v := .ref 15) hS49 rfl rfl rfl rfl (by decide) rfl rfl ?_
  refine go_callV (pc' := 33) rfl rfl rfl (Nat.le_of_ble_eq_true rfl) rfl (sm_o hS49 rfl) rfl rfl rfl (ct_clear hS49 hW (l := 7) (by decide) (by omega)) (fun r h53 q54 => ?_)
  obtain ⟨rfl, hS55, hE56⟩ := q54
  have hF57 := fr_trans hF52 (fr_e hE56)
  have hD58 : CD w 32 m0 h53 (mclr 7 (I51, Q51, Z51)).1 (mclr 7 (I51, Q51, Z51)).2.1 (mclr 7 (I51, Q51, Z51)).2.2 (uX (uX (uX (uX (uX X50 200 7 .null) 201 7 .null) 202 7 (.int 0)) 203 7 (.int (-1))) 204 7 (.int (-1))) ow sb := CD_clr (CD_fr hD46 hF57)
  have hS61 : sm tbc h53 (mclr 7 (I51, Q51, Z51)).1 (uX (uX (uX (uX (uX X50 200 7 .null) 201 7 .null) 202 7 (.int 0)) 203 7 (.int (-1))) 204 7 (.int (-1))) := mclI_sm hS55
  have hB59 : co h53 (mclr 7 (I51, Q51, Z51)).1 ≤ B := by
    have z1 := co_fr (I := I51) (J := (mclr 7 (I51, Q51, Z51)).1) hF57 rfl
    have z2 := hB47
    omega
  have hQ60 : ∀ l, l < 16 → ((mclr 7 (I51, Q51, Z51)).2.1 l).length ≤ List.length h53 := mcl_len (fun l hl => Nat.le_trans (hQ48 l hl) hF57.1)
  obtain ⟨X62, eX62⟩ : ∃ y, y = (uX (uX (uX (uX (uX X50 200 7 .null) 201 7 .null) 202 7 (.int 0)) 203 7 (.int (-1))) 204 7 (.int (-1))) := ⟨_, rfl⟩
  rw [← eX62] at hD58 hS61
  obtain ⟨M63, eM63⟩ : ∃ y : mM, y = (mclr 7 (I51, Q51, Z51)) := ⟨_, rfl⟩
  rw [← eM63] at hD58 hS61 hB59 hQ60
  obtain ⟨I63, Q63, Z63⟩ := M63
  change CD w 32 m0 h53 I63 Q63 Z63 X62 ow sb at hD58
  change sm tbc h53 I63 X62 at hS61
  change co h53 I63 ≤ B at hB59
  change ∀ l, l < 16 → (Q63 l).length ≤ List.length h53 at hQ60
  have hW := hD58.1.1
  have hWn : ∀ a, List.length h53 ≤ a → w a = true := fun a ha => (hD58.1.2.1 a ha).1
  have hF64 := fr_refl tbc h53
  have hln : 62 ≤ List.length h53 := sm_len hS61
  refine go_s (pc' := 34) (lo' := [some (.ref 2), some (.int 3), some (.int 2)]) rfl rfl rfl rfl ?_
  refine go_s (pc' := 12) rfl rfl rfl rfl ?_
  refine go_s (pc' := 13) rfl rfl rfl rfl ?_
  refine go_s (pc' := 14) (st' := [.int 4, .int 2]) rfl rfl rfl rfl ?_
  refine go_icmpP (t' := 35) (pc' := 15) rfl rfl rfl (fun (c : 4 ≤ (2 : Int32)) => absurd c (by decide)) (fun _ => ?_)
  refine go_s (pc' := 16) rfl rfl rfl rfl ?_
  refine go_sget (pc' := 17) (v := .ref 7) hS61 rfl rfl rfl (by decide) rfl rfl ?_
  refine go_s (pc' := 18) rfl rfl rfl rfl ?_
  refine go_s (pc' := 19) (st' := [.int 4, .int 3, .ref 7]) rfl rfl rfl rfl ?_
  refine go_s (pc' := 20) (st' := [.int 12, .ref 7]) rfl rfl rfl rfl ?_
  refine go_s (pc' := 21) rfl rfl rfl rfl ?_
  refine go_s (pc' := 22) (st' := [.int 14, .ref 7]) rfl rfl rfl rfl ?_
  refine go_sald (pc' := 23) (q := 14) (v := .ref 22) hS61 rfl rfl rfl rfl (by decide) rfl rfl ?_
  refine go_callV (pc' := 24) rfl rfl rfl (Nat.le_of_ble_eq_true rfl) rfl (sm_o hS61 rfl) rfl rfl rfl (ct_clear hS61 hW (l := 14) (by decide) (by omega)) (fun r h65 q66 => ?_)
  obtain ⟨rfl, hS67, hE68⟩ := q66
  have hF69 := fr_trans hF64 (fr_e hE68)
  have hD70 : CD w 32 m0 h65 (mclr 14 (I63, Q63, Z63)).1 (mclr 14 (I63, Q63, Z63)).2.1 (mclr 14 (I63, Q63, Z63)).2.2 (uX (uX (uX (uX (uX X62 200 14 .null) 201 14 .null) 202 14 (.int 0)) 203 14 (.int (-1))) 204 14 (.int (-1))) ow sb := CD_clr (CD_fr hD58 hF69)
  have hS73 : sm tbc h65 (mclr 14 (I63, Q63, Z63)).1 (uX (uX (uX (uX (uX X62 200 14 .null) 201 14 .null) 202 14 (.int 0)) 203 14 (.int (-1))) 204 14 (.int (-1))) := mclI_sm hS67
  have hB71 : co h65 (mclr 14 (I63, Q63, Z63)).1 ≤ B := by
    have z1 := co_fr (I := I63) (J := (mclr 14 (I63, Q63, Z63)).1) hF69 rfl
    have z2 := hB59
    omega
  have hQ72 : ∀ l, l < 16 → ((mclr 14 (I63, Q63, Z63)).2.1 l).length ≤ List.length h65 := mcl_len (fun l hl => Nat.le_trans (hQ60 l hl) hF69.1)
  obtain ⟨X74, eX74⟩ : ∃ y, y = (uX (uX (uX (uX (uX X62 200 14 .null) 201 14 .null) 202 14 (.int 0)) 203 14 (.int (-1))) 204 14 (.int (-1))) := ⟨_, rfl⟩
  rw [← eX74] at hD70 hS73
  obtain ⟨M75, eM75⟩ : ∃ y : mM, y = (mclr 14 (I63, Q63, Z63)) := ⟨_, rfl⟩
  rw [← eM75] at hD70 hS73 hB71 hQ72
  obtain ⟨I75, Q75, Z75⟩ := M75
  change CD w 32 m0 h65 I75 Q75 Z75 X74 ow sb at hD70
  change sm tbc h65 I75 X74 at hS73
  change co h65 I75 ≤ B at hB71
  change ∀ l, l < 16 → (Q75 l).length ≤ List.length h65 at hQ72
  have hW := hD70.1.1
  have hWn : ∀ a, List.length h65 ≤ a → w a = true := fun a ha => (hD70.1.2.1 a ha).1
  have hF76 := fr_refl tbc h65
  have hln : 62 ≤ List.length h65 := sm_len hS73
  refine go_s (pc' := 25) rfl rfl rfl rfl ?_
  refine go_sget (pc' := 26) (v := .ref 7) hS73 rfl rfl rfl (by decide) rfl rfl ?_
  refine go_s (pc' := 27) rfl rfl rfl rfl ?_
  refine go_s (pc' := 28) (st' := [.int 4, .int 2, .ref 7]) rfl rfl rfl rfl ?_
  refine go_s (pc' := 29) (st' := [.int 8, .ref 7]) rfl rfl rfl rfl ?_
  refine go_s (pc' := 30) rfl rfl rfl rfl ?_
  refine go_s (pc' := 31) (st' := [.int 11, .ref 7]) rfl rfl rfl rfl ?_
  refine go_sald (pc' := 32) (q := 11) (v := .ref 19) hS73 rfl rfl rfl rfl (by decide) rfl rfl ?_
  refine go_callV (pc' := 33) rfl rfl rfl (Nat.le_of_ble_eq_true rfl) rfl (sm_o hS73 rfl) rfl rfl rfl (ct_clear hS73 hW (l := 11) (by decide) (by omega)) (fun r h77 q78 => ?_)
  obtain ⟨rfl, hS79, hE80⟩ := q78
  have hF81 := fr_trans hF76 (fr_e hE80)
  have hD82 : CD w 32 m0 h77 (mclr 11 (I75, Q75, Z75)).1 (mclr 11 (I75, Q75, Z75)).2.1 (mclr 11 (I75, Q75, Z75)).2.2 (uX (uX (uX (uX (uX X74 200 11 .null) 201 11 .null) 202 11 (.int 0)) 203 11 (.int (-1))) 204 11 (.int (-1))) ow sb := CD_clr (CD_fr hD70 hF81)
  have hS85 : sm tbc h77 (mclr 11 (I75, Q75, Z75)).1 (uX (uX (uX (uX (uX X74 200 11 .null) 201 11 .null) 202 11 (.int 0)) 203 11 (.int (-1))) 204 11 (.int (-1))) := mclI_sm hS79
  have hB83 : co h77 (mclr 11 (I75, Q75, Z75)).1 ≤ B := by
    have z1 := co_fr (I := I75) (J := (mclr 11 (I75, Q75, Z75)).1) hF81 rfl
    have z2 := hB71
    omega
  have hQ84 : ∀ l, l < 16 → ((mclr 11 (I75, Q75, Z75)).2.1 l).length ≤ List.length h77 := mcl_len (fun l hl => Nat.le_trans (hQ72 l hl) hF81.1)
  obtain ⟨X86, eX86⟩ : ∃ y, y = (uX (uX (uX (uX (uX X74 200 11 .null) 201 11 .null) 202 11 (.int 0)) 203 11 (.int (-1))) 204 11 (.int (-1))) := ⟨_, rfl⟩
  rw [← eX86] at hD82 hS85
  obtain ⟨M87, eM87⟩ : ∃ y : mM, y = (mclr 11 (I75, Q75, Z75)) := ⟨_, rfl⟩
  rw [← eM87] at hD82 hS85 hB83 hQ84
  obtain ⟨I87, Q87, Z87⟩ := M87
  change CD w 32 m0 h77 I87 Q87 Z87 X86 ow sb at hD82
  change sm tbc h77 I87 X86 at hS85
  change co h77 I87 ≤ B at hB83
  change ∀ l, l < 16 → (Q87 l).length ≤ List.length h77 at hQ84
  have hW := hD82.1.1
  have hWn : ∀ a, List.length h77 ≤ a → w a = true := fun a ha => (hD82.1.2.1 a ha).1
  have hF88 := fr_refl tbc h77
  have hln : 62 ≤ List.length h77 := sm_len hS85
  refine go_s (pc' := 34) (lo' := [some (.ref 2), some (.int 3), some (.int 3)]) rfl rfl rfl rfl ?_
  refine go_s (pc' := 12) rfl rfl rfl rfl ?_
  refine go_s (pc' := 13) rfl rfl rfl rfl ?_
  refine go_s (pc' := 14) (st' := [.int 4, .int 3]) rfl rfl rfl rfl ?_
  refine go_icmpP (t' := 35) (pc' := 15) rfl rfl rfl (fun (c : 4 ≤ (3 : Int32)) => absurd c (by decide)) (fun _ => ?_)
  refine go_s (pc' := 16) rfl rfl rfl rfl ?_
  refine go_sget (pc' := 17) (v := .ref 7) hS85 rfl rfl rfl (by decide) rfl rfl ?_
  refine go_s (pc' := 18) rfl rfl rfl rfl ?_
  refine go_s (pc' := 19) (st' := [.int 4, .int 3, .ref 7]) rfl rfl rfl rfl ?_
  refine go_s (pc' := 20) (st' := [.int 12, .ref 7]) rfl rfl rfl rfl ?_
  refine go_s (pc' := 21) rfl rfl rfl rfl ?_
  refine go_s (pc' := 22) (st' := [.int 15, .ref 7]) rfl rfl rfl rfl ?_
  refine go_sald (pc' := 23) (q := 15) (v := .ref 23) hS85 rfl rfl rfl rfl (by decide) rfl rfl ?_
  refine go_callV (pc' := 24) rfl rfl rfl (Nat.le_of_ble_eq_true rfl) rfl (sm_o hS85 rfl) rfl rfl rfl (ct_clear hS85 hW (l := 15) (by decide) (by omega)) (fun r h89 q90 => ?_)
  obtain ⟨rfl, hS91, hE92⟩ := q90
  have hF93 := fr_trans hF88 (fr_e hE92)
  have hD94 : CD w 32 m0 h89 (mclr 15 (I87, Q87, Z87)).1 (mclr 15 (I87, Q87, Z87)).2.1 (mclr 15 (I87, Q87, Z87)).2.2 (uX (uX (uX (uX (uX X86 200 15 .null) 201 15 .null) 202 15 (.int 0)) 203 15 (.int (-1))) 204 15 (.int (-1))) ow sb := CD_clr (CD_fr hD82 hF93)
  have hS97 : sm tbc h89 (mclr 15 (I87, Q87, Z87)).1 (uX (uX (uX (uX (uX X86 200 15 .null) 201 15 .null) 202 15 (.int 0)) 203 15 (.int (-1))) 204 15 (.int (-1))) := mclI_sm hS91
  have hB95 : co h89 (mclr 15 (I87, Q87, Z87)).1 ≤ B := by
    have z1 := co_fr (I := I87) (J := (mclr 15 (I87, Q87, Z87)).1) hF93 rfl
    have z2 := hB83
    omega
  have hQ96 : ∀ l, l < 16 → ((mclr 15 (I87, Q87, Z87)).2.1 l).length ≤ List.length h89 := mcl_len (fun l hl => Nat.le_trans (hQ84 l hl) hF93.1)
  obtain ⟨X98, eX98⟩ : ∃ y, y = (uX (uX (uX (uX (uX X86 200 15 .null) 201 15 .null) 202 15 (.int 0)) 203 15 (.int (-1))) 204 15 (.int (-1))) := ⟨_, rfl⟩
  rw [← eX98] at hD94 hS97
  obtain ⟨M99, eM99⟩ : ∃ y : mM, y = (mclr 15 (I87, Q87, Z87)) := ⟨_, rfl⟩
  rw [← eM99] at hD94 hS97 hB95 hQ96
  obtain ⟨I99, Q99, Z99⟩ := M99
  change CD w 32 m0 h89 I99 Q99 Z99 X98 ow sb at hD94
  change sm tbc h89 I99 X98 at hS97
  change co h89 I99 ≤ B at hB95
  change ∀ l, l < 16 → (Q99 l).length ≤ List.length h89 at hQ96
  have hW := hD94.1.1
  have hWn : ∀ a, List.length h89 ≤ a → w a = true := fun a ha => (hD94.1.2.1 a ha).1
  have hF100 := fr_refl tbc h89
  have hln : 62 ≤ List.length h89 := sm_len hS97
  refine go_s (pc' := 25) rfl rfl rfl rfl ?_
  refine go_sget (pc' := 26) (v := .ref 7) hS97 rfl rfl rfl (by decide) rfl rfl ?_
  refine go_s (pc' := 27) rfl rfl rfl rfl ?_
  refine go_s (pc' := 28) (st' := [.int 4, .int 3, .ref 7]) rfl rfl rfl rfl ?_
  refine go_s (pc' := 29) (st' := [.int 12, .ref 7]) rfl rfl rfl rfl ?_
  refine go_s (pc' := 30) rfl rfl rfl rfl ?_
  refine go_s (pc' := 31) (st' := [.int 15, .ref 7]) rfl rfl rfl rfl ?_
  refine go_sald (pc' := 32) (q := 15) (v := .ref 23) hS97 rfl rfl rfl rfl (by decide) rfl rfl ?_
  refine go_callV (pc' := 33) rfl rfl rfl (Nat.le_of_ble_eq_true rfl) rfl (sm_o hS97 rfl) rfl rfl rfl (ct_clear hS97 hW (l := 15) (by decide) (by omega)) (fun r h101 q102 => ?_)
  obtain ⟨rfl, hS103, hE104⟩ := q102
  have hF105 := fr_trans hF100 (fr_e hE104)
  have hD106 : CD w 32 m0 h101 (mclr 15 (I99, Q99, Z99)).1 (mclr 15 (I99, Q99, Z99)).2.1 (mclr 15 (I99, Q99, Z99)).2.2 (uX (uX (uX (uX (uX X98 200 15 .null) 201 15 .null) 202 15 (.int 0)) 203 15 (.int (-1))) 204 15 (.int (-1))) ow sb := CD_clr (CD_fr hD94 hF105)
  have hS109 : sm tbc h101 (mclr 15 (I99, Q99, Z99)).1 (uX (uX (uX (uX (uX X98 200 15 .null) 201 15 .null) 202 15 (.int 0)) 203 15 (.int (-1))) 204 15 (.int (-1))) := mclI_sm hS103
  have hB107 : co h101 (mclr 15 (I99, Q99, Z99)).1 ≤ B := by
    have z1 := co_fr (I := I99) (J := (mclr 15 (I99, Q99, Z99)).1) hF105 rfl
    have z2 := hB95
    omega
  have hQ108 : ∀ l, l < 16 → ((mclr 15 (I99, Q99, Z99)).2.1 l).length ≤ List.length h101 := mcl_len (fun l hl => Nat.le_trans (hQ96 l hl) hF105.1)
  obtain ⟨X110, eX110⟩ : ∃ y, y = (uX (uX (uX (uX (uX X98 200 15 .null) 201 15 .null) 202 15 (.int 0)) 203 15 (.int (-1))) 204 15 (.int (-1))) := ⟨_, rfl⟩
  rw [← eX110] at hD106 hS109
  obtain ⟨M111, eM111⟩ : ∃ y : mM, y = (mclr 15 (I99, Q99, Z99)) := ⟨_, rfl⟩
  rw [← eM111] at hD106 hS109 hB107 hQ108
  obtain ⟨I111, Q111, Z111⟩ := M111
  change CD w 32 m0 h101 I111 Q111 Z111 X110 ow sb at hD106
  change sm tbc h101 I111 X110 at hS109
  change co h101 I111 ≤ B at hB107
  change ∀ l, l < 16 → (Q111 l).length ≤ List.length h101 at hQ108
  have hW := hD106.1.1
  have hWn : ∀ a, List.length h101 ≤ a → w a = true := fun a ha => (hD106.1.2.1 a ha).1
  have hF112 := fr_refl tbc h101
  have hln : 62 ≤ List.length h101 := sm_len hS109
  refine go_s (pc' := 34) (lo' := [some (.ref 2), some (.int 3), some (.int 4)]) rfl rfl rfl rfl ?_
  refine go_s (pc' := 12) rfl rfl rfl rfl ?_
  refine go_s (pc' := 13) rfl rfl rfl rfl ?_
  refine go_s (pc' := 14) (st' := [.int 4, .int 4]) rfl rfl rfl rfl ?_
  refine go_icmpP (t' := 35) (pc' := 15) rfl rfl rfl (fun _ => ?_) (fun (c : ¬ (4 ≤ (4 : Int32))) => absurd (by decide) c)
  refine go_ret rfl rfl ?_
  have hms : mnst 3 (I, Q, Z) = (I111, Q111, Z111) := by
    unfold mnst mcl2
    rw [← eM15, ← eM27, ← eM39, ← eM51, ← eM63, ← eM75, ← eM87, ← eM99, ← eM111]
  have hC113 : CA w 32 m0 B h101 (I111, Q111, Z111) := ⟨X110, ow, sb, hS109, hD106, hB107, hQ108⟩
  rw [hms]
  exact ⟨rfl, hC113⟩
theorem cm_sp_0 {w : Nat → Bool} {d : Nat} {h : am_Hp} {m0 : mg} {B : Nat} {I : sm_I} {Q : mQ} {Z : mZ} (hC : CA w 32 m0 B h (I, Q, Z)) (hB2 : B < 2 ^ 26) (hd : 4 ≤ d) : am_Ev (am_prog w) d 99 [.ref 1, .int 0] h (fun r h' => r = none ∧ CA w 32 m0 B h' (mfp 0 (I, Q, Z))) := by
  obtain ⟨X, ow, sb, hS, hD, hB, hQ⟩ := hC
  change sm tbc h I X at hS
  change CD w 32 m0 h I Q Z X ow sb at hD
  change co h I ≤ B at hB
  change ∀ l, l < 16 → (Q l).length ≤ h.length at hQ
  have hW := hD.1.1
  have hWn : ∀ a, List.length h ≤ a → w a = true := fun a ha => (hD.1.2.1 a ha).1
  have hF1 := fr_refl tbc h
  have hln : 62 ≤ List.length h := sm_len hS
  obtain ⟨d, rfl⟩ : ∃ e, d = e + 1 := ⟨d - 1, by omega⟩
  refine ev_go rfl (Nat.le_of_ble_eq_true rfl) rfl ?_
  refine go_s (pc' := 1) rfl rfl rfl rfl ?_
  refine go_sget (pc' := 2) (v := .ref 2) hS rfl rfl rfl (by decide) rfl rfl ?_
  refine go_s (pc' := 3) rfl rfl rfl rfl ?_
  have hC2 : CA w 32 m0 B h (I, Q, Z) := ⟨X, ow, sb, hS, hD, hB, hQ⟩
  refine go_callV (pc' := 4) rfl rfl rfl (Nat.le_of_ble_eq_true rfl) rfl (sm_o hS rfl) rfl rfl rfl (cm_nst_0 hC2 (by omega) (by omega)) (fun r h3 q4 => ?_)
  obtain ⟨rfl, hC5⟩ := q4
  change CA w 32 m0 B h3 (mnst 0 (I, Q, Z)) at hC5
  obtain ⟨M6, eM6⟩ : ∃ y : mM, y = (mnst 0 (I, Q, Z)) := ⟨_, rfl⟩
  rw [← eM6] at hC5
  obtain ⟨I6, Q6, Z6⟩ := M6
  obtain ⟨X7, ow7, sb7, hS7, hD7, hB7, hQ7⟩ := hC5
  have hW := hD7.1.1
  have hWn : ∀ a, List.length h3 ≤ a → w a = true := fun a ha => (hD7.1.2.1 a ha).1
  have hF8 := fr_refl tbc h3
  have hln : 62 ≤ List.length h3 := sm_len hS7
  change CD w 32 m0 h3 I6 Q6 Z6 X7 ow7 sb7 at hD7
  change sm tbc h3 I6 X7 at hS7
  change co h3 I6 ≤ B at hB7
  change ∀ l, l < 16 → (Q6 l).length ≤ List.length h3 at hQ7
  have hW := hD7.1.1
  have hWn : ∀ a, List.length h3 ≤ a → w a = true := fun a ha => (hD7.1.2.1 a ha).1
  have hF9 := fr_refl tbc h3
  have hln : 62 ≤ List.length h3 := sm_len hS7
  refine go_s (pc' := 5) (st' := [.int 0]) rfl rfl rfl rfl ?_
  refine go_s (pc' := 6) (lo' := [some (.ref 1), some (.int 0), some (.int 0)]) rfl rfl rfl rfl ?_
  refine go_s (pc' := 7) rfl rfl rfl rfl ?_
  refine go_s (pc' := 8) rfl rfl rfl rfl ?_
  refine go_sget (pc' := 9) (v := .ref 61) hS7 rfl rfl rfl (by decide) rfl rfl ?_
  refine go_salen (pc' := 10) (n := 3) hS7 rfl rfl rfl rfl ?_
  refine go_icmpP (t' := 25) (pc' := 11) rfl rfl rfl (fun (c : 3 ≤ (0 : Int32)) => absurd c (by decide)) (fun _ => ?_)
  refine go_s (pc' := 12) rfl rfl rfl rfl ?_
  refine go_sget (pc' := 13) (v := .ref 61) hS7 rfl rfl rfl (by decide) rfl rfl ?_
  refine go_s (pc' := 14) rfl rfl rfl rfl ?_
  refine go_sald (pc' := 15) (q := 0) (v := .ref 32) hS7 rfl rfl rfl rfl (by decide) rfl rfl ?_
  refine go_sget (pc' := 16) (v := .int (I6 11 0)) hS7 rfl rfl rfl (by decide) rfl rfl ?_
  refine go_s (pc' := 17) rfl rfl rfl rfl ?_
  refine go_icmpP (t' := 23) (pc' := 18) rfl rfl rfl (fun (c10 : ¬ (I6 11 0) = 0) => ?_) (fun (c10' : ¬ ¬ (I6 11 0) = 0) => ?_)
  · skip
    have es11 : mstp 0 0 (I6, Q6, Z6) = (I6, Q6, Z6) := if_neg c10
    refine go_s (pc' := 24) (lo' := [some (.ref 1), some (.int 0), some (.int 1)]) rfl rfl rfl rfl ?_
    refine go_s (pc' := 6) rfl rfl rfl rfl ?_
    refine go_s (pc' := 7) rfl rfl rfl rfl ?_
    refine go_s (pc' := 8) rfl rfl rfl rfl ?_
    refine go_sget (pc' := 9) (v := .ref 61) hS7 rfl rfl rfl (by decide) rfl rfl ?_
    refine go_salen (pc' := 10) (n := 3) hS7 rfl rfl rfl rfl ?_
    refine go_icmpP (t' := 25) (pc' := 11) rfl rfl rfl (fun (c : 3 ≤ (1 : Int32)) => absurd c (by decide)) (fun _ => ?_)
    refine go_s (pc' := 12) rfl rfl rfl rfl ?_
    refine go_sget (pc' := 13) (v := .ref 61) hS7 rfl rfl rfl (by decide) rfl rfl ?_
    refine go_s (pc' := 14) rfl rfl rfl rfl ?_
    refine go_sald (pc' := 15) (q := 1) (v := .ref 59) hS7 rfl rfl rfl rfl (by decide) rfl rfl ?_
    refine go_sget (pc' := 16) (v := .int (I6 11 1)) hS7 rfl rfl rfl (by decide) rfl rfl ?_
    refine go_s (pc' := 17) rfl rfl rfl rfl ?_
    refine go_icmpP (t' := 23) (pc' := 18) rfl rfl rfl (fun (c12 : ¬ (I6 11 1) = 0) => ?_) (fun (c12' : ¬ ¬ (I6 11 1) = 0) => ?_)
    · skip
      have es13 : mstp 1 0 (I6, Q6, Z6) = (I6, Q6, Z6) := if_neg c12
      refine go_s (pc' := 24) (lo' := [some (.ref 1), some (.int 0), some (.int 2)]) rfl rfl rfl rfl ?_
      refine go_s (pc' := 6) rfl rfl rfl rfl ?_
      refine go_s (pc' := 7) rfl rfl rfl rfl ?_
      refine go_s (pc' := 8) rfl rfl rfl rfl ?_
      refine go_sget (pc' := 9) (v := .ref 61) hS7 rfl rfl rfl (by decide) rfl rfl ?_
      refine go_salen (pc' := 10) (n := 3) hS7 rfl rfl rfl rfl ?_
      refine go_icmpP (t' := 25) (pc' := 11) rfl rfl rfl (fun (c : 3 ≤ (2 : Int32)) => absurd c (by decide)) (fun _ => ?_)
      refine go_s (pc' := 12) rfl rfl rfl rfl ?_
      refine go_sget (pc' := 13) (v := .ref 61) hS7 rfl rfl rfl (by decide) rfl rfl ?_
      refine go_s (pc' := 14) rfl rfl rfl rfl ?_
      refine go_sald (pc' := 15) (q := 2) (v := .ref 60) hS7 rfl rfl rfl rfl (by decide) rfl rfl ?_
      refine go_sget (pc' := 16) (v := .int (I6 11 2)) hS7 rfl rfl rfl (by decide) rfl rfl ?_
      refine go_s (pc' := 17) rfl rfl rfl rfl ?_
      refine go_icmpP (t' := 23) (pc' := 18) rfl rfl rfl (fun (c14 : ¬ (I6 11 2) = 0) => ?_) (fun (c14' : ¬ ¬ (I6 11 2) = 0) => ?_)
      · skip
        have es15 : mstp 2 0 (I6, Q6, Z6) = (I6, Q6, Z6) := if_neg c14
        refine go_s (pc' := 24) (lo' := [some (.ref 1), some (.int 0), some (.int 3)]) rfl rfl rfl rfl ?_
        refine go_s (pc' := 6) rfl rfl rfl rfl ?_
        refine go_s (pc' := 7) rfl rfl rfl rfl ?_
        refine go_s (pc' := 8) rfl rfl rfl rfl ?_
        refine go_sget (pc' := 9) (v := .ref 61) hS7 rfl rfl rfl (by decide) rfl rfl ?_
        refine go_salen (pc' := 10) (n := 3) hS7 rfl rfl rfl rfl ?_
        refine go_icmpP (t' := 25) (pc' := 11) rfl rfl rfl (fun _ => ?_) (fun (c : ¬ (3 ≤ (3 : Int32))) => absurd (by decide) c)
        refine go_ret rfl rfl ?_
        have hms : mfp 0 (I, Q, Z) = (I6, Q6, Z6) := by
          unfold mfp
          rw [← eM6, es11, es13, es15]
        have hC16 : CA w 32 m0 B h3 (I6, Q6, Z6) := ⟨X7, ow7, sb7, hS7, hD7, hB7, hQ7⟩
        rw [hms]
        exact ⟨rfl, hC16⟩
      · skip
        have c14 : (I6 11 2) = 0 := Decidable.not_not.mp c14'
        refine go_s (pc' := 19) rfl rfl rfl rfl ?_
        refine go_sget (pc' := 20) (v := .ref 61) hS7 rfl rfl rfl (by decide) rfl rfl ?_
        refine go_s (pc' := 21) rfl rfl rfl rfl ?_
        refine go_sald (pc' := 22) (q := 2) (v := .ref 60) hS7 rfl rfl rfl rfl (by decide) rfl rfl ?_
        refine go_callV (pc' := 23) rfl rfl rfl (Nat.le_of_ble_eq_true rfl) rfl (sm_o hS7 rfl) rfl rfl rfl (ct_stopP_2 hS7 hW (by omega)) (fun r h17 q18 => ?_)
        obtain ⟨rfl, hS19, hE20⟩ := q18
        have hF21 := fr_trans hF9 (fr_e hE20)
        have hst : mstp 2 0 (I6, Q6, Z6) = (mstI 2 I6, (I6, Q6, Z6).2) := if_pos c14
        have hD22 : CD w 32 m0 h17 (mstp 2 0 (I6, Q6, Z6)).1 (mstp 2 0 (I6, Q6, Z6)).2.1 (mstp 2 0 (I6, Q6, Z6)).2.2 (X7) ow7 sb7 := by rw [hst]; exact CD_I (J := mstI 2 I6) (CD_fr hD7 hF21) ⟨rfl, rfl, rfl, rfl, rfl, rfl, rfl, rfl, rfl, rfl, rfl, rfl, rfl, rfl, rfl⟩
        have hS25 : sm tbc h17 (mstp 2 0 (I6, Q6, Z6)).1 (X7) := by rw [hst]; exact hS19
        have hB23 : co h17 (mstp 2 0 (I6, Q6, Z6)).1 ≤ B := by
          have z1 := co_fr (I := I6) (J := (mstp 2 0 (I6, Q6, Z6)).1) hF21 (by rw [hst]; rfl)
          have z2 := hB7
          omega
        have hQ24 : ∀ l, l < 16 → ((mstp 2 0 (I6, Q6, Z6)).2.1 l).length ≤ List.length h17 := by rw [hst]; exact fun l hl => Nat.le_trans (hQ7 l hl) hF21.1
        obtain ⟨X26, eX26⟩ : ∃ y, y = (X7) := ⟨_, rfl⟩
        rw [← eX26] at hD22 hS25
        obtain ⟨M27, eM27⟩ : ∃ y : mM, y = (mstp 2 0 (I6, Q6, Z6)) := ⟨_, rfl⟩
        rw [← eM27] at hD22 hS25 hB23 hQ24
        obtain ⟨I27, Q27, Z27⟩ := M27
        change CD w 32 m0 h17 I27 Q27 Z27 X26 ow7 sb7 at hD22
        change sm tbc h17 I27 X26 at hS25
        change co h17 I27 ≤ B at hB23
        change ∀ l, l < 16 → (Q27 l).length ≤ List.length h17 at hQ24
        have hW := hD22.1.1
        have hWn : ∀ a, List.length h17 ≤ a → w a = true := fun a ha => (hD22.1.2.1 a ha).1
        have hF28 := fr_refl tbc h17
        have hln : 62 ≤ List.length h17 := sm_len hS25
        refine go_s (pc' := 24) (lo' := [some (.ref 1), some (.int 0), some (.int 3)]) rfl rfl rfl rfl ?_
        refine go_s (pc' := 6) rfl rfl rfl rfl ?_
        refine go_s (pc' := 7) rfl rfl rfl rfl ?_
        refine go_s (pc' := 8) rfl rfl rfl rfl ?_
        refine go_sget (pc' := 9) (v := .ref 61) hS25 rfl rfl rfl (by decide) rfl rfl ?_
        refine go_salen (pc' := 10) (n := 3) hS25 rfl rfl rfl rfl ?_
        refine go_icmpP (t' := 25) (pc' := 11) rfl rfl rfl (fun _ => ?_) (fun (c : ¬ (3 ≤ (3 : Int32))) => absurd (by decide) c)
        refine go_ret rfl rfl ?_
        have hms : mfp 0 (I, Q, Z) = (I27, Q27, Z27) := by
          unfold mfp
          rw [← eM6, es11, es13, ← eM27]
        have hC29 : CA w 32 m0 B h17 (I27, Q27, Z27) := ⟨X26, ow7, sb7, hS25, hD22, hB23, hQ24⟩
        rw [hms]
        exact ⟨rfl, hC29⟩
    · skip
      have c12 : (I6 11 1) = 0 := Decidable.not_not.mp c12'
      refine go_s (pc' := 19) rfl rfl rfl rfl ?_
      refine go_sget (pc' := 20) (v := .ref 61) hS7 rfl rfl rfl (by decide) rfl rfl ?_
      refine go_s (pc' := 21) rfl rfl rfl rfl ?_
      refine go_sald (pc' := 22) (q := 1) (v := .ref 59) hS7 rfl rfl rfl rfl (by decide) rfl rfl ?_
      refine go_callV (pc' := 23) rfl rfl rfl (Nat.le_of_ble_eq_true rfl) rfl (sm_o hS7 rfl) rfl rfl rfl (ct_stopP_1 hS7 hW (by omega)) (fun r h30 q31 => ?_)
      obtain ⟨rfl, hS32, hE33⟩ := q31
      have hF34 := fr_trans hF9 (fr_e hE33)
      have hst : mstp 1 0 (I6, Q6, Z6) = (mstI 1 I6, (I6, Q6, Z6).2) := if_pos c12
      have hD35 : CD w 32 m0 h30 (mstp 1 0 (I6, Q6, Z6)).1 (mstp 1 0 (I6, Q6, Z6)).2.1 (mstp 1 0 (I6, Q6, Z6)).2.2 (X7) ow7 sb7 := by rw [hst]; exact CD_I (J := mstI 1 I6) (CD_fr hD7 hF34) ⟨rfl, rfl, rfl, rfl, rfl, rfl, rfl, rfl, rfl, rfl, rfl, rfl, rfl, rfl, rfl⟩
      have hS38 : sm tbc h30 (mstp 1 0 (I6, Q6, Z6)).1 (X7) := by rw [hst]; exact hS32
      have hB36 : co h30 (mstp 1 0 (I6, Q6, Z6)).1 ≤ B := by
        have z1 := co_fr (I := I6) (J := (mstp 1 0 (I6, Q6, Z6)).1) hF34 (by rw [hst]; rfl)
        have z2 := hB7
        omega
      have hQ37 : ∀ l, l < 16 → ((mstp 1 0 (I6, Q6, Z6)).2.1 l).length ≤ List.length h30 := by rw [hst]; exact fun l hl => Nat.le_trans (hQ7 l hl) hF34.1
      obtain ⟨X39, eX39⟩ : ∃ y, y = (X7) := ⟨_, rfl⟩
      rw [← eX39] at hD35 hS38
      obtain ⟨M40, eM40⟩ : ∃ y : mM, y = (mstp 1 0 (I6, Q6, Z6)) := ⟨_, rfl⟩
      rw [← eM40] at hD35 hS38 hB36 hQ37
      obtain ⟨I40, Q40, Z40⟩ := M40
      change CD w 32 m0 h30 I40 Q40 Z40 X39 ow7 sb7 at hD35
      change sm tbc h30 I40 X39 at hS38
      change co h30 I40 ≤ B at hB36
      change ∀ l, l < 16 → (Q40 l).length ≤ List.length h30 at hQ37
      have hW := hD35.1.1
      have hWn : ∀ a, List.length h30 ≤ a → w a = true := fun a ha => (hD35.1.2.1 a ha).1
      have hF41 := fr_refl tbc h30
      have hln : 62 ≤ List.length h30 := sm_len hS38
      refine go_s (pc' := 24) (lo' := [some (.ref 1), some (.int 0), some (.int 2)]) rfl rfl rfl rfl ?_
      refine go_s (pc' := 6) rfl rfl rfl rfl ?_
      refine go_s (pc' := 7) rfl rfl rfl rfl ?_
      refine go_s (pc' := 8) rfl rfl rfl rfl ?_
      refine go_sget (pc' := 9) (v := .ref 61) hS38 rfl rfl rfl (by decide) rfl rfl ?_
      refine go_salen (pc' := 10) (n := 3) hS38 rfl rfl rfl rfl ?_
      refine go_icmpP (t' := 25) (pc' := 11) rfl rfl rfl (fun (c : 3 ≤ (2 : Int32)) => absurd c (by decide)) (fun _ => ?_)
      refine go_s (pc' := 12) rfl rfl rfl rfl ?_
      refine go_sget (pc' := 13) (v := .ref 61) hS38 rfl rfl rfl (by decide) rfl rfl ?_
      refine go_s (pc' := 14) rfl rfl rfl rfl ?_
      refine go_sald (pc' := 15) (q := 2) (v := .ref 60) hS38 rfl rfl rfl rfl (by decide) rfl rfl ?_
      refine go_sget (pc' := 16) (v := .int (I40 11 2)) hS38 rfl rfl rfl (by decide) rfl rfl ?_
      refine go_s (pc' := 17) rfl rfl rfl rfl ?_
      refine go_icmpP (t' := 23) (pc' := 18) rfl rfl rfl (fun (c42 : ¬ (I40 11 2) = 0) => ?_) (fun (c42' : ¬ ¬ (I40 11 2) = 0) => ?_)
      · skip
        have es43 : mstp 2 0 (I40, Q40, Z40) = (I40, Q40, Z40) := if_neg c42
        refine go_s (pc' := 24) (lo' := [some (.ref 1), some (.int 0), some (.int 3)]) rfl rfl rfl rfl ?_
        refine go_s (pc' := 6) rfl rfl rfl rfl ?_
        refine go_s (pc' := 7) rfl rfl rfl rfl ?_
        refine go_s (pc' := 8) rfl rfl rfl rfl ?_
        refine go_sget (pc' := 9) (v := .ref 61) hS38 rfl rfl rfl (by decide) rfl rfl ?_
        refine go_salen (pc' := 10) (n := 3) hS38 rfl rfl rfl rfl ?_
        refine go_icmpP (t' := 25) (pc' := 11) rfl rfl rfl (fun _ => ?_) (fun (c : ¬ (3 ≤ (3 : Int32))) => absurd (by decide) c)
        refine go_ret rfl rfl ?_
        have hms : mfp 0 (I, Q, Z) = (I40, Q40, Z40) := by
          unfold mfp
          rw [← eM6, es11, ← eM40, es43]
        have hC44 : CA w 32 m0 B h30 (I40, Q40, Z40) := ⟨X39, ow7, sb7, hS38, hD35, hB36, hQ37⟩
        rw [hms]
        exact ⟨rfl, hC44⟩
      · skip
        have c42 : (I40 11 2) = 0 := Decidable.not_not.mp c42'
        refine go_s (pc' := 19) rfl rfl rfl rfl ?_
        refine go_sget (pc' := 20) (v := .ref 61) hS38 rfl rfl rfl (by decide) rfl rfl ?_
        refine go_s (pc' := 21) rfl rfl rfl rfl ?_
        refine go_sald (pc' := 22) (q := 2) (v := .ref 60) hS38 rfl rfl rfl rfl (by decide) rfl rfl ?_
        refine go_callV (pc' := 23) rfl rfl rfl (Nat.le_of_ble_eq_true rfl) rfl (sm_o hS38 rfl) rfl rfl rfl (ct_stopP_2 hS38 hW (by omega)) (fun r h45 q46 => ?_)
        obtain ⟨rfl, hS47, hE48⟩ := q46
        have hF49 := fr_trans hF41 (fr_e hE48)
        have hst : mstp 2 0 (I40, Q40, Z40) = (mstI 2 I40, (I40, Q40, Z40).2) := if_pos c42
        have hD50 : CD w 32 m0 h45 (mstp 2 0 (I40, Q40, Z40)).1 (mstp 2 0 (I40, Q40, Z40)).2.1 (mstp 2 0 (I40, Q40, Z40)).2.2 (X39) ow7 sb7 := by rw [hst]; exact CD_I (J := mstI 2 I40) (CD_fr hD35 hF49) ⟨rfl, rfl, rfl, rfl, rfl, rfl, rfl, rfl, rfl, rfl, rfl, rfl, rfl, rfl, rfl⟩
        have hS53 : sm tbc h45 (mstp 2 0 (I40, Q40, Z40)).1 (X39) := by rw [hst]; exact hS47
        have hB51 : co h45 (mstp 2 0 (I40, Q40, Z40)).1 ≤ B := by
          have z1 := co_fr (I := I40) (J := (mstp 2 0 (I40, Q40, Z40)).1) hF49 (by rw [hst]; rfl)
          have z2 := hB36
          omega
        have hQ52 : ∀ l, l < 16 → ((mstp 2 0 (I40, Q40, Z40)).2.1 l).length ≤ List.length h45 := by rw [hst]; exact fun l hl => Nat.le_trans (hQ37 l hl) hF49.1
        obtain ⟨X54, eX54⟩ : ∃ y, y = (X39) := ⟨_, rfl⟩
        rw [← eX54] at hD50 hS53
        obtain ⟨M55, eM55⟩ : ∃ y : mM, y = (mstp 2 0 (I40, Q40, Z40)) := ⟨_, rfl⟩
        rw [← eM55] at hD50 hS53 hB51 hQ52
        obtain ⟨I55, Q55, Z55⟩ := M55
        change CD w 32 m0 h45 I55 Q55 Z55 X54 ow7 sb7 at hD50
        change sm tbc h45 I55 X54 at hS53
        change co h45 I55 ≤ B at hB51
        change ∀ l, l < 16 → (Q55 l).length ≤ List.length h45 at hQ52
        have hW := hD50.1.1
        have hWn : ∀ a, List.length h45 ≤ a → w a = true := fun a ha => (hD50.1.2.1 a ha).1
        have hF56 := fr_refl tbc h45
        have hln : 62 ≤ List.length h45 := sm_len hS53
        refine go_s (pc' := 24) (lo' := [some (.ref 1), some (.int 0), some (.int 3)]) rfl rfl rfl rfl ?_
        refine go_s (pc' := 6) rfl rfl rfl rfl ?_
        refine go_s (pc' := 7) rfl rfl rfl rfl ?_
        refine go_s (pc' := 8) rfl rfl rfl rfl ?_
        refine go_sget (pc' := 9) (v := .ref 61) hS53 rfl rfl rfl (by decide) rfl rfl ?_
        refine go_salen (pc' := 10) (n := 3) hS53 rfl rfl rfl rfl ?_
        refine go_icmpP (t' := 25) (pc' := 11) rfl rfl rfl (fun _ => ?_) (fun (c : ¬ (3 ≤ (3 : Int32))) => absurd (by decide) c)
        refine go_ret rfl rfl ?_
        have hms : mfp 0 (I, Q, Z) = (I55, Q55, Z55) := by
          unfold mfp
          rw [← eM6, es11, ← eM40, ← eM55]
        have hC57 : CA w 32 m0 B h45 (I55, Q55, Z55) := ⟨X54, ow7, sb7, hS53, hD50, hB51, hQ52⟩
        rw [hms]
        exact ⟨rfl, hC57⟩
  · skip
    have c10 : (I6 11 0) = 0 := Decidable.not_not.mp c10'
    refine go_s (pc' := 19) rfl rfl rfl rfl ?_
    refine go_sget (pc' := 20) (v := .ref 61) hS7 rfl rfl rfl (by decide) rfl rfl ?_
    refine go_s (pc' := 21) rfl rfl rfl rfl ?_
    refine go_sald (pc' := 22) (q := 0) (v := .ref 32) hS7 rfl rfl rfl rfl (by decide) rfl rfl ?_
    refine go_callV (pc' := 23) rfl rfl rfl (Nat.le_of_ble_eq_true rfl) rfl (sm_o hS7 rfl) rfl rfl rfl (ct_stopS hS7 hW (by omega)) (fun r h58 q59 => ?_)
    obtain ⟨rfl, hS60, hE61⟩ := q59
    have hF62 := fr_trans hF9 (fr_e hE61)
    have hst : mstp 0 0 (I6, Q6, Z6) = (mstI 0 I6, (I6, Q6, Z6).2) := if_pos c10
    have hD63 : CD w 32 m0 h58 (mstp 0 0 (I6, Q6, Z6)).1 (mstp 0 0 (I6, Q6, Z6)).2.1 (mstp 0 0 (I6, Q6, Z6)).2.2 (X7) ow7 sb7 := by rw [hst]; exact CD_I (J := mstI 0 I6) (CD_s21 (CD_t0 (v := 0) (CD_fr hD7 hF62) (by decide))) ⟨rfl, rfl, rfl, rfl, rfl, rfl, rfl, rfl, rfl, rfl, rfl, rfl, rfl, rfl, rfl⟩
    have hS66 : sm tbc h58 (mstp 0 0 (I6, Q6, Z6)).1 (X7) := by rw [hst]; exact hS60
    have hB64 : co h58 (mstp 0 0 (I6, Q6, Z6)).1 ≤ B := by
      have z1 := co_le (I := I6) (J := (mstp 0 0 (I6, Q6, Z6)).1) hF62 (by rw [hst]; rfl)
      have z2 := hB7
      omega
    have hQ65 : ∀ l, l < 16 → ((mstp 0 0 (I6, Q6, Z6)).2.1 l).length ≤ List.length h58 := by rw [hst]; exact fun l hl => Nat.le_trans (hQ7 l hl) hF62.1
    obtain ⟨X67, eX67⟩ : ∃ y, y = (X7) := ⟨_, rfl⟩
    rw [← eX67] at hD63 hS66
    obtain ⟨M68, eM68⟩ : ∃ y : mM, y = (mstp 0 0 (I6, Q6, Z6)) := ⟨_, rfl⟩
    rw [← eM68] at hD63 hS66 hB64 hQ65
    obtain ⟨I68, Q68, Z68⟩ := M68
    change CD w 32 m0 h58 I68 Q68 Z68 X67 ow7 sb7 at hD63
    change sm tbc h58 I68 X67 at hS66
    change co h58 I68 ≤ B at hB64
    change ∀ l, l < 16 → (Q68 l).length ≤ List.length h58 at hQ65
    have hW := hD63.1.1
    have hWn : ∀ a, List.length h58 ≤ a → w a = true := fun a ha => (hD63.1.2.1 a ha).1
    have hF69 := fr_refl tbc h58
    have hln : 62 ≤ List.length h58 := sm_len hS66
    refine go_s (pc' := 24) (lo' := [some (.ref 1), some (.int 0), some (.int 1)]) rfl rfl rfl rfl ?_
    refine go_s (pc' := 6) rfl rfl rfl rfl ?_
    refine go_s (pc' := 7) rfl rfl rfl rfl ?_
    refine go_s (pc' := 8) rfl rfl rfl rfl ?_
    refine go_sget (pc' := 9) (v := .ref 61) hS66 rfl rfl rfl (by decide) rfl rfl ?_
    refine go_salen (pc' := 10) (n := 3) hS66 rfl rfl rfl rfl ?_
    refine go_icmpP (t' := 25) (pc' := 11) rfl rfl rfl (fun (c : 3 ≤ (1 : Int32)) => absurd c (by decide)) (fun _ => ?_)
    refine go_s (pc' := 12) rfl rfl rfl rfl ?_
    refine go_sget (pc' := 13) (v := .ref 61) hS66 rfl rfl rfl (by decide) rfl rfl ?_
    refine go_s (pc' := 14) rfl rfl rfl rfl ?_
    refine go_sald (pc' := 15) (q := 1) (v := .ref 59) hS66 rfl rfl rfl rfl (by decide) rfl rfl ?_
    refine go_sget (pc' := 16) (v := .int (I68 11 1)) hS66 rfl rfl rfl (by decide) rfl rfl ?_
    refine go_s (pc' := 17) rfl rfl rfl rfl ?_
    refine go_icmpP (t' := 23) (pc' := 18) rfl rfl rfl (fun (c70 : ¬ (I68 11 1) = 0) => ?_) (fun (c70' : ¬ ¬ (I68 11 1) = 0) => ?_)
    · skip
      have es71 : mstp 1 0 (I68, Q68, Z68) = (I68, Q68, Z68) := if_neg c70
      refine go_s (pc' := 24) (lo' := [some (.ref 1), some (.int 0), some (.int 2)]) rfl rfl rfl rfl ?_
      refine go_s (pc' := 6) rfl rfl rfl rfl ?_
      refine go_s (pc' := 7) rfl rfl rfl rfl ?_
      refine go_s (pc' := 8) rfl rfl rfl rfl ?_
      refine go_sget (pc' := 9) (v := .ref 61) hS66 rfl rfl rfl (by decide) rfl rfl ?_
      refine go_salen (pc' := 10) (n := 3) hS66 rfl rfl rfl rfl ?_
      refine go_icmpP (t' := 25) (pc' := 11) rfl rfl rfl (fun (c : 3 ≤ (2 : Int32)) => absurd c (by decide)) (fun _ => ?_)
      refine go_s (pc' := 12) rfl rfl rfl rfl ?_
      refine go_sget (pc' := 13) (v := .ref 61) hS66 rfl rfl rfl (by decide) rfl rfl ?_
      refine go_s (pc' := 14) rfl rfl rfl rfl ?_
      refine go_sald (pc' := 15) (q := 2) (v := .ref 60) hS66 rfl rfl rfl rfl (by decide) rfl rfl ?_
      refine go_sget (pc' := 16) (v := .int (I68 11 2)) hS66 rfl rfl rfl (by decide) rfl rfl ?_
      refine go_s (pc' := 17) rfl rfl rfl rfl ?_
      refine go_icmpP (t' := 23) (pc' := 18) rfl rfl rfl (fun (c72 : ¬ (I68 11 2) = 0) => ?_) (fun (c72' : ¬ ¬ (I68 11 2) = 0) => ?_)
      · skip
        have es73 : mstp 2 0 (I68, Q68, Z68) = (I68, Q68, Z68) := if_neg c72
        refine go_s (pc' := 24) (lo' := [some (.ref 1), some (.int 0), some (.int 3)]) rfl rfl rfl rfl ?_
        refine go_s (pc' := 6) rfl rfl rfl rfl ?_
        refine go_s (pc' := 7) rfl rfl rfl rfl ?_
        refine go_s (pc' := 8) rfl rfl rfl rfl ?_
        refine go_sget (pc' := 9) (v := .ref 61) hS66 rfl rfl rfl (by decide) rfl rfl ?_
        refine go_salen (pc' := 10) (n := 3) hS66 rfl rfl rfl rfl ?_
        refine go_icmpP (t' := 25) (pc' := 11) rfl rfl rfl (fun _ => ?_) (fun (c : ¬ (3 ≤ (3 : Int32))) => absurd (by decide) c)
        refine go_ret rfl rfl ?_
        have hms : mfp 0 (I, Q, Z) = (I68, Q68, Z68) := by
          unfold mfp
          rw [← eM6, ← eM68, es71, es73]
        have hC74 : CA w 32 m0 B h58 (I68, Q68, Z68) := ⟨X67, ow7, sb7, hS66, hD63, hB64, hQ65⟩
        rw [hms]
        exact ⟨rfl, hC74⟩
      · skip
        have c72 : (I68 11 2) = 0 := Decidable.not_not.mp c72'
        refine go_s (pc' := 19) rfl rfl rfl rfl ?_
        refine go_sget (pc' := 20) (v := .ref 61) hS66 rfl rfl rfl (by decide) rfl rfl ?_
        refine go_s (pc' := 21) rfl rfl rfl rfl ?_
        refine go_sald (pc' := 22) (q := 2) (v := .ref 60) hS66 rfl rfl rfl rfl (by decide) rfl rfl ?_
        refine go_callV (pc' := 23) rfl rfl rfl (Nat.le_of_ble_eq_true rfl) rfl (sm_o hS66 rfl) rfl rfl rfl (ct_stopP_2 hS66 hW (by omega)) (fun r h75 q76 => ?_)
        obtain ⟨rfl, hS77, hE78⟩ := q76
        have hF79 := fr_trans hF69 (fr_e hE78)
        have hst : mstp 2 0 (I68, Q68, Z68) = (mstI 2 I68, (I68, Q68, Z68).2) := if_pos c72
        have hD80 : CD w 32 m0 h75 (mstp 2 0 (I68, Q68, Z68)).1 (mstp 2 0 (I68, Q68, Z68)).2.1 (mstp 2 0 (I68, Q68, Z68)).2.2 (X67) ow7 sb7 := by rw [hst]; exact CD_I (J := mstI 2 I68) (CD_fr hD63 hF79) ⟨rfl, rfl, rfl, rfl, rfl, rfl, rfl, rfl, rfl, rfl, rfl, rfl, rfl, rfl, rfl⟩
        have hS83 : sm tbc h75 (mstp 2 0 (I68, Q68, Z68)).1 (X67) := by rw [hst]; exact hS77
        have hB81 : co h75 (mstp 2 0 (I68, Q68, Z68)).1 ≤ B := by
          have z1 := co_fr (I := I68) (J := (mstp 2 0 (I68, Q68, Z68)).1) hF79 (by rw [hst]; rfl)
          have z2 := hB64
          omega
        have hQ82 : ∀ l, l < 16 → ((mstp 2 0 (I68, Q68, Z68)).2.1 l).length ≤ List.length h75 := by rw [hst]; exact fun l hl => Nat.le_trans (hQ65 l hl) hF79.1
        obtain ⟨X84, eX84⟩ : ∃ y, y = (X67) := ⟨_, rfl⟩
        rw [← eX84] at hD80 hS83
        obtain ⟨M85, eM85⟩ : ∃ y : mM, y = (mstp 2 0 (I68, Q68, Z68)) := ⟨_, rfl⟩
        rw [← eM85] at hD80 hS83 hB81 hQ82
        obtain ⟨I85, Q85, Z85⟩ := M85
        change CD w 32 m0 h75 I85 Q85 Z85 X84 ow7 sb7 at hD80
        change sm tbc h75 I85 X84 at hS83
        change co h75 I85 ≤ B at hB81
        change ∀ l, l < 16 → (Q85 l).length ≤ List.length h75 at hQ82
        have hW := hD80.1.1
        have hWn : ∀ a, List.length h75 ≤ a → w a = true := fun a ha => (hD80.1.2.1 a ha).1
        have hF86 := fr_refl tbc h75
        have hln : 62 ≤ List.length h75 := sm_len hS83
        refine go_s (pc' := 24) (lo' := [some (.ref 1), some (.int 0), some (.int 3)]) rfl rfl rfl rfl ?_
        refine go_s (pc' := 6) rfl rfl rfl rfl ?_
        refine go_s (pc' := 7) rfl rfl rfl rfl ?_
        refine go_s (pc' := 8) rfl rfl rfl rfl ?_
        refine go_sget (pc' := 9) (v := .ref 61) hS83 rfl rfl rfl (by decide) rfl rfl ?_
        refine go_salen (pc' := 10) (n := 3) hS83 rfl rfl rfl rfl ?_
        refine go_icmpP (t' := 25) (pc' := 11) rfl rfl rfl (fun _ => ?_) (fun (c : ¬ (3 ≤ (3 : Int32))) => absurd (by decide) c)
        refine go_ret rfl rfl ?_
        have hms : mfp 0 (I, Q, Z) = (I85, Q85, Z85) := by
          unfold mfp
          rw [← eM6, ← eM68, es71, ← eM85]
        have hC87 : CA w 32 m0 B h75 (I85, Q85, Z85) := ⟨X84, ow7, sb7, hS83, hD80, hB81, hQ82⟩
        rw [hms]
        exact ⟨rfl, hC87⟩
    · skip
      have c70 : (I68 11 1) = 0 := Decidable.not_not.mp c70'
      refine go_s (pc' := 19) rfl rfl rfl rfl ?_
      refine go_sget (pc' := 20) (v := .ref 61) hS66 rfl rfl rfl (by decide) rfl rfl ?_
      refine go_s (pc' := 21) rfl rfl rfl rfl ?_
      refine go_sald (pc' := 22) (q := 1) (v := .ref 59) hS66 rfl rfl rfl rfl (by decide) rfl rfl ?_
      refine go_callV (pc' := 23) rfl rfl rfl (Nat.le_of_ble_eq_true rfl) rfl (sm_o hS66 rfl) rfl rfl rfl (ct_stopP_1 hS66 hW (by omega)) (fun r h88 q89 => ?_)
      obtain ⟨rfl, hS90, hE91⟩ := q89
      have hF92 := fr_trans hF69 (fr_e hE91)
      have hst : mstp 1 0 (I68, Q68, Z68) = (mstI 1 I68, (I68, Q68, Z68).2) := if_pos c70
      have hD93 : CD w 32 m0 h88 (mstp 1 0 (I68, Q68, Z68)).1 (mstp 1 0 (I68, Q68, Z68)).2.1 (mstp 1 0 (I68, Q68, Z68)).2.2 (X67) ow7 sb7 := by rw [hst]; exact CD_I (J := mstI 1 I68) (CD_fr hD63 hF92) ⟨rfl, rfl, rfl, rfl, rfl, rfl, rfl, rfl, rfl, rfl, rfl, rfl, rfl, rfl, rfl⟩
      have hS96 : sm tbc h88 (mstp 1 0 (I68, Q68, Z68)).1 (X67) := by rw [hst]; exact hS90
      have hB94 : co h88 (mstp 1 0 (I68, Q68, Z68)).1 ≤ B := by
        have z1 := co_fr (I := I68) (J := (mstp 1 0 (I68, Q68, Z68)).1) hF92 (by rw [hst]; rfl)
        have z2 := hB64
        omega
      have hQ95 : ∀ l, l < 16 → ((mstp 1 0 (I68, Q68, Z68)).2.1 l).length ≤ List.length h88 := by rw [hst]; exact fun l hl => Nat.le_trans (hQ65 l hl) hF92.1
      obtain ⟨X97, eX97⟩ : ∃ y, y = (X67) := ⟨_, rfl⟩
      rw [← eX97] at hD93 hS96
      obtain ⟨M98, eM98⟩ : ∃ y : mM, y = (mstp 1 0 (I68, Q68, Z68)) := ⟨_, rfl⟩
      rw [← eM98] at hD93 hS96 hB94 hQ95
      obtain ⟨I98, Q98, Z98⟩ := M98
      change CD w 32 m0 h88 I98 Q98 Z98 X97 ow7 sb7 at hD93
      change sm tbc h88 I98 X97 at hS96
      change co h88 I98 ≤ B at hB94
      change ∀ l, l < 16 → (Q98 l).length ≤ List.length h88 at hQ95
      have hW := hD93.1.1
      have hWn : ∀ a, List.length h88 ≤ a → w a = true := fun a ha => (hD93.1.2.1 a ha).1
      have hF99 := fr_refl tbc h88
      have hln : 62 ≤ List.length h88 := sm_len hS96
      refine go_s (pc' := 24) (lo' := [some (.ref 1), some (.int 0), some (.int 2)]) rfl rfl rfl rfl ?_
      refine go_s (pc' := 6) rfl rfl rfl rfl ?_
      refine go_s (pc' := 7) rfl rfl rfl rfl ?_
      refine go_s (pc' := 8) rfl rfl rfl rfl ?_
      refine go_sget (pc' := 9) (v := .ref 61) hS96 rfl rfl rfl (by decide) rfl rfl ?_
      refine go_salen (pc' := 10) (n := 3) hS96 rfl rfl rfl rfl ?_
      refine go_icmpP (t' := 25) (pc' := 11) rfl rfl rfl (fun (c : 3 ≤ (2 : Int32)) => absurd c (by decide)) (fun _ => ?_)
      refine go_s (pc' := 12) rfl rfl rfl rfl ?_
      refine go_sget (pc' := 13) (v := .ref 61) hS96 rfl rfl rfl (by decide) rfl rfl ?_
      refine go_s (pc' := 14) rfl rfl rfl rfl ?_
      refine go_sald (pc' := 15) (q := 2) (v := .ref 60) hS96 rfl rfl rfl rfl (by decide) rfl rfl ?_
      refine go_sget (pc' := 16) (v := .int (I98 11 2)) hS96 rfl rfl rfl (by decide) rfl rfl ?_
      refine go_s (pc' := 17) rfl rfl rfl rfl ?_
      refine go_icmpP (t' := 23) (pc' := 18) rfl rfl rfl (fun (c100 : ¬ (I98 11 2) = 0) => ?_) (fun (c100' : ¬ ¬ (I98 11 2) = 0) => ?_)
      · skip
        have es101 : mstp 2 0 (I98, Q98, Z98) = (I98, Q98, Z98) := if_neg c100
        refine go_s (pc' := 24) (lo' := [some (.ref 1), some (.int 0), some (.int 3)]) rfl rfl rfl rfl ?_
        refine go_s (pc' := 6) rfl rfl rfl rfl ?_
        refine go_s (pc' := 7) rfl rfl rfl rfl ?_
        refine go_s (pc' := 8) rfl rfl rfl rfl ?_
        refine go_sget (pc' := 9) (v := .ref 61) hS96 rfl rfl rfl (by decide) rfl rfl ?_
        refine go_salen (pc' := 10) (n := 3) hS96 rfl rfl rfl rfl ?_
        refine go_icmpP (t' := 25) (pc' := 11) rfl rfl rfl (fun _ => ?_) (fun (c : ¬ (3 ≤ (3 : Int32))) => absurd (by decide) c)
        refine go_ret rfl rfl ?_
        have hms : mfp 0 (I, Q, Z) = (I98, Q98, Z98) := by
          unfold mfp
          rw [← eM6, ← eM68, ← eM98, es101]
        have hC102 : CA w 32 m0 B h88 (I98, Q98, Z98) := ⟨X97, ow7, sb7, hS96, hD93, hB94, hQ95⟩
        rw [hms]
        exact ⟨rfl, hC102⟩
      · skip
        have c100 : (I98 11 2) = 0 := Decidable.not_not.mp c100'
        refine go_s (pc' := 19) rfl rfl rfl rfl ?_
        refine go_sget (pc' := 20) (v := .ref 61) hS96 rfl rfl rfl (by decide) rfl rfl ?_
        refine go_s (pc' := 21) rfl rfl rfl rfl ?_
        refine go_sald (pc' := 22) (q := 2) (v := .ref 60) hS96 rfl rfl rfl rfl (by decide) rfl rfl ?_
        refine go_callV (pc' := 23) rfl rfl rfl (Nat.le_of_ble_eq_true rfl) rfl (sm_o hS96 rfl) rfl rfl rfl (ct_stopP_2 hS96 hW (by omega)) (fun r h103 q104 => ?_)
        obtain ⟨rfl, hS105, hE106⟩ := q104
        have hF107 := fr_trans hF99 (fr_e hE106)
        have hst : mstp 2 0 (I98, Q98, Z98) = (mstI 2 I98, (I98, Q98, Z98).2) := if_pos c100
        have hD108 : CD w 32 m0 h103 (mstp 2 0 (I98, Q98, Z98)).1 (mstp 2 0 (I98, Q98, Z98)).2.1 (mstp 2 0 (I98, Q98, Z98)).2.2 (X97) ow7 sb7 := by rw [hst]; exact CD_I (J := mstI 2 I98) (CD_fr hD93 hF107) ⟨rfl, rfl, rfl, rfl, rfl, rfl, rfl, rfl, rfl, rfl, rfl, rfl, rfl, rfl, rfl⟩
        have hS111 : sm tbc h103 (mstp 2 0 (I98, Q98, Z98)).1 (X97) := by rw [hst]; exact hS105
        have hB109 : co h103 (mstp 2 0 (I98, Q98, Z98)).1 ≤ B := by
          have z1 := co_fr (I := I98) (J := (mstp 2 0 (I98, Q98, Z98)).1) hF107 (by rw [hst]; rfl)
          have z2 := hB94
          omega
        have hQ110 : ∀ l, l < 16 → ((mstp 2 0 (I98, Q98, Z98)).2.1 l).length ≤ List.length h103 := by rw [hst]; exact fun l hl => Nat.le_trans (hQ95 l hl) hF107.1
        obtain ⟨X112, eX112⟩ : ∃ y, y = (X97) := ⟨_, rfl⟩
        rw [← eX112] at hD108 hS111
        obtain ⟨M113, eM113⟩ : ∃ y : mM, y = (mstp 2 0 (I98, Q98, Z98)) := ⟨_, rfl⟩
        rw [← eM113] at hD108 hS111 hB109 hQ110
        obtain ⟨I113, Q113, Z113⟩ := M113
        change CD w 32 m0 h103 I113 Q113 Z113 X112 ow7 sb7 at hD108
        change sm tbc h103 I113 X112 at hS111
        change co h103 I113 ≤ B at hB109
        change ∀ l, l < 16 → (Q113 l).length ≤ List.length h103 at hQ110
        have hW := hD108.1.1
        have hWn : ∀ a, List.length h103 ≤ a → w a = true := fun a ha => (hD108.1.2.1 a ha).1
        have hF114 := fr_refl tbc h103
        have hln : 62 ≤ List.length h103 := sm_len hS111
        refine go_s (pc' := 24) (lo' := [some (.ref 1), some (.int 0), some (.int 3)]) rfl rfl rfl rfl ?_
        refine go_s (pc' := 6) rfl rfl rfl rfl ?_
        refine go_s (pc' := 7) rfl rfl rfl rfl ?_
        refine go_s (pc' := 8) rfl rfl rfl rfl ?_
        refine go_sget (pc' := 9) (v := .ref 61) hS111 rfl rfl rfl (by decide) rfl rfl ?_
        refine go_salen (pc' := 10) (n := 3) hS111 rfl rfl rfl rfl ?_
        refine go_icmpP (t' := 25) (pc' := 11) rfl rfl rfl (fun _ => ?_) (fun (c : ¬ (3 ≤ (3 : Int32))) => absurd (by decide) c)
        refine go_ret rfl rfl ?_
        have hms : mfp 0 (I, Q, Z) = (I113, Q113, Z113) := by
          unfold mfp
          rw [← eM6, ← eM68, ← eM98, ← eM113]
        have hC115 : CA w 32 m0 B h103 (I113, Q113, Z113) := ⟨X112, ow7, sb7, hS111, hD108, hB109, hQ110⟩
        rw [hms]
        exact ⟨rfl, hC115⟩
theorem cm_sp_1 {w : Nat → Bool} {d : Nat} {h : am_Hp} {m0 : mg} {B : Nat} {I : sm_I} {Q : mQ} {Z : mZ} (hC : CA w 32 m0 B h (I, Q, Z)) (hB2 : B < 2 ^ 26) (hd : 4 ≤ d) : am_Ev (am_prog w) d 99 [.ref 1, .int 1] h (fun r h' => r = none ∧ CA w 32 m0 B h' (mfp 1 (I, Q, Z))) := by
  obtain ⟨X, ow, sb, hS, hD, hB, hQ⟩ := hC
  change sm tbc h I X at hS
  change CD w 32 m0 h I Q Z X ow sb at hD
  change co h I ≤ B at hB
  change ∀ l, l < 16 → (Q l).length ≤ h.length at hQ
  have hW := hD.1.1
  have hWn : ∀ a, List.length h ≤ a → w a = true := fun a ha => (hD.1.2.1 a ha).1
  have hF1 := fr_refl tbc h
  have hln : 62 ≤ List.length h := sm_len hS
  obtain ⟨d, rfl⟩ : ∃ e, d = e + 1 := ⟨d - 1, by omega⟩
  refine ev_go rfl (Nat.le_of_ble_eq_true rfl) rfl ?_
  refine go_s (pc' := 1) rfl rfl rfl rfl ?_
  refine go_sget (pc' := 2) (v := .ref 2) hS rfl rfl rfl (by decide) rfl rfl ?_
  refine go_s (pc' := 3) rfl rfl rfl rfl ?_
  have hC2 : CA w 32 m0 B h (I, Q, Z) := ⟨X, ow, sb, hS, hD, hB, hQ⟩
  refine go_callV (pc' := 4) rfl rfl rfl (Nat.le_of_ble_eq_true rfl) rfl (sm_o hS rfl) rfl rfl rfl (cm_nst_1 hC2 (by omega) (by omega)) (fun r h3 q4 => ?_)
  obtain ⟨rfl, hC5⟩ := q4
  change CA w 32 m0 B h3 (mnst 1 (I, Q, Z)) at hC5
  obtain ⟨M6, eM6⟩ : ∃ y : mM, y = (mnst 1 (I, Q, Z)) := ⟨_, rfl⟩
  rw [← eM6] at hC5
  obtain ⟨I6, Q6, Z6⟩ := M6
  obtain ⟨X7, ow7, sb7, hS7, hD7, hB7, hQ7⟩ := hC5
  have hW := hD7.1.1
  have hWn : ∀ a, List.length h3 ≤ a → w a = true := fun a ha => (hD7.1.2.1 a ha).1
  have hF8 := fr_refl tbc h3
  have hln : 62 ≤ List.length h3 := sm_len hS7
  change CD w 32 m0 h3 I6 Q6 Z6 X7 ow7 sb7 at hD7
  change sm tbc h3 I6 X7 at hS7
  change co h3 I6 ≤ B at hB7
  change ∀ l, l < 16 → (Q6 l).length ≤ List.length h3 at hQ7
  have hW := hD7.1.1
  have hWn : ∀ a, List.length h3 ≤ a → w a = true := fun a ha => (hD7.1.2.1 a ha).1
  have hF9 := fr_refl tbc h3
  have hln : 62 ≤ List.length h3 := sm_len hS7
  refine go_s (pc' := 5) (st' := [.int 0]) rfl rfl rfl rfl ?_
  refine go_s (pc' := 6) (lo' := [some (.ref 1), some (.int 1), some (.int 0)]) rfl rfl rfl rfl ?_
  refine go_s (pc' := 7) rfl rfl rfl rfl ?_
  refine go_s (pc' := 8) rfl rfl rfl rfl ?_
  refine go_sget (pc' := 9) (v := .ref 61) hS7 rfl rfl rfl (by decide) rfl rfl ?_
  refine go_salen (pc' := 10) (n := 3) hS7 rfl rfl rfl rfl ?_
  refine go_icmpP (t' := 25) (pc' := 11) rfl rfl rfl (fun (c : 3 ≤ (0 : Int32)) => absurd c (by decide)) (fun _ => ?_)
  refine go_s (pc' := 12) rfl rfl rfl rfl ?_
  refine go_sget (pc' := 13) (v := .ref 61) hS7 rfl rfl rfl (by decide) rfl rfl ?_
  refine go_s (pc' := 14) rfl rfl rfl rfl ?_
  refine go_sald (pc' := 15) (q := 0) (v := .ref 32) hS7 rfl rfl rfl rfl (by decide) rfl rfl ?_
  refine go_sget (pc' := 16) (v := .int (I6 11 0)) hS7 rfl rfl rfl (by decide) rfl rfl ?_
  refine go_s (pc' := 17) rfl rfl rfl rfl ?_
  refine go_icmpP (t' := 23) (pc' := 18) rfl rfl rfl (fun (c10 : ¬ (I6 11 0) = 1) => ?_) (fun (c10' : ¬ ¬ (I6 11 0) = 1) => ?_)
  · skip
    have es11 : mstp 0 1 (I6, Q6, Z6) = (I6, Q6, Z6) := if_neg c10
    refine go_s (pc' := 24) (lo' := [some (.ref 1), some (.int 1), some (.int 1)]) rfl rfl rfl rfl ?_
    refine go_s (pc' := 6) rfl rfl rfl rfl ?_
    refine go_s (pc' := 7) rfl rfl rfl rfl ?_
    refine go_s (pc' := 8) rfl rfl rfl rfl ?_
    refine go_sget (pc' := 9) (v := .ref 61) hS7 rfl rfl rfl (by decide) rfl rfl ?_
    refine go_salen (pc' := 10) (n := 3) hS7 rfl rfl rfl rfl ?_
    refine go_icmpP (t' := 25) (pc' := 11) rfl rfl rfl (fun (c : 3 ≤ (1 : Int32)) => absurd c (by decide)) (fun _ => ?_)
    refine go_s (pc' := 12) rfl rfl rfl rfl ?_
    refine go_sget (pc' := 13) (v := .ref 61) hS7 rfl rfl rfl (by decide) rfl rfl ?_
    refine go_s (pc' := 14) rfl rfl rfl rfl ?_
    refine go_sald (pc' := 15) (q := 1) (v := .ref 59) hS7 rfl rfl rfl rfl (by decide) rfl rfl ?_
    refine go_sget (pc' := 16) (v := .int (I6 11 1)) hS7 rfl rfl rfl (by decide) rfl rfl ?_
    refine go_s (pc' := 17) rfl rfl rfl rfl ?_
    refine go_icmpP (t' := 23) (pc' := 18) rfl rfl rfl (fun (c12 : ¬ (I6 11 1) = 1) => ?_) (fun (c12' : ¬ ¬ (I6 11 1) = 1) => ?_)
    · skip
      have es13 : mstp 1 1 (I6, Q6, Z6) = (I6, Q6, Z6) := if_neg c12
      refine go_s (pc' := 24) (lo' := [some (.ref 1), some (.int 1), some (.int 2)]) rfl rfl rfl rfl ?_
      refine go_s (pc' := 6) rfl rfl rfl rfl ?_
      refine go_s (pc' := 7) rfl rfl rfl rfl ?_
      refine go_s (pc' := 8) rfl rfl rfl rfl ?_
      refine go_sget (pc' := 9) (v := .ref 61) hS7 rfl rfl rfl (by decide) rfl rfl ?_
      refine go_salen (pc' := 10) (n := 3) hS7 rfl rfl rfl rfl ?_
      refine go_icmpP (t' := 25) (pc' := 11) rfl rfl rfl (fun (c : 3 ≤ (2 : Int32)) => absurd c (by decide)) (fun _ => ?_)
      refine go_s (pc' := 12) rfl rfl rfl rfl ?_
      refine go_sget (pc' := 13) (v := .ref 61) hS7 rfl rfl rfl (by decide) rfl rfl ?_
      refine go_s (pc' := 14) rfl rfl rfl rfl ?_
      refine go_sald (pc' := 15) (q := 2) (v := .ref 60) hS7 rfl rfl rfl rfl (by decide) rfl rfl ?_
      refine go_sget (pc' := 16) (v := .int (I6 11 2)) hS7 rfl rfl rfl (by decide) rfl rfl ?_
      refine go_s (pc' := 17) rfl rfl rfl rfl ?_
      refine go_icmpP (t' := 23) (pc' := 18) rfl rfl rfl (fun (c14 : ¬ (I6 11 2) = 1) => ?_) (fun (c14' : ¬ ¬ (I6 11 2) = 1) => ?_)
      · skip
        have es15 : mstp 2 1 (I6, Q6, Z6) = (I6, Q6, Z6) := if_neg c14
        refine go_s (pc' := 24) (lo' := [some (.ref 1), some (.int 1), some (.int 3)]) rfl rfl rfl rfl ?_
        refine go_s (pc' := 6) rfl rfl rfl rfl ?_
        refine go_s (pc' := 7) rfl rfl rfl rfl ?_
        refine go_s (pc' := 8) rfl rfl rfl rfl ?_
        refine go_sget (pc' := 9) (v := .ref 61) hS7 rfl rfl rfl (by decide) rfl rfl ?_
        refine go_salen (pc' := 10) (n := 3) hS7 rfl rfl rfl rfl ?_
        refine go_icmpP (t' := 25) (pc' := 11) rfl rfl rfl (fun _ => ?_) (fun (c : ¬ (3 ≤ (3 : Int32))) => absurd (by decide) c)
        refine go_ret rfl rfl ?_
        have hms : mfp 1 (I, Q, Z) = (I6, Q6, Z6) := by
          unfold mfp
          rw [← eM6, es11, es13, es15]
        have hC16 : CA w 32 m0 B h3 (I6, Q6, Z6) := ⟨X7, ow7, sb7, hS7, hD7, hB7, hQ7⟩
        rw [hms]
        exact ⟨rfl, hC16⟩
      · skip
        have c14 : (I6 11 2) = 1 := Decidable.not_not.mp c14'
        refine go_s (pc' := 19) rfl rfl rfl rfl ?_
        refine go_sget (pc' := 20) (v := .ref 61) hS7 rfl rfl rfl (by decide) rfl rfl ?_
        refine go_s (pc' := 21) rfl rfl rfl rfl ?_
        refine go_sald (pc' := 22) (q := 2) (v := .ref 60) hS7 rfl rfl rfl rfl (by decide) rfl rfl ?_
        refine go_callV (pc' := 23) rfl rfl rfl (Nat.le_of_ble_eq_true rfl) rfl (sm_o hS7 rfl) rfl rfl rfl (ct_stopP_2 hS7 hW (by omega)) (fun r h17 q18 => ?_)
        obtain ⟨rfl, hS19, hE20⟩ := q18
        have hF21 := fr_trans hF9 (fr_e hE20)
        have hst : mstp 2 1 (I6, Q6, Z6) = (mstI 2 I6, (I6, Q6, Z6).2) := if_pos c14
        have hD22 : CD w 32 m0 h17 (mstp 2 1 (I6, Q6, Z6)).1 (mstp 2 1 (I6, Q6, Z6)).2.1 (mstp 2 1 (I6, Q6, Z6)).2.2 (X7) ow7 sb7 := by rw [hst]; exact CD_I (J := mstI 2 I6) (CD_fr hD7 hF21) ⟨rfl, rfl, rfl, rfl, rfl, rfl, rfl, rfl, rfl, rfl, rfl, rfl, rfl, rfl, rfl⟩
        have hS25 : sm tbc h17 (mstp 2 1 (I6, Q6, Z6)).1 (X7) := by rw [hst]; exact hS19
        have hB23 : co h17 (mstp 2 1 (I6, Q6, Z6)).1 ≤ B := by
          have z1 := co_fr (I := I6) (J := (mstp 2 1 (I6, Q6, Z6)).1) hF21 (by rw [hst]; rfl)
          have z2 := hB7
          omega
        have hQ24 : ∀ l, l < 16 → ((mstp 2 1 (I6, Q6, Z6)).2.1 l).length ≤ List.length h17 := by rw [hst]; exact fun l hl => Nat.le_trans (hQ7 l hl) hF21.1
        obtain ⟨X26, eX26⟩ : ∃ y, y = (X7) := ⟨_, rfl⟩
        rw [← eX26] at hD22 hS25
        obtain ⟨M27, eM27⟩ : ∃ y : mM, y = (mstp 2 1 (I6, Q6, Z6)) := ⟨_, rfl⟩
        rw [← eM27] at hD22 hS25 hB23 hQ24
        obtain ⟨I27, Q27, Z27⟩ := M27
        change CD w 32 m0 h17 I27 Q27 Z27 X26 ow7 sb7 at hD22
        change sm tbc h17 I27 X26 at hS25
        change co h17 I27 ≤ B at hB23
        change ∀ l, l < 16 → (Q27 l).length ≤ List.length h17 at hQ24
        have hW := hD22.1.1
        have hWn : ∀ a, List.length h17 ≤ a → w a = true := fun a ha => (hD22.1.2.1 a ha).1
        have hF28 := fr_refl tbc h17
        have hln : 62 ≤ List.length h17 := sm_len hS25
        refine go_s (pc' := 24) (lo' := [some (.ref 1), some (.int 1), some (.int 3)]) rfl rfl rfl rfl ?_
        refine go_s (pc' := 6) rfl rfl rfl rfl ?_
        refine go_s (pc' := 7) rfl rfl rfl rfl ?_
        refine go_s (pc' := 8) rfl rfl rfl rfl ?_
        refine go_sget (pc' := 9) (v := .ref 61) hS25 rfl rfl rfl (by decide) rfl rfl ?_
        refine go_salen (pc' := 10) (n := 3) hS25 rfl rfl rfl rfl ?_
        refine go_icmpP (t' := 25) (pc' := 11) rfl rfl rfl (fun _ => ?_) (fun (c : ¬ (3 ≤ (3 : Int32))) => absurd (by decide) c)
        refine go_ret rfl rfl ?_
        have hms : mfp 1 (I, Q, Z) = (I27, Q27, Z27) := by
          unfold mfp
          rw [← eM6, es11, es13, ← eM27]
        have hC29 : CA w 32 m0 B h17 (I27, Q27, Z27) := ⟨X26, ow7, sb7, hS25, hD22, hB23, hQ24⟩
        rw [hms]
        exact ⟨rfl, hC29⟩
    · skip
      have c12 : (I6 11 1) = 1 := Decidable.not_not.mp c12'
      refine go_s (pc' := 19) rfl rfl rfl rfl ?_
      refine go_sget (pc' := 20) (v := .ref 61) hS7 rfl rfl rfl (by decide) rfl rfl ?_
      refine go_s (pc' := 21) rfl rfl rfl rfl ?_
      refine go_sald (pc' := 22) (q := 1) (v := .ref 59) hS7 rfl rfl rfl rfl (by decide) rfl rfl ?_
      refine go_callV (pc' := 23) rfl rfl rfl (Nat.le_of_ble_eq_true rfl) rfl (sm_o hS7 rfl) rfl rfl rfl (ct_stopP_1 hS7 hW (by omega)) (fun r h30 q31 => ?_)
      obtain ⟨rfl, hS32, hE33⟩ := q31
      have hF34 := fr_trans hF9 (fr_e hE33)
      have hst : mstp 1 1 (I6, Q6, Z6) = (mstI 1 I6, (I6, Q6, Z6).2) := if_pos c12
      have hD35 : CD w 32 m0 h30 (mstp 1 1 (I6, Q6, Z6)).1 (mstp 1 1 (I6, Q6, Z6)).2.1 (mstp 1 1 (I6, Q6, Z6)).2.2 (X7) ow7 sb7 := by rw [hst]; exact CD_I (J := mstI 1 I6) (CD_fr hD7 hF34) ⟨rfl, rfl, rfl, rfl, rfl, rfl, rfl, rfl, rfl, rfl, rfl, rfl, rfl, rfl, rfl⟩
      have hS38 : sm tbc h30 (mstp 1 1 (I6, Q6, Z6)).1 (X7) := by rw [hst]; exact hS32
      have hB36 : co h30 (mstp 1 1 (I6, Q6, Z6)).1 ≤ B := by
        have z1 := co_fr (I := I6) (J := (mstp 1 1 (I6, Q6, Z6)).1) hF34 (by rw [hst]; rfl)
        have z2 := hB7
        omega
      have hQ37 : ∀ l, l < 16 → ((mstp 1 1 (I6, Q6, Z6)).2.1 l).length ≤ List.length h30 := by rw [hst]; exact fun l hl => Nat.le_trans (hQ7 l hl) hF34.1
      obtain ⟨X39, eX39⟩ : ∃ y, y = (X7) := ⟨_, rfl⟩
      rw [← eX39] at hD35 hS38
      obtain ⟨M40, eM40⟩ : ∃ y : mM, y = (mstp 1 1 (I6, Q6, Z6)) := ⟨_, rfl⟩
      rw [← eM40] at hD35 hS38 hB36 hQ37
      obtain ⟨I40, Q40, Z40⟩ := M40
      change CD w 32 m0 h30 I40 Q40 Z40 X39 ow7 sb7 at hD35
      change sm tbc h30 I40 X39 at hS38
      change co h30 I40 ≤ B at hB36
      change ∀ l, l < 16 → (Q40 l).length ≤ List.length h30 at hQ37
      have hW := hD35.1.1
      have hWn : ∀ a, List.length h30 ≤ a → w a = true := fun a ha => (hD35.1.2.1 a ha).1
      have hF41 := fr_refl tbc h30
      have hln : 62 ≤ List.length h30 := sm_len hS38
      refine go_s (pc' := 24) (lo' := [some (.ref 1), some (.int 1), some (.int 2)]) rfl rfl rfl rfl ?_
      refine go_s (pc' := 6) rfl rfl rfl rfl ?_
      refine go_s (pc' := 7) rfl rfl rfl rfl ?_
      refine go_s (pc' := 8) rfl rfl rfl rfl ?_
      refine go_sget (pc' := 9) (v := .ref 61) hS38 rfl rfl rfl (by decide) rfl rfl ?_
      refine go_salen (pc' := 10) (n := 3) hS38 rfl rfl rfl rfl ?_
      refine go_icmpP (t' := 25) (pc' := 11) rfl rfl rfl (fun (c : 3 ≤ (2 : Int32)) => absurd c (by decide)) (fun _ => ?_)
      refine go_s (pc' := 12) rfl rfl rfl rfl ?_
      refine go_sget (pc' := 13) (v := .ref 61) hS38 rfl rfl rfl (by decide) rfl rfl ?_
      refine go_s (pc' := 14) rfl rfl rfl rfl ?_
      refine go_sald (pc' := 15) (q := 2) (v := .ref 60) hS38 rfl rfl rfl rfl (by decide) rfl rfl ?_
      refine go_sget (pc' := 16) (v := .int (I40 11 2)) hS38 rfl rfl rfl (by decide) rfl rfl ?_
      refine go_s (pc' := 17) rfl rfl rfl rfl ?_
      refine go_icmpP (t' := 23) (pc' := 18) rfl rfl rfl (fun (c42 : ¬ (I40 11 2) = 1) => ?_) (fun (c42' : ¬ ¬ (I40 11 2) = 1) => ?_)
      · skip
        have es43 : mstp 2 1 (I40, Q40, Z40) = (I40, Q40, Z40) := if_neg c42
        refine go_s (pc' := 24) (lo' := [some (.ref 1), some (.int 1), some (.int 3)]) rfl rfl rfl rfl ?_
        refine go_s (pc' := 6) rfl rfl rfl rfl ?_
        refine go_s (pc' := 7) rfl rfl rfl rfl ?_
        refine go_s (pc' := 8) rfl rfl rfl rfl ?_
        refine go_sget (pc' := 9) (v := .ref 61) hS38 rfl rfl rfl (by decide) rfl rfl ?_
        refine go_salen (pc' := 10) (n := 3) hS38 rfl rfl rfl rfl ?_
        refine go_icmpP (t' := 25) (pc' := 11) rfl rfl rfl (fun _ => ?_) (fun (c : ¬ (3 ≤ (3 : Int32))) => absurd (by decide) c)
        refine go_ret rfl rfl ?_
        have hms : mfp 1 (I, Q, Z) = (I40, Q40, Z40) := by
          unfold mfp
          rw [← eM6, es11, ← eM40, es43]
        have hC44 : CA w 32 m0 B h30 (I40, Q40, Z40) := ⟨X39, ow7, sb7, hS38, hD35, hB36, hQ37⟩
        rw [hms]
        exact ⟨rfl, hC44⟩
      · skip
        have c42 : (I40 11 2) = 1 := Decidable.not_not.mp c42'
        refine go_s (pc' := 19) rfl rfl rfl rfl ?_
        refine go_sget (pc' := 20) (v := .ref 61) hS38 rfl rfl rfl (by decide) rfl rfl ?_
        refine go_s (pc' := 21) rfl rfl rfl rfl ?_
        refine go_sald (pc' := 22) (q := 2) (v := .ref 60) hS38 rfl rfl rfl rfl (by decide) rfl rfl ?_
        refine go_callV (pc' := 23) rfl rfl rfl (Nat.le_of_ble_eq_true rfl) rfl (sm_o hS38 rfl) rfl rfl rfl (ct_stopP_2 hS38 hW (by omega)) (fun r h45 q46 => ?_)
        obtain ⟨rfl, hS47, hE48⟩ := q46
        have hF49 := fr_trans hF41 (fr_e hE48)
        have hst : mstp 2 1 (I40, Q40, Z40) = (mstI 2 I40, (I40, Q40, Z40).2) := if_pos c42
        have hD50 : CD w 32 m0 h45 (mstp 2 1 (I40, Q40, Z40)).1 (mstp 2 1 (I40, Q40, Z40)).2.1 (mstp 2 1 (I40, Q40, Z40)).2.2 (X39) ow7 sb7 := by rw [hst]; exact CD_I (J := mstI 2 I40) (CD_fr hD35 hF49) ⟨rfl, rfl, rfl, rfl, rfl, rfl, rfl, rfl, rfl, rfl, rfl, rfl, rfl, rfl, rfl⟩
        have hS53 : sm tbc h45 (mstp 2 1 (I40, Q40, Z40)).1 (X39) := by rw [hst]; exact hS47
        have hB51 : co h45 (mstp 2 1 (I40, Q40, Z40)).1 ≤ B := by
          have z1 := co_fr (I := I40) (J := (mstp 2 1 (I40, Q40, Z40)).1) hF49 (by rw [hst]; rfl)
          have z2 := hB36
          omega
        have hQ52 : ∀ l, l < 16 → ((mstp 2 1 (I40, Q40, Z40)).2.1 l).length ≤ List.length h45 := by rw [hst]; exact fun l hl => Nat.le_trans (hQ37 l hl) hF49.1
        obtain ⟨X54, eX54⟩ : ∃ y, y = (X39) := ⟨_, rfl⟩
        rw [← eX54] at hD50 hS53
        obtain ⟨M55, eM55⟩ : ∃ y : mM, y = (mstp 2 1 (I40, Q40, Z40)) := ⟨_, rfl⟩
        rw [← eM55] at hD50 hS53 hB51 hQ52
        obtain ⟨I55, Q55, Z55⟩ := M55
        change CD w 32 m0 h45 I55 Q55 Z55 X54 ow7 sb7 at hD50
        change sm tbc h45 I55 X54 at hS53
        change co h45 I55 ≤ B at hB51
        change ∀ l, l < 16 → (Q55 l).length ≤ List.length h45 at hQ52
        have hW := hD50.1.1
        have hWn : ∀ a, List.length h45 ≤ a → w a = true := fun a ha => (hD50.1.2.1 a ha).1
        have hF56 := fr_refl tbc h45
        have hln : 62 ≤ List.length h45 := sm_len hS53
        refine go_s (pc' := 24) (lo' := [some (.ref 1), some (.int 1), some (.int 3)]) rfl rfl rfl rfl ?_
        refine go_s (pc' := 6) rfl rfl rfl rfl ?_
        refine go_s (pc' := 7) rfl rfl rfl rfl ?_
        refine go_s (pc' := 8) rfl rfl rfl rfl ?_
        refine go_sget (pc' := 9) (v := .ref 61) hS53 rfl rfl rfl (by decide) rfl rfl ?_
        refine go_salen (pc' := 10) (n := 3) hS53 rfl rfl rfl rfl ?_
        refine go_icmpP (t' := 25) (pc' := 11) rfl rfl rfl (fun _ => ?_) (fun (c : ¬ (3 ≤ (3 : Int32))) => absurd (by decide) c)
        refine go_ret rfl rfl ?_
        have hms : mfp 1 (I, Q, Z) = (I55, Q55, Z55) := by
          unfold mfp
          rw [← eM6, es11, ← eM40, ← eM55]
        have hC57 : CA w 32 m0 B h45 (I55, Q55, Z55) := ⟨X54, ow7, sb7, hS53, hD50, hB51, hQ52⟩
        rw [hms]
        exact ⟨rfl, hC57⟩
  · skip
    have c10 : (I6 11 0) = 1 := Decidable.not_not.mp c10'
    refine go_s (pc' := 19) rfl rfl rfl rfl ?_
    refine go_sget (pc' := 20) (v := .ref 61) hS7 rfl rfl rfl (by decide) rfl rfl ?_
    refine go_s (pc' := 21) rfl rfl rfl rfl ?_
    refine go_sald (pc' := 22) (q := 0) (v := .ref 32) hS7 rfl rfl rfl rfl (by decide) rfl rfl ?_
    refine go_callV (pc' := 23) rfl rfl rfl (Nat.le_of_ble_eq_true rfl) rfl (sm_o hS7 rfl) rfl rfl rfl (ct_stopS hS7 hW (by omega)) (fun r h58 q59 => ?_)
    obtain ⟨rfl, hS60, hE61⟩ := q59
    have hF62 := fr_trans hF9 (fr_e hE61)
    have hst : mstp 0 1 (I6, Q6, Z6) = (mstI 0 I6, (I6, Q6, Z6).2) := if_pos c10
    have hD63 : CD w 32 m0 h58 (mstp 0 1 (I6, Q6, Z6)).1 (mstp 0 1 (I6, Q6, Z6)).2.1 (mstp 0 1 (I6, Q6, Z6)).2.2 (X7) ow7 sb7 := by rw [hst]; exact CD_I (J := mstI 0 I6) (CD_s21 (CD_t0 (v := 0) (CD_fr hD7 hF62) (by decide))) ⟨rfl, rfl, rfl, rfl, rfl, rfl, rfl, rfl, rfl, rfl, rfl, rfl, rfl, rfl, rfl⟩
    have hS66 : sm tbc h58 (mstp 0 1 (I6, Q6, Z6)).1 (X7) := by rw [hst]; exact hS60
    have hB64 : co h58 (mstp 0 1 (I6, Q6, Z6)).1 ≤ B := by
      have z1 := co_le (I := I6) (J := (mstp 0 1 (I6, Q6, Z6)).1) hF62 (by rw [hst]; rfl)
      have z2 := hB7
      omega
    have hQ65 : ∀ l, l < 16 → ((mstp 0 1 (I6, Q6, Z6)).2.1 l).length ≤ List.length h58 := by rw [hst]; exact fun l hl => Nat.le_trans (hQ7 l hl) hF62.1
    obtain ⟨X67, eX67⟩ : ∃ y, y = (X7) := ⟨_, rfl⟩
    rw [← eX67] at hD63 hS66
    obtain ⟨M68, eM68⟩ : ∃ y : mM, y = (mstp 0 1 (I6, Q6, Z6)) := ⟨_, rfl⟩
    rw [← eM68] at hD63 hS66 hB64 hQ65
    obtain ⟨I68, Q68, Z68⟩ := M68
    change CD w 32 m0 h58 I68 Q68 Z68 X67 ow7 sb7 at hD63
    change sm tbc h58 I68 X67 at hS66
    change co h58 I68 ≤ B at hB64
    change ∀ l, l < 16 → (Q68 l).length ≤ List.length h58 at hQ65
    have hW := hD63.1.1
    have hWn : ∀ a, List.length h58 ≤ a → w a = true := fun a ha => (hD63.1.2.1 a ha).1
    have hF69 := fr_refl tbc h58
    have hln : 62 ≤ List.length h58 := sm_len hS66
    refine go_s (pc' := 24) (lo' := [some (.ref 1), some (.int 1), some (.int 1)]) rfl rfl rfl rfl ?_
    refine go_s (pc' := 6) rfl rfl rfl rfl ?_
    refine go_s (pc' := 7) rfl rfl rfl rfl ?_
    refine go_s (pc' := 8) rfl rfl rfl rfl ?_
    refine go_sget (pc' := 9) (v := .ref 61) hS66 rfl rfl rfl (by decide) rfl rfl ?_
    refine go_salen (pc' := 10) (n := 3) hS66 rfl rfl rfl rfl ?_
    refine go_icmpP (t' := 25) (pc' := 11) rfl rfl rfl (fun (c : 3 ≤ (1 : Int32)) => absurd c (by decide)) (fun _ => ?_)
    refine go_s (pc' := 12) rfl rfl rfl rfl ?_
    refine go_sget (pc' := 13) (v := .ref 61) hS66 rfl rfl rfl (by decide) rfl rfl ?_
    refine go_s (pc' := 14) rfl rfl rfl rfl ?_
    refine go_sald (pc' := 15) (q := 1) (v := .ref 59) hS66 rfl rfl rfl rfl (by decide) rfl rfl ?_
    refine go_sget (pc' := 16) (v := .int (I68 11 1)) hS66 rfl rfl rfl (by decide) rfl rfl ?_
    refine go_s (pc' := 17) rfl rfl rfl rfl ?_
    refine go_icmpP (t' := 23) (pc' := 18) rfl rfl rfl (fun (c70 : ¬ (I68 11 1) = 1) => ?_) (fun (c70' : ¬ ¬ (I68 11 1) = 1) => ?_)
    · skip
      have es71 : mstp 1 1 (I68, Q68, Z68) = (I68, Q68, Z68) := if_neg c70
      refine go_s (pc' := 24) (lo' := [some (.ref 1), some (.int 1), some (.int 2)]) rfl rfl rfl rfl ?_
      refine go_s (pc' := 6) rfl rfl rfl rfl ?_
      refine go_s (pc' := 7) rfl rfl rfl rfl ?_
      refine go_s (pc' := 8) rfl rfl rfl rfl ?_
      refine go_sget (pc' := 9) (v := .ref 61) hS66 rfl rfl rfl (by decide) rfl rfl ?_
      refine go_salen (pc' := 10) (n := 3) hS66 rfl rfl rfl rfl ?_
      refine go_icmpP (t' := 25) (pc' := 11) rfl rfl rfl (fun (c : 3 ≤ (2 : Int32)) => absurd c (by decide)) (fun _ => ?_)
      refine go_s (pc' := 12) rfl rfl rfl rfl ?_
      refine go_sget (pc' := 13) (v := .ref 61) hS66 rfl rfl rfl (by decide) rfl rfl ?_
      refine go_s (pc' := 14) rfl rfl rfl rfl ?_
      refine go_sald (pc' := 15) (q := 2) (v := .ref 60) hS66 rfl rfl rfl rfl (by decide) rfl rfl ?_
      refine go_sget (pc' := 16) (v := .int (I68 11 2)) hS66 rfl rfl rfl (by decide) rfl rfl ?_
      refine go_s (pc' := 17) rfl rfl rfl rfl ?_
      refine go_icmpP (t' := 23) (pc' := 18) rfl rfl rfl (fun (c72 : ¬ (I68 11 2) = 1) => ?_) (fun (c72' : ¬ ¬ (I68 11 2) = 1) => ?_)
      · skip
        have es73 : mstp 2 1 (I68, Q68, Z68) = (I68, Q68, Z68) := if_neg c72
        refine go_s (pc' := 24) (lo' := [some (.ref 1), some (.int 1), some (.int 3)]) rfl rfl rfl rfl ?_
        refine go_s (pc' := 6) rfl rfl rfl rfl ?_
        refine go_s (pc' := 7) rfl rfl rfl rfl ?_
        refine go_s (pc' := 8) rfl rfl rfl rfl ?_
        refine go_sget (pc' := 9) (v := .ref 61) hS66 rfl rfl rfl (by decide) rfl rfl ?_
        refine go_salen (pc' := 10) (n := 3) hS66 rfl rfl rfl rfl ?_
        refine go_icmpP (t' := 25) (pc' := 11) rfl rfl rfl (fun _ => ?_) (fun (c : ¬ (3 ≤ (3 : Int32))) => absurd (by decide) c)
        refine go_ret rfl rfl ?_
        have hms : mfp 1 (I, Q, Z) = (I68, Q68, Z68) := by
          unfold mfp
          rw [← eM6, ← eM68, es71, es73]
        have hC74 : CA w 32 m0 B h58 (I68, Q68, Z68) := ⟨X67, ow7, sb7, hS66, hD63, hB64, hQ65⟩
        rw [hms]
        exact ⟨rfl, hC74⟩
      · skip
        have c72 : (I68 11 2) = 1 := Decidable.not_not.mp c72'
        refine go_s (pc' := 19) rfl rfl rfl rfl ?_
        refine go_sget (pc' := 20) (v := .ref 61) hS66 rfl rfl rfl (by decide) rfl rfl ?_
        refine go_s (pc' := 21) rfl rfl rfl rfl ?_
        refine go_sald (pc' := 22) (q := 2) (v := .ref 60) hS66 rfl rfl rfl rfl (by decide) rfl rfl ?_
        refine go_callV (pc' := 23) rfl rfl rfl (Nat.le_of_ble_eq_true rfl) rfl (sm_o hS66 rfl) rfl rfl rfl (ct_stopP_2 hS66 hW (by omega)) (fun r h75 q76 => ?_)
        obtain ⟨rfl, hS77, hE78⟩ := q76
        have hF79 := fr_trans hF69 (fr_e hE78)
        have hst : mstp 2 1 (I68, Q68, Z68) = (mstI 2 I68, (I68, Q68, Z68).2) := if_pos c72
        have hD80 : CD w 32 m0 h75 (mstp 2 1 (I68, Q68, Z68)).1 (mstp 2 1 (I68, Q68, Z68)).2.1 (mstp 2 1 (I68, Q68, Z68)).2.2 (X67) ow7 sb7 := by rw [hst]; exact CD_I (J := mstI 2 I68) (CD_fr hD63 hF79) ⟨rfl, rfl, rfl, rfl, rfl, rfl, rfl, rfl, rfl, rfl, rfl, rfl, rfl, rfl, rfl⟩
        have hS83 : sm tbc h75 (mstp 2 1 (I68, Q68, Z68)).1 (X67) := by rw [hst]; exact hS77
        have hB81 : co h75 (mstp 2 1 (I68, Q68, Z68)).1 ≤ B := by
          have z1 := co_fr (I := I68) (J := (mstp 2 1 (I68, Q68, Z68)).1) hF79 (by rw [hst]; rfl)
          have z2 := hB64
          omega
        have hQ82 : ∀ l, l < 16 → ((mstp 2 1 (I68, Q68, Z68)).2.1 l).length ≤ List.length h75 := by rw [hst]; exact fun l hl => Nat.le_trans (hQ65 l hl) hF79.1
        obtain ⟨X84, eX84⟩ : ∃ y, y = (X67) := ⟨_, rfl⟩
        rw [← eX84] at hD80 hS83
        obtain ⟨M85, eM85⟩ : ∃ y : mM, y = (mstp 2 1 (I68, Q68, Z68)) := ⟨_, rfl⟩
        rw [← eM85] at hD80 hS83 hB81 hQ82
        obtain ⟨I85, Q85, Z85⟩ := M85
        change CD w 32 m0 h75 I85 Q85 Z85 X84 ow7 sb7 at hD80
        change sm tbc h75 I85 X84 at hS83
        change co h75 I85 ≤ B at hB81
        change ∀ l, l < 16 → (Q85 l).length ≤ List.length h75 at hQ82
        have hW := hD80.1.1
        have hWn : ∀ a, List.length h75 ≤ a → w a = true := fun a ha => (hD80.1.2.1 a ha).1
        have hF86 := fr_refl tbc h75
        have hln : 62 ≤ List.length h75 := sm_len hS83
        refine go_s (pc' := 24) (lo' := [some (.ref 1), some (.int 1), some (.int 3)]) rfl rfl rfl rfl ?_
        refine go_s (pc' := 6) rfl rfl rfl rfl ?_
        refine go_s (pc' := 7) rfl rfl rfl rfl ?_
        refine go_s (pc' := 8) rfl rfl rfl rfl ?_
        refine go_sget (pc' := 9) (v := .ref 61) hS83 rfl rfl rfl (by decide) rfl rfl ?_
        refine go_salen (pc' := 10) (n := 3) hS83 rfl rfl rfl rfl ?_
        refine go_icmpP (t' := 25) (pc' := 11) rfl rfl rfl (fun _ => ?_) (fun (c : ¬ (3 ≤ (3 : Int32))) => absurd (by decide) c)
        refine go_ret rfl rfl ?_
        have hms : mfp 1 (I, Q, Z) = (I85, Q85, Z85) := by
          unfold mfp
          rw [← eM6, ← eM68, es71, ← eM85]
        have hC87 : CA w 32 m0 B h75 (I85, Q85, Z85) := ⟨X84, ow7, sb7, hS83, hD80, hB81, hQ82⟩
        rw [hms]
        exact ⟨rfl, hC87⟩
    · skip
      have c70 : (I68 11 1) = 1 := Decidable.not_not.mp c70'
      refine go_s (pc' := 19) rfl rfl rfl rfl ?_
      refine go_sget (pc' := 20) (v := .ref 61) hS66 rfl rfl rfl (by decide) rfl rfl ?_
      refine go_s (pc' := 21) rfl rfl rfl rfl ?_
      refine go_sald (pc' := 22) (q := 1) (v := .ref 59) hS66 rfl rfl rfl rfl (by decide) rfl rfl ?_
      refine go_callV (pc' := 23) rfl rfl rfl (Nat.le_of_ble_eq_true rfl) rfl (sm_o hS66 rfl) rfl rfl rfl (ct_stopP_1 hS66 hW (by omega)) (fun r h88 q89 => ?_)
      obtain ⟨rfl, hS90, hE91⟩ := q89
      have hF92 := fr_trans hF69 (fr_e hE91)
      have hst : mstp 1 1 (I68, Q68, Z68) = (mstI 1 I68, (I68, Q68, Z68).2) := if_pos c70
      have hD93 : CD w 32 m0 h88 (mstp 1 1 (I68, Q68, Z68)).1 (mstp 1 1 (I68, Q68, Z68)).2.1 (mstp 1 1 (I68, Q68, Z68)).2.2 (X67) ow7 sb7 := by rw [hst]; exact CD_I (J := mstI 1 I68) (CD_fr hD63 hF92) ⟨rfl, rfl, rfl, rfl, rfl, rfl, rfl, rfl, rfl, rfl, rfl, rfl, rfl, rfl, rfl⟩
      have hS96 : sm tbc h88 (mstp 1 1 (I68, Q68, Z68)).1 (X67) := by rw [hst]; exact hS90
      have hB94 : co h88 (mstp 1 1 (I68, Q68, Z68)).1 ≤ B := by
        have z1 := co_fr (I := I68) (J := (mstp 1 1 (I68, Q68, Z68)).1) hF92 (by rw [hst]; rfl)
        have z2 := hB64
        omega
      have hQ95 : ∀ l, l < 16 → ((mstp 1 1 (I68, Q68, Z68)).2.1 l).length ≤ List.length h88 := by rw [hst]; exact fun l hl => Nat.le_trans (hQ65 l hl) hF92.1
      obtain ⟨X97, eX97⟩ : ∃ y, y = (X67) := ⟨_, rfl⟩
      rw [← eX97] at hD93 hS96
      obtain ⟨M98, eM98⟩ : ∃ y : mM, y = (mstp 1 1 (I68, Q68, Z68)) := ⟨_, rfl⟩
      rw [← eM98] at hD93 hS96 hB94 hQ95
      obtain ⟨I98, Q98, Z98⟩ := M98
      change CD w 32 m0 h88 I98 Q98 Z98 X97 ow7 sb7 at hD93
      change sm tbc h88 I98 X97 at hS96
      change co h88 I98 ≤ B at hB94
      change ∀ l, l < 16 → (Q98 l).length ≤ List.length h88 at hQ95
      have hW := hD93.1.1
      have hWn : ∀ a, List.length h88 ≤ a → w a = true := fun a ha => (hD93.1.2.1 a ha).1
      have hF99 := fr_refl tbc h88
      have hln : 62 ≤ List.length h88 := sm_len hS96
      refine go_s (pc' := 24) (lo' := [some (.ref 1), some (.int 1), some (.int 2)]) rfl rfl rfl rfl ?_
      refine go_s (pc' := 6) rfl rfl rfl rfl ?_
      refine go_s (pc' := 7) rfl rfl rfl rfl ?_
      refine go_s (pc' := 8) rfl rfl rfl rfl ?_
      refine go_sget (pc' := 9) (v := .ref 61) hS96 rfl rfl rfl (by decide) rfl rfl ?_
      refine go_salen (pc' := 10) (n := 3) hS96 rfl rfl rfl rfl ?_
      refine go_icmpP (t' := 25) (pc' := 11) rfl rfl rfl (fun (c : 3 ≤ (2 : Int32)) => absurd c (by decide)) (fun _ => ?_)
      refine go_s (pc' := 12) rfl rfl rfl rfl ?_
      refine go_sget (pc' := 13) (v := .ref 61) hS96 rfl rfl rfl (by decide) rfl rfl ?_
      refine go_s (pc' := 14) rfl rfl rfl rfl ?_
      refine go_sald (pc' := 15) (q := 2) (v := .ref 60) hS96 rfl rfl rfl rfl (by decide) rfl rfl ?_
      refine go_sget (pc' := 16) (v := .int (I98 11 2)) hS96 rfl rfl rfl (by decide) rfl rfl ?_
      refine go_s (pc' := 17) rfl rfl rfl rfl ?_
      refine go_icmpP (t' := 23) (pc' := 18) rfl rfl rfl (fun (c100 : ¬ (I98 11 2) = 1) => ?_) (fun (c100' : ¬ ¬ (I98 11 2) = 1) => ?_)
      · skip
        have es101 : mstp 2 1 (I98, Q98, Z98) = (I98, Q98, Z98) := if_neg c100
        refine go_s (pc' := 24) (lo' := [some (.ref 1), some (.int 1), some (.int 3)]) rfl rfl rfl rfl ?_
        refine go_s (pc' := 6) rfl rfl rfl rfl ?_
        refine go_s (pc' := 7) rfl rfl rfl rfl ?_
        refine go_s (pc' := 8) rfl rfl rfl rfl ?_
        refine go_sget (pc' := 9) (v := .ref 61) hS96 rfl rfl rfl (by decide) rfl rfl ?_
        refine go_salen (pc' := 10) (n := 3) hS96 rfl rfl rfl rfl ?_
        refine go_icmpP (t' := 25) (pc' := 11) rfl rfl rfl (fun _ => ?_) (fun (c : ¬ (3 ≤ (3 : Int32))) => absurd (by decide) c)
        refine go_ret rfl rfl ?_
        have hms : mfp 1 (I, Q, Z) = (I98, Q98, Z98) := by
          unfold mfp
          rw [← eM6, ← eM68, ← eM98, es101]
        have hC102 : CA w 32 m0 B h88 (I98, Q98, Z98) := ⟨X97, ow7, sb7, hS96, hD93, hB94, hQ95⟩
        rw [hms]
        exact ⟨rfl, hC102⟩
      · skip
        have c100 : (I98 11 2) = 1 := Decidable.not_not.mp c100'
        refine go_s (pc' := 19) rfl rfl rfl rfl ?_
        refine go_sget (pc' := 20) (v := .ref 61) hS96 rfl rfl rfl (by decide) rfl rfl ?_
        refine go_s (pc' := 21) rfl rfl rfl rfl ?_
        refine go_sald (pc' := 22) (q := 2) (v := .ref 60) hS96 rfl rfl rfl rfl (by decide) rfl rfl ?_
        refine go_callV (pc' := 23) rfl rfl rfl (Nat.le_of_ble_eq_true rfl) rfl (sm_o hS96 rfl) rfl rfl rfl (ct_stopP_2 hS96 hW (by omega)) (fun r h103 q104 => ?_)
        obtain ⟨rfl, hS105, hE106⟩ := q104
        have hF107 := fr_trans hF99 (fr_e hE106)
        have hst : mstp 2 1 (I98, Q98, Z98) = (mstI 2 I98, (I98, Q98, Z98).2) := if_pos c100
        have hD108 : CD w 32 m0 h103 (mstp 2 1 (I98, Q98, Z98)).1 (mstp 2 1 (I98, Q98, Z98)).2.1 (mstp 2 1 (I98, Q98, Z98)).2.2 (X97) ow7 sb7 := by rw [hst]; exact CD_I (J := mstI 2 I98) (CD_fr hD93 hF107) ⟨rfl, rfl, rfl, rfl, rfl, rfl, rfl, rfl, rfl, rfl, rfl, rfl, rfl, rfl, rfl⟩
        have hS111 : sm tbc h103 (mstp 2 1 (I98, Q98, Z98)).1 (X97) := by rw [hst]; exact hS105
        have hB109 : co h103 (mstp 2 1 (I98, Q98, Z98)).1 ≤ B := by
          have z1 := co_fr (I := I98) (J := (mstp 2 1 (I98, Q98, Z98)).1) hF107 (by rw [hst]; rfl)
          have z2 := hB94
          omega
        have hQ110 : ∀ l, l < 16 → ((mstp 2 1 (I98, Q98, Z98)).2.1 l).length ≤ List.length h103 := by rw [hst]; exact fun l hl => Nat.le_trans (hQ95 l hl) hF107.1
        obtain ⟨X112, eX112⟩ : ∃ y, y = (X97) := ⟨_, rfl⟩
        rw [← eX112] at hD108 hS111
        obtain ⟨M113, eM113⟩ : ∃ y : mM, y = (mstp 2 1 (I98, Q98, Z98)) := ⟨_, rfl⟩
        rw [← eM113] at hD108 hS111 hB109 hQ110
        obtain ⟨I113, Q113, Z113⟩ := M113
        change CD w 32 m0 h103 I113 Q113 Z113 X112 ow7 sb7 at hD108
        change sm tbc h103 I113 X112 at hS111
        change co h103 I113 ≤ B at hB109
        change ∀ l, l < 16 → (Q113 l).length ≤ List.length h103 at hQ110
        have hW := hD108.1.1
        have hWn : ∀ a, List.length h103 ≤ a → w a = true := fun a ha => (hD108.1.2.1 a ha).1
        have hF114 := fr_refl tbc h103
        have hln : 62 ≤ List.length h103 := sm_len hS111
        refine go_s (pc' := 24) (lo' := [some (.ref 1), some (.int 1), some (.int 3)]) rfl rfl rfl rfl ?_
        refine go_s (pc' := 6) rfl rfl rfl rfl ?_
        refine go_s (pc' := 7) rfl rfl rfl rfl ?_
        refine go_s (pc' := 8) rfl rfl rfl rfl ?_
        refine go_sget (pc' := 9) (v := .ref 61) hS111 rfl rfl rfl (by decide) rfl rfl ?_
        refine go_salen (pc' := 10) (n := 3) hS111 rfl rfl rfl rfl ?_
        refine go_icmpP (t' := 25) (pc' := 11) rfl rfl rfl (fun _ => ?_) (fun (c : ¬ (3 ≤ (3 : Int32))) => absurd (by decide) c)
        refine go_ret rfl rfl ?_
        have hms : mfp 1 (I, Q, Z) = (I113, Q113, Z113) := by
          unfold mfp
          rw [← eM6, ← eM68, ← eM98, ← eM113]
        have hC115 : CA w 32 m0 B h103 (I113, Q113, Z113) := ⟨X112, ow7, sb7, hS111, hD108, hB109, hQ110⟩
        rw [hms]
        exact ⟨rfl, hC115⟩
theorem cm_sp_2 {w : Nat → Bool} {d : Nat} {h : am_Hp} {m0 : mg} {B : Nat} {I : sm_I} {Q : mQ} {Z : mZ} (hC : CA w 32 m0 B h (I, Q, Z)) (hB2 : B < 2 ^ 26) (hd : 4 ≤ d) : am_Ev (am_prog w) d 99 [.ref 1, .int 2] h (fun r h' => r = none ∧ CA w 32 m0 B h' (mfp 2 (I, Q, Z))) := by
  obtain ⟨X, ow, sb, hS, hD, hB, hQ⟩ := hC
  change sm tbc h I X at hS
  change CD w 32 m0 h I Q Z X ow sb at hD
  change co h I ≤ B at hB
  change ∀ l, l < 16 → (Q l).length ≤ h.length at hQ
  have hW := hD.1.1
  have hWn : ∀ a, List.length h ≤ a → w a = true := fun a ha => (hD.1.2.1 a ha).1
  have hF1 := fr_refl tbc h
  have hln : 62 ≤ List.length h := sm_len hS
  obtain ⟨d, rfl⟩ : ∃ e, d = e + 1 := ⟨d - 1, by omega⟩
  refine ev_go rfl (Nat.le_of_ble_eq_true rfl) rfl ?_
  refine go_s (pc' := 1) rfl rfl rfl rfl ?_
  refine go_sget (pc' := 2) (v := .ref 2) hS rfl rfl rfl (by decide) rfl rfl ?_
  refine go_s (pc' := 3) rfl rfl rfl rfl ?_
  have hC2 : CA w 32 m0 B h (I, Q, Z) := ⟨X, ow, sb, hS, hD, hB, hQ⟩
  refine go_callV (pc' := 4) rfl rfl rfl (Nat.le_of_ble_eq_true rfl) rfl (sm_o hS rfl) rfl rfl rfl (cm_nst_2 hC2 (by omega) (by omega)) (fun r h3 q4 => ?_)
  obtain ⟨rfl, hC5⟩ := q4
  change CA w 32 m0 B h3 (mnst 2 (I, Q, Z)) at hC5
  obtain ⟨M6, eM6⟩ : ∃ y : mM, y = (mnst 2 (I, Q, Z)) := ⟨_, rfl⟩
  rw [← eM6] at hC5
  obtain ⟨I6, Q6, Z6⟩ := M6
  obtain ⟨X7, ow7, sb7, hS7, hD7, hB7, hQ7⟩ := hC5
  have hW := hD7.1.1
  have hWn : ∀ a, List.length h3 ≤ a → w a = true := fun a ha => (hD7.1.2.1 a ha).1
  have hF8 := fr_refl tbc h3
  have hln : 62 ≤ List.length h3 := sm_len hS7
  change CD w 32 m0 h3 I6 Q6 Z6 X7 ow7 sb7 at hD7
  change sm tbc h3 I6 X7 at hS7
  change co h3 I6 ≤ B at hB7
  change ∀ l, l < 16 → (Q6 l).length ≤ List.length h3 at hQ7
  have hW := hD7.1.1
  have hWn : ∀ a, List.length h3 ≤ a → w a = true := fun a ha => (hD7.1.2.1 a ha).1
  have hF9 := fr_refl tbc h3
  have hln : 62 ≤ List.length h3 := sm_len hS7
  refine go_s (pc' := 5) (st' := [.int 0]) rfl rfl rfl rfl ?_
  refine go_s (pc' := 6) (lo' := [some (.ref 1), some (.int 2), some (.int 0)]) rfl rfl rfl rfl ?_
  refine go_s (pc' := 7) rfl rfl rfl rfl ?_
  refine go_s (pc' := 8) rfl rfl rfl rfl ?_
  refine go_sget (pc' := 9) (v := .ref 61) hS7 rfl rfl rfl (by decide) rfl rfl ?_
  refine go_salen (pc' := 10) (n := 3) hS7 rfl rfl rfl rfl ?_
  refine go_icmpP (t' := 25) (pc' := 11) rfl rfl rfl (fun (c : 3 ≤ (0 : Int32)) => absurd c (by decide)) (fun _ => ?_)
  refine go_s (pc' := 12) rfl rfl rfl rfl ?_
  refine go_sget (pc' := 13) (v := .ref 61) hS7 rfl rfl rfl (by decide) rfl rfl ?_
  refine go_s (pc' := 14) rfl rfl rfl rfl ?_
  refine go_sald (pc' := 15) (q := 0) (v := .ref 32) hS7 rfl rfl rfl rfl (by decide) rfl rfl ?_
  refine go_sget (pc' := 16) (v := .int (I6 11 0)) hS7 rfl rfl rfl (by decide) rfl rfl ?_
  refine go_s (pc' := 17) rfl rfl rfl rfl ?_
  refine go_icmpP (t' := 23) (pc' := 18) rfl rfl rfl (fun (c10 : ¬ (I6 11 0) = 2) => ?_) (fun (c10' : ¬ ¬ (I6 11 0) = 2) => ?_)
  · skip
    have es11 : mstp 0 2 (I6, Q6, Z6) = (I6, Q6, Z6) := if_neg c10
    refine go_s (pc' := 24) (lo' := [some (.ref 1), some (.int 2), some (.int 1)]) rfl rfl rfl rfl ?_
    refine go_s (pc' := 6) rfl rfl rfl rfl ?_
    refine go_s (pc' := 7) rfl rfl rfl rfl ?_
    refine go_s (pc' := 8) rfl rfl rfl rfl ?_
    refine go_sget (pc' := 9) (v := .ref 61) hS7 rfl rfl rfl (by decide) rfl rfl ?_
    refine go_salen (pc' := 10) (n := 3) hS7 rfl rfl rfl rfl ?_
    refine go_icmpP (t' := 25) (pc' := 11) rfl rfl rfl (fun (c : 3 ≤ (1 : Int32)) => absurd c (by decide)) (fun _ => ?_)
    refine go_s (pc' := 12) rfl rfl rfl rfl ?_
    refine go_sget (pc' := 13) (v := .ref 61) hS7 rfl rfl rfl (by decide) rfl rfl ?_
    refine go_s (pc' := 14) rfl rfl rfl rfl ?_
    refine go_sald (pc' := 15) (q := 1) (v := .ref 59) hS7 rfl rfl rfl rfl (by decide) rfl rfl ?_
    refine go_sget (pc' := 16) (v := .int (I6 11 1)) hS7 rfl rfl rfl (by decide) rfl rfl ?_
    refine go_s (pc' := 17) rfl rfl rfl rfl ?_
    refine go_icmpP (t' := 23) (pc' := 18) rfl rfl rfl (fun (c12 : ¬ (I6 11 1) = 2) => ?_) (fun (c12' : ¬ ¬ (I6 11 1) = 2) => ?_)
    · skip
      have es13 : mstp 1 2 (I6, Q6, Z6) = (I6, Q6, Z6) := if_neg c12
      refine go_s (pc' := 24) (lo' := [some (.ref 1), some (.int 2), some (.int 2)]) rfl rfl rfl rfl ?_
      refine go_s (pc' := 6) rfl rfl rfl rfl ?_
      refine go_s (pc' := 7) rfl rfl rfl rfl ?_
      refine go_s (pc' := 8) rfl rfl rfl rfl ?_
      refine go_sget (pc' := 9) (v := .ref 61) hS7 rfl rfl rfl (by decide) rfl rfl ?_
      refine go_salen (pc' := 10) (n := 3) hS7 rfl rfl rfl rfl ?_
      refine go_icmpP (t' := 25) (pc' := 11) rfl rfl rfl (fun (c : 3 ≤ (2 : Int32)) => absurd c (by decide)) (fun _ => ?_)
      refine go_s (pc' := 12) rfl rfl rfl rfl ?_
      refine go_sget (pc' := 13) (v := .ref 61) hS7 rfl rfl rfl (by decide) rfl rfl ?_
      refine go_s (pc' := 14) rfl rfl rfl rfl ?_
      refine go_sald (pc' := 15) (q := 2) (v := .ref 60) hS7 rfl rfl rfl rfl (by decide) rfl rfl ?_
      refine go_sget (pc' := 16) (v := .int (I6 11 2)) hS7 rfl rfl rfl (by decide) rfl rfl ?_
      refine go_s (pc' := 17) rfl rfl rfl rfl ?_
      refine go_icmpP (t' := 23) (pc' := 18) rfl rfl rfl (fun (c14 : ¬ (I6 11 2) = 2) => ?_) (fun (c14' : ¬ ¬ (I6 11 2) = 2) => ?_)
      · skip
        have es15 : mstp 2 2 (I6, Q6, Z6) = (I6, Q6, Z6) := if_neg c14
        refine go_s (pc' := 24) (lo' := [some (.ref 1), some (.int 2), some (.int 3)]) rfl rfl rfl rfl ?_
        refine go_s (pc' := 6) rfl rfl rfl rfl ?_
        refine go_s (pc' := 7) rfl rfl rfl rfl ?_
        refine go_s (pc' := 8) rfl rfl rfl rfl ?_
        refine go_sget (pc' := 9) (v := .ref 61) hS7 rfl rfl rfl (by decide) rfl rfl ?_
        refine go_salen (pc' := 10) (n := 3) hS7 rfl rfl rfl rfl ?_
        refine go_icmpP (t' := 25) (pc' := 11) rfl rfl rfl (fun _ => ?_) (fun (c : ¬ (3 ≤ (3 : Int32))) => absurd (by decide) c)
        refine go_ret rfl rfl ?_
        have hms : mfp 2 (I, Q, Z) = (I6, Q6, Z6) := by
          unfold mfp
          rw [← eM6, es11, es13, es15]
        have hC16 : CA w 32 m0 B h3 (I6, Q6, Z6) := ⟨X7, ow7, sb7, hS7, hD7, hB7, hQ7⟩
        rw [hms]
        exact ⟨rfl, hC16⟩
      · skip
        have c14 : (I6 11 2) = 2 := Decidable.not_not.mp c14'
        refine go_s (pc' := 19) rfl rfl rfl rfl ?_
        refine go_sget (pc' := 20) (v := .ref 61) hS7 rfl rfl rfl (by decide) rfl rfl ?_
        refine go_s (pc' := 21) rfl rfl rfl rfl ?_
        refine go_sald (pc' := 22) (q := 2) (v := .ref 60) hS7 rfl rfl rfl rfl (by decide) rfl rfl ?_
        refine go_callV (pc' := 23) rfl rfl rfl (Nat.le_of_ble_eq_true rfl) rfl (sm_o hS7 rfl) rfl rfl rfl (ct_stopP_2 hS7 hW (by omega)) (fun r h17 q18 => ?_)
        obtain ⟨rfl, hS19, hE20⟩ := q18
        have hF21 := fr_trans hF9 (fr_e hE20)
        have hst : mstp 2 2 (I6, Q6, Z6) = (mstI 2 I6, (I6, Q6, Z6).2) := if_pos c14
        have hD22 : CD w 32 m0 h17 (mstp 2 2 (I6, Q6, Z6)).1 (mstp 2 2 (I6, Q6, Z6)).2.1 (mstp 2 2 (I6, Q6, Z6)).2.2 (X7) ow7 sb7 := by rw [hst]; exact CD_I (J := mstI 2 I6) (CD_fr hD7 hF21) ⟨rfl, rfl, rfl, rfl, rfl, rfl, rfl, rfl, rfl, rfl, rfl, rfl, rfl, rfl, rfl⟩
        have hS25 : sm tbc h17 (mstp 2 2 (I6, Q6, Z6)).1 (X7) := by rw [hst]; exact hS19
        have hB23 : co h17 (mstp 2 2 (I6, Q6, Z6)).1 ≤ B := by
          have z1 := co_fr (I := I6) (J := (mstp 2 2 (I6, Q6, Z6)).1) hF21 (by rw [hst]; rfl)
          have z2 := hB7
          omega
        have hQ24 : ∀ l, l < 16 → ((mstp 2 2 (I6, Q6, Z6)).2.1 l).length ≤ List.length h17 := by rw [hst]; exact fun l hl => Nat.le_trans (hQ7 l hl) hF21.1
        obtain ⟨X26, eX26⟩ : ∃ y, y = (X7) := ⟨_, rfl⟩
        rw [← eX26] at hD22 hS25
        obtain ⟨M27, eM27⟩ : ∃ y : mM, y = (mstp 2 2 (I6, Q6, Z6)) := ⟨_, rfl⟩
        rw [← eM27] at hD22 hS25 hB23 hQ24
        obtain ⟨I27, Q27, Z27⟩ := M27
        change CD w 32 m0 h17 I27 Q27 Z27 X26 ow7 sb7 at hD22
        change sm tbc h17 I27 X26 at hS25
        change co h17 I27 ≤ B at hB23
        change ∀ l, l < 16 → (Q27 l).length ≤ List.length h17 at hQ24
        have hW := hD22.1.1
        have hWn : ∀ a, List.length h17 ≤ a → w a = true := fun a ha => (hD22.1.2.1 a ha).1
        have hF28 := fr_refl tbc h17
        have hln : 62 ≤ List.length h17 := sm_len hS25
        refine go_s (pc' := 24) (lo' := [some (.ref 1), some (.int 2), some (.int 3)]) rfl rfl rfl rfl ?_
        refine go_s (pc' := 6) rfl rfl rfl rfl ?_
        refine go_s (pc' := 7) rfl rfl rfl rfl ?_
        refine go_s (pc' := 8) rfl rfl rfl rfl ?_
        refine go_sget (pc' := 9) (v := .ref 61) hS25 rfl rfl rfl (by decide) rfl rfl ?_
        refine go_salen (pc' := 10) (n := 3) hS25 rfl rfl rfl rfl ?_
        refine go_icmpP (t' := 25) (pc' := 11) rfl rfl rfl (fun _ => ?_) (fun (c : ¬ (3 ≤ (3 : Int32))) => absurd (by decide) c)
        refine go_ret rfl rfl ?_
        have hms : mfp 2 (I, Q, Z) = (I27, Q27, Z27) := by
          unfold mfp
          rw [← eM6, es11, es13, ← eM27]
        have hC29 : CA w 32 m0 B h17 (I27, Q27, Z27) := ⟨X26, ow7, sb7, hS25, hD22, hB23, hQ24⟩
        rw [hms]
        exact ⟨rfl, hC29⟩
    · skip
      have c12 : (I6 11 1) = 2 := Decidable.not_not.mp c12'
      refine go_s (pc' := 19) rfl rfl rfl rfl ?_
      refine go_sget (pc' := 20) (v := .ref 61) hS7 rfl rfl rfl (by decide) rfl rfl ?_
      refine go_s (pc' := 21) rfl rfl rfl rfl ?_
      refine go_sald (pc' := 22) (q := 1) (v := .ref 59) hS7 rfl rfl rfl rfl (by decide) rfl rfl ?_
      refine go_callV (pc' := 23) rfl rfl rfl (Nat.le_of_ble_eq_true rfl) rfl (sm_o hS7 rfl) rfl rfl rfl (ct_stopP_1 hS7 hW (by omega)) (fun r h30 q31 => ?_)
      obtain ⟨rfl, hS32, hE33⟩ := q31
      have hF34 := fr_trans hF9 (fr_e hE33)
      have hst : mstp 1 2 (I6, Q6, Z6) = (mstI 1 I6, (I6, Q6, Z6).2) := if_pos c12
      have hD35 : CD w 32 m0 h30 (mstp 1 2 (I6, Q6, Z6)).1 (mstp 1 2 (I6, Q6, Z6)).2.1 (mstp 1 2 (I6, Q6, Z6)).2.2 (X7) ow7 sb7 := by rw [hst]; exact CD_I (J := mstI 1 I6) (CD_fr hD7 hF34) ⟨rfl, rfl, rfl, rfl, rfl, rfl, rfl, rfl, rfl, rfl, rfl, rfl, rfl, rfl, rfl⟩
      have hS38 : sm tbc h30 (mstp 1 2 (I6, Q6, Z6)).1 (X7) := by rw [hst]; exact hS32
      have hB36 : co h30 (mstp 1 2 (I6, Q6, Z6)).1 ≤ B := by
        have z1 := co_fr (I := I6) (J := (mstp 1 2 (I6, Q6, Z6)).1) hF34 (by rw [hst]; rfl)
        have z2 := hB7
        omega
      have hQ37 : ∀ l, l < 16 → ((mstp 1 2 (I6, Q6, Z6)).2.1 l).length ≤ List.length h30 := by rw [hst]; exact fun l hl => Nat.le_trans (hQ7 l hl) hF34.1
      obtain ⟨X39, eX39⟩ : ∃ y, y = (X7) := ⟨_, rfl⟩
      rw [← eX39] at hD35 hS38
      obtain ⟨M40, eM40⟩ : ∃ y : mM, y = (mstp 1 2 (I6, Q6, Z6)) := ⟨_, rfl⟩
      rw [← eM40] at hD35 hS38 hB36 hQ37
      obtain ⟨I40, Q40, Z40⟩ := M40
      change CD w 32 m0 h30 I40 Q40 Z40 X39 ow7 sb7 at hD35
      change sm tbc h30 I40 X39 at hS38
      change co h30 I40 ≤ B at hB36
      change ∀ l, l < 16 → (Q40 l).length ≤ List.length h30 at hQ37
      have hW := hD35.1.1
      have hWn : ∀ a, List.length h30 ≤ a → w a = true := fun a ha => (hD35.1.2.1 a ha).1
      have hF41 := fr_refl tbc h30
      have hln : 62 ≤ List.length h30 := sm_len hS38
      refine go_s (pc' := 24) (lo' := [some (.ref 1), some (.int 2), some (.int 2)]) rfl rfl rfl rfl ?_
      refine go_s (pc' := 6) rfl rfl rfl rfl ?_
      refine go_s (pc' := 7) rfl rfl rfl rfl ?_
      refine go_s (pc' := 8) rfl rfl rfl rfl ?_
      refine go_sget (pc' := 9) (v := .ref 61) hS38 rfl rfl rfl (by decide) rfl rfl ?_
      refine go_salen (pc' := 10) (n := 3) hS38 rfl rfl rfl rfl ?_
      refine go_icmpP (t' := 25) (pc' := 11) rfl rfl rfl (fun (c : 3 ≤ (2 : Int32)) => absurd c (by decide)) (fun _ => ?_)
      refine go_s (pc' := 12) rfl rfl rfl rfl ?_
      refine go_sget (pc' := 13) (v := .ref 61) hS38 rfl rfl rfl (by decide) rfl rfl ?_
      refine go_s (pc' := 14) rfl rfl rfl rfl ?_
      refine go_sald (pc' := 15) (q := 2) (v := .ref 60) hS38 rfl rfl rfl rfl (by decide) rfl rfl ?_
      refine go_sget (pc' := 16) (v := .int (I40 11 2)) hS38 rfl rfl rfl (by decide) rfl rfl ?_
      refine go_s (pc' := 17) rfl rfl rfl rfl ?_
      refine go_icmpP (t' := 23) (pc' := 18) rfl rfl rfl (fun (c42 : ¬ (I40 11 2) = 2) => ?_) (fun (c42' : ¬ ¬ (I40 11 2) = 2) => ?_)
      · skip
        have es43 : mstp 2 2 (I40, Q40, Z40) = (I40, Q40, Z40) := if_neg c42
        refine go_s (pc' := 24) (lo' := [some (.ref 1), some (.int 2), some (.int 3)]) rfl rfl rfl rfl ?_
        refine go_s (pc' := 6) rfl rfl rfl rfl ?_
        refine go_s (pc' := 7) rfl rfl rfl rfl ?_
        refine go_s (pc' := 8) rfl rfl rfl rfl ?_
        refine go_sget (pc' := 9) (v := .ref 61) hS38 rfl rfl rfl (by decide) rfl rfl ?_
        refine go_salen (pc' := 10) (n := 3) hS38 rfl rfl rfl rfl ?_
        refine go_icmpP (t' := 25) (pc' := 11) rfl rfl rfl (fun _ => ?_) (fun (c : ¬ (3 ≤ (3 : Int32))) => absurd (by decide) c)
        refine go_ret rfl rfl ?_
        have hms : mfp 2 (I, Q, Z) = (I40, Q40, Z40) := by
          unfold mfp
          rw [← eM6, es11, ← eM40, es43]
        have hC44 : CA w 32 m0 B h30 (I40, Q40, Z40) := ⟨X39, ow7, sb7, hS38, hD35, hB36, hQ37⟩
        rw [hms]
        exact ⟨rfl, hC44⟩
      · skip
        have c42 : (I40 11 2) = 2 := Decidable.not_not.mp c42'
        refine go_s (pc' := 19) rfl rfl rfl rfl ?_
        refine go_sget (pc' := 20) (v := .ref 61) hS38 rfl rfl rfl (by decide) rfl rfl ?_
        refine go_s (pc' := 21) rfl rfl rfl rfl ?_
        refine go_sald (pc' := 22) (q := 2) (v := .ref 60) hS38 rfl rfl rfl rfl (by decide) rfl rfl ?_
        refine go_callV (pc' := 23) rfl rfl rfl (Nat.le_of_ble_eq_true rfl) rfl (sm_o hS38 rfl) rfl rfl rfl (ct_stopP_2 hS38 hW (by omega)) (fun r h45 q46 => ?_)
        obtain ⟨rfl, hS47, hE48⟩ := q46
        have hF49 := fr_trans hF41 (fr_e hE48)
        have hst : mstp 2 2 (I40, Q40, Z40) = (mstI 2 I40, (I40, Q40, Z40).2) := if_pos c42
        have hD50 : CD w 32 m0 h45 (mstp 2 2 (I40, Q40, Z40)).1 (mstp 2 2 (I40, Q40, Z40)).2.1 (mstp 2 2 (I40, Q40, Z40)).2.2 (X39) ow7 sb7 := by rw [hst]; exact CD_I (J := mstI 2 I40) (CD_fr hD35 hF49) ⟨rfl, rfl, rfl, rfl, rfl, rfl, rfl, rfl, rfl, rfl, rfl, rfl, rfl, rfl, rfl⟩
        have hS53 : sm tbc h45 (mstp 2 2 (I40, Q40, Z40)).1 (X39) := by rw [hst]; exact hS47
        have hB51 : co h45 (mstp 2 2 (I40, Q40, Z40)).1 ≤ B := by
          have z1 := co_fr (I := I40) (J := (mstp 2 2 (I40, Q40, Z40)).1) hF49 (by rw [hst]; rfl)
          have z2 := hB36
          omega
        have hQ52 : ∀ l, l < 16 → ((mstp 2 2 (I40, Q40, Z40)).2.1 l).length ≤ List.length h45 := by rw [hst]; exact fun l hl => Nat.le_trans (hQ37 l hl) hF49.1
        obtain ⟨X54, eX54⟩ : ∃ y, y = (X39) := ⟨_, rfl⟩
        rw [← eX54] at hD50 hS53
        obtain ⟨M55, eM55⟩ : ∃ y : mM, y = (mstp 2 2 (I40, Q40, Z40)) := ⟨_, rfl⟩
        rw [← eM55] at hD50 hS53 hB51 hQ52
        obtain ⟨I55, Q55, Z55⟩ := M55
        change CD w 32 m0 h45 I55 Q55 Z55 X54 ow7 sb7 at hD50
        change sm tbc h45 I55 X54 at hS53
        change co h45 I55 ≤ B at hB51
        change ∀ l, l < 16 → (Q55 l).length ≤ List.length h45 at hQ52
        have hW := hD50.1.1
        have hWn : ∀ a, List.length h45 ≤ a → w a = true := fun a ha => (hD50.1.2.1 a ha).1
        have hF56 := fr_refl tbc h45
        have hln : 62 ≤ List.length h45 := sm_len hS53
        refine go_s (pc' := 24) (lo' := [some (.ref 1), some (.int 2), some (.int 3)]) rfl rfl rfl rfl ?_
        refine go_s (pc' := 6) rfl rfl rfl rfl ?_
        refine go_s (pc' := 7) rfl rfl rfl rfl ?_
        refine go_s (pc' := 8) rfl rfl rfl rfl ?_
        refine go_sget (pc' := 9) (v := .ref 61) hS53 rfl rfl rfl (by decide) rfl rfl ?_
        refine go_salen (pc' := 10) (n := 3) hS53 rfl rfl rfl rfl ?_
        refine go_icmpP (t' := 25) (pc' := 11) rfl rfl rfl (fun _ => ?_) (fun (c : ¬ (3 ≤ (3 : Int32))) => absurd (by decide) c)
        refine go_ret rfl rfl ?_
        have hms : mfp 2 (I, Q, Z) = (I55, Q55, Z55) := by
          unfold mfp
          rw [← eM6, es11, ← eM40, ← eM55]
        have hC57 : CA w 32 m0 B h45 (I55, Q55, Z55) := ⟨X54, ow7, sb7, hS53, hD50, hB51, hQ52⟩
        rw [hms]
        exact ⟨rfl, hC57⟩
  · skip
    have c10 : (I6 11 0) = 2 := Decidable.not_not.mp c10'
    refine go_s (pc' := 19) rfl rfl rfl rfl ?_
    refine go_sget (pc' := 20) (v := .ref 61) hS7 rfl rfl rfl (by decide) rfl rfl ?_
    refine go_s (pc' := 21) rfl rfl rfl rfl ?_
    refine go_sald (pc' := 22) (q := 0) (v := .ref 32) hS7 rfl rfl rfl rfl (by decide) rfl rfl ?_
    refine go_callV (pc' := 23) rfl rfl rfl (Nat.le_of_ble_eq_true rfl) rfl (sm_o hS7 rfl) rfl rfl rfl (ct_stopS hS7 hW (by omega)) (fun r h58 q59 => ?_)
    obtain ⟨rfl, hS60, hE61⟩ := q59
    have hF62 := fr_trans hF9 (fr_e hE61)
    have hst : mstp 0 2 (I6, Q6, Z6) = (mstI 0 I6, (I6, Q6, Z6).2) := if_pos c10
    have hD63 : CD w 32 m0 h58 (mstp 0 2 (I6, Q6, Z6)).1 (mstp 0 2 (I6, Q6, Z6)).2.1 (mstp 0 2 (I6, Q6, Z6)).2.2 (X7) ow7 sb7 := by rw [hst]; exact CD_I (J := mstI 0 I6) (CD_s21 (CD_t0 (v := 0) (CD_fr hD7 hF62) (by decide))) ⟨rfl, rfl, rfl, rfl, rfl, rfl, rfl, rfl, rfl, rfl, rfl, rfl, rfl, rfl, rfl⟩
    have hS66 : sm tbc h58 (mstp 0 2 (I6, Q6, Z6)).1 (X7) := by rw [hst]; exact hS60
    have hB64 : co h58 (mstp 0 2 (I6, Q6, Z6)).1 ≤ B := by
      have z1 := co_le (I := I6) (J := (mstp 0 2 (I6, Q6, Z6)).1) hF62 (by rw [hst]; rfl)
      have z2 := hB7
      omega
    have hQ65 : ∀ l, l < 16 → ((mstp 0 2 (I6, Q6, Z6)).2.1 l).length ≤ List.length h58 := by rw [hst]; exact fun l hl => Nat.le_trans (hQ7 l hl) hF62.1
    obtain ⟨X67, eX67⟩ : ∃ y, y = (X7) := ⟨_, rfl⟩
    rw [← eX67] at hD63 hS66
    obtain ⟨M68, eM68⟩ : ∃ y : mM, y = (mstp 0 2 (I6, Q6, Z6)) := ⟨_, rfl⟩
    rw [← eM68] at hD63 hS66 hB64 hQ65
    obtain ⟨I68, Q68, Z68⟩ := M68
    change CD w 32 m0 h58 I68 Q68 Z68 X67 ow7 sb7 at hD63
    change sm tbc h58 I68 X67 at hS66
    change co h58 I68 ≤ B at hB64
    change ∀ l, l < 16 → (Q68 l).length ≤ List.length h58 at hQ65
    have hW := hD63.1.1
    have hWn : ∀ a, List.length h58 ≤ a → w a = true := fun a ha => (hD63.1.2.1 a ha).1
    have hF69 := fr_refl tbc h58
    have hln : 62 ≤ List.length h58 := sm_len hS66
    refine go_s (pc' := 24) (lo' := [some (.ref 1), some (.int 2), some (.int 1)]) rfl rfl rfl rfl ?_
    refine go_s (pc' := 6) rfl rfl rfl rfl ?_
    refine go_s (pc' := 7) rfl rfl rfl rfl ?_
    refine go_s (pc' := 8) rfl rfl rfl rfl ?_
    refine go_sget (pc' := 9) (v := .ref 61) hS66 rfl rfl rfl (by decide) rfl rfl ?_
    refine go_salen (pc' := 10) (n := 3) hS66 rfl rfl rfl rfl ?_
    refine go_icmpP (t' := 25) (pc' := 11) rfl rfl rfl (fun (c : 3 ≤ (1 : Int32)) => absurd c (by decide)) (fun _ => ?_)
    refine go_s (pc' := 12) rfl rfl rfl rfl ?_
    refine go_sget (pc' := 13) (v := .ref 61) hS66 rfl rfl rfl (by decide) rfl rfl ?_
    refine go_s (pc' := 14) rfl rfl rfl rfl ?_
    refine go_sald (pc' := 15) (q := 1) (v := .ref 59) hS66 rfl rfl rfl rfl (by decide) rfl rfl ?_
    refine go_sget (pc' := 16) (v := .int (I68 11 1)) hS66 rfl rfl rfl (by decide) rfl rfl ?_
    refine go_s (pc' := 17) rfl rfl rfl rfl ?_
    refine go_icmpP (t' := 23) (pc' := 18) rfl rfl rfl (fun (c70 : ¬ (I68 11 1) = 2) => ?_) (fun (c70' : ¬ ¬ (I68 11 1) = 2) => ?_)
    · skip
      have es71 : mstp 1 2 (I68, Q68, Z68) = (I68, Q68, Z68) := if_neg c70
      refine go_s (pc' := 24) (lo' := [some (.ref 1), some (.int 2), some (.int 2)]) rfl rfl rfl rfl ?_
      refine go_s (pc' := 6) rfl rfl rfl rfl ?_
      refine go_s (pc' := 7) rfl rfl rfl rfl ?_
      refine go_s (pc' := 8) rfl rfl rfl rfl ?_
      refine go_sget (pc' := 9) (v := .ref 61) hS66 rfl rfl rfl (by decide) rfl rfl ?_
      refine go_salen (pc' := 10) (n := 3) hS66 rfl rfl rfl rfl ?_
      refine go_icmpP (t' := 25) (pc' := 11) rfl rfl rfl (fun (c : 3 ≤ (2 : Int32)) => absurd c (by decide)) (fun _ => ?_)
      refine go_s (pc' := 12) rfl rfl rfl rfl ?_
      refine go_sget (pc' := 13) (v := .ref 61) hS66 rfl rfl rfl (by decide) rfl rfl ?_
      refine go_s (pc' := 14) rfl rfl rfl rfl ?_
      refine go_sald (pc' := 15) (q := 2) (v := .ref 60) hS66 rfl rfl rfl rfl (by decide) rfl rfl ?_
      refine go_sget (pc' := 16) (v := .int (I68 11 2)) hS66 rfl rfl rfl (by decide) rfl rfl ?_
      refine go_s (pc' := 17) rfl rfl rfl rfl ?_
      refine go_icmpP (t' := 23) (pc' := 18) rfl rfl rfl (fun (c72 : ¬ (I68 11 2) = 2) => ?_) (fun (c72' : ¬ ¬ (I68 11 2) = 2) => ?_)
      · skip
        have es73 : mstp 2 2 (I68, Q68, Z68) = (I68, Q68, Z68) := if_neg c72
        refine go_s (pc' := 24) (lo' := [some (.ref 1), some (.int 2), some (.int 3)]) rfl rfl rfl rfl ?_
        refine go_s (pc' := 6) rfl rfl rfl rfl ?_
        refine go_s (pc' := 7) rfl rfl rfl rfl ?_
        refine go_s (pc' := 8) rfl rfl rfl rfl ?_
        refine go_sget (pc' := 9) (v := .ref 61) hS66 rfl rfl rfl (by decide) rfl rfl ?_
        refine go_salen (pc' := 10) (n := 3) hS66 rfl rfl rfl rfl ?_
        refine go_icmpP (t' := 25) (pc' := 11) rfl rfl rfl (fun _ => ?_) (fun (c : ¬ (3 ≤ (3 : Int32))) => absurd (by decide) c)
        refine go_ret rfl rfl ?_
        have hms : mfp 2 (I, Q, Z) = (I68, Q68, Z68) := by
          unfold mfp
          rw [← eM6, ← eM68, es71, es73]
        have hC74 : CA w 32 m0 B h58 (I68, Q68, Z68) := ⟨X67, ow7, sb7, hS66, hD63, hB64, hQ65⟩
        rw [hms]
        exact ⟨rfl, hC74⟩
      · skip
        have c72 : (I68 11 2) = 2 := Decidable.not_not.mp c72'
        refine go_s (pc' := 19) rfl rfl rfl rfl ?_
        refine go_sget (pc' := 20) (v := .ref 61) hS66 rfl rfl rfl (by decide) rfl rfl ?_
        refine go_s (pc' := 21) rfl rfl rfl rfl ?_
        refine go_sald (pc' := 22) (q := 2) (v := .ref 60) hS66 rfl rfl rfl rfl (by decide) rfl rfl ?_
        refine go_callV (pc' := 23) rfl rfl rfl (Nat.le_of_ble_eq_true rfl) rfl (sm_o hS66 rfl) rfl rfl rfl (ct_stopP_2 hS66 hW (by omega)) (fun r h75 q76 => ?_)
        obtain ⟨rfl, hS77, hE78⟩ := q76
        have hF79 := fr_trans hF69 (fr_e hE78)
        have hst : mstp 2 2 (I68, Q68, Z68) = (mstI 2 I68, (I68, Q68, Z68).2) := if_pos c72
        have hD80 : CD w 32 m0 h75 (mstp 2 2 (I68, Q68, Z68)).1 (mstp 2 2 (I68, Q68, Z68)).2.1 (mstp 2 2 (I68, Q68, Z68)).2.2 (X67) ow7 sb7 := by rw [hst]; exact CD_I (J := mstI 2 I68) (CD_fr hD63 hF79) ⟨rfl, rfl, rfl, rfl, rfl, rfl, rfl, rfl, rfl, rfl, rfl, rfl, rfl, rfl, rfl⟩
        have hS83 : sm tbc h75 (mstp 2 2 (I68, Q68, Z68)).1 (X67) := by rw [hst]; exact hS77
        have hB81 : co h75 (mstp 2 2 (I68, Q68, Z68)).1 ≤ B := by
          have z1 := co_fr (I := I68) (J := (mstp 2 2 (I68, Q68, Z68)).1) hF79 (by rw [hst]; rfl)
          have z2 := hB64
          omega
        have hQ82 : ∀ l, l < 16 → ((mstp 2 2 (I68, Q68, Z68)).2.1 l).length ≤ List.length h75 := by rw [hst]; exact fun l hl => Nat.le_trans (hQ65 l hl) hF79.1
        obtain ⟨X84, eX84⟩ : ∃ y, y = (X67) := ⟨_, rfl⟩
        rw [← eX84] at hD80 hS83
        obtain ⟨M85, eM85⟩ : ∃ y : mM, y = (mstp 2 2 (I68, Q68, Z68)) := ⟨_, rfl⟩
        rw [← eM85] at hD80 hS83 hB81 hQ82
        obtain ⟨I85, Q85, Z85⟩ := M85
        change CD w 32 m0 h75 I85 Q85 Z85 X84 ow7 sb7 at hD80
        change sm tbc h75 I85 X84 at hS83
        change co h75 I85 ≤ B at hB81
        change ∀ l, l < 16 → (Q85 l).length ≤ List.length h75 at hQ82
        have hW := hD80.1.1
        have hWn : ∀ a, List.length h75 ≤ a → w a = true := fun a ha => (hD80.1.2.1 a ha).1
        have hF86 := fr_refl tbc h75
        have hln : 62 ≤ List.length h75 := sm_len hS83
        refine go_s (pc' := 24) (lo' := [some (.ref 1), some (.int 2), some (.int 3)]) rfl rfl rfl rfl ?_
        refine go_s (pc' := 6) rfl rfl rfl rfl ?_
        refine go_s (pc' := 7) rfl rfl rfl rfl ?_
        refine go_s (pc' := 8) rfl rfl rfl rfl ?_
        refine go_sget (pc' := 9) (v := .ref 61) hS83 rfl rfl rfl (by decide) rfl rfl ?_
        refine go_salen (pc' := 10) (n := 3) hS83 rfl rfl rfl rfl ?_
        refine go_icmpP (t' := 25) (pc' := 11) rfl rfl rfl (fun _ => ?_) (fun (c : ¬ (3 ≤ (3 : Int32))) => absurd (by decide) c)
        refine go_ret rfl rfl ?_
        have hms : mfp 2 (I, Q, Z) = (I85, Q85, Z85) := by
          unfold mfp
          rw [← eM6, ← eM68, es71, ← eM85]
        have hC87 : CA w 32 m0 B h75 (I85, Q85, Z85) := ⟨X84, ow7, sb7, hS83, hD80, hB81, hQ82⟩
        rw [hms]
        exact ⟨rfl, hC87⟩
    · skip
      have c70 : (I68 11 1) = 2 := Decidable.not_not.mp c70'
      refine go_s (pc' := 19) rfl rfl rfl rfl ?_
      refine go_sget (pc' := 20) (v := .ref 61) hS66 rfl rfl rfl (by decide) rfl rfl ?_
      refine go_s (pc' := 21) rfl rfl rfl rfl ?_
      refine go_sald (pc' := 22) (q := 1) (v := .ref 59) hS66 rfl rfl rfl rfl (by decide) rfl rfl ?_
      refine go_callV (pc' := 23) rfl rfl rfl (Nat.le_of_ble_eq_true rfl) rfl (sm_o hS66 rfl) rfl rfl rfl (ct_stopP_1 hS66 hW (by omega)) (fun r h88 q89 => ?_)
      obtain ⟨rfl, hS90, hE91⟩ := q89
      have hF92 := fr_trans hF69 (fr_e hE91)
      have hst : mstp 1 2 (I68, Q68, Z68) = (mstI 1 I68, (I68, Q68, Z68).2) := if_pos c70
      have hD93 : CD w 32 m0 h88 (mstp 1 2 (I68, Q68, Z68)).1 (mstp 1 2 (I68, Q68, Z68)).2.1 (mstp 1 2 (I68, Q68, Z68)).2.2 (X67) ow7 sb7 := by rw [hst]; exact CD_I (J := mstI 1 I68) (CD_fr hD63 hF92) ⟨rfl, rfl, rfl, rfl, rfl, rfl, rfl, rfl, rfl, rfl, rfl, rfl, rfl, rfl, rfl⟩
      have hS96 : sm tbc h88 (mstp 1 2 (I68, Q68, Z68)).1 (X67) := by rw [hst]; exact hS90
      have hB94 : co h88 (mstp 1 2 (I68, Q68, Z68)).1 ≤ B := by
        have z1 := co_fr (I := I68) (J := (mstp 1 2 (I68, Q68, Z68)).1) hF92 (by rw [hst]; rfl)
        have z2 := hB64
        omega
      have hQ95 : ∀ l, l < 16 → ((mstp 1 2 (I68, Q68, Z68)).2.1 l).length ≤ List.length h88 := by rw [hst]; exact fun l hl => Nat.le_trans (hQ65 l hl) hF92.1
      obtain ⟨X97, eX97⟩ : ∃ y, y = (X67) := ⟨_, rfl⟩
      rw [← eX97] at hD93 hS96
      obtain ⟨M98, eM98⟩ : ∃ y : mM, y = (mstp 1 2 (I68, Q68, Z68)) := ⟨_, rfl⟩
      rw [← eM98] at hD93 hS96 hB94 hQ95
      obtain ⟨I98, Q98, Z98⟩ := M98
      change CD w 32 m0 h88 I98 Q98 Z98 X97 ow7 sb7 at hD93
      change sm tbc h88 I98 X97 at hS96
      change co h88 I98 ≤ B at hB94
      change ∀ l, l < 16 → (Q98 l).length ≤ List.length h88 at hQ95
      have hW := hD93.1.1
      have hWn : ∀ a, List.length h88 ≤ a → w a = true := fun a ha => (hD93.1.2.1 a ha).1
      have hF99 := fr_refl tbc h88
      have hln : 62 ≤ List.length h88 := sm_len hS96
      refine go_s (pc' := 24) (lo' := [some (.ref 1), some (.int 2), some (.int 2)]) rfl rfl rfl rfl ?_
      refine go_s (pc' := 6) rfl rfl rfl rfl ?_
      refine go_s (pc' := 7) rfl rfl rfl rfl ?_
      refine go_s (pc' := 8) rfl rfl rfl rfl ?_
      refine go_sget (pc' := 9) (v := .ref 61) hS96 rfl rfl rfl (by decide) rfl rfl ?_
      refine go_salen (pc' := 10) (n := 3) hS96 rfl rfl rfl rfl ?_
      refine go_icmpP (t' := 25) (pc' := 11) rfl rfl rfl (fun (c : 3 ≤ (2 : Int32)) => absurd c (by decide)) (fun _ => ?_)
      refine go_s (pc' := 12) rfl rfl rfl rfl ?_
      refine go_sget (pc' := 13) (v := .ref 61) hS96 rfl rfl rfl (by decide) rfl rfl ?_
      refine go_s (pc' := 14) rfl rfl rfl rfl ?_
      refine go_sald (pc' := 15) (q := 2) (v := .ref 60) hS96 rfl rfl rfl rfl (by decide) rfl rfl ?_
      refine go_sget (pc' := 16) (v := .int (I98 11 2)) hS96 rfl rfl rfl (by decide) rfl rfl ?_
      refine go_s (pc' := 17) rfl rfl rfl rfl ?_
      refine go_icmpP (t' := 23) (pc' := 18) rfl rfl rfl (fun (c100 : ¬ (I98 11 2) = 2) => ?_) (fun (c100' : ¬ ¬ (I98 11 2) = 2) => ?_)
      · skip
        have es101 : mstp 2 2 (I98, Q98, Z98) = (I98, Q98, Z98) := if_neg c100
        refine go_s (pc' := 24) (lo' := [some (.ref 1), some (.int 2), some (.int 3)]) rfl rfl rfl rfl ?_
        refine go_s (pc' := 6) rfl rfl rfl rfl ?_
        refine go_s (pc' := 7) rfl rfl rfl rfl ?_
        refine go_s (pc' := 8) rfl rfl rfl rfl ?_
        refine go_sget (pc' := 9) (v := .ref 61) hS96 rfl rfl rfl (by decide) rfl rfl ?_
        refine go_salen (pc' := 10) (n := 3) hS96 rfl rfl rfl rfl ?_
        refine go_icmpP (t' := 25) (pc' := 11) rfl rfl rfl (fun _ => ?_) (fun (c : ¬ (3 ≤ (3 : Int32))) => absurd (by decide) c)
        refine go_ret rfl rfl ?_
        have hms : mfp 2 (I, Q, Z) = (I98, Q98, Z98) := by
          unfold mfp
          rw [← eM6, ← eM68, ← eM98, es101]
        have hC102 : CA w 32 m0 B h88 (I98, Q98, Z98) := ⟨X97, ow7, sb7, hS96, hD93, hB94, hQ95⟩
        rw [hms]
        exact ⟨rfl, hC102⟩
      · skip
        have c100 : (I98 11 2) = 2 := Decidable.not_not.mp c100'
        refine go_s (pc' := 19) rfl rfl rfl rfl ?_
        refine go_sget (pc' := 20) (v := .ref 61) hS96 rfl rfl rfl (by decide) rfl rfl ?_
        refine go_s (pc' := 21) rfl rfl rfl rfl ?_
        refine go_sald (pc' := 22) (q := 2) (v := .ref 60) hS96 rfl rfl rfl rfl (by decide) rfl rfl ?_
        refine go_callV (pc' := 23) rfl rfl rfl (Nat.le_of_ble_eq_true rfl) rfl (sm_o hS96 rfl) rfl rfl rfl (ct_stopP_2 hS96 hW (by omega)) (fun r h103 q104 => ?_)
        obtain ⟨rfl, hS105, hE106⟩ := q104
        have hF107 := fr_trans hF99 (fr_e hE106)
        have hst : mstp 2 2 (I98, Q98, Z98) = (mstI 2 I98, (I98, Q98, Z98).2) := if_pos c100
        have hD108 : CD w 32 m0 h103 (mstp 2 2 (I98, Q98, Z98)).1 (mstp 2 2 (I98, Q98, Z98)).2.1 (mstp 2 2 (I98, Q98, Z98)).2.2 (X97) ow7 sb7 := by rw [hst]; exact CD_I (J := mstI 2 I98) (CD_fr hD93 hF107) ⟨rfl, rfl, rfl, rfl, rfl, rfl, rfl, rfl, rfl, rfl, rfl, rfl, rfl, rfl, rfl⟩
        have hS111 : sm tbc h103 (mstp 2 2 (I98, Q98, Z98)).1 (X97) := by rw [hst]; exact hS105
        have hB109 : co h103 (mstp 2 2 (I98, Q98, Z98)).1 ≤ B := by
          have z1 := co_fr (I := I98) (J := (mstp 2 2 (I98, Q98, Z98)).1) hF107 (by rw [hst]; rfl)
          have z2 := hB94
          omega
        have hQ110 : ∀ l, l < 16 → ((mstp 2 2 (I98, Q98, Z98)).2.1 l).length ≤ List.length h103 := by rw [hst]; exact fun l hl => Nat.le_trans (hQ95 l hl) hF107.1
        obtain ⟨X112, eX112⟩ : ∃ y, y = (X97) := ⟨_, rfl⟩
        rw [← eX112] at hD108 hS111
        obtain ⟨M113, eM113⟩ : ∃ y : mM, y = (mstp 2 2 (I98, Q98, Z98)) := ⟨_, rfl⟩
        rw [← eM113] at hD108 hS111 hB109 hQ110
        obtain ⟨I113, Q113, Z113⟩ := M113
        change CD w 32 m0 h103 I113 Q113 Z113 X112 ow7 sb7 at hD108
        change sm tbc h103 I113 X112 at hS111
        change co h103 I113 ≤ B at hB109
        change ∀ l, l < 16 → (Q113 l).length ≤ List.length h103 at hQ110
        have hW := hD108.1.1
        have hWn : ∀ a, List.length h103 ≤ a → w a = true := fun a ha => (hD108.1.2.1 a ha).1
        have hF114 := fr_refl tbc h103
        have hln : 62 ≤ List.length h103 := sm_len hS111
        refine go_s (pc' := 24) (lo' := [some (.ref 1), some (.int 2), some (.int 3)]) rfl rfl rfl rfl ?_
        refine go_s (pc' := 6) rfl rfl rfl rfl ?_
        refine go_s (pc' := 7) rfl rfl rfl rfl ?_
        refine go_s (pc' := 8) rfl rfl rfl rfl ?_
        refine go_sget (pc' := 9) (v := .ref 61) hS111 rfl rfl rfl (by decide) rfl rfl ?_
        refine go_salen (pc' := 10) (n := 3) hS111 rfl rfl rfl rfl ?_
        refine go_icmpP (t' := 25) (pc' := 11) rfl rfl rfl (fun _ => ?_) (fun (c : ¬ (3 ≤ (3 : Int32))) => absurd (by decide) c)
        refine go_ret rfl rfl ?_
        have hms : mfp 2 (I, Q, Z) = (I113, Q113, Z113) := by
          unfold mfp
          rw [← eM6, ← eM68, ← eM98, ← eM113]
        have hC115 : CA w 32 m0 B h103 (I113, Q113, Z113) := ⟨X112, ow7, sb7, hS111, hD108, hB109, hQ110⟩
        rw [hms]
        exact ⟨rfl, hC115⟩
theorem cm_sp_3 {w : Nat → Bool} {d : Nat} {h : am_Hp} {m0 : mg} {B : Nat} {I : sm_I} {Q : mQ} {Z : mZ} (hC : CA w 32 m0 B h (I, Q, Z)) (hB2 : B < 2 ^ 26) (hd : 4 ≤ d) : am_Ev (am_prog w) d 99 [.ref 1, .int 3] h (fun r h' => r = none ∧ CA w 32 m0 B h' (mfp 3 (I, Q, Z))) := by
  obtain ⟨X, ow, sb, hS, hD, hB, hQ⟩ := hC
  change sm tbc h I X at hS
  change CD w 32 m0 h I Q Z X ow sb at hD
  change co h I ≤ B at hB
  change ∀ l, l < 16 → (Q l).length ≤ h.length at hQ
  have hW := hD.1.1
  have hWn : ∀ a, List.length h ≤ a → w a = true := fun a ha => (hD.1.2.1 a ha).1
  have hF1 := fr_refl tbc h
  have hln : 62 ≤ List.length h := sm_len hS
  obtain ⟨d, rfl⟩ : ∃ e, d = e + 1 := ⟨d - 1, by omega⟩
  refine ev_go rfl (Nat.le_of_ble_eq_true rfl) rfl ?_
  refine go_s (pc' := 1) rfl rfl rfl rfl ?_
  refine go_sget (pc' := 2) (v := .ref 2) hS rfl rfl rfl (by decide) rfl rfl ?_
  refine go_s (pc' := 3) rfl rfl rfl rfl ?_
  have hC2 : CA w 32 m0 B h (I, Q, Z) := ⟨X, ow, sb, hS, hD, hB, hQ⟩
  refine go_callV (pc' := 4) rfl rfl rfl (Nat.le_of_ble_eq_true rfl) rfl (sm_o hS rfl) rfl rfl rfl (cm_nst_3 hC2 (by omega) (by omega)) (fun r h3 q4 => ?_)
  obtain ⟨rfl, hC5⟩ := q4
  change CA w 32 m0 B h3 (mnst 3 (I, Q, Z)) at hC5
  obtain ⟨M6, eM6⟩ : ∃ y : mM, y = (mnst 3 (I, Q, Z)) := ⟨_, rfl⟩
  rw [← eM6] at hC5
  obtain ⟨I6, Q6, Z6⟩ := M6
  obtain ⟨X7, ow7, sb7, hS7, hD7, hB7, hQ7⟩ := hC5
  have hW := hD7.1.1
  have hWn : ∀ a, List.length h3 ≤ a → w a = true := fun a ha => (hD7.1.2.1 a ha).1
  have hF8 := fr_refl tbc h3
  have hln : 62 ≤ List.length h3 := sm_len hS7
  change CD w 32 m0 h3 I6 Q6 Z6 X7 ow7 sb7 at hD7
  change sm tbc h3 I6 X7 at hS7
  change co h3 I6 ≤ B at hB7
  change ∀ l, l < 16 → (Q6 l).length ≤ List.length h3 at hQ7
  have hW := hD7.1.1
  have hWn : ∀ a, List.length h3 ≤ a → w a = true := fun a ha => (hD7.1.2.1 a ha).1
  have hF9 := fr_refl tbc h3
  have hln : 62 ≤ List.length h3 := sm_len hS7
  refine go_s (pc' := 5) (st' := [.int 0]) rfl rfl rfl rfl ?_
  refine go_s (pc' := 6) (lo' := [some (.ref 1), some (.int 3), some (.int 0)]) rfl rfl rfl rfl ?_
  refine go_s (pc' := 7) rfl rfl rfl rfl ?_
  refine go_s (pc' := 8) rfl rfl rfl rfl ?_
  refine go_sget (pc' := 9) (v := .ref 61) hS7 rfl rfl rfl (by decide) rfl rfl ?_
  refine go_salen (pc' := 10) (n := 3) hS7 rfl rfl rfl rfl ?_
  refine go_icmpP (t' := 25) (pc' := 11) rfl rfl rfl (fun (c : 3 ≤ (0 : Int32)) => absurd c (by decide)) (fun _ => ?_)
  refine go_s (pc' := 12) rfl rfl rfl rfl ?_
  refine go_sget (pc' := 13) (v := .ref 61) hS7 rfl rfl rfl (by decide) rfl rfl ?_
  refine go_s (pc' := 14) rfl rfl rfl rfl ?_
  refine go_sald (pc' := 15) (q := 0) (v := .ref 32) hS7 rfl rfl rfl rfl (by decide) rfl rfl ?_
  refine go_sget (pc' := 16) (v := .int (I6 11 0)) hS7 rfl rfl rfl (by decide) rfl rfl ?_
  refine go_s (pc' := 17) rfl rfl rfl rfl ?_
  refine go_icmpP (t' := 23) (pc' := 18) rfl rfl rfl (fun (c10 : ¬ (I6 11 0) = 3) => ?_) (fun (c10' : ¬ ¬ (I6 11 0) = 3) => ?_)
  · skip
    have es11 : mstp 0 3 (I6, Q6, Z6) = (I6, Q6, Z6) := if_neg c10
    refine go_s (pc' := 24) (lo' := [some (.ref 1), some (.int 3), some (.int 1)]) rfl rfl rfl rfl ?_
    refine go_s (pc' := 6) rfl rfl rfl rfl ?_
    refine go_s (pc' := 7) rfl rfl rfl rfl ?_
    refine go_s (pc' := 8) rfl rfl rfl rfl ?_
    refine go_sget (pc' := 9) (v := .ref 61) hS7 rfl rfl rfl (by decide) rfl rfl ?_
    refine go_salen (pc' := 10) (n := 3) hS7 rfl rfl rfl rfl ?_
    refine go_icmpP (t' := 25) (pc' := 11) rfl rfl rfl (fun (c : 3 ≤ (1 : Int32)) => absurd c (by decide)) (fun _ => ?_)
    refine go_s (pc' := 12) rfl rfl rfl rfl ?_
    refine go_sget (pc' := 13) (v := .ref 61) hS7 rfl rfl rfl (by decide) rfl rfl ?_
    refine go_s (pc' := 14) rfl rfl rfl rfl ?_
    refine go_sald (pc' := 15) (q := 1) (v := .ref 59) hS7 rfl rfl rfl rfl (by decide) rfl rfl ?_
    refine go_sget (pc' := 16) (v := .int (I6 11 1)) hS7 rfl rfl rfl (by decide) rfl rfl ?_
    refine go_s (pc' := 17) rfl rfl rfl rfl ?_
    refine go_icmpP (t' := 23) (pc' := 18) rfl rfl rfl (fun (c12 : ¬ (I6 11 1) = 3) => ?_) (fun (c12' : ¬ ¬ (I6 11 1) = 3) => ?_)
    · skip
      have es13 : mstp 1 3 (I6, Q6, Z6) = (I6, Q6, Z6) := if_neg c12
      refine go_s (pc' := 24) (lo' := [some (.ref 1), some (.int 3), some (.int 2)]) rfl rfl rfl rfl ?_
      refine go_s (pc' := 6) rfl rfl rfl rfl ?_
      refine go_s (pc' := 7) rfl rfl rfl rfl ?_
      refine go_s (pc' := 8) rfl rfl rfl rfl ?_
      refine go_sget (pc' := 9) (v := .ref 61) hS7 rfl rfl rfl (by decide) rfl rfl ?_
      refine go_salen (pc' := 10) (n := 3) hS7 rfl rfl rfl rfl ?_
      refine go_icmpP (t' := 25) (pc' := 11) rfl rfl rfl (fun (c : 3 ≤ (2 : Int32)) => absurd c (by decide)) (fun _ => ?_)
      refine go_s (pc' := 12) rfl rfl rfl rfl ?_
      refine go_sget (pc' := 13) (v := .ref 61) hS7 rfl rfl rfl (by decide) rfl rfl ?_
      refine go_s (pc' := 14) rfl rfl rfl rfl ?_
      refine go_sald (pc' := 15) (q := 2) (v := .ref 60) hS7 rfl rfl rfl rfl (by decide) rfl rfl ?_
      refine go_sget (pc' := 16) (v := .int (I6 11 2)) hS7 rfl rfl rfl (by decide) rfl rfl ?_
      refine go_s (pc' := 17) rfl rfl rfl rfl ?_
      refine go_icmpP (t' := 23) (pc' := 18) rfl rfl rfl (fun (c14 : ¬ (I6 11 2) = 3) => ?_) (fun (c14' : ¬ ¬ (I6 11 2) = 3) => ?_)
      · skip
        have es15 : mstp 2 3 (I6, Q6, Z6) = (I6, Q6, Z6) := if_neg c14
        refine go_s (pc' := 24) (lo' := [some (.ref 1), some (.int 3), some (.int 3)]) rfl rfl rfl rfl ?_
        refine go_s (pc' := 6) rfl rfl rfl rfl ?_
        refine go_s (pc' := 7) rfl rfl rfl rfl ?_
        refine go_s (pc' := 8) rfl rfl rfl rfl ?_
        refine go_sget (pc' := 9) (v := .ref 61) hS7 rfl rfl rfl (by decide) rfl rfl ?_
        refine go_salen (pc' := 10) (n := 3) hS7 rfl rfl rfl rfl ?_
        refine go_icmpP (t' := 25) (pc' := 11) rfl rfl rfl (fun _ => ?_) (fun (c : ¬ (3 ≤ (3 : Int32))) => absurd (by decide) c)
        refine go_ret rfl rfl ?_
        have hms : mfp 3 (I, Q, Z) = (I6, Q6, Z6) := by
          unfold mfp
          rw [← eM6, es11, es13, es15]
        have hC16 : CA w 32 m0 B h3 (I6, Q6, Z6) := ⟨X7, ow7, sb7, hS7, hD7, hB7, hQ7⟩
        rw [hms]
        exact ⟨rfl, hC16⟩
      · skip
        have c14 : (I6 11 2) = 3 := Decidable.not_not.mp c14'
        refine go_s (pc' := 19) rfl rfl rfl rfl ?_
        refine go_sget (pc' := 20) (v := .ref 61) hS7 rfl rfl rfl (by decide) rfl rfl ?_
        refine go_s (pc' := 21) rfl rfl rfl rfl ?_
        refine go_sald (pc' := 22) (q := 2) (v := .ref 60) hS7 rfl rfl rfl rfl (by decide) rfl rfl ?_
        refine go_callV (pc' := 23) rfl rfl rfl (Nat.le_of_ble_eq_true rfl) rfl (sm_o hS7 rfl) rfl rfl rfl (ct_stopP_2 hS7 hW (by omega)) (fun r h17 q18 => ?_)
        obtain ⟨rfl, hS19, hE20⟩ := q18
        have hF21 := fr_trans hF9 (fr_e hE20)
        have hst : mstp 2 3 (I6, Q6, Z6) = (mstI 2 I6, (I6, Q6, Z6).2) := if_pos c14
        have hD22 : CD w 32 m0 h17 (mstp 2 3 (I6, Q6, Z6)).1 (mstp 2 3 (I6, Q6, Z6)).2.1 (mstp 2 3 (I6, Q6, Z6)).2.2 (X7) ow7 sb7 := by rw [hst]; exact CD_I (J := mstI 2 I6) (CD_fr hD7 hF21) ⟨rfl, rfl, rfl, rfl, rfl, rfl, rfl, rfl, rfl, rfl, rfl, rfl, rfl, rfl, rfl⟩
        have hS25 : sm tbc h17 (mstp 2 3 (I6, Q6, Z6)).1 (X7) := by rw [hst]; exact hS19
        have hB23 : co h17 (mstp 2 3 (I6, Q6, Z6)).1 ≤ B := by
          have z1 := co_fr (I := I6) (J := (mstp 2 3 (I6, Q6, Z6)).1) hF21 (by rw [hst]; rfl)
          have z2 := hB7
          omega
        have hQ24 : ∀ l, l < 16 → ((mstp 2 3 (I6, Q6, Z6)).2.1 l).length ≤ List.length h17 := by rw [hst]; exact fun l hl => Nat.le_trans (hQ7 l hl) hF21.1
        obtain ⟨X26, eX26⟩ : ∃ y, y = (X7) := ⟨_, rfl⟩
        rw [← eX26] at hD22 hS25
        obtain ⟨M27, eM27⟩ : ∃ y : mM, y = (mstp 2 3 (I6, Q6, Z6)) := ⟨_, rfl⟩
        rw [← eM27] at hD22 hS25 hB23 hQ24
        obtain ⟨I27, Q27, Z27⟩ := M27
        change CD w 32 m0 h17 I27 Q27 Z27 X26 ow7 sb7 at hD22
        change sm tbc h17 I27 X26 at hS25
        change co h17 I27 ≤ B at hB23
        change ∀ l, l < 16 → (Q27 l).length ≤ List.length h17 at hQ24
        have hW := hD22.1.1
        have hWn : ∀ a, List.length h17 ≤ a → w a = true := fun a ha => (hD22.1.2.1 a ha).1
        have hF28 := fr_refl tbc h17
        have hln : 62 ≤ List.length h17 := sm_len hS25
        refine go_s (pc' := 24) (lo' := [some (.ref 1), some (.int 3), some (.int 3)]) rfl rfl rfl rfl ?_
        refine go_s (pc' := 6) rfl rfl rfl rfl ?_
        refine go_s (pc' := 7) rfl rfl rfl rfl ?_
        refine go_s (pc' := 8) rfl rfl rfl rfl ?_
        refine go_sget (pc' := 9) (v := .ref 61) hS25 rfl rfl rfl (by decide) rfl rfl ?_
        refine go_salen (pc' := 10) (n := 3) hS25 rfl rfl rfl rfl ?_
        refine go_icmpP (t' := 25) (pc' := 11) rfl rfl rfl (fun _ => ?_) (fun (c : ¬ (3 ≤ (3 : Int32))) => absurd (by decide) c)
        refine go_ret rfl rfl ?_
        have hms : mfp 3 (I, Q, Z) = (I27, Q27, Z27) := by
          unfold mfp
          rw [← eM6, es11, es13, ← eM27]
        have hC29 : CA w 32 m0 B h17 (I27, Q27, Z27) := ⟨X26, ow7, sb7, hS25, hD22, hB23, hQ24⟩
        rw [hms]
        exact ⟨rfl, hC29⟩
    · skip
      have c12 : (I6 11 1) = 3 := Decidable.not_not.mp c12'
      refine go_s (pc' := 19) rfl rfl rfl rfl ?_
      refine go_sget (pc' := 20) (v := .ref 61) hS7 rfl rfl rfl (by decide) rfl rfl ?_
      refine go_s (pc' := 21) rfl rfl rfl rfl ?_
      refine go_sald (pc' := 22) (q := 1) (v := .ref 59) hS7 rfl rfl rfl rfl (by decide) rfl rfl ?_
      refine go_callV (pc' := 23) rfl rfl rfl (Nat.le_of_ble_eq_true rfl) rfl (sm_o hS7 rfl) rfl rfl rfl (ct_stopP_1 hS7 hW (by omega)) (fun r h30 q31 => ?_)
      obtain ⟨rfl, hS32, hE33⟩ := q31
      have hF34 := fr_trans hF9 (fr_e hE33)
      have hst : mstp 1 3 (I6, Q6, Z6) = (mstI 1 I6, (I6, Q6, Z6).2) := if_pos c12
      have hD35 : CD w 32 m0 h30 (mstp 1 3 (I6, Q6, Z6)).1 (mstp 1 3 (I6, Q6, Z6)).2.1 (mstp 1 3 (I6, Q6, Z6)).2.2 (X7) ow7 sb7 := by rw [hst]; exact CD_I (J := mstI 1 I6) (CD_fr hD7 hF34) ⟨rfl, rfl, rfl, rfl, rfl, rfl, rfl, rfl, rfl, rfl, rfl, rfl, rfl, rfl, rfl⟩
      have hS38 : sm tbc h30 (mstp 1 3 (I6, Q6, Z6)).1 (X7) := by rw [hst]; exact hS32
      have hB36 : co h30 (mstp 1 3 (I6, Q6, Z6)).1 ≤ B := by
        have z1 := co_fr (I := I6) (J := (mstp 1 3 (I6, Q6, Z6)).1) hF34 (by rw [hst]; rfl)
        have z2 := hB7
        omega
      have hQ37 : ∀ l, l < 16 → ((mstp 1 3 (I6, Q6, Z6)).2.1 l).length ≤ List.length h30 := by rw [hst]; exact fun l hl => Nat.le_trans (hQ7 l hl) hF34.1
      obtain ⟨X39, eX39⟩ : ∃ y, y = (X7) := ⟨_, rfl⟩
      rw [← eX39] at hD35 hS38
      obtain ⟨M40, eM40⟩ : ∃ y : mM, y = (mstp 1 3 (I6, Q6, Z6)) := ⟨_, rfl⟩
      rw [← eM40] at hD35 hS38 hB36 hQ37
      obtain ⟨I40, Q40, Z40⟩ := M40
      change CD w 32 m0 h30 I40 Q40 Z40 X39 ow7 sb7 at hD35
      change sm tbc h30 I40 X39 at hS38
      change co h30 I40 ≤ B at hB36
      change ∀ l, l < 16 → (Q40 l).length ≤ List.length h30 at hQ37
      have hW := hD35.1.1
      have hWn : ∀ a, List.length h30 ≤ a → w a = true := fun a ha => (hD35.1.2.1 a ha).1
      have hF41 := fr_refl tbc h30
      have hln : 62 ≤ List.length h30 := sm_len hS38
      refine go_s (pc' := 24) (lo' := [some (.ref 1), some (.int 3), some (.int 2)]) rfl rfl rfl rfl ?_
      refine go_s (pc' := 6) rfl rfl rfl rfl ?_
      refine go_s (pc' := 7) rfl rfl rfl rfl ?_
      refine go_s (pc' := 8) rfl rfl rfl rfl ?_
      refine go_sget (pc' := 9) (v := .ref 61) hS38 rfl rfl rfl (by decide) rfl rfl ?_
      refine go_salen (pc' := 10) (n := 3) hS38 rfl rfl rfl rfl ?_
      refine go_icmpP (t' := 25) (pc' := 11) rfl rfl rfl (fun (c : 3 ≤ (2 : Int32)) => absurd c (by decide)) (fun _ => ?_)
      refine go_s (pc' := 12) rfl rfl rfl rfl ?_
      refine go_sget (pc' := 13) (v := .ref 61) hS38 rfl rfl rfl (by decide) rfl rfl ?_
      refine go_s (pc' := 14) rfl rfl rfl rfl ?_
      refine go_sald (pc' := 15) (q := 2) (v := .ref 60) hS38 rfl rfl rfl rfl (by decide) rfl rfl ?_
      refine go_sget (pc' := 16) (v := .int (I40 11 2)) hS38 rfl rfl rfl (by decide) rfl rfl ?_
      refine go_s (pc' := 17) rfl rfl rfl rfl ?_
      refine go_icmpP (t' := 23) (pc' := 18) rfl rfl rfl (fun (c42 : ¬ (I40 11 2) = 3) => ?_) (fun (c42' : ¬ ¬ (I40 11 2) = 3) => ?_)
      · skip
        have es43 : mstp 2 3 (I40, Q40, Z40) = (I40, Q40, Z40) := if_neg c42
        refine go_s (pc' := 24) (lo' := [some (.ref 1), some (.int 3), some (.int 3)]) rfl rfl rfl rfl ?_
        refine go_s (pc' := 6) rfl rfl rfl rfl ?_
        refine go_s (pc' := 7) rfl rfl rfl rfl ?_
        refine go_s (pc' := 8) rfl rfl rfl rfl ?_
        refine go_sget (pc' := 9) (v := .ref 61) hS38 rfl rfl rfl (by decide) rfl rfl ?_
        refine go_salen (pc' := 10) (n := 3) hS38 rfl rfl rfl rfl ?_
        refine go_icmpP (t' := 25) (pc' := 11) rfl rfl rfl (fun _ => ?_) (fun (c : ¬ (3 ≤ (3 : Int32))) => absurd (by decide) c)
        refine go_ret rfl rfl ?_
        have hms : mfp 3 (I, Q, Z) = (I40, Q40, Z40) := by
          unfold mfp
          rw [← eM6, es11, ← eM40, es43]
        have hC44 : CA w 32 m0 B h30 (I40, Q40, Z40) := ⟨X39, ow7, sb7, hS38, hD35, hB36, hQ37⟩
        rw [hms]
        exact ⟨rfl, hC44⟩
      · skip
        have c42 : (I40 11 2) = 3 := Decidable.not_not.mp c42'
        refine go_s (pc' := 19) rfl rfl rfl rfl ?_
        refine go_sget (pc' := 20) (v := .ref 61) hS38 rfl rfl rfl (by decide) rfl rfl ?_
        refine go_s (pc' := 21) rfl rfl rfl rfl ?_
        refine go_sald (pc' := 22) (q := 2) (v := .ref 60) hS38 rfl rfl rfl rfl (by decide) rfl rfl ?_
        refine go_callV (pc' := 23) rfl rfl rfl (Nat.le_of_ble_eq_true rfl) rfl (sm_o hS38 rfl) rfl rfl rfl (ct_stopP_2 hS38 hW (by omega)) (fun r h45 q46 => ?_)
        obtain ⟨rfl, hS47, hE48⟩ := q46
        have hF49 := fr_trans hF41 (fr_e hE48)
        have hst : mstp 2 3 (I40, Q40, Z40) = (mstI 2 I40, (I40, Q40, Z40).2) := if_pos c42
        have hD50 : CD w 32 m0 h45 (mstp 2 3 (I40, Q40, Z40)).1 (mstp 2 3 (I40, Q40, Z40)).2.1 (mstp 2 3 (I40, Q40, Z40)).2.2 (X39) ow7 sb7 := by rw [hst]; exact CD_I (J := mstI 2 I40) (CD_fr hD35 hF49) ⟨rfl, rfl, rfl, rfl, rfl, rfl, rfl, rfl, rfl, rfl, rfl, rfl, rfl, rfl, rfl⟩
        have hS53 : sm tbc h45 (mstp 2 3 (I40, Q40, Z40)).1 (X39) := by rw [hst]; exact hS47
        have hB51 : co h45 (mstp 2 3 (I40, Q40, Z40)).1 ≤ B := by
          have z1 := co_fr (I := I40) (J := (mstp 2 3 (I40, Q40, Z40)).1) hF49 (by rw [hst]; rfl)
          have z2 := hB36
          omega
        have hQ52 : ∀ l, l < 16 → ((mstp 2 3 (I40, Q40, Z40)).2.1 l).length ≤ List.length h45 := by rw [hst]; exact fun l hl => Nat.le_trans (hQ37 l hl) hF49.1
        obtain ⟨X54, eX54⟩ : ∃ y, y = (X39) := ⟨_, rfl⟩
        rw [← eX54] at hD50 hS53
        obtain ⟨M55, eM55⟩ : ∃ y : mM, y = (mstp 2 3 (I40, Q40, Z40)) := ⟨_, rfl⟩
        rw [← eM55] at hD50 hS53 hB51 hQ52
        obtain ⟨I55, Q55, Z55⟩ := M55
        change CD w 32 m0 h45 I55 Q55 Z55 X54 ow7 sb7 at hD50
        change sm tbc h45 I55 X54 at hS53
        change co h45 I55 ≤ B at hB51
        change ∀ l, l < 16 → (Q55 l).length ≤ List.length h45 at hQ52
        have hW := hD50.1.1
        have hWn : ∀ a, List.length h45 ≤ a → w a = true := fun a ha => (hD50.1.2.1 a ha).1
        have hF56 := fr_refl tbc h45
        have hln : 62 ≤ List.length h45 := sm_len hS53
        refine go_s (pc' := 24) (lo' := [some (.ref 1), some (.int 3), some (.int 3)]) rfl rfl rfl rfl ?_
        refine go_s (pc' := 6) rfl rfl rfl rfl ?_
        refine go_s (pc' := 7) rfl rfl rfl rfl ?_
        refine go_s (pc' := 8) rfl rfl rfl rfl ?_
        refine go_sget (pc' := 9) (v := .ref 61) hS53 rfl rfl rfl (by decide) rfl rfl ?_
        refine go_salen (pc' := 10) (n := 3) hS53 rfl rfl rfl rfl ?_
        refine go_icmpP (t' := 25) (pc' := 11) rfl rfl rfl (fun _ => ?_) (fun (c : ¬ (3 ≤ (3 : Int32))) => absurd (by decide) c)
        refine go_ret rfl rfl ?_
        have hms : mfp 3 (I, Q, Z) = (I55, Q55, Z55) := by
          unfold mfp
          rw [← eM6, es11, ← eM40, ← eM55]
        have hC57 : CA w 32 m0 B h45 (I55, Q55, Z55) := ⟨X54, ow7, sb7, hS53, hD50, hB51, hQ52⟩
        rw [hms]
        exact ⟨rfl, hC57⟩
  · skip
    have c10 : (I6 11 0) = 3 := Decidable.not_not.mp c10'
    refine go_s (pc' := 19) rfl rfl rfl rfl ?_
    refine go_sget (pc' := 20) (v := .ref 61) hS7 rfl rfl rfl (by decide) rfl rfl ?_
    refine go_s (pc' := 21) rfl rfl rfl rfl ?_
    refine go_sald (pc' := 22) (q := 0) (v := .ref 32) hS7 rfl rfl rfl rfl (by decide) rfl rfl ?_
    refine go_callV (pc' := 23) rfl rfl rfl (Nat.le_of_ble_eq_true rfl) rfl (sm_o hS7 rfl) rfl rfl rfl (ct_stopS hS7 hW (by omega)) (fun r h58 q59 => ?_)
    obtain ⟨rfl, hS60, hE61⟩ := q59
    have hF62 := fr_trans hF9 (fr_e hE61)
    have hst : mstp 0 3 (I6, Q6, Z6) = (mstI 0 I6, (I6, Q6, Z6).2) := if_pos c10
    have hD63 : CD w 32 m0 h58 (mstp 0 3 (I6, Q6, Z6)).1 (mstp 0 3 (I6, Q6, Z6)).2.1 (mstp 0 3 (I6, Q6, Z6)).2.2 (X7) ow7 sb7 := by rw [hst]; exact CD_I (J := mstI 0 I6) (CD_s21 (CD_t0 (v := 0) (CD_fr hD7 hF62) (by decide))) ⟨rfl, rfl, rfl, rfl, rfl, rfl, rfl, rfl, rfl, rfl, rfl, rfl, rfl, rfl, rfl⟩
    have hS66 : sm tbc h58 (mstp 0 3 (I6, Q6, Z6)).1 (X7) := by rw [hst]; exact hS60
    have hB64 : co h58 (mstp 0 3 (I6, Q6, Z6)).1 ≤ B := by
      have z1 := co_le (I := I6) (J := (mstp 0 3 (I6, Q6, Z6)).1) hF62 (by rw [hst]; rfl)
      have z2 := hB7
      omega
    have hQ65 : ∀ l, l < 16 → ((mstp 0 3 (I6, Q6, Z6)).2.1 l).length ≤ List.length h58 := by rw [hst]; exact fun l hl => Nat.le_trans (hQ7 l hl) hF62.1
    obtain ⟨X67, eX67⟩ : ∃ y, y = (X7) := ⟨_, rfl⟩
    rw [← eX67] at hD63 hS66
    obtain ⟨M68, eM68⟩ : ∃ y : mM, y = (mstp 0 3 (I6, Q6, Z6)) := ⟨_, rfl⟩
    rw [← eM68] at hD63 hS66 hB64 hQ65
    obtain ⟨I68, Q68, Z68⟩ := M68
    change CD w 32 m0 h58 I68 Q68 Z68 X67 ow7 sb7 at hD63
    change sm tbc h58 I68 X67 at hS66
    change co h58 I68 ≤ B at hB64
    change ∀ l, l < 16 → (Q68 l).length ≤ List.length h58 at hQ65
    have hW := hD63.1.1
    have hWn : ∀ a, List.length h58 ≤ a → w a = true := fun a ha => (hD63.1.2.1 a ha).1
    have hF69 := fr_refl tbc h58
    have hln : 62 ≤ List.length h58 := sm_len hS66
    refine go_s (pc' := 24) (lo' := [some (.ref 1), some (.int 3), some (.int 1)]) rfl rfl rfl rfl ?_
    refine go_s (pc' := 6) rfl rfl rfl rfl ?_
    refine go_s (pc' := 7) rfl rfl rfl rfl ?_
    refine go_s (pc' := 8) rfl rfl rfl rfl ?_
    refine go_sget (pc' := 9) (v := .ref 61) hS66 rfl rfl rfl (by decide) rfl rfl ?_
    refine go_salen (pc' := 10) (n := 3) hS66 rfl rfl rfl rfl ?_
    refine go_icmpP (t' := 25) (pc' := 11) rfl rfl rfl (fun (c : 3 ≤ (1 : Int32)) => absurd c (by decide)) (fun _ => ?_)
    refine go_s (pc' := 12) rfl rfl rfl rfl ?_
    refine go_sget (pc' := 13) (v := .ref 61) hS66 rfl rfl rfl (by decide) rfl rfl ?_
    refine go_s (pc' := 14) rfl rfl rfl rfl ?_
    refine go_sald (pc' := 15) (q := 1) (v := .ref 59) hS66 rfl rfl rfl rfl (by decide) rfl rfl ?_
    refine go_sget (pc' := 16) (v := .int (I68 11 1)) hS66 rfl rfl rfl (by decide) rfl rfl ?_
    refine go_s (pc' := 17) rfl rfl rfl rfl ?_
    refine go_icmpP (t' := 23) (pc' := 18) rfl rfl rfl (fun (c70 : ¬ (I68 11 1) = 3) => ?_) (fun (c70' : ¬ ¬ (I68 11 1) = 3) => ?_)
    · skip
      have es71 : mstp 1 3 (I68, Q68, Z68) = (I68, Q68, Z68) := if_neg c70
      refine go_s (pc' := 24) (lo' := [some (.ref 1), some (.int 3), some (.int 2)]) rfl rfl rfl rfl ?_
      refine go_s (pc' := 6) rfl rfl rfl rfl ?_
      refine go_s (pc' := 7) rfl rfl rfl rfl ?_
      refine go_s (pc' := 8) rfl rfl rfl rfl ?_
      refine go_sget (pc' := 9) (v := .ref 61) hS66 rfl rfl rfl (by decide) rfl rfl ?_
      refine go_salen (pc' := 10) (n := 3) hS66 rfl rfl rfl rfl ?_
      refine go_icmpP (t' := 25) (pc' := 11) rfl rfl rfl (fun (c : 3 ≤ (2 : Int32)) => absurd c (by decide)) (fun _ => ?_)
      refine go_s (pc' := 12) rfl rfl rfl rfl ?_
      refine go_sget (pc' := 13) (v := .ref 61) hS66 rfl rfl rfl (by decide) rfl rfl ?_
      refine go_s (pc' := 14) rfl rfl rfl rfl ?_
      refine go_sald (pc' := 15) (q := 2) (v := .ref 60) hS66 rfl rfl rfl rfl (by decide) rfl rfl ?_
      refine go_sget (pc' := 16) (v := .int (I68 11 2)) hS66 rfl rfl rfl (by decide) rfl rfl ?_
      refine go_s (pc' := 17) rfl rfl rfl rfl ?_
      refine go_icmpP (t' := 23) (pc' := 18) rfl rfl rfl (fun (c72 : ¬ (I68 11 2) = 3) => ?_) (fun (c72' : ¬ ¬ (I68 11 2) = 3) => ?_)
      · skip
        have es73 : mstp 2 3 (I68, Q68, Z68) = (I68, Q68, Z68) := if_neg c72
        refine go_s (pc' := 24) (lo' := [some (.ref 1), some (.int 3), some (.int 3)]) rfl rfl rfl rfl ?_
        refine go_s (pc' := 6) rfl rfl rfl rfl ?_
        refine go_s (pc' := 7) rfl rfl rfl rfl ?_
        refine go_s (pc' := 8) rfl rfl rfl rfl ?_
        refine go_sget (pc' := 9) (v := .ref 61) hS66 rfl rfl rfl (by decide) rfl rfl ?_
        refine go_salen (pc' := 10) (n := 3) hS66 rfl rfl rfl rfl ?_
        refine go_icmpP (t' := 25) (pc' := 11) rfl rfl rfl (fun _ => ?_) (fun (c : ¬ (3 ≤ (3 : Int32))) => absurd (by decide) c)
        refine go_ret rfl rfl ?_
        have hms : mfp 3 (I, Q, Z) = (I68, Q68, Z68) := by
          unfold mfp
          rw [← eM6, ← eM68, es71, es73]
        have hC74 : CA w 32 m0 B h58 (I68, Q68, Z68) := ⟨X67, ow7, sb7, hS66, hD63, hB64, hQ65⟩
        rw [hms]
        exact ⟨rfl, hC74⟩
      · skip
        have c72 : (I68 11 2) = 3 := Decidable.not_not.mp c72'
        refine go_s (pc' := 19) rfl rfl rfl rfl ?_
        refine go_sget (pc' := 20) (v := .ref 61) hS66 rfl rfl rfl (by decide) rfl rfl ?_
        refine go_s (pc' := 21) rfl rfl rfl rfl ?_
        refine go_sald (pc' := 22) (q := 2) (v := .ref 60) hS66 rfl rfl rfl rfl (by decide) rfl rfl ?_
        refine go_callV (pc' := 23) rfl rfl rfl (Nat.le_of_ble_eq_true rfl) rfl (sm_o hS66 rfl) rfl rfl rfl (ct_stopP_2 hS66 hW (by omega)) (fun r h75 q76 => ?_)
        obtain ⟨rfl, hS77, hE78⟩ := q76
        have hF79 := fr_trans hF69 (fr_e hE78)
        have hst : mstp 2 3 (I68, Q68, Z68) = (mstI 2 I68, (I68, Q68, Z68).2) := if_pos c72
        have hD80 : CD w 32 m0 h75 (mstp 2 3 (I68, Q68, Z68)).1 (mstp 2 3 (I68, Q68, Z68)).2.1 (mstp 2 3 (I68, Q68, Z68)).2.2 (X67) ow7 sb7 := by rw [hst]; exact CD_I (J := mstI 2 I68) (CD_fr hD63 hF79) ⟨rfl, rfl, rfl, rfl, rfl, rfl, rfl, rfl, rfl, rfl, rfl, rfl, rfl, rfl, rfl⟩
        have hS83 : sm tbc h75 (mstp 2 3 (I68, Q68, Z68)).1 (X67) := by rw [hst]; exact hS77
        have hB81 : co h75 (mstp 2 3 (I68, Q68, Z68)).1 ≤ B := by
          have z1 := co_fr (I := I68) (J := (mstp 2 3 (I68, Q68, Z68)).1) hF79 (by rw [hst]; rfl)
          have z2 := hB64
          omega
        have hQ82 : ∀ l, l < 16 → ((mstp 2 3 (I68, Q68, Z68)).2.1 l).length ≤ List.length h75 := by rw [hst]; exact fun l hl => Nat.le_trans (hQ65 l hl) hF79.1
        obtain ⟨X84, eX84⟩ : ∃ y, y = (X67) := ⟨_, rfl⟩
        rw [← eX84] at hD80 hS83
        obtain ⟨M85, eM85⟩ : ∃ y : mM, y = (mstp 2 3 (I68, Q68, Z68)) := ⟨_, rfl⟩
        rw [← eM85] at hD80 hS83 hB81 hQ82
        obtain ⟨I85, Q85, Z85⟩ := M85
        change CD w 32 m0 h75 I85 Q85 Z85 X84 ow7 sb7 at hD80
        change sm tbc h75 I85 X84 at hS83
        change co h75 I85 ≤ B at hB81
        change ∀ l, l < 16 → (Q85 l).length ≤ List.length h75 at hQ82
        have hW := hD80.1.1
        have hWn : ∀ a, List.length h75 ≤ a → w a = true := fun a ha => (hD80.1.2.1 a ha).1
        have hF86 := fr_refl tbc h75
        have hln : 62 ≤ List.length h75 := sm_len hS83
        refine go_s (pc' := 24) (lo' := [some (.ref 1), some (.int 3), some (.int 3)]) rfl rfl rfl rfl ?_
        refine go_s (pc' := 6) rfl rfl rfl rfl ?_
        refine go_s (pc' := 7) rfl rfl rfl rfl ?_
        refine go_s (pc' := 8) rfl rfl rfl rfl ?_
        refine go_sget (pc' := 9) (v := .ref 61) hS83 rfl rfl rfl (by decide) rfl rfl ?_
        refine go_salen (pc' := 10) (n := 3) hS83 rfl rfl rfl rfl ?_
        refine go_icmpP (t' := 25) (pc' := 11) rfl rfl rfl (fun _ => ?_) (fun (c : ¬ (3 ≤ (3 : Int32))) => absurd (by decide) c)
        refine go_ret rfl rfl ?_
        have hms : mfp 3 (I, Q, Z) = (I85, Q85, Z85) := by
          unfold mfp
          rw [← eM6, ← eM68, es71, ← eM85]
        have hC87 : CA w 32 m0 B h75 (I85, Q85, Z85) := ⟨X84, ow7, sb7, hS83, hD80, hB81, hQ82⟩
        rw [hms]
        exact ⟨rfl, hC87⟩
    · skip
      have c70 : (I68 11 1) = 3 := Decidable.not_not.mp c70'
      refine go_s (pc' := 19) rfl rfl rfl rfl ?_
      refine go_sget (pc' := 20) (v := .ref 61) hS66 rfl rfl rfl (by decide) rfl rfl ?_
      refine go_s (pc' := 21) rfl rfl rfl rfl ?_
      refine go_sald (pc' := 22) (q := 1) (v := .ref 59) hS66 rfl rfl rfl rfl (by decide) rfl rfl ?_
      refine go_callV (pc' := 23) rfl rfl rfl (Nat.le_of_ble_eq_true rfl) rfl (sm_o hS66 rfl) rfl rfl rfl (ct_stopP_1 hS66 hW (by omega)) (fun r h88 q89 => ?_)
      obtain ⟨rfl, hS90, hE91⟩ := q89
      have hF92 := fr_trans hF69 (fr_e hE91)
      have hst : mstp 1 3 (I68, Q68, Z68) = (mstI 1 I68, (I68, Q68, Z68).2) := if_pos c70
      have hD93 : CD w 32 m0 h88 (mstp 1 3 (I68, Q68, Z68)).1 (mstp 1 3 (I68, Q68, Z68)).2.1 (mstp 1 3 (I68, Q68, Z68)).2.2 (X67) ow7 sb7 := by rw [hst]; exact CD_I (J := mstI 1 I68) (CD_fr hD63 hF92) ⟨rfl, rfl, rfl, rfl, rfl, rfl, rfl, rfl, rfl, rfl, rfl, rfl, rfl, rfl, rfl⟩
      have hS96 : sm tbc h88 (mstp 1 3 (I68, Q68, Z68)).1 (X67) := by rw [hst]; exact hS90
      have hB94 : co h88 (mstp 1 3 (I68, Q68, Z68)).1 ≤ B := by
        have z1 := co_fr (I := I68) (J := (mstp 1 3 (I68, Q68, Z68)).1) hF92 (by rw [hst]; rfl)
        have z2 := hB64
        omega
      have hQ95 : ∀ l, l < 16 → ((mstp 1 3 (I68, Q68, Z68)).2.1 l).length ≤ List.length h88 := by rw [hst]; exact fun l hl => Nat.le_trans (hQ65 l hl) hF92.1
      obtain ⟨X97, eX97⟩ : ∃ y, y = (X67) := ⟨_, rfl⟩
      rw [← eX97] at hD93 hS96
      obtain ⟨M98, eM98⟩ : ∃ y : mM, y = (mstp 1 3 (I68, Q68, Z68)) := ⟨_, rfl⟩
      rw [← eM98] at hD93 hS96 hB94 hQ95
      obtain ⟨I98, Q98, Z98⟩ := M98
      change CD w 32 m0 h88 I98 Q98 Z98 X97 ow7 sb7 at hD93
      change sm tbc h88 I98 X97 at hS96
      change co h88 I98 ≤ B at hB94
      change ∀ l, l < 16 → (Q98 l).length ≤ List.length h88 at hQ95
      have hW := hD93.1.1
      have hWn : ∀ a, List.length h88 ≤ a → w a = true := fun a ha => (hD93.1.2.1 a ha).1
      have hF99 := fr_refl tbc h88
      have hln : 62 ≤ List.length h88 := sm_len hS96
      refine go_s (pc' := 24) (lo' := [some (.ref 1), some (.int 3), some (.int 2)]) rfl rfl rfl rfl ?_
      refine go_s (pc' := 6) rfl rfl rfl rfl ?_
      refine go_s (pc' := 7) rfl rfl rfl rfl ?_
      refine go_s (pc' := 8) rfl rfl rfl rfl ?_
      refine go_sget (pc' := 9) (v := .ref 61) hS96 rfl rfl rfl (by decide) rfl rfl ?_
      refine go_salen (pc' := 10) (n := 3) hS96 rfl rfl rfl rfl ?_
      refine go_icmpP (t' := 25) (pc' := 11) rfl rfl rfl (fun (c : 3 ≤ (2 : Int32)) => absurd c (by decide)) (fun _ => ?_)
      refine go_s (pc' := 12) rfl rfl rfl rfl ?_
      refine go_sget (pc' := 13) (v := .ref 61) hS96 rfl rfl rfl (by decide) rfl rfl ?_
      refine go_s (pc' := 14) rfl rfl rfl rfl ?_
      refine go_sald (pc' := 15) (q := 2) (v := .ref 60) hS96 rfl rfl rfl rfl (by decide) rfl rfl ?_
      refine go_sget (pc' := 16) (v := .int (I98 11 2)) hS96 rfl rfl rfl (by decide) rfl rfl ?_
      refine go_s (pc' := 17) rfl rfl rfl rfl ?_
      refine go_icmpP (t' := 23) (pc' := 18) rfl rfl rfl (fun (c100 : ¬ (I98 11 2) = 3) => ?_) (fun (c100' : ¬ ¬ (I98 11 2) = 3) => ?_)
      · skip
        have es101 : mstp 2 3 (I98, Q98, Z98) = (I98, Q98, Z98) := if_neg c100
        refine go_s (pc' := 24) (lo' := [some (.ref 1), some (.int 3), some (.int 3)]) rfl rfl rfl rfl ?_
        refine go_s (pc' := 6) rfl rfl rfl rfl ?_
        refine go_s (pc' := 7) rfl rfl rfl rfl ?_
        refine go_s (pc' := 8) rfl rfl rfl rfl ?_
        refine go_sget (pc' := 9) (v := .ref 61) hS96 rfl rfl rfl (by decide) rfl rfl ?_
        refine go_salen (pc' := 10) (n := 3) hS96 rfl rfl rfl rfl ?_
        refine go_icmpP (t' := 25) (pc' := 11) rfl rfl rfl (fun _ => ?_) (fun (c : ¬ (3 ≤ (3 : Int32))) => absurd (by decide) c)
        refine go_ret rfl rfl ?_
        have hms : mfp 3 (I, Q, Z) = (I98, Q98, Z98) := by
          unfold mfp
          rw [← eM6, ← eM68, ← eM98, es101]
        have hC102 : CA w 32 m0 B h88 (I98, Q98, Z98) := ⟨X97, ow7, sb7, hS96, hD93, hB94, hQ95⟩
        rw [hms]
        exact ⟨rfl, hC102⟩
      · skip
        have c100 : (I98 11 2) = 3 := Decidable.not_not.mp c100'
        refine go_s (pc' := 19) rfl rfl rfl rfl ?_
        refine go_sget (pc' := 20) (v := .ref 61) hS96 rfl rfl rfl (by decide) rfl rfl ?_
        refine go_s (pc' := 21) rfl rfl rfl rfl ?_
        refine go_sald (pc' := 22) (q := 2) (v := .ref 60) hS96 rfl rfl rfl rfl (by decide) rfl rfl ?_
        refine go_callV (pc' := 23) rfl rfl rfl (Nat.le_of_ble_eq_true rfl) rfl (sm_o hS96 rfl) rfl rfl rfl (ct_stopP_2 hS96 hW (by omega)) (fun r h103 q104 => ?_)
        obtain ⟨rfl, hS105, hE106⟩ := q104
        have hF107 := fr_trans hF99 (fr_e hE106)
        have hst : mstp 2 3 (I98, Q98, Z98) = (mstI 2 I98, (I98, Q98, Z98).2) := if_pos c100
        have hD108 : CD w 32 m0 h103 (mstp 2 3 (I98, Q98, Z98)).1 (mstp 2 3 (I98, Q98, Z98)).2.1 (mstp 2 3 (I98, Q98, Z98)).2.2 (X97) ow7 sb7 := by rw [hst]; exact CD_I (J := mstI 2 I98) (CD_fr hD93 hF107) ⟨rfl, rfl, rfl, rfl, rfl, rfl, rfl, rfl, rfl, rfl, rfl, rfl, rfl, rfl, rfl⟩
        have hS111 : sm tbc h103 (mstp 2 3 (I98, Q98, Z98)).1 (X97) := by rw [hst]; exact hS105
        have hB109 : co h103 (mstp 2 3 (I98, Q98, Z98)).1 ≤ B := by
          have z1 := co_fr (I := I98) (J := (mstp 2 3 (I98, Q98, Z98)).1) hF107 (by rw [hst]; rfl)
          have z2 := hB94
          omega
        have hQ110 : ∀ l, l < 16 → ((mstp 2 3 (I98, Q98, Z98)).2.1 l).length ≤ List.length h103 := by rw [hst]; exact fun l hl => Nat.le_trans (hQ95 l hl) hF107.1
        obtain ⟨X112, eX112⟩ : ∃ y, y = (X97) := ⟨_, rfl⟩
        rw [← eX112] at hD108 hS111
        obtain ⟨M113, eM113⟩ : ∃ y : mM, y = (mstp 2 3 (I98, Q98, Z98)) := ⟨_, rfl⟩
        rw [← eM113] at hD108 hS111 hB109 hQ110
        obtain ⟨I113, Q113, Z113⟩ := M113
        change CD w 32 m0 h103 I113 Q113 Z113 X112 ow7 sb7 at hD108
        change sm tbc h103 I113 X112 at hS111
        change co h103 I113 ≤ B at hB109
        change ∀ l, l < 16 → (Q113 l).length ≤ List.length h103 at hQ110
        have hW := hD108.1.1
        have hWn : ∀ a, List.length h103 ≤ a → w a = true := fun a ha => (hD108.1.2.1 a ha).1
        have hF114 := fr_refl tbc h103
        have hln : 62 ≤ List.length h103 := sm_len hS111
        refine go_s (pc' := 24) (lo' := [some (.ref 1), some (.int 3), some (.int 3)]) rfl rfl rfl rfl ?_
        refine go_s (pc' := 6) rfl rfl rfl rfl ?_
        refine go_s (pc' := 7) rfl rfl rfl rfl ?_
        refine go_s (pc' := 8) rfl rfl rfl rfl ?_
        refine go_sget (pc' := 9) (v := .ref 61) hS111 rfl rfl rfl (by decide) rfl rfl ?_
        refine go_salen (pc' := 10) (n := 3) hS111 rfl rfl rfl rfl ?_
        refine go_icmpP (t' := 25) (pc' := 11) rfl rfl rfl (fun _ => ?_) (fun (c : ¬ (3 ≤ (3 : Int32))) => absurd (by decide) c)
        refine go_ret rfl rfl ?_
        have hms : mfp 3 (I, Q, Z) = (I113, Q113, Z113) := by
          unfold mfp
          rw [← eM6, ← eM68, ← eM98, ← eM113]
        have hC115 : CA w 32 m0 B h103 (I113, Q113, Z113) := ⟨X112, ow7, sb7, hS111, hD108, hB109, hQ110⟩
        rw [hms]
        exact ⟨rfl, hC115⟩
theorem lp_bs_0 {w : Nat → Bool} {d : Nat} {m0 : mg} {B : Nat} {I : sm_I} {Q : mQ} {Z : mZ} (hd : 0 ≤ d) : ∀ (k n : Nat) (h : am_Hp) (X : sm_X) (ow : ow_T) (sb : Nat), n + k = 16 → sm tbc h (mbsI I 0 n) X → CD w 32 m0 h (mbsI I 0 n) Q Z X ow sb → co h (mbsI I 0 n) ≤ B → (∀ l, l < 16 → (Q l).length ≤ h.length) → am_Go (am_prog w) d am_c104 none 7 [some (.ref 2), some (.int 0), some (.int (nI n))] [] h (fun r h' => r = none ∧ CA w 32 m0 B h' (mbsI I 0 16, Q, Z)) := by
  intro k
  induction k with
  | zero =>
    intro n h X ow sb hnk hS hD hB hQ
    obtain rfl : n = 16 := by omega
    refine go_s (pc' := 8) rfl rfl rfl rfl ?_
    refine go_s (pc' := 9) rfl rfl rfl rfl ?_
    refine go_sget (pc' := 10) (v := .ref 7) hS rfl rfl rfl (by decide) rfl rfl ?_
    refine go_salen (pc' := 11) (n := 16) hS rfl rfl rfl rfl ?_
    refine go_icmpP (t' := 27) (pc' := 12) rfl rfl rfl (fun _ => ?_) (fun (c : ¬ (16 ≤ (nI 16))) => absurd (by decide) c)
    refine go_ret rfl rfl ?_
    exact ⟨rfl, X, ow, sb, hS, hD, hB, hQ⟩
  | succ k ih =>
    intro n h X ow sb hnk hS hD hB hQ
    have hW := hD.1.1
    have hWn : ∀ a, List.length h ≤ a → w a = true := fun a ha => (hD.1.2.1 a ha).1
    have hF1 := fr_refl tbc h
    have hln : 62 ≤ List.length h := sm_len hS
    have hn16 : n < 16 := by omega
    have h203 : X 203 n = .int (I 24 n) := by
      have z := ((hD.2.2.1 n hn16).2.2 (by omega) (by omega)).1
      rw [z]
      simp [mbsI, uI]
    refine go_s (pc' := 8) rfl rfl rfl rfl ?_
    refine go_s (pc' := 9) rfl rfl rfl rfl ?_
    refine go_sget (pc' := 10) (v := .ref 7) hS rfl rfl rfl (by decide) rfl rfl ?_
    refine go_salen (pc' := 11) (n := 16) hS rfl rfl rfl rfl ?_
    refine go_icmpP (t' := 27) (pc' := 12) rfl rfl rfl (fun (c : 16 ≤ (nI n)) => absurd c (nI_ge (b := 16) hn16 (by decide))) (fun _ => ?_)
    refine go_s (pc' := 13) rfl rfl rfl rfl ?_
    refine go_sget (pc' := 14) (v := .ref 7) hS rfl rfl rfl (by decide) rfl rfl ?_
    refine go_s (pc' := 15) rfl rfl rfl rfl ?_
    refine go_sald (pc' := 16) (q := n) (v := .ref (8 + n)) hS rfl (tc_ln (by omega)) rfl rfl (by omega) rfl rfl ?_
    refine go_sget (pc' := 17) (v := .int (I 24 n)) hS rfl rfl (tc_l5 hn16) (by decide) h203 rfl ?_
    refine go_s (pc' := 18) rfl rfl rfl rfl ?_
    refine go_icmpP (t' := 25) (pc' := 19) rfl rfl rfl (fun (c2 : ¬ (I 24 n) = 0) => ?_) (fun (c2' : ¬ ¬ (I 24 n) = 0) => ?_)
    · skip
      refine go_ninc (pc' := 26) (a := n) (n := 1) (lo' := [some (.ref 2), some (.int 0), some (.int (nI (n + 1)))]) rfl rfl rfl rfl rfl rfl ?_
      refine go_s (pc' := 7) rfl rfl rfl rfl ?_
      have hI : mbsI I 0 (n + 1) = (mbsI I 0 n) := by
        funext c j
        simp only [mbsI, uI]
        by_cases e : c = 24
        · subst e
          by_cases ej : j = n
          · subst ej
            simp [show ¬ I 24 j = nI 0 from c2]
          · have z : (j < n + 1 ↔ j < n) := by omega
            simp [ej, z]
        · simp [e]
      exact ih (n + 1) _ X ow sb (by omega) (by rw [hI]; exact hS) (by rw [hI]; exact hD) (by rw [hI]; exact hB) hQ
    · skip
      have c2 : (I 24 n) = 0 := Decidable.not_not.mp c2'
      refine go_s (pc' := 20) rfl rfl rfl rfl ?_
      refine go_sget (pc' := 21) (v := .ref 7) hS rfl rfl rfl (by decide) rfl rfl ?_
      refine go_s (pc' := 22) rfl rfl rfl rfl ?_
      refine go_sald (pc' := 23) (q := n) (v := .ref (8 + n)) hS rfl (tc_ln (by omega)) rfl rfl (by omega) rfl rfl ?_
      refine go_s (pc' := 24) (st' := [.int (-1), .ref (8 + n)]) rfl rfl rfl rfl ?_
      refine go_sputX (pc' := 25) hS rfl rfl (tc_l5 hn16) (by decide) tbc_inj (Nat.le_of_ble_eq_true rfl) (Nat.le_of_ble_eq_true rfl) rfl (hW _ (by rw [tc_lk hn16]; rfl)) rfl (fun h3 hS4 hE5 => ?_)
      have hF6 := fr_trans hF1 (fr_e hE5)
      refine go_ninc (pc' := 26) (a := n) (n := 1) (lo' := [some (.ref 2), some (.int 0), some (.int (nI (n + 1)))]) rfl rfl rfl rfl rfl rfl ?_
      refine go_s (pc' := 7) rfl rfl rfl rfl ?_
      have hI : mbsI I 0 (n + 1) = (uI (mbsI I 0 n) 24 n (-1)) := by
        funext c j
        simp only [mbsI, uI]
        by_cases e : c = 24
        · subst e
          by_cases ej : j = n
          · subst ej
            simp [show I 24 j = nI 0 from c2]
          · have z : (j < n + 1 ↔ j < n) := by omega
            simp [ej, z]
        · simp [e]
      exact ih (n + 1) _ ((uX X 203 n (.int (-1)))) ow sb (by omega) (by rw [hI]; exact sm_12 hS4 rfl) (by rw [hI]; exact CD_ls (CD_fr hD hF6)) (by rw [hI]; have z := co_fr (I := mbsI I 0 n) (J := uI (mbsI I 0 n) 24 n (-1)) hF6 rfl; omega) (fun l hl => Nat.le_trans (hQ l hl) hF6.1)
theorem cm_bs_0 {w : Nat → Bool} {d : Nat} {h : am_Hp} {m0 : mg} {B : Nat} {I : sm_I} {Q : mQ} {Z : mZ} (hC : CA w 32 m0 B h (I, Q, Z)) (hB2 : B < 2 ^ 26) (hd : 1 ≤ d) : am_Ev (am_prog w) d 104 [.ref 2, .int 0] h (fun r h' => r = none ∧ CA w 32 m0 B h' (mbsI I 0 16, Q, Z)) := by
  obtain ⟨X, ow, sb, hS, hD, hB, hQ⟩ := hC
  change sm tbc h I X at hS
  change CD w 32 m0 h I Q Z X ow sb at hD
  change co h I ≤ B at hB
  change ∀ l, l < 16 → (Q l).length ≤ h.length at hQ
  have hW := hD.1.1
  have hWn : ∀ a, List.length h ≤ a → w a = true := fun a ha => (hD.1.2.1 a ha).1
  have hF1 := fr_refl tbc h
  have hln : 62 ≤ List.length h := sm_len hS
  obtain ⟨d, rfl⟩ : ∃ e, d = e + 1 := ⟨d - 1, by omega⟩
  refine ev_go rfl (Nat.le_of_ble_eq_true rfl) rfl ?_
  refine go_s (pc' := 1) rfl rfl rfl rfl ?_
  refine go_sget (pc' := 2) (v := .ref 6) hS rfl rfl rfl (by decide) rfl rfl ?_
  refine go_s (pc' := 3) rfl rfl rfl rfl ?_
  refine go_s (pc' := 4) (st' := [.int 0, .int 0, .ref 6]) rfl rfl rfl rfl ?_
  refine go_szast (pc' := 5) (q := 0) hS rfl rfl tbc_inj (Nat.le_of_ble_eq_true rfl) rfl (by decide) (by decide) rfl (hW _ rfl) rfl (fun h2 hS3 hE4 => ?_)
  have hF5 := fr_trans hF1 (fr_e hE4)
  refine go_s (pc' := 6) (st' := [.int 0]) rfl rfl rfl rfl ?_
  refine go_s (pc' := 7) (lo' := [some (.ref 2), some (.int 0), some (.int 0)]) rfl rfl rfl rfl ?_
  have hI : mbsI I 0 0 = uI I 3 0 0 := by
    funext c j
    simp [mbsI]
  have hD8 : CD w 32 m0 h2 (mbsI I 0 0) Q Z X ow sb := CD_bs (CD_fr hD hF5) (fun c j _ => rfl) (fun j hj => by rw [hI]; exact ((hD.2.2.1 j hj).2.2 (by omega) (by omega)).1)
  exact lp_bs_0 (Nat.zero_le _) 16 0 _ X ow sb rfl (by rw [hI]; exact hS3) hD8 (by rw [hI]; have z := co_fr (I := I) (J := uI I 3 0 0) hF5 rfl; omega) (fun l hl => Nat.le_trans (hQ l hl) hF5.1)
theorem lp_bs_1 {w : Nat → Bool} {d : Nat} {m0 : mg} {B : Nat} {I : sm_I} {Q : mQ} {Z : mZ} (hd : 0 ≤ d) : ∀ (k n : Nat) (h : am_Hp) (X : sm_X) (ow : ow_T) (sb : Nat), n + k = 16 → sm tbc h (mbsI I 1 n) X → CD w 32 m0 h (mbsI I 1 n) Q Z X ow sb → co h (mbsI I 1 n) ≤ B → (∀ l, l < 16 → (Q l).length ≤ h.length) → am_Go (am_prog w) d am_c104 none 7 [some (.ref 2), some (.int 1), some (.int (nI n))] [] h (fun r h' => r = none ∧ CA w 32 m0 B h' (mbsI I 1 16, Q, Z)) := by
  intro k
  induction k with
  | zero =>
    intro n h X ow sb hnk hS hD hB hQ
    obtain rfl : n = 16 := by omega
    refine go_s (pc' := 8) rfl rfl rfl rfl ?_
    refine go_s (pc' := 9) rfl rfl rfl rfl ?_
    refine go_sget (pc' := 10) (v := .ref 7) hS rfl rfl rfl (by decide) rfl rfl ?_
    refine go_salen (pc' := 11) (n := 16) hS rfl rfl rfl rfl ?_
    refine go_icmpP (t' := 27) (pc' := 12) rfl rfl rfl (fun _ => ?_) (fun (c : ¬ (16 ≤ (nI 16))) => absurd (by decide) c)
    refine go_ret rfl rfl ?_
    exact ⟨rfl, X, ow, sb, hS, hD, hB, hQ⟩
  | succ k ih =>
    intro n h X ow sb hnk hS hD hB hQ
    have hW := hD.1.1
    have hWn : ∀ a, List.length h ≤ a → w a = true := fun a ha => (hD.1.2.1 a ha).1
    have hF1 := fr_refl tbc h
    have hln : 62 ≤ List.length h := sm_len hS
    have hn16 : n < 16 := by omega
    have h203 : X 203 n = .int (I 24 n) := by
      have z := ((hD.2.2.1 n hn16).2.2 (by omega) (by omega)).1
      rw [z]
      simp [mbsI, uI]
    refine go_s (pc' := 8) rfl rfl rfl rfl ?_
    refine go_s (pc' := 9) rfl rfl rfl rfl ?_
    refine go_sget (pc' := 10) (v := .ref 7) hS rfl rfl rfl (by decide) rfl rfl ?_
    refine go_salen (pc' := 11) (n := 16) hS rfl rfl rfl rfl ?_
    refine go_icmpP (t' := 27) (pc' := 12) rfl rfl rfl (fun (c : 16 ≤ (nI n)) => absurd c (nI_ge (b := 16) hn16 (by decide))) (fun _ => ?_)
    refine go_s (pc' := 13) rfl rfl rfl rfl ?_
    refine go_sget (pc' := 14) (v := .ref 7) hS rfl rfl rfl (by decide) rfl rfl ?_
    refine go_s (pc' := 15) rfl rfl rfl rfl ?_
    refine go_sald (pc' := 16) (q := n) (v := .ref (8 + n)) hS rfl (tc_ln (by omega)) rfl rfl (by omega) rfl rfl ?_
    refine go_sget (pc' := 17) (v := .int (I 24 n)) hS rfl rfl (tc_l5 hn16) (by decide) h203 rfl ?_
    refine go_s (pc' := 18) rfl rfl rfl rfl ?_
    refine go_icmpP (t' := 25) (pc' := 19) rfl rfl rfl (fun (c2 : ¬ (I 24 n) = 1) => ?_) (fun (c2' : ¬ ¬ (I 24 n) = 1) => ?_)
    · skip
      refine go_ninc (pc' := 26) (a := n) (n := 1) (lo' := [some (.ref 2), some (.int 1), some (.int (nI (n + 1)))]) rfl rfl rfl rfl rfl rfl ?_
      refine go_s (pc' := 7) rfl rfl rfl rfl ?_
      have hI : mbsI I 1 (n + 1) = (mbsI I 1 n) := by
        funext c j
        simp only [mbsI, uI]
        by_cases e : c = 24
        · subst e
          by_cases ej : j = n
          · subst ej
            simp [show ¬ I 24 j = nI 1 from c2]
          · have z : (j < n + 1 ↔ j < n) := by omega
            simp [ej, z]
        · simp [e]
      exact ih (n + 1) _ X ow sb (by omega) (by rw [hI]; exact hS) (by rw [hI]; exact hD) (by rw [hI]; exact hB) hQ
    · skip
      have c2 : (I 24 n) = 1 := Decidable.not_not.mp c2'
      refine go_s (pc' := 20) rfl rfl rfl rfl ?_
      refine go_sget (pc' := 21) (v := .ref 7) hS rfl rfl rfl (by decide) rfl rfl ?_
      refine go_s (pc' := 22) rfl rfl rfl rfl ?_
      refine go_sald (pc' := 23) (q := n) (v := .ref (8 + n)) hS rfl (tc_ln (by omega)) rfl rfl (by omega) rfl rfl ?_
      refine go_s (pc' := 24) (st' := [.int (-1), .ref (8 + n)]) rfl rfl rfl rfl ?_
      refine go_sputX (pc' := 25) hS rfl rfl (tc_l5 hn16) (by decide) tbc_inj (Nat.le_of_ble_eq_true rfl) (Nat.le_of_ble_eq_true rfl) rfl (hW _ (by rw [tc_lk hn16]; rfl)) rfl (fun h3 hS4 hE5 => ?_)
      have hF6 := fr_trans hF1 (fr_e hE5)
      refine go_ninc (pc' := 26) (a := n) (n := 1) (lo' := [some (.ref 2), some (.int 1), some (.int (nI (n + 1)))]) rfl rfl rfl rfl rfl rfl ?_
      refine go_s (pc' := 7) rfl rfl rfl rfl ?_
      have hI : mbsI I 1 (n + 1) = (uI (mbsI I 1 n) 24 n (-1)) := by
        funext c j
        simp only [mbsI, uI]
        by_cases e : c = 24
        · subst e
          by_cases ej : j = n
          · subst ej
            simp [show I 24 j = nI 1 from c2]
          · have z : (j < n + 1 ↔ j < n) := by omega
            simp [ej, z]
        · simp [e]
      exact ih (n + 1) _ ((uX X 203 n (.int (-1)))) ow sb (by omega) (by rw [hI]; exact sm_12 hS4 rfl) (by rw [hI]; exact CD_ls (CD_fr hD hF6)) (by rw [hI]; have z := co_fr (I := mbsI I 1 n) (J := uI (mbsI I 1 n) 24 n (-1)) hF6 rfl; omega) (fun l hl => Nat.le_trans (hQ l hl) hF6.1)
theorem cm_bs_1 {w : Nat → Bool} {d : Nat} {h : am_Hp} {m0 : mg} {B : Nat} {I : sm_I} {Q : mQ} {Z : mZ} (hC : CA w 32 m0 B h (I, Q, Z)) (hB2 : B < 2 ^ 26) (hd : 1 ≤ d) : am_Ev (am_prog w) d 104 [.ref 2, .int 1] h (fun r h' => r = none ∧ CA w 32 m0 B h' (mbsI I 1 16, Q, Z)) := by
  obtain ⟨X, ow, sb, hS, hD, hB, hQ⟩ := hC
  change sm tbc h I X at hS
  change CD w 32 m0 h I Q Z X ow sb at hD
  change co h I ≤ B at hB
  change ∀ l, l < 16 → (Q l).length ≤ h.length at hQ
  have hW := hD.1.1
  have hWn : ∀ a, List.length h ≤ a → w a = true := fun a ha => (hD.1.2.1 a ha).1
  have hF1 := fr_refl tbc h
  have hln : 62 ≤ List.length h := sm_len hS
  obtain ⟨d, rfl⟩ : ∃ e, d = e + 1 := ⟨d - 1, by omega⟩
  refine ev_go rfl (Nat.le_of_ble_eq_true rfl) rfl ?_
  refine go_s (pc' := 1) rfl rfl rfl rfl ?_
  refine go_sget (pc' := 2) (v := .ref 6) hS rfl rfl rfl (by decide) rfl rfl ?_
  refine go_s (pc' := 3) rfl rfl rfl rfl ?_
  refine go_s (pc' := 4) (st' := [.int 0, .int 1, .ref 6]) rfl rfl rfl rfl ?_
  refine go_szast (pc' := 5) (q := 1) hS rfl rfl tbc_inj (Nat.le_of_ble_eq_true rfl) rfl (by decide) (by decide) rfl (hW _ rfl) rfl (fun h2 hS3 hE4 => ?_)
  have hF5 := fr_trans hF1 (fr_e hE4)
  refine go_s (pc' := 6) (st' := [.int 0]) rfl rfl rfl rfl ?_
  refine go_s (pc' := 7) (lo' := [some (.ref 2), some (.int 1), some (.int 0)]) rfl rfl rfl rfl ?_
  have hI : mbsI I 1 0 = uI I 3 1 0 := by
    funext c j
    simp [mbsI]
  have hD8 : CD w 32 m0 h2 (mbsI I 1 0) Q Z X ow sb := CD_bs (CD_fr hD hF5) (fun c j _ => rfl) (fun j hj => by rw [hI]; exact ((hD.2.2.1 j hj).2.2 (by omega) (by omega)).1)
  exact lp_bs_1 (Nat.zero_le _) 16 0 _ X ow sb rfl (by rw [hI]; exact hS3) hD8 (by rw [hI]; have z := co_fr (I := I) (J := uI I 3 1 0) hF5 rfl; omega) (fun l hl => Nat.le_trans (hQ l hl) hF5.1)
