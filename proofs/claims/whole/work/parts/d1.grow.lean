/-! the messages' array grows: a second array, component 56, beside the table -/
def tbx (am lm L n : Nat) : sm_T := fun a => if a = L then some (.inr .int, (List.range n).map (fun j => (56, j))) else tbr am lm 77 5088 a
theorem tx_L {am lm L n q : Nat} (hq : q < n) : sm_s (tbx am lm L n) L q = some (.inr .int, (56, q)) := by
  unfold sm_s tbx
  rw [if_pos rfl]
  simp only []
  rw [rg_el hq]
theorem tx_t {am lm L n a : Nat} {x : Option ((Nat ⊕ FieldType) × List (Nat × Nat))} (ha : a ≠ L) (h : tbr am lm 77 5088 a = x) : tbx am lm L n a = x := by
  unfold tbx
  rw [if_neg ha]
  exact h
theorem tx_o {am lm L n a k : Nat} {x : Option ((Nat ⊕ FieldType) × Nat × Nat)} (ha : a ≠ L) (h : sm_s (tbr am lm 77 5088) a k = x) : sm_s (tbx am lm L n) a k = x := by
  unfold sm_s at h ⊢
  rw [tx_t ha rfl]
  exact h
theorem tbx_inj {am lm L n : Nat} (hr : rk am 77) (hL : 89 ≤ L) : sm_inj (tbx am lm L n) := by
  intro a a' i i' hd hd' d h1 h2 h3
  have key : ∀ a i hd d, sm_s (tbx am lm L n) a i = some (hd, d) → a = L → d = (56, i) := by
    intro a i hd d h e
    subst e
    unfold sm_s tbx at h
    rw [if_pos rfl] at h
    simp only [] at h
    split at h
    · rename_i d' hi
      simp at h
      obtain ⟨-, rfl⟩ := h
      exact rg_map hi
    · cases h
  have key2 : ∀ a i hd d, sm_s (tbx am lm L n) a i = some (hd, d) → a ≠ L → sm_s (tbr am lm 77 5088) a i = some (hd, d) := by
    intro a i hd d h e
    rw [← h]
    exact (tx_o e rfl).symm
  have no56 : ∀ a i hd q, ¬ sm_s (tbr am lm 77 5088) a i = some (hd, (56, q)) := by
    intro a i hd q h
    have hk := tr_key h (by show 56 < 1000; omega)
    have hk0 : (0, q) = (a, i) := hk
    have h00 : a = 0 := (congrArg Prod.fst hk0).symm
    subst h00
    obtain ⟨r1, r2⟩ := rk_0 hr
    have hn : tbr am lm 77 5088 0 = none := by
      unfold tbr
      rw [if_neg (by omega), if_neg (by omega), if_neg (by omega)]
      rfl
    unfold sm_s at h
    rw [hn] at h
    cases h
  by_cases e1 : a = L <;> by_cases e2 : a' = L
  · have k1 := key a i hd d h1 e1
    have k2 := key a' i' hd' d h2 e2
    rw [k1] at k2
    simp at k2
    exact ⟨e1.trans e2.symm, k2⟩
  · have k1 := key a i hd d h1 e1
    subst k1
    exact absurd (key2 a' i' hd' _ h2 e2) (no56 _ _ _ _)
  · have k2 := key a' i' hd' d h2 e2
    subst k2
    exact absurd (key2 a i hd _ h1 e1) (no56 _ _ _ _)
  · exact tbr_inj a a' i i' hd hd' d (key2 a i hd d h1 e1) (key2 a' i' hd' d h2 e2) h3
theorem lp_gr {w : Nat → Bool} {d : Nat} {I K0 : sm_I} {Y : sm_X} {am ln L : Nat} {P : Option Value → am_Hp → Prop} (hr : rk am 77) (hln : ln < 2 ^ 20) (hL : 89 ≤ L) (hLa : L ≠ am) (hWL : w L = true) : ∀ (k n : Nat) (h : am_Hp) (K : sm_I), n + k = 13 * ln → sm (tbx am (13 * ln) L (26 * ln)) h (jn I K) Y → (∀ j, K 56 j = if j < n then K 50 j else 0) → (∀ c j, c ≠ 56 → K c j = K0 c j) → (∀ h' K', sm (tbx am (13 * ln) L (26 * ln)) h' (jn I K') Y → sm_e (tbx am (13 * ln) L (26 * ln)) h h' → (∀ j, K' 56 j = if j < 13 * ln then K' 50 j else 0) → (∀ c j, c ≠ 56 → K' c j = K0 c j) → am_Go (am_prog w) d am_c131 (some .int) 48 [some (.ref 62), some (.ref L), some (.int (nI (13 * ln)))] [] h' P) → am_Go (am_prog w) d am_c131 (some .int) 34 [some (.ref 62), some (.ref L), some (.int (nI n))] [] h P := by
  intro k
  induction k with
  | zero =>
    intro n h K hnk hS hg ho C
    obtain rfl : n = 13 * ln := by omega
    refine go_s (pc' := 35) rfl rfl rfl rfl ?_
    refine go_s (pc' := 36) rfl rfl rfl rfl ?_
    refine go_sget (pc' := 37) (v := .ref am) hS rfl rfl (tx_o (by omega) rfl) (by decide) rfl rfl ?_
    refine go_salen (pc' := 38) (n := 13 * ln) hS rfl (tx_t (by omega) (tr_m hr)) (by simp) rfl ?_
    refine go_icmpP (t' := 48) (pc' := 39) rfl rfl rfl (fun _ => ?_) (fun (c : ¬ ((nI (13 * ln)) ≤ (nI (13 * ln)))) => absurd (Int32.le_refl _) c)
    exact C h K hS (sm_e_refl _ _) hg ho
  | succ k ih =>
    intro n h K hnk hS hg ho C
    refine go_s (pc' := 35) rfl rfl rfl rfl ?_
    refine go_s (pc' := 36) rfl rfl rfl rfl ?_
    refine go_sget (pc' := 37) (v := .ref am) hS rfl rfl (tx_o (by omega) rfl) (by decide) rfl rfl ?_
    refine go_salen (pc' := 38) (n := 13 * ln) hS rfl (tx_t (by omega) (tr_m hr)) (by simp) rfl ?_
    refine go_icmpP (t' := 48) (pc' := 39) rfl rfl rfl (fun (c : (nI (13 * ln)) ≤ (nI n)) => absurd c (nI_ge (b := 13 * ln) (by omega) (by omega))) (fun _ => ?_)
    refine go_s (pc' := 40) rfl rfl rfl rfl ?_
    refine go_s (pc' := 41) rfl rfl rfl rfl ?_
    refine go_s (pc' := 42) rfl rfl rfl rfl ?_
    refine go_sget (pc' := 43) (v := .ref am) hS rfl rfl (tx_o (by omega) rfl) (by decide) rfl rfl ?_
    refine go_s (pc' := 44) rfl rfl rfl rfl ?_
    refine go_sald (pc' := 45) (q := n) (v := .int (K 50 n)) hS rfl (tx_o (by omega) (tr_ms hr (by omega))) rfl rfl (by omega) rfl rfl ?_
    refine go_siast (pc' := 46) (q := n) hS rfl (tx_L (by omega)) (tbx_inj hr hL) (Nat.le_of_ble_eq_true rfl) rfl (by omega) (by omega) hWL rfl (fun h1 hS2 hE3 => ?_)
    refine go_ninc (pc' := 47) (a := n) (n := 1) (lo' := [some (.ref 62), some (.ref L), some (.int (nI (n + 1)))]) rfl rfl rfl rfl rfl rfl ?_
    refine go_s (pc' := 34) rfl rfl rfl rfl ?_
    change sm (tbx am (13 * ln) L (26 * ln)) _ (uI (jn I K) 56 n (K 50 n)) Y at hS2
    rw [jn_hi (c := 56) (by decide)] at hS2
    refine ih (n + 1) _ _ (by omega) hS2 (fun j => ?_) (fun c j hc => (uI_c hc).trans (ho c j hc)) (fun h9 K9 s1 s2 s3 s4 => C h9 K9 s1 (sm_e_trans hE3 s2) s3 s4)
    by_cases e : j = n
    · subst e
      rw [uI_s, uI_c (by decide), if_pos (by omega)]
    · rw [uI_j e, uI_c (by decide), hg j]
      by_cases e2 : j < n
      · rw [if_pos e2, if_pos (by omega)]
      · rw [if_neg e2, if_neg (by omega)]
theorem rx_nm_t {w : Nat → Bool} {d : Nat} {h : am_Hp} {I K : sm_I} {Y : sm_X} {am ln L n9 : Nat} {P : Option Value → am_Hp → Prop} (hr : rk am 77) (hS : sm (tbr am (13 * ln) 77 5088) h (jn I K) Y) (hln : ln < 2 ^ 20) (hW : ∀ a, 62 ≤ a → a ≤ 88 → w a = true) {rm : Nat} (hx : rm < ln) (e0 : K 52 0 = nI rm) (C : ∀ h' {r}, r = some (.int (nI (13 * rm))) → sm (tbr am (13 * ln) 77 5088) h' (jn I (uI K 52 0 (nI (rm + 1)))) Y → sm_e (tbr am (13 * ln) 77 5088) h h' → P r h') : am_Go (am_prog w) d am_c131 (some .int) 51 [some (.ref 62), some (.ref L), some (.int (nI n9))] [] h P := by
  refine go_s (pc' := 52) rfl rfl rfl rfl ?_
  refine go_s (pc' := 53) rfl rfl rfl rfl ?_
  refine go_sget (pc' := 54) (v := .int (nI rm)) hS rfl rfl rfl (by decide) (congrArg Value.int e0) rfl ?_
  refine go_s (pc' := 55) (st' := [.int 1, .int (nI rm), .ref 62]) rfl rfl rfl rfl ?_
  refine go_nadd (pc' := 56) (a := rm) (b := 1) rfl rfl rfl rfl rfl ?_
  refine go_sput (pc' := 57) hS rfl rfl rfl (by decide) tbr_inj (Nat.le_of_ble_eq_true rfl) rfl (hW _ (by decide) (by decide)) rfl (fun h1 hS2 hE3 => ?_)
  refine go_s (pc' := 58) (st' := [.int 13]) rfl rfl rfl rfl ?_
  refine go_s (pc' := 59) rfl rfl rfl rfl ?_
  refine go_sget (pc' := 60) (v := .int (nI (rm + 1))) hS2 rfl rfl rfl (by decide) rfl rfl ?_
  refine go_s (pc' := 61) (st' := [.int 1, .int (nI (rm + 1)), .int 13]) rfl rfl rfl rfl ?_
  refine go_nsub (pc' := 62) (a := (rm + 1)) (b := 1) rfl rfl rfl (by omega) rfl rfl ?_
  refine go_nmul (pc' := 63) (a := 13) (b := ((rm + 1) - 1)) rfl rfl rfl rfl rfl ?_
  refine go_ret rfl rfl ?_
  change sm (tbr am (13 * ln) 77 5088) _ (uI (jn I K) 52 0 (nI (rm + 1))) Y at hS2
  rw [jn_hi (c := 52) (by decide)] at hS2
  exact C _ (by rw [show 13 * (rm + 1 - 1) = 13 * rm by omega]) hS2 hE3
theorem sm_gr {am ln L : Nat} {h h2 : am_Hp} {I K : sm_I} {Y : sm_X} (hr : rk am 77) (hL : 89 ≤ L) (hLa : L ≠ am) (hS : sm (tbx am (13 * ln) L (26 * ln)) h (jn I K) Y) (hg : ∀ j, K 56 j = if j < 13 * ln then K 50 j else 0)
    (h62 : h2[62]? = some (.inl (11, ((tbrO am 77).map (sm_v (jn I K) Y)).set 9 (.ref L)))) (hp : pq 62 h h2) : sm (tbr L (13 * (2 * ln)) 77 5088) h2 (jn I (fun c j => if c = 50 ∧ 13 * ln ≤ j then 0 else K c j)) Y := by
  obtain ⟨r1, r2, r3⟩ := id hr
  have hr2 : rk L 77 := ⟨by omega, Or.inr hL, r3⟩
  have ev : ∀ p : Nat × Nat, p.1 ≠ 50 → sm_v (jn I (fun c j => if c = 50 ∧ 13 * ln ≤ j then 0 else K c j)) Y p = sm_v (jn I K) Y p := by
    intro p hp
    have : ∀ j, jn I (fun c j => if c = 50 ∧ 13 * ln ≤ j then 0 else K c j) p.1 j = jn I K p.1 j := fun j => by
      unfold jn
      simp only [hp, false_and, if_false]
    unfold sm_v
    rw [this]
  intro a hd ds hb
  by_cases e1 : a = 62
  · subst e1
    have e2 : tbr L (13 * (2 * ln)) 77 5088 62 = some (.inl 11, tbrO L 77) := rfl
    rw [e2] at hb
    cases hb
    rw [h62]
    congr 2
  · rw [hp.2.2 a e1]
    by_cases e2 : a = L
    · subst e2
      rw [tr_m hr2] at hb
      cases hb
      rw [hS a _ _ (show tbx am (13 * ln) a (26 * ln) a = some (.inr .int, (List.range (26 * ln)).map (fun j => (56, j))) from if_pos rfl)]
      congr 2
      rw [List.map_map, List.map_map, show 13 * (2 * ln) = 26 * ln by omega]
      apply List.map_congr_left
      intro j _
      show Value.int (K 56 j) = Value.int (if (50 : Nat) = 50 ∧ 13 * ln ≤ j then 0 else K 50 j)
      rw [hg j]
      by_cases e : j < 13 * ln
      · rw [if_pos e, if_neg (by omega)]
      · rw [if_neg e, if_pos ⟨rfl, by omega⟩]
    · have hbo : tbr L (13 * (2 * ln)) 77 5088 a = some (hd, ds) := hb
      have ham : a ≠ am := fun e => by
        subst e
        unfold tbr at hb
        rw [if_neg e1, if_neg e2, if_neg (by omega)] at hb
        have : tbrA a = none := by
          cases hA : tbrA a with
          | none => rfl
          | some x =>
            have := tbrA_r hA
            omega
        rw [this] at hb
        cases hb
      have hbx : tbx am (13 * ln) L (26 * ln) a = some (hd, ds) := by
        rw [tx_t e2 rfl, ← hb]
        unfold tbr
        rw [if_neg e1, if_neg e1, if_neg ham, if_neg e2]
      rw [hS a hd ds hbx]
      congr 2
      apply List.map_congr_left
      intro p hp2
      refine (ev p (fun e50 => ?_)).symm
      obtain ⟨i, hi⟩ := List.getElem?_of_mem hp2
      have hs : sm_s (tbr L (13 * (2 * ln)) 77 5088) a i = some (hd, p) := by
        unfold sm_s
        rw [hbo]
        simp only []
        rw [hi]
      have hk := tr_key hs (by omega)
      obtain ⟨p1, p2⟩ := p
      simp only [] at e50
      subst e50
      have hk0 : (L, p2) = (a, i) := hk
      exact e2 (congrArg Prod.fst hk0).symm
theorem sm_56 {am lm : Nat} {h : am_Hp} {I K K0 : sm_I} {Y : sm_X} (hr : rk am 77) (hS : sm (tbr am lm 77 5088) h (jn I K) Y) : sm (tbr am lm 77 5088) h (jn I (fun c j => if c = 56 then K0 c j else K c j)) Y := by
  intro a hd ds hb
  rw [hS a hd ds hb]
  congr 2
  apply List.map_congr_left
  intro p hp2
  obtain ⟨i, hi⟩ := List.getElem?_of_mem hp2
  have : p.1 ≠ 56 := fun e56 => by
    have hs : sm_s (tbr am lm 77 5088) a i = some (hd, p) := by
      unfold sm_s
      rw [hb]
      simp only []
      rw [hi]
    have hk := tr_key hs (by omega)
    obtain ⟨p1, p2⟩ := p
    simp only [] at e56
    subst e56
    have hk0 : (0, p2) = (a, i) := hk
    have h00 : a = 0 := (congrArg Prod.fst hk0).symm
    subst h00
    obtain ⟨q1, q2⟩ := rk_0 hr
    have hn : tbr am lm 77 5088 0 = none := by
      unfold tbr
      rw [if_neg (by omega), if_neg (by omega), if_neg (by omega)]
      rfl
    rw [hn] at hb
    cases hb
  unfold sm_v jn
  simp only [this, if_false]
theorem sm_len2 {am lm : Nat} {h : am_Hp} {I : sm_I} {Y : sm_X} (hS : sm (tbr am lm 77 5088) h I Y) : 62 < h.length := (List.getElem?_eq_some_iff.mp (sm_o (a := 62) hS rfl)).1
theorem rx_nm_c {w : Nat → Bool} {d : Nat} {h : am_Hp} {I K : sm_I} {Y : sm_X} {am ln : Nat} (hr : rk am 77) (hS : sm (tbr am (13 * ln) 77 5088) h (jn I K) Y) (hln : ln < 2 ^ 20) (hW : ∀ a, 62 ≤ a → a ≤ 88 → w a = true) (h89 : 89 ≤ h.length) (ham : am < h.length) (hWn : ∀ a, h.length ≤ a → w a = true) (h32 : 32 ≤ ln) (hl4 : ln < 40000) (e1 : K 52 1 = -1) (e0 : K 52 0 = nI ln) (hd : 1 ≤ d) : am_Ev (am_prog w) d 131 [.ref 62] h (fun r h' => r = some (.int (nI (13 * ln))) ∧ ∃ L K', L = h.length ∧ sm (tbr L (13 * (2 * ln)) 77 5088) h' (jn I K') Y ∧ h'.length = h.length + 1 ∧ am_sl h' = am_sl h + 26 * ln ∧ K' 52 0 = nI (ln + 1) ∧ ∀ c j, ¬ (c = 50 ∧ 13 * ln ≤ j) → ¬ (c = 52 ∧ j = 0) → K' c j = K c j) := by
  obtain ⟨d, rfl⟩ : ∃ e, d = e + 1 := ⟨d - 1, by omega⟩
  refine ev_go rfl (Nat.le_of_ble_eq_true rfl) rfl ?_
  refine go_s (pc' := 1) rfl rfl rfl rfl ?_
  refine go_sget (pc' := 2) (v := .int (-1)) hS rfl rfl rfl (by decide) (congrArg Value.int e1) rfl ?_
  refine go_s (pc' := 3) (st' := [.int (-1), .int (-1)]) rfl rfl rfl rfl ?_
  refine go_icmpP (t' := 17) (pc' := 4) rfl rfl rfl (fun _ => ?_) (fun (c : ¬ (((-1) : Int32) = (-1))) => absurd rfl c)
  refine go_s (pc' := 18) (st' := [.int 13]) rfl rfl rfl rfl ?_
  refine go_s (pc' := 19) rfl rfl rfl rfl ?_
  refine go_sget (pc' := 20) (v := .int (nI ln)) hS rfl rfl rfl (by decide) (congrArg Value.int e0) rfl ?_
  refine go_nmul (pc' := 21) (a := 13) (b := ln) rfl rfl rfl rfl rfl ?_
  refine go_s (pc' := 22) rfl rfl rfl rfl ?_
  refine go_sget (pc' := 23) (v := .ref am) hS rfl rfl rfl (by decide) rfl rfl ?_
  refine go_salen (pc' := 24) (n := 13 * ln) hS rfl (tr_m hr) (by simp) rfl ?_
  refine go_icmpP (t' := 51) (pc' := 25) rfl rfl rfl (fun (c : ¬ (nI (13 * ln)) = (nI (13 * ln))) => absurd c (fun z => z rfl)) (fun _ => ?_)
  refine go_s (pc' := 26) (st' := [.int 2]) rfl rfl rfl rfl ?_
  refine go_s (pc' := 27) rfl rfl rfl rfl ?_
  refine go_sget (pc' := 28) (v := .ref am) hS rfl rfl rfl (by decide) rfl rfl ?_
  refine go_salen (pc' := 29) (n := 13 * ln) hS rfl (tr_m hr) (by simp) rfl ?_
  refine go_nmul (pc' := 30) (a := 2) (b := (13 * ln)) rfl rfl rfl rfl rfl ?_
  obtain ⟨-, r2, -⟩ := id hr
  refine go_narrF (pc' := 31) (n := 26 * ln) rfl (by rw [show 2 * (13 * ln) = 26 * ln by omega]) (by omega) rfl rfl rfl (fun L h1 hL hc hg => ?_)
  have hl := sm_len2 hS
  have hS1 : sm (tbx am (13 * ln) L (26 * ln)) h1 (jn I (fun c j => if c = 56 then 0 else K c j)) Y := by
    intro a hd ds hb
    by_cases e : a = L
    · subst e
      unfold tbx at hb
      rw [if_pos rfl] at hb
      cases hb
      rw [hc]
      rw [List.map_map]
      refine congrArg (fun z => some (Sum.inr (FieldType.int, z))) (Eq.symm ?_)
      rw [List.eq_replicate_iff]
      refine ⟨by simp, fun b hb => ?_⟩
      simp at hb
      obtain ⟨j, -, rfl⟩ := hb
      rfl
    · have hb2 := hb
      rw [tx_t e rfl] at hb2
      have h0 := hS a hd ds hb2
      rw [hg.2.2 a (List.getElem?_eq_some_iff.mp h0).1, h0]
      congr 2
      apply List.map_congr_left
      intro p hp2
      obtain ⟨i, hi⟩ := List.getElem?_of_mem hp2
      have : p.1 ≠ 56 := fun e56 => by
        have hs : sm_s (tbr am (13 * ln) 77 5088) a i = some (hd, p) := by
          unfold sm_s
          rw [hb2]
          simp only []
          rw [hi]
        have hk := tr_key hs (by omega)
        obtain ⟨p1, p2⟩ := p
        simp only [] at e56
        subst e56
        have hk0 : (0, p2) = (a, i) := hk
        have h00 : a = 0 := (congrArg Prod.fst hk0).symm
        subst h00
        obtain ⟨q1, q2⟩ := rk_0 hr
        have hn : tbr am (13 * ln) 77 5088 0 = none := by
          unfold tbr
          rw [if_neg (by omega), if_neg (by omega), if_neg (by omega)]
          rfl
        rw [hn] at hb2
        cases hb2
      unfold sm_v jn
      simp only [this, if_false]
  have hL89 : 89 ≤ L := by rw [hL]; exact h89
  have hLa : L ≠ am := by omega
  refine go_s (pc' := 32) rfl rfl rfl rfl ?_
  refine go_s (pc' := 33) rfl rfl rfl rfl ?_
  refine go_s (pc' := 34) rfl rfl rfl rfl ?_
  refine lp_gr (K0 := K) hr hln hL89 hLa (hWn L (by omega)) (13 * ln) 0 h1 _ (by omega) hS1 (fun j => by simp) (fun c j hc => by simp [hc]) (fun h2 K2 hS2 hE2 hg2 ho2 => ?_)
  refine go_s (pc' := 49) rfl rfl rfl rfl ?_
  refine go_s (pc' := 50) rfl rfl rfl rfl ?_
  refine go_putF (pc' := 51) rfl (sm_o hS2 (tx_t (by omega) rfl)) rfl (by decide) (by rw [List.length_map]; exact Nat.le_of_ble_eq_true rfl) rfl (hW 62 (by decide) (by decide)) rfl (fun h3 hc3 hp3 => ?_)
  have hS3 := sm_gr hr hL89 hLa hS2 hg2 hc3 hp3
  have hr3 : rk L 77 := ⟨by omega, Or.inr hL89, hr.2.2⟩
  refine rx_nm_t (ln := 2 * ln) hr3 hS3 (by omega) hW (rm := ln) (by omega) (by show (if (52 : Nat) = 50 ∧ _ then (0 : Int32) else K2 52 0) = nI ln; rw [if_neg (by omega), ho2 52 0 (by decide)]; exact e0) (fun h4 r hr4 hS4 hE4 => ?_)
  refine ⟨hr4, L, _, hL, sm_56 (K0 := K) hr3 hS4, by rw [hE4.1, hp3.1, hE2.1, hg.1], by rw [hE4.2.1, hp3.2.1, hE2.2.1, hg.2.1], (by show (if (52 : Nat) = 56 then _ else _) = _; rw [if_neg (by decide)]; exact uI_s), fun c j h2 h3 => ?_⟩
  show (if c = 56 then K c j else uI _ 52 0 (nI (ln + 1)) c j) = K c j
  by_cases h1 : c = 56
  · rw [if_pos h1]
  rw [if_neg h1]
  have z : uI (fun c j => if c = 50 ∧ 13 * ln ≤ j then 0 else K2 c j) 52 0 (nI (ln + 1)) c j = (fun c j => if c = 50 ∧ 13 * ln ≤ j then 0 else K2 c j) c j := if_neg h3
  rw [z]
  show (if c = 50 ∧ 13 * ln ≤ j then 0 else K2 c j) = K c j
  rw [if_neg h2]
  exact ho2 c j h1
