/-! the law's loop in AM: if a relation holds at the start and every pair of calls keeps it and answers alike, the law comes to 1 -/
section GOC
variable {T : am_T} {d : Nat} {code : List Instr} {rt : Option FieldType} {pc : Nat} {lo : am_Lo} {st : List Value} {h : am_Hp} {Q : Option Value → am_Hp → Prop}
theorem go_callV {n k a ci mm pc' : Nat} {ms : List (Nat × Nat)} {fs as rest : List Value} {P : Option Value → am_Hp → Prop} (hi : code[pc]? = some (.invokevirtual n)) (hK : (am_K T)[n]? = some (1, k, ms)) (hst : st.drop k = .ref a :: rest) (hk : k ≤ st.length) (has : (st.take k).reverse = as) (ha : h[a]? = some (.inl (ci, fs))) (hm : ms.lookup ci = some mm) (hr : am_rok rest = true) (hp : pc + 1 = pc') (hc : am_Ev T d mm (.ref a :: as) h P) (kk : ∀ r h', P r h' → am_Go T d code rt pc' lo (r.toList ++ rest) h' Q) : am_Go T d code rt pc lo st h Q := by
  subst hp
  exact go_call hi rfl (by simp [am_inv, hK, hst, ha, hm, hr, hk, has]) hc kk
theorem go_callI {n k a ci mm pc' : Nat} {ms : List (Nat × Nat)} {fs as rest : List Value} {P : Option Value → am_Hp → Prop} (hi : code[pc]? = some (.invokespecial n)) (hK : (am_K T)[n]? = some (2, k, ms)) (hst : st.drop k = .ref a :: rest) (hk : k ≤ st.length) (has : (st.take k).reverse = as) (ha : h[a]? = some (.inl (ci, fs))) (hm : ms.lookup ci = some mm) (hr : am_rok rest = true) (hp : pc + 1 = pc') (hc : am_Ev T d mm (.ref a :: as) h P) (kk : ∀ r h', P r h' → am_Go T d code rt pc' lo (r.toList ++ rest) h' Q) : am_Go T d code rt pc lo st h Q := by
  subst hp
  exact go_call hi rfl (by simp [am_inv, hK, hst, ha, hm, hr, hk, has]) hc kk
theorem go_callS {n k mm z pc' : Nat} {ms : List (Nat × Nat)} {as rest : List Value} {P : Option Value → am_Hp → Prop} (hi : code[pc]? = some (.invokestatic n)) (hK : (am_K T)[n]? = some (0, k, (z, mm) :: ms)) (hst : st.drop k = rest) (hk : k ≤ st.length) (has : (st.take k).reverse = as) (hr : am_rok rest = true) (hp : pc + 1 = pc') (hc : am_Ev T d mm as h P) (kk : ∀ r h', P r h' → am_Go T d code rt pc' lo (r.toList ++ rest) h' Q) : am_Go T d code rt pc lo st h Q := by
  subst hp
  exact go_call hi rfl (by simp [am_inv, hK, hst, hr, hk, has]) hc kk
theorem go_tsw {dd l u : Int} {ts : Array Int} {t : Int} {x : Int32} {t' : Nat} (hi : code[pc]? = some (.tableswitch dd l u ts)) (hv : ((x.toInt < l ∨ u < x.toInt) ∧ t = dd) ∨ (¬ (x.toInt < l ∨ u < x.toInt) ∧ ts[(x.toInt - l).toNat]? = some t)) (ht : t.toNat = t') (kk : am_Go T d code rt t' lo st h Q) : am_Go T d code rt pc lo (.int x :: st) h Q := by
  subst ht
  rcases hv with ⟨h1, rfl⟩ | ⟨h1, h2⟩
  · exact go_x (ch := none) hi rfl rfl (by simp only [am_x]; rw [if_pos h1]) kk
  · exact go_x (ch := none) hi rfl rfl (by simp only [am_x]; rw [if_neg h1, h2]) kk
end GOC
abbrev am_T0 : am_T := am_prog (fun _ => true)
/-- what the law needs of a heap: the script, the two objects -/
def am_base (sv : List Value) (h : am_Hp) : Prop := h[0]? = some (.inr (.int, sv)) ∧ (∃ fs, h[1]? = some (.inl (0, fs))) ∧ ∃ fs, h[62]? = some (.inl (11, fs))
/-- a call of the class, then the same of the reference: the same answer, the relation is kept -/
def am_one (sv : List Value) (Rel : Nat → am_Hp → Prop) (mc mr : Nat) (as : List Value) : Prop := ∀ n h, n < 512 → Rel n h → am_Ev am_T0 12 mc (.ref 1 :: as) h (fun r h1 => ∃ x : Int32, r = some (.int x) ∧ am_base sv h1 ∧ am_Ev am_T0 12 mr (.ref 62 :: as) h1 (fun r2 h2 => r2 = some (.int x) ∧ Rel (n + 1) h2))
theorem nI_addk (i : Nat) (k : Nat) : nI i + nI k = nI (i + k) := nI_add i k
set_option maxHeartbeats 4000000 in
set_option maxRecDepth 10000 in
theorem am_loop {sv : List Value} (hsv : ∀ v ∈ sv, ∃ x : Int32, v = .int x) (hL : sv.length ≤ 2560) {Rel : Nat → am_Hp → Prop} (hb : ∀ n h, Rel n h → am_base sv h) (hroom : ∀ n h, n ≤ 512 → Rel n h → h.length ≤ 600001 ∧ am_sl h ≤ 7302249)
    (h_none : ∀ n h, n < 512 → Rel n h → Rel (n + 1) h)
    (h_request : ∀ a b c e : Int32, am_one sv Rel 9 123 [.int a, .int b, .int c, .int e])
    (h_tick : am_one sv Rel 30 168 [])
    (h_arrive : ∀ a b c : Int32, (c = 0 ∨ c = 1) → am_one sv Rel 78 176 [.int a, .int b, .int c])
    (h_lose : ∀ a b : Int32, am_one sv Rel 89 184 [.int a, .int b])
    (h_write : ∀ a : Int32, am_one sv Rel 90 137 [.int a])
    (h_copy : am_one sv Rel 94 155 [])
    (h_fail : ∀ a b : Int32, am_one sv Rel 96 156 [.int a, .int b])
    (h_repair : ∀ a b : Int32, am_one sv Rel 106 162 [.int a, .int b])
    (h_answer : ∀ a b : Int32, am_one sv Rel 109 185 [.int a, .int b])
    (h_pair : ∀ a b : Int32, am_one sv Rel 110 186 [.int a, .int b])
    (h_part : ∀ a b : Int32, am_one sv Rel 114 188 [.int a, .int b])
    (h_link : ∀ a b c : Int32, am_one sv Rel 117 189 [.int a, .int b, .int c])
    (h_disc : ∀ a b c : Int32, am_one sv Rel 118 190 [.int a, .int b, .int c])
    (h_record : ∀ a b : Int32, am_one sv Rel 120 191 [.int a, .int b]) :
    ∀ (k n : Nat) (h : am_Hp), n ≤ 512 → 5 * n ≤ sv.length → sv.length < 5 * n + 5 * k + 5 → Rel n h → am_Go am_T0 12 am_c192 (some .boolean) 10 [some (.ref 0), some (.ref 1), some (.ref 62), some (.int (nI (5 * n)))] [] h (fun r h' => r = some (.int 1) ∧ h'.length ≤ 600001 ∧ am_sl h' ≤ 7302249) := by
  intro k
  induction k with
  | zero =>
    intro n h hn h5 hk hR
    obtain ⟨hs, hc, hm⟩ := hb n h hR
    refine go_s (pc' := 11) rfl rfl rfl rfl ?_
    refine go_s (pc' := 12) rfl rfl rfl rfl ?_
    refine go_alen (pc' := 13) rfl hs rfl ?_
    refine go_s (pc' := 14) rfl rfl rfl rfl ?_
    refine go_s (pc' := 15) rfl rfl rfl rfl ?_
    have hgt : ∀ {q : Nat}, q ≤ 2560 → (am_cd .gt (nI q) (nI sv.length - Int32.ofInt 5) = true ↔ sv.length < q + 5) := by
      intro q hq
      have e5 : Int32.ofInt 5 = nI 5 := by decide +kernel
      rw [e5]
      show decide (nI sv.length - nI 5 < nI q) = true ↔ _
      rw [decide_eq_true_eq, Int32.lt_iff_toInt_lt, pk_sub_toInt (by omega) (by omega), nI_toInt (by omega)]
      omega
    refine go_icmp (t' := 410) (pc' := 16) rfl rfl rfl (fun _ => ?_) (fun hc => ?_)
    · refine go_s (pc' := 411) rfl rfl rfl rfl ?_
      exact go_ret rfl rfl ⟨rfl, hroom n h hn hR⟩
    · exact absurd ((hgt (q := 5 * n) (by omega)).mpr (by omega)) (by rw [hc]; decide)
  | succ k ih =>
    intro n h hn h5 hk hR
    obtain ⟨hs, hc, hm⟩ := hb n h hR
    refine go_s (pc' := 11) rfl rfl rfl rfl ?_
    refine go_s (pc' := 12) rfl rfl rfl rfl ?_
    refine go_alen (pc' := 13) rfl hs rfl ?_
    refine go_s (pc' := 14) rfl rfl rfl rfl ?_
    refine go_s (pc' := 15) rfl rfl rfl rfl ?_
    have hgt : ∀ {q : Nat}, q ≤ 2560 → (am_cd .gt (nI q) (nI sv.length - Int32.ofInt 5) = true ↔ sv.length < q + 5) := by
      intro q hq
      have e5 : Int32.ofInt 5 = nI 5 := by decide +kernel
      rw [e5]
      show decide (nI sv.length - nI 5 < nI q) = true ↔ _
      rw [decide_eq_true_eq, Int32.lt_iff_toInt_lt, pk_sub_toInt (by omega) (by omega), nI_toInt (by omega)]
      omega
    refine go_icmp (t' := 410) (pc' := 16) rfl rfl rfl (fun _ => ?_) (fun hcd => ?_)
    · refine go_s (pc' := 411) rfl rfl rfl rfl ?_
      exact go_ret rfl rfl ⟨rfl, hroom n h hn hR⟩
    have hin : 5 * n + 5 ≤ sv.length := by
      rcases Nat.lt_or_ge sv.length (5 * n + 5) with z | z
      · exact absurd ((hgt (q := 5 * n) (by omega)).mpr z) (by rw [hcd]; decide)
      · exact z
    have hn1 : n < 512 := by omega
    have hel : ∀ q : Nat, q < 5 → ∃ x : Int32, sv[5 * n + q]? = some (.int x) := by
      intro q hq
      obtain ⟨v, hv⟩ : ∃ v, sv[5 * n + q]? = some v := ⟨_, List.getElem?_eq_getElem (by omega)⟩
      obtain ⟨x, rfl⟩ := hsv v (List.mem_of_getElem? hv)
      exact ⟨x, hv⟩
    obtain ⟨x0, e0⟩ := hel 0 (by omega)
    obtain ⟨x1, e1⟩ := hel 1 (by omega)
    obtain ⟨x2, e2⟩ := hel 2 (by omega)
    obtain ⟨x3, e3⟩ := hel 3 (by omega)
    obtain ⟨x4, e4⟩ := hel 4 (by omega)
    have i1 : nI (5 * n) + Int32.ofInt 1 = nI (5 * n + 1) := by rw [show Int32.ofInt 1 = nI 1 by decide +kernel]; exact nI_add _ _
    have i2 : nI (5 * n) + Int32.ofInt 2 = nI (5 * n + 2) := by rw [show Int32.ofInt 2 = nI 2 by decide +kernel]; exact nI_add _ _
    have i3 : nI (5 * n) + Int32.ofInt 3 = nI (5 * n + 3) := by rw [show Int32.ofInt 3 = nI 3 by decide +kernel]; exact nI_add _ _
    have i4 : nI (5 * n) + Int32.ofInt 4 = nI (5 * n + 4) := by rw [show Int32.ofInt 4 = nI 4 by decide +kernel]; exact nI_add _ _
    have hb5 : 5 * n + 5 < 2 ^ 31 := by omega
    have nxt : ∀ h2, Rel (n + 1) h2 → am_Go am_T0 12 am_c192 (some .boolean) 408 [some (.ref 0), some (.ref 1), some (.ref 62), some (.int (nI (5 * n)))] [] h2 (fun r h' => r = some (.int 1) ∧ h'.length ≤ 600001 ∧ am_sl h' ≤ 7302249) := by
      intro h2 hR2
      have i5 : nI (5 * n) + Int32.ofInt 5 = nI (5 * (n + 1)) := by rw [show Int32.ofInt 5 = nI 5 by decide +kernel, nI_add]; congr 1
      refine go_s (pc' := 409) (lo' := [some (.ref 0), some (.ref 1), some (.ref 62), some (.int (nI (5 * n) + Int32.ofInt 5))]) rfl rfl rfl rfl ?_
      refine go_s (pc' := 10) rfl rfl rfl rfl ?_
      rw [i5]
      exact ih (n + 1) h2 (by omega) (by omega) (by omega) hR2
    refine go_s (pc' := 17) rfl rfl rfl rfl ?_
    refine go_s (pc' := 18) rfl rfl rfl rfl ?_
    refine go_ald (q := 5 * n) (pc' := 19) rfl rfl hs rfl (by omega) (by simpa using e0) rfl ?_
    refine go_s (pc' := 20) rfl rfl rfl rfl ?_
    refine go_s (pc' := 21) (st' := [.int (x0 &&& Int32.ofInt 15)]) rfl rfl rfl rfl ?_
    obtain ⟨j, hj, ej⟩ := pk_andE x0 (m := Int32.ofInt 15) 4 (by decide +kernel)
    rw [ej]
    clear ej
    match j, hj with
    | 0, _ =>
      refine go_tsw (t := 22) (t' := 22) rfl (Or.inr ⟨by decide +kernel, by decide +kernel⟩) rfl ?_
      refine go_s (pc' := 23) rfl rfl rfl rfl ?_
      refine go_s (pc' := 24) rfl rfl rfl rfl ?_
      refine go_s (pc' := 25) rfl rfl rfl rfl ?_
      refine go_s (pc' := 26) rfl rfl rfl rfl ?_
      refine go_s (pc' := 27) rfl rfl rfl rfl ?_
      refine go_ald (q := 5 * n + 1) (pc' := 28) rfl rfl hs i1 (by omega) e1 rfl ?_
      refine go_s (pc' := 29) rfl rfl rfl rfl ?_
      refine go_s (pc' := 30) rfl rfl rfl rfl ?_
      refine go_s (pc' := 31) rfl rfl rfl rfl ?_
      refine go_s (pc' := 32) rfl rfl rfl rfl ?_
      refine go_ald (q := 5 * n + 2) (pc' := 33) rfl rfl hs i2 (by omega) e2 rfl ?_
      refine go_s (pc' := 34) rfl rfl rfl rfl ?_
      refine go_s (pc' := 35) rfl rfl rfl rfl ?_
      refine go_s (pc' := 36) rfl rfl rfl rfl ?_
      refine go_s (pc' := 37) rfl rfl rfl rfl ?_
      refine go_ald (q := 5 * n + 3) (pc' := 38) rfl rfl hs i3 (by omega) e3 rfl ?_
      refine go_s (pc' := 39) rfl rfl rfl rfl ?_
      refine go_s (pc' := 40) rfl rfl rfl rfl ?_
      refine go_s (pc' := 41) rfl rfl rfl rfl ?_
      refine go_s (pc' := 42) rfl rfl rfl rfl ?_
      refine go_ald (q := 5 * n + 4) (pc' := 43) rfl rfl hs i4 (by omega) e4 rfl ?_
      refine go_callV (a := 1) (ci := 0) (rest := []) (pc' := 44) rfl rfl rfl (Nat.le_of_ble_eq_true rfl) rfl hc.choose_spec rfl rfl rfl (h_request x1 x2 x3 x4 n h hn1 hR) (fun r1 h1 hp => ?_)
      obtain ⟨y, rfl, ⟨hs1, hc1, hm1⟩, hE⟩ := hp
      refine go_s (pc' := 45) rfl rfl rfl rfl ?_
      refine go_s (pc' := 46) rfl rfl rfl rfl ?_
      refine go_s (pc' := 47) rfl rfl rfl rfl ?_
      refine go_s (pc' := 48) rfl rfl rfl rfl ?_
      refine go_s (pc' := 49) rfl rfl rfl rfl ?_
      refine go_ald (q := 5 * n + 1) (pc' := 50) rfl rfl hs1 i1 (by omega) e1 rfl ?_
      refine go_s (pc' := 51) rfl rfl rfl rfl ?_
      refine go_s (pc' := 52) rfl rfl rfl rfl ?_
      refine go_s (pc' := 53) rfl rfl rfl rfl ?_
      refine go_s (pc' := 54) rfl rfl rfl rfl ?_
      refine go_ald (q := 5 * n + 2) (pc' := 55) rfl rfl hs1 i2 (by omega) e2 rfl ?_
      refine go_s (pc' := 56) rfl rfl rfl rfl ?_
      refine go_s (pc' := 57) rfl rfl rfl rfl ?_
      refine go_s (pc' := 58) rfl rfl rfl rfl ?_
      refine go_s (pc' := 59) rfl rfl rfl rfl ?_
      refine go_ald (q := 5 * n + 3) (pc' := 60) rfl rfl hs1 i3 (by omega) e3 rfl ?_
      refine go_s (pc' := 61) rfl rfl rfl rfl ?_
      refine go_s (pc' := 62) rfl rfl rfl rfl ?_
      refine go_s (pc' := 63) rfl rfl rfl rfl ?_
      refine go_s (pc' := 64) rfl rfl rfl rfl ?_
      refine go_ald (q := 5 * n + 4) (pc' := 65) rfl rfl hs1 i4 (by omega) e4 rfl ?_
      refine go_callV (a := 62) (ci := 11) (rest := [.int y]) (pc' := 66) rfl rfl rfl (Nat.le_of_ble_eq_true rfl) rfl hm1.choose_spec rfl rfl rfl hE (fun r2 h2 hp => ?_)
      obtain ⟨rfl, hR2⟩ := hp
      refine go_icmp (t' := 408) (pc' := 67) rfl rfl rfl (fun _ => ?_) (fun z9 => absurd (show am_cd .eq y y = true from decide_eq_true rfl) (by rw [z9]; decide))
      exact nxt h2 hR2
    | 1, _ =>
      refine go_tsw (t := 69) (t' := 69) rfl (Or.inr ⟨by decide +kernel, by decide +kernel⟩) rfl ?_
      refine go_s (pc' := 70) rfl rfl rfl rfl ?_
      refine go_callV (a := 1) (ci := 0) (rest := []) (pc' := 71) rfl rfl rfl (Nat.le_of_ble_eq_true rfl) rfl hc.choose_spec rfl rfl rfl (h_tick n h hn1 hR) (fun r1 h1 hp => ?_)
      obtain ⟨y, rfl, ⟨hs1, hc1, hm1⟩, hE⟩ := hp
      refine go_s (pc' := 72) rfl rfl rfl rfl ?_
      refine go_callV (a := 62) (ci := 11) (rest := [.int y]) (pc' := 73) rfl rfl rfl (Nat.le_of_ble_eq_true rfl) rfl hm1.choose_spec rfl rfl rfl hE (fun r2 h2 hp => ?_)
      obtain ⟨rfl, hR2⟩ := hp
      refine go_icmp (t' := 408) (pc' := 74) rfl rfl rfl (fun _ => ?_) (fun z9 => absurd (show am_cd .eq y y = true from decide_eq_true rfl) (by rw [z9]; decide))
      exact nxt h2 hR2
    | 2, _ =>
      refine go_tsw (t := 76) (t' := 76) rfl (Or.inr ⟨by decide +kernel, by decide +kernel⟩) rfl ?_
      refine go_s (pc' := 77) rfl rfl rfl rfl ?_
      refine go_s (pc' := 78) rfl rfl rfl rfl ?_
      refine go_s (pc' := 79) rfl rfl rfl rfl ?_
      refine go_s (pc' := 80) rfl rfl rfl rfl ?_
      refine go_s (pc' := 81) rfl rfl rfl rfl ?_
      refine go_ald (q := 5 * n + 1) (pc' := 82) rfl rfl hs i1 (by omega) e1 rfl ?_
      refine go_s (pc' := 83) rfl rfl rfl rfl ?_
      refine go_s (pc' := 84) rfl rfl rfl rfl ?_
      refine go_s (pc' := 85) rfl rfl rfl rfl ?_
      refine go_s (pc' := 86) rfl rfl rfl rfl ?_
      refine go_ald (q := 5 * n + 2) (pc' := 87) rfl rfl hs i2 (by omega) e2 rfl ?_
      refine go_s (pc' := 88) rfl rfl rfl rfl ?_
      refine go_s (pc' := 89) rfl rfl rfl rfl ?_
      refine go_s (pc' := 90) rfl rfl rfl rfl ?_
      refine go_s (pc' := 91) rfl rfl rfl rfl ?_
      refine go_ald (q := 5 * n + 3) (pc' := 92) rfl rfl hs i3 (by omega) e3 rfl ?_
      refine go_if (t' := 95) (pc' := 93) rfl rfl rfl (fun z => ?_) (fun z => ?_)
      · refine go_s (pc' := 96) rfl rfl rfl rfl ?_
        refine go_callV (a := 1) (ci := 0) (rest := []) (pc' := 97) rfl rfl rfl (Nat.le_of_ble_eq_true rfl) rfl hc.choose_spec rfl rfl rfl (h_arrive x1 x2 (Int32.ofInt 0) (by decide) n h hn1 hR) (fun r1 h1 hp => ?_)
        obtain ⟨y, rfl, ⟨hs1, hc1, hm1⟩, hE⟩ := hp
        refine go_s (pc' := 98) rfl rfl rfl rfl ?_
        refine go_s (pc' := 99) rfl rfl rfl rfl ?_
        refine go_s (pc' := 100) rfl rfl rfl rfl ?_
        refine go_s (pc' := 101) rfl rfl rfl rfl ?_
        refine go_s (pc' := 102) rfl rfl rfl rfl ?_
        refine go_ald (q := 5 * n + 1) (pc' := 103) rfl rfl hs1 i1 (by omega) e1 rfl ?_
        refine go_s (pc' := 104) rfl rfl rfl rfl ?_
        refine go_s (pc' := 105) rfl rfl rfl rfl ?_
        refine go_s (pc' := 106) rfl rfl rfl rfl ?_
        refine go_s (pc' := 107) rfl rfl rfl rfl ?_
        refine go_ald (q := 5 * n + 2) (pc' := 108) rfl rfl hs1 i2 (by omega) e2 rfl ?_
        refine go_s (pc' := 109) rfl rfl rfl rfl ?_
        refine go_s (pc' := 110) rfl rfl rfl rfl ?_
        refine go_s (pc' := 111) rfl rfl rfl rfl ?_
        refine go_s (pc' := 112) rfl rfl rfl rfl ?_
        refine go_ald (q := 5 * n + 3) (pc' := 113) rfl rfl hs1 i3 (by omega) e3 rfl ?_
        refine go_if (t' := 116) (pc' := 114) rfl rfl rfl (fun _ => ?_) (fun z2 => absurd (z.symm.trans z2) (by decide))
        refine go_s (pc' := 117) rfl rfl rfl rfl ?_
        refine go_callV (a := 62) (ci := 11) (rest := [.int y]) (pc' := 118) rfl rfl rfl (Nat.le_of_ble_eq_true rfl) rfl hm1.choose_spec rfl rfl rfl hE (fun r2 h2 hp => ?_)
        obtain ⟨rfl, hR2⟩ := hp
        refine go_icmp (t' := 408) (pc' := 119) rfl rfl rfl (fun _ => ?_) (fun z9 => absurd (show am_cd .eq y y = true from decide_eq_true rfl) (by rw [z9]; decide))
        exact nxt h2 hR2
      · refine go_s (pc' := 94) rfl rfl rfl rfl ?_
        refine go_s (pc' := 96) rfl rfl rfl rfl ?_
        refine go_callV (a := 1) (ci := 0) (rest := []) (pc' := 97) rfl rfl rfl (Nat.le_of_ble_eq_true rfl) rfl hc.choose_spec rfl rfl rfl (h_arrive x1 x2 (Int32.ofInt 1) (by decide) n h hn1 hR) (fun r1 h1 hp => ?_)
        obtain ⟨y, rfl, ⟨hs1, hc1, hm1⟩, hE⟩ := hp
        refine go_s (pc' := 98) rfl rfl rfl rfl ?_
        refine go_s (pc' := 99) rfl rfl rfl rfl ?_
        refine go_s (pc' := 100) rfl rfl rfl rfl ?_
        refine go_s (pc' := 101) rfl rfl rfl rfl ?_
        refine go_s (pc' := 102) rfl rfl rfl rfl ?_
        refine go_ald (q := 5 * n + 1) (pc' := 103) rfl rfl hs1 i1 (by omega) e1 rfl ?_
        refine go_s (pc' := 104) rfl rfl rfl rfl ?_
        refine go_s (pc' := 105) rfl rfl rfl rfl ?_
        refine go_s (pc' := 106) rfl rfl rfl rfl ?_
        refine go_s (pc' := 107) rfl rfl rfl rfl ?_
        refine go_ald (q := 5 * n + 2) (pc' := 108) rfl rfl hs1 i2 (by omega) e2 rfl ?_
        refine go_s (pc' := 109) rfl rfl rfl rfl ?_
        refine go_s (pc' := 110) rfl rfl rfl rfl ?_
        refine go_s (pc' := 111) rfl rfl rfl rfl ?_
        refine go_s (pc' := 112) rfl rfl rfl rfl ?_
        refine go_ald (q := 5 * n + 3) (pc' := 113) rfl rfl hs1 i3 (by omega) e3 rfl ?_
        refine go_if (t' := 116) (pc' := 114) rfl rfl rfl (fun z2 => absurd (z2.symm.trans z) (by decide)) (fun _ => ?_)
        refine go_s (pc' := 115) rfl rfl rfl rfl ?_
        refine go_s (pc' := 117) rfl rfl rfl rfl ?_
        refine go_callV (a := 62) (ci := 11) (rest := [.int y]) (pc' := 118) rfl rfl rfl (Nat.le_of_ble_eq_true rfl) rfl hm1.choose_spec rfl rfl rfl hE (fun r2 h2 hp => ?_)
        obtain ⟨rfl, hR2⟩ := hp
        refine go_icmp (t' := 408) (pc' := 119) rfl rfl rfl (fun _ => ?_) (fun z9 => absurd (show am_cd .eq y y = true from decide_eq_true rfl) (by rw [z9]; decide))
        exact nxt h2 hR2
    | 3, _ =>
      refine go_tsw (t := 121) (t' := 121) rfl (Or.inr ⟨by decide +kernel, by decide +kernel⟩) rfl ?_
      refine go_s (pc' := 122) rfl rfl rfl rfl ?_
      refine go_s (pc' := 123) rfl rfl rfl rfl ?_
      refine go_s (pc' := 124) rfl rfl rfl rfl ?_
      refine go_s (pc' := 125) rfl rfl rfl rfl ?_
      refine go_s (pc' := 126) rfl rfl rfl rfl ?_
      refine go_ald (q := 5 * n + 1) (pc' := 127) rfl rfl hs i1 (by omega) e1 rfl ?_
      refine go_s (pc' := 128) rfl rfl rfl rfl ?_
      refine go_s (pc' := 129) rfl rfl rfl rfl ?_
      refine go_s (pc' := 130) rfl rfl rfl rfl ?_
      refine go_s (pc' := 131) rfl rfl rfl rfl ?_
      refine go_ald (q := 5 * n + 2) (pc' := 132) rfl rfl hs i2 (by omega) e2 rfl ?_
      refine go_callV (a := 1) (ci := 0) (rest := []) (pc' := 133) rfl rfl rfl (Nat.le_of_ble_eq_true rfl) rfl hc.choose_spec rfl rfl rfl (h_lose x1 x2 n h hn1 hR) (fun r1 h1 hp => ?_)
      obtain ⟨y, rfl, ⟨hs1, hc1, hm1⟩, hE⟩ := hp
      refine go_s (pc' := 134) rfl rfl rfl rfl ?_
      refine go_s (pc' := 135) rfl rfl rfl rfl ?_
      refine go_s (pc' := 136) rfl rfl rfl rfl ?_
      refine go_s (pc' := 137) rfl rfl rfl rfl ?_
      refine go_s (pc' := 138) rfl rfl rfl rfl ?_
      refine go_ald (q := 5 * n + 1) (pc' := 139) rfl rfl hs1 i1 (by omega) e1 rfl ?_
      refine go_s (pc' := 140) rfl rfl rfl rfl ?_
      refine go_s (pc' := 141) rfl rfl rfl rfl ?_
      refine go_s (pc' := 142) rfl rfl rfl rfl ?_
      refine go_s (pc' := 143) rfl rfl rfl rfl ?_
      refine go_ald (q := 5 * n + 2) (pc' := 144) rfl rfl hs1 i2 (by omega) e2 rfl ?_
      refine go_callV (a := 62) (ci := 11) (rest := [.int y]) (pc' := 145) rfl rfl rfl (Nat.le_of_ble_eq_true rfl) rfl hm1.choose_spec rfl rfl rfl hE (fun r2 h2 hp => ?_)
      obtain ⟨rfl, hR2⟩ := hp
      refine go_icmp (t' := 408) (pc' := 146) rfl rfl rfl (fun _ => ?_) (fun z9 => absurd (show am_cd .eq y y = true from decide_eq_true rfl) (by rw [z9]; decide))
      exact nxt h2 hR2
    | 4, _ =>
      refine go_tsw (t := 148) (t' := 148) rfl (Or.inr ⟨by decide +kernel, by decide +kernel⟩) rfl ?_
      refine go_s (pc' := 149) rfl rfl rfl rfl ?_
      refine go_s (pc' := 150) rfl rfl rfl rfl ?_
      refine go_s (pc' := 151) rfl rfl rfl rfl ?_
      refine go_s (pc' := 152) rfl rfl rfl rfl ?_
      refine go_s (pc' := 153) rfl rfl rfl rfl ?_
      refine go_ald (q := 5 * n + 1) (pc' := 154) rfl rfl hs i1 (by omega) e1 rfl ?_
      refine go_callV (a := 1) (ci := 0) (rest := []) (pc' := 155) rfl rfl rfl (Nat.le_of_ble_eq_true rfl) rfl hc.choose_spec rfl rfl rfl (h_write x1 n h hn1 hR) (fun r1 h1 hp => ?_)
      obtain ⟨y, rfl, ⟨hs1, hc1, hm1⟩, hE⟩ := hp
      refine go_s (pc' := 156) rfl rfl rfl rfl ?_
      refine go_s (pc' := 157) rfl rfl rfl rfl ?_
      refine go_s (pc' := 158) rfl rfl rfl rfl ?_
      refine go_s (pc' := 159) rfl rfl rfl rfl ?_
      refine go_s (pc' := 160) rfl rfl rfl rfl ?_
      refine go_ald (q := 5 * n + 1) (pc' := 161) rfl rfl hs1 i1 (by omega) e1 rfl ?_
      refine go_callV (a := 62) (ci := 11) (rest := [.int y]) (pc' := 162) rfl rfl rfl (Nat.le_of_ble_eq_true rfl) rfl hm1.choose_spec rfl rfl rfl hE (fun r2 h2 hp => ?_)
      obtain ⟨rfl, hR2⟩ := hp
      refine go_icmp (t' := 408) (pc' := 163) rfl rfl rfl (fun _ => ?_) (fun z9 => absurd (show am_cd .eq y y = true from decide_eq_true rfl) (by rw [z9]; decide))
      exact nxt h2 hR2
    | 5, _ =>
      refine go_tsw (t := 165) (t' := 165) rfl (Or.inr ⟨by decide +kernel, by decide +kernel⟩) rfl ?_
      refine go_s (pc' := 166) rfl rfl rfl rfl ?_
      refine go_callV (a := 1) (ci := 0) (rest := []) (pc' := 167) rfl rfl rfl (Nat.le_of_ble_eq_true rfl) rfl hc.choose_spec rfl rfl rfl (h_copy n h hn1 hR) (fun r1 h1 hp => ?_)
      obtain ⟨y, rfl, ⟨hs1, hc1, hm1⟩, hE⟩ := hp
      refine go_s (pc' := 168) rfl rfl rfl rfl ?_
      refine go_callV (a := 62) (ci := 11) (rest := [.int y]) (pc' := 169) rfl rfl rfl (Nat.le_of_ble_eq_true rfl) rfl hm1.choose_spec rfl rfl rfl hE (fun r2 h2 hp => ?_)
      obtain ⟨rfl, hR2⟩ := hp
      refine go_icmp (t' := 408) (pc' := 170) rfl rfl rfl (fun _ => ?_) (fun z9 => absurd (show am_cd .eq y y = true from decide_eq_true rfl) (by rw [z9]; decide))
      exact nxt h2 hR2
    | 6, _ =>
      refine go_tsw (t := 172) (t' := 172) rfl (Or.inr ⟨by decide +kernel, by decide +kernel⟩) rfl ?_
      refine go_s (pc' := 173) rfl rfl rfl rfl ?_
      refine go_s (pc' := 174) rfl rfl rfl rfl ?_
      refine go_s (pc' := 175) rfl rfl rfl rfl ?_
      refine go_s (pc' := 176) rfl rfl rfl rfl ?_
      refine go_s (pc' := 177) rfl rfl rfl rfl ?_
      refine go_ald (q := 5 * n + 1) (pc' := 178) rfl rfl hs i1 (by omega) e1 rfl ?_
      refine go_s (pc' := 179) rfl rfl rfl rfl ?_
      refine go_s (pc' := 180) rfl rfl rfl rfl ?_
      refine go_s (pc' := 181) rfl rfl rfl rfl ?_
      refine go_s (pc' := 182) rfl rfl rfl rfl ?_
      refine go_ald (q := 5 * n + 2) (pc' := 183) rfl rfl hs i2 (by omega) e2 rfl ?_
      refine go_callV (a := 1) (ci := 0) (rest := []) (pc' := 184) rfl rfl rfl (Nat.le_of_ble_eq_true rfl) rfl hc.choose_spec rfl rfl rfl (h_fail x1 x2 n h hn1 hR) (fun r1 h1 hp => ?_)
      obtain ⟨y, rfl, ⟨hs1, hc1, hm1⟩, hE⟩ := hp
      refine go_s (pc' := 185) rfl rfl rfl rfl ?_
      refine go_s (pc' := 186) rfl rfl rfl rfl ?_
      refine go_s (pc' := 187) rfl rfl rfl rfl ?_
      refine go_s (pc' := 188) rfl rfl rfl rfl ?_
      refine go_s (pc' := 189) rfl rfl rfl rfl ?_
      refine go_ald (q := 5 * n + 1) (pc' := 190) rfl rfl hs1 i1 (by omega) e1 rfl ?_
      refine go_s (pc' := 191) rfl rfl rfl rfl ?_
      refine go_s (pc' := 192) rfl rfl rfl rfl ?_
      refine go_s (pc' := 193) rfl rfl rfl rfl ?_
      refine go_s (pc' := 194) rfl rfl rfl rfl ?_
      refine go_ald (q := 5 * n + 2) (pc' := 195) rfl rfl hs1 i2 (by omega) e2 rfl ?_
      refine go_callV (a := 62) (ci := 11) (rest := [.int y]) (pc' := 196) rfl rfl rfl (Nat.le_of_ble_eq_true rfl) rfl hm1.choose_spec rfl rfl rfl hE (fun r2 h2 hp => ?_)
      obtain ⟨rfl, hR2⟩ := hp
      refine go_icmp (t' := 408) (pc' := 197) rfl rfl rfl (fun _ => ?_) (fun z9 => absurd (show am_cd .eq y y = true from decide_eq_true rfl) (by rw [z9]; decide))
      exact nxt h2 hR2
    | 7, _ =>
      refine go_tsw (t := 199) (t' := 199) rfl (Or.inr ⟨by decide +kernel, by decide +kernel⟩) rfl ?_
      refine go_s (pc' := 200) rfl rfl rfl rfl ?_
      refine go_s (pc' := 201) rfl rfl rfl rfl ?_
      refine go_s (pc' := 202) rfl rfl rfl rfl ?_
      refine go_s (pc' := 203) rfl rfl rfl rfl ?_
      refine go_s (pc' := 204) rfl rfl rfl rfl ?_
      refine go_ald (q := 5 * n + 1) (pc' := 205) rfl rfl hs i1 (by omega) e1 rfl ?_
      refine go_s (pc' := 206) rfl rfl rfl rfl ?_
      refine go_s (pc' := 207) rfl rfl rfl rfl ?_
      refine go_s (pc' := 208) rfl rfl rfl rfl ?_
      refine go_s (pc' := 209) rfl rfl rfl rfl ?_
      refine go_ald (q := 5 * n + 2) (pc' := 210) rfl rfl hs i2 (by omega) e2 rfl ?_
      refine go_callV (a := 1) (ci := 0) (rest := []) (pc' := 211) rfl rfl rfl (Nat.le_of_ble_eq_true rfl) rfl hc.choose_spec rfl rfl rfl (h_repair x1 x2 n h hn1 hR) (fun r1 h1 hp => ?_)
      obtain ⟨y, rfl, ⟨hs1, hc1, hm1⟩, hE⟩ := hp
      refine go_s (pc' := 212) rfl rfl rfl rfl ?_
      refine go_s (pc' := 213) rfl rfl rfl rfl ?_
      refine go_s (pc' := 214) rfl rfl rfl rfl ?_
      refine go_s (pc' := 215) rfl rfl rfl rfl ?_
      refine go_s (pc' := 216) rfl rfl rfl rfl ?_
      refine go_ald (q := 5 * n + 1) (pc' := 217) rfl rfl hs1 i1 (by omega) e1 rfl ?_
      refine go_s (pc' := 218) rfl rfl rfl rfl ?_
      refine go_s (pc' := 219) rfl rfl rfl rfl ?_
      refine go_s (pc' := 220) rfl rfl rfl rfl ?_
      refine go_s (pc' := 221) rfl rfl rfl rfl ?_
      refine go_ald (q := 5 * n + 2) (pc' := 222) rfl rfl hs1 i2 (by omega) e2 rfl ?_
      refine go_callV (a := 62) (ci := 11) (rest := [.int y]) (pc' := 223) rfl rfl rfl (Nat.le_of_ble_eq_true rfl) rfl hm1.choose_spec rfl rfl rfl hE (fun r2 h2 hp => ?_)
      obtain ⟨rfl, hR2⟩ := hp
      refine go_icmp (t' := 408) (pc' := 224) rfl rfl rfl (fun _ => ?_) (fun z9 => absurd (show am_cd .eq y y = true from decide_eq_true rfl) (by rw [z9]; decide))
      exact nxt h2 hR2
    | 8, _ =>
      refine go_tsw (t := 226) (t' := 226) rfl (Or.inr ⟨by decide +kernel, by decide +kernel⟩) rfl ?_
      refine go_s (pc' := 227) rfl rfl rfl rfl ?_
      refine go_s (pc' := 228) rfl rfl rfl rfl ?_
      refine go_s (pc' := 229) rfl rfl rfl rfl ?_
      refine go_s (pc' := 230) rfl rfl rfl rfl ?_
      refine go_s (pc' := 231) rfl rfl rfl rfl ?_
      refine go_ald (q := 5 * n + 1) (pc' := 232) rfl rfl hs i1 (by omega) e1 rfl ?_
      refine go_s (pc' := 233) rfl rfl rfl rfl ?_
      refine go_s (pc' := 234) rfl rfl rfl rfl ?_
      refine go_s (pc' := 235) rfl rfl rfl rfl ?_
      refine go_s (pc' := 236) rfl rfl rfl rfl ?_
      refine go_ald (q := 5 * n + 2) (pc' := 237) rfl rfl hs i2 (by omega) e2 rfl ?_
      refine go_callV (a := 1) (ci := 0) (rest := []) (pc' := 238) rfl rfl rfl (Nat.le_of_ble_eq_true rfl) rfl hc.choose_spec rfl rfl rfl (h_answer x1 x2 n h hn1 hR) (fun r1 h1 hp => ?_)
      obtain ⟨y, rfl, ⟨hs1, hc1, hm1⟩, hE⟩ := hp
      refine go_s (pc' := 239) rfl rfl rfl rfl ?_
      refine go_s (pc' := 240) rfl rfl rfl rfl ?_
      refine go_s (pc' := 241) rfl rfl rfl rfl ?_
      refine go_s (pc' := 242) rfl rfl rfl rfl ?_
      refine go_s (pc' := 243) rfl rfl rfl rfl ?_
      refine go_ald (q := 5 * n + 1) (pc' := 244) rfl rfl hs1 i1 (by omega) e1 rfl ?_
      refine go_s (pc' := 245) rfl rfl rfl rfl ?_
      refine go_s (pc' := 246) rfl rfl rfl rfl ?_
      refine go_s (pc' := 247) rfl rfl rfl rfl ?_
      refine go_s (pc' := 248) rfl rfl rfl rfl ?_
      refine go_ald (q := 5 * n + 2) (pc' := 249) rfl rfl hs1 i2 (by omega) e2 rfl ?_
      refine go_callV (a := 62) (ci := 11) (rest := [.int y]) (pc' := 250) rfl rfl rfl (Nat.le_of_ble_eq_true rfl) rfl hm1.choose_spec rfl rfl rfl hE (fun r2 h2 hp => ?_)
      obtain ⟨rfl, hR2⟩ := hp
      refine go_icmp (t' := 408) (pc' := 251) rfl rfl rfl (fun _ => ?_) (fun z9 => absurd (show am_cd .eq y y = true from decide_eq_true rfl) (by rw [z9]; decide))
      exact nxt h2 hR2
    | 9, _ =>
      refine go_tsw (t := 253) (t' := 253) rfl (Or.inr ⟨by decide +kernel, by decide +kernel⟩) rfl ?_
      refine go_s (pc' := 254) rfl rfl rfl rfl ?_
      refine go_s (pc' := 255) rfl rfl rfl rfl ?_
      refine go_s (pc' := 256) rfl rfl rfl rfl ?_
      refine go_s (pc' := 257) rfl rfl rfl rfl ?_
      refine go_s (pc' := 258) rfl rfl rfl rfl ?_
      refine go_ald (q := 5 * n + 1) (pc' := 259) rfl rfl hs i1 (by omega) e1 rfl ?_
      refine go_s (pc' := 260) rfl rfl rfl rfl ?_
      refine go_s (pc' := 261) rfl rfl rfl rfl ?_
      refine go_s (pc' := 262) rfl rfl rfl rfl ?_
      refine go_s (pc' := 263) rfl rfl rfl rfl ?_
      refine go_ald (q := 5 * n + 2) (pc' := 264) rfl rfl hs i2 (by omega) e2 rfl ?_
      refine go_callV (a := 1) (ci := 0) (rest := []) (pc' := 265) rfl rfl rfl (Nat.le_of_ble_eq_true rfl) rfl hc.choose_spec rfl rfl rfl (h_pair x1 x2 n h hn1 hR) (fun r1 h1 hp => ?_)
      obtain ⟨y, rfl, ⟨hs1, hc1, hm1⟩, hE⟩ := hp
      refine go_s (pc' := 266) rfl rfl rfl rfl ?_
      refine go_s (pc' := 267) rfl rfl rfl rfl ?_
      refine go_s (pc' := 268) rfl rfl rfl rfl ?_
      refine go_s (pc' := 269) rfl rfl rfl rfl ?_
      refine go_s (pc' := 270) rfl rfl rfl rfl ?_
      refine go_ald (q := 5 * n + 1) (pc' := 271) rfl rfl hs1 i1 (by omega) e1 rfl ?_
      refine go_s (pc' := 272) rfl rfl rfl rfl ?_
      refine go_s (pc' := 273) rfl rfl rfl rfl ?_
      refine go_s (pc' := 274) rfl rfl rfl rfl ?_
      refine go_s (pc' := 275) rfl rfl rfl rfl ?_
      refine go_ald (q := 5 * n + 2) (pc' := 276) rfl rfl hs1 i2 (by omega) e2 rfl ?_
      refine go_callV (a := 62) (ci := 11) (rest := [.int y]) (pc' := 277) rfl rfl rfl (Nat.le_of_ble_eq_true rfl) rfl hm1.choose_spec rfl rfl rfl hE (fun r2 h2 hp => ?_)
      obtain ⟨rfl, hR2⟩ := hp
      refine go_icmp (t' := 408) (pc' := 278) rfl rfl rfl (fun _ => ?_) (fun z9 => absurd (show am_cd .eq y y = true from decide_eq_true rfl) (by rw [z9]; decide))
      exact nxt h2 hR2
    | 10, _ =>
      refine go_tsw (t := 280) (t' := 280) rfl (Or.inr ⟨by decide +kernel, by decide +kernel⟩) rfl ?_
      refine go_s (pc' := 281) rfl rfl rfl rfl ?_
      refine go_s (pc' := 282) rfl rfl rfl rfl ?_
      refine go_s (pc' := 283) rfl rfl rfl rfl ?_
      refine go_s (pc' := 284) rfl rfl rfl rfl ?_
      refine go_s (pc' := 285) rfl rfl rfl rfl ?_
      refine go_ald (q := 5 * n + 1) (pc' := 286) rfl rfl hs i1 (by omega) e1 rfl ?_
      refine go_s (pc' := 287) rfl rfl rfl rfl ?_
      refine go_s (pc' := 288) rfl rfl rfl rfl ?_
      refine go_s (pc' := 289) rfl rfl rfl rfl ?_
      refine go_s (pc' := 290) rfl rfl rfl rfl ?_
      refine go_ald (q := 5 * n + 2) (pc' := 291) rfl rfl hs i2 (by omega) e2 rfl ?_
      refine go_callV (a := 1) (ci := 0) (rest := []) (pc' := 292) rfl rfl rfl (Nat.le_of_ble_eq_true rfl) rfl hc.choose_spec rfl rfl rfl (h_part x1 x2 n h hn1 hR) (fun r1 h1 hp => ?_)
      obtain ⟨y, rfl, ⟨hs1, hc1, hm1⟩, hE⟩ := hp
      refine go_s (pc' := 293) rfl rfl rfl rfl ?_
      refine go_s (pc' := 294) rfl rfl rfl rfl ?_
      refine go_s (pc' := 295) rfl rfl rfl rfl ?_
      refine go_s (pc' := 296) rfl rfl rfl rfl ?_
      refine go_s (pc' := 297) rfl rfl rfl rfl ?_
      refine go_ald (q := 5 * n + 1) (pc' := 298) rfl rfl hs1 i1 (by omega) e1 rfl ?_
      refine go_s (pc' := 299) rfl rfl rfl rfl ?_
      refine go_s (pc' := 300) rfl rfl rfl rfl ?_
      refine go_s (pc' := 301) rfl rfl rfl rfl ?_
      refine go_s (pc' := 302) rfl rfl rfl rfl ?_
      refine go_ald (q := 5 * n + 2) (pc' := 303) rfl rfl hs1 i2 (by omega) e2 rfl ?_
      refine go_callV (a := 62) (ci := 11) (rest := [.int y]) (pc' := 304) rfl rfl rfl (Nat.le_of_ble_eq_true rfl) rfl hm1.choose_spec rfl rfl rfl hE (fun r2 h2 hp => ?_)
      obtain ⟨rfl, hR2⟩ := hp
      refine go_icmp (t' := 408) (pc' := 305) rfl rfl rfl (fun _ => ?_) (fun z9 => absurd (show am_cd .eq y y = true from decide_eq_true rfl) (by rw [z9]; decide))
      exact nxt h2 hR2
    | 11, _ =>
      refine go_tsw (t := 307) (t' := 307) rfl (Or.inr ⟨by decide +kernel, by decide +kernel⟩) rfl ?_
      refine go_s (pc' := 308) rfl rfl rfl rfl ?_
      refine go_s (pc' := 309) rfl rfl rfl rfl ?_
      refine go_s (pc' := 310) rfl rfl rfl rfl ?_
      refine go_s (pc' := 311) rfl rfl rfl rfl ?_
      refine go_s (pc' := 312) rfl rfl rfl rfl ?_
      refine go_ald (q := 5 * n + 1) (pc' := 313) rfl rfl hs i1 (by omega) e1 rfl ?_
      refine go_s (pc' := 314) rfl rfl rfl rfl ?_
      refine go_s (pc' := 315) rfl rfl rfl rfl ?_
      refine go_s (pc' := 316) rfl rfl rfl rfl ?_
      refine go_s (pc' := 317) rfl rfl rfl rfl ?_
      refine go_ald (q := 5 * n + 2) (pc' := 318) rfl rfl hs i2 (by omega) e2 rfl ?_
      refine go_s (pc' := 319) rfl rfl rfl rfl ?_
      refine go_s (pc' := 320) rfl rfl rfl rfl ?_
      refine go_s (pc' := 321) rfl rfl rfl rfl ?_
      refine go_s (pc' := 322) rfl rfl rfl rfl ?_
      refine go_ald (q := 5 * n + 3) (pc' := 323) rfl rfl hs i3 (by omega) e3 rfl ?_
      refine go_callV (a := 1) (ci := 0) (rest := []) (pc' := 324) rfl rfl rfl (Nat.le_of_ble_eq_true rfl) rfl hc.choose_spec rfl rfl rfl (h_link x1 x2 x3 n h hn1 hR) (fun r1 h1 hp => ?_)
      obtain ⟨y, rfl, ⟨hs1, hc1, hm1⟩, hE⟩ := hp
      refine go_s (pc' := 325) rfl rfl rfl rfl ?_
      refine go_s (pc' := 326) rfl rfl rfl rfl ?_
      refine go_s (pc' := 327) rfl rfl rfl rfl ?_
      refine go_s (pc' := 328) rfl rfl rfl rfl ?_
      refine go_s (pc' := 329) rfl rfl rfl rfl ?_
      refine go_ald (q := 5 * n + 1) (pc' := 330) rfl rfl hs1 i1 (by omega) e1 rfl ?_
      refine go_s (pc' := 331) rfl rfl rfl rfl ?_
      refine go_s (pc' := 332) rfl rfl rfl rfl ?_
      refine go_s (pc' := 333) rfl rfl rfl rfl ?_
      refine go_s (pc' := 334) rfl rfl rfl rfl ?_
      refine go_ald (q := 5 * n + 2) (pc' := 335) rfl rfl hs1 i2 (by omega) e2 rfl ?_
      refine go_s (pc' := 336) rfl rfl rfl rfl ?_
      refine go_s (pc' := 337) rfl rfl rfl rfl ?_
      refine go_s (pc' := 338) rfl rfl rfl rfl ?_
      refine go_s (pc' := 339) rfl rfl rfl rfl ?_
      refine go_ald (q := 5 * n + 3) (pc' := 340) rfl rfl hs1 i3 (by omega) e3 rfl ?_
      refine go_callV (a := 62) (ci := 11) (rest := [.int y]) (pc' := 341) rfl rfl rfl (Nat.le_of_ble_eq_true rfl) rfl hm1.choose_spec rfl rfl rfl hE (fun r2 h2 hp => ?_)
      obtain ⟨rfl, hR2⟩ := hp
      refine go_icmp (t' := 408) (pc' := 342) rfl rfl rfl (fun _ => ?_) (fun z9 => absurd (show am_cd .eq y y = true from decide_eq_true rfl) (by rw [z9]; decide))
      exact nxt h2 hR2
    | 12, _ =>
      refine go_tsw (t := 344) (t' := 344) rfl (Or.inr ⟨by decide +kernel, by decide +kernel⟩) rfl ?_
      refine go_s (pc' := 345) rfl rfl rfl rfl ?_
      refine go_s (pc' := 346) rfl rfl rfl rfl ?_
      refine go_s (pc' := 347) rfl rfl rfl rfl ?_
      refine go_s (pc' := 348) rfl rfl rfl rfl ?_
      refine go_s (pc' := 349) rfl rfl rfl rfl ?_
      refine go_ald (q := 5 * n + 1) (pc' := 350) rfl rfl hs i1 (by omega) e1 rfl ?_
      refine go_s (pc' := 351) rfl rfl rfl rfl ?_
      refine go_s (pc' := 352) rfl rfl rfl rfl ?_
      refine go_s (pc' := 353) rfl rfl rfl rfl ?_
      refine go_s (pc' := 354) rfl rfl rfl rfl ?_
      refine go_ald (q := 5 * n + 2) (pc' := 355) rfl rfl hs i2 (by omega) e2 rfl ?_
      refine go_s (pc' := 356) rfl rfl rfl rfl ?_
      refine go_s (pc' := 357) rfl rfl rfl rfl ?_
      refine go_s (pc' := 358) rfl rfl rfl rfl ?_
      refine go_s (pc' := 359) rfl rfl rfl rfl ?_
      refine go_ald (q := 5 * n + 3) (pc' := 360) rfl rfl hs i3 (by omega) e3 rfl ?_
      refine go_callV (a := 1) (ci := 0) (rest := []) (pc' := 361) rfl rfl rfl (Nat.le_of_ble_eq_true rfl) rfl hc.choose_spec rfl rfl rfl (h_disc x1 x2 x3 n h hn1 hR) (fun r1 h1 hp => ?_)
      obtain ⟨y, rfl, ⟨hs1, hc1, hm1⟩, hE⟩ := hp
      refine go_s (pc' := 362) rfl rfl rfl rfl ?_
      refine go_s (pc' := 363) rfl rfl rfl rfl ?_
      refine go_s (pc' := 364) rfl rfl rfl rfl ?_
      refine go_s (pc' := 365) rfl rfl rfl rfl ?_
      refine go_s (pc' := 366) rfl rfl rfl rfl ?_
      refine go_ald (q := 5 * n + 1) (pc' := 367) rfl rfl hs1 i1 (by omega) e1 rfl ?_
      refine go_s (pc' := 368) rfl rfl rfl rfl ?_
      refine go_s (pc' := 369) rfl rfl rfl rfl ?_
      refine go_s (pc' := 370) rfl rfl rfl rfl ?_
      refine go_s (pc' := 371) rfl rfl rfl rfl ?_
      refine go_ald (q := 5 * n + 2) (pc' := 372) rfl rfl hs1 i2 (by omega) e2 rfl ?_
      refine go_s (pc' := 373) rfl rfl rfl rfl ?_
      refine go_s (pc' := 374) rfl rfl rfl rfl ?_
      refine go_s (pc' := 375) rfl rfl rfl rfl ?_
      refine go_s (pc' := 376) rfl rfl rfl rfl ?_
      refine go_ald (q := 5 * n + 3) (pc' := 377) rfl rfl hs1 i3 (by omega) e3 rfl ?_
      refine go_callV (a := 62) (ci := 11) (rest := [.int y]) (pc' := 378) rfl rfl rfl (Nat.le_of_ble_eq_true rfl) rfl hm1.choose_spec rfl rfl rfl hE (fun r2 h2 hp => ?_)
      obtain ⟨rfl, hR2⟩ := hp
      refine go_icmp (t' := 408) (pc' := 379) rfl rfl rfl (fun _ => ?_) (fun z9 => absurd (show am_cd .eq y y = true from decide_eq_true rfl) (by rw [z9]; decide))
      exact nxt h2 hR2
    | 13, _ =>
      refine go_tsw (t := 381) (t' := 381) rfl (Or.inr ⟨by decide +kernel, by decide +kernel⟩) rfl ?_
      refine go_s (pc' := 382) rfl rfl rfl rfl ?_
      refine go_s (pc' := 383) rfl rfl rfl rfl ?_
      refine go_s (pc' := 384) rfl rfl rfl rfl ?_
      refine go_s (pc' := 385) rfl rfl rfl rfl ?_
      refine go_s (pc' := 386) rfl rfl rfl rfl ?_
      refine go_ald (q := 5 * n + 1) (pc' := 387) rfl rfl hs i1 (by omega) e1 rfl ?_
      refine go_s (pc' := 388) rfl rfl rfl rfl ?_
      refine go_s (pc' := 389) rfl rfl rfl rfl ?_
      refine go_s (pc' := 390) rfl rfl rfl rfl ?_
      refine go_s (pc' := 391) rfl rfl rfl rfl ?_
      refine go_ald (q := 5 * n + 2) (pc' := 392) rfl rfl hs i2 (by omega) e2 rfl ?_
      refine go_callV (a := 1) (ci := 0) (rest := []) (pc' := 393) rfl rfl rfl (Nat.le_of_ble_eq_true rfl) rfl hc.choose_spec rfl rfl rfl (h_record x1 x2 n h hn1 hR) (fun r1 h1 hp => ?_)
      obtain ⟨y, rfl, ⟨hs1, hc1, hm1⟩, hE⟩ := hp
      refine go_s (pc' := 394) rfl rfl rfl rfl ?_
      refine go_s (pc' := 395) rfl rfl rfl rfl ?_
      refine go_s (pc' := 396) rfl rfl rfl rfl ?_
      refine go_s (pc' := 397) rfl rfl rfl rfl ?_
      refine go_s (pc' := 398) rfl rfl rfl rfl ?_
      refine go_ald (q := 5 * n + 1) (pc' := 399) rfl rfl hs1 i1 (by omega) e1 rfl ?_
      refine go_s (pc' := 400) rfl rfl rfl rfl ?_
      refine go_s (pc' := 401) rfl rfl rfl rfl ?_
      refine go_s (pc' := 402) rfl rfl rfl rfl ?_
      refine go_s (pc' := 403) rfl rfl rfl rfl ?_
      refine go_ald (q := 5 * n + 2) (pc' := 404) rfl rfl hs1 i2 (by omega) e2 rfl ?_
      refine go_callV (a := 62) (ci := 11) (rest := [.int y]) (pc' := 405) rfl rfl rfl (Nat.le_of_ble_eq_true rfl) rfl hm1.choose_spec rfl rfl rfl hE (fun r2 h2 hp => ?_)
      obtain ⟨rfl, hR2⟩ := hp
      refine go_icmp (t' := 408) (pc' := 406) rfl rfl rfl (fun _ => ?_) (fun z9 => absurd (show am_cd .eq y y = true from decide_eq_true rfl) (by rw [z9]; decide))
      exact nxt h2 hR2
    | 14, _ =>
      refine go_tsw (t := 408) (t' := 408) rfl (Or.inl ⟨by decide +kernel, rfl⟩) rfl ?_
      exact nxt h (h_none n h hn1 hR)
    | 15, _ =>
      refine go_tsw (t := 408) (t' := 408) rfl (Or.inl ⟨by decide +kernel, rfl⟩) rfl ?_
      exact nxt h (h_none n h hn1 hR)
    | j + 16, hj => exact absurd hj (by omega)
