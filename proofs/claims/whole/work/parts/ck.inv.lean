/-- a fresh message is delivered -/
theorem INV_br {X f p l : Nat} {lost : Bool} {m : mg} {q : List mg} {M : mM} (hX : X + 60 < 2 ^ 28) (k : INV X M) (hD : KD M.1) (hS : KS M.1) (hf : f < 4) (hp : p < 4) (el : l = 4 * f + p) (hq : M.2.1 l = m :: q) (hn : ¬ m.1 1 ≤ M.1 10 l) : rbr f p m (mar2 l (m.1 1) (mar1 lost l M)) = mset 10 (mdel f p m (mar2 l (m.1 1) (mar1 lost l M))) ∧ INV (X + 42) (rbr f p m (mar2 l (m.1 1) (mar1 lost l M))) ∧ SI (mdel f p m (mar2 l (m.1 1) (mar1 lost l M))) ∧ KD (rbr f p m (mar2 l (m.1 1) (mar1 lost l M))).1 ∧ KS (rbr f p m (mar2 l (m.1 1) (mar1 lost l M))).1 ∧ MK m ∧ M.1 0 p = 1 := by
  have hl : l < 16 := by omega
  obtain ⟨a1, a2, a3, a4, a5, a6⟩ := k.1.2.2.2.2.2.1 l hl
  have hMK : MK m := a5 0 m (by rw [hq]; rfl)
  obtain ⟨v1, v2, v3⟩ := a1 (by rw [hq]; exact List.cons_ne_nil _ _)
  rw [el, show (4 * f + p) % 4 = p by omega] at v2
  obtain ⟨N, eN⟩ : ∃ N, N = mar2 l (m.1 1) (mar1 lost l M) := ⟨_, rfl⟩
  obtain ⟨kN, -, -⟩ := INV_m2 (lost := lost) (by omega) k hl hq
  obtain ⟨f1, f2, f3, f4, f5⟩ := mar_f (l := l) (lost := lost) (M := M)
  have fN : ∀ c, c ≠ 10 → c ≠ 24 → c ≠ 25 → N.1 c = M.1 c := fun c h1 h2 h3 => by
    rw [eN]
    show uI (mar1 lost l M).1 10 l (m.1 1) c = _
    rw [uI_f h1, f1 c h2 h3]
  rw [← eN] at kN ⊢
  have hup : N.1 0 p = 1 := by rw [fN 0 (by decide) (by decide) (by decide)]; exact v2
  have dN : KD N.1 := KD_c (fN 1 (by decide) (by decide) (by decide)) (fN 11 (by decide) (by decide) (by decide)) (fN 12 (by decide) (by decide) (by decide)) (fN 13 (by decide) (by decide) (by decide)) hD
  have sN : KS N.1 := KS_c (fN 0 (by decide) (by decide) (by decide)) (fN 1 (by decide) (by decide) (by decide)) (fN 2 (by decide) (by decide) (by decide)) hS
  have pack : (rbr f p m N = mset 10 (mdel f p m N) ∧ INV (X + 42) (rbr f p m N) ∧ SI (mdel f p m N) ∧ ∀ c, c = 0 ∨ c = 1 ∨ c = 2 ∨ c = 11 ∨ c = 12 ∨ c = 13 → (rbr f p m N).1 c = N.1 c) → rbr f p m N = mset 10 (mdel f p m N) ∧ INV (X + 42) (rbr f p m N) ∧ SI (mdel f p m N) ∧ KD (rbr f p m N).1 ∧ KS (rbr f p m N).1 ∧ MK m ∧ M.1 0 p = 1 := fun h => ⟨h.1, h.2.1, h.2.2.1, KD_c (h.2.2.2 1 (by omega)) (h.2.2.2 11 (by omega)) (h.2.2.2 12 (by omega)) (h.2.2.2 13 (by omega)) dN, KS_c (h.2.2.2 0 (by omega)) (h.2.2.2 1 (by omega)) (h.2.2.2 2 (by omega)) sN, hMK, v2⟩
  obtain ⟨m1, m2, m3, m4⟩ := MK_5 hMK
  rcases m4 with h0 | h0 | h0 | h0 | h0
  · exact pack (del_1 hX kN hp hup h0 (m1 h0))
  · exact pack (del_2 hX kN hp hup h0 (m2 h0))
  · obtain ⟨kk, k1, k2⟩ := m3 (Or.inl h0)
    exact pack (del_3 hX k hf hp el hl hq hn k1 k2 (Or.inl h0) eN)
  · obtain ⟨kk, k1, k2⟩ := m3 (Or.inr (Or.inl h0))
    exact pack (del_3 hX k hf hp el hl hq hn k1 k2 (Or.inr h0) eN)
  · obtain ⟨kk, k1, k2⟩ := m3 (Or.inr (Or.inr h0))
    obtain ⟨z1, z2, z3, z4, z5⟩ := del_5 hX k hD hf hp el hl hq hn k1 k2 h0 eN
    exact ⟨z1, z2, z3, z4, KS_c (z5 0 (by omega)) (z5 1 (by omega)) (z5 2 (by omega)) sN, hMK, v2⟩
/-- a message arrives -/
theorem INV_arr {X f p : Nat} {lost : Bool} {M : mM} (hX : X + 60 < 2 ^ 28) (k : INV X M) (hD : KD M.1) (hS : KS M.1) (hf : f < 4) (hp : p < 4) : rarr f p lost M = marr f p lost M ∧ INV (X + 42) (rarr f p lost M).2 ∧ KD (rarr f p lost M).2.1 ∧ KS (rarr f p lost M).2.1 ∧ ∀ m qs, M.2.1 (4 * f + p) = m :: qs → ¬ m.1 1 ≤ M.1 10 (4 * f + p) → MK m ∧ ¬ M.1 0 p = 0 ∧ SI (mdel f p m (mar2 (4 * f + p) (m.1 1) (mar1 lost (4 * f + p) M))) := by
  obtain ⟨l, el⟩ : ∃ l, l = 4 * f + p := ⟨_, rfl⟩
  have hl : l < 16 := by omega
  unfold rarr marr
  rw [← el]
  cases hq : M.2.1 l with
  | nil => exact ⟨rfl, INV_X (by omega) k, hD, hS, fun m qs z => by cases z⟩
  | cons m q =>
    have hcl : ∀ m' qs, m :: q = m' :: qs → ¬ m'.1 1 ≤ M.1 10 l → MK m' ∧ ¬ M.1 0 p = 0 ∧ SI (mdel f p m' (mar2 l (m'.1 1) (mar1 lost l M))) := fun m' qs z hn => by
      cases z
      obtain ⟨-, -, z3, -, -, z6, z7⟩ := INV_br (lost := lost) hX k hD hS hf hp el hq hn
      exact ⟨z6, by rw [z7]; decide, z3⟩
    simp only []
    by_cases c1 : M.1 24 l = -1
    · rw [if_pos c1, if_pos c1]
      exact ⟨rfl, INV_X (by omega) k, hD, hS, hcl⟩
    · rw [if_neg c1, if_neg c1]
      by_cases c2 : m.1 1 ≤ M.1 10 l
      · rw [if_pos c2, if_pos c2]
        obtain ⟨f1, -⟩ := mar_f (l := l) (lost := lost) (M := M)
        exact ⟨rfl, INV_X (by omega) (INV_m1 (by omega) k hl hq c2), KD_c (f1 1 (by decide) (by decide)) (f1 11 (by decide) (by decide)) (f1 12 (by decide) (by decide)) (f1 13 (by decide) (by decide)) hD, KS_c (f1 0 (by decide) (by decide)) (f1 1 (by decide) (by decide)) (f1 2 (by decide) (by decide)) hS, hcl⟩
      · rw [if_neg c2, if_neg c2]
        obtain ⟨z1, z2, z3, z4, z5, z6, z7⟩ := INV_br (lost := lost) hX k hD hS hf hp el hq c2
        exact ⟨by rw [z1], z2, z4, z5, hcl⟩
/-! all that holds between calls -/
def XV (X : Nat) (M : mM) : Prop := INV X M ∧ KD M.1 ∧ KS M.1
theorem XV_X {X Y : Nat} {M : mM} (h : X ≤ Y) (k : XV X M) : XV Y M := ⟨INV_X h k.1, k.2⟩
theorem XV_req {X t : Nat} {kd rc vl : Int32} {M : mM} (hX : X + 300 < 2 ^ 28) (k : XV X M) (ht : t < 2) : rreq t kd rc vl M = mreq t kd rc vl M ∧ XV (X + 200) (mreq t kd rc vl M).2 := by
  obtain ⟨ki, kd', ks⟩ := k
  have e := e_req (kd := kd) (rc := rc) (vl := vl) ht ki.1
  refine ⟨e, ?_⟩
  rw [← e]
  have km := MID_req (kd := kd) (rc := rc) (vl := vl) (by omega) ht ki.1
  have hs : SD2 (rreq t kd rc vl M).2 ∧ ∀ c, c = 0 ∨ c = 1 ∨ c = 2 ∨ c = 11 ∨ c = 12 ∨ c = 13 → (rreq t kd rc vl M).2.1 c = M.1 c := by
    unfold rreq
    split
    · split
      · exact ⟨ki.2, fun _ _ => rfl⟩
      · refine ⟨tl_SD ht ki.2, fun c hc => ?_⟩
        exact (rtl_I (M := mrqZ t kd rc vl M) (by omega) (by omega) (by omega) (by omega) (by omega) (by omega) (by omega) (by omega)).1
    · exact ⟨ki.2, fun _ _ => rfl⟩
  exact ⟨⟨MID_X (by omega) km, hs.1⟩, KD_c (hs.2 1 (by omega)) (hs.2 11 (by omega)) (hs.2 12 (by omega)) (hs.2 13 (by omega)) kd', KS_c (hs.2 0 (by omega)) (hs.2 1 (by omega)) (hs.2 2 (by omega)) ks⟩
theorem XV_tk {X : Nat} {M : mM} (hX : X + 300 < 2 ^ 28) (k : XV X M) : rtk M = mtck M ∧ XV (X + 200) (mtck M) := by
  obtain ⟨a1, a2, a3, a4, -⟩ := INV_tk hX k.1 k.2.1 k.2.2
  exact ⟨a1, INV_X (by omega) a2, a3, a4⟩
theorem XV_arr {X f p : Nat} {lost : Bool} {M : mM} (hX : X + 300 < 2 ^ 28) (k : XV X M) (hf : f < 4) (hp : p < 4) : rarr f p lost M = marr f p lost M ∧ XV (X + 200) (marr f p lost M).2 := by
  obtain ⟨a1, a2, a3, a4, -⟩ := INV_arr (lost := lost) (by omega) k.1 k.2.1 k.2.2 hf hp
  refine ⟨a1, ?_⟩
  rw [← a1]
  exact ⟨INV_X (by omega) a2, a3, a4⟩
theorem XV_los {X f p : Nat} {M : mM} (k : XV X M) : XV X (mlos f p M).2 := by
  refine ⟨INV_los k.1, ?_⟩
  unfold mlos
  split
  · exact k.2
  · exact k.2
theorem XV_wr {X d : Nat} {M : mM} (hX : X + 300 < 2 ^ 28) (k : XV X M) (hd : d < 2) : rwr d M = mwr d M ∧ XV (X + 200) (mwr d M).2 := by
  obtain ⟨a1, a2⟩ := INV_wr (by omega) k.1 hd
  refine ⟨a1, ?_⟩
  rw [← a1]
  have hc : ∀ c, c = 0 ∨ c = 1 ∨ c = 2 ∨ c = 11 ∨ c = 12 ∨ c = 13 → (rwr d M).2.1 c = M.1 c := fun c hc => by
    unfold rwr
    split
    · split
      · rw [rset_I (by omega) (by omega) (by omega) (by omega) (by omega) (by omega) (by omega) (by omega) (by omega) (by omega)]
        exact mwr_o (by omega) (by omega)
      · rfl
    · rfl
  exact ⟨INV_X (by omega) a2, KD_c (hc 1 (by omega)) (hc 11 (by omega)) (hc 12 (by omega)) (hc 13 (by omega)) k.2.1, KS_c (hc 0 (by omega)) (hc 1 (by omega)) (hc 2 (by omega)) k.2.2⟩
theorem XV_cp {X : Nat} {M : mM} (k : XV X M) : rcp M = mcpy M ∧ XV X (mcpy M).2 := by
  obtain ⟨a1, a2⟩ := INV_cp k.1
  refine ⟨a1, by rw [← a1]; exact a2, ?_⟩
  have hm : ∀ d c, c = 0 ∨ c = 1 ∨ c = 2 ∨ c = 11 ∨ c = 12 ∨ c = 13 → mcpI M.1 d (M.1 6 d).toNatClampNeg c = M.1 c := fun d c hc => by
    unfold mcpI
    split
    · rw [uI_f (by omega), uI_f (by omega), mcp0_o (by omega) (by omega)]
    · exact mcp0_o (by omega) (by omega)
  have hc : ∀ c, c = 0 ∨ c = 1 ∨ c = 2 ∨ c = 11 ∨ c = 12 ∨ c = 13 → (mcpy M).2.1 c = M.1 c := fun c hc => by
    unfold mcpy
    split
    · exact hm 0 c hc
    · split
      · exact hm 1 c hc
      · rfl
  exact ⟨KD_c (hc 1 (by omega)) (hc 11 (by omega)) (hc 12 (by omega)) (hc 13 (by omega)) k.2.1, KS_c (hc 0 (by omega)) (hc 1 (by omega)) (hc 2 (by omega)) k.2.2⟩
theorem XV_ff {X p : Nat} {M : mM} (k : XV X M) (hp : p < 4) : rfl0 p M = mfl0 p M ∧ XV X (mfl0 p M).2 := by
  obtain ⟨a1, a2⟩ := INV_ff k.1 hp
  refine ⟨a1, by rw [← a1]; exact a2, ?_⟩
  unfold mfl0
  split
  · exact k.2
  · have hc : ∀ c, c = 1 ∨ c = 11 ∨ c = 12 ∨ c = 13 → (mfp p M).1 c = M.1 c := fun c hc => by
      funext j
      rw [mfp_e, mstp_o (by omega), mstp_o (by omega), mstp_o (by omega), mcls_I (by omega) (by omega) (by omega) (by omega)]
      show uI (uI M.1 0 p 0) 2 p 0 c j = _
      rw [uI_c (by omega), uI_c (by omega)]
    refine ⟨KD_c (hc 1 (by omega)) (hc 11 (by omega)) (hc 12 (by omega)) (hc 13 (by omega)) k.2.1, fun q hq h0 h1 => ?_⟩
    have e2 : (mfp p M).1 2 q = uI (uI M.1 0 p 0) 2 p 0 2 q := by
      rw [mfp_e, mstp_o (by decide), mstp_o (by decide), mstp_o (by decide), mcls_I (by decide) (by decide) (by decide) (by decide)]
    have e0 : (mfp p M).1 0 q = uI (uI M.1 0 p 0) 2 p 0 0 q := by
      rw [mfp_e, mstp_o (by decide), mstp_o (by decide), mstp_o (by decide), mcls_I (by decide) (by decide) (by decide) (by decide)]
    rw [hc 1 (by omega)] at h1
    show ∃ s, s < 5 ∧ (mfp p M).1 2 q = nI s
    rw [e2]
    by_cases e : q = p
    · subst e
      rw [uI_s]
      exact ⟨0, by omega, rfl⟩
    · rw [uI_j e, uI_c (by decide)]
      have h0' : (mfp p M).1 0 q = 0 := h0
      rw [e0, uI_c (by decide), uI_j e] at h0'
      exact k.2.2 q hq h0' h1
theorem XV_fb {X b : Nat} {M : mM} (k : XV X M) (hb : b < 2) : XV X (mfl1 b M).2 := by
  refine ⟨INV_fb k.1 hb, ?_⟩
  unfold mfl1
  split
  · exact k.2
  · have hc : ∀ c, c ≠ 24 → c ≠ 3 → mbsI M.1 b 16 c = M.1 c := fun c h1 h2 => by
      funext j
      unfold mbsI
      rw [if_neg (fun z => h1 z.1), uI_c h2]
    exact ⟨KD_c (hc 1 (by decide) (by decide)) (hc 11 (by decide) (by decide)) (hc 12 (by decide) (by decide)) (hc 13 (by decide) (by decide)) k.2.1, KS_c (hc 0 (by decide) (by decide)) (hc 1 (by decide) (by decide)) (hc 2 (by decide) (by decide)) k.2.2⟩
theorem XV_rb {X b : Nat} {M : mM} (k : XV X M) (hb : b < 2) : XV X (mrr1 b M).2 := by
  refine ⟨INV_rb k.1 hb, ?_⟩
  unfold mrr1
  split
  · exact k.2
  · exact k.2
theorem XV_fd {X d : Nat} {M : mM} (hX : X + 300 < 2 ^ 28) (k : XV X M) (hd : d < 2) : rfl2 d M = mfl2 d M ∧ XV (X + 200) (mfl2 d M).2 := by
  obtain ⟨a1, a2⟩ := INV_fd (by omega) k.1 hd
  refine ⟨a1, ?_⟩
  rw [← a1]
  have hc : ∀ c, c = 0 ∨ c = 1 ∨ c = 2 ∨ c = 11 ∨ c = 12 ∨ c = 13 → (rfl2 d M).2.1 c = M.1 c := fun c hc => by
    unfold rfl2
    split
    · rfl
    · rw [rset_I (by omega) (by omega) (by omega) (by omega) (by omega) (by omega) (by omega) (by omega) (by omega) (by omega)]
      show uI (uI (if us M.1 (1 - d) = true then uI M.1 5 d 0 else M.1) 4 d 0) 6 d 0 c = _
      rw [uI_f (by omega), uI_f (by omega)]
      split
      · rw [uI_f (by omega)]
      · rfl
  exact ⟨INV_X (by omega) a2, KD_c (hc 1 (by omega)) (hc 11 (by omega)) (hc 12 (by omega)) (hc 13 (by omega)) k.2.1, KS_c (hc 0 (by omega)) (hc 1 (by omega)) (hc 2 (by omega)) k.2.2⟩
theorem XV_rd {X d : Nat} {M : mM} (k : XV X M) (hd : d < 2) : rrr2 d M = mrr2 d M ∧ XV X (mrr2 d M).2 := by
  obtain ⟨a1, a2⟩ := INV_rd k.1 hd
  refine ⟨a1, by rw [← a1]; exact a2, ?_⟩
  unfold mrr2
  split
  · exact k.2
  · exact k.2
theorem msq_I {k p c : Nat} {M : mM} (hc : c = 0 ∨ c = 1 ∨ c = 2) : (msq k p M).1 c = M.1 c := by
  unfold msq
  split
  · unfold msC
    rw [msS_I (by omega) (by omega) (by omega) (by omega)]
    show uI (uI M.1 13 k 1) 14 k 0 c = _
    rw [uI_f (by omega), uI_f (by omega)]
  · rfl
theorem XV_rp {X p : Nat} {M : mM} (hX : X + 300 < 2 ^ 28) (k : XV X M) (hp : p < 4) : rrr0 p M = mrr0 p M ∧ XV (X + 200) (mrr0 p M).2 := by
  obtain ⟨a1, a2, a3, -, -⟩ := INV_rp (by omega) k.1 k.2.1 hp
  refine ⟨a1, ?_⟩
  rw [← a1]
  refine ⟨INV_X (by omega) a2, a3, ?_⟩
  rw [a1]
  unfold mrr0
  by_cases c : M.1 0 p = 0
  · rw [if_pos c]
    obtain ⟨R, eR⟩ : ∃ R, R = (if M.1 1 p = 0 then mset 10 (mdc p M) else M) := ⟨_, rfl⟩
    have hR : ∀ q, q ≠ p → R.1 0 q = M.1 0 q ∧ R.1 1 q = M.1 1 q ∧ R.1 2 q = M.1 2 q := fun q hq => by
      rw [eR]
      split
      · rename_i c1
        obtain ⟨d1, -⟩ := DC (by omega) k.1 k.2.1 hp c
        rw [← d1, rdc_I (Or.inl rfl), rdc_I (Or.inr (Or.inl rfl)), rdc_I (Or.inr (Or.inr (Or.inl rfl)))]
        rw [uI_j hq, uI_j hq, uI_j hq]
        exact ⟨rfl, rfl, rfl⟩
      · exact ⟨rfl, rfl, rfl⟩
    rw [← eR]
    have hI : ∀ c, c = 0 ∨ c = 1 ∨ c = 2 → (mspr p R).1 c = uI (uI R.1 0 p 1) 1 p 0 c := fun c hc => by
      unfold mspr
      rw [msq_I hc, msq_I hc, msq_I hc]
    intro q hq h0 h1
    change (mspr p R).1 0 q = 0 at h0
    change (mspr p R).1 1 q = 0 at h1
    show ∃ s, s < 5 ∧ (mspr p R).1 2 q = nI s
    rw [hI 0 (Or.inl rfl)] at h0
    rw [hI 1 (Or.inr (Or.inl rfl))] at h1
    rw [hI 2 (Or.inr (Or.inr rfl))]
    by_cases e : q = p
    · subst e
      rw [uI_c (by decide), uI_s] at h0
      exact absurd h0 (by decide)
    · obtain ⟨r0, r1, r2⟩ := hR q e
      rw [uI_j e, uI_j e, r0] at h0
      rw [uI_j e, uI_j e, r1] at h1
      rw [uI_j e, uI_j e, r2]
      exact k.2.2 q hq h0 h1
  · rw [if_neg c]
    exact k.2.2
