theorem nI_k {a b : Nat} (ha : a < 3) (hb : b < 3) (h : a ≠ b) : ¬ nI a = nI b := fun e => h ((nI_eq (by omega) (by omega)).mp e)
theorem prk_n {I : sm_I} {k : Nat} (hk : k < 3) (h : prk I k) (hn : ¬ I 11 k = -1) : pn I k < 4 ∧ ohn I k < 4 ∧ ¬ pn I k = ohn I k ∧ I 11 k = nI (pn I k) ∧ ohI I k = nI (ohn I k) ∧ rwi I k = 2 * k + pn I k % 2 ∧ rwo I k = 2 * k + ohn I k % 2 := by
  have : k = 0 ∨ k = 1 ∨ k = 2 := by omega
  rcases this with rfl | rfl | rfl <;> rcases h with e | e | e <;> first | exact absurd e hn | (simp only [pn, ohn, ohI, rwi, rwo, e, if_neg (show ¬ (1 : Nat) = 0 by decide), if_neg (show ¬ (2 : Nat) = 0 by decide)]; decide)
theorem lv_1 {I : sm_I} {k : Nat} (hk : k < 3) (k1 : K1 I) (hp : prk I k) (h : lv I k = true) : I 0 (pn I k) = 1 := by
  obtain ⟨h1, h2⟩ := lv_up h
  exact ((k1 _ (prk_n hk hp h1).1).1).resolve_left h2
theorem isS_S {kd td : Int32} {k : Nat} {z : ms} (h : kd = 3 ∨ kd = 4) : isS (mgS kd k td z) = true := by
  unfold isS mgS
  rcases h with e | e <;> simp [e]
theorem lk_lt {I : sm_I} {k : Nat} (hk : k < 3) (h : prk I k) (hn : ¬ I 11 k = -1) : lk I k < 16 ∧ lb I k < 16 := by
  obtain ⟨a, b, -⟩ := prk_n hk h hn
  unfold lk lb
  omega
/-- a state goes out -/
theorem MID_st {X k : Nat} {kd : Int32} {I I' : sm_I} {Q : mQ} {Z : mZ} (hX : X < 2 ^ 30) (hk : k < 3) (hkd : kd = 3 ∨ kd = 4) (hlv : lv I k = true) (hI : ∀ c j, ¬ (j = k ∧ (c = 13 ∨ c = 14 ∨ c = 15 ∨ c = 16)) → I' c j = I c j) (h15 : I' 15 k = I 15 k + 1) (hdo : I' 16 k = 1 ∨ I' 13 k = 1)
    (k1 : K1 I) (k2 : K2 I) (k3 : ∀ k', k' < 3 → K3 I' k') (k4 : ∀ t, t < 2 → K4 (I', Q, Z) t) (k5 : K5 (I', Q, Z)) (k6 : ∀ l, l < 16 → K6 X I Q l) (k7 : K7 X (I, Q, Z)) (k8 : ∀ k', k' < 3 → K8 X I Q k') (hus : ∀ i m, ¬ US I Q k i m) (k9 : K9 X (I', Q, Z)) (k10 : K10 (I', Q, Z)) (k11 : K11 I)
    (z9 : k = 0 → ∀ d, d < 2 → I 5 d = 1 → DR X (dsk I d) (Z (rwi I 0)) 0) :
    MID (X + 1) (rsn (pn I k) (ohn I k) (mgS kd k (I 15 k + 1) (Z (rwi I k))) (I', Q, Z)) := by
  have ef : ∀ c, c ≠ 13 → c ≠ 14 → c ≠ 15 → c ≠ 16 → I' c = I c := fun c h1 h2 h3 h4 => by
    funext j
    exact hI c j (by omega)
  have e0 := ef 0 (by decide) (by decide) (by decide) (by decide)
  have e5 := ef 5 (by decide) (by decide) (by decide) (by decide)
  have e7 := ef 7 (by decide) (by decide) (by decide) (by decide)
  have e9 := ef 9 (by decide) (by decide) (by decide) (by decide)
  have e10 := ef 10 (by decide) (by decide) (by decide) (by decide)
  have e11 := ef 11 (by decide) (by decide) (by decide) (by decide)
  have e17 := ef 17 (by decide) (by decide) (by decide) (by decide)
  have e40 := ef 40 (by decide) (by decide) (by decide) (by decide)
  have hp : prk I k := by have := (k3 k hk).1; unfold prk at this ⊢; rw [e11] at this; exact this
  obtain ⟨hn1, -⟩ := lv_up hlv
  obtain ⟨p1, p2, p3, p4, p5, p6, p7⟩ := prk_n hk hp hn1
  obtain ⟨l1, l2⟩ := lk_lt hk hp hn1
  -- the word of the new number is not there
  have hnw : ∀ j w, ¬ UW I' Q k j w := by
    intro j w u
    obtain ⟨u1, u2, u3, u4, u5⟩ := u
    obtain ⟨⟨n, a1, a2, a3⟩, -, -⟩ := k8 k hk
    rw [lb_c e11] at u1
    obtain ⟨⟨w', b1, b2⟩, -⟩ := a3 (lb I k) l2 j w u1 u3 (Or.inr u2)
    rw [h15, a2, b2] at u4
    have : nI n + 1 = nI (n + 1) := nI_add n 1
    rw [this] at u4
    have := (nI_eq (by omega) (by omega)).mp u4
    omega
  have hns : ∀ i m, ¬ US I' Q k i m := fun i m u => hus i m ((US_c e10 e11).mp u)
  have k8' : ∀ k', k' < 3 → K8 (X + 1) I' Q k' := by
    intro k' hk'
    by_cases e : k' = k
    · subst e
      obtain ⟨⟨n, a1, a2, a3⟩, a4, a5⟩ := k8 k' hk
      refine ⟨⟨n + 1, by omega, by rw [h15, a2]; exact nI_add n 1, fun l hl i m hi h1 h2 => ?_⟩, fun i j m m' u _ => absurd u (hns i m), fun i m u => absurd u (hns i m)⟩
      obtain ⟨⟨w, b1, b2⟩, b3⟩ := a3 l hl i m hi h1 h2
      rw [e11, e40, lk_c e11, lb_c e11]
      exact ⟨⟨w, by omega, b2⟩, b3⟩
    · obtain ⟨⟨n, a1, a2, a3⟩, a4, a5⟩ := K8_c (J := I') e10 e11 (hI 13 k' (by omega)) (hI 15 k' (by omega)) (hI 16 k' (by omega)) (hI 40 k' (by omega)) (k8 k' hk')
      exact ⟨⟨n, by omega, a2, a3⟩, a4, a5⟩
  have k6' : ∀ l, l < 16 → K6 X I' Q l := fun l hl => K6_c e0 (by rw [e9]) (by rw [e10]) (by rw [ef 24 (by decide) (by decide) (by decide) (by decide)]) (by rw [ef 25 (by decide) (by decide) (by decide) (by decide)]) rfl (k6 l hl)
  have k7' : K7 (X + 1) (I', Q, Z) := by
    obtain ⟨a1, a2, a3, a4, a5⟩ := k7
    refine ⟨a1, a2, a3, fun l hl i m hi hm => ?_, fun t ht => ?_⟩
    · rw [show (I', Q, Z).1 17 = I 17 from e17]; exact a4 l hl i m hi hm
    · obtain ⟨b1, n, b2, b3⟩ := a5 t ht
      rw [show (I', Q, Z).1 17 = I 17 from e17, show (I', Q, Z).1 40 = I 40 from e40, rwo_c (I := I) (J := (I', Q, Z).1) e11]
      exact ⟨b1, n, by omega, b3⟩
  have base : MID (X + 1) (I', Q, Z) := by
    refine ⟨K1_c e0 (ef 1 (by decide) (by decide) (by decide) (by decide)) (ef 2 (by decide) (by decide) (by decide) (by decide)) k1, K2_c (ef 3 (by decide) (by decide) (by decide) (by decide)) (ef 4 (by decide) (by decide) (by decide) (by decide)) e5 (ef 6 (by decide) (by decide) (by decide) (by decide)) k2, k3, k4, k5, fun l hl => ?_, k7', k8', fun d hd h5 => ?_, k10, K11_c (ef 4 (by decide) (by decide) (by decide) (by decide)) e5 (ef 6 (by decide) (by decide) (by decide) (by decide)) e7 k11⟩
    · obtain ⟨a1, a2, a3, a4, a5, N, T, b1, b2⟩ := k6' l hl
      exact ⟨a1, a2, a3, a4, a5, N, T, by omega, b2⟩
    · obtain ⟨a1, a2, a3, a4, a5⟩ := k9 d hd h5
      refine ⟨LG_X (Nat.le_succ X) a1, fun z => ?_, fun z => DR_X (Nat.le_succ X) (a3 z), fun z i m u => DR_X (Nat.le_succ X) (a4 z i m u), fun z y i m u => DR_X (Nat.le_succ X) (a5 z y i m u)⟩
      obtain ⟨n, b1, b2⟩ := a2 z
      exact ⟨n, DR_X (Nat.le_succ X) b1, b2⟩
  unfold rsn
  split
  · exact base
  · rename_i hup
    have hup1 : I' 0 (ohn I k) = 1 := by
      have := (K1_c e0 (ef 1 (by decide) (by decide) (by decide) (by decide)) (ef 2 (by decide) (by decide) (by decide) (by decide)) k1 (ohn I k) p2).1
      exact this.resolve_left hup
    have hf1 : I' 0 (pn I k) = 1 := by rw [e0]; exact lv_1 hk k1 hp hlv
    have hMK : MK (mgS kd k (I 15 k + 1) (Z (rwi I k))) := Or.inr (Or.inr (Or.inl ⟨by rcases hkd with e | e <;> simp [mgS, e], k, hk, rfl⟩))
    obtain ⟨m, em⟩ : ∃ m, m = mgS kd k (I 15 k + 1) (Z (rwi I k)) := ⟨_, rfl⟩
    have m5 : m.1 5 = nI k := by rw [em]; rfl
    have m6 : m.1 6 = I 15 k + 1 := by rw [em]; rfl
    have m2 : m.2 = Z (rwi I k) := by rw [em]; rfl
    have mS : isS m = true := by rw [em]; exact isS_S hkd
    have m0 : ¬ m.1 0 = 5 := by
      rw [em]
      show ¬ kd = 5
      rcases hkd with e | e <;> rw [e] <;> decide
    rw [← em] at hMK ⊢
    obtain ⟨l, el⟩ : ∃ l, l = 4 * pn I k + ohn I k := ⟨_, rfl⟩
    have elk : lk I k = l := by rw [el]; rfl
    have ec : ∀ c, c ≠ 9 → c ≠ 24 → c ≠ 25 → (mapp l m (I', Q, Z)).1 c = I' c := fun c h1 h2 h3 => mapp_I h1 h2 h3
    rw [← el]
    have huw : ∀ k i y, UW (mapp l m (I', Q, Z)).1 (mapp l m (I', Q, Z)).2.1 k i y → UW I' Q k i y := fun k i y u => (UW_snd u).elim id (fun z => absurd z.2.1 m0)
    have hus' : ∀ k' i y, US (mapp l m (I', Q, Z)).1 (mapp l m (I', Q, Z)).2.1 k' i y → US I' Q k' i y ∨ (k' = k ∧ y = mgn m (I' 9 l + 1) ∧ i = (Q l).length) ∨ ¬ k' < 3 := fun k' i y u => (US_snd u).elim Or.inl (fun z => by
      by_cases c : k' < 3
      · refine Or.inr (Or.inl ⟨?_, z.2.2.2⟩)
        by_cases e : k' = k
        · exact e
        · exact absurd (z.2.2.1.symm.trans m5) (nI_k c hk e)
      · exact Or.inr (Or.inr c))
    obtain ⟨q1, q2, q3, q4, q5, q6, q7, q8, q9, q10, q11⟩ := base
    have f0 := ec 0 (by decide) (by decide) (by decide)
    have f5 := ec 5 (by decide) (by decide) (by decide)
    have f11 := ec 11 (by decide) (by decide) (by decide)
    have f12 := ec 12 (by decide) (by decide) (by decide)
    have f13 := ec 13 (by decide) (by decide) (by decide)
    have f14 := ec 14 (by decide) (by decide) (by decide)
    have f15 := ec 15 (by decide) (by decide) (by decide)
    have f16 := ec 16 (by decide) (by decide) (by decide)
    have f17 := ec 17 (by decide) (by decide) (by decide)
    have f40 := ec 40 (by decide) (by decide) (by decide)
    refine ⟨K1_c f0 (ec 1 (by decide) (by decide) (by decide)) (ec 2 (by decide) (by decide) (by decide)) q1, K2_c (ec 3 (by decide) (by decide) (by decide)) (ec 4 (by decide) (by decide) (by decide)) f5 (ec 6 (by decide) (by decide) (by decide)) q2, fun k hk => K3_c f0 (ec 1 (by decide) (by decide) (by decide)) f11 (by rw [f12]) (by rw [f13]) (by rw [f14]) (by rw [f16]) (by rw [f40]) (q3 k hk), fun t ht => K4_c (M := (I', Q, Z)) f0 f11 (by rw [f16]) (by rw [f17]) (row1_c f11 rfl) (q4 t ht), K5_c (M := (I', Q, Z)) f0 f5 f11 (by rw [f16]) (ec 20 (by decide) (by decide) (by decide)) (ec 21 (by decide) (by decide) (by decide)) (ec 22 (by decide) (by decide) (by decide)) (ec 23 (by decide) (by decide) (by decide)) rfl q5, fun l' hl' => ?_, ?_, fun k' hk' => ?_, fun d hd h5 => ?_, ?_, K11_c (ec 4 (by decide) (by decide) (by decide)) f5 (ec 6 (by decide) (by decide) (by decide)) (ec 7 (by decide) (by decide) (by decide)) q11⟩
    · rw [el]
      exact K6_snd (M := (I', Q, Z)) p1 p2 p3 hf1 hup1 hMK (k6' l' hl')
    · obtain ⟨a1, a2, a3, a4, a5⟩ := q7
      refine ⟨a1, a2, a3, fun l' hl' i y hi hy => ?_, fun t ht => ?_⟩
      · rw [f17]
        by_cases e : l' = l
        · subst e
          rw [mapp_Q, uQs] at hi
          rcases get_app hi with z | ⟨-, z⟩
          · exact a4 _ hl' i y z hy
          · rw [z, mgn_0 (by decide), m5]
            show (nI k = 0 → OK m.2) ∧ ∀ t, t < 2 → nI k = nI (1 + t) → TB m.2 ∧ m.2.1 11 = I' 17 t
            rw [m2]
            refine ⟨fun e0 => ?_, fun t ht et => ?_⟩
            · have : k = 0 := (nI_eq (by omega) (by omega)).mp e0
              subst this
              have := rwi_lt0 (I := I)
              have h01 : rwi I 0 = 0 ∨ rwi I 0 = 1 := by omega
              rcases h01 with e | e <;> rw [e]
              · exact a1
              · exact a2
            · have : k = 1 + t := (nI_eq (by omega) (by omega)).mp et
              subst this
              refine ⟨a3 _ (by unfold rwi; omega) (by unfold rwi; omega), ?_⟩
              have z := (k4 t ht (by rw [lv_c (I := I) e0 e11]; exact hlv)).2.2.2
              unfold row1 at z
              rw [rwi_c (I := I) (J := (I', Q, Z).1) e11] at z
              exact z
        · rw [mapp_Q, uQn e] at hi
          exact a4 l' hl' i y hi hy
      · rw [f17, f40, rwo_c (I := I') f11]
        exact a5 t ht
    · obtain ⟨⟨n, a1, a2, a3⟩, a4, a5⟩ := q8 k' hk'
      have hm6 : ∀ n, k' = k → I' 15 k' = nI n → m.1 6 = nI n := fun n e z => by rw [m6, ← h15, ← e, z]
      refine ⟨⟨n, a1, by rw [f15]; exact a2, fun l' hl' i y hi h1 h2 => ?_⟩, fun i j y y' u u' => ?_, fun i y u => ?_⟩
      · rw [f11, f40, lk_c (I := I') f11, lb_c (I := I') f11]
        by_cases e : l' = l
        · subst e
          rw [mapp_Q, uQs] at hi
          rcases get_app hi with z | ⟨-, z⟩
          · exact a3 _ hl' i y z h1 h2
          · have hkk : k' = k := by
              rw [z, mgn_0 (by decide), m5] at h1
              by_cases c : k' = k
              · exact c
              · exact absurd h1.symm (nI_k hk' hk c)
            subst hkk
            refine ⟨⟨n, Nat.le_refl _, by rw [z, mgn_0 (by decide)]; exact hm6 n rfl a2⟩, by rw [e11]; exact hn1, fun _ => by rw [lk_c e11]; exact elk.symm, fun h => ?_⟩
            rw [z, mgn_0 (by decide)] at h
            exact absurd h m0
        · rw [mapp_Q, uQn e] at hi
          exact a3 l' hl' i y hi h1 h2
      · rcases hus' k' i y u with z | z | z
        · rcases hus' k' j y' u' with z' | z' | z'
          · exact a4 i j y y' z z'
          · exact absurd (z'.1 ▸ z) (hns i y)
          · exact absurd hk' z'
        · rcases hus' k' j y' u' with z' | z' | z'
          · exact absurd (z.1 ▸ z') (hns j y')
          · rw [z.2.2, z'.2.2]
          · exact absurd hk' z'
        · exact absurd hk' z
      · rw [f13, f15, f16]
        rcases hus' k' i y u with z | z | z
        · obtain ⟨b1, b2, b3⟩ := a5 i y z
          exact ⟨b1, b2, fun j w y => b3 j w (huw _ _ _ y)⟩
        · obtain ⟨z1, z2, z3⟩ := z
          subst z1
          refine ⟨?_, hdo, fun j w y => hnw j w (huw _ _ _ y)⟩
          rw [z2, mgn_0 (by decide), m6, h15]
        · exact absurd hk' z
    · rw [f5] at h5
      obtain ⟨a1, a2, a3, a4, a5⟩ := q9 d hd h5
      rw [dsk_c (I := I') (ec 7 (by decide) (by decide) (by decide)), lv_c (I := I') f0 f11, rwi_c (I := I') f11, rwo_c (I := I') f11, f12, f13, f14, f16, ec 22 (by decide) (by decide) (by decide), mapp_Z]
      refine ⟨a1, a2, a3, fun z i y u => ?_, fun z y i w u => a5 z y i w (huw _ _ _ u)⟩
      rcases hus' 0 i y u with u1 | ⟨u1, u2, u3⟩ | u1
      · exact a4 z i y u1
      · subst u1
        rw [u2]
        show DR (X + 1) (dsk I' d) m.2 0
        rw [m2, dsk_c e7]
        exact DR_X (Nat.le_succ X) (z9 rfl d hd (by rw [← e5]; exact h5))
      · omega
    · unfold K10
      rw [rwi_c (I := I') f11, rwo_c (I := I') f11, f12, f13, f14, f16, mapp_Z]
      refine ⟨q10.1, fun z => ⟨fun i y u => ?_, fun i y u => (q10.2 z).2 i y (huw _ _ _ u)⟩⟩
      rcases hus' 0 i y u with u1 | ⟨u1, u2, u3⟩ | u1
      · exact (q10.2 z).1 i y u1
      · subst u1
        rw [u2]
        show leq m.2 (Z (rwi I' 0))
        rw [m2, rwi_c e11]
        exact ⟨rfl, rfl⟩
      · omega
