theorem appI_o {I : sm_I} {Q : mQ} {l c : Nat} (h1 : c ≠ 9) (h2 : c ≠ 24) (h3 : c ≠ 25) : appI I Q l c = I c := by
  unfold appI
  split <;> (funext j; simp [uI, h1, h2, h3])
theorem appI_l {I : sm_I} {Q : mQ} {l c j : Nat} (h : j ≠ l) : appI I Q l c j = I c j := by
  unfold appI
  split <;> simp [uI, h]
theorem appI_b {I : sm_I} {Q : mQ} {l c : Nat} (hc : c = 24 ∨ c = 25) : appI I Q l c l = if Q l = [] then fbu I else I c l := by
  unfold appI
  rcases hc with rfl | rfl <;> split <;> simp [uI]
theorem DT_c {I J : sm_I} {X Y : sm_X} (k : DT I X) (e4 : J 4 = I 4) (e6 : J 6 = I 6) (e12 : J 12 = I 12) (e16 : J 16 0 = I 16 0) (e22 : J 22 = I 22) (x5 : Y 205 = X 205) (x6 : Y 206 = X 206) (x7 : Y 207 = X 207) : DT J Y := by
  unfold DT at k ⊢
  rw [e4, e6, e12, e16, e22, x5, x6, x7]
  exact k
theorem SP_c {h : am_Hp} {ow : ow_T} {sb : Nat} {I J : sm_I} {Z : mZ} {X Y : sm_X} (k : SP h ow sb I Z X) (e0 : J 0 = I 0) (e11 : J 11 = I 11) (e20 : J 20 = I 20) (e21 : J 21 = I 21) (e40 : J 40 = I 40) (x8 : Y 208 = X 208) (x9 : Y 209 = X 209) (x10 : Y 210 = X 210) : SP h ow sb J Z Y := by
  unfold SP lv rwi rwo pn at k ⊢
  rw [e0, e11, e20, e21, e40, x8, x9, x10]
  exact k
theorem TM_c {h : am_Hp} {ow : ow_T} {t : Nat} {I J : sm_I} {Z : mZ} {X Y : sm_X} (k : TM h ow I Z X t) (e0 : J 0 = I 0) (e11 : J 11 = I 11) (e18 : J 18 = I 18) (e19 : J 19 = I 19) (e40 : J 40 = I 40) (x1 : Y 211 = X 211) (x2 : Y 212 = X 212) (x3 : Y 213 = X 213) (x4 : Y 214 = X 214) (x5 : Y 215 = X 215) : TM h ow J Z Y t := by
  unfold TM lv rwi rwo pn at k ⊢
  rw [e0, e11, e18, e19, e40, x1, x2, x3, x4, x5]
  exact k
theorem LK_c {h : am_Hp} {ow : ow_T} {sb l : Nat} {X Y : sm_X} {q : List mg} (k : LK h ow sb l X q) (x0 : Y 200 l = X 200 l) (x1 : Y 201 l = X 201 l) (x2 : Y 202 l = X 202 l) : LK h ow sb l Y q := by
  unfold LK at k ⊢
  rw [x0, x1, x2]
  exact k
theorem fbu_c {I J : sm_I} (e : J 3 = I 3) : fbu J = fbu I := by
  unfold fbu
  rw [e]
theorem CD_app {w : Nat → Bool} {e l x : Nat} {m0 m : mg} {h h2 : am_Hp} {I : sm_I} {Q : mQ} {Z : mZ} {X X2 : sm_X} {ow : ow_T} {sb : Nat} {pr td : Int32} {vq va vs : Value} (c : CD w e m0 h I Q Z X ow sb) (hl : l < 16) (hx : ow x = 0) (hxw : w x = true) (hxt : tbc x = none) (hx0 : x ≠ 0) (hlen : h2.length = h.length) (hm : MF h ow sb m pr td vq va vs)
    (hc : h2[x]? = some (.inl (9, [.int (m.1 0), .int (I 9 l + 1), .int pr, .int td, vq, va, vs, .null])))
    (h0 : X 201 l = .null → X2 200 l = .ref x ∧ ∀ b, b ≠ x → ow b ≠ 0 → h2[b]? = h[b]?)
    (h1 : ∀ y, X 201 l = .ref y → X2 200 l = X 200 l ∧ (∀ b, b ≠ x → b ≠ y → ow b ≠ 0 → h2[b]? = h[b]?) ∧ ∀ k n p t a b c d, h[y]? = some (.inl (9, [.int k, .int n, .int p, .int t, a, b, c, d])) → h2[y]? = some (.inl (9, [.int k, .int n, .int p, .int t, a, b, c, .ref x])))
    (h3 : X2 201 l = .ref x) (h4 : ∀ v, X 202 l = .int v → X2 202 l = .int (v + 1))
    (hb0 : cq e m0 Q l = [] → X2 203 l = .int (fbu I) ∧ X2 204 l = .int (fbu I)) (hb1 : ¬ cq e m0 Q l = [] → X2 203 l = X 203 l ∧ X2 204 l = X 204 l)
    (hXl : ∀ c j, j ≠ l → X2 c j = X c j) (hXc : ∀ c, 205 ≤ c → X2 c = X c) :
    CD w e m0 h2 (appI I Q l) (uQ Q l (Q l ++ [mgn m (I 9 l + 1)])) Z X2 (owx ow x (2 + l)) sb := by
  obtain ⟨k1, k2, k3, k4, k5, k6, k7⟩ := c
  have hxe : ex (2 + l) ow h (owx ow x (2 + l)) h2 := by
    intro b hb hz
    have hbx : b ≠ x := fun e => hb (e ▸ hx)
    refine ⟨?_, by simp [owx, hbx]⟩
    obtain ⟨L, l1, l2, l3, l4, l5⟩ := k2 l hl
    by_cases eL : L = []
    · rw [if_pos eL] at l3
      exact (h0 l3).2 b hbx hb
    · rw [if_neg eL] at l3
      have hp := List.length_pos_iff.mpr eL
      obtain ⟨y, hy⟩ : ∃ y, L[L.length - 1]? = some y := ⟨_, List.getElem?_eq_getElem (by omega)⟩
      have k3' : X 201 l = .ref y := by rw [l3]; unfold nxv; rw [hy]
      obtain ⟨m9, hm9⟩ : ∃ m9, (cq e m0 Q l)[L.length - 1]? = some m9 := ⟨_, List.getElem?_eq_getElem (by omega)⟩
      have := (l5 _ y m9 hy hm9).1
      exact (h1 y k3').2.1 b hbx (fun e => by rw [e] at hz; exact hz this) hb
  refine ⟨⟨k1.1, fun a ha => ?_, fun a ha => ?_⟩, fun j hj => ?_, fun j hj => ?_, ?_, ?_, fun t ht => ?_, fun k hk => ?_⟩
  · obtain ⟨q1, q2⟩ := k1.2.1 a (by omega)
    refine ⟨q1, ?_⟩
    have : a ≠ x := by
      intro e
      have := lt_of hc
      omega
    simp [owx, this, q2]
  · by_cases e : a = x
    · subst e
      exact ⟨hxw, hxt, hx0⟩
    · simp only [owx, if_neg e] at ha
      exact k1.2.2 a ha
  · by_cases ej : j = l
    · subst ej
      have := LK_app (n := I 9 j + 1) hl (k2 j hl) hx hm hc h0 h1 h3 h4
      have q : cq e m0 (uQ Q j (Q j ++ [mgn m (I 9 j + 1)])) j = cq e m0 Q j ++ [mgn m (I 9 j + 1)] := by
        unfold cq uQ
        split <;> simp
      rw [q]
      exact this
    · have q : cq e m0 (uQ Q l (Q l ++ [mgn m (I 9 l + 1)])) j = cq e m0 Q j := by
        unfold cq uQ
        simp [ej]
      rw [q]
      exact LK_c (LK_ex hxe (by omega) (by omega) (by omega) (k2 j hj)) (hXl _ _ ej) (hXl _ _ ej) (hXl _ _ ej)
  · obtain ⟨b1, b2, b3⟩ := k3 j hj
    by_cases ej : j = l
    · subst ej
      refine ⟨fun c => ?_, fun c => ?_, fun c1 c2 => ?_⟩
      · have hq : ¬ cq e m0 Q j = [] := by simp [cq, c]
        obtain ⟨z1, z2⟩ := hb1 hq
        obtain ⟨y1, y2, y3⟩ := b1 c
        rw [z1, z2, appI_b (Or.inl rfl), appI_b (Or.inr rfl), fbu_c (appI_o (by omega) (by omega) (by omega))]
        refine ⟨y1, ?_, ?_⟩
        · rw [y2]; simp [uQ]; exact fun a b => absurd b a
        · rw [y3]; simp [uQ]; exact fun a b => absurd b a
      · obtain ⟨y1, y2, y3, y4⟩ := b2 c
        have hq : ¬ cq e m0 Q j = [] := by
          unfold cq
          rw [if_neg (by omega)]
          exact y3
        obtain ⟨z1, z2⟩ := hb1 hq
        rw [z1, z2, appI_b (Or.inr rfl), if_neg y3, appI_b (Or.inl rfl), if_neg y3]
        exact ⟨y1, y2, by simp [uQ], y4⟩
      · obtain ⟨y1, y2⟩ := b3 c1 c2
        rw [appI_b (Or.inl rfl), appI_b (Or.inr rfl)]
        have hq : cq e m0 Q j = Q j := by simp [cq, c1]
        rw [hq] at hb0 hb1
        by_cases c : Q j = []
        · rw [if_pos c, if_pos c]
          exact hb0 c
        · rw [if_neg c, if_neg c, (hb1 c).1, (hb1 c).2]
          exact ⟨y1, y2⟩
    · unfold BT
      rw [hXl _ _ ej, hXl _ _ ej, appI_l ej, appI_l ej, fbu_c (appI_o (by omega) (by omega) (by omega)), show uQ Q l (Q l ++ [mgn m (I 9 l + 1)]) j = Q j by simp [uQ, ej]]
      exact ⟨b1, b2, b3⟩
  · exact DT_c k4 (appI_o (by omega) (by omega) (by omega)) (appI_o (by omega) (by omega) (by omega)) (appI_o (by omega) (by omega) (by omega)) (by rw [appI_o (by omega) (by omega) (by omega)]) (appI_o (by omega) (by omega) (by omega)) (hXc _ (by omega)) (hXc _ (by omega)) (hXc _ (by omega))
  · exact SP_c (SP_ex hxe (by omega) (by omega) k5) (appI_o (by omega) (by omega) (by omega)) (appI_o (by omega) (by omega) (by omega)) (appI_o (by omega) (by omega) (by omega)) (appI_o (by omega) (by omega) (by omega)) (appI_o (by omega) (by omega) (by omega)) (hXc _ (by omega)) (hXc _ (by omega)) (hXc _ (by omega))
  · exact TM_c (TM_ex hxe (by omega) (k6 t ht)) (appI_o (by omega) (by omega) (by omega)) (appI_o (by omega) (by omega) (by omega)) (appI_o (by omega) (by omega) (by omega)) (appI_o (by omega) (by omega) (by omega)) (appI_o (by omega) (by omega) (by omega)) (hXc _ (by omega)) (hXc _ (by omega)) (hXc _ (by omega)) (hXc _ (by omega)) (hXc _ (by omega))
  · have := k7 k hk
    unfold prk at this ⊢
    rw [appI_o (by omega) (by omega) (by omega)]
    exact this
