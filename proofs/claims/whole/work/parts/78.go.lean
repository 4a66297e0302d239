theorem CD_t0 {w : Nat → Bool} {e : Nat} {m0 : mg} {h : am_Hp} {I : sm_I} {Q : mQ} {Z : mZ} {X : sm_X} {ow : ow_T} {sb : Nat} {v : Int32} (c : CD w e m0 h I Q Z X ow sb) (hv : ¬ v = 2) : CD w e m0 h (uI I 16 0 v) Q Z X ow sb := by
  obtain ⟨k1, k2, k3, ⟨d1, d2, d3⟩, k5, k6, k7⟩ := c
  refine ⟨k1, k2, k3, ⟨d1, fun d hd => ?_, d3⟩, k5, k6, k7⟩
  obtain ⟨n, a, b⟩ := d2 d hd
  exact ⟨n, a, fun c => absurd c hv⟩
theorem ex_fr {w : Nat → Bool} {h h2 : am_Hp} {ow : ow_T} {k s : Nat} (o : OW w h ow) (f : fr tbc h h2 k s) : ex 0 ow h ow h2 := fun b hb _ => ⟨f.2.2.2 b (o.2.2 b hb).2.1 (OW_lt o hb), rfl⟩
theorem Rq_fr {w : Nat → Bool} {h h2 : am_Hp} {ow : ow_T} {k s : Nat} {v : Value} {q : Nat → Int32} (o : OW w h ow) (f : fr tbc h h2 k s) (r : Rq h ow v q) : Rq h2 ow v q := Rq_ex (ex_fr o f) (by omega) r
theorem An_fr {w : Nat → Bool} {h h2 : am_Hp} {ow : ow_T} {k s : Nat} {v : Value} {q : Nat → Int32} (o : OW w h ow) (f : fr tbc h h2 k s) (r : An h ow v q) : An h2 ow v q := An_ex (ex_fr o f) (by omega) r
theorem mshw_o {t c : Nat} {r : Nat → Int32} {I : sm_I} (h1 : c ≠ 18) (h2 : c ≠ 19) : mshw t r I c = I c := by
  funext j
  simp [mshw, uI, h1, h2]
theorem mshw_sm {t : Nat} {r : Nat → Int32} {h : am_Hp} {I : sm_I} {X : sm_X} (s : sm tbc h I X) : sm tbc h (mshw t r I) X := by
  refine sm_hid s (fun c j hc => ?_)
  have h1 : c ≠ 18 := fun e => by subst e; cases hc
  have h2 : c ≠ 19 := fun e => by subst e; cases hc
  rw [mshw_o h1 h2]
theorem mshw_18 {t u : Nat} {r : Nat → Int32} {I : sm_I} (hn : u ≠ t) : mshw t r I 18 u = I 18 u := by
  simp [mshw, uI, hn]
theorem mshw_19 {t u i : Nat} {r : Nat → Int32} {I : sm_I} (ht : t < 2) (hu : u < 2) (hn : u ≠ t) (hi : i < 4) : mshw t r I 19 (4 * u + i) = I 19 (4 * u + i) := by
  simp only [mshw, uI]
  rw [if_neg (by omega), if_neg (by omega), if_neg (by omega), if_neg (by omega), if_neg (by omega)]
theorem CD_shw {w : Nat → Bool} {e : Nat} {m0 : mg} {h : am_Hp} {I : sm_I} {Q : mQ} {Z : mZ} {X : sm_X} {ow : ow_T} {sb t : Nat} {v : Value} {r s : Nat → Int32} (c : CD w e m0 h I Q Z X ow sb) (ht : t < 2) (a : An h ow v s) (e7 : s 2 = r 7) (e8 : s 3 = r 8) (e9 : s 4 = r 9) (e10 : s 5 = r 10) : CD w e m0 h (mshw t r I) Q Z (uX X 215 t v) ow sb := by
  obtain ⟨k1, k2, k3, k4, k5, k6, k7⟩ := c
  refine ⟨k1, fun l hl => LK_c (k2 l hl) rfl rfl rfl, fun l hl => ?_, DT_c k4 (mshw_o (by omega) (by omega)) (mshw_o (by omega) (by omega)) (mshw_o (by omega) (by omega)) (by rw [mshw_o (by omega) (by omega)]) (mshw_o (by omega) (by omega)) rfl rfl rfl, SP_c k5 (mshw_o (by omega) (by omega)) (mshw_o (by omega) (by omega)) (mshw_o (by omega) (by omega)) (mshw_o (by omega) (by omega)) (mshw_o (by omega) (by omega)) rfl rfl rfl, fun u hu => ?_, fun k hk => ?_⟩
  · have := k3 l hl
    unfold BT fbu at this ⊢
    rw [mshw_o (by omega) (by omega), mshw_o (by omega) (by omega), mshw_o (by omega) (by omega)]
    exact this
  · obtain ⟨a1, a2, a3, a4⟩ := k6 u hu
    have f1 : lv (mshw t r I) = lv I := by funext k; unfold lv pn; rw [mshw_o (by omega) (by omega), mshw_o (by omega) (by omega)]
    have f2 : rwi (mshw t r I) = rwi I := by funext k; unfold rwi pn; rw [mshw_o (by omega) (by omega)]
    have f3 : rwo (mshw t r I) = rwo I := by funext k; unfold rwo pn; rw [mshw_o (by omega) (by omega)]
    have f4 : mshw t r I 40 = I 40 := mshw_o (by omega) (by omega)
    refine ⟨by rw [f1, f2]; exact a1, by rw [f3, f4]; exact a2, ?_, ?_⟩
    · by_cases eu : u = t
      · subst eu
        intro z
        exact absurd z (by simp [mshw, uI])
      · rw [mshw_18 eu]
        intro z
        simp only [uX, eu, and_false, if_false]
        exact a3 z
    · by_cases eu : u = t
      · subst eu
        intro _
        refine ⟨s, by simpa [uX] using a, ?_, ?_, ?_, ?_⟩
        · rw [e7]; simp only [mshw, uI]; rw [if_neg (by omega), if_neg (by omega), if_neg (by omega), if_pos ⟨trivial, trivial⟩]
        · rw [e8]; simp only [mshw, uI]; rw [if_neg (by omega), if_neg (by omega), if_pos ⟨trivial, trivial⟩]
        · rw [e9]; simp only [mshw, uI]; rw [if_neg (by omega), if_pos ⟨trivial, trivial⟩]
        · rw [e10]; simp only [mshw, uI]; rw [if_pos ⟨trivial, trivial⟩]
      · have z0 : mshw t r I 19 (4 * u) = I 19 (4 * u) := mshw_19 (i := 0) ht hu eu (by omega)
        rw [mshw_18 eu, z0, mshw_19 (i := 1) ht hu eu (by omega), mshw_19 (i := 2) ht hu eu (by omega), mshw_19 (i := 3) ht hu eu (by omega)]
        intro z
        simp only [uX, eu, and_false, if_false]
        exact a4 z
  · have := k7 k hk
    unfold prk at this ⊢
    rw [mshw_o (by omega) (by omega)]
    exact this
