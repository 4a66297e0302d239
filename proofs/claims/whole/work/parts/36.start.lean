/-! whole_start out of a statement on AM alone -/
theorem am_Nw_of {Tb : List Jvm.Cond} {args : Array Value} {s : State} (h : ∀ w ∈ Tb, am_nk w = true → w.before args s = true) : am_Nw Tb s := by
  intro w hw hk
  have h := h w hw hk
  unfold am_nk at hk
  split at hk
  · exact va_Nw.of rfl h
  · exact va_Nw.of rfl h
  · exact va_Nw.of rfl h
  · exact va_Nw.of rfl h
  · exact h
  · exact h
  · rename_i C D
    obtain ⟨c, t, e1, e2, e3⟩ := va_Nc.of h
    show (Cond.not (.castable C D)).before #[] s = true
    simp [Cond.before, Cond.holds, Cond.value, e1, e2, e3]
  · cases hk
theorem am_ok_nm {Tb : List Jvm.Cond} {cl : List vw_C} {tys : List FieldType} {T : am_T} {own nm nm' : String} {pcs : Nat → Nat} {j len : Nat} {ri i : Instr} {hs : List Nat} (hi : ∀ n, i ≠ .putfield n) (h : am_ok Tb cl tys T own nm pcs j ri len hs i = true) : am_ok Tb cl tys T own nm' pcs j ri len hs i = true := by
  cases i with
  | putfield n => exact absurd rfl (hi n)
  | _ => exact h
def am_np (i : Instr) : Bool := match i with
  | .putfield _ => false
  | _ => true
theorem am_mok_nm {Tb : List Jvm.Cond} {cl : List vw_C} {tys : List FieldType} {T : am_T} {Y : List (MethodName × ByteArray)} {C n d nm : String} {bytes : ByteArray} {code : List Instr} {pcs : Nat → Nat} (hi : code.all am_np = true) (h : am_mok Tb cl tys T Y ⟨C, n, d⟩ bytes code pcs) : am_mok Tb cl tys T Y ⟨C, nm, d⟩ bytes code pcs := by
  intro j i hj
  obtain ⟨ri, len, hs, hd, ho⟩ := h j i hj
  have hn : ∀ n, i ≠ .putfield n := by
    intro n e
    have := List.all_eq_true.mp hi i (List.mem_of_getElem? hj)
    rw [e] at this
    cases this
  refine ⟨ri, len, hs, hd, ?_⟩
  rcases ho with h1 | h1 | h1
  · exact Or.inl (am_ok_nm hn h1)
  · exact Or.inr (Or.inl h1)
  · exact Or.inr (Or.inr h1)
/-- the class numbers and the array classes at the start -/
theorem am_known {s : State} {args : Array Value} (b base : Nat) (hts : ∀ w ∈ lw_tbl, w.before args s = true) : ∃ D : (Nat → ClassId) × (Nat → Nat → Nat) × (FieldType → ClassId), am_Kn (D, am_cl, am_tys, b, base) s := by
  obtain ⟨c0, i0, k0⟩ := u_known (C := "MirrorPairs") (T := am_f0) (N := 6) (n := 6) hts am_ul0 (hts (.instantiable "MirrorPairs" 6) (List.mem_of_getElem? (i := 98) (by decide +kernel)))
  obtain ⟨c1, i1, k1⟩ := u_known (C := "MirrorPairs$Network") (T := am_f1) (N := 5) (n := 5) hts am_ul1 (hts (.instantiable "MirrorPairs$Network" 5) (List.mem_of_getElem? (i := 106) (by decide +kernel)))
  obtain ⟨c2, i2, k2⟩ := u_known (C := "MirrorPairs$Link") (T := am_f2) (N := 7) (n := 7) hts am_ul2 (hts (.instantiable "MirrorPairs$Link" 7) (List.mem_of_getElem? (i := 113) (by decide +kernel)))
  obtain ⟨c3, i3, k3⟩ := u_known (C := "MirrorPairs$Mirror") (T := am_f3) (N := 5) (n := 5) hts am_ul3 (hts (.instantiable "MirrorPairs$Mirror" 5) (List.mem_of_getElem? (i := 172) (by decide +kernel)))
  obtain ⟨c4, i4, k4⟩ := u_known (C := "MirrorPairs$Store") (T := am_f4) (N := 13) (n := 13) hts am_ul4 (hts (.instantiable "MirrorPairs$Store" 13) (List.mem_of_getElem? (i := 200) (by decide +kernel)))
  obtain ⟨c5, i5, k5⟩ := u_known (C := "MirrorPairs$StoreState") (T := am_f5) (N := 14) (n := 14) hts am_ul5 (hts (.instantiable "MirrorPairs$StoreState" 14) (List.mem_of_getElem? (i := 209) (by decide +kernel)))
  obtain ⟨c6, i6, k6⟩ := u_known (C := "MirrorPairs$Writes") (T := am_f6) (N := 3) (n := 3) hts am_ul6 (hts (.instantiable "MirrorPairs$Writes" 3) (List.mem_of_getElem? (i := 215) (by decide +kernel)))
  obtain ⟨c7, i7, k7⟩ := u_known (C := "MirrorPairs$Terminal") (T := am_f7) (N := 14) (n := 14) hts am_ul7 (hts (.instantiable "MirrorPairs$Terminal" 14) (List.mem_of_getElem? (i := 347) (by decide +kernel)))
  obtain ⟨c8, i8, k8⟩ := u_known (C := "MirrorPairs$Request") (T := am_f8) (N := 7) (n := 7) hts am_ul8 (hts (.instantiable "MirrorPairs$Request" 7) (List.mem_of_getElem? (i := 428) (by decide +kernel)))
  obtain ⟨c9, i9, k9⟩ := u_known (C := "MirrorPairs$Message") (T := am_f9) (N := 8) (n := 8) hts am_ul9 (hts (.instantiable "MirrorPairs$Message" 8) (List.mem_of_getElem? (i := 478) (by decide +kernel)))
  obtain ⟨c10, i10, k10⟩ := u_known (C := "MirrorPairs$Answer") (T := am_f10) (N := 6) (n := 6) hts am_ul10 (hts (.instantiable "MirrorPairs$Answer" 6) (List.mem_of_getElem? (i := 639) (by decide +kernel)))
  obtain ⟨c11, i11, k11⟩ := u_known (C := "MirrorPairsModel") (T := am_f11) (N := 33) (n := 33) hts am_ul11 (hts (.instantiable "MirrorPairsModel" 33) (List.mem_of_getElem? (i := 981) (by decide +kernel)))
  have prim : ∀ ty : FieldType, refKind ty = false → (Cond.arrayClass ty).before args s = true → ∃ c, ArrOfT s c ty ∧ va_RA s c ty := by
    intro ty hp h
    obtain ⟨cA, kA, comp, f1, f2, f3⟩ := Cond.arrayClass_spec h
    refine ⟨cA, fun n z => ⟨fun k h => (by cases h), kA, f2, comp, f3⟩, ?_⟩
    cases ty <;> first | exact f1 | (cases hp)
  have obj : ∀ C : String, (Cond.arrayOver (.object C)).before args s = true → ∃ c, ArrOfT s c (.object C) ∧ va_RA s c (.object C) := by
    intro C h
    obtain ⟨comp, c, k, f1, f2, f3, f4, f5⟩ := Cond.arrayOver_spec h
    exact ⟨c, fun n z => ⟨fun k h => (by cases h), k, f3, comp, f4⟩, k, comp, f3, f4, f1, f5⟩
  have arr : ∀ t : FieldType, (Cond.arrayOver (.array t)).before args s = true → ∃ c, ArrOfT s c (.array t) ∧ va_RA s c (.array t) := by
    intro t h
    obtain ⟨comp, c, k, f1, f2, f3, f4, f5⟩ := arrayOverA_spec h
    exact ⟨c, fun n z => ⟨fun k h => (by cases h), k, f3, comp, f4⟩, f5⟩
  obtain ⟨a0, p0⟩ := prim .int rfl (hts (.arrayClass .int) (List.mem_of_getElem? (i := 150) (by decide +kernel)))
  obtain ⟨a1, p1⟩ := prim .boolean rfl (hts (.arrayClass .boolean) (List.mem_of_getElem? (i := 149) (by decide +kernel)))
  obtain ⟨a2, p2⟩ := obj "MirrorPairs$Link" (hts (.arrayOver (.object "MirrorPairs$Link")) (List.mem_of_getElem? (i := 112) (by decide +kernel)))
  obtain ⟨a3, p3⟩ := obj "MirrorPairs$Request" (hts (.arrayOver (.object "MirrorPairs$Request")) (List.mem_of_getElem? (i := 287) (by decide +kernel)))
  obtain ⟨a4, p4⟩ := obj "MirrorPairs$Terminal" (hts (.arrayOver (.object "MirrorPairs$Terminal")) (List.mem_of_getElem? (i := 346) (by decide +kernel)))
  obtain ⟨a5, p5⟩ := obj "MirrorPairs$Pair" (hts (.arrayOver (.object "MirrorPairs$Pair")) (List.mem_of_getElem? (i := 384) (by decide +kernel)))
  obtain ⟨a6, p6⟩ := arr .int (hts (.arrayOver (.array .int)) (List.mem_of_getElem? (i := 178) (by decide +kernel)))
  refine ⟨(fun k => [c0, c1, c2, c3, c4, c5, c6, c7, c8, c9, c10, c11].getD k 0, fun k => [i0, i1, i2, i3, i4, i5, i6, i7, i8, i9, i10, i11].getD k (fun _ => 0), fun ty => if ty = .int then a0 else if ty = .boolean then a1 else if ty = (.object "MirrorPairs$Link") then a2 else if ty = (.object "MirrorPairs$Request") then a3 else if ty = (.object "MirrorPairs$Terminal") then a4 else if ty = (.object "MirrorPairs$Pair") then a5 else a6), ?_, ?_⟩
  · intro k q hq
    match k, hq with
    | 0, hq => cases hq; exact k0
    | 1, hq => cases hq; exact k1
    | 2, hq => cases hq; exact k2
    | 3, hq => cases hq; exact k3
    | 4, hq => cases hq; exact k4
    | 5, hq => cases hq; exact k5
    | 6, hq => cases hq; exact k6
    | 7, hq => cases hq; exact k7
    | 8, hq => cases hq; exact k8
    | 9, hq => cases hq; exact k9
    | 10, hq => cases hq; exact k10
    | 11, hq => cases hq; exact k11
    | k + 12, hq => simp [am_cl] at hq
  · intro ty ht
    simp only [am_tys, List.mem_cons, List.not_mem_nil, or_false] at ht
    rcases ht with rfl | rfl | rfl | rfl | rfl | rfl | rfl
    · exact p0
    · exact p1
    · exact p2
    · exact p3
    · exact p4
    · exact p5
    · exact p6
set_option maxHeartbeats 4000000 in
/-- the claim's walk, out of AM's: with every script AM's law comes to 1, in the claim's room -/
theorem am_start (hA : ∀ vs : List Int32, vs.length ≤ 2560 → am_Go (am_prog (fun _ => true)) 12 am_c192 (some .boolean) 0 (am_en [.ref 0] 4) [] [.inr (.int, vs.map Value.int)] (fun r h' => r = some (.int 1) ∧ h'.length ≤ 600001 ∧ am_sl h' ≤ 7302249))
    {p : Program} {e : Env} {s : State} {m : MethodId} {below : List Frame} {meth : Method} {c : Code} (l : Launch) {b L : Nat} {xs : Nat → Int32} (hL : L ≤ 2560) (C0 : lw_At p s m meth c b L xs) : W p l e room_1 s m #[Value.ref b] below meth c s.heap [] 0 0 (lw_Z below #[Value.ref b] s) (entryFrame m ([Value.ref b] : List Value).toArray 4) := by
  obtain ⟨hx, hb, hr, hml, hown, hts, hX, hbl, hlocks, hgv⟩ := C0
  obtain ⟨D, hK⟩ := am_known b s.heap.size hts
  generalize hG : ((D, am_cl, am_tys, b, s.heap.size) : am_G) = G at hK
  have hnots : ∀ w ∈ am_nots, w.before #[Value.ref b] s = true := fun w hw => flat_of_before _ hgv w ((by decide +kernel : ∀ w ∈ am_nots, w ∈ flatC (Jvm.Cond.and given_1 narrow_1)) w hw)
  have hall : ∀ w ∈ am_wt, w.before #[Value.ref b] s = true := fun w hw => (List.mem_append.mp hw).elim (hts w) (hnots w)
  have hts2 : ∀ w ∈ am_ts am_wt, w.before #[Value.ref b] s = true := fun w hw => hall w (List.mem_filter.mp hw).1
  have hnw : am_Nw am_wt s := am_Nw_of (fun w hw _ => hall w hw)
  have hG1 : G.2.1 = am_cl := by rw [← hG]
  have hG2 : G.2.2.1 = am_tys := by rw [← hG]
  have hG3 : G.2.2.2.1 = b := by rw [← hG]
  have hG4 : G.2.2.2.2 = s.heap.size := by rw [← hG]
  have hlen : ((List.range L).map xs).length = L := by simp
  obtain ⟨r, hz, nn, ff, ⟨hrr, hz1, hz2⟩, hrun⟩ := hA ((List.range L).map xs) (by rw [hlen]; exact hL)
  subst hrr
  have hrun := hrun (max nn ff) (max nn ff) (by omega) (by omega)
  generalize hvs : (List.range L).map xs = vs at hrun hlen
  have hH : am_H G [.inr (.int, vs.map Value.int)] s s.heap := by
    refine ⟨by rw [hG4]; rfl, by rw [hG3, hG4]; exact hbl, by simp, fun i c' hi => ?_⟩
    have hi0 : i < 1 := (List.getElem?_eq_some_iff.mp hi).1
    obtain rfl : i = 0 := by omega
    cases hi
    refine ⟨fun v hv => ?_, Or.inl ⟨rfl, ?_⟩⟩
    · obtain ⟨z, -, rfl⟩ := List.mem_map.mp hv
      rfl
    · obtain ⟨scr, x1, x2, x3, x4, x5⟩ := hX
      refine ⟨scr, ?_, x2, x3, ?_⟩
      · show s.heap[am_ad G 0]? = some scr
        have : am_ad G 0 = b := by unfold am_ad; rw [if_pos rfl]; exact hG3
        rw [this]
        exact x1
      · apply List.ext_getElem?
        intro j
        by_cases hj : j < L
        · rw [Array.getElem?_toList, x5 j hj, ← hvs]
          simp [hj, am_v]
        · rw [List.getElem?_eq_none (by rw [Array.length_toList, x4]; omega), List.getElem?_eq_none (by simp; omega)]
  obtain ⟨-, pcs, hmk, hpc0⟩ := am_good_all 192 _ _ _ _ _ rfl rfl
  have hmk2 : am_mok am_wt G.2.1 G.2.2.1 (am_prog (fun _ => true)) am_Y ⟨"MirrorPairsLaw", meth.name, "([I)Z"⟩ code am_c192 pcs := by
    rw [hG1, hG2]
    exact am_mok_nm (by decide +kernel) hmk
  have CX : am_Cx p s m #[Value.ref b] meth c code G am_wt (am_prog (fun _ => true)) "MirrorPairsLaw" meth.name := ⟨hx, hb, hown, hts2, hnw, hK, rfl, by rw [hG1]; exact am_clok_all⟩
  have hgood : ∀ (mm : Nat) y bytes code nL rt, am_Y[mm]? = some (y, bytes) → (am_M (am_prog (fun _ => true)))[mm]? = some (code, nL, rt) → plainName y.cls = true ∧ ∃ pcs : Nat → Nat, am_mok am_wt G.2.1 G.2.2.1 (am_prog (fun _ => true)) am_Y y bytes code pcs ∧ pcs 0 = 0 := by
    intro mm y bytes cd nL rt h1 h2
    rw [hG1, hG2]
    exact am_good_all mm y bytes cd nL rt h1 h2
  have hsl0 : am_sl [(.inr (.int, vs.map Value.int) : am_C)] = L := by simp [am_sl, am_sz, hlen]
  have k := am_run_met (l := l) (e := e) (below := below) (R := room_1) (n0 := 1) (s0 := L) (hz := hz) (Q := lw_Z below #[Value.ref b] s) (r := some (.int 1)) (f := max nn ff) (d := 12) (rt := some .boolean) CX hmk2 (by decide) (by decide) (by show hz.length - 1 ≤ 600000; omega) (by show am_sl hz - L ≤ room_1.slots; exact Nat.le_trans (show am_sl hz - L ≤ 7302249 by omega) (by decide))
    (fun j len i ri lo st g1 g2 g3 => by
      intro q1 q2 H locs ls hH' hL' hl'
      have hri : ri = i ∧ len = 1 := by
        unfold am_okr at g2
        split at g2 <;> first | exact of_decide_eq_true g2 | cases g2
      obtain ⟨rfl, rfl⟩ := hri
      have hi : ri = .ireturn ∧ st = [.int 1] := by
        unfold am_ret at g3
        split at g3 <;> first | (cases g3; done) | skip
        all_goals first
          | (split at g3 <;> first | (cases g3; exact ⟨rfl, rfl⟩) | cases g3)
          | (cases g3; exact ⟨rfl, rfl⟩)
          | skip
      obtain ⟨rfl, rfl⟩ := hi
      refine va_forget (fun q hq => by have := hL' q hq; rw [hG4] at this; exact this) ?_
      refine W.widen (k := 600000) (n := 7302249) (by omega) (by omega) ?_
      exact lw_ret hx hb hr hlocks g1)
    (am_met l G am_wt (am_prog (fun _ => true)) am_Y (by rw [hG1]; exact am_clok_all) hgood (max nn ff) 12) (max nn ff) 0 (am_en [.ref 0] 4) [] [.inr (.int, vs.map Value.int)] (by rw [hml]; rfl) hrun
  rw [hpc0] at k
  have k := k (Nat.le_refl _) (by rw [hsl0]; exact Nat.le_refl _) s.heap [] _ hH (fun q hq => by cases hq) (am_entry (G := G) (as := [.ref 0]) (n := 4) (fun v hv => by rw [List.mem_singleton.mp hv]; rfl) (by decide))
  have hb0 : am_v G (.ref 0) = .ref b := by
    show Value.ref (am_ad G 0) = .ref b
    have : am_ad G 0 = b := by unfold am_ad; rw [if_pos rfl]; exact hG3
    rw [this]
  rw [hsl0, Nat.sub_self] at k
  rw [lg_entry_eq]
  have e9 : ([Value.ref 0] : List Value).map (am_v G) = [.ref b] := by show [am_v G (.ref 0)] = _; rw [hb0]
  rw [e9] at k
  exact k
