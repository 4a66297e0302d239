theorem am_AOA_moved {t : FieldType} {u U : State} (hvm : u.vm.Alike U.vm) (h : (Cond.arrayOver (.array t)).before #[] u = true) : (Cond.arrayOver (.array t)).before #[] U = true := by
  obtain ⟨comp, c, k, h1, h2, h3, h4, h5⟩ := arrayOverA_spec h
  obtain ⟨k', hk', he⟩ := hvm.2.2 _ _ h3
  have hi : (U.vm.classes.findIdx? fun (x : Class) => match x.kind with | .array component _ => component == comp | _ => false) = some c := by
    rw [hvm.findIdx?_eq _ (fun _ => rfl)]
    exact h2
  have hkind : k'.kind = .array comp (.array t) := by rw [he]; exact h4
  have f1 : U.vm.findClass (FieldType.array t).toString = some comp := by rw [hvm.findClass]; exact h1
  have f2 : U.vm.findClass ("[" ++ (FieldType.array t).toString) = some c := by rw [hvm.findClass]; exact h5
  unfold Cond.before Cond.holds
  simp only [Cond.value]
  rw [f1, Option.bind_some]
  refine (congrArg (fun o : Option Nat => (o.bind (fun c => (U.vm.classes[c]?).map fun (k : Class) => match k.kind with | .array _ ty => decide (ty = FieldType.array t) && decide (U.vm.findClass ("[" ++ (FieldType.array t).toString) = some c) | _ => false) == some true)) hi).trans ?_
  simp [hk', hkind, f2]
theorem am_multi_outer (c : ClassId) (N h0 : Nat) : ∀ i : Nat, i ≤ N → Jvm.Free.Multi.outerC c N h0 i = am_ac c ((List.range i).map (fun j => Value.ref (h0 + 1 + j)) ++ List.replicate (N - i) .null)
  | 0, _ => by
    show ({ cls := c, slots := Array.replicate N .null, vm := .none } : Cell) = _
    simp [am_ac]
  | i + 1, hi => by
    show (Jvm.Free.Multi.outerC c N h0 i).setSlot i (.ref (h0 + 1 + i)) = _
    rw [am_multi_outer c N h0 i (by omega), am_ac_set]
    congr 1
    rw [List.set_append_right _ _ (by simp)]
    simp only [List.length_map, List.length_range, Nat.sub_self, List.range_succ, List.map_append, List.map_cons, List.map_nil, List.append_assoc]
    congr 1
    obtain ⟨d, hd⟩ : ∃ d, N - i = d + 1 := ⟨N - i - 1, by omega⟩
    rw [hd, show N - (i + 1) = d by omega]
    rfl
section AMT
variable {p : Program} {l : Launch} {e : Env} {R : Room} {s : State} {m : MethodId} {args : Array Value} {below : List Frame} {meth : Method} {c : Code} {Q : State → Prop} {cc : ByteArray} {G : am_G} {n0 s0 : Nat}
variable {pc : Nat} {lo : am_Lo} {st : List Value} {h : am_Hp}
theorem am_r_multi {own : String} {idx : Nat} {ty : FieldType} {n k : Int32} (hx : p.tables.exec = Jvm.exec) (hb : c.code = cc) (hown : s.vm.findClass own = some m.cls) (hK : am_Kn G s) (hlink : (Cond.classLink own idx ("[" ++ (FieldType.array ty).toString)).before args s = true) (hover : (Cond.arrayOver (.array ty)).before args s = true) (harr : (Cond.arrayClass ty).before args s = true)
    (ht1 : ty ∈ G.2.2.1) (ht2 : .array ty ∈ G.2.2.1) (hdd : (defaultValue ty).isDefault = true) (hd : decode cc pc = .ok (.multianewarray idx 2, 4)) (hn : ¬ n < 0) (hn2 : n.toNatClampNeg ≤ 65536) (hk : ¬ k < 0) (hk2 : k.toNatClampNeg ≤ 4096) {cs : List am_C}
    (hcs : cs = .inr (.array ty, (List.range k.toNatClampNeg).map (fun j => .ref (h.length + 1 + j))) :: List.replicate k.toNatClampNeg (.inr (ty, List.replicate n.toNatClampNeg (defaultValue ty)))) (hr1 : (h ++ cs).length - n0 ≤ R.cells) (hr2 : am_sl (h ++ cs) - s0 ≤ R.slots)
    (kk : am_W p l e R s m args below meth c Q G n0 s0 (pc + 4) lo (.ref h.length :: st) (h ++ cs)) : am_W p l e R s m args below meth c Q G n0 s0 pc lo (.int n :: .int k :: st) h := by
  intro h1 h2 H locs ls hH hL hl
  have hlen : cs.length = 1 + k.toNatClampNeg := by rw [hcs]; simp; omega
  have hsl : am_sl cs = k.toNatClampNeg + k.toNatClampNeg * n.toNatClampNeg := by
    rw [hcs]
    simp [am_sl, am_sz]
  have e1 : (h ++ cs).length - n0 = (h.length - n0) + 1 + k.toNatClampNeg := by rw [List.length_append]; omega
  have e2 : am_sl (h ++ cs) - s0 = (am_sl h - s0) + k.toNatClampNeg + k.toNatClampNeg * n.toNatClampNeg := by rw [am_sl_app]; omega
  have kk := kk (by rw [List.length_append]; omega) (by rw [am_sl_app]; omega)
  rw [e1] at kk hr1
  rw [e2] at kk hr2
  have hby : componentBytes ty ≤ 8 := by cases ty <;> simp [componentBytes]
  intro T hT X
  obtain ⟨vm₁, cA, comp, -, fA, fC, hO, hI, X', step⟩ := X.multianewarray2F hx hown hlink hover harr (g := F0 m pc ls (.int n :: .int k :: st.map (am_v G))) rfl (by rw [hb]; exact hd) rfl hk hn (by omega) (Nat.le_trans (Nat.mul_le_mul hn2 hby) (by decide)) (by omega) (am_fits_dflt ty) hdd (by omega) (by omega)
  have hcA := am_ra_prim hK ht2 fA
  have hcI : comp = G.1.2.2 ty := am_ra_prim hK ht1 fC
  subst hcA
  subst hcI
  generalize hF : Jvm.Free.Multi.fill (T.setVm vm₁) (G.1.2.2 (.array ty)) (G.1.2.2 ty) k.toNatClampNeg n.toNatClampNeg (defaultValue ty) k.toNatClampNeg = F at X' step
  have hTh : (T.setVm vm₁).heap = H := hT
  obtain ⟨f1, f2, -, -⟩ := Jvm.Free.Multi.fill_facts (T.setVm vm₁) (G.1.2.2 (.array ty)) (G.1.2.2 ty) k.toNatClampNeg n.toNatClampNeg (defaultValue ty) k.toNatClampNeg
  rw [hF, hTh] at f1 f2
  rw [am_multi_outer _ _ _ _ (Nat.le_refl _)] at f2
  have hold : ∀ x : Nat, x < H.size → F.heap[x]? = H[x]? := fun x hx => by
    have := Jvm.Free.Multi.fill_old (T.setVm vm₁) (G.1.2.2 (.array ty)) (G.1.2.2 ty) k.toNatClampNeg n.toNatClampNeg (defaultValue ty) (a := x) (by rw [hTh]; exact hx) k.toNatClampNeg
    rw [hF, hTh] at this
    exact this
  have hrow : ∀ j : Nat, j < k.toNatClampNeg → F.heap[H.size + 1 + j]? = some (Jvm.Free.Multi.innerC (G.1.2.2 ty) n.toNatClampNeg (defaultValue ty)) := fun j hj => by
    have := Jvm.Free.Multi.fill_inner (T.setVm vm₁) (G.1.2.2 (.array ty)) (G.1.2.2 ty) k.toNatClampNeg n.toNatClampNeg (defaultValue ty) k.toNatClampNeg j hj
    rw [hF, hTh] at this
    exact this
  have hnew := am_ad_new hH
  have hpos := hH.2.2.1
  have had : ∀ j : Nat, am_ad G (h.length + j) = H.size + j := fun j => by
    have hs := hH.1
    unfold am_ad
    rw [if_neg (by omega)]
    omega
  have hP : am_H G (h ++ cs) s F.heap := by
    refine ⟨by rw [List.length_append, f1, hlen]; have := hH.1; omega, hH.2.1, by rw [List.length_append]; omega, fun i c' hi => ?_⟩
    by_cases hlt : i < h.length
    · rw [List.getElem?_append_left hlt] at hi
      exact am_at_kept (hH.2.2.2 i c' hi) (hold _ (am_H_lt hH hlt))
    · rw [List.getElem?_append_right (by omega)] at hi
      obtain ⟨j, rfl⟩ : ∃ j, i = h.length + j := ⟨i - h.length, by omega⟩
      rw [Nat.add_sub_cancel_left, hcs] at hi
      cases j with
      | zero =>
        rw [List.getElem?_cons_zero] at hi
        cases hi
        refine ⟨fun v hv => ?_, Or.inr ⟨by omega, ht2, ?_⟩⟩
        · obtain ⟨z, -, rfl⟩ := List.mem_map.mp hv
          rfl
        · have := had 0
          rw [this, Nat.add_zero, f2]
          congr 1
          simp only [Nat.sub_self, List.replicate_zero, List.append_nil, List.map_map]
          congr 1
          apply List.map_congr_left
          intro z hz
          have hz2 : am_ad G (h.length + 1 + z) = H.size + 1 + z := by
            rw [show h.length + 1 + z = h.length + (1 + z) by omega, had]
            omega
          show Value.ref (H.size + 1 + z) = Value.ref (am_ad G (h.length + 1 + z))
          rw [hz2]
      | succ j =>
        rw [List.getElem?_cons_succ, List.getElem?_replicate] at hi
        split at hi
        · rename_i hj
          cases hi
          refine ⟨fun v hv => by rw [(List.mem_replicate.mp hv).2]; exact am_fits_dflt ty, Or.inr ⟨by omega, ht1, ?_⟩⟩
          rw [had, show H.size + (j + 1) = H.size + 1 + j by omega, hrow j hj]
          simp [Jvm.Free.Multi.innerC, am_ac, am_v_dflt]
        · cases hi
  have kk := kk F.heap locs ls hP hL hl
  have e3 : ((.ref h.length :: st : List Value).map (am_v G)) = .ref H.size :: st.map (am_v G) := by
    show Value.ref (am_ad G h.length) :: _ = _
    rw [hnew]
  rw [e3] at kk
  obtain ⟨t, b1, b2⟩ := kk F rfl X'
  refine ⟨t, step t ?_, b2⟩
  rw [hT]
  exact b1
end AMT
