section GO
variable {T : am_T} {d : Nat} {code : List Instr} {rt : Option FieldType} {pc : Nat} {lo : am_Lo} {st : List Value} {h : am_Hp} {Q : Option Value → am_Hp → Prop} {tb : sm_T} {I : sm_I} {X : sm_X}
theorem go_aast {a b q ci pc' : Nat} {j : Int32} {C : String} {vs fs : List Value} (hi : code[pc]? = some .aastore) (ha : h[a]? = some (.inr (.object C, vs))) (hb : h[b]? = some (.inl (ci, fs))) (hs : ci ∈ am_S T C) (hj : j = nI q) (hq : q < 2 ^ 31) (hl : q < vs.length) (h0 : a ≠ 0) (hw : am_wr T a = true) (hp : pc + 1 = pc') (kk : am_Go T d code rt pc' lo st (h.set a (.inr (.object C, vs.set q (.ref b)))) Q) : am_Go T d code rt pc lo (.ref b :: .int j :: .ref a :: st) h Q := by
  subst hp
  subst hj
  have h1 := nI_pos hq
  have h2 := nI_clamp hq
  exact go_x (ch := some (.inl (a, .inr (.object C, vs.set q (.ref b))))) hi rfl rfl (by simp [am_x, ha, hb, h1, h2, hl, h0, hw, hs]) kk
theorem go_saast {a b q ci pc' : Nat} {j : Int32} {C : String} {fs : List Value} {dd : Nat × Nat} (hs : sm tb h I X) (hi : code[pc]? = some .aastore) (ht : sm_s tb a q = some (.inr (.object C), dd)) (hJ : sm_inj tb) (hdd : 200 ≤ dd.1) (hde : dd.1 < 1000) (hb : h[b]? = some (.inl (ci, fs))) (hS : ci ∈ am_S T C) (hj : j = nI q) (hq : q < 2 ^ 31) (h0 : a ≠ 0) (hw : am_wr T a = true) (hp : pc + 1 = pc') (kk : ∀ h2, sm tb h2 I (uX X dd.1 dd.2 (.ref b)) → sm_e tb h h2 → am_Go T d code rt pc' lo st h2 Q) : am_Go T d code rt pc lo (.ref b :: .int j :: .ref a :: st) h Q := by
  obtain ⟨vs, h1, h2, ds, h3, rfl, h4⟩ := sm_at hs ht
  obtain ⟨q1, q2⟩ := sm_vX (I := I) (X := X) (d := dd) (v := .ref b) hdd hde
  obtain ⟨r1, r2⟩ := sm_set hJ hs h3 h4 hde q1 q2
  exact go_aast hi h1 hb hS hj hq (List.getElem?_eq_some_iff.mp h2).1 h0 hw hp (kk _ r1 r2)
end GO
/-- cells that come with a label that lets them stay -/
theorem CD_nw {w : Nat → Bool} {e k s L : Nat} {m0 : mg} {h h2 : am_Hp} {I : sm_I} {Q : mQ} {Z : mZ} {X : sm_X} {ow : ow_T} {sb : Nat} (c : CD w e m0 h I Q Z X ow sb) (f : fr tbc h h2 k s) (hL : h.length ≤ L) (hL2 : L < h2.length) (hl : 62 ≤ h.length) : CD w e m0 h2 I Q Z X (owx ow L 1) sb := by
  have o := c.1
  refine CD_ex (z := 0) c (fun b hb _ => ?_) (by omega) (by omega) (by omega) ⟨o.1, fun a ha => ?_, fun a ha => ?_⟩
  · have := OW_lt o hb
    exact ⟨f.2.2.2 b (o.2.2 b hb).2.1 this, by unfold owx; rw [if_neg (by omega)]⟩
  · obtain ⟨q1, q2⟩ := o.2.1 a (Nat.le_trans f.1 ha)
    exact ⟨q1, by unfold owx; rw [if_neg (by omega)]; exact q2⟩
  · unfold owx at ha
    split at ha
    · rename_i e
      subst e
      exact ⟨(o.2.1 a hL).1, tbc_out a (by omega), by omega⟩
    · exact o.2.2 a ha
/-- the store's own state becomes another -/
theorem CD_st {w : Nat → Bool} {e : Nat} {m0 : mg} {h h2 : am_Hp} {I : sm_I} {Q : mQ} {Z : mZ} {X : sm_X} {ow ow2 : ow_T} {sb : Nat} {s : ms} (c : CD w e m0 h I Q Z X ow sb) (x : ex (20 + sb) ow h ow2 h2) (o : OW w h2 ow2) (k : St h2 ow2 sb s) : CD w e m0 h2 I Q (uZ Z (rwi I 0) s) X ow2 sb := by
  obtain ⟨-, k2, k3, k4, ⟨s1, s2, s3, n, s4, s5, s6⟩, k6, k7⟩ := c
  have r0 : rwi I 0 < 2 := by unfold rwi; omega
  refine ⟨o, fun l hl => LK_ex x (by omega) (by omega) (Or.inr rfl) (k2 l hl), k3, k4, ⟨s1, fun _ => by simpa [uZ] using k, fun z => ?_, n, s4, s5, fun k hk => Rq_ex x (by omega) (s6 k hk)⟩, fun t ht => ?_, k7⟩
  · obtain ⟨b, b1, b2, b3⟩ := s3 z
    refine ⟨b, b1, b2, ?_⟩
    have : rwo I 0 ≠ rwi I 0 := by unfold rwo rwi; omega
    simp only [uZ, if_neg this]
    exact St_ex (b := b) x (by omega) (fun e => b2 (Nat.add_left_cancel e).symm) b3
  · obtain ⟨a1, a2, a3, a4⟩ := TM_ex x (by omega) (k6 t ht)
    have e1 : rwi I (1 + t) ≠ rwi I 0 := by unfold rwi at r0 ⊢; omega
    have e2 : rwo I (1 + t) ≠ rwi I 0 := by unfold rwo; unfold rwi at r0 ⊢; omega
    refine ⟨?_, ?_, a3, a4⟩
    · simp only [uZ, if_neg e1]; exact a1
    · simp only [uZ, if_neg e2]; exact a2
/-! what is meant: a request comes to the row; the first goes -/
def smr (q p : Nat → Int32) : Bool := decide (q 0 = p 0 ∧ q 1 = p 1 ∧ q 2 = p 2)
def mdup (I : sm_I) (q : Nat → Int32) : Nat → Bool
  | 0 => false
  | n + 1 => mdup I q n || smr q (fun i => I 20 (7 * n + i))
def mbd (F q : Nat → Int32) : Bool := decide (F 3 = 1 ∧ q 0 = F 4 ∧ q 1 = F (6 + (F 4).toNatClampNeg) ∧ q 2 = F (8 + (F 4).toNatClampNeg))
def stn (I : sm_I) : Nat := (I 21 0).toNatClampNeg
def mrw (I : sm_I) (n : Nat) (q : Nat → Int32) : sm_I := fun c j => if c = 20 ∧ 7 * n ≤ j ∧ j < 7 * n + 7 then q (j - 7 * n) else if c = 21 ∧ j = 0 then nI (n + 1) else I c j
def mac (q : Nat → Int32) (M : mM) : mM := if stn M.1 = 8 ∨ (mbd (row1 M 0) q || mdup M.1 q (stn M.1)) = true then M else (mrw M.1 (stn M.1) q, M.2)
def msh (I : sm_I) : sm_I := fun c j => if c = 20 ∧ j < 7 * (stn I - 1) then I 20 (j + 7) else if c = 21 ∧ j = 0 then nI (stn I - 1) else I c j
theorem am_S_rq (w : Nat → Bool) : 8 ∈ am_S (am_prog w) "MirrorPairs$Request" := show 8 ∈ am_S (am_prog (fun _ => true)) "MirrorPairs$Request" by decide
