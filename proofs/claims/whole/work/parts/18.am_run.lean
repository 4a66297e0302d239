/-! AM against the machine: calls, and the run of a method -/
section AMQ
variable {p : Program} {l : Launch} {e : Env} {R : Room} {s : State} {m : MethodId} {args : Array Value} {below : List Frame} {meth : Method} {c : Code} {Q : State → Prop} {cc : ByteArray} {G : am_G} {n0 s0 : Nat}
theorem am_stk {G : am_G} {st : List Value} {k : Nat} : st.map (am_v G) = ((st.take k).reverse.map (am_v G)).reverse ++ (st.drop k).map (am_v G) := by
  rw [← List.map_reverse, List.reverse_reverse, ← List.map_append, List.take_append_drop]
theorem am_yok_spec {y : MethodName} {k : Nat} (h : am_yok y k = true) : plainName y.cls = true ∧ y.cls ≠ "java/lang/invoke/MethodHandle" ∧ y.cls ≠ "java/lang/invoke/VarHandle" ∧ (parseMethodDescriptor y.desc).map (fun d => d.parameters.length) = some k := of_decide_eq_true h
set_option maxHeartbeats 4000000 in
theorem am_s_callS {Tb : List Jvm.Cond} {T : am_T} {Y : List (MethodName × ByteArray)} {own nm : String} {pcs : Nat → Nat} {j len n d mm : Nat} {ri : Instr} {hs : List Nat} {lo : am_Lo} {st as rest : List Value} {h h' : am_Hp} {r : Option Value} (CX : am_Cx p s m args meth c cc G Tb T own nm) (hml : c.maxLocals = lo.length) (hok : am_okc Tb G.2.1 T Y own pcs j ri len hs (.invokestatic n) = true) (hd : decode cc (pcs j) = .ok (ri, len))
    (hinv : am_inv T (.invokestatic n) st h = some (mm, as, rest)) (hM : am_Met l G Tb T Y d mm as h r h') (hm : h.length ≤ h'.length ∧ am_sl h ≤ am_sl h') (hfr : d + 1 ≤ R.frames) (hlo : 42 * (d + 1) ≤ R.locals) (hr1 : h'.length - n0 ≤ R.cells) (hr2 : am_sl h' - s0 ≤ R.slots) (k : am_W p l e R s m args below meth c Q G n0 s0 (pcs (j + 1)) lo (r.toList ++ rest) h') : am_W p l e R s m args below meth c Q G n0 s0 (pcs j) lo st h := by
  obtain ⟨hx, hb, hown, hts, hnw, hK, hnm, hcl⟩ := CX
  simp only [am_inv] at hinv
  split at hinv
  · rename_i kk z m2 ms hKn
    split at hinv
    · rename_i hcc
      cases hinv
      simp only [am_okc, hKn] at hok
      split at hok
      · rename_i idx k2 z2 mm2 ms2 e1
        cases e1
        split at hok
        · rename_i y bytes code nL rt hY hMm
          simp only [Bool.and_eq_true, decide_eq_true_eq] at hok
          obtain ⟨⟨hyk, hn, rfl, hnl, g1, g2, g3⟩, hlk⟩ := hok
          obtain ⟨y1, y2, y3, y4⟩ := am_yok_spec hyk
          have hMet := hM y bytes code nL rt hY hMm
          have hcode : Cond.code y bytes nL rt ∈ am_ts Tb := am_w_ts g1 (by first | rfl | simp [am_gd, Cond.onTables, Cond.keeps, Cond.steady]) (by simp)
          have hini : (Cond.initialized y.cls).before args s = true := am_w_use hts g2 (by first | rfl | simp [am_gd, Cond.onTables, Cond.keeps, Cond.steady]) (by simp)
          have hst : (Cond.static y).before args s = true := am_w_use hts g3 (by first | rfl | simp [am_gd, Cond.onTables, Cond.keeps, Cond.steady]) (by simp)
          rw [hn] at k
          intro h1 h2 H locs ls hH hL hl
          have hcat := am_rok_cats (G := G) hcc.2
          have hlen : ((st.take kk).reverse.map (am_v G)).length = kk := by
            rw [List.length_map, List.length_reverse, List.length_take]
            omega
          have hR : d + 1 ≤ R.frames ∧ 8 + (nL + 11) + 42 * d ≤ R.locals := ⟨by omega, by omega⟩
          refine am_r_run ?_ h1 h2 hm.1 hm.2 hL hl k
          split at hlk
          · rename_i o x w e3
            simp only [decide_eq_true_eq] at hlk
            obtain ⟨rfl, rfl, rfl⟩ := hlk
            have hl2 := am_w_use hts e3 (by first | rfl | simp [am_gd, Cond.onTables, Cond.keeps, Cond.steady]) (by simp)
            exact va_runS (As := (st.take kk).reverse.map (am_v G)) ⟨hx, hb, hml, hown, hts⟩ hMet ⟨callB_of kk hts (am_good hcode) rfl rfl rfl hini hl2 ⟨y2, y3, y4⟩ hR, hst⟩ ⟨am_blind, am_pre hK hnw hH⟩ rfl hlen hl.1 am_stk (by show 2 * 0 + _ ≤ 8; omega) hd ⟨by omega, by omega⟩
          · rename_i o x w host e3
            simp only [decide_eq_true_eq] at hlk
            obtain ⟨rfl, rfl, rfl⟩ := hlk
            have hl2 := am_n_use hnw e3 rfl
            exact va_runSN (As := (st.take kk).reverse.map (am_v G)) ⟨hx, hb, hml, hown, hts⟩ hMet ⟨va_cnB kk hts (am_good hcode) rfl rfl rfl hl2 hini ⟨y2, y3, y4⟩ hR, hst, trivial⟩ ⟨am_blind, am_pre hK hnw hH⟩ rfl hlen hl.1 am_stk (by show 2 * 0 + _ ≤ 8; omega) hd ⟨by omega, by omega⟩
          · cases hlk
        · cases hok
      · cases hok
    · cases hinv
  · cases hinv
theorem am_mem_lookup {ms : List (Nat × Nat)} {ci mm : Nat} (h : ms.lookup ci = some mm) : ∃ q : Nat, ms[q]? = some (ci, mm) := by
  induction ms with
  | nil => cases h
  | cons a ms ih =>
    obtain ⟨x, y⟩ := a
    rw [List.lookup_cons] at h
    split at h
    · rename_i he
      cases h
      have : ci = x := by simpa using he
      subst this
      exact ⟨0, rfl⟩
    · obtain ⟨q, hq⟩ := ih h
      exact ⟨q + 1, by rw [List.getElem?_cons_succ]; exact hq⟩
theorem am_stkR {G : am_G} {st r : List Value} {k a : Nat} (h : st.drop k = .ref a :: r) : st.map (am_v G) = ((st.take k).reverse.map (am_v G)).reverse ++ .ref (am_ad G a) :: r.map (am_v G) := by
  rw [am_stk (k := k), h]
  rfl
set_option maxHeartbeats 4000000 in
theorem am_s_callI {Tb : List Jvm.Cond} {T : am_T} {Y : List (MethodName × ByteArray)} {own nm : String} {pcs : Nat → Nat} {j len n d mm : Nat} {ri : Instr} {hs : List Nat} {lo : am_Lo} {st as rest : List Value} {h h' : am_Hp} {r : Option Value} (CX : am_Cx p s m args meth c cc G Tb T own nm) (hml : c.maxLocals = lo.length) (hok : am_okc Tb G.2.1 T Y own pcs j ri len hs (.invokespecial n) = true) (hd : decode cc (pcs j) = .ok (ri, len))
    (hinv : am_inv T (.invokespecial n) st h = some (mm, as, rest)) (hM : am_Met l G Tb T Y d mm as h r h') (hm : h.length ≤ h'.length ∧ am_sl h ≤ am_sl h') (hfr : d + 1 ≤ R.frames) (hlo : 42 * (d + 1) ≤ R.locals) (hr1 : h'.length - n0 ≤ R.cells) (hr2 : am_sl h' - s0 ≤ R.slots) (k : am_W p l e R s m args below meth c Q G n0 s0 (pcs (j + 1)) lo (r.toList ++ rest) h') : am_W p l e R s m args below meth c Q G n0 s0 (pcs j) lo st h := by
  obtain ⟨hx, hb, hown, hts, hnw, hK, hnm, hcl⟩ := CX
  simp only [am_inv] at hinv
  split at hinv
  · rename_i kk ms hKn
    split at hinv
    · rename_i a rr hdr
      split at hinv
      · rename_i ci fs ha
        split at hinv
        · rename_i m2 hlu
          split at hinv
          · rename_i hcc
            cases hinv
            simp only [am_okc, hKn] at hok
            split at hok
            · rename_i idx k2 ms2 e1
              cases e1
              simp only [Bool.and_eq_true, decide_eq_true_eq, List.all_eq_true] at hok
              obtain ⟨⟨hn, rfl⟩, hall⟩ := hok
              obtain ⟨q, hq⟩ := am_mem_lookup hlu
              have hz := hall _ (List.mem_of_getElem? hq)
              split at hz
              · rename_i y bytes code nL rt hY hMm
                simp only [Bool.and_eq_true, decide_eq_true_eq] at hz
                obtain ⟨⟨hyk, hnl, g1, g2, g3⟩, hlk⟩ := hz
                obtain ⟨y1, y2, y3, y4⟩ := am_yok_spec hyk
                have hMet := hM y bytes code nL rt hY hMm
                have hcode : Cond.code y bytes nL rt ∈ am_ts Tb := am_w_ts g1 (by first | rfl | simp [am_gd, Cond.onTables, Cond.keeps, Cond.steady]) (by simp)
                have hini : (Cond.initialized y.cls).before args s = true := am_w_use hts g2 (by first | rfl | simp [am_gd, Cond.onTables, Cond.keeps, Cond.steady]) (by simp)
                have hst : (Cond.instanceMethod y).before args s = true := am_w_use hts g3 (by first | rfl | simp [am_gd, Cond.onTables, Cond.keeps, Cond.steady]) (by simp)
                rw [hn] at k
                intro h1 h2 H locs ls hH hL hl
                have hcat := am_rok_cats (G := G) hcc.1
                have hlen : ((st.take kk).reverse.map (am_v G)).length = kk := by
                  rw [List.length_map, List.length_reverse, List.length_take]
                  omega
                have hR : d + 1 ≤ R.frames ∧ 8 + (nL + 11) + 42 * d ≤ R.locals := ⟨by omega, by omega⟩
                have hpre := am_pre (as := .ref a :: (st.take kk).reverse) hK hnw hH
                refine am_r_run ?_ h1 h2 hm.1 hm.2 hL hl k
                split at hlk
                · rename_i o x w e3
                  simp only [Bool.and_eq_true, Bool.or_eq_true, decide_eq_true_eq] at hlk
                  obtain ⟨⟨rfl, rfl, rfl⟩, hlk⟩ := hlk
                  have hl2 := am_w_use hts e3 (by first | rfl | simp [am_gd, Cond.onTables, Cond.keeps, Cond.steady]) (by simp)
                  rcases hlk with ⟨hi, rfl⟩ | ⟨hi, g4, g5, g6⟩
                  · exact va_runI (As := (st.take kk).reverse.map (am_v G)) (b := am_ad G a) ⟨hx, hb, hml, hown, hts⟩ hMet ⟨callB_of kk hts (am_good hcode) rfl rfl rfl hini hl2 ⟨y2, y3, y4⟩ hR, hi, hst⟩ ⟨am_blind, hpre⟩ rfl hlen hl.1 (am_stkR hdr) (by show 2 * 0 + _ ≤ 8; omega) hd ⟨by omega, by omega⟩
                  · obtain ⟨q3, hq3⟩ : ∃ q3, G.2.1[ci]? = some q3 := ⟨_, List.getElem?_eq_getElem g6⟩
                    obtain ⟨cv, v1, v2, v3, -⟩ := am_obj hH hK hq3 ha
                    exact va_runSU (As := (st.take kk).reverse.map (am_v G)) (b := am_ad G a) (hK.1 ci _ hq3).2 ⟨hx, hb, hml, hown, hts⟩ hMet ⟨⟨rfl, rfl, hR.1, hR.2, pay_in hts (am_good hcode), List.mem_cons_self⟩, hl2, am_w_use hts g4 (by first | rfl | simp [am_gd, Cond.onTables, Cond.keeps, Cond.steady]) (by simp), am_w_use hts g5 (by first | rfl | simp [am_gd, Cond.onTables, Cond.keeps, Cond.steady]) (by simp), hst, hini, hts _ hcode, hi, fun sig hs => by rw [hs] at y4; exact (Option.some.inj y4).symm⟩ ⟨am_blind, ⟨cv, v1, v2, v3⟩, hpre⟩ rfl hlen hl.1 (am_stkR hdr) (by show 2 * 0 + _ ≤ 8; omega) hd ⟨by omega, by omega⟩
                · rename_i o x w host e3
                  simp only [decide_eq_true_eq] at hlk
                  obtain ⟨rfl, rfl, rfl, hi, rfl⟩ := hlk
                  have hl2 := am_n_use hnw e3 rfl
                  exact va_runIN (As := (st.take kk).reverse.map (am_v G)) (b := am_ad G a) ⟨hx, hb, hml, hown, hts⟩ hMet ⟨va_cnB kk hts (am_good hcode) rfl rfl rfl hl2 hini ⟨y2, y3, y4⟩ hR, hi, hst⟩ ⟨am_blind, hpre⟩ rfl hlen hl.1 (am_stkR hdr) (by show 2 * 0 + _ ≤ 8; omega) hd ⟨by omega, by omega⟩
                · cases hlk
              · cases hz
            · cases hok
          · cases hinv
        · cases hinv
      · cases hinv
    · cases hinv
  · cases hinv
set_option maxHeartbeats 4000000 in
theorem am_s_callV {Tb : List Jvm.Cond} {T : am_T} {Y : List (MethodName × ByteArray)} {own nm : String} {pcs : Nat → Nat} {j len n d mm : Nat} {ri : Instr} {hs : List Nat} {lo : am_Lo} {st as rest : List Value} {h h' : am_Hp} {r : Option Value} (CX : am_Cx p s m args meth c cc G Tb T own nm) (hml : c.maxLocals = lo.length) (hok : am_okc Tb G.2.1 T Y own pcs j ri len hs (.invokevirtual n) = true) (hd : decode cc (pcs j) = .ok (ri, len))
    (hinv : am_inv T (.invokevirtual n) st h = some (mm, as, rest)) (hM : am_Met l G Tb T Y d mm as h r h') (hm : h.length ≤ h'.length ∧ am_sl h ≤ am_sl h') (hfr : d + 1 ≤ R.frames) (hlo : 42 * (d + 1) ≤ R.locals) (hr1 : h'.length - n0 ≤ R.cells) (hr2 : am_sl h' - s0 ≤ R.slots) (k : am_W p l e R s m args below meth c Q G n0 s0 (pcs (j + 1)) lo (r.toList ++ rest) h') : am_W p l e R s m args below meth c Q G n0 s0 (pcs j) lo st h := by
  obtain ⟨hx, hb, hown, hts, hnw, hK, hnm, hcl⟩ := CX
  simp only [am_inv] at hinv
  split at hinv
  · rename_i kk ms hKn
    split at hinv
    · rename_i a rr hdr
      split at hinv
      · rename_i ci fs ha
        split at hinv
        · rename_i m2 hlu
          split at hinv
          · rename_i hcc
            cases hinv
            simp only [am_okc, hKn] at hok
            split at hok
            · rename_i idx k2 ms2 e1
              cases e1
              simp only [Bool.and_eq_true, decide_eq_true_eq, List.all_eq_true] at hok
              obtain ⟨⟨hn, rfl⟩, hall⟩ := hok
              obtain ⟨q, hq⟩ := am_mem_lookup hlu
              have hz := hall q (List.mem_range.mpr (List.getElem?_eq_some_iff.mp hq).1)
              rw [hq] at hz
              simp only at hz
              rw [hn] at k
              intro h1 h2 H locs ls hH hL hl
              have hcat := am_rok_cats (G := G) hcc.1
              have hlen : ((st.take kk).reverse.map (am_v G)).length = kk := by
                rw [List.length_map, List.length_reverse, List.length_take]
                omega
              have hpre := am_pre (as := .ref a :: (st.take kk).reverse) hK hnw hH
              refine am_r_run ?_ h1 h2 hm.1 hm.2 hL hl k
              unfold am_okv at hz
              split at hz
              · rename_i y bytes code nL rt C F N o x xm hY hMm hc e3
                simp only [Bool.and_eq_true, decide_eq_true_eq] at hz
                obtain ⟨⟨hyk, rfl, rfl, hnl, g1, g2, g3, g4⟩, hlk⟩ := hz
                obtain ⟨y1, y2, y3, y4⟩ := am_yok_spec hyk
                have hMet := hM y bytes code nL rt hY hMm
                have hcode : Cond.code y bytes nL rt ∈ am_ts Tb := am_w_ts g1 (by first | rfl | simp [am_gd, Cond.onTables, Cond.keeps, Cond.steady]) (by simp)
                have hini : (Cond.initialized y.cls).before args s = true := am_w_use hts g2 (by first | rfl | simp [am_gd, Cond.onTables, Cond.keeps, Cond.steady]) (by simp)
                have hst : (Cond.instanceMethod y).before args s = true := am_w_use hts g3 (by first | rfl | simp [am_gd, Cond.onTables, Cond.keeps, Cond.steady]) (by simp)
                have hsel : (Cond.selects C xm y).before args s = true := am_w_use hts g4 (by first | rfl | simp [am_gd, Cond.onTables, Cond.keeps, Cond.steady]) (by simp)
                have hl2 := am_w_use hts e3 (by first | rfl | simp [am_gd, Cond.onTables, Cond.keeps, Cond.steady]) (by simp)
                have hR : d + 1 ≤ R.frames ∧ 8 + (nL + 11) + 42 * d ≤ R.locals := ⟨by omega, by omega⟩
                obtain ⟨cv, v1, v2, v3, -⟩ := am_obj hH hK hc ha
                rw [Bool.or_eq_true] at hlk
                rcases hlk with hlk | hlk
                · have hxy := of_decide_eq_true hlk
                  subst hxy
                  exact va_runV (As := (st.take kk).reverse.map (am_v G)) (b := am_ad G a) ⟨hx, hb, hml, hown, hts⟩ hMet ⟨callB_of kk hts (am_good hcode) rfl rfl rfl hini hl2 ⟨y2, y3, y4⟩ hR, hst, hsel⟩ ⟨am_blind, ⟨cv, v1, v2, v3⟩, hpre⟩ rfl hlen hl.1 (am_stkR hdr) (by show 2 * 0 + _ ≤ 8; omega) hd ⟨by omega, by omega⟩
                · split at hlk
                  · rename_i aa owner bb dd e4
                    simp only [Bool.and_eq_true, Bool.or_eq_true, decide_eq_true_eq] at hlk
                    obtain ⟨⟨rfl, rfl, rfl, o1, o2, o3⟩, hlk⟩ := hlk
                    have hsame := am_w_use hts e4 (by first | rfl | simp [am_gd, Cond.onTables, Cond.keeps, Cond.steady]) (by simp)
                    have hdecl : va_Decl s ⟨owner, xm.name, xm.desc⟩ := by
                      rcases hlk with hlk | hlk
                      · exact va_Decl.abs (am_n_use hnw hlk rfl)
                      · split at hlk
                        · rename_i z b2 n2 r2 e5
                          simp only [decide_eq_true_eq] at hlk
                          obtain ⟨rfl, g7⟩ := hlk
                          exact va_Decl.of (am_w_use hts g7 (by first | rfl | simp [am_gd, Cond.onTables, Cond.keeps, Cond.steady]) (by simp)) (am_w_use hts e5 (by first | rfl | simp [am_gd, Cond.onTables, Cond.keeps, Cond.steady]) (by simp))
                        · cases hlk
                    exact va_runU (As := (st.take kk).reverse.map (am_v G)) (b := am_ad G a) (owner := owner) ⟨hx, hb, hml, hown, hts⟩ hMet ⟨⟨rfl, rfl, hR.1, hR.2, pay_in hts (am_good hcode), List.mem_cons_self⟩, hts _ hcode, hini, ⟨o1, o2⟩, (fun sig hs => by rw [hs] at o3; exact (Option.some.inj o3).symm), hl2, hsame, hdecl, hsel, hst⟩ ⟨am_blind, ⟨cv, v1, v2, v3⟩, hpre⟩ rfl hlen hl.1 (am_stkR hdr) (by show 2 * 0 + _ ≤ 8; omega) hd ⟨by omega, by omega⟩
                  · cases hlk
              · rename_i y bytes code nL rt C F N o x xm host hY hMm hc e3
                simp only [Bool.and_eq_true, decide_eq_true_eq] at hz
                obtain ⟨hyk, rfl, rfl, rfl, hnl, g1, g2, g3, g4⟩ := hz
                obtain ⟨y1, y2, y3, y4⟩ := am_yok_spec hyk
                have hMet := hM _ bytes code nL rt hY hMm
                have hcode : Cond.code _ bytes nL rt ∈ am_ts Tb := am_w_ts g1 (by first | rfl | simp [am_gd, Cond.onTables, Cond.keeps, Cond.steady]) (by simp)
                have hini := am_w_use hts g2 (by first | rfl | simp [am_gd, Cond.onTables, Cond.keeps, Cond.steady]) (by simp)
                have hst := am_w_use hts g3 (by first | rfl | simp [am_gd, Cond.onTables, Cond.keeps, Cond.steady]) (by simp)
                have hsel := am_w_use hts g4 (by first | rfl | simp [am_gd, Cond.onTables, Cond.keeps, Cond.steady]) (by simp)
                have hl2 := am_n_use hnw e3 rfl
                have hR : d + 1 ≤ R.frames ∧ 8 + (nL + 11) + 42 * d ≤ R.locals := ⟨by omega, by omega⟩
                obtain ⟨cv, v1, v2, v3, -⟩ := am_obj hH hK hc ha
                exact va_runVN (As := (st.take kk).reverse.map (am_v G)) (b := am_ad G a) ⟨hx, hb, hml, hown, hts⟩ hMet ⟨va_cnB kk hts (am_good hcode) rfl rfl rfl hl2 hini ⟨y2, y3, y4⟩ hR, hst, hsel⟩ ⟨am_blind, ⟨cv, v1, v2, v3⟩, hpre⟩ rfl hlen hl.1 (am_stkR hdr) (by show 2 * 0 + _ ≤ 8; omega) hd ⟨by omega, by omega⟩
              · cases hz
            · cases hok
          · cases hinv
        · cases hinv
      · cases hinv
    · cases hinv
  · cases hinv
/-- the answers -/
theorem am_s_ret {r : Option Value} {h : am_Hp} {rt : Option FieldType} {i ri : Instr} {len pc : Nat} {lo : am_Lo} {st : List Value} (hx : p.tables.exec = Jvm.exec) (hb : c.code = cc) (hr : meth.sig.returnType = rt) (hlocks : meth.locks = false) (hd : decode cc pc = .ok (ri, len)) (hok : am_okr ri len i = true) (hret : am_ret rt i st = some r) :
    am_W p l e R s m args below meth c (MQ below (fun _ _ o t => o = .returned (r.map (am_v G)) ∧ am_H G h t t.heap) args s (h.length - n0) (am_sl h - s0) (fun q => G.2.2.2.2 ≤ q)) G n0 s0 pc lo st h := by
  intro h1 h2 H locs ls hH hL hl
  have fin : ∀ t : State, t.heap = H → s.WarmedH t.vm → am_H G h t t.heap := fun t ht hW => by rw [ht]; exact am_H_moved hW.alike hH
  unfold am_okr at hok
  have hri : ri = i ∧ len = 1 := by
    split at hok <;> first | exact of_decide_eq_true hok | cases hok
  obtain ⟨rfl, rfl⟩ := hri
  unfold am_ret at hret
  split at hret
  · cases hret
    exact W.vret hx hb hr (fun t ht hW => ⟨rfl, fin t ht hW⟩) hL hd
  · cases hret
    exact W.iret hx hb hr (fun t ht hW => ⟨rfl, fin t ht hW⟩) hL hd
  · split at hret
    · rename_i hz
      cases hret
      exact W.zret hx hb hr (by rcases hz with rfl | rfl <;> decide) (fun t ht hW => ⟨rfl, fin t ht hW⟩) hL hd
    · cases hret
  · cases hret
    exact W.aret hx hb hr (Or.inl ⟨_, rfl⟩) (Or.inr ⟨_, rfl⟩) (fun t ht hW => ⟨rfl, fin t ht hW⟩) hL hd
  · cases hret
    exact W.aret hx hb hr (Or.inl ⟨_, rfl⟩) (Or.inl rfl) (fun t ht hW => ⟨rfl, fin t ht hW⟩) hL hd
  · cases hret
    exact W.aret hx hb hr (Or.inr ⟨_, rfl⟩) (Or.inr ⟨_, rfl⟩) (fun t ht hW => ⟨rfl, fin t ht hW⟩) hL hd
  · cases hret
    exact W.aret hx hb hr (Or.inr ⟨_, rfl⟩) (Or.inl rfl) (fun t ht hW => ⟨rfl, fin t ht hW⟩) hL hd
  · cases hret
theorem am_ret_ok {Tb : List Jvm.Cond} {cl : List vw_C} {tys : List FieldType} {T : am_T} {Y : List (MethodName × ByteArray)} {own nm : String} {pcs : Nat → Nat} {j len : Nat} {ri i : Instr} {hs : List Nat} {rt : Option FieldType} {st : List Value} {r : Option Value} (hret : am_ret rt i st = some r) (hok : am_ok Tb cl tys T own nm pcs j ri len hs i = true ∨ am_okc Tb cl T Y own pcs j ri len hs i = true ∨ am_okr ri len i = true) : am_okr ri len i = true := by
  unfold am_ret at hret
  rcases hok with h1 | h1 | h1
  · split at hret <;> first | exact absurd (show false = true from h1) (by decide) | cases hret
  · split at hret <;> first | exact absurd (show false = true from h1) (by decide) | cases hret
  · exact h1
theorem am_inv_ok {Tb : List Jvm.Cond} {cl : List vw_C} {tys : List FieldType} {T : am_T} {Y : List (MethodName × ByteArray)} {own nm : String} {pcs : Nat → Nat} {j len : Nat} {ri i : Instr} {hs : List Nat} {st : List Value} {h : am_Hp} {q : Nat × List Value × List Value} (hinv : am_inv T i st h = some q) (hok : am_ok Tb cl tys T own nm pcs j ri len hs i = true ∨ am_okc Tb cl T Y own pcs j ri len hs i = true ∨ am_okr ri len i = true) : am_okc Tb cl T Y own pcs j ri len hs i = true ∧ ((∃ n, i = .invokestatic n) ∨ (∃ n, i = .invokespecial n) ∨ ∃ n, i = .invokevirtual n) := by
  have hi3 : (∃ n, i = .invokestatic n) ∨ (∃ n, i = .invokespecial n) ∨ ∃ n, i = .invokevirtual n := by
    unfold am_inv at hinv
    split at hinv
    · exact Or.inl ⟨_, rfl⟩
    · exact Or.inr (Or.inl ⟨_, rfl⟩)
    · exact Or.inr (Or.inr ⟨_, rfl⟩)
    · cases hinv
  refine ⟨?_, hi3⟩
  rcases hok with h1 | h1 | h1
  · rcases hi3 with ⟨n, rfl⟩ | ⟨n, rfl⟩ | ⟨n, rfl⟩ <;> exact absurd (show false = true from h1) (by decide)
  · exact h1
  · rcases hi3 with ⟨n, rfl⟩ | ⟨n, rfl⟩ | ⟨n, rfl⟩ <;> exact absurd (show false = true from h1) (by decide)
theorem am_x_okk {Tb : List Jvm.Cond} {cl : List vw_C} {tys : List FieldType} {T : am_T} {Y : List (MethodName × ByteArray)} {own nm : String} {pcs : Nat → Nat} {j len pc : Nat} {ri i : Instr} {hs : List Nat} {lo : am_Lo} {st : List Value} {h : am_Hp} {q : Nat × am_Lo × List Value × am_Ch} (hx : am_x T i pc lo st h = some q) (hok : am_ok Tb cl tys T own nm pcs j ri len hs i = true ∨ am_okc Tb cl T Y own pcs j ri len hs i = true ∨ am_okr ri len i = true) : am_ok Tb cl tys T own nm pcs j ri len hs i = true := by
  rcases hok with h1 | h1 | h1
  · exact h1
  · unfold am_okc at h1
    split at h1
    · cases (show none = some q from hx)
    · cases (show none = some q from hx)
    · cases (show none = some q from hx)
    · cases h1
  · unfold am_okr at h1
    split at h1
    · cases (show none = some q from hx)
    · cases (show none = some q from hx)
    · cases (show none = some q from hx)
    · cases h1
set_option maxHeartbeats 4000000 in
/-- a run of AM is a run of the machine -/
theorem am_run_met {Tb : List Jvm.Cond} {T : am_T} {Y : List (MethodName × ByteArray)} {y : MethodName} {rt : Option FieldType} {code : List Instr} {pcs : Nat → Nat} {f d : Nat} {r : Option Value} {hz : am_Hp} (CX : am_Cx p s m args meth c cc G Tb T y.cls y.name) (hmk : am_mok Tb G.2.1 G.2.2.1 T Y y cc code pcs)
    (hfr : d + 1 ≤ R.frames) (hlo : 42 * (d + 1) ≤ R.locals) (hr1 : hz.length - n0 ≤ R.cells) (hr2 : am_sl hz - s0 ≤ R.slots) (fin : ∀ (j len : Nat) (i ri : Instr) (lo : am_Lo) (st : List Value), decode cc (pcs j) = .ok (ri, len) → am_okr ri len i = true → am_ret rt i st = some r → am_W p l e R s m args below meth c Q G n0 s0 (pcs j) lo st hz) (IH : ∀ mm as h r h', am_call T f d mm as h = some (r, h') → am_Met l G Tb T Y d mm as h r h') :
    ∀ (n pc : Nat) (lo : am_Lo) (st : List Value) (h : am_Hp), c.maxLocals = lo.length → am_run T (am_call T f d) code rt n pc lo st h = some (r, hz) → am_W p l e R s m args below meth c Q G n0 s0 (pcs pc) lo st h := by
  intro n
  induction n with
  | zero => intro pc lo st h _ hrun; cases hrun
  | succ n ih =>
    intro pc lo st h hml hrun
    unfold am_run at hrun
    split at hrun
    · cases hrun
    · rename_i i hi
      obtain ⟨ri, len, hs, hdec, hok⟩ := hmk pc i hi
      split at hrun
      · rename_i r' hret
        cases hrun
        exact fin pc len i ri lo st hdec (am_ret_ok hret hok) hret
      · split at hrun
        · rename_i mm as rest hinv
          split at hrun
          · rename_i r1 h1 hcall
            have hm := am_call_mono T f d _ _ _ _ _ hcall
            have hm2 := am_run_mono (am_call_mono T f d) _ _ _ _ _ _ _ hrun
            have k := ih (pc + 1) lo (r1.toList ++ rest) h1 hml hrun
            have hMt := IH mm as h r1 h1 hcall
            obtain ⟨hokc, hi3⟩ := am_inv_ok hinv hok
            have b1 : h1.length - n0 ≤ R.cells := by omega
            have b2 : am_sl h1 - s0 ≤ R.slots := by omega
            rcases hi3 with ⟨q, rfl⟩ | ⟨q, rfl⟩ | ⟨q, rfl⟩
            · exact am_s_callS CX hml hokc hdec hinv hMt hm hfr hlo b1 b2 k
            · exact am_s_callI CX hml hokc hdec hinv hMt hm hfr hlo b1 b2 k
            · exact am_s_callV CX hml hokc hdec hinv hMt hm hfr hlo b1 b2 k
          · cases hrun
        · split at hrun
          · rename_i pc' lo' st' ch hxx
            have hm2 := am_run_mono (am_call_mono T f d) _ _ _ _ _ _ _ hrun
            have hl2 := (am_x_ok hxx).1
            have k := ih pc' lo' st' (am_ap h ch) (by rw [hl2]; exact hml) hrun
            have hoka := am_x_okk hxx hok
            have b1 : (am_ap h ch).length - n0 ≤ R.cells := by omega
            have b2 : am_sl (am_ap h ch) - s0 ≤ R.slots := by omega
            exact am_step CX hml hoka hdec hxx (by omega) (by omega) b1 b2 k
          · cases hrun
end AMQ
/-- the locals at the entry -/
theorem am_args {G : am_G} : ∀ (as : List Value) (i : Nat), (∀ v ∈ as, v.category = 1) → ∀ (k : Nat) (v : Value), as[k]? = some v → (i + k, am_v G v) ∈ lv_args i (as.map (am_v G))
  | [], _, _, k, v, h => by simp at h
  | w :: as, i, hc, k, v, h => by
    have hw : ¬ (am_v G w).category = 2 := by rw [am_v_cat, hc w List.mem_cons_self]; decide
    show _ ∈ (i, am_v G w) :: lv_args (if (am_v G w).category = 2 then i + 2 else i + 1) (as.map (am_v G))
    rw [if_neg hw]
    cases k with
    | zero =>
      rw [List.getElem?_cons_zero] at h
      cases h
      exact List.mem_cons_self
    | succ k =>
      rw [List.getElem?_cons_succ] at h
      have := am_args (G := G) as (i + 1) (fun v hv => hc v (List.mem_cons_of_mem _ hv)) k v h
      rw [show i + 1 + k = i + (k + 1) by omega] at this
      exact List.mem_cons_of_mem _ this
theorem am_lgl {G : am_G} {as : List Value} (hc : ∀ v ∈ as, v.category = 1) : (lg_sl (as.map (am_v G))).length = as.length := by
  induction as with
  | nil => rfl
  | cons w as ih =>
    have hw : ¬ (am_v G w).category = 2 := by rw [am_v_cat, hc w List.mem_cons_self]; decide
    have ih := ih (fun v hv => hc v (List.mem_cons_of_mem _ hv))
    have e : lg_sl ((w :: as).map (am_v G)) = .val (am_v G w) :: lg_sl (as.map (am_v G)) := by
      show ((am_v G w :: as.map (am_v G)).flatMap _) = _
      rw [List.flatMap_cons, if_neg hw]
      rfl
    rw [e, List.length_cons, ih, List.length_cons]
theorem am_entry {G : am_G} {as : List Value} {n : Nat} (hc : ∀ v ∈ as, v.category = 1) (hn : as.length ≤ n) : am_L G ((lg_sl (as.map (am_v G)) ++ List.replicate (n - (lg_sl (as.map (am_v G))).length) Slot.unset).toArray) (am_en as n) := by
  have hl := lv_entry (as.map (am_v G)) (n := n) (by rw [am_lgl hc]; exact hn)
  refine ⟨by rw [hl.1]; simp [am_en]; omega, hl.2.1, fun i v hi => ?_⟩
  have hi2 : as[i]? = some v := by
    unfold am_en at hi
    by_cases hlt : i < as.length
    · rw [List.getElem?_append_left (by rw [List.length_map]; exact hlt), List.getElem?_map] at hi
      cases hw : as[i]? with
      | none => rw [hw] at hi; cases hi
      | some w => rw [hw] at hi; cases hi; rfl
    · rw [List.getElem?_append_right (by rw [List.length_map]; omega)] at hi
      rw [List.getElem?_replicate] at hi
      split at hi <;> cases hi
  refine ⟨?_, hc v (List.mem_of_getElem? hi2)⟩
  have := hl.2.2 _ (am_args (G := G) as 0 hc i v hi2)
  simpa using this
set_option maxHeartbeats 4000000 in
/-- what AM runs, the machine runs -/
theorem am_met (l : Launch) (G : am_G) (Tb : List Jvm.Cond) (T : am_T) (Y : List (MethodName × ByteArray)) (hcl : am_clok Tb T G.2.1) (hmk : ∀ (mm : Nat) y bytes code nL rt, Y[mm]? = some (y, bytes) → (am_M T)[mm]? = some (code, nL, rt) → plainName y.cls = true ∧ ∃ pcs : Nat → Nat, am_mok Tb G.2.1 G.2.2.1 T Y y bytes code pcs ∧ pcs 0 = 0) (f : Nat) :
    ∀ d mm as h r h', am_call T f d mm as h = some (r, h') → am_Met l G Tb T Y d mm as h r h' := by
  intro d
  induction d with
  | zero => intro mm as h r h' hr; cases hr
  | succ d ih =>
    intro mm as h r h' hr y bytes code nL rt hY hMm
    obtain ⟨hpl, pcs, hraw, h00⟩ := hmk mm y bytes code nL rt hY hMm
    unfold am_call at hr
    rw [hMm] at hr
    simp only at hr
    split at hr
    · rename_i hcc
      have hcat : ∀ v ∈ as, v.category = 1 := fun v hv => by
        have := List.all_eq_true.mp hcc.2 v hv
        simpa using this
      refine Met.ofW (cc := bytes) (maxL := nL) (ret := rt) hpl rfl ?_
      intro p e s m args below meth c s₁ B hml hv
      obtain ⟨rfl, hK, hN, hH⟩ := hv
      have hts : ∀ w ∈ (Cond.code y bytes nL rt :: am_ts Tb), w.before (as.map (am_v G)).toArray s = true := atoms_spec (ws := .code y bytes nL rt :: am_ts Tb) B.pre
      have hown : s.vm.findClass y.cls = some m.cls := findClass_of_methodNamed B.named
      have hnm : meth.name = y.name := (name_of_methodNamed B.named B.method).1
      have CX : am_Cx p s m (as.map (am_v G)).toArray meth c bytes G Tb T y.cls y.name := ⟨B.exec, B.bytes, hown, fun w hw => hts w (List.mem_cons_of_mem _ hw), hN, hK, hnm, hcl⟩
      have k := am_run_met (l := l) (e := e) (below := below) (R := { frames := d + 1, cells := h'.length - h.length, slots := am_sl h' - am_sl h, locals := 42 * (d + 1) }) (n0 := h.length) (s0 := am_sl h) (hz := h') CX hraw (Nat.le_refl _) (Nat.le_refl _) (Nat.le_refl _) (Nat.le_refl _) (fun j len i ri lo st h1 h2 h3 => am_s_ret CX.1 CX.2.1 B.returns B.notSynchronized h1 h2 h3) ih f 0 (am_en as nL) [] h (by rw [hml]; simp [am_en]; omega) hr
      rw [h00] at k
      have k := k (Nat.le_refl _) (Nat.le_refl _) s.heap [] _ hH (fun q hq => by cases hq) (am_entry hcat hcc.1)
      rw [Nat.sub_self, Nat.sub_self] at k
      rw [lg_entry_eq]
      exact k
    · cases hr
