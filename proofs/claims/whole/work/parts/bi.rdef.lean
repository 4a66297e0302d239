/-! what the reference's methods mean, in its own order -/
def rsn (f t : Nat) (m : mg) (M : mM) : mM := if M.1 0 t = 0 then M else mapp (4 * f + t) m M
def rss (k : Nat) (kd : Int32) (to : Nat) (M : mM) : mM := rsn (pn M.1 k) to (mgS kd k (M.1 15 k + 1) (M.2.2 (rwi M.1 k))) (uI M.1 15 k (M.1 15 k + 1), M.2)
def rsc (k : Nat) (M : mM) : mM := rss k 4 (ohn M.1 k) (uI (uI M.1 13 k 1) 14 k 0, M.2)
def rsr (t : Nat) (M : mM) : mM := if M.1 11 0 = -1 then M else rsn (pn M.1 (1 + t)) (pn M.1 0) (mgR t (row1 M (1 + t))) M
def rshw (t : Nat) (M : mM) : mM := (mshw t (row1 M (1 + t)) M.1, M.2)
def rgo (k : Nat) (M : mM) : mM := if k = 0 then (uI M.1 16 0 2, M.2) else if row1 M k 1 = 1 then rsr (k - 1) (uI M.1 16 k 2, M.2) else rshw (k - 1) (uI M.1 16 k 0, M.2)
def rst (k : Nat) (M : mM) : mM := if M.1 13 k = 0 then M else (uI M.1 14 k 1, M.2)
def rtl (k : Nat) (M : mM) : mM := if M.1 12 k = -1 then rgo k (rst k M) else rss k 3 (M.1 12 k).toNatClampNeg (uI (rst k M).1 16 k 1, M.2)
def rreq (t : Nat) (kd rc vl : Int32) (M : mM) : Int32 × mM := if lv M.1 (1 + t) = true then (if row1 M (1 + t) 1 = 1 ∨ M.1 16 (1 + t) = 1 then (-1, M) else (row1 M (1 + t) 0 + 1, rtl (1 + t) (mrqZ t kd rc vl M))) else (-1, M)
def rrd (t : Nat) (s : Nat → Int32) (M : mM) : mM := if ¬ M.1 16 (1 + t) = 2 ∨ ¬ s 1 = row1 M (1 + t) 11 ∨ ¬ s 2 = row1 M (1 + t) 0 then M else rtl (1 + t) (mrdZ t s M)
def rrp (t : Nat) (M : mM) : mM := if M.1 11 (1 + t) = -1 then M else rsn (pn M.1 0) (pn M.1 (1 + t)) (mgA t (row1 M 0)) M
def rsa1 (t : Nat) (M : mM) : mM := if lv M.1 (1 + t) = true ∧ M.1 16 (1 + t) = 2 then rsr t M else M
def rsa (M : mM) : mM := rsa1 1 (rsa1 0 M)
def rfin1 (M : mM) : mM := if row1 M 0 3 = 1 then rrp (row1 M 0 4).toNatClampNeg (mfin0 M) else if M.1 23 0 = 0 then mfin0 M else rsa (mfin0 M)
def rfin (M : mM) : mM := (uI (rfin1 M).1 23 0 (if row1 M 0 3 = 2 then 0 else (rfin1 M).1 23 0), (rfin1 M).2)
def rbeg (M : mM) : mM := if mord (row1 M 0) (mbq M) (mbt M) = 0 then rrp (mbt M) (msh M.1, M.2) else if mord (row1 M 0) (mbq M) (mbt M) ≤ 0 then (msh M.1, M.2) else rtl 0 (mbp M)
def raw1 (I : sm_I) (n : Int32) (d : Nat) : Bool := !us I d || decide (I 22 d = n)
def raw (M : mM) : Bool := decide (nI (M.2.2 (rwi M.1 0)).2.2.length = 0) || ((us M.1 0 || us M.1 1) && raw1 M.1 (nI (M.2.2 (rwi M.1 0)).2.2.length) 0 && raw1 M.1 (nI (M.2.2 (rwi M.1 0)).2.2.length) 1)
def rset : Nat → mM → mM
  | 0, M => M
  | n + 1, M => if lv M.1 0 = true ∧ ((M.1 16 0 = 2 ∧ raw M = true) ∨ (M.1 16 0 = 0 ∧ 0 < M.1 21 0)) then (if M.1 16 0 = 2 then rset n (rfin M) else rset n (rbeg M)) else M
def rwr (d : Nat) (M : mM) : Int32 × mM := if lv M.1 0 = true ∧ M.1 16 0 = 2 ∧ us M.1 d = true ∧ ¬ M.1 22 d = nI (M.2.2 (rwi M.1 0)).2.2.length then (match (M.2.2 (rwi M.1 0)).2.2[(M.1 22 d).toNatClampNeg]? with
  | some x => (x.1, rset 30 (mwrI M.1 d x.1.toNatClampNeg x, M.2))
  | none => (-1, M)) else (-1, M)
def rcp1 (d : Nat) (M : mM) : mM := if M.1 6 d = 48 then rset 30 (mcpI M.1 d (M.1 6 d).toNatClampNeg, M.2) else (mcpI M.1 d (M.1 6 d).toNatClampNeg, M.2)
def rcp (M : mM) : Int32 × mM := if rv M.1 0 = true then (M.1 6 0, rcp1 0 M) else if rv M.1 1 = true then (M.1 6 1, rcp1 1 M) else (-1, M)
def rrsT (k : Nat) (M : mM) : mM := (uI (uI (uI M.1 17 (k - 1) (M.1 17 (k - 1) + 1)) 18 (k - 1) 0) 16 k 0, M.2.1, uZ M.2.2 (rwi M.1 k) (rwT (M.1 17 (k - 1) + 1)))
def rchI (d : Nat) (I : sm_I) : sm_I := uI (if I 5 (1 - d) = 0 then I else uI I 6 (1 - d) 0) 5 (1 - d) 0
def rrsS (d : Nat) (M : mM) : mM := (uI (uI (uI (uI (rchI d (mstI 0 M.1)) 22 0 0) 22 1 0) 16 0 2) 23 0 1, M.2.1, uZ M.2.2 (rwi M.1 0) (mrs2 (dsk M.1 d)))
def rrs1 (k : Nat) (M : mM) : mM := if k = 0 then rrsS (chs M.1).toNatClampNeg M else rrsT k M
def rrsN (k : Nat) (M : mM) : mM := rrs1 k (uI (uI (uI M.1 11 k (fup M.1 (if k = 0 then 0 else 2))) 12 k (-1)) 40 k 0, M.2)
def rrs (k : Nat) (M : mM) : mM := if ¬ M.1 11 k = -1 ∨ fup M.1 (if k = 0 then 0 else 2) = -1 ∨ (k = 0 ∧ chs M.1 = -1) then M else if M.1 0 (ohn (rrsN k M).1 k) = 0 then rrsN k M else rsc k (rrsN k M)
def rto0 (k : Nat) (M : mM) : mM := (mstI k (uI (uI (uI (uI M.1 11 k (M.1 12 k)) 12 k (-1)) 13 k 0) 40 k 0), M.2)
def rto1 (M : mM) : mM := (uI (uI (uI M.1 22 0 0) 22 1 0) 16 0 (if 0 < row1 M 0 3 then 2 else 0), M.2)
def rto2 (t : Nat) (M : mM) : mM := if row1 M (1 + t) 1 = 1 then rsr t (uI M.1 16 (1 + t) 2, M.2) else if row1 M (1 + t) 6 = 1 then rshw t M else M
def rto (k : Nat) (M : mM) : mM := if k = 0 then rset 30 (rsa (rto1 (rto0 0 M))) else rto2 (k - 1) (rto0 k M)
def rdA (k p : Nat) (M : mM) : mM := if M.1 11 k = nI p then (if ¬ M.1 12 k = -1 ∧ ¬ M.1 0 (M.1 12 k).toNatClampNeg = 0 then rto k M else (mstI k (uI (uI (uI (uI M.1 11 k (-1)) 12 k (-1)) 13 k 0) 40 k 0), M.2)) else M
def rdB1 (k : Nat) (M : mM) : mM := if lv M.1 k = true ∧ M.1 16 k = 1 then rgo k M else M
def ihm (k p : Nat) : Bool := if k = 0 then decide (p < 2) else decide (1 < p)
def rdB (k p : Nat) (M : mM) : mM := if M.1 11 k = -1 ∨ M.1 11 k = nI p ∨ ihm k p = false ∨ (M.1 12 k = -1 ∧ M.1 13 k = 0) then M else rdB1 k (uI (uI M.1 12 k (-1)) 13 k 0, M.2)
def rdc (p : Nat) (M : mM) : mM := rset 30 (rdB 2 p (rdB 1 p (rdB 0 p (rdA 2 p (rdA 1 p (rdA 0 p (uI M.1 1 p 1, M.2)))))))
def rfp (p : Nat) (M : mM) : mM := mstp 2 p (mstp 1 p (mstp 0 p (mcl2 p 3 (mcl2 p 2 (mcl2 p 1 (mcl2 p 0 (uI (uI (uI M.1 0 p 0) 1 p 0) 2 p 0, M.2)))))))
def rfl0 (p : Nat) (M : mM) : Int32 × mM := if M.1 0 p = 0 then (0, M) else (1, rfp p M)
def rfl2 (d : Nat) (M : mM) : Int32 × mM := if M.1 4 d = 0 then (0, M) else (1, rset 30 (uI (uI (if us M.1 (1 - d) = true then uI M.1 5 d 0 else M.1) 4 d 0) 6 d 0, M.2))
def rrq (k p : Nat) (M : mM) : mM := if ihm k p = true ∧ M.1 11 k = nI (if p % 2 = 0 then p + 1 else p - 1) ∧ lv M.1 k = true ∧ M.1 12 k = -1 ∧ M.1 13 k = 0 then rsc k M else M
def rrp0 (p : Nat) (M : mM) : mM := rrq 2 p (rrq 1 p (rrq 0 p (uI (uI M.1 0 p 1) 1 p 0, M.2)))
def rrr0 (p : Nat) (M : mM) : Int32 × mM := if M.1 0 p = 0 then (1, rrp0 p (if M.1 1 p = 0 then rdc p M else M)) else (0, M)
def rrr2 (d : Nat) (M : mM) : Int32 × mM := if M.1 4 d = 0 then (1, rset 30 (uI (uI M.1 4 d 1) 6 d 0, M.2)) else (0, M)
def rtk1 (p : Nat) (M : mM) : mM := if sil M.1 p = true then (if M.1 2 p + 1 = 5 then rdc p (uI M.1 2 p (M.1 2 p + 1), M.2) else (uI M.1 2 p (M.1 2 p + 1), M.2)) else M
def rwkc (I : sm_I) (Q : mQ) (j : Nat) : Bool := !(Q j).isEmpty && decide (I 24 j = -1) && decide (¬ I 0 (j / 4) = 0) && decide (¬ I 0 (j % 4) = 0) && decide (¬ nxb I (I 25 j) = -1)
def rwkI (I : sm_I) (Q : mQ) (n : Nat) : sm_I := fun c j => if (c = 24 ∨ c = 25) ∧ j < n ∧ rwkc I Q j = true then nxb I (I 25 j) else I c j
def rtk (M : mM) : mM := rrs 2 (rrs 1 (rrs 0 ((fun N : mM => (rwkI N.1 N.2.1 16, N.2)) (rtk1 3 (rtk1 2 (rtk1 1 (rtk1 0 (uI M.1 8 0 (M.1 8 0 + 1), M.2))))))))
def rwd (k : Nat) (M : mM) : mM := if M.1 16 k = 1 then rset 30 (rgo k M) else if M.1 13 k = 0 then M else if M.1 14 k = 0 then (uI (uI M.1 13 k 0) 12 k (nI (ohn M.1 k)), M.2) else rsc k M
def rcy (k to : Nat) (z : ms) (M : mM) : mM := (uI M.1 40 k 1, M.2.1, uZ M.2.2 (2 * k + to % 2) z)
def rbr (f p : Nat) (m : mg) (M : mM) : mM := if m.1 0 = 1 then (if M.1 11 0 = nI p then rset 30 (mac (fun i => m.1 (5 + i)) M) else M) else if m.1 0 = 2 then (if M.1 11 (1 + (m.1 5).toNatClampNeg) = nI p then rrd (m.1 5).toNatClampNeg (fun i => m.1 (5 + i)) M else M) else if m.1 0 = 3 ∨ m.1 0 = 4 then rsn p f (mgW (m.1 5).toNatClampNeg (m.1 6)) (rcy (m.1 5).toNatClampNeg p m.2 M) else if M.1 11 (m.1 5).toNatClampNeg = nI p ∧ m.1 6 = M.1 15 (m.1 5).toNatClampNeg then rwd (m.1 5).toNatClampNeg M else M
def rarr (f p : Nat) (lost : Bool) (M : mM) : Int32 × mM := match M.2.1 (4 * f + p) with
  | [] => (0, M)
  | m :: _ => if M.1 24 (4 * f + p) = -1 then (0, M) else if m.1 1 ≤ M.1 10 (4 * f + p) then (2, mar1 lost (4 * f + p) M) else (1, rbr f p m (mar2 (4 * f + p) (m.1 1) (mar1 lost (4 * f + p) M)))
