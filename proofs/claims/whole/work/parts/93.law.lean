section LAW
variable {x : CX}
theorem MA_eq {h h' : MH} {a : Nat} {w : Nat → Int32} (hA : MA h a w) (hE : EQa h h' a) : MA h' a w := fun m hm => (hE.2.2 m).1.trans (hA m hm)
/-- the model's object, untouched -/
theorem MO_ea {h h' : MH} {j : Nat} {s : AS} (hO : MO h j s) (hE : ∀ a, j ≤ a → a < j + 21 → EQa h h' a) : MO h' j s := by
  obtain ⟨⟨hM, hA⟩, ⟨g, q1, q2, q3, q4, q5, q6, q7⟩, ⟨s1, s2⟩, t1, t2, t3, t4, t5, t6, t7, t8⟩ := hO
  have k : ∀ d, d < 21 → mK h' (j + d) = mK h (j + d) := fun d hd => (hE _ (by omega) (by omega)).1
  have l : ∀ d, d < 21 → mL h' (j + d) = mL h (j + d) := fun d hd => (hE _ (by omega) (by omega)).2.1
  have ej := hE j (by omega) (by omega)
  have ip : ∀ k, mP h' j k = mP h j k := fun k => (ej.2.2 k).2.1
  have ii : ∀ k, mI h' j k = mI h j k := fun k => (ej.2.2 k).1
  refine ⟨⟨?_, MA_eq hA (hE _ (by omega) (by omega))⟩, ⟨g, (ii 3).trans q1, q2, (k 2 (by decide)).trans q3, (l 2 (by decide)).trans q4, fun i hi => ?_, q6, fun m hm => ?_⟩, ⟨(ii 5).trans s1, fun z => MA_eq (s2 z) (hE _ (by omega) (by omega))⟩, (ii 9).trans t1, t2, fun i hi => ((hE (j + 16) (by omega) (by omega)).2.2 i).1.trans (t3 i hi), (ii 11).trans t4, t5, fun i hi => ((hE (j + 17) (by omega) (by omega)).2.2 i).1.trans (t6 i hi), (ii 23).trans t7, (ii 24).trans t8⟩
  · unfold MB at *
    simp only [ej.1, ip, k 1 (by decide), k 13 (by decide), k 14 (by decide), k 15 (by decide), k 16 (by decide), k 17 (by decide), k 18 (by decide), k 19 (by decide), k 20 (by decide), l 1 (by decide), l 13 (by decide), l 14 (by decide), l 15 (by decide), l 16 (by decide), l 17 (by decide), l 18 (by decide), l 19 (by decide), l 20 (by decide)]
    exact hM
  · obtain ⟨d1, d2, d3, d4, d5⟩ := q5 i hi
    have e := hE (g i) (by omega) (by omega)
    exact ⟨((hE (j + 2) (by omega) (by omega)).2.2 i).2.1.trans d1, d2, d3, e.1.trans d4, e.2.1.trans d5⟩
  · have hd := q5 (aC s - 1 - m) (by omega)
    exact MA_eq (q7 m hm) (hE _ (by omega) (by omega))
/-- the law itself -/
def sLAW : MS := (⟨"PetriNetLaw", "law", "([I)Z"⟩, code, 9, some .boolean, 1, 99, 11, 601024, 7293034)
/-- its script -/
def XL (b0 N : Nat) (xs : Nat → Int32) : State → Code → Prop := fun s _ => va_X b0 N xs s s.heap ∧ b0 < s.heap.size
def PL : Option Value → MH → Prop := pI fun r _ => r = nI 1
abbrev LG (x : CX) (b0 N : Nat) (xs : Nat → Int32) (pc : Nat) (b : Nat × Nat) (L st : List Value) (h : MH) : Prop := MG x sLAW 6 (XL b0 N xs) PL xNo pc b L st h
variable {b0 N a : Nat} {xs : Nat → Int32} {pc : Nat} {b : Nat × Nat} {L st : List Value} {h : MH}
theorem L_sld {i : Int32} (hb : b0 < xz x) (hin : vp_in i N) (hd : decode code pc = .ok (.iaload, 1)) (hs : LG x b0 N xs (pc + 1) b L (.int (xs i.toNatClampNeg) :: st) h) : LG x b0 N xs pc b L (.int i :: .ref b0 :: st) h := by
  intro p e s m args below meth c H locs cells slots ls hB hR hS hL h1 h2
  exact va_sld hB.1.1 hB.1.2.1 hB.2.1 hB.2.2 (fun z => absurd z (Nat.not_le.mpr hb)) hS hin hd (hs p e s m args below meth c H locs cells slots ls hB hR hS hL h1 h2)
theorem L_slen (hb : b0 < xz x) (hd : decode code pc = .ok (.arraylength, 1)) (hs : LG x b0 N xs (pc + 1) b L (.int (Int32.ofNat N) :: st) h) : LG x b0 N xs pc b L (.ref b0 :: st) h := by
  intro p e s m args below meth c H locs cells slots ls hB hR hS hL h1 h2
  exact va_slen hB.1.1 hB.1.2.1 hB.2.1 hB.2.2 (fun z => absurd z (Nat.not_le.mpr hb)) hS hd (hs p e s m args below meth c H locs cells slots ls hB hR hS hL h1 h2)
theorem L_dload {k : Nat} {v : UInt64} (hv : nthV L k = .double v) (hd : decode code pc = .ok (.dload k, 2)) (hs : LG x b0 N xs (pc + 2) b L (.double v :: st) h) : LG x b0 N xs pc b L st h := by
  intro p e s m args below meth c H locs cells slots ls hB hR hS hL h1 h2
  exact lv_dload hB.1.1 hB.1.2.1 hd (hL.at hv (by simp)) (hs p e s m args below meth c H locs cells slots ls hB hR hS hL h1 h2)
theorem L_dstore {k : Nat} {v : UInt64} (hk : k + 1 < 9) (ho : okSt L k) (hd : decode code pc = .ok (.dstore k, 2)) (hs : LG x b0 N xs (pc + 2) b (setV (setV L k (.double v)) (k + 1) .null) st h) : LG x b0 N xs pc b L (.double v :: st) h := by
  intro p e s m args below meth c H locs cells slots ls hB hR hS hL h1 h2
  exact lv_dstore hB.1.1 hB.1.2.1 hd hL.1 hk rfl fun ls1 hl => hs p e s m args below meth c H locs cells slots ls1 hB hR hS (hL.set2 ho hl) h1 h2
theorem L_dcmp {u v : UInt64} (hd : decode code pc = .ok (.dcmp .l, 1)) (hs : LG x b0 N xs (pc + 1) b L (.int (Op.cmpValue (FP.dcmp v u) .l) :: st) h) : LG x b0 N xs pc b L (.double u :: .double v :: st) h := by
  intro p e s m args below meth c H locs cells slots ls hB hR hS hL h1 h2
  exact lv_dcmp hB.1.1 hB.1.2.1 hd (hs p e s m args below meth c H locs cells slots ls hB hR hS hL h1 h2)
theorem L_f2d {v : UInt32} (hn : vf_n64 (FP.f2d v)) (hd : decode code pc = .ok (.f2d, 1)) (hs : LG x b0 N xs (pc + 1) b L (.double (FP.f2d v) :: st) h) : LG x b0 N xs pc b L (.float v :: st) h := by
  intro p e s m args below meth c H locs cells slots ls hB hR hS hL h1 h2
  exact lv_f2d hB.1.1 hB.1.2.1 hd hn (hs p e s m args below meth c H locs cells slots ls hB hR hS hL h1 h2)
/-- one of the call's ints onto the stack -/
theorem L_arg {kz : Int} {k : Nat} (hb : b0 < xz x) (h0 : nthV L 0 = .ref b0) (h4 : nthV L 4 = .int (nI a)) (hk : cI kz = nI k) (hN : a + k < N) (hN2 : N < 2 ^ 31) (d0 : decode code pc = .ok (.aload_n 0, 1)) (d1 : decode code (pc + 1) = .ok (.iload 4, 2)) (d3 : decode code (pc + 3) = .ok (.iconst kz, 1)) (d4 : decode code (pc + 4) = .ok (.iadd, 1)) (d5 : decode code (pc + 5) = .ok (.iaload, 1))
    (hs : LG x b0 N xs (pc + 6) b L (.int (xs (a + k)) :: st) h) : LG x b0 N xs pc b L st h := by
  refine G_aload_n (k := 0) d0 ?_
  show asR (nthV L 0) _
  rw [h0]
  refine G_iload (k := 4) d1 ?_
  show asI (nthV L 4) _
  rw [h4]
  refine G_iconst d3 ?_
  refine G_iadd d4 ?_
  rw [hk]
  show LG x b0 N xs (pc + 5) b L (.int (nI a + nI k) :: .ref b0 :: st) h
  rw [nI_add]
  refine L_sld hb (vp_in_nI hN hN2) d5 ?_
  rw [nI_clamp (by omega)]
  exact hs
/-- the call's first ints onto the stack -/
def RD (x : CX) (b0 N : Nat) (xs : Nat → Int32) (a Q R : Nat) (As : List Value) : Prop := ∀ b L st h, nthV L 0 = .ref b0 → nthV L 4 = .int (nI a) → LG x b0 N xs R b L (As.reverse ++ st) h → LG x b0 N xs Q b L st h
theorem RD_0 {Q : Nat} : RD x b0 N xs a Q Q [] := fun _ _ _ _ _ _ hs => hs
theorem RD_S {Q R k : Nat} {kz : Int} {As : List Value} (hr : RD x b0 N xs a Q R As) (hb : b0 < xz x) (hk : cI kz = nI k) (hN : a + k < N) (hN2 : N < 2 ^ 31) (d0 : decode code R = .ok (.aload_n 0, 1)) (d1 : decode code (R + 1) = .ok (.iload 4, 2)) (d3 : decode code (R + 3) = .ok (.iconst kz, 1)) (d4 : decode code (R + 4) = .ok (.iadd, 1)) (d5 : decode code (R + 5) = .ok (.iaload, 1)) : RD x b0 N xs a Q (R + 6) (As ++ [.int (xs (a + k))]) := by
  intro b L st h h0 h4 hs
  refine hr b L st h h0 h4 (L_arg hb h0 h4 hk hN hN2 d0 d1 d3 d4 d5 ?_)
  rw [List.reverse_append] at hs
  exact hs
/-- both objects hold s; out is a row of one long -/
def IV (h : MH) (i j u : Nat) (s : AS) : Prop := PO h i s ∧ MO h j s ∧ GD s ∧ (mK h u = 13 ∧ mL h u = 1) ∧ i + 119 ≤ j ∧ j + 21 ≤ u
/-- the locals at the loop's head -/
abbrev L9 (b0 i j u a : Nat) : List Value := [.ref b0, .ref i, .ref j, .ref u, .int (nI a), .null, .null, .null, .null]
/-- what a case goes on to -/
def NX (x : CX) (b0 N : Nat) (xs : Nat → Int32) (i j u a : Nat) (b : Nat × Nat) : Prop := ∀ h s, IV h i j u s → LG x b0 N xs 2699 b (L9 b0 i j u a) [] h
theorem NX_le {i j u : Nat} {b' : Nat × Nat} (h1 : b'.1 ≤ b.1) (h2 : b'.2 ≤ b.2) (hn : NX x b0 N xs i j u a b') : NX x b0 N xs i j u a b := fun h s hI => MG_le h1 h2 (hn h s hI)
theorem NX_l {i j u : Nat} {s : AS} {v w y z : Value} (hn : NX x b0 N xs i j u a b) (hI : IV h i j u s) : LG x b0 N xs 2699 b [.ref b0, .ref i, .ref j, .ref u, .int (nI a), v, w, y, z] [] h := MG_nul 5 (MG_nul 6 (MG_nul 7 (MG_nul 8 (hn h s hI))))
theorem IV_mo {h1 : MH} {i j u : Nat} {s : AS} (hI : IV h i j u s) (hF : ∀ q, q < i ∨ i + 119 ≤ q → q ≠ u → EQa h h1 q) : MO h1 j s := MO_ea hI.2.1 fun q g1 g2 => hF q (Or.inr (by have := hI.2.2.2.2; omega)) (by have := hI.2.2.2.2; omega)
theorem IV_po {h1 h2 : MH} {i j u : Nat} {s t : AS} (hI : IV h i j u s) (hP : PO h1 i t) (hF : FM h1 h2 j) : PO h2 i t := PO_ea hP (EQr_fr hF (by have := hI.2.2.2.2; omega))
/-- a method of both without exceptions: its answers are compared -/
theorem cs_A {P R1 R2 KX KM i j u : Nat} {off : Int} {As : List Value} {yx ym : MS} {A : AR} {s : AS} (hn : NX x b0 N xs i j u a b) (hI : IV h i j u s) (hgd : GD A.2.2) (rd1 : RD x b0 N xs a (P + 1) R1 As) (rd2 : RD x b0 N xs a (R1 + 4) R2 As) (hl1 : As.length = msN yx) (hl2 : As.length = msN ym)
    (f1 : mT 6 KX = some yx) (f2 : mT 6 KM = some ym) (m1 : msR yx = 4) (m2 : msR ym = 5) (n1 : ¬ isIn yx) (n2 : ¬ isIn ym) (e1 : msD yx < 11) (e2 : msD ym < 11) (g1 : yx.2.2.1 ≤ 21) (g2 : ym.2.2.1 ≤ 21) (z1 : yx.2.2.2.2.2.2.2.1 = 0 ∧ yx.2.2.2.2.2.2.2.2 = 0) (z2 : ym.2.2.2.2.2.2.2.1 = 0 ∧ ym.2.2.2.2.2.2.2.2 = 0)
    (hx : CT x yx (.ref i :: As) h (pI (okP A h i)) (thP A [] h i)) (hm : ∀ h1, MO h1 j s → CT x ym (.ref j :: As) h1 (pI (oaM A h1 j)) xNo)
    (d0 : decode code P = .ok (.aload_n 1, 1)) (d1 : decode code R1 = .ok (.invokevirtual KX, 3)) (d2 : decode code (R1 + 3) = .ok (.aload_n 2, 1)) (d3 : decode code R2 = .ok (.invokevirtual KM, 3)) (d4 : decode code (R2 + 3) = .ok (.if_icmp .eq off, 3)) (hE : ((R2 + 3 : Nat) : Int) + off = 2699) : LG x b0 N xs P b (L9 b0 i j u a) [] h := by
  refine G_aload_n (k := 1) d0 ?_
  refine rd1 _ _ _ _ rfl rfl ?_
  refine G_virt (by decide) f1 d1 rfl hl1 (Or.inl ⟨by rw [m1]; decide, by rw [m1]; exact hI.1.1.1⟩) n1 (by decide) e1 g1 (by rw [z1.1]; exact Nat.zero_le _) (by rw [z1.2]; exact Nat.zero_le _) hx (fun E h' z => absurd z.2.1 (by simp)) fun v h1 hv => ?_
  rw [z1.1, z1.2]
  obtain ⟨r, rfl, a1, a2, a3, a4⟩ := hv
  have hO1 : MO h1 j s := IV_mo hI fun q hq _ => a4.2 q hq
  refine G_aload_n (k := 2) d2 ?_
  refine rd2 _ _ _ _ rfl rfl ?_
  refine G_virt0 (by decide) f2 d3 rfl hl2 (Or.inl ⟨by rw [m2]; decide, by rw [m2]; exact hO1.1.1.1⟩) n2 (show 1 ≤ 8 by decide) e2 g2 (by rw [z2.1]; exact Nat.zero_le _) (by rw [z2.2]; exact Nat.zero_le _) (hm h1 hO1) fun v h2 hv => ?_
  rw [z2.1, z2.2]
  obtain ⟨r2, rfl, c1, c2, c3, c4⟩ := hv
  have u1 := a4.2 u (Or.inr (by have := hI.2.2.2.2; omega))
  have hI2 : IV h2 i j u A.2.2 := ⟨IV_po hI a3 c4, c3, hgd, ⟨(c4.2.1 u).trans (u1.1.trans hI.2.2.2.1.1), (c4.2.2.1 u).trans (u1.2.1.trans hI.2.2.2.1.2)⟩, hI.2.2.2.2⟩
  refine G_ic d4 hE (fun _ => ?_) fun z => absurd (show r = r2 by rw [a2, c2 a1]) z
  exact NX_l hn hI2
theorem cmp_self (v : Int64) : lg_cmp v v = 0 := (lg_cmp_eq v v).mpr rfl
theorem L_lcmp {v : Int64} (hd : decode code pc = .ok (.lcmp, 1)) (hs : LG x b0 N xs (pc + 1) b L (.int 0 :: st) h) : LG x b0 N xs pc b L (.long v :: .long v :: st) h := G_lcmp hd (by
  show MG x sLAW 6 (XL b0 N xs) PL xNo (pc + 1) b L (.int (lg_cmp v v) :: st) h
  rw [cmp_self]; exact hs)
/-- behind the comparison of what was thrown: an int's answer -/
theorem cs_tlI {T i j u : Nat} {off : Int} {k : Nat} {v : Int32} {h2 : MH} {s : AS} (hn : NX x b0 N xs i j u a b) (hI : IV h2 i j u s) (hv : k = 0 → mJ h2 u 0 = v.toInt64) (hk : k < 4)
    (d0 : decode code T = .ok (.iload 5, 2)) (d1 : decode code (T + 2) = .ok (.ifCond .ne 15, 3)) (d2 : decode code (T + 5) = .ok (.aload_n 3, 1)) (d3 : decode code (T + 6) = .ok (.iconst 0, 1)) (d4 : decode code (T + 7) = .ok (.laload, 1)) (d5 : decode code (T + 8) = .ok (.iload 6, 2)) (d6 : decode code (T + 10) = .ok (.i2l, 1)) (d7 : decode code (T + 11) = .ok (.lcmp, 1)) (d8 : decode code (T + 12) = .ok (.ifCond .eq 5, 3)) (d9 : decode code (T + 17) = .ok (.goto off, 3)) (hE : ((T + 17 : Nat) : Int) + off = 2699) :
    LG x b0 N xs T b [.ref b0, .ref i, .ref j, .ref u, .int (nI a), .int (nI k), .int v, .null, .null] [] h2 := by
  have fin : LG x b0 N xs (T + 17) b [.ref b0, .ref i, .ref j, .ref u, .int (nI a), .int (nI k), .int v, .null, .null] [] h2 := by
    refine G_go d9 hE ?_
    exact NX_l hn hI
  refine G_iload (k := 5) d0 ?_
  refine G_if (T := T + 17) d1 (by omega) (fun z => ?_) fun z => ?_
  · exact fin
  · have z : k = 0 := by
      have z : ¬ ¬ nI k = 0 := z
      rw [nI_eqz (by omega)] at z
      exact Classical.not_not.mp z
    refine G_aload_n (k := 3) d2 ?_
    refine G_iconst d3 ?_
    refine G_laload d4 ⟨hI.2.2.2.1.1, by rw [hI.2.2.2.1.2]; exact vp_in_nI (n := 0) (by decide) (by decide), ?_⟩
    rw [clz, hv z]
    refine G_iload (k := 6) d5 ?_
    refine G_i2l d6 ?_
    refine L_lcmp d7 ?_
    refine G_if (T := T + 17) d8 (by omega) (fun _ => ?_) fun z => absurd rfl z
    exact fin
/-- .. a boolean's -/
theorem cs_tlZ {T i j u : Nat} {off : Int} {k : Nat} {v : Int32} {h2 : MH} {s : AS} (hn : NX x b0 N xs i j u a b) (hI : IV h2 i j u s) (hv : k = 0 → mJ h2 u 0 = v.toInt64) (hz : v = nI 0 ∨ v = nI 1) (hk : k < 4)
    (d0 : decode code T = .ok (.iload 5, 2)) (d1 : decode code (T + 2) = .ok (.ifCond .ne 22, 3)) (d2 : decode code (T + 5) = .ok (.aload_n 3, 1)) (d3 : decode code (T + 6) = .ok (.iconst 0, 1)) (d4 : decode code (T + 7) = .ok (.laload, 1)) (d5 : decode code (T + 8) = .ok (.iload 6, 2)) (d6 : decode code (T + 10) = .ok (.ifCond .eq 7, 3)) (d6a : decode code (T + 13) = .ok (.lconst 1, 1)) (d6b : decode code (T + 14) = .ok (.goto 4, 3)) (d6c : decode code (T + 17) = .ok (.lconst 0, 1)) (d7 : decode code (T + 18) = .ok (.lcmp, 1)) (d8 : decode code (T + 19) = .ok (.ifCond .eq 5, 3)) (d9 : decode code (T + 24) = .ok (.goto off, 3)) (hE : ((T + 24 : Nat) : Int) + off = 2699) :
    LG x b0 N xs T b [.ref b0, .ref i, .ref j, .ref u, .int (nI a), .int (nI k), .int v, .null, .null] [] h2 := by
  have fin : LG x b0 N xs (T + 24) b [.ref b0, .ref i, .ref j, .ref u, .int (nI a), .int (nI k), .int v, .null, .null] [] h2 := by
    refine G_go d9 hE ?_
    exact NX_l hn hI
  have cmp : ∀ w : Int64, w = v.toInt64 → LG x b0 N xs (T + 18) b [.ref b0, .ref i, .ref j, .ref u, .int (nI a), .int (nI k), .int v, .null, .null] [.long w, .long v.toInt64] h2 := fun w hw => by
    subst hw
    refine L_lcmp d7 ?_
    refine G_if (T := T + 24) d8 (by omega) (fun _ => ?_) fun z => absurd rfl z
    exact fin
  refine G_iload (k := 5) d0 ?_
  refine G_if (T := T + 24) d1 (by omega) (fun z => ?_) fun z => ?_
  · exact fin
  · have z : k = 0 := by
      have z : ¬ ¬ nI k = 0 := z
      rw [nI_eqz (by omega)] at z
      exact Classical.not_not.mp z
    refine G_aload_n (k := 3) d2 ?_
    refine G_iconst d3 ?_
    refine G_laload d4 ⟨hI.2.2.2.1.1, by rw [hI.2.2.2.1.2]; exact vp_in_nI (n := 0) (by decide) (by decide), ?_⟩
    rw [clz, hv z]
    refine G_iload (k := 6) d5 ?_
    refine G_if (T := T + 17) d6 (by omega) (fun z => ?_) fun z => ?_
    · have z : v = 0 := z
      refine G_lconst d6c (cmp _ ?_)
      rw [z]; rfl
    · have z : ¬ v = 0 := z
      refine G_lconst d6a ?_
      refine G_go (T := T + 18) d6b (by omega) ?_
      refine cmp _ ?_
      rcases hz with g | g
      · rw [g] at z; exact absurd nI_0 z
      · rw [g]; decide
/-- a method with exceptions, of both -/
theorem cs_B {P R1 R2 KW KM i j u : Nat} {As : List Value} {yw ym : MS} {hh : List (Nat × Nat × Nat × Nat)} {A : AR} {s : AS} (zb : 3 ≤ b.1 ∧ 18 ≤ b.2) (hI : IV h i j u s) (hgd : GD A.2.2) (hA : A.1 < 4) (rd1 : RD x b0 N xs a (P + 1) R1 As) (rd2 : RD x b0 N xs a (R1 + 7) R2 As) (hl1 : As.length + 2 = msN yw) (hl2 : As.length = msN ym)
    (hw : okLW yw hh KW) (f2 : mT 6 KM = some ym) (m2 : msR ym = 5) (n2 : ¬ isIn ym) (e1 : msD yw < 11) (e2 : msD ym < 11) (g1 : yw.2.2.1 ≤ 21) (g2 : ym.2.2.1 ≤ 21) (z1 : yw.2.2.2.2.2.2.2.1 ≤ 3 ∧ yw.2.2.2.2.2.2.2.2 ≤ 18) (z2 : ym.2.2.2.2.2.2.2.1 = 0 ∧ ym.2.2.2.2.2.2.2.2 = 0)
    (hx : CTW x yw hh (.ref i :: (As ++ [.ref u])) h (pI (wrP A h i u)) xNo) (hm : ∀ h1, MO h1 j s → CT x ym (.ref j :: As) h1 (pI (oaM A h1 j)) xNo)
    (d0 : decode code P = .ok (.aload_n 1, 1)) (d1 : decode code R1 = .ok (.aload_n 3, 1)) (d2 : decode code (R1 + 1) = .ok (.invokestatic KW, 3)) (d3 : decode code (R1 + 4) = .ok (.istore 5, 2)) (d4 : decode code (R1 + 6) = .ok (.aload_n 2, 1)) (d5 : decode code R2 = .ok (.invokevirtual KM, 3))
    (c5 : decode code (R2 + 3) = .ok (.istore 6, 2)) (c6 : decode code (R2 + 5) = .ok (.aload_n 2, 1)) (c7 : decode code (R2 + 6) = .ok (.invokevirtual 131, 3)) (c8 : decode code (R2 + 9) = .ok (.iload 5, 2)) (c9 : decode code (R2 + 11) = .ok (.if_icmp .eq 5, 3))
    (tl : ∀ h2 rb, IV h2 i j u A.2.2 → (A.1 = 0 → mJ h2 u 0 = rb.toInt64 ∧ rb = A.2.1) → LG x b0 N xs (R2 + 16) (b.1 - 3, b.2 - 18) [.ref b0, .ref i, .ref j, .ref u, .int (nI a), .int (nI A.1), .int rb, .null, .null] [] h2) : LG x b0 N xs P b (L9 b0 i j u a) [] h := by
  refine G_aload_n (k := 1) d0 ?_
  refine rd1 _ _ _ _ rfl rfl ?_
  refine G_aload_n (k := 3) d1 ?_
  refine G_stat (As := .ref i :: (As ++ [.ref u])) (r := []) hw rfl d2 (by simp) (by rw [← hl1]; simp) (by decide) e1 g1 (by omega) (by omega) hx fun v h1 hv => ?_
  obtain ⟨r, rfl, rfl, a2, a3, a4⟩ := hv
  refine MG_le (b' := (b.1 - 3, b.2 - 18)) (by show b.1 - 3 ≤ b.1 - _; omega) (by show b.2 - 18 ≤ b.2 - _; omega) ?_
  refine G_istore (k := 5) (by decide) d3 ⟨rfl, ?_⟩
  have hO1 : MO h1 j s := IV_mo hI a4.2.1
  refine G_aload_n (k := 2) d4 ?_
  refine rd2 _ _ _ _ rfl rfl ?_
  refine G_virt0 (by decide) f2 d5 rfl hl2 (Or.inl ⟨by rw [m2]; decide, by rw [m2]; exact hO1.1.1.1⟩) n2 (by decide) e2 g2 (by rw [z2.1]; exact Nat.zero_le _) (by rw [z2.2]; exact Nat.zero_le _) (hm h1 hO1) fun v h2 hv => ?_
  rw [z2.1, z2.2]
  obtain ⟨r2, rfl, c1, c2, c3, c4⟩ := hv
  have hI2 : IV h2 i j u A.2.2 := ⟨IV_po hI a3 c4, c3, hgd, ⟨(c4.2.1 u).trans (a4.2.2.1.trans hI.2.2.2.1.1), (c4.2.2.1 u).trans (a4.2.2.2.trans hI.2.2.2.1.2)⟩, hI.2.2.2.2⟩
  refine G_istore (k := 6) (by decide) c5 ⟨rfl, ?_⟩
  refine G_aload_n (k := 2) c6 ?_
  refine G_virt0 (As := []) (y := sX5_thrown) (by decide) rfl c7 rfl rfl (Or.inl ⟨by decide, hI2.2.1.1.1.1⟩) in_X5_thrown (by decide) (by decide) (by decide) (Nat.zero_le _) (Nat.zero_le _) (m_thrown hI2.2.1.1.1) fun v h3 hv3 => ?_
  obtain ⟨r, rfl, rfl, rfl⟩ := hv3
  refine G_iload (k := 5) c8 ?_
  rw [c1]
  refine G_ic (T := R2 + 16) c9 (by omega) (fun _ => ?_) fun z => absurd rfl z
  refine tl _ r2 hI2 fun g => ⟨?_, c2 g⟩
  rw [((c4.2.2.2 u (Or.inr hI.2.2.2.2.2) 0).2.2).trans (a2 g), c2 g]
theorem cs_BI {P R1 R2 KW KM i j u : Nat} {off : Int} {As : List Value} {yw ym : MS} {hh : List (Nat × Nat × Nat × Nat)} {A : AR} {s : AS} (hn : NX x b0 N xs i j u a (b.1 - 3, b.2 - 18)) (zb : 3 ≤ b.1 ∧ 18 ≤ b.2) (hI : IV h i j u s) (hgd : GD A.2.2) (hA : A.1 < 4) (rd1 : RD x b0 N xs a (P + 1) R1 As) (rd2 : RD x b0 N xs a (R1 + 7) R2 As) (hl1 : As.length + 2 = msN yw) (hl2 : As.length = msN ym)
    (hw : okLW yw hh KW) (f2 : mT 6 KM = some ym) (m2 : msR ym = 5) (n2 : ¬ isIn ym) (e1 : msD yw < 11) (e2 : msD ym < 11) (g1 : yw.2.2.1 ≤ 21) (g2 : ym.2.2.1 ≤ 21) (z1 : yw.2.2.2.2.2.2.2.1 ≤ 3 ∧ yw.2.2.2.2.2.2.2.2 ≤ 18) (z2 : ym.2.2.2.2.2.2.2.1 = 0 ∧ ym.2.2.2.2.2.2.2.2 = 0)
    (hx : CTW x yw hh (.ref i :: (As ++ [.ref u])) h (pI (wrP A h i u)) xNo) (hm : ∀ h1, MO h1 j s → CT x ym (.ref j :: As) h1 (pI (oaM A h1 j)) xNo)
    (d0 : decode code P = .ok (.aload_n 1, 1)) (d1 : decode code R1 = .ok (.aload_n 3, 1)) (d2 : decode code (R1 + 1) = .ok (.invokestatic KW, 3)) (d3 : decode code (R1 + 4) = .ok (.istore 5, 2)) (d4 : decode code (R1 + 6) = .ok (.aload_n 2, 1)) (d5 : decode code R2 = .ok (.invokevirtual KM, 3))
    (c5 : decode code (R2 + 3) = .ok (.istore 6, 2)) (c6 : decode code (R2 + 5) = .ok (.aload_n 2, 1)) (c7 : decode code (R2 + 6) = .ok (.invokevirtual 131, 3)) (c8 : decode code (R2 + 9) = .ok (.iload 5, 2)) (c9 : decode code (R2 + 11) = .ok (.if_icmp .eq 5, 3))
    (t0 : decode code (R2 + 16) = .ok (.iload 5, 2)) (t1 : decode code (R2 + 18) = .ok (.ifCond .ne 15, 3)) (t2 : decode code (R2 + 21) = .ok (.aload_n 3, 1)) (t3 : decode code (R2 + 22) = .ok (.iconst 0, 1)) (t4 : decode code (R2 + 23) = .ok (.laload, 1)) (t5 : decode code (R2 + 24) = .ok (.iload 6, 2)) (t6 : decode code (R2 + 26) = .ok (.i2l, 1)) (t7 : decode code (R2 + 27) = .ok (.lcmp, 1)) (t8 : decode code (R2 + 28) = .ok (.ifCond .eq 5, 3)) (t9 : decode code (R2 + 33) = .ok (.goto off, 3)) (hE : ((R2 + 33 : Nat) : Int) + off = 2699) : LG x b0 N xs P b (L9 b0 i j u a) [] h :=
  cs_B zb hI hgd hA rd1 rd2 hl1 hl2 hw f2 m2 n2 e1 e2 g1 g2 z1 z2 hx hm d0 d1 d2 d3 d4 d5 c5 c6 c7 c8 c9 fun h2 rb hI2 hv => cs_tlI hn hI2 (fun g => (hv g).1) hA t0 t1 t2 t3 t4 t5 t6 t7 t8 t9 hE
theorem cs_BZ {P R1 R2 KW KM i j u : Nat} {off : Int} {As : List Value} {yw ym : MS} {hh : List (Nat × Nat × Nat × Nat)} {A : AR} {s : AS} (hz : A.2.1 = nI 0 ∨ A.2.1 = nI 1) (hn : NX x b0 N xs i j u a (b.1 - 3, b.2 - 18)) (zb : 3 ≤ b.1 ∧ 18 ≤ b.2) (hI : IV h i j u s) (hgd : GD A.2.2) (hA : A.1 < 4) (rd1 : RD x b0 N xs a (P + 1) R1 As) (rd2 : RD x b0 N xs a (R1 + 7) R2 As) (hl1 : As.length + 2 = msN yw) (hl2 : As.length = msN ym)
    (hw : okLW yw hh KW) (f2 : mT 6 KM = some ym) (m2 : msR ym = 5) (n2 : ¬ isIn ym) (e1 : msD yw < 11) (e2 : msD ym < 11) (g1 : yw.2.2.1 ≤ 21) (g2 : ym.2.2.1 ≤ 21) (z1 : yw.2.2.2.2.2.2.2.1 ≤ 3 ∧ yw.2.2.2.2.2.2.2.2 ≤ 18) (z2 : ym.2.2.2.2.2.2.2.1 = 0 ∧ ym.2.2.2.2.2.2.2.2 = 0)
    (hx : CTW x yw hh (.ref i :: (As ++ [.ref u])) h (pI (wrP A h i u)) xNo) (hm : ∀ h1, MO h1 j s → CT x ym (.ref j :: As) h1 (pI (oaM A h1 j)) xNo)
    (d0 : decode code P = .ok (.aload_n 1, 1)) (d1 : decode code R1 = .ok (.aload_n 3, 1)) (d2 : decode code (R1 + 1) = .ok (.invokestatic KW, 3)) (d3 : decode code (R1 + 4) = .ok (.istore 5, 2)) (d4 : decode code (R1 + 6) = .ok (.aload_n 2, 1)) (d5 : decode code R2 = .ok (.invokevirtual KM, 3))
    (c5 : decode code (R2 + 3) = .ok (.istore 6, 2)) (c6 : decode code (R2 + 5) = .ok (.aload_n 2, 1)) (c7 : decode code (R2 + 6) = .ok (.invokevirtual 131, 3)) (c8 : decode code (R2 + 9) = .ok (.iload 5, 2)) (c9 : decode code (R2 + 11) = .ok (.if_icmp .eq 5, 3))
    (t0 : decode code (R2 + 16) = .ok (.iload 5, 2)) (t1 : decode code (R2 + 18) = .ok (.ifCond .ne 22, 3)) (t2 : decode code (R2 + 21) = .ok (.aload_n 3, 1)) (t3 : decode code (R2 + 22) = .ok (.iconst 0, 1)) (t4 : decode code (R2 + 23) = .ok (.laload, 1)) (t5 : decode code (R2 + 24) = .ok (.iload 6, 2)) (t6 : decode code (R2 + 26) = .ok (.ifCond .eq 7, 3)) (t6a : decode code (R2 + 29) = .ok (.lconst 1, 1)) (t6b : decode code (R2 + 30) = .ok (.goto 4, 3)) (t6c : decode code (R2 + 33) = .ok (.lconst 0, 1)) (t7 : decode code (R2 + 34) = .ok (.lcmp, 1)) (t8 : decode code (R2 + 35) = .ok (.ifCond .eq 5, 3)) (t9 : decode code (R2 + 40) = .ok (.goto off, 3)) (hE : ((R2 + 40 : Nat) : Int) + off = 2699) : LG x b0 N xs P b (L9 b0 i j u a) [] h :=
  cs_B zb hI hgd hA rd1 rd2 hl1 hl2 hw f2 m2 n2 e1 e2 g1 g2 z1 z2 hx hm d0 d1 d2 d3 d4 d5 c5 c6 c7 c8 c9 fun h2 rb hI2 hv => (Classical.em (A.1 = 0)).elim (fun g => cs_tlZ hn hI2 (fun g => (hv g).1) (by rw [(hv g).2]; exact hz) hA t0 t1 t2 t3 t4 t5 t6 t6a t6b t6c t7 t8 t9 hE) fun g => by
    have fin : LG x b0 N xs (R2 + 40) (b.1 - 3, b.2 - 18) [.ref b0, .ref i, .ref j, .ref u, .int (nI a), .int (nI A.1), .int rb, .null, .null] [] h2 := by
      refine G_go t9 hE ?_
      exact NX_l hn hI2
    refine G_iload (k := 5) t0 ?_
    refine G_if (T := R2 + 40) t1 (by omega) (fun z => ?_) fun z => ?_
    · exact fin
    · have z : ¬ ¬ nI A.1 = 0 := z
      rw [nI_eqz (by omega)] at z
      exact absurd g z
/-- the same number twice: the comparisons of the law -/
theorem cs_dbl {P i j u : Nat} {off : Int} {v : UInt64} {s : AS} (hn : NX x b0 N xs i j u a b) (hI : IV h i j u s) (d0 : decode code P = .ok (.dload 5, 2)) (d1 : decode code (P + 2) = .ok (.dload 7, 2)) (d2 : decode code (P + 4) = .ok (.dcmp .l, 1)) (d3 : decode code (P + 5) = .ok (.ifCond .eq 21, 3))
    (d4 : decode code (P + 8) = .ok (.dload 5, 2)) (d5 : decode code (P + 10) = .ok (.dload 5, 2)) (d6 : decode code (P + 12) = .ok (.dcmp .l, 1)) (d7 : decode code (P + 13) = .ok (.ifCond .eq 11, 3)) (d8 : decode code (P + 16) = .ok (.dload 7, 2)) (d9 : decode code (P + 18) = .ok (.dload 7, 2)) (da : decode code (P + 20) = .ok (.dcmp .l, 1)) (db : decode code (P + 21) = .ok (.ifCond .ne 5, 3)) (dc : decode code (P + 26) = .ok (.goto off, 3)) (hE : ((P + 26 : Nat) : Int) + off = 2699) :
    LG x b0 N xs P b [.ref b0, .ref i, .ref j, .ref u, .int (nI a), .double v, .null, .double v, .null] [] h := by
  have fin : LG x b0 N xs (P + 26) b [.ref b0, .ref i, .ref j, .ref u, .int (nI a), .double v, .null, .double v, .null] [] h := by
    refine G_go dc hE ?_
    exact NX_l hn hI
  refine L_dload (k := 5) rfl d0 ?_
  refine L_dload (k := 7) rfl d1 ?_
  refine L_dcmp d2 ?_
  refine G_if (T := P + 26) d3 (by omega) (fun _ => ?_) fun z => ?_
  · exact fin
  · refine L_dload (k := 5) rfl d4 ?_
    refine L_dload (k := 5) rfl d5 ?_
    refine L_dcmp d6 ?_
    refine G_if (T := P + 24) d7 (by omega) (fun z2 => absurd z2 z) fun _ => ?_
    refine L_dload (k := 7) rfl d8 ?_
    refine L_dload (k := 7) rfl d9 ?_
    refine L_dcmp da ?_
    refine G_if (T := P + 26) db (by omega) (fun _ => ?_) fun z2 => absurd z z2
    exact fin
end LAW
