section LAW
variable {x : CX}
/-! the law's own methods -/
/-- the script's int at k, 0 beyond -/
def scI (x : CX) (k : Nat) : Int32 := if k < xN x then xF x k else nI 0
theorem l_cell {h : MH} {k : Nat} (hN : xN x ≤ 260) (hk : k < 1000) : CT x sL_cell [.ref (xB x), .int (nI k)] h (pI fun r h' => r = scI x k ∧ h' = h) xNo := by
  (refine CT_of (o := 6) rfl (by decide +kernel) (by simp [Value.category, sL_cell]) (MW_ev kL_cell 300 ?_); show evS _ _ _ _ _ _ 300 0 (0, 0) [.ref (xB x), .int (nI k)] [] _; simp only [st_iconst, st_lconst, st_ldc2_w, st_ldc, st_iload, st_lload, st_aload, st_istore, st_astore, st_lstore, st_iinc, st_iadd, st_isub, st_imul, st_idiv, st_irem, st_iand, st_ior, st_ishl, st_ishr, st_iushr, st_ladd, st_lmul, st_lshl, st_lushr, st_lcmp, st_i2l, st_l2i, st_i2b, st_i2c, st_i2d, st_i2f, st_dconst, st_fconst, st_ddiv, st_fdiv, st_dup, st_dup2, st_pop, st_goto, st_if_icmp, st_ifCond, st_tableswitch, st_lookupswitch, st_iaload, st_baload, st_laload, st_aaload, st_iastore, st_bastore, st_lastore, st_aastore, st_saload, st_faload, st_jsr, st_caload, st_d2i, st_d2f, st_ineg, st_ixor, st_dup_x1, st_aconst_null, st_ifnonnull, st_castore, st_getstatic, st_frem, st_drem, st_monitorexit, st_monitorenter, st_invokeinterface, st_newarray, st_anewarray, st_multianewarray, asI_c, asJ_c, asR_c, asD_c, asF_c, popI_c, popJ_c, popR_c, popD_c, popF_c, pop1_c, okSt_0, okSt_S, rcv_0, rcv_1, rcv_2, rcv_3, rcv_4, rcv_5, rcv_8, pI_c, pJ_c, pR_c, pV_c, pD_c, pF_c, cmp_eq, cmp_ne, cmp_lt, cmp_ge, cmp_gt, cmp_le, nth_0, nth_S, set_0, set_S, cat_int, cat_ref, cat_long, cat_double, cat_float, cat_null, catS_0, catS_S, swT_0, swT_S, swL_0, swL_S, Nat.add_zero, Nat.reduceAdd, Nat.reduceSub, Nat.reduceLT, Nat.reduceLeDiff, true_and, and_true, eq_self, eL_cell_0, fL_cell_0, eL_cell_1, eL_cell_2, eL_cell_3, tn_12, eL_cell_6, eL_cell_7, eL_cell_8, eL_cell_9, tn_13, eL_cell_12, cI_0, eL_cell_13, d_L_cell, re_L_cell])
  refine ⟨_, _, Or.inr ⟨rfl, rfl, rfl⟩, fun g => ?_, fun g => ?_⟩
  · have g : nI (xN x) ≤ nI k := g
    rw [nI_leI (by omega) (by omega)] at g
    exact (if_neg (by omega)).symm
  · have g : ¬ nI (xN x) ≤ nI k := g
    rw [nI_leI (by omega) (by omega)] at g
    refine ⟨_, _, Or.inr ⟨rfl, rfl, rfl⟩, vp_in_nI (by omega) (by omega), ?_⟩
    rw [nI_clamp (by omega)]
    exact (if_pos (by omega)).symm
theorem tm_lo (a : Int) (m : Nat) (h : 0 < m) : -(m : Int) < a.tmod m := by
  rcases Int.lt_or_le a 0 with g | g
  · have h1 := Int.tmod_lt_of_pos (-a) (b := (m : Int)) (by omega)
    rw [Int.neg_tmod] at h1
    omega
  · have h1 := Int.tmod_nonneg (m : Int) g
    omega
theorem fm_tmod {a b : Int32} {m : Nat} (h0 : 0 < m) (hm : m < 1000) (hb : b.toInt = m) : (a - a / b * b).toInt = a.toInt.tmod m := by
  have h1 : b ≠ -1 := fun e => by
    rw [e] at hb
    have h2 : (-1 : Int32).toInt = -1 := by decide
    omega
  rw [Int32.toInt_sub, Int32.toInt_mul, Int32.toInt_div_of_ne_right _ _ h1, hb, Int.sub_bmod_bmod]
  have h3 := Int.tmod_def a.toInt m
  have h4 := tm_lo a.toInt m h0
  have h5 := Int.tmod_lt_of_pos a.toInt (b := (m : Int)) (by omega)
  rw [show a.toInt - a.toInt.tdiv m * m = a.toInt.tmod m by rw [h3, Int.mul_comm]]
  exact Int.bmod_eq_of_le_mul_two (by omega) (by omega)
theorem fm_xor {x b : Int32} (hb : ¬ b.toInt < 0) : (x ^^^ b < 0) = (x < 0) := by
  have h1 := BitVec.msb_xor (x := x.toBitVec) (y := b.toBitVec)
  rw [BitVec.msb_eq_toInt, BitVec.msb_eq_toInt, BitVec.msb_eq_toInt] at h1
  have h2 : b.toBitVec.toInt = b.toInt := rfl
  have h3 : x.toBitVec.toInt = x.toInt := rfl
  have h4 : (x.toBitVec ^^^ b.toBitVec).toInt = (x ^^^ b).toInt := rfl
  rw [h2, h3, h4, decide_eq_false hb, Bool.xor_false] at h1
  have h5 := decide_eq_decide.mp h1
  rw [Int32.lt_iff_toInt_lt, Int32.lt_iff_toInt_lt]
  exact propext h5
theorem z_toInt : (0 : Int32).toInt = 0 := by decide
/-- an int by its value -/
theorem of_ti {v : Int32} {m : Nat} (h0 : 0 ≤ v.toInt) (h1 : v.toInt < m) (hm : m < 1000) : ∃ k, k < m ∧ v = nI k := by
  obtain ⟨k, hk, e⟩ := nI_of (x := v) (fun z => by
    have := Int32.lt_iff_toInt_lt.mp z
    rw [z_toInt] at this
    omega)
  subst e
  rw [nI_toInt (by omega)] at h1
  exact ⟨k, by omega, rfl⟩
theorem l_floorMod {h : MH} {a : Int32} {m : Nat} (h0 : 0 < m) (hm : m < 1000) : CT x sJ9_floorMod_7cf53 [.int a, .int (nI m)] h (pI fun r h' => (∃ k, k < m ∧ r = nI k) ∧ h' = h) xNo := by
  have hb := nI_toInt (n := m) (by omega)
  have h4 := tm_lo a.toInt m h0
  have h5 := Int.tmod_lt_of_pos a.toInt (b := (m : Int)) (by omega)
  have hr := fm_tmod (a := a) h0 hm hb
  (refine CT_of (o := 14) rfl (by decide +kernel) (by simp [Value.category, sJ9_floorMod_7cf53]) (MW_ev kJ9_floorMod_7cf53 300 ?_); show evS _ _ _ _ _ _ 300 0 (0, 0) [.int a, .int (nI m), .null] [] _; simp only [st_iconst, st_lconst, st_ldc2_w, st_ldc, st_iload, st_lload, st_aload, st_istore, st_astore, st_lstore, st_iinc, st_iadd, st_isub, st_imul, st_idiv, st_irem, st_iand, st_ior, st_ishl, st_ishr, st_iushr, st_ladd, st_lmul, st_lshl, st_lushr, st_lcmp, st_i2l, st_l2i, st_i2b, st_i2c, st_i2d, st_i2f, st_dconst, st_fconst, st_ddiv, st_fdiv, st_dup, st_dup2, st_pop, st_goto, st_if_icmp, st_ifCond, st_tableswitch, st_lookupswitch, st_iaload, st_baload, st_laload, st_aaload, st_iastore, st_bastore, st_lastore, st_aastore, st_saload, st_faload, st_jsr, st_caload, st_d2i, st_d2f, st_ineg, st_ixor, st_dup_x1, st_aconst_null, st_ifnonnull, st_castore, st_getstatic, st_frem, st_drem, st_monitorexit, st_monitorenter, st_invokeinterface, st_newarray, st_anewarray, st_multianewarray, asI_c, asJ_c, asR_c, asD_c, asF_c, popI_c, popJ_c, popR_c, popD_c, popF_c, pop1_c, okSt_0, okSt_S, rcv_0, rcv_1, rcv_2, rcv_3, rcv_4, rcv_5, rcv_8, pI_c, pJ_c, pR_c, pV_c, pD_c, pF_c, cmp_eq, cmp_ne, cmp_lt, cmp_ge, cmp_gt, cmp_le, nth_0, nth_S, set_0, set_S, cat_int, cat_ref, cat_long, cat_double, cat_float, cat_null, catS_0, catS_S, swT_0, swT_S, swL_0, swL_S, Nat.add_zero, Nat.reduceAdd, Nat.reduceSub, Nat.reduceLT, Nat.reduceLeDiff, true_and, and_true, eq_self, eJ9_floorMod_7cf53_0, fJ9_floorMod_7cf53_0, eJ9_floorMod_7cf53_1, eJ9_floorMod_7cf53_2, eJ9_floorMod_7cf53_3, eJ9_floorMod_7cf53_4, eJ9_floorMod_7cf53_5, eJ9_floorMod_7cf53_6, eJ9_floorMod_7cf53_7, tn_18, eJ9_floorMod_7cf53_10, eJ9_floorMod_7cf53_11, eJ9_floorMod_7cf53_14, eJ9_floorMod_7cf53_15, eJ9_floorMod_7cf53_16, eJ9_floorMod_7cf53_17, eJ9_floorMod_7cf53_18, eJ9_floorMod_7cf53_19, d_J9_floorMod_7cf53, re_J9_floorMod_7cf53, reduceIte, n1z, if_true, if_false, n1i, n0i])
  refine ⟨fun z => ?_, fun g => ?_, fun g => ⟨fun g2 => ?_, fun g2 => ?_⟩⟩
  · rw [nI_eqz (by omega)] at z; omega
  · have g : ¬ a ^^^ nI m < 0 := Int32.not_lt.mpr g
    rw [fm_xor (by omega), Int32.lt_iff_toInt_lt, z_toInt] at g
    have := Int.tmod_nonneg (m : Int) (a := a.toInt) (by omega)
    exact of_ti (by omega) (by omega) hm
  · rw [g2, z_toInt] at hr
    exact of_ti (m := m) (by rw [g2, z_toInt]; omega) (by rw [g2, z_toInt]; omega) hm
  · have g : a ^^^ nI m < 0 := Int32.not_le.mp g
    rw [fm_xor (by omega), Int32.lt_iff_toInt_lt, z_toInt] at g
    have h6 : ¬ (a - a / nI m * nI m).toInt = 0 := fun z => g2 (Int32.toInt_inj.mp (z.trans z_toInt.symm))
    have h7 := Int.tmod_nonneg (m : Int) (a := -a.toInt) (by omega)
    rw [Int.neg_tmod] at h7
    have h8 : (a - a / nI m * nI m + nI m).toInt = a.toInt.tmod m + m := by
      rw [Int32.toInt_add, hr, hb]
      exact Int.bmod_eq_of_le_mul_two (by omega) (by omega)
    exact of_ti (by omega) (by omega) hm
theorem l_of {h : MH} {k lo m : Nat} (hN : xN x ≤ 260) (hk : k < 1000) (h0 : 0 < m) (hm : m < 1000) : CT x sL_of [.ref (xB x), .int (nI k), .int (nI lo), .int (nI m)] h (pI fun r h' => (∃ j, j < m ∧ r = nI (lo + j)) ∧ h' = h) xNo := by
  (refine CT_of (o := 6) rfl (by decide +kernel) (by simp [Value.category, sL_of]) (MW_ev kL_of 300 ?_); show evS _ _ _ _ _ _ 300 0 (0, 0) [.ref (xB x), .int (nI k), .int (nI lo), .int (nI m)] [] _; simp only [st_iconst, st_lconst, st_ldc2_w, st_ldc, st_iload, st_lload, st_aload, st_istore, st_astore, st_lstore, st_iinc, st_iadd, st_isub, st_imul, st_idiv, st_irem, st_iand, st_ior, st_ishl, st_ishr, st_iushr, st_ladd, st_lmul, st_lshl, st_lushr, st_lcmp, st_i2l, st_l2i, st_i2b, st_i2c, st_i2d, st_i2f, st_dconst, st_fconst, st_ddiv, st_fdiv, st_dup, st_dup2, st_pop, st_goto, st_if_icmp, st_ifCond, st_tableswitch, st_lookupswitch, st_iaload, st_baload, st_laload, st_aaload, st_iastore, st_bastore, st_lastore, st_aastore, st_saload, st_faload, st_jsr, st_caload, st_d2i, st_d2f, st_ineg, st_ixor, st_dup_x1, st_aconst_null, st_ifnonnull, st_castore, st_getstatic, st_frem, st_drem, st_monitorexit, st_monitorenter, st_invokeinterface, st_newarray, st_anewarray, st_multianewarray, asI_c, asJ_c, asR_c, asD_c, asF_c, popI_c, popJ_c, popR_c, popD_c, popF_c, pop1_c, okSt_0, okSt_S, rcv_0, rcv_1, rcv_2, rcv_3, rcv_4, rcv_5, rcv_8, pI_c, pJ_c, pR_c, pV_c, pD_c, pF_c, cmp_eq, cmp_ne, cmp_lt, cmp_ge, cmp_gt, cmp_le, nth_0, nth_S, set_0, set_S, cat_int, cat_ref, cat_long, cat_double, cat_float, cat_null, catS_0, catS_S, swT_0, swT_S, swL_0, swL_S, Nat.add_zero, Nat.reduceAdd, Nat.reduceSub, Nat.reduceLT, Nat.reduceLeDiff, true_and, and_true, eq_self, eL_of_0, fL_of_0, eL_of_1, eL_of_2, eL_of_3, iv6_7, c_L_cell, eL_of_6, eL_of_7, iv6_13, c_J9_floorMod_7cf53, eL_of_10, eL_of_11, d_L_of, re_L_of])
  refine CI_pure (l_cell hN hk) ?_
  refine CI_of (l_floorMod h0 hm) (fun _ _ z => z.elim) fun r h' ⟨⟨j, hj, e⟩, e2⟩ => ?_
  subst e
  subst e2
  exact ⟨⟨j, hj, nI_add _ _⟩, rfl⟩
/-! what the called methods give -/
theorem CI_ok {q : MS} {as : List Value} {h : MH} {i : Nat} {s : AS} {v : Int32} {xk : String → MH → Prop} {k : Int32 → MH → Prop} (hc : OPC x q as h i [] (okA s v)) (hk : ∀ h', PO h' i s → FZ h h' i (i + 119) → k v h') : CALLI x q as h xk k :=
  ⟨_, _, hc, fun E h' z => absurd z.2.1 (by simp), fun r h' ⟨_, a2, a3, a4⟩ => by
    have a2 : r = v := a2
    subst a2
    exact hk h' a3 a4⟩
theorem CI_op {q : MS} {as : List Value} {h : MH} {i : Nat} {A : AR} {xk : String → MH → Prop} {k : Int32 → MH → Prop} (hc : OPC x q as h i [] A) (hk : ∀ h', PO h' i A.2.2 → FZ h h' i (i + 119) → k A.2.1 h') : CALLI x q as h xk k :=
  ⟨_, _, hc, fun E h' z => absurd z.2.1 (by simp), fun r h' ⟨_, a2, a3, a4⟩ => by
    subst a2
    exact hk h' a3 a4⟩
theorem CW_op {y : MS} {hh : List (Nat × Nat × Nat × Nat)} {as : List Value} {h : MH} {i : Nat} {A : AR} {K : Int32 → MH → Prop} (hc : CTW x y hh as h (pI (wrQ A h i)) xNo) (hk : ∀ h', PO h' i A.2.2 → FZ h h' i (i + 119) → K (wvA A) h') : CALLW x y hh as h K :=
  ⟨_, hc, fun r h' ⟨a1, a2, a3⟩ => by
    subst a1
    exact hk h' a2 a3⟩
theorem CW_ok {y : MS} {hh : List (Nat × Nat × Nat × Nat)} {as : List Value} {h : MH} {i : Nat} {s : AS} {v : Int32} {A : AR} {K : Int32 → MH → Prop} (hc : CTW x y hh as h (pI (wrQ A h i)) xNo) (hA : A = okA s v) (hk : ∀ h', PO h' i s → FZ h h' i (i + 119) → K v h') : CALLW x y hh as h K := by
  subst hA
  exact CW_op hc hk
theorem CW_no {y : MS} {hh : List (Nat × Nat × Nat × Nat)} {as : List Value} {h : MH} {i n : Nat} {s : AS} {A : AR} {K : Int32 → MH → Prop} (hc : CTW x y hh as h (pI (wrQ A h i)) xNo) (hA : A = noA s (n + 1)) (hk : ∀ h', PO h' i s → FZ h h' i (i + 119) → K (-7777) h') : CALLW x y hh as h K := by
  subst hA
  exact CW_op hc hk
variable {h : MH} {i np nt p t : Nat} {s : AS} {K : Int32 → MH → Prop}
theorem u_tokens (hP : PO h i s) (hB : NB (aW s) np nt) (hp : p < np) (hk : ∀ h', PO h' i s → FZ h h' i (i + 119) → K (aW s (2 + p)) h') : CALLW x sL_tokens hL_tokens [.ref i, .int (nI p)] h K := by
  have := hB.2.2.2.1
  refine CW_ok (w_tokens hP hB) ?_ hk
  unfold qTok
  rw [iteC_t (inR_nat hp), cl_nI (by omega)]
theorem u_capacity (hP : PO h i s) (hB : NB (aW s) np nt) (hp : p < np) (hk : ∀ h', PO h' i s → FZ h h' i (i + 119) → K (aW s (10 + p)) h') : CALLW x sL_capacity hL_capacity [.ref i, .int (nI p)] h K := by
  have := hB.2.2.2.1
  refine CW_ok (w_capacity hP hB) ?_ hk
  unfold qCap
  rw [iteC_t (inR_nat hp), cl_nI (by omega)]
theorem u_effect (hP : PO h i s) (hB : NB (aW s) np nt) (ht : t < nt) (hp : p < np) (hk : ∀ h', PO h' i s → FZ h h' i (i + 119) → K (effW (aW s) t p) h') : CALLW x sL_effect hL_effect [.ref i, .int (nI t), .int (nI p)] h K := by
  have := hB.2.2.2
  refine CW_ok (w_effect hP hB) ?_ hk
  unfold qEff
  rw [iteC_t ⟨inR_nat ht, inR_nat hp⟩, cl_nI (by omega), cl_nI (by omega)]
theorem u_why (hP : PO h i s) (hB : NB (aW s) np nt) (ht : t < nt) (hk : ∀ h', PO h' i s → FZ h h' i (i + 119) → K (raW (aW s) t np) h') : CALLW x sL_whyNotEnabled hL_whyNotEnabled [.ref i, .int (nI t)] h K := by
  have := hB.2.2.2
  refine CW_ok (w_whyNotEnabled hP hB) ?_ hk
  unfold qWhy
  rw [iteC_t (inR_nat ht), cl_nI (by omega)]
theorem u_blocking (hP : PO h i s) (hB : NB (aW s) np nt) (ht : t < nt) (hk : ∀ h', PO h' i s → FZ h h' i (i + 119) → K (fbW (aW s) t np) h') : CALLW x sL_blockingPlace hL_blockingPlace [.ref i, .int (nI t)] h K := by
  have := hB.2.2.2
  refine CW_ok (w_blockingPlace hP hB) ?_ hk
  unfold qBlk
  rw [iteC_t (inR_nat ht), cl_nI (by omega)]
theorem u_firings (hP : PO h i s) (hB : NB (aW s) np nt) (ht : t < nt) (hk : ∀ h', PO h' i s → FZ h h' i (i + 119) → K (aW s (18 + t)) h') : CALLW x sL_firings hL_firings [.ref i, .int (nI t)] h K := by
  have := hB.2.2.2
  refine CW_ok (w_firings hP hB) ?_ hk
  unfold qFrd
  rw [iteC_t (inR_nat ht), cl_nI (by omega)]
theorem u_inRow (hP : PO h i s) (hB : NB (aW s) np nt) (ht : t < nt) (hk : ∀ h', PO h' i s → FZ h h' i (i + 119) → K (nI (frS np t 1000 (aW s))) h') : CALLW x sL_firesInRow hL_firesInRow [.ref i, .int (nI t)] h K := by
  have := hB.2.2.2
  refine CW_ok (w_firesInRow hP hB) ?_ hk
  unfold qRow
  rw [iteC_t (inR_nat ht), cl_nI (by omega)]
/-- the explored net's markings -/
theorem u_mTokens {m : Nat} (hP : PO h i s) (hB : NB (aW s) np nt) (hT : TRg (aW s) np nt) (hp : p < np) (hm : m < exC (expE (aW s) np nt)) (hk : ∀ h', PO h' i s → FZ h h' i (i + 119) → K (upT (exK (expE (aW s) np nt) m) p) h') : CALLW x sL_markingTokens hL_markingTokens [.ref i, .int (nI m), .int (nI p)] h K := by
  have := hB.2.2.2.1
  have h1 := (exp_J hT hB).1.1
  refine CW_ok (w_markingTokens hP hB) ?_ hk
  unfold qMT
  rw [iteC_t (inR_nat hp), iteC_t (inR_nat hm), cl_nI (by omega), cl_nI (by omega)]
theorem u_mDist {m : Nat} (hP : PO h i s) (hB : NB (aW s) np nt) (hT : TRg (aW s) np nt) (hm : m < exC (expE (aW s) np nt)) (hk : ∀ h', PO h' i s → FZ h h' i (i + 119) → K (exD (expE (aW s) np nt) m) h') : CALLW x sL_markingDistance hL_markingDistance [.ref i, .int (nI m)] h K := by
  have h1 := (exp_J hT hB).1.1
  refine CW_ok (w_markingDistance hP hB) ?_ hk
  unfold qMD
  rw [iteC_t (inR_nat hm), cl_nI (by omega)]
theorem u_mTrans {m : Nat} (hP : PO h i s) (hB : NB (aW s) np nt) (hT : TRg (aW s) np nt) (hm : m < exC (expE (aW s) np nt)) (hk : ∀ h', PO h' i s → FZ h h' i (i + 119) → K (exF (expE (aW s) np nt) m) h') : CALLW x sL_markingTransition hL_markingTransition [.ref i, .int (nI m)] h K := by
  have h1 := (exp_J hT hB).1.1
  refine CW_ok (w_markingTransition hP hB) ?_ hk
  unfold qMF
  rw [iteC_t (inR_nat hm), cl_nI (by omega)]
theorem no_in {n : Nat} (hn : n < 100000) : ¬ inR (nI n) n := fun ⟨k, hk, e⟩ => by
  have := (nI_eq (by omega) (by omega)).mp e
  omega
theorem no_m1 {n : Nat} (hn : n < 100000) : ¬ inR (-1) n := fun ⟨k, hk, e⟩ => by
  have := nI_m1' (n := k) (by omega)
  exact cast this e
theorem u_mTokensN (hP : PO h i s) (hB : NB (aW s) np nt) (hT : TRg (aW s) np nt) (hk : ∀ h', PO h' i s → FZ h h' i (i + 119) → K (-7777) h') : CALLW x sL_markingTokens hL_markingTokens [.ref i, .int (nI (exC (expE (aW s) np nt))), .int (nI 0)] h K := by
  have := hB.2.2.1
  have h1 := (exp_J hT hB).1.1
  refine CW_no (n := 1) (w_markingTokens hP hB) ?_ hk
  unfold qMT
  rw [iteC_t (inR_nat (by omega)), iteC_f (no_in (by omega))]
theorem u_mDistN (hP : PO h i s) (hB : NB (aW s) np nt) (hT : TRg (aW s) np nt) (hk : ∀ h', PO h' i s → FZ h h' i (i + 119) → K (-7777) h') : CALLW x sL_markingDistance hL_markingDistance [.ref i, .int (-1)] h K := by
  have h1 := (exp_J hT hB).1.1
  refine CW_no (n := 0) (w_markingDistance hP hB) ?_ hk
  unfold qMD
  rw [iteC_f (no_m1 (by omega))]
theorem u_moveN (hP : PO h i s) (hB : NB (aW s) np nt) (hT : TRg (aW s) np nt) (hk : ∀ h', PO h' i s → FZ h h' i (i + 119) → K (-7777) h') : CALLW x sL_moveToMarking hL_moveToMarking [.ref i, .int (nI (exC (expE (aW s) np nt)))] h K := by
  have h1 := (exp_J hT hB).1.1
  refine CW_no (n := 0) (w_moveToMarking hP hB) ?_ hk
  unfold qMM
  rw [iteC_f (no_in (by omega))]
end LAW
