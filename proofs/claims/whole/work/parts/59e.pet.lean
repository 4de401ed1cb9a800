section PET
variable {x : CX}
/-- tokens, capacities and weights are in their ranges -/
def TRg (w : Nat → Int32) (np nt : Nat) : Prop := (∀ p, p < np → ∃ t c, w (2 + p) = nI t ∧ w (10 + p) = nI c ∧ t ≤ c ∧ 1 ≤ c ∧ c ≤ 30) ∧ ∀ t p, t < nt → p < np → ∃ a b, w (28 + (t * 8 + p)) = nI a ∧ a ≤ 9 ∧ w (108 + (t * 8 + p)) = nI b ∧ b ≤ 9
def rmS (w : Nat → Int32) (n : Nat) : Int32 := foN (fun p a => a + w (10 + p)) (nI 0) n
theorem sum_nat {w : Nat → Int32} {np nt : Nat} (hT : TRg w np nt) : ∀ n, n ≤ np → ∃ a b, sumW w n = nI a ∧ rmS w n = nI b ∧ a ≤ b ∧ n ≤ b ∧ b ≤ 30 * n := by
  intro n
  induction n with
  | zero => exact fun _ => ⟨0, 0, rfl, rfl, Nat.le_refl _, Nat.le_refl _, Nat.le_refl _⟩
  | succ n ih =>
    intro hn
    obtain ⟨a, b, h1, h2, h3, h4, h5⟩ := ih (by omega)
    obtain ⟨t, c, e1, e2, e3, e4, e5⟩ := hT.1 n (by omega)
    refine ⟨a + t, b + c, ?_, ?_, by omega, by omega, by omega⟩
    · show sumW w n + w (2 + n) = _
      rw [h1, e1, nI_add]
    · show rmS w n + w (10 + n) = _
      rw [h2, e2, nI_add]
noncomputable def ldS (w : Nat → Int32) (np : Nat) : UInt64 := FP.ddiv (FP.i2d (sumW w np)) (FP.i2d (rmS w np))
theorem ld_ok {w : Nat → Int32} {np nt : Nat} (hB : NB w np nt) (hT : TRg w np nt) : vf_n64 (ldS w np) := by
  obtain ⟨a, b, h1, h2, h3, h4, h5⟩ := sum_nat hT np (Nat.le_refl _)
  have h6 := hB.2.2.1
  have h7 := hB.2.2.2.1
  unfold ldS
  rw [h1, h2]
  exact ddiv_ok b (by omega) a (by omega) (by omega)
theorem c_load {h : MH} {i np nt : Nat} {s : AS} (hP : PO h i s) (hB : NB (aW s) np nt) (hT : TRg (aW s) np nt) : CT x sX4_load [.ref i] h (pD fun r h' => r = ldS (aW s) np ∧ h' = h) xNo := by
  have hnp := hB.2.2.2.1
  have hnp1 := hB.2.2.1
  have hok := ld_ok hB hT
  obtain ⟨a, b, h1, h2, h3, h4, h5⟩ := sum_nat hT np (Nat.le_refl _)
  obtain ⟨-, p0, -, -, -, -, -, -, -, n0, n1, -, -, s3, -, -, -, -, k3, l3, -⟩ := PO_nw hP hB
  have a0 := hP.1.1
  (refine CT_of (o := 4) rfl (by decide) (by simp [Value.category, sX4_load]) (MW_ev kX4_load 300 ?_); show evS _ _ _ _ _ _ 300 0 (0, 0) [.ref i, .null, .null] [] _; simp only [st_iconst, st_lconst, st_ldc2_w, st_ldc, st_iload, st_lload, st_aload, st_istore, st_astore, st_lstore, st_iinc, st_iadd, st_isub, st_imul, st_idiv, st_irem, st_iand, st_ior, st_ishl, st_ishr, st_iushr, st_ladd, st_lmul, st_lshl, st_lushr, st_lcmp, st_i2l, st_l2i, st_i2b, st_i2c, st_i2d, st_i2f, st_dconst, st_fconst, st_ddiv, st_fdiv, st_dup, st_dup2, st_pop, st_goto, st_if_icmp, st_ifCond, st_tableswitch, st_lookupswitch, st_iaload, st_baload, st_laload, st_aaload, st_iastore, st_bastore, st_lastore, st_aastore, st_saload, st_faload, st_jsr, st_getstatic, st_frem, st_drem, st_monitorexit, st_monitorenter, st_invokeinterface, st_newarray, st_anewarray, st_multianewarray, asI_c, asJ_c, asR_c, asD_c, asF_c, popI_c, popJ_c, popR_c, popD_c, popF_c, pop1_c, okSt_0, okSt_S, rcv_0, rcv_1, rcv_2, rcv_3, rcv_4, rcv_5, rcv_8, pI_c, pJ_c, pR_c, pV_c, pD_c, pF_c, cmp_eq, cmp_ne, cmp_lt, cmp_ge, cmp_gt, cmp_le, nth_0, nth_S, set_0, set_S, cat_int, cat_ref, cat_long, cat_double, cat_float, cat_null, catS_0, catS_S, swT_0, swT_S, swL_0, swL_S, Nat.add_zero, Nat.reduceAdd, Nat.reduceSub, Nat.reduceLT, Nat.reduceLeDiff, true_and, and_true, eq_self, eX4_load_0, fX4_load_0, cI_0, eX4_load_1, eX4_load_2, eX4_load_3, eX4_load_4, fX4_load_4, eX4_load_5, eX4_load_6, gf4_13, eX4_load_9, gf4_200, eX4_load_12, tn_33, eX4_load_15, eX4_load_16, eX4_load_17, eX4_load_20, gf4_70, eX4_load_23, eX4_load_24, eX4_load_25, eX4_load_26, eX4_load_27, cI_1, eX4_load_30, tn_4, eX4_load_33, eX4_load_34, tn_51, eX4_load_37, eX4_load_38, eX4_load_41, iv4_117, c_X2_sumOfTokens, eX4_load_44, eX4_load_45, eX4_load_46, eX4_load_47, eX4_load_48, tn_52, eX4_load_51, eX4_load_52, d_X4_load, re_X4_load])
  refine loop_up np (P := fun k => MW x sX4_load 4 _ xNo 4 (0, 0) [.ref i, .int (rmS (aW s) k), .int (nI k)] [] h) (fun k hk ih => ?_) 0 (Nat.zero_le _)
  (refine MW_ev kX4_load 300 ?_; simp only [st_iconst, st_lconst, st_ldc2_w, st_ldc, st_iload, st_lload, st_aload, st_istore, st_astore, st_lstore, st_iinc, st_iadd, st_isub, st_imul, st_idiv, st_irem, st_iand, st_ior, st_ishl, st_ishr, st_iushr, st_ladd, st_lmul, st_lshl, st_lushr, st_lcmp, st_i2l, st_l2i, st_i2b, st_i2c, st_i2d, st_i2f, st_dconst, st_fconst, st_ddiv, st_fdiv, st_dup, st_dup2, st_pop, st_goto, st_if_icmp, st_ifCond, st_tableswitch, st_lookupswitch, st_iaload, st_baload, st_laload, st_aaload, st_iastore, st_bastore, st_lastore, st_aastore, st_saload, st_faload, st_jsr, st_getstatic, st_frem, st_drem, st_monitorexit, st_monitorenter, st_invokeinterface, st_newarray, st_anewarray, st_multianewarray, asI_c, asJ_c, asR_c, asD_c, asF_c, popI_c, popJ_c, popR_c, popD_c, popF_c, pop1_c, okSt_0, okSt_S, rcv_0, rcv_1, rcv_2, rcv_3, rcv_4, rcv_5, rcv_8, pI_c, pJ_c, pR_c, pV_c, pD_c, pF_c, cmp_eq, cmp_ne, cmp_lt, cmp_ge, cmp_gt, cmp_le, nth_0, nth_S, set_0, set_S, cat_int, cat_ref, cat_long, cat_double, cat_float, cat_null, catS_0, catS_S, swT_0, swT_S, swL_0, swL_S, Nat.add_zero, Nat.reduceAdd, Nat.reduceSub, Nat.reduceLT, Nat.reduceLeDiff, true_and, and_true, eq_self, eX4_load_0, fX4_load_0, cI_0, eX4_load_1, eX4_load_2, eX4_load_3, eX4_load_4, fX4_load_4, eX4_load_5, eX4_load_6, gf4_13, eX4_load_9, gf4_200, eX4_load_12, tn_33, eX4_load_15, eX4_load_16, eX4_load_17, eX4_load_20, gf4_70, eX4_load_23, eX4_load_24, eX4_load_25, eX4_load_26, eX4_load_27, cI_1, eX4_load_30, tn_4, eX4_load_33, eX4_load_34, tn_51, eX4_load_37, eX4_load_38, eX4_load_41, iv4_117, c_X2_sumOfTokens, eX4_load_44, eX4_load_45, eX4_load_46, eX4_load_47, eX4_load_48, tn_52, eX4_load_51, eX4_load_52, d_X4_load, re_X4_load])
  rcases Nat.lt_or_ge k np with hl | hl
  · have hpt := PO_cap hP (p := k) (by omega)
    simp (disch := omega) only [nI_mul, nI_add, nI_clamp, nI_inE, nI_leE, nI_ltE, nI_eqE, nI_eqz, nI_ltz, nI_gez, nI_lez, nI_gtz, nI_m1, nI_m1', nI_ltm, nI_gem, nI_gtm, nI_lem, nI_00, nI_01, nI_10, nI_11, bI_z, bI_1, bI_0, bI_b, bI_nz, bit_e, arK_i, arK_b, arK_j, true_and, and_true, ne_eq, not_false_eq_true, not_true_eq_false, false_and, and_false, true_or, or_true, false_or, or_false, Classical.not_not, forall_const, true_implies, implies_true, false_implies, eq_self, a0, p0, n0, n1, s3, k3, l3, hl, Nat.not_le.mpr hl, hpt]
    exact ⟨Nat.succ_ne_zero _, Nat.succ_ne_zero _, Nat.succ_ne_zero _, ih hl⟩
  · obtain rfl : k = np := by omega
    rw [h2]
    have hb0 : ¬ b = 0 := by omega
    simp (disch := omega) only [nI_mul, nI_add, nI_clamp, nI_inE, nI_leE, nI_ltE, nI_eqE, nI_eqz, nI_ltz, nI_gez, nI_lez, nI_gtz, nI_m1, nI_m1', nI_ltm, nI_gem, nI_gtm, nI_lem, nI_00, nI_01, nI_10, nI_11, bI_z, bI_1, bI_0, bI_b, bI_nz, bit_e, arK_i, arK_b, arK_j, true_and, and_true, ne_eq, not_false_eq_true, not_true_eq_false, false_and, and_false, true_or, or_true, false_or, or_false, Classical.not_not, forall_const, true_implies, implies_true, false_implies, eq_self, a0, p0, n0, n1, hb0, Nat.le_refl]
    refine ⟨Nat.succ_ne_zero _, Nat.succ_ne_zero _, CI_pure (c_sumOfTokens hP.2.1.1 hB) ?_⟩
    rw [← h2]
    exact ⟨hok, rfl, rfl⟩
theorem pc_nat : ∀ k, k < 1024 → ∃ j, j < 11 ∧ pcN (nI k) = nI j := by decide +kernel
noncomputable def shS (w : Nat → Int32) (np nt : Nat) : UInt32 := FP.fdiv (FP.i2f (pcN (esW w np nt))) (FP.i2f (nI nt))
theorem sh_ok {w : Nat → Int32} {np nt : Nat} (hB : NB w np nt) : vf_n32 (shS w np nt) := by
  have h5 := hB.2.2.2.2.2
  have h4 := hB.2.2.2.2.1
  obtain ⟨k, hk, ek, hb⟩ := es_nat (w := w) (np := np) nt h5
  have hp := pw_le h5
  obtain ⟨j, hj, ej⟩ := pc_nat k (by omega)
  unfold shS
  rw [ek, ej]
  exact fdiv_ok j (by omega) nt (by omega) (by omega)
theorem c_enabledShare {h : MH} {i np nt : Nat} {s : AS} (hP : PO h i s) (hB : NB (aW s) np nt) : CT x sX4_enabledShare [.ref i] h (pF fun r h' => r = shS (aW s) np nt ∧ h' = h) xNo := by
  have hok := sh_ok hB
  obtain ⟨a0, p0, -, -, -, -, -, -, -, n0, -, n2, -⟩ := PO_nw hP hB
  have h5 := hB.2.2.2.2.2
  have h4 := hB.2.2.2.2.1
  (refine CT_of (o := 4) rfl (by decide) (by simp [Value.category, sX4_enabledShare]) (MW_ev kX4_enabledShare 300 ?_); show evS _ _ _ _ _ _ 300 0 (0, 0) [.ref i, .null] [] _; simp only [st_iconst, st_lconst, st_ldc2_w, st_ldc, st_iload, st_lload, st_aload, st_istore, st_astore, st_lstore, st_iinc, st_iadd, st_isub, st_imul, st_idiv, st_irem, st_iand, st_ior, st_ishl, st_ishr, st_iushr, st_ladd, st_lmul, st_lshl, st_lushr, st_lcmp, st_i2l, st_l2i, st_i2b, st_i2c, st_i2d, st_i2f, st_dconst, st_fconst, st_ddiv, st_fdiv, st_dup, st_dup2, st_pop, st_goto, st_if_icmp, st_ifCond, st_tableswitch, st_lookupswitch, st_iaload, st_baload, st_laload, st_aaload, st_iastore, st_bastore, st_lastore, st_aastore, st_saload, st_faload, st_jsr, st_getstatic, st_frem, st_drem, st_monitorexit, st_monitorenter, st_invokeinterface, st_newarray, st_anewarray, st_multianewarray, asI_c, asJ_c, asR_c, asD_c, asF_c, popI_c, popJ_c, popR_c, popD_c, popF_c, pop1_c, okSt_0, okSt_S, rcv_0, rcv_1, rcv_2, rcv_3, rcv_4, rcv_5, rcv_8, pI_c, pJ_c, pR_c, pV_c, pD_c, pF_c, cmp_eq, cmp_ne, cmp_lt, cmp_ge, cmp_gt, cmp_le, nth_0, nth_S, set_0, set_S, cat_int, cat_ref, cat_long, cat_double, cat_float, cat_null, catS_0, catS_S, swT_0, swT_S, swL_0, swL_S, Nat.add_zero, Nat.reduceAdd, Nat.reduceSub, Nat.reduceLT, Nat.reduceLeDiff, true_and, and_true, eq_self, eX4_enabledShare_0, fX4_enabledShare_0, eX4_enabledShare_1, gf4_13, eX4_enabledShare_4, iv4_174, c_X2_enabledSet, eX4_enabledShare_7, iv4_177, c_J6_bitCount_0f7a4, eX4_enabledShare_10, eX4_enabledShare_11, eX4_enabledShare_12, eX4_enabledShare_15, gf4_203, eX4_enabledShare_18, tn_35, eX4_enabledShare_21, eX4_enabledShare_22, eX4_enabledShare_23, eX4_enabledShare_24, eX4_enabledShare_27, eX4_enabledShare_30, eX4_enabledShare_31, eX4_enabledShare_32, tn_36, eX4_enabledShare_35, eX4_enabledShare_36, d_X4_enabledShare, re_X4_enabledShare])
  have hz : ¬ nt = 0 := by omega
  simp (disch := omega) only [nI_mul, nI_add, nI_clamp, nI_inE, nI_leE, nI_ltE, nI_eqE, nI_eqz, nI_ltz, nI_gez, nI_lez, nI_gtz, nI_m1, nI_m1', nI_ltm, nI_gem, nI_gtm, nI_lem, nI_00, nI_01, nI_10, nI_11, bI_z, bI_1, bI_0, bI_b, bI_nz, bit_e, arK_i, arK_b, arK_j, true_and, and_true, ne_eq, not_false_eq_true, not_true_eq_false, false_and, and_false, true_or, or_true, false_or, or_false, Classical.not_not, forall_const, true_implies, implies_true, false_implies, eq_self, a0, p0, n0, n2, hz]
  refine ⟨Nat.succ_ne_zero _, CI_pure (c_enabledSet hP.2.1.1 hB) ?_⟩
  obtain ⟨k, hk, ek, hb⟩ := es_nat (w := aW s) (np := np) nt h5
  have hp := pw_le h5
  unfold shS at *
  rw [ek] at hok ⊢
  refine CI_pure (c_bitCount (by omega)) ?_
  simp (disch := omega) only [nI_mul, nI_add, nI_clamp, nI_inE, nI_leE, nI_ltE, nI_eqE, nI_eqz, nI_ltz, nI_gez, nI_lez, nI_gtz, nI_m1, nI_m1', nI_ltm, nI_gem, nI_gtm, nI_lem, nI_00, nI_01, nI_10, nI_11, bI_z, bI_1, bI_0, bI_b, bI_nz, bit_e, arK_i, arK_b, arK_j, true_and, and_true, ne_eq, not_false_eq_true, not_true_eq_false, false_and, and_false, true_or, or_true, false_or, or_false, Classical.not_not, forall_const, true_implies, implies_true, false_implies, eq_self, a0, p0, n0, n2, hz]
  exact ⟨Nat.succ_ne_zero _, Nat.succ_ne_zero _, hok⟩
/-! the report -/
def wR (s : AS) (r : RT) : AS := (aW s, aP s, aC s, aS s, aH s, aU s, aN s, aK s, aO s, r.1, r.2)
theorem c_put {h : MH} {i : Nat} {s : AS} {r : RT} {c : Int32} (hP : PO h i (wR s r)) (hr : r.2 < 64) : CT x sX4_put [.ref i, .int c] h (pV fun h' => PO h' i (wR s (rpC c r)) ∧ FZ h h' i (i + 119)) xNo := by
  obtain ⟨a0, -, -, -, -, -, -, -, p9⟩ := hP.1
  obtain ⟨r0, r1, r2, r3, r4⟩ := hP.2.2.2.2.2.2.2.2.2
  have r2' : mI h i 10 = nI r.2 := r2
  (refine CT_of (o := 4) rfl (by decide) (by simp [Value.category, sX4_put]) (MW_ev kX4_put 300 ?_); show evS _ _ _ _ _ _ 300 0 (0, 0) [.ref i, .int c] [] _; simp only [st_iconst, st_lconst, st_ldc2_w, st_ldc, st_iload, st_lload, st_aload, st_istore, st_astore, st_lstore, st_iinc, st_iadd, st_isub, st_imul, st_idiv, st_irem, st_iand, st_ior, st_ishl, st_ishr, st_iushr, st_ladd, st_lmul, st_lshl, st_lushr, st_lcmp, st_i2l, st_l2i, st_i2b, st_i2c, st_i2d, st_i2f, st_dconst, st_fconst, st_ddiv, st_fdiv, st_dup, st_dup2, st_pop, st_goto, st_if_icmp, st_ifCond, st_tableswitch, st_lookupswitch, st_iaload, st_baload, st_laload, st_aaload, st_iastore, st_bastore, st_lastore, st_aastore, st_saload, st_faload, st_jsr, st_getstatic, st_frem, st_drem, st_monitorexit, st_monitorenter, st_invokeinterface, st_newarray, st_anewarray, st_multianewarray, asI_c, asJ_c, asR_c, asD_c, asF_c, popI_c, popJ_c, popR_c, popD_c, popF_c, pop1_c, okSt_0, okSt_S, rcv_0, rcv_1, rcv_2, rcv_3, rcv_4, rcv_5, rcv_8, pI_c, pJ_c, pR_c, pV_c, pD_c, pF_c, cmp_eq, cmp_ne, cmp_lt, cmp_ge, cmp_gt, cmp_le, nth_0, nth_S, set_0, set_S, cat_int, cat_ref, cat_long, cat_double, cat_float, cat_null, catS_0, catS_S, swT_0, swT_S, swL_0, swL_S, Nat.add_zero, Nat.reduceAdd, Nat.reduceSub, Nat.reduceLT, Nat.reduceLeDiff, true_and, and_true, eq_self, eX4_put_0, fX4_put_0, eX4_put_1, gf4_62, eX4_put_4, cI_64, eX4_put_6, tn_30, eX4_put_9, eX4_put_10, gf4_58, eX4_put_13, eX4_put_14, eX4_put_17, eX4_put_18, eX4_put_19, eX4_put_20, eX4_put_21, eX4_put_22, eX4_put_25, cI_1, eX4_put_26, eX4_put_27, pf4_62, eX4_put_30, d_X4_put, re_X4_put])
  simp (disch := omega) only [nI_mul, nI_add, nI_clamp, nI_inE, nI_leE, nI_ltE, nI_eqE, nI_eqz, nI_ltz, nI_gez, nI_lez, nI_gtz, nI_m1, nI_m1', nI_ltm, nI_gem, nI_gtm, nI_lem, nI_00, nI_01, nI_10, nI_11, bI_z, bI_1, bI_0, bI_b, bI_nz, bit_e, arK_i, arK_b, arK_j, true_and, and_true, ne_eq, not_false_eq_true, not_true_eq_false, false_and, and_false, true_or, or_true, false_or, or_false, Classical.not_not, forall_const, true_implies, implies_true, false_implies, eq_self, sI_K, sI_L, sI_P, sI_J, sI_Z, sI_Ie, sR_K, sR_L, sR_P, sR_J, sR_Z, sR_Ie, sP_K, sP_L, sP_I, sP_J, sP_Z, sP_Pe, sJ_K, sJ_L, sJ_P, sJ_I, sJ_Z, sJ_Je, a0, p9, r0, r1, r2', sI_Ia, Nat.not_le.mpr hr]
  refine ⟨Nat.succ_ne_zero _, ?_, ?_⟩
  · refine PO_f (s' := wR s (rpC c r)) hP (fun a g1 g2 => EQ_tr (EQ_sI (by omega)) (EQ_sI (by omega))) hP.1 ?_ rfl rfl rfl rfl rfl rfl rfl rfl (Or.inr ?_) ⟨r0, r1, ?_, ?_, fun k hk => ?_⟩
    · rw [sI_Ik (by decide), sI_Ia (by omega)]; exact hP.2.2.2.2.1
    · rw [sI_Ik (by decide), sI_Ia (by omega)]
    · first | exact sI_Ie | (rw [sI_Ie]; rfl)
    · show r.2 + 1 ≤ 64
      omega
    · rw [sI_Ia (by omega)]
      have hk2 : k < r.2 + 1 := hk
      show _ = udW r.1 r.2 _ k
      by_cases g : k = r.2
      · rw [g, sI_Ie, udW_e]
      · rw [sI_Ik g, udW_n g]
        exact r4 k (show k < r.2 by omega)
  · exact ⟨Nat.le_refl _, fun a ha => EQ_tr (EQ_sI (by omega)) (EQ_sI (by omega))⟩
theorem call_put {h : MH} {i : Nat} {s : AS} {r : RT} {c : Int32} {xk : String → MH → Prop} {k : MH → Prop} (hP : PO h i (wR s r)) (hr : r.2 < 64) (hk : ∀ h', PO h' i (wR s (rpC c r)) → FZ h h' i (i + 119) → k h') : CALLV x sX4_put [.ref i, .int c] h xk k :=
  CV_of (c_put hP hr) (fun _ _ z => z.elim) fun h' g => hk h' g.1 g.2
theorem rpC_2 {c : Int32} {r : RT} : (rpC c r).2 = r.2 + 1 := rfl
theorem c_putNumber {h : MH} {i : Nat} {s : AS} {r : RT} {v : Int32} (hP : PO h i (wR s r)) (hr : r.2 + 1 < 64) : CT x sX4_putNumber [.ref i, .int v] h (pV fun h' => PO h' i (wR s (rpN v r)) ∧ FZ h h' i (i + 119)) xNo := by
  have a0 := hP.1.1
  have e10 : (nI 10 = 0) = False := eq_false (by decide)
  (refine CT_of (o := 4) rfl (by decide) (by simp [Value.category, sX4_putNumber]) (MW_ev kX4_putNumber 300 ?_); show evS _ _ _ _ _ _ 300 0 (0, 0) [.ref i, .int v] [] _; simp only [st_iconst, st_lconst, st_ldc2_w, st_ldc, st_iload, st_lload, st_aload, st_istore, st_astore, st_lstore, st_iinc, st_iadd, st_isub, st_imul, st_idiv, st_irem, st_iand, st_ior, st_ishl, st_ishr, st_iushr, st_ladd, st_lmul, st_lshl, st_lushr, st_lcmp, st_i2l, st_l2i, st_i2b, st_i2c, st_i2d, st_i2f, st_dconst, st_fconst, st_ddiv, st_fdiv, st_dup, st_dup2, st_pop, st_goto, st_if_icmp, st_ifCond, st_tableswitch, st_lookupswitch, st_iaload, st_baload, st_laload, st_aaload, st_iastore, st_bastore, st_lastore, st_aastore, st_saload, st_faload, st_jsr, st_getstatic, st_frem, st_drem, st_monitorexit, st_monitorenter, st_invokeinterface, st_newarray, st_anewarray, st_multianewarray, asI_c, asJ_c, asR_c, asD_c, asF_c, popI_c, popJ_c, popR_c, popD_c, popF_c, pop1_c, okSt_0, okSt_S, rcv_0, rcv_1, rcv_2, rcv_3, rcv_4, rcv_5, rcv_8, pI_c, pJ_c, pR_c, pV_c, pD_c, pF_c, cmp_eq, cmp_ne, cmp_lt, cmp_ge, cmp_gt, cmp_le, nth_0, nth_S, set_0, set_S, cat_int, cat_ref, cat_long, cat_double, cat_float, cat_null, catS_0, catS_S, swT_0, swT_S, swL_0, swL_S, Nat.add_zero, Nat.reduceAdd, Nat.reduceSub, Nat.reduceLT, Nat.reduceLeDiff, true_and, and_true, eq_self, eX4_putNumber_0, fX4_putNumber_0, eX4_putNumber_1, cI_10, eX4_putNumber_3, tn_17, eX4_putNumber_6, eX4_putNumber_7, cI_48, eX4_putNumber_9, eX4_putNumber_10, eX4_putNumber_12, eX4_putNumber_13, eX4_putNumber_14, iv4_281, c_X4_put, eX4_putNumber_17, eX4_putNumber_18, eX4_putNumber_20, eX4_putNumber_21, eX4_putNumber_23, eX4_putNumber_24, eX4_putNumber_25, eX4_putNumber_28, d_X4_putNumber, re_X4_putNumber])
  simp only [e10, nI_mul, nI_add, nI_clamp, nI_inE, nI_leE, nI_ltE, nI_eqE, nI_eqz, nI_ltz, nI_gez, nI_lez, nI_gtz, nI_m1, nI_m1', nI_ltm, nI_gem, nI_gtm, nI_lem, nI_00, nI_01, nI_10, nI_11, bI_z, bI_1, bI_0, bI_b, bI_nz, bit_e, arK_i, arK_b, arK_j, true_and, and_true, ne_eq, not_false_eq_true, not_true_eq_false, false_and, and_false, true_or, or_true, false_or, or_false, Classical.not_not, forall_const, true_implies, implies_true, false_implies, eq_self]
  refine ⟨fun g => ?_, fun g => ?_⟩
  · refine ⟨a0, call_put hP (by omega) fun h1 hP1 hF1 => ?_⟩
    rw [show rpN v r = rpC (nI 48 + (v - v / nI 10 * nI 10)) r from iteC_t g]
    exact ⟨hP1, hF1⟩
  · refine ⟨a0, call_put hP (by omega) fun h1 hP1 hF1 => ?_⟩
    have a1 := hP1.1.1
    refine ⟨a1, call_put hP1 (by rw [rpC_2]; omega) fun h2 hP2 hF2 => ?_⟩
    rw [show rpN v r = _ from iteC_f g]
    exact ⟨hP2, FZ_tr hF1 hF2⟩
theorem rpN_2 {v : Int32} {r : RT} : (rpN v r).2 ≤ r.2 + 2 := by
  unfold rpN
  exact iteC_P (fun q : RT => q.2 ≤ r.2 + 2) (by rw [rpC_2]; omega) (by rw [rpC_2, rpC_2]; omega)
theorem call_putN {h : MH} {i : Nat} {s : AS} {r : RT} {v : Int32} {xk : String → MH → Prop} {k : MH → Prop} (hP : PO h i (wR s r)) (hr : r.2 + 1 < 64) (hk : ∀ h', PO h' i (wR s (rpN v r)) → FZ h h' i (i + 119) → k h') : CALLV x sX4_putNumber [.ref i, .int v] h xk k :=
  CV_of (c_putNumber hP hr) (fun _ _ z => z.elim) fun h' g => hk h' g.1 g.2
theorem rpT_2 {v : Int32} {n : Nat} {r : RT} : (rpT v n r).2.2 ≤ r.2 + 3 * n := by
  induction n with
  | zero => exact Nat.le_refl _
  | succ n ih =>
    show (iteC (tb v n) (False, rpN (nI n) (iteC (rpT v n r).1 (rpT v n r).2 (rpC (nI 44) (rpT v n r).2))) (rpT v n r)).2.2 ≤ _
    refine iteC_P (fun q : Prop × RT => q.2.2 ≤ r.2 + 3 * (n + 1)) ?_ (by omega)
    show (rpN (nI n) _).2 ≤ _
    have h1 := rpN_2 (v := nI n) (r := iteC (rpT v n r).1 (rpT v n r).2 (rpC (nI 44) (rpT v n r).2))
    have h2 := iteC_P (c := (rpT v n r).1) (a := (rpT v n r).2) (b := rpC (nI 44) (rpT v n r).2) (fun q : RT => q.2 ≤ r.2 + 3 * n + 1) (by omega) (by rw [rpC_2]; omega)
    omega
theorem rpM_2 {w R : Nat → Int32} {n : Nat} : (rpM w n (R, 0)).2 ≤ 3 * n := by
  induction n with
  | zero => exact Nat.le_refl _
  | succ n ih =>
    show (rpN (w (2 + n)) (iteC (n = 0) (rpM w n (R, 0)) (rpC (nI 44) (rpM w n (R, 0))))).2 ≤ _
    have h1 := rpN_2 (v := w (2 + n)) (r := iteC (n = 0) (rpM w n (R, 0)) (rpC (nI 44) (rpM w n (R, 0))))
    have h2 := iteC_P (c := n = 0) (a := rpM w n (R, 0)) (b := rpC (nI 44) (rpM w n (R, 0))) (fun q : RT => q.2 ≤ 3 * n + 1) (by omega) (by rw [rpC_2]; omega)
    omega
theorem rpT_f {v : Int32} {n : Nat} {r : RT} : (rpT v n r).1 = ∀ t, t < n → ¬ tb v t := by
  induction n with
  | zero => exact propext ⟨fun _ t ht => absurd ht (Nat.not_lt_zero _), fun _ => trivial⟩
  | succ n ih =>
    show (iteC (tb v n) (False, rpN (nI n) (iteC (rpT v n r).1 (rpT v n r).2 (rpC (nI 44) (rpT v n r).2))) (rpT v n r)).1 = _
    by_cases g : tb v n
    · rw [iteC_t g]
      exact propext ⟨fun z => z.elim, fun z => z n (Nat.lt_succ_self n) g⟩
    · rw [iteC_f g, ih]
      exact propext ⟨fun z => lt_succ_all z g, fun z t ht => z t (by omega)⟩
theorem c_putEnabled {h : MH} {i np nt : Nat} {s : AS} {r : RT} {v : Int32} (hP : PO h i (wR s r)) (hB : NB (aW s) np nt) (hr : r.2 ≤ 30) (hv : (v = 0) = ∀ t, t < nt → ¬ tb v t) : CT x sX4_putEnabled [.ref i, .int v] h (pV fun h' => PO h' i (wR s (rpE v nt r)) ∧ FZ h h' i (i + 119)) xNo := by
  have a0 := hP.1.1
  have hnt := hB.2.2.2.2.2
  (refine CT_of (o := 4) rfl (by decide) (by simp [Value.category, sX4_putEnabled]) (MW_ev kX4_putEnabled 300 ?_); show evS _ _ _ _ _ _ 300 0 (0, 0) [.ref i, .int v, .null, .null] [] _; simp only [st_iconst, st_lconst, st_ldc2_w, st_ldc, st_iload, st_lload, st_aload, st_istore, st_astore, st_lstore, st_iinc, st_iadd, st_isub, st_imul, st_idiv, st_irem, st_iand, st_ior, st_ishl, st_ishr, st_iushr, st_ladd, st_lmul, st_lshl, st_lushr, st_lcmp, st_i2l, st_l2i, st_i2b, st_i2c, st_i2d, st_i2f, st_dconst, st_fconst, st_ddiv, st_fdiv, st_dup, st_dup2, st_pop, st_goto, st_if_icmp, st_ifCond, st_tableswitch, st_lookupswitch, st_iaload, st_baload, st_laload, st_aaload, st_iastore, st_bastore, st_lastore, st_aastore, st_saload, st_faload, st_jsr, st_getstatic, st_frem, st_drem, st_monitorexit, st_monitorenter, st_invokeinterface, st_newarray, st_anewarray, st_multianewarray, asI_c, asJ_c, asR_c, asD_c, asF_c, popI_c, popJ_c, popR_c, popD_c, popF_c, pop1_c, okSt_0, okSt_S, rcv_0, rcv_1, rcv_2, rcv_3, rcv_4, rcv_5, rcv_8, pI_c, pJ_c, pR_c, pV_c, pD_c, pF_c, cmp_eq, cmp_ne, cmp_lt, cmp_ge, cmp_gt, cmp_le, nth_0, nth_S, set_0, set_S, cat_int, cat_ref, cat_long, cat_double, cat_float, cat_null, catS_0, catS_S, swT_0, swT_S, swL_0, swL_S, Nat.add_zero, Nat.reduceAdd, Nat.reduceSub, Nat.reduceLT, Nat.reduceLeDiff, true_and, and_true, eq_self, eX4_putEnabled_0, fX4_putEnabled_0, eX4_putEnabled_1, tn_11, eX4_putEnabled_4, eX4_putEnabled_5, cI_45, eX4_putEnabled_7, iv4_281, c_X4_put, eX4_putEnabled_10, eX4_putEnabled_11, cI_1, eX4_putEnabled_12, eX4_putEnabled_13, cI_0, eX4_putEnabled_14, eX4_putEnabled_15, fX4_putEnabled_15, eX4_putEnabled_16, eX4_putEnabled_17, gf4_13, eX4_putEnabled_20, gf4_203, eX4_putEnabled_23, tn_58, eX4_putEnabled_26, eX4_putEnabled_27, eX4_putEnabled_28, eX4_putEnabled_29, eX4_putEnabled_30, eX4_putEnabled_31, eX4_putEnabled_32, tn_52, eX4_putEnabled_35, eX4_putEnabled_36, tn_45, eX4_putEnabled_39, eX4_putEnabled_40, cI_44, eX4_putEnabled_42, eX4_putEnabled_45, eX4_putEnabled_46, eX4_putEnabled_47, iv4_284, c_X4_putNumber, eX4_putEnabled_50, eX4_putEnabled_51, eX4_putEnabled_52, eX4_putEnabled_55, tn_15, eX4_putEnabled_58, d_X4_putEnabled, re_X4_putEnabled])
  refine ⟨fun g => ?_, fun g => ?_⟩
  · have hf : ¬ (rpT v nt r).1 := by rw [rpT_f, ← hv]; exact g
    rw [show nI 1 = bI (rpT v 0 r).1 from (bI_t trivial).symm]
    refine loop_up nt (P := fun k => ∀ h1, PO h1 i (wR s (rpT v k r).2) → FZ h h1 i (i + 119) → MW x sX4_putEnabled 4 (pV fun h' => PO h' i (wR s (rpE v nt r)) ∧ FZ h h' i (i + 119)) xNo 15 (0, 0) [.ref i, .int v, .int (bI (rpT v k r).1), .int (nI k)] [] h1) (fun k hk ih h1 hP1 hF1 => ?_) 0 (Nat.zero_le _) h hP fz0
    have hq2 := rpT_2 (v := v) (n := k) (r := r)
    obtain ⟨a0, p0, -, -, -, -, -, -, -, n0, -, n2, -⟩ := PO_nw hP1 (np := np) (nt := nt) hB
    (refine MW_ev kX4_putEnabled 300 ?_; simp only [st_iconst, st_lconst, st_ldc2_w, st_ldc, st_iload, st_lload, st_aload, st_istore, st_astore, st_lstore, st_iinc, st_iadd, st_isub, st_imul, st_idiv, st_irem, st_iand, st_ior, st_ishl, st_ishr, st_iushr, st_ladd, st_lmul, st_lshl, st_lushr, st_lcmp, st_i2l, st_l2i, st_i2b, st_i2c, st_i2d, st_i2f, st_dconst, st_fconst, st_ddiv, st_fdiv, st_dup, st_dup2, st_pop, st_goto, st_if_icmp, st_ifCond, st_tableswitch, st_lookupswitch, st_iaload, st_baload, st_laload, st_aaload, st_iastore, st_bastore, st_lastore, st_aastore, st_saload, st_faload, st_jsr, st_getstatic, st_frem, st_drem, st_monitorexit, st_monitorenter, st_invokeinterface, st_newarray, st_anewarray, st_multianewarray, asI_c, asJ_c, asR_c, asD_c, asF_c, popI_c, popJ_c, popR_c, popD_c, popF_c, pop1_c, okSt_0, okSt_S, rcv_0, rcv_1, rcv_2, rcv_3, rcv_4, rcv_5, rcv_8, pI_c, pJ_c, pR_c, pV_c, pD_c, pF_c, cmp_eq, cmp_ne, cmp_lt, cmp_ge, cmp_gt, cmp_le, nth_0, nth_S, set_0, set_S, cat_int, cat_ref, cat_long, cat_double, cat_float, cat_null, catS_0, catS_S, swT_0, swT_S, swL_0, swL_S, Nat.add_zero, Nat.reduceAdd, Nat.reduceSub, Nat.reduceLT, Nat.reduceLeDiff, true_and, and_true, eq_self, eX4_putEnabled_0, fX4_putEnabled_0, eX4_putEnabled_1, tn_11, eX4_putEnabled_4, eX4_putEnabled_5, cI_45, eX4_putEnabled_7, iv4_281, c_X4_put, eX4_putEnabled_10, eX4_putEnabled_11, cI_1, eX4_putEnabled_12, eX4_putEnabled_13, cI_0, eX4_putEnabled_14, eX4_putEnabled_15, fX4_putEnabled_15, eX4_putEnabled_16, eX4_putEnabled_17, gf4_13, eX4_putEnabled_20, gf4_203, eX4_putEnabled_23, tn_58, eX4_putEnabled_26, eX4_putEnabled_27, eX4_putEnabled_28, eX4_putEnabled_29, eX4_putEnabled_30, eX4_putEnabled_31, eX4_putEnabled_32, tn_52, eX4_putEnabled_35, eX4_putEnabled_36, tn_45, eX4_putEnabled_39, eX4_putEnabled_40, cI_44, eX4_putEnabled_42, eX4_putEnabled_45, eX4_putEnabled_46, eX4_putEnabled_47, iv4_284, c_X4_putNumber, eX4_putEnabled_50, eX4_putEnabled_51, eX4_putEnabled_52, eX4_putEnabled_55, tn_15, eX4_putEnabled_58, d_X4_putEnabled, re_X4_putEnabled])
    rcases Nat.lt_or_ge k nt with hl | hl
    · have ih := ih hl
      simp (disch := omega) only [nI_mul, nI_add, nI_clamp, nI_inE, nI_leE, nI_ltE, nI_eqE, nI_eqz, nI_ltz, nI_gez, nI_lez, nI_gtz, nI_m1, nI_m1', nI_ltm, nI_gem, nI_gtm, nI_lem, nI_00, nI_01, nI_10, nI_11, bI_z, bI_1, bI_0, bI_b, bI_nz, bit_e, arK_i, arK_b, arK_j, true_and, and_true, ne_eq, not_false_eq_true, not_true_eq_false, false_and, and_false, true_or, or_true, false_or, or_false, Classical.not_not, forall_const, true_implies, implies_true, false_implies, eq_self, a0, p0, n0, n2, hl, Nat.not_le.mpr hl]
      refine ⟨Nat.succ_ne_zero _, fun g2 => ?_, fun g2 => ?_⟩
      · have e : rpT v (k + 1) r = rpT v k r := iteC_f g2
        rw [e] at ih
        exact ih h1 hP1 hF1
      · have e : rpT v (k + 1) r = (False, rpN (nI k) (iteC (rpT v k r).1 (rpT v k r).2 (rpC (nI 44) (rpT v k r).2))) := iteC_t g2
        rw [e] at ih
        have fin : ∀ h2 q, PO h2 i (wR s q) → FZ h h2 i (i + 119) → q.2 + 1 < 64 → q = iteC (rpT v k r).1 (rpT v k r).2 (rpC (nI 44) (rpT v k r).2) → mK h2 i = 5 ∧ CALLV x sX4_putNumber [.ref i, .int (nI k)] h2 xNo fun h' => MW x sX4_putEnabled 4 (pV fun h' => PO h' i (wR s (rpE v nt r)) ∧ FZ h h' i (i + 119)) xNo 15 (0, 0) [.ref i, .int v, .int (nI 0), .int (nI (k + 1))] [] h' := fun h2 q hP2 hF2 hq e2 => by
          refine ⟨hP2.1.1, call_putN hP2 hq fun h3 hP3 hF3 => ?_⟩
          rw [e2] at hP3
          have := ih h3 hP3 (FZ_tr hF2 hF3)
          rwa [bI_f id] at this
        refine ⟨fun g3 => (fin h1 _ hP1 hF1 (by omega) (iteC_t g3).symm).2, fun g3 => call_put hP1 (by omega) fun h2 hP2 hF2 => fin h2 _ hP2 (FZ_tr hF1 hF2) (by rw [rpC_2]; omega) (iteC_f g3).symm⟩
    · obtain rfl : k = nt := by omega
      simp (disch := omega) only [nI_mul, nI_add, nI_clamp, nI_inE, nI_leE, nI_ltE, nI_eqE, nI_eqz, nI_ltz, nI_gez, nI_lez, nI_gtz, nI_m1, nI_m1', nI_ltm, nI_gem, nI_gtm, nI_lem, nI_00, nI_01, nI_10, nI_11, bI_z, bI_1, bI_0, bI_b, bI_nz, bit_e, arK_i, arK_b, arK_j, true_and, and_true, ne_eq, not_false_eq_true, not_true_eq_false, false_and, and_false, true_or, or_true, false_or, or_false, Classical.not_not, forall_const, true_implies, implies_true, false_implies, eq_self, a0, p0, n0, n2, Nat.le_refl]
      rw [show rpE v k r = (rpT v k r).2 from iteC_f hf]
      exact ⟨Nat.succ_ne_zero _, hP1, hF1⟩
  · have g := Classical.not_not.mp g
    have hf : (rpT v nt r).1 := by rw [rpT_f, ← hv]; exact g
    have e2 : (rpT v nt r).2 = r := by
      have : ∀ n, n ≤ nt → (rpT v n r).2 = r := by
        intro n
        induction n with
        | zero => exact fun _ => rfl
        | succ n ih =>
          intro hn
          rw [rpT_f] at hf
          have e : rpT v (n + 1) r = rpT v n r := iteC_f (hf n (by omega))
          rw [e]; exact ih (by omega)
      exact this nt (Nat.le_refl _)
    refine ⟨a0, call_put hP (by omega) fun h1 hP1 hF1 => ?_⟩
    rw [show rpE v nt r = rpC (nI 45) r by unfold rpE; rw [iteC_t hf]]
    exact ⟨hP1, hF1⟩
end PET
