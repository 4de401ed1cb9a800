section MOD
variable {x : CX}
theorem m_disables {h : MH} {j np nt a b : Nat} {w : Nat → Int32} (hN : MN h j w) (hB : NB w np nt) (ha : a < nt) (hb : b < nt) : CT x sX5_disables [.ref j, .int (nI a), .int (nI b)] h (pI fun r h' => r = bI (¬ enW (mvW w a np) np b) ∧ MN h' j w ∧ FI h h' (SQ j) ∧ mI h' j 0 = mI h j 0) xNo := by
  have hnp := hB.2.2.2.1
  have hnt := hB.2.2.2.2.2
  obtain ⟨a0, p1, p7, r1, r15⟩ := AS_rd hN.1
  (refine CT_of (o := 5) rfl (by decide) (by simp [Value.category, sX5_disables]) (MW_ev kX5_disables 300 ?_); show evS _ _ _ _ _ _ 300 0 (0, 0) [.ref j, .int (nI a), .int (nI b), .null] [] _; simp only [st_iconst, st_lconst, st_ldc2_w, st_ldc, st_iload, st_lload, st_aload, st_istore, st_astore, st_lstore, st_iinc, st_iadd, st_isub, st_imul, st_idiv, st_irem, st_iand, st_ior, st_ishl, st_ishr, st_iushr, st_ladd, st_lmul, st_lshl, st_lushr, st_lcmp, st_i2l, st_l2i, st_i2b, st_i2c, st_i2d, st_i2f, st_dconst, st_fconst, st_ddiv, st_fdiv, st_dup, st_dup2, st_pop, st_goto, st_if_icmp, st_ifCond, st_tableswitch, st_lookupswitch, st_iaload, st_baload, st_laload, st_aaload, st_iastore, st_bastore, st_lastore, st_aastore, st_saload, st_faload, st_jsr, st_getstatic, st_frem, st_drem, st_monitorexit, st_monitorenter, st_invokeinterface, st_newarray, st_anewarray, st_multianewarray, asI_c, asJ_c, asR_c, asD_c, asF_c, popI_c, popJ_c, popR_c, popD_c, popF_c, pop1_c, okSt_0, okSt_S, rcv_0, rcv_1, rcv_2, rcv_3, rcv_4, rcv_5, rcv_8, pI_c, pJ_c, pR_c, pV_c, pD_c, pF_c, cmp_eq, cmp_ne, cmp_lt, cmp_ge, cmp_gt, cmp_le, nth_0, nth_S, set_0, set_S, cat_int, cat_ref, cat_long, cat_double, cat_float, cat_null, catS_0, catS_S, swT_0, swT_S, swL_0, swL_S, Nat.add_zero, Nat.reduceAdd, Nat.reduceSub, Nat.reduceLT, Nat.reduceLeDiff, true_and, and_true, eq_self, eX5_disables_0, fX5_disables_0, eX5_disables_1, gf5_9, eX5_disables_4, eX5_disables_5, gf5_24, eX5_disables_8, iv5_65, c_X5_copy, eX5_disables_11, eX5_disables_12, eX5_disables_13, iv5_102, c_X5_move, eX5_disables_16, eX5_disables_17, eX5_disables_18, iv5_98, c_X5_enabled, eX5_disables_21, tn_28, eX5_disables_24, cI_1, eX5_disables_25, tn_29, eX5_disables_28, cI_0, eX5_disables_29, eX5_disables_30, eX5_disables_31, eX5_disables_34, eX5_disables_35, eX5_disables_38, eX5_disables_41, eX5_disables_42, d_X5_disables, re_X5_disables])
  simp (disch := omega) only [nI_mul, nI_add, nI_clamp, nI_inE, nI_leE, nI_ltE, nI_eqE, nI_eqz, nI_ltz, nI_gez, nI_lez, nI_gtz, nI_m1, nI_m1', nI_ltm, nI_gem, nI_gtm, nI_lem, nI_00, nI_01, nI_10, nI_11, bI_z, bI_1, bI_0, bI_b, bI_nz, bit_e, arK_i, arK_b, arK_j, true_and, and_true, ne_eq, not_false_eq_true, not_true_eq_false, false_and, and_false, true_or, or_true, false_or, or_false, Classical.not_not, forall_const, true_implies, implies_true, false_implies, eq_self, a0, p1, p7]
  refine ⟨Nat.succ_ne_zero _, Nat.succ_ne_zero _, call_cpy r1 r15 (by omega) fun h2 hc2 hF2 => ?_⟩
  clear a0 p1 p7
  have hN2 : MN h2 j w := MN_fi hN hF2 fun k => by omega
  have z2 : mI h2 j 0 = mI h j 0 := hF2.2.2.2.2 _ _ (by omega)
  refine ⟨hN2.1.1, CV_of (m_move hN2 hB (by omega)) (fun _ _ z => z.elim) fun h3 ⟨hN3, hF3⟩ => ?_⟩
  have z3 : mI h3 j 0 = mI h j 0 := (hF3.2.2.2.2 _ _ (by omega)).trans z2
  refine ⟨hN3.1.1, CI_pure (m_enabled hN3 (mv_B hB hnp) (by omega)) ?_⟩
  obtain ⟨a0, p1, p7, r1, r15⟩ := AS_rd hN3.1
  have fin : ∀ r, r = bI (¬ enW (mvW w a np) np b) → CALLV x sX5_copy [.ref (j + 15), .ref (j + 1)] h3 xNo fun h' => r = bI (¬ enW (mvW w a np) np b) ∧ MN h' j w ∧ FI h h' (SQ j) ∧ mI h' j 0 = mI h j 0 := fun r hr => by
    refine call_cpy r15 r1 (by omega) fun h4 hc4 hF4 => ⟨hr, MN_res hN (MB_fi hN3.1 hF4) fun m hm => ?_, FI_tr (SQ_15 hF2) (FI_tr (SQ_m hF3) (SQ_1 hF4)), (hF4.2.2.2.2 _ _ (by omega)).trans z3⟩
    rw [hc4 m hm, hF3.2.2.2.2 _ _ (by omega), hc2 m hm]
  have fin1 : ∀ p : Prop, (nI 1 = bI p ↔ p) ∧ (nI 0 = bI p ↔ ¬ p) := fun p => ⟨⟨fun z => cast bI_1 z, fun g => (bI_t g).symm⟩, ⟨fun z => cast bI_0 z, fun g => (bI_f g).symm⟩⟩
  simp (disch := omega) only [nI_mul, nI_add, nI_clamp, nI_inE, nI_leE, nI_ltE, nI_eqE, nI_eqz, nI_ltz, nI_gez, nI_lez, nI_gtz, nI_m1, nI_m1', nI_ltm, nI_gem, nI_gtm, nI_lem, nI_00, nI_01, nI_10, nI_11, bI_z, bI_1, bI_0, bI_b, bI_nz, bit_e, arK_i, arK_b, arK_j, true_and, and_true, ne_eq, not_false_eq_true, not_true_eq_false, false_and, and_false, true_or, or_true, false_or, or_false, Classical.not_not, forall_const, true_implies, implies_true, false_implies, eq_self, a0, p1, p7] at fin ⊢
  refine ⟨fun g => ⟨Nat.succ_ne_zero _, Nat.succ_ne_zero _, ?_⟩, fun g => ⟨Nat.succ_ne_zero _, Nat.succ_ne_zero _, ?_⟩⟩
  · have := fin (nI 0) (bI_f (fun z => z g)).symm
    simp (disch := omega) only [nI_mul, nI_add, nI_clamp, nI_inE, nI_leE, nI_ltE, nI_eqE, nI_eqz, nI_ltz, nI_gez, nI_lez, nI_gtz, nI_m1, nI_m1', nI_ltm, nI_gem, nI_gtm, nI_lem, nI_00, nI_01, nI_10, nI_11, bI_z, bI_1, bI_0, bI_b, bI_nz, bit_e, arK_i, arK_b, arK_j, true_and, and_true, ne_eq, not_false_eq_true, not_true_eq_false, false_and, and_false, true_or, or_true, false_or, or_false, Classical.not_not, forall_const, true_implies, implies_true, false_implies, eq_self] at this
    exact this
  · have := fin (nI 1) (bI_t g).symm
    simp (disch := omega) only [nI_mul, nI_add, nI_clamp, nI_inE, nI_leE, nI_ltE, nI_eqE, nI_eqz, nI_ltz, nI_gez, nI_lez, nI_gtz, nI_m1, nI_m1', nI_ltm, nI_gem, nI_gtm, nI_lem, nI_00, nI_01, nI_10, nI_11, bI_z, bI_1, bI_0, bI_b, bI_nz, bit_e, arK_i, arK_b, arK_j, true_and, and_true, ne_eq, not_false_eq_true, not_true_eq_false, false_and, and_false, true_or, or_true, false_or, or_false, Classical.not_not, forall_const, true_implies, implies_true, false_implies, eq_self] at this
    exact this
theorem m_areInConflict {h : MH} {j np nt : Nat} {s : AS} {a b : Int32} (hO : MO h j s) (hB : NB (aW s) np nt) : OPM x sX5_areInConflict [.ref j, .int a, .int b] h j (qCfl s np nt a b) := by
  have a0 := hO.1.1.1
  have hN := (MO_th (c := nI 0) hO).1
  have hnt := hB.2.2.2.2.2
  (refine CT_of (o := 5) rfl (by decide) (by simp [Value.category, sX5_areInConflict]) (MW_ev kX5_areInConflict 300 ?_); show evS _ _ _ _ _ _ 300 0 (0, 0) [.ref j, .int a, .int b] [] _; simp only [st_iconst, st_lconst, st_ldc2_w, st_ldc, st_iload, st_lload, st_aload, st_istore, st_astore, st_lstore, st_iinc, st_iadd, st_isub, st_imul, st_idiv, st_irem, st_iand, st_ior, st_ishl, st_ishr, st_iushr, st_ladd, st_lmul, st_lshl, st_lushr, st_lcmp, st_i2l, st_l2i, st_i2b, st_i2c, st_i2d, st_i2f, st_dconst, st_fconst, st_ddiv, st_fdiv, st_dup, st_dup2, st_pop, st_goto, st_if_icmp, st_ifCond, st_tableswitch, st_lookupswitch, st_iaload, st_baload, st_laload, st_aaload, st_iastore, st_bastore, st_lastore, st_aastore, st_saload, st_faload, st_jsr, st_getstatic, st_frem, st_drem, st_monitorexit, st_monitorenter, st_invokeinterface, st_newarray, st_anewarray, st_multianewarray, asI_c, asJ_c, asR_c, asD_c, asF_c, popI_c, popJ_c, popR_c, popD_c, popF_c, pop1_c, okSt_0, okSt_S, rcv_0, rcv_1, rcv_2, rcv_3, rcv_4, rcv_5, rcv_8, pI_c, pJ_c, pR_c, pV_c, pD_c, pF_c, cmp_eq, cmp_ne, cmp_lt, cmp_ge, cmp_gt, cmp_le, nth_0, nth_S, set_0, set_S, cat_int, cat_ref, cat_long, cat_double, cat_float, cat_null, catS_0, catS_S, swT_0, swT_S, swL_0, swL_S, Nat.add_zero, Nat.reduceAdd, Nat.reduceSub, Nat.reduceLT, Nat.reduceLeDiff, true_and, and_true, eq_self, eX5_areInConflict_0, fX5_areInConflict_0, eX5_areInConflict_1, cI_0, eX5_areInConflict_2, pf5_59, eX5_areInConflict_5, eX5_areInConflict_6, eX5_areInConflict_7, iv5_142, c_X5_noTransition, eX5_areInConflict_10, tn_37, eX5_areInConflict_13, eX5_areInConflict_14, eX5_areInConflict_15, eX5_areInConflict_18, eX5_areInConflict_21, eX5_areInConflict_22, eX5_areInConflict_23, iv5_98, c_X5_enabled, eX5_areInConflict_26, eX5_areInConflict_29, eX5_areInConflict_30, eX5_areInConflict_31, eX5_areInConflict_34, tn_39, eX5_areInConflict_37, eX5_areInConflict_38, eX5_areInConflict_39, eX5_areInConflict_40, eX5_areInConflict_41, eX5_areInConflict_42, iv5_277, c_X5_disables, eX5_areInConflict_45, tn_57, eX5_areInConflict_48, eX5_areInConflict_49, eX5_areInConflict_50, eX5_areInConflict_51, eX5_areInConflict_54, tn_61, eX5_areInConflict_57, cI_1, eX5_areInConflict_58, tn_62, eX5_areInConflict_61, eX5_areInConflict_62, d_X5_areInConflict, re_X5_areInConflict])
  simp (disch := omega) only [nI_mul, nI_add, nI_clamp, nI_inE, nI_leE, nI_ltE, nI_eqE, nI_eqz, nI_ltz, nI_gez, nI_lez, nI_gtz, nI_m1, nI_m1', nI_ltm, nI_gem, nI_gtm, nI_lem, nI_00, nI_01, nI_10, nI_11, bI_z, bI_1, bI_0, bI_b, bI_nz, bit_e, arK_i, arK_b, arK_j, true_and, and_true, ne_eq, not_false_eq_true, not_true_eq_false, false_and, and_false, true_or, or_true, false_or, or_false, Classical.not_not, forall_const, true_implies, implies_true, false_implies, eq_self, sI_K, sI_L, sI_P, sI_J, sI_Z, sI_Ie, sR_K, sR_L, sR_P, sR_J, sR_Z, sR_Ie, sP_K, sP_L, sP_I, sP_J, sP_Z, sP_Pe, sJ_K, sJ_L, sJ_P, sJ_I, sJ_Z, sJ_Je, n1z, a0]
  refine call_noT hN hB (fun g => ?_) fun g => ?_
  · simp (disch := omega) only [nI_mul, nI_add, nI_clamp, nI_inE, nI_leE, nI_ltE, nI_eqE, nI_eqz, nI_ltz, nI_gez, nI_lez, nI_gtz, nI_m1, nI_m1', nI_ltm, nI_gem, nI_gtm, nI_lem, nI_00, nI_01, nI_10, nI_11, bI_z, bI_1, bI_0, bI_b, bI_nz, bit_e, arK_i, arK_b, arK_j, true_and, and_true, ne_eq, not_false_eq_true, not_true_eq_false, false_and, and_false, true_or, or_true, false_or, or_false, Classical.not_not, forall_const, true_implies, implies_true, false_implies, eq_self, sI_K, sI_L, sI_P, sI_J, sI_Z, sI_Ie, sR_K, sR_L, sR_P, sR_J, sR_Z, sR_Ie, sP_K, sP_L, sP_I, sP_J, sP_Z, sP_Pe, sJ_K, sJ_L, sJ_P, sJ_I, sJ_Z, sJ_Je, n1z, a0]
    exact no1 hO (iteC_f fun z => g z.1)
  simp (disch := omega) only [nI_mul, nI_add, nI_clamp, nI_inE, nI_leE, nI_ltE, nI_eqE, nI_eqz, nI_ltz, nI_gez, nI_lez, nI_gtz, nI_m1, nI_m1', nI_ltm, nI_gem, nI_gtm, nI_lem, nI_00, nI_01, nI_10, nI_11, bI_z, bI_1, bI_0, bI_b, bI_nz, bit_e, arK_i, arK_b, arK_j, true_and, and_true, ne_eq, not_false_eq_true, not_true_eq_false, false_and, and_false, true_or, or_true, false_or, or_false, Classical.not_not, forall_const, true_implies, implies_true, false_implies, eq_self, sI_K, sI_L, sI_P, sI_J, sI_Z, sI_Ie, sR_K, sR_L, sR_P, sR_J, sR_Z, sR_Ie, sP_K, sP_L, sP_I, sP_J, sP_Z, sP_Pe, sJ_K, sJ_L, sJ_P, sJ_I, sJ_Z, sJ_Je, n1z, a0]
  refine call_noT hN hB (fun g2 => ?_) fun g2 => ?_
  · simp (disch := omega) only [nI_mul, nI_add, nI_clamp, nI_inE, nI_leE, nI_ltE, nI_eqE, nI_eqz, nI_ltz, nI_gez, nI_lez, nI_gtz, nI_m1, nI_m1', nI_ltm, nI_gem, nI_gtm, nI_lem, nI_00, nI_01, nI_10, nI_11, bI_z, bI_1, bI_0, bI_b, bI_nz, bit_e, arK_i, arK_b, arK_j, true_and, and_true, ne_eq, not_false_eq_true, not_true_eq_false, false_and, and_false, true_or, or_true, false_or, or_false, Classical.not_not, forall_const, true_implies, implies_true, false_implies, eq_self, sI_K, sI_L, sI_P, sI_J, sI_Z, sI_Ie, sR_K, sR_L, sR_P, sR_J, sR_Z, sR_Ie, sP_K, sP_L, sP_I, sP_J, sP_Z, sP_Pe, sJ_K, sJ_L, sJ_P, sJ_I, sJ_Z, sJ_Je, n1z, a0]
    exact no1 hO (iteC_f fun z => g2 z.2)
  simp (disch := omega) only [nI_mul, nI_add, nI_clamp, nI_inE, nI_leE, nI_ltE, nI_eqE, nI_eqz, nI_ltz, nI_gez, nI_lez, nI_gtz, nI_m1, nI_m1', nI_ltm, nI_gem, nI_gtm, nI_lem, nI_00, nI_01, nI_10, nI_11, bI_z, bI_1, bI_0, bI_b, bI_nz, bit_e, arK_i, arK_b, arK_j, true_and, and_true, ne_eq, not_false_eq_true, not_true_eq_false, false_and, and_false, true_or, or_true, false_or, or_false, Classical.not_not, forall_const, true_implies, implies_true, false_implies, eq_self, sI_K, sI_L, sI_P, sI_J, sI_Z, sI_Ie, sR_K, sR_L, sR_P, sR_J, sR_Z, sR_Ie, sP_K, sP_L, sP_I, sP_J, sP_Z, sP_Pe, sJ_K, sJ_L, sJ_P, sJ_I, sJ_Z, sJ_Je, n1z, a0]
  have hq : qCfl s np nt a b = _ := iteC_t ⟨g, g2⟩
  obtain ⟨a, ha, rfl⟩ := g
  obtain ⟨b, hb, rfl⟩ := g2
  rw [cl_nI (by omega), cl_nI (by omega)] at hq
  have no : ∀ {p : Prop} {h2 : MH}, qCfl s np nt (nI a) (nI b) = okA s (bI p) → ¬ p → mI h2 j 0 = nI 0 → MN h2 j (aW s) → FI h h2 (SQ j) → oaM (qCfl s np nt (nI a) (nI b)) h j (nI 0) h2 := fun e g z hN hF => okq hO (by rw [e, bI_f g]) z hN hF
  have ye : ∀ {p : Prop} {h2 : MH}, qCfl s np nt (nI a) (nI b) = okA s (bI p) → p → mI h2 j 0 = nI 0 → MN h2 j (aW s) → FI h h2 (SQ j) → oaM (qCfl s np nt (nI a) (nI b)) h j (nI 1) h2 := fun e g z hN hF => okq hO (by rw [e, bI_t g]) z hN hF
  clear a0
  obtain ⟨h1, hh⟩ : ∃ h1, h1 = sI h j 0 (nI 0) := ⟨_, rfl⟩
  have hF1 : FI h h1 (SQ j) := by rw [hh]; exact FI_th0
  have h10 : mI h1 j 0 = nI 0 := by rw [hh]; exact sI_Ie
  rw [← hh] at hN ⊢
  have a0 := hN.1.1
  refine CI_pure (m_enabled hN hB (by omega)) ?_
  simp (disch := omega) only [nI_mul, nI_add, nI_clamp, nI_inE, nI_leE, nI_ltE, nI_eqE, nI_eqz, nI_ltz, nI_gez, nI_lez, nI_gtz, nI_m1, nI_m1', nI_ltm, nI_gem, nI_gtm, nI_lem, nI_00, nI_01, nI_10, nI_11, bI_z, bI_1, bI_0, bI_b, bI_nz, bit_e, arK_i, arK_b, arK_j, true_and, and_true, ne_eq, not_false_eq_true, not_true_eq_false, false_and, and_false, true_or, or_true, false_or, or_false, Classical.not_not, forall_const, true_implies, implies_true, false_implies, eq_self, n1z, a0]
  refine ⟨fun g1 => no hq (fun z => g1 z.1) h10 hN hF1, fun g1 => CI_pure (m_enabled hN hB (by omega)) ?_⟩
  simp (disch := omega) only [nI_mul, nI_add, nI_clamp, nI_inE, nI_leE, nI_ltE, nI_eqE, nI_eqz, nI_ltz, nI_gez, nI_lez, nI_gtz, nI_m1, nI_m1', nI_ltm, nI_gem, nI_gtm, nI_lem, nI_00, nI_01, nI_10, nI_11, bI_z, bI_1, bI_0, bI_b, bI_nz, bit_e, arK_i, arK_b, arK_j, true_and, and_true, ne_eq, not_false_eq_true, not_true_eq_false, false_and, and_false, true_or, or_true, false_or, or_false, Classical.not_not, forall_const, true_implies, implies_true, false_implies, eq_self, n1z, a0]
  refine ⟨fun g2 => ?_, fun g2 => no hq (fun z => g2 z.2.1) h10 hN hF1⟩
  refine CI_of (m_disables hN hB ha hb) (fun _ _ z => z.elim) fun r h2 ⟨er, hN2, hF2, z2⟩ => ?_
  have a1 := hN2.1.1
  rw [er]
  simp (disch := omega) only [nI_mul, nI_add, nI_clamp, nI_inE, nI_leE, nI_ltE, nI_eqE, nI_eqz, nI_ltz, nI_gez, nI_lez, nI_gtz, nI_m1, nI_m1', nI_ltm, nI_gem, nI_gtm, nI_lem, nI_00, nI_01, nI_10, nI_11, bI_z, bI_1, bI_0, bI_b, bI_nz, bit_e, arK_i, arK_b, arK_j, true_and, and_true, ne_eq, not_false_eq_true, not_true_eq_false, false_and, and_false, true_or, or_true, false_or, or_false, Classical.not_not, forall_const, true_implies, implies_true, false_implies, eq_self, n1z, a1]
  refine ⟨fun g3 => ye hq ⟨g1, g2, Or.inl g3⟩ (z2.trans h10) hN2 (FI_tr hF1 hF2), fun g3 => CI_of (m_disables hN2 hB hb ha) (fun _ _ z => z.elim) fun r h3 ⟨er, hN3, hF3, z3⟩ => ?_⟩
  rw [er]
  simp (disch := omega) only [nI_mul, nI_add, nI_clamp, nI_inE, nI_leE, nI_ltE, nI_eqE, nI_eqz, nI_ltz, nI_gez, nI_lez, nI_gtz, nI_m1, nI_m1', nI_ltm, nI_gem, nI_gtm, nI_lem, nI_00, nI_01, nI_10, nI_11, bI_z, bI_1, bI_0, bI_b, bI_nz, bit_e, arK_i, arK_b, arK_j, true_and, and_true, ne_eq, not_false_eq_true, not_true_eq_false, false_and, and_false, true_or, or_true, false_or, or_false, Classical.not_not, forall_const, true_implies, implies_true, false_implies, eq_self, n1z]
  exact ⟨fun g4 => no hq (fun z => z.2.2.elim (fun q => q g3) fun q => q g4) (z3.trans (z2.trans h10)) hN3 (FI_tr hF1 (FI_tr hF2 hF3)), fun g4 => ye hq ⟨g1, g2, Or.inr g4⟩ (z3.trans (z2.trans h10)) hN3 (FI_tr hF1 (FI_tr hF2 hF3))⟩
theorem inR_201 {m : Int32} : (¬ m < nI 0 ∧ m ≤ nI 200) = inR m 201 := by
  rw [inR_e (by decide), nI_0]
  refine propext (and_congr_right fun g => ?_)
  obtain ⟨k, hk, rfl⟩ := nI_of g
  rw [nI_ltI hk (by decide), nI_leI hk (by decide)]
  omega
theorem m_tokensAfterRun {h : MH} {j np nt : Nat} {s : AS} {p m : Int32} (hO : MO h j s) (hB : NB (aW s) np nt) : OPM x sX5_tokensAfterRun [.ref j, .int p, .int m] h j (qTR s np nt p m) := by
  have a0 := hO.1.1.1
  have hN := (MO_th (c := nI 0) hO).1
  have hnt := hB.2.2.2.2.2
  have hnp := hB.2.2.2.1
  (refine CT_of (o := 5) rfl (by decide) (by simp [Value.category, sX5_tokensAfterRun]) (MW_ev kX5_tokensAfterRun 300 ?_); show evS _ _ _ _ _ _ 300 0 (0, 0) [.ref j, .int p, .int m, .null, .null] [] _; simp only [st_iconst, st_lconst, st_ldc2_w, st_ldc, st_iload, st_lload, st_aload, st_istore, st_astore, st_lstore, st_iinc, st_iadd, st_isub, st_imul, st_idiv, st_irem, st_iand, st_ior, st_ishl, st_ishr, st_iushr, st_ladd, st_lmul, st_lshl, st_lushr, st_lcmp, st_i2l, st_l2i, st_i2b, st_i2c, st_i2d, st_i2f, st_dconst, st_fconst, st_ddiv, st_fdiv, st_dup, st_dup2, st_pop, st_goto, st_if_icmp, st_ifCond, st_tableswitch, st_lookupswitch, st_iaload, st_baload, st_laload, st_aaload, st_iastore, st_bastore, st_lastore, st_aastore, st_saload, st_faload, st_jsr, st_getstatic, st_frem, st_drem, st_monitorexit, st_monitorenter, st_invokeinterface, st_newarray, st_anewarray, st_multianewarray, asI_c, asJ_c, asR_c, asD_c, asF_c, popI_c, popJ_c, popR_c, popD_c, popF_c, pop1_c, okSt_0, okSt_S, rcv_0, rcv_1, rcv_2, rcv_3, rcv_4, rcv_5, rcv_8, pI_c, pJ_c, pR_c, pV_c, pD_c, pF_c, cmp_eq, cmp_ne, cmp_lt, cmp_ge, cmp_gt, cmp_le, nth_0, nth_S, set_0, set_S, cat_int, cat_ref, cat_long, cat_double, cat_float, cat_null, catS_0, catS_S, swT_0, swT_S, swL_0, swL_S, Nat.add_zero, Nat.reduceAdd, Nat.reduceSub, Nat.reduceLT, Nat.reduceLeDiff, true_and, and_true, eq_self, eX5_tokensAfterRun_0, fX5_tokensAfterRun_0, eX5_tokensAfterRun_1, cI_0, eX5_tokensAfterRun_2, pf5_59, eX5_tokensAfterRun_5, eX5_tokensAfterRun_6, eX5_tokensAfterRun_7, iv5_131, c_X5_noPlace, eX5_tokensAfterRun_10, tn_26, eX5_tokensAfterRun_13, eX5_tokensAfterRun_14, eX5_tokensAfterRun_15, eX5_tokensAfterRun_16, cI_200, eX5_tokensAfterRun_19, cI_2, eX5_tokensAfterRun_20, iv5_69, c_X5_outside, eX5_tokensAfterRun_23, tn_28, eX5_tokensAfterRun_26, eX5_tokensAfterRun_27, eX5_tokensAfterRun_28, eX5_tokensAfterRun_29, gf5_9, eX5_tokensAfterRun_32, eX5_tokensAfterRun_33, gf5_24, eX5_tokensAfterRun_36, iv5_65, c_X5_copy, eX5_tokensAfterRun_39, eX5_tokensAfterRun_40, eX5_tokensAfterRun_41, iv5_149, c_X5_runIt, eX5_tokensAfterRun_44, eX5_tokensAfterRun_45, eX5_tokensAfterRun_46, tn_53, eX5_tokensAfterRun_49, cI_m1, eX5_tokensAfterRun_50, tn_58, eX5_tokensAfterRun_53, eX5_tokensAfterRun_54, eX5_tokensAfterRun_55, iv5_77, c_X5_tokensOf, eX5_tokensAfterRun_58, eX5_tokensAfterRun_60, eX5_tokensAfterRun_61, eX5_tokensAfterRun_64, eX5_tokensAfterRun_65, eX5_tokensAfterRun_68, eX5_tokensAfterRun_71, eX5_tokensAfterRun_73, d_X5_tokensAfterRun, re_X5_tokensAfterRun])
  simp (disch := omega) only [nI_mul, nI_add, nI_clamp, nI_inE, nI_leE, nI_ltE, nI_eqE, nI_eqz, nI_ltz, nI_gez, nI_lez, nI_gtz, nI_m1, nI_m1', nI_ltm, nI_gem, nI_gtm, nI_lem, nI_00, nI_01, nI_10, nI_11, bI_z, bI_1, bI_0, bI_b, bI_nz, bit_e, arK_i, arK_b, arK_j, true_and, and_true, ne_eq, not_false_eq_true, not_true_eq_false, false_and, and_false, true_or, or_true, false_or, or_false, Classical.not_not, forall_const, true_implies, implies_true, false_implies, eq_self, sI_K, sI_L, sI_P, sI_J, sI_Z, sI_Ie, sR_K, sR_L, sR_P, sR_J, sR_Z, sR_Ie, sP_K, sP_L, sP_I, sP_J, sP_Z, sP_Pe, sJ_K, sJ_L, sJ_P, sJ_I, sJ_Z, sJ_Je, n1z, a0]
  refine call_noP hN hB (fun g => ?_) fun g => ?_
  · simp (disch := omega) only [nI_mul, nI_add, nI_clamp, nI_inE, nI_leE, nI_ltE, nI_eqE, nI_eqz, nI_ltz, nI_gez, nI_lez, nI_gtz, nI_m1, nI_m1', nI_ltm, nI_gem, nI_gtm, nI_lem, nI_00, nI_01, nI_10, nI_11, bI_z, bI_1, bI_0, bI_b, bI_nz, bit_e, arK_i, arK_b, arK_j, true_and, and_true, ne_eq, not_false_eq_true, not_true_eq_false, false_and, and_false, true_or, or_true, false_or, or_false, Classical.not_not, forall_const, true_implies, implies_true, false_implies, eq_self, sI_K, sI_L, sI_P, sI_J, sI_Z, sI_Ie, sR_K, sR_L, sR_P, sR_J, sR_Z, sR_Ie, sP_K, sP_L, sP_I, sP_J, sP_Z, sP_Pe, sJ_K, sJ_L, sJ_P, sJ_I, sJ_Z, sJ_Je, n1z, a0]
    exact no1 hO (iteC_f g)
  simp (disch := omega) only [nI_mul, nI_add, nI_clamp, nI_inE, nI_leE, nI_ltE, nI_eqE, nI_eqz, nI_ltz, nI_gez, nI_lez, nI_gtz, nI_m1, nI_m1', nI_ltm, nI_gem, nI_gtm, nI_lem, nI_00, nI_01, nI_10, nI_11, bI_z, bI_1, bI_0, bI_b, bI_nz, bit_e, arK_i, arK_b, arK_j, true_and, and_true, ne_eq, not_false_eq_true, not_true_eq_false, false_and, and_false, true_or, or_true, false_or, or_false, Classical.not_not, forall_const, true_implies, implies_true, false_implies, eq_self, sI_K, sI_L, sI_P, sI_J, sI_Z, sI_Ie, sR_K, sR_L, sR_P, sR_J, sR_Z, sR_Ie, sP_K, sP_L, sP_I, sP_J, sP_Z, sP_Pe, sJ_K, sJ_L, sJ_P, sJ_I, sJ_Z, sJ_Je, n1z, a0]
  have hq : qTR s np nt p m = iteC (inR m 201) (okA s ((runW np nt (cl m) (aW s)).2 (2 + cl p))) (noA s 2) := iteC_t g
  obtain ⟨p, hp, rfl⟩ := g
  rw [cl_nI (by omega)] at hq
  refine call_out hN.1 (fun g => ?_) fun g => ?_
  · simp (disch := omega) only [nI_mul, nI_add, nI_clamp, nI_inE, nI_leE, nI_ltE, nI_eqE, nI_eqz, nI_ltz, nI_gez, nI_lez, nI_gtz, nI_m1, nI_m1', nI_ltm, nI_gem, nI_gtm, nI_lem, nI_00, nI_01, nI_10, nI_11, bI_z, bI_1, bI_0, bI_b, bI_nz, bit_e, arK_i, arK_b, arK_j, true_and, and_true, ne_eq, not_false_eq_true, not_true_eq_false, false_and, and_false, true_or, or_true, false_or, or_false, Classical.not_not, forall_const, true_implies, implies_true, false_implies, eq_self, sI_K, sI_L, sI_P, sI_J, sI_Z, sI_Ie, sR_K, sR_L, sR_P, sR_J, sR_Z, sR_Ie, sP_K, sP_L, sP_I, sP_J, sP_Z, sP_Pe, sJ_K, sJ_L, sJ_P, sJ_I, sJ_Z, sJ_Je, n1z, a0]
    rw [inR_201] at g
    exact no1 hO (hq.trans (iteC_f g))
  rw [inR_201] at g
  have hq := hq.trans (iteC_t g)
  obtain ⟨k, hk, rfl⟩ := g
  rw [cl_nI (by omega)] at hq
  clear a0
  obtain ⟨h1, hh⟩ : ∃ h1, h1 = sI h j 0 (nI 0) := ⟨_, rfl⟩
  have hF1 : FI h h1 (SQ j) := by rw [hh]; exact FI_th0
  have h10 : mI h1 j 0 = nI 0 := by rw [hh]; exact sI_Ie
  rw [← hh] at hN ⊢
  obtain ⟨a0, p1, p7, r1, r15⟩ := AS_rd hN.1
  simp (disch := omega) only [nI_mul, nI_add, nI_clamp, nI_inE, nI_leE, nI_ltE, nI_eqE, nI_eqz, nI_ltz, nI_gez, nI_lez, nI_gtz, nI_m1, nI_m1', nI_ltm, nI_gem, nI_gtm, nI_lem, nI_00, nI_01, nI_10, nI_11, bI_z, bI_1, bI_0, bI_b, bI_nz, bit_e, arK_i, arK_b, arK_j, true_and, and_true, ne_eq, not_false_eq_true, not_true_eq_false, false_and, and_false, true_or, or_true, false_or, or_false, Classical.not_not, forall_const, true_implies, implies_true, false_implies, eq_self, n1z, a0, p1, p7]
  refine ⟨Nat.succ_ne_zero _, Nat.succ_ne_zero _, call_cpy r1 r15 (by omega) fun h2 hc2 hF2 => ?_⟩
  clear a0 p1 p7
  have hN2 : MN h2 j (aW s) := MN_fi hN hF2 fun k => by omega
  refine ⟨hN2.1.1, CI_of (m_runIt hN2 hB (by omega)) (fun _ _ z => z.elim) fun r h3 ⟨er, hN3, hF3⟩ => ?_⟩
  have hle := run_le (np := np) (nt := nt) (n := k) (w := aW s) hnt
  obtain ⟨a0, p1, p7, r1, r15⟩ := AS_rd hN3.1
  rw [er]
  simp (disch := omega) only [nI_mul, nI_add, nI_clamp, nI_inE, nI_leE, nI_ltE, nI_eqE, nI_eqz, nI_ltz, nI_gez, nI_lez, nI_gtz, nI_m1, nI_m1', nI_ltm, nI_gem, nI_gtm, nI_lem, nI_00, nI_01, nI_10, nI_11, bI_z, bI_1, bI_0, bI_b, bI_nz, bit_e, arK_i, arK_b, arK_j, true_and, and_true, ne_eq, not_false_eq_true, not_true_eq_false, false_and, and_false, true_or, or_true, false_or, or_false, Classical.not_not, forall_const, true_implies, implies_true, false_implies, eq_self, n1z, a0, p1, p7]
  refine CI_pure (m_tokensOf hN3 (by omega)) ?_
  simp (disch := omega) only [nI_mul, nI_add, nI_clamp, nI_inE, nI_leE, nI_ltE, nI_eqE, nI_eqz, nI_ltz, nI_gez, nI_lez, nI_gtz, nI_m1, nI_m1', nI_ltm, nI_gem, nI_gtm, nI_lem, nI_00, nI_01, nI_10, nI_11, bI_z, bI_1, bI_0, bI_b, bI_nz, bit_e, arK_i, arK_b, arK_j, true_and, and_true, ne_eq, not_false_eq_true, not_true_eq_false, false_and, and_false, true_or, or_true, false_or, or_false, Classical.not_not, forall_const, true_implies, implies_true, false_implies, eq_self, n1z, a0, p1, p7]
  refine ⟨Nat.succ_ne_zero _, Nat.succ_ne_zero _, ?_⟩
  refine call_cpy r15 r1 (by omega) fun h4 hc4 hF4 => okq hO hq ((hF4.2.2.2.2 _ _ (by omega)).trans ((hF3.2.2.2.2 _ _ (by omega)).trans ((hF2.2.2.2.2 _ _ (by omega)).trans h10))) (MN_res hN (MB_fi hN3.1 hF4) fun m hm => ?_) (FI_tr hF1 (FI_tr (SQ_15 hF2) (FI_tr (SQ_m hF3) (SQ_1 hF4))))
  rw [hc4 m hm, hF3.2.2.2.2 _ _ (by omega), hc2 m hm]
/-- a run of one more -/
theorem run_more {np nt : Nat} (hnt : nt ≤ 10) : ∀ (n : Nat) (w : Nat → Int32), ((runW np nt (n + 1) w).1 ≤ n ↔ nxW (runW np nt n w).2 np nt = -1) ∧ ((runW np nt (n + 1) w).1 ≤ n → (runW np nt n w).1 = (runW np nt (n + 1) w).1) := by
  intro n
  induction n with
  | zero =>
    intro w
    rw [run_0]
    rcases nx_dom w np nt with g | ⟨i, hi, g⟩
    · rw [run_end g]
      exact ⟨⟨fun _ => g, fun _ => Nat.le_refl _⟩, fun _ => rfl⟩
    · rw [run_go g (by omega), run_0]
      show ((0 + 1 ≤ 0 ↔ nxW w np nt = -1) ∧ (0 + 1 ≤ 0 → 0 = 0 + 1))
      rw [g, nI_m1 (by omega)]
      exact ⟨⟨fun z => by omega, fun z => z.elim⟩, fun z => by omega⟩
  | succ n ih =>
    intro w
    rcases nx_dom w np nt with g | ⟨i, hi, g⟩
    · rw [run_end g, run_end g]
      exact ⟨⟨fun _ => g, fun _ => Nat.zero_le _⟩, fun _ => rfl⟩
    · rw [run_go g (n := n + 1) (by omega), run_go g (n := n) (by omega)]
      have h := ih (fireW w np i)
      show ((runW np nt (n + 1) (fireW w np i)).1 + 1 ≤ n + 1 ↔ _) ∧ ((runW np nt (n + 1) (fireW w np i)).1 + 1 ≤ n + 1 → (runW np nt n (fireW w np i)).1 + 1 = (runW np nt (n + 1) (fireW w np i)).1 + 1)
      exact ⟨⟨fun z => h.1.mp (by omega), fun z => by have := h.1.mpr z; omega⟩, fun z => by rw [h.2 (by omega)]⟩
theorem nx_none {w : Nat → Int32} {np nt : Nat} (hnt : nt ≤ 10) : (nxW w np nt = -1) = ∀ t, t < nt → ¬ enW w np t := by
  have : ∀ n, n ≤ nt → ((nxW w np n = -1) ↔ ∀ t, t < n → ¬ enW w np t) := by
    intro n
    induction n with
    | zero => exact fun _ => ⟨fun _ t ht => absurd ht (Nat.not_lt_zero _), fun _ => rfl⟩
    | succ n ih =>
      intro hn
      have hs : nxW w np (n + 1) = iteC ((nxW w np n = -1 ∨ w (18 + n) < w (18 + (nxW w np n).toNatClampNeg)) ∧ enW w np n) (nI n) (nxW w np n) := rfl
      have ih := ih (by omega)
      rcases nx_dom w np n with g | ⟨i, hi, g⟩
      · by_cases e : enW w np n
        · rw [hs, iteC_t ⟨Or.inl g, e⟩, nI_m1 (by omega)]
          exact ⟨fun z => z.elim, fun z => z n (Nat.lt_succ_self n) e⟩
        · rw [hs, iteC_f fun z => e z.2]
          exact ⟨fun z => lt_succ_all (ih.mp z) e, fun z => ih.mpr fun t ht => z t (by omega)⟩
      · have hne : ¬ nxW w np n = -1 := by rw [g, nI_m1 (by omega)]; exact id
        refine ⟨fun z => ?_, fun z => absurd (ih.mpr fun t ht => z t (by omega)) hne⟩
        rw [hs] at z
        by_cases e : (nxW w np n = -1 ∨ w (18 + n) < w (18 + (nxW w np n).toNatClampNeg)) ∧ enW w np n
        · rw [iteC_t e, nI_m1 (by omega)] at z; exact z.elim
        · rw [iteC_f e] at z; exact absurd z hne
  exact propext (this nt (Nat.le_refl _))
theorem m_runLength {h : MH} {j np nt : Nat} {s : AS} (hO : MO h j s) (hB : NB (aW s) np nt) : OPM x sX5_runLength [.ref j] h j (okA s (rlS (aW s) np nt)) := by
  have hN := (MO_th (c := nI 0) hO).1
  have hnt := hB.2.2.2.2.2
  obtain ⟨a0, p1, p7, r1, r15⟩ := AS_rd hO.1.1
  (refine CT_of (o := 5) rfl (by decide) (by simp [Value.category, sX5_runLength]) (MW_ev kX5_runLength 300 ?_); show evS _ _ _ _ _ _ 300 0 (0, 0) [.ref j, .null, .null] [] _; simp only [st_iconst, st_lconst, st_ldc2_w, st_ldc, st_iload, st_lload, st_aload, st_istore, st_astore, st_lstore, st_iinc, st_iadd, st_isub, st_imul, st_idiv, st_irem, st_iand, st_ior, st_ishl, st_ishr, st_iushr, st_ladd, st_lmul, st_lshl, st_lushr, st_lcmp, st_i2l, st_l2i, st_i2b, st_i2c, st_i2d, st_i2f, st_dconst, st_fconst, st_ddiv, st_fdiv, st_dup, st_dup2, st_pop, st_goto, st_if_icmp, st_ifCond, st_tableswitch, st_lookupswitch, st_iaload, st_baload, st_laload, st_aaload, st_iastore, st_bastore, st_lastore, st_aastore, st_saload, st_faload, st_jsr, st_getstatic, st_frem, st_drem, st_monitorexit, st_monitorenter, st_invokeinterface, st_newarray, st_anewarray, st_multianewarray, asI_c, asJ_c, asR_c, asD_c, asF_c, popI_c, popJ_c, popR_c, popD_c, popF_c, pop1_c, okSt_0, okSt_S, rcv_0, rcv_1, rcv_2, rcv_3, rcv_4, rcv_5, rcv_8, pI_c, pJ_c, pR_c, pV_c, pD_c, pF_c, cmp_eq, cmp_ne, cmp_lt, cmp_ge, cmp_gt, cmp_le, nth_0, nth_S, set_0, set_S, cat_int, cat_ref, cat_long, cat_double, cat_float, cat_null, catS_0, catS_S, swT_0, swT_S, swL_0, swL_S, Nat.add_zero, Nat.reduceAdd, Nat.reduceSub, Nat.reduceLT, Nat.reduceLeDiff, true_and, and_true, eq_self, eX5_runLength_0, fX5_runLength_0, eX5_runLength_1, cI_0, eX5_runLength_2, pf5_59, eX5_runLength_5, eX5_runLength_6, gf5_9, eX5_runLength_9, eX5_runLength_10, gf5_24, eX5_runLength_13, iv5_65, c_X5_copy, eX5_runLength_16, eX5_runLength_17, cI_200, eX5_runLength_20, iv5_149, c_X5_runIt, eX5_runLength_23, eX5_runLength_24, eX5_runLength_25, iv5_159, c_X5_enabledSet, eX5_runLength_28, tn_35, eX5_runLength_31, cI_1, eX5_runLength_32, tn_36, eX5_runLength_35, eX5_runLength_36, eX5_runLength_37, eX5_runLength_38, eX5_runLength_41, eX5_runLength_42, eX5_runLength_45, eX5_runLength_48, eX5_runLength_49, tn_56, eX5_runLength_52, eX5_runLength_53, tn_57, eX5_runLength_56, cI_m1, eX5_runLength_57, d_X5_runLength, re_X5_runLength])
  simp (disch := omega) only [nI_mul, nI_add, nI_clamp, nI_inE, nI_leE, nI_ltE, nI_eqE, nI_eqz, nI_ltz, nI_gez, nI_lez, nI_gtz, nI_m1, nI_m1', nI_ltm, nI_gem, nI_gtm, nI_lem, nI_00, nI_01, nI_10, nI_11, bI_z, bI_1, bI_0, bI_b, bI_nz, bit_e, arK_i, arK_b, arK_j, true_and, and_true, ne_eq, not_false_eq_true, not_true_eq_false, false_and, and_false, true_or, or_true, false_or, or_false, Classical.not_not, forall_const, true_implies, implies_true, false_implies, eq_self, sI_K, sI_L, sI_P, sI_J, sI_Z, sI_Ie, sR_K, sR_L, sR_P, sR_J, sR_Z, sR_Ie, sP_K, sP_L, sP_I, sP_J, sP_Z, sP_Pe, sJ_K, sJ_L, sJ_P, sJ_I, sJ_Z, sJ_Je, n1z, a0, p1, p7]
  obtain ⟨h1, hh⟩ : ∃ h1, h1 = sI h j 0 (nI 0) := ⟨_, rfl⟩
  have hF1 : FI h h1 (SQ j) := by rw [hh]; exact FI_th0
  have h10 : mI h1 j 0 = nI 0 := by rw [hh]; exact sI_Ie
  rw [← hh] at hN ⊢
  clear a0 p1 p7
  obtain ⟨-, -, -, r1, r15⟩ := AS_rd hN.1
  refine ⟨Nat.succ_ne_zero _, Nat.succ_ne_zero _, call_cpy r1 r15 (by omega) fun h2 hc2 hF2 => ?_⟩
  have hN2 : MN h2 j (aW s) := MN_fi hN hF2 fun k => by omega
  refine ⟨hN2.1.1, CI_of (m_runIt hN2 hB (by omega)) (fun _ _ z => z.elim) fun r h3 ⟨er, hN3, hF3⟩ => ?_⟩
  have hle := run_le (np := np) (nt := nt) (n := 201) (w := aW s) hnt
  obtain ⟨hm1, hm2⟩ := run_more (np := np) hnt 200 (aW s)
  have hes := es_0 (w := (runW np nt 200 (aW s)).2) (np := np) hnt
  rw [← nx_none hnt] at hes
  refine ⟨hN3.1.1, CI_pure (m_enabledSet hN3 (run_B hB)) ?_⟩
  obtain ⟨a0, p1, p7, r1, r15⟩ := AS_rd hN3.1
  have fin : ∀ v, v = rlS (aW s) np nt → CALLV x sX5_copy [.ref (j + 15), .ref (j + 1)] h3 xNo fun h' => oaM (okA s (rlS (aW s) np nt)) h j v h' := fun v hv => by
    refine call_cpy r15 r1 (by omega) fun h4 hc4 hF4 => okq hO (by rw [hv]) ((hF4.2.2.2.2 _ _ (by omega)).trans ((hF3.2.2.2.2 _ _ (by omega)).trans ((hF2.2.2.2.2 _ _ (by omega)).trans h10))) (MN_res hN (MB_fi hN3.1 hF4) fun m hm => ?_) (FI_tr hF1 (FI_tr (SQ_15 hF2) (FI_tr (SQ_m hF3) (SQ_1 hF4))))
    rw [hc4 m hm, hF3.2.2.2.2 _ _ (by omega), hc2 m hm]
  rw [hes, er]
  simp (disch := omega) only [nI_mul, nI_add, nI_clamp, nI_inE, nI_leE, nI_ltE, nI_eqE, nI_eqz, nI_ltz, nI_gez, nI_lez, nI_gtz, nI_m1, nI_m1', nI_ltm, nI_gem, nI_gtm, nI_lem, nI_00, nI_01, nI_10, nI_11, bI_z, bI_1, bI_0, bI_b, bI_nz, bit_e, arK_i, arK_b, arK_j, true_and, and_true, ne_eq, not_false_eq_true, not_true_eq_false, false_and, and_false, true_or, or_true, false_or, or_false, Classical.not_not, forall_const, true_implies, implies_true, false_implies, eq_self, n1z, a0, p1, p7]
  refine ⟨fun g => ⟨Nat.succ_ne_zero _, Nat.succ_ne_zero _, fin (-1) ?_⟩, fun g => ⟨Nat.succ_ne_zero _, Nat.succ_ne_zero _, fin _ ?_⟩⟩
  · have h1 : ¬ (runW np nt 201 (aW s)).1 ≤ 200 := fun z => g (hm1.mp z)
    exact (iteC_t (by omega)).symm
  · have h1 : (runW np nt 201 (aW s)).1 ≤ 200 := hm1.mpr g
    rw [hm2 h1]
    exact (iteC_f (by omega)).symm
end MOD
