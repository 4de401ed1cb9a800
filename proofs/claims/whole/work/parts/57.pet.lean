section PET
variable {x : CX}
/-- net and history change, no exploration kept -/
theorem PO_hn {h h' : MH} {i c : Nat} {s : AS} {w : Nat → Int32} {P : Nat → Nat → Int32} (hP : PO h i s) (h7 : mI h' i 7 = nI 0) (hf : PF h' i) (h3 : mI h' i 3 = mI h i 3) (h10 : mI h' i 10 = mI h i 10) (hE1 : EQr h h' (i + 8) (i + 22)) (hE : EQr h h' (i + 94) (i + 119)) (hN : NW h' (i + 1) w) (hH : HS h' (i + 22) P c) : PO h' i (w, P, c, s.2.2.2) := by
  obtain ⟨pf, pn, pt, ps, ph, pH, pS, pX, pD, pR⟩ := hP
  exact ⟨hf, hN, NX_er pt hE1 (by omega) (by omega), NW_er ps hE1 (by omega) (by omega), h3.trans ph, hH, PS_ea pS (EQr_mono hE (by omega) (by omega)), ⟨XS_ea pX.1 (EQr_mono hE (by omega) (by omega)), NX_er pX.2.1 hE (by omega) (by omega), Or.inl h7⟩, PD_ea pD (hE _ (by omega) (by omega)), PR_ea pR h10 (hE _ (by omega) (by omega))⟩
theorem c_undo {h : MH} {i : Nat} {s : AS} (hP : PO h i s) : OPC x sX4_undo [.ref i] h i [] (qUndo s) := by
  obtain ⟨a0, p0, -, -, p4, -⟩ := hP.1
  have n0 := hP.2.1.1.1
  have hH := hP.2.2.2.2.2.1
  obtain ⟨b1, b5, b6⟩ : mK h (i + 22) = 2 ∧ mI h (i + 22) 2 = nI (aC s) ∧ aC s ≤ 10 := by
    obtain ⟨nxt, b1, b2, b3, b4, b5, b6, -⟩ := hH
    exact ⟨b1, b5, b6⟩
  (refine CT_of (o := 4) rfl (by decide) (by simp [Value.category, sX4_undo]) (MW_ev kX4_undo 300 ?_); show evS _ _ _ _ _ _ 300 0 (0, 0) [.ref i] [] _; simp only [st_iconst, st_lconst, st_ldc2_w, st_ldc, st_iload, st_lload, st_aload, st_istore, st_astore, st_lstore, st_iinc, st_iadd, st_isub, st_imul, st_idiv, st_irem, st_iand, st_ior, st_ishl, st_ishr, st_iushr, st_ladd, st_lmul, st_lshl, st_lushr, st_lcmp, st_i2l, st_l2i, st_i2b, st_i2c, st_i2d, st_i2f, st_dconst, st_fconst, st_ddiv, st_fdiv, st_dup, st_dup2, st_pop, st_goto, st_if_icmp, st_ifCond, st_tableswitch, st_lookupswitch, st_iaload, st_baload, st_laload, st_aaload, st_iastore, st_bastore, st_lastore, st_aastore, st_saload, st_faload, st_jsr, st_getstatic, st_frem, st_drem, st_monitorexit, st_monitorenter, st_invokeinterface, st_newarray, st_anewarray, st_multianewarray, asI_c, asJ_c, asR_c, asD_c, asF_c, popI_c, popJ_c, popR_c, popD_c, popF_c, pop1_c, okSt_0, okSt_S, rcv_0, rcv_1, rcv_2, rcv_3, rcv_4, rcv_5, rcv_8, pI_c, pJ_c, pR_c, pV_c, pD_c, pF_c, cmp_eq, cmp_ne, cmp_lt, cmp_ge, cmp_gt, cmp_le, nth_0, nth_S, set_0, set_S, cat_int, cat_ref, cat_long, cat_double, cat_float, cat_null, catS_0, catS_S, swT_0, swT_S, swL_0, swL_S, Nat.add_zero, Nat.reduceAdd, Nat.reduceSub, Nat.reduceLT, Nat.reduceLeDiff, true_and, and_true, eq_self, eX4_undo_0, fX4_undo_0, eX4_undo_1, gf4_33, eX4_undo_4, gf4_185, eX4_undo_7, tn_12, eX4_undo_10, cI_m1, eX4_undo_11, eX4_undo_12, eX4_undo_13, eX4_undo_16, eX4_undo_17, gf4_13, eX4_undo_20, iv4_186, c_X1_popInto, eX4_undo_23, eX4_undo_24, cI_0, eX4_undo_25, pf4_51, eX4_undo_28, eX4_undo_29, eX4_undo_32, eX4_undo_35, d_X4_undo, re_X4_undo])
  by_cases g : aC s = 0
  · have hq : qUndo s = okA s (-1) := iteC_t g
    simp (disch := omega) only [nI_mul, nI_add, nI_clamp, nI_inE, nI_leE, nI_ltE, nI_eqE, nI_eqz, nI_ltz, nI_gez, nI_lez, nI_gtz, nI_m1, nI_m1', nI_ltm, nI_gem, nI_gtm, nI_lem, nI_00, nI_01, nI_10, nI_11, bI_z, bI_1, bI_0, bI_b, bI_nz, bit_e, arK_i, arK_b, arK_j, true_and, and_true, ne_eq, not_false_eq_true, not_true_eq_false, false_and, and_false, true_or, or_true, false_or, or_false, Classical.not_not, forall_const, true_implies, implies_true, false_implies, eq_self, a0, p4, p0, b1, b5, g]
    exact ⟨Nat.succ_ne_zero _, ok_of hq hP fz0⟩
  · have hq : qUndo s = _ := iteC_f g
    obtain ⟨c, hc⟩ : ∃ c, aC s = c + 1 := ⟨aC s - 1, by omega⟩
    rw [hc] at hH
    simp (disch := omega) only [nI_mul, nI_add, nI_clamp, nI_inE, nI_leE, nI_ltE, nI_eqE, nI_eqz, nI_ltz, nI_gez, nI_lez, nI_gtz, nI_m1, nI_m1', nI_ltm, nI_gem, nI_gtm, nI_lem, nI_00, nI_01, nI_10, nI_11, bI_z, bI_1, bI_0, bI_b, bI_nz, bit_e, arK_i, arK_b, arK_j, true_and, and_true, ne_eq, not_false_eq_true, not_true_eq_false, false_and, and_false, true_or, or_true, false_or, or_false, Classical.not_not, forall_const, true_implies, implies_true, false_implies, eq_self, a0, p4, p0, n0, b1, b5, g]
    refine ⟨Nat.succ_ne_zero _, Nat.succ_ne_zero _, Nat.succ_ne_zero _, CV_of (c_popInto hH hP.2.1 (by omega)) (fun _ _ z => z.elim) fun h1 ⟨hH1, hN1, hF1⟩ => ?_⟩
    clear a0 p4 p0 n0 b1
    have ei : EQa h h1 i := EQ_fs hF1 (by omega)
    have pf1 := PF_ea hP.1 ei
    have a0' := pf1.1
    have p4' : mP h1 i 4 = i + 22 := pf1.2.2.2.2.1
    obtain ⟨d1, d5⟩ : mK h1 (i + 22) = 2 ∧ mI h1 (i + 22) 2 = nI c := by
      obtain ⟨nxt, b1, b2, b3, b4, b5, b6, -⟩ := hH1
      exact ⟨b1, b5⟩
    simp (disch := omega) only [nI_mul, nI_add, nI_clamp, nI_inE, nI_leE, nI_ltE, nI_eqE, nI_eqz, nI_ltz, nI_gez, nI_lez, nI_gtz, nI_m1, nI_m1', nI_ltm, nI_gem, nI_gtm, nI_lem, nI_00, nI_01, nI_10, nI_11, bI_z, bI_1, bI_0, bI_b, bI_nz, bit_e, arK_i, arK_b, arK_j, true_and, and_true, ne_eq, not_false_eq_true, not_true_eq_false, false_and, and_false, true_or, or_true, false_or, or_false, Classical.not_not, forall_const, true_implies, implies_true, false_implies, eq_self, sI_K, sI_L, sI_P, sI_J, sI_Z, sI_Ie, sR_K, sR_L, sR_P, sR_J, sR_Z, sR_Ie, sP_K, sP_L, sP_I, sP_J, sP_Z, sP_Pe, sJ_K, sJ_L, sJ_P, sJ_I, sJ_Z, sJ_Je, a0', p4', d1, d5, sI_Ia]
    refine ⟨Nat.succ_ne_zero _, ok_of (s := (aP s 0, (fun m => aP s (m + 1)), c, s.2.2.2)) (by rw [hq, hc]; rfl) (PO_hn hP sI_Ie pf1 ((sI_Ik (by decide)).trans (ei.2.2 3).1) ((sI_Ik (by decide)).trans (ei.2.2 10).1) (fun a g1 g2 => EQ_tr (EQ_fs hF1 (by omega)) (EQ_sI (by omega))) (fun a g1 g2 => EQ_tr (EQ_fs hF1 (by omega)) (EQ_sI (by omega))) (NW_ea hN1 fun a g1 g2 => EQ_sI (by omega)) (HS_ea hH1 fun a g1 g2 => EQ_sI (by omega))) ⟨Nat.le_of_eq hF1.1.symm, fun a ha => EQ_tr (EQ_fs hF1 (by omega)) (EQ_sI (by omega))⟩⟩
theorem c_saveSnapshot {h : MH} {i np nt : Nat} {s : AS} (hP : PO h i s) (hB : NB (aW s) np nt) : OPC x sX4_saveSnapshot [.ref i] h i [] (qSav s np) := by
  obtain ⟨a0, p0, -, p2, -⟩ := hP.1
  have n0 := hP.2.1.1.1
  have m0 := hP.2.2.2.1.1.1
  (refine CT_of (o := 4) rfl (by decide) (by simp [Value.category, sX4_saveSnapshot]) (MW_ev kX4_saveSnapshot 300 ?_); show evS _ _ _ _ _ _ 300 0 (0, 0) [.ref i] [] _; simp only [st_iconst, st_lconst, st_ldc2_w, st_ldc, st_iload, st_lload, st_aload, st_istore, st_astore, st_lstore, st_iinc, st_iadd, st_isub, st_imul, st_idiv, st_irem, st_iand, st_ior, st_ishl, st_ishr, st_iushr, st_ladd, st_lmul, st_lshl, st_lushr, st_lcmp, st_i2l, st_l2i, st_i2b, st_i2c, st_i2d, st_i2f, st_dconst, st_fconst, st_ddiv, st_fdiv, st_dup, st_dup2, st_pop, st_goto, st_if_icmp, st_ifCond, st_tableswitch, st_lookupswitch, st_iaload, st_baload, st_laload, st_aaload, st_iastore, st_bastore, st_lastore, st_aastore, st_saload, st_faload, st_jsr, st_getstatic, st_frem, st_drem, st_monitorexit, st_monitorenter, st_invokeinterface, st_newarray, st_anewarray, st_multianewarray, asI_c, asJ_c, asR_c, asD_c, asF_c, popI_c, popJ_c, popR_c, popD_c, popF_c, pop1_c, okSt_0, okSt_S, rcv_0, rcv_1, rcv_2, rcv_3, rcv_4, rcv_5, rcv_8, pI_c, pJ_c, pR_c, pV_c, pD_c, pF_c, cmp_eq, cmp_ne, cmp_lt, cmp_ge, cmp_gt, cmp_le, nth_0, nth_S, set_0, set_S, cat_int, cat_ref, cat_long, cat_double, cat_float, cat_null, catS_0, catS_S, swT_0, swT_S, swL_0, swL_S, Nat.add_zero, Nat.reduceAdd, Nat.reduceSub, Nat.reduceLT, Nat.reduceLeDiff, true_and, and_true, eq_self, eX4_saveSnapshot_0, fX4_saveSnapshot_0, eX4_saveSnapshot_1, gf4_23, eX4_saveSnapshot_4, eX4_saveSnapshot_5, gf4_13, eX4_saveSnapshot_8, iv4_113, c_X2_copyFrom, eX4_saveSnapshot_11, eX4_saveSnapshot_12, cI_1, eX4_saveSnapshot_13, pf4_26, eX4_saveSnapshot_16, eX4_saveSnapshot_17, eX4_saveSnapshot_20, iv4_117, c_X2_sumOfTokens, eX4_saveSnapshot_23, d_X4_saveSnapshot, re_X4_saveSnapshot])
  simp (disch := omega) only [nI_mul, nI_add, nI_clamp, nI_inE, nI_leE, nI_ltE, nI_eqE, nI_eqz, nI_ltz, nI_gez, nI_lez, nI_gtz, nI_m1, nI_m1', nI_ltm, nI_gem, nI_gtm, nI_lem, nI_00, nI_01, nI_10, nI_11, bI_z, bI_1, bI_0, bI_b, bI_nz, bit_e, arK_i, arK_b, arK_j, true_and, and_true, ne_eq, not_false_eq_true, not_true_eq_false, false_and, and_false, true_or, or_true, false_or, or_false, Classical.not_not, forall_const, true_implies, implies_true, false_implies, eq_self, a0, p2, p0, n0, m0]
  refine ⟨Nat.succ_ne_zero _, Nat.succ_ne_zero _, CV_of (c_copyFrom hP.2.2.2.1 hP.2.1 (by omega)) (fun _ _ z => z.elim) fun h1 ⟨hN1, hF1⟩ => ?_⟩
  clear n0 m0
  have hP1 := PO_snap hP hF1 hN1
  (try clear a0; try clear p0; try clear p1; try clear p2; try clear p4; try clear p5; try clear p6; try clear p8; try clear p9)
  obtain ⟨a0, -, -, p2, -⟩ := hP1.1
  have m0 := hN1.1.1
  simp (disch := omega) only [nI_mul, nI_add, nI_clamp, nI_inE, nI_leE, nI_ltE, nI_eqE, nI_eqz, nI_ltz, nI_gez, nI_lez, nI_gtz, nI_m1, nI_m1', nI_ltm, nI_gem, nI_gtm, nI_lem, nI_00, nI_01, nI_10, nI_11, bI_z, bI_1, bI_0, bI_b, bI_nz, bit_e, arK_i, arK_b, arK_j, true_and, and_true, ne_eq, not_false_eq_true, not_true_eq_false, false_and, and_false, true_or, or_true, false_or, or_false, Classical.not_not, forall_const, true_implies, implies_true, false_implies, eq_self, sI_K, sI_L, sI_P, sI_J, sI_Z, sI_Ie, sR_K, sR_L, sR_P, sR_J, sR_Z, sR_Ie, sP_K, sP_L, sP_I, sP_J, sP_Z, sP_Pe, sJ_K, sJ_L, sJ_P, sJ_I, sJ_Z, sJ_Je, a0, p2, m0]
  have hN2 : NW (sI h1 i 3 (nI 1)) (i + 15) (aW s) := NW_ea hN1 fun a g1 g2 => EQ_sI (by omega)
  refine ⟨Nat.succ_ne_zero _, CI_pure (c_sumOfTokens hN2.1 hB) (ok_of rfl (PO_f hP1 (EQr_sI (by omega)) hP1.1 (sI_Ie.trans (bI_t trivial).symm) rfl rfl rfl rfl rfl rfl rfl rfl (Or.inr (sI_Ik (by decide))) ?_) (FZ_tr (FZ_rm hF1 (by omega) (by omega)) (FZ_rm (FRr_sI (Nat.le_refl i) (Nat.lt_succ_self i)) (by omega) (by omega))))⟩
  obtain ⟨r0, r1, r2, r3, r4⟩ := hP1.2.2.2.2.2.2.2.2.2
  exact ⟨r0, r1, (sI_Ik (by decide)).trans r2, r3, fun k hk => (sI_Ia (by omega)).trans (r4 k hk)⟩
theorem c_restoreSnapshot {h : MH} {i : Nat} {s : AS} (hP : PO h i s) (hG : aH s → ∃ np nt, NB (aS s) np nt) : OPC x sX4_restoreSnapshot [.ref i] h i [eNE] (qRes s) := by
  obtain ⟨a0, p0, -, p2, -⟩ := hP.1
  have ph := hP.2.2.2.2.1
  have n0 := hP.2.1.1.1
  have m0 := hP.2.2.2.1.1.1
  (refine CT_of (o := 4) rfl (by decide) (by simp [Value.category, sX4_restoreSnapshot]) (MW_ev kX4_restoreSnapshot 300 ?_); show evS _ _ _ _ _ _ 300 0 (1, 6) [.ref i] [] _; simp only [st_iconst, st_lconst, st_ldc2_w, st_ldc, st_iload, st_lload, st_aload, st_istore, st_astore, st_lstore, st_iinc, st_iadd, st_isub, st_imul, st_idiv, st_irem, st_iand, st_ior, st_ishl, st_ishr, st_iushr, st_ladd, st_lmul, st_lshl, st_lushr, st_lcmp, st_i2l, st_l2i, st_i2b, st_i2c, st_i2d, st_i2f, st_dconst, st_fconst, st_ddiv, st_fdiv, st_dup, st_dup2, st_pop, st_goto, st_if_icmp, st_ifCond, st_tableswitch, st_lookupswitch, st_iaload, st_baload, st_laload, st_aaload, st_iastore, st_bastore, st_lastore, st_aastore, st_saload, st_faload, st_jsr, st_getstatic, st_frem, st_drem, st_monitorexit, st_monitorenter, st_invokeinterface, st_newarray, st_anewarray, st_multianewarray, asI_c, asJ_c, asR_c, asD_c, asF_c, popI_c, popJ_c, popR_c, popD_c, popF_c, pop1_c, okSt_0, okSt_S, rcv_0, rcv_1, rcv_2, rcv_3, rcv_4, rcv_5, rcv_8, pI_c, pJ_c, pR_c, pV_c, pD_c, pF_c, cmp_eq, cmp_ne, cmp_lt, cmp_ge, cmp_gt, cmp_le, nth_0, nth_S, set_0, set_S, cat_int, cat_ref, cat_long, cat_double, cat_float, cat_null, catS_0, catS_S, swT_0, swT_S, swL_0, swL_S, Nat.add_zero, Nat.reduceAdd, Nat.reduceSub, Nat.reduceLT, Nat.reduceLeDiff, true_and, and_true, eq_self, eX4_restoreSnapshot_0, fX4_restoreSnapshot_0, eX4_restoreSnapshot_1, gf4_26, eX4_restoreSnapshot_4, tn_17, eX4_restoreSnapshot_7, eX4_restoreSnapshot_17, eX4_restoreSnapshot_18, gf4_13, eX4_restoreSnapshot_21, eX4_restoreSnapshot_22, gf4_23, eX4_restoreSnapshot_25, iv4_113, c_X2_copyFrom, eX4_restoreSnapshot_28, eX4_restoreSnapshot_29, cI_0, eX4_restoreSnapshot_30, pf4_51, eX4_restoreSnapshot_33, eX4_restoreSnapshot_34, gf4_33, eX4_restoreSnapshot_37, iv4_194, c_X1_forgetAll, eX4_restoreSnapshot_40, eX4_restoreSnapshot_41, eX4_restoreSnapshot_44, iv4_117, c_X2_sumOfTokens, eX4_restoreSnapshot_47, d_X4_restoreSnapshot, re_X4_restoreSnapshot])
  simp (disch := omega) only [nI_mul, nI_add, nI_clamp, nI_inE, nI_leE, nI_ltE, nI_eqE, nI_eqz, nI_ltz, nI_gez, nI_lez, nI_gtz, nI_m1, nI_m1', nI_ltm, nI_gem, nI_gtm, nI_lem, nI_00, nI_01, nI_10, nI_11, bI_z, bI_1, bI_0, bI_b, bI_nz, bit_e, arK_i, arK_b, arK_j, true_and, and_true, ne_eq, not_false_eq_true, not_true_eq_false, false_and, and_false, true_or, or_true, false_or, or_false, Classical.not_not, forall_const, true_implies, implies_true, false_implies, eq_self, a0, p2, p0, n0, m0, ph]
  refine ⟨fun g => ⟨Nat.succ_ne_zero _, Nat.succ_ne_zero _, CV_of (c_copyFrom hP.2.1 hP.2.2.2.1 (by omega)) (fun _ _ z => z.elim) fun h1 ⟨hN1, hF1⟩ => ?_⟩, fun g => fun z hz => th_of (k := 0) (iteC_f g) rfl (PO_sZ hP) (FZ_sZ hz)⟩
  clear a0 p2 p0 n0 m0
  obtain ⟨np', nt', hB'⟩ := hG g
  have ei : EQa h h1 i := EQ_fr hF1 (by omega)
  have pf1 := PF_ea hP.1 ei
  (try clear a0; try clear p0; try clear p1; try clear p2; try clear p4; try clear p5; try clear p6; try clear p8; try clear p9)
  obtain ⟨a0, p0, -, -, p4, -⟩ := id pf1
  have hH1 : HS (sI h1 i 7 (nI 0)) (i + 22) (aP s) (aC s) := HS_ea hP.2.2.2.2.2.1 fun a g1 g2 => EQ_tr (EQ_fr hF1 (by omega)) (EQ_sI (by omega))
  have b1 : mK h1 (i + 22) = 2 := by obtain ⟨nxt, b1, -⟩ := hH1; exact b1
  simp (disch := omega) only [nI_mul, nI_add, nI_clamp, nI_inE, nI_leE, nI_ltE, nI_eqE, nI_eqz, nI_ltz, nI_gez, nI_lez, nI_gtz, nI_m1, nI_m1', nI_ltm, nI_gem, nI_gtm, nI_lem, nI_00, nI_01, nI_10, nI_11, bI_z, bI_1, bI_0, bI_b, bI_nz, bit_e, arK_i, arK_b, arK_j, true_and, and_true, ne_eq, not_false_eq_true, not_true_eq_false, false_and, and_false, true_or, or_true, false_or, or_false, Classical.not_not, forall_const, true_implies, implies_true, false_implies, eq_self, sI_K, sI_L, sI_P, sI_J, sI_Z, sI_Ie, sR_K, sR_L, sR_P, sR_J, sR_Z, sR_Ie, sP_K, sP_L, sP_I, sP_J, sP_Z, sP_Pe, sJ_K, sJ_L, sJ_P, sJ_I, sJ_Z, sJ_Je, a0, p4, p0, b1]
  refine ⟨Nat.succ_ne_zero _, CV_of (c_forgetAll hH1) (fun _ _ z => z.elim) fun h2 ⟨hH2, hF2⟩ => ?_⟩
  clear a0 p4 p0 b1
  have e2 : ∀ a, a < i + 22 → EQa (sI h1 i 7 (nI 0)) h2 a := fun a ha => EQ_fr hF2 (by omega)
  have ei2 := e2 i (by omega)
  have pf2 : PF h2 i := PF_ea (h := sI h1 i 7 (nI 0)) pf1 ei2
  have hN2 : NW h2 (i + 1) (aS s) := NW_ea hN1 fun a g1 g2 => EQ_tr (EQ_sI (by omega)) (e2 a (by omega))
  have c0 := pf2.1
  have q0 := pf2.2.1
  have n0' := hN2.1.1
  simp (disch := omega) only [nI_mul, nI_add, nI_clamp, nI_inE, nI_leE, nI_ltE, nI_eqE, nI_eqz, nI_ltz, nI_gez, nI_lez, nI_gtz, nI_m1, nI_m1', nI_ltm, nI_gem, nI_gtm, nI_lem, nI_00, nI_01, nI_10, nI_11, bI_z, bI_1, bI_0, bI_b, bI_nz, bit_e, arK_i, arK_b, arK_j, true_and, and_true, ne_eq, not_false_eq_true, not_true_eq_false, false_and, and_false, true_or, or_true, false_or, or_false, Classical.not_not, forall_const, true_implies, implies_true, false_implies, eq_self, c0, q0, n0']
  clear c0 q0 n0'
  refine ⟨Nat.succ_ne_zero _, CI_pure (c_sumOfTokens hN2.1 hB') (ok_of (s := (aS s, aP s, 0, s.2.2.2)) ?_ (PO_hn hP ((ei2.2.2 7).1.trans sI_Ie) pf2 ((ei2.2.2 3).1.trans ((sI_Ik (by decide)).trans (ei.2.2 3).1)) ((ei2.2.2 10).1.trans ((sI_Ik (by decide)).trans (ei.2.2 10).1)) (fun a g1 g2 => EQ_tr (EQ_fr hF1 (by omega)) (EQ_tr (EQ_sI (by omega)) (e2 a (by omega)))) (fun a g1 g2 => EQ_tr (EQ_fr hF1 (by omega)) (EQ_tr (EQ_sI (by omega)) (EQ_fr hF2 (by omega)))) hN2 hH2) ?_)⟩
  · rw [qRes, iteC_t g, npW_e hB']
  · exact FZ_tr (FZ_rm hF1 (by omega) (by omega)) (FZ_tr (FZ_rm (FRr_sI (Nat.le_refl i) (Nat.lt_succ_self i)) (by omega) (by omega)) (FZ_rm hF2 (by omega) (by omega)))
end PET
