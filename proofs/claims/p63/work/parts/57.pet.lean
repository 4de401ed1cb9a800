section PET
variable {x : CX}
/-- net and history change, no exploration kept -/
theorem PO_hn {h h' : MH} {i c : Nat} {s : AS} {w : Nat → Int32} {P : Nat → Nat → Int32} (hP : PO h i s) (h7 : mI h' i 7 = nI 0) (hf : PF h' i) (h3 : mI h' i 3 = mI h i 3) (h10 : mI h' i 10 = mI h i 10) (hE1 : EQr h h' (i + 8) (i + 22)) (hE : EQr h h' (i + 94) (i + 119)) (hN : NW h' (i + 1) w) (hH : HS h' (i + 22) P c) : PO h' i (w, P, c, s.2.2.2) := by
  obtain ⟨pf, pn, pt, ps, ph, pH, pS, pX, pD, pR⟩ := hP
  exact ⟨hf, hN, NX_er pt hE1 (by omega) (by omega), NW_er ps hE1 (by omega) (by omega), h3.trans ph, hH, PS_ea pS (EQr_mono hE (by omega) (by omega)), ⟨XS_ea pX.1 (EQr_mono hE (by omega) (by omega)), NX_er pX.2.1 hE (by omega) (by omega), Or.inl h7⟩, PD_ea pD (hE _ (by omega) (by omega)), PR_ea pR h10 (hE _ (by omega) (by omega))⟩
theorem c_undo {h : MH} {i : Nat} {s : AS} (hP : PO h i s) : OPC x sX4_undo [.ref i] h i [] (qUndo s) := by
  obtain ⟨a0, p0, -, -, p4, -⟩ := hP.1
  have n0 := hP.2.1.1.1
  have hH := hP.2.2.2.2.2.1
  obtain ⟨b1, b5, b6⟩ : mK h (i + 22) = 2 ∧ mI h (i + 22) 2 = nI (aC s) ∧ aC s ≤ 10 := by
    obtain ⟨nxt, b1, b2, b3, b4, b5, b6, -⟩ := hH
    exact ⟨b1, b5, b6⟩
  (refine CT_of (o := 4) rfl (by decide +kernel) (by simp [Value.category, sX4_undo]) (MW_ev kX4_undo 300 ?_); show evS _ _ _ _ _ _ 300 0 (0, 0) [.ref i] [] _; simp only [st_iconst, st_lconst, st_ldc2_w, st_ldc, st_iload, st_lload, st_aload, st_istore, st_astore, st_lstore, st_iinc, st_iadd, st_isub, st_imul, st_idiv, st_irem, st_iand, st_ior, st_ishl, st_ishr, st_iushr, st_ladd, st_lmul, st_lshl, st_lushr, st_lcmp, st_i2l, st_l2i, st_i2b, st_i2c, st_i2d, st_i2f, st_dconst, st_fconst, st_ddiv, st_fdiv, st_dup, st_dup2, st_pop, st_goto, st_if_icmp, st_ifCond, st_tableswitch, st_lookupswitch, st_iaload, st_baload, st_laload, st_aaload, st_iastore, st_bastore, st_lastore, st_aastore, st_saload, st_faload, st_jsr, st_caload, st_d2i, st_d2f, st_ineg, st_ixor, st_dup_x1, st_aconst_null, st_ifnonnull, st_castore, st_getstatic, st_frem, st_drem, st_monitorexit, st_monitorenter, st_invokeinterface, st_newarray, st_anewarray, st_multianewarray, asI_c, asJ_c, asR_c, asD_c, asF_c, popI_c, popJ_c, popR_c, popD_c, popF_c, pop1_c, okSt_0, okSt_S, rcv_0, rcv_1, rcv_2, rcv_3, rcv_4, rcv_5, rcv_8, pI_c, pJ_c, pR_c, pV_c, pD_c, pF_c, cmp_eq, cmp_ne, cmp_lt, cmp_ge, cmp_gt, cmp_le, nth_0, nth_S, set_0, set_S, cat_int, cat_ref, cat_long, cat_double, cat_float, cat_null, catS_0, catS_S, swT_0, swT_S, swL_0, swL_S, Nat.add_zero, Nat.reduceAdd, Nat.reduceSub, Nat.reduceLT, Nat.reduceLeDiff, true_and, and_true, eq_self, eX4_undo_0, fX4_undo_0, eX4_undo_1, gf4_33, eX4_undo_4, gf4_185, eX4_undo_7, tn_12, eX4_undo_10, cI_m1, eX4_undo_11, eX4_undo_12, eX4_undo_13, eX4_undo_16, eX4_undo_17, gf4_13, eX4_undo_20, iv4_186, c_X1_popInto, eX4_undo_23, eX4_undo_24, cI_0, eX4_undo_25, pf4_51, eX4_undo_28, eX4_undo_29, eX4_undo_32, eX4_undo_35, d_X4_undo, re_X4_undo])
  by_cases g : aC s = 0
  · have hq : qUndo s = okA s (-1) := iteC_t g
    simp (disch := omega) only [nI_mul, nI_add, nI_clamp, nI_inE, nI_leE, nI_ltE, nI_eqE, nI_eqz, nI_ltz, nI_gez, nI_lez, nI_gtz, nI_m1, nI_m1', nI_ltm, nI_gem, nI_gtm, nI_lem, nI_00, nI_01, nI_10, nI_11, bI_z, bI_1, bI_0, bI_b, bI_nz, bit_e, arK_i, arK_b, arK_j, true_and, and_true, ne_eq, not_false_eq_true, not_true_eq_false, false_and, and_false, true_or, or_true, false_or, or_false, Classical.not_not, forall_const, true_implies, implies_true, false_implies, eq_self, a0, p4, p0, b1, b5, g]
    exact ⟨Nat.succ_ne_zero _, ok_of hq hP fz0⟩
  · have hq : qUndo s = _ := iteC_f g
    obtain ⟨c, hc⟩ : ∃ c, aC s = c + 1 := ⟨aC s - 1, by omega⟩
    rw [hc] at hH
    simp (disch := omega) only [nI_mul, nI_add, nI_clamp, nI_inE, nI_leE, nI_ltE, nI_eqE, nI_eqz, nI_ltz, nI_gez, nI_lez, nI_gtz, nI_m1, nI_m1', nI_ltm, nI_gem, nI_gtm, nI_lem, nI_00, nI_01, nI_10, nI_11, bI_z, bI_1, bI_0, bI_b, bI_nz, bit_e, arK_i, arK_b, arK_j, true_and, and_true, ne_eq, not_false_eq_true, not_true_eq_false, false_and, and_false, true_or, or_true, false_or, or_false, Classical.not_not, forall_const, true_implies, implies_true, false_implies, eq_self, a0, p4, p0, n0, b1, b5, g]
    refine ⟨Nat.succ_ne_zero _, Nat.succ_ne_zero _, Nat.succ_ne_zero _, CV_of (c_popInto hH hP.2.1 (by omega)) (fun _ _ z => z.elim) fun h1 ⟨hH1, hN1, hF1⟩ => ?_⟩
    clear a0 p4 p0 n0 b1
    have ei : EQa h h1 i := EQ_fs hF1 (by omega)
    have pf1 := PF_ea hP.1 ei
    have a0' := pf1.1
    have p4' : mP h1 i 4 = i + 22 := pf1.2.2.2.2.1
    obtain ⟨d1, d5⟩ : mK h1 (i + 22) = 2 ∧ mI h1 (i + 22) 2 = nI c := by
      obtain ⟨nxt, b1, b2, b3, b4, b5, b6, -⟩ := hH1
      exact ⟨b1, b5⟩
    simp (disch := omega) only [nI_mul, nI_add, nI_clamp, nI_inE, nI_leE, nI_ltE, nI_eqE, nI_eqz, nI_ltz, nI_gez, nI_lez, nI_gtz, nI_m1, nI_m1', nI_ltm, nI_gem, nI_gtm, nI_lem, nI_00, nI_01, nI_10, nI_11, bI_z, bI_1, bI_0, bI_b, bI_nz, bit_e, arK_i, arK_b, arK_j, true_and, and_true, ne_eq, not_false_eq_true, not_true_eq_false, false_and, and_false, true_or, or_true, false_or, or_false, Classical.not_not, forall_const, true_implies, implies_true, false_implies, eq_self, sI_K, sI_L, sI_P, sI_J, sI_Z, sI_Ie, sR_K, sR_L, sR_P, sR_J, sR_Z, sR_Ie, sP_K, sP_L, sP_I, sP_J, sP_Z, sP_Pe, sJ_K, sJ_L, sJ_P, sJ_I, sJ_Z, sJ_Je, a0', p4', d1, d5, sI_Ia]
    refine ⟨Nat.succ_ne_zero _, ok_of (s := (aP s 0, (fun m => aP s (m + 1)), c, s.2.2.2)) (by rw [hq, hc]; rfl) (PO_hn hP sI_Ie pf1 ((sI_Ik (by decide)).trans (ei.2.2 3).1) ((sI_Ik (by decide)).trans (ei.2.2 10).1) (fun a g1 g2 => EQ_tr (EQ_fs hF1 (by omega)) (EQ_sI (by omega))) (fun a g1 g2 => EQ_tr (EQ_fs hF1 (by omega)) (EQ_sI (by omega))) (NW_ea hN1 fun a g1 g2 => EQ_sI (by omega)) (HS_ea hH1 fun a g1 g2 => EQ_sI (by omega))) ⟨Nat.le_of_eq hF1.1.symm, fun a ha => EQ_tr (EQ_fs hF1 (by omega)) (EQ_sI (by omega))⟩⟩
end PET
