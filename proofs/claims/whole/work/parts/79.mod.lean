section MOD
variable {x : CX}
theorem XM_fh {h h' : MH} {j np : Nat} {E : EE} {w : Nat → Int32} (hX : XM h j E w np) (hF : FH h h' j) : XM h' j E w np := by
  have f : ∀ a k, ¬ (a = j ∧ k = 3) → ¬ (j + 3 ≤ a ∧ a < j + 13) → mI h' a k = mI h a k := hF.2.2.2.2.2
  refine ⟨(f _ _ (by omega) (by omega)).trans hX.1, (f _ _ (by omega) (by omega)).trans hX.2.1, fun n hn => ?_⟩
  obtain ⟨q1, q2, q3⟩ := hX.2.2 n hn
  exact ⟨fun p hp => (f _ _ (by omega) (by omega)).trans (q1 p hp), (f _ _ (by omega) (by omega)).trans q2, (f _ _ (by omega) (by omega)).trans q3⟩
theorem m_moveToMarking {h : MH} {j np nt : Nat} {s : AS} {v : Int32} (hO : MO h j s) (hT : TRg (aW s) np nt) (hB : NB (aW s) np nt) : OPM x sX5_moveToMarking [.ref j, .int v] h j (qMM s np nt v) := by
  have hJ := exp_J hT hB
  have hnp := hB.2.2.2.1
  have a0 := hO.1.1.1
  (refine CT_of (o := 5) rfl (by decide) (by simp [Value.category, sX5_moveToMarking]) (MW_ev kX5_moveToMarking 300 ?_); show evS _ _ _ _ _ _ 300 0 (0, 0) [.ref j, .int v] [] _; simp only [st_iconst, st_lconst, st_ldc2_w, st_ldc, st_iload, st_lload, st_aload, st_istore, st_astore, st_lstore, st_iinc, st_iadd, st_isub, st_imul, st_idiv, st_irem, st_iand, st_ior, st_ishl, st_ishr, st_iushr, st_ladd, st_lmul, st_lshl, st_lushr, st_lcmp, st_i2l, st_l2i, st_i2b, st_i2c, st_i2d, st_i2f, st_dconst, st_fconst, st_ddiv, st_fdiv, st_dup, st_dup2, st_pop, st_goto, st_if_icmp, st_ifCond, st_tableswitch, st_lookupswitch, st_iaload, st_baload, st_laload, st_aaload, st_iastore, st_bastore, st_lastore, st_aastore, st_saload, st_faload, st_jsr, st_getstatic, st_frem, st_drem, st_monitorexit, st_monitorenter, st_invokeinterface, st_newarray, st_anewarray, st_multianewarray, asI_c, asJ_c, asR_c, asD_c, asF_c, popI_c, popJ_c, popR_c, popD_c, popF_c, pop1_c, okSt_0, okSt_S, rcv_0, rcv_1, rcv_2, rcv_3, rcv_4, rcv_5, rcv_8, pI_c, pJ_c, pR_c, pV_c, pD_c, pF_c, cmp_eq, cmp_ne, cmp_lt, cmp_ge, cmp_gt, cmp_le, nth_0, nth_S, set_0, set_S, cat_int, cat_ref, cat_long, cat_double, cat_float, cat_null, catS_0, catS_S, swT_0, swT_S, swL_0, swL_S, Nat.add_zero, Nat.reduceAdd, Nat.reduceSub, Nat.reduceLT, Nat.reduceLeDiff, true_and, and_true, eq_self, eX5_moveToMarking_0, fX5_moveToMarking_0, eX5_moveToMarking_1, cI_0, eX5_moveToMarking_2, pf5_59, eX5_moveToMarking_5, eX5_moveToMarking_6, eX5_moveToMarking_7, cI_1, eX5_moveToMarking_8, iv5_155, c_X5_noMarking, eX5_moveToMarking_11, tn_16, eX5_moveToMarking_14, eX5_moveToMarking_15, eX5_moveToMarking_16, eX5_moveToMarking_17, eX5_moveToMarking_18, gf5_9, eX5_moveToMarking_21, iv5_134, c_X5_remember, eX5_moveToMarking_24, eX5_moveToMarking_25, eX5_moveToMarking_26, iv5_115, c_X5_take, eX5_moveToMarking_29, eX5_moveToMarking_30, gf5_37, eX5_moveToMarking_33, eX5_moveToMarking_34, eX5_moveToMarking_35, d_X5_moveToMarking, re_X5_moveToMarking])
  simp (disch := omega) only [nI_mul, nI_add, nI_clamp, nI_inE, nI_leE, nI_ltE, nI_eqE, nI_eqz, nI_ltz, nI_gez, nI_lez, nI_gtz, nI_m1, nI_m1', nI_ltm, nI_gem, nI_gtm, nI_lem, nI_00, nI_01, nI_10, nI_11, bI_z, bI_1, bI_0, bI_b, bI_nz, bit_e, arK_i, arK_b, arK_j, true_and, and_true, ne_eq, not_false_eq_true, not_true_eq_false, false_and, and_false, true_or, or_true, false_or, or_false, Classical.not_not, forall_const, true_implies, implies_true, false_implies, eq_self, sI_K, sI_L, sI_P, sI_J, sI_Z, sI_Ie, sR_K, sR_L, sR_P, sR_J, sR_Z, sR_Ie, sP_K, sP_L, sP_I, sP_J, sP_Z, sP_Pe, sJ_K, sJ_L, sJ_P, sJ_I, sJ_Z, sJ_Je, n1z, a0]
  refine call_noM hO hT hB (fun g h1 hN hX => ?_) fun g h1 hN hX => ?_
  · have a1 := hN.1.1
    simp (disch := omega) only [nI_mul, nI_add, nI_clamp, nI_inE, nI_leE, nI_ltE, nI_eqE, nI_eqz, nI_ltz, nI_gez, nI_lez, nI_gtz, nI_m1, nI_m1', nI_ltm, nI_gem, nI_gtm, nI_lem, nI_00, nI_01, nI_10, nI_11, bI_z, bI_1, bI_0, bI_b, bI_nz, bit_e, arK_i, arK_b, arK_j, true_and, and_true, ne_eq, not_false_eq_true, not_true_eq_false, false_and, and_false, true_or, or_true, false_or, or_false, Classical.not_not, forall_const, true_implies, implies_true, false_implies, eq_self, sI_K, sI_L, sI_P, sI_J, sI_Z, sI_Ie, sR_K, sR_L, sR_P, sR_J, sR_Z, sR_Ie, sP_K, sP_L, sP_I, sP_J, sP_Z, sP_Pe, sJ_K, sJ_L, sJ_P, sJ_I, sJ_Z, sJ_Je, n1z, a1]
    exact nox (k := 0) hO (iteC_f g) hN hX
  · have hq : qMM s np nt v = _ := iteC_t g
    obtain ⟨k, hk, rfl⟩ := g
    rw [cl_nI (by have := hJ.1.1; omega)] at hq
    have hk2 : k < 150 := by have := hJ.1.1; omega
    clear a0
    obtain ⟨a1, p1, -⟩ := MB_w hN.1
    simp (disch := omega) only [nI_mul, nI_add, nI_clamp, nI_inE, nI_leE, nI_ltE, nI_eqE, nI_eqz, nI_ltz, nI_gez, nI_lez, nI_gtz, nI_m1, nI_m1', nI_ltm, nI_gem, nI_gtm, nI_lem, nI_00, nI_01, nI_10, nI_11, bI_z, bI_1, bI_0, bI_b, bI_nz, bit_e, arK_i, arK_b, arK_j, true_and, and_true, ne_eq, not_false_eq_true, not_true_eq_false, false_and, and_false, true_or, or_true, false_or, or_false, Classical.not_not, forall_const, true_implies, implies_true, false_implies, eq_self, sI_K, sI_L, sI_P, sI_J, sI_Z, sI_Ie, sR_K, sR_L, sR_P, sR_J, sR_Z, sR_Ie, sP_K, sP_L, sP_I, sP_J, sP_Z, sP_Pe, sJ_K, sJ_L, sJ_P, sJ_I, sJ_Z, sJ_Je, n1z, a1, p1]
    have hO1 : MO h1 j s := MO_q hO hX.2.2.1 hN
    have hF1 : FM h h1 j := FM_q hX.2.2.1
    refine ⟨Nat.succ_ne_zero _, call_rem hO1 fun h2 hO2 f2 e2 => ?_⟩
    have hN2 : MN h2 j (aW s) := hO2.1
    have hX2 : XP h2 h2 j (aW s) np nt := ⟨MNx_of hN2 fun _ _ => rfl, XM_fh hX.2.1 f2, FI_rfl, e2.trans hX.2.2.2⟩
    refine ⟨hN2.1.1, call_take hX2 hT hB hk fun h3 u hG ek es eu hN3 hX3 => ?_⟩
    have hr := (hX3.2.1.2.2 k hk).2.1
    have eq : unW (aW s) (exK (expE (aW s) np nt) k) np = u := by rw [ek, GM_un hG hnp]
    rw [eq] at hq
    clear a1 p1 hX hX2 hN hN2
    obtain ⟨a1, b13, b14, k19, l19, k20, l20⟩ := FX_rd hN3.1
    simp (disch := omega) only [nI_mul, nI_add, nI_clamp, nI_inE, nI_leE, nI_ltE, nI_eqE, nI_eqz, nI_ltz, nI_gez, nI_lez, nI_gtz, nI_m1, nI_m1', nI_ltm, nI_gem, nI_gtm, nI_lem, nI_00, nI_01, nI_10, nI_11, bI_z, bI_1, bI_0, bI_b, bI_nz, bit_e, arK_i, arK_b, arK_j, true_and, and_true, ne_eq, not_false_eq_true, not_true_eq_false, false_and, and_false, true_or, or_true, false_or, or_false, Classical.not_not, forall_const, true_implies, implies_true, false_implies, eq_self, sI_K, sI_L, sI_P, sI_J, sI_Z, sI_Ie, sR_K, sR_L, sR_P, sR_J, sR_Z, sR_Ie, sP_K, sP_L, sP_I, sP_J, sP_Z, sP_Pe, sJ_K, sJ_L, sJ_P, sJ_I, sJ_Z, sJ_Je, n1z, a1, b13, k19, l19, hr]
    exact ⟨Nat.succ_ne_zero _, chq hq hO2 hF1 f2 hN3 hX3.2.2.1 hX3.2.2.2⟩
/-- with the first k arcs exchanged -/
def spK (w : Nat → Int32) (k : Nat) : Nat → Int32 := fun m => if 28 ≤ m ∧ m < 28 + k then w (m + 80) else if 108 ≤ m ∧ m < 108 + k then w (m - 80) else w m
theorem spK_0 {w : Nat → Int32} : spK w 0 = w := funext fun m => (if_neg (by omega)).trans (if_neg (by omega))
theorem spK_80 {w : Nat → Int32} : spK w 80 = swW w := rfl
theorem spK_a {w : Nat → Int32} {k : Nat} (hk : k < 80) : spK w k (28 + k) = w (28 + k) := (if_neg (by omega)).trans (if_neg (by omega))
theorem spK_b {w : Nat → Int32} {k : Nat} (hk : k < 80) : spK w k (108 + k) = w (108 + k) := (if_neg (by omega)).trans (if_neg (by omega))
theorem spK_S {w : Nat → Int32} {k : Nat} (hk : k < 80) : udW (udW (spK w k) (28 + k) (w (108 + k))) (108 + k) (w (28 + k)) = spK w (k + 1) := funext fun m => by
  by_cases e : m = 108 + k
  · subst e
    rw [udW_e]
    unfold spK
    rw [if_neg (by omega), if_pos (by omega)]
    exact congrArg w (by omega)
  · rw [udW_n e]
    by_cases e2 : m = 28 + k
    · subst e2
      rw [udW_e]
      unfold spK
      rw [if_pos (by omega)]
      exact congrArg w (by omega)
    · rw [udW_n e2]
      unfold spK
      by_cases g1 : 28 ≤ m ∧ m < 28 + k
      · rw [if_pos g1, if_pos (by omega)]
      · rw [if_neg g1, if_neg (c := 28 ≤ m ∧ m < 28 + (k + 1)) (by omega)]
        by_cases g2 : 108 ≤ m ∧ m < 108 + k
        · rw [if_pos g2, if_pos (by omega)]
        · rw [if_neg g2, if_neg (by omega)]
theorem m_reverseNet {h : MH} {j np nt : Nat} {s : AS} (hO : MO h j s) (hB : NB (aW s) np nt) : OPM x sX5_reverseNet [.ref j] h j (qRev s np nt) := by
  have hO1 : MO (sI h j 0 (nI 0)) j s := MO_th hO
  have z0 : mI (sI h j 0 (nI 0)) j 0 = nI 0 := sI_Ie
  have hF1 : FM h (sI h j 0 (nI 0)) j := FM_th
  obtain ⟨a0, p1, -⟩ := MB_w hO.1.1
  (refine CT_of (o := 5) rfl (by decide) (by simp [Value.category, sX5_reverseNet]) (MW_ev kX5_reverseNet 300 ?_); show evS _ _ _ _ _ _ 300 0 (0, 0) [.ref j, .null, .null] [] _; simp only [st_iconst, st_lconst, st_ldc2_w, st_ldc, st_iload, st_lload, st_aload, st_istore, st_astore, st_lstore, st_iinc, st_iadd, st_isub, st_imul, st_idiv, st_irem, st_iand, st_ior, st_ishl, st_ishr, st_iushr, st_ladd, st_lmul, st_lshl, st_lushr, st_lcmp, st_i2l, st_l2i, st_i2b, st_i2c, st_i2d, st_i2f, st_dconst, st_fconst, st_ddiv, st_fdiv, st_dup, st_dup2, st_pop, st_goto, st_if_icmp, st_ifCond, st_tableswitch, st_lookupswitch, st_iaload, st_baload, st_laload, st_aaload, st_iastore, st_bastore, st_lastore, st_aastore, st_saload, st_faload, st_jsr, st_getstatic, st_frem, st_drem, st_monitorexit, st_monitorenter, st_invokeinterface, st_newarray, st_anewarray, st_multianewarray, asI_c, asJ_c, asR_c, asD_c, asF_c, popI_c, popJ_c, popR_c, popD_c, popF_c, pop1_c, okSt_0, okSt_S, rcv_0, rcv_1, rcv_2, rcv_3, rcv_4, rcv_5, rcv_8, pI_c, pJ_c, pR_c, pV_c, pD_c, pF_c, cmp_eq, cmp_ne, cmp_lt, cmp_ge, cmp_gt, cmp_le, nth_0, nth_S, set_0, set_S, cat_int, cat_ref, cat_long, cat_double, cat_float, cat_null, catS_0, catS_S, swT_0, swT_S, swL_0, swL_S, Nat.add_zero, Nat.reduceAdd, Nat.reduceSub, Nat.reduceLT, Nat.reduceLeDiff, true_and, and_true, eq_self, eX5_reverseNet_0, fX5_reverseNet_0, eX5_reverseNet_1, cI_0, eX5_reverseNet_2, pf5_59, eX5_reverseNet_5, eX5_reverseNet_6, eX5_reverseNet_7, gf5_9, eX5_reverseNet_10, iv5_134, c_X5_remember, eX5_reverseNet_13, eX5_reverseNet_14, eX5_reverseNet_15, fX5_reverseNet_15, eX5_reverseNet_16, cI_80, eX5_reverseNet_18, tn_65, eX5_reverseNet_21, eX5_reverseNet_22, eX5_reverseNet_25, cI_28, eX5_reverseNet_27, eX5_reverseNet_28, eX5_reverseNet_29, eX5_reverseNet_30, eX5_reverseNet_31, eX5_reverseNet_32, eX5_reverseNet_35, eX5_reverseNet_37, eX5_reverseNet_38, eX5_reverseNet_39, eX5_reverseNet_40, eX5_reverseNet_43, cI_108, eX5_reverseNet_45, eX5_reverseNet_46, eX5_reverseNet_47, eX5_reverseNet_48, eX5_reverseNet_49, eX5_reverseNet_50, eX5_reverseNet_53, eX5_reverseNet_55, eX5_reverseNet_56, eX5_reverseNet_57, eX5_reverseNet_58, eX5_reverseNet_59, cI_1, eX5_reverseNet_62, tn_15, eX5_reverseNet_65, eX5_reverseNet_66, iv5_159, c_X5_enabledSet, eX5_reverseNet_69, iv5_162, c_X5_ones, eX5_reverseNet_72, d_X5_reverseNet, re_X5_reverseNet])
  simp (disch := omega) only [nI_mul, nI_add, nI_clamp, nI_inE, nI_leE, nI_ltE, nI_eqE, nI_eqz, nI_ltz, nI_gez, nI_lez, nI_gtz, nI_m1, nI_m1', nI_ltm, nI_gem, nI_gtm, nI_lem, nI_00, nI_01, nI_10, nI_11, bI_z, bI_1, bI_0, bI_b, bI_nz, bit_e, arK_i, arK_b, arK_j, true_and, and_true, ne_eq, not_false_eq_true, not_true_eq_false, false_and, and_false, true_or, or_true, false_or, or_false, Classical.not_not, forall_const, true_implies, implies_true, false_implies, eq_self, sI_K, sI_L, sI_P, sI_J, sI_Z, sI_Ie, sR_K, sR_L, sR_P, sR_J, sR_Z, sR_Ie, sP_K, sP_L, sP_I, sP_J, sP_Z, sP_Pe, sJ_K, sJ_L, sJ_P, sJ_I, sJ_Z, sJ_Je, n1z, a0, p1]
  refine ⟨Nat.succ_ne_zero _, call_rem hO1 fun h2 hO2 f2 e2 => ?_⟩
  clear a0 p1
  refine loop_up 80 (P := fun k => ∀ h', MN h' j (spK (aW s) k) → FI h2 h' (fun a _ => a = j + 1) → MW x sX5_reverseNet 5 (pI (oaM (qRev s np nt) h j)) xNo 15 (0, 0) [.ref j, .int (nI k), .null] [] h') (fun k hk ih h' hN' hF' => ?_) 0 (Nat.zero_le _) h2 (by rw [spK_0]; exact hO2.1) FI_rfl
  obtain ⟨b0, p1, k1, l1⟩ := MB_w hN'.1
  (refine MW_ev kX5_reverseNet 300 ?_; simp only [st_iconst, st_lconst, st_ldc2_w, st_ldc, st_iload, st_lload, st_aload, st_istore, st_astore, st_lstore, st_iinc, st_iadd, st_isub, st_imul, st_idiv, st_irem, st_iand, st_ior, st_ishl, st_ishr, st_iushr, st_ladd, st_lmul, st_lshl, st_lushr, st_lcmp, st_i2l, st_l2i, st_i2b, st_i2c, st_i2d, st_i2f, st_dconst, st_fconst, st_ddiv, st_fdiv, st_dup, st_dup2, st_pop, st_goto, st_if_icmp, st_ifCond, st_tableswitch, st_lookupswitch, st_iaload, st_baload, st_laload, st_aaload, st_iastore, st_bastore, st_lastore, st_aastore, st_saload, st_faload, st_jsr, st_getstatic, st_frem, st_drem, st_monitorexit, st_monitorenter, st_invokeinterface, st_newarray, st_anewarray, st_multianewarray, asI_c, asJ_c, asR_c, asD_c, asF_c, popI_c, popJ_c, popR_c, popD_c, popF_c, pop1_c, okSt_0, okSt_S, rcv_0, rcv_1, rcv_2, rcv_3, rcv_4, rcv_5, rcv_8, pI_c, pJ_c, pR_c, pV_c, pD_c, pF_c, cmp_eq, cmp_ne, cmp_lt, cmp_ge, cmp_gt, cmp_le, nth_0, nth_S, set_0, set_S, cat_int, cat_ref, cat_long, cat_double, cat_float, cat_null, catS_0, catS_S, swT_0, swT_S, swL_0, swL_S, Nat.add_zero, Nat.reduceAdd, Nat.reduceSub, Nat.reduceLT, Nat.reduceLeDiff, true_and, and_true, eq_self, eX5_reverseNet_0, fX5_reverseNet_0, eX5_reverseNet_1, cI_0, eX5_reverseNet_2, pf5_59, eX5_reverseNet_5, eX5_reverseNet_6, eX5_reverseNet_7, gf5_9, eX5_reverseNet_10, iv5_134, c_X5_remember, eX5_reverseNet_13, eX5_reverseNet_14, eX5_reverseNet_15, fX5_reverseNet_15, eX5_reverseNet_16, cI_80, eX5_reverseNet_18, tn_65, eX5_reverseNet_21, eX5_reverseNet_22, eX5_reverseNet_25, cI_28, eX5_reverseNet_27, eX5_reverseNet_28, eX5_reverseNet_29, eX5_reverseNet_30, eX5_reverseNet_31, eX5_reverseNet_32, eX5_reverseNet_35, eX5_reverseNet_37, eX5_reverseNet_38, eX5_reverseNet_39, eX5_reverseNet_40, eX5_reverseNet_43, cI_108, eX5_reverseNet_45, eX5_reverseNet_46, eX5_reverseNet_47, eX5_reverseNet_48, eX5_reverseNet_49, eX5_reverseNet_50, eX5_reverseNet_53, eX5_reverseNet_55, eX5_reverseNet_56, eX5_reverseNet_57, eX5_reverseNet_58, eX5_reverseNet_59, cI_1, eX5_reverseNet_62, tn_15, eX5_reverseNet_65, eX5_reverseNet_66, iv5_159, c_X5_enabledSet, eX5_reverseNet_69, iv5_162, c_X5_ones, eX5_reverseNet_72, d_X5_reverseNet, re_X5_reverseNet])
  rcases Nat.lt_or_ge k 80 with hl | hl
  · have r1 := MN_h hN' (m := 28 + k) (by omega) (by omega)
    have r2 := MN_h hN' (m := 108 + k) (by omega) (by omega)
    rw [spK_a hl] at r1
    rw [spK_b hl] at r2
    simp (disch := omega) only [nI_mul, nI_add, nI_clamp, nI_inE, nI_leE, nI_ltE, nI_eqE, nI_eqz, nI_ltz, nI_gez, nI_lez, nI_gtz, nI_m1, nI_m1', nI_ltm, nI_gem, nI_gtm, nI_lem, nI_00, nI_01, nI_10, nI_11, bI_z, bI_1, bI_0, bI_b, bI_nz, bit_e, arK_i, arK_b, arK_j, true_and, and_true, ne_eq, not_false_eq_true, not_true_eq_false, false_and, and_false, true_or, or_true, false_or, or_false, Classical.not_not, forall_const, true_implies, implies_true, false_implies, eq_self, sI_K, sI_L, sI_P, sI_J, sI_Z, sI_Ie, sR_K, sR_L, sR_P, sR_J, sR_Z, sR_Ie, sP_K, sP_L, sP_I, sP_J, sP_Z, sP_Pe, sJ_K, sJ_L, sJ_P, sJ_I, sJ_Z, sJ_Je, n1z, b0, p1, k1, l1, hl, Nat.not_le.mpr hl, r1, r2]
    refine ⟨Nat.succ_ne_zero _, Nat.succ_ne_zero _, Nat.succ_ne_zero _, Nat.succ_ne_zero _, MW_nul 2 (ih hl _ ?_ (FI_tr hF' (FI_tr (FI_sI rfl) (FI_sI rfl))))⟩
    rw [← spK_S hl]
    exact MN_s (MN_s hN' (by omega)) (by omega)
  · obtain rfl : k = 80 := by omega
    simp (disch := omega) only [nI_mul, nI_add, nI_clamp, nI_inE, nI_leE, nI_ltE, nI_eqE, nI_eqz, nI_ltz, nI_gez, nI_lez, nI_gtz, nI_m1, nI_m1', nI_ltm, nI_gem, nI_gtm, nI_lem, nI_00, nI_01, nI_10, nI_11, bI_z, bI_1, bI_0, bI_b, bI_nz, bit_e, arK_i, arK_b, arK_j, true_and, and_true, ne_eq, not_false_eq_true, not_true_eq_false, false_and, and_false, true_or, or_true, false_or, or_false, Classical.not_not, forall_const, true_implies, implies_true, false_implies, eq_self, b0, Nat.le_refl]
    rw [spK_80] at hN'
    refine CI_pure (m_enabledSet hN' (sw_B hB)) ?_
    obtain ⟨k, hk, ek, hb⟩ := es_nat (w := swW (aW s)) (np := np) nt hB.2.2.2.2.2
    have hp := pw_le hB.2.2.2.2.2
    have hW := FI_w hF' fun a k hk => hk
    rw [ek]
    exact CI_pure (m_ones (by omega)) (chq (by rw [qRev, ek]) hO2 hF1 f2 hN' hW.1 (hW.2.trans (e2.trans z0)))
def S3 (j : Nat) : Nat → Nat → Prop := fun a k => (a = j ∧ (k = 0 ∨ k = 3)) ∨ a = j + 1
theorem HR_3 {h h' : MH} {j c c' : Nat} {g : Nat → Nat} {P P' : Nat → Nat → Int32} (hH : HR h j g P c) (hF : FI h h' (S3 j)) (h3 : mI h' j 3 = nI c') (hc : c' ≤ c) (hA : ∀ m, m < c' → MA h (g (c' - 1 - m)) (P' m)) : HM h' j P' c' := by
  obtain ⟨q1, q2, q3, q4, q5, q6, q7⟩ := hH
  refine ⟨g, h3, by omega, (hF.2.1 _).trans q3, (hF.2.2.1 _).trans q4, fun k hk => ?_, q6, fun m hm => ?_⟩
  · obtain ⟨d1, d2, d3, d4, d5⟩ := q5 k hk
    exact ⟨((hF.2.2.2.1 _ k).1).trans d1, d2, d3, (hF.2.1 _).trans d4, (hF.2.2.1 _).trans d5⟩
  · have hd := q5 (c' - 1 - m) (by omega)
    exact MA_fi (hA m hm) hF fun k hk => by unfold S3 at hk; omega
theorem MO_3 {h h' : MH} {j c : Nat} {s : AS} {w : Nat → Int32} {P : Nat → Nat → Int32} (hO : MO h j s) (hF : FI h h' (S3 j)) (hN : MN h' j w) (hH : HM h' j P c) : MO h' j (w, P, c, s.2.2.2) :=
  ⟨hN, hH, ⟨(hF.2.2.2.2 j 5 (by unfold S3; omega)).trans hO.2.2.1.1, fun z => MA_fi (hO.2.2.1.2 z) hF fun k hk => by unfold S3 at hk; omega⟩, MT_fi (s := s) hO.2.2.2 hF fun a k hk => by unfold S3 at hk; omega⟩
theorem FM_3 {h h' : MH} {j : Nat} (hF : FI h h' (S3 j)) : FM h h' j := FM_fi hF fun a k hk => by unfold S3 at hk; omega
theorem m_undo {h : MH} {j : Nat} {s : AS} (hO : MO h j s) : OPM x sX5_undo [.ref j] h j (qUndo s) := by
  have hO1 : MO (sI h j 0 (nI 0)) j s := MO_th hO
  have z0 : mI (sI h j 0 (nI 0)) j 0 = nI 0 := sI_Ie
  have hF1 : FM h (sI h j 0 (nI 0)) j := FM_th
  have hM := hO.1.1
  obtain ⟨a0, p1, k1, l1⟩ := MB_w hO.1.1
  have p2 : mP h j 2 = j + 2 := hO.1.1.2.1.2.1
  obtain ⟨g, hH⟩ := hO.2.1
  have hH2 := hH
  obtain ⟨q1, q2, q3, q4, q5, q6, q7⟩ := hH2
  (refine CT_of (o := 5) rfl (by decide) (by simp [Value.category, sX5_undo]) (MW_ev kX5_undo 300 ?_); show evS _ _ _ _ _ _ 300 0 (0, 0) [.ref j] [] _; simp only [st_iconst, st_lconst, st_ldc2_w, st_ldc, st_iload, st_lload, st_aload, st_istore, st_astore, st_lstore, st_iinc, st_iadd, st_isub, st_imul, st_idiv, st_irem, st_iand, st_ior, st_ishl, st_ishr, st_iushr, st_ladd, st_lmul, st_lshl, st_lushr, st_lcmp, st_i2l, st_l2i, st_i2b, st_i2c, st_i2d, st_i2f, st_dconst, st_fconst, st_ddiv, st_fdiv, st_dup, st_dup2, st_pop, st_goto, st_if_icmp, st_ifCond, st_tableswitch, st_lookupswitch, st_iaload, st_baload, st_laload, st_aaload, st_iastore, st_bastore, st_lastore, st_aastore, st_saload, st_faload, st_jsr, st_getstatic, st_frem, st_drem, st_monitorexit, st_monitorenter, st_invokeinterface, st_newarray, st_anewarray, st_multianewarray, asI_c, asJ_c, asR_c, asD_c, asF_c, popI_c, popJ_c, popR_c, popD_c, popF_c, pop1_c, okSt_0, okSt_S, rcv_0, rcv_1, rcv_2, rcv_3, rcv_4, rcv_5, rcv_8, pI_c, pJ_c, pR_c, pV_c, pD_c, pF_c, cmp_eq, cmp_ne, cmp_lt, cmp_ge, cmp_gt, cmp_le, nth_0, nth_S, set_0, set_S, cat_int, cat_ref, cat_long, cat_double, cat_float, cat_null, catS_0, catS_S, swT_0, swT_S, swL_0, swL_S, Nat.add_zero, Nat.reduceAdd, Nat.reduceSub, Nat.reduceLT, Nat.reduceLeDiff, true_and, and_true, eq_self, eX5_undo_0, fX5_undo_0, eX5_undo_1, cI_0, eX5_undo_2, pf5_59, eX5_undo_5, eX5_undo_6, gf5_62, eX5_undo_9, tn_14, eX5_undo_12, cI_m1, eX5_undo_13, eX5_undo_14, eX5_undo_15, eX5_undo_16, eX5_undo_19, cI_1, eX5_undo_20, eX5_undo_21, pf5_62, eX5_undo_24, eX5_undo_25, gf5_15, eX5_undo_28, eX5_undo_29, eX5_undo_32, eX5_undo_33, eX5_undo_34, gf5_9, eX5_undo_37, iv5_65, c_X5_copy, eX5_undo_40, eX5_undo_41, eX5_undo_44, d_X5_undo, re_X5_undo])
  simp (disch := omega) only [nI_mul, nI_add, nI_clamp, nI_inE, nI_leE, nI_ltE, nI_eqE, nI_eqz, nI_ltz, nI_gez, nI_lez, nI_gtz, nI_m1, nI_m1', nI_ltm, nI_gem, nI_gtm, nI_lem, nI_00, nI_01, nI_10, nI_11, bI_z, bI_1, bI_0, bI_b, bI_nz, bit_e, arK_i, arK_b, arK_j, true_and, and_true, ne_eq, not_false_eq_true, not_true_eq_false, false_and, and_false, true_or, or_true, false_or, or_false, Classical.not_not, forall_const, true_implies, implies_true, false_implies, eq_self, sI_K, sI_L, sI_P, sI_J, sI_Z, sI_Ie, sR_K, sR_L, sR_P, sR_J, sR_Z, sR_Ie, sP_K, sP_L, sP_I, sP_J, sP_Z, sP_Pe, sJ_K, sJ_L, sJ_P, sJ_I, sJ_Z, sJ_Je, n1z, a0, p1, p2, q1, q3, q4, sI_Ik]
  refine And.symm ⟨fun g0 => ok0 hO (iteC_t g0), fun g0 => ?_⟩
  have hq : qUndo s = _ := iteC_f g0
  have q5 := q5 (aC s - 1) (by omega)
  have hA := q7 0 (by omega)
  rw [nI_sub (by omega)]
  rw [Nat.sub_zero] at hA
  have gz : ¬ g (aC s - 1) = 0 := by omega
  simp (disch := omega) only [nI_mul, nI_add, nI_clamp, nI_inE, nI_leE, nI_ltE, nI_eqE, nI_eqz, nI_ltz, nI_gez, nI_lez, nI_gtz, nI_m1, nI_m1', nI_ltm, nI_gem, nI_gtm, nI_lem, nI_00, nI_01, nI_10, nI_11, bI_z, bI_1, bI_0, bI_b, bI_nz, bit_e, arK_i, arK_b, arK_j, true_and, and_true, ne_eq, not_false_eq_true, not_true_eq_false, false_and, and_false, true_or, or_true, false_or, or_false, Classical.not_not, forall_const, true_implies, implies_true, false_implies, eq_self, sI_K, sI_L, sI_P, sI_J, sI_Z, sI_Ie, sR_K, sR_L, sR_P, sR_J, sR_Z, sR_Ie, sP_K, sP_L, sP_I, sP_J, sP_Z, sP_Pe, sJ_K, sJ_L, sJ_P, sJ_I, sJ_Z, sJ_Je, q5.1, gz]
  refine ⟨Nat.succ_ne_zero _, Nat.succ_ne_zero _, call_cpy q5.2.2.2 ⟨k1, l1⟩ (by omega) fun h2 hc hF => ?_⟩
  have hF1 : FI h (sI (sI h j 0 (nI 0)) j 3 (nI (aC s - 1))) (S3 j) := FI_tr (FI_sI (Or.inl ⟨rfl, Or.inl rfl⟩)) (FI_sI (Or.inl ⟨rfl, Or.inr rfl⟩))
  have hF2 : FI h h2 (S3 j) := FI_tr hF1 (FI_mono hF fun a k hk => Or.inr hk)
  have i3 : mI h2 j 3 = nI (aC s - 1) := (hF.2.2.2.2 j 3 (by omega)).trans sI_Ie
  have i0 : mI h2 j 0 = nI 0 := (hF.2.2.2.2 j 0 (by omega)).trans ((sI_Ik (by decide)).trans sI_Ie)
  refine ⟨(hF2.2.1 j).trans a0, oaM_q (by rw [hq, i3]) i0 (MO_3 hO hF2 ⟨MB_fi hM hF2, MA_cpy (MA_fi hA hF1 fun k hk => by unfold S3 at hk; omega) hc⟩ (HR_3 hH hF2 i3 (by omega) fun m hm => ?_)) (FM_3 hF2)⟩
  have := q7 (m + 1) (by omega)
  rwa [show aC s - 1 - (m + 1) = aC s - 1 - 1 - m by omega] at this
theorem m_saveSnapshot {h : MH} {j np nt : Nat} {s : AS} (hO : MO h j s) (hB : NB (aW s) np nt) : OPM x sX5_saveSnapshot [.ref j] h j (qSav s np) := by
  have hO1 : MO (sI h j 0 (nI 0)) j s := MO_th hO
  obtain ⟨a0, p1, k1, l1⟩ := MB_w hO.1.1
  have p4 : mP h j 4 = j + 13 := hO.1.1.2.1.2.2.1
  have k13 := hO.1.1.2.2.1.2.2.1
  have l13 := hO.1.1.2.2.1.2.2.2.1
  (refine CT_of (o := 5) rfl (by decide) (by simp [Value.category, sX5_saveSnapshot]) (MW_ev kX5_saveSnapshot 300 ?_); show evS _ _ _ _ _ _ 300 0 (0, 0) [.ref j] [] _; simp only [st_iconst, st_lconst, st_ldc2_w, st_ldc, st_iload, st_lload, st_aload, st_istore, st_astore, st_lstore, st_iinc, st_iadd, st_isub, st_imul, st_idiv, st_irem, st_iand, st_ior, st_ishl, st_ishr, st_iushr, st_ladd, st_lmul, st_lshl, st_lushr, st_lcmp, st_i2l, st_l2i, st_i2b, st_i2c, st_i2d, st_i2f, st_dconst, st_fconst, st_ddiv, st_fdiv, st_dup, st_dup2, st_pop, st_goto, st_if_icmp, st_ifCond, st_tableswitch, st_lookupswitch, st_iaload, st_baload, st_laload, st_aaload, st_iastore, st_bastore, st_lastore, st_aastore, st_saload, st_faload, st_jsr, st_getstatic, st_frem, st_drem, st_monitorexit, st_monitorenter, st_invokeinterface, st_newarray, st_anewarray, st_multianewarray, asI_c, asJ_c, asR_c, asD_c, asF_c, popI_c, popJ_c, popR_c, popD_c, popF_c, pop1_c, okSt_0, okSt_S, rcv_0, rcv_1, rcv_2, rcv_3, rcv_4, rcv_5, rcv_8, pI_c, pJ_c, pR_c, pV_c, pD_c, pF_c, cmp_eq, cmp_ne, cmp_lt, cmp_ge, cmp_gt, cmp_le, nth_0, nth_S, set_0, set_S, cat_int, cat_ref, cat_long, cat_double, cat_float, cat_null, catS_0, catS_S, swT_0, swT_S, swL_0, swL_S, Nat.add_zero, Nat.reduceAdd, Nat.reduceSub, Nat.reduceLT, Nat.reduceLeDiff, true_and, and_true, eq_self, eX5_saveSnapshot_0, fX5_saveSnapshot_0, eX5_saveSnapshot_1, cI_0, eX5_saveSnapshot_2, pf5_59, eX5_saveSnapshot_5, eX5_saveSnapshot_6, gf5_9, eX5_saveSnapshot_9, eX5_saveSnapshot_10, gf5_18, eX5_saveSnapshot_13, iv5_65, c_X5_copy, eX5_saveSnapshot_16, eX5_saveSnapshot_17, cI_1, eX5_saveSnapshot_18, pf5_165, eX5_saveSnapshot_21, eX5_saveSnapshot_22, iv5_168, c_X5_allTokens, eX5_saveSnapshot_25, d_X5_saveSnapshot, re_X5_saveSnapshot])
  simp (disch := omega) only [nI_mul, nI_add, nI_clamp, nI_inE, nI_leE, nI_ltE, nI_eqE, nI_eqz, nI_ltz, nI_gez, nI_lez, nI_gtz, nI_m1, nI_m1', nI_ltm, nI_gem, nI_gtm, nI_lem, nI_00, nI_01, nI_10, nI_11, bI_z, bI_1, bI_0, bI_b, bI_nz, bit_e, arK_i, arK_b, arK_j, true_and, and_true, ne_eq, not_false_eq_true, not_true_eq_false, false_and, and_false, true_or, or_true, false_or, or_false, Classical.not_not, forall_const, true_implies, implies_true, false_implies, eq_self, sI_K, sI_L, sI_P, sI_J, sI_Z, sI_Ie, sR_K, sR_L, sR_P, sR_J, sR_Z, sR_Ie, sP_K, sP_L, sP_I, sP_J, sP_Z, sP_Pe, sJ_K, sJ_L, sJ_P, sJ_I, sJ_Z, sJ_Je, n1z, a0, p1, p4, sI_Ik]
  refine ⟨Nat.succ_ne_zero _, Nat.succ_ne_zero _, call_cpy ⟨k1, l1⟩ ⟨k13, l13⟩ (by omega) fun h2 hc hF => ?_⟩
  have hF2 : FI h (sI h2 j 5 (nI 1)) fun a k => (a = j ∧ (k = 0 ∨ k = 5)) ∨ a = j + 13 := FI_tr (FI_sI (Or.inl ⟨rfl, Or.inl rfl⟩)) (FI_tr (FI_mono hF fun a k hk => Or.inr hk) (FI_sI (Or.inl ⟨rfl, Or.inr rfl⟩)))
  have i0 : mI (sI h2 j 5 (nI 1)) j 0 = nI 0 := (sI_Ik (by decide)).trans ((hF.2.2.2.2 j 0 (by omega)).trans sI_Ie)
  have hN : MN (sI h2 j 5 (nI 1)) j (aW s) := MN_fi hO.1 hF2 fun k hk => by omega
  have b0 : mK h2 j = 6 := hN.1.1
  refine ⟨b0, b0, CI_pure (m_allTokens hN hB) (oaM_q (s := (aW s, aP s, aC s, aW s, True, s.2.2.2.2.2)) rfl i0 ⟨hN, HM_fi hO.2.1 hF2 (fun a k hk => by omega), ⟨by rw [sI_Ie]; exact (bI_t trivial).symm, fun _ m hm => ?_⟩, MT_fi (s := s) hO.2.2.2 hF2 fun a k hk => by omega⟩ (FM_fi hF2 fun a k hk => by omega))⟩
  rw [sI_Ia (by omega)]
  exact (hc m hm.1).trans ((sI_Ia (by omega)).trans (hO.1.2 m hm))
theorem m_restoreSnapshot {h : MH} {j : Nat} {s : AS} (hO : MO h j s) (hG : aH s → ∃ np nt, NB (aS s) np nt) : OPM x sX5_restoreSnapshot [.ref j] h j (qRes s) := by
  have hO1 : MO (sI h j 0 (nI 0)) j s := MO_th hO
  obtain ⟨a0, p1, k1, l1⟩ := MB_w hO.1.1
  have p4 : mP h j 4 = j + 13 := hO.1.1.2.1.2.2.1
  have k13 := hO.1.1.2.2.1.2.2.1
  have l13 := hO.1.1.2.2.1.2.2.2.1
  have i5 := hO.2.2.1.1
  (refine CT_of (o := 5) rfl (by decide) (by simp [Value.category, sX5_restoreSnapshot]) (MW_ev kX5_restoreSnapshot 300 ?_); show evS _ _ _ _ _ _ 300 0 (0, 0) [.ref j] [] _; simp only [st_iconst, st_lconst, st_ldc2_w, st_ldc, st_iload, st_lload, st_aload, st_istore, st_astore, st_lstore, st_iinc, st_iadd, st_isub, st_imul, st_idiv, st_irem, st_iand, st_ior, st_ishl, st_ishr, st_iushr, st_ladd, st_lmul, st_lshl, st_lushr, st_lcmp, st_i2l, st_l2i, st_i2b, st_i2c, st_i2d, st_i2f, st_dconst, st_fconst, st_ddiv, st_fdiv, st_dup, st_dup2, st_pop, st_goto, st_if_icmp, st_ifCond, st_tableswitch, st_lookupswitch, st_iaload, st_baload, st_laload, st_aaload, st_iastore, st_bastore, st_lastore, st_aastore, st_saload, st_faload, st_jsr, st_getstatic, st_frem, st_drem, st_monitorexit, st_monitorenter, st_invokeinterface, st_newarray, st_anewarray, st_multianewarray, asI_c, asJ_c, asR_c, asD_c, asF_c, popI_c, popJ_c, popR_c, popD_c, popF_c, pop1_c, okSt_0, okSt_S, rcv_0, rcv_1, rcv_2, rcv_3, rcv_4, rcv_5, rcv_8, pI_c, pJ_c, pR_c, pV_c, pD_c, pF_c, cmp_eq, cmp_ne, cmp_lt, cmp_ge, cmp_gt, cmp_le, nth_0, nth_S, set_0, set_S, cat_int, cat_ref, cat_long, cat_double, cat_float, cat_null, catS_0, catS_S, swT_0, swT_S, swL_0, swL_S, Nat.add_zero, Nat.reduceAdd, Nat.reduceSub, Nat.reduceLT, Nat.reduceLeDiff, true_and, and_true, eq_self, eX5_restoreSnapshot_0, fX5_restoreSnapshot_0, eX5_restoreSnapshot_1, cI_0, eX5_restoreSnapshot_2, pf5_59, eX5_restoreSnapshot_5, eX5_restoreSnapshot_6, eX5_restoreSnapshot_7, gf5_165, eX5_restoreSnapshot_10, tn_17, eX5_restoreSnapshot_13, cI_1, eX5_restoreSnapshot_14, tn_18, eX5_restoreSnapshot_17, eX5_restoreSnapshot_18, eX5_restoreSnapshot_19, iv5_138, c_X5_raise, eX5_restoreSnapshot_22, tn_27, eX5_restoreSnapshot_25, eX5_restoreSnapshot_26, eX5_restoreSnapshot_27, eX5_restoreSnapshot_28, gf5_18, eX5_restoreSnapshot_31, eX5_restoreSnapshot_32, gf5_9, eX5_restoreSnapshot_35, iv5_65, c_X5_copy, eX5_restoreSnapshot_38, eX5_restoreSnapshot_39, eX5_restoreSnapshot_40, pf5_62, eX5_restoreSnapshot_43, eX5_restoreSnapshot_44, iv5_168, c_X5_allTokens, eX5_restoreSnapshot_47, d_X5_restoreSnapshot, re_X5_restoreSnapshot])
  simp (disch := omega) only [nI_mul, nI_add, nI_clamp, nI_inE, nI_leE, nI_ltE, nI_eqE, nI_eqz, nI_ltz, nI_gez, nI_lez, nI_gtz, nI_m1, nI_m1', nI_ltm, nI_gem, nI_gtm, nI_lem, nI_00, nI_01, nI_10, nI_11, bI_z, bI_1, bI_0, bI_b, bI_nz, bit_e, arK_i, arK_b, arK_j, true_and, and_true, ne_eq, not_false_eq_true, not_true_eq_false, false_and, and_false, true_or, or_true, false_or, or_false, Classical.not_not, forall_const, true_implies, implies_true, false_implies, eq_self, sI_K, sI_L, sI_P, sI_J, sI_Z, sI_Ie, sR_K, sR_L, sR_P, sR_J, sR_Z, sR_Ie, sP_K, sP_L, sP_I, sP_J, sP_Z, sP_Pe, sJ_K, sJ_L, sJ_P, sJ_I, sJ_Z, sJ_Je, n1z, a0, p1, p4, i5, sI_Ik]
  refine ⟨fun g => call_ra0 hO1.1.1 ?_, fun g => call_ra1 hO1.1.1 ?_⟩
  · have hq : qRes s = _ := iteC_t g
    obtain ⟨np, nt, hB⟩ := hG g
    simp (disch := omega) only [nI_mul, nI_add, nI_clamp, nI_inE, nI_leE, nI_ltE, nI_eqE, nI_eqz, nI_ltz, nI_gez, nI_lez, nI_gtz, nI_m1, nI_m1', nI_ltm, nI_gem, nI_gtm, nI_lem, nI_00, nI_01, nI_10, nI_11, bI_z, bI_1, bI_0, bI_b, bI_nz, bit_e, arK_i, arK_b, arK_j, true_and, and_true, ne_eq, not_false_eq_true, not_true_eq_false, false_and, and_false, true_or, or_true, false_or, or_false, Classical.not_not, forall_const, true_implies, implies_true, false_implies, eq_self, sI_K, sI_L, sI_P, sI_J, sI_Z, sI_Ie, sR_K, sR_L, sR_P, sR_J, sR_Z, sR_Ie, sP_K, sP_L, sP_I, sP_J, sP_Z, sP_Pe, sJ_K, sJ_L, sJ_P, sJ_I, sJ_Z, sJ_Je, n1z, a0, p1, p4]
    refine ⟨Nat.succ_ne_zero _, Nat.succ_ne_zero _, call_cpy ⟨k13, l13⟩ ⟨k1, l1⟩ (by omega) fun h2 hc hF => ?_⟩
    have hF2 : FI h (sI h2 j 3 (nI 0)) (S3 j) := FI_tr (FI_sI (Or.inl ⟨rfl, Or.inl rfl⟩)) (FI_tr (FI_mono hF fun a k hk => Or.inr hk) (FI_sI (Or.inl ⟨rfl, Or.inr rfl⟩)))
    have i0 : mI (sI h2 j 3 (nI 0)) j 0 = nI 0 := (sI_Ik (by decide)).trans ((hF.2.2.2.2 j 0 (by omega)).trans sI_Ie)
    have hN : MN (sI h2 j 3 (nI 0)) j (aS s) := ⟨MB_fi hO.1.1 hF2, fun m hm => (sI_Ia (by omega)).trans ((hc m hm.1).trans ((sI_Ia (by omega)).trans (hO.2.2.1.2 g m hm)))⟩
    have b0 : mK h2 j = 6 := hN.1.1
    obtain ⟨gg, hH⟩ := hO.2.1
    rw [npW_e hB] at hq
    exact ⟨b0, b0, CI_pure (m_allTokens hN hB) (oaM_q hq i0 (MO_3 hO hF2 hN (HR_3 hH hF2 sI_Ie (Nat.zero_le _) fun m hm => absurd hm (Nat.not_lt_zero _))) (FM_3 hF2))⟩
  · simp (disch := omega) only [nI_mul, nI_add, nI_clamp, nI_inE, nI_leE, nI_ltE, nI_eqE, nI_eqz, nI_ltz, nI_gez, nI_lez, nI_gtz, nI_m1, nI_m1', nI_ltm, nI_gem, nI_gtm, nI_lem, nI_00, nI_01, nI_10, nI_11, bI_z, bI_1, bI_0, bI_b, bI_nz, bit_e, arK_i, arK_b, arK_j, true_and, and_true, ne_eq, not_false_eq_true, not_true_eq_false, false_and, and_false, true_or, or_true, false_or, or_false, Classical.not_not, forall_const, true_implies, implies_true, false_implies, eq_self, sI_K, sI_L, sI_P, sI_J, sI_Z, sI_Ie, sR_K, sR_L, sR_P, sR_J, sR_Z, sR_Ie, sP_K, sP_L, sP_I, sP_J, sP_Z, sP_Pe, sJ_K, sJ_L, sJ_P, sJ_I, sJ_Z, sJ_Je, n1z, a0]
    exact no1 (k := 0) hO (iteC_f g)
end MOD
