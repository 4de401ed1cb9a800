section PET
variable {x : CX}
theorem c_bitCount {h : MH} {k : Nat} (hk : k < 1024) : CT x sJ6_bitCount_0f7a4 [.int (nI k)] h (pI fun r h' => r = pcN (nI k) ∧ h' = h) xNo := by
  (refine CT_of (o := 7) rfl (by decide +kernel) (by simp [Value.category, sJ6_bitCount_0f7a4]) (MW_ev kJ6_bitCount_0f7a4 300 ?_); show evS _ _ _ _ _ _ 300 0 (0, 0) [.int (nI k)] [] _; simp only [st_iconst, st_lconst, st_ldc2_w, st_ldc, st_iload, st_lload, st_aload, st_istore, st_astore, st_lstore, st_iinc, st_iadd, st_isub, st_imul, st_idiv, st_irem, st_iand, st_ior, st_ishl, st_ishr, st_iushr, st_ladd, st_lmul, st_lshl, st_lushr, st_lcmp, st_i2l, st_l2i, st_i2b, st_i2c, st_i2d, st_i2f, st_dconst, st_fconst, st_ddiv, st_fdiv, st_dup, st_dup2, st_pop, st_goto, st_if_icmp, st_ifCond, st_tableswitch, st_lookupswitch, st_iaload, st_baload, st_laload, st_aaload, st_iastore, st_bastore, st_lastore, st_aastore, st_saload, st_faload, st_jsr, st_caload, st_d2i, st_d2f, st_ineg, st_ixor, st_dup_x1, st_aconst_null, st_ifnonnull, st_castore, st_getstatic, st_frem, st_drem, st_monitorexit, st_monitorenter, st_invokeinterface, st_newarray, st_anewarray, st_multianewarray, asI_c, asJ_c, asR_c, asD_c, asF_c, popI_c, popJ_c, popR_c, popD_c, popF_c, pop1_c, okSt_0, okSt_S, rcv_0, rcv_1, rcv_2, rcv_3, rcv_4, rcv_5, rcv_8, pI_c, pJ_c, pR_c, pV_c, pD_c, pF_c, cmp_eq, cmp_ne, cmp_lt, cmp_ge, cmp_gt, cmp_le, nth_0, nth_S, set_0, set_S, cat_int, cat_ref, cat_long, cat_double, cat_float, cat_null, catS_0, catS_S, swT_0, swT_S, swL_0, swL_S, Nat.add_zero, Nat.reduceAdd, Nat.reduceSub, Nat.reduceLT, Nat.reduceLeDiff, true_and, and_true, eq_self, eJ6_bitCount_0f7a4_0, fJ6_bitCount_0f7a4_0, eJ6_bitCount_0f7a4_1, eJ6_bitCount_0f7a4_2, cI_1, eJ6_bitCount_0f7a4_3, eJ6_bitCount_0f7a4_4, cI_1431655765, eJ6_bitCount_0f7a4_7, eJ6_bitCount_0f7a4_8, eJ6_bitCount_0f7a4_9, eJ6_bitCount_0f7a4_10, eJ6_bitCount_0f7a4_11, cI_858993459, eJ6_bitCount_0f7a4_14, eJ6_bitCount_0f7a4_15, eJ6_bitCount_0f7a4_16, cI_2, eJ6_bitCount_0f7a4_17, eJ6_bitCount_0f7a4_18, eJ6_bitCount_0f7a4_21, eJ6_bitCount_0f7a4_22, eJ6_bitCount_0f7a4_23, eJ6_bitCount_0f7a4_24, eJ6_bitCount_0f7a4_25, eJ6_bitCount_0f7a4_26, cI_4, eJ6_bitCount_0f7a4_27, eJ6_bitCount_0f7a4_28, eJ6_bitCount_0f7a4_29, cI_252645135, eJ6_bitCount_0f7a4_32, eJ6_bitCount_0f7a4_33, eJ6_bitCount_0f7a4_34, eJ6_bitCount_0f7a4_35, eJ6_bitCount_0f7a4_36, cI_8, eJ6_bitCount_0f7a4_38, eJ6_bitCount_0f7a4_39, eJ6_bitCount_0f7a4_40, eJ6_bitCount_0f7a4_41, eJ6_bitCount_0f7a4_42, eJ6_bitCount_0f7a4_43, cI_16, eJ6_bitCount_0f7a4_45, eJ6_bitCount_0f7a4_46, eJ6_bitCount_0f7a4_47, eJ6_bitCount_0f7a4_48, eJ6_bitCount_0f7a4_49, cI_63, eJ6_bitCount_0f7a4_51, eJ6_bitCount_0f7a4_52, d_J6_bitCount_0f7a4, re_J6_bitCount_0f7a4, reduceIte, n1z, if_true, if_false, n1i, n0i])
  revert hk
  revert k
  decide +kernel
/-- two nets that differ in firings alone -/
def exF18 (w u : Nat → Int32) : Prop := ∀ m, m < 18 ∨ 28 ≤ m → w m = u m
theorem en_18 {w u : Nat → Int32} {np t : Nat} (h : exF18 w u) (hn : np ≤ 8) : enW w np t = enW u np t := by
  have e : ∀ p, p < np → rsnW w t p = rsnW u t p := fun p hp => by
    unfold rsnW
    rw [h (2 + p) (by omega), h (10 + p) (by omega), h (28 + (t * 8 + p)) (by omega), h (188 + (t * 8 + p)) (by omega), h (108 + (t * 8 + p)) (by omega)]
  exact propext ⟨fun z p hp => (e p hp) ▸ z p hp, fun z p hp => (e p hp) ▸ z p hp⟩
theorem mv_18 {w u : Nat → Int32} {np t : Nat} (h : exF18 w u) (hn : np ≤ 8) : exF18 (mvW w t np) (mvW u t np) := fun m hm => by
  unfold mvW
  by_cases g : 2 ≤ m ∧ m < 2 + np
  · rw [if_pos g, if_pos g]
    unfold effW
    rw [h m hm, h (108 + (t * 8 + (m - 2))) (by omega), h (28 + (t * 8 + (m - 2))) (by omega)]
  · rw [if_neg g, if_neg g, h m hm]
theorem fire_18m {w u : Nat → Int32} {np t : Nat} (h : exF18 w u) (hn : np ≤ 8) (ht : t < 10) : exF18 (fireW w np t) (mvW u t np) := fun m hm => (udW_n (by omega)).trans (mv_18 h hn m hm)
theorem fr_18 {np t : Nat} (hn : np ≤ 8) : ∀ (f : Nat) (w u : Nat → Int32), exF18 w u → frS np t f w = frS np t f u := by
  intro f
  induction f with
  | zero => exact fun _ _ _ => rfl
  | succ f ih =>
    intro w u h
    show iteC _ _ _ = iteC _ _ _
    rw [en_18 h hn, ih _ _ (mv_18 h hn)]
theorem c_firesInRow {h : MH} {i np nt : Nat} {s : AS} {t : Int32} (hP : PO h i s) (hB : NB (aW s) np nt) : OPC x sX4_firesInRow [.ref i, .int t] h i [eIB] (qRow s np nt t) := by
  obtain ⟨a0, p0, p1, -, -, -, -, -, -, n0, -⟩ := PO_nw hP hB
  have hnp := hB.2.2.2.1
  have hnt := hB.2.2.2.2.2
  obtain ⟨u, hT⟩ := hP.2.2.1
  have t0 := hT.1.1
  (refine CT_of (o := 4) rfl (by decide +kernel) (by simp [Value.category, sX4_firesInRow]) (MW_ev kX4_firesInRow 300 ?_); show evS _ _ _ _ _ _ 300 0 (1, 6) [.ref i, .int t, .null] [] _; simp only [st_iconst, st_lconst, st_ldc2_w, st_ldc, st_iload, st_lload, st_aload, st_istore, st_astore, st_lstore, st_iinc, st_iadd, st_isub, st_imul, st_idiv, st_irem, st_iand, st_ior, st_ishl, st_ishr, st_iushr, st_ladd, st_lmul, st_lshl, st_lushr, st_lcmp, st_i2l, st_l2i, st_i2b, st_i2c, st_i2d, st_i2f, st_dconst, st_fconst, st_ddiv, st_fdiv, st_dup, st_dup2, st_pop, st_goto, st_if_icmp, st_ifCond, st_tableswitch, st_lookupswitch, st_iaload, st_baload, st_laload, st_aaload, st_iastore, st_bastore, st_lastore, st_aastore, st_saload, st_faload, st_jsr, st_caload, st_d2i, st_d2f, st_ineg, st_ixor, st_dup_x1, st_aconst_null, st_ifnonnull, st_castore, st_getstatic, st_frem, st_drem, st_monitorexit, st_monitorenter, st_invokeinterface, st_newarray, st_anewarray, st_multianewarray, asI_c, asJ_c, asR_c, asD_c, asF_c, popI_c, popJ_c, popR_c, popD_c, popF_c, pop1_c, okSt_0, okSt_S, rcv_0, rcv_1, rcv_2, rcv_3, rcv_4, rcv_5, rcv_8, pI_c, pJ_c, pR_c, pV_c, pD_c, pF_c, cmp_eq, cmp_ne, cmp_lt, cmp_ge, cmp_gt, cmp_le, nth_0, nth_S, set_0, set_S, cat_int, cat_ref, cat_long, cat_double, cat_float, cat_null, catS_0, catS_S, swT_0, swT_S, swL_0, swL_S, Nat.add_zero, Nat.reduceAdd, Nat.reduceSub, Nat.reduceLT, Nat.reduceLeDiff, true_and, and_true, eq_self, eX4_firesInRow_0, fX4_firesInRow_0, eX4_firesInRow_1, eX4_firesInRow_2, iv4_134, c_X4_checkTransition, eX4_firesInRow_5, eX4_firesInRow_6, gf4_20, eX4_firesInRow_9, eX4_firesInRow_10, gf4_13, eX4_firesInRow_13, iv4_113, c_X2_copyFrom, eX4_firesInRow_16, cI_0, eX4_firesInRow_17, eX4_firesInRow_18, fX4_firesInRow_18, eX4_firesInRow_19, cI_1000, eX4_firesInRow_22, tn_50, eX4_firesInRow_25, eX4_firesInRow_26, eX4_firesInRow_29, eX4_firesInRow_30, iv4_137, c_X2_allows, eX4_firesInRow_33, eX4_firesInRow_36, eX4_firesInRow_37, eX4_firesInRow_40, eX4_firesInRow_41, iv4_89, c_X2_fireOnce, eX4_firesInRow_44, cI_1, eX4_firesInRow_47, tn_18, eX4_firesInRow_50, eX4_firesInRow_51, d_X4_firesInRow, re_X4_firesInRow])
  refine ⟨a0, CV_x (c_checkTransition hP hB) (fun E h' z => th_x hP fz0 (fun g => iteC_f g) rfl z) fun h' ⟨e, g⟩ => ?_⟩
  subst e
  have hq : qRow s np nt t = _ := iteC_t g
  obtain ⟨t, ht, rfl⟩ := g
  rw [cl_nI (by omega)] at hq
  simp (disch := omega) only [nI_mul, nI_add, nI_clamp, nI_inE, nI_leE, nI_ltE, nI_eqE, nI_eqz, nI_ltz, nI_gez, nI_lez, nI_gtz, nI_m1, nI_m1', nI_ltm, nI_gem, nI_gtm, nI_lem, nI_00, nI_01, nI_10, nI_11, bI_z, bI_1, bI_0, bI_b, bI_nz, bit_e, arK_i, arK_b, arK_j, true_and, and_true, ne_eq, not_false_eq_true, not_true_eq_false, false_and, and_false, true_or, or_true, false_or, or_false, Classical.not_not, forall_const, true_implies, implies_true, false_implies, eq_self, a0, p0, p1, n0, t0]
  refine ⟨Nat.succ_ne_zero _, Nat.succ_ne_zero _, CV_of (c_copyFrom hT hP.2.1 (by omega)) (fun _ _ z => z.elim) fun h1 ⟨hN1, hF1⟩ => ?_⟩
  clear a0 p0 p1 n0 t0
  have hP1 := PO_trial hP hF1 hN1
  refine loop_up 1000 (P := fun k => ∀ h2 w, NW h2 (i + 8) w → NB w np nt → PO h2 i s → FZ h' h2 i (i + 119) → frS np t 1000 (aW s) = k + frS np t (1000 - k) w → MW x sX4_firesInRow 4 (pI (okP (qRow s np nt (nI t)) h' i)) (thP (qRow s np nt (nI t)) [eIB] h' i) 18 (0, 0) [.ref i, .int (nI t), .int (nI k)] [] h2) (fun k hk ih h2 w hN hBw hP2 hF he => ?_) 0 (Nat.zero_le _) h1 (aW s) hN1 hB hP1 (FZ_rm hF1 (by omega) (by omega)) (Nat.zero_add _).symm
  (try clear a0; try clear p0; try clear p1; try clear p2; try clear p4; try clear p5; try clear p6; try clear p8; try clear p9)
  obtain ⟨a0, -, p1, -⟩ := id hP2.1
  have t0 := hN.1.1
  (refine MW_ev kX4_firesInRow 300 ?_; simp only [st_iconst, st_lconst, st_ldc2_w, st_ldc, st_iload, st_lload, st_aload, st_istore, st_astore, st_lstore, st_iinc, st_iadd, st_isub, st_imul, st_idiv, st_irem, st_iand, st_ior, st_ishl, st_ishr, st_iushr, st_ladd, st_lmul, st_lshl, st_lushr, st_lcmp, st_i2l, st_l2i, st_i2b, st_i2c, st_i2d, st_i2f, st_dconst, st_fconst, st_ddiv, st_fdiv, st_dup, st_dup2, st_pop, st_goto, st_if_icmp, st_ifCond, st_tableswitch, st_lookupswitch, st_iaload, st_baload, st_laload, st_aaload, st_iastore, st_bastore, st_lastore, st_aastore, st_saload, st_faload, st_jsr, st_caload, st_d2i, st_d2f, st_ineg, st_ixor, st_dup_x1, st_aconst_null, st_ifnonnull, st_castore, st_getstatic, st_frem, st_drem, st_monitorexit, st_monitorenter, st_invokeinterface, st_newarray, st_anewarray, st_multianewarray, asI_c, asJ_c, asR_c, asD_c, asF_c, popI_c, popJ_c, popR_c, popD_c, popF_c, pop1_c, okSt_0, okSt_S, rcv_0, rcv_1, rcv_2, rcv_3, rcv_4, rcv_5, rcv_8, pI_c, pJ_c, pR_c, pV_c, pD_c, pF_c, cmp_eq, cmp_ne, cmp_lt, cmp_ge, cmp_gt, cmp_le, nth_0, nth_S, set_0, set_S, cat_int, cat_ref, cat_long, cat_double, cat_float, cat_null, catS_0, catS_S, swT_0, swT_S, swL_0, swL_S, Nat.add_zero, Nat.reduceAdd, Nat.reduceSub, Nat.reduceLT, Nat.reduceLeDiff, true_and, and_true, eq_self, eX4_firesInRow_0, fX4_firesInRow_0, eX4_firesInRow_1, eX4_firesInRow_2, iv4_134, c_X4_checkTransition, eX4_firesInRow_5, eX4_firesInRow_6, gf4_20, eX4_firesInRow_9, eX4_firesInRow_10, gf4_13, eX4_firesInRow_13, iv4_113, c_X2_copyFrom, eX4_firesInRow_16, cI_0, eX4_firesInRow_17, eX4_firesInRow_18, fX4_firesInRow_18, eX4_firesInRow_19, cI_1000, eX4_firesInRow_22, tn_50, eX4_firesInRow_25, eX4_firesInRow_26, eX4_firesInRow_29, eX4_firesInRow_30, iv4_137, c_X2_allows, eX4_firesInRow_33, eX4_firesInRow_36, eX4_firesInRow_37, eX4_firesInRow_40, eX4_firesInRow_41, iv4_89, c_X2_fireOnce, eX4_firesInRow_44, cI_1, eX4_firesInRow_47, tn_18, eX4_firesInRow_50, eX4_firesInRow_51, d_X4_firesInRow, re_X4_firesInRow])
  rcases Nat.lt_or_ge k 1000 with hl | hl
  · have hs : 1000 - k = (1000 - (k + 1)) + 1 := by omega
    rw [hs] at he
    simp (disch := omega) only [nI_mul, nI_add, nI_clamp, nI_inE, nI_leE, nI_ltE, nI_eqE, nI_eqz, nI_ltz, nI_gez, nI_lez, nI_gtz, nI_m1, nI_m1', nI_ltm, nI_gem, nI_gtm, nI_lem, nI_00, nI_01, nI_10, nI_11, bI_z, bI_1, bI_0, bI_b, bI_nz, bit_e, arK_i, arK_b, arK_j, true_and, and_true, ne_eq, not_false_eq_true, not_true_eq_false, false_and, and_false, true_or, or_true, false_or, or_false, Classical.not_not, forall_const, true_implies, implies_true, false_implies, eq_self, a0, p1, t0, hl, Nat.not_le.mpr hl]
    refine ⟨Nat.succ_ne_zero _, CI_pure (c_allows hN.1 hBw (by omega)) ?_⟩
    simp (disch := omega) only [nI_mul, nI_add, nI_clamp, nI_inE, nI_leE, nI_ltE, nI_eqE, nI_eqz, nI_ltz, nI_gez, nI_lez, nI_gtz, nI_m1, nI_m1', nI_ltm, nI_gem, nI_gtm, nI_lem, nI_00, nI_01, nI_10, nI_11, bI_z, bI_1, bI_0, bI_b, bI_nz, bit_e, arK_i, arK_b, arK_j, true_and, and_true, ne_eq, not_false_eq_true, not_true_eq_false, false_and, and_false, true_or, or_true, false_or, or_false, Classical.not_not, forall_const, true_implies, implies_true, false_implies, eq_self, a0, p1, t0]
    refine ⟨fun g => ?_, fun g => ⟨Nat.succ_ne_zero _, CV_of (c_fireOnce hN hBw (by omega)) (fun _ _ z => z.elim) fun h3 ⟨hN3, hF3⟩ => ?_⟩⟩
    · rw [show frS np t ((1000 - (k + 1)) + 1) w = 0 from iteC_f g, Nat.add_zero] at he
      exact ok_of (by rw [hq, he]) hP2 hF
    · rw [show frS np t ((1000 - (k + 1)) + 1) w = frS np t (1000 - (k + 1)) (mvW w t np) + 1 from iteC_t g] at he
      refine ih hl h3 _ hN3 (fire_B hBw) (PO_trial hP2 hF3 hN3) (FZ_tr hF (FZ_rm hF3 (by omega) (by omega))) ?_
      rw [he, fr_18 hnp _ (fireW w np t) (mvW w t np) (fire_18m (fun _ _ => rfl) hnp (by omega))]
      omega
  · obtain rfl : k = 1000 := by omega
    simp (disch := omega) only [nI_mul, nI_add, nI_clamp, nI_inE, nI_leE, nI_ltE, nI_eqE, nI_eqz, nI_ltz, nI_gez, nI_lez, nI_gtz, nI_m1, nI_m1', nI_ltm, nI_gem, nI_gtm, nI_lem, nI_00, nI_01, nI_10, nI_11, bI_z, bI_1, bI_0, bI_b, bI_nz, bit_e, arK_i, arK_b, arK_j, true_and, and_true, ne_eq, not_false_eq_true, not_true_eq_false, false_and, and_false, true_or, or_true, false_or, or_false, Classical.not_not, forall_const, true_implies, implies_true, false_implies, eq_self, Nat.le_refl]
    exact ok_of (by rw [hq, he]; rfl) hP2 hF
end PET
