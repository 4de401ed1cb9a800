section MOD
variable {x : CX}
theorem m_writeMarking {h : MH} {j np nt : Nat} {s : AS} (hO : MO h j s) (hB : NB (aW s) np nt) : OPM x sX5_writeMarking [.ref j] h j (qWM s np nt) := by
  have hnp := hB.2.2.2.1
  have hnt := hB.2.2.2.2.2
  have a0 := hO.1.1.1
  (refine CT_of (o := 5) rfl (by decide) (by simp [Value.category, sX5_writeMarking]) (MW_ev kX5_writeMarking 300 ?_); show evS _ _ _ _ _ _ 300 0 (0, 0) [.ref j, .null] [] _; simp only [st_iconst, st_lconst, st_ldc2_w, st_ldc, st_iload, st_lload, st_aload, st_istore, st_astore, st_lstore, st_iinc, st_iadd, st_isub, st_imul, st_idiv, st_irem, st_iand, st_ior, st_ishl, st_ishr, st_iushr, st_ladd, st_lmul, st_lshl, st_lushr, st_lcmp, st_i2l, st_l2i, st_i2b, st_i2c, st_i2d, st_i2f, st_dconst, st_fconst, st_ddiv, st_fdiv, st_dup, st_dup2, st_pop, st_goto, st_if_icmp, st_ifCond, st_tableswitch, st_lookupswitch, st_iaload, st_baload, st_laload, st_aaload, st_iastore, st_bastore, st_lastore, st_aastore, st_saload, st_faload, st_jsr, st_getstatic, st_frem, st_drem, st_monitorexit, st_monitorenter, st_invokeinterface, st_newarray, st_anewarray, st_multianewarray, asI_c, asJ_c, asR_c, asD_c, asF_c, popI_c, popJ_c, popR_c, popD_c, popF_c, pop1_c, okSt_0, okSt_S, rcv_0, rcv_1, rcv_2, rcv_3, rcv_4, rcv_5, rcv_8, pI_c, pJ_c, pR_c, pV_c, pD_c, pF_c, cmp_eq, cmp_ne, cmp_lt, cmp_ge, cmp_gt, cmp_le, nth_0, nth_S, set_0, set_S, cat_int, cat_ref, cat_long, cat_double, cat_float, cat_null, catS_0, catS_S, swT_0, swT_S, swL_0, swL_S, Nat.add_zero, Nat.reduceAdd, Nat.reduceSub, Nat.reduceLT, Nat.reduceLeDiff, true_and, and_true, eq_self, eX5_writeMarking_0, fX5_writeMarking_0, eX5_writeMarking_1, cI_0, eX5_writeMarking_2, pf5_59, eX5_writeMarking_5, eX5_writeMarking_6, eX5_writeMarking_7, pf5_307, eX5_writeMarking_10, eX5_writeMarking_11, eX5_writeMarking_12, fX5_writeMarking_12, eX5_writeMarking_13, eX5_writeMarking_14, gf5_9, eX5_writeMarking_17, eX5_writeMarking_18, eX5_writeMarking_19, tn_47, eX5_writeMarking_22, eX5_writeMarking_23, tn_32, eX5_writeMarking_26, eX5_writeMarking_27, cI_44, eX5_writeMarking_29, iv5_310, c_X5_say, eX5_writeMarking_32, eX5_writeMarking_33, eX5_writeMarking_34, eX5_writeMarking_35, iv5_77, c_X5_tokensOf, eX5_writeMarking_38, iv5_313, c_X5_sayNumber, eX5_writeMarking_41, cI_1, eX5_writeMarking_44, tn_12, eX5_writeMarking_47, eX5_writeMarking_48, cI_32, eX5_writeMarking_50, eX5_writeMarking_53, eX5_writeMarking_54, eX5_writeMarking_55, iv5_159, c_X5_enabledSet, eX5_writeMarking_58, iv5_316, c_X5_sayEnabled, eX5_writeMarking_61, eX5_writeMarking_62, gf5_307, eX5_writeMarking_65, d_X5_writeMarking, re_X5_writeMarking])
  simp (disch := omega) only [nI_mul, nI_add, nI_clamp, nI_inE, nI_leE, nI_ltE, nI_eqE, nI_eqz, nI_ltz, nI_gez, nI_lez, nI_gtz, nI_m1, nI_m1', nI_ltm, nI_gem, nI_gtm, nI_lem, nI_00, nI_01, nI_10, nI_11, bI_z, bI_1, bI_0, bI_b, bI_nz, bit_e, arK_i, arK_b, arK_j, true_and, and_true, ne_eq, not_false_eq_true, not_true_eq_false, false_and, and_false, true_or, or_true, false_or, or_false, Classical.not_not, forall_const, true_implies, implies_true, false_implies, eq_self, sI_K, sI_L, sI_P, sI_J, sI_Z, sI_Ie, sR_K, sR_L, sR_P, sR_J, sR_Z, sR_Ie, sP_K, sP_L, sP_I, sP_J, sP_Z, sP_Pe, sJ_K, sJ_L, sJ_P, sJ_I, sJ_Z, sJ_Je, n1z, a0]
  obtain ⟨h1, hh⟩ : ∃ h1, h1 = sI (sI h j 0 (nI 0)) j 11 (nI 0) := ⟨_, rfl⟩
  have hF : FI h h1 fun a k => a = j ∧ (k = 0 ∨ k = 11) := by rw [hh]; exact FI_tr (FI_sI ⟨rfl, Or.inl rfl⟩) (FI_sI ⟨rfl, Or.inr rfl⟩)
  have h10 : mI h1 j 0 = nI 0 := by rw [hh, sI_Ik (by decide), sI_Ie]
  have h111 : mI h1 j 11 = nI 0 := by rw [hh, sI_Ie]
  rw [← hh]
  clear a0
  have hO1 : MO h1 j (wR s (aR s, 0)) := by
    obtain ⟨t1, t2, t3, t4, t5, t6, t7, t8⟩ := hO.2.2.2
    exact ⟨MN_fi hO.1 hF fun k hk => by omega, HM_fi hO.2.1 hF fun a k hk => by omega, ⟨(hF.2.2.2.2 j 5 (by omega)).trans hO.2.2.1.1, fun z => MA_fi (hO.2.2.1.2 z) hF fun k hk => by omega⟩, (hF.2.2.2.2 j 9 (by omega)).trans t1, t2, fun k hk => (hF.2.2.2.2 _ _ (by omega)).trans (t3 k hk), h111, Nat.zero_le _, fun k hk => absurd hk (Nat.not_lt_zero _), (hF.2.2.2.2 _ _ (by omega)).trans t7, (hF.2.2.2.2 _ _ (by omega)).trans t8⟩
  have hFM : FM h h1 j := FM_fi hF fun a k hk => by omega
  refine loop_up np (P := fun k => ∀ h2, MRp h1 j s (rpM (aW s) k (aR s, 0)) h2 → MW x sX5_writeMarking 5 (pI (oaM (qWM s np nt) h j)) xNo 12 (0, 0) [.ref j, .int (nI k)] [] h2) (fun k hk ih h2 hR => ?_) 0 (Nat.zero_le _) h1 ⟨hO1, FRr_rfl, rfl⟩
  have hq2 := rpM_2 (w := aW s) (R := aR s) (n := k)
  have hN2 : MN h2 j (aW s) := hR.1.1
  obtain ⟨a0, p1, k1, l1⟩ := MB_w hN2.1
  have n0 := MN_0 hN2 hB
  (refine MW_ev kX5_writeMarking 300 ?_; simp only [st_iconst, st_lconst, st_ldc2_w, st_ldc, st_iload, st_lload, st_aload, st_istore, st_astore, st_lstore, st_iinc, st_iadd, st_isub, st_imul, st_idiv, st_irem, st_iand, st_ior, st_ishl, st_ishr, st_iushr, st_ladd, st_lmul, st_lshl, st_lushr, st_lcmp, st_i2l, st_l2i, st_i2b, st_i2c, st_i2d, st_i2f, st_dconst, st_fconst, st_ddiv, st_fdiv, st_dup, st_dup2, st_pop, st_goto, st_if_icmp, st_ifCond, st_tableswitch, st_lookupswitch, st_iaload, st_baload, st_laload, st_aaload, st_iastore, st_bastore, st_lastore, st_aastore, st_saload, st_faload, st_jsr, st_getstatic, st_frem, st_drem, st_monitorexit, st_monitorenter, st_invokeinterface, st_newarray, st_anewarray, st_multianewarray, asI_c, asJ_c, asR_c, asD_c, asF_c, popI_c, popJ_c, popR_c, popD_c, popF_c, pop1_c, okSt_0, okSt_S, rcv_0, rcv_1, rcv_2, rcv_3, rcv_4, rcv_5, rcv_8, pI_c, pJ_c, pR_c, pV_c, pD_c, pF_c, cmp_eq, cmp_ne, cmp_lt, cmp_ge, cmp_gt, cmp_le, nth_0, nth_S, set_0, set_S, cat_int, cat_ref, cat_long, cat_double, cat_float, cat_null, catS_0, catS_S, swT_0, swT_S, swL_0, swL_S, Nat.add_zero, Nat.reduceAdd, Nat.reduceSub, Nat.reduceLT, Nat.reduceLeDiff, true_and, and_true, eq_self, eX5_writeMarking_0, fX5_writeMarking_0, eX5_writeMarking_1, cI_0, eX5_writeMarking_2, pf5_59, eX5_writeMarking_5, eX5_writeMarking_6, eX5_writeMarking_7, pf5_307, eX5_writeMarking_10, eX5_writeMarking_11, eX5_writeMarking_12, fX5_writeMarking_12, eX5_writeMarking_13, eX5_writeMarking_14, gf5_9, eX5_writeMarking_17, eX5_writeMarking_18, eX5_writeMarking_19, tn_47, eX5_writeMarking_22, eX5_writeMarking_23, tn_32, eX5_writeMarking_26, eX5_writeMarking_27, cI_44, eX5_writeMarking_29, iv5_310, c_X5_say, eX5_writeMarking_32, eX5_writeMarking_33, eX5_writeMarking_34, eX5_writeMarking_35, iv5_77, c_X5_tokensOf, eX5_writeMarking_38, iv5_313, c_X5_sayNumber, eX5_writeMarking_41, cI_1, eX5_writeMarking_44, tn_12, eX5_writeMarking_47, eX5_writeMarking_48, cI_32, eX5_writeMarking_50, eX5_writeMarking_53, eX5_writeMarking_54, eX5_writeMarking_55, iv5_159, c_X5_enabledSet, eX5_writeMarking_58, iv5_316, c_X5_sayEnabled, eX5_writeMarking_61, eX5_writeMarking_62, gf5_307, eX5_writeMarking_65, d_X5_writeMarking, re_X5_writeMarking])
  rcases Nat.lt_or_ge k np with hl | hl
  · have ih := ih hl
    have fin : ∀ h3 q, MRp h1 j s q h3 → q.2 + 1 < 64 → q = iteC (k = 0) (rpM (aW s) k (aR s, 0)) (rpC (nI 44) (rpM (aW s) k (aR s, 0))) → CALLI x sX5_tokensOf [.ref j, .int (nI k)] h3 xNo fun r h' => mK h' j = 6 ∧ CALLV x sX5_sayNumber [.ref j, .int r] h' xNo fun h' => MW x sX5_writeMarking 5 (pI (oaM (qWM s np nt) h j)) xNo 12 (0, 0) [.ref j, .int (nI (k + 1))] [] h' := fun h3 q hP2 hq e2 => by
      have hN3 : MN h3 j (aW s) := hP2.1.1
      refine CI_pure (m_tokensOf hN3 (by omega)) ⟨hN3.1.1, call_sayN hP2.1 hq fun h4 hP4 => ?_⟩
      rw [e2] at hP2 hP4
      exact ih h4 (MR_tr hP2 hP4)
    simp (disch := omega) only [nI_mul, nI_add, nI_clamp, nI_inE, nI_leE, nI_ltE, nI_eqE, nI_eqz, nI_ltz, nI_gez, nI_lez, nI_gtz, nI_m1, nI_m1', nI_ltm, nI_gem, nI_gtm, nI_lem, nI_00, nI_01, nI_10, nI_11, bI_z, bI_1, bI_0, bI_b, bI_nz, bit_e, arK_i, arK_b, arK_j, true_and, and_true, ne_eq, not_false_eq_true, not_true_eq_false, false_and, and_false, true_or, or_true, false_or, or_false, Classical.not_not, forall_const, true_implies, implies_true, false_implies, eq_self, a0, p1, k1, l1, n0, hl, Nat.not_le.mpr hl]
    refine ⟨Nat.succ_ne_zero _, fun g => ?_, fun g => call_say hR.1 (by omega) fun h3 hP3 => ?_⟩
    · exact fin h2 _ hR (by omega) (iteC_t g).symm
    · have a3 := hP3.1.1.1.1
      have := fin h3 _ (MR_tr hR hP3) (by rw [rpC_2]; omega) (iteC_f g).symm
      first | exact ⟨a3, this⟩ | exact ⟨a3, a3, this⟩ | exact this
  · obtain rfl : k = np := by omega
    simp (disch := omega) only [nI_mul, nI_add, nI_clamp, nI_inE, nI_leE, nI_ltE, nI_eqE, nI_eqz, nI_ltz, nI_gez, nI_lez, nI_gtz, nI_m1, nI_m1', nI_ltm, nI_gem, nI_gtm, nI_lem, nI_00, nI_01, nI_10, nI_11, bI_z, bI_1, bI_0, bI_b, bI_nz, bit_e, arK_i, arK_b, arK_j, true_and, and_true, ne_eq, not_false_eq_true, not_true_eq_false, false_and, and_false, true_or, or_true, false_or, or_false, Classical.not_not, forall_const, true_implies, implies_true, false_implies, eq_self, a0, p1, k1, l1, n0, Nat.le_refl]
    refine ⟨Nat.succ_ne_zero _, call_say hR.1 (by omega) fun h3 hP3 => ?_⟩
    have hN3 : MN h3 j (aW s) := hP3.1.1
    have a3 := hN3.1.1
    have go : CALLI x sX5_enabledSet [.ref j] h3 xNo fun r h' => mK h' j = 6 ∧ CALLV x sX5_sayEnabled [.ref j, .int r] h' xNo fun h' => mK h' j = 6 ∧ oaM (qWM s k nt) h j (mI h' j 11) h' := by
      refine CI_pure (m_enabledSet hN3 hB) ⟨a3, CV_of (m_sayEnabled hP3.1 hB (by rw [rpC_2]; omega)) (fun _ _ z => z.elim) fun h4 hP4 => ?_⟩
      have hP := MR_tr hR (MR_tr hP3 hP4)
      have t4 := hP.1.2.2.2.2.2.2.1
      exact ⟨hP.1.1.1.1, hP.2.2.trans h10, fun _ => t4, hP.1, FM_tr hFM hP.2.1⟩
    first | exact ⟨a3, go⟩ | exact ⟨a3, a3, go⟩ | exact go
theorem m_reportByte {h : MH} {j : Nat} {s : AS} {v : Int32} (hO : MO h j s) : OPM x sX5_reportByte [.ref j, .int v] h j (okA s (qRB s v)) := by
  have a0 := hO.1.1.1
  have p10 : mP h j 10 = j + 17 := hO.1.1.2.1.2.2.2.2.2.2.1
  have k17 := hO.1.1.2.2.2.2.2.1
  have l17 := hO.1.1.2.2.2.2.2.2.1
  obtain ⟨-, -, -, t4, t5, t6, -⟩ := hO.2.2.2
  have hI := inR_e (v := v) (n := aM s) (by omega)
  (refine CT_of (o := 5) rfl (by decide) (by simp [Value.category, sX5_reportByte]) (MW_ev kX5_reportByte 300 ?_); show evS _ _ _ _ _ _ 300 0 (0, 0) [.ref j, .int v] [] _; simp only [st_iconst, st_lconst, st_ldc2_w, st_ldc, st_iload, st_lload, st_aload, st_istore, st_astore, st_lstore, st_iinc, st_iadd, st_isub, st_imul, st_idiv, st_irem, st_iand, st_ior, st_ishl, st_ishr, st_iushr, st_ladd, st_lmul, st_lshl, st_lushr, st_lcmp, st_i2l, st_l2i, st_i2b, st_i2c, st_i2d, st_i2f, st_dconst, st_fconst, st_ddiv, st_fdiv, st_dup, st_dup2, st_pop, st_goto, st_if_icmp, st_ifCond, st_tableswitch, st_lookupswitch, st_iaload, st_baload, st_laload, st_aaload, st_iastore, st_bastore, st_lastore, st_aastore, st_saload, st_faload, st_jsr, st_getstatic, st_frem, st_drem, st_monitorexit, st_monitorenter, st_invokeinterface, st_newarray, st_anewarray, st_multianewarray, asI_c, asJ_c, asR_c, asD_c, asF_c, popI_c, popJ_c, popR_c, popD_c, popF_c, pop1_c, okSt_0, okSt_S, rcv_0, rcv_1, rcv_2, rcv_3, rcv_4, rcv_5, rcv_8, pI_c, pJ_c, pR_c, pV_c, pD_c, pF_c, cmp_eq, cmp_ne, cmp_lt, cmp_ge, cmp_gt, cmp_le, nth_0, nth_S, set_0, set_S, cat_int, cat_ref, cat_long, cat_double, cat_float, cat_null, catS_0, catS_S, swT_0, swT_S, swL_0, swL_S, Nat.add_zero, Nat.reduceAdd, Nat.reduceSub, Nat.reduceLT, Nat.reduceLeDiff, true_and, and_true, eq_self, eX5_reportByte_0, fX5_reportByte_0, eX5_reportByte_1, cI_0, eX5_reportByte_2, pf5_59, eX5_reportByte_5, eX5_reportByte_6, tn_17, eX5_reportByte_9, eX5_reportByte_10, eX5_reportByte_11, gf5_307, eX5_reportByte_14, tn_21, eX5_reportByte_17, cI_m1, eX5_reportByte_18, tn_27, eX5_reportByte_21, eX5_reportByte_22, gf5_30, eX5_reportByte_25, eX5_reportByte_26, eX5_reportByte_27, d_X5_reportByte, re_X5_reportByte])
  simp (disch := omega) only [nI_mul, nI_add, nI_clamp, nI_inE, nI_leE, nI_ltE, nI_eqE, nI_eqz, nI_ltz, nI_gez, nI_lez, nI_gtz, nI_m1, nI_m1', nI_ltm, nI_gem, nI_gtm, nI_lem, nI_00, nI_01, nI_10, nI_11, bI_z, bI_1, bI_0, bI_b, bI_nz, bit_e, arK_i, arK_b, arK_j, true_and, and_true, ne_eq, not_false_eq_true, not_true_eq_false, false_and, and_false, true_or, or_true, false_or, or_false, Classical.not_not, forall_const, true_implies, implies_true, false_implies, eq_self, sI_K, sI_L, sI_P, sI_J, sI_Z, sI_Ie, sR_K, sR_L, sR_P, sR_J, sR_Z, sR_Ie, sP_K, sP_L, sP_I, sP_J, sP_Z, sP_Pe, sJ_K, sJ_L, sJ_P, sJ_I, sJ_Z, sJ_Je, n1z, a0, p10, k17, l17, t4, sI_Ia, sI_Ik]
  refine ⟨fun g => ok0 hO (by rw [qRB, iteC_f (fun z => by rw [hI] at z; exact z.1 g)]), fun g => ⟨fun g2 => ?_, fun g2 => ok0 hO (by rw [qRB, iteC_f (fun z => by rw [hI] at z; exact g2 z.2)])⟩⟩
  have hr : inR v (aM s) := by rw [hI]; exact ⟨g, g2⟩
  have hq : qRB s v = aR s (cl v) := iteC_t hr
  obtain ⟨k, hk, rfl⟩ := hr
  rw [cl_nI (by omega)] at hq
  have := t6 k hk
  simp (disch := omega) only [nI_mul, nI_add, nI_clamp, nI_inE, nI_leE, nI_ltE, nI_eqE, nI_eqz, nI_ltz, nI_gez, nI_lez, nI_gtz, nI_m1, nI_m1', nI_ltm, nI_gem, nI_gtm, nI_lem, nI_00, nI_01, nI_10, nI_11, bI_z, bI_1, bI_0, bI_b, bI_nz, bit_e, arK_i, arK_b, arK_j, true_and, and_true, ne_eq, not_false_eq_true, not_true_eq_false, false_and, and_false, true_or, or_true, false_or, or_false, Classical.not_not, forall_const, true_implies, implies_true, false_implies, eq_self, this]
  exact ⟨Nat.succ_ne_zero _, ok0 hO (by rw [hq])⟩
theorem inR_S {v : Int32} {n : Nat} (hn : n ≤ 500) : (¬ v < nI 0 ∧ v ≤ nI n) = inR v (n + 1) := by
  rw [inR_e (by omega), nI_0]
  refine propext (and_congr_right fun g => ?_)
  obtain ⟨k, hk, rfl⟩ := nI_of g
  rw [nI_ltI hk (by omega), nI_leI hk (by omega)]
  omega
/-- text, errors or report change -/
theorem MO_t {h h' : MH} {j : Nat} {s : AS} {U R : Nat → Int32} {n m : Nat} {ek eo : Int32} (hO : MO h j s) (hF : FI h h' fun a k => (a = j ∧ (k = 0 ∨ k = 9 ∨ k = 11 ∨ k = 23 ∨ k = 24)) ∨ a = j + 16 ∨ a = j + 17) (hT : MT h' j (aW s, aP s, aC s, aS s, aH s, U, n, ek, eo, R, m)) : MO h' j (aW s, aP s, aC s, aS s, aH s, U, n, ek, eo, R, m) :=
  ⟨MN_fi hO.1 hF fun k hk => by omega, HM_fi hO.2.1 hF fun a k hk => by omega, ⟨(hF.2.2.2.2 j 5 (by omega)).trans hO.2.2.1.1, fun z => MA_fi (hO.2.2.1.2 z) hF fun k hk => by omega⟩, hT⟩
theorem m_truncateInput {h : MH} {j : Nat} {s : AS} {v : Int32} (hO : MO h j s) : OPM x sX5_truncateInput [.ref j, .int v] h j (qTrc s v) := by
  have a0 := hO.1.1.1
  have hN := (MO_th (c := nI 0) hO).1
  obtain ⟨t1, t2, t3, t4, t5, t6, t7, t8⟩ := hO.2.2.2
  (refine CT_of (o := 5) rfl (by decide) (by simp [Value.category, sX5_truncateInput]) (MW_ev kX5_truncateInput 300 ?_); show evS _ _ _ _ _ _ 300 0 (0, 0) [.ref j, .int v] [] _; simp only [st_iconst, st_lconst, st_ldc2_w, st_ldc, st_iload, st_lload, st_aload, st_istore, st_astore, st_lstore, st_iinc, st_iadd, st_isub, st_imul, st_idiv, st_irem, st_iand, st_ior, st_ishl, st_ishr, st_iushr, st_ladd, st_lmul, st_lshl, st_lushr, st_lcmp, st_i2l, st_l2i, st_i2b, st_i2c, st_i2d, st_i2f, st_dconst, st_fconst, st_ddiv, st_fdiv, st_dup, st_dup2, st_pop, st_goto, st_if_icmp, st_ifCond, st_tableswitch, st_lookupswitch, st_iaload, st_baload, st_laload, st_aaload, st_iastore, st_bastore, st_lastore, st_aastore, st_saload, st_faload, st_jsr, st_getstatic, st_frem, st_drem, st_monitorexit, st_monitorenter, st_invokeinterface, st_newarray, st_anewarray, st_multianewarray, asI_c, asJ_c, asR_c, asD_c, asF_c, popI_c, popJ_c, popR_c, popD_c, popF_c, pop1_c, okSt_0, okSt_S, rcv_0, rcv_1, rcv_2, rcv_3, rcv_4, rcv_5, rcv_8, pI_c, pJ_c, pR_c, pV_c, pD_c, pF_c, cmp_eq, cmp_ne, cmp_lt, cmp_ge, cmp_gt, cmp_le, nth_0, nth_S, set_0, set_S, cat_int, cat_ref, cat_long, cat_double, cat_float, cat_null, catS_0, catS_S, swT_0, swT_S, swL_0, swL_S, Nat.add_zero, Nat.reduceAdd, Nat.reduceSub, Nat.reduceLT, Nat.reduceLeDiff, true_and, and_true, eq_self, eX5_truncateInput_0, fX5_truncateInput_0, eX5_truncateInput_1, cI_0, eX5_truncateInput_2, pf5_59, eX5_truncateInput_5, eX5_truncateInput_6, eX5_truncateInput_7, eX5_truncateInput_8, eX5_truncateInput_9, gf5_171, eX5_truncateInput_12, cI_1, eX5_truncateInput_13, iv5_69, c_X5_outside, eX5_truncateInput_16, tn_21, eX5_truncateInput_19, eX5_truncateInput_20, eX5_truncateInput_21, eX5_truncateInput_22, eX5_truncateInput_23, pf5_171, eX5_truncateInput_26, eX5_truncateInput_27, eX5_truncateInput_30, d_X5_truncateInput, re_X5_truncateInput])
  simp (disch := omega) only [nI_mul, nI_add, nI_clamp, nI_inE, nI_leE, nI_ltE, nI_eqE, nI_eqz, nI_ltz, nI_gez, nI_lez, nI_gtz, nI_m1, nI_m1', nI_ltm, nI_gem, nI_gtm, nI_lem, nI_00, nI_01, nI_10, nI_11, bI_z, bI_1, bI_0, bI_b, bI_nz, bit_e, arK_i, arK_b, arK_j, true_and, and_true, ne_eq, not_false_eq_true, not_true_eq_false, false_and, and_false, true_or, or_true, false_or, or_false, Classical.not_not, forall_const, true_implies, implies_true, false_implies, eq_self, sI_K, sI_L, sI_P, sI_J, sI_Z, sI_Ie, sR_K, sR_L, sR_P, sR_J, sR_Z, sR_Ie, sP_K, sP_L, sP_I, sP_J, sP_Z, sP_Pe, sJ_K, sJ_L, sJ_P, sJ_I, sJ_Z, sJ_Je, n1z, a0, t1, sI_Ik]
  refine call_out hN.1 (fun g => ?_) fun g => ?_
  · simp (disch := omega) only [nI_mul, nI_add, nI_clamp, nI_inE, nI_leE, nI_ltE, nI_eqE, nI_eqz, nI_ltz, nI_gez, nI_lez, nI_gtz, nI_m1, nI_m1', nI_ltm, nI_gem, nI_gtm, nI_lem, nI_00, nI_01, nI_10, nI_11, bI_z, bI_1, bI_0, bI_b, bI_nz, bit_e, arK_i, arK_b, arK_j, true_and, and_true, ne_eq, not_false_eq_true, not_true_eq_false, false_and, and_false, true_or, or_true, false_or, or_false, Classical.not_not, forall_const, true_implies, implies_true, false_implies, eq_self, sI_K, sI_L, sI_P, sI_J, sI_Z, sI_Ie, sR_K, sR_L, sR_P, sR_J, sR_Z, sR_Ie, sP_K, sP_L, sP_I, sP_J, sP_Z, sP_Pe, sJ_K, sJ_L, sJ_P, sJ_I, sJ_Z, sJ_Je, n1z, a0]
    rw [inR_S t2] at g
    exact no1 hO (iteC_f g)
  · rw [inR_S t2] at g
    have hq : qTrc s v = _ := iteC_t g
    obtain ⟨k, hk, rfl⟩ := g
    rw [cl_nI (by omega)] at hq
    simp (disch := omega) only [nI_mul, nI_add, nI_clamp, nI_inE, nI_leE, nI_ltE, nI_eqE, nI_eqz, nI_ltz, nI_gez, nI_lez, nI_gtz, nI_m1, nI_m1', nI_ltm, nI_gem, nI_gtm, nI_lem, nI_00, nI_01, nI_10, nI_11, bI_z, bI_1, bI_0, bI_b, bI_nz, bit_e, arK_i, arK_b, arK_j, true_and, and_true, ne_eq, not_false_eq_true, not_true_eq_false, false_and, and_false, true_or, or_true, false_or, or_false, Classical.not_not, forall_const, true_implies, implies_true, false_implies, eq_self, sI_K, sI_L, sI_P, sI_J, sI_Z, sI_Ie, sR_K, sR_L, sR_P, sR_J, sR_Z, sR_Ie, sP_K, sP_L, sP_I, sP_J, sP_Z, sP_Pe, sJ_K, sJ_L, sJ_P, sJ_I, sJ_Z, sJ_Je, n1z, a0]
    have hF : FI h (sI (sI h j 0 (nI 0)) j 9 (nI k)) fun a k => (a = j ∧ (k = 0 ∨ k = 9 ∨ k = 11 ∨ k = 23 ∨ k = 24)) ∨ a = j + 16 ∨ a = j + 17 := FI_tr (FI_sI (Or.inl ⟨rfl, by omega⟩)) (FI_sI (Or.inl ⟨rfl, by omega⟩))
    refine oaM_q hq ((sI_Ik (by decide)).trans sI_Ie) (MO_t hO hF ⟨sI_Ie, show k ≤ 500 by omega, fun i hi => ?_, ?_, t5, fun i hi => ?_, ?_, ?_⟩) (FM_fi hF fun a k hk => by omega)
    · rw [sI_Ia (by omega), sI_Ia (by omega)]
      exact t3 i (by have : i < k := hi; omega)
    · rw [sI_Ik (by decide), sI_Ik (by decide)]; exact t4
    · rw [sI_Ia (by omega), sI_Ia (by omega)]; exact t6 i hi
    · rw [sI_Ik (by decide), sI_Ik (by decide)]; exact t7
    · rw [sI_Ik (by decide), sI_Ik (by decide)]; exact t8
end MOD
