section SCR
variable {x : CX}
noncomputable def hdS (U : Nat → Int32) (n : Nat) (w : Nat → Int32) (t : TK) : CR :=
  let p := numS U n (tokS U n t.2.2) (nI 1) (nI 8)
  let q := numS U n p.2.2.2 (nI 1) (nI 10)
  iteC (wrdS U t 0) (iteC (p.1 = 0) (iteC (q.1 = 0) (0, 0, clW p.2.2.1.toNatClampNeg q.2.2.1.toNatClampNeg, q.2.2.2) (q.1, q.2.1, w, q.2.2.2)) (p.1, p.2.1, w, p.2.2.2)) (1, t.2.1, w, t)
theorem num_pos {v : Int32} {m : Nat} (hm : m < 1000) (h1 : ¬ v < nI 1) (h2 : ¬ nI m < v) : ∃ j, 1 ≤ j ∧ j ≤ m ∧ v = nI j := by
  obtain ⟨j, hj, e⟩ := nI_of (x := v) fun z => h1 (Int32.lt_trans z (by decide))
  subst e
  rw [nI_ltI hj (by decide)] at h1
  rw [nI_ltI (by omega) hj] at h2
  exact ⟨j, by omega, by omega, rfl⟩
theorem c_readHeader {h : MH} {i n : Nat} {U w : Nat → Int32} {t : TK} (hS : SC h i U n w t) : CT x sX3_readHeader [.ref i] h (pI fun r h' => cmP h h' i U n (hdS U n w t) r) xNo := by
  have a1 := hS.1.1
  (refine CT_of (o := 3) rfl (by decide +kernel) (by simp [Value.category, sX3_readHeader]) (MW_ev kX3_readHeader 300 ?_); show evS _ _ _ _ _ _ 300 0 (0, 0) [.ref i, .null, .null] [] _; simp only [st_iconst, st_lconst, st_ldc2_w, st_ldc, st_iload, st_lload, st_aload, st_istore, st_astore, st_lstore, st_iinc, st_iadd, st_isub, st_imul, st_idiv, st_irem, st_iand, st_ior, st_ishl, st_ishr, st_iushr, st_ladd, st_lmul, st_lshl, st_lushr, st_lcmp, st_i2l, st_l2i, st_i2b, st_i2c, st_i2d, st_i2f, st_dconst, st_fconst, st_ddiv, st_fdiv, st_dup, st_dup2, st_pop, st_goto, st_if_icmp, st_ifCond, st_tableswitch, st_lookupswitch, st_iaload, st_baload, st_laload, st_aaload, st_iastore, st_bastore, st_lastore, st_aastore, st_saload, st_faload, st_jsr, st_caload, st_d2i, st_d2f, st_ineg, st_ixor, st_dup_x1, st_aconst_null, st_ifnonnull, st_castore, st_getstatic, st_frem, st_drem, st_monitorexit, st_monitorenter, st_invokeinterface, st_newarray, st_anewarray, st_multianewarray, asI_c, asJ_c, asR_c, asD_c, asF_c, popI_c, popJ_c, popR_c, popD_c, popF_c, pop1_c, okSt_0, okSt_S, rcv_0, rcv_1, rcv_2, rcv_3, rcv_4, rcv_5, rcv_8, pI_c, pJ_c, pR_c, pV_c, pD_c, pF_c, cmp_eq, cmp_ne, cmp_lt, cmp_ge, cmp_gt, cmp_le, nth_0, nth_S, set_0, set_S, cat_int, cat_ref, cat_long, cat_double, cat_float, cat_null, catS_0, catS_S, swT_0, swT_S, swL_0, swL_S, Nat.add_zero, Nat.reduceAdd, Nat.reduceSub, Nat.reduceLT, Nat.reduceLeDiff, true_and, and_true, eq_self, eX3_readHeader_0, fX3_readHeader_0, eX3_readHeader_1, eX3_readHeader_3, iv3_55, c_X3_isWord, eX3_readHeader_6, tn_15, eX3_readHeader_9, eX3_readHeader_10, cI_1, eX3_readHeader_11, iv3_59, c_X3_fail, eX3_readHeader_14, eX3_readHeader_15, eX3_readHeader_16, iv3_41, c_X3_readToken, eX3_readHeader_19, eX3_readHeader_20, eX3_readHeader_21, cI_8, eX3_readHeader_23, iv3_63, c_X3_readNumber, eX3_readHeader_26, eX3_readHeader_27, eX3_readHeader_28, cI_m1, eX3_readHeader_29, tn_36, eX3_readHeader_32, eX3_readHeader_33, tn_43, eX3_readHeader_36, eX3_readHeader_37, eX3_readHeader_38, cI_10, eX3_readHeader_40, eX3_readHeader_43, eX3_readHeader_44, eX3_readHeader_45, eX3_readHeader_46, tn_51, eX3_readHeader_49, cI_0, eX3_readHeader_50, eX3_readHeader_51, eX3_readHeader_52, gf3_22, eX3_readHeader_55, eX3_readHeader_56, eX3_readHeader_57, iv3_67, c_X2_clear, eX3_readHeader_60, eX3_readHeader_61, d_X3_readHeader, re_X3_readHeader])
  refine ⟨a1, CI_pure (c_isWord hS.1 hS.2.2.1 hS.2.2.2 (by decide)) ?_⟩
  simp (disch := omega) only [nI_mul, nI_add, nI_clamp, nI_inE, nI_leE, nI_ltE, nI_eqE, nI_eqz, nI_ltz, nI_gez, nI_lez, nI_gtz, nI_m1, nI_m1', nI_ltm, nI_gem, nI_gtm, nI_lem, nI_00, nI_01, nI_10, nI_11, bI_z, bI_1, bI_0, bI_b, bI_nz, bit_e, arK_i, arK_b, arK_j, true_and, and_true, ne_eq, not_false_eq_true, not_true_eq_false, false_and, and_false, true_or, or_true, false_or, or_false, Classical.not_not, forall_const, true_implies, implies_true, false_implies, eq_self, a1]
  refine ⟨fun g => CV_of (c_readToken hS.1 hS.2.2.2.2.1 hS.2.2.1.2.2) (fun _ _ z => z.elim) fun h1 ⟨f1, f2⟩ => ?_, fun g => CI_of (c_fail hS.1 hS.2.2.1.2.1) (fun _ _ z => z.elim) fun r h' ⟨f0, f1, f2, f3⟩ => ?_⟩
  · have hS1 := SC_tk hS f1 f2 (tok_b hS.2.2.2.2.1)
    have ec : hdS U n w t = _ := iteC_t g
    rw [ec]
    refine ⟨hS1.1.1, call_num hS1 fun h2 hS2 hF2 hr => ?_⟩
    obtain ⟨P, hP⟩ : ∃ P, P = numS U n (tokS U n t.2.2) (nI 1) (nI 8) := ⟨_, rfl⟩
    rw [← hP] at hS2 hr
    simp only [← hP]
    rcases hr with ⟨r0, r1, r2, r3, r4⟩ | ⟨r0, r1, r3, r4⟩
    · obtain ⟨p, hp1, hp2, ep⟩ := num_pos (by decide) r1 r2
      have c1 := hS2.1.1
      rw [iteC_t r0, ep]
      simp (disch := omega) only [nI_mul, nI_add, nI_clamp, nI_inE, nI_leE, nI_ltE, nI_eqE, nI_eqz, nI_ltz, nI_gez, nI_lez, nI_gtz, nI_m1, nI_m1', nI_ltm, nI_gem, nI_gtm, nI_lem, nI_00, nI_01, nI_10, nI_11, bI_z, bI_1, bI_0, bI_b, bI_nz, bit_e, arK_i, arK_b, arK_j, true_and, and_true, ne_eq, not_false_eq_true, not_true_eq_false, false_and, and_false, true_or, or_true, false_or, or_false, Classical.not_not, forall_const, true_implies, implies_true, false_implies, eq_self, c1]
      refine call_num hS2 fun h3 hS3 hF3 hr3 => ?_
      obtain ⟨Q, hQ⟩ : ∃ Q, Q = numS U n P.2.2.2 (nI 1) (nI 10) := ⟨_, rfl⟩
      rw [← hQ] at hS3 hr3
      simp only [← hQ]
      rcases hr3 with ⟨s0, s1, s2, s3, s4⟩ | ⟨s0, s1, s3, s4⟩
      · obtain ⟨q, hq1, hq2, eq⟩ := num_pos (by decide) s1 s2
        have d1 := hS3.1.1
        have d7 := hS3.1.2.2.2.2.2.2.1
        have m0 := hS3.2.1.1.1
        rw [iteC_t s0, eq]
        simp (disch := omega) only [nI_mul, nI_add, nI_clamp, nI_inE, nI_leE, nI_ltE, nI_eqE, nI_eqz, nI_ltz, nI_gez, nI_lez, nI_gtz, nI_m1, nI_m1', nI_ltm, nI_gem, nI_gtm, nI_lem, nI_00, nI_01, nI_10, nI_11, bI_z, bI_1, bI_0, bI_b, bI_nz, bit_e, arK_i, arK_b, arK_j, true_and, and_true, ne_eq, not_false_eq_true, not_true_eq_false, false_and, and_false, true_or, or_true, false_or, or_false, Classical.not_not, forall_const, true_implies, implies_true, false_implies, eq_self, d1, d7, m0]
        refine ⟨by omega, CV_of (c_clear hS3.2.1) (fun _ _ z => z.elim) fun h4 ⟨hN4, hF4⟩ => cmP_pre f1 ?_⟩
        have hF4' := FRr_mono (lo' := i + 2) (hi' := i + 9) hF4 (Nat.le_refl _) (by omega)
        refine ⟨SC_net hS3 hF4' hN4, FRr_tr (FRr_mono (FRr_tr hF2 hF3) (by omega) (by omega)) (FRr_mono hF4' (by omega) (by omega)), Or.inl ⟨rfl, rfl, ?_, ?_⟩⟩
        · rw [(hF4.2.2.2 i (by omega) 3).1, s3, r3]
        · rw [(hF4.2.2.2 i (by omega) 4).1, s4, r4]
      · rw [iteC_f s0, s1]
        simp (disch := omega) only [nI_mul, nI_add, nI_clamp, nI_inE, nI_leE, nI_ltE, nI_eqE, nI_eqz, nI_ltz, nI_gez, nI_lez, nI_gtz, nI_m1, nI_m1', nI_ltm, nI_gem, nI_gtm, nI_lem, nI_00, nI_01, nI_10, nI_11, bI_z, bI_1, bI_0, bI_b, bI_nz, bit_e, arK_i, arK_b, arK_j, true_and, and_true, ne_eq, not_false_eq_true, not_true_eq_false, false_and, and_false, true_or, or_true, false_or, or_false, Classical.not_not, forall_const, true_implies, implies_true, false_implies, eq_self]
        exact cmP_pre f1 ⟨hS3, FRr_mono (FRr_tr hF2 hF3) (by omega) (by omega), Or.inr ⟨s0, rfl, s3, s4⟩⟩
    · rw [iteC_f r0, r1]
      simp (disch := omega) only [nI_mul, nI_add, nI_clamp, nI_inE, nI_leE, nI_ltE, nI_eqE, nI_eqz, nI_ltz, nI_gez, nI_lez, nI_gtz, nI_m1, nI_m1', nI_ltm, nI_gem, nI_gtm, nI_lem, nI_00, nI_01, nI_10, nI_11, bI_z, bI_1, bI_0, bI_b, bI_nz, bit_e, arK_i, arK_b, arK_j, true_and, and_true, ne_eq, not_false_eq_true, not_true_eq_false, false_and, and_false, true_or, or_true, false_or, or_false, Classical.not_not, forall_const, true_implies, implies_true, false_implies, eq_self]
      exact cmP_pre f1 ⟨hS2, FRr_mono hF2 (by omega) (by omega), Or.inr ⟨r0, rfl, r3, r4⟩⟩
  · have ec : hdS U n w t = (1, t.2.1, w, t) := iteC_f g
    rw [ec]
    subst f0
    have fin : cmP h h' i U n (1, t.2.1, w, t) (nI 0) := ⟨SC_fo hS f1, FRr_mono f1.1 (by omega) (by omega), Or.inr ⟨by show ¬ 1 = 0; omega, rfl, f2, f3⟩⟩
    first | exact fin | exact ⟨Or.inl nI_0, fin⟩
end SCR
