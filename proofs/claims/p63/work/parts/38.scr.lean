section SCR
variable {x : CX}
noncomputable def cmF (U : Nat → Int32) (n : Nat) (w : Nat → Int32) (np : Nat) (t : TK) : CR :=
  let p := numS U n t (nI 0) (w 1 - nI 1)
  iteC (p.1 = 0) (iteC (enW w np p.2.2.1.toNatClampNeg) (0, 0, fireW w np p.2.2.1.toNatClampNeg, p.2.2.2) (3, t.2.1, w, p.2.2.2)) (p.1, p.2.1, w, p.2.2.2)
theorem c_readFire {h : MH} {i n np nt : Nat} {U w : Nat → Int32} {t : TK} (hS : SC h i U n w t) (hB : NB w np nt) : CT x sX3_readFire [.ref i] h (pI fun r h' => cmP h h' i U n (cmF U n w np t) r) xNo := by
  have a1 := hS.1.1
  have a7 := hS.1.2.2.2.2.2.2.1
  have n0 := hS.2.1.1.1
  have n1 : mI h (i + 2) 1 = w 1 := hS.2.1.1.2.2.1
  have h6 := hS.2.2.1.2.1
  have hnt := hB.2.2.2.2.2
  (refine CT_of (o := 3) rfl (by decide +kernel) (by simp [Value.category, sX3_readFire]) (MW_ev kX3_readFire 300 ?_); show evS _ _ _ _ _ _ 300 0 (0, 0) [.ref i, .null, .null] [] _; simp only [st_iconst, st_lconst, st_ldc2_w, st_ldc, st_iload, st_lload, st_aload, st_istore, st_astore, st_lstore, st_iinc, st_iadd, st_isub, st_imul, st_idiv, st_irem, st_iand, st_ior, st_ishl, st_ishr, st_iushr, st_ladd, st_lmul, st_lshl, st_lushr, st_lcmp, st_i2l, st_l2i, st_i2b, st_i2c, st_i2d, st_i2f, st_dconst, st_fconst, st_ddiv, st_fdiv, st_dup, st_dup2, st_pop, st_goto, st_if_icmp, st_ifCond, st_tableswitch, st_lookupswitch, st_iaload, st_baload, st_laload, st_aaload, st_iastore, st_bastore, st_lastore, st_aastore, st_saload, st_faload, st_jsr, st_caload, st_d2i, st_d2f, st_ineg, st_ixor, st_dup_x1, st_aconst_null, st_ifnonnull, st_castore, st_getstatic, st_frem, st_drem, st_monitorexit, st_monitorenter, st_invokeinterface, st_newarray, st_anewarray, st_multianewarray, asI_c, asJ_c, asR_c, asD_c, asF_c, popI_c, popJ_c, popR_c, popD_c, popF_c, pop1_c, okSt_0, okSt_S, rcv_0, rcv_1, rcv_2, rcv_3, rcv_4, rcv_5, rcv_8, pI_c, pJ_c, pR_c, pV_c, pD_c, pF_c, cmp_eq, cmp_ne, cmp_lt, cmp_ge, cmp_gt, cmp_le, nth_0, nth_S, set_0, set_S, cat_int, cat_ref, cat_long, cat_double, cat_float, cat_null, catS_0, catS_S, swT_0, swT_S, swL_0, swL_S, Nat.add_zero, Nat.reduceAdd, Nat.reduceSub, Nat.reduceLT, Nat.reduceLeDiff, true_and, and_true, eq_self, eX3_readFire_0, fX3_readFire_0, eX3_readFire_1, gf3_35, eX3_readFire_4, eX3_readFire_5, eX3_readFire_6, cI_0, eX3_readFire_7, eX3_readFire_8, gf3_22, eX3_readFire_11, gf3_133, eX3_readFire_14, cI_1, eX3_readFire_15, eX3_readFire_16, iv3_63, c_X3_readNumber, eX3_readFire_19, eX3_readFire_20, eX3_readFire_21, cI_m1, eX3_readFire_22, tn_27, eX3_readFire_25, eX3_readFire_26, eX3_readFire_27, eX3_readFire_28, eX3_readFire_31, eX3_readFire_32, iv3_139, c_X2_allows, eX3_readFire_35, tn_50, eX3_readFire_38, eX3_readFire_39, cI_3, eX3_readFire_40, pf3_26, eX3_readFire_43, eX3_readFire_44, eX3_readFire_45, pf3_29, eX3_readFire_48, eX3_readFire_49, eX3_readFire_50, eX3_readFire_51, eX3_readFire_54, eX3_readFire_55, iv3_142, c_X2_fireOnce, eX3_readFire_58, eX3_readFire_59, d_X3_readFire, re_X3_readFire])
  simp (disch := omega) only [nI_mul, nI_add, nI_clamp, nI_inE, nI_leE, nI_ltE, nI_eqE, nI_eqz, nI_ltz, nI_gez, nI_lez, nI_gtz, nI_m1, nI_m1', nI_ltm, nI_gem, nI_gtm, nI_lem, nI_00, nI_01, nI_10, nI_11, bI_z, bI_1, bI_0, bI_b, bI_nz, bit_e, arK_i, arK_b, arK_j, true_and, and_true, ne_eq, not_false_eq_true, not_true_eq_false, false_and, and_false, true_or, or_true, false_or, or_false, Classical.not_not, forall_const, true_implies, implies_true, false_implies, eq_self, a1, a7, n0, n1, h6]
  refine ⟨by omega, call_num hS fun h1 hS1 hF1 hr => ?_⟩
  obtain ⟨P, hP⟩ : ∃ P, P = numS U n t (nI 0) (w 1 - nI 1) := ⟨_, rfl⟩
  rw [← hP] at hS1 hr
  rw [← hP]
  rcases hr with ⟨r0, r1, r2, r3, r4⟩ | ⟨r0, r1, r3, r4⟩
  · rw [hB.2.1] at r2
    obtain ⟨p, hp, ep⟩ := num_nat (by omega) r1 r2
    have b1 := hS1.1.1
    have b7 := hS1.1.2.2.2.2.2.2.1
    have m0 := hS1.2.1.1.1
    rw [ep]
    simp (disch := omega) only [nI_mul, nI_add, nI_clamp, nI_inE, nI_leE, nI_ltE, nI_eqE, nI_eqz, nI_ltz, nI_gez, nI_lez, nI_gtz, nI_m1, nI_m1', nI_ltm, nI_gem, nI_gtm, nI_lem, nI_00, nI_01, nI_10, nI_11, bI_z, bI_1, bI_0, bI_b, bI_nz, bit_e, arK_i, arK_b, arK_j, true_and, and_true, ne_eq, not_false_eq_true, not_true_eq_false, false_and, and_false, true_or, or_true, false_or, or_false, Classical.not_not, forall_const, true_implies, implies_true, false_implies, eq_self, b1, b7, m0]
    have hC : cmF U n w np t = iteC (enW w np p) (0, 0, fireW w np p, P.2.2.2) (3, t.2.1, w, P.2.2.2) := by
      unfold cmF
      simp only [← hP]
      rw [ep, nI_clamp (by omega)]
      exact iteC_t r0
    rw [hC]
    refine ⟨by omega, CI_pure (c_allows hS1.2.1.1 hB (t := p) (by omega)) ?_⟩
    simp (disch := omega) only [nI_mul, nI_add, nI_clamp, nI_inE, nI_leE, nI_ltE, nI_eqE, nI_eqz, nI_ltz, nI_gez, nI_lez, nI_gtz, nI_m1, nI_m1', nI_ltm, nI_gem, nI_gtm, nI_lem, nI_00, nI_01, nI_10, nI_11, bI_z, bI_1, bI_0, bI_b, bI_nz, bit_e, arK_i, arK_b, arK_j, true_and, and_true, ne_eq, not_false_eq_true, not_true_eq_false, false_and, and_false, true_or, or_true, false_or, or_false, Classical.not_not, forall_const, true_implies, implies_true, false_implies, eq_self, sI_K, sI_L, sI_P, sI_J, sI_Z, sI_Ie, sR_K, sR_L, sR_P, sR_J, sR_Z, sR_Ie, sP_K, sP_L, sP_I, sP_J, sP_Z, sP_Pe, sJ_K, sJ_L, sJ_P, sJ_I, sJ_Z, sJ_Je, b1, b7, m0]
    refine ⟨fun g => ⟨by omega, CV_of (c_fireOnce hS1.2.1 hB (by omega)) (fun _ _ z => z.elim) fun h2 ⟨hN2, hF2⟩ => ?_⟩, fun g => ?_⟩
    · rw [iteC_t g]
      have hF2' := FRr_mono (lo' := i + 2) (hi' := i + 9) hF2 (Nat.le_refl _) (by omega)
      refine ⟨SC_net hS1 hF2' hN2, FRr_mono (FRr_tr (FRr_mono (lo' := i) (hi' := i + 9) hF1 (by omega) (by omega)) (FRr_mono (lo' := i) (hi' := i + 9) hF2' (by omega) (by omega))) (by omega) (by omega), Or.inl ⟨rfl, rfl, ?_, ?_⟩⟩
      · rw [(hF2.2.2.2 i (by omega) 3).1, r3]
      · rw [(hF2.2.2.2 i (by omega) 4).1, r4]
    · rw [iteC_f g]
      refine ⟨SC_fo hS1 (FO_tr (FO_sI (Or.inl rfl)) (FO_sI (Or.inr rfl))), FRr_tr (FRr_mono hF1 (by omega) (by omega)) (FRr_tr (FRr_sI (by omega) (by omega)) (FRr_sI (by omega) (by omega))), Or.inr ⟨by show ¬ 3 = 0; omega, rfl, by rw [sI_Ik (by decide), sI_Ie], sI_Ie⟩⟩
  · rw [r1]
    simp (disch := omega) only [nI_mul, nI_add, nI_clamp, nI_inE, nI_leE, nI_ltE, nI_eqE, nI_eqz, nI_ltz, nI_gez, nI_lez, nI_gtz, nI_m1, nI_m1', nI_ltm, nI_gem, nI_gtm, nI_lem, nI_00, nI_01, nI_10, nI_11, bI_z, bI_1, bI_0, bI_b, bI_nz, bit_e, arK_i, arK_b, arK_j, true_and, and_true, ne_eq, not_false_eq_true, not_true_eq_false, false_and, and_false, true_or, or_true, false_or, or_false, Classical.not_not, forall_const, true_implies, implies_true, false_implies, eq_self]
    have ec : cmF U n w np t = (P.1, P.2.1, w, P.2.2.2) := by unfold cmF; simp only [← hP]; exact iteC_f r0
    rw [ec]
    exact ⟨hS1, FRr_mono hF1 (by omega) (by omega), Or.inr ⟨r0, rfl, r3, r4⟩⟩
end SCR
