section SCR
variable {x : CX}
noncomputable def cmB (U : Nat → Int32) (n : Nat) (w : Nat → Int32) (t : TK) (off : Nat) : CR :=
  let p := numS U n t (nI 0) (w 1 - nI 1)
  let q := numS U n p.2.2.2 (nI 0) (w 0 - nI 1)
  let v := numS U n q.2.2.2 (nI 0) (nI 9)
  iteC (p.1 = 0) (iteC (q.1 = 0) (iteC (v.1 = 0) (0, 0, udW w (off + (p.2.2.1.toNatClampNeg * 8 + q.2.2.1.toNatClampNeg)) v.2.2.1, v.2.2.2) (v.1, v.2.1, w, v.2.2.2)) (q.1, q.2.1, w, q.2.2.2)) (p.1, p.2.1, w, p.2.2.2)
theorem c_readArcT {h : MH} {i n np nt f off : Nat} {U w : Nat → Int32} {t : TK} (hS : SC h i U n w t) (hB : NB w np nt) (hf : isTg f off) : CT x sX3_readArcFromTransition [.ref i, .ref (mP h (i + 2) f)] h (pI fun r h' => cmP h h' i U n (cmB U n w t off) r) xNo := by
  have a1 := hS.1.1
  have a7 := hS.1.2.2.2.2.2.2.1
  have n0 := hS.2.1.1.1
  have n1 : mI h (i + 2) 1 = w 1 := hS.2.1.1.2.2.1
  have hnp := hB.2.2.2.1
  have hnt := hB.2.2.2.2.2
  (refine CT_of (o := 3) rfl (by decide +kernel) (by simp [Value.category, sX3_readArcFromTransition]) (MW_ev kX3_readArcFromTransition 300 ?_); show evS _ _ _ _ _ _ 300 0 (0, 0) [.ref i, .ref (mP h (i + 2) f), .null, .null, .null] [] _; simp only [st_iconst, st_lconst, st_ldc2_w, st_ldc, st_iload, st_lload, st_aload, st_istore, st_astore, st_lstore, st_iinc, st_iadd, st_isub, st_imul, st_idiv, st_irem, st_iand, st_ior, st_ishl, st_ishr, st_iushr, st_ladd, st_lmul, st_lshl, st_lushr, st_lcmp, st_i2l, st_l2i, st_i2b, st_i2c, st_i2d, st_i2f, st_dconst, st_fconst, st_ddiv, st_fdiv, st_dup, st_dup2, st_pop, st_goto, st_if_icmp, st_ifCond, st_tableswitch, st_lookupswitch, st_iaload, st_baload, st_laload, st_aaload, st_iastore, st_bastore, st_lastore, st_aastore, st_saload, st_faload, st_jsr, st_caload, st_d2i, st_d2f, st_ineg, st_ixor, st_dup_x1, st_aconst_null, st_ifnonnull, st_castore, st_getstatic, st_frem, st_drem, st_monitorexit, st_monitorenter, st_invokeinterface, st_newarray, st_anewarray, st_multianewarray, asI_c, asJ_c, asR_c, asD_c, asF_c, popI_c, popJ_c, popR_c, popD_c, popF_c, pop1_c, okSt_0, okSt_S, rcv_0, rcv_1, rcv_2, rcv_3, rcv_4, rcv_5, rcv_8, pI_c, pJ_c, pR_c, pV_c, pD_c, pF_c, cmp_eq, cmp_ne, cmp_lt, cmp_ge, cmp_gt, cmp_le, nth_0, nth_S, set_0, set_S, cat_int, cat_ref, cat_long, cat_double, cat_float, cat_null, catS_0, catS_S, swT_0, swT_S, swL_0, swL_S, Nat.add_zero, Nat.reduceAdd, Nat.reduceSub, Nat.reduceLT, Nat.reduceLeDiff, true_and, and_true, eq_self, eX3_readArcFromTransition_0, fX3_readArcFromTransition_0, eX3_readArcFromTransition_1, cI_0, eX3_readArcFromTransition_2, eX3_readArcFromTransition_3, gf3_22, eX3_readArcFromTransition_6, gf3_133, eX3_readArcFromTransition_9, cI_1, eX3_readArcFromTransition_10, eX3_readArcFromTransition_11, iv3_63, c_X3_readNumber, eX3_readArcFromTransition_14, eX3_readArcFromTransition_15, eX3_readArcFromTransition_16, cI_m1, eX3_readArcFromTransition_17, tn_24, eX3_readArcFromTransition_20, eX3_readArcFromTransition_21, tn_38, eX3_readArcFromTransition_24, eX3_readArcFromTransition_25, eX3_readArcFromTransition_26, eX3_readArcFromTransition_27, eX3_readArcFromTransition_30, gf3_119, eX3_readArcFromTransition_33, eX3_readArcFromTransition_34, eX3_readArcFromTransition_35, eX3_readArcFromTransition_38, eX3_readArcFromTransition_39, eX3_readArcFromTransition_40, eX3_readArcFromTransition_41, tn_48, eX3_readArcFromTransition_44, eX3_readArcFromTransition_45, tn_55, eX3_readArcFromTransition_48, eX3_readArcFromTransition_49, eX3_readArcFromTransition_50, cI_9, eX3_readArcFromTransition_52, eX3_readArcFromTransition_55, eX3_readArcFromTransition_57, eX3_readArcFromTransition_59, eX3_readArcFromTransition_60, tn_65, eX3_readArcFromTransition_63, eX3_readArcFromTransition_64, eX3_readArcFromTransition_65, eX3_readArcFromTransition_66, eX3_readArcFromTransition_67, eX3_readArcFromTransition_68, iv3_136, c_X2_arc, eX3_readArcFromTransition_71, eX3_readArcFromTransition_73, eX3_readArcFromTransition_74, eX3_readArcFromTransition_75, d_X3_readArcFromTransition, re_X3_readArcFromTransition])
  simp (disch := omega) only [nI_mul, nI_add, nI_clamp, nI_inE, nI_leE, nI_ltE, nI_eqE, nI_eqz, nI_ltz, nI_gez, nI_lez, nI_gtz, nI_m1, nI_m1', nI_ltm, nI_gem, nI_gtm, nI_lem, nI_00, nI_01, nI_10, nI_11, bI_z, bI_1, bI_0, bI_b, bI_nz, bit_e, arK_i, arK_b, arK_j, true_and, and_true, ne_eq, not_false_eq_true, not_true_eq_false, false_and, and_false, true_or, or_true, false_or, or_false, Classical.not_not, forall_const, true_implies, implies_true, false_implies, eq_self, a1, a7, n0, n1]
  refine ⟨by omega, call_num hS fun h1 hS1 hF1 hr => ?_⟩
  have e1 : mP h1 (i + 2) f = mP h (i + 2) f := (hF1.2.2.2 (i + 2) (by omega) f).2.1
  obtain ⟨P, hP⟩ : ∃ P, P = numS U n t (nI 0) (w 1 - nI 1) := ⟨_, rfl⟩
  rw [← hP] at hS1 hr
  rw [← hP]
  rcases hr with ⟨r0, r1, r2, r3, r4⟩ | ⟨r0, r1, r3, r4⟩
  · rw [hB.2.1] at r2
    obtain ⟨p, hp, ep⟩ := num_nat (by omega) r1 r2
    have b1 := hS1.1.1
    have b7 := hS1.1.2.2.2.2.2.2.1
    have m0 := hS1.2.1.1.1
    have m1 : mI h1 (i + 2) 0 = w 0 := hS1.2.1.1.2.1
    rw [ep]
    simp (disch := omega) only [nI_mul, nI_add, nI_clamp, nI_inE, nI_leE, nI_ltE, nI_eqE, nI_eqz, nI_ltz, nI_gez, nI_lez, nI_gtz, nI_m1, nI_m1', nI_ltm, nI_gem, nI_gtm, nI_lem, nI_00, nI_01, nI_10, nI_11, bI_z, bI_1, bI_0, bI_b, bI_nz, bit_e, arK_i, arK_b, arK_j, true_and, and_true, ne_eq, not_false_eq_true, not_true_eq_false, false_and, and_false, true_or, or_true, false_or, or_false, Classical.not_not, forall_const, true_implies, implies_true, false_implies, eq_self, b1, b7, m0, m1]
    refine ⟨by omega, call_num hS1 fun h2 hS2 hF2 hr2 => ?_⟩
    have e2 : mP h2 (i + 2) f = mP h (i + 2) f := ((hF2.2.2.2 (i + 2) (by omega) f).2.1).trans e1
    obtain ⟨Q, hQ⟩ : ∃ Q, Q = numS U n P.2.2.2 (nI 0) (w 0 - nI 1) := ⟨_, rfl⟩
    rw [← hQ] at hS2 hr2
    rw [← hQ]
    rcases hr2 with ⟨s0, s1, s2, s3, s4⟩ | ⟨s0, s1, s3, s4⟩
    · rw [hB.1] at s2
      obtain ⟨q, hq, eq⟩ := num_nat (by omega) s1 s2
      have c1 := hS2.1.1
      rw [eq]
      simp (disch := omega) only [nI_mul, nI_add, nI_clamp, nI_inE, nI_leE, nI_ltE, nI_eqE, nI_eqz, nI_ltz, nI_gez, nI_lez, nI_gtz, nI_m1, nI_m1', nI_ltm, nI_gem, nI_gtm, nI_lem, nI_00, nI_01, nI_10, nI_11, bI_z, bI_1, bI_0, bI_b, bI_nz, bit_e, arK_i, arK_b, arK_j, true_and, and_true, ne_eq, not_false_eq_true, not_true_eq_false, false_and, and_false, true_or, or_true, false_or, or_false, Classical.not_not, forall_const, true_implies, implies_true, false_implies, eq_self, c1]
      refine call_num hS2 fun h3 hS3 hF3 hr3 => ?_
      have e3 : mP h3 (i + 2) f = mP h (i + 2) f := ((hF3.2.2.2 (i + 2) (by omega) f).2.1).trans e2
      obtain ⟨V, hV⟩ : ∃ V, V = numS U n Q.2.2.2 (nI 0) (nI 9) := ⟨_, rfl⟩
      rw [← hV] at hS3 hr3
      rw [← hV]
      have hC : cmB U n w t off = iteC (V.1 = 0) (0, 0, udW w (off + (p * 8 + q)) V.2.2.1, V.2.2.2) (V.1, V.2.1, w, V.2.2.2) := by
        unfold cmB
        simp only [← hP, ← hQ, ← hV]
        rw [ep, eq, nI_clamp (by omega), nI_clamp (by omega)]
        exact (iteC_t r0).trans (iteC_t s0)
      have hFF := FRr_mono (lo' := i) (hi' := i + 9) (FRr_tr hF1 (FRr_tr hF2 hF3)) (by omega) (by omega)
      rcases hr3 with ⟨t0, t1, t2, t3, t4⟩ | ⟨t0, t1, t3, t4⟩
      · have hv : ¬ V.2.2.1 = -1 := fun z => t1 (by rw [z]; decide)
        rw [iteC_t t0] at hC
        rw [hC]
        obtain ⟨g1, g2, g3, g4, g5⟩ := net_tg hS3.2.1 hf
        rw [e3] at g1 g2 g3 g4 g5
        refine ⟨fun _ => CI_pure (c_arc p q) ?_, fun z => absurd z hv⟩
        have hk : p * 8 + q < 80 := by omega
        simp (disch := omega) only [nI_mul, nI_add, nI_clamp, nI_inE, nI_leE, nI_ltE, nI_eqE, nI_eqz, nI_ltz, nI_gez, nI_lez, nI_gtz, nI_m1, nI_m1', nI_ltm, nI_gem, nI_gtm, nI_lem, nI_00, nI_01, nI_10, nI_11, bI_z, bI_1, bI_0, bI_b, bI_nz, bit_e, arK_i, arK_b, arK_j, true_and, and_true, ne_eq, not_false_eq_true, not_true_eq_false, false_and, and_false, true_or, or_true, false_or, or_false, Classical.not_not, forall_const, true_implies, implies_true, false_implies, eq_self, g1, g2]
        refine ⟨SC_net hS3 (FRr_sI (by omega) (by omega)) (g5 _ _ hk), FRr_tr hFF (FRr_sI (by omega) (by omega)), Or.inl ⟨rfl, rfl, ?_, ?_⟩⟩
        · rw [sI_Ia (by omega), t3, s3, r3]
        · rw [sI_Ia (by omega), t4, s4, r4]
      · rw [iteC_f t0] at hC
        rw [hC]
        exact ⟨fun z => absurd t1 z, fun _ => ⟨hS3, hFF, Or.inr ⟨t0, rfl, t3, t4⟩⟩⟩
    · rw [s1]
      simp (disch := omega) only [nI_mul, nI_add, nI_clamp, nI_inE, nI_leE, nI_ltE, nI_eqE, nI_eqz, nI_ltz, nI_gez, nI_lez, nI_gtz, nI_m1, nI_m1', nI_ltm, nI_gem, nI_gtm, nI_lem, nI_00, nI_01, nI_10, nI_11, bI_z, bI_1, bI_0, bI_b, bI_nz, bit_e, arK_i, arK_b, arK_j, true_and, and_true, ne_eq, not_false_eq_true, not_true_eq_false, false_and, and_false, true_or, or_true, false_or, or_false, Classical.not_not, forall_const, true_implies, implies_true, false_implies, eq_self]
      have ec : cmB U n w t off = (Q.1, Q.2.1, w, Q.2.2.2) := by unfold cmB; simp only [← hP, ← hQ]; exact (iteC_t r0).trans (iteC_f s0)
      rw [ec]
      exact ⟨hS2, FRr_mono (FRr_tr hF1 hF2) (by omega) (by omega), Or.inr ⟨s0, rfl, s3, s4⟩⟩
  · rw [r1]
    simp (disch := omega) only [nI_mul, nI_add, nI_clamp, nI_inE, nI_leE, nI_ltE, nI_eqE, nI_eqz, nI_ltz, nI_gez, nI_lez, nI_gtz, nI_m1, nI_m1', nI_ltm, nI_gem, nI_gtm, nI_lem, nI_00, nI_01, nI_10, nI_11, bI_z, bI_1, bI_0, bI_b, bI_nz, bit_e, arK_i, arK_b, arK_j, true_and, and_true, ne_eq, not_false_eq_true, not_true_eq_false, false_and, and_false, true_or, or_true, false_or, or_false, Classical.not_not, forall_const, true_implies, implies_true, false_implies, eq_self]
    have ec : cmB U n w t off = (P.1, P.2.1, w, P.2.2.2) := by unfold cmB; simp only [← hP]; exact iteC_f r0
    rw [ec]
    exact ⟨hS1, FRr_mono hF1 (by omega) (by omega), Or.inr ⟨r0, rfl, r3, r4⟩⟩
end SCR
