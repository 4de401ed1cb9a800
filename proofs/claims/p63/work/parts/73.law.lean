section LAW
variable {x : CX}
def PL : Option Value → MH → Prop := pI fun r _ => r = nI 1
theorem fw_18 : ∀ t, t < 10 → ∃ k, k ≤ 5 ∧ fwN (18 + t) = nI k := by
  have h : ∀ t, t < 10 → cl (fwN (18 + t)) ≤ 5 ∧ fwN (18 + t) = nI (cl (fwN (18 + t))) := by decide +kernel
  exact fun t ht => ⟨_, (h t ht).1, (h t ht).2⟩
theorem law_body {h : MH} (hN : xN x ≤ 260) (hz : 0 < mZ h) : MW x sL_law 6 PL xNo 0 (600086, 7301442) [.ref (xB x), .null, .null] [] h := by
  obtain ⟨i, hi⟩ : ∃ i, i = mZ h := ⟨_, rfl⟩
  (refine MW_ev kL_law 300 ?_; simp only [st_iconst, st_lconst, st_ldc2_w, st_ldc, st_iload, st_lload, st_aload, st_istore, st_astore, st_lstore, st_iinc, st_iadd, st_isub, st_imul, st_idiv, st_irem, st_iand, st_ior, st_ishl, st_ishr, st_iushr, st_ladd, st_lmul, st_lshl, st_lushr, st_lcmp, st_i2l, st_l2i, st_i2b, st_i2c, st_i2d, st_i2f, st_dconst, st_fconst, st_ddiv, st_fdiv, st_dup, st_dup2, st_pop, st_goto, st_if_icmp, st_ifCond, st_tableswitch, st_lookupswitch, st_iaload, st_baload, st_laload, st_aaload, st_iastore, st_bastore, st_lastore, st_aastore, st_saload, st_faload, st_jsr, st_caload, st_d2i, st_d2f, st_ineg, st_ixor, st_dup_x1, st_aconst_null, st_ifnonnull, st_castore, st_getstatic, st_frem, st_drem, st_monitorexit, st_monitorenter, st_invokeinterface, st_newarray, st_anewarray, st_multianewarray, asI_c, asJ_c, asR_c, asD_c, asF_c, popI_c, popJ_c, popR_c, popD_c, popF_c, pop1_c, okSt_0, okSt_S, rcv_0, rcv_1, rcv_2, rcv_3, rcv_4, rcv_5, rcv_8, pI_c, pJ_c, pR_c, pV_c, pD_c, pF_c, cmp_eq, cmp_ne, cmp_lt, cmp_ge, cmp_gt, cmp_le, nth_0, nth_S, set_0, set_S, cat_int, cat_ref, cat_long, cat_double, cat_float, cat_null, catS_0, catS_S, swT_0, swT_S, swL_0, swL_S, Nat.add_zero, Nat.reduceAdd, Nat.reduceSub, Nat.reduceLT, Nat.reduceLeDiff, true_and, and_true, eq_self, eL_law_0, fL_law_0, nw6_20, eL_law_3, eL_law_4, iv6_250, c_X4_init, eL_law_7, eL_law_8, eL_law_9, iv6_251, c_L_isSound, eL_law_12, tn_37, eL_law_15, eL_law_16, iv6_255, c_L_areEffects, eL_law_19, eL_law_22, eL_law_23, iv6_258, c_L_areMarkings, eL_law_26, eL_law_29, eL_law_30, eL_law_31, iv6_261, c_L_began, eL_law_34, tn_39, eL_law_37, cI_0, eL_law_38, eL_law_39, cI_10, eL_law_41, eL_law_42, fL_law_42, eL_law_43, cI_46, eL_law_45, tn_93, eL_law_48, eL_law_49, eL_law_50, eL_law_51, iv6_265, c_L_act, eL_law_54, eL_law_55, eL_law_58, tn_68, eL_law_61, eL_law_62, eL_law_65, tn_70, eL_law_68, eL_law_69, eL_law_70, eL_law_71, cI_6, eL_law_73, eL_law_74, cI_4, eL_law_75, tn_87, eL_law_78, eL_law_79, eL_law_82, eL_law_85, eL_law_86, eL_law_87, cI_2, eL_law_90, tn_42, eL_law_93, cI_1, eL_law_94, d_L_law, re_L_law])
  have nz : ¬ nI 1 = 0 := by decide
  refine CV_of (c_petInit (sN_Ke rfl) (by omega) rfl) (fun _ _ z => z.elim) fun h1 ⟨hP1, z1, _⟩ => ?_
  rw [← hi] at hP1 z1 ⊢
  have hz1 : i + 119 ≤ mZ h1 := by omega
  refine CI_of (l_sound hP1 gd_0) (fun _ _ z => z.elim) fun r h2 ⟨er, hP2, hF2⟩ => ?_
  subst er
  refine ⟨fun z => absurd z nz, fun _ => ?_⟩
  have hz2 := Nat.le_trans hz1 hF2.1
  refine CI_of (l_effects (n := 5) hP2 gd_0 fw_18 (by decide) hz2) (fun _ _ z => z.elim) fun r h3 ⟨er, s3, hW3, hN3, hG3, hP3, hz3⟩ => ?_
  subst er
  refine ⟨fun z => absurd z nz, fun _ => ?_⟩
  refine CI_of (l_markings hP3 hG3 hz3) (fun _ _ z => z.elim) fun r h4 ⟨er, hP4, hz4⟩ => ?_
  subst er
  refine ⟨fun z => absurd z nz, fun _ => ?_⟩
  refine CI_of (l_began hP4 hG3 (hN3.trans rfl) hN hz4) (fun _ _ z => z.elim) fun r h5 ⟨⟨m5, hm5, er⟩, s5, hG5, hf5, hP5, hz5⟩ => ?_
  subst er
  refine ⟨fun _ => ?_, fun z => absurd (nI_pos' hm5) z⟩
  refine MW_le (b' := (180000 - 10000 * 0, 1800000 - 100000 * 0)) (by show _ ≤ _; omega) (by show _ ≤ _; omega) ?_
  refine loop_up 18 (P := fun j => ∀ h6 s6, PO h6 i s6 → GD s6 → FB (aW s6) (6 * j) → i + 119 ≤ mZ h6 → MW x sL_law 6 PL xNo 42 (180000 - 10000 * j, 1800000 - 100000 * j) [.ref (xB x), .ref i, .int (nI (10 + 2 * j))] [] h6) (fun j hj ih h6 s6 hP6 hG6 hf6 hz6 => ?_) 0 (Nat.zero_le _) h5 s5 hP5 hG5 hf5 hz5
  (refine MW_ev kL_law 300 ?_; simp only [st_iconst, st_lconst, st_ldc2_w, st_ldc, st_iload, st_lload, st_aload, st_istore, st_astore, st_lstore, st_iinc, st_iadd, st_isub, st_imul, st_idiv, st_irem, st_iand, st_ior, st_ishl, st_ishr, st_iushr, st_ladd, st_lmul, st_lshl, st_lushr, st_lcmp, st_i2l, st_l2i, st_i2b, st_i2c, st_i2d, st_i2f, st_dconst, st_fconst, st_ddiv, st_fdiv, st_dup, st_dup2, st_pop, st_goto, st_if_icmp, st_ifCond, st_tableswitch, st_lookupswitch, st_iaload, st_baload, st_laload, st_aaload, st_iastore, st_bastore, st_lastore, st_aastore, st_saload, st_faload, st_jsr, st_caload, st_d2i, st_d2f, st_ineg, st_ixor, st_dup_x1, st_aconst_null, st_ifnonnull, st_castore, st_getstatic, st_frem, st_drem, st_monitorexit, st_monitorenter, st_invokeinterface, st_newarray, st_anewarray, st_multianewarray, asI_c, asJ_c, asR_c, asD_c, asF_c, popI_c, popJ_c, popR_c, popD_c, popF_c, pop1_c, okSt_0, okSt_S, rcv_0, rcv_1, rcv_2, rcv_3, rcv_4, rcv_5, rcv_8, pI_c, pJ_c, pR_c, pV_c, pD_c, pF_c, cmp_eq, cmp_ne, cmp_lt, cmp_ge, cmp_gt, cmp_le, nth_0, nth_S, set_0, set_S, cat_int, cat_ref, cat_long, cat_double, cat_float, cat_null, catS_0, catS_S, swT_0, swT_S, swL_0, swL_S, Nat.add_zero, Nat.reduceAdd, Nat.reduceSub, Nat.reduceLT, Nat.reduceLeDiff, true_and, and_true, eq_self, eL_law_0, fL_law_0, nw6_20, eL_law_3, eL_law_4, iv6_250, c_X4_init, eL_law_7, eL_law_8, eL_law_9, iv6_251, c_L_isSound, eL_law_12, tn_37, eL_law_15, eL_law_16, iv6_255, c_L_areEffects, eL_law_19, eL_law_22, eL_law_23, iv6_258, c_L_areMarkings, eL_law_26, eL_law_29, eL_law_30, eL_law_31, iv6_261, c_L_began, eL_law_34, tn_39, eL_law_37, cI_0, eL_law_38, eL_law_39, cI_10, eL_law_41, eL_law_42, fL_law_42, eL_law_43, cI_46, eL_law_45, tn_93, eL_law_48, eL_law_49, eL_law_50, eL_law_51, iv6_265, c_L_act, eL_law_54, eL_law_55, eL_law_58, tn_68, eL_law_61, eL_law_62, eL_law_65, tn_70, eL_law_68, eL_law_69, eL_law_70, eL_law_71, cI_6, eL_law_73, eL_law_74, cI_4, eL_law_75, tn_87, eL_law_78, eL_law_79, eL_law_82, eL_law_85, eL_law_86, eL_law_87, cI_2, eL_law_90, tn_42, eL_law_93, cI_1, eL_law_94, d_L_law, re_L_law])
  rcases Nat.lt_or_ge j 18 with hl | hl
  · simp (disch := omega) only [nI_mul, nI_add, nI_clamp, nI_inE, nI_leE, nI_ltE, nI_eqE, nI_eqz, nI_ltz, nI_gez, nI_lez, nI_gtz, nI_m1, nI_m1', nI_ltm, nI_gem, nI_gtm, nI_lem, nI_00, nI_01, nI_10, nI_11, bI_z, bI_1, bI_0, bI_b, bI_nz, bit_e, arK_i, arK_b, arK_j, true_and, and_true, ne_eq, not_false_eq_true, not_true_eq_false, false_and, and_false, true_or, or_true, false_or, or_false, Classical.not_not, forall_const, true_implies, implies_true, false_implies, eq_self, show ¬ 46 ≤ 10 + 2 * j by omega]
    refine ⟨by omega, CV_of (l_act hP6 hG6 hf6 hN (by omega) hz6) (fun _ _ z => z.elim) fun h7 ⟨s7, hG7, hf7, hP7, hz7⟩ => ⟨by omega, ?_⟩⟩
    refine CI_of (l_sound hP7 hG7) (fun _ _ z => z.elim) fun r h8 ⟨er, hP8, hF8⟩ => ?_
    subst er
    refine ⟨fun z => absurd z nz, fun _ => ⟨by omega, ?_⟩⟩
    refine CI_of (l_effects (n := 6 * j + 6) hP8 hG7 hf7 (by omega) (Nat.le_trans hz7 hF8.1)) (fun _ _ z => z.elim) fun r h9 ⟨er, s9, hW9, _, hG9, hP9, hz9⟩ => ?_
    subst er
    have hf9 : FB (aW s9) (6 * (j + 1)) := by rw [hW9]; exact hf7
    refine ⟨fun _ => ⟨by decide, fun _ => ?_, fun _ => ⟨by omega, ?_⟩⟩, fun z => absurd z nz⟩
    · exact MW_le (by show _ ≤ _; omega) (by show _ ≤ _; omega) (ih hl h9 s9 hP9 hG9 hf9 hz9)
    · refine CI_of (l_markings hP9 hG9 hz9) (fun _ _ z => z.elim) fun r hA ⟨er, hPA, hzA⟩ => ?_
      subst er
      exact ⟨fun _ => MW_le (by show _ ≤ _; omega) (by show _ ≤ _; omega) (ih hl hA s9 hPA hG9 hf9 hzA), fun z => absurd z nz⟩
  · simp (disch := omega) only [nI_mul, nI_add, nI_clamp, nI_inE, nI_leE, nI_ltE, nI_eqE, nI_eqz, nI_ltz, nI_gez, nI_lez, nI_gtz, nI_m1, nI_m1', nI_ltm, nI_gem, nI_gtm, nI_lem, nI_00, nI_01, nI_10, nI_11, bI_z, bI_1, bI_0, bI_b, bI_nz, bit_e, arK_i, arK_b, arK_j, true_and, and_true, ne_eq, not_false_eq_true, not_true_eq_false, false_and, and_false, true_or, or_true, false_or, or_false, Classical.not_not, forall_const, true_implies, implies_true, false_implies, eq_self, show 46 ≤ 10 + 2 * j by omega]
    exact ⟨nI 1, rfl, rfl⟩
end LAW
