section MOD
variable {x : CX}
theorem rs_loop {hs h0 : MH} {j : Nat} {s : AS} (hO : MO hs j s) (hF0 : FI hs h0 (SZ j)) (z0 : mI h0 j 0 = nI 0) (hb : MA h0 (j + 14) (aW s)) : ∀ (f : Nat) (c : CR) (h1 : MH), CS h0 h1 j (aU s) (aN s) c → (c.1 = 0 → ∃ np nt, NB c.2.2.1 np nt) → rC (lpS (aU s) (aN s) f c) (exR s) → (c.1 = 0 → ¬ c.2.2.2.1 = 0 → aN s < f + c.2.2.2.2.2) → MW x sX5_runScript 5 (pI (oaM (qScr s) hs j)) xNo 86 (0, 0) [.ref j, .null, .null] [] h1 := by
  intro f
  induction f with
  | zero =>
    intro c h1 hC hB hr hf
    refine rs_exit hO hF0 z0 hb hC hB hr fun z => ?_
    have := hf z.1 z.2
    have := (hC.2.2.2.2.1 z.1).2.2.2.2.1.2.1
    omega
  | succ f ih =>
    intro c h1 hC hB hr hf
    by_cases hx : c.1 = 0 ∧ ¬ c.2.2.2.1 = 0
    · obtain ⟨g, g2⟩ := hx
      obtain ⟨np, nt, hB⟩ := hB g
      have hf := hf g g2
      have eS : lpS (aU s) (aN s) (f + 1) c = lpS (aU s) (aN s) f (stS (aU s) (aN s) (cmS (aU s) (aN s) c.2.2.1 np nt c.2.2.2)) := by
        rw [← npW_e hB, ← ntW_e hB]; exact iteC_t ⟨g, g2⟩
      rw [eS] at hr
      have a0 := hC.1.1.1
      obtain ⟨m22, m18, m17, m19, mb, mv⟩ := hC.2.2.2.2.1 g
      have hM := cm_TM (U := aU s) (w := c.2.2.1) (np := np) (nt := nt) mb
      have hBc := cm_B (U := aU s) (n := aN s) (t := c.2.2.2) hB
      have hk0 : ¬ mI h1 j 19 = 0 := fun z => by
        rw [m19] at z
        have h5 := mb.2.2
        generalize c.2.2.2.1 = q at *
        unfold kM at z
        rcases q with _ | _ | _ | _ | _ | q
        · exact g2 rfl
        all_goals first | exact absurd z (by decide) | omega
      (refine MW_ev kX5_runScript 300 ?_; simp only [st_iconst, st_lconst, st_ldc2_w, st_ldc, st_iload, st_lload, st_aload, st_istore, st_astore, st_lstore, st_iinc, st_iadd, st_isub, st_imul, st_idiv, st_irem, st_iand, st_ior, st_ishl, st_ishr, st_iushr, st_ladd, st_lmul, st_lshl, st_lushr, st_lcmp, st_i2l, st_l2i, st_i2b, st_i2c, st_i2d, st_i2f, st_dconst, st_fconst, st_ddiv, st_fdiv, st_dup, st_dup2, st_pop, st_goto, st_if_icmp, st_ifCond, st_tableswitch, st_lookupswitch, st_iaload, st_baload, st_laload, st_aaload, st_iastore, st_bastore, st_lastore, st_aastore, st_saload, st_faload, st_jsr, st_getstatic, st_frem, st_drem, st_monitorexit, st_monitorenter, st_invokeinterface, st_newarray, st_anewarray, st_multianewarray, asI_c, asJ_c, asR_c, asD_c, asF_c, popI_c, popJ_c, popR_c, popD_c, popF_c, pop1_c, okSt_0, okSt_S, rcv_0, rcv_1, rcv_2, rcv_3, rcv_4, rcv_5, rcv_8, pI_c, pJ_c, pR_c, pV_c, pD_c, pF_c, cmp_eq, cmp_ne, cmp_lt, cmp_ge, cmp_gt, cmp_le, nth_0, nth_S, set_0, set_S, cat_int, cat_ref, cat_long, cat_double, cat_float, cat_null, catS_0, catS_S, swT_0, swT_S, swL_0, swL_S, Nat.add_zero, Nat.reduceAdd, Nat.reduceSub, Nat.reduceLT, Nat.reduceLeDiff, true_and, and_true, eq_self, eX5_runScript_0, fX5_runScript_0, eX5_runScript_1, cI_0, eX5_runScript_2, pf5_59, eX5_runScript_5, eX5_runScript_6, gf5_9, eX5_runScript_9, eX5_runScript_10, gf5_21, eX5_runScript_13, iv5_65, c_X5_copy, eX5_runScript_16, eX5_runScript_17, eX5_runScript_18, pf5_174, eX5_runScript_21, eX5_runScript_22, eX5_runScript_23, pf5_192, eX5_runScript_26, eX5_runScript_27, cI_m1, eX5_runScript_28, pf5_204, eX5_runScript_31, eX5_runScript_32, iv5_211, c_X5_scan, eX5_runScript_35, eX5_runScript_36, eX5_runScript_38, iv5_228, c_X5_isWord, eX5_runScript_41, tn_49, eX5_runScript_44, eX5_runScript_45, cI_1, eX5_runScript_46, iv5_214, c_X5_fail, eX5_runScript_49, eX5_runScript_50, iv5_220, c_X5_advance, eX5_runScript_53, eX5_runScript_54, eX5_runScript_55, cI_8, eX5_runScript_57, iv5_223, c_X5_number, eX5_runScript_60, eX5_runScript_61, eX5_runScript_62, eX5_runScript_63, cI_10, eX5_runScript_65, eX5_runScript_68, eX5_runScript_69, eX5_runScript_70, iv5_232, c_X5_ends, eX5_runScript_73, tn_82, eX5_runScript_76, eX5_runScript_77, eX5_runScript_78, eX5_runScript_79, iv5_47, c_X5_start, eX5_runScript_82, eX5_runScript_83, eX5_runScript_86, fX5_runScript_86, eX5_runScript_87, iv5_207, c_X5_good, eX5_runScript_90, tn_111, eX5_runScript_93, eX5_runScript_94, gf5_180, eX5_runScript_97, eX5_runScript_100, eX5_runScript_101, iv5_235, c_X5_command, eX5_runScript_104, eX5_runScript_105, eX5_runScript_108, tn_86, eX5_runScript_111, eX5_runScript_112, eX5_runScript_113, pf5_171, eX5_runScript_116, eX5_runScript_117, eX5_runScript_118, gf5_192, eX5_runScript_121, pf5_238, eX5_runScript_124, eX5_runScript_125, eX5_runScript_126, gf5_204, eX5_runScript_129, pf5_43, eX5_runScript_132, eX5_runScript_133, eX5_runScript_136, tn_152, eX5_runScript_139, eX5_runScript_140, eX5_runScript_143, eX5_runScript_144, eX5_runScript_147, eX5_runScript_150, eX5_runScript_151, eX5_runScript_152, eX5_runScript_153, eX5_runScript_154, eX5_runScript_157, iv5_134, c_X5_remember, eX5_runScript_160, eX5_runScript_161, iv5_168, c_X5_allTokens, eX5_runScript_164, d_X5_runScript, re_X5_runScript])
      simp (disch := omega) only [nI_mul, nI_add, nI_clamp, nI_inE, nI_leE, nI_ltE, nI_eqE, nI_eqz, nI_ltz, nI_gez, nI_lez, nI_gtz, nI_m1, nI_m1', nI_ltm, nI_gem, nI_gtm, nI_lem, nI_00, nI_01, nI_10, nI_11, bI_z, bI_1, bI_0, bI_b, bI_nz, bit_e, arK_i, arK_b, arK_j, true_and, and_true, ne_eq, not_false_eq_true, not_true_eq_false, false_and, and_false, true_or, or_true, false_or, or_false, Classical.not_not, forall_const, true_implies, implies_true, false_implies, eq_self, sI_K, sI_L, sI_P, sI_J, sI_Z, sI_Ie, sR_K, sR_L, sR_P, sR_J, sR_Z, sR_Ie, sP_K, sP_L, sP_I, sP_J, sP_Z, sP_Pe, sJ_K, sJ_L, sJ_P, sJ_I, sJ_Z, sJ_Je, n1z, a0, sI_Ik]
      refine CI_pure (m_good hC) ?_
      rw [bI_z]
      refine ⟨fun z => absurd g z, fun _ => ⟨a0, fun z => absurd z hk0, fun _ => ⟨a0, CV_of (m_command hC g hB) (fun _ _ z => z.elim) fun h2 hC2 => ⟨hC2.1.1.1, CV_of (m_advance hC2) (fun _ _ z => z.elim) fun h3 hC3 => ?_⟩⟩⟩⟩
      rw [ad_en] at hC3
      refine ih _ h3 hC3 (fun _ => ⟨np, nt, st_B hBc⟩) hr fun z1 z2 => ?_
      generalize cmS (aU s) (aN s) c.2.2.1 np nt c.2.2.2 = d at *
      by_cases gd : d.1 = 0
      · rw [st_t gd] at z1 z2 ⊢
        by_cases gs : d.2.2.2.1 = 3
        · rw [show scS (aU s) (aN s) d.2.2.1 d.2.2.2 = _ from iteC_t gs] at z2 ⊢
          have := tok_gr hM.2.2.1 z2
          have := hM.1
          show aN s < f + (tokS (aU s) (aN s) d.2.2.2.2.2).2.2
          omega
        · rw [show scS (aU s) (aN s) d.2.2.1 d.2.2.2 = _ from iteC_f gs] at z1
          exact absurd (show (1 : Nat) = 0 from z1) (by decide)
      · rw [st_f gd] at z1; exact absurd z1 gd
    · have e : lpS (aU s) (aN s) (f + 1) c = c := iteC_f hx
      rw [e] at hr
      exact rs_exit hO hF0 z0 hb hC hB hr hx
end MOD
