section MOD
variable {x : CX}
theorem cmO_k {U : Nat → Int32} {t : TK} : (wrdS U t 1 → cmO U t = nI 1) ∧ (¬ wrdS U t 1 → wrdS U t 2 → cmO U t = nI 2) ∧ (¬ wrdS U t 1 → ¬ wrdS U t 2 → wrdS U t 3 → cmO U t = nI 3) ∧ (¬ wrdS U t 1 → ¬ wrdS U t 2 → ¬ wrdS U t 3 → wrdS U t 4 → cmO U t = nI 4) ∧ (¬ wrdS U t 1 → ¬ wrdS U t 2 → ¬ wrdS U t 3 → ¬ wrdS U t 4 → wrdS U t 5 → cmO U t = nI 5) ∧ (¬ wrdS U t 1 → ¬ wrdS U t 2 → ¬ wrdS U t 3 → ¬ wrdS U t 4 → ¬ wrdS U t 5 → wrdS U t 6 → cmO U t = nI 6) ∧ (¬ wrdS U t 1 → ¬ wrdS U t 2 → ¬ wrdS U t 3 → ¬ wrdS U t 4 → ¬ wrdS U t 5 → ¬ wrdS U t 6 → wrdS U t 7 → cmO U t = nI 7) ∧ (¬ wrdS U t 1 → ¬ wrdS U t 2 → ¬ wrdS U t 3 → ¬ wrdS U t 4 → ¬ wrdS U t 5 → ¬ wrdS U t 6 → ¬ wrdS U t 7 → cmO U t = -1) := by
  unfold cmO
  refine ⟨fun a => iteC_t a, fun a b => (iteC_f a).trans (iteC_t b), fun a b c => (iteC_f a).trans ((iteC_f b).trans (iteC_t c)), fun a b c d => (iteC_f a).trans ((iteC_f b).trans ((iteC_f c).trans (iteC_t d))), fun a b c d e => (iteC_f a).trans ((iteC_f b).trans ((iteC_f c).trans ((iteC_f d).trans (iteC_t e)))), fun a b c d e f => (iteC_f a).trans ((iteC_f b).trans ((iteC_f c).trans ((iteC_f d).trans ((iteC_f e).trans (iteC_t f))))), fun a b c d e f g => (iteC_f a).trans ((iteC_f b).trans ((iteC_f c).trans ((iteC_f d).trans ((iteC_f e).trans ((iteC_f f).trans (iteC_t g)))))), fun a b c d e f g => (iteC_f a).trans ((iteC_f b).trans ((iteC_f c).trans ((iteC_f d).trans ((iteC_f e).trans ((iteC_f f).trans (iteC_f g))))))⟩
theorem cmS_k {U w : Nat → Int32} {n np nt : Nat} {t : TK} : (cmO U t = -1 → cmS U n w np nt t = (1, t.2.1, w, t)) ∧ (cmO U t = nI 1 → cmS U n w np nt t = cmT U n w (tokS U n t.2.2)) ∧ (cmO U t = nI 2 → cmS U n w np nt t = cmC U n w (tokS U n t.2.2)) ∧ (cmO U t = nI 3 → cmS U n w np nt t = cmA U n w (tokS U n t.2.2) 28) ∧ (cmO U t = nI 4 → cmS U n w np nt t = cmB U n w (tokS U n t.2.2) 108) ∧ (cmO U t = nI 5 → cmS U n w np nt t = cmA U n w (tokS U n t.2.2) 188) ∧ (cmO U t = nI 6 → cmS U n w np nt t = cmF U n w np (tokS U n t.2.2)) ∧ (cmO U t = nI 7 → cmS U n w np nt t = cmR U n w np nt (tokS U n t.2.2)) := by
  unfold cmS
  simp only []
  refine ⟨fun e => iteC_t e, fun e => ?_, fun e => ?_, fun e => ?_, fun e => ?_, fun e => ?_, fun e => ?_, fun e => ?_⟩ <;> rw [e]
  · rw [iteC_f (by decide), iteC_t rfl]
  · rw [iteC_f (by decide), iteC_f (by decide), iteC_t rfl]
  · rw [iteC_f (by decide), iteC_f (by decide), iteC_f (by decide), iteC_t rfl]
  · rw [iteC_f (by decide), iteC_f (by decide), iteC_f (by decide), iteC_f (by decide), iteC_t rfl]
  · rw [iteC_f (by decide), iteC_f (by decide), iteC_f (by decide), iteC_f (by decide), iteC_f (by decide), iteC_t rfl]
  · rw [iteC_f (by decide), iteC_f (by decide), iteC_f (by decide), iteC_f (by decide), iteC_f (by decide), iteC_f (by decide), iteC_t rfl]
  · rw [iteC_f (by decide), iteC_f (by decide), iteC_f (by decide), iteC_f (by decide), iteC_f (by decide), iteC_f (by decide), iteC_f (by decide)]
theorem wrd_34 {U : Nat → Int32} {t : TK} (h : wrdS U t 4) : ¬ wrdS U t 3 := fun z => absurd (z.2.1.symm.trans h.2.1) (by decide +kernel)
theorem m_command {h0 h : MH} {j n np nt : Nat} {U : Nat → Int32} {c : CR} (hC : CS h0 h j U n c) (g : c.1 = 0) (hB : NB c.2.2.1 np nt) : CT x sX5_command [.ref j] h (pV fun h' => CS h0 h' j U n (enS (cmS U n c.2.2.1 np nt c.2.2.2))) xNo := by
  have a0 := hC.1.1.1
  have hB0 := hB
  obtain ⟨w0, w1, n1, n2, m1, m2⟩ := hB0
  obtain ⟨o1, o2, o3, o4, o5, o6, o7, o8⟩ := cmO_k (U := U) (t := c.2.2.2)
  obtain ⟨s0, s1, s2, s3, s4, s5, s6, s7⟩ := cmS_k (U := U) (w := c.2.2.1) (n := n) (np := np) (nt := nt) (t := c.2.2.2)
  obtain ⟨t1, ht1⟩ : ∃ t1, t1 = tokS U n c.2.2.2.2.2 := ⟨_, rfl⟩
  rw [← ht1] at s1 s2 s3 s4 s5 s6 s7
  obtain ⟨Z, hZ⟩ : ∃ Z, Z = cmS U n c.2.2.1 np nt c.2.2.2 := ⟨_, rfl⟩
  rw [← hZ]
  rw [← hZ] at s0 s1 s2 s3 s4 s5 s6 s7
  have nb : ∀ {q : Prop}, ¬ (c.1 = 0 ∧ q) → ¬ q := fun z y => z ⟨g, y⟩
  have nn : ∀ {q : Prop}, ¬ ¬ (c.1 = 0 ∧ q) → q := fun z => (Classical.not_not.mp z).2
  (refine CT_of (o := 5) rfl (by decide) (by simp [Value.category, sX5_command]) (MW_ev kX5_command 300 ?_); show evS _ _ _ _ _ _ 300 0 (0, 0) [.ref j, .null, .null] [] _; simp only [st_iconst, st_lconst, st_ldc2_w, st_ldc, st_iload, st_lload, st_aload, st_istore, st_astore, st_lstore, st_iinc, st_iadd, st_isub, st_imul, st_idiv, st_irem, st_iand, st_ior, st_ishl, st_ishr, st_iushr, st_ladd, st_lmul, st_lshl, st_lushr, st_lcmp, st_i2l, st_l2i, st_i2b, st_i2c, st_i2d, st_i2f, st_dconst, st_fconst, st_ddiv, st_fdiv, st_dup, st_dup2, st_pop, st_goto, st_if_icmp, st_ifCond, st_tableswitch, st_lookupswitch, st_iaload, st_baload, st_laload, st_aaload, st_iastore, st_bastore, st_lastore, st_aastore, st_saload, st_faload, st_jsr, st_getstatic, st_frem, st_drem, st_monitorexit, st_monitorenter, st_invokeinterface, st_newarray, st_anewarray, st_multianewarray, asI_c, asJ_c, asR_c, asD_c, asF_c, popI_c, popJ_c, popR_c, popD_c, popF_c, pop1_c, okSt_0, okSt_S, rcv_0, rcv_1, rcv_2, rcv_3, rcv_4, rcv_5, rcv_8, pI_c, pJ_c, pR_c, pV_c, pD_c, pF_c, cmp_eq, cmp_ne, cmp_lt, cmp_ge, cmp_gt, cmp_le, nth_0, nth_S, set_0, set_S, cat_int, cat_ref, cat_long, cat_double, cat_float, cat_null, catS_0, catS_S, swT_0, swT_S, swL_0, swL_S, Nat.add_zero, Nat.reduceAdd, Nat.reduceSub, Nat.reduceLT, Nat.reduceLeDiff, true_and, and_true, eq_self, eX5_command_0, fX5_command_0, eX5_command_1, eX5_command_3, iv5_228, c_X5_isWord, eX5_command_6, tn_48, eX5_command_9, eX5_command_10, iv5_211, c_X5_scan, eX5_command_13, eX5_command_14, iv5_243, c_X5_aPlace, eX5_command_17, eX5_command_18, eX5_command_19, cI_0, eX5_command_20, eX5_command_21, eX5_command_22, iv5_85, c_X5_capacityOf, eX5_command_25, iv5_223, c_X5_number, eX5_command_28, eX5_command_29, eX5_command_30, iv5_232, c_X5_ends, eX5_command_33, tn_45, eX5_command_36, eX5_command_37, gf5_9, eX5_command_40, cI_2, eX5_command_41, eX5_command_42, eX5_command_43, eX5_command_44, eX5_command_45, tn_196, eX5_command_48, eX5_command_49, eX5_command_51, eX5_command_54, tn_111, eX5_command_57, eX5_command_58, eX5_command_61, eX5_command_62, eX5_command_65, eX5_command_66, eX5_command_67, eX5_command_68, eX5_command_69, iv5_77, c_X5_tokensOf, eX5_command_72, cI_1, eX5_command_73, tn_84, eX5_command_76, eX5_command_77, eX5_command_78, eX5_command_81, tn_85, eX5_command_84, eX5_command_85, cI_30, eX5_command_87, eX5_command_90, eX5_command_91, eX5_command_92, eX5_command_95, tn_108, eX5_command_98, eX5_command_99, eX5_command_102, cI_10, eX5_command_104, eX5_command_105, eX5_command_106, eX5_command_107, eX5_command_108, eX5_command_111, eX5_command_112, eX5_command_114, eX5_command_117, tn_145, eX5_command_120, eX5_command_121, eX5_command_124, eX5_command_125, iv5_250, c_X5_aTransition, eX5_command_128, eX5_command_129, eX5_command_130, eX5_command_133, eX5_command_134, eX5_command_135, cI_108, eX5_command_137, eX5_command_138, eX5_command_139, iv5_253, c_X5_arcCommand, eX5_command_142, eX5_command_145, eX5_command_146, eX5_command_149, eX5_command_152, tn_168, eX5_command_155, eX5_command_156, eX5_command_159, eX5_command_160, cI_28, eX5_command_162, iv5_259, c_X5_placedArc, eX5_command_165, eX5_command_168, eX5_command_169, eX5_command_172, eX5_command_175, tn_192, eX5_command_178, eX5_command_179, eX5_command_182, eX5_command_183, cI_188, eX5_command_186, eX5_command_189, eX5_command_192, eX5_command_193, iv5_264, c_X5_firingCommand, eX5_command_196, d_X5_command, re_X5_command])
  simp (disch := omega) only [nI_mul, nI_add, nI_clamp, nI_inE, nI_leE, nI_ltE, nI_eqE, nI_eqz, nI_ltz, nI_gez, nI_lez, nI_gtz, nI_m1, nI_m1', nI_ltm, nI_gem, nI_gtm, nI_lem, nI_00, nI_01, nI_10, nI_11, bI_z, bI_1, bI_0, bI_b, bI_nz, bit_e, arK_i, arK_b, arK_j, true_and, and_true, ne_eq, not_false_eq_true, not_true_eq_false, false_and, and_false, true_or, or_true, false_or, or_false, Classical.not_not, forall_const, true_implies, implies_true, false_implies, eq_self, n1z, a0]
  refine CI_pure (m_isWord hC (by decide)) ?_
  rw [wd18, bI_z]
  refine ⟨fun g1 => ?_, fun g1 => ?_⟩
  · have g1 := nb g1
    simp (disch := omega) only [nI_mul, nI_add, nI_clamp, nI_inE, nI_leE, nI_ltE, nI_eqE, nI_eqz, nI_ltz, nI_gez, nI_lez, nI_gtz, nI_m1, nI_m1', nI_ltm, nI_gem, nI_gtm, nI_lem, nI_00, nI_01, nI_10, nI_11, bI_z, bI_1, bI_0, bI_b, bI_nz, bit_e, arK_i, arK_b, arK_j, true_and, and_true, ne_eq, not_false_eq_true, not_true_eq_false, false_and, and_false, true_or, or_true, false_or, or_false, Classical.not_not, forall_const, true_implies, implies_true, false_implies, eq_self, n1z, a0]
    refine CI_pure (m_isWord hC (by decide)) ?_
    rw [wd19, bI_z]
    refine ⟨fun g2 => ?_, fun g2 => ?_⟩
    · have g2 := nb g2
      simp (disch := omega) only [nI_mul, nI_add, nI_clamp, nI_inE, nI_leE, nI_ltE, nI_eqE, nI_eqz, nI_ltz, nI_gez, nI_lez, nI_gtz, nI_m1, nI_m1', nI_ltm, nI_gem, nI_gtm, nI_lem, nI_00, nI_01, nI_10, nI_11, bI_z, bI_1, bI_0, bI_b, bI_nz, bit_e, arK_i, arK_b, arK_j, true_and, and_true, ne_eq, not_false_eq_true, not_true_eq_false, false_and, and_false, true_or, or_true, false_or, or_false, Classical.not_not, forall_const, true_implies, implies_true, false_implies, eq_self, n1z, a0]
      refine CI_pure (m_isWord hC (by decide)) ?_
      rw [wd20, bI_z]
      refine ⟨fun g4 => ?_, fun g4 => ?_⟩
      · have g4 := nb g4
        simp (disch := omega) only [nI_mul, nI_add, nI_clamp, nI_inE, nI_leE, nI_ltE, nI_eqE, nI_eqz, nI_ltz, nI_gez, nI_lez, nI_gtz, nI_m1, nI_m1', nI_ltm, nI_gem, nI_gtm, nI_lem, nI_00, nI_01, nI_10, nI_11, bI_z, bI_1, bI_0, bI_b, bI_nz, bit_e, arK_i, arK_b, arK_j, true_and, and_true, ne_eq, not_false_eq_true, not_true_eq_false, false_and, and_false, true_or, or_true, false_or, or_false, Classical.not_not, forall_const, true_implies, implies_true, false_implies, eq_self, n1z, a0]
        refine CI_pure (m_isWord hC (by decide)) ?_
        rw [wd21, bI_z]
        refine ⟨fun g3 => ?_, fun g3 => ?_⟩
        · have g3 := nb g3
          simp (disch := omega) only [nI_mul, nI_add, nI_clamp, nI_inE, nI_leE, nI_ltE, nI_eqE, nI_eqz, nI_ltz, nI_gez, nI_lez, nI_gtz, nI_m1, nI_m1', nI_ltm, nI_gem, nI_gtm, nI_lem, nI_00, nI_01, nI_10, nI_11, bI_z, bI_1, bI_0, bI_b, bI_nz, bit_e, arK_i, arK_b, arK_j, true_and, and_true, ne_eq, not_false_eq_true, not_true_eq_false, false_and, and_false, true_or, or_true, false_or, or_false, Classical.not_not, forall_const, true_implies, implies_true, false_implies, eq_self, n1z, a0]
          refine CI_pure (m_isWord hC (by decide)) ?_
          rw [wd22, bI_z]
          refine ⟨fun g5 => ?_, fun g5 => ?_⟩
          · have g5 := nb g5
            simp (disch := omega) only [nI_mul, nI_add, nI_clamp, nI_inE, nI_leE, nI_ltE, nI_eqE, nI_eqz, nI_ltz, nI_gez, nI_lez, nI_gtz, nI_m1, nI_m1', nI_ltm, nI_gem, nI_gtm, nI_lem, nI_00, nI_01, nI_10, nI_11, bI_z, bI_1, bI_0, bI_b, bI_nz, bit_e, arK_i, arK_b, arK_j, true_and, and_true, ne_eq, not_false_eq_true, not_true_eq_false, false_and, and_false, true_or, or_true, false_or, or_false, Classical.not_not, forall_const, true_implies, implies_true, false_implies, eq_self, n1z, a0]
            refine CV_of (m_firingCommand hC g hB) (fun _ _ z => z.elim) fun h' hC' => ?_
            rw [← ht1] at hC'
            have e : Z = iteC (wrdS U c.2.2.2 6) (cmF U n c.2.2.1 np t1) (iteC (wrdS U c.2.2.2 7) (cmR U n c.2.2.1 np nt t1) (1, c.2.2.2.2.1, c.2.2.1, c.2.2.2)) := by
              by_cases g6 : wrdS U c.2.2.2 6
              · rw [iteC_t g6]; exact s6 (o6 g1 g2 g3 g4 g5 g6)
              · rw [iteC_f g6]
                by_cases g7 : wrdS U c.2.2.2 7
                · rw [iteC_t g7]; exact s7 (o7 g1 g2 g3 g4 g5 g6 g7)
                · rw [iteC_f g7]; exact s0 (o8 g1 g2 g3 g4 g5 g6 g7)
            rw [e]; exact hC'
          · have hZ := s5 (o5 g1 g2 g3 g4 (nn g5))
            simp (disch := omega) only [nI_mul, nI_add, nI_clamp, nI_inE, nI_leE, nI_ltE, nI_eqE, nI_eqz, nI_ltz, nI_gez, nI_lez, nI_gtz, nI_m1, nI_m1', nI_ltm, nI_gem, nI_gtm, nI_lem, nI_00, nI_01, nI_10, nI_11, bI_z, bI_1, bI_0, bI_b, bI_nz, bit_e, arK_i, arK_b, arK_j, true_and, and_true, ne_eq, not_false_eq_true, not_true_eq_false, false_and, and_false, true_or, or_true, false_or, or_false, Classical.not_not, forall_const, true_implies, implies_true, false_implies, eq_self, n1z, a0]
            refine call_scanC hC g fun h1 hC1 => ?_
            rw [← ht1] at hC1
            refine ⟨hC1.1.1.1, CV_of (m_placedArc hC1 rfl hB (Or.inr rfl)) (fun _ _ z => z.elim) fun h2 hC2 => ?_⟩
            rw [hZ]; exact hC2
        · have hZ := s3 (o3 g1 g2 (nn g3))
          simp (disch := omega) only [nI_mul, nI_add, nI_clamp, nI_inE, nI_leE, nI_ltE, nI_eqE, nI_eqz, nI_ltz, nI_gez, nI_lez, nI_gtz, nI_m1, nI_m1', nI_ltm, nI_gem, nI_gtm, nI_lem, nI_00, nI_01, nI_10, nI_11, bI_z, bI_1, bI_0, bI_b, bI_nz, bit_e, arK_i, arK_b, arK_j, true_and, and_true, ne_eq, not_false_eq_true, not_true_eq_false, false_and, and_false, true_or, or_true, false_or, or_false, Classical.not_not, forall_const, true_implies, implies_true, false_implies, eq_self, n1z, a0]
          refine call_scanC hC g fun h1 hC1 => ?_
          rw [← ht1] at hC1
          refine ⟨hC1.1.1.1, CV_of (m_placedArc hC1 rfl hB (Or.inl rfl)) (fun _ _ z => z.elim) fun h2 hC2 => ?_⟩
          rw [hZ]; exact hC2
      · have g4 := nn g4
        have hZ := s4 (o4 g1 g2 (wrd_34 g4) g4)
        simp (disch := omega) only [nI_mul, nI_add, nI_clamp, nI_inE, nI_leE, nI_ltE, nI_eqE, nI_eqz, nI_ltz, nI_gez, nI_lez, nI_gtz, nI_m1, nI_m1', nI_ltm, nI_gem, nI_gtm, nI_lem, nI_00, nI_01, nI_10, nI_11, bI_z, bI_1, bI_0, bI_b, bI_nz, bit_e, arK_i, arK_b, arK_j, true_and, and_true, ne_eq, not_false_eq_true, not_true_eq_false, false_and, and_false, true_or, or_true, false_or, or_false, Classical.not_not, forall_const, true_implies, implies_true, false_implies, eq_self, n1z, a0]
        refine call_scanC hC g fun h1 hC1 => ?_
        rw [← ht1] at hC1
        obtain ⟨P, hP⟩ : ∃ P, P = numS U n t1 (nI 0) (c.2.2.1 1 - nI 1) := ⟨_, rfl⟩
        have e1 : noS U n (nI 0) (c.2.2.1 1 - nI 1) (0, 0, c.2.2.1, t1) = (P.1, P.2.1, c.2.2.1, P.2.2.2) := by rw [hP]; exact noS_ok rfl
        refine ⟨hC1.1.1.1, CI_of (m_aTransition hC1) (fun _ _ z => z.elim) fun r h2 ⟨er, hC2⟩ => ⟨hC2.1.1.1, CI_of (m_aPlace hC2) (fun _ _ z => z.elim) fun r2 h3 ⟨er2, hC3⟩ => ?_⟩⟩
        dsimp only at er hC2 er2 hC3
        rw [← hP] at er
        rw [e1] at er hC2 er2 hC3
        dsimp only at er2 hC3
        have hPi : P.1 = 0 → inR P.2.2.1 nt := fun z => by rw [hP, w1] at z ⊢; exact num_in z (by omega) (by omega)
        obtain ⟨Q, hQ⟩ : ∃ Q, Q = numS U n P.2.2.2 (nI 0) (c.2.2.1 0 - nI 1) := ⟨_, rfl⟩
        have hQi : Q.1 = 0 → inR Q.2.2.1 np := fun z => by rw [hQ, w0] at z ⊢; exact num_in z (by omega) (by omega)
        rw [← hQ] at er2
        obtain ⟨c2, hc2⟩ : ∃ c2, c2 = noS U n (nI 0) (c.2.2.1 0 - nI 1) (P.1, P.2.1, c.2.2.1, P.2.2.2) := ⟨_, rfl⟩
        rw [← hc2] at er2 hC3
        have k1 : P.1 = 0 → c2 = (Q.1, Q.2.1, c.2.2.1, Q.2.2.2) := fun z => by rw [hc2, noS_ok z, hQ]
        have k2 : ¬ P.1 = 0 → c2 = (P.1, P.2.1, c.2.2.1, P.2.2.2) := fun z => by rw [hc2, noS_bad z]
        have k3 : c2.1 = 0 → P.1 = 0 ∧ Q.1 = 0 := fun z => by
          by_cases gp : P.1 = 0
          · rw [k1 gp] at z; exact ⟨gp, z⟩
          · rw [k2 gp] at z; exact absurd z gp
        refine ⟨hC3.1.1.1, CV_of (m_arcCommand (o := 108) (p := cl Q.2.2.1) (t := cl P.2.2.1) hC3 (by omega) fun z => ?_) (fun _ _ z => z.elim) fun h4 hC4 => CS_ce hC4 ?_⟩
        · obtain ⟨gp, gq⟩ := k3 z
          obtain ⟨p, hp, ep⟩ := hPi gp
          obtain ⟨q, hq, eq⟩ := hQi gq
          rw [er, er2, iteC_t gp, iteC_t z, ep, eq, cl_nI (by omega), cl_nI (by omega)]
          exact ⟨rfl, rfl, by omega⟩
        · have eA : Z = iteC (P.1 = 0) (iteC (Q.1 = 0) (iteC ((numS U n Q.2.2.2 (nI 0) (nI 9)).1 = 0) (0, 0, udW c.2.2.1 (108 + (cl P.2.2.1 * 8 + cl Q.2.2.1)) (numS U n Q.2.2.2 (nI 0) (nI 9)).2.2.1, (numS U n Q.2.2.2 (nI 0) (nI 9)).2.2.2) ((numS U n Q.2.2.2 (nI 0) (nI 9)).1, (numS U n Q.2.2.2 (nI 0) (nI 9)).2.1, c.2.2.1, (numS U n Q.2.2.2 (nI 0) (nI 9)).2.2.2)) (Q.1, Q.2.1, c.2.2.1, Q.2.2.2)) (P.1, P.2.1, c.2.2.1, P.2.2.2) := by rw [hZ, hQ, hP]; rfl
          rw [eA]
          by_cases gp : P.1 = 0
          · rw [k1 gp, iteC_t gp]
            by_cases gq : Q.1 = 0
            · rw [noS_ok (c := (Q.1, Q.2.1, c.2.2.1, Q.2.2.2)) gq, iteC_t gq]
              generalize numS U n Q.2.2.2 (nI 0) (nI 9) = V
              by_cases gv : V.1 = 0
              · rw [iteC_t gv]; exact wr_ce gv.symm (fun _ => rfl) fun z => absurd gv z
              · rw [iteC_f gv]; exact wr_ce rfl (fun z => absurd z gv) fun _ => rfl
            · rw [noS_bad (c := (Q.1, Q.2.1, c.2.2.1, Q.2.2.2)) gq, iteC_f gq]
              exact wr_ce rfl (fun z => absurd z gq) fun _ => rfl
          · rw [k2 gp, noS_bad (c := (P.1, P.2.1, c.2.2.1, P.2.2.2)) gp, iteC_f gp]
            exact wr_ce rfl (fun z => absurd z gp) fun _ => rfl
    · have hZ := s2 (o2 g1 (nn g2))
      simp (disch := omega) only [nI_mul, nI_add, nI_clamp, nI_inE, nI_leE, nI_ltE, nI_eqE, nI_eqz, nI_ltz, nI_gez, nI_lez, nI_gtz, nI_m1, nI_m1', nI_ltm, nI_gem, nI_gtm, nI_lem, nI_00, nI_01, nI_10, nI_11, bI_z, bI_1, bI_0, bI_b, bI_nz, bit_e, arK_i, arK_b, arK_j, true_and, and_true, ne_eq, not_false_eq_true, not_true_eq_false, false_and, and_false, true_or, or_true, false_or, or_false, Classical.not_not, forall_const, true_implies, implies_true, false_implies, eq_self, n1z, a0]
      refine call_scanC hC g fun h1 hC1 => ?_
      rw [← ht1] at hC1
      obtain ⟨P, hP⟩ : ∃ P, P = numS U n t1 (nI 0) (c.2.2.1 0 - nI 1) := ⟨_, rfl⟩
      have e1 : noS U n (nI 0) (c.2.2.1 0 - nI 1) (0, 0, c.2.2.1, t1) = (P.1, P.2.1, c.2.2.1, P.2.2.2) := by rw [hP]; exact noS_ok rfl
      refine ⟨hC1.1.1.1, CI_of (m_aPlace hC1) (fun _ _ z => z.elim) fun r h2 ⟨er, hC2⟩ => ?_⟩
      dsimp only at er hC2
      rw [← hP] at er
      rw [e1] at er hC2
      subst er
      have b0 := hC2.1.1.1

      have hZ : Z = iteC (P.1 = 0) (iteC ((numS U n P.2.2.2 (if nI 1 < c.2.2.1 (2 + cl P.2.2.1) then c.2.2.1 (2 + cl P.2.2.1) else nI 1) (nI 30)).1 = 0) (0, 0, udW c.2.2.1 (10 + cl P.2.2.1) (numS U n P.2.2.2 (if nI 1 < c.2.2.1 (2 + cl P.2.2.1) then c.2.2.1 (2 + cl P.2.2.1) else nI 1) (nI 30)).2.2.1, (numS U n P.2.2.2 (if nI 1 < c.2.2.1 (2 + cl P.2.2.1) then c.2.2.1 (2 + cl P.2.2.1) else nI 1) (nI 30)).2.2.2) ((numS U n P.2.2.2 (if nI 1 < c.2.2.1 (2 + cl P.2.2.1) then c.2.2.1 (2 + cl P.2.2.1) else nI 1) (nI 30)).1, (numS U n P.2.2.2 (if nI 1 < c.2.2.1 (2 + cl P.2.2.1) then c.2.2.1 (2 + cl P.2.2.1) else nI 1) (nI 30)).2.1, c.2.2.1, (numS U n P.2.2.2 (if nI 1 < c.2.2.1 (2 + cl P.2.2.1) then c.2.2.1 (2 + cl P.2.2.1) else nI 1) (nI 30)).2.2.2)) (P.1, P.2.1, c.2.2.1, P.2.2.2) := by rw [hZ, hP]; rfl
      simp (disch := omega) only [nI_mul, nI_add, nI_clamp, nI_inE, nI_leE, nI_ltE, nI_eqE, nI_eqz, nI_ltz, nI_gez, nI_lez, nI_gtz, nI_m1, nI_m1', nI_ltm, nI_gem, nI_gtm, nI_lem, nI_00, nI_01, nI_10, nI_11, bI_z, bI_1, bI_0, bI_b, bI_nz, bit_e, arK_i, arK_b, arK_j, true_and, and_true, ne_eq, not_false_eq_true, not_true_eq_false, false_and, and_false, true_or, or_true, false_or, or_false, Classical.not_not, forall_const, true_implies, implies_true, false_implies, eq_self, n1z, b0]
      obtain ⟨v, np3, nt3, hN2, hB3, hv⟩ := hC2.2.2.2.1
      by_cases gp : P.1 = 0
      · have hv : v = c.2.2.1 := hv gp
        subst hv
        have hin := num_in (U := U) (n := n) (t := t1) (m := np) (by rw [← w0, ← hP]; exact gp) (by omega) (by omega)
        rw [← w0, ← hP] at hin
        obtain ⟨q, hq, eq⟩ := hin
        rw [iteC_t gp, eq, cl_nI (by omega)] at hZ
        rw [iteC_t gp, eq]
        have tail : ∀ lo, lo = (if nI 1 < c.2.2.1 (2 + q) then c.2.2.1 (2 + q) else nI 1) → CALLI x sX5_number [.ref j, .int lo, .int (nI 30)] h2 xNo fun r h' => mK h' j = 6 ∧ CALLI x sX5_ends [.ref j] h' xNo fun r_1 h' => (r_1 = 0 → CS h0 h' j U n (enS Z)) ∧ (¬ r_1 = 0 → mK h' j = 6 ∧ ¬ mP h' j 1 = 0 ∧ mK h' (mP h' j 1) = 11 ∧ vp_in (nI 10 + nI q) (mL h' (mP h' j 1)) ∧ CS h0 (sI h' (mP h' j 1) (nI 10 + nI q).toNatClampNeg r) j U n (enS Z)) := fun lo hlo => by
          rw [← hlo] at hZ
          refine CI_of (m_number hC2) (fun _ _ z => z.elim) fun r3 h3 ⟨er3, hC3⟩ => ⟨hC3.1.1.1, ?_⟩
          dsimp only at er3 hC3
          rw [noS_ok (c := (P.1, P.2.1, c.2.2.1, P.2.2.2)) gp] at er3 hC3
          dsimp only at er3 hC3
          generalize numS U n P.2.2.2 lo (nI 30) = V at hZ er3 hC3
          have zt : V.1 = 0 → Z = _ := fun z => hZ.trans (iteC_t z)
          have zf : ¬ V.1 = 0 → Z = _ := fun z => hZ.trans (iteC_f z)
          have z1 : Z.1 = V.1 := (Classical.em (V.1 = 0)).elim (fun z => by rw [zt z]; exact z.symm) fun z => by rw [zf z]
          refine call_endw (w' := udW c.2.2.1 (10 + q) V.2.2.1) hC3 z1 (fun z => by rw [zt z]) (fun z => by rw [zf z]) fun h4 gv hC4 hK => ?_
          have gv : V.1 = 0 := gv
          rw [iteC_t gv] at er3
          subst er3
          obtain ⟨u, np4, nt4, hN4, -, hu⟩ := hC4.2.2.2.1
          have hu : u = c.2.2.1 := hu gv
          subst hu
          obtain ⟨c0, p1, k1, l1⟩ := MB_w hN4.1
          simp (disch := omega) only [nI_mul, nI_add, nI_clamp, nI_inE, nI_leE, nI_ltE, nI_eqE, nI_eqz, nI_ltz, nI_gez, nI_lez, nI_gtz, nI_m1, nI_m1', nI_ltm, nI_gem, nI_gtm, nI_lem, nI_00, nI_01, nI_10, nI_11, bI_z, bI_1, bI_0, bI_b, bI_nz, bit_e, arK_i, arK_b, arK_j, true_and, and_true, ne_eq, not_false_eq_true, not_true_eq_false, false_and, and_false, true_or, or_true, false_or, or_false, Classical.not_not, forall_const, true_implies, implies_true, false_implies, eq_self, n1z, c0, p1, k1, l1]
          exact ⟨Nat.succ_ne_zero _, hK _ np nt (MN_s hN4 (by omega)) (ud_B hB (by omega)) (FI_sI rfl)⟩
        refine CI_pure (m_tokensOf hN2 (by omega)) ⟨fun g3 => ⟨b0, tail _ (if_neg (Int32.not_lt.mpr g3)).symm⟩, fun g3 => ⟨b0, CI_pure (m_tokensOf hN2 (by omega)) ⟨b0, tail _ (if_pos (Int32.not_le.mp g3)).symm⟩⟩⟩
      · rw [iteC_f gp] at hZ
        rw [iteC_f gp, ← nI_0]
        have tail : ∀ lo, CALLI x sX5_number [.ref j, .int lo, .int (nI 30)] h2 xNo fun r h' => mK h' j = 6 ∧ CALLI x sX5_ends [.ref j] h' xNo fun r_1 h' => (r_1 = 0 → CS h0 h' j U n (enS Z)) ∧ (¬ r_1 = 0 → mK h' j = 6 ∧ ¬ mP h' j 1 = 0 ∧ mK h' (mP h' j 1) = 11 ∧ vp_in (nI 10 + nI 0) (mL h' (mP h' j 1)) ∧ CS h0 (sI h' (mP h' j 1) (nI 10 + nI 0).toNatClampNeg r) j U n (enS Z)) := fun lo => by
          refine CI_of (m_number hC2) (fun _ _ z => z.elim) fun r3 h3 ⟨er3, hC3⟩ => ⟨hC3.1.1.1, ?_⟩
          rw [noS_bad (c := (P.1, P.2.1, c.2.2.1, P.2.2.2)) gp] at hC3
          exact call_endw (w' := c.2.2.1) hC3 (by rw [hZ]) (fun z => absurd z gp) (fun z => by rw [hZ]) fun h4 gv hC4 hK => absurd gv gp
        exact CI_pure (m_tokensOf hN2 (by omega)) ⟨fun g3 => ⟨b0, tail _⟩, fun g3 => ⟨b0, CI_pure (m_tokensOf hN2 (by omega)) ⟨b0, tail _⟩⟩⟩
  · have hZ := s1 (o1 (nn g1))
    simp (disch := omega) only [nI_mul, nI_add, nI_clamp, nI_inE, nI_leE, nI_ltE, nI_eqE, nI_eqz, nI_ltz, nI_gez, nI_lez, nI_gtz, nI_m1, nI_m1', nI_ltm, nI_gem, nI_gtm, nI_lem, nI_00, nI_01, nI_10, nI_11, bI_z, bI_1, bI_0, bI_b, bI_nz, bit_e, arK_i, arK_b, arK_j, true_and, and_true, ne_eq, not_false_eq_true, not_true_eq_false, false_and, and_false, true_or, or_true, false_or, or_false, Classical.not_not, forall_const, true_implies, implies_true, false_implies, eq_self, n1z, a0]
    refine call_scanC hC g fun h1 hC1 => ?_
    rw [← ht1] at hC1
    obtain ⟨P, hP⟩ : ∃ P, P = numS U n t1 (nI 0) (c.2.2.1 0 - nI 1) := ⟨_, rfl⟩
    have e1 : noS U n (nI 0) (c.2.2.1 0 - nI 1) (0, 0, c.2.2.1, t1) = (P.1, P.2.1, c.2.2.1, P.2.2.2) := by rw [hP]; exact noS_ok rfl
    refine ⟨hC1.1.1.1, CI_of (m_aPlace hC1) (fun _ _ z => z.elim) fun r h2 ⟨er, hC2⟩ => ?_⟩
    dsimp only at er hC2
    rw [← hP] at er
    rw [e1] at er hC2
    subst er
    have b0 := hC2.1.1.1

    have hZ : Z = iteC (P.1 = 0) (iteC ((numS U n P.2.2.2 (nI 0) (c.2.2.1 (10 + cl P.2.2.1))).1 = 0) (0, 0, udW c.2.2.1 (2 + cl P.2.2.1) (numS U n P.2.2.2 (nI 0) (c.2.2.1 (10 + cl P.2.2.1))).2.2.1, (numS U n P.2.2.2 (nI 0) (c.2.2.1 (10 + cl P.2.2.1))).2.2.2) ((numS U n P.2.2.2 (nI 0) (c.2.2.1 (10 + cl P.2.2.1))).1, (numS U n P.2.2.2 (nI 0) (c.2.2.1 (10 + cl P.2.2.1))).2.1, c.2.2.1, (numS U n P.2.2.2 (nI 0) (c.2.2.1 (10 + cl P.2.2.1))).2.2.2)) (P.1, P.2.1, c.2.2.1, P.2.2.2) := by rw [hZ, hP]; rfl
    simp (disch := omega) only [nI_mul, nI_add, nI_clamp, nI_inE, nI_leE, nI_ltE, nI_eqE, nI_eqz, nI_ltz, nI_gez, nI_lez, nI_gtz, nI_m1, nI_m1', nI_ltm, nI_gem, nI_gtm, nI_lem, nI_00, nI_01, nI_10, nI_11, bI_z, bI_1, bI_0, bI_b, bI_nz, bit_e, arK_i, arK_b, arK_j, true_and, and_true, ne_eq, not_false_eq_true, not_true_eq_false, false_and, and_false, true_or, or_true, false_or, or_false, Classical.not_not, forall_const, true_implies, implies_true, false_implies, eq_self, n1z, b0]
    obtain ⟨v, np3, nt3, hN2, hB3, hv⟩ := hC2.2.2.2.1
    by_cases gp : P.1 = 0
    · have hv : v = c.2.2.1 := hv gp
      subst hv
      have hin := num_in (U := U) (n := n) (t := t1) (m := np) (by rw [← w0, ← hP]; exact gp) (by omega) (by omega)
      rw [← w0, ← hP] at hin
      obtain ⟨q, hq, eq⟩ := hin
      rw [iteC_t gp, eq, cl_nI (by omega)] at hZ
      rw [iteC_t gp, eq]
      refine CI_pure (m_capacityOf hN2 hB hq) ⟨b0, CI_of (m_number hC2) (fun _ _ z => z.elim) fun r3 h3 ⟨er3, hC3⟩ => ⟨hC3.1.1.1, ?_⟩⟩
      dsimp only at er3 hC3
      rw [noS_ok (c := (P.1, P.2.1, c.2.2.1, P.2.2.2)) gp] at er3 hC3
      dsimp only at er3 hC3
      generalize numS U n P.2.2.2 (nI 0) (c.2.2.1 (10 + q)) = V at hZ er3 hC3
      have zt : V.1 = 0 → Z = _ := fun z => hZ.trans (iteC_t z)
      have zf : ¬ V.1 = 0 → Z = _ := fun z => hZ.trans (iteC_f z)
      have z1 : Z.1 = V.1 := (Classical.em (V.1 = 0)).elim (fun z => by rw [zt z]; exact z.symm) fun z => by rw [zf z]
      refine call_endw (w' := udW c.2.2.1 (2 + q) V.2.2.1) hC3 z1 (fun z => by rw [zt z]) (fun z => by rw [zf z]) fun h4 gv hC4 hK => ?_
      have gv : V.1 = 0 := gv
      rw [iteC_t gv] at er3
      subst er3
      obtain ⟨u, np4, nt4, hN4, -, hu⟩ := hC4.2.2.2.1
      have hu : u = c.2.2.1 := hu gv
      subst hu
      obtain ⟨c0, p1, k1, l1⟩ := MB_w hN4.1
      simp (disch := omega) only [nI_mul, nI_add, nI_clamp, nI_inE, nI_leE, nI_ltE, nI_eqE, nI_eqz, nI_ltz, nI_gez, nI_lez, nI_gtz, nI_m1, nI_m1', nI_ltm, nI_gem, nI_gtm, nI_lem, nI_00, nI_01, nI_10, nI_11, bI_z, bI_1, bI_0, bI_b, bI_nz, bit_e, arK_i, arK_b, arK_j, true_and, and_true, ne_eq, not_false_eq_true, not_true_eq_false, false_and, and_false, true_or, or_true, false_or, or_false, Classical.not_not, forall_const, true_implies, implies_true, false_implies, eq_self, n1z, c0, p1, k1, l1]
      exact ⟨Nat.succ_ne_zero _, hK _ np nt (MN_s hN4 (by omega)) (ud_B hB (by omega)) (FI_sI rfl)⟩
    · rw [iteC_f gp] at hZ
      rw [iteC_f gp, ← nI_0]
      refine CI_pure (m_capacityOf hN2 hB3 (p := 0) (by have := hB3.2.2.1; omega)) ⟨b0, CI_of (m_number hC2) (fun _ _ z => z.elim) fun r3 h3 ⟨er3, hC3⟩ => ⟨hC3.1.1.1, ?_⟩⟩
      rw [noS_bad (c := (P.1, P.2.1, c.2.2.1, P.2.2.2)) gp] at hC3
      exact call_endw (w' := c.2.2.1) hC3 (by rw [hZ]) (fun z => absurd z gp) (fun z => by rw [hZ]) fun h4 gv hC4 hK => absurd gv gp
end MOD
