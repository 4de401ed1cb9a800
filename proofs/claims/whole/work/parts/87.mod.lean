section MOD
variable {x : CX}
theorem m_good0 {h : MH} {j k : Nat} (a0 : mK h j = 6) (i21 : mI h j 21 = nI k) (hk : k < 4) : CT x sX5_good [.ref j] h (pI fun r h' => r = bI (k = 0) ∧ h' = h) xNo := by
  (refine CT_of (o := 5) rfl (by decide) (by simp [Value.category, sX5_good]) (MW_ev kX5_good 300 ?_); show evS _ _ _ _ _ _ 300 0 (0, 0) [.ref j] [] _; simp only [st_iconst, st_lconst, st_ldc2_w, st_ldc, st_iload, st_lload, st_aload, st_istore, st_astore, st_lstore, st_iinc, st_iadd, st_isub, st_imul, st_idiv, st_irem, st_iand, st_ior, st_ishl, st_ishr, st_iushr, st_ladd, st_lmul, st_lshl, st_lushr, st_lcmp, st_i2l, st_l2i, st_i2b, st_i2c, st_i2d, st_i2f, st_dconst, st_fconst, st_ddiv, st_fdiv, st_dup, st_dup2, st_pop, st_goto, st_if_icmp, st_ifCond, st_tableswitch, st_lookupswitch, st_iaload, st_baload, st_laload, st_aaload, st_iastore, st_bastore, st_lastore, st_aastore, st_saload, st_faload, st_jsr, st_getstatic, st_frem, st_drem, st_monitorexit, st_monitorenter, st_invokeinterface, st_newarray, st_anewarray, st_multianewarray, asI_c, asJ_c, asR_c, asD_c, asF_c, popI_c, popJ_c, popR_c, popD_c, popF_c, pop1_c, okSt_0, okSt_S, rcv_0, rcv_1, rcv_2, rcv_3, rcv_4, rcv_5, rcv_8, pI_c, pJ_c, pR_c, pV_c, pD_c, pF_c, cmp_eq, cmp_ne, cmp_lt, cmp_ge, cmp_gt, cmp_le, nth_0, nth_S, set_0, set_S, cat_int, cat_ref, cat_long, cat_double, cat_float, cat_null, catS_0, catS_S, swT_0, swT_S, swL_0, swL_S, Nat.add_zero, Nat.reduceAdd, Nat.reduceSub, Nat.reduceLT, Nat.reduceLeDiff, true_and, and_true, eq_self, eX5_good_0, fX5_good_0, eX5_good_1, gf5_192, eX5_good_4, tn_11, eX5_good_7, cI_1, eX5_good_8, tn_12, eX5_good_11, cI_0, eX5_good_12, d_X5_good, re_X5_good])
  simp (disch := omega) only [nI_mul, nI_add, nI_clamp, nI_inE, nI_leE, nI_ltE, nI_eqE, nI_eqz, nI_ltz, nI_gez, nI_lez, nI_gtz, nI_m1, nI_m1', nI_ltm, nI_gem, nI_gtm, nI_lem, nI_00, nI_01, nI_10, nI_11, bI_z, bI_1, bI_0, bI_b, bI_nz, bit_e, arK_i, arK_b, arK_j, true_and, and_true, ne_eq, not_false_eq_true, not_true_eq_false, false_and, and_false, true_or, or_true, false_or, or_false, Classical.not_not, forall_const, true_implies, implies_true, false_implies, eq_self, n1z, a0, i21]
  exact ⟨fun g => g, fun g => g⟩
/-- what a whole script changes before the history -/
def SZ (j : Nat) : Nat → Nat → Prop := fun a k => (a = j ∧ (k = 0 ∨ k = 9 ∨ (17 ≤ k ∧ k ≤ 24))) ∨ a = j + 1 ∨ a = j + 14
theorem rs_exit {hs h0 h1 : MH} {j : Nat} {s : AS} {c : CR} (hO : MO hs j s) (hF0 : FI hs h0 (SZ j)) (z0 : mI h0 j 0 = nI 0) (hb : MA h0 (j + 14) (aW s)) (hC : CS h0 h1 j (aU s) (aN s) c) (hB : c.1 = 0 → ∃ np nt, NB c.2.2.1 np nt) (hr : rC c (exR s)) (hx : ¬ (c.1 = 0 ∧ ¬ c.2.2.2.1 = 0)) : MW x sX5_runScript 5 (pI (oaM (qScr s) hs j)) xNo 86 (0, 0) [.ref j, .null, .null] [] h1 := by
  have hM := hC.1.1
  have a0 := hM.1
  obtain ⟨i21, hk⟩ := hC.2.2.1
  have p6 : mP h1 j 6 = j + 14 := hM.2.1.2.2.2.1
  have p1 := (MB_w hM).2.1
  (refine MW_ev kX5_runScript 300 ?_; simp only [st_iconst, st_lconst, st_ldc2_w, st_ldc, st_iload, st_lload, st_aload, st_istore, st_astore, st_lstore, st_iinc, st_iadd, st_isub, st_imul, st_idiv, st_irem, st_iand, st_ior, st_ishl, st_ishr, st_iushr, st_ladd, st_lmul, st_lshl, st_lushr, st_lcmp, st_i2l, st_l2i, st_i2b, st_i2c, st_i2d, st_i2f, st_dconst, st_fconst, st_ddiv, st_fdiv, st_dup, st_dup2, st_pop, st_goto, st_if_icmp, st_ifCond, st_tableswitch, st_lookupswitch, st_iaload, st_baload, st_laload, st_aaload, st_iastore, st_bastore, st_lastore, st_aastore, st_saload, st_faload, st_jsr, st_getstatic, st_frem, st_drem, st_monitorexit, st_monitorenter, st_invokeinterface, st_newarray, st_anewarray, st_multianewarray, asI_c, asJ_c, asR_c, asD_c, asF_c, popI_c, popJ_c, popR_c, popD_c, popF_c, pop1_c, okSt_0, okSt_S, rcv_0, rcv_1, rcv_2, rcv_3, rcv_4, rcv_5, rcv_8, pI_c, pJ_c, pR_c, pV_c, pD_c, pF_c, cmp_eq, cmp_ne, cmp_lt, cmp_ge, cmp_gt, cmp_le, nth_0, nth_S, set_0, set_S, cat_int, cat_ref, cat_long, cat_double, cat_float, cat_null, catS_0, catS_S, swT_0, swT_S, swL_0, swL_S, Nat.add_zero, Nat.reduceAdd, Nat.reduceSub, Nat.reduceLT, Nat.reduceLeDiff, true_and, and_true, eq_self, eX5_runScript_0, fX5_runScript_0, eX5_runScript_1, cI_0, eX5_runScript_2, pf5_59, eX5_runScript_5, eX5_runScript_6, gf5_9, eX5_runScript_9, eX5_runScript_10, gf5_21, eX5_runScript_13, iv5_65, c_X5_copy, eX5_runScript_16, eX5_runScript_17, eX5_runScript_18, pf5_174, eX5_runScript_21, eX5_runScript_22, eX5_runScript_23, pf5_192, eX5_runScript_26, eX5_runScript_27, cI_m1, eX5_runScript_28, pf5_204, eX5_runScript_31, eX5_runScript_32, iv5_211, c_X5_scan, eX5_runScript_35, eX5_runScript_36, eX5_runScript_38, iv5_228, c_X5_isWord, eX5_runScript_41, tn_49, eX5_runScript_44, eX5_runScript_45, cI_1, eX5_runScript_46, iv5_214, c_X5_fail, eX5_runScript_49, eX5_runScript_50, iv5_220, c_X5_advance, eX5_runScript_53, eX5_runScript_54, eX5_runScript_55, cI_8, eX5_runScript_57, iv5_223, c_X5_number, eX5_runScript_60, eX5_runScript_61, eX5_runScript_62, eX5_runScript_63, cI_10, eX5_runScript_65, eX5_runScript_68, eX5_runScript_69, eX5_runScript_70, iv5_232, c_X5_ends, eX5_runScript_73, tn_82, eX5_runScript_76, eX5_runScript_77, eX5_runScript_78, eX5_runScript_79, iv5_47, c_X5_start, eX5_runScript_82, eX5_runScript_83, eX5_runScript_86, fX5_runScript_86, eX5_runScript_87, iv5_207, c_X5_good, eX5_runScript_90, tn_111, eX5_runScript_93, eX5_runScript_94, gf5_180, eX5_runScript_97, eX5_runScript_100, eX5_runScript_101, iv5_235, c_X5_command, eX5_runScript_104, eX5_runScript_105, eX5_runScript_108, tn_86, eX5_runScript_111, eX5_runScript_112, eX5_runScript_113, pf5_171, eX5_runScript_116, eX5_runScript_117, eX5_runScript_118, gf5_192, eX5_runScript_121, pf5_238, eX5_runScript_124, eX5_runScript_125, eX5_runScript_126, gf5_204, eX5_runScript_129, pf5_43, eX5_runScript_132, eX5_runScript_133, eX5_runScript_136, tn_152, eX5_runScript_139, eX5_runScript_140, eX5_runScript_143, eX5_runScript_144, eX5_runScript_147, eX5_runScript_150, eX5_runScript_151, eX5_runScript_152, eX5_runScript_153, eX5_runScript_154, eX5_runScript_157, iv5_134, c_X5_remember, eX5_runScript_160, eX5_runScript_161, iv5_168, c_X5_allTokens, eX5_runScript_164, d_X5_runScript, re_X5_runScript])
  simp (disch := omega) only [nI_mul, nI_add, nI_clamp, nI_inE, nI_leE, nI_ltE, nI_eqE, nI_eqz, nI_ltz, nI_gez, nI_lez, nI_gtz, nI_m1, nI_m1', nI_ltm, nI_gem, nI_gtm, nI_lem, nI_00, nI_01, nI_10, nI_11, bI_z, bI_1, bI_0, bI_b, bI_nz, bit_e, arK_i, arK_b, arK_j, true_and, and_true, ne_eq, not_false_eq_true, not_true_eq_false, false_and, and_false, true_or, or_true, false_or, or_false, Classical.not_not, forall_const, true_implies, implies_true, false_implies, eq_self, sI_K, sI_L, sI_P, sI_J, sI_Z, sI_Ie, sR_K, sR_L, sR_P, sR_J, sR_Z, sR_Ie, sP_K, sP_L, sP_I, sP_J, sP_Z, sP_Pe, sJ_K, sJ_L, sJ_P, sJ_I, sJ_Z, sJ_Je, n1z, a0, sI_Ik]
  refine CI_pure (m_good hC) ?_
  rw [bI_z]
  obtain ⟨h2, e2⟩ : ∃ h2, h2 = sI (sI (sI h1 j 9 (nI 0)) j 23 (mI h1 j 21)) j 24 (mI h1 j 22) := ⟨_, rfl⟩
  have hF12 : FI h1 h2 fun a k => a = j ∧ (k = 9 ∨ k = 23 ∨ k = 24) := by rw [e2]; exact FI_tr (FI_sI ⟨rfl, Or.inl rfl⟩) (FI_tr (FI_sI ⟨rfl, Or.inr (Or.inl rfl)⟩) (FI_sI ⟨rfl, Or.inr (Or.inr rfl)⟩))
  have j9 : mI h2 j 9 = nI 0 := by rw [e2, sI_Ik (by decide), sI_Ik (by decide), sI_Ie]
  have j23 : mI h2 j 23 = nI c.1 := by rw [e2, sI_Ik (by decide), sI_Ie, i21]
  have j24 : mI h2 j 24 = mI h1 j 22 := by rw [e2, sI_Ie]
  have hF2 : FI hs h2 (SZ j) := FI_tr hF0 (FI_tr (FI_mono hC.2.1 fun a k hk => by unfold SK at hk; unfold SZ; omega) (FI_mono hF12 fun a k hk => by unfold SZ; omega))
  have j0 : mI h2 j 0 = nI 0 := (hF12.2.2.2.2 j 0 (by omega)).trans ((hC.2.1.2.2.2.2 j 0 (by unfold SK; omega)).trans z0)
  have b14 : MA h2 (j + 14) (aW s) := MA_fi (MA_fi hb hC.2.1 fun k hk => by unfold SK at hk; omega) hF12 fun k hk => by omega
  rw [← e2]
  have c0 := (hF12.2.1 j).trans a0
  have q6 := (hF12.2.2.2.1 j 6).1.trans p6
  have q1 := (hF12.2.2.2.1 j 1).1.trans p1
  have k21 := (hF12.2.2.2.2 j 21 (by omega)).trans i21
  have hM2 : MB h2 j := MB_fi hM hF12
  have hH2 : HM h2 j (aP s) (aC s) := HM_fi hO.2.1 hF2 fun a k hk => by unfold SZ at hk; omega
  have hS2 : mI h2 j 5 = bI (aH s) ∧ (aH s → MA h2 (j + 13) (aS s)) := ⟨(hF2.2.2.2.2 j 5 (by unfold SZ; omega)).trans hO.2.2.1.1, fun z => MA_fi (hO.2.2.1.2 z) hF2 fun k hk => by unfold SZ at hk; omega⟩
  have hT2 : ∀ w ek eo, ek = nI c.1 → eo = mI h1 j 22 → MT h2 j (w, aP s, aC s, aS s, aH s, aU s, 0, ek, eo, aR s, aM s) := fun w ek eo e1 e3 => by
    obtain ⟨t1, t2, t3, t4, t5, t6, t7, t8⟩ := hO.2.2.2
    exact ⟨j9, Nat.zero_le _, fun k hk => absurd hk (Nat.not_lt_zero _), (hF2.2.2.2.2 j 11 (by unfold SZ; omega)).trans t4, t5, fun k hk => (hF2.2.2.2.2 _ _ (by unfold SZ; omega)).trans (t6 k hk), j23.trans e1.symm, j24.trans e3.symm⟩
  have hFM : FM hs h2 j := FM_fi hF2 fun a k hk => by unfold SZ at hk; omega
  have fin : CALLI x sX5_good [.ref j] h2 xNo fun r h' => (¬ r = 0 → mK h' j = 6 ∧ ¬ mP h' j 6 = 0 ∧ mK h' j = 6 ∧ CALLV x sX5_remember [.ref j, .ref (mP h' j 6)] h' xNo fun h' => mK h' j = 6 ∧ CALLI x sX5_allTokens [.ref j] h' xNo fun r h' => oaM (qScr s) hs j r h') ∧ (r = 0 → mK h' j = 6 ∧ ¬ mP h' j 6 = 0 ∧ mK h' j = 6 ∧ ¬ mP h' j 1 = 0 ∧ CALLV x sX5_copy [.ref (mP h' j 6), .ref (mP h' j 1)] h' xNo fun h' => oaM (qScr s) hs j (-1) h') := by
    refine CI_pure (m_good0 c0 k21 hk) ?_
    rw [bI_z, q6, q1]
    have r14 : RW h2 (j + 14) := ⟨hM2.2.2.1.2.2.2.2.1, hM2.2.2.1.2.2.2.2.2.1⟩
    have r1 : RW h2 (j + 1) := ⟨(MB_w hM2).2.2.1, (MB_w hM2).2.2.2⟩
    refine ⟨fun g => ?_, fun g => ?_⟩
    · have g := Classical.not_not.mp g
      have ec := hr.2.2 g
      obtain ⟨np, nt, hB⟩ := hB g
      obtain ⟨w, np2, nt2, hN, -, hw⟩ := hC.2.2.2.1
      have hw : w = c.2.2.1 := hw g
      subst hw
      have hN2 := MN_fi hN hF12 fun k hk => by omega
      have hO2 : MO h2 j (c.2.2.1, aP s, aC s, aS s, aH s, aU s, 0, nI 0, -1, aR s, aM s) := ⟨hN2, hH2, hS2, hT2 _ _ _ (by rw [g]) (hC.2.2.2.2.1 g).1.symm⟩
      refine ⟨c0, Nat.succ_ne_zero _, c0, CV_of (m_remember hM2 hH2 r14 b14 (Or.inr rfl)) (fun _ _ z => z.elim) fun h3 ⟨hH3, hF3⟩ => ?_⟩
      have hO3 := MO_fh hO2 hF3 hH3
      have hN3 : MN h3 j c.2.2.1 := hO3.1
      have hq : qScr s = okA (c.2.2.1, pushP (aW s) (aP s), upto10 (aC s), aS s, aH s, aU s, 0, nI 0, -1, aR s, aM s) (sumW c.2.2.1 np) := by
        rw [← npW_e hB, ec]; exact iteC_t (ec ▸ g)
      exact ⟨hN3.1.1, CI_pure (m_allTokens hN3 hB) (oaM_q hq ((hF3.2.2.2.2.2 j 0 (by omega) (by omega)).trans j0) hO3 (FM_tr hFM (FM_h hF3)))⟩
    · have hq : qScr s = okA (aW s, aP s, aC s, aS s, aH s, aU s, 0, nI c.1, nI c.2.1, aR s, aM s) (-1) := by
        rw [hr.1, hr.2.1]; exact iteC_f (hr.1 ▸ g)
      refine ⟨c0, Nat.succ_ne_zero _, c0, Nat.succ_ne_zero _, call_cpy r14 r1 (by omega) fun h3 hc hF3 => ?_⟩
      have hO2 : MO h3 j (aW s, aP s, aC s, aS s, aH s, aU s, 0, nI c.1, nI c.2.1, aR s, aM s) := ⟨⟨MB_fi hM2 hF3, MA_cpy b14 hc⟩, HM_fi hH2 hF3 (fun a k hk => by omega), ⟨(hF3.2.2.2.2 j 5 (by omega)).trans hS2.1, fun z => MA_fi (hS2.2 z) hF3 fun k hk => by omega⟩, MT_fi (hT2 _ _ _ rfl (hC.2.2.2.2.2 g).symm) hF3 fun a k hk => by omega⟩
      exact oaM_q hq ((hF3.2.2.2.2 j 0 (by omega)).trans j0) hO2 (FM_tr hFM (FM_fi hF3 fun a k hk => by omega))
  refine ⟨fun g => ⟨a0, a0, a0, a0, a0, a0, fin⟩, fun g => ⟨a0, fun g2 => ⟨a0, a0, a0, a0, a0, a0, fin⟩, fun g2 => ?_⟩⟩
  have g := Classical.not_not.mp g
  refine absurd ⟨g, fun z => g2 ?_⟩ hx
  rw [(hC.2.2.2.2.1 g).2.2.2.1, z]
  exact nI_0
end MOD
