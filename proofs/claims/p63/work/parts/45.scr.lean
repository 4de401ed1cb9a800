section SCR
variable {x : CX}
theorem st_f {U : Nat → Int32} {n : Nat} {c : CR} (h : ¬ c.1 = 0) : stS U n c = c := iteC_f h
theorem st_t {U : Nat → Int32} {n : Nat} {c : CR} (h : c.1 = 0) : stS U n c = scS U n c.2.2.1 c.2.2.2 := iteC_t h
theorem sc_w {U w : Nat → Int32} {n : Nat} {t : TK} : (scS U n w t).2.2.1 = w := by
  unfold scS
  exact iteC_P (fun c : CR => c.2.2.1 = w) rfl rfl
theorem st_B {U : Nat → Int32} {n np nt : Nat} {c : CR} (hB : NB c.2.2.1 np nt) : NB (stS U n c).2.2.1 np nt := by
  unfold stS
  exact iteC_P (fun c : CR => NB c.2.2.1 np nt) (by rw [sc_w]; exact hB) hB
theorem c_exLoop {h : MH} {i n : Nat} {U : Nat → Int32} : ∀ (f : Nat) (c : CR) (h1 : MH), f ≤ 500 → exP h h1 i U n c → (c.1 = 0 → ∃ np nt, NB c.2.2.1 np nt) → MW x sX3_execute 3 (pV fun h' => exP h h' i U n (lpS U n f c)) xNo 44 (0, 0) [.ref i, .int (bI (c.1 = 0)), .int (nI f)] [] h1 := by
  intro f
  induction f with
  | zero =>
    intro c h1 _ hp _
    (refine MW_ev kX3_execute 300 ?_; simp only [st_iconst, st_lconst, st_ldc2_w, st_ldc, st_iload, st_lload, st_aload, st_istore, st_astore, st_lstore, st_iinc, st_iadd, st_isub, st_imul, st_idiv, st_irem, st_iand, st_ior, st_ishl, st_ishr, st_iushr, st_ladd, st_lmul, st_lshl, st_lushr, st_lcmp, st_i2l, st_l2i, st_i2b, st_i2c, st_i2d, st_i2f, st_dconst, st_fconst, st_ddiv, st_fdiv, st_dup, st_dup2, st_pop, st_goto, st_if_icmp, st_ifCond, st_tableswitch, st_lookupswitch, st_iaload, st_baload, st_laload, st_aaload, st_iastore, st_bastore, st_lastore, st_aastore, st_saload, st_faload, st_jsr, st_caload, st_d2i, st_d2f, st_ineg, st_ixor, st_dup_x1, st_aconst_null, st_ifnonnull, st_castore, st_getstatic, st_frem, st_drem, st_monitorexit, st_monitorenter, st_invokeinterface, st_newarray, st_anewarray, st_multianewarray, asI_c, asJ_c, asR_c, asD_c, asF_c, popI_c, popJ_c, popR_c, popD_c, popF_c, pop1_c, okSt_0, okSt_S, rcv_0, rcv_1, rcv_2, rcv_3, rcv_4, rcv_5, rcv_8, pI_c, pJ_c, pR_c, pV_c, pD_c, pF_c, cmp_eq, cmp_ne, cmp_lt, cmp_ge, cmp_gt, cmp_le, nth_0, nth_S, set_0, set_S, cat_int, cat_ref, cat_long, cat_double, cat_float, cat_null, catS_0, catS_S, swT_0, swT_S, swL_0, swL_S, Nat.add_zero, Nat.reduceAdd, Nat.reduceSub, Nat.reduceLT, Nat.reduceLeDiff, true_and, and_true, eq_self, eX3_execute_0, fX3_execute_0, eX3_execute_1, cI_0, eX3_execute_2, pf3_26, eX3_execute_5, eX3_execute_6, cI_m1, eX3_execute_7, pf3_29, eX3_execute_10, eX3_execute_11, eX3_execute_12, pf3_38, eX3_execute_15, eX3_execute_16, iv3_41, c_X3_readToken, eX3_execute_19, eX3_execute_20, iv3_44, c_X3_readHeader, eX3_execute_23, tn_37, eX3_execute_26, eX3_execute_27, iv3_48, c_X3_readSemicolon, eX3_execute_30, eX3_execute_33, cI_1, eX3_execute_34, tn_38, eX3_execute_37, eX3_execute_38, eX3_execute_39, eX3_execute_40, gf3_15, eX3_execute_43, eX3_execute_44, fX3_execute_44, eX3_execute_45, tn_85, eX3_execute_48, eX3_execute_49, eX3_execute_52, eX3_execute_53, gf3_32, eX3_execute_56, eX3_execute_59, eX3_execute_60, iv3_51, c_X3_readCommand, eX3_execute_63, tn_77, eX3_execute_66, eX3_execute_67, eX3_execute_70, eX3_execute_73, eX3_execute_74, tn_78, eX3_execute_77, eX3_execute_78, eX3_execute_79, eX3_execute_82, tn_44, eX3_execute_85, d_X3_execute, re_X3_execute])
    simp (disch := omega) only [nI_mul, nI_add, nI_clamp, nI_inE, nI_leE, nI_ltE, nI_eqE, nI_eqz, nI_ltz, nI_gez, nI_lez, nI_gtz, nI_m1, nI_m1', nI_ltm, nI_gem, nI_gtm, nI_lem, nI_00, nI_01, nI_10, nI_11, bI_z, bI_1, bI_0, bI_b, bI_nz, bit_e, arK_i, arK_b, arK_j, true_and, and_true, ne_eq, not_false_eq_true, not_true_eq_false, false_and, and_false, true_or, or_true, false_or, or_false, Classical.not_not, forall_const, true_implies, implies_true, false_implies, eq_self]
    exact hp
  | succ f ih =>
    intro c h1 hf hp hB
    have a1 := hp.1.1.1
    have h5 := hp.1.2.2.1.1
    have ht5 := hp.1.2.2.2.2.2
    have hf1 : ¬ f + 1 = 0 := by omega
    (refine MW_ev kX3_execute 300 ?_; simp only [st_iconst, st_lconst, st_ldc2_w, st_ldc, st_iload, st_lload, st_aload, st_istore, st_astore, st_lstore, st_iinc, st_iadd, st_isub, st_imul, st_idiv, st_irem, st_iand, st_ior, st_ishl, st_ishr, st_iushr, st_ladd, st_lmul, st_lshl, st_lushr, st_lcmp, st_i2l, st_l2i, st_i2b, st_i2c, st_i2d, st_i2f, st_dconst, st_fconst, st_ddiv, st_fdiv, st_dup, st_dup2, st_pop, st_goto, st_if_icmp, st_ifCond, st_tableswitch, st_lookupswitch, st_iaload, st_baload, st_laload, st_aaload, st_iastore, st_bastore, st_lastore, st_aastore, st_saload, st_faload, st_jsr, st_caload, st_d2i, st_d2f, st_ineg, st_ixor, st_dup_x1, st_aconst_null, st_ifnonnull, st_castore, st_getstatic, st_frem, st_drem, st_monitorexit, st_monitorenter, st_invokeinterface, st_newarray, st_anewarray, st_multianewarray, asI_c, asJ_c, asR_c, asD_c, asF_c, popI_c, popJ_c, popR_c, popD_c, popF_c, pop1_c, okSt_0, okSt_S, rcv_0, rcv_1, rcv_2, rcv_3, rcv_4, rcv_5, rcv_8, pI_c, pJ_c, pR_c, pV_c, pD_c, pF_c, cmp_eq, cmp_ne, cmp_lt, cmp_ge, cmp_gt, cmp_le, nth_0, nth_S, set_0, set_S, cat_int, cat_ref, cat_long, cat_double, cat_float, cat_null, catS_0, catS_S, swT_0, swT_S, swL_0, swL_S, Nat.add_zero, Nat.reduceAdd, Nat.reduceSub, Nat.reduceLT, Nat.reduceLeDiff, true_and, and_true, eq_self, eX3_execute_0, fX3_execute_0, eX3_execute_1, cI_0, eX3_execute_2, pf3_26, eX3_execute_5, eX3_execute_6, cI_m1, eX3_execute_7, pf3_29, eX3_execute_10, eX3_execute_11, eX3_execute_12, pf3_38, eX3_execute_15, eX3_execute_16, iv3_41, c_X3_readToken, eX3_execute_19, eX3_execute_20, iv3_44, c_X3_readHeader, eX3_execute_23, tn_37, eX3_execute_26, eX3_execute_27, iv3_48, c_X3_readSemicolon, eX3_execute_30, eX3_execute_33, cI_1, eX3_execute_34, tn_38, eX3_execute_37, eX3_execute_38, eX3_execute_39, eX3_execute_40, gf3_15, eX3_execute_43, eX3_execute_44, fX3_execute_44, eX3_execute_45, tn_85, eX3_execute_48, eX3_execute_49, eX3_execute_52, eX3_execute_53, gf3_32, eX3_execute_56, eX3_execute_59, eX3_execute_60, iv3_51, c_X3_readCommand, eX3_execute_63, tn_77, eX3_execute_66, eX3_execute_67, eX3_execute_70, eX3_execute_73, eX3_execute_74, tn_78, eX3_execute_77, eX3_execute_78, eX3_execute_79, eX3_execute_82, tn_44, eX3_execute_85, d_X3_execute, re_X3_execute])
    simp (disch := omega) only [nI_mul, nI_add, nI_clamp, nI_inE, nI_leE, nI_ltE, nI_eqE, nI_eqz, nI_ltz, nI_gez, nI_lez, nI_gtz, nI_m1, nI_m1', nI_ltm, nI_gem, nI_gtm, nI_lem, nI_00, nI_01, nI_10, nI_11, bI_z, bI_1, bI_0, bI_b, bI_nz, bit_e, arK_i, arK_b, arK_j, true_and, and_true, ne_eq, not_false_eq_true, not_true_eq_false, false_and, and_false, true_or, or_true, false_or, or_false, Classical.not_not, forall_const, true_implies, implies_true, false_implies, eq_self, a1, h5, hf1]
    have stop : ¬ (c.1 = 0 ∧ ¬ c.2.2.2.1 = 0) → exP h h1 i U n (lpS U n (f + 1) c) := fun g => by
      rw [show lpS U n (f + 1) c = c from iteC_f g]; exact hp
    refine ⟨fun g => stop fun z => g z.1, fun g => ⟨fun g2 => stop fun z => z.2 g2, fun g2 => ?_⟩⟩
    obtain ⟨np, nt, hB⟩ := hB g
    have eS : lpS U n (f + 1) c = lpS U n f (stS U n (cmS U n c.2.2.1 np nt c.2.2.2)) := by
      rw [← npW_e hB, ← ntW_e hB]; exact iteC_t ⟨g, g2⟩
    rw [eS]
    have e1 : nI (f + 1) + -1 = nI f := by
      have := nI_sub (a := f + 1) (b := 1) (by omega)
      rw [Nat.add_sub_cancel] at this
      rw [← this, Int32.sub_eq_add_neg]
      congr 1
    refine CI_of (c_readCommand hp.1 hB) (fun _ _ z => z.elim) fun r h2 hq => ?_
    obtain ⟨hp2, er⟩ := exP_cm hp g hq
    have a2 := hp2.1.1.1
    have hBc := cm_B (U := U) (n := n) (t := c.2.2.2) hB
    rw [er]
    simp (disch := omega) only [nI_mul, nI_add, nI_clamp, nI_inE, nI_leE, nI_ltE, nI_eqE, nI_eqz, nI_ltz, nI_gez, nI_lez, nI_gtz, nI_m1, nI_m1', nI_ltm, nI_gem, nI_gtm, nI_lem, nI_00, nI_01, nI_10, nI_11, bI_z, bI_1, bI_0, bI_b, bI_nz, bit_e, arK_i, arK_b, arK_j, true_and, and_true, ne_eq, not_false_eq_true, not_true_eq_false, false_and, and_false, true_or, or_true, false_or, or_false, Classical.not_not, forall_const, true_implies, implies_true, false_implies, eq_self, a2]
    refine ⟨fun g3 => ?_, fun g3 => call_semi hp2.1 fun r2 h3 hq3 => ?_⟩
    · have := ih (stS U n (cmS U n c.2.2.1 np nt c.2.2.2)) h2 (by omega) (by rw [st_f g3]; exact hp2) (fun z => ⟨np, nt, st_B hBc⟩)
      rw [st_f g3] at this ⊢
      rw [bI_f g3] at this
      rw [e1]; exact this
    · obtain ⟨hp3, er3⟩ := exP_cm hp2 g3 hq3
      have := ih (stS U n (cmS U n c.2.2.1 np nt c.2.2.2)) h3 (by omega) (by rw [st_t g3]; exact hp3) (fun z => ⟨np, nt, st_B hBc⟩)
      rw [st_t g3] at this ⊢
      rw [er3]
      simp (disch := omega) only [nI_mul, nI_add, nI_clamp, nI_inE, nI_leE, nI_ltE, nI_eqE, nI_eqz, nI_ltz, nI_gez, nI_lez, nI_gtz, nI_m1, nI_m1', nI_ltm, nI_gem, nI_gtm, nI_lem, nI_00, nI_01, nI_10, nI_11, bI_z, bI_1, bI_0, bI_b, bI_nz, bit_e, arK_i, arK_b, arK_j, true_and, and_true, ne_eq, not_false_eq_true, not_true_eq_false, false_and, and_false, true_or, or_true, false_or, or_false, Classical.not_not, forall_const, true_implies, implies_true, false_implies, eq_self]
      refine ⟨fun g4 => ?_, fun g4 => ?_⟩
      · rw [bI_f g4] at this
        rw [e1]; exact this
      · rw [bI_t g4] at this
        rw [e1]; exact this
theorem c_execute {h : MH} {i n : Nat} {U w : Nat → Int32} (hX : SXs h i U n) (hN : NW h (i + 2) w) : CT x sX3_execute [.ref i] h (pV fun h' => exP h h' i U n (scX U n w)) xNo := by
  have a1 := hX.1
  have hn := hX.2.2.2.2.2.1
  (refine CT_of (o := 3) rfl (by decide +kernel) (by simp [Value.category, sX3_execute]) (MW_ev kX3_execute 300 ?_); show evS _ _ _ _ _ _ 300 0 (0, 0) [.ref i, .null, .null] [] _; simp only [st_iconst, st_lconst, st_ldc2_w, st_ldc, st_iload, st_lload, st_aload, st_istore, st_astore, st_lstore, st_iinc, st_iadd, st_isub, st_imul, st_idiv, st_irem, st_iand, st_ior, st_ishl, st_ishr, st_iushr, st_ladd, st_lmul, st_lshl, st_lushr, st_lcmp, st_i2l, st_l2i, st_i2b, st_i2c, st_i2d, st_i2f, st_dconst, st_fconst, st_ddiv, st_fdiv, st_dup, st_dup2, st_pop, st_goto, st_if_icmp, st_ifCond, st_tableswitch, st_lookupswitch, st_iaload, st_baload, st_laload, st_aaload, st_iastore, st_bastore, st_lastore, st_aastore, st_saload, st_faload, st_jsr, st_caload, st_d2i, st_d2f, st_ineg, st_ixor, st_dup_x1, st_aconst_null, st_ifnonnull, st_castore, st_getstatic, st_frem, st_drem, st_monitorexit, st_monitorenter, st_invokeinterface, st_newarray, st_anewarray, st_multianewarray, asI_c, asJ_c, asR_c, asD_c, asF_c, popI_c, popJ_c, popR_c, popD_c, popF_c, pop1_c, okSt_0, okSt_S, rcv_0, rcv_1, rcv_2, rcv_3, rcv_4, rcv_5, rcv_8, pI_c, pJ_c, pR_c, pV_c, pD_c, pF_c, cmp_eq, cmp_ne, cmp_lt, cmp_ge, cmp_gt, cmp_le, nth_0, nth_S, set_0, set_S, cat_int, cat_ref, cat_long, cat_double, cat_float, cat_null, catS_0, catS_S, swT_0, swT_S, swL_0, swL_S, Nat.add_zero, Nat.reduceAdd, Nat.reduceSub, Nat.reduceLT, Nat.reduceLeDiff, true_and, and_true, eq_self, eX3_execute_0, fX3_execute_0, eX3_execute_1, cI_0, eX3_execute_2, pf3_26, eX3_execute_5, eX3_execute_6, cI_m1, eX3_execute_7, pf3_29, eX3_execute_10, eX3_execute_11, eX3_execute_12, pf3_38, eX3_execute_15, eX3_execute_16, iv3_41, c_X3_readToken, eX3_execute_19, eX3_execute_20, iv3_44, c_X3_readHeader, eX3_execute_23, tn_37, eX3_execute_26, eX3_execute_27, iv3_48, c_X3_readSemicolon, eX3_execute_30, eX3_execute_33, cI_1, eX3_execute_34, tn_38, eX3_execute_37, eX3_execute_38, eX3_execute_39, eX3_execute_40, gf3_15, eX3_execute_43, eX3_execute_44, fX3_execute_44, eX3_execute_45, tn_85, eX3_execute_48, eX3_execute_49, eX3_execute_52, eX3_execute_53, gf3_32, eX3_execute_56, eX3_execute_59, eX3_execute_60, iv3_51, c_X3_readCommand, eX3_execute_63, tn_77, eX3_execute_66, eX3_execute_67, eX3_execute_70, eX3_execute_73, eX3_execute_74, tn_78, eX3_execute_77, eX3_execute_78, eX3_execute_79, eX3_execute_82, tn_44, eX3_execute_85, d_X3_execute, re_X3_execute])
  simp (disch := omega) only [nI_mul, nI_add, nI_clamp, nI_inE, nI_leE, nI_ltE, nI_eqE, nI_eqz, nI_ltz, nI_gez, nI_lez, nI_gtz, nI_m1, nI_m1', nI_ltm, nI_gem, nI_gtm, nI_lem, nI_00, nI_01, nI_10, nI_11, bI_z, bI_1, bI_0, bI_b, bI_nz, bit_e, arK_i, arK_b, arK_j, true_and, and_true, ne_eq, not_false_eq_true, not_true_eq_false, false_and, and_false, true_or, or_true, false_or, or_false, Classical.not_not, forall_const, true_implies, implies_true, false_implies, eq_self, sI_K, sI_L, sI_P, sI_J, sI_Z, sI_Ie, sR_K, sR_L, sR_P, sR_J, sR_Z, sR_Ie, sP_K, sP_L, sP_I, sP_J, sP_Z, sP_Pe, sJ_K, sJ_L, sJ_P, sJ_I, sJ_Z, sJ_Je, a1]
  have hF0 : FO h (sI (sI (sI h i 3 (nI 0)) i 4 (-1)) i 7 (nI 0)) i (fun k => k = 3 ∨ k = 4 ∨ k = 7) := FO_tr (FO_sI (Or.inl rfl)) (FO_tr (FO_sI (Or.inr (Or.inl rfl))) (FO_sI (Or.inr (Or.inr rfl))))
  refine CV_of (c_readToken (n := n) (e := 0) (SXs_fo hX hF0 (by omega)) (Nat.zero_le _) sI_Ie) (fun _ _ z => z.elim) fun h1 ⟨f1, f2⟩ => ?_
  have hX1 := SXs_fo (SXs_fo hX hF0 (by omega)) f1 (by unfold tkF; omega)
  have hF1 : FRr h h1 i (i + 1) := FRr_tr hF0.1 f1.1
  have hS1 : SC h1 i U n w (tokS U n 0) := ⟨hX1, NW_fr hN hF1 (by omega), f2, tok_b (Nat.zero_le _)⟩
  have i3 : mI h1 i 3 = nI 0 := (f1.2.2 3 (by unfold tkF; omega)).trans (by rw [sI_Ik (by decide), sI_Ik (by decide), sI_Ie])
  have i4 : mI h1 i 4 = -1 := (f1.2.2 4 (by unfold tkF; omega)).trans (by rw [sI_Ik (by decide), sI_Ie])
  have hp1 : exP h h1 i U n (0, 0, w, tokS U n 0) := ⟨hS1, FRr_mono hF1 (Nat.le_refl _) (by omega), i3, by rw [i4]; exact (iteC_t rfl).symm⟩
  refine ⟨hX1.1, CI_of (c_readHeader hS1) (fun _ _ z => z.elim) fun r h2 hq => ?_⟩
  obtain ⟨hp2, er⟩ := exP_cm hp1 rfl hq
  have a2 := hp2.1.1.1
  have a25 := hp2.1.1.2.2.2.2.1
  rw [er]
  simp (disch := omega) only [nI_mul, nI_add, nI_clamp, nI_inE, nI_leE, nI_ltE, nI_eqE, nI_eqz, nI_ltz, nI_gez, nI_lez, nI_gtz, nI_m1, nI_m1', nI_ltm, nI_gem, nI_gtm, nI_lem, nI_00, nI_01, nI_10, nI_11, bI_z, bI_1, bI_0, bI_b, bI_nz, bit_e, arK_i, arK_b, arK_j, true_and, and_true, ne_eq, not_false_eq_true, not_true_eq_false, false_and, and_false, true_or, or_true, false_or, or_false, Classical.not_not, forall_const, true_implies, implies_true, false_implies, eq_self, a2, a25]
  refine ⟨fun g => ?_, fun g => call_semi hp2.1 fun r2 h3 hq3 => ?_⟩
  · have := c_exLoop (x := x) n (stS U n (hdS U n w (tokS U n 0))) h2 hn (by rw [st_f g]; exact hp2) (fun z => by rw [st_f g] at z; exact absurd z g)
    rw [show lpS U n n (stS U n (hdS U n w (tokS U n 0))) = scX U n w from rfl, st_f g, bI_f g] at this
    exact this
  · obtain ⟨hp3, er3⟩ := exP_cm hp2 g hq3
    have a3 := hp3.1.1.1
    have a35 := hp3.1.1.2.2.2.2.1
    have := c_exLoop (x := x) n (stS U n (hdS U n w (tokS U n 0))) h3 hn (by rw [st_t g]; exact hp3) (fun z => by obtain ⟨np, nt, -, hB⟩ := hd_B g; exact ⟨np, nt, st_B hB⟩)
    rw [show lpS U n n (stS U n (hdS U n w (tokS U n 0))) = scX U n w from rfl, st_t g] at this
    rw [er3]
    simp (disch := omega) only [nI_mul, nI_add, nI_clamp, nI_inE, nI_leE, nI_ltE, nI_eqE, nI_eqz, nI_ltz, nI_gez, nI_lez, nI_gtz, nI_m1, nI_m1', nI_ltm, nI_gem, nI_gtm, nI_lem, nI_00, nI_01, nI_10, nI_11, bI_z, bI_1, bI_0, bI_b, bI_nz, bit_e, arK_i, arK_b, arK_j, true_and, and_true, ne_eq, not_false_eq_true, not_true_eq_false, false_and, and_false, true_or, or_true, false_or, or_false, Classical.not_not, forall_const, true_implies, implies_true, false_implies, eq_self, a3, a35]
    refine ⟨fun g4 => ?_, fun g4 => ?_⟩
    · rw [bI_f g4] at this; exact this
    · rw [bI_t g4] at this; exact this
end SCR
