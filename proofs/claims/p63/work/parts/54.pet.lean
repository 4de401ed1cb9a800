section PET
variable {x : CX}
theorem c_beginChange {h : MH} {i : Nat} {s : AS} (hP : PO h i s) : CT x sX4_beginChange [.ref i] h (pV fun h' => PO h' i (chg s) ∧ mI h' i 7 = nI 0 ∧ FZ h h' i (i + 119) ∧ EQr h h' (i + 94) (i + 119)) xNo := by
  obtain ⟨a0, p0, -, -, p4, -⟩ := hP.1
  have n0 := hP.2.1.1.1
  have b1 : mK h (i + 22) = 2 := by obtain ⟨nxt, b1, -⟩ := hP.2.2.2.2.2.1; exact b1
  (refine CT_of (o := 4) rfl (by decide +kernel) (by simp [Value.category, sX4_beginChange]) (MW_ev kX4_beginChange 300 ?_); show evS _ _ _ _ _ _ 300 0 (0, 0) [.ref i] [] _; simp only [st_iconst, st_lconst, st_ldc2_w, st_ldc, st_iload, st_lload, st_aload, st_istore, st_astore, st_lstore, st_iinc, st_iadd, st_isub, st_imul, st_idiv, st_irem, st_iand, st_ior, st_ishl, st_ishr, st_iushr, st_ladd, st_lmul, st_lshl, st_lushr, st_lcmp, st_i2l, st_l2i, st_i2b, st_i2c, st_i2d, st_i2f, st_dconst, st_fconst, st_ddiv, st_fdiv, st_dup, st_dup2, st_pop, st_goto, st_if_icmp, st_ifCond, st_tableswitch, st_lookupswitch, st_iaload, st_baload, st_laload, st_aaload, st_iastore, st_bastore, st_lastore, st_aastore, st_saload, st_faload, st_jsr, st_caload, st_d2i, st_d2f, st_ineg, st_ixor, st_dup_x1, st_aconst_null, st_ifnonnull, st_castore, st_getstatic, st_frem, st_drem, st_monitorexit, st_monitorenter, st_invokeinterface, st_newarray, st_anewarray, st_multianewarray, asI_c, asJ_c, asR_c, asD_c, asF_c, popI_c, popJ_c, popR_c, popD_c, popF_c, pop1_c, okSt_0, okSt_S, rcv_0, rcv_1, rcv_2, rcv_3, rcv_4, rcv_5, rcv_8, pI_c, pJ_c, pR_c, pV_c, pD_c, pF_c, cmp_eq, cmp_ne, cmp_lt, cmp_ge, cmp_gt, cmp_le, nth_0, nth_S, set_0, set_S, cat_int, cat_ref, cat_long, cat_double, cat_float, cat_null, catS_0, catS_S, swT_0, swT_S, swL_0, swL_S, Nat.add_zero, Nat.reduceAdd, Nat.reduceSub, Nat.reduceLT, Nat.reduceLeDiff, true_and, and_true, eq_self, eX4_beginChange_0, fX4_beginChange_0, eX4_beginChange_1, gf4_33, eX4_beginChange_4, eX4_beginChange_5, gf4_13, eX4_beginChange_8, iv4_182, c_X1_push, eX4_beginChange_11, eX4_beginChange_12, cI_0, eX4_beginChange_13, pf4_51, eX4_beginChange_16, d_X4_beginChange, re_X4_beginChange])
  simp (disch := omega) only [nI_mul, nI_add, nI_clamp, nI_inE, nI_leE, nI_ltE, nI_eqE, nI_eqz, nI_ltz, nI_gez, nI_lez, nI_gtz, nI_m1, nI_m1', nI_ltm, nI_gem, nI_gtm, nI_lem, nI_00, nI_01, nI_10, nI_11, bI_z, bI_1, bI_0, bI_b, bI_nz, bit_e, arK_i, arK_b, arK_j, true_and, and_true, ne_eq, not_false_eq_true, not_true_eq_false, false_and, and_false, true_or, or_true, false_or, or_false, Classical.not_not, forall_const, true_implies, implies_true, false_implies, eq_self, a0, p0, p4, n0, b1]
  refine ⟨by omega, by omega, CV_of (c_push hP.2.2.2.2.2.1 hP.2.1 (by omega)) (fun _ _ z => z.elim) fun h1 ⟨hH, hF⟩ => ?_⟩
  have hP1 : PO h1 i (chg s) := PO_his hP hF hH
  have a1 := hP1.1.1
  simp (disch := omega) only [nI_mul, nI_add, nI_clamp, nI_inE, nI_leE, nI_ltE, nI_eqE, nI_eqz, nI_ltz, nI_gez, nI_lez, nI_gtz, nI_m1, nI_m1', nI_ltm, nI_gem, nI_gtm, nI_lem, nI_00, nI_01, nI_10, nI_11, bI_z, bI_1, bI_0, bI_b, bI_nz, bit_e, arK_i, arK_b, arK_j, true_and, and_true, ne_eq, not_false_eq_true, not_true_eq_false, false_and, and_false, true_or, or_true, false_or, or_false, Classical.not_not, forall_const, true_implies, implies_true, false_implies, eq_self, a1]
  exact ⟨PO_f7 hP1, sI_Ie, FZ_tr (FZ_rm hF (by omega) (by omega)) (FZ_rm (FRr_sI (Nat.le_refl i) (Nat.lt_succ_self i)) (by omega) (by omega)), fun a g1 g2 => EQ_tr (EQ_fr hF (by omega)) (EQ_sI (by omega))⟩
theorem chg_W {s : AS} : aW (chg s) = aW s := rfl
theorem c_setTokens {h : MH} {i np nt : Nat} {s : AS} {p t : Int32} (hP : PO h i s) (hB : NB (aW s) np nt) : OPC x sX4_setTokens [.ref i, .int p, .int t] h i [eIB, eIA] (qST s np p t) := by
  obtain ⟨a0, p0, -, -, -, -, -, -, -, n0, -, -, -, s3, -, -, -, -, k3, l3, -⟩ := PO_nw hP hB
  have hnp := hB.2.2.2.1
  (refine CT_of (o := 4) rfl (by decide +kernel) (by simp [Value.category, sX4_setTokens]) (MW_ev kX4_setTokens 300 ?_); show evS _ _ _ _ _ _ 300 0 (2, 12) [.ref i, .int p, .int t, .null] [] _; simp only [st_iconst, st_lconst, st_ldc2_w, st_ldc, st_iload, st_lload, st_aload, st_istore, st_astore, st_lstore, st_iinc, st_iadd, st_isub, st_imul, st_idiv, st_irem, st_iand, st_ior, st_ishl, st_ishr, st_iushr, st_ladd, st_lmul, st_lshl, st_lushr, st_lcmp, st_i2l, st_l2i, st_i2b, st_i2c, st_i2d, st_i2f, st_dconst, st_fconst, st_ddiv, st_fdiv, st_dup, st_dup2, st_pop, st_goto, st_if_icmp, st_ifCond, st_tableswitch, st_lookupswitch, st_iaload, st_baload, st_laload, st_aaload, st_iastore, st_bastore, st_lastore, st_aastore, st_saload, st_faload, st_jsr, st_caload, st_d2i, st_d2f, st_ineg, st_ixor, st_dup_x1, st_aconst_null, st_ifnonnull, st_castore, st_getstatic, st_frem, st_drem, st_monitorexit, st_monitorenter, st_invokeinterface, st_newarray, st_anewarray, st_multianewarray, asI_c, asJ_c, asR_c, asD_c, asF_c, popI_c, popJ_c, popR_c, popD_c, popF_c, pop1_c, okSt_0, okSt_S, rcv_0, rcv_1, rcv_2, rcv_3, rcv_4, rcv_5, rcv_8, pI_c, pJ_c, pR_c, pV_c, pD_c, pF_c, cmp_eq, cmp_ne, cmp_lt, cmp_ge, cmp_gt, cmp_le, nth_0, nth_S, set_0, set_S, cat_int, cat_ref, cat_long, cat_double, cat_float, cat_null, catS_0, catS_S, swT_0, swT_S, swL_0, swL_S, Nat.add_zero, Nat.reduceAdd, Nat.reduceSub, Nat.reduceLT, Nat.reduceLeDiff, true_and, and_true, eq_self, eX4_setTokens_0, fX4_setTokens_0, eX4_setTokens_1, eX4_setTokens_2, iv4_121, c_X4_checkPlace, eX4_setTokens_5, eX4_setTokens_6, cI_0, eX4_setTokens_7, eX4_setTokens_8, gf4_13, eX4_setTokens_11, gf4_70, eX4_setTokens_14, eX4_setTokens_15, eX4_setTokens_16, iv4_99, c_X4_checkRange, eX4_setTokens_19, eX4_setTokens_20, iv4_109, c_X4_beginChange, eX4_setTokens_23, eX4_setTokens_24, eX4_setTokens_27, gf4_73, eX4_setTokens_30, eX4_setTokens_31, eX4_setTokens_32, eX4_setTokens_33, eX4_setTokens_34, eX4_setTokens_37, eX4_setTokens_40, eX4_setTokens_41, eX4_setTokens_42, eX4_setTokens_43, eX4_setTokens_44, d_X4_setTokens, re_X4_setTokens])
  refine ⟨a0, CV_x (c_checkPlace hP hB) (fun E h' z => th_x hP fz0 (fun g => iteC_f g) rfl z) fun h' ⟨e, g⟩ => ?_⟩
  subst e
  have hq : qST s np p t = iteC (¬ t < 0 ∧ t ≤ aW s (10 + cl p)) (okA (wW (chg s) (udW (aW s) (2 + cl p) t)) (aW s (2 + cl p))) (noA s 2) := iteC_t g
  obtain ⟨p, hp, rfl⟩ := g
  rw [cl_nI (by omega)] at hq
  have hpc := PO_cap hP (p := p) (by omega)
  simp (disch := omega) only [nI_mul, nI_add, nI_clamp, nI_inE, nI_leE, nI_ltE, nI_eqE, nI_eqz, nI_ltz, nI_gez, nI_lez, nI_gtz, nI_m1, nI_m1', nI_ltm, nI_gem, nI_gtm, nI_lem, nI_00, nI_01, nI_10, nI_11, bI_z, bI_1, bI_0, bI_b, bI_nz, bit_e, arK_i, arK_b, arK_j, true_and, and_true, ne_eq, not_false_eq_true, not_true_eq_false, false_and, and_false, true_or, or_true, false_or, or_false, Classical.not_not, forall_const, true_implies, implies_true, false_implies, eq_self, a0, p0, n0, s3, k3, l3, hpc]
  refine ⟨by omega, by omega, CV_x c_checkRange (fun E h'' z => th_x hP fz0 (fun g => hq.trans (iteC_f (by rw [nI_0] at g; exact g))) rfl z) fun h'' ⟨e, g⟩ => ⟨?_, ?_⟩⟩
  · rw [e]; exact a0
  rw [e]
  have hq := hq.trans (iteC_t (by rw [nI_0] at g; exact g))
  clear g
  refine CV_of (c_beginChange hP) (fun _ _ z => z.elim) fun h1 ⟨hP1, h17, hF1, hE1⟩ => ?_
  clear a0 p0 n0 s3 k3 l3
  (try clear a0; try clear p0; try clear n0)
  obtain ⟨a0, p0, -, -, -, -, -, -, -, n0, -, -, s2, -, -, -, k2, l2, -⟩ := PO_nw hP1 (np := np) (nt := nt) hB
  have hpt := PO_tok hP1 (p := p) (by omega)
  rw [chg_W] at hpt
  have hF2 : FRr h1 (sI h1 (i + 2) p t) (i + 1) (i + 8) := FRr_sI (by omega) (by omega)
  have hN2 : NW (sI h1 (i + 2) p t) (i + 1) (udW (aW s) (2 + p) t) := NW_s2 (i := i + 1) hP1.2.1 (by omega)
  simp (disch := omega) only [nI_mul, nI_add, nI_clamp, nI_inE, nI_leE, nI_ltE, nI_eqE, nI_eqz, nI_ltz, nI_gez, nI_lez, nI_gtz, nI_m1, nI_m1', nI_ltm, nI_gem, nI_gtm, nI_lem, nI_00, nI_01, nI_10, nI_11, bI_z, bI_1, bI_0, bI_b, bI_nz, bit_e, arK_i, arK_b, arK_j, true_and, and_true, ne_eq, not_false_eq_true, not_true_eq_false, false_and, and_false, true_or, or_true, false_or, or_false, Classical.not_not, forall_const, true_implies, implies_true, false_implies, eq_self, a0, p0, n0, s2, k2, l2, hpt]
  refine ⟨by omega, by omega, by omega, by omega, ok_of hq (PO_net hP1 h17 hF2 hN2) (FZ_tr hF1 (FZ_rm hF2 (by omega) (by omega)))⟩
theorem c_setCapacity {h : MH} {i np nt : Nat} {s : AS} {p t : Int32} (hP : PO h i s) (hB : NB (aW s) np nt) : OPC x sX4_setCapacity [.ref i, .int p, .int t] h i [eIB, eIA, eIS] (qSC s np p t) := by
  obtain ⟨a0, p0, -, -, -, -, -, -, -, n0, -, -, s2, -, -, -, k2, l2, -⟩ := PO_nw hP hB
  have hnp := hB.2.2.2.1
  (refine CT_of (o := 4) rfl (by decide +kernel) (by simp [Value.category, sX4_setCapacity]) (MW_ev kX4_setCapacity 300 ?_); show evS _ _ _ _ _ _ 300 0 (3, 18) [.ref i, .int p, .int t, .null] [] _; simp only [st_iconst, st_lconst, st_ldc2_w, st_ldc, st_iload, st_lload, st_aload, st_istore, st_astore, st_lstore, st_iinc, st_iadd, st_isub, st_imul, st_idiv, st_irem, st_iand, st_ior, st_ishl, st_ishr, st_iushr, st_ladd, st_lmul, st_lshl, st_lushr, st_lcmp, st_i2l, st_l2i, st_i2b, st_i2c, st_i2d, st_i2f, st_dconst, st_fconst, st_ddiv, st_fdiv, st_dup, st_dup2, st_pop, st_goto, st_if_icmp, st_ifCond, st_tableswitch, st_lookupswitch, st_iaload, st_baload, st_laload, st_aaload, st_iastore, st_bastore, st_lastore, st_aastore, st_saload, st_faload, st_jsr, st_caload, st_d2i, st_d2f, st_ineg, st_ixor, st_dup_x1, st_aconst_null, st_ifnonnull, st_castore, st_getstatic, st_frem, st_drem, st_monitorexit, st_monitorenter, st_invokeinterface, st_newarray, st_anewarray, st_multianewarray, asI_c, asJ_c, asR_c, asD_c, asF_c, popI_c, popJ_c, popR_c, popD_c, popF_c, pop1_c, okSt_0, okSt_S, rcv_0, rcv_1, rcv_2, rcv_3, rcv_4, rcv_5, rcv_8, pI_c, pJ_c, pR_c, pV_c, pD_c, pF_c, cmp_eq, cmp_ne, cmp_lt, cmp_ge, cmp_gt, cmp_le, nth_0, nth_S, set_0, set_S, cat_int, cat_ref, cat_long, cat_double, cat_float, cat_null, catS_0, catS_S, swT_0, swT_S, swL_0, swL_S, Nat.add_zero, Nat.reduceAdd, Nat.reduceSub, Nat.reduceLT, Nat.reduceLeDiff, true_and, and_true, eq_self, eX4_setCapacity_0, fX4_setCapacity_0, eX4_setCapacity_1, eX4_setCapacity_2, iv4_121, c_X4_checkPlace, eX4_setCapacity_5, eX4_setCapacity_6, cI_1, eX4_setCapacity_7, cI_30, eX4_setCapacity_9, iv4_99, c_X4_checkRange, eX4_setCapacity_12, eX4_setCapacity_13, gf4_13, eX4_setCapacity_16, gf4_73, eX4_setCapacity_19, eX4_setCapacity_20, eX4_setCapacity_21, eX4_setCapacity_22, tn_35, eX4_setCapacity_25, eX4_setCapacity_35, eX4_setCapacity_36, iv4_109, c_X4_beginChange, eX4_setCapacity_39, eX4_setCapacity_40, eX4_setCapacity_43, gf4_70, eX4_setCapacity_46, eX4_setCapacity_47, eX4_setCapacity_48, eX4_setCapacity_49, eX4_setCapacity_50, eX4_setCapacity_53, eX4_setCapacity_56, eX4_setCapacity_57, eX4_setCapacity_58, eX4_setCapacity_59, eX4_setCapacity_60, d_X4_setCapacity, re_X4_setCapacity])
  refine ⟨a0, CV_x (c_checkPlace hP hB) (fun E h' z => th_x hP fz0 (fun g => iteC_f g) rfl z) fun h' ⟨e, g⟩ => ?_⟩
  subst e
  have hq : qSC s np p t = iteC (¬ t < nI 1 ∧ t ≤ nI 30) (iteC (t < aW s (2 + cl p)) (noA s 3) (okA (wW (chg s) (udW (aW s) (10 + cl p) t)) (aW s (10 + cl p)))) (noA s 2) := iteC_t g
  obtain ⟨p, hp, rfl⟩ := g
  rw [cl_nI (by omega)] at hq
  refine CV_x c_checkRange (fun E h'' z => th_x hP fz0 (fun g => hq.trans (iteC_f g)) rfl z) fun h'' ⟨e, g⟩ => ?_
  subst e
  have hq := hq.trans (iteC_t g)
  clear g
  have hpt := PO_tok hP (p := p) (by omega)
  simp (disch := omega) only [nI_mul, nI_add, nI_clamp, nI_inE, nI_leE, nI_ltE, nI_eqE, nI_eqz, nI_ltz, nI_gez, nI_lez, nI_gtz, nI_m1, nI_m1', nI_ltm, nI_gem, nI_gtm, nI_lem, nI_00, nI_01, nI_10, nI_11, bI_z, bI_1, bI_0, bI_b, bI_nz, bit_e, arK_i, arK_b, arK_j, true_and, and_true, ne_eq, not_false_eq_true, not_true_eq_false, false_and, and_false, true_or, or_true, false_or, or_false, Classical.not_not, forall_const, true_implies, implies_true, false_implies, eq_self, a0, p0, n0, s2, k2, l2, hpt]
  refine ⟨by omega, by omega, fun g2 => ?_, fun g2 => ?_⟩
  · have hq := hq.trans (iteC_f (Int32.not_lt.mpr g2))
    clear g2
    refine CV_of (c_beginChange hP) (fun _ _ z => z.elim) fun h1 ⟨hP1, h17, hF1, hE1⟩ => ?_
    clear a0 p0 n0 s2 k2 l2
    (try clear a0; try clear p0; try clear n0)
    obtain ⟨a0, p0, -, -, -, -, -, -, -, n0, -, -, -, s3, -, -, -, -, k3, l3, -⟩ := PO_nw hP1 (np := np) (nt := nt) hB
    have hpt := PO_cap hP1 (p := p) (by omega)
    rw [chg_W] at hpt
    have hF2 : FRr h1 (sI h1 (i + 3) p t) (i + 1) (i + 8) := FRr_sI (by omega) (by omega)
    have hN2 : NW (sI h1 (i + 3) p t) (i + 1) (udW (aW s) (10 + p) t) := NW_s3 (i := i + 1) hP1.2.1 (by omega)
    simp (disch := omega) only [nI_mul, nI_add, nI_clamp, nI_inE, nI_leE, nI_ltE, nI_eqE, nI_eqz, nI_ltz, nI_gez, nI_lez, nI_gtz, nI_m1, nI_m1', nI_ltm, nI_gem, nI_gtm, nI_lem, nI_00, nI_01, nI_10, nI_11, bI_z, bI_1, bI_0, bI_b, bI_nz, bit_e, arK_i, arK_b, arK_j, true_and, and_true, ne_eq, not_false_eq_true, not_true_eq_false, false_and, and_false, true_or, or_true, false_or, or_false, Classical.not_not, forall_const, true_implies, implies_true, false_implies, eq_self, a0, p0, n0, s3, k3, l3, hpt]
    refine ⟨by omega, by omega, by omega, by omega, ok_of hq (PO_net hP1 h17 hF2 hN2) (FZ_tr hF1 (FZ_rm hF2 (by omega) (by omega)))⟩
  · exact fun z hz => th_of (k := 2) (hq.trans (iteC_t (Int32.not_le.mp g2))) rfl (PO_sZ hP) (FZ_sZ hz)
/-- an arc is set -/
theorem arc_end {h h1 : MH} {i f off p t : Nat} {s : AS} {v : Int32} {A : AR} (hP1 : PO h1 i (chg s)) (h17 : mI h1 i 7 = nI 0) (hF1 : FZ h h1 i (i + 119)) (hf : isTg f off) (hp : p < 8) (ht : t < 10) (hA : A = okA (wW (chg s) (udW (aW s) (off + (t * 8 + p)) v)) (aW s (off + (t * 8 + p)))) :
    mK h1 (mP h1 (i + 1) f) = 11 ∧ mL h1 (mP h1 (i + 1) f) = 80 ∧ mP h1 (i + 1) f ≠ 0 ∧ mI h1 (mP h1 (i + 1) f) (t * 8 + p) = aW s (off + (t * 8 + p)) ∧ okP A h i (aW s (off + (t * 8 + p))) (sI h1 (mP h1 (i + 1) f) (t * 8 + p) v) := by
  obtain ⟨q1, q2, q3, q4, q5⟩ := net_tg hP1.2.1 hf
  refine ⟨q1, q2, by omega, ?_, ok_of hA (PO_net hP1 h17 (FRr_sI (by omega) (by omega)) (q5 _ _ (by omega))) (FZ_tr hF1 (FZ_rm (FRr_sI (Nat.le_refl _) (Nat.lt_succ_self _)) (by omega) (by omega)))⟩
  obtain ⟨⟨n0, n1, n2, A, B, C, D, E, G⟩, -⟩ := hP1.2.1
  rcases hf with ⟨rfl, rfl⟩ | ⟨rfl, rfl⟩ | ⟨rfl, rfl⟩
  · exact C.2.2.2 _ (by omega)
  · exact D.2.2.2 _ (by omega)
  · exact E.2.2.2 _ (by omega)
theorem th_arc {h : MH} {i np nt off : Nat} {s : AS} {p t v : Int32} {E : String} {h' : MH} (hP : PO h i s) (z : xTh h eIB (¬ (inR p np ∧ inR t nt)) E h' ∨ xTh h eIA ((inR p np ∧ inR t nt) ∧ ¬ inR v 10) E h') : thP (qArc s np nt off p t v) [eIB, eIA] h i E h' := by
  rcases z with z | z
  · exact th_x hP fz0 (fun g => iteC_f g) rfl z
  · exact th_x hP fz0 (fun g => (iteC_t g.1).trans (iteC_f g.2)) rfl z
theorem c_setInput {h : MH} {i np nt : Nat} {s : AS} {p t v : Int32} (hP : PO h i s) (hB : NB (aW s) np nt) : OPC x sX4_setInput [.ref i, .int p, .int t, .int v] h i [eIB, eIA] (qArc s np nt 28 p t v) := by
  have a0 := hP.1.1
  have hnp := hB.2.2.2.1
  have hnt := hB.2.2.2.2.2
  (refine CT_of (o := 4) rfl (by decide +kernel) (by simp [Value.category, sX4_setInput]) (MW_ev kX4_setInput 300 ?_); show evS _ _ _ _ _ _ 300 0 (3, 18) [.ref i, .int p, .int t, .int v, .null] [] _; simp only [st_iconst, st_lconst, st_ldc2_w, st_ldc, st_iload, st_lload, st_aload, st_istore, st_astore, st_lstore, st_iinc, st_iadd, st_isub, st_imul, st_idiv, st_irem, st_iand, st_ior, st_ishl, st_ishr, st_iushr, st_ladd, st_lmul, st_lshl, st_lushr, st_lcmp, st_i2l, st_l2i, st_i2b, st_i2c, st_i2d, st_i2f, st_dconst, st_fconst, st_ddiv, st_fdiv, st_dup, st_dup2, st_pop, st_goto, st_if_icmp, st_ifCond, st_tableswitch, st_lookupswitch, st_iaload, st_baload, st_laload, st_aaload, st_iastore, st_bastore, st_lastore, st_aastore, st_saload, st_faload, st_jsr, st_caload, st_d2i, st_d2f, st_ineg, st_ixor, st_dup_x1, st_aconst_null, st_ifnonnull, st_castore, st_getstatic, st_frem, st_drem, st_monitorexit, st_monitorenter, st_invokeinterface, st_newarray, st_anewarray, st_multianewarray, asI_c, asJ_c, asR_c, asD_c, asF_c, popI_c, popJ_c, popR_c, popD_c, popF_c, pop1_c, okSt_0, okSt_S, rcv_0, rcv_1, rcv_2, rcv_3, rcv_4, rcv_5, rcv_8, pI_c, pJ_c, pR_c, pV_c, pD_c, pF_c, cmp_eq, cmp_ne, cmp_lt, cmp_ge, cmp_gt, cmp_le, nth_0, nth_S, set_0, set_S, cat_int, cat_ref, cat_long, cat_double, cat_float, cat_null, catS_0, catS_S, swT_0, swT_S, swL_0, swL_S, Nat.add_zero, Nat.reduceAdd, Nat.reduceSub, Nat.reduceLT, Nat.reduceLeDiff, true_and, and_true, eq_self, eX4_setInput_0, fX4_setInput_0, eX4_setInput_1, eX4_setInput_2, eX4_setInput_3, eX4_setInput_4, iv4_131, c_X4_checkArc, eX4_setInput_7, eX4_setInput_8, iv4_109, c_X4_beginChange, eX4_setInput_11, eX4_setInput_12, gf4_13, eX4_setInput_15, gf4_76, eX4_setInput_18, eX4_setInput_19, eX4_setInput_20, iv4_79, c_X2_arc, eX4_setInput_23, eX4_setInput_24, eX4_setInput_26, eX4_setInput_27, eX4_setInput_30, eX4_setInput_33, eX4_setInput_34, eX4_setInput_35, eX4_setInput_38, eX4_setInput_39, eX4_setInput_40, eX4_setInput_42, d_X4_setInput, re_X4_setInput])
  refine ⟨a0, CV_x (c_checkArc hP hB) (fun E h' z => th_arc hP z) fun h' ⟨e, g, g2⟩ => ?_⟩
  subst e
  have hq : qArc s np nt 28 p t v = okA (wW (chg s) (udW (aW s) (28 + (cl t * 8 + cl p)) v)) (aW s (28 + (cl t * 8 + cl p))) := (iteC_t g).trans (iteC_t g2)
  obtain ⟨⟨p, hp, rfl⟩, ⟨t, ht, rfl⟩⟩ := g
  rw [cl_nI (by omega), cl_nI (by omega)] at hq
  refine ⟨a0, CV_of (c_beginChange hP) (fun _ _ z => z.elim) fun h1 ⟨hP1, h17, hF1, hE1⟩ => ?_⟩
  obtain ⟨a0, p0, -, -, -, -, -, -, -, n0, -⟩ := PO_nw hP1 (np := np) (nt := nt) hB
  obtain ⟨q1, q2, q3, q4, q5⟩ := arc_end hP1 h17 hF1 (Or.inl ⟨rfl, rfl⟩) (by omega) (by omega) hq
  simp (disch := omega) only [nI_mul, nI_add, nI_clamp, nI_inE, nI_leE, nI_ltE, nI_eqE, nI_eqz, nI_ltz, nI_gez, nI_lez, nI_gtz, nI_m1, nI_m1', nI_ltm, nI_gem, nI_gtm, nI_lem, nI_00, nI_01, nI_10, nI_11, bI_z, bI_1, bI_0, bI_b, bI_nz, bit_e, arK_i, arK_b, arK_j, true_and, and_true, ne_eq, not_false_eq_true, not_true_eq_false, false_and, and_false, true_or, or_true, false_or, or_false, Classical.not_not, forall_const, true_implies, implies_true, false_implies, eq_self, a0, p0, n0]
  refine ⟨by omega, q3, CI_pure (c_arc t p) ?_⟩
  have hq8 : t * 8 + p < 80 := by omega
  simp (disch := omega) only [nI_mul, nI_add, nI_clamp, nI_inE, nI_leE, nI_ltE, nI_eqE, nI_eqz, nI_ltz, nI_gez, nI_lez, nI_gtz, nI_m1, nI_m1', nI_ltm, nI_gem, nI_gtm, nI_lem, nI_00, nI_01, nI_10, nI_11, bI_z, bI_1, bI_0, bI_b, bI_nz, bit_e, arK_i, arK_b, arK_j, true_and, and_true, ne_eq, not_false_eq_true, not_true_eq_false, false_and, and_false, true_or, or_true, false_or, or_false, Classical.not_not, forall_const, true_implies, implies_true, false_implies, eq_self, a0, p0, n0, q1, q2, q4]
  refine ⟨by omega, q3, CI_pure (c_arc t p) ?_⟩
  simp (disch := omega) only [nI_mul, nI_add, nI_clamp, nI_inE, nI_leE, nI_ltE, nI_eqE, nI_eqz, nI_ltz, nI_gez, nI_lez, nI_gtz, nI_m1, nI_m1', nI_ltm, nI_gem, nI_gtm, nI_lem, nI_00, nI_01, nI_10, nI_11, bI_z, bI_1, bI_0, bI_b, bI_nz, bit_e, arK_i, arK_b, arK_j, true_and, and_true, ne_eq, not_false_eq_true, not_true_eq_false, false_and, and_false, true_or, or_true, false_or, or_false, Classical.not_not, forall_const, true_implies, implies_true, false_implies, eq_self, q1, q2]
  exact q5
theorem c_setOutput {h : MH} {i np nt : Nat} {s : AS} {p t v : Int32} (hP : PO h i s) (hB : NB (aW s) np nt) : OPC x sX4_setOutput [.ref i, .int t, .int p, .int v] h i [eIB, eIA] (qArc s np nt 108 p t v) := by
  have a0 := hP.1.1
  have hnp := hB.2.2.2.1
  have hnt := hB.2.2.2.2.2
  (refine CT_of (o := 4) rfl (by decide +kernel) (by simp [Value.category, sX4_setOutput]) (MW_ev kX4_setOutput 300 ?_); show evS _ _ _ _ _ _ 300 0 (3, 18) [.ref i, .int t, .int p, .int v, .null] [] _; simp only [st_iconst, st_lconst, st_ldc2_w, st_ldc, st_iload, st_lload, st_aload, st_istore, st_astore, st_lstore, st_iinc, st_iadd, st_isub, st_imul, st_idiv, st_irem, st_iand, st_ior, st_ishl, st_ishr, st_iushr, st_ladd, st_lmul, st_lshl, st_lushr, st_lcmp, st_i2l, st_l2i, st_i2b, st_i2c, st_i2d, st_i2f, st_dconst, st_fconst, st_ddiv, st_fdiv, st_dup, st_dup2, st_pop, st_goto, st_if_icmp, st_ifCond, st_tableswitch, st_lookupswitch, st_iaload, st_baload, st_laload, st_aaload, st_iastore, st_bastore, st_lastore, st_aastore, st_saload, st_faload, st_jsr, st_caload, st_d2i, st_d2f, st_ineg, st_ixor, st_dup_x1, st_aconst_null, st_ifnonnull, st_castore, st_getstatic, st_frem, st_drem, st_monitorexit, st_monitorenter, st_invokeinterface, st_newarray, st_anewarray, st_multianewarray, asI_c, asJ_c, asR_c, asD_c, asF_c, popI_c, popJ_c, popR_c, popD_c, popF_c, pop1_c, okSt_0, okSt_S, rcv_0, rcv_1, rcv_2, rcv_3, rcv_4, rcv_5, rcv_8, pI_c, pJ_c, pR_c, pV_c, pD_c, pF_c, cmp_eq, cmp_ne, cmp_lt, cmp_ge, cmp_gt, cmp_le, nth_0, nth_S, set_0, set_S, cat_int, cat_ref, cat_long, cat_double, cat_float, cat_null, catS_0, catS_S, swT_0, swT_S, swL_0, swL_S, Nat.add_zero, Nat.reduceAdd, Nat.reduceSub, Nat.reduceLT, Nat.reduceLeDiff, true_and, and_true, eq_self, eX4_setOutput_0, fX4_setOutput_0, eX4_setOutput_1, eX4_setOutput_2, eX4_setOutput_3, eX4_setOutput_4, iv4_131, c_X4_checkArc, eX4_setOutput_7, eX4_setOutput_8, iv4_109, c_X4_beginChange, eX4_setOutput_11, eX4_setOutput_12, gf4_13, eX4_setOutput_15, gf4_83, eX4_setOutput_18, eX4_setOutput_19, eX4_setOutput_20, iv4_79, c_X2_arc, eX4_setOutput_23, eX4_setOutput_24, eX4_setOutput_26, eX4_setOutput_27, eX4_setOutput_30, eX4_setOutput_33, eX4_setOutput_34, eX4_setOutput_35, eX4_setOutput_38, eX4_setOutput_39, eX4_setOutput_40, eX4_setOutput_42, d_X4_setOutput, re_X4_setOutput])
  refine ⟨a0, CV_x (c_checkArc hP hB) (fun E h' z => th_arc hP z) fun h' ⟨e, g, g2⟩ => ?_⟩
  subst e
  have hq : qArc s np nt 108 p t v = okA (wW (chg s) (udW (aW s) (108 + (cl t * 8 + cl p)) v)) (aW s (108 + (cl t * 8 + cl p))) := (iteC_t g).trans (iteC_t g2)
  obtain ⟨⟨p, hp, rfl⟩, ⟨t, ht, rfl⟩⟩ := g
  rw [cl_nI (by omega), cl_nI (by omega)] at hq
  refine ⟨a0, CV_of (c_beginChange hP) (fun _ _ z => z.elim) fun h1 ⟨hP1, h17, hF1, hE1⟩ => ?_⟩
  obtain ⟨a0, p0, -, -, -, -, -, -, -, n0, -⟩ := PO_nw hP1 (np := np) (nt := nt) hB
  obtain ⟨q1, q2, q3, q4, q5⟩ := arc_end hP1 h17 hF1 (Or.inr (Or.inl ⟨rfl, rfl⟩)) (by omega) (by omega) hq
  simp (disch := omega) only [nI_mul, nI_add, nI_clamp, nI_inE, nI_leE, nI_ltE, nI_eqE, nI_eqz, nI_ltz, nI_gez, nI_lez, nI_gtz, nI_m1, nI_m1', nI_ltm, nI_gem, nI_gtm, nI_lem, nI_00, nI_01, nI_10, nI_11, bI_z, bI_1, bI_0, bI_b, bI_nz, bit_e, arK_i, arK_b, arK_j, true_and, and_true, ne_eq, not_false_eq_true, not_true_eq_false, false_and, and_false, true_or, or_true, false_or, or_false, Classical.not_not, forall_const, true_implies, implies_true, false_implies, eq_self, a0, p0, n0]
  refine ⟨by omega, q3, CI_pure (c_arc t p) ?_⟩
  have hq8 : t * 8 + p < 80 := by omega
  simp (disch := omega) only [nI_mul, nI_add, nI_clamp, nI_inE, nI_leE, nI_ltE, nI_eqE, nI_eqz, nI_ltz, nI_gez, nI_lez, nI_gtz, nI_m1, nI_m1', nI_ltm, nI_gem, nI_gtm, nI_lem, nI_00, nI_01, nI_10, nI_11, bI_z, bI_1, bI_0, bI_b, bI_nz, bit_e, arK_i, arK_b, arK_j, true_and, and_true, ne_eq, not_false_eq_true, not_true_eq_false, false_and, and_false, true_or, or_true, false_or, or_false, Classical.not_not, forall_const, true_implies, implies_true, false_implies, eq_self, a0, p0, n0, q1, q2, q4]
  refine ⟨by omega, q3, CI_pure (c_arc t p) ?_⟩
  simp (disch := omega) only [nI_mul, nI_add, nI_clamp, nI_inE, nI_leE, nI_ltE, nI_eqE, nI_eqz, nI_ltz, nI_gez, nI_lez, nI_gtz, nI_m1, nI_m1', nI_ltm, nI_gem, nI_gtm, nI_lem, nI_00, nI_01, nI_10, nI_11, bI_z, bI_1, bI_0, bI_b, bI_nz, bit_e, arK_i, arK_b, arK_j, true_and, and_true, ne_eq, not_false_eq_true, not_true_eq_false, false_and, and_false, true_or, or_true, false_or, or_false, Classical.not_not, forall_const, true_implies, implies_true, false_implies, eq_self, q1, q2]
  exact q5
theorem c_setInhibitor {h : MH} {i np nt : Nat} {s : AS} {p t v : Int32} (hP : PO h i s) (hB : NB (aW s) np nt) : OPC x sX4_setInhibitor [.ref i, .int p, .int t, .int v] h i [eIB, eIA] (qArc s np nt 188 p t v) := by
  have a0 := hP.1.1
  have hnp := hB.2.2.2.1
  have hnt := hB.2.2.2.2.2
  (refine CT_of (o := 4) rfl (by decide +kernel) (by simp [Value.category, sX4_setInhibitor]) (MW_ev kX4_setInhibitor 300 ?_); show evS _ _ _ _ _ _ 300 0 (3, 18) [.ref i, .int p, .int t, .int v, .null] [] _; simp only [st_iconst, st_lconst, st_ldc2_w, st_ldc, st_iload, st_lload, st_aload, st_istore, st_astore, st_lstore, st_iinc, st_iadd, st_isub, st_imul, st_idiv, st_irem, st_iand, st_ior, st_ishl, st_ishr, st_iushr, st_ladd, st_lmul, st_lshl, st_lushr, st_lcmp, st_i2l, st_l2i, st_i2b, st_i2c, st_i2d, st_i2f, st_dconst, st_fconst, st_ddiv, st_fdiv, st_dup, st_dup2, st_pop, st_goto, st_if_icmp, st_ifCond, st_tableswitch, st_lookupswitch, st_iaload, st_baload, st_laload, st_aaload, st_iastore, st_bastore, st_lastore, st_aastore, st_saload, st_faload, st_jsr, st_caload, st_d2i, st_d2f, st_ineg, st_ixor, st_dup_x1, st_aconst_null, st_ifnonnull, st_castore, st_getstatic, st_frem, st_drem, st_monitorexit, st_monitorenter, st_invokeinterface, st_newarray, st_anewarray, st_multianewarray, asI_c, asJ_c, asR_c, asD_c, asF_c, popI_c, popJ_c, popR_c, popD_c, popF_c, pop1_c, okSt_0, okSt_S, rcv_0, rcv_1, rcv_2, rcv_3, rcv_4, rcv_5, rcv_8, pI_c, pJ_c, pR_c, pV_c, pD_c, pF_c, cmp_eq, cmp_ne, cmp_lt, cmp_ge, cmp_gt, cmp_le, nth_0, nth_S, set_0, set_S, cat_int, cat_ref, cat_long, cat_double, cat_float, cat_null, catS_0, catS_S, swT_0, swT_S, swL_0, swL_S, Nat.add_zero, Nat.reduceAdd, Nat.reduceSub, Nat.reduceLT, Nat.reduceLeDiff, true_and, and_true, eq_self, eX4_setInhibitor_0, fX4_setInhibitor_0, eX4_setInhibitor_1, eX4_setInhibitor_2, eX4_setInhibitor_3, eX4_setInhibitor_4, iv4_131, c_X4_checkArc, eX4_setInhibitor_7, eX4_setInhibitor_8, iv4_109, c_X4_beginChange, eX4_setInhibitor_11, eX4_setInhibitor_12, gf4_13, eX4_setInhibitor_15, gf4_86, eX4_setInhibitor_18, eX4_setInhibitor_19, eX4_setInhibitor_20, iv4_79, c_X2_arc, eX4_setInhibitor_23, eX4_setInhibitor_24, eX4_setInhibitor_26, eX4_setInhibitor_27, eX4_setInhibitor_30, eX4_setInhibitor_33, eX4_setInhibitor_34, eX4_setInhibitor_35, eX4_setInhibitor_38, eX4_setInhibitor_39, eX4_setInhibitor_40, eX4_setInhibitor_42, d_X4_setInhibitor, re_X4_setInhibitor])
  refine ⟨a0, CV_x (c_checkArc hP hB) (fun E h' z => th_arc hP z) fun h' ⟨e, g, g2⟩ => ?_⟩
  subst e
  have hq : qArc s np nt 188 p t v = okA (wW (chg s) (udW (aW s) (188 + (cl t * 8 + cl p)) v)) (aW s (188 + (cl t * 8 + cl p))) := (iteC_t g).trans (iteC_t g2)
  obtain ⟨⟨p, hp, rfl⟩, ⟨t, ht, rfl⟩⟩ := g
  rw [cl_nI (by omega), cl_nI (by omega)] at hq
  refine ⟨a0, CV_of (c_beginChange hP) (fun _ _ z => z.elim) fun h1 ⟨hP1, h17, hF1, hE1⟩ => ?_⟩
  obtain ⟨a0, p0, -, -, -, -, -, -, -, n0, -⟩ := PO_nw hP1 (np := np) (nt := nt) hB
  obtain ⟨q1, q2, q3, q4, q5⟩ := arc_end hP1 h17 hF1 (Or.inr (Or.inr ⟨rfl, rfl⟩)) (by omega) (by omega) hq
  simp (disch := omega) only [nI_mul, nI_add, nI_clamp, nI_inE, nI_leE, nI_ltE, nI_eqE, nI_eqz, nI_ltz, nI_gez, nI_lez, nI_gtz, nI_m1, nI_m1', nI_ltm, nI_gem, nI_gtm, nI_lem, nI_00, nI_01, nI_10, nI_11, bI_z, bI_1, bI_0, bI_b, bI_nz, bit_e, arK_i, arK_b, arK_j, true_and, and_true, ne_eq, not_false_eq_true, not_true_eq_false, false_and, and_false, true_or, or_true, false_or, or_false, Classical.not_not, forall_const, true_implies, implies_true, false_implies, eq_self, a0, p0, n0]
  refine ⟨by omega, q3, CI_pure (c_arc t p) ?_⟩
  have hq8 : t * 8 + p < 80 := by omega
  simp (disch := omega) only [nI_mul, nI_add, nI_clamp, nI_inE, nI_leE, nI_ltE, nI_eqE, nI_eqz, nI_ltz, nI_gez, nI_lez, nI_gtz, nI_m1, nI_m1', nI_ltm, nI_gem, nI_gtm, nI_lem, nI_00, nI_01, nI_10, nI_11, bI_z, bI_1, bI_0, bI_b, bI_nz, bit_e, arK_i, arK_b, arK_j, true_and, and_true, ne_eq, not_false_eq_true, not_true_eq_false, false_and, and_false, true_or, or_true, false_or, or_false, Classical.not_not, forall_const, true_implies, implies_true, false_implies, eq_self, a0, p0, n0, q1, q2, q4]
  refine ⟨by omega, q3, CI_pure (c_arc t p) ?_⟩
  simp (disch := omega) only [nI_mul, nI_add, nI_clamp, nI_inE, nI_leE, nI_ltE, nI_eqE, nI_eqz, nI_ltz, nI_gez, nI_lez, nI_gtz, nI_m1, nI_m1', nI_ltm, nI_gem, nI_gtm, nI_lem, nI_00, nI_01, nI_10, nI_11, bI_z, bI_1, bI_0, bI_b, bI_nz, bit_e, arK_i, arK_b, arK_j, true_and, and_true, ne_eq, not_false_eq_true, not_true_eq_false, false_and, and_false, true_or, or_true, false_or, or_false, Classical.not_not, forall_const, true_implies, implies_true, false_implies, eq_self, q1, q2]
  exact q5
theorem fire_18 {w : Nat → Int32} {np t : Nat} : fireW w np t (18 + t) = w (18 + t) + nI 1 := udW_e
theorem c_fire {h : MH} {i np nt : Nat} {s : AS} {t : Int32} (hP : PO h i s) (hB : NB (aW s) np nt) : OPC x sX4_fire [.ref i, .int t] h i [eIB, eIS] (qFire s np nt t) := by
  obtain ⟨a0, p0, -, -, -, -, -, -, -, n0, -⟩ := PO_nw hP hB
  have hnt := hB.2.2.2.2.2
  (refine CT_of (o := 4) rfl (by decide +kernel) (by simp [Value.category, sX4_fire]) (MW_ev kX4_fire 300 ?_); show evS _ _ _ _ _ _ 300 0 (2, 12) [.ref i, .int t] [] _; simp only [st_iconst, st_lconst, st_ldc2_w, st_ldc, st_iload, st_lload, st_aload, st_istore, st_astore, st_lstore, st_iinc, st_iadd, st_isub, st_imul, st_idiv, st_irem, st_iand, st_ior, st_ishl, st_ishr, st_iushr, st_ladd, st_lmul, st_lshl, st_lushr, st_lcmp, st_i2l, st_l2i, st_i2b, st_i2c, st_i2d, st_i2f, st_dconst, st_fconst, st_ddiv, st_fdiv, st_dup, st_dup2, st_pop, st_goto, st_if_icmp, st_ifCond, st_tableswitch, st_lookupswitch, st_iaload, st_baload, st_laload, st_aaload, st_iastore, st_bastore, st_lastore, st_aastore, st_saload, st_faload, st_jsr, st_caload, st_d2i, st_d2f, st_ineg, st_ixor, st_dup_x1, st_aconst_null, st_ifnonnull, st_castore, st_getstatic, st_frem, st_drem, st_monitorexit, st_monitorenter, st_invokeinterface, st_newarray, st_anewarray, st_multianewarray, asI_c, asJ_c, asR_c, asD_c, asF_c, popI_c, popJ_c, popR_c, popD_c, popF_c, pop1_c, okSt_0, okSt_S, rcv_0, rcv_1, rcv_2, rcv_3, rcv_4, rcv_5, rcv_8, pI_c, pJ_c, pR_c, pV_c, pD_c, pF_c, cmp_eq, cmp_ne, cmp_lt, cmp_ge, cmp_gt, cmp_le, nth_0, nth_S, set_0, set_S, cat_int, cat_ref, cat_long, cat_double, cat_float, cat_null, catS_0, catS_S, swT_0, swT_S, swL_0, swL_S, Nat.add_zero, Nat.reduceAdd, Nat.reduceSub, Nat.reduceLT, Nat.reduceLeDiff, true_and, and_true, eq_self, eX4_fire_0, fX4_fire_0, eX4_fire_1, eX4_fire_2, iv4_134, c_X4_checkTransition, eX4_fire_5, eX4_fire_6, gf4_13, eX4_fire_9, eX4_fire_10, iv4_137, c_X2_allows, eX4_fire_13, tn_26, eX4_fire_16, eX4_fire_26, eX4_fire_27, iv4_109, c_X4_beginChange, eX4_fire_30, eX4_fire_31, eX4_fire_34, eX4_fire_35, iv4_89, c_X2_fireOnce, eX4_fire_38, eX4_fire_39, eX4_fire_42, gf4_143, eX4_fire_45, eX4_fire_46, eX4_fire_47, d_X4_fire, re_X4_fire])
  refine ⟨a0, CV_x (c_checkTransition hP hB) (fun E h' z => th_x hP fz0 (fun g => iteC_f g) rfl z) fun h' ⟨e, g⟩ => ?_⟩
  subst e
  have hq : qFire s np nt t = iteC (enW (aW s) np (cl t)) (okA (wW (chg s) (fireW (aW s) np (cl t))) (aW s (18 + cl t) + nI 1)) (noA s 2) := iteC_t g
  obtain ⟨t, ht, rfl⟩ := g
  rw [cl_nI (by omega)] at hq
  simp (disch := omega) only [nI_mul, nI_add, nI_clamp, nI_inE, nI_leE, nI_ltE, nI_eqE, nI_eqz, nI_ltz, nI_gez, nI_lez, nI_gtz, nI_m1, nI_m1', nI_ltm, nI_gem, nI_gtm, nI_lem, nI_00, nI_01, nI_10, nI_11, bI_z, bI_1, bI_0, bI_b, bI_nz, bit_e, arK_i, arK_b, arK_j, true_and, and_true, ne_eq, not_false_eq_true, not_true_eq_false, false_and, and_false, true_or, or_true, false_or, or_false, Classical.not_not, forall_const, true_implies, implies_true, false_implies, eq_self, a0, p0, n0]
  refine ⟨by omega, CI_pure (c_allows hP.2.1.1 hB (by omega)) ?_⟩
  simp (disch := omega) only [nI_mul, nI_add, nI_clamp, nI_inE, nI_leE, nI_ltE, nI_eqE, nI_eqz, nI_ltz, nI_gez, nI_lez, nI_gtz, nI_m1, nI_m1', nI_ltm, nI_gem, nI_gtm, nI_lem, nI_00, nI_01, nI_10, nI_11, bI_z, bI_1, bI_0, bI_b, bI_nz, bit_e, arK_i, arK_b, arK_j, true_and, and_true, ne_eq, not_false_eq_true, not_true_eq_false, false_and, and_false, true_or, or_true, false_or, or_false, Classical.not_not, forall_const, true_implies, implies_true, false_implies, eq_self, a0]
  refine ⟨fun g => ?_, fun g => fun z hz => th_of (k := 1) (hq.trans (iteC_f g)) rfl (PO_sZ hP) (FZ_sZ hz)⟩
  have hq := hq.trans (iteC_t g)
  refine CV_of (c_beginChange hP) (fun _ _ z => z.elim) fun h1 ⟨hP1, h17, hF1, hE1⟩ => ?_
  (try clear a0; try clear p0; try clear n0)
  obtain ⟨a0, p0, -, -, -, -, -, -, -, n0, -⟩ := PO_nw hP1 (np := np) (nt := nt) hB
  simp (disch := omega) only [nI_mul, nI_add, nI_clamp, nI_inE, nI_leE, nI_ltE, nI_eqE, nI_eqz, nI_ltz, nI_gez, nI_lez, nI_gtz, nI_m1, nI_m1', nI_ltm, nI_gem, nI_gtm, nI_lem, nI_00, nI_01, nI_10, nI_11, bI_z, bI_1, bI_0, bI_b, bI_nz, bit_e, arK_i, arK_b, arK_j, true_and, and_true, ne_eq, not_false_eq_true, not_true_eq_false, false_and, and_false, true_or, or_true, false_or, or_false, Classical.not_not, forall_const, true_implies, implies_true, false_implies, eq_self, a0, p0, n0]
  refine ⟨by omega, CV_of (c_fireOnce hP1.2.1 (np := np) (nt := nt) hB (by omega)) (fun _ _ z => z.elim) fun h2 ⟨hN2, hF2⟩ => ?_⟩
  have hP2 := PO_net hP1 h17 hF2 hN2
  clear a0 p0 n0
  (try clear a0; try clear p0; try clear n0)
  obtain ⟨a0, p0, -, -, -, -, -, -, -, n0, -, -, -, -, -, s7, -, -, -, -, k7, l7⟩ := PO_nw hP2 (np := np) (nt := nt) (fire_B hB)
  have hpt : mI h2 (i + 7) t = fireW (aW s) np t (18 + t) := PO_frd hP2 (t := t) (by omega)
  rw [fire_18] at hpt
  simp (disch := omega) only [nI_mul, nI_add, nI_clamp, nI_inE, nI_leE, nI_ltE, nI_eqE, nI_eqz, nI_ltz, nI_gez, nI_lez, nI_gtz, nI_m1, nI_m1', nI_ltm, nI_gem, nI_gtm, nI_lem, nI_00, nI_01, nI_10, nI_11, bI_z, bI_1, bI_0, bI_b, bI_nz, bit_e, arK_i, arK_b, arK_j, true_and, and_true, ne_eq, not_false_eq_true, not_true_eq_false, false_and, and_false, true_or, or_true, false_or, or_false, Classical.not_not, forall_const, true_implies, implies_true, false_implies, eq_self, a0, p0, n0, s7, k7, l7, hpt]
  exact ⟨by omega, by omega, ok_of hq hP2 (FZ_tr hF1 (FZ_rm hF2 (by omega) (by omega)))⟩
theorem c_run {h : MH} {i np nt : Nat} {s : AS} {v : Int32} (hP : PO h i s) (hB : NB (aW s) np nt) : OPC x sX4_run [.ref i, .int v] h i [eIA] (qRun s np nt v) := by
  have a0 := hP.1.1
  (refine CT_of (o := 4) rfl (by decide +kernel) (by simp [Value.category, sX4_run]) (MW_ev kX4_run 300 ?_); show evS _ _ _ _ _ _ 300 0 (1, 6) [.ref i, .int v] [] _; simp only [st_iconst, st_lconst, st_ldc2_w, st_ldc, st_iload, st_lload, st_aload, st_istore, st_astore, st_lstore, st_iinc, st_iadd, st_isub, st_imul, st_idiv, st_irem, st_iand, st_ior, st_ishl, st_ishr, st_iushr, st_ladd, st_lmul, st_lshl, st_lushr, st_lcmp, st_i2l, st_l2i, st_i2b, st_i2c, st_i2d, st_i2f, st_dconst, st_fconst, st_ddiv, st_fdiv, st_dup, st_dup2, st_pop, st_goto, st_if_icmp, st_ifCond, st_tableswitch, st_lookupswitch, st_iaload, st_baload, st_laload, st_aaload, st_iastore, st_bastore, st_lastore, st_aastore, st_saload, st_faload, st_jsr, st_caload, st_d2i, st_d2f, st_ineg, st_ixor, st_dup_x1, st_aconst_null, st_ifnonnull, st_castore, st_getstatic, st_frem, st_drem, st_monitorexit, st_monitorenter, st_invokeinterface, st_newarray, st_anewarray, st_multianewarray, asI_c, asJ_c, asR_c, asD_c, asF_c, popI_c, popJ_c, popR_c, popD_c, popF_c, pop1_c, okSt_0, okSt_S, rcv_0, rcv_1, rcv_2, rcv_3, rcv_4, rcv_5, rcv_8, pI_c, pJ_c, pR_c, pV_c, pD_c, pF_c, cmp_eq, cmp_ne, cmp_lt, cmp_ge, cmp_gt, cmp_le, nth_0, nth_S, set_0, set_S, cat_int, cat_ref, cat_long, cat_double, cat_float, cat_null, catS_0, catS_S, swT_0, swT_S, swL_0, swL_S, Nat.add_zero, Nat.reduceAdd, Nat.reduceSub, Nat.reduceLT, Nat.reduceLeDiff, true_and, and_true, eq_self, eX4_run_0, fX4_run_0, eX4_run_1, cI_1, eX4_run_2, cI_200, eX4_run_5, iv4_99, c_X4_checkRange, eX4_run_8, eX4_run_9, iv4_109, c_X4_beginChange, eX4_run_12, eX4_run_13, gf4_13, eX4_run_16, eX4_run_17, iv4_146, c_X2_advance, eX4_run_20, d_X4_run, re_X4_run])
  refine CV_x c_checkRange (fun E h'' z => th_x hP fz0 (fun g => iteC_f g) rfl z) fun h'' ⟨e, g⟩ => ?_
  subst e
  have hq : qRun s np nt v = okA (wW (chg s) (runW np nt (cl v) (aW s)).2) (nI (runW np nt (cl v) (aW s)).1) := iteC_t g
  obtain ⟨k, hk, rfl⟩ := nI_of (x := v) fun z => g.1 (Int32.lt_trans z (by decide))
  have hk2 : k ≤ 200 := by have := g.2; rwa [nI_leI hk (by decide)] at this
  clear g
  rw [cl_nI (by omega)] at hq
  refine ⟨a0, CV_of (c_beginChange hP) (fun _ _ z => z.elim) fun h1 ⟨hP1, h17, hF1, hE1⟩ => ?_⟩
  obtain ⟨a0, p0, -, -, -, -, -, -, -, n0, -⟩ := PO_nw hP1 (np := np) (nt := nt) hB
  simp (disch := omega) only [nI_mul, nI_add, nI_clamp, nI_inE, nI_leE, nI_ltE, nI_eqE, nI_eqz, nI_ltz, nI_gez, nI_lez, nI_gtz, nI_m1, nI_m1', nI_ltm, nI_gem, nI_gtm, nI_lem, nI_00, nI_01, nI_10, nI_11, bI_z, bI_1, bI_0, bI_b, bI_nz, bit_e, arK_i, arK_b, arK_j, true_and, and_true, ne_eq, not_false_eq_true, not_true_eq_false, false_and, and_false, true_or, or_true, false_or, or_false, Classical.not_not, forall_const, true_implies, implies_true, false_implies, eq_self, a0, p0, n0]
  exact ⟨by omega, CI_of (c_advance hP1.2.1 (np := np) (nt := nt) hB (by omega)) (fun _ _ z => z.elim) fun r h2 ⟨er, hN2, hF2⟩ => ok_of (by rw [hq, er]; rfl) (PO_net hP1 h17 hF2 hN2) (FZ_tr hF1 (FZ_rm hF2 (by omega) (by omega)))⟩
end PET
