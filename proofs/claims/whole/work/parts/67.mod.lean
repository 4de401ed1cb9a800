section MOD
variable {x : CX}
/-- what an exploration has, with its first marking -/
def EJ (w : Nat → Int32) (np nt : Nat) (E : EE) : Prop := EI w np nt E ∧ 0 < exC E ∧ exK E 0 = pkS w np
theorem stp_EJ {w : Nat → Int32} {np nt n t : Nat} {E : EE} (hE : EJ w np nt E) (hT : TRg w np nt) (hB : NB w np nt) (hn : n < exC E) (ht : t < nt) : EJ w np nt (stpE w np nt n t E) := by
  refine ⟨stp_EI hE.1 hT hB hn ht, Nat.lt_of_lt_of_le hE.2.1 stp_le, ?_⟩
  unfold stpE
  exact iteC_P (fun F : EE => exK F 0 = pkS w np) ((vis_keep hE.2.1).1.trans hE.2.2) hE.2.2
theorem row_EJ {w : Nat → Int32} {np nt n m : Nat} {E : EE} (hE : EJ w np nt E) (hT : TRg w np nt) (hB : NB w np nt) (hn : n < exC E) (hm : m ≤ nt) : EJ w np nt (rowE w np nt n E m) := by
  induction m with
  | zero => exact hE
  | succ m ih =>
    rw [row_S]
    exact stp_EJ (ih (by omega)) hT hB (Nat.lt_of_lt_of_le hn row_le) (by omega)
noncomputable def E1 (w : Nat → Int32) (np nt : Nat) : EE := visE w np nt E0 (pkS w np) (-1) (-1)
theorem E1_e {w : Nat → Int32} {np nt : Nat} : E1 w np nt = addE w np nt E0 (pkS w np) (-1) (-1) := (iteC_f fun ⟨n, hn, _⟩ => absurd hn (Nat.not_lt_zero n)).trans (iteC_f (show ¬ 150 ≤ 0 by decide))
theorem E1_J {w : Nat → Int32} {np nt : Nat} (hT : TRg w np nt) (hB : NB w np nt) : EJ w np nt (E1 w np nt) := by
  refine ⟨vis_EI (E := E0) ⟨Nat.zero_le _, fun n hn => absurd hn (Nat.not_lt_zero n), fun z => absurd trivial z⟩ (GM_self hT) hB.2.2.2.1, ?_, ?_⟩
  · rw [E1_e]; exact Nat.one_pos
  · rw [E1_e]
    show udK (exK E0) 0 (pkS w np) 0 = _
    exact udK_e
theorem all_0 {w : Nat → Int32} {np nt : Nat} : allE w np nt 0 = E1 w np nt := by unfold allE E1; exact foN_0
theorem all_J {w : Nat → Int32} {np nt : Nat} (hT : TRg w np nt) (hB : NB w np nt) : ∀ k, EJ w np nt (allE w np nt k) := by
  intro k
  induction k with
  | zero => rw [all_0]; exact E1_J hT hB
  | succ k ih =>
    show EJ w np nt (iteC (k < exC (allE w np nt k) ∧ exW (allE w np nt k)) (rowE w np nt k (allE w np nt k) nt) (allE w np nt k))
    by_cases g : k < exC (allE w np nt k) ∧ exW (allE w np nt k)
    · rw [iteC_t g]; exact row_EJ ih hT hB g.1 (Nat.le_refl _)
    · rw [iteC_f g]; exact ih
theorem exp_J {w : Nat → Int32} {np nt : Nat} (hT : TRg w np nt) (hB : NB w np nt) : EJ w np nt (expE w np nt) := all_J hT hB 150
theorem m_explore {h : MH} {j np nt : Nat} {w : Nat → Int32} (hN : MN h j w) (hT : TRg w np nt) (hB : NB w np nt) : CT x sX5_explore [.ref j] h (pV fun h' => MN h' j w ∧ XM h' j (expE w np nt) w np ∧ FI h h' (SX j)) xNo := by
  have hnp := hB.2.2.2.1
  have hnt := hB.2.2.2.2.2
  have a0 := hN.1.1
  (refine CT_of (o := 5) rfl (by decide) (by simp [Value.category, sX5_explore]) (MW_ev kX5_explore 300 ?_); show evS _ _ _ _ _ _ 300 0 (0, 0) [.ref j, .null, .null] [] _; simp only [st_iconst, st_lconst, st_ldc2_w, st_ldc, st_iload, st_lload, st_aload, st_istore, st_astore, st_lstore, st_iinc, st_iadd, st_isub, st_imul, st_idiv, st_irem, st_iand, st_ior, st_ishl, st_ishr, st_iushr, st_ladd, st_lmul, st_lshl, st_lushr, st_lcmp, st_i2l, st_l2i, st_i2b, st_i2c, st_i2d, st_i2f, st_dconst, st_fconst, st_ddiv, st_fdiv, st_dup, st_dup2, st_pop, st_goto, st_if_icmp, st_ifCond, st_tableswitch, st_lookupswitch, st_iaload, st_baload, st_laload, st_aaload, st_iastore, st_bastore, st_lastore, st_aastore, st_saload, st_faload, st_jsr, st_getstatic, st_frem, st_drem, st_monitorexit, st_monitorenter, st_invokeinterface, st_newarray, st_anewarray, st_multianewarray, asI_c, asJ_c, asR_c, asD_c, asF_c, popI_c, popJ_c, popR_c, popD_c, popF_c, pop1_c, okSt_0, okSt_S, rcv_0, rcv_1, rcv_2, rcv_3, rcv_4, rcv_5, rcv_8, pI_c, pJ_c, pR_c, pV_c, pD_c, pF_c, cmp_eq, cmp_ne, cmp_lt, cmp_ge, cmp_gt, cmp_le, nth_0, nth_S, set_0, set_S, cat_int, cat_ref, cat_long, cat_double, cat_float, cat_null, catS_0, catS_S, swT_0, swT_S, swL_0, swL_S, Nat.add_zero, Nat.reduceAdd, Nat.reduceSub, Nat.reduceLT, Nat.reduceLeDiff, true_and, and_true, eq_self, eX5_explore_0, fX5_explore_0, eX5_explore_1, cI_0, eX5_explore_2, iv5_121, c_X5_note, eX5_explore_5, eX5_explore_6, gf5_37, eX5_explore_9, eX5_explore_10, eX5_explore_11, eX5_explore_12, eX5_explore_13, gf5_40, eX5_explore_16, eX5_explore_17, cI_m1, eX5_explore_18, eX5_explore_19, eX5_explore_20, cI_1, eX5_explore_21, pf5_109, eX5_explore_24, eX5_explore_25, eX5_explore_26, pf5_124, eX5_explore_29, eX5_explore_30, eX5_explore_31, fX5_explore_31, eX5_explore_32, eX5_explore_33, gf5_109, eX5_explore_36, tn_83, eX5_explore_39, eX5_explore_40, gf5_124, eX5_explore_43, eX5_explore_46, eX5_explore_47, eX5_explore_48, fX5_explore_48, eX5_explore_49, eX5_explore_50, gf5_9, eX5_explore_53, eX5_explore_54, eX5_explore_55, tn_77, eX5_explore_58, eX5_explore_59, eX5_explore_62, eX5_explore_65, eX5_explore_66, eX5_explore_67, eX5_explore_68, iv5_128, c_X5_follow, eX5_explore_71, eX5_explore_74, tn_48, eX5_explore_77, eX5_explore_80, tn_31, eX5_explore_83, eX5_explore_84, eX5_explore_85, iv5_115, c_X5_take, eX5_explore_88, d_X5_explore, re_X5_explore])
  refine ⟨a0, CV_of (m_note (n := 0) hN.1 (by decide)) (fun _ _ z => z.elim) fun h1 ⟨hc1, hF1⟩ => ?_⟩
  have hMB := MB_fi hN.1 hF1
  obtain ⟨b0, b13, b14, k19, l19, k20, l20⟩ := FX_rd hMB
  simp (disch := omega) only [nI_mul, nI_add, nI_clamp, nI_inE, nI_leE, nI_ltE, nI_eqE, nI_eqz, nI_ltz, nI_gez, nI_lez, nI_gtz, nI_m1, nI_m1', nI_ltm, nI_gem, nI_gtm, nI_lem, nI_00, nI_01, nI_10, nI_11, bI_z, bI_1, bI_0, bI_b, bI_nz, bit_e, arK_i, arK_b, arK_j, true_and, and_true, ne_eq, not_false_eq_true, not_true_eq_false, false_and, and_false, true_or, or_true, false_or, or_false, Classical.not_not, forall_const, true_implies, implies_true, false_implies, eq_self, sI_K, sI_L, sI_P, sI_J, sI_Z, sI_Ie, sR_K, sR_L, sR_P, sR_J, sR_Z, sR_Ie, sP_K, sP_L, sP_I, sP_J, sP_Z, sP_Pe, sJ_K, sJ_L, sJ_P, sJ_I, sJ_Z, sJ_Je, b0, b13, b14, k19, l19, k20, l20, sI_Ia]
  refine ⟨Nat.succ_ne_zero _, Nat.succ_ne_zero _, ?_⟩
  clear a0 b0 b13 b14 k19 l19 k20 l20
  have hX2 : XM (sI (sI (sI (sI h1 (j + 19) 0 (nI 0)) (j + 20) 0 (-1)) j 15 (nI 1)) j 16 (nI 1)) j (allE w np nt 0) w np := by
    rw [all_0, E1_e]
    refine ⟨(sI_Ik (by decide)).trans sI_Ie, sI_Ie.trans (bI_t trivial).symm, fun n hn => ?_⟩
    have hn2 : n < 0 + 1 := hn
    obtain rfl : n = 0 := by omega
    show (∀ p, p < 8 → _ = unW w (udK (exK E0) 0 (pkS w np) 0) np (2 + p)) ∧ _ = udW (exD E0) 0 (iteC ((-1 : Int32) = -1) (nI 0) (exD E0 (-1 : Int32).toNatClampNeg + nI 1)) 0 ∧ _ = udW (exF E0) 0 (-1) 0
    rw [udK_e, udW_e, udW_e, GM_un (GM_self hT) hnp, iteC_t rfl]
    refine ⟨fun p hp => ?_, ?_, ?_⟩
    · rw [sI_Ia (by omega), sI_Ia (by omega), sI_Ia (by omega), sI_Ia (by omega), hc1 p hp, MN_t hN hp]
    · rw [sI_Ia (by omega), sI_Ia (by omega), sI_Ia (by omega), sI_Ie]
    · rw [sI_Ia (by omega), sI_Ia (by omega), sI_Ie]
  have hS2 : FI h (sI (sI (sI (sI h1 (j + 19) 0 (nI 0)) (j + 20) 0 (-1)) j 15 (nI 1)) j 16 (nI 1)) (SX j) := FI_tr (FI_mono hF1 fun a k hk => Or.inr (Or.inr (by omega))) (FI_tr (FI_tr (FI_tr (FI_sI (Or.inr (Or.inr ⟨by omega, by omega⟩))) (FI_sI (Or.inr (Or.inr ⟨by omega, by omega⟩)))) (FI_sI (Or.inr (Or.inl ⟨rfl, Or.inl rfl⟩)))) (FI_sI (Or.inr (Or.inl ⟨rfl, Or.inr rfl⟩))))
  have hM2 : MNx (sI (sI (sI (sI h1 (j + 19) 0 (nI 0)) (j + 20) 0 (-1)) j 15 (nI 1)) j 16 (nI 1)) j w := ⟨hMB, fun m hm h4 => by
    rw [sI_Ia (by omega), sI_Ia (by omega), sI_Ia (by omega), sI_Ia (by omega), hF1.2.2.2.2 _ _ (by omega)]
    exact hN.2 m hm⟩
  refine loop_up 150 (P := fun k => ∀ h', MNx h' j w → XM h' j (allE w np nt k) w np → FI h h' (SX j) → MW x sX5_explore 5 (pV fun h' => MN h' j w ∧ XM h' j (expE w np nt) w np ∧ FI h h' (SX j)) xNo 31 (0, 0) [.ref j, .int (nI k), .null] [] h') (fun k hk ih h2 hM hX hF => ?_) 0 (Nat.zero_le _) _ hM2 hX2 hS2
  have hJ := all_J hT hB k
  have h150 := hJ.1.1
  obtain ⟨c15, c16, -⟩ := id hX
  have a1 := hM.1.1
  have stop : ¬ (k < exC (allE w np nt k) ∧ exW (allE w np nt k)) → CALLV x sX5_take [.ref j, .int (nI 0)] h2 xNo fun h' => MN h' j w ∧ XM h' j (expE w np nt) w np ∧ FI h h' (SX j) := fun g => by
    have e : expE w np nt = allE w np nt k := fo_stop hk fun i hi => iteC_f fun z => g ⟨by have := z.1; unfold allE; omega, z.2⟩
    rw [e]
    refine CV_of (m_take (n := 0) hM.1 (by decide)) (fun _ _ z => z.elim) fun h3 ⟨hc3, hF3⟩ => ⟨MN_of hM hF3 (fun k hk => by omega) (fun _ _ => rfl) fun p hp => ?_, XM_fi hX hF3 fun a k hk => by omega, FI_tr hF (FI_mono hF3 fun a k hk => Or.inl (by omega))⟩
    rw [hc3 p hp, (hX.2.2 0 hJ.2.1).1 p hp, hJ.2.2, GM_un (GM_self hT) hnp]
  (refine MW_ev kX5_explore 300 ?_; simp only [st_iconst, st_lconst, st_ldc2_w, st_ldc, st_iload, st_lload, st_aload, st_istore, st_astore, st_lstore, st_iinc, st_iadd, st_isub, st_imul, st_idiv, st_irem, st_iand, st_ior, st_ishl, st_ishr, st_iushr, st_ladd, st_lmul, st_lshl, st_lushr, st_lcmp, st_i2l, st_l2i, st_i2b, st_i2c, st_i2d, st_i2f, st_dconst, st_fconst, st_ddiv, st_fdiv, st_dup, st_dup2, st_pop, st_goto, st_if_icmp, st_ifCond, st_tableswitch, st_lookupswitch, st_iaload, st_baload, st_laload, st_aaload, st_iastore, st_bastore, st_lastore, st_aastore, st_saload, st_faload, st_jsr, st_getstatic, st_frem, st_drem, st_monitorexit, st_monitorenter, st_invokeinterface, st_newarray, st_anewarray, st_multianewarray, asI_c, asJ_c, asR_c, asD_c, asF_c, popI_c, popJ_c, popR_c, popD_c, popF_c, pop1_c, okSt_0, okSt_S, rcv_0, rcv_1, rcv_2, rcv_3, rcv_4, rcv_5, rcv_8, pI_c, pJ_c, pR_c, pV_c, pD_c, pF_c, cmp_eq, cmp_ne, cmp_lt, cmp_ge, cmp_gt, cmp_le, nth_0, nth_S, set_0, set_S, cat_int, cat_ref, cat_long, cat_double, cat_float, cat_null, catS_0, catS_S, swT_0, swT_S, swL_0, swL_S, Nat.add_zero, Nat.reduceAdd, Nat.reduceSub, Nat.reduceLT, Nat.reduceLeDiff, true_and, and_true, eq_self, eX5_explore_0, fX5_explore_0, eX5_explore_1, cI_0, eX5_explore_2, iv5_121, c_X5_note, eX5_explore_5, eX5_explore_6, gf5_37, eX5_explore_9, eX5_explore_10, eX5_explore_11, eX5_explore_12, eX5_explore_13, gf5_40, eX5_explore_16, eX5_explore_17, cI_m1, eX5_explore_18, eX5_explore_19, eX5_explore_20, cI_1, eX5_explore_21, pf5_109, eX5_explore_24, eX5_explore_25, eX5_explore_26, pf5_124, eX5_explore_29, eX5_explore_30, eX5_explore_31, fX5_explore_31, eX5_explore_32, eX5_explore_33, gf5_109, eX5_explore_36, tn_83, eX5_explore_39, eX5_explore_40, gf5_124, eX5_explore_43, eX5_explore_46, eX5_explore_47, eX5_explore_48, fX5_explore_48, eX5_explore_49, eX5_explore_50, gf5_9, eX5_explore_53, eX5_explore_54, eX5_explore_55, tn_77, eX5_explore_58, eX5_explore_59, eX5_explore_62, eX5_explore_65, eX5_explore_66, eX5_explore_67, eX5_explore_68, iv5_128, c_X5_follow, eX5_explore_71, eX5_explore_74, tn_48, eX5_explore_77, eX5_explore_80, tn_31, eX5_explore_83, eX5_explore_84, eX5_explore_85, iv5_115, c_X5_take, eX5_explore_88, d_X5_explore, re_X5_explore])
  rcases Nat.lt_or_ge k (exC (allE w np nt k)) with hl | hl
  · simp (disch := omega) only [nI_mul, nI_add, nI_clamp, nI_inE, nI_leE, nI_ltE, nI_eqE, nI_eqz, nI_ltz, nI_gez, nI_lez, nI_gtz, nI_m1, nI_m1', nI_ltm, nI_gem, nI_gtm, nI_lem, nI_00, nI_01, nI_10, nI_11, bI_z, bI_1, bI_0, bI_b, bI_nz, bit_e, arK_i, arK_b, arK_j, true_and, and_true, ne_eq, not_false_eq_true, not_true_eq_false, false_and, and_false, true_or, or_true, false_or, or_false, Classical.not_not, forall_const, true_implies, implies_true, false_implies, eq_self, a1, c15, c16, hl, Nat.not_le.mpr hl]
    refine ⟨fun g => stop fun z => g z.2, fun g => ?_⟩
    have ih := ih (by omega)
    have eall : allE w np nt (k + 1) = rowE w np nt k (allE w np nt k) nt := iteC_t ⟨hl, g⟩
    rw [eall] at ih
    refine loop_up nt (P := fun m => ∀ h', MNx h' j w → XM h' j (rowE w np nt k (allE w np nt k) m) w np → FI h h' (SX j) → MW x sX5_explore 5 (pV fun h' => MN h' j w ∧ XM h' j (expE w np nt) w np ∧ FI h h' (SX j)) xNo 48 (0, 0) [.ref j, .int (nI k), .int (nI m)] [] h') (fun m hm ih2 h3 hM3 hX3 hF3 => ?_) 0 (Nat.zero_le _) h2 hM hX hF
    have hJ3 := row_EJ hJ hT hB hl hm
    (try clear c15; try clear c16)
    obtain ⟨c15, c16, -⟩ := id hX3
    obtain ⟨a1, p1, k1, l1⟩ := MB_w hM3.1
    have n1 : mI h3 (j + 1) 1 = nI nt := (hM3.2 1 ⟨by decide, Or.inl (by omega)⟩ (by decide)).trans hB.2.1
    (refine MW_ev kX5_explore 300 ?_; simp only [st_iconst, st_lconst, st_ldc2_w, st_ldc, st_iload, st_lload, st_aload, st_istore, st_astore, st_lstore, st_iinc, st_iadd, st_isub, st_imul, st_idiv, st_irem, st_iand, st_ior, st_ishl, st_ishr, st_iushr, st_ladd, st_lmul, st_lshl, st_lushr, st_lcmp, st_i2l, st_l2i, st_i2b, st_i2c, st_i2d, st_i2f, st_dconst, st_fconst, st_ddiv, st_fdiv, st_dup, st_dup2, st_pop, st_goto, st_if_icmp, st_ifCond, st_tableswitch, st_lookupswitch, st_iaload, st_baload, st_laload, st_aaload, st_iastore, st_bastore, st_lastore, st_aastore, st_saload, st_faload, st_jsr, st_getstatic, st_frem, st_drem, st_monitorexit, st_monitorenter, st_invokeinterface, st_newarray, st_anewarray, st_multianewarray, asI_c, asJ_c, asR_c, asD_c, asF_c, popI_c, popJ_c, popR_c, popD_c, popF_c, pop1_c, okSt_0, okSt_S, rcv_0, rcv_1, rcv_2, rcv_3, rcv_4, rcv_5, rcv_8, pI_c, pJ_c, pR_c, pV_c, pD_c, pF_c, cmp_eq, cmp_ne, cmp_lt, cmp_ge, cmp_gt, cmp_le, nth_0, nth_S, set_0, set_S, cat_int, cat_ref, cat_long, cat_double, cat_float, cat_null, catS_0, catS_S, swT_0, swT_S, swL_0, swL_S, Nat.add_zero, Nat.reduceAdd, Nat.reduceSub, Nat.reduceLT, Nat.reduceLeDiff, true_and, and_true, eq_self, eX5_explore_0, fX5_explore_0, eX5_explore_1, cI_0, eX5_explore_2, iv5_121, c_X5_note, eX5_explore_5, eX5_explore_6, gf5_37, eX5_explore_9, eX5_explore_10, eX5_explore_11, eX5_explore_12, eX5_explore_13, gf5_40, eX5_explore_16, eX5_explore_17, cI_m1, eX5_explore_18, eX5_explore_19, eX5_explore_20, cI_1, eX5_explore_21, pf5_109, eX5_explore_24, eX5_explore_25, eX5_explore_26, pf5_124, eX5_explore_29, eX5_explore_30, eX5_explore_31, fX5_explore_31, eX5_explore_32, eX5_explore_33, gf5_109, eX5_explore_36, tn_83, eX5_explore_39, eX5_explore_40, gf5_124, eX5_explore_43, eX5_explore_46, eX5_explore_47, eX5_explore_48, fX5_explore_48, eX5_explore_49, eX5_explore_50, gf5_9, eX5_explore_53, eX5_explore_54, eX5_explore_55, tn_77, eX5_explore_58, eX5_explore_59, eX5_explore_62, eX5_explore_65, eX5_explore_66, eX5_explore_67, eX5_explore_68, iv5_128, c_X5_follow, eX5_explore_71, eX5_explore_74, tn_48, eX5_explore_77, eX5_explore_80, tn_31, eX5_explore_83, eX5_explore_84, eX5_explore_85, iv5_115, c_X5_take, eX5_explore_88, d_X5_explore, re_X5_explore])
    rcases Nat.lt_or_ge m nt with hl2 | hl2
    · simp (disch := omega) only [nI_mul, nI_add, nI_clamp, nI_inE, nI_leE, nI_ltE, nI_eqE, nI_eqz, nI_ltz, nI_gez, nI_lez, nI_gtz, nI_m1, nI_m1', nI_ltm, nI_gem, nI_gtm, nI_lem, nI_00, nI_01, nI_10, nI_11, bI_z, bI_1, bI_0, bI_b, bI_nz, bit_e, arK_i, arK_b, arK_j, true_and, and_true, ne_eq, not_false_eq_true, not_true_eq_false, false_and, and_false, true_or, or_true, false_or, or_false, Classical.not_not, forall_const, true_implies, implies_true, false_implies, eq_self, a1, p1, k1, l1, n1, c16, hl2, Nat.not_le.mpr hl2]
      refine ⟨Nat.succ_ne_zero _, fun g2 => ?_, fun g2 => ?_⟩
      · have e : rowE w np nt k (allE w np nt k) nt = rowE w np nt k (allE w np nt k) m := fo_stop hm fun i hi => stp_stop hJ3.1 g2
        rw [e] at ih
        exact MW_nul 2 (ih h3 hM3 hX3 hF3)
      · refine CV_of (m_follow hM3 hX3 hJ3.1 hT hB (Nat.lt_of_lt_of_le hl row_le) hl2) (fun _ _ z => z.elim) fun h4 ⟨hM4, hX4, hF4⟩ => ?_
        exact ih2 hl2 h4 hM4 hX4 (FI_tr hF3 hF4)
    · obtain rfl : m = nt := by omega
      simp (disch := omega) only [nI_mul, nI_add, nI_clamp, nI_inE, nI_leE, nI_ltE, nI_eqE, nI_eqz, nI_ltz, nI_gez, nI_lez, nI_gtz, nI_m1, nI_m1', nI_ltm, nI_gem, nI_gtm, nI_lem, nI_00, nI_01, nI_10, nI_11, bI_z, bI_1, bI_0, bI_b, bI_nz, bit_e, arK_i, arK_b, arK_j, true_and, and_true, ne_eq, not_false_eq_true, not_true_eq_false, false_and, and_false, true_or, or_true, false_or, or_false, Classical.not_not, forall_const, true_implies, implies_true, false_implies, eq_self, a1, p1, k1, l1, n1, Nat.le_refl]
      exact ⟨Nat.succ_ne_zero _, MW_nul 2 (ih h3 hM3 hX3 hF3)⟩
  · simp (disch := omega) only [nI_mul, nI_add, nI_clamp, nI_inE, nI_leE, nI_ltE, nI_eqE, nI_eqz, nI_ltz, nI_gez, nI_lez, nI_gtz, nI_m1, nI_m1', nI_ltm, nI_gem, nI_gtm, nI_lem, nI_00, nI_01, nI_10, nI_11, bI_z, bI_1, bI_0, bI_b, bI_nz, bit_e, arK_i, arK_b, arK_j, true_and, and_true, ne_eq, not_false_eq_true, not_true_eq_false, false_and, and_false, true_or, or_true, false_or, or_false, Classical.not_not, forall_const, true_implies, implies_true, false_implies, eq_self, a1, c15, hl]
    exact stop fun z => absurd z.1 (by omega)
end MOD
