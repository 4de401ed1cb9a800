section PET
variable {x : CX}
theorem num_k {U : Nat → Int32} {n : Nat} {t : TK} {lo hi : Int32} : (numS U n t lo hi).1 < 4 := by
  unfold numS
  exact iteC_P (fun p : Nat × Nat × Int32 × TK => p.1 < 4) (iteC_P (fun p : Nat × Nat × Int32 × TK => p.1 < 4) (show 2 < 4 by decide) (show 0 < 4 by decide)) (show 1 < 4 by decide)
theorem cm_k {U w : Nat → Int32} {n np nt : Nat} {t : TK} : (cmS U n w np nt t).1 < 4 := by
  have z : 0 < 4 := by decide
  have o : 1 < 4 := by decide
  have i2 : ∀ {p : Prop} {a b : CR}, a.1 < 4 → b.1 < 4 → (iteC p a b).1 < 4 := fun h1 h2 => iteC_P (fun c : CR => c.1 < 4) h1 h2
  have hA : ∀ t off, (cmA U n w t off).1 < 4 := fun t off => by
    unfold cmA
    exact i2 (i2 (i2 z num_k) num_k) num_k
  have hBB : ∀ t off, (cmB U n w t off).1 < 4 := fun t off => by
    unfold cmB
    exact i2 (i2 (i2 z num_k) num_k) num_k
  have hT : ∀ t, (cmT U n w t).1 < 4 := fun t => by
    unfold cmT
    exact i2 (i2 z num_k) num_k
  have hC : ∀ t, (cmC U n w t).1 < 4 := fun t => by
    unfold cmC
    exact i2 (i2 z num_k) num_k
  have hF : ∀ t, (cmF U n w np t).1 < 4 := fun t => by
    unfold cmF
    exact i2 (i2 z (show 3 < 4 by decide)) num_k
  have hR : ∀ t, (cmR U n w np nt t).1 < 4 := fun t => by
    unfold cmR
    exact i2 z num_k
  unfold cmS
  exact i2 o (i2 (hT _) (i2 (hC _) (i2 (hA _ _) (i2 (hBB _ _) (i2 (hA _ _) (i2 (hF _) (hR _)))))))
theorem st_k {U : Nat → Int32} {n : Nat} {c : CR} (h : c.1 < 4) : (stS U n c).1 < 4 := by
  unfold stS
  refine iteC_P (fun c : CR => c.1 < 4) ?_ h
  unfold scS
  exact iteC_P (fun c : CR => c.1 < 4) (show 0 < 4 by decide) (show 1 < 4 by decide)
theorem sc_k {U w : Nat → Int32} {n : Nat} : (scX U n w).1 < 4 := by
  have lp : ∀ f c, c.1 < 4 → (lpS U n f c).1 < 4 := by
    intro f
    induction f with
    | zero => exact fun c hc => hc
    | succ f ih => exact fun c hc => iteC_P (fun c : CR => c.1 < 4) (ih _ (st_k cm_k)) hc
  refine lp n _ (st_k ?_)
  unfold hdS
  exact iteC_P (fun c : CR => c.1 < 4) (iteC_P (fun c : CR => c.1 < 4) (iteC_P (fun c : CR => c.1 < 4) (show 0 < 4 by decide) num_k) num_k) (show 1 < 4 by decide)
theorem c_runScript {h : MH} {i np nt : Nat} {s : AS} (hP : PO h i s) (hB : NB (aW s) np nt) : OPC x sX4_runScript [.ref i] h i [] (qScr s) := by
  obtain ⟨a0, -, -, -, -, p5, -⟩ := hP.1
  obtain ⟨hX, ⟨u, hU⟩, ek, eo⟩ := hP.2.2.2.2.2.2.1
  have b1 := hX.1
  (refine CT_of (o := 4) rfl (by decide +kernel) (by simp [Value.category, sX4_runScript]) (MW_ev kX4_runScript 300 ?_); show evS _ _ _ _ _ _ 300 0 (0, 0) [.ref i] [] _; simp only [st_iconst, st_lconst, st_ldc2_w, st_ldc, st_iload, st_lload, st_aload, st_istore, st_astore, st_lstore, st_iinc, st_iadd, st_isub, st_imul, st_idiv, st_irem, st_iand, st_ior, st_ishl, st_ishr, st_iushr, st_ladd, st_lmul, st_lshl, st_lushr, st_lcmp, st_i2l, st_l2i, st_i2b, st_i2c, st_i2d, st_i2f, st_dconst, st_fconst, st_ddiv, st_fdiv, st_dup, st_dup2, st_pop, st_goto, st_if_icmp, st_ifCond, st_tableswitch, st_lookupswitch, st_iaload, st_baload, st_laload, st_aaload, st_iastore, st_bastore, st_lastore, st_aastore, st_saload, st_faload, st_jsr, st_caload, st_d2i, st_d2f, st_ineg, st_ixor, st_dup_x1, st_aconst_null, st_ifnonnull, st_castore, st_getstatic, st_frem, st_drem, st_monitorexit, st_monitorenter, st_invokeinterface, st_newarray, st_anewarray, st_multianewarray, asI_c, asJ_c, asR_c, asD_c, asF_c, popI_c, popJ_c, popR_c, popD_c, popF_c, pop1_c, okSt_0, okSt_S, rcv_0, rcv_1, rcv_2, rcv_3, rcv_4, rcv_5, rcv_8, pI_c, pJ_c, pR_c, pV_c, pD_c, pF_c, cmp_eq, cmp_ne, cmp_lt, cmp_ge, cmp_gt, cmp_le, nth_0, nth_S, set_0, set_S, cat_int, cat_ref, cat_long, cat_double, cat_float, cat_null, catS_0, catS_S, swT_0, swT_S, swL_0, swL_S, Nat.add_zero, Nat.reduceAdd, Nat.reduceSub, Nat.reduceLT, Nat.reduceLeDiff, true_and, and_true, eq_self, eX4_runScript_0, fX4_runScript_0, eX4_runScript_1, gf4_40, eX4_runScript_4, iv4_103, c_X3_execute, eX4_runScript_7, eX4_runScript_8, eX4_runScript_11, cI_0, eX4_runScript_12, pf4_93, eX4_runScript_15, eX4_runScript_16, eX4_runScript_19, gf4_106, eX4_runScript_22, tn_27, eX4_runScript_25, cI_m1, eX4_runScript_26, eX4_runScript_27, eX4_runScript_28, iv4_109, c_X4_beginChange, eX4_runScript_31, eX4_runScript_32, gf4_13, eX4_runScript_35, eX4_runScript_36, eX4_runScript_39, gf4_112, eX4_runScript_42, iv4_113, c_X2_copyFrom, eX4_runScript_45, eX4_runScript_46, eX4_runScript_49, iv4_117, c_X2_sumOfTokens, eX4_runScript_52, d_X4_runScript, re_X4_runScript])
  simp (disch := omega) only [nI_mul, nI_add, nI_clamp, nI_inE, nI_leE, nI_ltE, nI_eqE, nI_eqz, nI_ltz, nI_gez, nI_lez, nI_gtz, nI_m1, nI_m1', nI_ltm, nI_gem, nI_gtm, nI_lem, nI_00, nI_01, nI_10, nI_11, bI_z, bI_1, bI_0, bI_b, bI_nz, bit_e, arK_i, arK_b, arK_j, true_and, and_true, ne_eq, not_false_eq_true, not_true_eq_false, false_and, and_false, true_or, or_true, false_or, or_false, Classical.not_not, forall_const, true_implies, implies_true, false_implies, eq_self, a0, p5, b1]
  refine ⟨Nat.succ_ne_zero _, CV_of (c_execute hX hU) (fun _ _ z => z.elim) fun h1 hE => ?_⟩
  clear a0 p5 b1
  obtain ⟨r1, r2, r3⟩ := sc_rC (U := aU s) (n := aN s) (w := u) (w' := fun _ => 0)
  obtain ⟨c, hc⟩ : ∃ c, c = scX (aU s) (aN s) u := ⟨_, rfl⟩
  have hcB := sc_B (U := aU s) (n := aN s) (w := u)
  rw [← hc] at hE r1 r2 r3 hcB
  obtain ⟨hS1, hF1, e3, e4⟩ := hE
  have hF2 : FRr h1 (sI h1 (i + 94) 1 (nI 0)) (i + 94) (i + 103) := FRr_sI (by omega) (by omega)
  have hX2 : SXs (sI h1 (i + 94) 1 (nI 0)) (i + 94) (aU s) 0 := by
    obtain ⟨a1, a2, a3, a4, a5, a6, a7, a8⟩ := hS1.1
    exact ⟨a1, a2, a3, a4, sI_Ie, Nat.zero_le _, a7, fun k hk => absurd hk (Nat.not_lt_zero _)⟩
  have hN2 : NW (sI h1 (i + 94) 1 (nI 0)) (i + 96) c.2.2.1 := NW_fr hS1.2.1 (FRr_sI (Nat.le_refl (i + 94)) (Nat.lt_succ_self _)) (by omega)
  have hP2 := PO_scr hP (FRr_tr hF1 hF2) hX2 ⟨_, hN2⟩ ((sI_Ik (by decide)).trans e3) ((sI_Ik (by decide)).trans e4)
  have hz := FZ_rm (lo' := i) (hi' := i + 119) (FRr_tr hF1 hF2) (by omega) (by omega)
  have hb1 := hS1.1.1
  have ei : EQa h h1 i := EQ_fr hF1 (by omega)
  (try clear a0; try clear p0; try clear p1; try clear p2; try clear p4; try clear p5; try clear p6; try clear p8; try clear p9)
  obtain ⟨a0, p0, -, -, -, p5, -⟩ := id (PF_ea hP.1 ei)
  have hk4 := sc_k (U := aU s) (n := aN s) (w := u)
  rw [← hc] at hk4
  simp (disch := omega) only [nI_mul, nI_add, nI_clamp, nI_inE, nI_leE, nI_ltE, nI_eqE, nI_eqz, nI_ltz, nI_gez, nI_lez, nI_gtz, nI_m1, nI_m1', nI_ltm, nI_gem, nI_gtm, nI_lem, nI_00, nI_01, nI_10, nI_11, bI_z, bI_1, bI_0, bI_b, bI_nz, bit_e, arK_i, arK_b, arK_j, true_and, and_true, ne_eq, not_false_eq_true, not_true_eq_false, false_and, and_false, true_or, or_true, false_or, or_false, Classical.not_not, forall_const, true_implies, implies_true, false_implies, eq_self, sI_K, sI_L, sI_P, sI_J, sI_Z, sI_Ie, sR_K, sR_L, sR_P, sR_J, sR_Z, sR_Ie, sP_K, sP_L, sP_I, sP_J, sP_Z, sP_Pe, sJ_K, sJ_L, sJ_P, sJ_I, sJ_Z, sJ_Je, a0, p5, hb1, e3, sI_Ia, sI_Ik]
  refine ⟨Nat.succ_ne_zero _, Nat.succ_ne_zero _, fun g => ?_, fun g => ?_⟩
  · clear a0 p5 hb1 p0
    refine CV_of (c_beginChange hP2) (fun _ _ z => z.elim) fun h3 ⟨hP3, h37, hF3, hE3⟩ => ?_
    have hN3 : NW h3 (i + 96) c.2.2.1 := NW_er hN2 hE3 (by omega) (by omega)
    (try clear a0; try clear p0; try clear p1; try clear p2; try clear p4; try clear p5; try clear p6; try clear p8; try clear p9)
    obtain ⟨a0, p0, -, -, -, p5, -⟩ := id hP3.1
    obtain ⟨q1, -, -, -, -, -, q7, -⟩ := hP3.2.2.2.2.2.2.1.1
    have n0 := hP3.2.1.1.1
    have hd : mP h3 (i + 94) 2 = i + 96 := q7
    simp (disch := omega) only [nI_mul, nI_add, nI_clamp, nI_inE, nI_leE, nI_ltE, nI_eqE, nI_eqz, nI_ltz, nI_gez, nI_lez, nI_gtz, nI_m1, nI_m1', nI_ltm, nI_gem, nI_gtm, nI_lem, nI_00, nI_01, nI_10, nI_11, bI_z, bI_1, bI_0, bI_b, bI_nz, bit_e, arK_i, arK_b, arK_j, true_and, and_true, ne_eq, not_false_eq_true, not_true_eq_false, false_and, and_false, true_or, or_true, false_or, or_false, Classical.not_not, forall_const, true_implies, implies_true, false_implies, eq_self, a0, p0, p5, q1, n0, hd]
    refine ⟨Nat.succ_ne_zero _, Nat.succ_ne_zero _, Nat.succ_ne_zero _, CV_of (c_copyFrom hP3.2.1 hN3 (by omega)) (fun _ _ z => z.elim) fun h4 ⟨hN4, hF4⟩ => ?_⟩
    clear a0 p0 p5 q1 n0 hd q7
    have hP4 := PO_net hP3 h37 hF4 hN4
    obtain ⟨np', nt', hB'⟩ := hcB g
    have hc0 := (r3 g).symm
    have hq : qScr s = okA (c.2.2.1, pushP (aW s) (aP s), upto10 (aC s), aS s, aH s, aU s, 0, nI 0, -1, aR s, aM s) (sumW c.2.2.1 np') := by
      unfold qScr exR
      rw [hc0, iteC_t g, npW_e hB']
    rw [g, iteC_t rfl] at hP4
    (try clear a0; try clear p0; try clear p1; try clear p2; try clear p4; try clear p5; try clear p6; try clear p8; try clear p9)
    obtain ⟨a0, p0, -⟩ := id hP4.1
    have n0 := hN4.1.1
    simp (disch := omega) only [nI_mul, nI_add, nI_clamp, nI_inE, nI_leE, nI_ltE, nI_eqE, nI_eqz, nI_ltz, nI_gez, nI_lez, nI_gtz, nI_m1, nI_m1', nI_ltm, nI_gem, nI_gtm, nI_lem, nI_00, nI_01, nI_10, nI_11, bI_z, bI_1, bI_0, bI_b, bI_nz, bit_e, arK_i, arK_b, arK_j, true_and, and_true, ne_eq, not_false_eq_true, not_true_eq_false, false_and, and_false, true_or, or_true, false_or, or_false, Classical.not_not, forall_const, true_implies, implies_true, false_implies, eq_self, a0, p0, n0]
    exact ⟨Nat.succ_ne_zero _, CI_pure (c_sumOfTokens hN4.1 hB') (ok_of hq hP4 (FZ_tr hz (FZ_tr hF3 (FZ_rm hF4 (by omega) (by omega)))))⟩
  · have hq : qScr s = okA (aW s, aP s, aC s, aS s, aH s, aU s, 0, nI c.1, nI c.2.1, aR s, aM s) (-1) := by
      unfold qScr exR
      rw [← r1, ← r2, iteC_f g]
    rw [iteC_f g] at hP2
    exact ok_of hq hP2 hz
end PET
