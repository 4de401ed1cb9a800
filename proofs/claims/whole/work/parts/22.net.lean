section NET
variable {x : CX}
/-- the marking of the first places after a firing -/
def mvW (w : Nat → Int32) (t n : Nat) : Nat → Int32 := fun m => if 2 ≤ m ∧ m < 2 + n then w m + effW w t (m - 2) else w m
theorem mv_0 {w : Nat → Int32} {t : Nat} : mvW w t 0 = w := funext fun m => if_neg (by omega)
theorem mv_S {w : Nat → Int32} {t n : Nat} (hn : n < 8) : udW (mvW w t n) (2 + n) (mvW w t n (2 + n) + effW (mvW w t n) t n) = mvW w t (n + 1) := by
  funext m
  have e1 : mvW w t n (2 + n) = w (2 + n) := if_neg (by omega)
  have e2 : effW (mvW w t n) t n = effW w t n := by
    show mvW w t n _ - mvW w t n _ = _
    rw [show mvW w t n (108 + (t * 8 + n)) = w (108 + (t * 8 + n)) from if_neg (by omega), show mvW w t n (28 + (t * 8 + n)) = w (28 + (t * 8 + n)) from if_neg (by omega)]; rfl
  by_cases g : m = 2 + n
  · subst g
    rw [udW_e, e1, e2, show mvW w t (n + 1) (2 + n) = _ from if_pos (by omega), Nat.add_sub_cancel_left]
  · rw [udW_n g]
    by_cases g2 : 2 ≤ m ∧ m < 2 + n
    · rw [show mvW w t n m = _ from if_pos g2, show mvW w t (n + 1) m = _ from if_pos (by omega)]
    · rw [show mvW w t n m = _ from if_neg g2, show mvW w t (n + 1) m = _ from if_neg (by omega)]
theorem mv_o {w : Nat → Int32} {t n m : Nat} (hm : m < 2 ∨ 10 ≤ m) (hn : n ≤ 8) : mvW w t n m = w m := if_neg (by omega)
theorem mv_B {w : Nat → Int32} {t n np nt : Nat} (hB : NB w np nt) (hn : n ≤ 8) : NB (mvW w t n) np nt := ⟨(mv_o (by omega) hn).trans hB.1, (mv_o (by omega) hn).trans hB.2.1, hB.2.2⟩
def fireW (w : Nat → Int32) (np t : Nat) : Nat → Int32 := udW (mvW w t np) (18 + t) (w (18 + t) + nI 1)
theorem fire_B {w : Nat → Int32} {t np nt : Nat} (hB : NB w np nt) : NB (fireW w np t) np nt := ⟨(udW_n (by omega)).trans (mv_B hB hB.2.2.2.1).1, (udW_n (by omega)).trans (mv_B hB hB.2.2.2.1).2.1, hB.2.2⟩
theorem c_fireOnce {h : MH} {i : Nat} {w : Nat → Int32} (hN : NW h i w) {np nt : Nat} (hB : NB w np nt) {t : Nat} (ht : t < 10) : CT x sX2_fireOnce [.ref i, .int (nI t)] h (pV fun h' => NW h' i (fireW w np t) ∧ FRr h h' i (i + 7)) xNo := by
  (refine CT_of (o := 2) rfl (by decide) (by simp [Value.category, sX2_fireOnce]) (MW_ev kX2_fireOnce 300 ?_); show evS _ _ _ _ _ _ 300 0 (0, 0) [.ref i, .int (nI t), .null] [] _; simp only [st_iconst, st_lconst, st_ldc2_w, st_ldc, st_iload, st_lload, st_aload, st_istore, st_astore, st_lstore, st_iinc, st_iadd, st_isub, st_imul, st_idiv, st_irem, st_iand, st_ior, st_ishl, st_ishr, st_iushr, st_ladd, st_lmul, st_lshl, st_lushr, st_lcmp, st_i2l, st_l2i, st_i2b, st_i2c, st_i2d, st_i2f, st_dconst, st_fconst, st_ddiv, st_fdiv, st_dup, st_dup2, st_pop, st_goto, st_if_icmp, st_ifCond, st_tableswitch, st_lookupswitch, st_iaload, st_baload, st_laload, st_aaload, st_iastore, st_bastore, st_lastore, st_aastore, st_saload, st_faload, st_jsr, st_getstatic, st_frem, st_drem, st_monitorexit, st_monitorenter, st_invokeinterface, st_newarray, st_anewarray, st_multianewarray, asI_c, asJ_c, asR_c, asD_c, asF_c, popI_c, popJ_c, popR_c, popD_c, popF_c, pop1_c, okSt_0, okSt_S, rcv_0, rcv_1, rcv_2, rcv_3, rcv_4, rcv_5, rcv_8, pI_c, pJ_c, pR_c, pV_c, pD_c, pF_c, cmp_eq, cmp_ne, cmp_lt, cmp_ge, cmp_gt, cmp_le, nth_0, nth_S, set_0, set_S, cat_int, cat_ref, cat_long, cat_double, cat_float, cat_null, catS_0, catS_S, swT_0, swT_S, swL_0, swL_S, Nat.add_zero, Nat.reduceAdd, Nat.reduceSub, Nat.reduceLT, Nat.reduceLeDiff, true_and, and_true, eq_self, eX2_fireOnce_0, fX2_fireOnce_0, cI_0, eX2_fireOnce_1, eX2_fireOnce_2, fX2_fireOnce_2, eX2_fireOnce_3, eX2_fireOnce_4, gf2_9, eX2_fireOnce_7, tn_31, eX2_fireOnce_10, eX2_fireOnce_11, gf2_18, eX2_fireOnce_14, eX2_fireOnce_15, eX2_fireOnce_16, eX2_fireOnce_17, eX2_fireOnce_18, eX2_fireOnce_19, eX2_fireOnce_20, iv2_58, c_X2_change, eX2_fireOnce_23, eX2_fireOnce_24, eX2_fireOnce_25, cI_1, eX2_fireOnce_28, tn_2, eX2_fireOnce_31, eX2_fireOnce_32, gf2_34, eX2_fireOnce_35, eX2_fireOnce_36, eX2_fireOnce_37, eX2_fireOnce_38, eX2_fireOnce_39, eX2_fireOnce_40, eX2_fireOnce_41, d_X2_fireOnce, re_X2_fireOnce])
  refine loop_up np (P := fun k => ∀ h', NW h' i (mvW w t k) → FRr h h' i (i + 7) → MW x sX2_fireOnce 2 _ xNo 2 (0, 0) [.ref i, .int (nI t), .int (nI k)] [] h') (fun k hk ih => ?_) 0 (Nat.zero_le _) h (by rw [mv_0]; exact hN) FRr_rfl
  intro h1 hN1 hF
  have hB1 := mv_B (t := t) (n := k) hB (by have := hB.2.2.2.1; omega)
  have hR := fun p hp => c_change (x := x) hN1.1 (t := t) (p := p) ht hp
  have hS := hN1.2
  obtain ⟨s2, s3, s4, s6, s7⟩ := hS
  have hN0 := hN1
  obtain ⟨hN1, -⟩ := hN1
  obtain ⟨n0, n1, n2, ⟨a0, a1, a2, a3⟩, ⟨b0, b1, b2, b3⟩, ⟨c0, c1, c2, c3⟩, ⟨d0, d1, d2, d3⟩, ⟨e0, e1, e2, e3⟩, ⟨f0, f1, f2, f3⟩⟩ := hN1
  obtain ⟨B0, B1, B2, B3, B4, B5⟩ := hB1
  (refine MW_ev kX2_fireOnce 300 ?_; simp only [st_iconst, st_lconst, st_ldc2_w, st_ldc, st_iload, st_lload, st_aload, st_istore, st_astore, st_lstore, st_iinc, st_iadd, st_isub, st_imul, st_idiv, st_irem, st_iand, st_ior, st_ishl, st_ishr, st_iushr, st_ladd, st_lmul, st_lshl, st_lushr, st_lcmp, st_i2l, st_l2i, st_i2b, st_i2c, st_i2d, st_i2f, st_dconst, st_fconst, st_ddiv, st_fdiv, st_dup, st_dup2, st_pop, st_goto, st_if_icmp, st_ifCond, st_tableswitch, st_lookupswitch, st_iaload, st_baload, st_laload, st_aaload, st_iastore, st_bastore, st_lastore, st_aastore, st_saload, st_faload, st_jsr, st_getstatic, st_frem, st_drem, st_monitorexit, st_monitorenter, st_invokeinterface, st_newarray, st_anewarray, st_multianewarray, asI_c, asJ_c, asR_c, asD_c, asF_c, popI_c, popJ_c, popR_c, popD_c, popF_c, pop1_c, okSt_0, okSt_S, rcv_0, rcv_1, rcv_2, rcv_3, rcv_4, rcv_5, rcv_8, pI_c, pJ_c, pR_c, pV_c, pD_c, pF_c, cmp_eq, cmp_ne, cmp_lt, cmp_ge, cmp_gt, cmp_le, nth_0, nth_S, set_0, set_S, cat_int, cat_ref, cat_long, cat_double, cat_float, cat_null, catS_0, catS_S, swT_0, swT_S, swL_0, swL_S, Nat.add_zero, Nat.reduceAdd, Nat.reduceSub, Nat.reduceLT, Nat.reduceLeDiff, true_and, and_true, eq_self, eX2_fireOnce_0, fX2_fireOnce_0, cI_0, eX2_fireOnce_1, eX2_fireOnce_2, fX2_fireOnce_2, eX2_fireOnce_3, eX2_fireOnce_4, gf2_9, eX2_fireOnce_7, tn_31, eX2_fireOnce_10, eX2_fireOnce_11, gf2_18, eX2_fireOnce_14, eX2_fireOnce_15, eX2_fireOnce_16, eX2_fireOnce_17, eX2_fireOnce_18, eX2_fireOnce_19, eX2_fireOnce_20, iv2_58, c_X2_change, eX2_fireOnce_23, eX2_fireOnce_24, eX2_fireOnce_25, cI_1, eX2_fireOnce_28, tn_2, eX2_fireOnce_31, eX2_fireOnce_32, gf2_34, eX2_fireOnce_35, eX2_fireOnce_36, eX2_fireOnce_37, eX2_fireOnce_38, eX2_fireOnce_39, eX2_fireOnce_40, eX2_fireOnce_41, d_X2_fireOnce, re_X2_fireOnce])
  rcases Nat.lt_or_ge k np with hl | hl
  · simp (disch := omega) only [nI_mul, nI_add, nI_clamp, nI_inE, nI_leE, nI_ltE, nI_eqE, nI_eqz, nI_ltz, nI_gez, nI_lez, nI_gtz, nI_m1, nI_m1', nI_ltm, nI_00, nI_01, nI_10, nI_11, bI_z, bI_1, bI_0, bI_b, bI_nz, bit_e, true_and, and_true, ne_eq, not_false_eq_true, not_true_eq_false, false_and, and_false, true_or, or_true, false_or, or_false, Classical.not_not, forall_const, true_implies, implies_true, false_implies, eq_self, n0, n1, n2, a0, a1, a2, a3, b0, b1, b2, b3, c0, c1, c2, c3, d0, d1, d2, d3, e0, e1, e2, e3, f0, f1, f2, f3, B0, hl, Nat.not_le.mpr hl]
    refine CI_pure (hR k (by omega)) ⟨a1, by rw [a2]; exact vp_in_nI (by omega) (by decide), ?_⟩
    refine ih hl _ ?_ (FRr_tr hF (FRr_sI (by omega) (by omega)))
    rw [s2, ← mv_S (by omega)]
    exact NW_s2 hN0 (by omega)
  · obtain rfl : k = np := by omega
    simp (disch := omega) only [nI_mul, nI_add, nI_clamp, nI_inE, nI_leE, nI_ltE, nI_eqE, nI_eqz, nI_ltz, nI_gez, nI_lez, nI_gtz, nI_m1, nI_m1', nI_ltm, nI_00, nI_01, nI_10, nI_11, bI_z, bI_1, bI_0, bI_b, bI_nz, bit_e, true_and, and_true, ne_eq, not_false_eq_true, not_true_eq_false, false_and, and_false, true_or, or_true, false_or, or_false, Classical.not_not, forall_const, true_implies, implies_true, false_implies, eq_self, n0, n1, n2, a0, a1, a2, a3, b0, b1, b2, b3, c0, c1, c2, c3, d0, d1, d2, d3, e0, e1, e2, e3, f0, f1, f2, f3, B0, Nat.le_refl]
    refine ⟨?_, FRr_tr hF (FRr_sI (by omega) (by omega))⟩
    rw [s7, mv_o (by omega) B3]
    exact NW_s7 hN0 ht
noncomputable def nxW (w : Nat → Int32) (np n : Nat) : Int32 := foN (fun t b => iteC ((b = -1 ∨ w (18 + t) < w (18 + b.toNatClampNeg)) ∧ enW w np t) (nI t) b) (-1) n
theorem nx_dom (w : Nat → Int32) (np n : Nat) : nxW w np n = -1 ∨ ∃ j, j < n ∧ nxW w np n = nI j := by
  induction n with
  | zero => exact Or.inl rfl
  | succ n ih =>
    by_cases g : (nxW w np n = -1 ∨ w (18 + n) < w (18 + (nxW w np n).toNatClampNeg)) ∧ enW w np n
    · exact Or.inr ⟨n, Nat.lt_succ_self n, iteC_t g⟩
    · have e : nxW w np (n + 1) = nxW w np n := iteC_f g
      rw [e]
      exact ih.imp id fun ⟨j, hj, e⟩ => ⟨j, by omega, e⟩
theorem c_nextToFire {h : MH} {i : Nat} {w : Nat → Int32} (hN : NV h i w) {np nt : Nat} (hB : NB w np nt) : CT x sX2_nextToFire [.ref i] h (pI fun r h' => r = nxW w np nt ∧ h' = h) xNo := by
  have hR := fun t ht => c_allows (x := x) hN hB (t := t) ht
  obtain ⟨n0, n1, n2, ⟨a0, a1, a2, a3⟩, ⟨b0, b1, b2, b3⟩, ⟨c0, c1, c2, c3⟩, ⟨d0, d1, d2, d3⟩, ⟨e0, e1, e2, e3⟩, ⟨f0, f1, f2, f3⟩⟩ := hN
  obtain ⟨B0, B1, B2, B3, B4, B5⟩ := hB
  (refine CT_of (o := 2) rfl (by decide) (by simp [Value.category, sX2_nextToFire]) (MW_ev kX2_nextToFire 300 ?_); show evS _ _ _ _ _ _ 300 0 (0, 0) [.ref i, .null, .null] [] _; simp only [st_iconst, st_lconst, st_ldc2_w, st_ldc, st_iload, st_lload, st_aload, st_istore, st_astore, st_lstore, st_iinc, st_iadd, st_isub, st_imul, st_idiv, st_irem, st_iand, st_ior, st_ishl, st_ishr, st_iushr, st_ladd, st_lmul, st_lshl, st_lushr, st_lcmp, st_i2l, st_l2i, st_i2b, st_i2c, st_i2d, st_i2f, st_dconst, st_fconst, st_ddiv, st_fdiv, st_dup, st_dup2, st_pop, st_goto, st_if_icmp, st_ifCond, st_tableswitch, st_lookupswitch, st_iaload, st_baload, st_laload, st_aaload, st_iastore, st_bastore, st_lastore, st_aastore, st_saload, st_faload, st_jsr, st_getstatic, st_frem, st_drem, st_monitorexit, st_monitorenter, st_invokeinterface, st_newarray, st_anewarray, st_multianewarray, asI_c, asJ_c, asR_c, asD_c, asF_c, popI_c, popJ_c, popR_c, popD_c, popF_c, pop1_c, okSt_0, okSt_S, rcv_0, rcv_1, rcv_2, rcv_3, rcv_4, rcv_5, rcv_8, pI_c, pJ_c, pR_c, pV_c, pD_c, pF_c, cmp_eq, cmp_ne, cmp_lt, cmp_ge, cmp_gt, cmp_le, nth_0, nth_S, set_0, set_S, cat_int, cat_ref, cat_long, cat_double, cat_float, cat_null, catS_0, catS_S, swT_0, swT_S, swL_0, swL_S, Nat.add_zero, Nat.reduceAdd, Nat.reduceSub, Nat.reduceLT, Nat.reduceLeDiff, true_and, and_true, eq_self, eX2_nextToFire_0, fX2_nextToFire_0, cI_m1, eX2_nextToFire_1, eX2_nextToFire_2, cI_0, eX2_nextToFire_3, eX2_nextToFire_4, fX2_nextToFire_4, eX2_nextToFire_5, eX2_nextToFire_6, gf2_15, eX2_nextToFire_9, tn_48, eX2_nextToFire_12, eX2_nextToFire_13, eX2_nextToFire_14, tn_32, eX2_nextToFire_17, eX2_nextToFire_18, gf2_34, eX2_nextToFire_21, eX2_nextToFire_22, eX2_nextToFire_23, eX2_nextToFire_24, eX2_nextToFire_27, eX2_nextToFire_28, eX2_nextToFire_29, tn_42, eX2_nextToFire_32, eX2_nextToFire_33, eX2_nextToFire_34, iv2_54, c_X2_allows, eX2_nextToFire_37, eX2_nextToFire_40, eX2_nextToFire_41, eX2_nextToFire_42, cI_1, eX2_nextToFire_45, tn_4, eX2_nextToFire_48, eX2_nextToFire_49, d_X2_nextToFire, re_X2_nextToFire])
  refine loop_up nt (P := fun k => MW x sX2_nextToFire 2 _ xNo 4 (0, 0) [.ref i, .int (nxW w np k), .int (nI k)] [] h) (fun k hk ih => ?_) 0 (Nat.zero_le _)
  (refine MW_ev kX2_nextToFire 300 ?_; simp only [st_iconst, st_lconst, st_ldc2_w, st_ldc, st_iload, st_lload, st_aload, st_istore, st_astore, st_lstore, st_iinc, st_iadd, st_isub, st_imul, st_idiv, st_irem, st_iand, st_ior, st_ishl, st_ishr, st_iushr, st_ladd, st_lmul, st_lshl, st_lushr, st_lcmp, st_i2l, st_l2i, st_i2b, st_i2c, st_i2d, st_i2f, st_dconst, st_fconst, st_ddiv, st_fdiv, st_dup, st_dup2, st_pop, st_goto, st_if_icmp, st_ifCond, st_tableswitch, st_lookupswitch, st_iaload, st_baload, st_laload, st_aaload, st_iastore, st_bastore, st_lastore, st_aastore, st_saload, st_faload, st_jsr, st_getstatic, st_frem, st_drem, st_monitorexit, st_monitorenter, st_invokeinterface, st_newarray, st_anewarray, st_multianewarray, asI_c, asJ_c, asR_c, asD_c, asF_c, popI_c, popJ_c, popR_c, popD_c, popF_c, pop1_c, okSt_0, okSt_S, rcv_0, rcv_1, rcv_2, rcv_3, rcv_4, rcv_5, rcv_8, pI_c, pJ_c, pR_c, pV_c, pD_c, pF_c, cmp_eq, cmp_ne, cmp_lt, cmp_ge, cmp_gt, cmp_le, nth_0, nth_S, set_0, set_S, cat_int, cat_ref, cat_long, cat_double, cat_float, cat_null, catS_0, catS_S, swT_0, swT_S, swL_0, swL_S, Nat.add_zero, Nat.reduceAdd, Nat.reduceSub, Nat.reduceLT, Nat.reduceLeDiff, true_and, and_true, eq_self, eX2_nextToFire_0, fX2_nextToFire_0, cI_m1, eX2_nextToFire_1, eX2_nextToFire_2, cI_0, eX2_nextToFire_3, eX2_nextToFire_4, fX2_nextToFire_4, eX2_nextToFire_5, eX2_nextToFire_6, gf2_15, eX2_nextToFire_9, tn_48, eX2_nextToFire_12, eX2_nextToFire_13, eX2_nextToFire_14, tn_32, eX2_nextToFire_17, eX2_nextToFire_18, gf2_34, eX2_nextToFire_21, eX2_nextToFire_22, eX2_nextToFire_23, eX2_nextToFire_24, eX2_nextToFire_27, eX2_nextToFire_28, eX2_nextToFire_29, tn_42, eX2_nextToFire_32, eX2_nextToFire_33, eX2_nextToFire_34, iv2_54, c_X2_allows, eX2_nextToFire_37, eX2_nextToFire_40, eX2_nextToFire_41, eX2_nextToFire_42, cI_1, eX2_nextToFire_45, tn_4, eX2_nextToFire_48, eX2_nextToFire_49, d_X2_nextToFire, re_X2_nextToFire])
  rcases Nat.lt_or_ge k nt with hl | hl
  · have ih := ih hl
    rcases nx_dom w np k with g | ⟨j, hj, g⟩
    · rw [g]
      simp (disch := omega) only [nI_mul, nI_add, nI_clamp, nI_inE, nI_leE, nI_ltE, nI_eqE, nI_eqz, nI_ltz, nI_gez, nI_lez, nI_gtz, nI_m1, nI_m1', nI_ltm, nI_00, nI_01, nI_10, nI_11, bI_z, bI_1, bI_0, bI_b, bI_nz, bit_e, true_and, and_true, ne_eq, not_false_eq_true, not_true_eq_false, false_and, and_false, true_or, or_true, false_or, or_false, Classical.not_not, forall_const, true_implies, implies_true, false_implies, eq_self, n0, n1, n2, a0, a1, a2, a3, b0, b1, b2, b3, c0, c1, c2, c3, d0, d1, d2, d3, e0, e1, e2, e3, f0, f1, f2, f3, B1, hl, Nat.not_le.mpr hl]
      refine CI_pure (hR k (by omega)) ?_
      simp (disch := omega) only [nI_mul, nI_add, nI_clamp, nI_inE, nI_leE, nI_ltE, nI_eqE, nI_eqz, nI_ltz, nI_gez, nI_lez, nI_gtz, nI_m1, nI_m1', nI_ltm, nI_00, nI_01, nI_10, nI_11, bI_z, bI_1, bI_0, bI_b, bI_nz, bit_e, true_and, and_true, ne_eq, not_false_eq_true, not_true_eq_false, false_and, and_false, true_or, or_true, false_or, or_false, Classical.not_not, forall_const, true_implies, implies_true, false_implies, eq_self]
      refine ⟨fun g2 => ?_, fun g2 => ?_⟩
      · rwa [show nxW w np (k + 1) = nxW w np k from iteC_f (fun z => g2 z.2), g] at ih
      · rwa [show nxW w np (k + 1) = nI k from iteC_t ⟨Or.inl g, g2⟩] at ih
    · have hs : nxW w np (k + 1) = iteC ((nxW w np k = -1 ∨ w (18 + k) < w (18 + (nxW w np k).toNatClampNeg)) ∧ enW w np k) (nI k) (nxW w np k) := rfl
      rw [g, nI_clamp (by omega), nI_m1 (by omega), false_or] at hs
      rw [g]
      simp (disch := omega) only [nI_mul, nI_add, nI_clamp, nI_inE, nI_leE, nI_ltE, nI_eqE, nI_eqz, nI_ltz, nI_gez, nI_lez, nI_gtz, nI_m1, nI_m1', nI_ltm, nI_00, nI_01, nI_10, nI_11, bI_z, bI_1, bI_0, bI_b, bI_nz, bit_e, true_and, and_true, ne_eq, not_false_eq_true, not_true_eq_false, false_and, and_false, true_or, or_true, false_or, or_false, Classical.not_not, forall_const, true_implies, implies_true, false_implies, eq_self, n0, n1, n2, a0, a1, a2, a3, b0, b1, b2, b3, c0, c1, c2, c3, d0, d1, d2, d3, e0, e1, e2, e3, f0, f1, f2, f3, B1, hl, Nat.not_le.mpr hl]
      refine ⟨fun g1 => ?_, fun g1 => CI_pure (hR k (by omega)) ?_⟩
      · rwa [hs, iteC_f (fun z => Int32.not_lt.mpr g1 z.1)] at ih
      simp (disch := omega) only [nI_mul, nI_add, nI_clamp, nI_inE, nI_leE, nI_ltE, nI_eqE, nI_eqz, nI_ltz, nI_gez, nI_lez, nI_gtz, nI_m1, nI_m1', nI_ltm, nI_00, nI_01, nI_10, nI_11, bI_z, bI_1, bI_0, bI_b, bI_nz, bit_e, true_and, and_true, ne_eq, not_false_eq_true, not_true_eq_false, false_and, and_false, true_or, or_true, false_or, or_false, Classical.not_not, forall_const, true_implies, implies_true, false_implies, eq_self]
      refine ⟨fun g2 => ?_, fun g2 => ?_⟩
      · rwa [hs, iteC_f (fun z => g2 z.2)] at ih
      · rwa [hs, iteC_t ⟨Int32.not_le.mp g1, g2⟩] at ih
  · obtain rfl : k = nt := by omega
    simp (disch := omega) only [nI_mul, nI_add, nI_clamp, nI_inE, nI_leE, nI_ltE, nI_eqE, nI_eqz, nI_ltz, nI_gez, nI_lez, nI_gtz, nI_m1, nI_m1', nI_ltm, nI_00, nI_01, nI_10, nI_11, bI_z, bI_1, bI_0, bI_b, bI_nz, bit_e, true_and, and_true, ne_eq, not_false_eq_true, not_true_eq_false, false_and, and_false, true_or, or_true, false_or, or_false, Classical.not_not, forall_const, true_implies, implies_true, false_implies, eq_self, n0, n1, n2, a0, a1, a2, a3, b0, b1, b2, b3, c0, c1, c2, c3, d0, d1, d2, d3, e0, e1, e2, e3, f0, f1, f2, f3, B1, Nat.le_refl]
theorem nx_en {w : Nat → Int32} {np n j : Nat} (hn : n ≤ 10) (h : nxW w np n = nI j) (hj : j < 10) : j < n ∧ enW w np j := by
  induction n with
  | zero => exact absurd h (by rw [show nxW w np 0 = -1 from rfl, nI_m1' (by omega)]; exact id)
  | succ n ih =>
    by_cases g : (nxW w np n = -1 ∨ w (18 + n) < w (18 + (nxW w np n).toNatClampNeg)) ∧ enW w np n
    · have e : nxW w np (n + 1) = nI n := iteC_t g
      rw [e] at h
      have := (nI_eq (by omega) (by omega)).mp h
      subst this
      exact ⟨Nat.lt_succ_self _, g.2⟩
    · have e : nxW w np (n + 1) = nxW w np n := iteC_f g
      rw [e] at h
      have := ih (by omega) h
      exact ⟨by omega, this.2⟩
/-- a run: how many it fires, and the net after it -/
noncomputable def runW (np nt : Nat) : Nat → (Nat → Int32) → Nat × (Nat → Int32)
  | 0, w => (0, w)
  | n + 1, w => iteC (nxW w np nt = -1) (0, w) (let r := runW np nt n (fireW w np (nxW w np nt).toNatClampNeg); (r.1 + 1, r.2))
theorem run_0 {np nt : Nat} {w : Nat → Int32} : runW np nt 0 w = (0, w) := rfl
theorem run_end {np nt n : Nat} {w : Nat → Int32} (h : nxW w np nt = -1) : runW np nt n w = (0, w) := by
  cases n with
  | zero => rfl
  | succ n => exact iteC_t h
theorem run_go {np nt n j : Nat} {w : Nat → Int32} (h : nxW w np nt = nI j) (hj : j < 10) : runW np nt (n + 1) w = ((runW np nt n (fireW w np j)).1 + 1, (runW np nt n (fireW w np j)).2) := by
  show iteC _ _ _ = _
  rw [iteC_f (by rw [h, nI_m1 (by omega)]; exact id), h, nI_clamp (by omega)]
theorem run_le {np nt n : Nat} {w : Nat → Int32} (hnt : nt ≤ 10) : (runW np nt n w).1 ≤ n := by
  induction n generalizing w with
  | zero => exact Nat.le_refl _
  | succ n ih =>
    rcases nx_dom w np nt with g | ⟨j, hj, g⟩
    · rw [run_end g]; exact Nat.zero_le _
    · rw [run_go g (by omega)]; exact Nat.succ_le_succ ih
theorem run_B {np nt n : Nat} {w : Nat → Int32} (hB : NB w np nt) : NB (runW np nt n w).2 np nt := by
  induction n generalizing w with
  | zero => exact hB
  | succ n ih =>
    rcases nx_dom w np nt with g | ⟨j, hj, g⟩
    · rw [run_end g]; exact hB
    · rw [run_go g (by have := hB.2.2.2.2.2; omega)]; exact ih (fire_B hB)
theorem c_advance {h : MH} {i : Nat} {w : Nat → Int32} (hN : NW h i w) {np nt : Nat} (hB : NB w np nt) {n : Nat} (hn : n < 1000) : CT x sX2_advance [.ref i, .int (nI n)] h (pI fun r h' => r = nI (runW np nt n w).1 ∧ NW h' i (runW np nt n w).2 ∧ FRr h h' i (i + 7)) xNo := by
  (refine CT_of (o := 2) rfl (by decide) (by simp [Value.category, sX2_advance]) (MW_ev kX2_advance 300 ?_); show evS _ _ _ _ _ _ 300 0 (0, 0) [.ref i, .int (nI n), .null, .null] [] _; simp only [st_iconst, st_lconst, st_ldc2_w, st_ldc, st_iload, st_lload, st_aload, st_istore, st_astore, st_lstore, st_iinc, st_iadd, st_isub, st_imul, st_idiv, st_irem, st_iand, st_ior, st_ishl, st_ishr, st_iushr, st_ladd, st_lmul, st_lshl, st_lushr, st_lcmp, st_i2l, st_l2i, st_i2b, st_i2c, st_i2d, st_i2f, st_dconst, st_fconst, st_ddiv, st_fdiv, st_dup, st_dup2, st_pop, st_goto, st_if_icmp, st_ifCond, st_tableswitch, st_lookupswitch, st_iaload, st_baload, st_laload, st_aaload, st_iastore, st_bastore, st_lastore, st_aastore, st_saload, st_faload, st_jsr, st_getstatic, st_frem, st_drem, st_monitorexit, st_monitorenter, st_invokeinterface, st_newarray, st_anewarray, st_multianewarray, asI_c, asJ_c, asR_c, asD_c, asF_c, popI_c, popJ_c, popR_c, popD_c, popF_c, pop1_c, okSt_0, okSt_S, rcv_0, rcv_1, rcv_2, rcv_3, rcv_4, rcv_5, rcv_8, pI_c, pJ_c, pR_c, pV_c, pD_c, pF_c, cmp_eq, cmp_ne, cmp_lt, cmp_ge, cmp_gt, cmp_le, nth_0, nth_S, set_0, set_S, cat_int, cat_ref, cat_long, cat_double, cat_float, cat_null, catS_0, catS_S, swT_0, swT_S, swL_0, swL_S, Nat.add_zero, Nat.reduceAdd, Nat.reduceSub, Nat.reduceLT, Nat.reduceLeDiff, true_and, and_true, eq_self, eX2_advance_0, fX2_advance_0, cI_0, eX2_advance_1, eX2_advance_2, fX2_advance_2, eX2_advance_3, eX2_advance_4, tn_30, eX2_advance_7, eX2_advance_8, iv2_61, c_X2_nextToFire, eX2_advance_11, eX2_advance_12, eX2_advance_13, cI_m1, eX2_advance_14, tn_19, eX2_advance_17, eX2_advance_18, eX2_advance_19, eX2_advance_20, eX2_advance_21, iv2_65, c_X2_fireOnce, eX2_advance_24, cI_1, eX2_advance_27, tn_2, eX2_advance_30, eX2_advance_31, d_X2_advance, re_X2_advance])
  refine loop_up n (P := fun k => ∀ h' w', NW h' i w' → NB w' np nt → FRr h h' i (i + 7) → runW np nt n w = (k + (runW np nt (n - k) w').1, (runW np nt (n - k) w').2) → MW x sX2_advance 2 _ xNo 2 (0, 0) [.ref i, .int (nI n), .int (nI k), .null] [] h') (fun k hk ih => ?_) 0 (Nat.zero_le _) h w hN hB FRr_rfl (by rw [Nat.zero_add]; rfl)
  intro h1 w1 hN1 hB1 hF he
  have hX := c_nextToFire (x := x) hN1.1 hB1
  have n0 := hN1.1.1
  (refine MW_ev kX2_advance 300 ?_; simp only [st_iconst, st_lconst, st_ldc2_w, st_ldc, st_iload, st_lload, st_aload, st_istore, st_astore, st_lstore, st_iinc, st_iadd, st_isub, st_imul, st_idiv, st_irem, st_iand, st_ior, st_ishl, st_ishr, st_iushr, st_ladd, st_lmul, st_lshl, st_lushr, st_lcmp, st_i2l, st_l2i, st_i2b, st_i2c, st_i2d, st_i2f, st_dconst, st_fconst, st_ddiv, st_fdiv, st_dup, st_dup2, st_pop, st_goto, st_if_icmp, st_ifCond, st_tableswitch, st_lookupswitch, st_iaload, st_baload, st_laload, st_aaload, st_iastore, st_bastore, st_lastore, st_aastore, st_saload, st_faload, st_jsr, st_getstatic, st_frem, st_drem, st_monitorexit, st_monitorenter, st_invokeinterface, st_newarray, st_anewarray, st_multianewarray, asI_c, asJ_c, asR_c, asD_c, asF_c, popI_c, popJ_c, popR_c, popD_c, popF_c, pop1_c, okSt_0, okSt_S, rcv_0, rcv_1, rcv_2, rcv_3, rcv_4, rcv_5, rcv_8, pI_c, pJ_c, pR_c, pV_c, pD_c, pF_c, cmp_eq, cmp_ne, cmp_lt, cmp_ge, cmp_gt, cmp_le, nth_0, nth_S, set_0, set_S, cat_int, cat_ref, cat_long, cat_double, cat_float, cat_null, catS_0, catS_S, swT_0, swT_S, swL_0, swL_S, Nat.add_zero, Nat.reduceAdd, Nat.reduceSub, Nat.reduceLT, Nat.reduceLeDiff, true_and, and_true, eq_self, eX2_advance_0, fX2_advance_0, cI_0, eX2_advance_1, eX2_advance_2, fX2_advance_2, eX2_advance_3, eX2_advance_4, tn_30, eX2_advance_7, eX2_advance_8, iv2_61, c_X2_nextToFire, eX2_advance_11, eX2_advance_12, eX2_advance_13, cI_m1, eX2_advance_14, tn_19, eX2_advance_17, eX2_advance_18, eX2_advance_19, eX2_advance_20, eX2_advance_21, iv2_65, c_X2_fireOnce, eX2_advance_24, cI_1, eX2_advance_27, tn_2, eX2_advance_30, eX2_advance_31, d_X2_advance, re_X2_advance])
  rcases Nat.lt_or_ge k n with hl | hl
  · simp (disch := omega) only [nI_mul, nI_add, nI_clamp, nI_inE, nI_leE, nI_ltE, nI_eqE, nI_eqz, nI_ltz, nI_gez, nI_lez, nI_gtz, nI_m1, nI_m1', nI_ltm, nI_00, nI_01, nI_10, nI_11, bI_z, bI_1, bI_0, bI_b, bI_nz, bit_e, true_and, and_true, ne_eq, not_false_eq_true, not_true_eq_false, false_and, and_false, true_or, or_true, false_or, or_false, Classical.not_not, forall_const, true_implies, implies_true, false_implies, eq_self, n0, hl, Nat.not_le.mpr hl]
    refine CI_pure hX ⟨fun g => ⟨n0, ?_⟩, fun g => ?_⟩
    · trace_state
      sorry
    · trace_state
      sorry
  · obtain rfl : k = n := by omega
    simp (disch := omega) only [nI_mul, nI_add, nI_clamp, nI_inE, nI_leE, nI_ltE, nI_eqE, nI_eqz, nI_ltz, nI_gez, nI_lez, nI_gtz, nI_m1, nI_m1', nI_ltm, nI_00, nI_01, nI_10, nI_11, bI_z, bI_1, bI_0, bI_b, bI_nz, bit_e, true_and, and_true, ne_eq, not_false_eq_true, not_true_eq_false, false_and, and_false, true_or, or_true, false_or, or_false, Classical.not_not, forall_const, true_implies, implies_true, false_implies, eq_self, Nat.le_refl]
    rw [he, Nat.sub_self]
    exact ⟨rfl, hN1, hF⟩
theorem c_advanceM {h : MH} {i : Nat} : CT x sX2_advance [.ref i, .int (-1)] h (pI fun r h' => h' = h) xNo := by
  (refine CT_of (o := 2) rfl (by decide) (by simp [Value.category, sX2_advance]) (MW_ev kX2_advance 300 ?_); show evS _ _ _ _ _ _ 300 0 (0, 0) [.ref i, .int (-1), .null, .null] [] _; simp only [st_iconst, st_lconst, st_ldc2_w, st_ldc, st_iload, st_lload, st_aload, st_istore, st_astore, st_lstore, st_iinc, st_iadd, st_isub, st_imul, st_idiv, st_irem, st_iand, st_ior, st_ishl, st_ishr, st_iushr, st_ladd, st_lmul, st_lshl, st_lushr, st_lcmp, st_i2l, st_l2i, st_i2b, st_i2c, st_i2d, st_i2f, st_dconst, st_fconst, st_ddiv, st_fdiv, st_dup, st_dup2, st_pop, st_goto, st_if_icmp, st_ifCond, st_tableswitch, st_lookupswitch, st_iaload, st_baload, st_laload, st_aaload, st_iastore, st_bastore, st_lastore, st_aastore, st_saload, st_faload, st_jsr, st_getstatic, st_frem, st_drem, st_monitorexit, st_monitorenter, st_invokeinterface, st_newarray, st_anewarray, st_multianewarray, asI_c, asJ_c, asR_c, asD_c, asF_c, popI_c, popJ_c, popR_c, popD_c, popF_c, pop1_c, okSt_0, okSt_S, rcv_0, rcv_1, rcv_2, rcv_3, rcv_4, rcv_5, rcv_8, pI_c, pJ_c, pR_c, pV_c, pD_c, pF_c, cmp_eq, cmp_ne, cmp_lt, cmp_ge, cmp_gt, cmp_le, nth_0, nth_S, set_0, set_S, cat_int, cat_ref, cat_long, cat_double, cat_float, cat_null, catS_0, catS_S, swT_0, swT_S, swL_0, swL_S, Nat.add_zero, Nat.reduceAdd, Nat.reduceSub, Nat.reduceLT, Nat.reduceLeDiff, true_and, and_true, eq_self, eX2_advance_0, fX2_advance_0, cI_0, eX2_advance_1, eX2_advance_2, fX2_advance_2, eX2_advance_3, eX2_advance_4, tn_30, eX2_advance_7, eX2_advance_8, iv2_61, c_X2_nextToFire, eX2_advance_11, eX2_advance_12, eX2_advance_13, cI_m1, eX2_advance_14, tn_19, eX2_advance_17, eX2_advance_18, eX2_advance_19, eX2_advance_20, eX2_advance_21, iv2_65, c_X2_fireOnce, eX2_advance_24, cI_1, eX2_advance_27, tn_2, eX2_advance_30, eX2_advance_31, d_X2_advance, re_X2_advance])
  (refine MW_ev kX2_advance 300 ?_; simp only [st_iconst, st_lconst, st_ldc2_w, st_ldc, st_iload, st_lload, st_aload, st_istore, st_astore, st_lstore, st_iinc, st_iadd, st_isub, st_imul, st_idiv, st_irem, st_iand, st_ior, st_ishl, st_ishr, st_iushr, st_ladd, st_lmul, st_lshl, st_lushr, st_lcmp, st_i2l, st_l2i, st_i2b, st_i2c, st_i2d, st_i2f, st_dconst, st_fconst, st_ddiv, st_fdiv, st_dup, st_dup2, st_pop, st_goto, st_if_icmp, st_ifCond, st_tableswitch, st_lookupswitch, st_iaload, st_baload, st_laload, st_aaload, st_iastore, st_bastore, st_lastore, st_aastore, st_saload, st_faload, st_jsr, st_getstatic, st_frem, st_drem, st_monitorexit, st_monitorenter, st_invokeinterface, st_newarray, st_anewarray, st_multianewarray, asI_c, asJ_c, asR_c, asD_c, asF_c, popI_c, popJ_c, popR_c, popD_c, popF_c, pop1_c, okSt_0, okSt_S, rcv_0, rcv_1, rcv_2, rcv_3, rcv_4, rcv_5, rcv_8, pI_c, pJ_c, pR_c, pV_c, pD_c, pF_c, cmp_eq, cmp_ne, cmp_lt, cmp_ge, cmp_gt, cmp_le, nth_0, nth_S, set_0, set_S, cat_int, cat_ref, cat_long, cat_double, cat_float, cat_null, catS_0, catS_S, swT_0, swT_S, swL_0, swL_S, Nat.add_zero, Nat.reduceAdd, Nat.reduceSub, Nat.reduceLT, Nat.reduceLeDiff, true_and, and_true, eq_self, eX2_advance_0, fX2_advance_0, cI_0, eX2_advance_1, eX2_advance_2, fX2_advance_2, eX2_advance_3, eX2_advance_4, tn_30, eX2_advance_7, eX2_advance_8, iv2_61, c_X2_nextToFire, eX2_advance_11, eX2_advance_12, eX2_advance_13, cI_m1, eX2_advance_14, tn_19, eX2_advance_17, eX2_advance_18, eX2_advance_19, eX2_advance_20, eX2_advance_21, iv2_65, c_X2_fireOnce, eX2_advance_24, cI_1, eX2_advance_27, tn_2, eX2_advance_30, eX2_advance_31, d_X2_advance, re_X2_advance])
  simp (disch := omega) only [nI_mul, nI_add, nI_clamp, nI_inE, nI_leE, nI_ltE, nI_eqE, nI_eqz, nI_ltz, nI_gez, nI_lez, nI_gtz, nI_m1, nI_m1', nI_ltm, nI_00, nI_01, nI_10, nI_11, bI_z, bI_1, bI_0, bI_b, bI_nz, bit_e, true_and, and_true, ne_eq, not_false_eq_true, not_true_eq_false, false_and, and_false, true_or, or_true, false_or, or_false, Classical.not_not, forall_const, true_implies, implies_true, false_implies, eq_self]
  trace_state
  sorry
end NET
