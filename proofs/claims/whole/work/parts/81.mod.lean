section MOD
variable {x : CX}
/-- what a script changes before its end -/
def SK (j : Nat) : Nat → Nat → Prop := fun a k => (a = j ∧ 17 ≤ k ∧ k ≤ 22) ∨ a = j + 1
/-- the model within a script; h0 where it began -/
def CS (h0 h : MH) (j : Nat) (U : Nat → Int32) (n : Nat) (c : CR) : Prop := TX h j U n ∧ FI h0 h (SK j) ∧ (mI h j 21 = nI c.1 ∧ c.1 < 4) ∧ (∃ w np nt, MN h j w ∧ NB w np nt ∧ (c.1 = 0 → w = c.2.2.1)) ∧ (c.1 = 0 → mI h j 22 = -1 ∧ MTk h j U n c.2.2.2) ∧ (¬ c.1 = 0 → mI h j 22 = nI c.2.1)
/-- what reading changes -/
def SS (j : Nat) : Nat → Nat → Prop := fun a k => a = j ∧ 17 ≤ k ∧ k ≤ 22
theorem SS_Q {h h' : MH} {j : Nat} (hF : FI h h' (SS j)) : FI h h' (SK j) := FI_mono hF fun a k hk => Or.inl hk
theorem CS_MN {h0 h h' : MH} {j n : Nat} {U : Nat → Int32} {c : CR} (hC : CS h0 h j U n c) (hF : FI h h' (SS j)) : ∃ w np nt, MN h' j w ∧ NB w np nt ∧ (c.1 = 0 → w = c.2.2.1) := by
  obtain ⟨w, np, nt, h1, h2, h3⟩ := hC.2.2.2.1
  exact ⟨w, np, nt, MN_fi h1 hF fun k hk => by unfold SS at hk; omega, h2, h3⟩
theorem CS_TX {h0 h h' : MH} {j n : Nat} {U : Nat → Int32} {c : CR} (hC : CS h0 h j U n c) (hF : FI h h' (SS j)) : TX h' j U n := TX_fi hC.1 hF fun a k hk => by unfold SS at hk; omega
/-- failed alike -/
theorem CS_bad {h0 h : MH} {j n : Nat} {U : Nat → Int32} {c d : CR} (hC : CS h0 h j U n c) (hc : ¬ c.1 = 0) (h1 : d.1 = c.1) (h2 : d.2.1 = c.2.1) : CS h0 h j U n d := by
  obtain ⟨q1, q2, q3, ⟨w, np, nt, a, b, -⟩, q5, q6⟩ := hC
  have hd : ¬ d.1 = 0 := by rw [h1]; exact hc
  exact ⟨q1, q2, by rw [h1]; exact q3, ⟨w, np, nt, a, b, fun z => absurd z hd⟩, fun z => absurd z hd, fun _ => by rw [h2]; exact q6 hc⟩
theorem m_good {h0 h : MH} {j n : Nat} {U : Nat → Int32} {c : CR} (hC : CS h0 h j U n c) : CT x sX5_good [.ref j] h (pI fun r h' => r = bI (c.1 = 0) ∧ h' = h) xNo := by
  have a0 := hC.1.1.1
  have i21 := hC.2.2.1.1
  have hk := hC.2.2.1.2
  (refine CT_of (o := 5) rfl (by decide) (by simp [Value.category, sX5_good]) (MW_ev kX5_good 300 ?_); show evS _ _ _ _ _ _ 300 0 (0, 0) [.ref j] [] _; simp only [st_iconst, st_lconst, st_ldc2_w, st_ldc, st_iload, st_lload, st_aload, st_istore, st_astore, st_lstore, st_iinc, st_iadd, st_isub, st_imul, st_idiv, st_irem, st_iand, st_ior, st_ishl, st_ishr, st_iushr, st_ladd, st_lmul, st_lshl, st_lushr, st_lcmp, st_i2l, st_l2i, st_i2b, st_i2c, st_i2d, st_i2f, st_dconst, st_fconst, st_ddiv, st_fdiv, st_dup, st_dup2, st_pop, st_goto, st_if_icmp, st_ifCond, st_tableswitch, st_lookupswitch, st_iaload, st_baload, st_laload, st_aaload, st_iastore, st_bastore, st_lastore, st_aastore, st_saload, st_faload, st_jsr, st_getstatic, st_frem, st_drem, st_monitorexit, st_monitorenter, st_invokeinterface, st_newarray, st_anewarray, st_multianewarray, asI_c, asJ_c, asR_c, asD_c, asF_c, popI_c, popJ_c, popR_c, popD_c, popF_c, pop1_c, okSt_0, okSt_S, rcv_0, rcv_1, rcv_2, rcv_3, rcv_4, rcv_5, rcv_8, pI_c, pJ_c, pR_c, pV_c, pD_c, pF_c, cmp_eq, cmp_ne, cmp_lt, cmp_ge, cmp_gt, cmp_le, nth_0, nth_S, set_0, set_S, cat_int, cat_ref, cat_long, cat_double, cat_float, cat_null, catS_0, catS_S, swT_0, swT_S, swL_0, swL_S, Nat.add_zero, Nat.reduceAdd, Nat.reduceSub, Nat.reduceLT, Nat.reduceLeDiff, true_and, and_true, eq_self, eX5_good_0, fX5_good_0, eX5_good_1, gf5_192, eX5_good_4, tn_11, eX5_good_7, cI_1, eX5_good_8, tn_12, eX5_good_11, cI_0, eX5_good_12, d_X5_good, re_X5_good])
  simp (disch := omega) only [nI_mul, nI_add, nI_clamp, nI_inE, nI_leE, nI_ltE, nI_eqE, nI_eqz, nI_ltz, nI_gez, nI_lez, nI_gtz, nI_m1, nI_m1', nI_ltm, nI_gem, nI_gtm, nI_lem, nI_00, nI_01, nI_10, nI_11, bI_z, bI_1, bI_0, bI_b, bI_nz, bit_e, arK_i, arK_b, arK_j, true_and, and_true, ne_eq, not_false_eq_true, not_true_eq_false, false_and, and_false, true_or, or_true, false_or, or_false, Classical.not_not, forall_const, true_implies, implies_true, false_implies, eq_self, n1z, a0, i21]
  exact ⟨fun g => g, fun g => g⟩
/-- a fault at the token -/
noncomputable def fS (k : Nat) (c : CR) : CR := iteC (c.1 = 0) (k, c.2.2.2.2.1, c.2.2.1, c.2.2.2) c
theorem m_fail {h0 h : MH} {j n k : Nat} {U : Nat → Int32} {c : CR} (hC : CS h0 h j U n c) (h1 : 1 ≤ k) (h2 : k < 4) : CT x sX5_fail [.ref j, .int (nI k)] h (pV fun h' => CS h0 h' j U n (fS k c)) xNo := by
  have a0 := hC.1.1.1
  have i21 := hC.2.2.1.1
  have hk := hC.2.2.1.2
  (refine CT_of (o := 5) rfl (by decide) (by simp [Value.category, sX5_fail]) (MW_ev kX5_fail 300 ?_); show evS _ _ _ _ _ _ 300 0 (0, 0) [.ref j, .int (nI k)] [] _; simp only [st_iconst, st_lconst, st_ldc2_w, st_ldc, st_iload, st_lload, st_aload, st_istore, st_astore, st_lstore, st_iinc, st_iadd, st_isub, st_imul, st_idiv, st_irem, st_iand, st_ior, st_ishl, st_ishr, st_iushr, st_ladd, st_lmul, st_lshl, st_lushr, st_lcmp, st_i2l, st_l2i, st_i2b, st_i2c, st_i2d, st_i2f, st_dconst, st_fconst, st_ddiv, st_fdiv, st_dup, st_dup2, st_pop, st_goto, st_if_icmp, st_ifCond, st_tableswitch, st_lookupswitch, st_iaload, st_baload, st_laload, st_aaload, st_iastore, st_bastore, st_lastore, st_aastore, st_saload, st_faload, st_jsr, st_getstatic, st_frem, st_drem, st_monitorexit, st_monitorenter, st_invokeinterface, st_newarray, st_anewarray, st_multianewarray, asI_c, asJ_c, asR_c, asD_c, asF_c, popI_c, popJ_c, popR_c, popD_c, popF_c, pop1_c, okSt_0, okSt_S, rcv_0, rcv_1, rcv_2, rcv_3, rcv_4, rcv_5, rcv_8, pI_c, pJ_c, pR_c, pV_c, pD_c, pF_c, cmp_eq, cmp_ne, cmp_lt, cmp_ge, cmp_gt, cmp_le, nth_0, nth_S, set_0, set_S, cat_int, cat_ref, cat_long, cat_double, cat_float, cat_null, catS_0, catS_S, swT_0, swT_S, swL_0, swL_S, Nat.add_zero, Nat.reduceAdd, Nat.reduceSub, Nat.reduceLT, Nat.reduceLeDiff, true_and, and_true, eq_self, eX5_fail_0, fX5_fail_0, eX5_fail_1, gf5_192, eX5_fail_4, tn_20, eX5_fail_7, eX5_fail_8, eX5_fail_9, pf5_192, eX5_fail_12, eX5_fail_13, eX5_fail_14, gf5_177, eX5_fail_17, pf5_204, eX5_fail_20, d_X5_fail, re_X5_fail])
  simp (disch := omega) only [nI_mul, nI_add, nI_clamp, nI_inE, nI_leE, nI_ltE, nI_eqE, nI_eqz, nI_ltz, nI_gez, nI_lez, nI_gtz, nI_m1, nI_m1', nI_ltm, nI_gem, nI_gtm, nI_lem, nI_00, nI_01, nI_10, nI_11, bI_z, bI_1, bI_0, bI_b, bI_nz, bit_e, arK_i, arK_b, arK_j, true_and, and_true, ne_eq, not_false_eq_true, not_true_eq_false, false_and, and_false, true_or, or_true, false_or, or_false, Classical.not_not, forall_const, true_implies, implies_true, false_implies, eq_self, sI_K, sI_L, sI_P, sI_J, sI_Z, sI_Ie, sR_K, sR_L, sR_P, sR_J, sR_Z, sR_Ie, sP_K, sP_L, sP_I, sP_J, sP_Z, sP_Pe, sJ_K, sJ_L, sJ_P, sJ_I, sJ_Z, sJ_Je, n1z, a0, i21]
  refine And.symm ⟨fun g => ?_, fun g => ?_⟩
  · rw [show fS k c = _ from iteC_t g]
    obtain ⟨m18, -⟩ := (hC.2.2.2.2.1 g).2
    simp (disch := omega) only [nI_mul, nI_add, nI_clamp, nI_inE, nI_leE, nI_ltE, nI_eqE, nI_eqz, nI_ltz, nI_gez, nI_lez, nI_gtz, nI_m1, nI_m1', nI_ltm, nI_gem, nI_gtm, nI_lem, nI_00, nI_01, nI_10, nI_11, bI_z, bI_1, bI_0, bI_b, bI_nz, bit_e, arK_i, arK_b, arK_j, true_and, and_true, ne_eq, not_false_eq_true, not_true_eq_false, false_and, and_false, true_or, or_true, false_or, or_false, Classical.not_not, forall_const, true_implies, implies_true, false_implies, eq_self, sI_K, sI_L, sI_P, sI_J, sI_Z, sI_Ie, sR_K, sR_L, sR_P, sR_J, sR_Z, sR_Ie, sP_K, sP_L, sP_I, sP_J, sP_Z, sP_Pe, sJ_K, sJ_L, sJ_P, sJ_I, sJ_Z, sJ_Je, n1z, a0, m18, sI_Ik]
    have hF : FI h (sI (sI h j 21 (nI k)) j 22 (nI c.2.2.2.2.1)) (SS j) := FI_tr (FI_sI ⟨rfl, by decide, by decide⟩) (FI_sI ⟨rfl, by decide, by decide⟩)
    obtain ⟨w, np, nt, e1, e2, e3⟩ := CS_MN hC hF
    have hk0 : ¬ k = 0 := by omega
    exact ⟨CS_TX hC hF, FI_tr hC.2.1 (SS_Q hF), ⟨(sI_Ik (by decide)).trans sI_Ie, h2⟩, ⟨w, np, nt, e1, e2, fun z => absurd z hk0⟩, fun z => absurd z hk0, fun _ => sI_Ie⟩
  · rw [show fS k c = c from iteC_f g]
    exact hC
/-- the next token, if nothing failed -/
noncomputable def adS (U : Nat → Int32) (n : Nat) (c : CR) : CR := iteC (c.1 = 0) (0, 0, c.2.2.1, tokS U n c.2.2.2.2.2) c
theorem m_advance {h0 h : MH} {j n : Nat} {U : Nat → Int32} {c : CR} (hC : CS h0 h j U n c) : CT x sX5_advance [.ref j] h (pV fun h' => CS h0 h' j U n (adS U n c)) xNo := by
  have a0 := hC.1.1.1
  (refine CT_of (o := 5) rfl (by decide) (by simp [Value.category, sX5_advance]) (MW_ev kX5_advance 300 ?_); show evS _ _ _ _ _ _ 300 0 (0, 0) [.ref j] [] _; simp only [st_iconst, st_lconst, st_ldc2_w, st_ldc, st_iload, st_lload, st_aload, st_istore, st_astore, st_lstore, st_iinc, st_iadd, st_isub, st_imul, st_idiv, st_irem, st_iand, st_ior, st_ishl, st_ishr, st_iushr, st_ladd, st_lmul, st_lshl, st_lushr, st_lcmp, st_i2l, st_l2i, st_i2b, st_i2c, st_i2d, st_i2f, st_dconst, st_fconst, st_ddiv, st_fdiv, st_dup, st_dup2, st_pop, st_goto, st_if_icmp, st_ifCond, st_tableswitch, st_lookupswitch, st_iaload, st_baload, st_laload, st_aaload, st_iastore, st_bastore, st_lastore, st_aastore, st_saload, st_faload, st_jsr, st_getstatic, st_frem, st_drem, st_monitorexit, st_monitorenter, st_invokeinterface, st_newarray, st_anewarray, st_multianewarray, asI_c, asJ_c, asR_c, asD_c, asF_c, popI_c, popJ_c, popR_c, popD_c, popF_c, pop1_c, okSt_0, okSt_S, rcv_0, rcv_1, rcv_2, rcv_3, rcv_4, rcv_5, rcv_8, pI_c, pJ_c, pR_c, pV_c, pD_c, pF_c, cmp_eq, cmp_ne, cmp_lt, cmp_ge, cmp_gt, cmp_le, nth_0, nth_S, set_0, set_S, cat_int, cat_ref, cat_long, cat_double, cat_float, cat_null, catS_0, catS_S, swT_0, swT_S, swL_0, swL_S, Nat.add_zero, Nat.reduceAdd, Nat.reduceSub, Nat.reduceLT, Nat.reduceLeDiff, true_and, and_true, eq_self, eX5_advance_0, fX5_advance_0, eX5_advance_1, iv5_207, c_X5_good, eX5_advance_4, tn_11, eX5_advance_7, eX5_advance_8, iv5_211, c_X5_scan, eX5_advance_11, d_X5_advance, re_X5_advance])
  refine ⟨a0, CI_pure (m_good hC) ?_⟩
  simp (disch := omega) only [nI_mul, nI_add, nI_clamp, nI_inE, nI_leE, nI_ltE, nI_eqE, nI_eqz, nI_ltz, nI_gez, nI_lez, nI_gtz, nI_m1, nI_m1', nI_ltm, nI_gem, nI_gtm, nI_lem, nI_00, nI_01, nI_10, nI_11, bI_z, bI_1, bI_0, bI_b, bI_nz, bit_e, arK_i, arK_b, arK_j, true_and, and_true, ne_eq, not_false_eq_true, not_true_eq_false, false_and, and_false, true_or, or_true, false_or, or_false, Classical.not_not, forall_const, true_implies, implies_true, false_implies, eq_self, n1z, a0]
  refine ⟨fun g => ?_, fun g => ?_⟩
  · rw [show adS U n c = c from iteC_f g]; exact hC
  · rw [show adS U n c = _ from iteC_t g]
    obtain ⟨m18, m17, m19, mb, -⟩ := (hC.2.2.2.2.1 g).2
    refine CV_of (m_scan hC.1 mb.2.1 m17) (fun _ _ z => z.elim) fun h' ⟨t1, t2⟩ => ?_
    have hF : FI h h' (SS j) := FI_mono t2 fun a k hk => by unfold ST at hk; unfold SS; omega
    obtain ⟨w, np, nt, e1, e2, e3⟩ := CS_MN hC hF
    exact ⟨CS_TX hC hF, FI_tr hC.2.1 (SS_Q hF), ⟨(t2.2.2.2.2 j 21 (by unfold ST; omega)).trans (hC.2.2.1.1.trans (by rw [g])), show 0 < 4 by decide⟩, ⟨w, np, nt, e1, e2, fun _ => e3 g⟩, fun _ => ⟨(t2.2.2.2.2 j 22 (by unfold ST; omega)).trans (hC.2.2.2.2.1 g).1, t1⟩, fun z => absurd rfl z⟩
/-- a number's sign -/
noncomputable def nhS (U : Nat → Int32) (n : Nat) (lo hi : Int32) (c : CR) : CR := iteC (c.1 = 0) (iteC ((numS U n c.2.2.2 lo hi).1 = 0) c ((numS U n c.2.2.2 lo hi).1, (numS U n c.2.2.2 lo hi).2.1, c.2.2.1, c.2.2.2)) c
theorem kM_2 {k : Nat} (h : k < 5) : (kM k = 2) = (k = 2) := by
  unfold kM
  rcases k with _ | _ | _ | _ | _ | k <;> first | rfl | (simp; done) | omega
theorem m_numberHere {h0 h : MH} {j n : Nat} {U : Nat → Int32} {c : CR} {lo hi : Int32} (hC : CS h0 h j U n c) : CT x sX5_numberHere [.ref j, .int lo, .int hi] h (pI fun r h' => r = iteC ((nhS U n lo hi c).1 = 0) (numS U n c.2.2.2 lo hi).2.2.1 0 ∧ CS h0 h' j U n (nhS U n lo hi c)) xNo := by
  have a0 := hC.1.1.1
  (refine CT_of (o := 5) rfl (by decide) (by simp [Value.category, sX5_numberHere]) (MW_ev kX5_numberHere 300 ?_); show evS _ _ _ _ _ _ 300 0 (0, 0) [.ref j, .int lo, .int hi] [] _; simp only [st_iconst, st_lconst, st_ldc2_w, st_ldc, st_iload, st_lload, st_aload, st_istore, st_astore, st_lstore, st_iinc, st_iadd, st_isub, st_imul, st_idiv, st_irem, st_iand, st_ior, st_ishl, st_ishr, st_iushr, st_ladd, st_lmul, st_lshl, st_lushr, st_lcmp, st_i2l, st_l2i, st_i2b, st_i2c, st_i2d, st_i2f, st_dconst, st_fconst, st_ddiv, st_fdiv, st_dup, st_dup2, st_pop, st_goto, st_if_icmp, st_ifCond, st_tableswitch, st_lookupswitch, st_iaload, st_baload, st_laload, st_aaload, st_iastore, st_bastore, st_lastore, st_aastore, st_saload, st_faload, st_jsr, st_getstatic, st_frem, st_drem, st_monitorexit, st_monitorenter, st_invokeinterface, st_newarray, st_anewarray, st_multianewarray, asI_c, asJ_c, asR_c, asD_c, asF_c, popI_c, popJ_c, popR_c, popD_c, popF_c, pop1_c, okSt_0, okSt_S, rcv_0, rcv_1, rcv_2, rcv_3, rcv_4, rcv_5, rcv_8, pI_c, pJ_c, pR_c, pV_c, pD_c, pF_c, cmp_eq, cmp_ne, cmp_lt, cmp_ge, cmp_gt, cmp_le, nth_0, nth_S, set_0, set_S, cat_int, cat_ref, cat_long, cat_double, cat_float, cat_null, catS_0, catS_S, swT_0, swT_S, swL_0, swL_S, Nat.add_zero, Nat.reduceAdd, Nat.reduceSub, Nat.reduceLT, Nat.reduceLeDiff, true_and, and_true, eq_self, eX5_numberHere_0, fX5_numberHere_0, eX5_numberHere_1, gf5_180, eX5_numberHere_4, cI_2, eX5_numberHere_5, tn_16, eX5_numberHere_8, eX5_numberHere_9, cI_1, eX5_numberHere_10, iv5_214, c_X5_fail, eX5_numberHere_13, tn_37, eX5_numberHere_16, eX5_numberHere_17, gf5_189, eX5_numberHere_20, eX5_numberHere_21, tn_32, eX5_numberHere_24, eX5_numberHere_25, eX5_numberHere_28, eX5_numberHere_29, eX5_numberHere_32, eX5_numberHere_33, eX5_numberHere_34, eX5_numberHere_37, eX5_numberHere_38, iv5_207, c_X5_good, eX5_numberHere_41, tn_51, eX5_numberHere_44, eX5_numberHere_45, eX5_numberHere_48, tn_52, eX5_numberHere_51, cI_0, eX5_numberHere_52, d_X5_numberHere, re_X5_numberHere])
  have fin : ∀ h1, CS h0 h1 j U n (nhS U n lo hi c) → ((nhS U n lo hi c).1 = 0 → mI h1 j 20 = (numS U n c.2.2.2 lo hi).2.2.1) → CALLI x sX5_good [.ref j] h1 xNo fun r h' => (r = 0 → nI 0 = iteC ((nhS U n lo hi c).1 = 0) (numS U n c.2.2.2 lo hi).2.2.1 0 ∧ CS h0 h' j U n (nhS U n lo hi c)) ∧ (¬ r = 0 → mK h' j = 6 ∧ mI h' j 20 = iteC ((nhS U n lo hi c).1 = 0) (numS U n c.2.2.2 lo hi).2.2.1 0 ∧ CS h0 h' j U n (nhS U n lo hi c)) := fun h1 hC1 hv => by
    refine CI_pure (m_good hC1) ?_
    rw [bI_z]
    exact ⟨fun g => ⟨by rw [iteC_f g]; exact nI_0, hC1⟩, fun g => ⟨hC1.1.1.1, by rw [iteC_t (Classical.not_not.mp g), hv (Classical.not_not.mp g)], hC1⟩⟩
  have bad : ∀ k, 1 ≤ k → k < 4 → ¬ (nhS U n lo hi c).1 = 0 → fS k c = nhS U n lo hi c → CALLV x sX5_fail [.ref j, .int (nI k)] h xNo fun h' => mK h' j = 6 ∧ CALLI x sX5_good [.ref j] h' xNo fun r h' => (r = 0 → nI 0 = iteC ((nhS U n lo hi c).1 = 0) (numS U n c.2.2.2 lo hi).2.2.1 0 ∧ CS h0 h' j U n (nhS U n lo hi c)) ∧ (¬ r = 0 → mK h' j = 6 ∧ mI h' j 20 = iteC ((nhS U n lo hi c).1 = 0) (numS U n c.2.2.2 lo hi).2.2.1 0 ∧ CS h0 h' j U n (nhS U n lo hi c)) := fun k h1 h2 hn e =>
    CV_of (m_fail hC h1 h2) (fun _ _ z => z.elim) fun h' hC' => by rw [e] at hC'; exact ⟨hC'.1.1.1, fin h' hC' fun z => absurd z hn⟩
  simp (disch := omega) only [nI_mul, nI_add, nI_clamp, nI_inE, nI_leE, nI_ltE, nI_eqE, nI_eqz, nI_ltz, nI_gez, nI_lez, nI_gtz, nI_m1, nI_m1', nI_ltm, nI_gem, nI_gtm, nI_lem, nI_00, nI_01, nI_10, nI_11, bI_z, bI_1, bI_0, bI_b, bI_nz, bit_e, arK_i, arK_b, arK_j, true_and, and_true, ne_eq, not_false_eq_true, not_true_eq_false, false_and, and_false, true_or, or_true, false_or, or_false, Classical.not_not, forall_const, true_implies, implies_true, false_implies, eq_self, n1z, a0]
  by_cases g : c.1 = 0
  · obtain ⟨m18, m17, m19, mb, mv⟩ := (hC.2.2.2.2.1 g).2
    have e19 : (mI h j 19 = nI 2) = (c.2.2.2.1 = 2) := by rw [m19, ← kM_2 mb.2.2]; unfold kM; (repeat' split) <;> decide
    have hf : ∀ k, fS k c = _ := fun k => iteC_t (a := (k, c.2.2.2.2.1, c.2.2.1, c.2.2.2)) g
    rw [e19]
    refine ⟨fun g2 => ?_, fun g2 => ?_⟩
    · rw [mv g2]
      have hN : ∀ q, numS U n c.2.2.2 lo hi = q → nhS U n lo hi c = iteC (q.1 = 0) c (q.1, q.2.1, c.2.2.1, c.2.2.2) := fun q e => by rw [← e]; exact iteC_t g
      have out : (valS U c.2.2.2.2.1 (c.2.2.2.2.2 - c.2.2.2.2.1) < lo ∨ hi < valS U c.2.2.2.2.1 (c.2.2.2.2.2 - c.2.2.2.2.1)) → fS 2 c = nhS U n lo hi c ∧ ¬ (nhS U n lo hi c).1 = 0 := fun z => by
        rw [hN _ ((iteC_t g2).trans (iteC_t z)), iteC_f (show ¬ (2 : Nat) = 0 by decide), hf]
        exact ⟨rfl, show ¬ (2 : Nat) = 0 by decide⟩
      refine ⟨fun g3 => bad 2 (by decide) (by decide) (out (Or.inl g3)).2 (out (Or.inl g3)).1, fun g3 => ⟨fun g4 => ?_, fun g4 => bad 2 (by decide) (by decide) (out (Or.inr (Int32.not_le.mp g4))).2 (out (Or.inr (Int32.not_le.mp g4))).1⟩⟩
      have eN : numS U n c.2.2.2 lo hi = _ := (iteC_t g2).trans (iteC_f fun z => z.elim g3 (Int32.not_lt.mpr g4))
      have e : nhS U n lo hi c = c := by rw [hN _ eN]; exact iteC_t rfl
      exact fin h (by rw [e]; exact hC) fun _ => by rw [eN]; exact mv g2
    · have e : nhS U n lo hi c = fS 1 c := by rw [hf, show nhS U n lo hi c = _ from iteC_t g, show numS U n c.2.2.2 lo hi = _ from iteC_f g2, iteC_f (show ¬ (1 : Nat) = 0 by decide)]
      exact bad 1 (by decide) (by decide) (by rw [e, hf]; exact show ¬ (1 : Nat) = 0 by decide) e.symm
  · have e : nhS U n lo hi c = c := iteC_f g
    have hf : ∀ k, fS k c = nhS U n lo hi c := fun k => (show fS k c = c from iteC_f g).trans e.symm
    have gn : ¬ (nhS U n lo hi c).1 = 0 := by rw [e]; exact g
    have none := fin h (by rw [e]; exact hC) fun z => absurd z gn
    have f1 := bad 1 (by decide) (by decide) gn (hf 1)
    have f2 := bad 2 (by decide) (by decide) gn (hf 2)
    exact ⟨fun _ => ⟨fun _ => f2, fun _ => ⟨fun _ => none, fun _ => f2⟩⟩, fun _ => f1⟩
/-- a number -/
noncomputable def noS (U : Nat → Int32) (n : Nat) (lo hi : Int32) (c : CR) : CR := adS U n (nhS U n lo hi c)
theorem m_number {h0 h : MH} {j n : Nat} {U : Nat → Int32} {c : CR} {lo hi : Int32} (hC : CS h0 h j U n c) : CT x sX5_number [.ref j, .int lo, .int hi] h (pI fun r h' => r = iteC ((noS U n lo hi c).1 = 0) (numS U n c.2.2.2 lo hi).2.2.1 0 ∧ CS h0 h' j U n (noS U n lo hi c)) xNo := by
  have a0 := hC.1.1.1
  have e1 : (adS U n (nhS U n lo hi c)).1 = (nhS U n lo hi c).1 := by
    by_cases g : (nhS U n lo hi c).1 = 0
    · rw [g]; unfold adS; rw [iteC_t g]
    · rw [show adS U n (nhS U n lo hi c) = _ from iteC_f g]
  (refine CT_of (o := 5) rfl (by decide) (by simp [Value.category, sX5_number]) (MW_ev kX5_number 300 ?_); show evS _ _ _ _ _ _ 300 0 (0, 0) [.ref j, .int lo, .int hi, .null] [] _; simp only [st_iconst, st_lconst, st_ldc2_w, st_ldc, st_iload, st_lload, st_aload, st_istore, st_astore, st_lstore, st_iinc, st_iadd, st_isub, st_imul, st_idiv, st_irem, st_iand, st_ior, st_ishl, st_ishr, st_iushr, st_ladd, st_lmul, st_lshl, st_lushr, st_lcmp, st_i2l, st_l2i, st_i2b, st_i2c, st_i2d, st_i2f, st_dconst, st_fconst, st_ddiv, st_fdiv, st_dup, st_dup2, st_pop, st_goto, st_if_icmp, st_ifCond, st_tableswitch, st_lookupswitch, st_iaload, st_baload, st_laload, st_aaload, st_iastore, st_bastore, st_lastore, st_aastore, st_saload, st_faload, st_jsr, st_getstatic, st_frem, st_drem, st_monitorexit, st_monitorenter, st_invokeinterface, st_newarray, st_anewarray, st_multianewarray, asI_c, asJ_c, asR_c, asD_c, asF_c, popI_c, popJ_c, popR_c, popD_c, popF_c, pop1_c, okSt_0, okSt_S, rcv_0, rcv_1, rcv_2, rcv_3, rcv_4, rcv_5, rcv_8, pI_c, pJ_c, pR_c, pV_c, pD_c, pF_c, cmp_eq, cmp_ne, cmp_lt, cmp_ge, cmp_gt, cmp_le, nth_0, nth_S, set_0, set_S, cat_int, cat_ref, cat_long, cat_double, cat_float, cat_null, catS_0, catS_S, swT_0, swT_S, swL_0, swL_S, Nat.add_zero, Nat.reduceAdd, Nat.reduceSub, Nat.reduceLT, Nat.reduceLeDiff, true_and, and_true, eq_self, eX5_number_0, fX5_number_0, eX5_number_1, eX5_number_2, eX5_number_3, iv5_217, c_X5_numberHere, eX5_number_6, eX5_number_7, eX5_number_8, iv5_220, c_X5_advance, eX5_number_11, eX5_number_12, iv5_207, c_X5_good, eX5_number_15, tn_22, eX5_number_18, eX5_number_19, tn_23, eX5_number_22, cI_0, eX5_number_23, d_X5_number, re_X5_number])
  refine ⟨a0, CI_of (m_numberHere hC) (fun _ _ z => z.elim) fun r h1 ⟨er, hC1⟩ => ?_⟩
  subst er
  refine ⟨hC1.1.1.1, CV_of (m_advance hC1) (fun _ _ z => z.elim) fun h2 hC2 => ⟨hC2.1.1.1, CI_pure (m_good hC2) ?_⟩⟩
  rw [bI_z]
  unfold noS
  rw [e1] at *
  exact ⟨fun g => ⟨by rw [iteC_f g]; exact nI_0, hC2⟩, fun g => ⟨rfl, hC2⟩⟩
theorem noS_bad {U : Nat → Int32} {n : Nat} {lo hi : Int32} {c : CR} (g : ¬ c.1 = 0) : noS U n lo hi c = c := by
  unfold noS
  rw [show nhS U n lo hi c = c from iteC_f g]
  exact iteC_f g
theorem noS_ok {U : Nat → Int32} {n : Nat} {lo hi : Int32} {c : CR} (g : c.1 = 0) : noS U n lo hi c = ((numS U n c.2.2.2 lo hi).1, (numS U n c.2.2.2 lo hi).2.1, c.2.2.1, (numS U n c.2.2.2 lo hi).2.2.2) := by
  unfold noS
  rw [show nhS U n lo hi c = _ from iteC_t g]
  by_cases g1 : c.2.2.2.1 = 2
  · by_cases g2 : valS U c.2.2.2.2.1 (c.2.2.2.2.2 - c.2.2.2.2.1) < lo ∨ hi < valS U c.2.2.2.2.1 (c.2.2.2.2.2 - c.2.2.2.2.1)
    · rw [show numS U n c.2.2.2 lo hi = _ from (iteC_t g1).trans (iteC_t g2), iteC_f (show ¬ (2 : Nat) = 0 by decide)]
      exact iteC_f (show ¬ (2 : Nat) = 0 by decide)
    · rw [show numS U n c.2.2.2 lo hi = _ from (iteC_t g1).trans (iteC_f g2), iteC_t (show (0 : Nat) = 0 from rfl)]
      exact iteC_t g
  · rw [show numS U n c.2.2.2 lo hi = _ from iteC_f g1, iteC_f (show ¬ (1 : Nat) = 0 by decide)]
    exact iteC_f (show ¬ (1 : Nat) = 0 by decide)
theorem m_aPlace {h0 h : MH} {j n : Nat} {U : Nat → Int32} {c : CR} (hC : CS h0 h j U n c) : CT x sX5_aPlace [.ref j] h (pI fun r h' => r = iteC ((noS U n (nI 0) (c.2.2.1 0 - nI 1) c).1 = 0) (numS U n c.2.2.2 (nI 0) (c.2.2.1 0 - nI 1)).2.2.1 0 ∧ CS h0 h' j U n (noS U n (nI 0) (c.2.2.1 0 - nI 1) c)) xNo := by
  obtain ⟨w, np, nt, hN, hB, hw⟩ := hC.2.2.2.1
  obtain ⟨a0, p1, k1, l1⟩ := MB_w hN.1
  have n0 : mI h (j + 1) 0 = w 0 := hN.2 0 ⟨by decide, Or.inl (by omega)⟩
  (refine CT_of (o := 5) rfl (by decide) (by simp [Value.category, sX5_aPlace]) (MW_ev kX5_aPlace 300 ?_); show evS _ _ _ _ _ _ 300 0 (0, 0) [.ref j] [] _; simp only [st_iconst, st_lconst, st_ldc2_w, st_ldc, st_iload, st_lload, st_aload, st_istore, st_astore, st_lstore, st_iinc, st_iadd, st_isub, st_imul, st_idiv, st_irem, st_iand, st_ior, st_ishl, st_ishr, st_iushr, st_ladd, st_lmul, st_lshl, st_lushr, st_lcmp, st_i2l, st_l2i, st_i2b, st_i2c, st_i2d, st_i2f, st_dconst, st_fconst, st_ddiv, st_fdiv, st_dup, st_dup2, st_pop, st_goto, st_if_icmp, st_ifCond, st_tableswitch, st_lookupswitch, st_iaload, st_baload, st_laload, st_aaload, st_iastore, st_bastore, st_lastore, st_aastore, st_saload, st_faload, st_jsr, st_getstatic, st_frem, st_drem, st_monitorexit, st_monitorenter, st_invokeinterface, st_newarray, st_anewarray, st_multianewarray, asI_c, asJ_c, asR_c, asD_c, asF_c, popI_c, popJ_c, popR_c, popD_c, popF_c, pop1_c, okSt_0, okSt_S, rcv_0, rcv_1, rcv_2, rcv_3, rcv_4, rcv_5, rcv_8, pI_c, pJ_c, pR_c, pV_c, pD_c, pF_c, cmp_eq, cmp_ne, cmp_lt, cmp_ge, cmp_gt, cmp_le, nth_0, nth_S, set_0, set_S, cat_int, cat_ref, cat_long, cat_double, cat_float, cat_null, catS_0, catS_S, swT_0, swT_S, swL_0, swL_S, Nat.add_zero, Nat.reduceAdd, Nat.reduceSub, Nat.reduceLT, Nat.reduceLeDiff, true_and, and_true, eq_self, eX5_aPlace_0, fX5_aPlace_0, eX5_aPlace_1, cI_0, eX5_aPlace_2, eX5_aPlace_3, gf5_9, eX5_aPlace_6, eX5_aPlace_7, eX5_aPlace_8, cI_1, eX5_aPlace_9, eX5_aPlace_10, iv5_223, c_X5_number, eX5_aPlace_13, d_X5_aPlace, re_X5_aPlace])
  simp (disch := omega) only [nI_mul, nI_add, nI_clamp, nI_inE, nI_leE, nI_ltE, nI_eqE, nI_eqz, nI_ltz, nI_gez, nI_lez, nI_gtz, nI_m1, nI_m1', nI_ltm, nI_gem, nI_gtm, nI_lem, nI_00, nI_01, nI_10, nI_11, bI_z, bI_1, bI_0, bI_b, bI_nz, bit_e, arK_i, arK_b, arK_j, true_and, and_true, ne_eq, not_false_eq_true, not_true_eq_false, false_and, and_false, true_or, or_true, false_or, or_false, Classical.not_not, forall_const, true_implies, implies_true, false_implies, eq_self, n1z, a0, p1, k1, l1, n0]
  refine ⟨Nat.succ_ne_zero _, CI_of (m_number hC) (fun _ _ z => z.elim) fun r h' ⟨er, hC'⟩ => ?_⟩
  by_cases g : c.1 = 0
  · rw [← hw g]; exact ⟨er, hC'⟩
  · rw [noS_bad g] at er hC' ⊢
    rw [iteC_f g] at er ⊢
    exact ⟨er, hC'⟩
theorem m_aTransition {h0 h : MH} {j n : Nat} {U : Nat → Int32} {c : CR} (hC : CS h0 h j U n c) : CT x sX5_aTransition [.ref j] h (pI fun r h' => r = iteC ((noS U n (nI 0) (c.2.2.1 1 - nI 1) c).1 = 0) (numS U n c.2.2.2 (nI 0) (c.2.2.1 1 - nI 1)).2.2.1 0 ∧ CS h0 h' j U n (noS U n (nI 0) (c.2.2.1 1 - nI 1) c)) xNo := by
  obtain ⟨w, np, nt, hN, hB, hw⟩ := hC.2.2.2.1
  obtain ⟨a0, p1, k1, l1⟩ := MB_w hN.1
  have n0 : mI h (j + 1) 1 = w 1 := hN.2 1 ⟨by decide, Or.inl (by omega)⟩
  (refine CT_of (o := 5) rfl (by decide) (by simp [Value.category, sX5_aTransition]) (MW_ev kX5_aTransition 300 ?_); show evS _ _ _ _ _ _ 300 0 (0, 0) [.ref j] [] _; simp only [st_iconst, st_lconst, st_ldc2_w, st_ldc, st_iload, st_lload, st_aload, st_istore, st_astore, st_lstore, st_iinc, st_iadd, st_isub, st_imul, st_idiv, st_irem, st_iand, st_ior, st_ishl, st_ishr, st_iushr, st_ladd, st_lmul, st_lshl, st_lushr, st_lcmp, st_i2l, st_l2i, st_i2b, st_i2c, st_i2d, st_i2f, st_dconst, st_fconst, st_ddiv, st_fdiv, st_dup, st_dup2, st_pop, st_goto, st_if_icmp, st_ifCond, st_tableswitch, st_lookupswitch, st_iaload, st_baload, st_laload, st_aaload, st_iastore, st_bastore, st_lastore, st_aastore, st_saload, st_faload, st_jsr, st_getstatic, st_frem, st_drem, st_monitorexit, st_monitorenter, st_invokeinterface, st_newarray, st_anewarray, st_multianewarray, asI_c, asJ_c, asR_c, asD_c, asF_c, popI_c, popJ_c, popR_c, popD_c, popF_c, pop1_c, okSt_0, okSt_S, rcv_0, rcv_1, rcv_2, rcv_3, rcv_4, rcv_5, rcv_8, pI_c, pJ_c, pR_c, pV_c, pD_c, pF_c, cmp_eq, cmp_ne, cmp_lt, cmp_ge, cmp_gt, cmp_le, nth_0, nth_S, set_0, set_S, cat_int, cat_ref, cat_long, cat_double, cat_float, cat_null, catS_0, catS_S, swT_0, swT_S, swL_0, swL_S, Nat.add_zero, Nat.reduceAdd, Nat.reduceSub, Nat.reduceLT, Nat.reduceLeDiff, true_and, and_true, eq_self, eX5_aTransition_0, fX5_aTransition_0, eX5_aTransition_1, cI_0, eX5_aTransition_2, eX5_aTransition_3, gf5_9, eX5_aTransition_6, cI_1, eX5_aTransition_7, eX5_aTransition_8, eX5_aTransition_9, eX5_aTransition_10, iv5_223, c_X5_number, eX5_aTransition_13, d_X5_aTransition, re_X5_aTransition])
  simp (disch := omega) only [nI_mul, nI_add, nI_clamp, nI_inE, nI_leE, nI_ltE, nI_eqE, nI_eqz, nI_ltz, nI_gez, nI_lez, nI_gtz, nI_m1, nI_m1', nI_ltm, nI_gem, nI_gtm, nI_lem, nI_00, nI_01, nI_10, nI_11, bI_z, bI_1, bI_0, bI_b, bI_nz, bit_e, arK_i, arK_b, arK_j, true_and, and_true, ne_eq, not_false_eq_true, not_true_eq_false, false_and, and_false, true_or, or_true, false_or, or_false, Classical.not_not, forall_const, true_implies, implies_true, false_implies, eq_self, n1z, a0, p1, k1, l1, n0]
  refine ⟨Nat.succ_ne_zero _, CI_of (m_number hC) (fun _ _ z => z.elim) fun r h' ⟨er, hC'⟩ => ?_⟩
  by_cases g : c.1 = 0
  · rw [← hw g]; exact ⟨er, hC'⟩
  · rw [noS_bad g] at er hC' ⊢
    rw [iteC_f g] at er ⊢
    exact ⟨er, hC'⟩
/-- a semicolon must stand here -/
noncomputable def enS (c : CR) : CR := iteC (c.1 = 0) (iteC (c.2.2.2.1 = 3) c (fS 1 c)) c
theorem kM_1 {k : Nat} (h : k < 5) : (nI (kM k) = nI 1) = (k = 3) := by
  unfold kM
  rcases k with _ | _ | _ | _ | _ | k
  all_goals first | (exact propext ⟨fun z => absurd z (by decide), fun z => absurd z (by decide)⟩) | exact propext ⟨fun _ => rfl, fun _ => rfl⟩ | omega
theorem m_ends {h0 h : MH} {j n : Nat} {U : Nat → Int32} {c : CR} (hC : CS h0 h j U n c) : CT x sX5_ends [.ref j] h (pI fun r h' => r = bI ((enS c).1 = 0) ∧ CS h0 h' j U n (enS c)) xNo := by
  have a0 := hC.1.1.1
  (refine CT_of (o := 5) rfl (by decide) (by simp [Value.category, sX5_ends]) (MW_ev kX5_ends 300 ?_); show evS _ _ _ _ _ _ 300 0 (0, 0) [.ref j] [] _; simp only [st_iconst, st_lconst, st_ldc2_w, st_ldc, st_iload, st_lload, st_aload, st_istore, st_astore, st_lstore, st_iinc, st_iadd, st_isub, st_imul, st_idiv, st_irem, st_iand, st_ior, st_ishl, st_ishr, st_iushr, st_ladd, st_lmul, st_lshl, st_lushr, st_lcmp, st_i2l, st_l2i, st_i2b, st_i2c, st_i2d, st_i2f, st_dconst, st_fconst, st_ddiv, st_fdiv, st_dup, st_dup2, st_pop, st_goto, st_if_icmp, st_ifCond, st_tableswitch, st_lookupswitch, st_iaload, st_baload, st_laload, st_aaload, st_iastore, st_bastore, st_lastore, st_aastore, st_saload, st_faload, st_jsr, st_getstatic, st_frem, st_drem, st_monitorexit, st_monitorenter, st_invokeinterface, st_newarray, st_anewarray, st_multianewarray, asI_c, asJ_c, asR_c, asD_c, asF_c, popI_c, popJ_c, popR_c, popD_c, popF_c, pop1_c, okSt_0, okSt_S, rcv_0, rcv_1, rcv_2, rcv_3, rcv_4, rcv_5, rcv_8, pI_c, pJ_c, pR_c, pV_c, pD_c, pF_c, cmp_eq, cmp_ne, cmp_lt, cmp_ge, cmp_gt, cmp_le, nth_0, nth_S, set_0, set_S, cat_int, cat_ref, cat_long, cat_double, cat_float, cat_null, catS_0, catS_S, swT_0, swT_S, swL_0, swL_S, Nat.add_zero, Nat.reduceAdd, Nat.reduceSub, Nat.reduceLT, Nat.reduceLeDiff, true_and, and_true, eq_self, eX5_ends_0, fX5_ends_0, eX5_ends_1, gf5_180, eX5_ends_4, cI_1, eX5_ends_5, tn_13, eX5_ends_8, eX5_ends_9, eX5_ends_10, iv5_214, c_X5_fail, eX5_ends_13, eX5_ends_14, iv5_207, c_X5_good, eX5_ends_17, d_X5_ends, re_X5_ends])
  simp (disch := omega) only [nI_mul, nI_add, nI_clamp, nI_inE, nI_leE, nI_ltE, nI_eqE, nI_eqz, nI_ltz, nI_gez, nI_lez, nI_gtz, nI_m1, nI_m1', nI_ltm, nI_gem, nI_gtm, nI_lem, nI_00, nI_01, nI_10, nI_11, bI_z, bI_1, bI_0, bI_b, bI_nz, bit_e, arK_i, arK_b, arK_j, true_and, and_true, ne_eq, not_false_eq_true, not_true_eq_false, false_and, and_false, true_or, or_true, false_or, or_false, Classical.not_not, forall_const, true_implies, implies_true, false_implies, eq_self, n1z, a0]
  have fin : ∀ h1, CS h0 h1 j U n (enS c) → CALLI x sX5_good [.ref j] h1 xNo fun r h' => (r = 0 ∨ r = 1) ∧ r = bI ((enS c).1 = 0) ∧ CS h0 h' j U n (enS c) := fun h1 h2 => CI_pure (m_good h2) ⟨by rw [bI_b]; trivial, rfl, h2⟩
  by_cases g : c.1 = 0
  · obtain ⟨m18, m17, m19, mb, mv⟩ := (hC.2.2.2.2.1 g).2
    rw [m19, kM_1 mb.2.2]
    refine ⟨fun g2 => fin h (by rw [show enS c = c from (iteC_t g).trans (iteC_t g2)]; exact hC), fun g2 => CV_of (m_fail hC (by decide) (by decide)) (fun _ _ z => z.elim) fun h' hC' => ⟨hC'.1.1.1, fin h' ?_⟩⟩
    rw [show enS c = fS 1 c from (iteC_t g).trans (iteC_f g2)]; exact hC'
  · have e : enS c = c := iteC_f g
    refine ⟨fun _ => fin h (by rw [e]; exact hC), fun _ => CV_of (m_fail hC (by decide) (by decide)) (fun _ _ z => z.elim) fun h' hC' => ⟨hC'.1.1.1, fin h' ?_⟩⟩
    rw [show fS 1 c = c from iteC_f g] at hC'
    rw [e]; exact hC'
theorem chS_c : ∀ m, m < 25 → ∀ k, k < lenS.getD m 0 → ∃ c, c < 128 ∧ chS m k = nI c := by decide +kernel
theorem kM_3 {k : Nat} (h : k < 5) : (nI (kM k) = nI 3) = (k = 1) := by
  unfold kM
  rcases k with _ | _ | _ | _ | _ | k
  all_goals first | (exact propext ⟨fun z => absurd z (by decide), fun z => absurd z (by decide)⟩) | exact propext ⟨fun _ => rfl, fun _ => rfl⟩ | omega
theorem m_isWord {h0 h : MH} {j n m : Nat} {U : Nat → Int32} {c : CR} (hC : CS h0 h j U n c) (hm : m < 25) : CT x sX5_isWord [.ref j, .ref (xK x m)] h (pI fun r h' => r = bI (c.1 = 0 ∧ wrdS U c.2.2.2 m) ∧ h' = h) xNo := by
  obtain ⟨a0, p8, k16, l16, i9, hn⟩ := TX_rd hC.1
  have i21 := hC.2.2.1.1
  have hk4 := hC.2.2.1.2
  have hlm := lenS_lt m
  have zer : ∀ k, ¬ (c.1 = 0 ∧ wrdS U c.2.2.2 m) → MW x sX5_isWord 5 (pI fun r h' => r = bI (c.1 = 0 ∧ wrdS U c.2.2.2 m) ∧ h' = h) xNo 39 (0, 0) [.ref j, .ref (xK x m), .int (nI 0), .int (nI k)] [] h := fun k hk => by
    (refine MW_ev kX5_isWord 300 ?_; simp only [st_iconst, st_lconst, st_ldc2_w, st_ldc, st_iload, st_lload, st_aload, st_istore, st_astore, st_lstore, st_iinc, st_iadd, st_isub, st_imul, st_idiv, st_irem, st_iand, st_ior, st_ishl, st_ishr, st_iushr, st_ladd, st_lmul, st_lshl, st_lushr, st_lcmp, st_i2l, st_l2i, st_i2b, st_i2c, st_i2d, st_i2f, st_dconst, st_fconst, st_ddiv, st_fdiv, st_dup, st_dup2, st_pop, st_goto, st_if_icmp, st_ifCond, st_tableswitch, st_lookupswitch, st_iaload, st_baload, st_laload, st_aaload, st_iastore, st_bastore, st_lastore, st_aastore, st_saload, st_faload, st_jsr, st_getstatic, st_frem, st_drem, st_monitorexit, st_monitorenter, st_invokeinterface, st_newarray, st_anewarray, st_multianewarray, asI_c, asJ_c, asR_c, asD_c, asF_c, popI_c, popJ_c, popR_c, popD_c, popF_c, pop1_c, okSt_0, okSt_S, rcv_0, rcv_1, rcv_2, rcv_3, rcv_4, rcv_5, rcv_8, pI_c, pJ_c, pR_c, pV_c, pD_c, pF_c, cmp_eq, cmp_ne, cmp_lt, cmp_ge, cmp_gt, cmp_le, nth_0, nth_S, set_0, set_S, cat_int, cat_ref, cat_long, cat_double, cat_float, cat_null, catS_0, catS_S, swT_0, swT_S, swL_0, swL_S, Nat.add_zero, Nat.reduceAdd, Nat.reduceSub, Nat.reduceLT, Nat.reduceLeDiff, true_and, and_true, eq_self, eX5_isWord_0, fX5_isWord_0, eX5_isWord_1, gf5_192, eX5_isWord_4, tn_35, eX5_isWord_7, eX5_isWord_8, gf5_180, eX5_isWord_11, cI_3, eX5_isWord_12, eX5_isWord_15, eX5_isWord_16, gf5_174, eX5_isWord_19, eX5_isWord_20, gf5_177, eX5_isWord_23, eX5_isWord_24, eX5_isWord_25, iv5_195, c_J0_length_8abf5, eX5_isWord_28, eX5_isWord_31, cI_1, eX5_isWord_32, tn_36, eX5_isWord_35, cI_0, eX5_isWord_36, eX5_isWord_37, eX5_isWord_38, eX5_isWord_39, fX5_isWord_39, eX5_isWord_40, tn_82, eX5_isWord_43, eX5_isWord_44, eX5_isWord_45, eX5_isWord_48, eX5_isWord_51, eX5_isWord_52, gf5_27, eX5_isWord_55, eX5_isWord_56, eX5_isWord_59, eX5_isWord_60, eX5_isWord_61, eX5_isWord_62, eX5_isWord_63, eX5_isWord_64, iv5_200, c_J0_charAt_5068e, eX5_isWord_67, tn_74, eX5_isWord_70, eX5_isWord_71, tn_75, eX5_isWord_74, eX5_isWord_75, eX5_isWord_76, eX5_isWord_79, tn_39, eX5_isWord_82, eX5_isWord_83, d_X5_isWord, re_X5_isWord])
    simp (disch := omega) only [nI_mul, nI_add, nI_clamp, nI_inE, nI_leE, nI_ltE, nI_eqE, nI_eqz, nI_ltz, nI_gez, nI_lez, nI_gtz, nI_m1, nI_m1', nI_ltm, nI_gem, nI_gtm, nI_lem, nI_00, nI_01, nI_10, nI_11, bI_z, bI_1, bI_0, bI_b, bI_nz, bit_e, arK_i, arK_b, arK_j, true_and, and_true, ne_eq, not_false_eq_true, not_true_eq_false, false_and, and_false, true_or, or_true, false_or, or_false, Classical.not_not, forall_const, true_implies, implies_true, false_implies, eq_self, n1z, a0]
    first | exact hk | exact ⟨hk, rfl⟩
  have main : ∀ k, k ≤ lenS.getD m 0 → (c.1 = 0 → c.2.2.2.1 = 1 → c.2.2.2.2.2 - c.2.2.2.2.1 = lenS.getD m 0 → (∀ i, i < k → U (c.2.2.2.2.1 + i) = chS m i) → MW x sX5_isWord 5 (pI fun r h' => r = bI (c.1 = 0 ∧ wrdS U c.2.2.2 m) ∧ h' = h) xNo 39 (0, 0) [.ref j, .ref (xK x m), .int (nI 1), .int (nI k)] [] h) := by
    refine loop_up (lenS.getD m 0) fun k hk ih g g1 g2 hp => ?_
    obtain ⟨m18, m17, m19, mb, mv⟩ := (hC.2.2.2.2.1 g).2
    have hb1 := mb.1
    have hb2 := mb.2.1
    (refine MW_ev kX5_isWord 300 ?_; simp only [st_iconst, st_lconst, st_ldc2_w, st_ldc, st_iload, st_lload, st_aload, st_istore, st_astore, st_lstore, st_iinc, st_iadd, st_isub, st_imul, st_idiv, st_irem, st_iand, st_ior, st_ishl, st_ishr, st_iushr, st_ladd, st_lmul, st_lshl, st_lushr, st_lcmp, st_i2l, st_l2i, st_i2b, st_i2c, st_i2d, st_i2f, st_dconst, st_fconst, st_ddiv, st_fdiv, st_dup, st_dup2, st_pop, st_goto, st_if_icmp, st_ifCond, st_tableswitch, st_lookupswitch, st_iaload, st_baload, st_laload, st_aaload, st_iastore, st_bastore, st_lastore, st_aastore, st_saload, st_faload, st_jsr, st_getstatic, st_frem, st_drem, st_monitorexit, st_monitorenter, st_invokeinterface, st_newarray, st_anewarray, st_multianewarray, asI_c, asJ_c, asR_c, asD_c, asF_c, popI_c, popJ_c, popR_c, popD_c, popF_c, pop1_c, okSt_0, okSt_S, rcv_0, rcv_1, rcv_2, rcv_3, rcv_4, rcv_5, rcv_8, pI_c, pJ_c, pR_c, pV_c, pD_c, pF_c, cmp_eq, cmp_ne, cmp_lt, cmp_ge, cmp_gt, cmp_le, nth_0, nth_S, set_0, set_S, cat_int, cat_ref, cat_long, cat_double, cat_float, cat_null, catS_0, catS_S, swT_0, swT_S, swL_0, swL_S, Nat.add_zero, Nat.reduceAdd, Nat.reduceSub, Nat.reduceLT, Nat.reduceLeDiff, true_and, and_true, eq_self, eX5_isWord_0, fX5_isWord_0, eX5_isWord_1, gf5_192, eX5_isWord_4, tn_35, eX5_isWord_7, eX5_isWord_8, gf5_180, eX5_isWord_11, cI_3, eX5_isWord_12, eX5_isWord_15, eX5_isWord_16, gf5_174, eX5_isWord_19, eX5_isWord_20, gf5_177, eX5_isWord_23, eX5_isWord_24, eX5_isWord_25, iv5_195, c_J0_length_8abf5, eX5_isWord_28, eX5_isWord_31, cI_1, eX5_isWord_32, tn_36, eX5_isWord_35, cI_0, eX5_isWord_36, eX5_isWord_37, eX5_isWord_38, eX5_isWord_39, fX5_isWord_39, eX5_isWord_40, tn_82, eX5_isWord_43, eX5_isWord_44, eX5_isWord_45, eX5_isWord_48, eX5_isWord_51, eX5_isWord_52, gf5_27, eX5_isWord_55, eX5_isWord_56, eX5_isWord_59, eX5_isWord_60, eX5_isWord_61, eX5_isWord_62, eX5_isWord_63, eX5_isWord_64, iv5_200, c_J0_charAt_5068e, eX5_isWord_67, tn_74, eX5_isWord_70, eX5_isWord_71, tn_75, eX5_isWord_74, eX5_isWord_75, eX5_isWord_76, eX5_isWord_79, tn_39, eX5_isWord_82, eX5_isWord_83, d_X5_isWord, re_X5_isWord])
    simp (disch := omega) only [nI_mul, nI_add, nI_clamp, nI_inE, nI_leE, nI_ltE, nI_eqE, nI_eqz, nI_ltz, nI_gez, nI_lez, nI_gtz, nI_m1, nI_m1', nI_ltm, nI_gem, nI_gtm, nI_lem, nI_00, nI_01, nI_10, nI_11, bI_z, bI_1, bI_0, bI_b, bI_nz, bit_e, arK_i, arK_b, arK_j, true_and, and_true, ne_eq, not_false_eq_true, not_true_eq_false, false_and, and_false, true_or, or_true, false_or, or_false, Classical.not_not, forall_const, true_implies, implies_true, false_implies, eq_self, n1z, a0]
    refine ⟨⟨m, hm, rfl⟩, CI_pure (c_len hm) ?_⟩
    rcases Nat.lt_or_ge k (lenS.getD m 0) with hl | hl
    · have r := hC.1.2.2.2.1 (c.2.2.2.2.1 + k) (by omega)
      simp (disch := omega) only [nI_mul, nI_add, nI_clamp, nI_inE, nI_leE, nI_ltE, nI_eqE, nI_eqz, nI_ltz, nI_gez, nI_lez, nI_gtz, nI_m1, nI_m1', nI_ltm, nI_gem, nI_gtm, nI_lem, nI_00, nI_01, nI_10, nI_11, bI_z, bI_1, bI_0, bI_b, bI_nz, bit_e, arK_i, arK_b, arK_j, true_and, and_true, ne_eq, not_false_eq_true, not_true_eq_false, false_and, and_false, true_or, or_true, false_or, or_false, Classical.not_not, forall_const, true_implies, implies_true, false_implies, eq_self, n1z, a0, p8, k16, l16, m18, hl, Nat.not_le.mpr hl, r]
      refine ⟨Nat.succ_ne_zero _, ⟨m, hm, rfl⟩, CI_pure (c_chr hm hl) ?_⟩
      obtain ⟨q, hq, eq⟩ := chS_c m hm k hl
      have hE := ib_E (hC.1.2.2.2.2 (c.2.2.2.2.1 + k) (by omega)) hq
      rw [eq, hE, ← eq]
      exact ⟨fun g3 => zer _ fun z => g3 (z.2.2.2 k hl), fun g3 => ih hl g g1 g2 (lt_succ_all hp g3)⟩
    · obtain e2 : k = lenS.getD m 0 := by omega
      have done : c.1 = 0 ∧ wrdS U c.2.2.2 m := ⟨g, g1, g2, fun i hi => hp i (by omega)⟩
      simp (disch := omega) only [nI_mul, nI_add, nI_clamp, nI_inE, nI_leE, nI_ltE, nI_eqE, nI_eqz, nI_ltz, nI_gez, nI_lez, nI_gtz, nI_m1, nI_m1', nI_ltm, nI_gem, nI_gtm, nI_lem, nI_00, nI_01, nI_10, nI_11, bI_z, bI_1, bI_0, bI_b, bI_nz, bit_e, arK_i, arK_b, arK_j, true_and, and_true, ne_eq, not_false_eq_true, not_true_eq_false, false_and, and_false, true_or, or_true, false_or, or_false, Classical.not_not, forall_const, true_implies, implies_true, false_implies, eq_self, hl]
      first | exact done | exact ⟨done, trivial⟩ | exact ⟨fun _ => done, fun z => absurd hl z⟩ | exact ⟨fun _ => ⟨done, rfl⟩, fun z => absurd hl z⟩
  (refine CT_of (o := 5) rfl (by decide) (by simp [Value.category, sX5_isWord]) (MW_ev kX5_isWord 300 ?_); show evS _ _ _ _ _ _ 300 0 (0, 0) [.ref j, .ref (xK x m), .null, .null] [] _; simp only [st_iconst, st_lconst, st_ldc2_w, st_ldc, st_iload, st_lload, st_aload, st_istore, st_astore, st_lstore, st_iinc, st_iadd, st_isub, st_imul, st_idiv, st_irem, st_iand, st_ior, st_ishl, st_ishr, st_iushr, st_ladd, st_lmul, st_lshl, st_lushr, st_lcmp, st_i2l, st_l2i, st_i2b, st_i2c, st_i2d, st_i2f, st_dconst, st_fconst, st_ddiv, st_fdiv, st_dup, st_dup2, st_pop, st_goto, st_if_icmp, st_ifCond, st_tableswitch, st_lookupswitch, st_iaload, st_baload, st_laload, st_aaload, st_iastore, st_bastore, st_lastore, st_aastore, st_saload, st_faload, st_jsr, st_getstatic, st_frem, st_drem, st_monitorexit, st_monitorenter, st_invokeinterface, st_newarray, st_anewarray, st_multianewarray, asI_c, asJ_c, asR_c, asD_c, asF_c, popI_c, popJ_c, popR_c, popD_c, popF_c, pop1_c, okSt_0, okSt_S, rcv_0, rcv_1, rcv_2, rcv_3, rcv_4, rcv_5, rcv_8, pI_c, pJ_c, pR_c, pV_c, pD_c, pF_c, cmp_eq, cmp_ne, cmp_lt, cmp_ge, cmp_gt, cmp_le, nth_0, nth_S, set_0, set_S, cat_int, cat_ref, cat_long, cat_double, cat_float, cat_null, catS_0, catS_S, swT_0, swT_S, swL_0, swL_S, Nat.add_zero, Nat.reduceAdd, Nat.reduceSub, Nat.reduceLT, Nat.reduceLeDiff, true_and, and_true, eq_self, eX5_isWord_0, fX5_isWord_0, eX5_isWord_1, gf5_192, eX5_isWord_4, tn_35, eX5_isWord_7, eX5_isWord_8, gf5_180, eX5_isWord_11, cI_3, eX5_isWord_12, eX5_isWord_15, eX5_isWord_16, gf5_174, eX5_isWord_19, eX5_isWord_20, gf5_177, eX5_isWord_23, eX5_isWord_24, eX5_isWord_25, iv5_195, c_J0_length_8abf5, eX5_isWord_28, eX5_isWord_31, cI_1, eX5_isWord_32, tn_36, eX5_isWord_35, cI_0, eX5_isWord_36, eX5_isWord_37, eX5_isWord_38, eX5_isWord_39, fX5_isWord_39, eX5_isWord_40, tn_82, eX5_isWord_43, eX5_isWord_44, eX5_isWord_45, eX5_isWord_48, eX5_isWord_51, eX5_isWord_52, gf5_27, eX5_isWord_55, eX5_isWord_56, eX5_isWord_59, eX5_isWord_60, eX5_isWord_61, eX5_isWord_62, eX5_isWord_63, eX5_isWord_64, iv5_200, c_J0_charAt_5068e, eX5_isWord_67, tn_74, eX5_isWord_70, eX5_isWord_71, tn_75, eX5_isWord_74, eX5_isWord_75, eX5_isWord_76, eX5_isWord_79, tn_39, eX5_isWord_82, eX5_isWord_83, d_X5_isWord, re_X5_isWord])
  simp (disch := omega) only [nI_mul, nI_add, nI_clamp, nI_inE, nI_leE, nI_ltE, nI_eqE, nI_eqz, nI_ltz, nI_gez, nI_lez, nI_gtz, nI_m1, nI_m1', nI_ltm, nI_gem, nI_gtm, nI_lem, nI_00, nI_01, nI_10, nI_11, bI_z, bI_1, bI_0, bI_b, bI_nz, bit_e, arK_i, arK_b, arK_j, true_and, and_true, ne_eq, not_false_eq_true, not_true_eq_false, false_and, and_false, true_or, or_true, false_or, or_false, Classical.not_not, forall_const, true_implies, implies_true, false_implies, eq_self, n1z, a0, i21]
  refine ⟨fun g => zer 0 fun z => g z.1, fun g => ?_⟩
  obtain ⟨m18, m17, m19, mb, mv⟩ := (hC.2.2.2.2.1 g).2
  have hb1 := mb.1
  have hb2 := mb.2.1
  rw [m19, kM_3 mb.2.2, m18, m17]
  refine ⟨fun g1 => zer 0 fun z => g1 z.2.1, fun g1 => ⟨⟨m, hm, rfl⟩, CI_pure (c_len hm) ?_⟩⟩
  simp (disch := omega) only [nI_mul, nI_add, nI_clamp, nI_inE, nI_leE, nI_ltE, nI_eqE, nI_eqz, nI_ltz, nI_gez, nI_lez, nI_gtz, nI_m1, nI_m1', nI_ltm, nI_gem, nI_gtm, nI_lem, nI_00, nI_01, nI_10, nI_11, bI_z, bI_1, bI_0, bI_b, bI_nz, bit_e, arK_i, arK_b, arK_j, true_and, and_true, ne_eq, not_false_eq_true, not_true_eq_false, false_and, and_false, true_or, or_true, false_or, or_false, Classical.not_not, forall_const, true_implies, implies_true, false_implies, eq_self, n1z, nI_sub]
  exact ⟨fun g2 => zer 0 fun z => g2 z.2.2.1, fun g2 => main 0 (Nat.zero_le _) g g1 g2 fun i hi => absurd hi (Nat.not_lt_zero _)⟩
end MOD
