section MOD
variable {x : CX}
theorem b255 {v z : BitVec 32} (h : ∀ i, i < 8 → v.getLsbD i = z.getLsbD i) : ((v.signExtend 8).signExtend 32) &&& 255#32 = z &&& 255#32 := by
  apply BitVec.eq_of_getLsbD_eq
  intro i hi
  have e255 : (255#32).getLsbD i = decide (i < 8) := by
    rcases Nat.lt_or_ge i 8 with g | g
    · rcases i with _ | _ | _ | _ | _ | _ | _ | _ | i <;> first | rfl | omega
    · rw [decide_eq_false (by omega)]
      show (255#32).getLsbD i = false
      simp only [BitVec.getLsbD_ofNat]
      rw [show (255 : Nat) = 2 ^ 8 - 1 by rfl, Nat.testBit_two_pow_sub_one]
      simp; omega
  simp only [BitVec.getLsbD_and, e255]
  by_cases g : i < 8
  · rw [decide_eq_true g, Bool.and_true, Bool.and_true, ← h i g]
    rw [BitVec.getLsbD_signExtend, decide_eq_true hi, Bool.true_and, if_pos g, BitVec.getLsbD_signExtend, decide_eq_true g, Bool.true_and, if_pos hi]
  · rw [decide_eq_false g, Bool.and_false, Bool.and_false]
theorem by255 {v : Int32} {sh : Nat} (hs : sh = 24 ∨ sh = 16 ∨ sh = 8 ∨ sh = 0) : byS v sh &&& nI 255 = (v.toUInt32 >>> ((nI sh).toUInt32 &&& Int32.toUInt32 31)).toInt32 &&& nI 255 := by
  unfold byS
  rw [pk_vb]
  refine Int32.toBitVec_inj.mp ?_
  have hv : ∀ i, i < 8 → (v >>> (nI sh &&& 31)).toBitVec.getLsbD i = (v.toUInt32 >>> ((nI sh).toUInt32 &&& Int32.toUInt32 31)).toBitVec.getLsbD i := fun i hi => by
    rcases hs with rfl | rfl | rfl | rfl
    · show (v.toBitVec.sshiftRight 24).getLsbD i = (v.toBitVec >>> 24).getLsbD i
      rw [BitVec.getLsbD_sshiftRight, BitVec.getLsbD_ushiftRight]
      rw [if_pos (by omega), decide_eq_false (by omega)]; rfl
    · show (v.toBitVec.sshiftRight 16).getLsbD i = (v.toBitVec >>> 16).getLsbD i
      rw [BitVec.getLsbD_sshiftRight, BitVec.getLsbD_ushiftRight]
      rw [if_pos (by omega), decide_eq_false (by omega)]; rfl
    · show (v.toBitVec.sshiftRight 8).getLsbD i = (v.toBitVec >>> 8).getLsbD i
      rw [BitVec.getLsbD_sshiftRight, BitVec.getLsbD_ushiftRight]
      rw [if_pos (by omega), decide_eq_false (by omega)]; rfl
    · show (v.toBitVec.sshiftRight 0).getLsbD i = (v.toBitVec >>> 0).getLsbD i
      rw [BitVec.getLsbD_sshiftRight, BitVec.getLsbD_ushiftRight]
      rw [if_pos (by omega), decide_eq_false (by omega)]; rfl
  exact b255 hv
/-- signs written behind the text -/
def tyP (h h' : MH) (j n : Nat) (v : Int32) (k : Nat) : Prop := FI h h' (fun a i => (a = j ∧ i = 9) ∨ (a = j + 16 ∧ n ≤ i)) ∧ mI h' j 9 = nI (n + k) ∧ ∀ l, l < k → mI h' (j + 16) (n + l) = byS v (24 - 8 * l) &&& nI 255
theorem ty_step {h h' : MH} {j n k : Nat} {v : Int32} (hp : tyP h h' j n v k) : tyP h (sI (sI h' (j + 16) (n + k) (byS v (24 - 8 * k) &&& nI 255)) j 9 (nI (n + k + 1))) j n v (k + 1) := by
  obtain ⟨p1, p2, p3⟩ := hp
  refine ⟨FI_tr p1 (FI_tr (FI_sI (Or.inr ⟨rfl, by omega⟩)) (FI_sI (Or.inl ⟨rfl, rfl⟩))), sI_Ie, lt_succ_all (fun l hl => ?_) (by rw [sI_Ia (by omega), sI_Ie])⟩
  rw [sI_Ia (by omega), sI_Ik (by omega), p3 l hl]
theorem m_type {h : MH} {j n : Nat} {v : Int32} (hM : MB h j) (a5 : mI h j 9 = nI n) (hn : n + 4 ≤ 500) : CT x sX5_type [.ref j, .int v] h (pV fun h' => tyP h h' j n v 4) xNo := by
  have step : ∀ k sh, k < 4 → sh = 24 - 8 * k → ∀ h', tyP h h' j n v k → (∀ h'', tyP h h'' j n v (k + 1) → MW x sX5_type 5 (pV fun h' => tyP h h' j n v 4) xNo 3 (0, 0) [.ref j, .int v, .int (nI sh + -8)] [] h'') → MW x sX5_type 5 (pV fun h' => tyP h h' j n v 4) xNo 3 (0, 0) [.ref j, .int v, .int (nI sh)] [] h' := by
    intro k sh hk hsh h' hp hkk
    have hs := ty_step hp
    obtain ⟨p1, p2, p3⟩ := hp
    have b1 := (p1.2.1 j).trans hM.1
    have b2 := (p1.2.2.2.1 j 8).1.trans hM.2.1.2.2.2.2.2.1
    have b3 := (p1.2.1 (j + 16)).trans hM.2.2.2.1
    have b4 := (p1.2.2.1 (j + 16)).trans hM.2.2.2.2.1
    have hsh2 : ¬ nI sh < 0 := nI_pos (by omega)
    have hlt : ¬ 500 ≤ n + k := by omega
    have e := by255 (v := v) (sh := sh) (by omega)
    rw [← hsh] at hs
    clear hM p1
    (refine MW_ev kX5_type 300 ?_; simp only [st_iconst, st_lconst, st_ldc2_w, st_ldc, st_iload, st_lload, st_aload, st_istore, st_astore, st_lstore, st_iinc, st_iadd, st_isub, st_imul, st_idiv, st_irem, st_iand, st_ior, st_ishl, st_ishr, st_iushr, st_ladd, st_lmul, st_lshl, st_lushr, st_lcmp, st_i2l, st_l2i, st_i2b, st_i2c, st_i2d, st_i2f, st_dconst, st_fconst, st_ddiv, st_fdiv, st_dup, st_dup2, st_pop, st_goto, st_if_icmp, st_ifCond, st_tableswitch, st_lookupswitch, st_iaload, st_baload, st_laload, st_aaload, st_iastore, st_bastore, st_lastore, st_aastore, st_saload, st_faload, st_jsr, st_getstatic, st_frem, st_drem, st_monitorexit, st_monitorenter, st_invokeinterface, st_newarray, st_anewarray, st_multianewarray, asI_c, asJ_c, asR_c, asD_c, asF_c, popI_c, popJ_c, popR_c, popD_c, popF_c, pop1_c, okSt_0, okSt_S, rcv_0, rcv_1, rcv_2, rcv_3, rcv_4, rcv_5, rcv_8, pI_c, pJ_c, pR_c, pV_c, pD_c, pF_c, cmp_eq, cmp_ne, cmp_lt, cmp_ge, cmp_gt, cmp_le, nth_0, nth_S, set_0, set_S, cat_int, cat_ref, cat_long, cat_double, cat_float, cat_null, catS_0, catS_S, swT_0, swT_S, swL_0, swL_S, Nat.add_zero, Nat.reduceAdd, Nat.reduceSub, Nat.reduceLT, Nat.reduceLeDiff, true_and, and_true, eq_self, eX5_type_0, fX5_type_0, cI_24, eX5_type_2, eX5_type_3, fX5_type_3, eX5_type_4, tn_39, eX5_type_7, eX5_type_8, gf5_27, eX5_type_11, eX5_type_12, gf5_171, eX5_type_15, eX5_type_16, eX5_type_17, eX5_type_18, cI_255, eX5_type_21, eX5_type_22, eX5_type_23, eX5_type_24, eX5_type_25, eX5_type_28, cI_1, eX5_type_29, eX5_type_30, pf5_171, eX5_type_33, cI_m8, eX5_type_36, tn_3, eX5_type_39, d_X5_type, re_X5_type])
    simp (disch := omega) only [nI_mul, nI_add, nI_clamp, nI_inE, nI_leE, nI_ltE, nI_eqE, nI_eqz, nI_ltz, nI_gez, nI_lez, nI_gtz, nI_m1, nI_m1', nI_ltm, nI_gem, nI_gtm, nI_lem, nI_00, nI_01, nI_10, nI_11, bI_z, bI_1, bI_0, bI_b, bI_nz, bit_e, arK_i, arK_b, arK_j, true_and, and_true, ne_eq, not_false_eq_true, not_true_eq_false, false_and, and_false, true_or, or_true, false_or, or_false, Classical.not_not, forall_const, true_implies, implies_true, false_implies, eq_self, sI_K, sI_L, sI_P, sI_J, sI_Z, sI_Ie, sR_K, sR_L, sR_P, sR_J, sR_Z, sR_Ie, sP_K, sP_L, sP_I, sP_J, sP_Z, sP_Pe, sJ_K, sJ_L, sJ_P, sJ_I, sJ_Z, sJ_Je, b1, b2, b3, b4, p2, sI_Ia, sI_Ik, hlt, ← e]
    exact ⟨Nat.succ_ne_zero _, hkk _ hs⟩
  (refine CT_of (o := 5) rfl (by decide) (by simp [Value.category, sX5_type]) (MW_ev kX5_type 300 ?_); show evS _ _ _ _ _ _ 300 0 (0, 0) [.ref j, .int v, .null] [] _; simp only [st_iconst, st_lconst, st_ldc2_w, st_ldc, st_iload, st_lload, st_aload, st_istore, st_astore, st_lstore, st_iinc, st_iadd, st_isub, st_imul, st_idiv, st_irem, st_iand, st_ior, st_ishl, st_ishr, st_iushr, st_ladd, st_lmul, st_lshl, st_lushr, st_lcmp, st_i2l, st_l2i, st_i2b, st_i2c, st_i2d, st_i2f, st_dconst, st_fconst, st_ddiv, st_fdiv, st_dup, st_dup2, st_pop, st_goto, st_if_icmp, st_ifCond, st_tableswitch, st_lookupswitch, st_iaload, st_baload, st_laload, st_aaload, st_iastore, st_bastore, st_lastore, st_aastore, st_saload, st_faload, st_jsr, st_getstatic, st_frem, st_drem, st_monitorexit, st_monitorenter, st_invokeinterface, st_newarray, st_anewarray, st_multianewarray, asI_c, asJ_c, asR_c, asD_c, asF_c, popI_c, popJ_c, popR_c, popD_c, popF_c, pop1_c, okSt_0, okSt_S, rcv_0, rcv_1, rcv_2, rcv_3, rcv_4, rcv_5, rcv_8, pI_c, pJ_c, pR_c, pV_c, pD_c, pF_c, cmp_eq, cmp_ne, cmp_lt, cmp_ge, cmp_gt, cmp_le, nth_0, nth_S, set_0, set_S, cat_int, cat_ref, cat_long, cat_double, cat_float, cat_null, catS_0, catS_S, swT_0, swT_S, swL_0, swL_S, Nat.add_zero, Nat.reduceAdd, Nat.reduceSub, Nat.reduceLT, Nat.reduceLeDiff, true_and, and_true, eq_self, eX5_type_0, fX5_type_0, cI_24, eX5_type_2, eX5_type_3, fX5_type_3, eX5_type_4, tn_39, eX5_type_7, eX5_type_8, gf5_27, eX5_type_11, eX5_type_12, gf5_171, eX5_type_15, eX5_type_16, eX5_type_17, eX5_type_18, cI_255, eX5_type_21, eX5_type_22, eX5_type_23, eX5_type_24, eX5_type_25, eX5_type_28, cI_1, eX5_type_29, eX5_type_30, pf5_171, eX5_type_33, cI_m8, eX5_type_36, tn_3, eX5_type_39, d_X5_type, re_X5_type])
  have e0 : tyP h h j n v 0 := ⟨FI_rfl, a5, fun l hl => absurd hl (Nat.not_lt_zero _)⟩
  refine step 0 24 (by decide) rfl h e0 fun h1 q1 => ?_
  rw [show nI 24 + -8 = nI 16 by decide]
  refine step 1 16 (by decide) rfl h1 q1 fun h2 q2 => ?_
  rw [show nI 16 + -8 = nI 8 by decide]
  refine step 2 8 (by decide) rfl h2 q2 fun h3 q3 => ?_
  rw [show nI 8 + -8 = nI 0 by decide]
  refine step 3 0 (by decide) rfl h3 q3 fun h4 q4 => ?_
  rw [show nI 0 + -8 = -8 by decide]
  (refine MW_ev kX5_type 300 ?_; simp only [st_iconst, st_lconst, st_ldc2_w, st_ldc, st_iload, st_lload, st_aload, st_istore, st_astore, st_lstore, st_iinc, st_iadd, st_isub, st_imul, st_idiv, st_irem, st_iand, st_ior, st_ishl, st_ishr, st_iushr, st_ladd, st_lmul, st_lshl, st_lushr, st_lcmp, st_i2l, st_l2i, st_i2b, st_i2c, st_i2d, st_i2f, st_dconst, st_fconst, st_ddiv, st_fdiv, st_dup, st_dup2, st_pop, st_goto, st_if_icmp, st_ifCond, st_tableswitch, st_lookupswitch, st_iaload, st_baload, st_laload, st_aaload, st_iastore, st_bastore, st_lastore, st_aastore, st_saload, st_faload, st_jsr, st_getstatic, st_frem, st_drem, st_monitorexit, st_monitorenter, st_invokeinterface, st_newarray, st_anewarray, st_multianewarray, asI_c, asJ_c, asR_c, asD_c, asF_c, popI_c, popJ_c, popR_c, popD_c, popF_c, pop1_c, okSt_0, okSt_S, rcv_0, rcv_1, rcv_2, rcv_3, rcv_4, rcv_5, rcv_8, pI_c, pJ_c, pR_c, pV_c, pD_c, pF_c, cmp_eq, cmp_ne, cmp_lt, cmp_ge, cmp_gt, cmp_le, nth_0, nth_S, set_0, set_S, cat_int, cat_ref, cat_long, cat_double, cat_float, cat_null, catS_0, catS_S, swT_0, swT_S, swL_0, swL_S, Nat.add_zero, Nat.reduceAdd, Nat.reduceSub, Nat.reduceLT, Nat.reduceLeDiff, true_and, and_true, eq_self, eX5_type_0, fX5_type_0, cI_24, eX5_type_2, eX5_type_3, fX5_type_3, eX5_type_4, tn_39, eX5_type_7, eX5_type_8, gf5_27, eX5_type_11, eX5_type_12, gf5_171, eX5_type_15, eX5_type_16, eX5_type_17, eX5_type_18, cI_255, eX5_type_21, eX5_type_22, eX5_type_23, eX5_type_24, eX5_type_25, eX5_type_28, cI_1, eX5_type_29, eX5_type_30, pf5_171, eX5_type_33, cI_m8, eX5_type_36, tn_3, eX5_type_39, d_X5_type, re_X5_type])
  first | exact ⟨fun _ => q4, fun z => absurd (by decide) z⟩ | (refine ⟨fun _ => q4, fun z => absurd (show (-8 : Int32) < 0 by decide) z⟩)
def tyS (s : AS) (U : Nat → Int32) (n : Nat) : AS := (aW s, aP s, aC s, aS s, aH s, U, n, aK s, aO s, aR s, aM s)
theorem call_ty {h : MH} {j : Nat} {s : AS} {U : Nat → Int32} {n : Nat} {v : Int32} {xk : String → MH → Prop} {k : MH → Prop} (hO : MO h j (tyS s U n)) (hn : n + 4 ≤ 500) (hk : ∀ h', MO h' j (tyS s (apU U n v) (n + 4)) → FM h h' j → mI h' j 0 = mI h j 0 → k h') : CALLV x sX5_type [.ref j, .int v] h xk k := by
  have hO' := hO
  obtain ⟨hN, -, -, t1, t2, t3, t4, t5, t6, t7, t8⟩ := hO
  refine CV_of (m_type (n := n) hN.1 t1 hn) (fun _ _ z => z.elim) fun h' ⟨p1, p2, p3⟩ => hk h' ?_ (FM_fi p1 fun a k hk => by omega) (p1.2.2.2.2 j 0 (by omega))
  refine MO_t (s := tyS s U n) hO' (FI_mono p1 fun a k hk => by omega) ⟨p2, hn, fun k hk => ?_, (p1.2.2.2.2 j 11 (by omega)).trans t4, t5, fun k hk => (p1.2.2.2.2 _ _ (by omega)).trans (t6 k hk), (p1.2.2.2.2 j 23 (by omega)).trans t7, (p1.2.2.2.2 j 24 (by omega)).trans t8⟩
  show _ = apU U n v k &&& nI 255
  have hk : k < n + 4 := hk
  unfold apU
  by_cases g : k < n
  · rw [if_pos g, p1.2.2.2.2 _ _ (by omega), t3 k g]
    rfl
  · rw [if_neg g]
    have := p3 (k - n) (by omega)
    rwa [show n + (k - n) = k by omega] at this
theorem m_append {h : MH} {j : Nat} {s : AS} {a b c d e : Int32} (hO : MO h j s) : OPM x sX5_append [.ref j, .int a, .int b, .int c, .int d, .int e] h j (qApp s a b c d e) := by
  have a0 := hO.1.1.1
  have t1 := hO.2.2.2.1
  have t2 := hO.2.2.2.2.1
  (refine CT_of (o := 5) rfl (by decide) (by simp [Value.category, sX5_append]) (MW_ev kX5_append 300 ?_); show evS _ _ _ _ _ _ 300 0 (0, 0) [.ref j, .int a, .int b, .int c, .int d, .int e] [] _; simp only [st_iconst, st_lconst, st_ldc2_w, st_ldc, st_iload, st_lload, st_aload, st_istore, st_astore, st_lstore, st_iinc, st_iadd, st_isub, st_imul, st_idiv, st_irem, st_iand, st_ior, st_ishl, st_ishr, st_iushr, st_ladd, st_lmul, st_lshl, st_lushr, st_lcmp, st_i2l, st_l2i, st_i2b, st_i2c, st_i2d, st_i2f, st_dconst, st_fconst, st_ddiv, st_fdiv, st_dup, st_dup2, st_pop, st_goto, st_if_icmp, st_ifCond, st_tableswitch, st_lookupswitch, st_iaload, st_baload, st_laload, st_aaload, st_iastore, st_bastore, st_lastore, st_aastore, st_saload, st_faload, st_jsr, st_getstatic, st_frem, st_drem, st_monitorexit, st_monitorenter, st_invokeinterface, st_newarray, st_anewarray, st_multianewarray, asI_c, asJ_c, asR_c, asD_c, asF_c, popI_c, popJ_c, popR_c, popD_c, popF_c, pop1_c, okSt_0, okSt_S, rcv_0, rcv_1, rcv_2, rcv_3, rcv_4, rcv_5, rcv_8, pI_c, pJ_c, pR_c, pV_c, pD_c, pF_c, cmp_eq, cmp_ne, cmp_lt, cmp_ge, cmp_gt, cmp_le, nth_0, nth_S, set_0, set_S, cat_int, cat_ref, cat_long, cat_double, cat_float, cat_null, catS_0, catS_S, swT_0, swT_S, swL_0, swL_S, Nat.add_zero, Nat.reduceAdd, Nat.reduceSub, Nat.reduceLT, Nat.reduceLeDiff, true_and, and_true, eq_self, eX5_append_0, fX5_append_0, eX5_append_1, cI_0, eX5_append_2, pf5_59, eX5_append_5, eX5_append_6, gf5_171, eX5_append_9, cI_20, eX5_append_11, eX5_append_12, cI_500, eX5_append_15, tn_21, eX5_append_18, cI_m2, eX5_append_20, eX5_append_21, eX5_append_22, eX5_append_23, iv5_271, c_X5_type, eX5_append_26, eX5_append_27, eX5_append_28, eX5_append_31, eX5_append_32, eX5_append_33, eX5_append_36, eX5_append_37, eX5_append_39, eX5_append_42, eX5_append_43, eX5_append_45, eX5_append_48, eX5_append_49, eX5_append_52, d_X5_append, re_X5_append])
  simp (disch := omega) only [nI_mul, nI_add, nI_clamp, nI_inE, nI_leE, nI_ltE, nI_eqE, nI_eqz, nI_ltz, nI_gez, nI_lez, nI_gtz, nI_m1, nI_m1', nI_ltm, nI_gem, nI_gtm, nI_lem, nI_00, nI_01, nI_10, nI_11, bI_z, bI_1, bI_0, bI_b, bI_nz, bit_e, arK_i, arK_b, arK_j, true_and, and_true, ne_eq, not_false_eq_true, not_true_eq_false, false_and, and_false, true_or, or_true, false_or, or_false, Classical.not_not, forall_const, true_implies, implies_true, false_implies, eq_self, sI_K, sI_L, sI_P, sI_J, sI_Z, sI_Ie, sR_K, sR_L, sR_P, sR_J, sR_Z, sR_Ie, sP_K, sP_L, sP_I, sP_J, sP_Z, sP_Pe, sJ_K, sJ_L, sJ_P, sJ_I, sJ_Z, sJ_Je, n1z, a0, t1, sI_Ik]
  refine ⟨fun g => ?_, fun g => ?_⟩
  · have hq : qApp s a b c d e = _ := iteC_f (show ¬ 480 < aN s by omega)
    have hO1 : MO (sI h j 0 (nI 0)) j (tyS s (aU s) (aN s)) := MO_th hO
    have k1 := hO1.1.1.1
    refine call_ty hO1 (by omega) fun h1 hO1 hF1 u1 => ⟨hO1.1.1.1, ?_⟩
    refine call_ty hO1 (by omega) fun h2 hO2 hF2 u2 => ⟨hO2.1.1.1, ?_⟩
    refine call_ty hO2 (by omega) fun h3 hO3 hF3 u3 => ⟨hO3.1.1.1, ?_⟩
    refine call_ty hO3 (by omega) fun h4 hO4 hF4 u4 => ⟨hO4.1.1.1, ?_⟩
    refine call_ty hO4 (by omega) fun h5 hO5 hF5 u5 => ⟨hO5.1.1.1, ?_⟩
    have t := hO5.2.2.2.1
    exact oaM_q (s := tyS s (ap5 (aU s) (aN s) a b c d e) (aN s + 20)) (by rw [hq, t]; rfl) (u5.trans (u4.trans (u3.trans (u2.trans (u1.trans sI_Ie))))) hO5 (FM_tr FM_th (FM_tr hF1 (FM_tr hF2 (FM_tr hF3 (FM_tr hF4 hF5)))))
  · have hq : qApp s a b c d e = _ := iteC_t (show 480 < aN s by omega)
    exact ok0 hO hq
end MOD
