section PET
variable {x : CX}
theorem or_bit : ∀ n, n < 10 → ∀ k, k < 1024 → k < 2 ^ n → nI k ||| bit n = nI (k + 2 ^ n) := by decide +kernel
theorem tb_nat : ∀ t, t < 10 → ∀ k, k < 1024 → ((nI k >>> (nI t &&& 31)) &&& nI 1 = nI 1 ↔ k / 2 ^ t % 2 = 1) := by decide +kernel
theorem sb_nat : ∀ t, t < 10 → ∀ k, k < 1024 → nI k >>> (nI t &&& 31) &&& nI 1 = nI (k / 2 ^ t % 2) := by decide +kernel
theorem bit_pw : ∀ n, n < 11 → bit n = nI (2 ^ n) := by decide +kernel
theorem pw_le {n : Nat} (h : n ≤ 10) : 2 ^ n ≤ 1024 := Nat.le_trans (Nat.pow_le_pow_right (by decide) h) (by decide)
theorem es_nat {w : Nat → Int32} {np : Nat} : ∀ n, n ≤ 10 → ∃ k, k < 2 ^ n ∧ esW w np n = nI k ∧ ∀ t, t < n → (k / 2 ^ t % 2 = 1 ↔ enW w np t) := by
  intro n
  induction n with
  | zero => exact fun _ => ⟨0, by decide, rfl, fun t ht => absurd ht (Nat.not_lt_zero _)⟩
  | succ n ih =>
    intro hn
    obtain ⟨k, hk, ek, hb⟩ := ih (by omega)
    have hp := pw_le (n := n) (by omega)
    have h2 : 2 ^ (n + 1) = 2 ^ n * 2 := Nat.pow_succ 2 n
    by_cases g : enW w np n
    · refine ⟨k + 2 ^ n, by omega, ?_, fun t ht => ?_⟩
      · rw [show esW w np (n + 1) = esW w np n ||| bit n from iteC_t g, ek]
        exact or_bit n (by omega) k (by omega) hk
      · have ht0 : 0 < 2 ^ t := Nat.pow_pos (by decide)
        rcases Nat.lt_succ_iff_lt_or_eq.mp ht with g2 | g2
        · rw [← hb t g2]
          have e : 2 ^ n = 2 ^ t * (2 * 2 ^ (n - t - 1)) := by
            rw [← Nat.mul_assoc, ← Nat.pow_succ, ← Nat.pow_add]
            congr 1
            omega
          rw [e, Nat.add_mul_div_left _ _ ht0]
          omega
        · subst g2
          have : (k + 2 ^ t) / 2 ^ t = 1 := by
            rw [Nat.add_div_right _ ht0, Nat.div_eq_of_lt hk]
          rw [this]
          exact ⟨fun _ => g, fun _ => rfl⟩
    · refine ⟨k, by omega, ?_, fun t ht => ?_⟩
      · rw [show esW w np (n + 1) = esW w np n from iteC_f g, ek]
      · rcases Nat.lt_succ_iff_lt_or_eq.mp ht with g2 | g2
        · exact hb t g2
        · subst g2
          rw [Nat.div_eq_of_lt hk]
          exact ⟨fun z => absurd z (by decide), fun z => absurd z g⟩
theorem tb_es {w : Nat → Int32} {np nt t : Nat} (hn : nt ≤ 10) (ht : t < nt) : tb (esW w np nt) t = enW w np t := by
  obtain ⟨k, hk, ek, hb⟩ := es_nat (w := w) (np := np) nt hn
  have hp := pw_le hn
  rw [ek]
  exact propext ((tb_nat t (by omega) k (by omega)).trans (hb t ht))
theorem es_0 {w : Nat → Int32} {np nt : Nat} (hn : nt ≤ 10) : (esW w np nt = 0) = ∀ t, t < nt → ¬ enW w np t := by
  obtain ⟨k, hk, ek, hb⟩ := es_nat (w := w) (np := np) nt hn
  have hp := pw_le hn
  rw [ek, nI_eqz (by omega)]
  refine propext ⟨fun g t ht z => ?_, fun g => ?_⟩
  · subst g
    have := (hb t ht).mpr z
    rw [Nat.zero_div] at this
    exact absurd this (by decide)
  · have : ∀ j, j ≤ nt → k / 2 ^ (nt - j) = 0 := by
      intro j
      induction j with
      | zero => exact fun _ => Nat.div_eq_of_lt hk
      | succ j ih =>
        intro hj
        have h1 := ih (by omega)
        have h2 : ¬ k / 2 ^ (nt - (j + 1)) % 2 = 1 := fun z => g _ (by omega) ((hb _ (by omega)).mp z)
        rw [show nt - j = (nt - (j + 1)) + 1 by omega, Nat.pow_succ, ← Nat.div_div_eq_div_mul] at h1
        omega
    have := this nt (Nat.le_refl _)
    rwa [Nat.sub_self, Nat.pow_zero, Nat.div_one] at this
theorem sw_B {w : Nat → Int32} {np nt : Nat} (hB : NB w np nt) : NB (swW w) np nt := ⟨(sw_a (by omega)).trans hB.1, (sw_a (by omega)).trans hB.2.1, hB.2.2⟩
theorem c_reverseNet {h : MH} {i np nt : Nat} {s : AS} (hP : PO h i s) (hB : NB (aW s) np nt) : OPC x sX4_reverseNet [.ref i] h i [] (qRev s np nt) := by
  have a0 := hP.1.1
  (refine CT_of (o := 4) rfl (by decide +kernel) (by simp [Value.category, sX4_reverseNet]) (MW_ev kX4_reverseNet 300 ?_); show evS _ _ _ _ _ _ 300 0 (0, 0) [.ref i] [] _; simp only [st_iconst, st_lconst, st_ldc2_w, st_ldc, st_iload, st_lload, st_aload, st_istore, st_astore, st_lstore, st_iinc, st_iadd, st_isub, st_imul, st_idiv, st_irem, st_iand, st_ior, st_ishl, st_ishr, st_iushr, st_ladd, st_lmul, st_lshl, st_lushr, st_lcmp, st_i2l, st_l2i, st_i2b, st_i2c, st_i2d, st_i2f, st_dconst, st_fconst, st_ddiv, st_fdiv, st_dup, st_dup2, st_pop, st_goto, st_if_icmp, st_ifCond, st_tableswitch, st_lookupswitch, st_iaload, st_baload, st_laload, st_aaload, st_iastore, st_bastore, st_lastore, st_aastore, st_saload, st_faload, st_jsr, st_caload, st_d2i, st_d2f, st_ineg, st_ixor, st_dup_x1, st_aconst_null, st_ifnonnull, st_castore, st_getstatic, st_frem, st_drem, st_monitorexit, st_monitorenter, st_invokeinterface, st_newarray, st_anewarray, st_multianewarray, asI_c, asJ_c, asR_c, asD_c, asF_c, popI_c, popJ_c, popR_c, popD_c, popF_c, pop1_c, okSt_0, okSt_S, rcv_0, rcv_1, rcv_2, rcv_3, rcv_4, rcv_5, rcv_8, pI_c, pJ_c, pR_c, pV_c, pD_c, pF_c, cmp_eq, cmp_ne, cmp_lt, cmp_ge, cmp_gt, cmp_le, nth_0, nth_S, set_0, set_S, cat_int, cat_ref, cat_long, cat_double, cat_float, cat_null, catS_0, catS_S, swT_0, swT_S, swL_0, swL_S, Nat.add_zero, Nat.reduceAdd, Nat.reduceSub, Nat.reduceLT, Nat.reduceLeDiff, true_and, and_true, eq_self, eX4_reverseNet_0, fX4_reverseNet_0, eX4_reverseNet_1, iv4_109, c_X4_beginChange, eX4_reverseNet_4, eX4_reverseNet_5, gf4_13, eX4_reverseNet_8, iv4_171, c_X2_swapInputsAndOutputs, eX4_reverseNet_11, eX4_reverseNet_12, eX4_reverseNet_15, iv4_174, c_X2_enabledSet, eX4_reverseNet_18, iv4_177, c_J6_bitCount_0f7a4, eX4_reverseNet_21, d_X4_reverseNet, re_X4_reverseNet])
  refine ⟨a0, CV_of (c_beginChange hP) (fun _ _ z => z.elim) fun h1 ⟨hP1, h17, hF1, hE1⟩ => ?_⟩
  clear a0
  obtain ⟨a0, p0, -, -, -, -, -, -, -, n0, -⟩ := PO_nw hP1 (np := np) (nt := nt) hB
  simp (disch := omega) only [nI_mul, nI_add, nI_clamp, nI_inE, nI_leE, nI_ltE, nI_eqE, nI_eqz, nI_ltz, nI_gez, nI_lez, nI_gtz, nI_m1, nI_m1', nI_ltm, nI_gem, nI_gtm, nI_lem, nI_00, nI_01, nI_10, nI_11, bI_z, bI_1, bI_0, bI_b, bI_nz, bit_e, arK_i, arK_b, arK_j, true_and, and_true, ne_eq, not_false_eq_true, not_true_eq_false, false_and, and_false, true_or, or_true, false_or, or_false, Classical.not_not, forall_const, true_implies, implies_true, false_implies, eq_self, a0, p0, n0]
  refine ⟨Nat.succ_ne_zero _, CV_of (c_swap hP1.2.1) (fun _ _ z => z.elim) fun h2 ⟨hN2, hF2⟩ => ?_⟩
  clear a0 p0 n0
  have hP2 := PO_net hP1 h17 hF2 hN2
  (try clear a0; try clear p0; try clear p1; try clear p2; try clear p4; try clear p5; try clear p6; try clear p8; try clear p9)
  obtain ⟨a0, p0, -⟩ := id hP2.1
  have n0 := hN2.1.1
  simp (disch := omega) only [nI_mul, nI_add, nI_clamp, nI_inE, nI_leE, nI_ltE, nI_eqE, nI_eqz, nI_ltz, nI_gez, nI_lez, nI_gtz, nI_m1, nI_m1', nI_ltm, nI_gem, nI_gtm, nI_lem, nI_00, nI_01, nI_10, nI_11, bI_z, bI_1, bI_0, bI_b, bI_nz, bit_e, arK_i, arK_b, arK_j, true_and, and_true, ne_eq, not_false_eq_true, not_true_eq_false, false_and, and_false, true_or, or_true, false_or, or_false, Classical.not_not, forall_const, true_implies, implies_true, false_implies, eq_self, a0, p0, n0]
  refine ⟨Nat.succ_ne_zero _, CI_pure (c_enabledSet hN2.1 (sw_B hB)) ?_⟩
  obtain ⟨k, hk, ek, hb⟩ := es_nat (w := swW (aW s)) (np := np) nt hB.2.2.2.2.2
  have hp := pw_le hB.2.2.2.2.2
  rw [show esW (swW (aW (chg s))) np nt = nI k from ek]
  exact CI_pure (c_bitCount (by omega)) (ok_of (by rw [qRev, ek]; rfl) hP2 (FZ_tr hF1 (FZ_rm hF2 (by omega) (by omega))))
/-! invariants -/
theorem PD_rd {h : MH} {i : Nat} {s : AS} (hP : PO h i s) : mK h i = 5 ∧ mP h i 0 = i + 1 ∧ mP h i 8 = i + 117 ∧ mK h (i + 1) = 3 ∧ mK h (i + 117) = 11 ∧ mL h (i + 117) = 10 := by
  obtain ⟨a0, p0, -, -, -, -, -, p8, -⟩ := hP.1
  exact ⟨a0, p0, p8, hP.2.1.1.1, hP.2.2.2.2.2.2.2.2.1.1, hP.2.2.2.2.2.2.2.2.1.2⟩
theorem c_isSimple {h : MH} {i np nt k : Nat} {s : AS} (hP : PO h i s) (hB : NB (aW s) np nt) : CT x sX4_isSimpleInvariant [.ref i, .int (nI k)] h (pI fun r h' => r = bI (siW (aW s) np nt k) ∧ PO h' i s ∧ FRr h h' (i + 117) (i + 118)) xNo := by
  have hnp := hB.2.2.2.1
  (refine CT_of (o := 4) rfl (by decide +kernel) (by simp [Value.category, sX4_isSimpleInvariant]) (MW_ev kX4_isSimpleInvariant 300 ?_); show evS _ _ _ _ _ _ 300 0 (0, 0) [.ref i, .int (nI k), .null] [] _; simp only [st_iconst, st_lconst, st_ldc2_w, st_ldc, st_iload, st_lload, st_aload, st_istore, st_astore, st_lstore, st_iinc, st_iadd, st_isub, st_imul, st_idiv, st_irem, st_iand, st_ior, st_ishl, st_ishr, st_iushr, st_ladd, st_lmul, st_lshl, st_lushr, st_lcmp, st_i2l, st_l2i, st_i2b, st_i2c, st_i2d, st_i2f, st_dconst, st_fconst, st_ddiv, st_fdiv, st_dup, st_dup2, st_pop, st_goto, st_if_icmp, st_ifCond, st_tableswitch, st_lookupswitch, st_iaload, st_baload, st_laload, st_aaload, st_iastore, st_bastore, st_lastore, st_aastore, st_saload, st_faload, st_jsr, st_caload, st_d2i, st_d2f, st_ineg, st_ixor, st_dup_x1, st_aconst_null, st_ifnonnull, st_castore, st_getstatic, st_frem, st_drem, st_monitorexit, st_monitorenter, st_invokeinterface, st_newarray, st_anewarray, st_multianewarray, asI_c, asJ_c, asR_c, asD_c, asF_c, popI_c, popJ_c, popR_c, popD_c, popF_c, pop1_c, okSt_0, okSt_S, rcv_0, rcv_1, rcv_2, rcv_3, rcv_4, rcv_5, rcv_8, pI_c, pJ_c, pR_c, pV_c, pD_c, pF_c, cmp_eq, cmp_ne, cmp_lt, cmp_ge, cmp_gt, cmp_le, nth_0, nth_S, set_0, set_S, cat_int, cat_ref, cat_long, cat_double, cat_float, cat_null, catS_0, catS_S, swT_0, swT_S, swL_0, swL_S, Nat.add_zero, Nat.reduceAdd, Nat.reduceSub, Nat.reduceLT, Nat.reduceLeDiff, true_and, and_true, eq_self, eX4_isSimpleInvariant_0, fX4_isSimpleInvariant_0, cI_0, eX4_isSimpleInvariant_1, eX4_isSimpleInvariant_2, fX4_isSimpleInvariant_2, eX4_isSimpleInvariant_3, cI_8, eX4_isSimpleInvariant_5, tn_25, eX4_isSimpleInvariant_8, eX4_isSimpleInvariant_9, gf4_54, eX4_isSimpleInvariant_12, eX4_isSimpleInvariant_13, eX4_isSimpleInvariant_14, eX4_isSimpleInvariant_15, eX4_isSimpleInvariant_16, cI_1, eX4_isSimpleInvariant_17, eX4_isSimpleInvariant_18, eX4_isSimpleInvariant_19, eX4_isSimpleInvariant_22, tn_2, eX4_isSimpleInvariant_25, eX4_isSimpleInvariant_26, gf4_13, eX4_isSimpleInvariant_29, eX4_isSimpleInvariant_30, eX4_isSimpleInvariant_33, iv4_255, c_X2_keepsWeightedTokens, eX4_isSimpleInvariant_36, d_X4_isSimpleInvariant, re_X4_isSimpleInvariant])
  refine loop_up 8 (P := fun p => ∀ h1, PO h1 i s → FRr h h1 (i + 117) (i + 118) → (∀ j, j < p → mI h1 (i + 117) j = sbS (nI k) j) → MW x sX4_isSimpleInvariant 4 _ xNo 2 (0, 0) [.ref i, .int (nI k), .int (nI p)] [] h1) (fun p hp ih h1 hP1 hF1 hd => ?_) 0 (Nat.zero_le _) h hP FRr_rfl (fun j hj => absurd hj (Nat.not_lt_zero _))
  obtain ⟨a0, p0, p8, n0, k1, l1⟩ := PD_rd hP1
  (refine MW_ev kX4_isSimpleInvariant 300 ?_; simp only [st_iconst, st_lconst, st_ldc2_w, st_ldc, st_iload, st_lload, st_aload, st_istore, st_astore, st_lstore, st_iinc, st_iadd, st_isub, st_imul, st_idiv, st_irem, st_iand, st_ior, st_ishl, st_ishr, st_iushr, st_ladd, st_lmul, st_lshl, st_lushr, st_lcmp, st_i2l, st_l2i, st_i2b, st_i2c, st_i2d, st_i2f, st_dconst, st_fconst, st_ddiv, st_fdiv, st_dup, st_dup2, st_pop, st_goto, st_if_icmp, st_ifCond, st_tableswitch, st_lookupswitch, st_iaload, st_baload, st_laload, st_aaload, st_iastore, st_bastore, st_lastore, st_aastore, st_saload, st_faload, st_jsr, st_caload, st_d2i, st_d2f, st_ineg, st_ixor, st_dup_x1, st_aconst_null, st_ifnonnull, st_castore, st_getstatic, st_frem, st_drem, st_monitorexit, st_monitorenter, st_invokeinterface, st_newarray, st_anewarray, st_multianewarray, asI_c, asJ_c, asR_c, asD_c, asF_c, popI_c, popJ_c, popR_c, popD_c, popF_c, pop1_c, okSt_0, okSt_S, rcv_0, rcv_1, rcv_2, rcv_3, rcv_4, rcv_5, rcv_8, pI_c, pJ_c, pR_c, pV_c, pD_c, pF_c, cmp_eq, cmp_ne, cmp_lt, cmp_ge, cmp_gt, cmp_le, nth_0, nth_S, set_0, set_S, cat_int, cat_ref, cat_long, cat_double, cat_float, cat_null, catS_0, catS_S, swT_0, swT_S, swL_0, swL_S, Nat.add_zero, Nat.reduceAdd, Nat.reduceSub, Nat.reduceLT, Nat.reduceLeDiff, true_and, and_true, eq_self, eX4_isSimpleInvariant_0, fX4_isSimpleInvariant_0, cI_0, eX4_isSimpleInvariant_1, eX4_isSimpleInvariant_2, fX4_isSimpleInvariant_2, eX4_isSimpleInvariant_3, cI_8, eX4_isSimpleInvariant_5, tn_25, eX4_isSimpleInvariant_8, eX4_isSimpleInvariant_9, gf4_54, eX4_isSimpleInvariant_12, eX4_isSimpleInvariant_13, eX4_isSimpleInvariant_14, eX4_isSimpleInvariant_15, eX4_isSimpleInvariant_16, cI_1, eX4_isSimpleInvariant_17, eX4_isSimpleInvariant_18, eX4_isSimpleInvariant_19, eX4_isSimpleInvariant_22, tn_2, eX4_isSimpleInvariant_25, eX4_isSimpleInvariant_26, gf4_13, eX4_isSimpleInvariant_29, eX4_isSimpleInvariant_30, eX4_isSimpleInvariant_33, iv4_255, c_X2_keepsWeightedTokens, eX4_isSimpleInvariant_36, d_X4_isSimpleInvariant, re_X4_isSimpleInvariant])
  rcases Nat.lt_or_ge p 8 with hl | hl
  · simp (disch := omega) only [nI_mul, nI_add, nI_clamp, nI_inE, nI_leE, nI_ltE, nI_eqE, nI_eqz, nI_ltz, nI_gez, nI_lez, nI_gtz, nI_m1, nI_m1', nI_ltm, nI_gem, nI_gtm, nI_lem, nI_00, nI_01, nI_10, nI_11, bI_z, bI_1, bI_0, bI_b, bI_nz, bit_e, arK_i, arK_b, arK_j, true_and, and_true, ne_eq, not_false_eq_true, not_true_eq_false, false_and, and_false, true_or, or_true, false_or, or_false, Classical.not_not, forall_const, true_implies, implies_true, false_implies, eq_self, a0, p8, k1, l1, hl, Nat.not_le.mpr hl]
    have hF2 : FRr h1 (sI h1 (i + 117) p (sbS (nI k) p)) (i + 117) (i + 118) := FRr_sI (by omega) (by omega)
    refine ⟨Nat.succ_ne_zero _, ih hl _ (PO_dig hP1 hF2) (FRr_tr hF1 hF2) (lt_succ_all (fun j hj => ?_) sI_Ie)⟩
    rw [sI_Ik (by omega)]; exact hd j hj
  · obtain rfl : p = 8 := by omega
    simp (disch := omega) only [nI_mul, nI_add, nI_clamp, nI_inE, nI_leE, nI_ltE, nI_eqE, nI_eqz, nI_ltz, nI_gez, nI_lez, nI_gtz, nI_m1, nI_m1', nI_ltm, nI_gem, nI_gtm, nI_lem, nI_00, nI_01, nI_10, nI_11, bI_z, bI_1, bI_0, bI_b, bI_nz, bit_e, arK_i, arK_b, arK_j, true_and, and_true, ne_eq, not_false_eq_true, not_true_eq_false, false_and, and_false, true_or, or_true, false_or, or_false, Classical.not_not, forall_const, true_implies, implies_true, false_implies, eq_self, a0, p0, p8, n0, Nat.le_refl]
    exact ⟨Nat.succ_ne_zero _, Nat.succ_ne_zero _, CI_pure (c_keepsWeighted hP1.2.1.1 hB k1 l1 fun j hj => hd j (by omega)) ⟨of_eq_true bI_b, rfl, hP1, hF1⟩⟩
theorem FZ_dig {h h1 : MH} {i : Nat} (hF : FRr h h1 (i + 117) (i + 118)) : FZ h h1 i (i + 119) := FZ_rm hF (by omega) (by omega)
theorem c_violations {h : MH} {i np nt : Nat} {s : AS} (hP : PO h i s) (hB : NB (aW s) np nt) (hpos : 0 < exC (expE (aW s) np nt)) : OPC x sX4_violations [.ref i] h i [] (okA s (voS (aW s) np nt (2 ^ np - 1))) := by
  have a0 := hP.1.1
  have hnp := hB.2.2.2.1
  have hb := bit_pw np (by omega)
  have hpw := pw_le (n := np) (by omega)
  have hp1 : 0 < 2 ^ np := Nat.pow_pos (by decide)
  obtain ⟨m, hm⟩ : ∃ m, 2 ^ np = m + 1 := ⟨2 ^ np - 1, by omega⟩
  rw [hm] at hb hpw
  rw [hm, Nat.add_sub_cancel]
  clear hp1 hm
  (refine CT_of (o := 4) rfl (by decide +kernel) (by simp [Value.category, sX4_violations]) (MW_ev kX4_violations 300 ?_); show evS _ _ _ _ _ _ 300 0 (0, 0) [.ref i, .null, .null, .null] [] _; simp only [st_iconst, st_lconst, st_ldc2_w, st_ldc, st_iload, st_lload, st_aload, st_istore, st_astore, st_lstore, st_iinc, st_iadd, st_isub, st_imul, st_idiv, st_irem, st_iand, st_ior, st_ishl, st_ishr, st_iushr, st_ladd, st_lmul, st_lshl, st_lushr, st_lcmp, st_i2l, st_l2i, st_i2b, st_i2c, st_i2d, st_i2f, st_dconst, st_fconst, st_ddiv, st_fdiv, st_dup, st_dup2, st_pop, st_goto, st_if_icmp, st_ifCond, st_tableswitch, st_lookupswitch, st_iaload, st_baload, st_laload, st_aaload, st_iastore, st_bastore, st_lastore, st_aastore, st_saload, st_faload, st_jsr, st_caload, st_d2i, st_d2f, st_ineg, st_ixor, st_dup_x1, st_aconst_null, st_ifnonnull, st_castore, st_getstatic, st_frem, st_drem, st_monitorexit, st_monitorenter, st_invokeinterface, st_newarray, st_anewarray, st_multianewarray, asI_c, asJ_c, asR_c, asD_c, asF_c, popI_c, popJ_c, popR_c, popD_c, popF_c, pop1_c, okSt_0, okSt_S, rcv_0, rcv_1, rcv_2, rcv_3, rcv_4, rcv_5, rcv_8, pI_c, pJ_c, pR_c, pV_c, pD_c, pF_c, cmp_eq, cmp_ne, cmp_lt, cmp_ge, cmp_gt, cmp_le, nth_0, nth_S, set_0, set_S, cat_int, cat_ref, cat_long, cat_double, cat_float, cat_null, catS_0, catS_S, swT_0, swT_S, swL_0, swL_S, Nat.add_zero, Nat.reduceAdd, Nat.reduceSub, Nat.reduceLT, Nat.reduceLeDiff, true_and, and_true, eq_self, eX4_violations_0, fX4_violations_0, eX4_violations_1, iv4_150, c_X4_explored, eX4_violations_4, eX4_violations_5, eX4_violations_6, gf4_13, eX4_violations_9, iv4_275, c_X2_placesOutOfRange, eX4_violations_12, eX4_violations_13, cI_1, eX4_violations_14, eX4_violations_15, fX4_violations_15, eX4_violations_16, eX4_violations_17, eX4_violations_18, eX4_violations_21, gf4_200, eX4_violations_24, eX4_violations_25, tn_53, eX4_violations_28, eX4_violations_29, eX4_violations_30, iv4_262, c_X4_isSimpleInvariant, eX4_violations_33, tn_47, eX4_violations_36, eX4_violations_37, eX4_violations_38, iv4_278, c_X0_keepsTokensOf, eX4_violations_41, eX4_violations_44, eX4_violations_47, eX4_violations_50, tn_15, eX4_violations_53, eX4_violations_54, d_X4_violations, re_X4_violations])
  refine ⟨a0, call_xp hP hB fun h1 ⟨hP1, hA1, hF1⟩ => ?_⟩
  clear a0
  obtain ⟨a0, p0, -, -, -, -, -, -, -, n0, -⟩ := PO_nw hP1 hB
  simp (disch := omega) only [nI_mul, nI_add, nI_clamp, nI_inE, nI_leE, nI_ltE, nI_eqE, nI_eqz, nI_ltz, nI_gez, nI_lez, nI_gtz, nI_m1, nI_m1', nI_ltm, nI_gem, nI_gtm, nI_lem, nI_00, nI_01, nI_10, nI_11, bI_z, bI_1, bI_0, bI_b, bI_nz, bit_e, arK_i, arK_b, arK_j, true_and, and_true, ne_eq, not_false_eq_true, not_true_eq_false, false_and, and_false, true_or, or_true, false_or, or_false, Classical.not_not, forall_const, true_implies, implies_true, false_implies, eq_self, a0, p0, n0]
  refine ⟨Nat.succ_ne_zero _, CI_pure (c_placesOutOfRange hP1.2.1.1 hB) ?_⟩
  clear a0 p0 n0
  refine loop_up m (P := fun k => ∀ h1, PO h1 i s → XA h1 (i + 103) (expE (aW s) np nt) (aW s) np nt → FZ h h1 i (i + 119) → MW x sX4_violations 4 (pI (okP (okA s (voS (aW s) np nt m)) h i)) (thP (okA s (voS (aW s) np nt m)) [] h i) 15 (0, 0) [.ref i, .ref (i + 103), .int (voS (aW s) np nt k), .int (nI (k + 1))] [] h1) (fun k hk ih h1 hP1 hA1 hF1 => ?_) 0 (Nat.zero_le _) h1 hP1 hA1 hF1
  (try clear a0; try clear p0; try clear p1; try clear p2; try clear p4; try clear p5; try clear p6; try clear p8; try clear p9; try clear n0; try clear n1; try clear n2)
  obtain ⟨a0, p0, -, -, -, -, -, -, -, n0, n1, -⟩ := PO_nw hP1 hB
  (refine MW_ev kX4_violations 300 ?_; simp only [st_iconst, st_lconst, st_ldc2_w, st_ldc, st_iload, st_lload, st_aload, st_istore, st_astore, st_lstore, st_iinc, st_iadd, st_isub, st_imul, st_idiv, st_irem, st_iand, st_ior, st_ishl, st_ishr, st_iushr, st_ladd, st_lmul, st_lshl, st_lushr, st_lcmp, st_i2l, st_l2i, st_i2b, st_i2c, st_i2d, st_i2f, st_dconst, st_fconst, st_ddiv, st_fdiv, st_dup, st_dup2, st_pop, st_goto, st_if_icmp, st_ifCond, st_tableswitch, st_lookupswitch, st_iaload, st_baload, st_laload, st_aaload, st_iastore, st_bastore, st_lastore, st_aastore, st_saload, st_faload, st_jsr, st_caload, st_d2i, st_d2f, st_ineg, st_ixor, st_dup_x1, st_aconst_null, st_ifnonnull, st_castore, st_getstatic, st_frem, st_drem, st_monitorexit, st_monitorenter, st_invokeinterface, st_newarray, st_anewarray, st_multianewarray, asI_c, asJ_c, asR_c, asD_c, asF_c, popI_c, popJ_c, popR_c, popD_c, popF_c, pop1_c, okSt_0, okSt_S, rcv_0, rcv_1, rcv_2, rcv_3, rcv_4, rcv_5, rcv_8, pI_c, pJ_c, pR_c, pV_c, pD_c, pF_c, cmp_eq, cmp_ne, cmp_lt, cmp_ge, cmp_gt, cmp_le, nth_0, nth_S, set_0, set_S, cat_int, cat_ref, cat_long, cat_double, cat_float, cat_null, catS_0, catS_S, swT_0, swT_S, swL_0, swL_S, Nat.add_zero, Nat.reduceAdd, Nat.reduceSub, Nat.reduceLT, Nat.reduceLeDiff, true_and, and_true, eq_self, eX4_violations_0, fX4_violations_0, eX4_violations_1, iv4_150, c_X4_explored, eX4_violations_4, eX4_violations_5, eX4_violations_6, gf4_13, eX4_violations_9, iv4_275, c_X2_placesOutOfRange, eX4_violations_12, eX4_violations_13, cI_1, eX4_violations_14, eX4_violations_15, fX4_violations_15, eX4_violations_16, eX4_violations_17, eX4_violations_18, eX4_violations_21, gf4_200, eX4_violations_24, eX4_violations_25, tn_53, eX4_violations_28, eX4_violations_29, eX4_violations_30, iv4_262, c_X4_isSimpleInvariant, eX4_violations_33, tn_47, eX4_violations_36, eX4_violations_37, eX4_violations_38, iv4_278, c_X0_keepsTokensOf, eX4_violations_41, eX4_violations_44, eX4_violations_47, eX4_violations_50, tn_15, eX4_violations_53, eX4_violations_54, d_X4_violations, re_X4_violations])
  rcases Nat.lt_or_ge k m with hl | hl
  · simp (disch := omega) only [nI_mul, nI_add, nI_clamp, nI_inE, nI_leE, nI_ltE, nI_eqE, nI_eqz, nI_ltz, nI_gez, nI_lez, nI_gtz, nI_m1, nI_m1', nI_ltm, nI_gem, nI_gtm, nI_lem, nI_00, nI_01, nI_10, nI_11, bI_z, bI_1, bI_0, bI_b, bI_nz, bit_e, arK_i, arK_b, arK_j, true_and, and_true, ne_eq, not_false_eq_true, not_true_eq_false, false_and, and_false, true_or, or_true, false_or, or_false, Classical.not_not, forall_const, true_implies, implies_true, false_implies, eq_self, a0, p0, n0, n1, hb]
    refine ⟨Nat.succ_ne_zero _, fun z => absurd z (by omega), fun _ => CI_of (c_isSimple hP1 hB) (fun _ _ z => z.elim) fun r h2 ⟨er, hP2, hF2⟩ => ?_⟩
    clear a0 p0 n0
    have hA2 := XA_ea hA1 (EQr_fr hF2 (lo' := i + 103) (hi' := i + 103 + 14) (by omega))
    have ih := ih hl h2 hP2 hA2 (FZ_tr hF1 (FZ_dig hF2))
    have x0 := hA2.1.1
    rw [er]
    simp (disch := omega) only [nI_mul, nI_add, nI_clamp, nI_inE, nI_leE, nI_ltE, nI_eqE, nI_eqz, nI_ltz, nI_gez, nI_lez, nI_gtz, nI_m1, nI_m1', nI_ltm, nI_gem, nI_gtm, nI_lem, nI_00, nI_01, nI_10, nI_11, bI_z, bI_1, bI_0, bI_b, bI_nz, bit_e, arK_i, arK_b, arK_j, true_and, and_true, ne_eq, not_false_eq_true, not_true_eq_false, false_and, and_false, true_or, or_true, false_or, or_false, Classical.not_not, forall_const, true_implies, implies_true, false_implies, eq_self, x0]
    refine ⟨fun g => ?_, fun g => CI_pure (c_keepsTokensOf hA2 hpos) ?_⟩
    · rwa [show voS (aW s) np nt (k + 1) = voS (aW s) np nt k from iteC_f fun z => g z.1] at ih
    · simp (disch := omega) only [nI_mul, nI_add, nI_clamp, nI_inE, nI_leE, nI_ltE, nI_eqE, nI_eqz, nI_ltz, nI_gez, nI_lez, nI_gtz, nI_m1, nI_m1', nI_ltm, nI_gem, nI_gtm, nI_lem, nI_00, nI_01, nI_10, nI_11, bI_z, bI_1, bI_0, bI_b, bI_nz, bit_e, arK_i, arK_b, arK_j, true_and, and_true, ne_eq, not_false_eq_true, not_true_eq_false, false_and, and_false, true_or, or_true, false_or, or_false, Classical.not_not, forall_const, true_implies, implies_true, false_implies, eq_self]
      refine ⟨fun g2 => ?_, fun g2 => ?_⟩
      · rwa [show voS (aW s) np nt (k + 1) = voS (aW s) np nt k from iteC_f fun z => z.2 g2] at ih
      · rwa [show voS (aW s) np nt (k + 1) = voS (aW s) np nt k + nI 1 from iteC_t ⟨g, g2⟩] at ih
  · obtain rfl : k = m := by omega
    simp (disch := omega) only [nI_mul, nI_add, nI_clamp, nI_inE, nI_leE, nI_ltE, nI_eqE, nI_eqz, nI_ltz, nI_gez, nI_lez, nI_gtz, nI_m1, nI_m1', nI_ltm, nI_gem, nI_gtm, nI_lem, nI_00, nI_01, nI_10, nI_11, bI_z, bI_1, bI_0, bI_b, bI_nz, bit_e, arK_i, arK_b, arK_j, true_and, and_true, ne_eq, not_false_eq_true, not_true_eq_false, false_and, and_false, true_or, or_true, false_or, or_false, Classical.not_not, forall_const, true_implies, implies_true, false_implies, eq_self, a0, p0, n0, n1, hb, Nat.le_refl]
    exact ⟨Nat.succ_ne_zero _, ok_of rfl hP1 hF1⟩
end PET
