section EXP
variable {x : CX}
/-- an exploration: how many markings, their keys, distances, transitions, enabled sets, and whether it is whole -/
abbrev EE := Nat × (Nat → Int64) × (Nat → Int32) × (Nat → Int32) × (Nat → Int32) × Prop
def exC (E : EE) : Nat := E.1
def exK (E : EE) : Nat → Int64 := E.2.1
def exD (E : EE) : Nat → Int32 := E.2.2.1
def exF (E : EE) : Nat → Int32 := E.2.2.2.1
def exS (E : EE) : Nat → Int32 := E.2.2.2.2.1
def exW (E : EE) : Prop := E.2.2.2.2.2
/-- where an exploration's arrays lie -/
def XS (h : MH) (i : Nat) : Prop := mK h i = 1 ∧ mP h i 0 = i + 1 ∧ mP h i 1 = i + 2 ∧ mP h i 2 = i + 3 ∧ mP h i 3 = i + 4 ∧ mP h i 4 = i + 5 ∧ mP h i 5 = i + 6 ∧ mP h i 6 = i + 7 ∧
  mK h (i + 1) = 13 ∧ mL h (i + 1) = 150 ∧ mK h (i + 2) = 11 ∧ mL h (i + 2) = 150 ∧ mK h (i + 3) = 11 ∧ mL h (i + 3) = 150 ∧ mK h (i + 4) = 11 ∧ mL h (i + 4) = 150 ∧ mK h (i + 5) = 13 ∧ mL h (i + 5) = 10 ∧ mK h (i + 6) = 11 ∧ mL h (i + 6) = 512
/-- what it holds -/
def XV (h : MH) (i : Nat) (E : EE) : Prop := exC E ≤ 150 ∧ mI h i 7 = nI (exC E) ∧ mI h i 8 = bI (exW E) ∧ ∀ n, n < exC E → mJ h (i + 1) n = exK E n ∧ mI h (i + 2) n = exD E n ∧ mI h (i + 3) n = exF E n ∧ mI h (i + 4) n = exS E n
/-- the net that it was made of -/
def XW (h : MH) (i : Nat) (w : Nat → Int32) (np nt : Nat) : Prop := NB w np nt ∧ (∃ u, NW h (i + 7) u ∧ ∀ m, m < 2 ∨ 10 ≤ m → u m = w m) ∧ ∀ t, t < nt → mJ h (i + 5) t = pcS w t np
/-- the bit of a set -/
def tb (s : Int32) (t : Nat) : Prop := (s >>> (nI t &&& 31)) &&& nI 1 = nI 1
theorem c_tokensIn {h : MH} {i n p : Nat} {E : EE} (hS : XS h i) (hV : XV h i E) (hn : n < exC E) : CT x sX0_tokensIn [.ref i, .int (nI n), .int (nI p)] h (pI fun r h' => r = upT (exK E n) p ∧ h' = h) xNo := by
  obtain ⟨s0, s1, s2, s3, s4, s5, s6, s7, k1, l1, k2, l2, k3, l3, k4, l4, k5, l5, k6, l6⟩ := hS
  obtain ⟨v0, v1, v2, v3⟩ := hV
  obtain ⟨u1, u2, u3, u4⟩ := v3 n hn
  (refine CT_of (o := 0) rfl (by decide +kernel) (by simp [Value.category, sX0_tokensIn]) (MW_ev kX0_tokensIn 300 ?_); show evS _ _ _ _ _ _ 300 0 (0, 0) [.ref i, .int (nI n), .int (nI p)] [] _; simp only [st_iconst, st_lconst, st_ldc2_w, st_ldc, st_iload, st_lload, st_aload, st_istore, st_astore, st_lstore, st_iinc, st_iadd, st_isub, st_imul, st_idiv, st_irem, st_iand, st_ior, st_ishl, st_ishr, st_iushr, st_ladd, st_lmul, st_lshl, st_lushr, st_lcmp, st_i2l, st_l2i, st_i2b, st_i2c, st_i2d, st_i2f, st_dconst, st_fconst, st_ddiv, st_fdiv, st_dup, st_dup2, st_pop, st_goto, st_if_icmp, st_ifCond, st_tableswitch, st_lookupswitch, st_iaload, st_baload, st_laload, st_aaload, st_iastore, st_bastore, st_lastore, st_aastore, st_saload, st_faload, st_jsr, st_caload, st_d2i, st_d2f, st_ineg, st_ixor, st_dup_x1, st_aconst_null, st_ifnonnull, st_castore, st_getstatic, st_frem, st_drem, st_monitorexit, st_monitorenter, st_invokeinterface, st_newarray, st_anewarray, st_multianewarray, asI_c, asJ_c, asR_c, asD_c, asF_c, popI_c, popJ_c, popR_c, popD_c, popF_c, pop1_c, okSt_0, okSt_S, rcv_0, rcv_1, rcv_2, rcv_3, rcv_4, rcv_5, rcv_8, pI_c, pJ_c, pR_c, pV_c, pD_c, pF_c, cmp_eq, cmp_ne, cmp_lt, cmp_ge, cmp_gt, cmp_le, nth_0, nth_S, set_0, set_S, cat_int, cat_ref, cat_long, cat_double, cat_float, cat_null, catS_0, catS_S, swT_0, swT_S, swL_0, swL_S, Nat.add_zero, Nat.reduceAdd, Nat.reduceSub, Nat.reduceLT, Nat.reduceLeDiff, true_and, and_true, eq_self, eX0_tokensIn_0, fX0_tokensIn_0, eX0_tokensIn_1, gf0_9, eX0_tokensIn_4, eX0_tokensIn_5, eX0_tokensIn_6, eX0_tokensIn_7, iv0_86, c_X2_unpackTokens, eX0_tokensIn_10, d_X0_tokensIn, re_X0_tokensIn])
  simp (disch := omega) only [nI_mul, nI_add, nI_clamp, nI_inE, nI_leE, nI_ltE, nI_eqE, nI_eqz, nI_ltz, nI_gez, nI_lez, nI_gtz, nI_m1, nI_m1', nI_ltm, nI_gem, nI_gtm, nI_lem, nI_00, nI_01, nI_10, nI_11, bI_z, bI_1, bI_0, bI_b, bI_nz, bit_e, arK_i, arK_b, arK_j, true_and, and_true, ne_eq, not_false_eq_true, not_true_eq_false, false_and, and_false, true_or, or_true, false_or, or_false, Classical.not_not, forall_const, true_implies, implies_true, false_implies, eq_self, s0, s1, s2, s3, s4, s5, s6, s7, k1, l1, k2, l2, k3, l3, k4, l4, k5, l5, k6, l6, v1, v2, u1, u2, u3, u4]
  exact ⟨by omega, CI_pure c_unpackTokens ⟨rfl, rfl⟩⟩
theorem c_isEnabledIn {h : MH} {i n t : Nat} {E : EE} (hS : XS h i) (hV : XV h i E) (hn : n < exC E) : CT x sX0_isEnabledIn [.ref i, .int (nI n), .int (nI t)] h (pI fun r h' => r = bI (tb (exS E n) t) ∧ h' = h) xNo := by
  obtain ⟨s0, s1, s2, s3, s4, s5, s6, s7, k1, l1, k2, l2, k3, l3, k4, l4, k5, l5, k6, l6⟩ := hS
  obtain ⟨v0, v1, v2, v3⟩ := hV
  obtain ⟨u1, u2, u3, u4⟩ := v3 n hn
  (refine CT_of (o := 0) rfl (by decide +kernel) (by simp [Value.category, sX0_isEnabledIn]) (MW_ev kX0_isEnabledIn 300 ?_); show evS _ _ _ _ _ _ 300 0 (0, 0) [.ref i, .int (nI n), .int (nI t)] [] _; simp only [st_iconst, st_lconst, st_ldc2_w, st_ldc, st_iload, st_lload, st_aload, st_istore, st_astore, st_lstore, st_iinc, st_iadd, st_isub, st_imul, st_idiv, st_irem, st_iand, st_ior, st_ishl, st_ishr, st_iushr, st_ladd, st_lmul, st_lshl, st_lushr, st_lcmp, st_i2l, st_l2i, st_i2b, st_i2c, st_i2d, st_i2f, st_dconst, st_fconst, st_ddiv, st_fdiv, st_dup, st_dup2, st_pop, st_goto, st_if_icmp, st_ifCond, st_tableswitch, st_lookupswitch, st_iaload, st_baload, st_laload, st_aaload, st_iastore, st_bastore, st_lastore, st_aastore, st_saload, st_faload, st_jsr, st_caload, st_d2i, st_d2f, st_ineg, st_ixor, st_dup_x1, st_aconst_null, st_ifnonnull, st_castore, st_getstatic, st_frem, st_drem, st_monitorexit, st_monitorenter, st_invokeinterface, st_newarray, st_anewarray, st_multianewarray, asI_c, asJ_c, asR_c, asD_c, asF_c, popI_c, popJ_c, popR_c, popD_c, popF_c, pop1_c, okSt_0, okSt_S, rcv_0, rcv_1, rcv_2, rcv_3, rcv_4, rcv_5, rcv_8, pI_c, pJ_c, pR_c, pV_c, pD_c, pF_c, cmp_eq, cmp_ne, cmp_lt, cmp_ge, cmp_gt, cmp_le, nth_0, nth_S, set_0, set_S, cat_int, cat_ref, cat_long, cat_double, cat_float, cat_null, catS_0, catS_S, swT_0, swT_S, swL_0, swL_S, Nat.add_zero, Nat.reduceAdd, Nat.reduceSub, Nat.reduceLT, Nat.reduceLeDiff, true_and, and_true, eq_self, eX0_isEnabledIn_0, fX0_isEnabledIn_0, eX0_isEnabledIn_1, gf0_22, eX0_isEnabledIn_4, eX0_isEnabledIn_5, eX0_isEnabledIn_6, eX0_isEnabledIn_7, eX0_isEnabledIn_8, cI_1, eX0_isEnabledIn_9, eX0_isEnabledIn_10, eX0_isEnabledIn_11, tn_18, eX0_isEnabledIn_14, eX0_isEnabledIn_15, tn_19, eX0_isEnabledIn_18, cI_0, eX0_isEnabledIn_19, d_X0_isEnabledIn, re_X0_isEnabledIn])
  simp (disch := omega) only [nI_mul, nI_add, nI_clamp, nI_inE, nI_leE, nI_ltE, nI_eqE, nI_eqz, nI_ltz, nI_gez, nI_lez, nI_gtz, nI_m1, nI_m1', nI_ltm, nI_gem, nI_gtm, nI_lem, nI_00, nI_01, nI_10, nI_11, bI_z, bI_1, bI_0, bI_b, bI_nz, bit_e, arK_i, arK_b, arK_j, true_and, and_true, ne_eq, not_false_eq_true, not_true_eq_false, false_and, and_false, true_or, or_true, false_or, or_false, Classical.not_not, forall_const, true_implies, implies_true, false_implies, eq_self, s0, s1, s2, s3, s4, s5, s6, s7, k1, l1, k2, l2, k3, l3, k4, l4, k5, l5, k6, l6, v1, v2, u1, u2, u3, u4]
  exact ⟨by omega, fun g => g, fun g => g⟩
def hsh (q : Int64) : Nat := ((q * -7046029254386353131).toUInt64 >>> 55).toNat
theorem hsh_lt (q : Int64) : hsh q < 512 := by
  unfold hsh
  rw [UInt64.toNat_shiftRight]
  have := (q * -7046029254386353131).toUInt64.toNat_lt
  rw [show (55 : UInt64).toNat % 64 = 55 from rfl, Nat.shiftRight_eq_div_pow]
  omega
theorem hsh_e (q : Int64) : ((q * -7046029254386353131).toUInt64 >>> ((nI 55).toInt64.toUInt64 &&& Int64.toUInt64 63)).toInt64.toInt32 = nI (hsh q) := by
  have e : (nI 55).toInt64.toUInt64 &&& Int64.toUInt64 63 = 55 := by decide
  rw [e]
  have h1 := hsh_lt q
  unfold hsh at *
  generalize (q * -7046029254386353131).toUInt64 >>> 55 = v at *
  have h2 : ∀ m : Fin 512, (UInt64.ofNat m.val).toInt64.toInt32 = nI m.val := by decide +kernel
  have h3 := h2 ⟨v.toNat, h1⟩
  rwa [show UInt64.ofNat v.toNat = v from UInt64.ofNat_toNat] at h3
/-- slots that are taken -/
noncomputable def cnz (T : Nat → Int32) (n : Nat) : Nat := foN (fun s a => @ite Nat (T s = nI 0) (Classical.propDecidable _) a (a + 1)) 0 n
theorem cnz_full {T : Nat → Int32} {n : Nat} (h : ∀ s, s < n → ¬ T s = nI 0) : cnz T n = n := by
  induction n with
  | zero => rfl
  | succ n ih =>
    show @ite Nat _ (Classical.propDecidable _) _ _ = _
    rw [if_neg (h n (Nat.lt_succ_self n))]
    exact congrArg (· + 1) (ih fun s hs => h s (by omega))
theorem cnz_eq {T U : Nat → Int32} {n : Nat} (h : ∀ s, s < n → T s = U s) : cnz T n = cnz U n := by
  induction n with
  | zero => rfl
  | succ n ih =>
    show @ite Nat _ (Classical.propDecidable _) _ _ = @ite Nat _ (Classical.propDecidable _) _ _
    have e := ih fun s hs => h s (by omega)
    unfold cnz at e
    rw [h n (Nat.lt_succ_self n), e]
theorem cnz_add {T : Nat → Int32} {n s : Nat} {v : Int32} (hs : s < n) (h0 : T s = nI 0) (hv : ¬ v = nI 0) : cnz (udW T s v) n = cnz T n + 1 := by
  induction n with
  | zero => exact absurd hs (Nat.not_lt_zero _)
  | succ n ih =>
    show @ite Nat _ (Classical.propDecidable _) _ _ = @ite Nat _ (Classical.propDecidable _) _ _ + 1
    by_cases g : s = n
    · subst g
      have e := cnz_eq (T := udW T s v) (U := T) (n := s) fun z hz => udW_n (by omega)
      unfold cnz at e
      rw [udW_e, if_neg hv, if_pos h0, e]
    · have e := ih (by omega)
      unfold cnz at e
      rw [udW_n (by omega), e]
      split <;> rfl
theorem cnz_ad {T : Nat → Int32} {n s c : Nat} {v : Int32} (hs : s < n) (h0 : T s = nI 0) (hv : ¬ v = nI 0) (hc : cnz T n = c) : cnz (udW T s v) n = c + 1 := by rw [cnz_add hs h0 hv, hc]
theorem cnz_0 {T : Nat → Int32} {n : Nat} (h : ∀ s, s < n → T s = nI 0) : cnz T n = 0 := by
  induction n with
  | zero => rfl
  | succ n ih =>
    show @ite Nat _ (Classical.propDecidable _) _ _ = _
    rw [if_pos (h n (Nat.lt_succ_self n))]
    exact ih fun s hs => h s (by omega)
/-- a table of slots -/
def HTf (T : Nat → Int32) (K : Nat → Int64) (c : Nat) : Prop := (∀ s, s < 512 → T s = nI 0 ∨ ∃ n, n < c ∧ T s = nI (n + 1)) ∧ cnz T 512 = c ∧ ∀ n, n < c → ∃ d, d < 512 ∧ T ((hsh (K n) + d) % 512) = nI (n + 1) ∧ ∀ e, e < d → ¬ T ((hsh (K n) + e) % 512) = nI 0
def slR (T : Nat → Int32) (K : Nat → Int64) (c : Nat) (q : Int64) (j : Nat) : Prop := j < 512 ∧ ((T j = nI 0 ∧ (∀ n, n < c → ¬ K n = q) ∧ ∃ d, d < 512 ∧ j = (hsh q + d) % 512 ∧ ∀ e, e < d → ¬ T ((hsh q + e) % 512) = nI 0) ∨ ∃ n, n < c ∧ T j = nI (n + 1) ∧ K n = q)
theorem c_slotOf {h : MH} {i : Nat} {E : EE} {q : Int64} (hS : XS h i) (hV : XV h i E) (hT : HTf (mI h (i + 6)) (exK E) (exC E)) : CT x sX0_slotOf [.ref i, .long q] h (pI fun r h' => (∃ j, r = nI j ∧ slR (mI h (i + 6)) (exK E) (exC E) q j) ∧ h' = h) xNo := by
  obtain ⟨s0, s1, s2, s3, s4, s5, s6, s7, k1, l1, k2, l2, k3, l3, k4, l4, k5, l5, k6, l6⟩ := hS
  obtain ⟨v0, v1, v2, v3⟩ := hV
  obtain ⟨t1, t2, t3⟩ := hT
  have hq := hsh_lt q
  (refine CT_of (o := 0) rfl (by decide +kernel) (by simp [Value.category, sX0_slotOf]) (MW_ev kX0_slotOf 300 ?_); show evS _ _ _ _ _ _ 300 0 (0, 0) [.ref i, .long q, .null, .null, .null] [] _; simp only [st_iconst, st_lconst, st_ldc2_w, st_ldc, st_iload, st_lload, st_aload, st_istore, st_astore, st_lstore, st_iinc, st_iadd, st_isub, st_imul, st_idiv, st_irem, st_iand, st_ior, st_ishl, st_ishr, st_iushr, st_ladd, st_lmul, st_lshl, st_lushr, st_lcmp, st_i2l, st_l2i, st_i2b, st_i2c, st_i2d, st_i2f, st_dconst, st_fconst, st_ddiv, st_fdiv, st_dup, st_dup2, st_pop, st_goto, st_if_icmp, st_ifCond, st_tableswitch, st_lookupswitch, st_iaload, st_baload, st_laload, st_aaload, st_iastore, st_bastore, st_lastore, st_aastore, st_saload, st_faload, st_jsr, st_caload, st_d2i, st_d2f, st_ineg, st_ixor, st_dup_x1, st_aconst_null, st_ifnonnull, st_castore, st_getstatic, st_frem, st_drem, st_monitorexit, st_monitorenter, st_invokeinterface, st_newarray, st_anewarray, st_multianewarray, asI_c, asJ_c, asR_c, asD_c, asF_c, popI_c, popJ_c, popR_c, popD_c, popF_c, pop1_c, okSt_0, okSt_S, rcv_0, rcv_1, rcv_2, rcv_3, rcv_4, rcv_5, rcv_8, pI_c, pJ_c, pR_c, pV_c, pD_c, pF_c, cmp_eq, cmp_ne, cmp_lt, cmp_ge, cmp_gt, cmp_le, nth_0, nth_S, set_0, set_S, cat_int, cat_ref, cat_long, cat_double, cat_float, cat_null, catS_0, catS_S, swT_0, swT_S, swL_0, swL_S, Nat.add_zero, Nat.reduceAdd, Nat.reduceSub, Nat.reduceLT, Nat.reduceLeDiff, true_and, and_true, eq_self, eX0_slotOf_0, fX0_slotOf_0, eX0_slotOf_1, eX0_slotOf_4, eX0_slotOf_5, cI_55, eX0_slotOf_7, eX0_slotOf_8, eX0_slotOf_9, eX0_slotOf_10, cI_0, eX0_slotOf_11, eX0_slotOf_13, fX0_slotOf_13, eX0_slotOf_15, cI_512, eX0_slotOf_18, tn_73, eX0_slotOf_21, eX0_slotOf_22, gf0_28, eX0_slotOf_25, eX0_slotOf_26, eX0_slotOf_27, tn_48, eX0_slotOf_30, eX0_slotOf_31, gf0_9, eX0_slotOf_34, eX0_slotOf_35, eX0_slotOf_38, eX0_slotOf_39, eX0_slotOf_40, cI_1, eX0_slotOf_41, eX0_slotOf_42, eX0_slotOf_43, eX0_slotOf_44, eX0_slotOf_45, tn_50, eX0_slotOf_48, eX0_slotOf_49, eX0_slotOf_50, eX0_slotOf_51, eX0_slotOf_52, eX0_slotOf_53, eX0_slotOf_56, tn_65, eX0_slotOf_59, eX0_slotOf_60, eX0_slotOf_61, eX0_slotOf_62, tn_66, eX0_slotOf_65, eX0_slotOf_66, eX0_slotOf_67, eX0_slotOf_70, tn_13, eX0_slotOf_73, eX0_slotOf_74, d_X0_slotOf, re_X0_slotOf])
  rw [hsh_e]
  refine loop_up 512 (P := fun k => ∀ j, j = (hsh q + k) % 512 → (∀ e, e < k → ¬ mI h (i + 6) ((hsh q + e) % 512) = nI 0 ∧ ∀ n, n < exC E → mI h (i + 6) ((hsh q + e) % 512) = nI (n + 1) → ¬ exK E n = q) → MW x sX0_slotOf 0 _ xNo 13 (0, 0) [.ref i, .long q, .null, .int (nI j), .int (nI k)] [] h) (fun k hk ih j hj hp => ?_) 0 (Nat.zero_le _) _ (by omega) (fun p hp => absurd hp (Nat.not_lt_zero _))
  (refine MW_ev kX0_slotOf 300 ?_; simp only [st_iconst, st_lconst, st_ldc2_w, st_ldc, st_iload, st_lload, st_aload, st_istore, st_astore, st_lstore, st_iinc, st_iadd, st_isub, st_imul, st_idiv, st_irem, st_iand, st_ior, st_ishl, st_ishr, st_iushr, st_ladd, st_lmul, st_lshl, st_lushr, st_lcmp, st_i2l, st_l2i, st_i2b, st_i2c, st_i2d, st_i2f, st_dconst, st_fconst, st_ddiv, st_fdiv, st_dup, st_dup2, st_pop, st_goto, st_if_icmp, st_ifCond, st_tableswitch, st_lookupswitch, st_iaload, st_baload, st_laload, st_aaload, st_iastore, st_bastore, st_lastore, st_aastore, st_saload, st_faload, st_jsr, st_caload, st_d2i, st_d2f, st_ineg, st_ixor, st_dup_x1, st_aconst_null, st_ifnonnull, st_castore, st_getstatic, st_frem, st_drem, st_monitorexit, st_monitorenter, st_invokeinterface, st_newarray, st_anewarray, st_multianewarray, asI_c, asJ_c, asR_c, asD_c, asF_c, popI_c, popJ_c, popR_c, popD_c, popF_c, pop1_c, okSt_0, okSt_S, rcv_0, rcv_1, rcv_2, rcv_3, rcv_4, rcv_5, rcv_8, pI_c, pJ_c, pR_c, pV_c, pD_c, pF_c, cmp_eq, cmp_ne, cmp_lt, cmp_ge, cmp_gt, cmp_le, nth_0, nth_S, set_0, set_S, cat_int, cat_ref, cat_long, cat_double, cat_float, cat_null, catS_0, catS_S, swT_0, swT_S, swL_0, swL_S, Nat.add_zero, Nat.reduceAdd, Nat.reduceSub, Nat.reduceLT, Nat.reduceLeDiff, true_and, and_true, eq_self, eX0_slotOf_0, fX0_slotOf_0, eX0_slotOf_1, eX0_slotOf_4, eX0_slotOf_5, cI_55, eX0_slotOf_7, eX0_slotOf_8, eX0_slotOf_9, eX0_slotOf_10, cI_0, eX0_slotOf_11, eX0_slotOf_13, fX0_slotOf_13, eX0_slotOf_15, cI_512, eX0_slotOf_18, tn_73, eX0_slotOf_21, eX0_slotOf_22, gf0_28, eX0_slotOf_25, eX0_slotOf_26, eX0_slotOf_27, tn_48, eX0_slotOf_30, eX0_slotOf_31, gf0_9, eX0_slotOf_34, eX0_slotOf_35, eX0_slotOf_38, eX0_slotOf_39, eX0_slotOf_40, cI_1, eX0_slotOf_41, eX0_slotOf_42, eX0_slotOf_43, eX0_slotOf_44, eX0_slotOf_45, tn_50, eX0_slotOf_48, eX0_slotOf_49, eX0_slotOf_50, eX0_slotOf_51, eX0_slotOf_52, eX0_slotOf_53, eX0_slotOf_56, tn_65, eX0_slotOf_59, eX0_slotOf_60, eX0_slotOf_61, eX0_slotOf_62, tn_66, eX0_slotOf_65, eX0_slotOf_66, eX0_slotOf_67, eX0_slotOf_70, tn_13, eX0_slotOf_73, eX0_slotOf_74, d_X0_slotOf, re_X0_slotOf])
  have hj2 : j < 512 := by omega
  rcases Nat.lt_or_ge k 512 with hl | hl
  · have z0 : (mI h (i + 6) j = 0) = (mI h (i + 6) j = nI 0) := by rw [nI_0]
    rcases t1 j hj2 with g | ⟨n, hn, g⟩
    · simp (disch := omega) only [nI_mul, nI_add, nI_clamp, nI_inE, nI_leE, nI_ltE, nI_eqE, nI_eqz, nI_ltz, nI_gez, nI_lez, nI_gtz, nI_m1, nI_m1', nI_ltm, nI_gem, nI_gtm, nI_lem, nI_00, nI_01, nI_10, nI_11, bI_z, bI_1, bI_0, bI_b, bI_nz, bit_e, arK_i, arK_b, arK_j, true_and, and_true, ne_eq, not_false_eq_true, not_true_eq_false, false_and, and_false, true_or, or_true, false_or, or_false, Classical.not_not, forall_const, true_implies, implies_true, false_implies, eq_self, s0, s1, s2, s3, s4, s5, s6, s7, k1, l1, k2, l2, k3, l3, k4, l4, k5, l5, k6, l6, v1, v2, hl, Nat.not_le.mpr hl, g]
      refine ⟨by omega, j, rfl, hj2, Or.inl ⟨g, fun n hn e => ?_, k, hl, hj, fun e he => (hp e he).1⟩⟩
      obtain ⟨d, d1, d2, d3⟩ := t3 n hn
      rw [e] at d2 d3
      rcases Nat.lt_trichotomy d k with g2 | g2 | g2
      · exact (hp d g2).2 n hn d2 e
      · rw [g2, ← hj, g] at d2
        exact absurd ((nI_eq (by omega) (by omega)).mp d2) (by omega)
      · exact d3 k g2 (hj ▸ g)
    · simp (disch := omega) only [nI_mul, nI_add, nI_clamp, nI_inE, nI_leE, nI_ltE, nI_eqE, nI_eqz, nI_ltz, nI_gez, nI_lez, nI_gtz, nI_m1, nI_m1', nI_ltm, nI_gem, nI_gtm, nI_lem, nI_00, nI_01, nI_10, nI_11, bI_z, bI_1, bI_0, bI_b, bI_nz, bit_e, arK_i, arK_b, arK_j, true_and, and_true, ne_eq, not_false_eq_true, not_true_eq_false, false_and, and_false, true_or, or_true, false_or, or_false, Classical.not_not, forall_const, true_implies, implies_true, false_implies, eq_self, s0, s1, s2, s3, s4, s5, s6, s7, k1, l1, k2, l2, k3, l3, k4, l4, k5, l5, k6, l6, v1, v2, hl, Nat.not_le.mpr hl, g, nI_sub, Nat.add_sub_cancel, lg_cmp_eq]
      have fnd : exK E n = q → ∃ j', nI j = nI j' ∧ slR (mI h (i + 6)) (exK E) (exC E) q j' := fun e => ⟨j, rfl, hj2, Or.inr ⟨n, hn, g, e⟩⟩
      have hnx : ¬ exK E n = q → ∀ e, e < k + 1 → ¬ mI h (i + 6) ((hsh q + e) % 512) = nI 0 ∧ ∀ n, n < exC E → mI h (i + 6) ((hsh q + e) % 512) = nI (n + 1) → ¬ exK E n = q := fun hne => lt_succ_all hp (by
        rw [← hj, g]
        refine ⟨fun z => absurd ((nI_eq (by omega) (by omega)).mp z) (by omega), fun m hm z => ?_⟩
        have := (nI_eq (by omega) (by omega)).mp z
        have e : n = m := by omega
        exact e ▸ hne)
      rw [(v3 n hn).1]
      exact ⟨by omega, fun z => absurd z (by omega), fun _ => ⟨by omega, by omega, fun z => ⟨fun z2 => ih hl 0 (by omega) (hnx z), fun z2 => ih hl (j + 1) (by omega) (hnx z)⟩, fnd⟩⟩
  · exfalso
    have := cnz_full (T := mI h (i + 6)) (n := 512) fun s hs => by
      have := (hp ((s + 512 - hsh q) % 512) (by omega)).1
      rwa [show (hsh q + (s + 512 - hsh q) % 512) % 512 = s by omega] at this
    omega
end EXP
