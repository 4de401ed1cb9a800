section SBX
variable {x : CX}
/-- a String's bytes put behind the text -/
theorem SBV_cat {h h' : MH} {a v m n n2 : Nat} {U f W : Nat → Int32} (hS : SBV h a v m n U) (hn : n + n2 ≤ m) (hf : ∀ j, j < n2 → fits .byte (.int (f j)) = true) (hW : ∀ j, j < n2 → f j = W j) (hF : h' = sI (sR h v (va_cpy f (mI h v) 0 n n2)) a 3 (nI (n + n2))) : FX h h' a v ∧ SBV h' a v m (n + n2) (catU U n W) := by
  have hne := SBV_ne hS
  obtain ⟨⟨s1, s2, s3, s4, s5⟩, ⟨v1, v2, v3, v4, v5, v6⟩, s6, s7⟩ := hS
  subst hF
  refine ⟨⟨Nat.le_refl _, fun b h1 h2 h3 => EQ_tr (EQ_sR h3) (EQ_sI h2)⟩, ⟨s1, s2, ?_, sI_Ie, s5⟩, ⟨v1, v2, v3, v4, hn, v6⟩, fun j => ?_, fun k hk => ?_⟩
  · rw [sI_Ik (by decide), sR_Ia (Ne.symm hne)]; exact s3
  · rw [sI_Ia hne, sR_Ie]
    unfold va_cpy
    split
    · exact hf _ (by omega)
    · exact s6 j
  · rw [sI_Ia hne, sR_Ie]
    unfold catU va_cpy
    by_cases g : k < n
    · rw [if_pos g, if_neg (by omega)]; exact s7 k g
    · rw [if_neg g, if_pos (by omega), Nat.zero_add]
      exact hW _ (by omega)
/-- small signs -/
def asc (W : Nat → Int32) (n : Nat) : Prop := ∀ j, j < n → ∃ c, c < 128 ∧ W j = nI c
/-- a String that can be read: n2 bytes W -/
def STW (x : CX) (h : MH) (s n2 : Nat) (W : Nat → Int32) : Prop := (∃ i, i < 19 ∧ s = xK x i ∧ n2 = lenS.getD i 0 ∧ ∀ j, j < n2 → (bytS.getD i []).getD j 0 = W j) ∨ (mK h s = 7 ∧ mI h s 1 = 0 ∧ mP h s 0 ≠ 0 ∧ mK h (mP h s 0) = 12 ∧ mL h (mP h s 0) = n2 ∧ s < mZ h ∧ mP h s 0 < mZ h ∧ ∀ j, j < n2 → mI h (mP h s 0) j = W j)
theorem STW_v {h : MH} {s n2 : Nat} {W : Nat → Int32} (hT : STW x h s n2 W) : ∃ w f, SV x h s w ∧ BV x h w n2 f ∧ ∀ j, j < n2 → f j = W j := by
  rcases hT with ⟨i, h1, h2, h3, h4⟩ | ⟨h1, h2, h3, h4, h5, h6, h7, h8⟩
  · exact ⟨xV x i, _, Or.inl ⟨i, h1, h2, rfl⟩, Or.inl ⟨i, h1, rfl, h3, rfl⟩, h4⟩
  · exact ⟨mP h s 0, _, Or.inr ⟨h1, h2, rfl, h3⟩, Or.inr (Or.inl ⟨h4, h5.symm, rfl⟩), h8⟩
theorem STW_ea {h h' : MH} {s n2 : Nat} {W : Nat → Int32} (hT : STW x h s n2 W) (hz : mZ h ≤ mZ h') (hE : mK h s = 7 → EQa h h' s ∧ EQa h h' (mP h s 0)) : STW x h' s n2 W := by
  rcases hT with hT | ⟨h1, h2, h3, h4, h5, h6, h7, h8⟩
  · exact Or.inl hT
  · obtain ⟨e1, e2⟩ := hE h1
    have e := (e1.2.2 0).2.1
    refine Or.inr ⟨e1.1.trans h1, (e1.2.2 1).1.trans h2, by rw [e]; exact h3, by rw [e]; exact e2.1.trans h4, by rw [e]; exact e2.2.1.trans h5, by omega, by rw [e]; omega, fun j hj => ?_⟩
    rw [e]; exact (e2.2.2 j).1.trans (h8 j hj)
theorem c_appS {h : MH} {a v m n s n2 : Nat} {U W : Nat → Int32} (hS : SBV h a v m n U) (hT : STW x h s n2 W) (hA : asc W n2) (hd : mK h s = 7 → mP h s 0 ≠ v) (hn : n + n2 ≤ 180) :
    CT x sJ5_append_cf1ce [.ref a, .ref s] h (pR fun r h' => r = a ∧ apP h h' a v (n + n2) (catU U n W)) xNo := by
  have hS0 := hS
  obtain ⟨⟨s1, s2, s3, s4, s5⟩, -, -, -⟩ := hS
  obtain ⟨w, f, g1, g2, g3⟩ := STW_v hT
  (refine CT_of (o := 11) rfl (by decide +kernel) (by simp [Value.category, sJ5_append_cf1ce]) (MW_ev kJ5_append_cf1ce 300 ?_); show evS _ _ _ _ _ _ 300 0 (1, 1000) [.ref a, .ref s, .null] [] _; simp (disch := (first | ((try simp only [sN_Z, sM_Z, sP_Z, sI_Z, sJ_Z, sR_Z, *]); omega))) only [st_iconst, st_lconst, st_ldc2_w, st_ldc, st_iload, st_lload, st_aload, st_istore, st_astore, st_lstore, st_iinc, st_iadd, st_isub, st_imul, st_idiv, st_irem, st_iand, st_ior, st_ishl, st_ishr, st_iushr, st_ladd, st_lmul, st_lshl, st_lushr, st_lcmp, st_i2l, st_l2i, st_i2b, st_i2c, st_i2d, st_i2f, st_dconst, st_fconst, st_ddiv, st_fdiv, st_dup, st_dup2, st_pop, st_goto, st_if_icmp, st_ifCond, st_tableswitch, st_lookupswitch, st_iaload, st_baload, st_laload, st_aaload, st_iastore, st_bastore, st_lastore, st_aastore, st_saload, st_faload, st_jsr, st_caload, st_d2i, st_d2f, st_ineg, st_ixor, st_dup_x1, st_aconst_null, st_ifnonnull, st_castore, st_getstatic, st_frem, st_drem, st_monitorexit, st_monitorenter, st_invokeinterface, st_newarray, st_anewarray, st_multianewarray, asI_c, asJ_c, asR_c, asD_c, asF_c, popI_c, popJ_c, popR_c, popD_c, popF_c, pop1_c, okSt_0, okSt_S, rcv_0, rcv_1, rcv_2, rcv_3, rcv_4, rcv_5, rcv_8, pI_c, pJ_c, pR_c, pV_c, pD_c, pF_c, cmp_eq, cmp_ne, cmp_lt, cmp_ge, cmp_gt, cmp_le, nth_0, nth_S, set_0, set_S, cat_int, cat_ref, cat_long, cat_double, cat_float, cat_null, catS_0, catS_S, swT_0, swT_S, swL_0, swL_S, Nat.add_zero, Nat.reduceAdd, Nat.reduceSub, Nat.reduceLT, Nat.reduceLeDiff, true_and, and_true, eq_self, eJ5_append_cf1ce_0, fJ5_append_cf1ce_0, eJ5_append_cf1ce_1, tn_9, eJ5_append_cf1ce_4, eJ5_append_cf1ce_8, eJ5_append_cf1ce_9, eJ5_append_cf1ce_10, iv11_32, c_J0_length_8abf5, eJ5_append_cf1ce_13, eJ5_append_cf1ce_14, eJ5_append_cf1ce_15, eJ5_append_cf1ce_16, gf11_79, eJ5_append_cf1ce_19, eJ5_append_cf1ce_20, eJ5_append_cf1ce_21, iv11_100, c_J5_ensureCapacityInternal_d00df, eJ5_append_cf1ce_24, eJ5_append_cf1ce_25, eJ5_append_cf1ce_26, eJ5_append_cf1ce_29, eJ5_append_cf1ce_30, iv11_208, c_J5_putStringAt_47b60, eJ5_append_cf1ce_33, eJ5_append_cf1ce_34, eJ5_append_cf1ce_35, eJ5_append_cf1ce_38, eJ5_append_cf1ce_39, eJ5_append_cf1ce_40, pf11_79, eJ5_append_cf1ce_43, eJ5_append_cf1ce_44, d_J5_append_cf1ce, re_J5_append_cf1ce, reduceIte, n1z, if_true, if_false, n1i, n0i, s1, s4])
  refine ⟨rcv_S g1, CI_pure (c_lenG g1 g2) ⟨s1, ?_⟩⟩
  rw [nI_add]
  refine ⟨s1, CV_of (c_ensure (q := n + n2) hS0 hn) (fun _ _ z => z.elim) fun h1 ⟨hF, v', m', hv, hm, hS'⟩ => ?_⟩
  have hS2 := hS'
  obtain ⟨⟨t1, t2, t3, t4, t5⟩, ⟨w1, w2, w3, w4, w5, w6⟩, t6, t7⟩ := hS'
  have hT1 : STW x h1 s n2 W := by
    rcases hT with hT | ⟨r1, r2, r3, r4, r5, r6, r7, r8⟩
    · exact Or.inl hT
    · exact STW_ea (Or.inr ⟨r1, r2, r3, r4, r5, r6, r7, r8⟩) hF.1 fun _ => ⟨hF.2 s r6 (fun e => by rw [e, s1] at r1; cases r1) (fun e => by rw [e, hS0.2.1.2.2.1] at r1; cases r1), hF.2 _ r7 (fun e => by rw [e, s1] at r4; cases r4) (hd r1)⟩
  obtain ⟨w', f', p1, p2, p3⟩ := STW_v hT1
  have hff : ∀ j, j < n2 → fits .byte (.int (f' j)) = true := fun j hj => by
    obtain ⟨c, hc, e⟩ := hA j hj
    rw [p3 j hj, e]
    exact (nar_c c hc).2.2.1
  refine ⟨t1, t1, ?_⟩
  rw [t4]
  refine CV_of (c_putStr hS2 p1 p2 hff hm) (fun _ _ z => z.elim) fun h2 e2 => ?_
  subst e2
  have hne := SBV_ne hS2
  rw [sR_Ia (Ne.symm hne), t4, nI_add]
  obtain ⟨k1, k2⟩ := SBV_cat (h' := sI (sR h1 v' (va_cpy f' (mI h1 v') 0 n n2)) a 3 (nI (n + n2))) hS2 hm hff p3 rfl
  exact ⟨t1, t1, rfl, FX_tr hF k1 hv, v', m', hv, k2⟩
end SBX
section SBY
variable {x : CX}
theorem d_appI {h : MH} {a v m n d : Nat} {U : Nat → Int32} (hS : SBV h a v m n U) (hn : n < 180) (hd : d < 10) :
    CT x sJ4_append_bf812 [.ref a, .int (nI d)] h (pR fun r h' => r = a ∧ apP h h' a v (n + 1) (catU U n fun _ => nI (48 + d))) xNo := by
  have s1 := hS.1.1
  (refine CT_of (o := 5) rfl (by decide +kernel) (by simp [Value.category, sJ4_append_bf812]) (MW_ev kJ4_append_bf812 300 ?_); show evS _ _ _ _ _ _ 300 0 (1, 1000) [.ref a, .int (nI d)] [] _; simp only [st_iconst, st_lconst, st_ldc2_w, st_ldc, st_iload, st_lload, st_aload, st_istore, st_astore, st_lstore, st_iinc, st_iadd, st_isub, st_imul, st_idiv, st_irem, st_iand, st_ior, st_ishl, st_ishr, st_iushr, st_ladd, st_lmul, st_lshl, st_lushr, st_lcmp, st_i2l, st_l2i, st_i2b, st_i2c, st_i2d, st_i2f, st_dconst, st_fconst, st_ddiv, st_fdiv, st_dup, st_dup2, st_pop, st_goto, st_if_icmp, st_ifCond, st_tableswitch, st_lookupswitch, st_iaload, st_baload, st_laload, st_aaload, st_iastore, st_bastore, st_lastore, st_aastore, st_saload, st_faload, st_jsr, st_caload, st_d2i, st_d2f, st_ineg, st_ixor, st_dup_x1, st_aconst_null, st_ifnonnull, st_castore, st_getstatic, st_frem, st_drem, st_monitorexit, st_monitorenter, st_invokeinterface, st_newarray, st_anewarray, st_multianewarray, asI_c, asJ_c, asR_c, asD_c, asF_c, popI_c, popJ_c, popR_c, popD_c, popF_c, pop1_c, okSt_0, okSt_S, rcv_0, rcv_1, rcv_2, rcv_3, rcv_4, rcv_5, rcv_8, pI_c, pJ_c, pR_c, pV_c, pD_c, pF_c, cmp_eq, cmp_ne, cmp_lt, cmp_ge, cmp_gt, cmp_le, nth_0, nth_S, set_0, set_S, cat_int, cat_ref, cat_long, cat_double, cat_float, cat_null, catS_0, catS_S, swT_0, swT_S, swL_0, swL_S, Nat.add_zero, Nat.reduceAdd, Nat.reduceSub, Nat.reduceLT, Nat.reduceLeDiff, true_and, and_true, eq_self, eJ4_append_bf812_0, fJ4_append_bf812_0, eJ4_append_bf812_1, eJ4_append_bf812_2, iu5_53, c_J5_append_c97b9, eJ4_append_bf812_5, eJ4_append_bf812_6, eJ4_append_bf812_7, d_J4_append_bf812, re_J4_append_bf812, reduceIte, n1z, if_true, if_false, n1i, n0i])
  exact ⟨s1, _, _, c_appI hS hn hd, fun _ _ z => z.elim, fun r h' g => ⟨rfl, g.2⟩⟩
theorem d_appC {h : MH} {a v m n c : Nat} {U : Nat → Int32} (hS : SBV h a v m n U) (hn : n < 180) (hc : c < 128) :
    CT x sJ4_append_cf468 [.ref a, .int (nI c)] h (pR fun r h' => r = a ∧ apP h h' a v (n + 1) (catU U n fun _ => nI c)) xNo := by
  have s1 := hS.1.1
  (refine CT_of (o := 5) rfl (by decide +kernel) (by simp [Value.category, sJ4_append_cf468]) (MW_ev kJ4_append_cf468 300 ?_); show evS _ _ _ _ _ _ 300 0 (1, 1000) [.ref a, .int (nI c)] [] _; simp only [st_iconst, st_lconst, st_ldc2_w, st_ldc, st_iload, st_lload, st_aload, st_istore, st_astore, st_lstore, st_iinc, st_iadd, st_isub, st_imul, st_idiv, st_irem, st_iand, st_ior, st_ishl, st_ishr, st_iushr, st_ladd, st_lmul, st_lshl, st_lushr, st_lcmp, st_i2l, st_l2i, st_i2b, st_i2c, st_i2d, st_i2f, st_dconst, st_fconst, st_ddiv, st_fdiv, st_dup, st_dup2, st_pop, st_goto, st_if_icmp, st_ifCond, st_tableswitch, st_lookupswitch, st_iaload, st_baload, st_laload, st_aaload, st_iastore, st_bastore, st_lastore, st_aastore, st_saload, st_faload, st_jsr, st_caload, st_d2i, st_d2f, st_ineg, st_ixor, st_dup_x1, st_aconst_null, st_ifnonnull, st_castore, st_getstatic, st_frem, st_drem, st_monitorexit, st_monitorenter, st_invokeinterface, st_newarray, st_anewarray, st_multianewarray, asI_c, asJ_c, asR_c, asD_c, asF_c, popI_c, popJ_c, popR_c, popD_c, popF_c, pop1_c, okSt_0, okSt_S, rcv_0, rcv_1, rcv_2, rcv_3, rcv_4, rcv_5, rcv_8, pI_c, pJ_c, pR_c, pV_c, pD_c, pF_c, cmp_eq, cmp_ne, cmp_lt, cmp_ge, cmp_gt, cmp_le, nth_0, nth_S, set_0, set_S, cat_int, cat_ref, cat_long, cat_double, cat_float, cat_null, catS_0, catS_S, swT_0, swT_S, swL_0, swL_S, Nat.add_zero, Nat.reduceAdd, Nat.reduceSub, Nat.reduceLT, Nat.reduceLeDiff, true_and, and_true, eq_self, eJ4_append_cf468_0, fJ4_append_cf468_0, eJ4_append_cf468_1, eJ4_append_cf468_2, iu5_50, c_J5_append_3fe6f, eJ4_append_cf468_5, eJ4_append_cf468_6, eJ4_append_cf468_7, d_J4_append_cf468, re_J4_append_cf468, reduceIte, n1z, if_true, if_false, n1i, n0i])
  exact ⟨s1, _, _, c_appC hS hn hc, fun _ _ z => z.elim, fun r h' g => ⟨rfl, g.2⟩⟩
theorem d_appS {h : MH} {a v m n s n2 : Nat} {U W : Nat → Int32} (hS : SBV h a v m n U) (hT : STW x h s n2 W) (hA : asc W n2) (hd : mK h s = 7 → mP h s 0 ≠ v) (hn : n + n2 ≤ 180) :
    CT x sJ4_append_15ec4 [.ref a, .ref s] h (pR fun r h' => r = a ∧ apP h h' a v (n + n2) (catU U n W)) xNo := by
  have s1 := hS.1.1
  (refine CT_of (o := 5) rfl (by decide +kernel) (by simp [Value.category, sJ4_append_15ec4]) (MW_ev kJ4_append_15ec4 300 ?_); show evS _ _ _ _ _ _ 300 0 (1, 1000) [.ref a, .ref s] [] _; simp only [st_iconst, st_lconst, st_ldc2_w, st_ldc, st_iload, st_lload, st_aload, st_istore, st_astore, st_lstore, st_iinc, st_iadd, st_isub, st_imul, st_idiv, st_irem, st_iand, st_ior, st_ishl, st_ishr, st_iushr, st_ladd, st_lmul, st_lshl, st_lushr, st_lcmp, st_i2l, st_l2i, st_i2b, st_i2c, st_i2d, st_i2f, st_dconst, st_fconst, st_ddiv, st_fdiv, st_dup, st_dup2, st_pop, st_goto, st_if_icmp, st_ifCond, st_tableswitch, st_lookupswitch, st_iaload, st_baload, st_laload, st_aaload, st_iastore, st_bastore, st_lastore, st_aastore, st_saload, st_faload, st_jsr, st_caload, st_d2i, st_d2f, st_ineg, st_ixor, st_dup_x1, st_aconst_null, st_ifnonnull, st_castore, st_getstatic, st_frem, st_drem, st_monitorexit, st_monitorenter, st_invokeinterface, st_newarray, st_anewarray, st_multianewarray, asI_c, asJ_c, asR_c, asD_c, asF_c, popI_c, popJ_c, popR_c, popD_c, popF_c, pop1_c, okSt_0, okSt_S, rcv_0, rcv_1, rcv_2, rcv_3, rcv_4, rcv_5, rcv_8, pI_c, pJ_c, pR_c, pV_c, pD_c, pF_c, cmp_eq, cmp_ne, cmp_lt, cmp_ge, cmp_gt, cmp_le, nth_0, nth_S, set_0, set_S, cat_int, cat_ref, cat_long, cat_double, cat_float, cat_null, catS_0, catS_S, swT_0, swT_S, swL_0, swL_S, Nat.add_zero, Nat.reduceAdd, Nat.reduceSub, Nat.reduceLT, Nat.reduceLeDiff, true_and, and_true, eq_self, eJ4_append_15ec4_0, fJ4_append_15ec4_0, eJ4_append_15ec4_1, eJ4_append_15ec4_2, iu5_29, c_J5_append_cf1ce, eJ4_append_15ec4_5, eJ4_append_15ec4_6, eJ4_append_15ec4_7, d_J4_append_15ec4, re_J4_append_15ec4, reduceIte, n1z, if_true, if_false, n1i, n0i])
  exact ⟨s1, _, _, c_appS hS hT hA hd hn, fun _ _ z => z.elim, fun r h' g => ⟨rfl, g.2⟩⟩
theorem d_brdg {h : MH} {a v m n s n2 : Nat} {U W : Nat → Int32} (hS : SBV h a v m n U) (hT : STW x h s n2 W) (hA : asc W n2) (hd : mK h s = 7 → mP h s 0 ≠ v) (hn : n + n2 ≤ 180) :
    CT x sJ4_append_cf1ce [.ref a, .ref s] h (pR fun r h' => r = a ∧ apP h h' a v (n + n2) (catU U n W)) xNo := by
  have s1 := hS.1.1
  (refine CT_of (o := 5) rfl (by decide +kernel) (by simp [Value.category, sJ4_append_cf1ce]) (MW_ev kJ4_append_cf1ce 300 ?_); show evS _ _ _ _ _ _ 300 0 (1, 1000) [.ref a, .ref s] [] _; simp only [st_iconst, st_lconst, st_ldc2_w, st_ldc, st_iload, st_lload, st_aload, st_istore, st_astore, st_lstore, st_iinc, st_iadd, st_isub, st_imul, st_idiv, st_irem, st_iand, st_ior, st_ishl, st_ishr, st_iushr, st_ladd, st_lmul, st_lshl, st_lushr, st_lcmp, st_i2l, st_l2i, st_i2b, st_i2c, st_i2d, st_i2f, st_dconst, st_fconst, st_ddiv, st_fdiv, st_dup, st_dup2, st_pop, st_goto, st_if_icmp, st_ifCond, st_tableswitch, st_lookupswitch, st_iaload, st_baload, st_laload, st_aaload, st_iastore, st_bastore, st_lastore, st_aastore, st_saload, st_faload, st_jsr, st_caload, st_d2i, st_d2f, st_ineg, st_ixor, st_dup_x1, st_aconst_null, st_ifnonnull, st_castore, st_getstatic, st_frem, st_drem, st_monitorexit, st_monitorenter, st_invokeinterface, st_newarray, st_anewarray, st_multianewarray, asI_c, asJ_c, asR_c, asD_c, asF_c, popI_c, popJ_c, popR_c, popD_c, popF_c, pop1_c, okSt_0, okSt_S, rcv_0, rcv_1, rcv_2, rcv_3, rcv_4, rcv_5, rcv_8, pI_c, pJ_c, pR_c, pV_c, pD_c, pF_c, cmp_eq, cmp_ne, cmp_lt, cmp_ge, cmp_gt, cmp_le, nth_0, nth_S, set_0, set_S, cat_int, cat_ref, cat_long, cat_double, cat_float, cat_null, catS_0, catS_S, swT_0, swT_S, swL_0, swL_S, Nat.add_zero, Nat.reduceAdd, Nat.reduceSub, Nat.reduceLT, Nat.reduceLeDiff, true_and, and_true, eq_self, eJ4_append_cf1ce_0, fJ4_append_cf1ce_0, eJ4_append_cf1ce_1, eJ4_append_cf1ce_2, iv5_23, c_J4_append_15ec4, eJ4_append_cf1ce_5, d_J4_append_cf1ce, re_J4_append_cf1ce, reduceIte, n1z, if_true, if_false, n1i, n0i])
  exact ⟨s1, _, _, d_appS hS hT hA hd hn, fun _ _ z => z.elim, fun r h' g => g⟩
theorem d_len {h : MH} {a v m n : Nat} {U : Nat → Int32} (hS : SBV h a v m n U) : CT x sJ4_length_8abf5 [.ref a] h (pI fun r h' => r = nI n ∧ h' = h) xNo := by
  have s1 := hS.1.1
  have s4 := hS.1.2.2.2.1
  (refine CT_of (o := 5) rfl (by decide +kernel) (by simp [Value.category, sJ4_length_8abf5]) (MW_ev kJ4_length_8abf5 300 ?_); show evS _ _ _ _ _ _ 300 0 (0, 0) [.ref a] [] _; simp only [st_iconst, st_lconst, st_ldc2_w, st_ldc, st_iload, st_lload, st_aload, st_istore, st_astore, st_lstore, st_iinc, st_iadd, st_isub, st_imul, st_idiv, st_irem, st_iand, st_ior, st_ishl, st_ishr, st_iushr, st_ladd, st_lmul, st_lshl, st_lushr, st_lcmp, st_i2l, st_l2i, st_i2b, st_i2c, st_i2d, st_i2f, st_dconst, st_fconst, st_ddiv, st_fdiv, st_dup, st_dup2, st_pop, st_goto, st_if_icmp, st_ifCond, st_tableswitch, st_lookupswitch, st_iaload, st_baload, st_laload, st_aaload, st_iastore, st_bastore, st_lastore, st_aastore, st_saload, st_faload, st_jsr, st_caload, st_d2i, st_d2f, st_ineg, st_ixor, st_dup_x1, st_aconst_null, st_ifnonnull, st_castore, st_getstatic, st_frem, st_drem, st_monitorexit, st_monitorenter, st_invokeinterface, st_newarray, st_anewarray, st_multianewarray, asI_c, asJ_c, asR_c, asD_c, asF_c, popI_c, popJ_c, popR_c, popD_c, popF_c, pop1_c, okSt_0, okSt_S, rcv_0, rcv_1, rcv_2, rcv_3, rcv_4, rcv_5, rcv_8, pI_c, pJ_c, pR_c, pV_c, pD_c, pF_c, cmp_eq, cmp_ne, cmp_lt, cmp_ge, cmp_gt, cmp_le, nth_0, nth_S, set_0, set_S, cat_int, cat_ref, cat_long, cat_double, cat_float, cat_null, catS_0, catS_S, swT_0, swT_S, swL_0, swL_S, Nat.add_zero, Nat.reduceAdd, Nat.reduceSub, Nat.reduceLT, Nat.reduceLeDiff, true_and, and_true, eq_self, eJ4_length_8abf5_0, fJ4_length_8abf5_0, eJ4_length_8abf5_1, iu5_343, c_J5_length_8abf5, eJ4_length_8abf5_4, d_J4_length_8abf5, re_J4_length_8abf5, reduceIte, n1z, if_true, if_false, n1i, n0i])
  exact ⟨s1, CI_pure (c_lenB5 s1 s4) ⟨rfl, rfl⟩⟩
theorem c_chB {h : MH} {a v m n j : Nat} {U : Nat → Int32} (hS : SBV h a v m n U) (hj : j < n) : CT x sJ5_charAt_5068e [.ref a, .int (nI j)] h (pI fun r h' => r = chF (U j) ∧ h' = h) xNo := by
  obtain ⟨⟨s1, s2, s3, s4, s5⟩, ⟨v1, v2, v3, v4, v5, v6⟩, s6, s7⟩ := hS
  (refine CT_of (o := 11) rfl (by decide +kernel) (by simp [Value.category, sJ5_charAt_5068e]) (MW_ev kJ5_charAt_5068e 300 ?_); show evS _ _ _ _ _ _ 300 0 (0, 0) [.ref a, .int (nI j), .null, .null, .null] [] _; simp (disch := (first | ((try simp only [sN_Z, sM_Z, sP_Z, sI_Z, sJ_Z, sR_Z, *]); omega))) only [st_iconst, st_lconst, st_ldc2_w, st_ldc, st_iload, st_lload, st_aload, st_istore, st_astore, st_lstore, st_iinc, st_iadd, st_isub, st_imul, st_idiv, st_irem, st_iand, st_ior, st_ishl, st_ishr, st_iushr, st_ladd, st_lmul, st_lshl, st_lushr, st_lcmp, st_i2l, st_l2i, st_i2b, st_i2c, st_i2d, st_i2f, st_dconst, st_fconst, st_ddiv, st_fdiv, st_dup, st_dup2, st_pop, st_goto, st_if_icmp, st_ifCond, st_tableswitch, st_lookupswitch, st_iaload, st_baload, st_laload, st_aaload, st_iastore, st_bastore, st_lastore, st_aastore, st_saload, st_faload, st_jsr, st_caload, st_d2i, st_d2f, st_ineg, st_ixor, st_dup_x1, st_aconst_null, st_ifnonnull, st_castore, st_getstatic, st_frem, st_drem, st_monitorexit, st_monitorenter, st_invokeinterface, st_newarray, st_anewarray, st_multianewarray, asI_c, asJ_c, asR_c, asD_c, asF_c, popI_c, popJ_c, popR_c, popD_c, popF_c, pop1_c, okSt_0, okSt_S, rcv_0, rcv_1, rcv_2, rcv_3, rcv_4, rcv_5, rcv_8, pI_c, pJ_c, pR_c, pV_c, pD_c, pF_c, cmp_eq, cmp_ne, cmp_lt, cmp_ge, cmp_gt, cmp_le, nth_0, nth_S, set_0, set_S, cat_int, cat_ref, cat_long, cat_double, cat_float, cat_null, catS_0, catS_S, swT_0, swT_S, swL_0, swL_S, Nat.add_zero, Nat.reduceAdd, Nat.reduceSub, Nat.reduceLT, Nat.reduceLeDiff, true_and, and_true, eq_self, eJ5_charAt_5068e_0, fJ5_charAt_5068e_0, eJ5_charAt_5068e_1, gf11_22, eJ5_charAt_5068e_4, eJ5_charAt_5068e_5, eJ5_charAt_5068e_6, gf11_15, eJ5_charAt_5068e_9, eJ5_charAt_5068e_10, eJ5_charAt_5068e_11, gf11_79, eJ5_charAt_5068e_14, eJ5_charAt_5068e_15, eJ5_charAt_5068e_16, eJ5_charAt_5068e_17, eJ5_charAt_5068e_18, eJ5_charAt_5068e_21, eJ5_charAt_5068e_23, eJ5_charAt_5068e_24, eJ5_charAt_5068e_26, iv11_144, c_J0_checkIndex_df160, eJ5_charAt_5068e_29, eJ5_charAt_5068e_30, tn_42, eJ5_charAt_5068e_33, eJ5_charAt_5068e_34, eJ5_charAt_5068e_35, eJ5_charAt_5068e_36, cI_255, eJ5_charAt_5068e_39, eJ5_charAt_5068e_40, eJ5_charAt_5068e_41, eJ5_charAt_5068e_42, eJ5_charAt_5068e_43, eJ5_charAt_5068e_47, d_J5_charAt_5068e, rj_J5_charAt_5068e, reduceIte, n1z, if_true, if_false, n1i, n0i, s1, s2, s3, s4])
  refine ⟨v1, m, mI h v, BV_h v3 v4, ?_⟩
  rw [shr0]
  have e1 : (if nI m < nI n then nI m else nI n) = nI n := if_neg (nI_nlt v5 (by omega))
  rw [e1]
  refine CV_of (c_chk0 hj (by omega)) (fun _ _ z => z.elim) fun h1 e => ?_
  subst e
  refine ⟨fun g => absurd rfl g, fun _ => ⟨m, mI h1 v, BV_h v3 v4, vp_in_nI (by omega) (by omega), by omega, ?_⟩⟩
  rw [nI_clamp (by omega), s7 j hj]
  exact ⟨chF_n _, rfl, rfl⟩
theorem d_chA {h : MH} {a v m n j : Nat} {U : Nat → Int32} (hS : SBV h a v m n U) (hj : j < n) : CT x sJ4_charAt_5068e [.ref a, .int (nI j)] h (pI fun r h' => r = chF (U j) ∧ h' = h) xNo := by
  have s1 := hS.1.1
  (refine CT_of (o := 5) rfl (by decide +kernel) (by simp [Value.category, sJ4_charAt_5068e]) (MW_ev kJ4_charAt_5068e 300 ?_); show evS _ _ _ _ _ _ 300 0 (0, 0) [.ref a, .int (nI j)] [] _; simp only [st_iconst, st_lconst, st_ldc2_w, st_ldc, st_iload, st_lload, st_aload, st_istore, st_astore, st_lstore, st_iinc, st_iadd, st_isub, st_imul, st_idiv, st_irem, st_iand, st_ior, st_ishl, st_ishr, st_iushr, st_ladd, st_lmul, st_lshl, st_lushr, st_lcmp, st_i2l, st_l2i, st_i2b, st_i2c, st_i2d, st_i2f, st_dconst, st_fconst, st_ddiv, st_fdiv, st_dup, st_dup2, st_pop, st_goto, st_if_icmp, st_ifCond, st_tableswitch, st_lookupswitch, st_iaload, st_baload, st_laload, st_aaload, st_iastore, st_bastore, st_lastore, st_aastore, st_saload, st_faload, st_jsr, st_caload, st_d2i, st_d2f, st_ineg, st_ixor, st_dup_x1, st_aconst_null, st_ifnonnull, st_castore, st_getstatic, st_frem, st_drem, st_monitorexit, st_monitorenter, st_invokeinterface, st_newarray, st_anewarray, st_multianewarray, asI_c, asJ_c, asR_c, asD_c, asF_c, popI_c, popJ_c, popR_c, popD_c, popF_c, pop1_c, okSt_0, okSt_S, rcv_0, rcv_1, rcv_2, rcv_3, rcv_4, rcv_5, rcv_8, pI_c, pJ_c, pR_c, pV_c, pD_c, pF_c, cmp_eq, cmp_ne, cmp_lt, cmp_ge, cmp_gt, cmp_le, nth_0, nth_S, set_0, set_S, cat_int, cat_ref, cat_long, cat_double, cat_float, cat_null, catS_0, catS_S, swT_0, swT_S, swL_0, swL_S, Nat.add_zero, Nat.reduceAdd, Nat.reduceSub, Nat.reduceLT, Nat.reduceLeDiff, true_and, and_true, eq_self, eJ4_charAt_5068e_0, fJ4_charAt_5068e_0, eJ4_charAt_5068e_1, eJ4_charAt_5068e_2, iu5_329, c_J5_charAt_5068e, eJ4_charAt_5068e_5, d_J4_charAt_5068e, rj_J4_charAt_5068e, reduceIte, n1z, if_true, if_false, n1i, n0i])
  exact ⟨s1, CI_pure (c_chB hS hj) ⟨chF_n _, rfl, rfl⟩⟩
/-- what a new builder's constructor finds, and leaves -/
def nwB (h : MH) (a : Nat) : Prop := mK h a = 6 ∧ mI h a 1 = 0 ∧ mI h a 3 = nI 0 ∧ a < mZ h
def inP (h h' : MH) (a n : Nat) (U : Nat → Int32) : Prop := mZ h ≤ mZ h' ∧ (∀ b, b < mZ h → b ≠ a → EQa h h' b) ∧ ∃ v m, mZ h ≤ v ∧ SBV h' a v m n U
theorem SBV_new {h : MH} {a m : Nat} {U : Nat → Int32} (hB : nwB h a) (hm : m ≤ 400) (h0 : 0 < mZ h) : SBV (sI (sP (sN h 12 m) a 0 (mZ h)) a 1 0) a (mZ h) m 0 U := by
  obtain ⟨s1, s2, s3, s4⟩ := hB
  have hne : mZ h ≠ a := Nat.ne_of_gt s4
  refine ⟨⟨(sN_Ko s4).trans s1, sP_Pe, sI_Ie, ?_, Nat.lt_succ_of_lt s4⟩, ⟨by omega, Nat.lt_succ_self _, sN_Ke (n := m) rfl, sN_Le (kd := 12) rfl, Nat.zero_le _, hm⟩, fun j => ?_, fun k hk => absurd hk (Nat.not_lt_zero k)⟩
  · rw [sI_Ik (by decide)]; exact (sN_Io s4).trans s3
  · rw [sI_Ia hne]
    show fits .byte (.int (mI (sN h 12 m) (mZ h) j)) = true
    rw [sN_Ie rfl]; exact sb_fit0 j
theorem SBV_new2 {h : MH} {a m : Nat} {U : Nat → Int32} (hB : nwB h a) (hm : m ≤ 400) (h0 : 0 < mZ h) : SBV (sP (sN (sI h a 1 0) 12 m) a 0 (mZ h)) a (mZ h) m 0 U := by
  obtain ⟨s1, s2, s3, s4⟩ := hB
  have hne : mZ h ≠ a := Nat.ne_of_gt s4
  refine ⟨⟨(sN_Ko (h := sI h a 1 0) s4).trans s1, sP_Pe, (sN_Io (h := sI h a 1 0) s4).trans sI_Ie, (sN_Io (h := sI h a 1 0) s4).trans ((sI_Ik (by decide)).trans s3), Nat.lt_succ_of_lt s4⟩, ⟨by omega, Nat.lt_succ_self _, sN_Ke (h := sI h a 1 0) (n := m) rfl, sN_Le (h := sI h a 1 0) (kd := 12) rfl, Nat.zero_le _, hm⟩, fun j => ?_, fun k hk => absurd hk (Nat.not_lt_zero k)⟩
  show fits .byte (.int (mI (sN (sI h a 1 0) 12 m) (mZ h) j)) = true
  rw [sN_Ie rfl]; exact sb_fit0 j
theorem c_initI {h : MH} {a : Nat} (hB : nwB h a) (h0 : 0 < mZ h) : CT x sJ5_init_d00df [.ref a, .int (nI 16)] h (pV fun h' => inP h h' a 0 fun _ => 0) xNo := by
  have s1 := hB.1
  have s4 := hB.2.2.2
  (refine CT_of (o := 11) rfl (by decide +kernel) (by simp [Value.category, sJ5_init_d00df]) (MW_ev kJ5_init_d00df 300 ?_); show evS _ _ _ _ _ _ 300 0 (1, 16) [.ref a, .int (nI 16)] [] _; simp only [st_iconst, st_lconst, st_ldc2_w, st_ldc, st_iload, st_lload, st_aload, st_istore, st_astore, st_lstore, st_iinc, st_iadd, st_isub, st_imul, st_idiv, st_irem, st_iand, st_ior, st_ishl, st_ishr, st_iushr, st_ladd, st_lmul, st_lshl, st_lushr, st_lcmp, st_i2l, st_l2i, st_i2b, st_i2c, st_i2d, st_i2f, st_dconst, st_fconst, st_ddiv, st_fdiv, st_dup, st_dup2, st_pop, st_goto, st_if_icmp, st_ifCond, st_tableswitch, st_lookupswitch, st_iaload, st_baload, st_laload, st_aaload, st_iastore, st_bastore, st_lastore, st_aastore, st_saload, st_faload, st_jsr, st_caload, st_d2i, st_d2f, st_ineg, st_ixor, st_dup_x1, st_aconst_null, st_ifnonnull, st_castore, st_getstatic, st_frem, st_drem, st_monitorexit, st_monitorenter, st_invokeinterface, st_newarray, st_anewarray, st_multianewarray, asI_c, asJ_c, asR_c, asD_c, asF_c, popI_c, popJ_c, popR_c, popD_c, popF_c, pop1_c, okSt_0, okSt_S, rcv_0, rcv_1, rcv_2, rcv_3, rcv_4, rcv_5, rcv_8, pI_c, pJ_c, pR_c, pV_c, pD_c, pF_c, cmp_eq, cmp_ne, cmp_lt, cmp_ge, cmp_gt, cmp_le, nth_0, nth_S, set_0, set_S, cat_int, cat_ref, cat_long, cat_double, cat_float, cat_null, catS_0, catS_S, swT_0, swT_S, swL_0, swL_S, Nat.add_zero, Nat.reduceAdd, Nat.reduceSub, Nat.reduceLT, Nat.reduceLeDiff, true_and, and_true, eq_self, eJ5_init_d00df_0, fJ5_init_d00df_0, eJ5_init_d00df_1, eJ5_init_d00df_4, cI_1, eJ5_init_d00df_7, tn_25, eJ5_init_d00df_10, eJ5_init_d00df_11, eJ5_init_d00df_12, na_byte, eJ5_init_d00df_14, pf11_15, eJ5_init_d00df_17, eJ5_init_d00df_18, cI_0, eJ5_init_d00df_19, pf11_22, eJ5_init_d00df_22, tn_38, eJ5_init_d00df_25, eJ5_init_d00df_26, eJ5_init_d00df_30, eJ5_init_d00df_33, eJ5_init_d00df_34, eJ5_init_d00df_35, eJ5_init_d00df_38, d_J5_init_d00df, re_J5_init_d00df, reduceIte, n1z, if_true, if_false, n1i, n0i, isIn_J5_init_d00df])
  refine ⟨fun g => absurd g (by decide), fun _ => ?_⟩
  have c16 : (nI 16).toNatClampNeg = 16 := by decide
  rw [c16]
  refine ⟨by decide, by decide, by decide, by decide, (sN_Ko s4).trans s1, by omega, (sN_Ko s4).trans s1, rfl, ?_⟩
  refine ⟨Nat.le_succ _, fun b h1 h2 => EQ_tr (EQ_tr (EQ_sN h1) (EQ_sP h2)) (EQ_sI h2), mZ h, 16, Nat.le_refl _, SBV_new hB (by decide) h0⟩
theorem d_init0 {h : MH} {a : Nat} (hB : nwB h a) (h0 : 0 < mZ h) : CT x sJ4_init_da8c8 [.ref a] h (pV fun h' => inP h h' a 0 fun _ => 0) xNo := by
  (refine CT_of (o := 5) rfl (by decide +kernel) (by simp [Value.category, sJ4_init_da8c8]) (MW_ev kJ4_init_da8c8 300 ?_); show evS _ _ _ _ _ _ 300 0 (1, 16) [.ref a] [] _; simp only [st_iconst, st_lconst, st_ldc2_w, st_ldc, st_iload, st_lload, st_aload, st_istore, st_astore, st_lstore, st_iinc, st_iadd, st_isub, st_imul, st_idiv, st_irem, st_iand, st_ior, st_ishl, st_ishr, st_iushr, st_ladd, st_lmul, st_lshl, st_lushr, st_lcmp, st_i2l, st_l2i, st_i2b, st_i2c, st_i2d, st_i2f, st_dconst, st_fconst, st_ddiv, st_fdiv, st_dup, st_dup2, st_pop, st_goto, st_if_icmp, st_ifCond, st_tableswitch, st_lookupswitch, st_iaload, st_baload, st_laload, st_aaload, st_iastore, st_bastore, st_lastore, st_aastore, st_saload, st_faload, st_jsr, st_caload, st_d2i, st_d2f, st_ineg, st_ixor, st_dup_x1, st_aconst_null, st_ifnonnull, st_castore, st_getstatic, st_frem, st_drem, st_monitorexit, st_monitorenter, st_invokeinterface, st_newarray, st_anewarray, st_multianewarray, asI_c, asJ_c, asR_c, asD_c, asF_c, popI_c, popJ_c, popR_c, popD_c, popF_c, pop1_c, okSt_0, okSt_S, rcv_0, rcv_1, rcv_2, rcv_3, rcv_4, rcv_5, rcv_8, pI_c, pJ_c, pR_c, pV_c, pD_c, pF_c, cmp_eq, cmp_ne, cmp_lt, cmp_ge, cmp_gt, cmp_le, nth_0, nth_S, set_0, set_S, cat_int, cat_ref, cat_long, cat_double, cat_float, cat_null, catS_0, catS_S, swT_0, swT_S, swL_0, swL_S, Nat.add_zero, Nat.reduceAdd, Nat.reduceSub, Nat.reduceLT, Nat.reduceLeDiff, true_and, and_true, eq_self, eJ4_init_da8c8_0, fJ4_init_da8c8_0, eJ4_init_da8c8_1, cI_16, eJ4_init_da8c8_3, iv5_1, c_J5_init_d00df, eJ4_init_da8c8_6, d_J4_init_da8c8, re_J4_init_da8c8, reduceIte, n1z, if_true, if_false, n1i, n0i, isIn_J4_init_da8c8])
  exact CV_of (c_initI hB h0) (fun _ _ z => z.elim) fun h' g => g
theorem c_initS {h : MH} {a s n2 : Nat} {W : Nat → Int32} (hB : nwB h a) (h0 : 0 < mZ h) (hT : STW x h s n2 W) (h7 : mK h s ≠ 7) (hA : asc W n2) (hn : n2 ≤ 100) : CT x sJ5_init_a7421 [.ref a, .ref s] h (pV fun h' => inP h h' a n2 W) xNo := by
  have s1 := hB.1
  have s4 := hB.2.2.2
  obtain ⟨w, f, g1, g2, g3⟩ := STW_v hT
  have hsa : STW x (sN (sI h a 1 0) 12 (n2 + 16)) s n2 W := by
    rcases hT with hT | hT
    · exact Or.inl hT
    · exact absurd hT.1 h7
  have hsb : STW x (sP (sN (sI h a 1 0) 12 (n2 + 16)) a 0 (mZ h)) s n2 W := by
    rcases hT with hT | hT
    · exact Or.inl hT
    · exact absurd hT.1 h7
  (refine CT_of (o := 11) rfl (by decide +kernel) (by simp [Value.category, sJ5_init_a7421]) (MW_ev kJ5_init_a7421 300 ?_); show evS _ _ _ _ _ _ 300 0 (2, 1200) [.ref a, .ref s, .null, .null, .null] [] _; simp only [st_iconst, st_lconst, st_ldc2_w, st_ldc, st_iload, st_lload, st_aload, st_istore, st_astore, st_lstore, st_iinc, st_iadd, st_isub, st_imul, st_idiv, st_irem, st_iand, st_ior, st_ishl, st_ishr, st_iushr, st_ladd, st_lmul, st_lshl, st_lushr, st_lcmp, st_i2l, st_l2i, st_i2b, st_i2c, st_i2d, st_i2f, st_dconst, st_fconst, st_ddiv, st_fdiv, st_dup, st_dup2, st_pop, st_goto, st_if_icmp, st_ifCond, st_tableswitch, st_lookupswitch, st_iaload, st_baload, st_laload, st_aaload, st_iastore, st_bastore, st_lastore, st_aastore, st_saload, st_faload, st_jsr, st_caload, st_d2i, st_d2f, st_ineg, st_ixor, st_dup_x1, st_aconst_null, st_ifnonnull, st_castore, st_getstatic, st_frem, st_drem, st_monitorexit, st_monitorenter, st_invokeinterface, st_newarray, st_anewarray, st_multianewarray, asI_c, asJ_c, asR_c, asD_c, asF_c, popI_c, popJ_c, popR_c, popD_c, popF_c, pop1_c, okSt_0, okSt_S, rcv_0, rcv_1, rcv_2, rcv_3, rcv_4, rcv_5, rcv_8, pI_c, pJ_c, pR_c, pV_c, pD_c, pF_c, cmp_eq, cmp_ne, cmp_lt, cmp_ge, cmp_gt, cmp_le, nth_0, nth_S, set_0, set_S, cat_int, cat_ref, cat_long, cat_double, cat_float, cat_null, catS_0, catS_S, swT_0, swT_S, swL_0, swL_S, Nat.add_zero, Nat.reduceAdd, Nat.reduceSub, Nat.reduceLT, Nat.reduceLeDiff, true_and, and_true, eq_self, eJ5_init_a7421_0, fJ5_init_a7421_0, eJ5_init_a7421_1, eJ5_init_a7421_4, eJ5_init_a7421_5, iv11_32, c_J0_length_8abf5, eJ5_init_a7421_8, eJ5_init_a7421_9, eJ5_init_a7421_10, cI_2147483631, eJ5_init_a7421_12, tn_22, eJ5_init_a7421_15, eJ5_init_a7421_16, cI_16, eJ5_init_a7421_18, eJ5_init_a7421_19, tn_24, eJ5_init_a7421_22, cI_2147483647, eJ5_init_a7421_24, eJ5_init_a7421_25, eJ5_init_a7421_26, iv11_40, c_J0_coder_7d493, eJ5_init_a7421_29, eJ5_init_a7421_31, eJ5_init_a7421_32, eJ5_init_a7421_34, pf11_22, eJ5_init_a7421_37, eJ5_init_a7421_38, eJ5_init_a7421_40, tn_49, eJ5_init_a7421_43, eJ5_init_a7421_44, na_byte, eJ5_init_a7421_46, tn_53, eJ5_init_a7421_49, eJ5_init_a7421_53, pf11_15, eJ5_init_a7421_56, eJ5_init_a7421_57, eJ5_init_a7421_58, iu11_43, c_J4_append_cf1ce, eJ5_init_a7421_61, eJ5_init_a7421_62, d_J5_init_a7421, re_J5_init_a7421, reduceIte, n1z, if_true, if_false, n1i, n0i, isIn_J5_init_a7421])
  refine ⟨rcv_S g1, CI_pure (c_lenG g1 g2) ⟨fun g => absurd g ?_, fun _ => ⟨rcv_S g1, CI_pure (c_coderG g1) ?_⟩⟩⟩
  · show ¬ nI 2147483631 ≤ nI n2
    exact nI_ge (by omega) (by decide)
  rw [nI_add]
  refine ⟨s1, rfl, fun g => absurd rfl g, fun _ => ⟨by decide, nI_pos (by omega), ?_, ?_, ?_⟩⟩
  · rw [nI_clamp (by omega)]; omega
  · rw [nI_clamp (by omega)]; omega
  rw [nI_clamp (by omega)]
  have hS := SBV_new2 (U := fun _ => 0) hB (show n2 + 16 ≤ 400 by omega) h0
  have ka : mK (sN (sI h a 1 0) 12 (n2 + 16)) a = 6 := (sN_Ko (h := sI h a 1 0) s4).trans s1
  refine ⟨ka, by show mZ h ≠ 0; omega, ka, ?_⟩
  refine ⟨_, _, d_brdg hS hsb hA ?_ (by omega), fun _ _ z => z.elim, fun r h' ⟨_, hF, v', m', hv, hS'⟩ => ?_⟩
  · intro g
    exfalso
    have hne : s ≠ mZ h ∧ s ≠ a := sorry
    sorry
  · sorry
end SBY
