section SCR
variable {x : CX}
theorem SC_net {h h' : MH} {i n : Nat} {U w w' : Nat → Int32} {t : TK} (hS : SC h i U n w t) (hF : FRr h h' (i + 2) (i + 9)) (hN : NW h' (i + 2) w') : SC h' i U n w' t := by
  obtain ⟨⟨a1, a2, a3, a4, a5, a6, a7, a8⟩, -, ⟨b1, b2, b3⟩, hb⟩ := hS
  have e : ∀ a, a < i + 2 → EQa h h' a := fun a ha => EQ_fr hF (Or.inl ha)
  have ei := e i (by omega)
  have e1 := e (i + 1) (by omega)
  exact ⟨⟨ei.1.trans a1, (ei.2.2 0).2.1.trans a2, e1.1.trans a3, e1.2.1.trans a4, (ei.2.2 1).1.trans a5, a6, (ei.2.2 2).2.1.trans a7, fun k hk => (e1.2.2 k).1.trans (a8 k hk)⟩, hN, ⟨(ei.2.2 5).1.trans b1, (ei.2.2 6).1.trans b2, (ei.2.2 7).1.trans b3⟩, hb⟩
abbrev CR := Nat × Nat × (Nat → Int32) × TK
/-- after a piece of a script: its answer and what it left -/
def cmP (h h' : MH) (i : Nat) (U : Nat → Int32) (n : Nat) (c : CR) (r : Int32) : Prop :=
  SC h' i U n c.2.2.1 c.2.2.2 ∧ FRr h h' i (i + 9) ∧ (c.1 = 0 ∧ r = nI 1 ∧ mI h' i 3 = mI h i 3 ∧ mI h' i 4 = mI h i 4 ∨ ¬ c.1 = 0 ∧ r = nI 0 ∧ mI h' i 3 = nI c.1 ∧ mI h' i 4 = nI c.2.1)
noncomputable def cmT (U : Nat → Int32) (n : Nat) (w : Nat → Int32) (t : TK) : CR :=
  let p := numS U n t (nI 0) (w 0 - nI 1)
  let v := numS U n p.2.2.2 (nI 0) (w (10 + p.2.2.1.toNatClampNeg))
  iteC (p.1 = 0) (iteC (v.1 = 0) (0, 0, udW w (2 + p.2.2.1.toNatClampNeg) v.2.2.1, v.2.2.2) (v.1, v.2.1, w, v.2.2.2)) (p.1, p.2.1, w, p.2.2.2)
theorem c_readTokens {h : MH} {i n np nt : Nat} {U w : Nat → Int32} {t : TK} (hS : SC h i U n w t) (hB : NB w np nt) : CT x sX3_readTokens [.ref i] h (pI fun r h' => cmP h h' i U n (cmT U n w t) r) xNo := by
  have a1 := hS.1.1
  have a7 := hS.1.2.2.2.2.2.2.1
  have n0 := hS.2.1.1.1
  have n1 : mI h (i + 2) 0 = w 0 := hS.2.1.1.2.1
  (refine CT_of (o := 3) rfl (by decide +kernel) (by simp [Value.category, sX3_readTokens]) (MW_ev kX3_readTokens 300 ?_); show evS _ _ _ _ _ _ 300 0 (0, 0) [.ref i, .null, .null] [] _; simp only [st_iconst, st_lconst, st_ldc2_w, st_ldc, st_iload, st_lload, st_aload, st_istore, st_astore, st_lstore, st_iinc, st_iadd, st_isub, st_imul, st_idiv, st_irem, st_iand, st_ior, st_ishl, st_ishr, st_iushr, st_ladd, st_lmul, st_lshl, st_lushr, st_lcmp, st_i2l, st_l2i, st_i2b, st_i2c, st_i2d, st_i2f, st_dconst, st_fconst, st_ddiv, st_fdiv, st_dup, st_dup2, st_pop, st_goto, st_if_icmp, st_ifCond, st_tableswitch, st_lookupswitch, st_iaload, st_baload, st_laload, st_aaload, st_iastore, st_bastore, st_lastore, st_aastore, st_saload, st_faload, st_jsr, st_caload, st_d2i, st_d2f, st_ineg, st_ixor, st_dup_x1, st_aconst_null, st_ifnonnull, st_castore, st_getstatic, st_frem, st_drem, st_monitorexit, st_monitorenter, st_invokeinterface, st_newarray, st_anewarray, st_multianewarray, asI_c, asJ_c, asR_c, asD_c, asF_c, popI_c, popJ_c, popR_c, popD_c, popF_c, pop1_c, okSt_0, okSt_S, rcv_0, rcv_1, rcv_2, rcv_3, rcv_4, rcv_5, rcv_8, pI_c, pJ_c, pR_c, pV_c, pD_c, pF_c, cmp_eq, cmp_ne, cmp_lt, cmp_ge, cmp_gt, cmp_le, nth_0, nth_S, set_0, set_S, cat_int, cat_ref, cat_long, cat_double, cat_float, cat_null, catS_0, catS_S, swT_0, swT_S, swL_0, swL_S, Nat.add_zero, Nat.reduceAdd, Nat.reduceSub, Nat.reduceLT, Nat.reduceLeDiff, true_and, and_true, eq_self, eX3_readTokens_0, fX3_readTokens_0, eX3_readTokens_1, cI_0, eX3_readTokens_2, eX3_readTokens_3, gf3_22, eX3_readTokens_6, gf3_119, eX3_readTokens_9, cI_1, eX3_readTokens_10, eX3_readTokens_11, iv3_63, c_X3_readNumber, eX3_readTokens_14, eX3_readTokens_15, eX3_readTokens_16, cI_m1, eX3_readTokens_17, tn_24, eX3_readTokens_20, eX3_readTokens_21, tn_38, eX3_readTokens_24, eX3_readTokens_25, eX3_readTokens_26, eX3_readTokens_27, eX3_readTokens_30, gf3_122, eX3_readTokens_33, eX3_readTokens_34, eX3_readTokens_35, eX3_readTokens_38, eX3_readTokens_39, eX3_readTokens_40, eX3_readTokens_41, tn_46, eX3_readTokens_44, eX3_readTokens_45, eX3_readTokens_46, eX3_readTokens_47, eX3_readTokens_50, gf3_125, eX3_readTokens_53, eX3_readTokens_54, eX3_readTokens_55, eX3_readTokens_56, eX3_readTokens_57, d_X3_readTokens, re_X3_readTokens])
  simp (disch := omega) only [nI_mul, nI_add, nI_clamp, nI_inE, nI_leE, nI_ltE, nI_eqE, nI_eqz, nI_ltz, nI_gez, nI_lez, nI_gtz, nI_m1, nI_m1', nI_ltm, nI_gem, nI_gtm, nI_lem, nI_00, nI_01, nI_10, nI_11, bI_z, bI_1, bI_0, bI_b, bI_nz, bit_e, arK_i, arK_b, arK_j, true_and, and_true, ne_eq, not_false_eq_true, not_true_eq_false, false_and, and_false, true_or, or_true, false_or, or_false, Classical.not_not, forall_const, true_implies, implies_true, false_implies, eq_self, a1, a7, n0, n1]
  refine ⟨by omega, call_num hS fun h1 hS1 hF1 hr => ?_⟩
  obtain ⟨P, hP⟩ : ∃ P, P = numS U n t (nI 0) (w 0 - nI 1) := ⟨_, rfl⟩
  rw [← hP] at hS1 hr
  rw [← hP]
  rcases hr with ⟨r0, r1, r2, r3, r4⟩ | ⟨r0, r1, r3, r4⟩
  · rw [hB.1] at r2
    obtain ⟨p, hp, ep⟩ := num_nat (by have := hB.2.2.2.1; omega) r1 r2
    have hp8 : p < 8 := by have := hB.2.2.2.1; omega
    have b1 := hS1.1.1
    have b7 := hS1.1.2.2.2.2.2.2.1
    have m0 := hS1.2.1.1.1
    obtain ⟨q0, q1, q2, q3⟩ := hS1.2.1.1.2.2.2.2.1
    have q3p := q3 p hp8
    rw [ep]
    simp (disch := omega) only [nI_mul, nI_add, nI_clamp, nI_inE, nI_leE, nI_ltE, nI_eqE, nI_eqz, nI_ltz, nI_gez, nI_lez, nI_gtz, nI_m1, nI_m1', nI_ltm, nI_gem, nI_gtm, nI_lem, nI_00, nI_01, nI_10, nI_11, bI_z, bI_1, bI_0, bI_b, bI_nz, bit_e, arK_i, arK_b, arK_j, true_and, and_true, ne_eq, not_false_eq_true, not_true_eq_false, false_and, and_false, true_or, or_true, false_or, or_false, Classical.not_not, forall_const, true_implies, implies_true, false_implies, eq_self, b1, b7, m0, q0, q1, q2, q3p]
    refine ⟨by omega, call_num hS1 fun h2 hS2 hF2 hr2 => ?_⟩
    obtain ⟨V, hV⟩ : ∃ V, V = numS U n P.2.2.2 (nI 0) (w (10 + p)) := ⟨_, rfl⟩
    rw [← hV] at hS2 hr2
    rw [← hV]
    have hC : cmT U n w t = iteC (V.1 = 0) (0, 0, udW w (2 + p) V.2.2.1, V.2.2.2) (V.1, V.2.1, w, V.2.2.2) := by
      unfold cmT
      simp only [← hP]
      rw [ep, nI_clamp (by omega), ← hV]
      exact iteC_t r0
    have hFF := FRr_mono (lo' := i) (hi' := i + 9) (FRr_tr hF1 hF2) (by omega) (by omega)
    rcases hr2 with ⟨s0, s1, s2, s3, s4⟩ | ⟨s0, s1, s3, s4⟩
    · have hv : ¬ V.2.2.1 = -1 := fun z => s1 (by rw [z]; decide)
      rw [iteC_t s0] at hC
      rw [hC]
      have c1 := hS2.1.1
      have c7 := hS2.1.2.2.2.2.2.2.1
      have x0 := hS2.2.1.1.1
      obtain ⟨y0, y1, y2, y3⟩ := hS2.2.1.1.2.2.2.1
      have x2 := hS2.2.1.2.1
      refine ⟨fun _ => ?_, fun z => absurd z hv⟩
      rw [x2] at y0 y1 y2
      rw [c7, x2]
      refine ⟨c1, by omega, x0, y0, y1, by rw [y2]; exact vp_in_nI hp8 (by decide), SC_net hS2 (FRr_sI (by omega) (by omega)) (NW_s2 hS2.2.1 hp8), FRr_tr hFF (FRr_sI (by omega) (by omega)), Or.inl ⟨rfl, rfl, ?_, ?_⟩⟩
      · rw [sI_Ia (by omega), s3, r3]
      · rw [sI_Ia (by omega), s4, r4]
    · rw [iteC_f s0] at hC
      rw [hC]
      exact ⟨fun z => absurd s1 z, fun _ => ⟨hS2, hFF, Or.inr ⟨s0, rfl, s3, s4⟩⟩⟩
  · rw [r1]
    simp (disch := omega) only [nI_mul, nI_add, nI_clamp, nI_inE, nI_leE, nI_ltE, nI_eqE, nI_eqz, nI_ltz, nI_gez, nI_lez, nI_gtz, nI_m1, nI_m1', nI_ltm, nI_gem, nI_gtm, nI_lem, nI_00, nI_01, nI_10, nI_11, bI_z, bI_1, bI_0, bI_b, bI_nz, bit_e, arK_i, arK_b, arK_j, true_and, and_true, ne_eq, not_false_eq_true, not_true_eq_false, false_and, and_false, true_or, or_true, false_or, or_false, Classical.not_not, forall_const, true_implies, implies_true, false_implies, eq_self]
    have ec : cmT U n w t = (P.1, P.2.1, w, P.2.2.2) := by unfold cmT; simp only [← hP]; exact iteC_f r0
    rw [ec]
    exact ⟨hS1, FRr_mono hF1 (by omega) (by omega), Or.inr ⟨r0, rfl, r3, r4⟩⟩
end SCR
