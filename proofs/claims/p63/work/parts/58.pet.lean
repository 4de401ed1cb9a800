section PET
variable {x : CX}
theorem call_add {h : MH} {i n : Nat} {U : Nat → Int32} {v : Int32} {xk : String → MH → Prop} {k : MH → Prop} (hX : SXs h i U n) (hn : n + 4 ≤ 500) (hk : ∀ h', SXs h' i (apU U n v) (n + 4) → FRr h h' i (i + 2) → mI h' i 3 = mI h i 3 → mI h' i 4 = mI h i 4 → k h') : CALLV x sX3_addFourBytes [.ref i, .int v] h xk k := by
  obtain ⟨a1, a2, a3, a4, a5, -, a7, a8⟩ := hX
  refine CV_of (c_addFour (x := x) (v := v) a1 a2 a3 a4 a5 hn) (fun _ _ z => z.elim) fun h' ⟨p1, p2, p3, p4, p5, p6⟩ => ?_
  refine hk h' ⟨(p1.2.1 i).trans a1, (p2 i 0).trans a2, (p1.2.1 _).trans a3, (p1.2.2.1 _).trans a4, p4, hn, (p2 i 2).trans a7, fun k hk => ?_⟩ p1 (p3 3 (by decide)) (p3 4 (by decide))
  unfold apU
  by_cases g : k < n
  · rw [if_pos g, p5 k g, a8 k g]
  · rw [if_neg g]
    have := p6 (k - n) (by omega)
    rwa [show n + (k - n) = k by omega] at this
theorem c_append {h : MH} {i : Nat} {s : AS} {a b c d e : Int32} (hP : PO h i s) : OPC x sX4_append [.ref i, .int a, .int b, .int c, .int d, .int e] h i [] (qApp s a b c d e) := by
  obtain ⟨a0, -, -, -, -, p5, -⟩ := hP.1
  obtain ⟨hX, hU, ek, eo⟩ := hP.2.2.2.2.2.2.1
  have b1 := hX.1
  have b5 := hX.2.2.2.2.1
  have b6 := hX.2.2.2.2.2.1
  (refine CT_of (o := 4) rfl (by decide +kernel) (by simp [Value.category, sX4_append]) (MW_ev kX4_append 300 ?_); show evS _ _ _ _ _ _ 300 0 (0, 0) [.ref i, .int a, .int b, .int c, .int d, .int e] [] _; simp only [st_iconst, st_lconst, st_ldc2_w, st_ldc, st_iload, st_lload, st_aload, st_istore, st_astore, st_lstore, st_iinc, st_iadd, st_isub, st_imul, st_idiv, st_irem, st_iand, st_ior, st_ishl, st_ishr, st_iushr, st_ladd, st_lmul, st_lshl, st_lushr, st_lcmp, st_i2l, st_l2i, st_i2b, st_i2c, st_i2d, st_i2f, st_dconst, st_fconst, st_ddiv, st_fdiv, st_dup, st_dup2, st_pop, st_goto, st_if_icmp, st_ifCond, st_tableswitch, st_lookupswitch, st_iaload, st_baload, st_laload, st_aaload, st_iastore, st_bastore, st_lastore, st_aastore, st_saload, st_faload, st_jsr, st_caload, st_d2i, st_d2f, st_ineg, st_ixor, st_dup_x1, st_aconst_null, st_ifnonnull, st_castore, st_getstatic, st_frem, st_drem, st_monitorexit, st_monitorenter, st_invokeinterface, st_newarray, st_anewarray, st_multianewarray, asI_c, asJ_c, asR_c, asD_c, asF_c, popI_c, popJ_c, popR_c, popD_c, popF_c, pop1_c, okSt_0, okSt_S, rcv_0, rcv_1, rcv_2, rcv_3, rcv_4, rcv_5, rcv_8, pI_c, pJ_c, pR_c, pV_c, pD_c, pF_c, cmp_eq, cmp_ne, cmp_lt, cmp_ge, cmp_gt, cmp_le, nth_0, nth_S, set_0, set_S, cat_int, cat_ref, cat_long, cat_double, cat_float, cat_null, catS_0, catS_S, swT_0, swT_S, swL_0, swL_S, Nat.add_zero, Nat.reduceAdd, Nat.reduceSub, Nat.reduceLT, Nat.reduceLeDiff, true_and, and_true, eq_self, eX4_append_0, fX4_append_0, eX4_append_1, gf4_40, eX4_append_4, gf4_93, eX4_append_7, cI_480, eX4_append_10, tn_16, eX4_append_13, cI_m2, eX4_append_15, eX4_append_16, eX4_append_17, eX4_append_20, eX4_append_21, iv4_96, c_X3_addFourBytes, eX4_append_24, eX4_append_25, eX4_append_28, eX4_append_29, eX4_append_32, eX4_append_33, eX4_append_36, eX4_append_37, eX4_append_40, eX4_append_41, eX4_append_44, eX4_append_46, eX4_append_49, eX4_append_50, eX4_append_53, eX4_append_55, eX4_append_58, eX4_append_59, eX4_append_62, eX4_append_65, d_X4_append, re_X4_append])
  simp (disch := omega) only [nI_mul, nI_add, nI_clamp, nI_inE, nI_leE, nI_ltE, nI_eqE, nI_eqz, nI_ltz, nI_gez, nI_lez, nI_gtz, nI_m1, nI_m1', nI_ltm, nI_gem, nI_gtm, nI_lem, nI_00, nI_01, nI_10, nI_11, bI_z, bI_1, bI_0, bI_b, bI_nz, bit_e, arK_i, arK_b, arK_j, true_and, and_true, ne_eq, not_false_eq_true, not_true_eq_false, false_and, and_false, true_or, or_true, false_or, or_false, Classical.not_not, forall_const, true_implies, implies_true, false_implies, eq_self, a0, p5, b1, b5]
  refine ⟨Nat.succ_ne_zero _, fun g => ?_, fun g => ?_⟩
  · have hq : qApp s a b c d e = _ := iteC_f (show ¬ 480 < aN s by omega)
    have fld : ∀ h', FRr h h' (i + 94) (i + 96) → mK h' i = 5 ∧ mP h' i 5 = i + 94 := fun h' hF => ⟨(hF.2.1 i).trans a0, (hF.2.2.2 i (by omega) 5).2.1.trans p5⟩
    refine ⟨Nat.succ_ne_zero _, call_add hX (by omega) fun h1 hX1 hF1 t1 u1 => ?_⟩
    obtain ⟨q1, q2⟩ := fld h1 hF1
    have c1 := hX1.1
    simp (disch := omega) only [nI_mul, nI_add, nI_clamp, nI_inE, nI_leE, nI_ltE, nI_eqE, nI_eqz, nI_ltz, nI_gez, nI_lez, nI_gtz, nI_m1, nI_m1', nI_ltm, nI_gem, nI_gtm, nI_lem, nI_00, nI_01, nI_10, nI_11, bI_z, bI_1, bI_0, bI_b, bI_nz, bit_e, arK_i, arK_b, arK_j, true_and, and_true, ne_eq, not_false_eq_true, not_true_eq_false, false_and, and_false, true_or, or_true, false_or, or_false, Classical.not_not, forall_const, true_implies, implies_true, false_implies, eq_self, q1, q2, c1]
    refine ⟨Nat.succ_ne_zero _, call_add hX1 (by omega) fun h2 hX2 hF2 t2 u2 => ?_⟩
    have hF2 := FRr_tr hF1 hF2
    obtain ⟨q1, q2⟩ := fld h2 hF2
    have c1 := hX2.1
    simp (disch := omega) only [nI_mul, nI_add, nI_clamp, nI_inE, nI_leE, nI_ltE, nI_eqE, nI_eqz, nI_ltz, nI_gez, nI_lez, nI_gtz, nI_m1, nI_m1', nI_ltm, nI_gem, nI_gtm, nI_lem, nI_00, nI_01, nI_10, nI_11, bI_z, bI_1, bI_0, bI_b, bI_nz, bit_e, arK_i, arK_b, arK_j, true_and, and_true, ne_eq, not_false_eq_true, not_true_eq_false, false_and, and_false, true_or, or_true, false_or, or_false, Classical.not_not, forall_const, true_implies, implies_true, false_implies, eq_self, q1, q2, c1]
    refine ⟨Nat.succ_ne_zero _, call_add hX2 (by omega) fun h3 hX3 hF3 t3 u3 => ?_⟩
    have hF3 := FRr_tr hF2 hF3
    obtain ⟨q1, q2⟩ := fld h3 hF3
    have c1 := hX3.1
    simp (disch := omega) only [nI_mul, nI_add, nI_clamp, nI_inE, nI_leE, nI_ltE, nI_eqE, nI_eqz, nI_ltz, nI_gez, nI_lez, nI_gtz, nI_m1, nI_m1', nI_ltm, nI_gem, nI_gtm, nI_lem, nI_00, nI_01, nI_10, nI_11, bI_z, bI_1, bI_0, bI_b, bI_nz, bit_e, arK_i, arK_b, arK_j, true_and, and_true, ne_eq, not_false_eq_true, not_true_eq_false, false_and, and_false, true_or, or_true, false_or, or_false, Classical.not_not, forall_const, true_implies, implies_true, false_implies, eq_self, q1, q2, c1]
    refine ⟨Nat.succ_ne_zero _, call_add hX3 (by omega) fun h4 hX4 hF4 t4 u4 => ?_⟩
    have hF4 := FRr_tr hF3 hF4
    obtain ⟨q1, q2⟩ := fld h4 hF4
    have c1 := hX4.1
    simp (disch := omega) only [nI_mul, nI_add, nI_clamp, nI_inE, nI_leE, nI_ltE, nI_eqE, nI_eqz, nI_ltz, nI_gez, nI_lez, nI_gtz, nI_m1, nI_m1', nI_ltm, nI_gem, nI_gtm, nI_lem, nI_00, nI_01, nI_10, nI_11, bI_z, bI_1, bI_0, bI_b, bI_nz, bit_e, arK_i, arK_b, arK_j, true_and, and_true, ne_eq, not_false_eq_true, not_true_eq_false, false_and, and_false, true_or, or_true, false_or, or_false, Classical.not_not, forall_const, true_implies, implies_true, false_implies, eq_self, q1, q2, c1]
    refine ⟨Nat.succ_ne_zero _, call_add hX4 (by omega) fun h5 hX5 hF5 t5 u5 => ?_⟩
    have hF5 := FRr_tr hF4 hF5
    obtain ⟨q1, q2⟩ := fld h5 hF5
    have c1 := hX5.1
    have c5 := hX5.2.2.2.2.1
    simp (disch := omega) only [nI_mul, nI_add, nI_clamp, nI_inE, nI_leE, nI_ltE, nI_eqE, nI_eqz, nI_ltz, nI_gez, nI_lez, nI_gtz, nI_m1, nI_m1', nI_ltm, nI_gem, nI_gtm, nI_lem, nI_00, nI_01, nI_10, nI_11, bI_z, bI_1, bI_0, bI_b, bI_nz, bit_e, arK_i, arK_b, arK_j, true_and, and_true, ne_eq, not_false_eq_true, not_true_eq_false, false_and, and_false, true_or, or_true, false_or, or_false, Classical.not_not, forall_const, true_implies, implies_true, false_implies, eq_self, q1, q2, c1, c5]
    refine ⟨Nat.succ_ne_zero _, ok_of (r := nI (aN s + 20)) hq (PO_scr hP (FRr_mono hF5 (by omega) (by omega)) hX5 ?_ (t5.trans (t4.trans (t3.trans (t2.trans (t1.trans ek))))) (u5.trans (u4.trans (u3.trans (u2.trans (u1.trans eo)))))) (FZ_rm hF5 (by omega) (by omega))⟩
    obtain ⟨u, hu⟩ := hU
    exact ⟨u, NW_fr hu hF5 (by omega)⟩
  · have hq : qApp s a b c d e = okA s (-2) := iteC_t (show 480 < aN s by omega)
    exact ok_of hq hP fz0
/-- two pieces of scripts that differ in a net that counts no more -/
def rC (c c' : CR) : Prop := c.1 = c'.1 ∧ c.2.1 = c'.2.1 ∧ (c.1 = 0 → c = c')
theorem rC_rfl {c : CR} : rC c c := ⟨rfl, rfl, fun _ => rfl⟩
theorem rC_ite {p : Prop} {a a' b b' : CR} (h1 : rC a a') (h2 : rC b b') : rC (iteC p a b) (iteC p a' b') := by
  by_cases g : p
  · rw [iteC_t g, iteC_t g]; exact h1
  · rw [iteC_f g, iteC_f g]; exact h2
theorem rC_bad {k e : Nat} {w w' : Nat → Int32} {t : TK} (h : ¬ k = 0) : rC (k, e, w, t) (k, e, w', t) := ⟨rfl, rfl, fun z => absurd z h⟩
theorem hd_rC {U w w' : Nat → Int32} {n : Nat} {t : TK} : rC (hdS U n w t) (hdS U n w' t) := by
  unfold hdS
  simp only []
  refine rC_ite ?_ (rC_bad (by decide))
  by_cases g : (numS U n (tokS U n t.2.2) (nI 1) (nI 8)).1 = 0
  · rw [iteC_t g, iteC_t g]
    by_cases g2 : (numS U n (numS U n (tokS U n t.2.2) (nI 1) (nI 8)).2.2.2 (nI 1) (nI 10)).1 = 0
    · rw [iteC_t g2, iteC_t g2]; exact rC_rfl
    · rw [iteC_f g2, iteC_f g2]; exact rC_bad g2
  · rw [iteC_f g, iteC_f g]; exact rC_bad g
theorem st_rC {U : Nat → Int32} {n : Nat} {c c' : CR} (h : rC c c') : rC (stS U n c) (stS U n c') := by
  by_cases g : c.1 = 0
  · rw [h.2.2 g]; exact rC_rfl
  · rw [st_f g, st_f (h.1 ▸ g)]; exact h
theorem lp_rC {U : Nat → Int32} {n f : Nat} {c c' : CR} (h : rC c c') : rC (lpS U n f c) (lpS U n f c') := by
  by_cases g : c.1 = 0
  · rw [h.2.2 g]; exact rC_rfl
  · cases f with
    | zero => exact h
    | succ f =>
      rw [show lpS U n (f + 1) c = c from iteC_f fun z => g z.1, show lpS U n (f + 1) c' = c' from iteC_f fun z => g (h.1.trans z.1)]
      exact h
theorem sc_rC {U w w' : Nat → Int32} {n : Nat} : rC (scX U n w) (scX U n w') := lp_rC (st_rC hd_rC)
theorem sc_B {U w : Nat → Int32} {n : Nat} (h : (scX U n w).1 = 0) : ∃ np nt, NB (scX U n w).2.2.1 np nt := by
  have lp : ∀ f c, (c.1 = 0 → ∃ np nt, NB c.2.2.1 np nt) → (lpS U n f c).1 = 0 → ∃ np nt, NB (lpS U n f c).2.2.1 np nt := by
    intro f
    induction f with
    | zero => exact fun c hc h => hc h
    | succ f ih =>
      intro c hc h
      by_cases g : c.1 = 0 ∧ ¬ c.2.2.2.1 = 0
      · rw [show lpS U n (f + 1) c = _ from iteC_t g] at h ⊢
        obtain ⟨np, nt, hB⟩ := hc g.1
        have hB' : NB c.2.2.1 (npW c.2.2.1) (ntW c.2.2.1) := by rw [npW_e hB, ntW_e hB]; exact hB
        exact ih _ (fun _ => ⟨_, _, st_B (cm_B hB')⟩) h
      · rw [show lpS U n (f + 1) c = c from iteC_f g] at h ⊢
        exact hc h
  refine lp n _ (fun z => ?_) h
  have h0 : (hdS U n w (tokS U n 0)).1 = 0 := Classical.byContradiction fun g => g (by rwa [st_f g] at z)
  obtain ⟨np, nt, -, hB⟩ := hd_B h0
  exact ⟨np, nt, st_B hB⟩
end PET
