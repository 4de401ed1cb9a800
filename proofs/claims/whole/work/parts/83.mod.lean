section MOD
variable {x : CX}
theorem num_in {U : Nat → Int32} {n m : Nat} {t : TK} (h : (numS U n t (nI 0) (nI m - nI 1)).1 = 0) (h1 : 0 < m) (h2 : m < 1000) : inR (numS U n t (nI 0) (nI m - nI 1)).2.2.1 m := by
  have := num_ok h
  rw [← inR_le h1 h2]
  exact ⟨this.1, Int32.not_lt.mp this.2⟩
theorem m_placedArc {h0 h : MH} {j n o np nt : Nat} {U : Nat → Int32} {c : CR} (hC : CS h0 h j U n c) (g : c.1 = 0) (hB : NB c.2.2.1 np nt) (ho : o = 28 ∨ o = 188) : CT x sX5_placedArc [.ref j, .int (nI o)] h (pV fun h' => CS h0 h' j U n (enS (cmA U n c.2.2.1 c.2.2.2 o))) xNo := by
  have a0 := hC.1.1.1
  obtain ⟨w0, w1, n1, n2, m1, m2⟩ := hB
  (refine CT_of (o := 5) rfl (by decide) (by simp [Value.category, sX5_placedArc]) (MW_ev kX5_placedArc 300 ?_); show evS _ _ _ _ _ _ 300 0 (0, 0) [.ref j, .int (nI o), .null, .null] [] _; simp only [st_iconst, st_lconst, st_ldc2_w, st_ldc, st_iload, st_lload, st_aload, st_istore, st_astore, st_lstore, st_iinc, st_iadd, st_isub, st_imul, st_idiv, st_irem, st_iand, st_ior, st_ishl, st_ishr, st_iushr, st_ladd, st_lmul, st_lshl, st_lushr, st_lcmp, st_i2l, st_l2i, st_i2b, st_i2c, st_i2d, st_i2f, st_dconst, st_fconst, st_ddiv, st_fdiv, st_dup, st_dup2, st_pop, st_goto, st_if_icmp, st_ifCond, st_tableswitch, st_lookupswitch, st_iaload, st_baload, st_laload, st_aaload, st_iastore, st_bastore, st_lastore, st_aastore, st_saload, st_faload, st_jsr, st_getstatic, st_frem, st_drem, st_monitorexit, st_monitorenter, st_invokeinterface, st_newarray, st_anewarray, st_multianewarray, asI_c, asJ_c, asR_c, asD_c, asF_c, popI_c, popJ_c, popR_c, popD_c, popF_c, pop1_c, okSt_0, okSt_S, rcv_0, rcv_1, rcv_2, rcv_3, rcv_4, rcv_5, rcv_8, pI_c, pJ_c, pR_c, pV_c, pD_c, pF_c, cmp_eq, cmp_ne, cmp_lt, cmp_ge, cmp_gt, cmp_le, nth_0, nth_S, set_0, set_S, cat_int, cat_ref, cat_long, cat_double, cat_float, cat_null, catS_0, catS_S, swT_0, swT_S, swL_0, swL_S, Nat.add_zero, Nat.reduceAdd, Nat.reduceSub, Nat.reduceLT, Nat.reduceLeDiff, true_and, and_true, eq_self, eX5_placedArc_0, fX5_placedArc_0, eX5_placedArc_1, iv5_243, c_X5_aPlace, eX5_placedArc_4, eX5_placedArc_5, eX5_placedArc_6, iv5_250, c_X5_aTransition, eX5_placedArc_9, eX5_placedArc_10, eX5_placedArc_11, eX5_placedArc_12, eX5_placedArc_13, eX5_placedArc_14, iv5_253, c_X5_arcCommand, eX5_placedArc_17, d_X5_placedArc, re_X5_placedArc])
  refine ⟨a0, CI_of (m_aPlace hC) (fun _ _ z => z.elim) fun r h1 ⟨er, hC1⟩ => ⟨hC1.1.1.1, CI_of (m_aTransition hC1) (fun _ _ z => z.elim) fun r2 h2 ⟨er2, hC2⟩ => ?_⟩⟩
  subst er er2
  obtain ⟨P, hP⟩ : ∃ P, P = numS U n c.2.2.2 (nI 0) (c.2.2.1 0 - nI 1) := ⟨_, rfl⟩
  have e1 := noS_ok (U := U) (n := n) (lo := nI 0) (hi := c.2.2.1 0 - nI 1) g
  rw [← hP] at e1 ⊢
  rw [e1] at hC1 hC2 ⊢
  dsimp only at hC2 ⊢
  have hPi : P.1 = 0 → inR P.2.2.1 np := fun z => by rw [hP, w0] at z ⊢; exact num_in z (by omega) (by omega)
  obtain ⟨Q, hQ⟩ : ∃ Q, Q = numS U n P.2.2.2 (nI 0) (c.2.2.1 1 - nI 1) := ⟨_, rfl⟩
  have hQi : Q.1 = 0 → inR Q.2.2.1 nt := fun z => by rw [hQ, w1] at z ⊢; exact num_in z (by omega) (by omega)
  obtain ⟨c2, hc2⟩ : ∃ c2, c2 = noS U n (nI 0) (c.2.2.1 1 - nI 1) (P.1, P.2.1, c.2.2.1, P.2.2.2) := ⟨_, rfl⟩
  rw [← hc2] at hC2 ⊢
  have k1 : P.1 = 0 → c2 = (Q.1, Q.2.1, c.2.2.1, Q.2.2.2) := fun z => by rw [hc2, noS_ok z, hQ]
  have k2 : ¬ P.1 = 0 → c2 = (P.1, P.2.1, c.2.2.1, P.2.2.2) := fun z => by rw [hc2, noS_bad z]
  have k3 : c2.1 = 0 → P.1 = 0 ∧ Q.1 = 0 := fun z => by
    by_cases gp : P.1 = 0
    · rw [k1 gp] at z; exact ⟨gp, z⟩
    · rw [k2 gp] at z; exact absurd z gp
  refine ⟨hC2.1.1.1, CV_of (m_arcCommand (o := o) (p := cl P.2.2.1) (t := cl Q.2.2.1) hC2 (by omega) fun z => ?_) (fun _ _ z => z.elim) fun h3 hC3 => CS_ce hC3 ?_⟩
  · obtain ⟨gp, gq⟩ := k3 z
    obtain ⟨p, hp, ep⟩ := hPi gp
    obtain ⟨q, hq, eq⟩ := hQi gq
    rw [iteC_t gp, iteC_t z, ← hQ, ep, eq, cl_nI (by omega), cl_nI (by omega)]
    exact ⟨rfl, rfl, by omega⟩
  · have eA : cmA U n c.2.2.1 c.2.2.2 o = iteC (P.1 = 0) (iteC (Q.1 = 0) (iteC ((numS U n Q.2.2.2 (nI 0) (nI 9)).1 = 0) (0, 0, udW c.2.2.1 (o + (cl Q.2.2.1 * 8 + cl P.2.2.1)) (numS U n Q.2.2.2 (nI 0) (nI 9)).2.2.1, (numS U n Q.2.2.2 (nI 0) (nI 9)).2.2.2) ((numS U n Q.2.2.2 (nI 0) (nI 9)).1, (numS U n Q.2.2.2 (nI 0) (nI 9)).2.1, c.2.2.1, (numS U n Q.2.2.2 (nI 0) (nI 9)).2.2.2)) (Q.1, Q.2.1, c.2.2.1, Q.2.2.2)) (P.1, P.2.1, c.2.2.1, P.2.2.2) := by rw [hQ, hP]; rfl
    rw [eA]
    by_cases gp : P.1 = 0
    · rw [k1 gp, iteC_t gp]
      by_cases gq : Q.1 = 0
      · rw [noS_ok (c := (Q.1, Q.2.1, c.2.2.1, Q.2.2.2)) gq, iteC_t gq]
        generalize numS U n Q.2.2.2 (nI 0) (nI 9) = V
        by_cases gv : V.1 = 0
        · rw [iteC_t gv]; exact wr_ce gv.symm (fun _ => rfl) fun z => absurd gv z
        · rw [iteC_f gv]; exact wr_ce rfl (fun z => absurd z gv) fun _ => rfl
      · rw [noS_bad (c := (Q.1, Q.2.1, c.2.2.1, Q.2.2.2)) gq, iteC_f gq]
        exact wr_ce rfl (fun z => absurd z gq) fun _ => rfl
    · rw [k2 gp, noS_bad (c := (P.1, P.2.1, c.2.2.1, P.2.2.2)) gp, iteC_f gp]
      exact wr_ce rfl (fun z => absurd z gp) fun _ => rfl
end MOD
