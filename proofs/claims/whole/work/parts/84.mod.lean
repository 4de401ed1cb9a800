section MOD
variable {x : CX}
theorem wrd_eq {U : Nat → Int32} {t : TK} {a b : Nat} (h1 : lenS.getD a 0 = lenS.getD b 0) (h2 : ∀ j, j < lenS.getD a 0 → chS a j = chS b j) : wrdS U t a = wrdS U t b := propext ⟨fun z => ⟨z.1, z.2.1.trans h1, fun j hj => (z.2.2 j (by rw [h1]; exact hj)).trans (h2 j (by rw [h1]; exact hj))⟩, fun z => ⟨z.1, z.2.1.trans h1.symm, fun j hj => (z.2.2 j (by rw [← h1]; exact hj)).trans (h2 j hj).symm⟩⟩
theorem wd17 {U : Nat → Int32} {t : TK} : wrdS U t 17 = wrdS U t 0 := wrd_eq (by decide +kernel) (by decide +kernel)
theorem wd18 {U : Nat → Int32} {t : TK} : wrdS U t 18 = wrdS U t 1 := wrd_eq (by decide +kernel) (by decide +kernel)
theorem wd19 {U : Nat → Int32} {t : TK} : wrdS U t 19 = wrdS U t 2 := wrd_eq (by decide +kernel) (by decide +kernel)
theorem wd20 {U : Nat → Int32} {t : TK} : wrdS U t 20 = wrdS U t 4 := wrd_eq (by decide +kernel) (by decide +kernel)
theorem wd21 {U : Nat → Int32} {t : TK} : wrdS U t 21 = wrdS U t 3 := wrd_eq (by decide +kernel) (by decide +kernel)
theorem wd22 {U : Nat → Int32} {t : TK} : wrdS U t 22 = wrdS U t 5 := wrd_eq (by decide +kernel) (by decide +kernel)
theorem wd23 {U : Nat → Int32} {t : TK} : wrdS U t 23 = wrdS U t 6 := wrd_eq (by decide +kernel) (by decide +kernel)
theorem wd24 {U : Nat → Int32} {t : TK} : wrdS U t 24 = wrdS U t 7 := wrd_eq (by decide +kernel) (by decide +kernel)
theorem ad_ok {U : Nat → Int32} {n : Nat} {c : CR} (g : c.1 = 0) : adS U n c = (0, 0, c.2.2.1, tokS U n c.2.2.2.2.2) := iteC_t g
theorem call_scanC {h0 h : MH} {j n : Nat} {U : Nat → Int32} {c : CR} {xk : String → MH → Prop} {k : MH → Prop} (hC : CS h0 h j U n c) (g : c.1 = 0) (hk : ∀ h', CS h0 h' j U n (0, 0, c.2.2.1, tokS U n c.2.2.2.2.2) → k h') : CALLV x sX5_scan [.ref j] h xk k := by
  obtain ⟨m18, m17, m19, mb, -⟩ := (hC.2.2.2.2.1 g).2
  refine CV_of (m_scan hC.1 mb.2.1 m17) (fun _ _ z => z.elim) fun h' ⟨t1, t2⟩ => hk h' ?_
  have hF : FI h h' (SS j) := FI_mono t2 fun a k hk => by unfold ST at hk; unfold SS; omega
  obtain ⟨w, np, nt, e1, e2, e3⟩ := CS_MN hC hF
  exact ⟨CS_TX hC hF, FI_tr hC.2.1 (SS_Q hF), ⟨(t2.2.2.2.2 j 21 (by unfold ST; omega)).trans (hC.2.2.1.1.trans (by rw [g])), show 0 < 4 by decide⟩, ⟨w, np, nt, e1, e2, fun _ => e3 g⟩, fun _ => ⟨(t2.2.2.2.2 j 22 (by unfold ST; omega)).trans (hC.2.2.2.2.1 g).1, t1⟩, fun z => absurd rfl z⟩
theorem call_endw {h0 h : MH} {j n : Nat} {U w' : Nat → Int32} {d Z : CR} {R : MH → Prop} (hC : CS h0 h j U n d) (h1 : Z.1 = d.1) (h2 : d.1 = 0 → Z.2.2 = (w', d.2.2.2)) (h3 : ¬ d.1 = 0 → Z.2.1 = d.2.1) (hR : ∀ h', d.1 = 0 → CS h0 h' j U n d → (∀ h'' np nt, MN h'' j w' → NB w' np nt → FI h' h'' (fun a _ => a = j + 1) → CS h0 h'' j U n (enS Z)) → R h') : CALLI x sX5_ends [.ref j] h xNo fun r h' => (r = 0 → CS h0 h' j U n (enS Z)) ∧ (¬ r = 0 → R h') := by
  have hW := wr_ce (c := d) (d := Z) (w := w') h1 h2 h3
  refine CI_of (m_ends hC) (fun _ _ z => z.elim) fun r h' ⟨er, hC'⟩ => ?_
  subst er
  rw [bI_z]
  refine ⟨fun g => ?_, fun g => ?_⟩
  · rw [show wrS d w' = enS d from iteC_f g] at hW
    exact CS_ce hC' hW
  · have g := Classical.not_not.mp g
    obtain ⟨g1, g2, ge⟩ := en_ok g
    rw [show wrS d w' = _ from iteC_t g] at hW
    rw [ge] at hC'
    exact hR h' g1 hC' fun h'' np nt hN hB hF => CS_ce (CS_w hC' g1 hN hB hF fun a k hk => hk) hW
theorem num_tk {U : Nat → Int32} {n : Nat} {t : TK} {lo hi : Int32} (h : (numS U n t lo hi).1 = 0) : (numS U n t lo hi).2.2.2 = tokS U n t.2.2 := by
  unfold numS at *
  by_cases g : t.1 = 2
  · rw [iteC_t g] at h ⊢
    by_cases g2 : valS U t.2.1 (t.2.2 - t.2.1) < lo ∨ hi < valS U t.2.1 (t.2.2 - t.2.1)
    · rw [iteC_t g2] at h; exact absurd (show (2 : Nat) = 0 from h) (by decide)
    · rw [iteC_f g2]
  · rw [iteC_f g] at h; exact absurd (show (1 : Nat) = 0 from h) (by decide)
theorem m_firingCommand {h0 h : MH} {j n np nt : Nat} {U : Nat → Int32} {c : CR} (hC : CS h0 h j U n c) (g : c.1 = 0) (hB : NB c.2.2.1 np nt) : CT x sX5_firingCommand [.ref j] h (pV fun h' => CS h0 h' j U n (enS (iteC (wrdS U c.2.2.2 6) (cmF U n c.2.2.1 np (tokS U n c.2.2.2.2.2)) (iteC (wrdS U c.2.2.2 7) (cmR U n c.2.2.1 np nt (tokS U n c.2.2.2.2.2)) (1, c.2.2.2.2.1, c.2.2.1, c.2.2.2))))) xNo := by
  have a0 := hC.1.1.1
  have hB0 := hB
  obtain ⟨w0, w1, n1, n2, m1, m2⟩ := hB0
  have hA := ad_ok (U := U) (n := n) g
  obtain ⟨t1, ht1⟩ : ∃ t1, t1 = tokS U n c.2.2.2.2.2 := ⟨_, rfl⟩
  rw [← ht1] at hA
  rw [← ht1]
  obtain ⟨Z, hZ⟩ : ∃ Z, Z = iteC (wrdS U c.2.2.2 6) (cmF U n c.2.2.1 np t1) (iteC (wrdS U c.2.2.2 7) (cmR U n c.2.2.1 np nt t1) (1, c.2.2.2.2.1, c.2.2.1, c.2.2.2)) := ⟨_, rfl⟩
  rw [← hZ]
  (refine CT_of (o := 5) rfl (by decide) (by simp [Value.category, sX5_firingCommand]) (MW_ev kX5_firingCommand 300 ?_); show evS _ _ _ _ _ _ 300 0 (0, 0) [.ref j, .null, .null] [] _; simp only [st_iconst, st_lconst, st_ldc2_w, st_ldc, st_iload, st_lload, st_aload, st_istore, st_astore, st_lstore, st_iinc, st_iadd, st_isub, st_imul, st_idiv, st_irem, st_iand, st_ior, st_ishl, st_ishr, st_iushr, st_ladd, st_lmul, st_lshl, st_lushr, st_lcmp, st_i2l, st_l2i, st_i2b, st_i2c, st_i2d, st_i2f, st_dconst, st_fconst, st_ddiv, st_fdiv, st_dup, st_dup2, st_pop, st_goto, st_if_icmp, st_ifCond, st_tableswitch, st_lookupswitch, st_iaload, st_baload, st_laload, st_aaload, st_iastore, st_bastore, st_lastore, st_aastore, st_saload, st_faload, st_jsr, st_getstatic, st_frem, st_drem, st_monitorexit, st_monitorenter, st_invokeinterface, st_newarray, st_anewarray, st_multianewarray, asI_c, asJ_c, asR_c, asD_c, asF_c, popI_c, popJ_c, popR_c, popD_c, popF_c, pop1_c, okSt_0, okSt_S, rcv_0, rcv_1, rcv_2, rcv_3, rcv_4, rcv_5, rcv_8, pI_c, pJ_c, pR_c, pV_c, pD_c, pF_c, cmp_eq, cmp_ne, cmp_lt, cmp_ge, cmp_gt, cmp_le, nth_0, nth_S, set_0, set_S, cat_int, cat_ref, cat_long, cat_double, cat_float, cat_null, catS_0, catS_S, swT_0, swT_S, swL_0, swL_S, Nat.add_zero, Nat.reduceAdd, Nat.reduceSub, Nat.reduceLT, Nat.reduceLeDiff, true_and, and_true, eq_self, eX5_firingCommand_0, fX5_firingCommand_0, eX5_firingCommand_1, eX5_firingCommand_4, iv5_228, c_X5_isWord, eX5_firingCommand_7, tn_67, eX5_firingCommand_10, eX5_firingCommand_11, iv5_211, c_X5_scan, eX5_firingCommand_14, eX5_firingCommand_15, cI_0, eX5_firingCommand_16, eX5_firingCommand_17, gf5_9, eX5_firingCommand_20, cI_1, eX5_firingCommand_21, eX5_firingCommand_22, eX5_firingCommand_23, eX5_firingCommand_24, iv5_217, c_X5_numberHere, eX5_firingCommand_27, eX5_firingCommand_28, eX5_firingCommand_29, iv5_207, c_X5_good, eX5_firingCommand_32, tn_48, eX5_firingCommand_35, eX5_firingCommand_36, eX5_firingCommand_37, iv5_98, c_X5_enabled, eX5_firingCommand_40, eX5_firingCommand_43, eX5_firingCommand_44, cI_3, eX5_firingCommand_45, iv5_214, c_X5_fail, eX5_firingCommand_48, eX5_firingCommand_49, iv5_220, c_X5_advance, eX5_firingCommand_52, eX5_firingCommand_53, iv5_232, c_X5_ends, eX5_firingCommand_56, tn_64, eX5_firingCommand_59, eX5_firingCommand_60, eX5_firingCommand_61, iv5_55, c_X5_fireIt, eX5_firingCommand_64, tn_111, eX5_firingCommand_67, eX5_firingCommand_68, eX5_firingCommand_71, eX5_firingCommand_74, tn_106, eX5_firingCommand_77, eX5_firingCommand_78, eX5_firingCommand_81, eX5_firingCommand_82, eX5_firingCommand_83, cI_200, eX5_firingCommand_86, iv5_223, c_X5_number, eX5_firingCommand_89, eX5_firingCommand_90, eX5_firingCommand_91, eX5_firingCommand_94, tn_103, eX5_firingCommand_97, eX5_firingCommand_98, eX5_firingCommand_99, iv5_149, c_X5_runIt, eX5_firingCommand_102, eX5_firingCommand_103, eX5_firingCommand_106, eX5_firingCommand_107, eX5_firingCommand_108, eX5_firingCommand_111, d_X5_firingCommand, re_X5_firingCommand])
  simp (disch := omega) only [nI_mul, nI_add, nI_clamp, nI_inE, nI_leE, nI_ltE, nI_eqE, nI_eqz, nI_ltz, nI_gez, nI_lez, nI_gtz, nI_m1, nI_m1', nI_ltm, nI_gem, nI_gtm, nI_lem, nI_00, nI_01, nI_10, nI_11, bI_z, bI_1, bI_0, bI_b, bI_nz, bit_e, arK_i, arK_b, arK_j, true_and, and_true, ne_eq, not_false_eq_true, not_true_eq_false, false_and, and_false, true_or, or_true, false_or, or_false, Classical.not_not, forall_const, true_implies, implies_true, false_implies, eq_self, n1z, a0]
  refine CI_pure (m_isWord hC (by decide)) ?_
  rw [wd23, bI_z]
  refine ⟨fun g6 => ?_, fun g6 => ?_⟩
  · have g6 : ¬ wrdS U c.2.2.2 6 := fun z => g6 ⟨g, z⟩
    rw [iteC_f g6] at hZ
    simp (disch := omega) only [nI_mul, nI_add, nI_clamp, nI_inE, nI_leE, nI_ltE, nI_eqE, nI_eqz, nI_ltz, nI_gez, nI_lez, nI_gtz, nI_m1, nI_m1', nI_ltm, nI_gem, nI_gtm, nI_lem, nI_00, nI_01, nI_10, nI_11, bI_z, bI_1, bI_0, bI_b, bI_nz, bit_e, arK_i, arK_b, arK_j, true_and, and_true, ne_eq, not_false_eq_true, not_true_eq_false, false_and, and_false, true_or, or_true, false_or, or_false, Classical.not_not, forall_const, true_implies, implies_true, false_implies, eq_self, n1z, a0]
    refine CI_pure (m_isWord hC (by decide)) ?_
    rw [wd24, bI_z]
    refine ⟨fun g7 => ?_, fun g7 => ?_⟩
    · have g7 : ¬ wrdS U c.2.2.2 7 := fun z => g7 ⟨g, z⟩
      rw [iteC_f g7] at hZ
      simp (disch := omega) only [nI_mul, nI_add, nI_clamp, nI_inE, nI_leE, nI_ltE, nI_eqE, nI_eqz, nI_ltz, nI_gez, nI_lez, nI_gtz, nI_m1, nI_m1', nI_ltm, nI_gem, nI_gtm, nI_lem, nI_00, nI_01, nI_10, nI_11, bI_z, bI_1, bI_0, bI_b, bI_nz, bit_e, arK_i, arK_b, arK_j, true_and, and_true, ne_eq, not_false_eq_true, not_true_eq_false, false_and, and_false, true_or, or_true, false_or, or_false, Classical.not_not, forall_const, true_implies, implies_true, false_implies, eq_self, n1z, a0]
      refine CV_of (m_fail hC (by decide) (by decide)) (fun _ _ z => z.elim) fun h' hC' => ?_
      rw [show fS 1 c = Z from (iteC_t g).trans hZ.symm] at hC'
      rw [en_bad (by rw [hZ]; exact show ¬ (1 : Nat) = 0 by decide)]
      exact hC'
    · have g7 := (Classical.not_not.mp g7).2
      rw [iteC_t g7] at hZ
      simp (disch := omega) only [nI_mul, nI_add, nI_clamp, nI_inE, nI_leE, nI_ltE, nI_eqE, nI_eqz, nI_ltz, nI_gez, nI_lez, nI_gtz, nI_m1, nI_m1', nI_ltm, nI_gem, nI_gtm, nI_lem, nI_00, nI_01, nI_10, nI_11, bI_z, bI_1, bI_0, bI_b, bI_nz, bit_e, arK_i, arK_b, arK_j, true_and, and_true, ne_eq, not_false_eq_true, not_true_eq_false, false_and, and_false, true_or, or_true, false_or, or_false, Classical.not_not, forall_const, true_implies, implies_true, false_implies, eq_self, n1z, a0]
      refine call_scanC hC g fun h1 hC1 => ?_
      rw [← ht1] at hC1
      have a1 := hC1.1.1.1
      simp (disch := omega) only [nI_mul, nI_add, nI_clamp, nI_inE, nI_leE, nI_ltE, nI_eqE, nI_eqz, nI_ltz, nI_gez, nI_lez, nI_gtz, nI_m1, nI_m1', nI_ltm, nI_gem, nI_gtm, nI_lem, nI_00, nI_01, nI_10, nI_11, bI_z, bI_1, bI_0, bI_b, bI_nz, bit_e, arK_i, arK_b, arK_j, true_and, and_true, ne_eq, not_false_eq_true, not_true_eq_false, false_and, and_false, true_or, or_true, false_or, or_false, Classical.not_not, forall_const, true_implies, implies_true, false_implies, eq_self, n1z, a1]
      refine CI_of (m_number hC1) (fun _ _ z => z.elim) fun r h2 ⟨er, hC2⟩ => ?_
      subst er
      have a2 := hC2.1.1.1
      simp (disch := omega) only [nI_mul, nI_add, nI_clamp, nI_inE, nI_leE, nI_ltE, nI_eqE, nI_eqz, nI_ltz, nI_gez, nI_lez, nI_gtz, nI_m1, nI_m1', nI_ltm, nI_gem, nI_gtm, nI_lem, nI_00, nI_01, nI_10, nI_11, bI_z, bI_1, bI_0, bI_b, bI_nz, bit_e, arK_i, arK_b, arK_j, true_and, and_true, ne_eq, not_false_eq_true, not_true_eq_false, false_and, and_false, true_or, or_true, false_or, or_false, Classical.not_not, forall_const, true_implies, implies_true, false_implies, eq_self, n1z, a2]
      have e2 := noS_ok (U := U) (n := n) (lo := nI 1) (hi := nI 200) (c := (0, 0, c.2.2.1, t1)) rfl
      obtain ⟨P, hP⟩ : ∃ P, P = numS U n t1 (nI 1) (nI 200) := ⟨_, rfl⟩
      have e2 : noS U n (nI 1) (nI 200) (0, 0, c.2.2.1, t1) = (P.1, P.2.1, c.2.2.1, P.2.2.2) := by rw [hP]; exact e2
      rw [← hP]
      rw [e2] at hC2 ⊢
      have hZ : Z = iteC (P.1 = 0) (0, 0, (runW np nt (cl P.2.2.1) c.2.2.1).2, P.2.2.2) (P.1, P.2.1, c.2.2.1, P.2.2.2) := by rw [hZ, hP]; rfl
      have zt : P.1 = 0 → Z = _ := fun z => hZ.trans (iteC_t z)
      have zf : ¬ P.1 = 0 → Z = _ := fun z => hZ.trans (iteC_f z)
      have z1 : Z.1 = P.1 := (Classical.em (P.1 = 0)).elim (fun z => by rw [zt z]; exact z.symm) fun z => by rw [zf z]
      refine call_endw (w' := (runW np nt (cl P.2.2.1) c.2.2.1).2) hC2 z1 (fun z => by rw [zt z]) (fun z => by rw [zf z]) fun h3 gp hC3 hK => ⟨hC3.1.1.1, ?_⟩
      have gp : P.1 = 0 := gp
      rw [iteC_t gp]
      obtain ⟨w, np2, nt2, hN, -, hw⟩ := hC3.2.2.2.1
      have hw : w = c.2.2.1 := hw gp
      subst hw
      have hv := num_ok (U := U) (n := n) (t := t1) (lo := nI 1) (hi := nI 200) (by rw [← hP]; exact gp)
      rw [← hP] at hv
      obtain ⟨q, hq1, hq2, eq⟩ := num_pos (m := 200) (by decide) hv.1 hv.2
      rw [eq, cl_nI (by omega)] at hK
      rw [eq]
      exact CI_of (m_runIt hN hB (by omega)) (fun _ _ z => z.elim) fun r h4 ⟨_, hN4, hF4⟩ => hK h4 np nt hN4 (run_B hB) (FI_mono hF4 fun a k hk => hk.1)
  · have g6 := (Classical.not_not.mp g6).2
    rw [iteC_t g6] at hZ
    simp (disch := omega) only [nI_mul, nI_add, nI_clamp, nI_inE, nI_leE, nI_ltE, nI_eqE, nI_eqz, nI_ltz, nI_gez, nI_lez, nI_gtz, nI_m1, nI_m1', nI_ltm, nI_gem, nI_gtm, nI_lem, nI_00, nI_01, nI_10, nI_11, bI_z, bI_1, bI_0, bI_b, bI_nz, bit_e, arK_i, arK_b, arK_j, true_and, and_true, ne_eq, not_false_eq_true, not_true_eq_false, false_and, and_false, true_or, or_true, false_or, or_false, Classical.not_not, forall_const, true_implies, implies_true, false_implies, eq_self, n1z, a0]
    refine call_scanC hC g fun h1 hC1 => ?_
    rw [← ht1] at hC1
    obtain ⟨w, np2, nt2, hN1, hB1, hw⟩ := hC1.2.2.2.1
    have hw : w = c.2.2.1 := hw rfl
    subst hw
    obtain ⟨a1, p1, k1, l1⟩ := MB_w hN1.1
    have n1' : mI h1 (j + 1) 1 = nI nt := (hN1.2 1 ⟨by decide, Or.inl (by omega)⟩).trans w1
    simp (disch := omega) only [nI_mul, nI_add, nI_clamp, nI_inE, nI_leE, nI_ltE, nI_eqE, nI_eqz, nI_ltz, nI_gez, nI_lez, nI_gtz, nI_m1, nI_m1', nI_ltm, nI_gem, nI_gtm, nI_lem, nI_00, nI_01, nI_10, nI_11, bI_z, bI_1, bI_0, bI_b, bI_nz, bit_e, arK_i, arK_b, arK_j, true_and, and_true, ne_eq, not_false_eq_true, not_true_eq_false, false_and, and_false, true_or, or_true, false_or, or_false, Classical.not_not, forall_const, true_implies, implies_true, false_implies, eq_self, n1z, a1, p1, k1, l1, n1']
    refine ⟨Nat.succ_ne_zero _, CI_of (m_numberHere hC1) (fun _ _ z => z.elim) fun r h2 ⟨er, hC2⟩ => ?_⟩
    subst er
    have a2 := hC2.1.1.1
    simp (disch := omega) only [nI_mul, nI_add, nI_clamp, nI_inE, nI_leE, nI_ltE, nI_eqE, nI_eqz, nI_ltz, nI_gez, nI_lez, nI_gtz, nI_m1, nI_m1', nI_ltm, nI_gem, nI_gtm, nI_lem, nI_00, nI_01, nI_10, nI_11, bI_z, bI_1, bI_0, bI_b, bI_nz, bit_e, arK_i, arK_b, arK_j, true_and, and_true, ne_eq, not_false_eq_true, not_true_eq_false, false_and, and_false, true_or, or_true, false_or, or_false, Classical.not_not, forall_const, true_implies, implies_true, false_implies, eq_self, n1z, a2]
    obtain ⟨P, hP⟩ : ∃ P, P = numS U n t1 (nI 0) (nI nt - nI 1) := ⟨_, rfl⟩
    have hZ : Z = iteC (P.1 = 0) (iteC (enW c.2.2.1 np (cl P.2.2.1)) (0, 0, fireW c.2.2.1 np (cl P.2.2.1), P.2.2.2) (3, t1.2.1, c.2.2.1, P.2.2.2)) (P.1, P.2.1, c.2.2.1, P.2.2.2) := by rw [hZ, hP, ← w1]; rfl
    have eD : nhS U n (nI 0) (nI nt - nI 1) (0, 0, c.2.2.1, t1) = iteC (P.1 = 0) (0, 0, c.2.2.1, t1) (P.1, P.2.1, c.2.2.1, t1) := by rw [hP]; exact iteC_t rfl
    rw [← hP]
    rw [eD] at hC2 ⊢
    have tl : ∀ h3 d pv w', CS h0 h3 j U n d → Z.1 = (adS U n d).1 → ((adS U n d).1 = 0 → Z.2.2 = (w', (adS U n d).2.2.2)) → (¬ (adS U n d).1 = 0 → Z.2.1 = (adS U n d).2.1) → ((adS U n d).1 = 0 → (adS U n d).2.2.1 = c.2.2.1 ∧ ∃ q, q < 10 ∧ pv = nI q ∧ w' = fireW c.2.2.1 np q) → CALLV x sX5_advance [.ref j] h3 xNo fun h' => mK h' j = 6 ∧ CALLI x sX5_ends [.ref j] h' xNo fun r h' => (r = 0 → CS h0 h' j U n (enS Z)) ∧ (¬ r = 0 → mK h' j = 6 ∧ CALLV x sX5_fireIt [.ref j, .int pv] h' xNo fun h' => CS h0 h' j U n (enS Z)) := fun h3 d pv w' hd z1 z2 z3 hg => by
      refine CV_of (m_advance hd) (fun _ _ z => z.elim) fun h4 hC4 => ⟨hC4.1.1.1, call_endw hC4 z1 z2 z3 fun h5 gd hC5 hK => ⟨hC5.1.1.1, ?_⟩⟩
      obtain ⟨ew, q, hq, rfl, rfl⟩ := hg gd
      obtain ⟨w, np2, nt2, hN, -, hw⟩ := hC5.2.2.2.1
      have hw : w = c.2.2.1 := (hw gd).trans ew
      subst hw
      exact CV_of (m_fireIt hN hB hq) (fun _ _ z => z.elim) fun h6 ⟨hN6, hF6⟩ => hK h6 np nt hN6 (fire_B hB) (FI_mono hF6 fun a k hk => hk.1)
    refine CI_pure (m_good hC2) ?_
    rw [bI_z]
    by_cases gp : P.1 = 0
    · rw [iteC_t gp] at hZ
      rw [iteC_t gp] at hC2 ⊢
      refine ⟨fun z => absurd rfl z, fun _ => ⟨a2, ?_⟩⟩
      have hin := num_in (U := U) (n := n) (t := t1) (m := nt) (by rw [← hP]; exact gp) (by omega) (by omega)
      rw [← hP] at hin
      obtain ⟨q, hq, eq⟩ := hin
      have etk : P.2.2.2 = tokS U n t1.2.2 := by rw [hP]; exact num_tk (by rw [← hP]; exact gp)
      rw [eq, cl_nI (by omega), etk] at hZ
      rw [eq]
      obtain ⟨v, np3, nt3, hN2, -, hv⟩ := hC2.2.2.2.1
      have hv : v = c.2.2.1 := hv rfl
      subst hv
      have eA : ∀ d : CR, d.1 = 0 → adS U n d = _ := fun d hd => iteC_t hd
      rw [iteC_t (show (0 : Nat) = 0 from rfl)]
      refine CI_pure (m_enabled hN2 hB (by omega)) ?_
      rw [bI_z]
      refine ⟨fun ge => ?_, fun ge => ?_⟩
      · have ge : enW c.2.2.1 np q := by first | exact Classical.not_not.mp ge | exact ge
        rw [iteC_t ge] at hZ
        have e := eA (0, 0, c.2.2.1, t1) rfl
        exact ⟨a2, tl h2 _ _ (fireW c.2.2.1 np q) hC2 (by rw [e, hZ]) (fun _ => by rw [e, hZ]) (fun z => by rw [e] at z; exact absurd rfl z) fun _ => ⟨by rw [e], q, by omega, rfl, rfl⟩⟩
      · have ge : ¬ enW c.2.2.1 np q := ge
        rw [iteC_f ge] at hZ
        refine ⟨a2, CV_of (m_fail hC2 (by decide) (by decide)) (fun _ _ z => z.elim) fun h3 hC3 => ⟨hC3.1.1.1, ?_⟩⟩
        rw [show fS 3 (0, 0, c.2.2.1, t1) = (3, t1.2.1, c.2.2.1, t1) from iteC_t rfl] at hC3
        have e : adS U n (3, t1.2.1, c.2.2.1, t1) = (3, t1.2.1, c.2.2.1, t1) := iteC_f (show ¬ (3 : Nat) = 0 by decide)
        have b : ¬ (adS U n (3, t1.2.1, c.2.2.1, t1)).1 = 0 := by rw [e]; exact show ¬ (3 : Nat) = 0 by decide
        exact tl h3 _ _ c.2.2.1 hC3 (by rw [e, hZ]) (fun z => absurd z b) (fun _ => by rw [e, hZ]) fun z => absurd z b
    · rw [iteC_f gp] at hZ
      rw [iteC_f gp] at hC2 ⊢
      refine ⟨fun _ => ⟨a2, ?_⟩, fun z => absurd gp z⟩
      have eA : adS U n (P.1, P.2.1, c.2.2.1, t1) = (P.1, P.2.1, c.2.2.1, t1) := iteC_f gp
      exact tl h2 _ _ c.2.2.1 hC2 (by rw [eA, hZ]) (fun z => by rw [eA] at z; exact absurd z gp) (fun z => by rw [eA, hZ]) fun z => by rw [eA] at z; exact absurd z gp
end MOD
