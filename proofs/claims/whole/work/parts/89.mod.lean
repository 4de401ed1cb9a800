section MOD
variable {x : CX}
theorem CI_mono {q : MS} {as : List Value} {h : MH} {xk : String → MH → Prop} {k k' : Int32 → MH → Prop} (hc : CALLI x q as h xk k) (hm : ∀ r h', k r h' → k' r h') : CALLI x q as h xk k' := by
  obtain ⟨p, xp, a, b, c⟩ := hc
  exact ⟨p, xp, a, b, fun r h' g => hm r h' (c r h' g)⟩
theorem hd_TM {U w : Nat → Int32} {n : Nat} {t : TK} (h : tkB n t) : TM n t (hdS U n w t).2.2.2 := by
  have h0 : TM n t t := ⟨Nat.le_refl _, h⟩
  have h1 := TM_tok (U := U) h
  have i := fun (c : Prop) (a b : CR) (ha : TM n t a.2.2.2) (hb : TM n t b.2.2.2) => iteC_P (c := c) (fun q : CR => TM n t q.2.2.2) ha hb
  unfold hdS
  simp only []
  exact i _ _ _ (i _ _ _ (i _ _ _ (TM_num (TM_num h1)) (TM_num (TM_num h1))) (TM_num h1)) h0
theorem rs_head {hs h0 h1 : MH} {j : Nat} {s : AS} {t0 : TK} {Z : CR} (ht0 : t0 = tokS (aU s) (aN s) 0) (hZ : Z = hdS (aU s) (aN s) (aW s) t0) (hO : MO hs j s) (hF0 : FI hs h0 (SZ j)) (z0 : mI h0 j 0 = nI 0) (hb : MA h0 (j + 14) (aW s)) (hC : CS h0 h1 j (aU s) (aN s) (enS Z)) : CALLV x sX5_advance [.ref j] h1 xNo fun h' => MW x sX5_runScript 5 (pI (oaM (qScr s) hs j)) xNo 86 (0, 0) [.ref j, .null, .null] [] h' := by
  have hb0 : tkB (aN s) t0 := by rw [ht0]; exact tok_b (Nat.zero_le _)
  refine CV_of (m_advance hC) (fun _ _ z => z.elim) fun h2 hC2 => ?_
  rw [ad_en] at hC2
  refine rs_loop hO hF0 z0 hb (aN s) (stS (aU s) (aN s) Z) h2 hC2 (fun g => ?_) ?_ fun g g2 => ?_
  · have gz : Z.1 = 0 := Classical.byContradiction fun z => z (by rwa [st_f z] at g)
    rw [hZ] at gz ⊢
    obtain ⟨np, nt, -, hB⟩ := hd_B gz
    exact ⟨np, nt, st_B hB⟩
  · rw [hZ, ht0]
    exact sc_rC (U := aU s) (n := aN s) (w := aW s) (w' := fun _ => 0)
  · have gz : Z.1 = 0 := Classical.byContradiction fun z => z (by rwa [st_f z] at g)
    rw [st_t gz] at g g2 ⊢
    have hM := hd_TM (U := aU s) (w := aW s) hb0
    rw [← hZ] at hM
    by_cases gs : Z.2.2.2.1 = 3
    · rw [show scS (aU s) (aN s) Z.2.2.1 Z.2.2.2 = _ from iteC_t gs] at g2 ⊢
      have := tok_gr hM.2.2.1 g2
      show aN s < aN s + (tokS (aU s) (aN s) Z.2.2.2.2.2).2.2
      omega
    · rw [show scS (aU s) (aN s) Z.2.2.1 Z.2.2.2 = _ from iteC_f gs] at g
      exact absurd (show (1 : Nat) = 0 from g) (by decide)
theorem m_runScript {h : MH} {j np nt : Nat} {s : AS} (hO : MO h j s) (hB : NB (aW s) np nt) (hI : ∀ k, k < aN s → IB (aU s k)) : OPM x sX5_runScript [.ref j] h j (qScr s) := by
  obtain ⟨t0, ht0⟩ : ∃ t0, t0 = tokS (aU s) (aN s) 0 := ⟨_, rfl⟩
  obtain ⟨Z, hZ⟩ : ∃ Z, Z = hdS (aU s) (aN s) (aW s) t0 := ⟨_, rfl⟩
  obtain ⟨a0, p1, k1, l1⟩ := MB_w hO.1.1
  have p6 : mP h j 6 = j + 14 := hO.1.1.2.1.2.2.2.1
  have hM0 := hO.1.1
  have r14 : RW h (j + 14) := ⟨hM0.2.2.1.2.2.2.2.1, hM0.2.2.1.2.2.2.2.2.1⟩
  have r1 : RW h (j + 1) := ⟨k1, l1⟩
  (refine CT_of (o := 5) rfl (by decide) (by simp [Value.category, sX5_runScript]) (MW_ev kX5_runScript 300 ?_); show evS _ _ _ _ _ _ 300 0 (0, 0) [.ref j, .null, .null] [] _; simp only [st_iconst, st_lconst, st_ldc2_w, st_ldc, st_iload, st_lload, st_aload, st_istore, st_astore, st_lstore, st_iinc, st_iadd, st_isub, st_imul, st_idiv, st_irem, st_iand, st_ior, st_ishl, st_ishr, st_iushr, st_ladd, st_lmul, st_lshl, st_lushr, st_lcmp, st_i2l, st_l2i, st_i2b, st_i2c, st_i2d, st_i2f, st_dconst, st_fconst, st_ddiv, st_fdiv, st_dup, st_dup2, st_pop, st_goto, st_if_icmp, st_ifCond, st_tableswitch, st_lookupswitch, st_iaload, st_baload, st_laload, st_aaload, st_iastore, st_bastore, st_lastore, st_aastore, st_saload, st_faload, st_jsr, st_getstatic, st_frem, st_drem, st_monitorexit, st_monitorenter, st_invokeinterface, st_newarray, st_anewarray, st_multianewarray, asI_c, asJ_c, asR_c, asD_c, asF_c, popI_c, popJ_c, popR_c, popD_c, popF_c, pop1_c, okSt_0, okSt_S, rcv_0, rcv_1, rcv_2, rcv_3, rcv_4, rcv_5, rcv_8, pI_c, pJ_c, pR_c, pV_c, pD_c, pF_c, cmp_eq, cmp_ne, cmp_lt, cmp_ge, cmp_gt, cmp_le, nth_0, nth_S, set_0, set_S, cat_int, cat_ref, cat_long, cat_double, cat_float, cat_null, catS_0, catS_S, swT_0, swT_S, swL_0, swL_S, Nat.add_zero, Nat.reduceAdd, Nat.reduceSub, Nat.reduceLT, Nat.reduceLeDiff, true_and, and_true, eq_self, eX5_runScript_0, fX5_runScript_0, eX5_runScript_1, cI_0, eX5_runScript_2, pf5_59, eX5_runScript_5, eX5_runScript_6, gf5_9, eX5_runScript_9, eX5_runScript_10, gf5_21, eX5_runScript_13, iv5_65, c_X5_copy, eX5_runScript_16, eX5_runScript_17, eX5_runScript_18, pf5_174, eX5_runScript_21, eX5_runScript_22, eX5_runScript_23, pf5_192, eX5_runScript_26, eX5_runScript_27, cI_m1, eX5_runScript_28, pf5_204, eX5_runScript_31, eX5_runScript_32, iv5_211, c_X5_scan, eX5_runScript_35, eX5_runScript_36, eX5_runScript_38, iv5_228, c_X5_isWord, eX5_runScript_41, tn_49, eX5_runScript_44, eX5_runScript_45, cI_1, eX5_runScript_46, iv5_214, c_X5_fail, eX5_runScript_49, eX5_runScript_50, iv5_220, c_X5_advance, eX5_runScript_53, eX5_runScript_54, eX5_runScript_55, cI_8, eX5_runScript_57, iv5_223, c_X5_number, eX5_runScript_60, eX5_runScript_61, eX5_runScript_62, eX5_runScript_63, cI_10, eX5_runScript_65, eX5_runScript_68, eX5_runScript_69, eX5_runScript_70, iv5_232, c_X5_ends, eX5_runScript_73, tn_82, eX5_runScript_76, eX5_runScript_77, eX5_runScript_78, eX5_runScript_79, iv5_47, c_X5_start, eX5_runScript_82, eX5_runScript_83, eX5_runScript_86, fX5_runScript_86, eX5_runScript_87, iv5_207, c_X5_good, eX5_runScript_90, tn_111, eX5_runScript_93, eX5_runScript_94, gf5_180, eX5_runScript_97, eX5_runScript_100, eX5_runScript_101, iv5_235, c_X5_command, eX5_runScript_104, eX5_runScript_105, eX5_runScript_108, tn_86, eX5_runScript_111, eX5_runScript_112, eX5_runScript_113, pf5_171, eX5_runScript_116, eX5_runScript_117, eX5_runScript_118, gf5_192, eX5_runScript_121, pf5_238, eX5_runScript_124, eX5_runScript_125, eX5_runScript_126, gf5_204, eX5_runScript_129, pf5_43, eX5_runScript_132, eX5_runScript_133, eX5_runScript_136, tn_152, eX5_runScript_139, eX5_runScript_140, eX5_runScript_143, eX5_runScript_144, eX5_runScript_147, eX5_runScript_150, eX5_runScript_151, eX5_runScript_152, eX5_runScript_153, eX5_runScript_154, eX5_runScript_157, iv5_134, c_X5_remember, eX5_runScript_160, eX5_runScript_161, iv5_168, c_X5_allTokens, eX5_runScript_164, d_X5_runScript, re_X5_runScript])
  simp (disch := omega) only [nI_mul, nI_add, nI_clamp, nI_inE, nI_leE, nI_ltE, nI_eqE, nI_eqz, nI_ltz, nI_gez, nI_lez, nI_gtz, nI_m1, nI_m1', nI_ltm, nI_gem, nI_gtm, nI_lem, nI_00, nI_01, nI_10, nI_11, bI_z, bI_1, bI_0, bI_b, bI_nz, bit_e, arK_i, arK_b, arK_j, true_and, and_true, ne_eq, not_false_eq_true, not_true_eq_false, false_and, and_false, true_or, or_true, false_or, or_false, Classical.not_not, forall_const, true_implies, implies_true, false_implies, eq_self, sI_K, sI_L, sI_P, sI_J, sI_Z, sI_Ie, sR_K, sR_L, sR_P, sR_J, sR_Z, sR_Ie, sP_K, sP_L, sP_I, sP_J, sP_Z, sP_Pe, sJ_K, sJ_L, sJ_P, sJ_I, sJ_Z, sJ_Je, n1z, a0, p1, p6]
  refine ⟨Nat.succ_ne_zero _, Nat.succ_ne_zero _, call_cpy (a := j + 1) (b := j + 14) r1 r14 (by omega) fun h1 hc hF1 => ?_⟩
  have hA1 : FI h h1 (SZ j) := FI_tr (FI_sI (Or.inl ⟨rfl, Or.inl rfl⟩)) (FI_mono hF1 fun a k hk => Or.inr (Or.inr hk))
  have z1 : mI h1 j 0 = nI 0 := (hF1.2.2.2.2 j 0 (by omega)).trans sI_Ie
  have c0 := (hA1.2.1 j).trans a0
  simp (disch := omega) only [nI_mul, nI_add, nI_clamp, nI_inE, nI_leE, nI_ltE, nI_eqE, nI_eqz, nI_ltz, nI_gez, nI_lez, nI_gtz, nI_m1, nI_m1', nI_ltm, nI_gem, nI_gtm, nI_lem, nI_00, nI_01, nI_10, nI_11, bI_z, bI_1, bI_0, bI_b, bI_nz, bit_e, arK_i, arK_b, arK_j, true_and, and_true, ne_eq, not_false_eq_true, not_true_eq_false, false_and, and_false, true_or, or_true, false_or, or_false, Classical.not_not, forall_const, true_implies, implies_true, false_implies, eq_self, sI_K, sI_L, sI_P, sI_J, sI_Z, sI_Ie, sR_K, sR_L, sR_P, sR_J, sR_Z, sR_Ie, sP_K, sP_L, sP_I, sP_J, sP_Z, sP_Pe, sJ_K, sJ_L, sJ_P, sJ_I, sJ_Z, sJ_Je, n1z, c0]
  obtain ⟨h2, e2⟩ : ∃ h2, h2 = sI (sI (sI h1 j 17 (nI 0)) j 21 (nI 0)) j 22 (-1) := ⟨_, rfl⟩
  rw [← e2]
  have hF2 : FI h1 h2 fun a k => a = j ∧ (k = 17 ∨ k = 21 ∨ k = 22) := by rw [e2]; exact FI_tr (FI_sI ⟨rfl, Or.inl rfl⟩) (FI_tr (FI_sI ⟨rfl, Or.inr (Or.inl rfl)⟩) (FI_sI ⟨rfl, Or.inr (Or.inr rfl)⟩))
  have i17 : mI h2 j 17 = nI 0 := by rw [e2, sI_Ik (by decide), sI_Ik (by decide), sI_Ie]
  have i21 : mI h2 j 21 = nI 0 := by rw [e2, sI_Ik (by decide), sI_Ie]
  have i22 : mI h2 j 22 = -1 := by rw [e2, sI_Ie]
  have hA2 : FI h h2 (SZ j) := FI_tr hA1 (FI_mono hF2 fun a k hk => by unfold SZ; omega)
  have z2 : mI h2 j 0 = nI 0 := (hF2.2.2.2.2 j 0 (by omega)).trans z1
  have hN2 : MN h2 j (aW s) := ⟨MB_fi hM0 hA2, fun m hm => ((hF2.2.2.2.2 _ m (by omega)).trans ((hF1.2.2.2.2 _ m (by omega)).trans (sI_Ia (by omega)))).trans (hO.1.2 m hm)⟩
  have hb : MA h2 (j + 14) (aW s) := MA_fi (MA_cpy (h := sI h j 0 (nI 0)) (fun m hm => (sI_Ia (by omega)).trans (hO.1.2 m hm)) hc) hF2 fun k hk => by omega
  obtain ⟨t1, t2, t3, -⟩ := hO.2.2.2
  have hX2 : TX h2 j (aU s) (aN s) := ⟨hN2.1, ((hF2.2.2.2.2 j 9 (by omega)).trans ((hF1.2.2.2.2 j 9 (by omega)).trans (sI_Ik (by decide)))).trans t1, t2, fun k hk => (hA2.2.2.2.2 (j + 16) k (by unfold SZ; omega)).trans (t3 k hk), hI⟩
  refine CV_of (m_scan hX2 (Nat.zero_le _) i17) (fun _ _ z => z.elim) fun h3 ⟨hT3, hF3⟩ => ?_
  rw [← ht0] at hT3
  have hC3 : CS h2 h3 j (aU s) (aN s) (0, 0, aW s, t0) := ⟨ST_o hX2 hF3, FI_mono hF3 (fun a k hk => by unfold ST at hk; unfold SK; omega), ⟨(hF3.2.2.2.2 j 21 (by unfold ST; omega)).trans i21, show 0 < 4 by decide⟩, ⟨aW s, np, nt, MN_fi hN2 hF3 fun k hk => by unfold ST at hk; omega, hB, fun _ => rfl⟩, fun _ => ⟨(hF3.2.2.2.2 j 22 (by unfold ST; omega)).trans i22, hT3⟩, fun z => absurd rfl z⟩
  have d0 := hC3.1.1.1
  refine ⟨d0, CI_pure (m_isWord hC3 (by decide)) ?_⟩
  rw [wd17, bI_z]
  have tail : ∀ h4 r1 r2 d w', CS h2 h4 j (aU s) (aN s) d → Z.1 = d.1 → (d.1 = 0 → Z.2.2 = (w', d.2.2.2)) → (¬ d.1 = 0 → Z.2.1 = d.2.1) → (d.1 = 0 → ∃ p q, r1 = nI p ∧ r2 = nI q ∧ 1 ≤ p ∧ p ≤ 8 ∧ 1 ≤ q ∧ q ≤ 10 ∧ w' = clW p q) →
      CALLI x sX5_ends [.ref j] h4 xNo fun r h' => (r = 0 → mK h' j = 6 ∧ CALLV x sX5_advance [.ref j] h' xNo fun h' => MW x sX5_runScript 5 (pI (oaM (qScr s) h j)) xNo 86 (0, 0) [.ref j, .int r1, .int r2] [] h') ∧ (¬ r = 0 → mK h' j = 6 ∧ CALLV x sX5_start [.ref j, .int r1, .int r2] h' xNo fun h' => mK h' j = 6 ∧ CALLV x sX5_advance [.ref j] h' xNo fun h' => MW x sX5_runScript 5 (pI (oaM (qScr s) h j)) xNo 86 (0, 0) [.ref j, .int r1, .int r2] [] h') := fun h4 r1 r2 d w' hd e1 e3 e4 hr => by
    have adv : ∀ h5, CS h2 h5 j (aU s) (aN s) (enS Z) → mK h5 j = 6 ∧ CALLV x sX5_advance [.ref j] h5 xNo fun h' => MW x sX5_runScript 5 (pI (oaM (qScr s) h j)) xNo 86 (0, 0) [.ref j, .int r1, .int r2] [] h' := fun h5 hC5 => by
      refine ⟨hC5.1.1.1, ?_⟩
      obtain ⟨pp, xp, q1, q2, q3⟩ := rs_head (x := x) ht0 hZ hO hA2 z2 hb hC5
      exact ⟨pp, xp, q1, q2, fun h' g => MW_nul 1 (MW_nul 2 (q3 h' g))⟩
    refine CI_mono (call_endw hd e1 e3 e4 fun h5 gd hC5 hK => ?_) fun r h' g => ⟨fun z => adv h' (g.1 z), g.2⟩
    obtain ⟨p, q, rfl, rfl, b1, b2, b3, b4, rfl⟩ := hr gd
    exact ⟨hC5.1.1.1, CV_of (m_start hC5.1.1 b1 b2 b3 b4) (fun _ _ z => z.elim) fun h6 ⟨hN6, hF6⟩ => adv h6 (hK h6 p q hN6 (cl_B b1 b2 b3 b4) (FI_mono hF6 fun a k hk => hk))⟩
  have go : ∀ h4 d, CS h2 h4 j (aU s) (aN s) d → (∀ r1 r2 h6, CS h2 h6 j (aU s) (aN s) (noS (aU s) (aN s) (nI 1) (nI 10) (noS (aU s) (aN s) (nI 1) (nI 8) (adS (aU s) (aN s) d))) → r1 = iteC ((noS (aU s) (aN s) (nI 1) (nI 8) (adS (aU s) (aN s) d)).1 = 0) (numS (aU s) (aN s) (adS (aU s) (aN s) d).2.2.2 (nI 1) (nI 8)).2.2.1 0 → r2 = iteC ((noS (aU s) (aN s) (nI 1) (nI 10) (noS (aU s) (aN s) (nI 1) (nI 8) (adS (aU s) (aN s) d))).1 = 0) (numS (aU s) (aN s) (noS (aU s) (aN s) (nI 1) (nI 8) (adS (aU s) (aN s) d)).2.2.2 (nI 1) (nI 10)).2.2.1 0 → CALLI x sX5_ends [.ref j] h6 xNo fun r h' => (r = 0 → mK h' j = 6 ∧ CALLV x sX5_advance [.ref j] h' xNo fun h' => MW x sX5_runScript 5 (pI (oaM (qScr s) h j)) xNo 86 (0, 0) [.ref j, .int r1, .int r2] [] h') ∧ (¬ r = 0 → mK h' j = 6 ∧ CALLV x sX5_start [.ref j, .int r1, .int r2] h' xNo fun h' => mK h' j = 6 ∧ CALLV x sX5_advance [.ref j] h' xNo fun h' => MW x sX5_runScript 5 (pI (oaM (qScr s) h j)) xNo 86 (0, 0) [.ref j, .int r1, .int r2] [] h')) →
      mK h4 j = 6 ∧ CALLV x sX5_advance [.ref j] h4 xNo fun h' => mK h' j = 6 ∧ CALLI x sX5_number [.ref j, .int (nI 1), .int (nI 8)] h' xNo fun r1 h' => mK h' j = 6 ∧ CALLI x sX5_number [.ref j, .int (nI 1), .int (nI 10)] h' xNo fun r2 h' => mK h' j = 6 ∧ CALLI x sX5_ends [.ref j] h' xNo fun r h' => (r = 0 → mK h' j = 6 ∧ CALLV x sX5_advance [.ref j] h' xNo fun h' => MW x sX5_runScript 5 (pI (oaM (qScr s) h j)) xNo 86 (0, 0) [.ref j, .int r1, .int r2] [] h') ∧ (¬ r = 0 → mK h' j = 6 ∧ CALLV x sX5_start [.ref j, .int r1, .int r2] h' xNo fun h' => mK h' j = 6 ∧ CALLV x sX5_advance [.ref j] h' xNo fun h' => MW x sX5_runScript 5 (pI (oaM (qScr s) h j)) xNo 86 (0, 0) [.ref j, .int r1, .int r2] [] h') := fun h4 d hd hk =>
    ⟨hd.1.1.1, CV_of (m_advance hd) (fun _ _ z => z.elim) fun h5 hC5 => ⟨hC5.1.1.1, CI_of (m_number hC5) (fun _ _ z => z.elim) fun r1 h6 ⟨er1, hC6⟩ => ⟨hC6.1.1.1, CI_of (m_number hC6) (fun _ _ z => z.elim) fun r2 h7 ⟨er2, hC7⟩ => ⟨hC7.1.1.1, hk r1 r2 h7 hC7 er1 er2⟩⟩⟩⟩
  refine ⟨fun g => ?_, fun g => ?_⟩
  · have gw := (Classical.not_not.mp g).2
    have gw : wrdS (aU s) t0 0 := gw
    refine go h3 _ hC3 fun r1 r2 h6 hC6 er1 er2 => ?_
    rw [ad_ok (U := aU s) (n := aN s) (c := (0, 0, aW s, t0)) rfl] at hC6 er1 er2
    have e1 := noS_ok (U := aU s) (n := aN s) (lo := nI 1) (hi := nI 8) (c := (0, 0, aW s, tokS (aU s) (aN s) t0.2.2)) rfl
    dsimp only at hC6 er1 er2 e1
    rw [e1] at hC6 er1 er2
    have hZ : Z = _ := hZ.trans (iteC_t gw)
    obtain ⟨V, hV⟩ : ∃ V, V = numS (aU s) (aN s) (tokS (aU s) (aN s) t0.2.2) (nI 1) (nI 8) := ⟨_, rfl⟩
    rw [← hV] at hC6 er1 er2
    have hZ : Z = iteC (V.1 = 0) (iteC ((numS (aU s) (aN s) V.2.2.2 (nI 1) (nI 10)).1 = 0) (0, 0, clW V.2.2.1.toNatClampNeg (numS (aU s) (aN s) V.2.2.2 (nI 1) (nI 10)).2.2.1.toNatClampNeg, (numS (aU s) (aN s) V.2.2.2 (nI 1) (nI 10)).2.2.2) ((numS (aU s) (aN s) V.2.2.2 (nI 1) (nI 10)).1, (numS (aU s) (aN s) V.2.2.2 (nI 1) (nI 10)).2.1, aW s, (numS (aU s) (aN s) V.2.2.2 (nI 1) (nI 10)).2.2.2)) (V.1, V.2.1, aW s, V.2.2.2) := by rw [hV]; exact hZ
    by_cases gv : V.1 = 0
    · rw [iteC_t gv] at hZ
      rw [noS_ok (c := (V.1, V.2.1, aW s, V.2.2.2)) gv] at hC6 er2
      dsimp only at hC6 er1 er2
      rw [iteC_t gv] at er1
      have hv := num_ok (U := aU s) (n := aN s) (t := tokS (aU s) (aN s) t0.2.2) (lo := nI 1) (hi := nI 8) (by rw [← hV]; exact gv)
      rw [← hV] at hv
      obtain ⟨p, hp1, hp2, ep⟩ := num_pos (m := 8) (by decide) hv.1 hv.2
      obtain ⟨Y, hY⟩ : ∃ Y, Y = numS (aU s) (aN s) V.2.2.2 (nI 1) (nI 10) := ⟨_, rfl⟩
      rw [← hY] at hC6 er2 hZ
      by_cases gy : Y.1 = 0
      · rw [iteC_t gy] at hZ er2
        have hy := num_ok (U := aU s) (n := aN s) (t := V.2.2.2) (lo := nI 1) (hi := nI 10) (by rw [← hY]; exact gy)
        rw [← hY] at hy
        obtain ⟨q, hq1, hq2, eq⟩ := num_pos (m := 10) (by decide) hy.1 hy.2
        rw [ep, eq, nI_clamp (by omega), nI_clamp (by omega)] at hZ
        exact tail h6 r1 r2 _ (clW p q) hC6 (by rw [hZ]; exact gy.symm) (fun _ => by rw [hZ]) (fun z => absurd gy z) fun _ => ⟨p, q, er1.trans ep, er2.trans eq, hp1, hp2, hq1, hq2, rfl⟩
      · rw [iteC_f gy] at hZ
        exact tail h6 r1 r2 _ (aW s) hC6 (by rw [hZ]) (fun z => absurd z gy) (fun _ => by rw [hZ]) fun z => absurd z gy
    · rw [iteC_f gv] at hZ
      rw [noS_bad (c := (V.1, V.2.1, aW s, V.2.2.2)) gv] at hC6
      exact tail h6 r1 r2 _ (aW s) hC6 (by rw [hZ]) (fun z => absurd z gv) (fun _ => by rw [hZ]) fun z => absurd z gv
  · have gw : ¬ wrdS (aU s) t0 0 := fun z => g ⟨rfl, z⟩
    have hZ : Z = (1, t0.2.1, aW s, t0) := hZ.trans (iteC_f gw)
    refine ⟨d0, CV_of (m_fail hC3 (by decide) (by decide)) (fun _ _ z => z.elim) fun h4 hC4 => ?_⟩
    rw [show fS 1 (0, 0, aW s, t0) = (1, t0.2.1, aW s, t0) from iteC_t rfl] at hC4
    have b : ¬ ((1, t0.2.1, aW s, t0) : CR).1 = 0 := show ¬ (1 : Nat) = 0 by decide
    refine go h4 _ hC4 fun r1 r2 h6 hC6 er1 er2 => ?_
    rw [show adS (aU s) (aN s) (1, t0.2.1, aW s, t0) = (1, t0.2.1, aW s, t0) from iteC_f b, noS_bad b, noS_bad b] at hC6
    exact tail h6 r1 r2 _ (aW s) hC6 (by rw [hZ]) (fun z => absurd z b) (fun _ => by rw [hZ]) fun z => absurd z b
end MOD
