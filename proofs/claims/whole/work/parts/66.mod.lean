section MOD
variable {x : CX}
/-- the model's table holds an exploration -/
def XM (h : MH) (j : Nat) (E : EE) (w : Nat → Int32) (np : Nat) : Prop := mI h j 15 = nI (exC E) ∧ mI h j 16 = bI (exW E) ∧ ∀ n, n < exC E → (∀ p, p < 8 → mI h (j + 18) (n * 8 + p) = unW w (exK E n) np (2 + p)) ∧ mI h (j + 19) n = exD E n ∧ mI h (j + 20) n = exF E n
/-- what an exploration changes -/
def SX (j : Nat) : Nat → Nat → Prop := fun a k => (a = j + 1 ∧ 2 ≤ k ∧ k < 28) ∨ (a = j ∧ (k = 15 ∨ k = 16)) ∨ (j + 18 ≤ a ∧ a ≤ j + 20)
theorem XM_fi {h h' : MH} {j np : Nat} {E : EE} {w : Nat → Int32} {S : Nat → Nat → Prop} (hX : XM h j E w np) (hF : FI h h' S) (hS : ∀ a k, S a k → ¬ (a = j ∧ (k = 15 ∨ k = 16)) ∧ ¬ (j + 18 ≤ a ∧ a ≤ j + 20)) : XM h' j E w np := by
  have e : ∀ a k, ((a = j ∧ (k = 15 ∨ k = 16)) ∨ (j + 18 ≤ a ∧ a ≤ j + 20)) → mI h' a k = mI h a k := fun a k g => hF.2.2.2.2 a k fun z => g.elim (hS a k z).1 (hS a k z).2
  refine ⟨(e _ _ (Or.inl ⟨rfl, Or.inl rfl⟩)).trans hX.1, (e _ _ (Or.inl ⟨rfl, Or.inr rfl⟩)).trans hX.2.1, fun n hn => ?_⟩
  obtain ⟨h1, h2, h3⟩ := hX.2.2 n hn
  exact ⟨fun p hp => (e _ _ (Or.inr (by omega))).trans (h1 p hp), (e _ _ (Or.inr (by omega))).trans h2, (e _ _ (Or.inr (by omega))).trans h3⟩
theorem GM_eq {w v u : Nat → Int32} {np : Nat} (hv : GM w v np) (hu : GM w u np) (hn : np ≤ 8) : (∀ p, p < 8 → v (2 + p) = u (2 + p)) = (v = u) := propext ⟨fun z => funext fun m => by
    by_cases g : 2 ≤ m ∧ m < 10
    · have := z (m - 2) (by omega)
      rwa [show 2 + (m - 2) = m by omega] at this
    · rw [hv.1 m (by omega), hu.1 m (by omega)], fun e p _ => by rw [e]⟩
/-- whether a marking is known -/
theorem call_known {h : MH} {j np nt : Nat} {E : EE} {w v : Nat → Int32} {xk : String → MH → Prop} {k : Int32 → MH → Prop} (hN : MN h j v) (hG : GM w v np) (hX : XM h j E w np) (hE : EI w np nt E) (hn : np ≤ 8) (hk : ∀ r, ((r = -1) = ¬ ∃ m, m < exC E ∧ exK E m = pkS v np) → k r h) : CALLI x sX5_known [.ref j] h xk k := by
  refine CI_pure (m_known hN.1 hE.1 hX.1) (hk _ ?_)
  rw [ff_congr (d := fun m => exK E m = pkS v np) fun m hm => ?_]
  · exact ff_m1 (by have := hE.1; omega)
  · obtain ⟨u, hu, e1, e2⟩ := hE.2.1 m hm
    have h1 := (hX.2.2 m hm).1
    rw [e1, GM_un hu hn] at h1
    have h2 : (∀ p, p < 8 → mI h (j + 18) (m * 8 + p) = mI h (j + 1) (2 + p)) = (∀ p, p < 8 → u (2 + p) = v (2 + p)) := propext ⟨fun z p hp => by rw [← h1 p hp, z p hp, MN_t hN hp], fun z p hp => by rw [h1 p hp, z p hp, MN_t hN hp]⟩
    rw [h2, GM_eq hu hG hn, ← GM_inj hu hG hn, e1]
theorem FX_rd {h : MH} {j : Nat} (hM : MB h j) : mK h j = 6 ∧ mP h j 13 = j + 19 ∧ mP h j 14 = j + 20 ∧ mK h (j + 19) = 11 ∧ mL h (j + 19) = 150 ∧ mK h (j + 20) = 11 ∧ mL h (j + 20) = 150 := ⟨hM.1, hM.2.1.2.2.2.2.2.2.2.2.1, hM.2.1.2.2.2.2.2.2.2.2.2, hM.2.2.2.2.2.2.2.2.2.1, hM.2.2.2.2.2.2.2.2.2.2.1, hM.2.2.2.2.2.2.2.2.2.2.2.1, hM.2.2.2.2.2.2.2.2.2.2.2.2⟩
theorem m_follow {h : MH} {j np nt n t : Nat} {E : EE} {w : Nat → Int32} (hX : MNx h j w) (hM : XM h j E w np) (hE : EI w np nt E) (hT : TRg w np nt) (hB : NB w np nt) (hn : n < exC E) (ht : t < nt) : CT x sX5_follow [.ref j, .int (nI n), .int (nI t)] h (pV fun h' => MNx h' j w ∧ XM h' j (stpE w np nt n t E) w np ∧ FI h h' (SX j)) xNo := by
  have hnp := hB.2.2.2.1
  have hnt := hB.2.2.2.2.2
  obtain ⟨v, hG, ek, es⟩ := hE.2.1 n hn
  have hE1 := hE.1
  have a0 := hX.1.1
  (refine CT_of (o := 5) rfl (by decide) (by simp [Value.category, sX5_follow]) (MW_ev kX5_follow 300 ?_); show evS _ _ _ _ _ _ 300 0 (0, 0) [.ref j, .int (nI n), .int (nI t)] [] _; simp only [st_iconst, st_lconst, st_ldc2_w, st_ldc, st_iload, st_lload, st_aload, st_istore, st_astore, st_lstore, st_iinc, st_iadd, st_isub, st_imul, st_idiv, st_irem, st_iand, st_ior, st_ishl, st_ishr, st_iushr, st_ladd, st_lmul, st_lshl, st_lushr, st_lcmp, st_i2l, st_l2i, st_i2b, st_i2c, st_i2d, st_i2f, st_dconst, st_fconst, st_ddiv, st_fdiv, st_dup, st_dup2, st_pop, st_goto, st_if_icmp, st_ifCond, st_tableswitch, st_lookupswitch, st_iaload, st_baload, st_laload, st_aaload, st_iastore, st_bastore, st_lastore, st_aastore, st_saload, st_faload, st_jsr, st_getstatic, st_frem, st_drem, st_monitorexit, st_monitorenter, st_invokeinterface, st_newarray, st_anewarray, st_multianewarray, asI_c, asJ_c, asR_c, asD_c, asF_c, popI_c, popJ_c, popR_c, popD_c, popF_c, pop1_c, okSt_0, okSt_S, rcv_0, rcv_1, rcv_2, rcv_3, rcv_4, rcv_5, rcv_8, pI_c, pJ_c, pR_c, pV_c, pD_c, pF_c, cmp_eq, cmp_ne, cmp_lt, cmp_ge, cmp_gt, cmp_le, nth_0, nth_S, set_0, set_S, cat_int, cat_ref, cat_long, cat_double, cat_float, cat_null, catS_0, catS_S, swT_0, swT_S, swL_0, swL_S, Nat.add_zero, Nat.reduceAdd, Nat.reduceSub, Nat.reduceLT, Nat.reduceLeDiff, true_and, and_true, eq_self, eX5_follow_0, fX5_follow_0, eX5_follow_1, eX5_follow_2, iv5_115, c_X5_take, eX5_follow_5, eX5_follow_6, eX5_follow_7, iv5_98, c_X5_enabled, eX5_follow_10, tn_97, eX5_follow_13, eX5_follow_14, eX5_follow_15, iv5_102, c_X5_move, eX5_follow_18, eX5_follow_19, iv5_118, c_X5_known, eX5_follow_22, cI_m1, eX5_follow_23, tn_84, eX5_follow_26, eX5_follow_27, gf5_109, eX5_follow_30, cI_150, eX5_follow_33, eX5_follow_36, eX5_follow_37, eX5_follow_38, eX5_follow_41, iv5_121, c_X5_note, eX5_follow_44, eX5_follow_45, gf5_37, eX5_follow_48, eX5_follow_49, eX5_follow_52, eX5_follow_53, eX5_follow_56, eX5_follow_57, eX5_follow_58, cI_1, eX5_follow_59, eX5_follow_60, eX5_follow_61, eX5_follow_62, gf5_40, eX5_follow_65, eX5_follow_66, eX5_follow_69, eX5_follow_70, eX5_follow_71, eX5_follow_72, eX5_follow_73, eX5_follow_76, eX5_follow_77, eX5_follow_78, pf5_109, eX5_follow_81, eX5_follow_84, eX5_follow_85, eX5_follow_88, eX5_follow_89, eX5_follow_92, eX5_follow_93, cI_0, eX5_follow_94, pf5_124, eX5_follow_97, d_X5_follow, re_X5_follow])
  refine ⟨a0, CV_of (m_take hX.1 (by omega)) (fun _ _ z => z.elim) fun h1 ⟨hc1, hF1⟩ => ?_⟩
  have hv : ∀ p, p < 8 → mI h1 (j + 1) (2 + p) = v (2 + p) := fun p hp => by rw [hc1 p hp, (hM.2.2 n hn).1 p hp, ek, GM_un hG hnp]
  have ew : ∀ m, m < 2 ∨ 10 ≤ m → v m = w m := fun m hm => hG.1 m (by omega)
  have hN1 : MN h1 j v := MN_of hX hF1 (fun k hk => by omega) ew hv
  have hX1 : XM h1 j E w np := XM_fi hM hF1 fun a k hk => by omega
  have hBv := GM_B hG hB
  have hS1 : FI h h1 (SX j) := FI_mono hF1 fun a k hk => Or.inl (by omega)
  have etb : tb (exS E n) t = enW v np t := by rw [es, tb_es hnt ht]
  refine ⟨hN1.1.1, CI_pure (m_enabled hN1 hBv (by omega)) ?_⟩
  have a1 := hN1.1.1
  simp (disch := omega) only [nI_mul, nI_add, nI_clamp, nI_inE, nI_leE, nI_ltE, nI_eqE, nI_eqz, nI_ltz, nI_gez, nI_lez, nI_gtz, nI_m1, nI_m1', nI_ltm, nI_gem, nI_gtm, nI_lem, nI_00, nI_01, nI_10, nI_11, bI_z, bI_1, bI_0, bI_b, bI_nz, bit_e, arK_i, arK_b, arK_j, true_and, and_true, ne_eq, not_false_eq_true, not_true_eq_false, false_and, and_false, true_or, or_true, false_or, or_false, Classical.not_not, forall_const, true_implies, implies_true, false_implies, eq_self, a1]
  refine ⟨fun g => ?_, fun g => ?_⟩
  · rw [show stpE w np nt n t E = E from iteC_f (by rw [etb]; exact g)]
    exact ⟨MNx_of hN1 ew, hX1, hS1⟩
  obtain ⟨hG2, eq⟩ := GM_mv hG hT hB ht g
  have estp : stpE w np nt n t E = visE w np nt E (pkS (mvW v t np) np) (nI n) (nI t) := by
    unfold stpE
    rw [iteC_t (show tb (exS E n) t by rw [etb]; exact g), ek, eq]
  rw [estp]
  refine CV_of (m_move hN1 hBv (by omega)) (fun _ _ z => z.elim) fun h2 ⟨hN2, hF2⟩ => ?_
  have hX2 : XM h2 j E w np := XM_fi hX1 hF2 fun a k hk => by omega
  have hS2 : FI h h2 (SX j) := FI_tr hS1 (FI_mono hF2 fun a k hk => Or.inl hk)
  have ew2 : ∀ m, m < 2 ∨ 10 ≤ m → mvW v t np m = w m := fun m hm => hG2.1 m (by omega)
  have a2 := hN2.1.1
  clear a0 a1
  refine ⟨a2, call_known hN2 hG2 hX2 hE hnp fun r hr => ?_⟩
  have c15 := hX2.1
  have again : (¬ ∃ m, m < exC E ∧ exK E m = pkS (mvW v t np) np) ∧ 150 ≤ exC E ∨ (∃ m, m < exC E ∧ exK E m = pkS (mvW v t np) np) → mK h2 j = 6 ∧ CALLI x sX5_known [.ref j] h2 xNo fun r h' => (¬ r = -1 → MNx h' j w ∧ XM h' j (visE w np nt E (pkS (mvW v t np) np) (nI n) (nI t)) w np ∧ FI h h' (SX j)) ∧ (r = -1 → mK h' j = 6 ∧ MNx (sI h' j 16 (nI 0)) j w ∧ XM (sI h' j 16 (nI 0)) j (visE w np nt E (pkS (mvW v t np) np) (nI n) (nI t)) w np ∧ FI h (sI h' j 16 (nI 0)) (SX j)) := fun hh => by
    refine ⟨a2, call_known hN2 hG2 hX2 hE hnp fun r hr => ⟨fun g2 => ?_, fun g2 => ?_⟩⟩
    · rw [hr] at g2
      have g2 := Classical.not_not.mp g2
      rw [show visE w np nt E (pkS (mvW v t np) np) (nI n) (nI t) = E from iteC_t g2]
      exact ⟨MNx_of hN2 ew2, hX2, hS2⟩
    · rw [hr] at g2
      have g3 : 150 ≤ exC E := by
        rcases hh with z | z
        · exact z.2
        · exact absurd z g2
      rw [show visE w np nt E (pkS (mvW v t np) np) (nI n) (nI t) = (exC E, exK E, exD E, exF E, exS E, False) from (iteC_f g2).trans (iteC_t g3)]
      have hFs : FI h2 (sI h2 j 16 (nI 0)) fun a k => a = j ∧ k = 16 := FI_sI ⟨rfl, rfl⟩
      refine ⟨a2, ⟨MB_fi hN2.1 hFs, fun m hm h3 => (hFs.2.2.2.2 _ m (by omega)).trans ((MNx_of hN2 ew2).2 m hm h3)⟩, ⟨(sI_Ik (by decide)).trans c15, sI_Ie.trans (bI_f id).symm, fun m hm => ?_⟩, FI_tr hS2 (FI_mono hFs fun a k hk => Or.inr (Or.inl ⟨hk.1, Or.inr hk.2⟩))⟩
      obtain ⟨y1, y2, y3⟩ := hX2.2.2 m hm
      exact ⟨fun p hp => (sI_Ia (by omega)).trans (y1 p hp), (sI_Ia (by omega)).trans y2, (sI_Ia (by omega)).trans y3⟩
  simp (disch := omega) only [nI_mul, nI_add, nI_clamp, nI_inE, nI_leE, nI_ltE, nI_eqE, nI_eqz, nI_ltz, nI_gez, nI_lez, nI_gtz, nI_m1, nI_m1', nI_ltm, nI_gem, nI_gtm, nI_lem, nI_00, nI_01, nI_10, nI_11, bI_z, bI_1, bI_0, bI_b, bI_nz, bit_e, arK_i, arK_b, arK_j, true_and, and_true, ne_eq, not_false_eq_true, not_true_eq_false, false_and, and_false, true_or, or_true, false_or, or_false, Classical.not_not, forall_const, true_implies, implies_true, false_implies, eq_self, sI_K, sI_L, sI_P, sI_J, sI_Z, sI_Ie, sR_K, sR_L, sR_P, sR_J, sR_Z, sR_Ie, sP_K, sP_L, sP_I, sP_J, sP_Z, sP_Pe, sJ_K, sJ_L, sJ_P, sJ_I, sJ_Z, sJ_Je, a2, c15]
  refine ⟨fun g1 => (again (Or.inr (Classical.not_not.mp (by rwa [hr] at g1)))).2, fun g1 => ⟨fun g2 => (again (Or.inl ⟨by rwa [hr] at g1, g2⟩)).2, fun g2 => ?_⟩⟩
  rw [hr] at g1
  rw [show visE w np nt E (pkS (mvW v t np) np) (nI n) (nI t) = addE w np nt E (pkS (mvW v t np) np) (nI n) (nI t) from (iteC_f g1).trans (iteC_f g2)]
  clear again
  refine CV_of (m_note hN2.1 (by omega)) (fun _ _ z => z.elim) fun h3 ⟨hc3, hF3⟩ => ?_
  have hMB := MB_fi hN2.1 hF3
  obtain ⟨b0, b13, b14, k19, l19, k20, l20⟩ := FX_rd hMB
  have d15 : mI h3 j 15 = nI (exC E) := (hF3.2.2.2.2 _ _ (by omega)).trans c15
  have d19 : mI h3 (j + 19) n = exD E n := (hF3.2.2.2.2 _ _ (by omega)).trans (hX2.2.2 n hn).2.1
  simp (disch := omega) only [nI_mul, nI_add, nI_clamp, nI_inE, nI_leE, nI_ltE, nI_eqE, nI_eqz, nI_ltz, nI_gez, nI_lez, nI_gtz, nI_m1, nI_m1', nI_ltm, nI_gem, nI_gtm, nI_lem, nI_00, nI_01, nI_10, nI_11, bI_z, bI_1, bI_0, bI_b, bI_nz, bit_e, arK_i, arK_b, arK_j, true_and, and_true, ne_eq, not_false_eq_true, not_true_eq_false, false_and, and_false, true_or, or_true, false_or, or_false, Classical.not_not, forall_const, true_implies, implies_true, false_implies, eq_self, sI_K, sI_L, sI_P, sI_J, sI_Z, sI_Ie, sR_K, sR_L, sR_P, sR_J, sR_Z, sR_Ie, sP_K, sP_L, sP_I, sP_J, sP_Z, sP_Pe, sJ_K, sJ_L, sJ_P, sJ_I, sJ_Z, sJ_Je, b0, b13, b14, k19, l19, k20, l20, d15, d19, sI_Ia]
  refine ⟨Nat.succ_ne_zero _, Nat.succ_ne_zero _, Nat.succ_ne_zero _, ?_, ⟨sI_Ie, ?_, fun m hm => ?_⟩, ?_⟩
  · refine ⟨hMB, fun m hm h4 => ?_⟩
    rw [sI_Ia (by omega), sI_Ia (by omega), sI_Ia (by omega), hF3.2.2.2.2 _ _ (by omega)]
    exact (MNx_of hN2 ew2).2 m hm h4
  · rw [sI_Ik (by decide), sI_Ia (by omega), sI_Ia (by omega), hF3.2.2.2.2 _ _ (by omega)]
    exact hX2.2.1
  · have hm2 : m < exC E + 1 := hm
    show (∀ p, p < 8 → _ = unW w (udK (exK E) (exC E) (pkS (mvW v t np) np) m) np (2 + p)) ∧ _ = udW (exD E) (exC E) (iteC (nI n = -1) (nI 0) (exD E (nI n).toNatClampNeg + nI 1)) m ∧ _ = udW (exF E) (exC E) (nI t) m
    by_cases e : m = exC E
    · rw [e, udK_e, udW_e, udW_e, GM_un hG2 hnp, iteC_f (by rw [nI_m1 (by omega)]; exact id), nI_clamp (by omega)]
      refine ⟨fun p hp => ?_, ?_, ?_⟩
      · rw [sI_Ia (by omega), sI_Ia (by omega), sI_Ia (by omega), hc3 p hp, MN_t hN2 hp]
      · rw [sI_Ia (by omega), sI_Ia (by omega), sI_Ie]
      · rw [sI_Ia (by omega), sI_Ie]
    · rw [udK_n e, udW_n e, udW_n e]
      obtain ⟨y1, y2, y3⟩ := hX2.2.2 m (by omega)
      refine ⟨fun p hp => ?_, ?_, ?_⟩
      · rw [sI_Ia (by omega), sI_Ia (by omega), sI_Ia (by omega), hF3.2.2.2.2 _ _ (by omega)]; exact y1 p hp
      · rw [sI_Ia (by omega), sI_Ia (by omega), sI_Ik e, hF3.2.2.2.2 _ _ (by omega)]; exact y2
      · rw [sI_Ia (by omega), sI_Ik e, sI_Ia (by omega), hF3.2.2.2.2 _ _ (by omega)]; exact y3
  · refine FI_tr hS2 (FI_tr (FI_mono hF3 fun a k hk => Or.inr (Or.inr (by omega))) (FI_tr (FI_tr (FI_sI (Or.inr (Or.inr ⟨by omega, by omega⟩))) (FI_sI (Or.inr (Or.inr ⟨by omega, by omega⟩)))) (FI_sI (Or.inr (Or.inl ⟨rfl, Or.inl rfl⟩)))))
end MOD
