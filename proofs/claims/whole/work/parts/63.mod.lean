section MOD
variable {x : CX}
/-- the rows of the model's history, by a list of addresses -/
def HR (h : MH) (j : Nat) (g : Nat → Nat) (P : Nat → Nat → Int32) (c : Nat) : Prop := mI h j 3 = nI c ∧ c ≤ 10 ∧ mK h (j + 2) = 15 ∧ mL h (j + 2) = 10 ∧ (∀ k, k < 10 → mP h (j + 2) k = g k ∧ j + 3 ≤ g k ∧ g k < j + 13 ∧ RW h (g k)) ∧ (∀ a b, a < 10 → b < 10 → g a = g b → a = b) ∧ ∀ m, m < c → MA h (g (c - 1 - m)) (P m)
def HM (h : MH) (j : Nat) (P : Nat → Nat → Int32) (c : Nat) : Prop := ∃ g, HR h j g P c
/-- only the history changes -/
def FH (h h' : MH) (j : Nat) : Prop := mZ h' = mZ h ∧ (∀ a, mK h' a = mK h a) ∧ (∀ a, mL h' a = mL h a) ∧ (∀ a k, a ≠ j + 2 → mP h' a k = mP h a k) ∧ (∀ a k, mJ h' a k = mJ h a k) ∧ ∀ a k, ¬ (a = j ∧ k = 3) → ¬ (j + 3 ≤ a ∧ a < j + 13) → mI h' a k = mI h a k
theorem FH_tr {h h' h'' : MH} {j : Nat} (a : FH h h' j) (b : FH h' h'' j) : FH h h'' j := ⟨b.1.trans a.1, fun z => (b.2.1 z).trans (a.2.1 z), fun z => (b.2.2.1 z).trans (a.2.2.1 z), fun z k hz => (b.2.2.2.1 z k hz).trans (a.2.2.2.1 z k hz), fun z k => (b.2.2.2.2.1 z k).trans (a.2.2.2.2.1 z k), fun z k h1 h2 => (b.2.2.2.2.2 z k h1 h2).trans (a.2.2.2.2.2 z k h1 h2)⟩
theorem FH_rfl {h : MH} {j : Nat} : FH h h j := ⟨rfl, fun _ => rfl, fun _ => rfl, fun _ _ _ => rfl, fun _ _ => rfl, fun _ _ _ _ => rfl⟩
theorem FH_fi {h h' : MH} {j : Nat} {S : Nat → Nat → Prop} (hF : FI h h' S) (hS : ∀ a k, S a k → (a = j ∧ k = 3) ∨ (j + 3 ≤ a ∧ a < j + 13)) : FH h h' j := ⟨hF.1, hF.2.1, hF.2.2.1, fun a k _ => (hF.2.2.2.1 a k).1, fun a k => (hF.2.2.2.1 a k).2, fun a k h1 h2 => hF.2.2.2.2 a k fun z => (hS a k z).elim h1 h2⟩
theorem FH_sP {h : MH} {j k v : Nat} : FH h (sP h (j + 2) k v) j := ⟨rfl, fun _ => rfl, fun _ => rfl, fun a i ha => sP_Pa ha, fun _ _ => rfl, fun _ _ _ _ => rfl⟩
theorem MB_fh {h h' : MH} {j : Nat} (hM : MB h j) (hF : FH h h' j) : MB h' j := by
  have e : ∀ k, mP h' j k = mP h j k := fun k => hF.2.2.2.1 j k (by omega)
  unfold MB at *
  simp only [hF.2.1, hF.2.2.1, e]
  exact hM
theorem rem_end {h h1 : MH} {j a c : Nat} {w : Nat → Int32} {g : Nat → Nat} {P : Nat → Nat → Int32} {k : MH → Prop} (hH : HR h1 j g P c) (hc : c < 10) (hF : FH h h1 j) (hR : RW h1 a) (hA : MA h1 a w) (ha : a < j + 3 ∨ j + 13 ≤ a) (hk : ∀ h', mI h' j 3 = nI c → mK h' j = mK h1 j → HM (sI h' j 3 (nI (c + 1))) j (pushP w P) (c + 1) → FH h (sI h' j 3 (nI (c + 1))) j → k h') : CALLV x sX5_copy [.ref a, .ref (g c)] h1 xNo k := by
  obtain ⟨q1, q2, q3, q4, q5, q6, q7⟩ := hH
  obtain ⟨e1, e2, e3, e4⟩ := q5 c hc
  refine call_cpy hR e4 (by omega) fun h2 hcp hF2 => ?_
  have i3 : mI h2 j 3 = nI c := (hF2.2.2.2.2 j 3 (by omega)).trans q1
  have hFI : FI h2 (sI h2 j 3 (nI (c + 1))) fun a k => a = j ∧ k = 3 := FI_sI ⟨rfl, rfl⟩
  refine hk h2 i3 (hF2.2.1 j) ⟨g, sI_Ie, by omega, (hF2.2.1 _).trans q3, (hF2.2.2.1 _).trans q4, fun k hk => ?_, q6, fun m hm => ?_⟩ (FH_tr (FH_tr hF (FH_fi hF2 fun z k hz => Or.inr (by omega))) (FH_fi hFI fun z k hz => Or.inl hz))
  · obtain ⟨d1, d2, d3, d4, d5⟩ := q5 k hk
    exact ⟨((hF2.2.2.2.1 _ k).1).trans d1, d2, d3, (hF2.2.1 _).trans d4, (hF2.2.2.1 _).trans d5⟩
  · rcases Nat.eq_zero_or_pos m with z | z
    · subst z
      rw [show c + 1 - 1 - 0 = c by omega]
      exact MA_fi (MA_cpy hA hcp) hFI fun k hk => by omega
    · rw [show c + 1 - 1 - m = c - 1 - (m - 1) by omega, show pushP w P m = P (m - 1) from if_neg (by omega)]
      have hd := q5 (c - 1 - (m - 1)) (by omega)
      have hne : g (c - 1 - (m - 1)) ≠ g c := fun z => by have := q6 _ _ (by omega) hc z; omega
      exact MA_fi (MA_fi (q7 (m - 1) (by omega)) hF2 fun k hk => hne hk) hFI fun k hk => by omega
theorem m_remember {h : MH} {j a c : Nat} {w : Nat → Int32} {P : Nat → Nat → Int32} (hM : MB h j) (hH : HM h j P c) (hR : RW h a) (hA : MA h a w) (ha : a = j + 1 ∨ a = j + 14) : CT x sX5_remember [.ref j, .ref a] h (pV fun h' => HM h' j (pushP w P) (upto10 c) ∧ FH h h' j) xNo := by
  obtain ⟨g, hH⟩ := hH
  have hH0 := hH
  obtain ⟨q1, q2, q3, q4, q5, q6, q7⟩ := hH
  have a0 := hM.1
  have p2 : mP h j 2 = j + 2 := hM.2.1.2.1
  have g0 := q5 0 (by decide)
  have gz : ∀ k, k < 10 → ¬ g k = 0 := fun k hk => by have := (q5 k hk).2.1; omega
  (refine CT_of (o := 5) rfl (by decide) (by simp [Value.category, sX5_remember]) (MW_ev kX5_remember 300 ?_); show evS _ _ _ _ _ _ 300 0 (0, 0) [.ref j, .ref a, .null, .null] [] _; simp only [st_iconst, st_lconst, st_ldc2_w, st_ldc, st_iload, st_lload, st_aload, st_istore, st_astore, st_lstore, st_iinc, st_iadd, st_isub, st_imul, st_idiv, st_irem, st_iand, st_ior, st_ishl, st_ishr, st_iushr, st_ladd, st_lmul, st_lshl, st_lushr, st_lcmp, st_i2l, st_l2i, st_i2b, st_i2c, st_i2d, st_i2f, st_dconst, st_fconst, st_ddiv, st_fdiv, st_dup, st_dup2, st_pop, st_goto, st_if_icmp, st_ifCond, st_tableswitch, st_lookupswitch, st_iaload, st_baload, st_laload, st_aaload, st_iastore, st_bastore, st_lastore, st_aastore, st_saload, st_faload, st_jsr, st_getstatic, st_frem, st_drem, st_monitorexit, st_monitorenter, st_invokeinterface, st_newarray, st_anewarray, st_multianewarray, asI_c, asJ_c, asR_c, asD_c, asF_c, popI_c, popJ_c, popR_c, popD_c, popF_c, pop1_c, okSt_0, okSt_S, rcv_0, rcv_1, rcv_2, rcv_3, rcv_4, rcv_5, rcv_8, pI_c, pJ_c, pR_c, pV_c, pD_c, pF_c, cmp_eq, cmp_ne, cmp_lt, cmp_ge, cmp_gt, cmp_le, nth_0, nth_S, set_0, set_S, cat_int, cat_ref, cat_long, cat_double, cat_float, cat_null, catS_0, catS_S, swT_0, swT_S, swL_0, swL_S, Nat.add_zero, Nat.reduceAdd, Nat.reduceSub, Nat.reduceLT, Nat.reduceLeDiff, true_and, and_true, eq_self, eX5_remember_0, fX5_remember_0, eX5_remember_1, gf5_62, eX5_remember_4, cI_10, eX5_remember_6, tn_62, eX5_remember_9, eX5_remember_10, gf5_15, eX5_remember_13, cI_0, eX5_remember_14, eX5_remember_15, eX5_remember_16, cI_1, eX5_remember_17, eX5_remember_18, fX5_remember_18, eX5_remember_19, eX5_remember_21, tn_44, eX5_remember_24, eX5_remember_25, eX5_remember_28, eX5_remember_29, eX5_remember_30, eX5_remember_31, eX5_remember_32, eX5_remember_35, eX5_remember_36, eX5_remember_37, eX5_remember_38, eX5_remember_41, tn_18, eX5_remember_44, eX5_remember_45, eX5_remember_48, cI_9, eX5_remember_50, eX5_remember_51, eX5_remember_52, eX5_remember_53, eX5_remember_54, eX5_remember_57, eX5_remember_58, eX5_remember_59, pf5_62, eX5_remember_62, eX5_remember_63, eX5_remember_64, eX5_remember_67, eX5_remember_68, eX5_remember_71, eX5_remember_72, iv5_65, c_X5_copy, eX5_remember_75, eX5_remember_76, eX5_remember_77, eX5_remember_80, eX5_remember_81, eX5_remember_82, eX5_remember_85, d_X5_remember, re_X5_remember])
  by_cases hc : c = 10
  · subst hc
    simp (disch := omega) only [nI_mul, nI_add, nI_clamp, nI_inE, nI_leE, nI_ltE, nI_eqE, nI_eqz, nI_ltz, nI_gez, nI_lez, nI_gtz, nI_m1, nI_m1', nI_ltm, nI_gem, nI_gtm, nI_lem, nI_00, nI_01, nI_10, nI_11, bI_z, bI_1, bI_0, bI_b, bI_nz, bit_e, arK_i, arK_b, arK_j, true_and, and_true, ne_eq, not_false_eq_true, not_true_eq_false, false_and, and_false, true_or, or_true, false_or, or_false, Classical.not_not, forall_const, true_implies, implies_true, false_implies, eq_self, a0, p2, q1, q3, q4, g0.1, gz]
    refine ⟨Nat.succ_ne_zero _, ?_⟩
    have main : ∀ k, k ≤ 10 → (1 ≤ k → ∀ h1, FH h h1 j → mI h1 j 3 = nI 10 → (∀ i, i < 10 → mP h1 (j + 2) i = if i + 1 < k then g (i + 1) else g i) → (∀ a, mI h1 a = mI h a) → MW x sX5_remember 5 (pV fun h' => HM h' j (pushP w P) (upto10 10) ∧ FH h h' j) xNo 18 (0, 0) [.ref j, .ref a, .ref (g 0), .int (nI k)] [] h1) := by
      refine loop_up 10 fun k hk ih hk1 h1 hF h13 hp hI => ?_
      have a1 := (hF.2.1 j).trans a0
      have p21 : mP h1 j 2 = j + 2 := (hF.2.2.2.1 j 2 (by omega)).trans p2
      have q31 := (hF.2.1 (j + 2)).trans q3
      have q41 := (hF.2.2.1 (j + 2)).trans q4
      (refine MW_ev kX5_remember 300 ?_; simp only [st_iconst, st_lconst, st_ldc2_w, st_ldc, st_iload, st_lload, st_aload, st_istore, st_astore, st_lstore, st_iinc, st_iadd, st_isub, st_imul, st_idiv, st_irem, st_iand, st_ior, st_ishl, st_ishr, st_iushr, st_ladd, st_lmul, st_lshl, st_lushr, st_lcmp, st_i2l, st_l2i, st_i2b, st_i2c, st_i2d, st_i2f, st_dconst, st_fconst, st_ddiv, st_fdiv, st_dup, st_dup2, st_pop, st_goto, st_if_icmp, st_ifCond, st_tableswitch, st_lookupswitch, st_iaload, st_baload, st_laload, st_aaload, st_iastore, st_bastore, st_lastore, st_aastore, st_saload, st_faload, st_jsr, st_getstatic, st_frem, st_drem, st_monitorexit, st_monitorenter, st_invokeinterface, st_newarray, st_anewarray, st_multianewarray, asI_c, asJ_c, asR_c, asD_c, asF_c, popI_c, popJ_c, popR_c, popD_c, popF_c, pop1_c, okSt_0, okSt_S, rcv_0, rcv_1, rcv_2, rcv_3, rcv_4, rcv_5, rcv_8, pI_c, pJ_c, pR_c, pV_c, pD_c, pF_c, cmp_eq, cmp_ne, cmp_lt, cmp_ge, cmp_gt, cmp_le, nth_0, nth_S, set_0, set_S, cat_int, cat_ref, cat_long, cat_double, cat_float, cat_null, catS_0, catS_S, swT_0, swT_S, swL_0, swL_S, Nat.add_zero, Nat.reduceAdd, Nat.reduceSub, Nat.reduceLT, Nat.reduceLeDiff, true_and, and_true, eq_self, eX5_remember_0, fX5_remember_0, eX5_remember_1, gf5_62, eX5_remember_4, cI_10, eX5_remember_6, tn_62, eX5_remember_9, eX5_remember_10, gf5_15, eX5_remember_13, cI_0, eX5_remember_14, eX5_remember_15, eX5_remember_16, cI_1, eX5_remember_17, eX5_remember_18, fX5_remember_18, eX5_remember_19, eX5_remember_21, tn_44, eX5_remember_24, eX5_remember_25, eX5_remember_28, eX5_remember_29, eX5_remember_30, eX5_remember_31, eX5_remember_32, eX5_remember_35, eX5_remember_36, eX5_remember_37, eX5_remember_38, eX5_remember_41, tn_18, eX5_remember_44, eX5_remember_45, eX5_remember_48, cI_9, eX5_remember_50, eX5_remember_51, eX5_remember_52, eX5_remember_53, eX5_remember_54, eX5_remember_57, eX5_remember_58, eX5_remember_59, pf5_62, eX5_remember_62, eX5_remember_63, eX5_remember_64, eX5_remember_67, eX5_remember_68, eX5_remember_71, eX5_remember_72, iv5_65, c_X5_copy, eX5_remember_75, eX5_remember_76, eX5_remember_77, eX5_remember_80, eX5_remember_81, eX5_remember_82, eX5_remember_85, d_X5_remember, re_X5_remember])
      rcases Nat.lt_or_ge k 10 with hl | hl
      · have hpk := hp k hl
        rw [if_neg (by omega)] at hpk
        have kk := (hF.2.1 (g k)).trans (q5 k hl).2.2.2.1
        simp (disch := omega) only [nI_mul, nI_add, nI_clamp, nI_inE, nI_leE, nI_ltE, nI_eqE, nI_eqz, nI_ltz, nI_gez, nI_lez, nI_gtz, nI_m1, nI_m1', nI_ltm, nI_gem, nI_gtm, nI_lem, nI_00, nI_01, nI_10, nI_11, bI_z, bI_1, bI_0, bI_b, bI_nz, bit_e, arK_i, arK_b, arK_j, true_and, and_true, ne_eq, not_false_eq_true, not_true_eq_false, false_and, and_false, true_or, or_true, false_or, or_false, Classical.not_not, forall_const, true_implies, implies_true, false_implies, eq_self, a1, p21, q31, q41, hl, Nat.not_le.mpr hl, hpk, gz, nI_sub, kk]
        refine ⟨Nat.succ_ne_zero _, Nat.succ_ne_zero _, ih hl (by omega) _ (FH_tr hF FH_sP) h13 (fun i hi => ?_) hI⟩
        by_cases e : i = k - 1
        · rw [e, sP_Pe, if_pos (by omega), show k - 1 + 1 = k by omega]
        · rw [sP_Pk e, hp i hi]
          by_cases e2 : i + 1 < k
          · rw [if_pos e2, if_pos (by omega)]
          · rw [if_neg e2, if_neg (by omega)]
      · obtain rfl : k = 10 := by omega
        have kk := (hF.2.1 (g 0)).trans g0.2.2.2.1
        have hc9 : nI 10 - nI 1 = nI 9 := by decide
        simp (disch := omega) only [nI_mul, nI_add, nI_clamp, nI_inE, nI_leE, nI_ltE, nI_eqE, nI_eqz, nI_ltz, nI_gez, nI_lez, nI_gtz, nI_m1, nI_m1', nI_ltm, nI_gem, nI_gtm, nI_lem, nI_00, nI_01, nI_10, nI_11, bI_z, bI_1, bI_0, bI_b, bI_nz, bit_e, arK_i, arK_b, arK_j, true_and, and_true, ne_eq, not_false_eq_true, not_true_eq_false, false_and, and_false, true_or, or_true, false_or, or_false, Classical.not_not, forall_const, true_implies, implies_true, false_implies, eq_self, sI_K, sI_L, sI_P, sI_J, sI_Z, sI_Ie, sR_K, sR_L, sR_P, sR_J, sR_Z, sR_Ie, sP_K, sP_L, sP_I, sP_J, sP_Z, sP_Pe, sJ_K, sJ_L, sJ_P, sJ_I, sJ_Z, sJ_Je, a1, p21, q31, q41, h13, gz, kk, hc9, Nat.le_refl]
        have z1 : mP (sP h1 (j + 2) 9 (g 0)) j 2 = j + 2 := (sP_Pa (by omega)).trans p21
        simp (disch := omega) only [nI_mul, nI_add, nI_clamp, nI_inE, nI_leE, nI_ltE, nI_eqE, nI_eqz, nI_ltz, nI_gez, nI_lez, nI_gtz, nI_m1, nI_m1', nI_ltm, nI_gem, nI_gtm, nI_lem, nI_00, nI_01, nI_10, nI_11, bI_z, bI_1, bI_0, bI_b, bI_nz, bit_e, arK_i, arK_b, arK_j, true_and, and_true, ne_eq, not_false_eq_true, not_true_eq_false, false_and, and_false, true_or, or_true, false_or, or_false, Classical.not_not, forall_const, true_implies, implies_true, false_implies, eq_self, z1, q31, q41, sP_Pe, gz]
        refine ⟨Nat.succ_ne_zero _, Nat.succ_ne_zero _, ?_⟩
        refine rem_end (h := h) (h1 := sI (sP h1 (j + 2) 9 (g 0)) j 3 (nI 9)) (g := fun i => if i < 9 then g (i + 1) else g 0) (c := 9) (w := w) (P := P) ⟨sI_Ie, by decide, q31, q41, fun i hi => ?_, fun a b ha hb e => ?_, fun m hm => ?_⟩ (by decide) ?_ ⟨(hF.2.1 a).trans hR.1, (hF.2.2.1 a).trans hR.2⟩ ?_ (by omega) fun h' i3 k6 hH' hF' => ?_
        · show mP (sP h1 (j + 2) 9 (g 0)) (j + 2) i = (if i < 9 then g (i + 1) else g 0) ∧ j + 3 ≤ (if i < 9 then g (i + 1) else g 0) ∧ (if i < 9 then g (i + 1) else g 0) < j + 13 ∧ RW h1 (if i < 9 then g (i + 1) else g 0)
          by_cases e : i < 9
          · rw [if_pos e, sP_Pk (by omega), hp i hi, if_pos (by omega)]
            obtain ⟨-, d2, d3, d4, d5⟩ := q5 (i + 1) (by omega)
            exact ⟨rfl, d2, d3, (hF.2.1 _).trans d4, (hF.2.2.1 _).trans d5⟩
          · obtain rfl : i = 9 := by omega
            rw [if_neg e, sP_Pe]
            obtain ⟨-, d2, d3, d4, d5⟩ := g0
            exact ⟨rfl, d2, d3, (hF.2.1 _).trans d4, (hF.2.2.1 _).trans d5⟩
        · have e : (if a < 9 then g (a + 1) else g 0) = (if b < 9 then g (b + 1) else g 0) := e
          split at e <;> split at e
          · have := q6 _ _ (by omega) (by omega) e; omega
          · have := q6 _ _ (by omega) (by omega) e; omega
          · have := q6 _ _ (by omega) (by omega) e; omega
          · omega
        · have := q7 m (by omega)
          show MA _ (if 9 - 1 - m < 9 then g (9 - 1 - m + 1) else g 0) (P m)
          rw [if_pos (by omega), show 9 - 1 - m + 1 = 10 - 1 - m by omega]
          intro i hi
          have hd := (q5 (10 - 1 - m) (by omega)).2.1
          rw [sI_Ia (by omega), sP_I, hI]
          exact this i hi
        · exact FH_tr (FH_tr hF FH_sP) (FH_fi (FI_sI (S := fun a k => a = j ∧ k = 3) ⟨rfl, rfl⟩) fun z k hz => Or.inl hz)
        · intro i hi
          rw [sI_Ia (by omega), sP_I, hI]
          exact hA i hi
        · have k7 : mK h' j = 6 := k6.trans a1
          rw [i3, nI_add]
          exact ⟨k7, k7, hH', hF'⟩
    exact main 1 (by decide) (Nat.le_refl _) h FH_rfl q1 (fun i hi => by rw [if_neg (by omega)]; exact (q5 i hi).1) fun _ => rfl
  · have gc := q5 c (by omega)
    simp (disch := omega) only [nI_mul, nI_add, nI_clamp, nI_inE, nI_leE, nI_ltE, nI_eqE, nI_eqz, nI_ltz, nI_gez, nI_lez, nI_gtz, nI_m1, nI_m1', nI_ltm, nI_gem, nI_gtm, nI_lem, nI_00, nI_01, nI_10, nI_11, bI_z, bI_1, bI_0, bI_b, bI_nz, bit_e, arK_i, arK_b, arK_j, true_and, and_true, ne_eq, not_false_eq_true, not_true_eq_false, false_and, and_false, true_or, or_true, false_or, or_false, Classical.not_not, forall_const, true_implies, implies_true, false_implies, eq_self, a0, p2, q1, q3, q4, gc.1, gz, hc]
    refine ⟨Nat.succ_ne_zero _, rem_end (h := h) hH0 (by omega) FH_rfl hR hA (by omega) fun h' i3 k6 hH' hF' => ?_⟩
    have k7 : mK h' j = 6 := k6.trans a0
    rw [i3, nI_add, show upto10 c = c + 1 from if_pos (by omega)]
    exact ⟨k7, k7, hH', hF'⟩
end MOD
