section MOD
variable {x : CX}
/-- what an exploration has -/
def EI (w : Nat → Int32) (np nt : Nat) (E : EE) : Prop := exC E ≤ 150 ∧ (∀ n, n < exC E → ∃ v, GM w v np ∧ exK E n = pkS v np ∧ exS E n = esW v np nt) ∧ (¬ exW E → 150 ≤ exC E)
theorem vis_EI {w v : Nat → Int32} {np nt : Nat} {E : EE} {fr tr : Int32} (hE : EI w np nt E) (hG : GM w v np) (hn : np ≤ 8) : EI w np nt (visE w np nt E (pkS v np) fr tr) := by
  obtain ⟨h1, h2, h3⟩ := hE
  unfold visE
  by_cases g : ∃ n, n < exC E ∧ exK E n = pkS v np
  · rw [iteC_t g]; exact ⟨h1, h2, h3⟩
  rw [iteC_f g]
  by_cases g2 : 150 ≤ exC E
  · rw [iteC_t g2]
    exact ⟨h1, h2, fun _ => g2⟩
  · rw [iteC_f g2]
    refine ⟨show exC E + 1 ≤ 150 by omega, fun n hn2 => ?_, fun z => absurd (h3 z) (by omega)⟩
    have hn3 : n < exC E + 1 := hn2
    show ∃ u, GM w u np ∧ udK (exK E) (exC E) (pkS v np) n = pkS u np ∧ udW (exS E) (exC E) (esW (unW w (pkS v np) np) np nt) n = esW u np nt
    by_cases e : n = exC E
    · rw [e, udK_e, udW_e, GM_un hG hn]
      exact ⟨v, hG, rfl, rfl⟩
    · rw [udK_n e, udW_n e]
      exact h2 n (by omega)
theorem vis_keep {w : Nat → Int32} {np nt n : Nat} {E : EE} {q : Int64} {fr tr : Int32} (hn : n < exC E) : exK (visE w np nt E q fr tr) n = exK E n ∧ exS (visE w np nt E q fr tr) n = exS E n := by
  unfold visE
  refine iteC_P (fun F : EE => exK F n = exK E n ∧ exS F n = exS E n) ⟨rfl, rfl⟩ (iteC_P (fun F : EE => exK F n = exK E n ∧ exS F n = exS E n) ⟨rfl, rfl⟩ ?_)
  exact ⟨udK_n (by omega), udW_n (by omega)⟩
/-- one step of a row -/
noncomputable def stpE (w : Nat → Int32) (np nt n t : Nat) (E : EE) : EE := iteC (tb (exS E n) t) (visE w np nt E (exK E n + pcS w t np) (nI n) (nI t)) E
theorem row_S {w : Nat → Int32} {np nt n m : Nat} {E : EE} : rowE w np nt n E (m + 1) = stpE w np nt n m (rowE w np nt n E m) := rfl
theorem stp_EI {w : Nat → Int32} {np nt n t : Nat} {E : EE} (hE : EI w np nt E) (hT : TRg w np nt) (hB : NB w np nt) (hn : n < exC E) (ht : t < nt) : EI w np nt (stpE w np nt n t E) := by
  obtain ⟨v, hG, hk, hs⟩ := hE.2.1 n hn
  unfold stpE
  by_cases g : tb (exS E n) t
  · rw [iteC_t g]
    rw [hs, tb_es hB.2.2.2.2.2 ht] at g
    obtain ⟨hG2, e⟩ := GM_mv hG hT hB ht g
    rw [hk, e]
    exact vis_EI hE hG2 hB.2.2.2.1
  · rw [iteC_f g]; exact hE
theorem stp_le {w : Nat → Int32} {np nt n t : Nat} {E : EE} : exC E ≤ exC (stpE w np nt n t E) := by
  unfold stpE
  exact iteC_P (fun F : EE => exC E ≤ exC F) vis_le (Nat.le_refl _)
theorem row_EI {w : Nat → Int32} {np nt n m : Nat} {E : EE} (hE : EI w np nt E) (hT : TRg w np nt) (hB : NB w np nt) (hn : n < exC E) (hm : m ≤ nt) : EI w np nt (rowE w np nt n E m) := by
  induction m with
  | zero => exact hE
  | succ m ih =>
    rw [row_S]
    exact stp_EI (ih (by omega)) hT hB (Nat.lt_of_lt_of_le hn row_le) (by omega)
/-- nothing more happens when an exploration is not whole -/
theorem stp_stop {w : Nat → Int32} {np nt n t : Nat} {E : EE} (hE : EI w np nt E) (h : ¬ exW E) : stpE w np nt n t E = E := by
  have hc := hE.2.2 h
  have e : (exC E, exK E, exD E, exF E, exS E, False) = E := by
    have : exW E = False := eq_false h
    obtain ⟨a, b, c, d, f, g⟩ := E
    have : g = False := this
    subst this
    rfl
  unfold stpE
  by_cases g : tb (exS E n) t
  · rw [iteC_t g]
    unfold visE
    by_cases g2 : ∃ m, m < exC E ∧ exK E m = exK E n + pcS w t np
    · rw [iteC_t g2]
    · rw [iteC_f g2, iteC_t hc, e]
  · rw [iteC_f g]
/-! the model's markings -/
def MNx (h : MH) (j : Nat) (w : Nat → Int32) : Prop := MB h j ∧ ∀ m, rlv w m → (m < 2 ∨ 10 ≤ m) → mI h (j + 1) m = w m
theorem MNx_of {h : MH} {j : Nat} {w v : Nat → Int32} (hN : MN h j v) (e : ∀ m, m < 2 ∨ 10 ≤ m → v m = w m) : MNx h j w := by
  refine ⟨hN.1, fun m hm h2 => (hN.2 m ?_).trans (e m h2)⟩
  unfold rlv at *
  rw [show npW v = npW w by unfold npW; rw [e 0 (by decide)]]
  exact hm
theorem MN_of {h h' : MH} {j : Nat} {w v : Nat → Int32} {S : Nat → Nat → Prop} (hX : MNx h j w) (hF : FI h h' S) (hS : ∀ k, S (j + 1) k → 2 ≤ k ∧ k < 10) (e : ∀ m, m < 2 ∨ 10 ≤ m → v m = w m) (ht : ∀ p, p < 8 → mI h' (j + 1) (2 + p) = v (2 + p)) : MN h' j v := by
  refine ⟨MB_fi hX.1 hF, fun m hm => ?_⟩
  by_cases g : m < 2 ∨ 10 ≤ m
  · rw [hF.2.2.2.2 _ m fun z => by have := hS m z; omega, e m g]
    refine hX.2 m ?_ g
    unfold rlv at *
    rw [show npW w = npW v by unfold npW; rw [e 0 (by decide)]]
    exact hm
  · have := ht (m - 2) (by omega)
    rwa [show 2 + (m - 2) = m by omega] at this
theorem MX_rd {h : MH} {j : Nat} (hM : MB h j) : mK h j = 6 ∧ mP h j 1 = j + 1 ∧ mK h (j + 1) = 11 ∧ mL h (j + 1) = 268 ∧ mP h j 12 = j + 18 ∧ mK h (j + 18) = 11 ∧ mL h (j + 18) = 1200 := ⟨hM.1, hM.2.1.1, hM.2.2.1.1, hM.2.2.1.2.1, hM.2.1.2.2.2.2.2.2.2.1, hM.2.2.2.2.2.2.2.1, hM.2.2.2.2.2.2.2.2.1⟩
theorem m_note {h : MH} {j n : Nat} (hM : MB h j) (hn : n < 150) : CT x sX5_note [.ref j, .int (nI n)] h (pV fun h' => (∀ p, p < 8 → mI h' (j + 18) (n * 8 + p) = mI h (j + 1) (2 + p)) ∧ FI h h' fun a k => a = j + 18 ∧ n * 8 ≤ k ∧ k < n * 8 + 8) xNo := by
  (refine CT_of (o := 5) rfl (by decide) (by simp [Value.category, sX5_note]) (MW_ev kX5_note 300 ?_); show evS _ _ _ _ _ _ 300 0 (0, 0) [.ref j, .int (nI n), .null] [] _; simp only [st_iconst, st_lconst, st_ldc2_w, st_ldc, st_iload, st_lload, st_aload, st_istore, st_astore, st_lstore, st_iinc, st_iadd, st_isub, st_imul, st_idiv, st_irem, st_iand, st_ior, st_ishl, st_ishr, st_iushr, st_ladd, st_lmul, st_lshl, st_lushr, st_lcmp, st_i2l, st_l2i, st_i2b, st_i2c, st_i2d, st_i2f, st_dconst, st_fconst, st_ddiv, st_fdiv, st_dup, st_dup2, st_pop, st_goto, st_if_icmp, st_ifCond, st_tableswitch, st_lookupswitch, st_iaload, st_baload, st_laload, st_aaload, st_iastore, st_bastore, st_lastore, st_aastore, st_saload, st_faload, st_jsr, st_getstatic, st_frem, st_drem, st_monitorexit, st_monitorenter, st_invokeinterface, st_newarray, st_anewarray, st_multianewarray, asI_c, asJ_c, asR_c, asD_c, asF_c, popI_c, popJ_c, popR_c, popD_c, popF_c, pop1_c, okSt_0, okSt_S, rcv_0, rcv_1, rcv_2, rcv_3, rcv_4, rcv_5, rcv_8, pI_c, pJ_c, pR_c, pV_c, pD_c, pF_c, cmp_eq, cmp_ne, cmp_lt, cmp_ge, cmp_gt, cmp_le, nth_0, nth_S, set_0, set_S, cat_int, cat_ref, cat_long, cat_double, cat_float, cat_null, catS_0, catS_S, swT_0, swT_S, swL_0, swL_S, Nat.add_zero, Nat.reduceAdd, Nat.reduceSub, Nat.reduceLT, Nat.reduceLeDiff, true_and, and_true, eq_self, eX5_note_0, fX5_note_0, cI_0, eX5_note_1, eX5_note_2, fX5_note_2, eX5_note_3, cI_8, eX5_note_5, tn_33, eX5_note_8, eX5_note_9, gf5_34, eX5_note_12, eX5_note_13, eX5_note_15, eX5_note_16, eX5_note_17, eX5_note_18, eX5_note_19, gf5_9, eX5_note_22, cI_2, eX5_note_23, eX5_note_24, eX5_note_25, eX5_note_26, eX5_note_27, cI_1, eX5_note_30, tn_2, eX5_note_33, d_X5_note, re_X5_note])
  refine loop_up 8 (P := fun k => ∀ h', (∀ p, p < k → mI h' (j + 18) (n * 8 + p) = mI h (j + 1) (2 + p)) → FI h h' (fun a k => a = j + 18 ∧ n * 8 ≤ k ∧ k < n * 8 + 8) → MW x sX5_note 5 _ xNo 2 (0, 0) [.ref j, .int (nI n), .int (nI k)] [] h') (fun k hk ih h1 hc hF => ?_) 0 (Nat.zero_le _) h (fun m hm => absurd hm (Nat.not_lt_zero _)) FI_rfl
  obtain ⟨a0, p1, k1, l1, p12, k18, l18⟩ := MX_rd (MB_fi hM hF)
  have e := hF.2.2.2.2 (j + 1) (2 + k) (by omega)
  (refine MW_ev kX5_note 300 ?_; simp only [st_iconst, st_lconst, st_ldc2_w, st_ldc, st_iload, st_lload, st_aload, st_istore, st_astore, st_lstore, st_iinc, st_iadd, st_isub, st_imul, st_idiv, st_irem, st_iand, st_ior, st_ishl, st_ishr, st_iushr, st_ladd, st_lmul, st_lshl, st_lushr, st_lcmp, st_i2l, st_l2i, st_i2b, st_i2c, st_i2d, st_i2f, st_dconst, st_fconst, st_ddiv, st_fdiv, st_dup, st_dup2, st_pop, st_goto, st_if_icmp, st_ifCond, st_tableswitch, st_lookupswitch, st_iaload, st_baload, st_laload, st_aaload, st_iastore, st_bastore, st_lastore, st_aastore, st_saload, st_faload, st_jsr, st_getstatic, st_frem, st_drem, st_monitorexit, st_monitorenter, st_invokeinterface, st_newarray, st_anewarray, st_multianewarray, asI_c, asJ_c, asR_c, asD_c, asF_c, popI_c, popJ_c, popR_c, popD_c, popF_c, pop1_c, okSt_0, okSt_S, rcv_0, rcv_1, rcv_2, rcv_3, rcv_4, rcv_5, rcv_8, pI_c, pJ_c, pR_c, pV_c, pD_c, pF_c, cmp_eq, cmp_ne, cmp_lt, cmp_ge, cmp_gt, cmp_le, nth_0, nth_S, set_0, set_S, cat_int, cat_ref, cat_long, cat_double, cat_float, cat_null, catS_0, catS_S, swT_0, swT_S, swL_0, swL_S, Nat.add_zero, Nat.reduceAdd, Nat.reduceSub, Nat.reduceLT, Nat.reduceLeDiff, true_and, and_true, eq_self, eX5_note_0, fX5_note_0, cI_0, eX5_note_1, eX5_note_2, fX5_note_2, eX5_note_3, cI_8, eX5_note_5, tn_33, eX5_note_8, eX5_note_9, gf5_34, eX5_note_12, eX5_note_13, eX5_note_15, eX5_note_16, eX5_note_17, eX5_note_18, eX5_note_19, gf5_9, eX5_note_22, cI_2, eX5_note_23, eX5_note_24, eX5_note_25, eX5_note_26, eX5_note_27, cI_1, eX5_note_30, tn_2, eX5_note_33, d_X5_note, re_X5_note])
  rcases Nat.lt_or_ge k 8 with hl | hl
  · simp (disch := omega) only [nI_mul, nI_add, nI_clamp, nI_inE, nI_leE, nI_ltE, nI_eqE, nI_eqz, nI_ltz, nI_gez, nI_lez, nI_gtz, nI_m1, nI_m1', nI_ltm, nI_gem, nI_gtm, nI_lem, nI_00, nI_01, nI_10, nI_11, bI_z, bI_1, bI_0, bI_b, bI_nz, bit_e, arK_i, arK_b, arK_j, true_and, and_true, ne_eq, not_false_eq_true, not_true_eq_false, false_and, and_false, true_or, or_true, false_or, or_false, Classical.not_not, forall_const, true_implies, implies_true, false_implies, eq_self, a0, p1, k1, l1, p12, k18, l18, hl, Nat.not_le.mpr hl, e]
    exact ⟨Nat.succ_ne_zero _, Nat.succ_ne_zero _, ih hl _ (lt_succ_all (fun m hm => (sI_Ik (by omega)).trans (hc m hm)) sI_Ie) (FI_tr hF (FI_sI ⟨rfl, by omega, by omega⟩))⟩
  · obtain rfl : k = 8 := by omega
    simp (disch := omega) only [nI_mul, nI_add, nI_clamp, nI_inE, nI_leE, nI_ltE, nI_eqE, nI_eqz, nI_ltz, nI_gez, nI_lez, nI_gtz, nI_m1, nI_m1', nI_ltm, nI_gem, nI_gtm, nI_lem, nI_00, nI_01, nI_10, nI_11, bI_z, bI_1, bI_0, bI_b, bI_nz, bit_e, arK_i, arK_b, arK_j, true_and, and_true, ne_eq, not_false_eq_true, not_true_eq_false, false_and, and_false, true_or, or_true, false_or, or_false, Classical.not_not, forall_const, true_implies, implies_true, false_implies, eq_self, Nat.le_refl]
    exact ⟨hc, hF⟩
theorem m_take {h : MH} {j n : Nat} (hM : MB h j) (hn : n < 150) : CT x sX5_take [.ref j, .int (nI n)] h (pV fun h' => (∀ p, p < 8 → mI h' (j + 1) (2 + p) = mI h (j + 18) (n * 8 + p)) ∧ FI h h' fun a k => a = j + 1 ∧ 2 ≤ k ∧ k < 10) xNo := by
  (refine CT_of (o := 5) rfl (by decide) (by simp [Value.category, sX5_take]) (MW_ev kX5_take 300 ?_); show evS _ _ _ _ _ _ 300 0 (0, 0) [.ref j, .int (nI n), .null] [] _; simp only [st_iconst, st_lconst, st_ldc2_w, st_ldc, st_iload, st_lload, st_aload, st_istore, st_astore, st_lstore, st_iinc, st_iadd, st_isub, st_imul, st_idiv, st_irem, st_iand, st_ior, st_ishl, st_ishr, st_iushr, st_ladd, st_lmul, st_lshl, st_lushr, st_lcmp, st_i2l, st_l2i, st_i2b, st_i2c, st_i2d, st_i2f, st_dconst, st_fconst, st_ddiv, st_fdiv, st_dup, st_dup2, st_pop, st_goto, st_if_icmp, st_ifCond, st_tableswitch, st_lookupswitch, st_iaload, st_baload, st_laload, st_aaload, st_iastore, st_bastore, st_lastore, st_aastore, st_saload, st_faload, st_jsr, st_getstatic, st_frem, st_drem, st_monitorexit, st_monitorenter, st_invokeinterface, st_newarray, st_anewarray, st_multianewarray, asI_c, asJ_c, asR_c, asD_c, asF_c, popI_c, popJ_c, popR_c, popD_c, popF_c, pop1_c, okSt_0, okSt_S, rcv_0, rcv_1, rcv_2, rcv_3, rcv_4, rcv_5, rcv_8, pI_c, pJ_c, pR_c, pV_c, pD_c, pF_c, cmp_eq, cmp_ne, cmp_lt, cmp_ge, cmp_gt, cmp_le, nth_0, nth_S, set_0, set_S, cat_int, cat_ref, cat_long, cat_double, cat_float, cat_null, catS_0, catS_S, swT_0, swT_S, swL_0, swL_S, Nat.add_zero, Nat.reduceAdd, Nat.reduceSub, Nat.reduceLT, Nat.reduceLeDiff, true_and, and_true, eq_self, eX5_take_0, fX5_take_0, cI_0, eX5_take_1, eX5_take_2, fX5_take_2, eX5_take_3, cI_8, eX5_take_5, tn_33, eX5_take_8, eX5_take_9, gf5_9, eX5_take_12, cI_2, eX5_take_13, eX5_take_14, eX5_take_15, eX5_take_16, gf5_34, eX5_take_19, eX5_take_20, eX5_take_22, eX5_take_23, eX5_take_24, eX5_take_25, eX5_take_26, eX5_take_27, cI_1, eX5_take_30, tn_2, eX5_take_33, d_X5_take, re_X5_take])
  refine loop_up 8 (P := fun k => ∀ h', (∀ p, p < k → mI h' (j + 1) (2 + p) = mI h (j + 18) (n * 8 + p)) → FI h h' (fun a k => a = j + 1 ∧ 2 ≤ k ∧ k < 10) → MW x sX5_take 5 _ xNo 2 (0, 0) [.ref j, .int (nI n), .int (nI k)] [] h') (fun k hk ih h1 hc hF => ?_) 0 (Nat.zero_le _) h (fun m hm => absurd hm (Nat.not_lt_zero _)) FI_rfl
  obtain ⟨a0, p1, k1, l1, p12, k18, l18⟩ := MX_rd (MB_fi hM hF)
  have e := hF.2.2.2.2 (j + 18) (n * 8 + k) (by omega)
  (refine MW_ev kX5_take 300 ?_; simp only [st_iconst, st_lconst, st_ldc2_w, st_ldc, st_iload, st_lload, st_aload, st_istore, st_astore, st_lstore, st_iinc, st_iadd, st_isub, st_imul, st_idiv, st_irem, st_iand, st_ior, st_ishl, st_ishr, st_iushr, st_ladd, st_lmul, st_lshl, st_lushr, st_lcmp, st_i2l, st_l2i, st_i2b, st_i2c, st_i2d, st_i2f, st_dconst, st_fconst, st_ddiv, st_fdiv, st_dup, st_dup2, st_pop, st_goto, st_if_icmp, st_ifCond, st_tableswitch, st_lookupswitch, st_iaload, st_baload, st_laload, st_aaload, st_iastore, st_bastore, st_lastore, st_aastore, st_saload, st_faload, st_jsr, st_getstatic, st_frem, st_drem, st_monitorexit, st_monitorenter, st_invokeinterface, st_newarray, st_anewarray, st_multianewarray, asI_c, asJ_c, asR_c, asD_c, asF_c, popI_c, popJ_c, popR_c, popD_c, popF_c, pop1_c, okSt_0, okSt_S, rcv_0, rcv_1, rcv_2, rcv_3, rcv_4, rcv_5, rcv_8, pI_c, pJ_c, pR_c, pV_c, pD_c, pF_c, cmp_eq, cmp_ne, cmp_lt, cmp_ge, cmp_gt, cmp_le, nth_0, nth_S, set_0, set_S, cat_int, cat_ref, cat_long, cat_double, cat_float, cat_null, catS_0, catS_S, swT_0, swT_S, swL_0, swL_S, Nat.add_zero, Nat.reduceAdd, Nat.reduceSub, Nat.reduceLT, Nat.reduceLeDiff, true_and, and_true, eq_self, eX5_take_0, fX5_take_0, cI_0, eX5_take_1, eX5_take_2, fX5_take_2, eX5_take_3, cI_8, eX5_take_5, tn_33, eX5_take_8, eX5_take_9, gf5_9, eX5_take_12, cI_2, eX5_take_13, eX5_take_14, eX5_take_15, eX5_take_16, gf5_34, eX5_take_19, eX5_take_20, eX5_take_22, eX5_take_23, eX5_take_24, eX5_take_25, eX5_take_26, eX5_take_27, cI_1, eX5_take_30, tn_2, eX5_take_33, d_X5_take, re_X5_take])
  rcases Nat.lt_or_ge k 8 with hl | hl
  · simp (disch := omega) only [nI_mul, nI_add, nI_clamp, nI_inE, nI_leE, nI_ltE, nI_eqE, nI_eqz, nI_ltz, nI_gez, nI_lez, nI_gtz, nI_m1, nI_m1', nI_ltm, nI_gem, nI_gtm, nI_lem, nI_00, nI_01, nI_10, nI_11, bI_z, bI_1, bI_0, bI_b, bI_nz, bit_e, arK_i, arK_b, arK_j, true_and, and_true, ne_eq, not_false_eq_true, not_true_eq_false, false_and, and_false, true_or, or_true, false_or, or_false, Classical.not_not, forall_const, true_implies, implies_true, false_implies, eq_self, a0, p1, k1, l1, p12, k18, l18, hl, Nat.not_le.mpr hl, e]
    exact ⟨Nat.succ_ne_zero _, Nat.succ_ne_zero _, ih hl _ (lt_succ_all (fun m hm => (sI_Ik (by omega)).trans (hc m hm)) sI_Ie) (FI_tr hF (FI_sI ⟨rfl, by omega, by omega⟩))⟩
  · obtain rfl : k = 8 := by omega
    simp (disch := omega) only [nI_mul, nI_add, nI_clamp, nI_inE, nI_leE, nI_ltE, nI_eqE, nI_eqz, nI_ltz, nI_gez, nI_lez, nI_gtz, nI_m1, nI_m1', nI_ltm, nI_gem, nI_gtm, nI_lem, nI_00, nI_01, nI_10, nI_11, bI_z, bI_1, bI_0, bI_b, bI_nz, bit_e, arK_i, arK_b, arK_j, true_and, and_true, ne_eq, not_false_eq_true, not_true_eq_false, false_and, and_false, true_or, or_true, false_or, or_false, Classical.not_not, forall_const, true_implies, implies_true, false_implies, eq_self, Nat.le_refl]
    exact ⟨hc, hF⟩
theorem m_isMarking {h : MH} {j n : Nat} (hM : MB h j) (hn : n < 150) : CT x sX5_isMarking [.ref j, .int (nI n)] h (pI fun r h' => r = bI (∀ p, p < 8 → mI h (j + 18) (n * 8 + p) = mI h (j + 1) (2 + p)) ∧ h' = h) xNo := by
  obtain ⟨a0, p1, k1, l1, p12, k18, l18⟩ := MX_rd hM
  (refine CT_of (o := 5) rfl (by decide) (by simp [Value.category, sX5_isMarking]) (MW_ev kX5_isMarking 300 ?_); show evS _ _ _ _ _ _ 300 0 (0, 0) [.ref j, .int (nI n), .null] [] _; simp only [st_iconst, st_lconst, st_ldc2_w, st_ldc, st_iload, st_lload, st_aload, st_istore, st_astore, st_lstore, st_iinc, st_iadd, st_isub, st_imul, st_idiv, st_irem, st_iand, st_ior, st_ishl, st_ishr, st_iushr, st_ladd, st_lmul, st_lshl, st_lushr, st_lcmp, st_i2l, st_l2i, st_i2b, st_i2c, st_i2d, st_i2f, st_dconst, st_fconst, st_ddiv, st_fdiv, st_dup, st_dup2, st_pop, st_goto, st_if_icmp, st_ifCond, st_tableswitch, st_lookupswitch, st_iaload, st_baload, st_laload, st_aaload, st_iastore, st_bastore, st_lastore, st_aastore, st_saload, st_faload, st_jsr, st_getstatic, st_frem, st_drem, st_monitorexit, st_monitorenter, st_invokeinterface, st_newarray, st_anewarray, st_multianewarray, asI_c, asJ_c, asR_c, asD_c, asF_c, popI_c, popJ_c, popR_c, popD_c, popF_c, pop1_c, okSt_0, okSt_S, rcv_0, rcv_1, rcv_2, rcv_3, rcv_4, rcv_5, rcv_8, pI_c, pJ_c, pR_c, pV_c, pD_c, pF_c, cmp_eq, cmp_ne, cmp_lt, cmp_ge, cmp_gt, cmp_le, nth_0, nth_S, set_0, set_S, cat_int, cat_ref, cat_long, cat_double, cat_float, cat_null, catS_0, catS_S, swT_0, swT_S, swL_0, swL_S, Nat.add_zero, Nat.reduceAdd, Nat.reduceSub, Nat.reduceLT, Nat.reduceLeDiff, true_and, and_true, eq_self, eX5_isMarking_0, fX5_isMarking_0, cI_0, eX5_isMarking_1, eX5_isMarking_2, fX5_isMarking_2, eX5_isMarking_3, cI_8, eX5_isMarking_5, tn_38, eX5_isMarking_8, eX5_isMarking_9, gf5_34, eX5_isMarking_12, eX5_isMarking_13, eX5_isMarking_15, eX5_isMarking_16, eX5_isMarking_17, eX5_isMarking_18, eX5_isMarking_19, eX5_isMarking_20, gf5_9, eX5_isMarking_23, cI_2, eX5_isMarking_24, eX5_isMarking_25, eX5_isMarking_26, eX5_isMarking_27, tn_32, eX5_isMarking_30, eX5_isMarking_31, eX5_isMarking_32, cI_1, eX5_isMarking_35, tn_2, eX5_isMarking_38, eX5_isMarking_39, d_X5_isMarking, re_X5_isMarking])
  refine loop_up 8 (P := fun k => (∀ p, p < k → mI h (j + 18) (n * 8 + p) = mI h (j + 1) (2 + p)) → MW x sX5_isMarking 5 _ xNo 2 (0, 0) [.ref j, .int (nI n), .int (nI k)] [] h) (fun k hk ih hc => ?_) 0 (Nat.zero_le _) (fun m hm => absurd hm (Nat.not_lt_zero _))
  (refine MW_ev kX5_isMarking 300 ?_; simp only [st_iconst, st_lconst, st_ldc2_w, st_ldc, st_iload, st_lload, st_aload, st_istore, st_astore, st_lstore, st_iinc, st_iadd, st_isub, st_imul, st_idiv, st_irem, st_iand, st_ior, st_ishl, st_ishr, st_iushr, st_ladd, st_lmul, st_lshl, st_lushr, st_lcmp, st_i2l, st_l2i, st_i2b, st_i2c, st_i2d, st_i2f, st_dconst, st_fconst, st_ddiv, st_fdiv, st_dup, st_dup2, st_pop, st_goto, st_if_icmp, st_ifCond, st_tableswitch, st_lookupswitch, st_iaload, st_baload, st_laload, st_aaload, st_iastore, st_bastore, st_lastore, st_aastore, st_saload, st_faload, st_jsr, st_getstatic, st_frem, st_drem, st_monitorexit, st_monitorenter, st_invokeinterface, st_newarray, st_anewarray, st_multianewarray, asI_c, asJ_c, asR_c, asD_c, asF_c, popI_c, popJ_c, popR_c, popD_c, popF_c, pop1_c, okSt_0, okSt_S, rcv_0, rcv_1, rcv_2, rcv_3, rcv_4, rcv_5, rcv_8, pI_c, pJ_c, pR_c, pV_c, pD_c, pF_c, cmp_eq, cmp_ne, cmp_lt, cmp_ge, cmp_gt, cmp_le, nth_0, nth_S, set_0, set_S, cat_int, cat_ref, cat_long, cat_double, cat_float, cat_null, catS_0, catS_S, swT_0, swT_S, swL_0, swL_S, Nat.add_zero, Nat.reduceAdd, Nat.reduceSub, Nat.reduceLT, Nat.reduceLeDiff, true_and, and_true, eq_self, eX5_isMarking_0, fX5_isMarking_0, cI_0, eX5_isMarking_1, eX5_isMarking_2, fX5_isMarking_2, eX5_isMarking_3, cI_8, eX5_isMarking_5, tn_38, eX5_isMarking_8, eX5_isMarking_9, gf5_34, eX5_isMarking_12, eX5_isMarking_13, eX5_isMarking_15, eX5_isMarking_16, eX5_isMarking_17, eX5_isMarking_18, eX5_isMarking_19, eX5_isMarking_20, gf5_9, eX5_isMarking_23, cI_2, eX5_isMarking_24, eX5_isMarking_25, eX5_isMarking_26, eX5_isMarking_27, tn_32, eX5_isMarking_30, eX5_isMarking_31, eX5_isMarking_32, cI_1, eX5_isMarking_35, tn_2, eX5_isMarking_38, eX5_isMarking_39, d_X5_isMarking, re_X5_isMarking])
  rcases Nat.lt_or_ge k 8 with hl | hl
  · simp (disch := omega) only [nI_mul, nI_add, nI_clamp, nI_inE, nI_leE, nI_ltE, nI_eqE, nI_eqz, nI_ltz, nI_gez, nI_lez, nI_gtz, nI_m1, nI_m1', nI_ltm, nI_gem, nI_gtm, nI_lem, nI_00, nI_01, nI_10, nI_11, bI_z, bI_1, bI_0, bI_b, bI_nz, bit_e, arK_i, arK_b, arK_j, true_and, and_true, ne_eq, not_false_eq_true, not_true_eq_false, false_and, and_false, true_or, or_true, false_or, or_false, Classical.not_not, forall_const, true_implies, implies_true, false_implies, eq_self, a0, p1, k1, l1, p12, k18, l18, hl, Nat.not_le.mpr hl]
    exact ⟨Nat.succ_ne_zero _, Nat.succ_ne_zero _, fun g => ih hl (lt_succ_all hc g), fun g => fun z => g (z k hl)⟩
  · obtain rfl : k = 8 := by omega
    simp (disch := omega) only [nI_mul, nI_add, nI_clamp, nI_inE, nI_leE, nI_ltE, nI_eqE, nI_eqz, nI_ltz, nI_gez, nI_lez, nI_gtz, nI_m1, nI_m1', nI_ltm, nI_gem, nI_gtm, nI_lem, nI_00, nI_01, nI_10, nI_11, bI_z, bI_1, bI_0, bI_b, bI_nz, bit_e, arK_i, arK_b, arK_j, true_and, and_true, ne_eq, not_false_eq_true, not_true_eq_false, false_and, and_false, true_or, or_true, false_or, or_false, Classical.not_not, forall_const, true_implies, implies_true, false_implies, eq_self, Nat.le_refl]
    exact hc
theorem m_known {h : MH} {j c : Nat} (hM : MB h j) (hc : c ≤ 150) (h15 : mI h j 15 = nI c) : CT x sX5_known [.ref j] h (pI fun r h' => r = ffN (fun n => ∀ p, p < 8 → mI h (j + 18) (n * 8 + p) = mI h (j + 1) (2 + p)) c ∧ h' = h) xNo := by
  have a0 := hM.1
  (refine CT_of (o := 5) rfl (by decide) (by simp [Value.category, sX5_known]) (MW_ev kX5_known 300 ?_); show evS _ _ _ _ _ _ 300 0 (0, 0) [.ref j, .null] [] _; simp only [st_iconst, st_lconst, st_ldc2_w, st_ldc, st_iload, st_lload, st_aload, st_istore, st_astore, st_lstore, st_iinc, st_iadd, st_isub, st_imul, st_idiv, st_irem, st_iand, st_ior, st_ishl, st_ishr, st_iushr, st_ladd, st_lmul, st_lshl, st_lushr, st_lcmp, st_i2l, st_l2i, st_i2b, st_i2c, st_i2d, st_i2f, st_dconst, st_fconst, st_ddiv, st_fdiv, st_dup, st_dup2, st_pop, st_goto, st_if_icmp, st_ifCond, st_tableswitch, st_lookupswitch, st_iaload, st_baload, st_laload, st_aaload, st_iastore, st_bastore, st_lastore, st_aastore, st_saload, st_faload, st_jsr, st_getstatic, st_frem, st_drem, st_monitorexit, st_monitorenter, st_invokeinterface, st_newarray, st_anewarray, st_multianewarray, asI_c, asJ_c, asR_c, asD_c, asF_c, popI_c, popJ_c, popR_c, popD_c, popF_c, pop1_c, okSt_0, okSt_S, rcv_0, rcv_1, rcv_2, rcv_3, rcv_4, rcv_5, rcv_8, pI_c, pJ_c, pR_c, pV_c, pD_c, pF_c, cmp_eq, cmp_ne, cmp_lt, cmp_ge, cmp_gt, cmp_le, nth_0, nth_S, set_0, set_S, cat_int, cat_ref, cat_long, cat_double, cat_float, cat_null, catS_0, catS_S, swT_0, swT_S, swL_0, swL_S, Nat.add_zero, Nat.reduceAdd, Nat.reduceSub, Nat.reduceLT, Nat.reduceLeDiff, true_and, and_true, eq_self, eX5_known_0, fX5_known_0, cI_0, eX5_known_1, eX5_known_2, fX5_known_2, eX5_known_3, eX5_known_4, gf5_109, eX5_known_7, tn_26, eX5_known_10, eX5_known_11, eX5_known_12, iv5_112, c_X5_isMarking, eX5_known_15, tn_20, eX5_known_18, eX5_known_19, eX5_known_20, cI_1, eX5_known_23, tn_2, eX5_known_26, cI_m1, eX5_known_27, d_X5_known, re_X5_known])
  refine loop_up c (P := fun k => (∀ i, i < k → ¬ ∀ p, p < 8 → mI h (j + 18) (i * 8 + p) = mI h (j + 1) (2 + p)) → MW x sX5_known 5 _ xNo 2 (0, 0) [.ref j, .int (nI k)] [] h) (fun k hk ih hp => ?_) 0 (Nat.zero_le _) (fun m hm => absurd hm (Nat.not_lt_zero _))
  (refine MW_ev kX5_known 300 ?_; simp only [st_iconst, st_lconst, st_ldc2_w, st_ldc, st_iload, st_lload, st_aload, st_istore, st_astore, st_lstore, st_iinc, st_iadd, st_isub, st_imul, st_idiv, st_irem, st_iand, st_ior, st_ishl, st_ishr, st_iushr, st_ladd, st_lmul, st_lshl, st_lushr, st_lcmp, st_i2l, st_l2i, st_i2b, st_i2c, st_i2d, st_i2f, st_dconst, st_fconst, st_ddiv, st_fdiv, st_dup, st_dup2, st_pop, st_goto, st_if_icmp, st_ifCond, st_tableswitch, st_lookupswitch, st_iaload, st_baload, st_laload, st_aaload, st_iastore, st_bastore, st_lastore, st_aastore, st_saload, st_faload, st_jsr, st_getstatic, st_frem, st_drem, st_monitorexit, st_monitorenter, st_invokeinterface, st_newarray, st_anewarray, st_multianewarray, asI_c, asJ_c, asR_c, asD_c, asF_c, popI_c, popJ_c, popR_c, popD_c, popF_c, pop1_c, okSt_0, okSt_S, rcv_0, rcv_1, rcv_2, rcv_3, rcv_4, rcv_5, rcv_8, pI_c, pJ_c, pR_c, pV_c, pD_c, pF_c, cmp_eq, cmp_ne, cmp_lt, cmp_ge, cmp_gt, cmp_le, nth_0, nth_S, set_0, set_S, cat_int, cat_ref, cat_long, cat_double, cat_float, cat_null, catS_0, catS_S, swT_0, swT_S, swL_0, swL_S, Nat.add_zero, Nat.reduceAdd, Nat.reduceSub, Nat.reduceLT, Nat.reduceLeDiff, true_and, and_true, eq_self, eX5_known_0, fX5_known_0, cI_0, eX5_known_1, eX5_known_2, fX5_known_2, eX5_known_3, eX5_known_4, gf5_109, eX5_known_7, tn_26, eX5_known_10, eX5_known_11, eX5_known_12, iv5_112, c_X5_isMarking, eX5_known_15, tn_20, eX5_known_18, eX5_known_19, eX5_known_20, cI_1, eX5_known_23, tn_2, eX5_known_26, cI_m1, eX5_known_27, d_X5_known, re_X5_known])
  rcases Nat.lt_or_ge k c with hl | hl
  · simp (disch := omega) only [nI_mul, nI_add, nI_clamp, nI_inE, nI_leE, nI_ltE, nI_eqE, nI_eqz, nI_ltz, nI_gez, nI_lez, nI_gtz, nI_m1, nI_m1', nI_ltm, nI_gem, nI_gtm, nI_lem, nI_00, nI_01, nI_10, nI_11, bI_z, bI_1, bI_0, bI_b, bI_nz, bit_e, arK_i, arK_b, arK_j, true_and, and_true, ne_eq, not_false_eq_true, not_true_eq_false, false_and, and_false, true_or, or_true, false_or, or_false, Classical.not_not, forall_const, true_implies, implies_true, false_implies, eq_self, a0, h15, hl, Nat.not_le.mpr hl]
    refine CI_pure (m_isMarking hM (by omega)) ?_
    simp only [nI_mul, nI_add, nI_clamp, nI_inE, nI_leE, nI_ltE, nI_eqE, nI_eqz, nI_ltz, nI_gez, nI_lez, nI_gtz, nI_m1, nI_m1', nI_ltm, nI_gem, nI_gtm, nI_lem, nI_00, nI_01, nI_10, nI_11, bI_z, bI_1, bI_0, bI_b, bI_nz, bit_e, arK_i, arK_b, arK_j, true_and, and_true, ne_eq, not_false_eq_true, not_true_eq_false, false_and, and_false, true_or, or_true, false_or, or_false, Classical.not_not, forall_const, true_implies, implies_true, false_implies, eq_self]
    refine ⟨fun g => ih hl (lt_succ_all hp g), fun g => ?_⟩
    first | exact (ff_hit (c := fun n => ∀ p, p < 8 → mI h (j + 18) (n * 8 + p) = mI h (j + 1) (2 + p)) hl g hp).symm | exact ⟨(ff_hit (c := fun n => ∀ p, p < 8 → mI h (j + 18) (n * 8 + p) = mI h (j + 1) (2 + p)) hl g hp).symm, rfl⟩
  · obtain rfl : k = c := by omega
    simp (disch := omega) only [nI_mul, nI_add, nI_clamp, nI_inE, nI_leE, nI_ltE, nI_eqE, nI_eqz, nI_ltz, nI_gez, nI_lez, nI_gtz, nI_m1, nI_m1', nI_ltm, nI_gem, nI_gtm, nI_lem, nI_00, nI_01, nI_10, nI_11, bI_z, bI_1, bI_0, bI_b, bI_nz, bit_e, arK_i, arK_b, arK_j, true_and, and_true, ne_eq, not_false_eq_true, not_true_eq_false, false_and, and_false, true_or, or_true, false_or, or_false, Classical.not_not, forall_const, true_implies, implies_true, false_implies, eq_self, a0, h15, Nat.le_refl]
    exact (ff_miss (c := fun n => ∀ p, p < 8 → mI h (j + 18) (n * 8 + p) = mI h (j + 1) (2 + p)) hp).symm
end MOD
