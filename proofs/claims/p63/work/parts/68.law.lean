section LAW
variable {x : CX}
/-- without its sign -/
theorem and_pos (v : Int32) : ∃ u, u < 2 ^ 31 ∧ v &&& nI 2147483647 = nI u := by
  obtain ⟨u, h1, h2⟩ := nI_of (x := v &&& nI 2147483647) (fun z => by
    rw [Int32.lt_iff_toInt_lt, z_toInt] at z
    have h1 := BitVec.msb_and (x := v.toBitVec) (y := (nI 2147483647).toBitVec)
    have h0 : (nI 2147483647).toBitVec.msb = false := by decide
    rw [h0, Bool.and_false, BitVec.msb_eq_toInt] at h1
    have h4 : (v.toBitVec &&& (nI 2147483647).toBitVec).toInt = (v &&& nI 2147483647).toInt := rfl
    rw [h4, decide_eq_false_iff_not] at h1
    exact h1 z)
  exact ⟨u, h1, h2⟩
theorem FB_mono {w : Nat → Int32} {m n : Nat} (h : FB w m) (hmn : m ≤ n) : FB w n := fun t ht => let ⟨k, h1, h2⟩ := h t ht; ⟨k, Nat.le_trans h1 hmn, h2⟩
theorem FB_eq {w v : Nat → Int32} {n : Nat} (h : FB w n) (e : ∀ t, t < 10 → v (18 + t) = w (18 + t)) : FB v n := fun t ht => let ⟨k, h1, h2⟩ := h t ht; ⟨k, h1, (e t ht).trans h2⟩
theorem FB_ud {w : Nat → Int32} {n j : Nat} {v : Int32} (h : FB w n) (hj : j < 18 ∨ 28 ≤ j) : FB (udW w j v) n := FB_eq h fun t ht => udW_n (by omega)
theorem FB_mv {w : Nat → Int32} {n t np : Nat} (h : FB w n) (hn : np ≤ 8) : FB (mvW w t np) n := FB_eq h fun u hu => by unfold mvW; rw [if_neg (by omega)]
theorem FB_fire {w : Nat → Int32} {n t np : Nat} (h : FB w n) (hn : np ≤ 8) (ht : t < 10) : FB (fireW w np t) (n + 1) := by
  intro u hu
  obtain ⟨k, h1, h2⟩ := FB_mv (t := t) h hn u hu
  unfold fireW
  by_cases g : u = t
  · subst g
    obtain ⟨k', f1, f2⟩ := h u hu
    refine ⟨k' + 1, by omega, ?_⟩
    rw [udW_e, f2, nI_add]
  · rw [udW_n (by omega)]
    exact ⟨k, by omega, h2⟩
theorem FB_run {np nt : Nat} (hn : np ≤ 8) (ht : nt ≤ 10) : ∀ (f n : Nat) (w : Nat → Int32), FB w n → FB (runW np nt f w).2 (n + f) := by
  intro f
  induction f with
  | zero => exact fun n w h => h
  | succ f ih =>
    intro n w h
    show FB (iteC (nxW w np nt = -1) (0, w) ((runW np nt f (fireW w np (nxW w np nt).toNatClampNeg)).1 + 1, (runW np nt f (fireW w np (nxW w np nt).toNatClampNeg)).2)).2 (n + (f + 1))
    by_cases g : nxW w np nt = -1
    · rw [iteC_t g]; exact FB_mono h (by omega)
    · rw [iteC_f g]
      obtain ⟨j, hj, e⟩ := (nx_dom w np nt).resolve_left g
      have e2 : (nxW w np nt).toNatClampNeg = j := by rw [e]; exact nI_clamp (by omega)
      rw [e2]
      have := ih (n + 1) _ (FB_fire (t := j) h hn (by omega))
      rwa [show n + 1 + f = n + (f + 1) by omega] at this
theorem FB_ite {c : Prop} {a b : AR} {n : Nat} (ha : c → FB (aW a.2.2) n) (hb : FB (aW b.2.2) n) : FB (aW (iteC c a b).2.2) n := (Classical.em c).elim (fun g => by rw [iteC_t g]; exact ha g) fun g => by rw [iteC_f g]; exact hb
theorem fb_ST {s : AS} {np n : Nat} {p t : Int32} (h : FB (aW s) n) (hn : np ≤ 8) : FB (aW (qST s np p t).2.2) n := by
  refine FB_ite (fun ⟨q, hq, e⟩ => FB_ite (fun g => ?_) h) h
  subst e
  show FB (udW (aW s) _ _) n
  rw [cl_nI (by omega)]
  exact FB_ud h (by omega)
theorem fb_SC {s : AS} {np n : Nat} {p c : Int32} (h : FB (aW s) n) (hn : np ≤ 8) : FB (aW (qSC s np p c).2.2) n := by
  refine FB_ite (fun ⟨q, hq, e⟩ => FB_ite (fun g => FB_ite (fun _ => h) ?_) h) h
  subst e
  show FB (udW (aW s) _ _) n
  rw [cl_nI (by omega)]
  exact FB_ud h (by omega)
theorem fb_Arc {s : AS} {np nt off n : Nat} {p t v : Int32} (h : FB (aW s) n) (ho : 28 ≤ off) : FB (aW (qArc s np nt off p t v).2.2) n := FB_ite (fun _ => FB_ite (fun _ => FB_ud h (Or.inr (by omega))) h) h
theorem fb_Fire {s : AS} {np nt n : Nat} {t : Int32} (h : FB (aW s) n) (hn : np ≤ 8) (hnt : nt ≤ 10) : FB (aW (qFire s np nt t).2.2) (n + 1) := by
  refine FB_ite (fun ⟨q, hq, e⟩ => FB_ite (fun g => ?_) (FB_mono h (by omega))) (FB_mono h (by omega))
  subst e
  show FB (fireW (aW s) np _) _
  rw [cl_nI (by omega)]
  exact FB_fire h hn (by omega)
theorem fb_Run {s : AS} {np nt n k : Nat} (h : FB (aW s) n) (hn : np ≤ 8) (hnt : nt ≤ 10) (hk : k ≤ 6) : FB (aW (qRun s np nt (nI k)).2.2) (n + 6) := by
  refine FB_ite (fun _ => ?_) (FB_mono h (by omega))
  show FB (runW np nt _ (aW s)).2 _
  rw [cl_nI (by omega)]
  exact FB_mono (FB_run hn hnt k n _ h) (by omega)
theorem fb_MM {s : AS} {np nt n : Nat} {v : Int32} (h : FB (aW s) n) (hn : np ≤ 8) : FB (aW (qMM s np nt v).2.2) n := by
  refine FB_ite (fun _ => ?_) h
  show FB (unW (aW s) _ np) n
  exact FB_eq h fun t ht => by unfold unW; rw [if_neg (by omega)]
theorem fb_Rev {s : AS} {np nt n : Nat} (h : FB (aW s) n) : FB (aW (qRev s np nt).2.2) n := FB_eq h fun t ht => sw_a (by omega)
theorem act_end {y : MS} {hh : List (Nat × Nat × Nat × Nat)} {as : List Value} {h : MH} {i n : Nat} {A : AR} (hz : i + 119 ≤ mZ h) (hc : CTW x y hh as h (pI (wrQ A h i)) xNo) (hgd : GD A.2.2) (hfb : FB (aW A.2.2) (n + 6)) : CALLW x y hh as h fun _ h' => ∃ s', GD s' ∧ FB (aW s') (n + 6) ∧ PO h' i s' ∧ i + 119 ≤ mZ h' :=
  CW_op hc fun h' hP hF => ⟨A.2.2, hgd, hfb, hP, Nat.le_trans hz hF.1⟩
theorem l_act {h : MH} {i n k : Nat} {s : AS} (hP : PO h i s) (hg : GD s) (hf : FB (aW s) n) (hN : xN x ≤ 260) (hk : k < 900) (hz : i + 119 ≤ mZ h) : CT x sL_act [.ref i, .ref (xB x), .int (nI k)] h (pV fun h' => ∃ s', GD s' ∧ FB (aW s') (n + 6) ∧ PO h' i s' ∧ i + 119 ≤ mZ h') xNo := by
  obtain ⟨np, nt, hB, hT⟩ := hg.1
  have hnp := hB.2.2.2.1
  have hnt := hB.2.2.2.2.2
  have hnp1 := hB.2.2.1
  have hnt1 := hB.2.2.2.2.1
  obtain ⟨u, hu, eu⟩ := and_pos (scI x (k + 1))
  (refine CT_of (o := 6) rfl (by decide +kernel) (by simp [Value.category, sL_act]) (MW_ev kL_act 300 ?_); show evS _ _ _ _ _ _ 300 0 (20, 200) [.ref i, .ref (xB x), .int (nI k), .null, .null, .null, .null, .null] [] _; simp only [st_iconst, st_lconst, st_ldc2_w, st_ldc, st_iload, st_lload, st_aload, st_istore, st_astore, st_lstore, st_iinc, st_iadd, st_isub, st_imul, st_idiv, st_irem, st_iand, st_ior, st_ishl, st_ishr, st_iushr, st_ladd, st_lmul, st_lshl, st_lushr, st_lcmp, st_i2l, st_l2i, st_i2b, st_i2c, st_i2d, st_i2f, st_dconst, st_fconst, st_ddiv, st_fdiv, st_dup, st_dup2, st_pop, st_goto, st_if_icmp, st_ifCond, st_tableswitch, st_lookupswitch, st_iaload, st_baload, st_laload, st_aaload, st_iastore, st_bastore, st_lastore, st_aastore, st_saload, st_faload, st_jsr, st_caload, st_d2i, st_d2f, st_ineg, st_ixor, st_dup_x1, st_aconst_null, st_ifnonnull, st_castore, st_getstatic, st_frem, st_drem, st_monitorexit, st_monitorenter, st_invokeinterface, st_newarray, st_anewarray, st_multianewarray, asI_c, asJ_c, asR_c, asD_c, asF_c, popI_c, popJ_c, popR_c, popD_c, popF_c, pop1_c, okSt_0, okSt_S, rcv_0, rcv_1, rcv_2, rcv_3, rcv_4, rcv_5, rcv_8, pI_c, pJ_c, pR_c, pV_c, pD_c, pF_c, cmp_eq, cmp_ne, cmp_lt, cmp_ge, cmp_gt, cmp_le, nth_0, nth_S, set_0, set_S, cat_int, cat_ref, cat_long, cat_double, cat_float, cat_null, catS_0, catS_S, swT_0, swT_S, swL_0, swL_S, Nat.add_zero, Nat.reduceAdd, Nat.reduceSub, Nat.reduceLT, Nat.reduceLeDiff, true_and, and_true, eq_self, eL_act_0, fL_act_0, eL_act_1, eL_act_2, cI_1, eL_act_3, eL_act_4, iv6_7, c_L_cell, eL_act_7, cI_2147483647, eL_act_9, eL_act_10, eL_act_11, eL_act_12, eL_act_13, iv6_169, c_X4_placeCount, eL_act_16, eL_act_17, eL_act_19, eL_act_20, cI_8, eL_act_22, eL_act_23, eL_act_24, iv6_172, c_X4_transitionCount, eL_act_27, eL_act_28, eL_act_30, eL_act_31, cI_128, eL_act_34, eL_act_35, eL_act_37, eL_act_38, eL_act_39, cI_0, eL_act_40, cI_18, eL_act_42, iv6_120, c_L_of, eL_act_45, tn_260, tn_0, tn_16, tn_128, tn_143, tn_160, tn_176, tn_192, tn_208, tn_218, tn_233, tn_252, eL_act_128, eL_act_129, eL_act_131, eL_act_133, cI_7, eL_act_135, eL_act_136, iw6_175, d_L_setTokens, eL_act_139, eL_act_140, tn_282, eL_act_143, eL_act_144, eL_act_146, eL_act_147, eL_act_149, cI_9, eL_act_151, eL_act_152, eL_act_153, iw6_178, d_L_setCapacity, eL_act_156, eL_act_157, eL_act_160, eL_act_161, eL_act_163, eL_act_165, eL_act_167, cI_3, eL_act_168, eL_act_169, iw6_180, d_L_setInput, eL_act_172, eL_act_173, eL_act_176, eL_act_177, eL_act_179, eL_act_181, eL_act_183, eL_act_184, eL_act_185, iw6_183, d_L_setOutput, eL_act_188, eL_act_189, eL_act_192, eL_act_193, eL_act_195, eL_act_197, eL_act_199, cI_4, eL_act_200, eL_act_201, iw6_185, d_L_setInhibitor, eL_act_204, eL_act_205, eL_act_208, eL_act_209, eL_act_211, iw6_187, d_L_fire, eL_act_214, eL_act_215, eL_act_218, eL_act_219, eL_act_220, eL_act_222, cI_6, eL_act_224, eL_act_225, eL_act_226, iw6_190, d_L_run, eL_act_229, eL_act_230, eL_act_233, eL_act_234, eL_act_236, eL_act_237, eL_act_238, iv6_192, c_X4_markingCount, eL_act_241, eL_act_244, eL_act_245, iw6_198, d_L_moveToMarking, eL_act_248, eL_act_249, eL_act_252, eL_act_253, iv6_200, c_X4_reverseNet, eL_act_256, eL_act_257, eL_act_260, eL_act_261, eL_act_263, fL_act_263, eL_act_265, eL_act_266, eL_act_269, eL_act_270, eL_act_272, eL_act_275, eL_act_276, eL_act_279, tn_263, eL_act_282, d_L_act, re_L_act])
  simp (disch := omega) only [nI_mul, nI_add, nI_clamp, nI_inE, nI_leE, nI_ltE, nI_eqE, nI_eqz, nI_ltz, nI_gez, nI_lez, nI_gtz, nI_m1, nI_m1', nI_ltm, nI_gem, nI_gtm, nI_lem, nI_00, nI_01, nI_10, nI_11, bI_z, bI_1, bI_0, bI_b, bI_nz, bit_e, arK_i, arK_b, arK_j, true_and, and_true, ne_eq, not_false_eq_true, not_true_eq_false, false_and, and_false, true_or, or_true, false_or, or_false, Classical.not_not, forall_const, true_implies, implies_true, false_implies, eq_self]
  refine CI_pure (l_cell hN (by omega)) ?_
  simp only [eu]
  refine ⟨hP.1.1, CI_ok (c_placeCount hP hB) fun h1 hP1 hF1 => ⟨by rw [nI_eqz (by omega)]; omega, by decide, hP1.1.1, CI_ok (c_transitionCount hP1 hB) fun h2 hP2 hF2 => ⟨by rw [nI_eqz (by omega)]; omega, by decide, ?_⟩⟩⟩
  have hz2 := Nat.le_trans hz (Nat.le_trans hF1.1 hF2.1)
  refine CI_of (l_of hN (by omega) (by decide) (by decide)) (fun _ _ z => z.elim) fun r h' ⟨_, e⟩ => ?_
  subst e
  have hf6 : FB (aW s) (n + 6) := FB_mono hf (by omega)
  have hST : ∀ p v, CALLW x sL_setTokens hL_setTokens [.ref i, .int p, .int v] h' fun _ h' => ∃ s', GD s' ∧ FB (aW s') (n + 6) ∧ PO h' i s' ∧ i + 119 ≤ mZ h' := fun p v => act_end hz2 (w_setTokens hP2 hB) (gd_ST hg hB hT) (fb_ST hf6 hnp)
  have hSC : ∀ p v, CALLW x sL_setCapacity hL_setCapacity [.ref i, .int p, .int v] h' fun _ h' => ∃ s', GD s' ∧ FB (aW s') (n + 6) ∧ PO h' i s' ∧ i + 119 ≤ mZ h' := fun p v => act_end hz2 (w_setCapacity hP2 hB) (gd_SC hg hB hT) (fb_SC hf6 hnp)
  have hIn : ∀ p t v, CALLW x sL_setInput hL_setInput [.ref i, .int p, .int t, .int v] h' fun _ h' => ∃ s', GD s' ∧ FB (aW s') (n + 6) ∧ PO h' i s' ∧ i + 119 ≤ mZ h' := fun p t v => act_end hz2 (w_setInput hP2 hB) (gd_Arc hg hB hT (Or.inl rfl)) (fb_Arc hf6 (by decide))
  have hOut : ∀ t p v, CALLW x sL_setOutput hL_setOutput [.ref i, .int t, .int p, .int v] h' fun _ h' => ∃ s', GD s' ∧ FB (aW s') (n + 6) ∧ PO h' i s' ∧ i + 119 ≤ mZ h' := fun t p v => act_end hz2 (w_setOutput hP2 hB) (gd_Arc hg hB hT (Or.inr (Or.inl rfl))) (fb_Arc hf6 (by decide))
  have hInh : ∀ p t v, CALLW x sL_setInhibitor hL_setInhibitor [.ref i, .int p, .int t, .int v] h' fun _ h' => ∃ s', GD s' ∧ FB (aW s') (n + 6) ∧ PO h' i s' ∧ i + 119 ≤ mZ h' := fun p t v => act_end hz2 (w_setInhibitor hP2 hB) (gd_Arc hg hB hT (Or.inr (Or.inr rfl))) (fb_Arc hf6 (by decide))
  have hFi : ∀ t, CALLW x sL_fire hL_fire [.ref i, .int t] h' fun _ h' => ∃ s', GD s' ∧ FB (aW s') (n + 6) ∧ PO h' i s' ∧ i + 119 ≤ mZ h' := fun t => act_end hz2 (w_fire hP2 hB) (gd_Fire hg hB hT) (FB_mono (fb_Fire hf hnp hnt) (by omega))
  have hRu : CALLW x sL_run hL_run [.ref i, .int (nI 1 + (nI u / nI 128 - nI u / nI 128 / nI 6 * nI 6))] h' fun _ h' => ∃ s', GD s' ∧ FB (aW s') (n + 6) ∧ PO h' i s' ∧ i + 119 ≤ mZ h' := by
    rw [pk_div hu (by decide) (by decide), pk_rem (by omega) (by decide) (by decide), nI_add]
    exact act_end hz2 (w_run hP2 hB) (gd_Run hg hB hT) (fb_Run hf hnp hnt (by omega))
  refine ⟨fun _ => ?_, fun _ => ⟨by decide, hST _ _⟩, fun _ => ⟨by decide, hST _ _⟩, fun _ => ⟨by decide, hSC _ _⟩, fun _ => ⟨by decide, hIn _ _ _⟩, fun _ => ⟨by decide, hIn _ _ _⟩, fun _ => ⟨by decide, hOut _ _ _⟩, fun _ => ⟨by decide, hOut _ _ _⟩, fun _ => ⟨by decide, hInh _ _ _⟩, fun _ => hFi _, fun _ => hFi _, fun _ => hFi _, fun _ => hFi _, fun _ => hFi _, fun _ => ⟨by decide, hRu⟩, fun _ => ⟨by decide, hRu⟩, fun _ => ?_, fun _ => ?_⟩
  · refine loop_up 3 (P := fun j => ∀ h3 s3, PO h3 i s3 → GD s3 → FB (aW s3) (n + j) → i + 119 ≤ mZ h3 → ∀ v6 v5 v4, MW x sL_act 6 _ xNo 263 (20 - 2 * j, 200 - 12 * j) [.ref i, .ref (xB x), .int (nI k), .int (nI u), .int v4, .int v5, .int v6, .int (nI j)] [] h3) (fun j hj ih h3 s3 hP3 hG3 hf3 hz3 v6 v5 v4 => ?_) 0 (Nat.zero_le _) h' s hP2 hg hf hz2 _ _ _
    (refine MW_ev kL_act 300 ?_; simp only [st_iconst, st_lconst, st_ldc2_w, st_ldc, st_iload, st_lload, st_aload, st_istore, st_astore, st_lstore, st_iinc, st_iadd, st_isub, st_imul, st_idiv, st_irem, st_iand, st_ior, st_ishl, st_ishr, st_iushr, st_ladd, st_lmul, st_lshl, st_lushr, st_lcmp, st_i2l, st_l2i, st_i2b, st_i2c, st_i2d, st_i2f, st_dconst, st_fconst, st_ddiv, st_fdiv, st_dup, st_dup2, st_pop, st_goto, st_if_icmp, st_ifCond, st_tableswitch, st_lookupswitch, st_iaload, st_baload, st_laload, st_aaload, st_iastore, st_bastore, st_lastore, st_aastore, st_saload, st_faload, st_jsr, st_caload, st_d2i, st_d2f, st_ineg, st_ixor, st_dup_x1, st_aconst_null, st_ifnonnull, st_castore, st_getstatic, st_frem, st_drem, st_monitorexit, st_monitorenter, st_invokeinterface, st_newarray, st_anewarray, st_multianewarray, asI_c, asJ_c, asR_c, asD_c, asF_c, popI_c, popJ_c, popR_c, popD_c, popF_c, pop1_c, okSt_0, okSt_S, rcv_0, rcv_1, rcv_2, rcv_3, rcv_4, rcv_5, rcv_8, pI_c, pJ_c, pR_c, pV_c, pD_c, pF_c, cmp_eq, cmp_ne, cmp_lt, cmp_ge, cmp_gt, cmp_le, nth_0, nth_S, set_0, set_S, cat_int, cat_ref, cat_long, cat_double, cat_float, cat_null, catS_0, catS_S, swT_0, swT_S, swL_0, swL_S, Nat.add_zero, Nat.reduceAdd, Nat.reduceSub, Nat.reduceLT, Nat.reduceLeDiff, true_and, and_true, eq_self, eL_act_0, fL_act_0, eL_act_1, eL_act_2, cI_1, eL_act_3, eL_act_4, iv6_7, c_L_cell, eL_act_7, cI_2147483647, eL_act_9, eL_act_10, eL_act_11, eL_act_12, eL_act_13, iv6_169, c_X4_placeCount, eL_act_16, eL_act_17, eL_act_19, eL_act_20, cI_8, eL_act_22, eL_act_23, eL_act_24, iv6_172, c_X4_transitionCount, eL_act_27, eL_act_28, eL_act_30, eL_act_31, cI_128, eL_act_34, eL_act_35, eL_act_37, eL_act_38, eL_act_39, cI_0, eL_act_40, cI_18, eL_act_42, iv6_120, c_L_of, eL_act_45, tn_260, tn_0, tn_16, tn_128, tn_143, tn_160, tn_176, tn_192, tn_208, tn_218, tn_233, tn_252, eL_act_128, eL_act_129, eL_act_131, eL_act_133, cI_7, eL_act_135, eL_act_136, iw6_175, d_L_setTokens, eL_act_139, eL_act_140, tn_282, eL_act_143, eL_act_144, eL_act_146, eL_act_147, eL_act_149, cI_9, eL_act_151, eL_act_152, eL_act_153, iw6_178, d_L_setCapacity, eL_act_156, eL_act_157, eL_act_160, eL_act_161, eL_act_163, eL_act_165, eL_act_167, cI_3, eL_act_168, eL_act_169, iw6_180, d_L_setInput, eL_act_172, eL_act_173, eL_act_176, eL_act_177, eL_act_179, eL_act_181, eL_act_183, eL_act_184, eL_act_185, iw6_183, d_L_setOutput, eL_act_188, eL_act_189, eL_act_192, eL_act_193, eL_act_195, eL_act_197, eL_act_199, cI_4, eL_act_200, eL_act_201, iw6_185, d_L_setInhibitor, eL_act_204, eL_act_205, eL_act_208, eL_act_209, eL_act_211, iw6_187, d_L_fire, eL_act_214, eL_act_215, eL_act_218, eL_act_219, eL_act_220, eL_act_222, cI_6, eL_act_224, eL_act_225, eL_act_226, iw6_190, d_L_run, eL_act_229, eL_act_230, eL_act_233, eL_act_234, eL_act_236, eL_act_237, eL_act_238, iv6_192, c_X4_markingCount, eL_act_241, eL_act_244, eL_act_245, iw6_198, d_L_moveToMarking, eL_act_248, eL_act_249, eL_act_252, eL_act_253, iv6_200, c_X4_reverseNet, eL_act_256, eL_act_257, eL_act_260, eL_act_261, eL_act_263, fL_act_263, eL_act_265, eL_act_266, eL_act_269, eL_act_270, eL_act_272, eL_act_275, eL_act_276, eL_act_279, tn_263, eL_act_282, d_L_act, re_L_act])
    obtain ⟨np3, nt3, hB3, hT3⟩ := hG3.1
    rcases Nat.lt_or_ge j 3 with hl | hl
    · simp (disch := omega) only [nI_mul, nI_add, nI_clamp, nI_inE, nI_leE, nI_ltE, nI_eqE, nI_eqz, nI_ltz, nI_gez, nI_lez, nI_gtz, nI_m1, nI_m1', nI_ltm, nI_gem, nI_gtm, nI_lem, nI_00, nI_01, nI_10, nI_11, bI_z, bI_1, bI_0, bI_b, bI_nz, bit_e, arK_i, arK_b, arK_j, true_and, and_true, ne_eq, not_false_eq_true, not_true_eq_false, false_and, and_false, true_or, or_true, false_or, or_false, Classical.not_not, forall_const, true_implies, implies_true, false_implies, eq_self, hl, Nat.not_le.mpr hl]
      refine ⟨by omega, CW_op (w_fire hP3 hB3) fun h4 hP4 hF4 => ?_⟩
      exact MW_le (by show _ ≤ _; omega) (by show _ ≤ _; omega) (ih hl h4 _ hP4 (gd_Fire hG3 hB3 hT3) (fb_Fire hf3 hB3.2.2.2.1 hB3.2.2.2.2.2) (Nat.le_trans hz3 hF4.1) _ _ _)
    · simp (disch := omega) only [nI_mul, nI_add, nI_clamp, nI_inE, nI_leE, nI_ltE, nI_eqE, nI_eqz, nI_ltz, nI_gez, nI_lez, nI_gtz, nI_m1, nI_m1', nI_ltm, nI_gem, nI_gtm, nI_lem, nI_00, nI_01, nI_10, nI_11, bI_z, bI_1, bI_0, bI_b, bI_nz, bit_e, arK_i, arK_b, arK_j, true_and, and_true, ne_eq, not_false_eq_true, not_true_eq_false, false_and, and_false, true_or, or_true, false_or, or_false, Classical.not_not, forall_const, true_implies, implies_true, false_implies, eq_self, hl]
      exact ⟨s3, hG3, FB_mono hf3 (by omega), hP3, hz3⟩
  · have hC := (exp_J hT hB).2.1
    have hC2 := (exp_J hT hB).1.1
    refine ⟨hP2.1.1, CI_ok (c_markingCount hP2 hB) fun h3 hP3 hF3 => ⟨?_, ?_⟩⟩
    · split
      · rw [nI_eqz (by omega)]; omega
      · decide
    · exact act_end (Nat.le_trans hz2 hF3.1) (w_moveToMarking hP3 hB) (gd_MM hg hB hT) (fb_MM hf6 hnp)
  · refine ⟨hP2.1.1, CI_op (c_reverseNet hP2 hB) fun h3 hP3 hF3 => ⟨_, gd_Rev hg hB hT, fb_Rev hf6, hP3, Nat.le_trans hz2 hF3.1⟩⟩
end LAW
