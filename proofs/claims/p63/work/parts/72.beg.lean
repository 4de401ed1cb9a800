section BEG
variable {x : CX}
theorem u_len {h : MH} {a z : Nat} {l : List Nat} {xk : String → MH → Prop} {K : Int32 → MH → Prop} (hS : SB h a z l) (hk : K (nI l.length) h) : CALLI x sJ4_length_8abf5 [.ref a] h xk K := by
  obtain ⟨h1, h2, v, m, h3, h4⟩ := hS
  exact CI_pure (d_len h4) hk
theorem u_chr {h : MH} {a z j : Nat} {l : List Nat} {xk : String → MH → Prop} {K : Int32 → MH → Prop} (hS : SB h a z l) (hj : j < l.length) (hk : K (nI (l.getD j 32)) h) : CALLI x sJ4_charAt_5068e [.ref a, .int (nI j)] h xk K := by
  obtain ⟨h1, h2, v, m, h3, h4⟩ := hS
  refine CI_pure (d_chA h4 hj) ?_
  show K (chF (nI (l.getD j 32))) h
  rw [(nar_c _ (h2 j)).2.2.2]
  exact hk
theorem u_toStr {h : MH} {a z : Nat} {l : List Nat} {xk : String → MH → Prop} {K : Nat → MH → Prop} (hS : SB h a z l) (hl : l.length < 16) (hk : ∀ r h', strP h h' r l.length (Tx l) → K r h') : CALLR x sJ4_toString_0e30d [.ref a] h xk K := by
  obtain ⟨h1, h2, v, m, h3, h4⟩ := hS
  exact ⟨_, _, d_toStr h4 hl, fun _ _ z => z.elim, hk⟩
/-- the script's int without its sign -/
noncomputable def uS (x : CX) (j : Nat) : Nat := (scI x (2 + j) &&& nI 2147483647).toNatClampNeg
theorem uS_e (x : CX) (j : Nat) : scI x (2 + j) &&& nI 2147483647 = nI (uS x j) ∧ uS x j < 2 ^ 31 := by
  obtain ⟨u, hu, e⟩ := and_pos (scI x (2 + j))
  unfold uS
  rw [e, nI_clamp hu]
  exact ⟨rfl, hu⟩
noncomputable def segS (x : CX) (np nt j : Nat) : List Nat := sgm (uS x j / 64 % 2 = 0) (uS x j % np) (uS x j / 8 % nt) (1 + uS x j / 128 % 2) (uS x j / 512 % 5)
theorem sgm_len {b : Prop} {p t v k : Nat} : (sgm b p t v k).length ≤ 21 := by
  unfold sgm
  rw [List.length_append]
  have h1 : (tkL p k).length = 11 := rfl
  have h2 : (iteC b (inL p t v) (ouL t p v)).length ≤ 10 := iteC_P (fun l : List Nat => l.length ≤ 10) (show 9 ≤ 10 by decide) (Nat.le_refl 10)
  omega
theorem tx_len {hd : List Nat} {g : Nat → List Nat} (hg : ∀ j, (g j).length ≤ 21) (hh : hd.length = 8) : ∀ j, (txS hd g j).length ≤ 8 + 21 * j := by
  intro j
  induction j with
  | zero => exact Nat.le_of_eq hh
  | succ j ih =>
    have := hg j
    show (txS hd g j ++ g j).length ≤ _
    rw [List.length_append]
    omega
theorem SB_fz {h h' : MH} {a z i : Nat} {l : List Nat} (hS : SB h a z l) (hF : FZ h h' i (i + 119)) (hz : i + 119 ≤ z) : SB h' a z l := by
  obtain ⟨h1, h2, v, m, h3, h4⟩ := hS
  exact ⟨h1, h2, v, m, h3, SBV_ea h4 hF.1 (hF.2 a (Or.inr (by omega))) (hF.2 v (Or.inr (by omega)))⟩
theorem tx_ge {hd : List Nat} {g : Nat → List Nat} : ∀ j, hd.length ≤ (txS hd g j).length := by
  intro j
  induction j with
  | zero => exact Nat.le_refl _
  | succ j ih =>
    show _ ≤ (txS hd g j ++ g j).length
    rw [List.length_append]
    omega
theorem l_began {h : MH} {i : Nat} {s : AS} (hP : PO h i s) (hg : GD s) (hN0 : aN s = 0) (hN : xN x ≤ 260) (hz : i + 119 ≤ mZ h) :
    CT x sL_began [.ref i, .ref (xB x)] h (pI fun r h' => (∃ m, m < 2 ^ 31 ∧ r = nI m) ∧ ∃ s', GD s' ∧ FB (aW s') 0 ∧ PO h' i s' ∧ i + 119 ≤ mZ h') xNo := by
  have hz0 : 0 < mZ h := by omega
  (refine CT_of (o := 6) rfl (by decide +kernel) (by simp [Value.category, sL_began]) (MW_ev kL_began 300 ?_); show evS _ _ _ _ _ _ 300 0 (400, 300000) [.ref i, .ref (xB x), .null, .null, .null, .null, .null, .null, .null] [] _; simp only [st_iconst, st_lconst, st_ldc2_w, st_ldc, st_iload, st_lload, st_aload, st_istore, st_astore, st_lstore, st_iinc, st_iadd, st_isub, st_imul, st_idiv, st_irem, st_iand, st_ior, st_ishl, st_ishr, st_iushr, st_ladd, st_lmul, st_lshl, st_lushr, st_lcmp, st_i2l, st_l2i, st_i2b, st_i2c, st_i2d, st_i2f, st_dconst, st_fconst, st_ddiv, st_fdiv, st_dup, st_dup2, st_pop, st_goto, st_if_icmp, st_ifCond, st_tableswitch, st_lookupswitch, st_iaload, st_baload, st_laload, st_aaload, st_iastore, st_bastore, st_lastore, st_aastore, st_saload, st_faload, st_jsr, st_caload, st_d2i, st_d2f, st_ineg, st_ixor, st_dup_x1, st_aconst_null, st_ifnonnull, st_castore, st_getstatic, st_frem, st_drem, st_monitorexit, st_monitorenter, st_invokeinterface, st_newarray, st_anewarray, st_multianewarray, asI_c, asJ_c, asR_c, asD_c, asF_c, popI_c, popJ_c, popR_c, popD_c, popF_c, pop1_c, okSt_0, okSt_S, rcv_0, rcv_1, rcv_2, rcv_3, rcv_4, rcv_5, rcv_8, pI_c, pJ_c, pR_c, pV_c, pD_c, pF_c, cmp_eq, cmp_ne, cmp_lt, cmp_ge, cmp_gt, cmp_le, nth_0, nth_S, set_0, set_S, cat_int, cat_ref, cat_long, cat_double, cat_float, cat_null, catS_0, catS_S, swT_0, swT_S, swL_0, swL_S, Nat.add_zero, Nat.reduceAdd, Nat.reduceSub, Nat.reduceLT, Nat.reduceLeDiff, true_and, and_true, eq_self, eL_began_0, fL_began_0, eL_began_1, cI_0, eL_began_2, cI_1, eL_began_3, cI_5, eL_began_4, iv6_120, c_L_of, eL_began_7, eL_began_8, eL_began_9, eL_began_10, eL_began_11, eL_began_12, eL_began_15, eL_began_16, nw6_124, eL_began_19, eL_began_20, eL_began_22, iv6_128, c_J4_init_a7421, eL_began_25, eL_began_26, iv6_131, c_J4_append_bf812, eL_began_29, cI_32, eL_began_31, iv6_135, c_J4_append_cf468, eL_began_34, eL_began_35, eL_began_38, cI_59, eL_began_40, eL_began_43, eL_began_45, eL_began_46, eL_began_48, fL_began_48, eL_began_50, cI_8, eL_began_52, tn_225, eL_began_55, eL_began_56, cI_2, eL_began_57, eL_began_59, eL_began_60, iv6_7, c_L_cell, eL_began_63, cI_2147483647, eL_began_65, eL_began_66, eL_began_68, eL_began_70, eL_began_71, eL_began_72, eL_began_74, eL_began_76, eL_began_78, eL_began_79, eL_began_80, eL_began_81, eL_began_83, eL_began_85, eL_began_87, cI_64, eL_began_89, eL_began_90, eL_began_91, eL_began_92, tn_128, eL_began_95, eL_began_98, eL_began_99, iv6_139, c_J4_init_da8c8, eL_began_102, eL_began_104, iv6_142, c_J4_append_15ec4, eL_began_107, eL_began_109, eL_began_112, eL_began_114, eL_began_117, eL_began_119, eL_began_122, iv6_147, c_J4_toString_0e30d, eL_began_125, tn_158, eL_began_128, eL_began_131, eL_began_132, eL_began_135, eL_began_137, eL_began_140, eL_began_142, eL_began_145, eL_began_147, eL_began_150, eL_began_152, eL_began_155, eL_began_158, eL_began_161, eL_began_163, eL_began_166, eL_began_167, eL_began_169, cI_128, eL_began_172, eL_began_173, eL_began_174, eL_began_175, eL_began_176, eL_began_179, eL_began_181, eL_began_184, eL_began_185, eL_began_187, eL_began_189, eL_began_192, eL_began_194, eL_began_197, eL_began_199, eL_began_202, eL_began_204, cI_512, eL_began_207, eL_began_208, eL_began_209, eL_began_210, eL_began_213, eL_began_215, eL_began_218, eL_began_219, eL_began_222, tn_48, eL_began_225, eL_began_226, eL_began_228, fL_began_228, eL_began_230, eL_began_232, iv6_155, c_J4_length_8abf5, eL_began_235, tn_343, eL_began_238, eL_began_239, na_int, eL_began_241, eL_began_243, eL_began_244, eL_began_246, fL_began_246, eL_began_248, cI_20, eL_began_250, tn_312, eL_began_253, eL_began_255, eL_began_257, eL_began_258, eL_began_260, eL_began_263, tn_279, eL_began_266, eL_began_268, eL_began_270, eL_began_272, eL_began_273, iv6_159, c_J4_charAt_5068e, eL_began_276, tn_281, eL_began_279, eL_began_281, eL_began_283, eL_began_285, eL_began_287, cI_4, eL_began_288, eL_began_289, eL_began_290, eL_began_291, eL_began_293, cI_24, eL_began_295, eL_began_297, eL_began_299, eL_began_300, eL_began_301, eL_began_302, eL_began_303, eL_began_304, eL_began_305, eL_began_306, eL_began_309, tn_246, eL_began_312, eL_began_313, eL_began_315, eL_began_316, eL_began_317, eL_began_319, eL_began_320, eL_began_321, eL_began_323, eL_began_324, eL_began_325, eL_began_327, cI_3, eL_began_328, eL_began_329, eL_began_331, eL_began_332, eL_began_333, iv6_163, c_X4_append, eL_began_336, eL_began_337, eL_began_340, tn_228, eL_began_343, eL_began_344, iv6_166, c_X4_runScript, eL_began_347, d_L_began, re_L_began])
  refine CI_of (l_of hN (by decide) (by decide) (by decide)) (fun _ _ z => z.elim) fun r1 h1 ⟨⟨j0, hj0, e1⟩, e2⟩ => ?_
  subst e2
  subst e1
  refine CI_of (l_of hN (by decide) (by decide) (by decide)) (fun _ _ z => z.elim) fun r1 h2 ⟨⟨j1, hj1, e1⟩, e2⟩ => ?_
  subst e2
  subst e1
  obtain ⟨np, hnp⟩ : ∃ np, np = 1 + j0 := ⟨_, rfl⟩
  obtain ⟨nt, hnt⟩ : ∃ nt, nt = 1 + j1 := ⟨_, rfl⟩
  rw [← hnp, ← hnt]
  have hnp5 : 1 ≤ np ∧ np ≤ 5 := by omega
  have hnt5 : 1 ≤ nt ∧ nt ≤ 5 := by omega
  obtain ⟨z, hzd⟩ : ∃ z, z = mZ h2 := ⟨_, rfl⟩
  have tri : ∀ {n : Nat}, Nat.ble (n + 1) 180 = true → n < 180 := fun h => Nat.le_of_ble_eq_true h
  refine u_initK stl_14 hz0 fun h3 hS3 hG3 => ⟨SB_k hS3, u_appI hS3 (tri rfl) (by omega) fun h4 hS4 hG4 => ⟨SB_k hS4, u_appC hS4 (tri rfl) (by decide) fun h5 hS5 hG5 => ⟨SB_k hS5, u_appI hS5 (tri rfl) (by omega) fun h6 hS6 hG6 => ⟨SB_k hS6, u_appC hS6 (tri rfl) (by decide) fun h7 hS7 hG7 => ?_⟩⟩⟩⟩
  rw [← hzd] at hS7 hG3 hG4 hG5 hG6 hG7 ⊢
  have hP7 : PO h7 i s := PO_gx hP (GX_tr hG3 (GX_tr hG4 (GX_tr hG5 (GX_tr hG6 hG7)))) (by omega)
  have hS70 : SB h7 z z (txS (hdL np nt) (segS x np nt) 0) := hS7
  clear hS3 hS4 hS5 hS6 hG3 hG4 hG5 hG6 hG7
  have hlen := tx_len (hd := hdL np nt) (g := segS x np nt) (fun _ => sgm_len) rfl
  refine MW_le (b' := (390 - 17 * 0, 290000 - 14200 * 0)) (by show _ ≤ _; omega) (by show _ ≤ _; omega) ?_
  refine loop_up 8 (P := fun j => ∀ h2, PO h2 i s → SB h2 z z (txS (hdL np nt) (segS x np nt) j) → MW x sL_began 6 _ xNo 48 (390 - 17 * j, 290000 - 14200 * j) [.ref i, .ref (xB x), .int (nI np), .int (nI nt), .ref z, .int (nI j), .null, .null, .null] [] h2) (fun j hj ih h2 hP2 hS2 => ?_) 0 (Nat.zero_le _) h7 hP7 hS70
  (refine MW_ev kL_began 300 ?_; simp only [st_iconst, st_lconst, st_ldc2_w, st_ldc, st_iload, st_lload, st_aload, st_istore, st_astore, st_lstore, st_iinc, st_iadd, st_isub, st_imul, st_idiv, st_irem, st_iand, st_ior, st_ishl, st_ishr, st_iushr, st_ladd, st_lmul, st_lshl, st_lushr, st_lcmp, st_i2l, st_l2i, st_i2b, st_i2c, st_i2d, st_i2f, st_dconst, st_fconst, st_ddiv, st_fdiv, st_dup, st_dup2, st_pop, st_goto, st_if_icmp, st_ifCond, st_tableswitch, st_lookupswitch, st_iaload, st_baload, st_laload, st_aaload, st_iastore, st_bastore, st_lastore, st_aastore, st_saload, st_faload, st_jsr, st_caload, st_d2i, st_d2f, st_ineg, st_ixor, st_dup_x1, st_aconst_null, st_ifnonnull, st_castore, st_getstatic, st_frem, st_drem, st_monitorexit, st_monitorenter, st_invokeinterface, st_newarray, st_anewarray, st_multianewarray, asI_c, asJ_c, asR_c, asD_c, asF_c, popI_c, popJ_c, popR_c, popD_c, popF_c, pop1_c, okSt_0, okSt_S, rcv_0, rcv_1, rcv_2, rcv_3, rcv_4, rcv_5, rcv_8, pI_c, pJ_c, pR_c, pV_c, pD_c, pF_c, cmp_eq, cmp_ne, cmp_lt, cmp_ge, cmp_gt, cmp_le, nth_0, nth_S, set_0, set_S, cat_int, cat_ref, cat_long, cat_double, cat_float, cat_null, catS_0, catS_S, swT_0, swT_S, swL_0, swL_S, Nat.add_zero, Nat.reduceAdd, Nat.reduceSub, Nat.reduceLT, Nat.reduceLeDiff, true_and, and_true, eq_self, eL_began_0, fL_began_0, eL_began_1, cI_0, eL_began_2, cI_1, eL_began_3, cI_5, eL_began_4, iv6_120, c_L_of, eL_began_7, eL_began_8, eL_began_9, eL_began_10, eL_began_11, eL_began_12, eL_began_15, eL_began_16, nw6_124, eL_began_19, eL_began_20, eL_began_22, iv6_128, c_J4_init_a7421, eL_began_25, eL_began_26, iv6_131, c_J4_append_bf812, eL_began_29, cI_32, eL_began_31, iv6_135, c_J4_append_cf468, eL_began_34, eL_began_35, eL_began_38, cI_59, eL_began_40, eL_began_43, eL_began_45, eL_began_46, eL_began_48, fL_began_48, eL_began_50, cI_8, eL_began_52, tn_225, eL_began_55, eL_began_56, cI_2, eL_began_57, eL_began_59, eL_began_60, iv6_7, c_L_cell, eL_began_63, cI_2147483647, eL_began_65, eL_began_66, eL_began_68, eL_began_70, eL_began_71, eL_began_72, eL_began_74, eL_began_76, eL_began_78, eL_began_79, eL_began_80, eL_began_81, eL_began_83, eL_began_85, eL_began_87, cI_64, eL_began_89, eL_began_90, eL_began_91, eL_began_92, tn_128, eL_began_95, eL_began_98, eL_began_99, iv6_139, c_J4_init_da8c8, eL_began_102, eL_began_104, iv6_142, c_J4_append_15ec4, eL_began_107, eL_began_109, eL_began_112, eL_began_114, eL_began_117, eL_began_119, eL_began_122, iv6_147, c_J4_toString_0e30d, eL_began_125, tn_158, eL_began_128, eL_began_131, eL_began_132, eL_began_135, eL_began_137, eL_began_140, eL_began_142, eL_began_145, eL_began_147, eL_began_150, eL_began_152, eL_began_155, eL_began_158, eL_began_161, eL_began_163, eL_began_166, eL_began_167, eL_began_169, cI_128, eL_began_172, eL_began_173, eL_began_174, eL_began_175, eL_began_176, eL_began_179, eL_began_181, eL_began_184, eL_began_185, eL_began_187, eL_began_189, eL_began_192, eL_began_194, eL_began_197, eL_began_199, eL_began_202, eL_began_204, cI_512, eL_began_207, eL_began_208, eL_began_209, eL_began_210, eL_began_213, eL_began_215, eL_began_218, eL_began_219, eL_began_222, tn_48, eL_began_225, eL_began_226, eL_began_228, fL_began_228, eL_began_230, eL_began_232, iv6_155, c_J4_length_8abf5, eL_began_235, tn_343, eL_began_238, eL_began_239, na_int, eL_began_241, eL_began_243, eL_began_244, eL_began_246, fL_began_246, eL_began_248, cI_20, eL_began_250, tn_312, eL_began_253, eL_began_255, eL_began_257, eL_began_258, eL_began_260, eL_began_263, tn_279, eL_began_266, eL_began_268, eL_began_270, eL_began_272, eL_began_273, iv6_159, c_J4_charAt_5068e, eL_began_276, tn_281, eL_began_279, eL_began_281, eL_began_283, eL_began_285, eL_began_287, cI_4, eL_began_288, eL_began_289, eL_began_290, eL_began_291, eL_began_293, cI_24, eL_began_295, eL_began_297, eL_began_299, eL_began_300, eL_began_301, eL_began_302, eL_began_303, eL_began_304, eL_began_305, eL_began_306, eL_began_309, tn_246, eL_began_312, eL_began_313, eL_began_315, eL_began_316, eL_began_317, eL_began_319, eL_began_320, eL_began_321, eL_began_323, eL_began_324, eL_began_325, eL_began_327, cI_3, eL_began_328, eL_began_329, eL_began_331, eL_began_332, eL_began_333, iv6_163, c_X4_append, eL_began_336, eL_began_337, eL_began_340, tn_228, eL_began_343, eL_began_344, iv6_166, c_X4_runScript, eL_began_347, d_L_began, re_L_began])
  rcases Nat.lt_or_ge j 8 with hl | hl
  · obtain ⟨eu, hu⟩ := uS_e x j
    simp (disch := omega) only [nI_mul, nI_add, nI_clamp, nI_inE, nI_leE, nI_ltE, nI_eqE, nI_eqz, nI_ltz, nI_gez, nI_lez, nI_gtz, nI_m1, nI_m1', nI_ltm, nI_gem, nI_gtm, nI_lem, nI_00, nI_01, nI_10, nI_11, bI_z, bI_1, bI_0, bI_b, bI_nz, bit_e, arK_i, arK_b, arK_j, true_and, and_true, ne_eq, not_false_eq_true, not_true_eq_false, false_and, and_false, true_or, or_true, false_or, or_false, Classical.not_not, forall_const, true_implies, implies_true, false_implies, eq_self, hl, Nat.not_le.mpr hl]
    refine CI_pure (l_cell hN (by omega)) ?_
    rw [eu]
    have hlj := hlen j
    have hsj : txS (hdL np nt) (segS x np nt) (j + 1) = txS (hdL np nt) (segS x np nt) j ++ segS x np nt j := rfl
    have hz2 := SB_z hS2
    have p1 : uS x j % np < np := Nat.mod_lt _ (by omega)
    have p2 : uS x j / 8 % nt < nt := Nat.mod_lt _ (by omega)
    have p3 : uS x j / 128 % 2 < 2 := Nat.mod_lt _ (by decide)
    have p4 : uS x j / 512 % 5 < 5 := Nat.mod_lt _ (by decide)
    have e1 : nI (uS x j) / nI 128 = nI (uS x j / 128) := pk_div hu (by decide) (by decide)
    have e2 : nI (uS x j / 128) - nI (uS x j / 128) / nI 2 * nI 2 = nI (uS x j / 128 % 2) := pk_rem (by omega) (by decide) (by decide)
    have e3 : nI (uS x j) / nI 512 = nI (uS x j / 512) := pk_div hu (by decide) (by decide)
    have e4 : nI (uS x j / 512) - nI (uS x j / 512) / nI 5 * nI 5 = nI (uS x j / 512 % 5) := pk_rem (by omega) (by decide) (by decide)
    have e5 : nI (uS x j) - nI (uS x j) / nI np * nI np = nI (uS x j % np) := pk_rem hu (by omega) (by omega)
    have e6 : nI (uS x j) / nI 8 = nI (uS x j / 8) := pk_div hu (by decide) (by decide)
    have e7 : nI (uS x j / 8) - nI (uS x j / 8) / nI nt * nI nt = nI (uS x j / 8 % nt) := pk_rem (by omega) (by omega) (by omega)
    have e8 : nI (uS x j) / nI 64 = nI (uS x j / 64) := pk_div hu (by decide) (by decide)
    have e9 : nI (uS x j / 64) - nI (uS x j / 64) / nI 2 * nI 2 = nI (uS x j / 64 % 2) := pk_rem (by omega) (by decide) (by decide)
    simp only [e1, e2, e3, e4, e5, e6, e7, e8, e9]
    simp (disch := omega) only [nI_mul, nI_add, nI_clamp, nI_inE, nI_leE, nI_ltE, nI_eqE, nI_eqz, nI_ltz, nI_gez, nI_lez, nI_gtz, nI_m1, nI_m1', nI_ltm, nI_gem, nI_gtm, nI_lem, nI_00, nI_01, nI_10, nI_11, bI_z, bI_1, bI_0, bI_b, bI_nz, bit_e, arK_i, arK_b, arK_j, true_and, and_true, ne_eq, not_false_eq_true, not_true_eq_false, false_and, and_false, true_or, or_true, false_or, or_false, Classical.not_not, forall_const, true_implies, implies_true, false_implies, eq_self]
    refine ⟨by omega, by decide, by omega, by decide, by decide, fun g => ?_, fun g => ?_⟩
    · have hseg : segS x np nt j = ouL (uS x j / 8 % nt) (uS x j % np) (1 + uS x j / 128 % 2) ++ tkL (uS x j % np) (uS x j / 512 % 5) := by
        unfold segS sgm
        rw [iteC_f g]
      refine ⟨by omega, by omega, by omega, u_init0 (by omega) fun hA hSA hGA => ⟨SB_k hSA, by omega, u_appK stl_17 hSA (Nat.le_of_ble_eq_true rfl) fun hB hSB hGB => ⟨SB_k hSB, by omega, u_appI hSB (tri rfl) (by omega) fun hC hSC hGC => ⟨SB_k hSC, by omega, u_appK stl_16 hSC (Nat.le_of_ble_eq_true rfl) fun hD hSD hGD => ⟨SB_k hSD, by omega, u_appI hSD (tri rfl) (by omega) fun hE hSE hGE => ⟨SB_k hSE, by omega, u_toStr hSE (Nat.le_of_ble_eq_true rfl) fun r hF hstr => ?_⟩⟩⟩⟩⟩⟩
      have hG : GX h2 hE (mZ h2) := GX_tr hGA (GX_tr hGB (GX_tr hGC (GX_tr hGD hGE)))
      have hSm : SB hE z z (txS (hdL np nt) (segS x np nt) j) := SB_gx hS2 hG
      have hzE := SB_z hSm
      have hPE : PO hE i s := PO_gx hP2 hG (by omega)
      have hPF : PO hF i s := PO_ea hPE fun b g1 g2 => hstr.2.2.1 b (by omega)
      refine ⟨(hstr.2.2.1 z hzE).1.trans (SB_k hSm), by omega, u_appS hSm hstr hSE.2.1 (by simp only [List.length_append, List.length_cons, List.length_nil]; omega) fun hH hSH hGH => ⟨SB_k hSH, by omega, u_appC hSH (by simp only [List.length_append, List.length_cons, List.length_nil]; omega) (by decide) fun hI hSI hGI => ⟨by decide, by decide, SB_k hSI, by omega, u_appI hSI (by simp only [List.length_append, List.length_cons, List.length_nil]; omega) (by omega) fun hJ hSJ hGJ => ⟨SB_k hSJ, by omega, u_appC hSJ (by simp only [List.length_append, List.length_cons, List.length_nil]; omega) (by decide) fun hK hSK hGK => ⟨SB_k hSK, by omega, u_appK stl_18 hSK (by simp only [List.length_append, List.length_cons, List.length_nil]; omega) fun hL hSL hGL => ⟨SB_k hSL, by omega, u_appI hSL (by simp only [List.length_append, List.length_cons, List.length_nil]; omega) (by omega) fun hM hSM hGM => ⟨SB_k hSM, by omega, u_appC hSM (by simp only [List.length_append, List.length_cons, List.length_nil]; omega) (by decide) fun hO hSO hGO => ?_⟩⟩⟩⟩⟩⟩⟩
      refine ⟨by decide, by decide, SB_k hSO, by omega, u_appI hSO (by simp only [List.length_append, List.length_cons, List.length_nil]; omega) (by omega) fun hQ hSQ hGQ => ⟨SB_k hSQ, by omega, u_appC hSQ (by simp only [List.length_append, List.length_cons, List.length_nil]; omega) (by decide) fun hR hSR hGR => ?_⟩⟩
      have hPR : PO hR i s := PO_gx hPF (GX_tr hGH (GX_tr hGI (GX_tr hGJ (GX_tr hGK (GX_tr hGL (GX_tr hGM (GX_tr hGO (GX_tr hGQ hGR)))))))) (by omega)
      have hfin : SB hR z z (txS (hdL np nt) (segS x np nt) (j + 1)) := by
        rw [hsj, hseg]
        simp only [List.append_assoc] at hSR
        exact hSR
      exact MW_nul 6 (MW_nul 7 (MW_nul 8 (MW_le (by show _ ≤ _; omega) (by show _ ≤ _; omega) (ih hl hR hPR hfin))))
    · have hseg : segS x np nt j = inL (uS x j % np) (uS x j / 8 % nt) (1 + uS x j / 128 % 2) ++ tkL (uS x j % np) (uS x j / 512 % 5) := by
        unfold segS sgm
        rw [iteC_t g]
      refine ⟨by omega, by omega, by omega, u_init0 (by omega) fun hA hSA hGA => ⟨SB_k hSA, by omega, u_appK stl_15 hSA (Nat.le_of_ble_eq_true rfl) fun hB hSB hGB => ⟨SB_k hSB, by omega, u_appI hSB (tri rfl) (by omega) fun hC hSC hGC => ⟨SB_k hSC, by omega, u_appK stl_16 hSC (Nat.le_of_ble_eq_true rfl) fun hD hSD hGD => ⟨SB_k hSD, by omega, u_appI hSD (tri rfl) (by omega) fun hE hSE hGE => ⟨SB_k hSE, by omega, u_toStr hSE (Nat.le_of_ble_eq_true rfl) fun r hF hstr => ?_⟩⟩⟩⟩⟩⟩
      have hG : GX h2 hE (mZ h2) := GX_tr hGA (GX_tr hGB (GX_tr hGC (GX_tr hGD hGE)))
      have hSm : SB hE z z (txS (hdL np nt) (segS x np nt) j) := SB_gx hS2 hG
      have hzE := SB_z hSm
      have hPE : PO hE i s := PO_gx hP2 hG (by omega)
      have hPF : PO hF i s := PO_ea hPE fun b g1 g2 => hstr.2.2.1 b (by omega)
      refine ⟨(hstr.2.2.1 z hzE).1.trans (SB_k hSm), by omega, u_appS hSm hstr hSE.2.1 (by simp only [List.length_append, List.length_cons, List.length_nil]; omega) fun hH hSH hGH => ⟨SB_k hSH, by omega, u_appC hSH (by simp only [List.length_append, List.length_cons, List.length_nil]; omega) (by decide) fun hI hSI hGI => ⟨by decide, by decide, SB_k hSI, by omega, u_appI hSI (by simp only [List.length_append, List.length_cons, List.length_nil]; omega) (by omega) fun hJ hSJ hGJ => ⟨SB_k hSJ, by omega, u_appC hSJ (by simp only [List.length_append, List.length_cons, List.length_nil]; omega) (by decide) fun hK hSK hGK => ⟨SB_k hSK, by omega, u_appK stl_18 hSK (by simp only [List.length_append, List.length_cons, List.length_nil]; omega) fun hL hSL hGL => ⟨SB_k hSL, by omega, u_appI hSL (by simp only [List.length_append, List.length_cons, List.length_nil]; omega) (by omega) fun hM hSM hGM => ⟨SB_k hSM, by omega, u_appC hSM (by simp only [List.length_append, List.length_cons, List.length_nil]; omega) (by decide) fun hO hSO hGO => ?_⟩⟩⟩⟩⟩⟩⟩
      refine ⟨by decide, by decide, SB_k hSO, by omega, u_appI hSO (by simp only [List.length_append, List.length_cons, List.length_nil]; omega) (by omega) fun hQ hSQ hGQ => ⟨SB_k hSQ, by omega, u_appC hSQ (by simp only [List.length_append, List.length_cons, List.length_nil]; omega) (by decide) fun hR hSR hGR => ?_⟩⟩
      have hPR : PO hR i s := PO_gx hPF (GX_tr hGH (GX_tr hGI (GX_tr hGJ (GX_tr hGK (GX_tr hGL (GX_tr hGM (GX_tr hGO (GX_tr hGQ hGR)))))))) (by omega)
      have hfin : SB hR z z (txS (hdL np nt) (segS x np nt) (j + 1)) := by
        rw [hsj, hseg]
        simp only [List.append_assoc] at hSR
        exact hSR
      exact MW_nul 6 (MW_nul 7 (MW_nul 8 (MW_le (by show _ ≤ _; omega) (by show _ ≤ _; omega) (ih hl hR hPR hfin))))
  · have hj8 : j = 8 := by omega
    simp (disch := omega) only [nI_mul, nI_add, nI_clamp, nI_inE, nI_leE, nI_ltE, nI_eqE, nI_eqz, nI_ltz, nI_gez, nI_lez, nI_gtz, nI_m1, nI_m1', nI_ltm, nI_gem, nI_gtm, nI_lem, nI_00, nI_01, nI_10, nI_11, bI_z, bI_1, bI_0, bI_b, bI_nz, bit_e, arK_i, arK_b, arK_j, true_and, and_true, ne_eq, not_false_eq_true, not_true_eq_false, false_and, and_false, true_or, or_true, false_or, or_false, Classical.not_not, forall_const, true_implies, implies_true, false_implies, eq_self, hl]
    rw [hj8] at hS2
    have hL1 := hlen 8
    have hL0 : 8 ≤ (txS (hdL np nt) (segS x np nt) 8).length := tx_ge (hd := hdL np nt) (g := segS x np nt) 8
    obtain ⟨L, hLd⟩ : ∃ L, L = txS (hdL np nt) (segS x np nt) 8 := ⟨_, rfl⟩
    rw [← hLd] at hS2 hL1 hL0
    refine MW_le (b' := (200 - 0, 100000 - 5 * 0)) (by show _ ≤ _; omega) (by show _ ≤ _; omega) ?_
    refine loop_up 9 (P := fun b => ∀ h3 s3, PO h3 i s3 → SB h3 z z L → GD s3 → aN s3 = 20 * b → (∀ k, k < 20 * b → aU s3 k = nI (L.getD k 32)) → 20 * b < L.length + 20 → MW x sL_began 6 _ xNo 228 (200 - b, 100000 - 5 * b) [.ref i, .ref (xB x), .int (nI np), .int (nI nt), .ref z, .int (nI (20 * b)), .null, .null, .null] [] h3) (fun b hb ih2 h3 s3 hP3 hS3 hG3 hN3 hU3 hlt => ?_) 0 (Nat.zero_le _) h2 s hP2 hS2 hg hN0 (fun k hk => absurd hk (Nat.not_lt_zero k)) (by omega)
    (refine MW_ev kL_began 300 ?_; simp only [st_iconst, st_lconst, st_ldc2_w, st_ldc, st_iload, st_lload, st_aload, st_istore, st_astore, st_lstore, st_iinc, st_iadd, st_isub, st_imul, st_idiv, st_irem, st_iand, st_ior, st_ishl, st_ishr, st_iushr, st_ladd, st_lmul, st_lshl, st_lushr, st_lcmp, st_i2l, st_l2i, st_i2b, st_i2c, st_i2d, st_i2f, st_dconst, st_fconst, st_ddiv, st_fdiv, st_dup, st_dup2, st_pop, st_goto, st_if_icmp, st_ifCond, st_tableswitch, st_lookupswitch, st_iaload, st_baload, st_laload, st_aaload, st_iastore, st_bastore, st_lastore, st_aastore, st_saload, st_faload, st_jsr, st_caload, st_d2i, st_d2f, st_ineg, st_ixor, st_dup_x1, st_aconst_null, st_ifnonnull, st_castore, st_getstatic, st_frem, st_drem, st_monitorexit, st_monitorenter, st_invokeinterface, st_newarray, st_anewarray, st_multianewarray, asI_c, asJ_c, asR_c, asD_c, asF_c, popI_c, popJ_c, popR_c, popD_c, popF_c, pop1_c, okSt_0, okSt_S, rcv_0, rcv_1, rcv_2, rcv_3, rcv_4, rcv_5, rcv_8, pI_c, pJ_c, pR_c, pV_c, pD_c, pF_c, cmp_eq, cmp_ne, cmp_lt, cmp_ge, cmp_gt, cmp_le, nth_0, nth_S, set_0, set_S, cat_int, cat_ref, cat_long, cat_double, cat_float, cat_null, catS_0, catS_S, swT_0, swT_S, swL_0, swL_S, Nat.add_zero, Nat.reduceAdd, Nat.reduceSub, Nat.reduceLT, Nat.reduceLeDiff, true_and, and_true, eq_self, eL_began_0, fL_began_0, eL_began_1, cI_0, eL_began_2, cI_1, eL_began_3, cI_5, eL_began_4, iv6_120, c_L_of, eL_began_7, eL_began_8, eL_began_9, eL_began_10, eL_began_11, eL_began_12, eL_began_15, eL_began_16, nw6_124, eL_began_19, eL_began_20, eL_began_22, iv6_128, c_J4_init_a7421, eL_began_25, eL_began_26, iv6_131, c_J4_append_bf812, eL_began_29, cI_32, eL_began_31, iv6_135, c_J4_append_cf468, eL_began_34, eL_began_35, eL_began_38, cI_59, eL_began_40, eL_began_43, eL_began_45, eL_began_46, eL_began_48, fL_began_48, eL_began_50, cI_8, eL_began_52, tn_225, eL_began_55, eL_began_56, cI_2, eL_began_57, eL_began_59, eL_began_60, iv6_7, c_L_cell, eL_began_63, cI_2147483647, eL_began_65, eL_began_66, eL_began_68, eL_began_70, eL_began_71, eL_began_72, eL_began_74, eL_began_76, eL_began_78, eL_began_79, eL_began_80, eL_began_81, eL_began_83, eL_began_85, eL_began_87, cI_64, eL_began_89, eL_began_90, eL_began_91, eL_began_92, tn_128, eL_began_95, eL_began_98, eL_began_99, iv6_139, c_J4_init_da8c8, eL_began_102, eL_began_104, iv6_142, c_J4_append_15ec4, eL_began_107, eL_began_109, eL_began_112, eL_began_114, eL_began_117, eL_began_119, eL_began_122, iv6_147, c_J4_toString_0e30d, eL_began_125, tn_158, eL_began_128, eL_began_131, eL_began_132, eL_began_135, eL_began_137, eL_began_140, eL_began_142, eL_began_145, eL_began_147, eL_began_150, eL_began_152, eL_began_155, eL_began_158, eL_began_161, eL_began_163, eL_began_166, eL_began_167, eL_began_169, cI_128, eL_began_172, eL_began_173, eL_began_174, eL_began_175, eL_began_176, eL_began_179, eL_began_181, eL_began_184, eL_began_185, eL_began_187, eL_began_189, eL_began_192, eL_began_194, eL_began_197, eL_began_199, eL_began_202, eL_began_204, cI_512, eL_began_207, eL_began_208, eL_began_209, eL_began_210, eL_began_213, eL_began_215, eL_began_218, eL_began_219, eL_began_222, tn_48, eL_began_225, eL_began_226, eL_began_228, fL_began_228, eL_began_230, eL_began_232, iv6_155, c_J4_length_8abf5, eL_began_235, tn_343, eL_began_238, eL_began_239, na_int, eL_began_241, eL_began_243, eL_began_244, eL_began_246, fL_began_246, eL_began_248, cI_20, eL_began_250, tn_312, eL_began_253, eL_began_255, eL_began_257, eL_began_258, eL_began_260, eL_began_263, tn_279, eL_began_266, eL_began_268, eL_began_270, eL_began_272, eL_began_273, iv6_159, c_J4_charAt_5068e, eL_began_276, tn_281, eL_began_279, eL_began_281, eL_began_283, eL_began_285, eL_began_287, cI_4, eL_began_288, eL_began_289, eL_began_290, eL_began_291, eL_began_293, cI_24, eL_began_295, eL_began_297, eL_began_299, eL_began_300, eL_began_301, eL_began_302, eL_began_303, eL_began_304, eL_began_305, eL_began_306, eL_began_309, tn_246, eL_began_312, eL_began_313, eL_began_315, eL_began_316, eL_began_317, eL_began_319, eL_began_320, eL_began_321, eL_began_323, eL_began_324, eL_began_325, eL_began_327, cI_3, eL_began_328, eL_began_329, eL_began_331, eL_began_332, eL_began_333, iv6_163, c_X4_append, eL_began_336, eL_began_337, eL_began_340, tn_228, eL_began_343, eL_began_344, iv6_166, c_X4_runScript, eL_began_347, d_L_began, re_L_began])
    refine ⟨SB_k hS3, u_len hS3 ?_⟩
    have hz3 := SB_z hS3
    rcases Nat.lt_or_ge (20 * b) L.length with hlb | hlb
    · simp (disch := omega) only [nI_mul, nI_add, nI_clamp, nI_inE, nI_leE, nI_ltE, nI_eqE, nI_eqz, nI_ltz, nI_gez, nI_lez, nI_gtz, nI_m1, nI_m1', nI_ltm, nI_gem, nI_gtm, nI_lem, nI_00, nI_01, nI_10, nI_11, bI_z, bI_1, bI_0, bI_b, bI_nz, bit_e, arK_i, arK_b, arK_j, true_and, and_true, ne_eq, not_false_eq_true, not_true_eq_false, false_and, and_false, true_or, or_true, false_or, or_false, Classical.not_not, forall_const, true_implies, implies_true, false_implies, eq_self, hlb, Nat.not_le.mpr hlb]
      refine ⟨by decide, by decide, by omega, by omega, ?_⟩
      obtain ⟨r, hr⟩ : ∃ r, r = mZ h3 := ⟨_, rfl⟩
      rw [← hr]
      obtain ⟨c, hc⟩ : ∃ c : Nat → Nat, c = fun m => L.getD (20 * b + m) 32 := ⟨_, rfl⟩
      have hc8 : ∀ m, c m < 128 := fun m => by rw [hc]; exact hS3.2.1 _
      refine loop_up 20 (P := fun m => ∀ h4, GX h3 h4 r → mK h4 r = 11 → mL h4 r = 5 → (∀ q, q < 5 → mI h4 r q = nI (wvN c m q)) → MW x sL_began 6 _ xNo 246 (200 - b - 1, 100000 - 5 * b - 5) [.ref i, .ref (xB x), .int (nI np), .int (nI nt), .ref z, .int (nI (20 * b)), .ref r, .int (nI m), .null] [] h4) (fun m hm ih3 h4 hG4 k4 l4 v4 => ?_) 0 (Nat.zero_le _) (sN h3 11 5) ⟨Nat.le_succ _, fun b hb => EQ_sN (by omega)⟩ (sN_Ke hr) (sN_Le hr) (fun q _ => by rw [sN_Ie hr, wv_0]; rfl)
      have hS4 : SB h4 z z L := SB_gx hS3 (by rw [← hr]; exact hG4)
      have hP4 : PO h4 i s3 := PO_gx hP3 hG4 (by omega)
      (refine MW_ev kL_began 300 ?_; simp only [st_iconst, st_lconst, st_ldc2_w, st_ldc, st_iload, st_lload, st_aload, st_istore, st_astore, st_lstore, st_iinc, st_iadd, st_isub, st_imul, st_idiv, st_irem, st_iand, st_ior, st_ishl, st_ishr, st_iushr, st_ladd, st_lmul, st_lshl, st_lushr, st_lcmp, st_i2l, st_l2i, st_i2b, st_i2c, st_i2d, st_i2f, st_dconst, st_fconst, st_ddiv, st_fdiv, st_dup, st_dup2, st_pop, st_goto, st_if_icmp, st_ifCond, st_tableswitch, st_lookupswitch, st_iaload, st_baload, st_laload, st_aaload, st_iastore, st_bastore, st_lastore, st_aastore, st_saload, st_faload, st_jsr, st_caload, st_d2i, st_d2f, st_ineg, st_ixor, st_dup_x1, st_aconst_null, st_ifnonnull, st_castore, st_getstatic, st_frem, st_drem, st_monitorexit, st_monitorenter, st_invokeinterface, st_newarray, st_anewarray, st_multianewarray, asI_c, asJ_c, asR_c, asD_c, asF_c, popI_c, popJ_c, popR_c, popD_c, popF_c, pop1_c, okSt_0, okSt_S, rcv_0, rcv_1, rcv_2, rcv_3, rcv_4, rcv_5, rcv_8, pI_c, pJ_c, pR_c, pV_c, pD_c, pF_c, cmp_eq, cmp_ne, cmp_lt, cmp_ge, cmp_gt, cmp_le, nth_0, nth_S, set_0, set_S, cat_int, cat_ref, cat_long, cat_double, cat_float, cat_null, catS_0, catS_S, swT_0, swT_S, swL_0, swL_S, Nat.add_zero, Nat.reduceAdd, Nat.reduceSub, Nat.reduceLT, Nat.reduceLeDiff, true_and, and_true, eq_self, eL_began_0, fL_began_0, eL_began_1, cI_0, eL_began_2, cI_1, eL_began_3, cI_5, eL_began_4, iv6_120, c_L_of, eL_began_7, eL_began_8, eL_began_9, eL_began_10, eL_began_11, eL_began_12, eL_began_15, eL_began_16, nw6_124, eL_began_19, eL_began_20, eL_began_22, iv6_128, c_J4_init_a7421, eL_began_25, eL_began_26, iv6_131, c_J4_append_bf812, eL_began_29, cI_32, eL_began_31, iv6_135, c_J4_append_cf468, eL_began_34, eL_began_35, eL_began_38, cI_59, eL_began_40, eL_began_43, eL_began_45, eL_began_46, eL_began_48, fL_began_48, eL_began_50, cI_8, eL_began_52, tn_225, eL_began_55, eL_began_56, cI_2, eL_began_57, eL_began_59, eL_began_60, iv6_7, c_L_cell, eL_began_63, cI_2147483647, eL_began_65, eL_began_66, eL_began_68, eL_began_70, eL_began_71, eL_began_72, eL_began_74, eL_began_76, eL_began_78, eL_began_79, eL_began_80, eL_began_81, eL_began_83, eL_began_85, eL_began_87, cI_64, eL_began_89, eL_began_90, eL_began_91, eL_began_92, tn_128, eL_began_95, eL_began_98, eL_began_99, iv6_139, c_J4_init_da8c8, eL_began_102, eL_began_104, iv6_142, c_J4_append_15ec4, eL_began_107, eL_began_109, eL_began_112, eL_began_114, eL_began_117, eL_began_119, eL_began_122, iv6_147, c_J4_toString_0e30d, eL_began_125, tn_158, eL_began_128, eL_began_131, eL_began_132, eL_began_135, eL_began_137, eL_began_140, eL_began_142, eL_began_145, eL_began_147, eL_began_150, eL_began_152, eL_began_155, eL_began_158, eL_began_161, eL_began_163, eL_began_166, eL_began_167, eL_began_169, cI_128, eL_began_172, eL_began_173, eL_began_174, eL_began_175, eL_began_176, eL_began_179, eL_began_181, eL_began_184, eL_began_185, eL_began_187, eL_began_189, eL_began_192, eL_began_194, eL_began_197, eL_began_199, eL_began_202, eL_began_204, cI_512, eL_began_207, eL_began_208, eL_began_209, eL_began_210, eL_began_213, eL_began_215, eL_began_218, eL_began_219, eL_began_222, tn_48, eL_began_225, eL_began_226, eL_began_228, fL_began_228, eL_began_230, eL_began_232, iv6_155, c_J4_length_8abf5, eL_began_235, tn_343, eL_began_238, eL_began_239, na_int, eL_began_241, eL_began_243, eL_began_244, eL_began_246, fL_began_246, eL_began_248, cI_20, eL_began_250, tn_312, eL_began_253, eL_began_255, eL_began_257, eL_began_258, eL_began_260, eL_began_263, tn_279, eL_began_266, eL_began_268, eL_began_270, eL_began_272, eL_began_273, iv6_159, c_J4_charAt_5068e, eL_began_276, tn_281, eL_began_279, eL_began_281, eL_began_283, eL_began_285, eL_began_287, cI_4, eL_began_288, eL_began_289, eL_began_290, eL_began_291, eL_began_293, cI_24, eL_began_295, eL_began_297, eL_began_299, eL_began_300, eL_began_301, eL_began_302, eL_began_303, eL_began_304, eL_began_305, eL_began_306, eL_began_309, tn_246, eL_began_312, eL_began_313, eL_began_315, eL_began_316, eL_began_317, eL_began_319, eL_began_320, eL_began_321, eL_began_323, eL_began_324, eL_began_325, eL_began_327, cI_3, eL_began_328, eL_began_329, eL_began_331, eL_began_332, eL_began_333, iv6_163, c_X4_append, eL_began_336, eL_began_337, eL_began_340, tn_228, eL_began_343, eL_began_344, iv6_166, c_X4_runScript, eL_began_347, d_L_began, re_L_began])
      rcases Nat.lt_or_ge m 20 with hlm | hlm
      · simp (disch := omega) only [nI_mul, nI_add, nI_clamp, nI_inE, nI_leE, nI_ltE, nI_eqE, nI_eqz, nI_ltz, nI_gez, nI_lez, nI_gtz, nI_m1, nI_m1', nI_ltm, nI_gem, nI_gtm, nI_lem, nI_00, nI_01, nI_10, nI_11, bI_z, bI_1, bI_0, bI_b, bI_nz, bit_e, arK_i, arK_b, arK_j, true_and, and_true, ne_eq, not_false_eq_true, not_true_eq_false, false_and, and_false, true_or, or_true, false_or, or_false, Classical.not_not, forall_const, true_implies, implies_true, false_implies, eq_self, hlm, Nat.not_le.mpr hlm]
        have e1 : nI m / nI 4 = nI (m / 4) := pk_div (by omega) (by decide) (by decide)
        have e2 : nI m - nI (m / 4) * nI 4 = nI (m % 4) := by rw [← e1]; exact pk_rem (by omega) (by decide) (by decide)
        have e3 : nI 24 - nI 8 * nI (m % 4) = nI (24 - 8 * (m % 4)) := by rw [nI_mul, nI_sub (by omega)]
        simp only [e1, e2, e3]
        have fin : ∀ ch, ch = nI (c m) → MW x sL_began 6 (pI fun r h' => (∃ m, m < 2 ^ 31 ∧ r = nI m) ∧ ∃ s', GD s' ∧ FB (aW s') 0 ∧ PO h' i s' ∧ i + 119 ≤ mZ h') xNo 246 (200 - b - 1, 100000 - 5 * b - 5) [.ref i, .ref (xB x), .int (nI np), .int (nI nt), .ref z, .int (nI (20 * b)), .ref r, .int (nI (m + 1)), .int ch] [] (sI h4 r (nI (m / 4)).toNatClampNeg (mI h4 r (nI (m / 4)).toNatClampNeg ||| ch <<< (nI (24 - 8 * (m % 4)) &&& 31))) := by
          intro ch e
          subst e
          rw [nI_clamp (by omega), v4 (m / 4) (by omega), wv_s (hc8 m)]
          refine MW_nul 8 (ih3 hlm _ (GX_tr hG4 ⟨Nat.le_refl _, fun b hb => EQ_sI (by omega)⟩) k4 l4 fun q hq => ?_)
          by_cases g : q = m / 4
          · rw [g]; exact sI_Ie
          · rw [sI_Ik g, v4 q hq, wv_o g]
        refine ⟨SB_k hS4, u_len hS4 ⟨fun g => ?_, fun g => ⟨SB_k hS4, u_chr hS4 ?_ ?_⟩⟩⟩
        · rw [nI_leI (by omega) (by omega)] at g
          refine ⟨by decide, 5, mI h4 r, Or.inl ⟨k4, l4.symm, rfl⟩, vp_in_nI (by omega) (by decide), by decide, k4, by rw [l4]; exact vp_in_nI (by omega) (by decide), fin _ ?_⟩
          rw [hc]
          show nI 32 = nI (L.getD (20 * b + m) 32)
          rw [gD_e g]
        · rw [nI_leI (by omega) (by omega)] at g
          omega
        · refine ⟨by decide, 5, mI h4 r, Or.inl ⟨k4, l4.symm, rfl⟩, vp_in_nI (by omega) (by decide), by decide, k4, by rw [l4]; exact vp_in_nI (by omega) (by decide), fin _ ?_⟩
          rw [hc]
      · obtain rfl : m = 20 := by omega
        simp (disch := omega) only [nI_mul, nI_add, nI_clamp, nI_inE, nI_leE, nI_ltE, nI_eqE, nI_eqz, nI_ltz, nI_gez, nI_lez, nI_gtz, nI_m1, nI_m1', nI_ltm, nI_gem, nI_gtm, nI_lem, nI_00, nI_01, nI_10, nI_11, bI_z, bI_1, bI_0, bI_b, bI_nz, bit_e, arK_i, arK_b, arK_j, true_and, and_true, ne_eq, not_false_eq_true, not_true_eq_false, false_and, and_false, true_or, or_true, false_or, or_false, Classical.not_not, forall_const, true_implies, implies_true, false_implies, eq_self, hlm]
        refine ⟨5, mI h4 r, Or.inl ⟨k4, l4.symm, rfl⟩, vp_in_nI (by omega) (by decide), 5, mI h4 r, Or.inl ⟨k4, l4.symm, rfl⟩, vp_in_nI (by omega) (by decide), 5, mI h4 r, Or.inl ⟨k4, l4.symm, rfl⟩, vp_in_nI (by omega) (by decide), 5, mI h4 r, Or.inl ⟨k4, l4.symm, rfl⟩, vp_in_nI (by omega) (by decide), 5, mI h4 r, Or.inl ⟨k4, l4.symm, rfl⟩, vp_in_nI (by omega) (by decide), hP4.1.1, ?_⟩
        rw [v4 0 (by decide), v4 1 (by decide), v4 2 (by decide), v4 3 (by decide), v4 4 (by decide)]
        refine CI_op (c_append hP4) fun h5 hP5 hF5 => ?_
        have hG5 := gd_App (a := nI (wvN c 20 0)) (b := nI (wvN c 20 1)) (c := nI (wvN c 20 2)) (d := nI (wvN c 20 3)) (e := nI (wvN c 20 4)) hG3
        have hq : qApp s3 (nI (wvN c 20 0)) (nI (wvN c 20 1)) (nI (wvN c 20 2)) (nI (wvN c 20 3)) (nI (wvN c 20 4)) = okA (aW s3, aP s3, aC s3, aS s3, aH s3, ap5 (aU s3) (aN s3) (nI (wvN c 20 0)) (nI (wvN c 20 1)) (nI (wvN c 20 2)) (nI (wvN c 20 3)) (nI (wvN c 20 4)), aN s3 + 20, aK s3, aO s3, aR s3, aM s3) (nI (aN s3 + 20)) := iteC_f (by omega)
        rw [hq] at hP5 hG5
        refine MW_nul 6 (MW_nul 7 (MW_le (by show _ ≤ _; omega) (by show _ ≤ _; omega) (ih2 (by omega) h5 _ hP5 (SB_fz hS4 hF5 (by omega)) hG5 (by show aN s3 + 20 = _; omega) (fun k hk => ?_) (by omega))))
        show ap5 (aU s3) (aN s3) _ _ _ _ _ k = _
        rw [hN3, ap5_at (fun m _ => hc8 m) (by omega)]
        by_cases g : k < 20 * b
        · rw [if_pos g]; exact hU3 k g
        · rw [if_neg g, hc]
          show nI (L.getD (20 * b + (k - 20 * b)) 32) = _
          rw [show 20 * b + (k - 20 * b) = k by omega]
    · simp (disch := omega) only [nI_mul, nI_add, nI_clamp, nI_inE, nI_leE, nI_ltE, nI_eqE, nI_eqz, nI_ltz, nI_gez, nI_lez, nI_gtz, nI_m1, nI_m1', nI_ltm, nI_gem, nI_gtm, nI_lem, nI_00, nI_01, nI_10, nI_11, bI_z, bI_1, bI_0, bI_b, bI_nz, bit_e, arK_i, arK_b, arK_j, true_and, and_true, ne_eq, not_false_eq_true, not_true_eq_false, false_and, and_false, true_or, or_true, false_or, or_false, Classical.not_not, forall_const, true_implies, implies_true, false_implies, eq_self, hlb]
      obtain ⟨np3, nt3, hB3, hT3⟩ := hG3.1
      obtain ⟨w', hPW, hE⟩ := run_scr (U := aU s3) (n := 20 * b) (w := fun _ => 0) (np := np) (nt := nt) (b := fun j => uS x j / 64 % 2 = 0) (p := fun j => uS x j % np) (t := fun j => uS x j / 8 % nt) (v := fun j => 1 + uS x j / 128 % 2) (k := fun j => uS x j / 512 % 5) (m := 8) hnp5.1 (by omega) hnt5.1 (by omega) (fun j _ => ⟨Nat.mod_lt _ (by omega), Nat.mod_lt _ (by omega), by show 1 + uS x j / 128 % 2 < 10; omega, by show uS x j / 512 % 5 < 10; omega⟩) (by omega) (by rw [hLd] at hlb; exact hlb) (by rw [hLd] at hU3; exact hU3)
      have hEx : exR s3 = (0, 0, w', 0, 20 * b, 20 * b) := by
        unfold exR
        rw [hN3]
        exact hE
      have hGs := gd_Scr hG3
      have hq : qScr s3 = okA (w', pushP (aW s3) (aP s3), upto10 (aC s3), aS s3, aH s3, aU s3, 0, nI 0, -1, aR s3, aM s3) (sumW w' (npW w')) := by
        unfold qScr
        rw [hEx]
        exact iteC_t rfl
      refine ⟨hP3.1.1, CI_op (c_runScript hP3 hB3) fun h4 hP4 hF4 => ?_⟩
      rw [hq] at hP4 hGs ⊢
      obtain ⟨np4, nt4, hB4, hT4⟩ := hGs.1
      have hB4 : NB w' np4 nt4 := hB4
      have hnp4 := hB4.2.2.2.1
      obtain ⟨a4, b4, q1, q2, q3, q4, q5⟩ := sum_nat (w := w') hT4 np4 (Nat.le_refl _)
      refine ⟨⟨a4, by omega, ?_⟩, _, hGs, fun t ht => ⟨0, Nat.le_refl _, hPW.2.2 t ht⟩, hP4, Nat.le_trans (by omega) hF4.1⟩
      show sumW w' (npW w') = nI a4
      rw [npW_e hB4]
      exact q1
end BEG
