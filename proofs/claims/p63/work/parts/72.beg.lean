section BEG
variable {x : CX}
theorem u_len {h : MH} {a z : Nat} {l : List Nat} {xk : String → MH → Prop} {K : Int32 → MH → Prop} (hS : SB h a z l) (hk : K (nI l.length) h) : CALLI x sJ4_length_8abf5 [.ref a] h xk K := by
  obtain ⟨h1, h2, v, m, h3, h4⟩ := hS
  exact CI_pure (d_len h4) hk
theorem u_chr {h : MH} {a z j : Nat} {l : List Nat} {xk : String → MH → Prop} {K : Int32 → MH → Prop} (hS : SB h a z l) (hj : j < l.length) (hk : K (nI (l.getD j 32)) h) : CALLI x sJ4_charAt_5068e [.ref a, .int (nI j)] h xk K := by
  obtain ⟨h1, h2, v, m, h3, h4⟩ := hS
  refine CI_pure (d_chA h4 hj) ?_
  show K (chF (nI (l.getD j 32))) h
  rw [(nar_c _ (h2 j)).2.2.2]
  exact hk
theorem u_toStr {h : MH} {a z : Nat} {l : List Nat} {xk : String → MH → Prop} {K : Nat → MH → Prop} (hS : SB h a z l) (hl : l.length < 16) (hk : ∀ r h', strP h h' r l.length (Tx l) → K r h') : CALLR x sJ4_toString_0e30d [.ref a] h xk K := by
  obtain ⟨h1, h2, v, m, h3, h4⟩ := hS
  exact ⟨_, _, d_toStr h4 hl, fun _ _ z => z.elim, hk⟩
/-- the script's int without its sign -/
noncomputable def uS (x : CX) (j : Nat) : Nat := (scI x (2 + j) &&& nI 2147483647).toNatClampNeg
theorem uS_e (x : CX) (j : Nat) : scI x (2 + j) &&& nI 2147483647 = nI (uS x j) ∧ uS x j < 2 ^ 31 := by
  obtain ⟨u, hu, e⟩ := and_pos (scI x (2 + j))
  unfold uS
  rw [e, nI_clamp hu]
  exact ⟨rfl, hu⟩
noncomputable def segS (x : CX) (np nt j : Nat) : List Nat := sgm (uS x j / 64 % 2 = 0) (uS x j % np) (uS x j / 8 % nt) (1 + uS x j / 128 % 2) (uS x j / 512 % 5)
theorem sgm_len {b : Prop} {p t v k : Nat} : (sgm b p t v k).length ≤ 21 := by
  unfold sgm
  rw [List.length_append]
  have h1 : (tkL p k).length = 11 := rfl
  have h2 : (iteC b (inL p t v) (ouL t p v)).length ≤ 10 := iteC_P (fun l : List Nat => l.length ≤ 10) (show 9 ≤ 10 by decide) (Nat.le_refl 10)
  omega
theorem tx_len {hd : List Nat} {g : Nat → List Nat} (hg : ∀ j, (g j).length ≤ 21) (hh : hd.length = 8) : ∀ j, (txS hd g j).length ≤ 8 + 21 * j := by
  intro j
  induction j with
  | zero => exact Nat.le_of_eq hh
  | succ j ih =>
    have := hg j
    show (txS hd g j ++ g j).length ≤ _
    rw [List.length_append]
    omega
theorem l_began {h : MH} {i : Nat} {s : AS} (hP : PO h i s) (hg : GD s) (hN0 : aN s = 0) (hN : xN x ≤ 260) (hz : i + 119 ≤ mZ h) :
    CT x sL_began [.ref i, .ref (xB x)] h (pI fun r h' => (∃ m, m < 2 ^ 31 ∧ r = nI m) ∧ ∃ s', GD s' ∧ FB (aW s') 0 ∧ PO h' i s' ∧ i + 119 ≤ mZ h') xNo := by
  have hz0 : 0 < mZ h := by omega
  (refine CT_of (o := 6) rfl (by decide +kernel) (by simp [Value.category, sL_began]) (MW_ev kL_began 300 ?_); show evS _ _ _ _ _ _ 300 0 (400, 300000) [.ref i, .ref (xB x), .null, .null, .null, .null, .null, .null, .null] [] _; simp only [st_iconst, st_lconst, st_ldc2_w, st_ldc, st_iload, st_lload, st_aload, st_istore, st_astore, st_lstore, st_iinc, st_iadd, st_isub, st_imul, st_idiv, st_irem, st_iand, st_ior, st_ishl, st_ishr, st_iushr, st_ladd, st_lmul, st_lshl, st_lushr, st_lcmp, st_i2l, st_l2i, st_i2b, st_i2c, st_i2d, st_i2f, st_dconst, st_fconst, st_ddiv, st_fdiv, st_dup, st_dup2, st_pop, st_goto, st_if_icmp, st_ifCond, st_tableswitch, st_lookupswitch, st_iaload, st_baload, st_laload, st_aaload, st_iastore, st_bastore, st_lastore, st_aastore, st_saload, st_faload, st_jsr, st_caload, st_d2i, st_d2f, st_ineg, st_ixor, st_dup_x1, st_aconst_null, st_ifnonnull, st_castore, st_getstatic, st_frem, st_drem, st_monitorexit, st_monitorenter, st_invokeinterface, st_newarray, st_anewarray, st_multianewarray, asI_c, asJ_c, asR_c, asD_c, asF_c, popI_c, popJ_c, popR_c, popD_c, popF_c, pop1_c, okSt_0, okSt_S, rcv_0, rcv_1, rcv_2, rcv_3, rcv_4, rcv_5, rcv_8, pI_c, pJ_c, pR_c, pV_c, pD_c, pF_c, cmp_eq, cmp_ne, cmp_lt, cmp_ge, cmp_gt, cmp_le, nth_0, nth_S, set_0, set_S, cat_int, cat_ref, cat_long, cat_double, cat_float, cat_null, catS_0, catS_S, swT_0, swT_S, swL_0, swL_S, Nat.add_zero, Nat.reduceAdd, Nat.reduceSub, Nat.reduceLT, Nat.reduceLeDiff, true_and, and_true, eq_self, eL_began_0, fL_began_0, eL_began_1, cI_0, eL_began_2, cI_1, eL_began_3, cI_5, eL_began_4, iv6_120, c_L_of, eL_began_7, eL_began_8, eL_began_9, eL_began_10, eL_began_11, eL_began_12, eL_began_15, eL_began_16, nw6_124, eL_began_19, eL_began_20, eL_began_22, iv6_128, c_J4_init_a7421, eL_began_25, eL_began_26, iv6_131, c_J4_append_bf812, eL_began_29, cI_32, eL_began_31, iv6_135, c_J4_append_cf468, eL_began_34, eL_began_35, eL_began_38, cI_59, eL_began_40, eL_began_43, eL_began_45, eL_began_46, eL_began_48, fL_began_48, eL_began_50, cI_8, eL_began_52, tn_225, eL_began_55, eL_began_56, cI_2, eL_began_57, eL_began_59, eL_began_60, iv6_7, c_L_cell, eL_began_63, cI_2147483647, eL_began_65, eL_began_66, eL_began_68, eL_began_70, eL_began_71, eL_began_72, eL_began_74, eL_began_76, eL_began_78, eL_began_79, eL_began_80, eL_began_81, eL_began_83, eL_began_85, eL_began_87, cI_64, eL_began_89, eL_began_90, eL_began_91, eL_began_92, tn_128, eL_began_95, eL_began_98, eL_began_99, iv6_139, c_J4_init_da8c8, eL_began_102, eL_began_104, iv6_142, c_J4_append_15ec4, eL_began_107, eL_began_109, eL_began_112, eL_began_114, eL_began_117, eL_began_119, eL_began_122, iv6_147, c_J4_toString_0e30d, eL_began_125, tn_158, eL_began_128, eL_began_131, eL_began_132, eL_began_135, eL_began_137, eL_began_140, eL_began_142, eL_began_145, eL_began_147, eL_began_150, eL_began_152, eL_began_155, eL_began_158, eL_began_161, eL_began_163, eL_began_166, eL_began_167, eL_began_169, cI_128, eL_began_172, eL_began_173, eL_began_174, eL_began_175, eL_began_176, eL_began_179, eL_began_181, eL_began_184, eL_began_185, eL_began_187, eL_began_189, eL_began_192, eL_began_194, eL_began_197, eL_began_199, eL_began_202, eL_began_204, cI_512, eL_began_207, eL_began_208, eL_began_209, eL_began_210, eL_began_213, eL_began_215, eL_began_218, eL_began_219, eL_began_222, tn_48, eL_began_225, eL_began_226, eL_began_228, fL_began_228, eL_began_230, eL_began_232, iv6_155, c_J4_length_8abf5, eL_began_235, tn_343, eL_began_238, eL_began_239, na_int, eL_began_241, eL_began_243, eL_began_244, eL_began_246, fL_began_246, eL_began_248, cI_20, eL_began_250, tn_312, eL_began_253, eL_began_255, eL_began_257, eL_began_258, eL_began_260, eL_began_263, tn_279, eL_began_266, eL_began_268, eL_began_270, eL_began_272, eL_began_273, iv6_159, c_J4_charAt_5068e, eL_began_276, tn_281, eL_began_279, eL_began_281, eL_began_283, eL_began_285, eL_began_287, cI_4, eL_began_288, eL_began_289, eL_began_290, eL_began_291, eL_began_293, cI_24, eL_began_295, eL_began_297, eL_began_299, eL_began_300, eL_began_301, eL_began_302, eL_began_303, eL_began_304, eL_began_305, eL_began_306, eL_began_309, tn_246, eL_began_312, eL_began_313, eL_began_315, eL_began_316, eL_began_317, eL_began_319, eL_began_320, eL_began_321, eL_began_323, eL_began_324, eL_began_325, eL_began_327, cI_3, eL_began_328, eL_began_329, eL_began_331, eL_began_332, eL_began_333, iv6_163, c_X4_append, eL_began_336, eL_began_337, eL_began_340, tn_228, eL_began_343, eL_began_344, iv6_166, c_X4_runScript, eL_began_347, d_L_began, re_L_began])
  refine CI_of (l_of hN (by decide) (by decide) (by decide)) (fun _ _ z => z.elim) fun r1 h1 ⟨⟨j0, hj0, e1⟩, e2⟩ => ?_
  subst e2
  subst e1
  refine CI_of (l_of hN (by decide) (by decide) (by decide)) (fun _ _ z => z.elim) fun r1 h2 ⟨⟨j1, hj1, e1⟩, e2⟩ => ?_
  subst e2
  subst e1
  obtain ⟨np, hnp⟩ : ∃ np, np = 1 + j0 := ⟨_, rfl⟩
  obtain ⟨nt, hnt⟩ : ∃ nt, nt = 1 + j1 := ⟨_, rfl⟩
  rw [← hnp, ← hnt]
  obtain ⟨a, ha⟩ : ∃ a, a = mZ h2 := ⟨_, rfl⟩
  trace_state
  sorry
end BEG
