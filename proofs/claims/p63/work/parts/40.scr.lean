section SCR
variable {x : CX}
noncomputable def cmR (U : Nat → Int32) (n : Nat) (w : Nat → Int32) (np nt : Nat) (t : TK) : CR :=
  let p := numS U n t (nI 1) (nI 200)
  iteC (p.1 = 0) (0, 0, (runW np nt p.2.2.1.toNatClampNeg w).2, p.2.2.2) (p.1, p.2.1, w, p.2.2.2)
theorem cmO_cases (U : Nat → Int32) (t : TK) : cmO U t = nI 1 ∨ cmO U t = nI 2 ∨ cmO U t = nI 3 ∨ cmO U t = nI 4 ∨ cmO U t = nI 5 ∨ cmO U t = nI 6 ∨ cmO U t = nI 7 ∨ cmO U t = -1 := by
  have r : ∀ (c : Prop) (a b : Int32), iteC c a b = a ∨ iteC c a b = b := fun c a b => (Classical.em c).elim (fun g => Or.inl (iteC_t g)) fun g => Or.inr (iteC_f g)
  unfold cmO
  rcases r (wrdS U t 1) (nI 1) _ with e | e
  · exact Or.inl e
  rw [e]; clear e
  rcases r (wrdS U t 2) (nI 2) _ with e | e
  · exact Or.inr (Or.inl e)
  rw [e]; clear e
  rcases r (wrdS U t 3) (nI 3) _ with e | e
  · exact Or.inr (Or.inr (Or.inl e))
  rw [e]; clear e
  rcases r (wrdS U t 4) (nI 4) _ with e | e
  · exact Or.inr (Or.inr (Or.inr (Or.inl e)))
  rw [e]; clear e
  rcases r (wrdS U t 5) (nI 5) _ with e | e
  · exact Or.inr (Or.inr (Or.inr (Or.inr (Or.inl e))))
  rw [e]; clear e
  rcases r (wrdS U t 6) (nI 6) _ with e | e
  · exact Or.inr (Or.inr (Or.inr (Or.inr (Or.inr (Or.inl e)))))
  rw [e]; clear e
  rcases r (wrdS U t 7) (nI 7) (-1) with e | e
  · exact Or.inr (Or.inr (Or.inr (Or.inr (Or.inr (Or.inr (Or.inl e))))))
  · exact Or.inr (Or.inr (Or.inr (Or.inr (Or.inr (Or.inr (Or.inr e))))))
noncomputable def cmS (U : Nat → Int32) (n : Nat) (w : Nat → Int32) (np nt : Nat) (t : TK) : CR :=
  let t1 := tokS U n t.2.2
  iteC (cmO U t = -1) (1, t.2.1, w, t) (iteC (cmO U t = nI 1) (cmT U n w t1) (iteC (cmO U t = nI 2) (cmC U n w t1) (iteC (cmO U t = nI 3) (cmA U n w t1 28) (iteC (cmO U t = nI 4) (cmB U n w t1 108) (iteC (cmO U t = nI 5) (cmA U n w t1 188) (iteC (cmO U t = nI 6) (cmF U n w np t1) (cmR U n w np nt t1)))))))
theorem cmP_pre {h h1 h' : MH} {i n : Nat} {U : Nat → Int32} {c : CR} {r : Int32} (hF : FO h h1 i tkF) (hP : cmP h1 h' i U n c r) : cmP h h' i U n c r :=
  ⟨hP.1, FRr_tr (FRr_mono hF.1 (Nat.le_refl _) (by omega)) hP.2.1, hP.2.2.imp (fun z => ⟨z.1, z.2.1, z.2.2.1.trans (hF.2.2 3 (by unfold tkF; omega)), z.2.2.2.trans (hF.2.2 4 (by unfold tkF; omega))⟩) id⟩
theorem c_readCommand {h : MH} {i n np nt : Nat} {U w : Nat → Int32} {t : TK} (hS : SC h i U n w t) (hB : NB w np nt) : CT x sX3_readCommand [.ref i] h (pI fun r h' => cmP h h' i U n (cmS U n w np nt t) r) xNo := by
  have a1 := hS.1.1
  (refine CT_of (o := 3) rfl (by decide +kernel) (by simp [Value.category, sX3_readCommand]) (MW_ev kX3_readCommand 300 ?_); show evS _ _ _ _ _ _ 300 0 (0, 0) [.ref i, .null, .null] [] _; simp only [st_iconst, st_lconst, st_ldc2_w, st_ldc, st_iload, st_lload, st_aload, st_istore, st_astore, st_lstore, st_iinc, st_iadd, st_isub, st_imul, st_idiv, st_irem, st_iand, st_ior, st_ishl, st_ishr, st_iushr, st_ladd, st_lmul, st_lshl, st_lushr, st_lcmp, st_i2l, st_l2i, st_i2b, st_i2c, st_i2d, st_i2f, st_dconst, st_fconst, st_ddiv, st_fdiv, st_dup, st_dup2, st_pop, st_goto, st_if_icmp, st_ifCond, st_tableswitch, st_lookupswitch, st_iaload, st_baload, st_laload, st_aaload, st_iastore, st_bastore, st_lastore, st_aastore, st_saload, st_faload, st_jsr, st_caload, st_d2i, st_d2f, st_ineg, st_ixor, st_dup_x1, st_aconst_null, st_ifnonnull, st_castore, st_getstatic, st_frem, st_drem, st_monitorexit, st_monitorenter, st_invokeinterface, st_newarray, st_anewarray, st_multianewarray, asI_c, asJ_c, asR_c, asD_c, asF_c, popI_c, popJ_c, popR_c, popD_c, popF_c, pop1_c, okSt_0, okSt_S, rcv_0, rcv_1, rcv_2, rcv_3, rcv_4, rcv_5, rcv_8, pI_c, pJ_c, pR_c, pV_c, pD_c, pF_c, cmp_eq, cmp_ne, cmp_lt, cmp_ge, cmp_gt, cmp_le, nth_0, nth_S, set_0, set_S, cat_int, cat_ref, cat_long, cat_double, cat_float, cat_null, catS_0, catS_S, swT_0, swT_S, swL_0, swL_S, Nat.add_zero, Nat.reduceAdd, Nat.reduceSub, Nat.reduceLT, Nat.reduceLeDiff, true_and, and_true, eq_self, eX3_readCommand_0, fX3_readCommand_0, eX3_readCommand_1, iv3_71, c_X3_commandOfToken, eX3_readCommand_4, eX3_readCommand_5, eX3_readCommand_6, cI_m1, eX3_readCommand_7, tn_16, eX3_readCommand_10, eX3_readCommand_11, cI_1, eX3_readCommand_12, iv3_59, c_X3_fail, eX3_readCommand_15, eX3_readCommand_16, eX3_readCommand_17, iv3_41, c_X3_readToken, eX3_readCommand_20, eX3_readCommand_21, tn_111, tn_1, tn_6, tn_60, tn_65, tn_70, tn_82, tn_94, tn_106, eX3_readCommand_60, eX3_readCommand_61, iv3_75, c_X3_readTokens, eX3_readCommand_64, eX3_readCommand_65, eX3_readCommand_66, iv3_78, c_X3_readCapacity, eX3_readCommand_69, eX3_readCommand_70, eX3_readCommand_71, eX3_readCommand_72, gf3_22, eX3_readCommand_75, gf3_81, eX3_readCommand_78, iv3_85, c_X3_readArcFromPlace, eX3_readCommand_81, eX3_readCommand_82, eX3_readCommand_83, eX3_readCommand_84, eX3_readCommand_87, gf3_89, eX3_readCommand_90, iv3_92, c_X3_readArcFromTransition, eX3_readCommand_93, eX3_readCommand_94, eX3_readCommand_95, eX3_readCommand_96, eX3_readCommand_99, gf3_95, eX3_readCommand_102, eX3_readCommand_105, eX3_readCommand_106, eX3_readCommand_107, iv3_98, c_X3_readFire, eX3_readCommand_110, eX3_readCommand_111, eX3_readCommand_112, eX3_readCommand_113, cI_200, eX3_readCommand_116, iv3_63, c_X3_readNumber, eX3_readCommand_119, eX3_readCommand_120, eX3_readCommand_121, eX3_readCommand_124, eX3_readCommand_125, iv3_101, c_X2_advance, eX3_readCommand_128, eX3_readCommand_129, eX3_readCommand_130, eX3_readCommand_131, tn_138, eX3_readCommand_134, eX3_readCommand_135, tn_139, eX3_readCommand_138, cI_0, eX3_readCommand_139, d_X3_readCommand, re_X3_readCommand])
  refine ⟨a1, CI_pure (c_commandOf hS) ⟨fun g => ⟨a1, CV_of (c_readToken hS.1 hS.2.2.2.2.1 hS.2.2.1.2.2) (fun _ _ z => z.elim) fun h1 ⟨f1, f2⟩ => ?_⟩, fun g => ⟨a1, CI_of (c_fail hS.1 hS.2.2.1.2.1) (fun _ _ z => z.elim) fun r h' ⟨f0, f1, f2, f3⟩ => ?_⟩⟩⟩
  · have hS1 := SC_tk hS f1 f2 (tok_b hS.2.2.2.2.1)
    have b1 := hS1.1.1
    have b7 := hS1.1.2.2.2.2.2.2.1
    have m0 := hS1.2.1.1.1
    have iT : ∀ {a b : CR}, iteC True a b = a := fun {a b} => iteC_t trivial
    have iF : ∀ {a b : CR}, iteC False a b = b := fun {a b} => iteC_f id
    have tI : ∀ k : Nat, k < 100 → (cmO U t).toInt = k → cmO U t = nI k := fun k hk e => Int32.toInt_inj.mp (e.trans (nI_toInt (by omega)).symm)
    have fin : ∀ {h' : MH} {c : CR} {r : Int32}, cmP h1 h' i U n c r → cmS U n w np nt t = c → (r = 0 ∨ r = 1) ∧ cmP h h' i U n (cmS U n w np nt t) r := fun {h' c r} hp e => by
      rw [e]
      refine ⟨hp.2.2.elim (fun z => Or.inr (z.2.1.trans (of_eq_true nI_11))) (fun z => Or.inl (z.2.1.trans nI_0)), cmP_pre f1 hp⟩
    have q4 := (net_tg hS1.2.1 (Or.inl ⟨rfl, rfl⟩))
    have q5 := (net_tg hS1.2.1 (Or.inr (Or.inl ⟨rfl, rfl⟩)))
    have q6 := (net_tg hS1.2.1 (Or.inr (Or.inr ⟨rfl, rfl⟩)))
    rw [b7]
    refine ⟨fun e => ?_, fun e => ?_, fun e => ?_, fun e => ?_, fun e => ?_, fun e => ?_, fun e => ?_⟩
    · have e7 : cmO U t = nI 7 := by
        rcases cmO_cases U t with z | z | z | z | z | z | z | z <;> first | exact z | exact absurd z g | (rw [z, nI_toInt (by decide)] at e; omega)
      have eS : cmS U n w np nt t = cmR U n w np nt (tokS U n t.2.2) := by simp (disch := omega) only [cmS, e7, nI_m1, nI_eqE, iT, iF, Nat.reduceEqDiff, eq_self]
      refine ⟨b1, call_num hS1 fun h2 hS2 hF2 hr => ?_⟩
      obtain ⟨P, hP⟩ : ∃ P, P = numS U n (tokS U n t.2.2) (nI 1) (nI 200) := ⟨_, rfl⟩
      rw [← hP] at hS2 hr
      rw [← hP, show mP h2 i 2 = i + 2 from hS2.1.2.2.2.2.2.2.1]
      refine ⟨hS2.1.1, by omega, hS2.2.1.1.1, ?_⟩
      rcases hr with ⟨r0, r1, r2, r3, r4⟩ | ⟨r0, r1, r3, r4⟩
      · obtain ⟨j, hj, ej⟩ := nI_of (x := P.2.2.1) fun z => r1 (Int32.lt_trans z (by decide))
        have hj2 : j ≤ 200 := by
          rw [ej, nI_ltI (by decide) hj] at r2
          omega
        have hc : cmR U n w np nt (tokS U n t.2.2) = (0, 0, (runW np nt j w).2, P.2.2.2) := by
          unfold cmR
          simp only [← hP]
          rw [ej, nI_clamp hj]
          exact iteC_t r0
        rw [ej]
        refine CI_of (c_advance hS2.2.1 hB (n := j) (by omega)) (fun _ _ z => z.elim) fun r' h3 ⟨z0, hN3, hF3⟩ => ⟨fun z => absurd z (by rw [nI_m1 hj]; exact id), fun _ => fin (c := cmR U n w np nt (tokS U n t.2.2)) ?_ eS⟩
        rw [hc]
        have hF3' := FRr_mono (lo' := i + 2) (hi' := i + 9) hF3 (Nat.le_refl _) (by omega)
        refine ⟨SC_net hS2 hF3' hN3, FRr_tr (FRr_mono hF2 (by omega) (by omega)) (FRr_mono hF3' (by omega) (by omega)), Or.inl ⟨rfl, rfl, ?_, ?_⟩⟩
        · rw [(hF3.2.2.2 i (by omega) 3).1, r3]
        · rw [(hF3.2.2.2 i (by omega) 4).1, r4]
      · have hc : cmR U n w np nt (tokS U n t.2.2) = (P.1, P.2.1, w, P.2.2.2) := by
          unfold cmR
          simp only [← hP]
          exact iteC_f r0
        rw [r1]
        refine CI_of c_advanceM (fun _ _ z => z.elim) fun r' h3 z0 => ⟨fun _ => fin (c := cmR U n w np nt (tokS U n t.2.2)) ?_ eS, fun z => absurd rfl z⟩
        rw [hc, z0]
        exact ⟨hS2, FRr_mono hF2 (by omega) (by omega), Or.inr ⟨r0, rfl, r3, r4⟩⟩
    · have e := tI 1 (by decide) e
      exact ⟨b1, CI_of (c_readTokens hS1 hB) (fun _ _ z => z.elim) fun r h' hp => fin hp (by simp (disch := omega) only [cmS, e, nI_m1, nI_eqE, iT, iF, Nat.reduceEqDiff, eq_self])⟩
    · have e := tI 2 (by decide) e
      exact ⟨b1, CI_of (c_readCapacity hS1 hB) (fun _ _ z => z.elim) fun r h' hp => fin hp (by simp (disch := omega) only [cmS, e, nI_m1, nI_eqE, iT, iF, Nat.reduceEqDiff, eq_self])⟩
    · have e := tI 3 (by decide) e
      exact ⟨b1, by omega, m0, by omega, b1, CI_of (c_readArcP hS1 hB (Or.inl ⟨rfl, rfl⟩)) (fun _ _ z => z.elim) fun r h' hp => fin hp (by simp (disch := omega) only [cmS, e, nI_m1, nI_eqE, iT, iF, Nat.reduceEqDiff, eq_self])⟩
    · have e := tI 4 (by decide) e
      exact ⟨b1, by omega, m0, by omega, b1, CI_of (c_readArcT hS1 hB (Or.inr (Or.inl ⟨rfl, rfl⟩))) (fun _ _ z => z.elim) fun r h' hp => fin hp (by simp (disch := omega) only [cmS, e, nI_m1, nI_eqE, iT, iF, Nat.reduceEqDiff, eq_self])⟩
    · have e := tI 5 (by decide) e
      exact ⟨b1, by omega, m0, by omega, b1, CI_of (c_readArcP hS1 hB (Or.inr (Or.inr ⟨rfl, rfl⟩))) (fun _ _ z => z.elim) fun r h' hp => fin hp (by simp (disch := omega) only [cmS, e, nI_m1, nI_eqE, iT, iF, Nat.reduceEqDiff, eq_self])⟩
    · have e := tI 6 (by decide) e
      exact ⟨b1, CI_of (c_readFire hS1 hB) (fun _ _ z => z.elim) fun r h' hp => fin hp (by simp (disch := omega) only [cmS, e, nI_m1, nI_eqE, iT, iF, Nat.reduceEqDiff, eq_self])⟩
  · have ec : cmS U n w np nt t = (1, t.2.1, w, t) := iteC_t (Classical.not_not.mp g)
    rw [ec, f0]
    exact ⟨Or.inl nI_0, SC_fo hS f1, FRr_mono f1.1 (by omega) (by omega), Or.inr ⟨by show ¬ 1 = 0; omega, rfl, f2, f3⟩⟩
end SCR
