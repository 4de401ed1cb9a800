section EXP
variable {x : CX}
theorem rsn_congr {w u : Nat → Int32} {t p : Nat} (h1 : w (2 + p) = u (2 + p)) (h2 : ∀ m, 10 ≤ m → w m = u m) : rsnW w t p = rsnW u t p := by
  unfold rsnW
  rw [h1, h2 (28 + (t * 8 + p)) (by omega), h2 (188 + (t * 8 + p)) (by omega), h2 (10 + p) (by omega), h2 (108 + (t * 8 + p)) (by omega)]
theorem es_congr {w u : Nat → Int32} {np n : Nat} (h1 : ∀ p, p < np → w (2 + p) = u (2 + p)) (h2 : ∀ m, 10 ≤ m → w m = u m) : esW w np n = esW u np n := by
  have e : ∀ t, enW w np t = enW u np t := fun t => propext ⟨fun z p hp => (rsn_congr (h1 p hp) h2) ▸ z p hp, fun z p hp => (rsn_congr (h1 p hp) h2) ▸ z p hp⟩
  induction n with
  | zero => exact (foN_0 (f := fun t s => iteC (enW w np t) (s ||| bit t) s) (a := nI 0)).trans (foN_0 (f := fun t s => iteC (enW u np t) (s ||| bit t) s) (a := nI 0)).symm
  | succ n ih =>
    show iteC (enW w np n) (esW w np n ||| bit n) (esW w np n) = iteC (enW u np n) (esW u np n ||| bit n) (esW u np n)
    rw [e, ih]
def udK (w : Nat → Int64) (j : Nat) (v : Int64) : Nat → Int64 := fun m => if m = j then v else w m
theorem udK_e {w : Nat → Int64} {j : Nat} {v : Int64} : udK w j v j = v := if_pos rfl
theorem udK_n {w : Nat → Int64} {j m : Nat} {v : Int64} (h : m ≠ j) : udK w j v m = w m := if_neg h
noncomputable def addE (w : Nat → Int32) (np nt : Nat) (E : EE) (q : Int64) (fr tr : Int32) : EE :=
  (exC E + 1, udK (exK E) (exC E) q, udW (exD E) (exC E) (iteC (fr = -1) (nI 0) (exD E fr.toNatClampNeg + nI 1)), udW (exF E) (exC E) tr, udW (exS E) (exC E) (esW (unW w q np) np nt), exW E)
noncomputable def visE (w : Nat → Int32) (np nt : Nat) (E : EE) (q : Int64) (fr tr : Int32) : EE :=
  iteC (∃ n, n < exC E ∧ exK E n = q) E (iteC (150 ≤ exC E) (exC E, exK E, exD E, exF E, exS E, False) (addE w np nt E q fr tr))
/-- an exploration as it stands -/
def XA (h : MH) (i : Nat) (E : EE) (w : Nat → Int32) (np nt : Nat) : Prop := XS h i ∧ XV h i E ∧ XW h i w np nt ∧ HTf (mI h (i + 6)) (exK E) (exC E)
theorem XS_of {h h' : MH} {i : Nat} (hS : XS h i) (hK : ∀ a, mK h' a = mK h a) (hL : ∀ a, mL h' a = mL h a) (hP : ∀ k, mP h' i k = mP h i k) : XS h' i := by
  unfold XS at *
  simp only [hK, hL, hP]
  exact hS
theorem HT_add {T : Nat → Int32} {K : Nat → Int64} {c s : Nat} {q : Int64} (hT : HTf T K c) (hc : c < 150) (hs : s < 512) (h0 : T s = nI 0) (hd : ∃ d, d < 512 ∧ s = (hsh q + d) % 512 ∧ ∀ e, e < d → ¬ T ((hsh q + e) % 512) = nI 0) : HTf (udW T s (nI (c + 1))) (udK K c q) (c + 1) := by
  obtain ⟨t1, t2, t3⟩ := hT
  have hn0 : ∀ m, m < 1000 → ¬ nI (m + 1) = nI 0 := fun m hm z => absurd ((nI_eq (by omega) (by omega)).mp z) (by omega)
  refine ⟨fun j hj => ?_, cnz_ad hs h0 (hn0 c (by omega)) t2, fun n hn => ?_⟩
  · by_cases g : j = s
    · subst g; exact Or.inr ⟨c, Nat.lt_succ_self c, udW_e⟩
    · rw [udW_n g]; exact (t1 j hj).imp id fun ⟨n, h1, h2⟩ => ⟨n, by omega, h2⟩
  · have keep : ∀ j, ¬ T j = nI 0 → udW T s (nI (c + 1)) j = T j := fun j hj => udW_n (fun e => hj (e ▸ h0))
    by_cases g : n = c
    · subst g
      obtain ⟨d, d1, d2, d3⟩ := hd
      rw [udK_e]
      exact ⟨d, d1, by rw [← d2, udW_e], fun e he => by rw [keep _ (d3 e he)]; exact d3 e he⟩
    · obtain ⟨d, d1, d2, d3⟩ := t3 n (by omega)
      rw [udK_n g]
      exact ⟨d, d1, by rw [keep _ (by rw [d2]; exact hn0 n (by omega)), d2], fun e he => by rw [keep _ (d3 e he)]; exact d3 e he⟩
/-- a marking is added: its key, distance and transition first -/
theorem c_visit81 {h h1 : MH} {i np nt j : Nat} {E : EE} {w : Nat → Int32} {q : Int64} {fr tr : Int32} (hA : XA h i E w np nt) (hc : exC E < 150) (hj : j < 512) (g1 : mI h (i + 6) j = nI 0) (g3 : ∃ d, d < 512 ∧ j = (hsh q + d) % 512 ∧ ∀ e, e < d → ¬ mI h (i + 6) ((hsh q + e) % 512) = nI 0)
    (hh : h1 = sI (sI (sJ h (i + 1) (exC E) q) (i + 2) (exC E) (iteC (fr = -1) (nI 0) (exD E fr.toNatClampNeg + nI 1))) (i + 3) (exC E) tr) : MW x sX0_visit 0 (pV fun h' => XA h' i (addE w np nt E q fr tr) w np nt ∧ FRr h h' i (i + 14)) xNo 81 (0, 0) [.ref i, .long q, .null, .int fr, .int tr, .int (nI j)] [] h1 := by
  obtain ⟨hS, hV, ⟨hB, ⟨u, hN, hu⟩, hch⟩, hT⟩ := hA
  have hF1 : FRr h h1 i (i + 7) := by rw [hh]; exact FRr_tr (FRr_tr (FRr_sJ (by omega) (by omega)) (FRr_sI (by omega) (by omega))) (FRr_sI (by omega) (by omega))
  have hN1 := NW_fr hN hF1 (by omega)
  have hBu : NB u np nt := ⟨(hu 0 (by omega)).trans hB.1, (hu 1 (by omega)).trans hB.2.1, hB.2.2⟩
  obtain ⟨s0, s1, s2, s3, s4, s5, s6, s7, k1, l1, k2, l2, k3, l3, k4, l4, k5, l5, k6, l6⟩ := hS
  obtain ⟨v0, v1, v2, v3⟩ := hV
  have r0 : mK h1 i = 1 := by rw [hh]; exact s0
  have r7 : mP h1 i 6 = i + 7 := by rw [hh]; exact s7
  (refine MW_ev kX0_visit 300 ?_; simp only [st_iconst, st_lconst, st_ldc2_w, st_ldc, st_iload, st_lload, st_aload, st_istore, st_astore, st_lstore, st_iinc, st_iadd, st_isub, st_imul, st_idiv, st_irem, st_iand, st_ior, st_ishl, st_ishr, st_iushr, st_ladd, st_lmul, st_lshl, st_lushr, st_lcmp, st_i2l, st_l2i, st_i2b, st_i2c, st_i2d, st_i2f, st_dconst, st_fconst, st_ddiv, st_fdiv, st_dup, st_dup2, st_pop, st_goto, st_if_icmp, st_ifCond, st_tableswitch, st_lookupswitch, st_iaload, st_baload, st_laload, st_aaload, st_iastore, st_bastore, st_lastore, st_aastore, st_saload, st_faload, st_jsr, st_caload, st_d2i, st_d2f, st_ineg, st_ixor, st_dup_x1, st_aconst_null, st_ifnonnull, st_castore, st_getstatic, st_frem, st_drem, st_monitorexit, st_monitorenter, st_invokeinterface, st_newarray, st_anewarray, st_multianewarray, asI_c, asJ_c, asR_c, asD_c, asF_c, popI_c, popJ_c, popR_c, popD_c, popF_c, pop1_c, okSt_0, okSt_S, rcv_0, rcv_1, rcv_2, rcv_3, rcv_4, rcv_5, rcv_8, pI_c, pJ_c, pR_c, pV_c, pD_c, pF_c, cmp_eq, cmp_ne, cmp_lt, cmp_ge, cmp_gt, cmp_le, nth_0, nth_S, set_0, set_S, cat_int, cat_ref, cat_long, cat_double, cat_float, cat_null, catS_0, catS_S, swT_0, swT_S, swL_0, swL_S, Nat.add_zero, Nat.reduceAdd, Nat.reduceSub, Nat.reduceLT, Nat.reduceLeDiff, true_and, and_true, eq_self, eX0_visit_0, fX0_visit_0, eX0_visit_1, eX0_visit_2, iv0_72, c_X0_slotOf, eX0_visit_5, eX0_visit_7, eX0_visit_8, gf0_28, eX0_visit_11, eX0_visit_13, eX0_visit_14, tn_18, eX0_visit_17, eX0_visit_18, eX0_visit_19, gf0_38, eX0_visit_22, cI_150, eX0_visit_25, tn_34, eX0_visit_28, eX0_visit_29, cI_0, eX0_visit_30, pf0_42, eX0_visit_33, eX0_visit_34, fX0_visit_34, eX0_visit_35, gf0_9, eX0_visit_38, eX0_visit_39, eX0_visit_42, eX0_visit_43, eX0_visit_44, eX0_visit_45, gf0_15, eX0_visit_48, eX0_visit_49, eX0_visit_52, eX0_visit_53, cI_m1, eX0_visit_54, tn_61, eX0_visit_57, eX0_visit_58, tn_69, eX0_visit_61, eX0_visit_62, eX0_visit_65, eX0_visit_66, eX0_visit_67, cI_1, eX0_visit_68, eX0_visit_69, eX0_visit_70, eX0_visit_71, gf0_19, eX0_visit_74, eX0_visit_75, eX0_visit_78, eX0_visit_80, eX0_visit_81, fX0_visit_81, eX0_visit_82, gf0_34, eX0_visit_85, eX0_visit_86, iv0_76, c_X2_unpackMarking, eX0_visit_89, eX0_visit_90, gf0_22, eX0_visit_93, eX0_visit_94, eX0_visit_97, eX0_visit_98, eX0_visit_101, iv0_80, c_X2_enabledSet, eX0_visit_104, eX0_visit_105, eX0_visit_106, eX0_visit_107, eX0_visit_110, eX0_visit_111, eX0_visit_112, pf0_38, eX0_visit_115, eX0_visit_116, eX0_visit_119, eX0_visit_121, eX0_visit_122, eX0_visit_125, eX0_visit_126, d_X0_visit, re_X0_visit])
  simp (disch := omega) only [nI_mul, nI_add, nI_clamp, nI_inE, nI_leE, nI_ltE, nI_eqE, nI_eqz, nI_ltz, nI_gez, nI_lez, nI_gtz, nI_m1, nI_m1', nI_ltm, nI_gem, nI_gtm, nI_lem, nI_00, nI_01, nI_10, nI_11, bI_z, bI_1, bI_0, bI_b, bI_nz, bit_e, arK_i, arK_b, arK_j, true_and, and_true, ne_eq, not_false_eq_true, not_true_eq_false, false_and, and_false, true_or, or_true, false_or, or_false, Classical.not_not, forall_const, true_implies, implies_true, false_implies, eq_self, r0, r7]
  refine ⟨by omega, hN1.1.1, CV_of (c_unpackMarking hN1 hBu) (fun _ _ z => z.elim) fun h2 ⟨hN2, hF2⟩ => ?_⟩
  have hBn := un_B (u := q) (n := np) hBu
  have e2 : ∀ a, a < i + 7 ∨ i + 14 ≤ a → EQa h1 h2 a := fun a ha => EQ_fr hF2 (by omega)
  have t0 : mK h2 i = 1 := (e2 i (by omega)).1.trans r0
  have t1 : mP h2 i 6 = i + 7 := ((e2 i (by omega)).2.2 6).2.1.trans r7
  have t2 : mP h2 i 3 = i + 4 := by rw [((e2 i (by omega)).2.2 3).2.1, hh]; exact s4
  have t3 : mP h2 i 5 = i + 6 := by rw [((e2 i (by omega)).2.2 5).2.1, hh]; exact s6
  have t4 : mI h2 i 7 = nI (exC E) := by
    rw [((e2 i (by omega)).2.2 7).1, hh, sI_Ia (by omega), sI_Ia (by omega)]; exact v1
  have t5 : mK h2 (i + 4) = 11 := by rw [(e2 (i + 4) (by omega)).1, hh]; exact k4
  have t6 : mL h2 (i + 4) = 150 := by rw [(e2 (i + 4) (by omega)).2.1, hh]; exact l4
  have t7 : mK h2 (i + 6) = 11 := by rw [(e2 (i + 6) (by omega)).1, hh]; exact k6
  have t8 : mL h2 (i + 6) = 512 := by rw [(e2 (i + 6) (by omega)).2.1, hh]; exact l6
  have hcE := c_enabledSet (x := x) hN2.1 hBn
  simp (disch := omega) only [nI_mul, nI_add, nI_clamp, nI_inE, nI_leE, nI_ltE, nI_eqE, nI_eqz, nI_ltz, nI_gez, nI_lez, nI_gtz, nI_m1, nI_m1', nI_ltm, nI_gem, nI_gtm, nI_lem, nI_00, nI_01, nI_10, nI_11, bI_z, bI_1, bI_0, bI_b, bI_nz, bit_e, arK_i, arK_b, arK_j, true_and, and_true, ne_eq, not_false_eq_true, not_true_eq_false, false_and, and_false, true_or, or_true, false_or, or_false, Classical.not_not, forall_const, true_implies, implies_true, false_implies, eq_self, t0, t1, t2]
  refine ⟨by omega, by omega, hN2.1.1, CI_pure hcE ?_⟩
  simp (disch := omega) only [nI_mul, nI_add, nI_clamp, nI_inE, nI_leE, nI_ltE, nI_eqE, nI_eqz, nI_ltz, nI_gez, nI_lez, nI_gtz, nI_m1, nI_m1', nI_ltm, nI_gem, nI_gtm, nI_lem, nI_00, nI_01, nI_10, nI_11, bI_z, bI_1, bI_0, bI_b, bI_nz, bit_e, arK_i, arK_b, arK_j, true_and, and_true, ne_eq, not_false_eq_true, not_true_eq_false, false_and, and_false, true_or, or_true, false_or, or_false, Classical.not_not, forall_const, true_implies, implies_true, false_implies, eq_self, sI_K, sI_L, sI_P, sI_J, sI_Z, sI_Ie, sR_K, sR_L, sR_P, sR_J, sR_Z, sR_Ie, sP_K, sP_L, sP_I, sP_J, sP_Z, sP_Pe, sJ_K, sJ_L, sJ_P, sJ_I, sJ_Z, sJ_Je, t0, t1, t2, t3, t4, t5, t6, t7, t8, sI_Ia, sI_Ik]
  refine ⟨by omega, ?_⟩
  have hes : esW (unW u q np) np nt = esW (unW w q np) np nt := es_congr (fun p hp => by
    rw [show unW u q np (2 + p) = _ from if_pos (by omega), show unW w q np (2 + p) = _ from if_pos (by omega)]) fun m hm => by
    rw [show unW u q np m = _ from if_neg (by have := hB.2.2.2.1; omega), show unW w q np m = _ from if_neg (by have := hB.2.2.2.1; omega), hu m (by omega)]
  rw [hes]
  obtain ⟨h3, hh3⟩ : ∃ h3, h3 = sI (sI (sI h2 (i + 4) (exC E) (esW (unW w q np) np nt)) i 7 (nI (exC E + 1))) (i + 6) j (nI (exC E + 1)) := ⟨_, rfl⟩
  rw [← hh3]
  have hF3 : FRr h2 h3 i (i + 7) := by rw [hh3]; exact FRr_tr (FRr_tr (FRr_sI (by omega) (by omega)) (FRr_sI (by omega) (by omega))) (FRr_sI (by omega) (by omega))
  have hFF : FRr h h3 i (i + 14) := FRr_tr (FRr_mono hF1 (by omega) (by omega)) (FRr_tr (FRr_mono hF2 (by omega) (by omega)) (FRr_mono hF3 (by omega) (by omega)))
  have pP : ∀ k, mP h3 i k = mP h i k := fun k => by
    rw [hh3, sI_P, sI_P, sI_P, ((e2 i (by omega)).2.2 k).2.1, hh]; rfl
  have jA : ∀ a k, a ≠ i + 1 → a < i + 7 → mJ h3 a k = mJ h a k := fun a k ha hb => by
    rw [hh3, sI_J, sI_J, sI_J, ((e2 a (by omega)).2.2 k).2.2, hh, sI_J, sI_J, sJ_Ja ha]
  have jK : ∀ k, mJ h3 (i + 1) k = udK (mJ h (i + 1)) (exC E) q k := fun k => by
    rw [hh3, sI_J, sI_J, sI_J, ((e2 (i + 1) (by omega)).2.2 k).2.2, hh, sI_J, sI_J]
    by_cases g : k = exC E
    · rw [g, sJ_Je, udK_e]
    · rw [sJ_Jk g, udK_n g]
  have iD : ∀ k, mI h3 (i + 2) k = udW (mI h (i + 2)) (exC E) (iteC (fr = -1) (nI 0) (exD E fr.toNatClampNeg + nI 1)) k := fun k => by
    rw [hh3, sI_Ia (by omega), sI_Ia (by omega), sI_Ia (by omega), ((e2 (i + 2) (by omega)).2.2 k).1, hh, sI_Ia (by omega)]
    by_cases g : k = exC E
    · rw [g, sI_Ie, udW_e]
    · rw [sI_Ik g, sJ_I, udW_n g]
  have iF : ∀ k, mI h3 (i + 3) k = udW (mI h (i + 3)) (exC E) tr k := fun k => by
    rw [hh3, sI_Ia (by omega), sI_Ia (by omega), sI_Ia (by omega), ((e2 (i + 3) (by omega)).2.2 k).1, hh]
    by_cases g : k = exC E
    · rw [g, sI_Ie, udW_e]
    · rw [sI_Ik g, sI_Ia (by omega), sJ_I, udW_n g]
  have iS : ∀ k, mI h3 (i + 4) k = udW (mI h (i + 4)) (exC E) (esW (unW w q np) np nt) k := fun k => by
    rw [hh3, sI_Ia (by omega), sI_Ia (by omega)]
    by_cases g : k = exC E
    · rw [g, sI_Ie, udW_e]
    · rw [sI_Ik g, udW_n g, ((e2 (i + 4) (by omega)).2.2 k).1, hh, sI_Ia (by omega), sI_Ia (by omega), sJ_I]
  have iT : mI h3 (i + 6) = udW (mI h (i + 6)) j (nI (exC E + 1)) := funext fun k => by
    rw [hh3]
    by_cases g : k = j
    · rw [g, sI_Ie, udW_e]
    · rw [sI_Ik g, udW_n g, sI_Ia (by omega), sI_Ia (by omega), ((e2 (i + 6) (by omega)).2.2 k).1, hh, sI_Ia (by omega), sI_Ia (by omega), sJ_I]
  have i7 : mI h3 i 7 = nI (exC E + 1) := by rw [hh3, sI_Ia (by omega), sI_Ie]
  have i8 : mI h3 i 8 = bI (exW E) := by
    rw [hh3, sI_Ia (by omega), sI_Ik (by decide), sI_Ia (by omega), ((e2 i (by omega)).2.2 8).1, hh, sI_Ia (by omega), sI_Ia (by omega)]; exact v2
  refine ⟨⟨XS_of ⟨s0, s1, s2, s3, s4, s5, s6, s7, k1, l1, k2, l2, k3, l3, k4, l4, k5, l5, k6, l6⟩ hFF.2.1 hFF.2.2.1 pP, ⟨hc, i7, i8, fun n hn => ?_⟩, ⟨hB, ⟨unW u q np, NW_fr hN2 hF3 (by omega), fun m hm => ?_⟩, fun t ht => (jA (i + 5) t (by omega) (by omega)).trans (hch t ht)⟩, ?_⟩, hFF⟩
  · rw [jK, iD, iF, iS]
    show udK (mJ h (i + 1)) (exC E) q n = udK (exK E) (exC E) q n ∧ _ = udW (exD E) (exC E) _ n ∧ _ = udW (exF E) (exC E) tr n ∧ _ = udW (exS E) (exC E) _ n
    by_cases g : n = exC E
    · subst g
      simp only [udK_e, udW_e, and_true]
    · have hn2 : n < exC E := by have : n < exC E + 1 := hn; omega
      obtain ⟨y1, y2, y3, y4⟩ := v3 n hn2
      rw [udK_n g, udK_n g, udW_n g, udW_n g, udW_n g, udW_n g, udW_n g, udW_n g]
      exact ⟨y1, y2, y3, y4⟩
  · rw [show unW u q np m = u m from if_neg (by have := hB.2.2.2.1; omega)]
    exact hu m hm
  · rw [iT]
    exact HT_add hT hc hj g1 g3
theorem c_visit34 {h : MH} {i np nt j : Nat} {E : EE} {w : Nat → Int32} {q : Int64} {fr tr : Int32} (hA : XA h i E w np nt) (hf : fr = -1 ∨ ∃ n, n < exC E ∧ fr = nI n) (hc : exC E < 150) (hj : j < 512) (g1 : mI h (i + 6) j = nI 0) (g3 : ∃ d, d < 512 ∧ j = (hsh q + d) % 512 ∧ ∀ e, e < d → ¬ mI h (i + 6) ((hsh q + e) % 512) = nI 0) : MW x sX0_visit 0 (pV fun h' => XA h' i (addE w np nt E q fr tr) w np nt ∧ FRr h h' i (i + 14)) xNo 34 (0, 0) [.ref i, .long q, .null, .int fr, .int tr, .int (nI j)] [] h := by
  have h81 := c_visit81 (x := x) (fr := fr) (tr := tr) hA hc hj g1 g3 rfl
  obtain ⟨hS, hV, hX, hT⟩ := hA
  obtain ⟨s0, s1, s2, s3, s4, s5, s6, s7, k1, l1, k2, l2, k3, l3, k4, l4, k5, l5, k6, l6⟩ := hS
  obtain ⟨v0, v1, v2, v3⟩ := hV
  (refine MW_ev kX0_visit 300 ?_; simp only [st_iconst, st_lconst, st_ldc2_w, st_ldc, st_iload, st_lload, st_aload, st_istore, st_astore, st_lstore, st_iinc, st_iadd, st_isub, st_imul, st_idiv, st_irem, st_iand, st_ior, st_ishl, st_ishr, st_iushr, st_ladd, st_lmul, st_lshl, st_lushr, st_lcmp, st_i2l, st_l2i, st_i2b, st_i2c, st_i2d, st_i2f, st_dconst, st_fconst, st_ddiv, st_fdiv, st_dup, st_dup2, st_pop, st_goto, st_if_icmp, st_ifCond, st_tableswitch, st_lookupswitch, st_iaload, st_baload, st_laload, st_aaload, st_iastore, st_bastore, st_lastore, st_aastore, st_saload, st_faload, st_jsr, st_caload, st_d2i, st_d2f, st_ineg, st_ixor, st_dup_x1, st_aconst_null, st_ifnonnull, st_castore, st_getstatic, st_frem, st_drem, st_monitorexit, st_monitorenter, st_invokeinterface, st_newarray, st_anewarray, st_multianewarray, asI_c, asJ_c, asR_c, asD_c, asF_c, popI_c, popJ_c, popR_c, popD_c, popF_c, pop1_c, okSt_0, okSt_S, rcv_0, rcv_1, rcv_2, rcv_3, rcv_4, rcv_5, rcv_8, pI_c, pJ_c, pR_c, pV_c, pD_c, pF_c, cmp_eq, cmp_ne, cmp_lt, cmp_ge, cmp_gt, cmp_le, nth_0, nth_S, set_0, set_S, cat_int, cat_ref, cat_long, cat_double, cat_float, cat_null, catS_0, catS_S, swT_0, swT_S, swL_0, swL_S, Nat.add_zero, Nat.reduceAdd, Nat.reduceSub, Nat.reduceLT, Nat.reduceLeDiff, true_and, and_true, eq_self, eX0_visit_0, fX0_visit_0, eX0_visit_1, eX0_visit_2, iv0_72, c_X0_slotOf, eX0_visit_5, eX0_visit_7, eX0_visit_8, gf0_28, eX0_visit_11, eX0_visit_13, eX0_visit_14, tn_18, eX0_visit_17, eX0_visit_18, eX0_visit_19, gf0_38, eX0_visit_22, cI_150, eX0_visit_25, tn_34, eX0_visit_28, eX0_visit_29, cI_0, eX0_visit_30, pf0_42, eX0_visit_33, eX0_visit_34, fX0_visit_34, eX0_visit_35, gf0_9, eX0_visit_38, eX0_visit_39, eX0_visit_42, eX0_visit_43, eX0_visit_44, eX0_visit_45, gf0_15, eX0_visit_48, eX0_visit_49, eX0_visit_52, eX0_visit_53, cI_m1, eX0_visit_54, tn_61, eX0_visit_57, eX0_visit_58, tn_69, eX0_visit_61, eX0_visit_62, eX0_visit_65, eX0_visit_66, eX0_visit_67, cI_1, eX0_visit_68, eX0_visit_69, eX0_visit_70, eX0_visit_71, gf0_19, eX0_visit_74, eX0_visit_75, eX0_visit_78, eX0_visit_80, eX0_visit_81, fX0_visit_81, eX0_visit_82, gf0_34, eX0_visit_85, eX0_visit_86, iv0_76, c_X2_unpackMarking, eX0_visit_89, eX0_visit_90, gf0_22, eX0_visit_93, eX0_visit_94, eX0_visit_97, eX0_visit_98, eX0_visit_101, iv0_80, c_X2_enabledSet, eX0_visit_104, eX0_visit_105, eX0_visit_106, eX0_visit_107, eX0_visit_110, eX0_visit_111, eX0_visit_112, pf0_38, eX0_visit_115, eX0_visit_116, eX0_visit_119, eX0_visit_121, eX0_visit_122, eX0_visit_125, eX0_visit_126, d_X0_visit, re_X0_visit])
  rcases hf with rfl | ⟨n, hn, rfl⟩
  · rw [iteC_t rfl] at h81
    simp (disch := omega) only [nI_mul, nI_add, nI_clamp, nI_inE, nI_leE, nI_ltE, nI_eqE, nI_eqz, nI_ltz, nI_gez, nI_lez, nI_gtz, nI_m1, nI_m1', nI_ltm, nI_gem, nI_gtm, nI_lem, nI_00, nI_01, nI_10, nI_11, bI_z, bI_1, bI_0, bI_b, bI_nz, bit_e, arK_i, arK_b, arK_j, true_and, and_true, ne_eq, not_false_eq_true, not_true_eq_false, false_and, and_false, true_or, or_true, false_or, or_false, Classical.not_not, forall_const, true_implies, implies_true, false_implies, eq_self, sI_K, sI_L, sI_P, sI_J, sI_Z, sI_Ie, sR_K, sR_L, sR_P, sR_J, sR_Z, sR_Ie, sP_K, sP_L, sP_I, sP_J, sP_Z, sP_Pe, sJ_K, sJ_L, sJ_P, sJ_I, sJ_Z, sJ_Je, s0, s1, s2, s3, s4, s5, s6, s7, k1, l1, k2, l2, k3, l3, k4, l4, k5, l5, k6, l6, v1, v2, sI_Ia]
    exact ⟨by omega, by omega, by omega, h81⟩
  · rw [iteC_f (by rw [nI_m1 (by omega)]; exact id), nI_clamp (by omega)] at h81
    simp (disch := omega) only [nI_mul, nI_add, nI_clamp, nI_inE, nI_leE, nI_ltE, nI_eqE, nI_eqz, nI_ltz, nI_gez, nI_lez, nI_gtz, nI_m1, nI_m1', nI_ltm, nI_gem, nI_gtm, nI_lem, nI_00, nI_01, nI_10, nI_11, bI_z, bI_1, bI_0, bI_b, bI_nz, bit_e, arK_i, arK_b, arK_j, true_and, and_true, ne_eq, not_false_eq_true, not_true_eq_false, false_and, and_false, true_or, or_true, false_or, or_false, Classical.not_not, forall_const, true_implies, implies_true, false_implies, eq_self, sI_K, sI_L, sI_P, sI_J, sI_Z, sI_Ie, sR_K, sR_L, sR_P, sR_J, sR_Z, sR_Ie, sP_K, sP_L, sP_I, sP_J, sP_Z, sP_Pe, sJ_K, sJ_L, sJ_P, sJ_I, sJ_Z, sJ_Je, s0, s1, s2, s3, s4, s5, s6, s7, k1, l1, k2, l2, k3, l3, k4, l4, k5, l5, k6, l6, v1, v2, (v3 n hn).2.1, sI_Ia]
    exact ⟨by omega, by omega, by omega, by omega, h81⟩
theorem c_visit {h : MH} {i np nt : Nat} {E : EE} {w : Nat → Int32} {q : Int64} {fr tr : Int32} (hA : XA h i E w np nt) (hf : fr = -1 ∨ ∃ n, n < exC E ∧ fr = nI n) : CT x sX0_visit [.ref i, .long q, .int fr, .int tr] h (pV fun h' => XA h' i (visE w np nt E q fr tr) w np nt ∧ FRr h h' i (i + 14)) xNo := by
  have hA0 := hA
  obtain ⟨hS, hV, hX, hT⟩ := hA
  have hC := c_slotOf (x := x) (q := q) hS hV hT
  obtain ⟨s0, s1, s2, s3, s4, s5, s6, s7, k1, l1, k2, l2, k3, l3, k4, l4, k5, l5, k6, l6⟩ := hS
  obtain ⟨v0, v1, v2, v3⟩ := hV
  (refine CT_of (o := 0) rfl (by decide +kernel) (by simp [Value.category, sX0_visit]) (MW_ev kX0_visit 300 ?_); show evS _ _ _ _ _ _ 300 0 (0, 0) [.ref i, .long q, .null, .int fr, .int tr, .null] [] _; simp only [st_iconst, st_lconst, st_ldc2_w, st_ldc, st_iload, st_lload, st_aload, st_istore, st_astore, st_lstore, st_iinc, st_iadd, st_isub, st_imul, st_idiv, st_irem, st_iand, st_ior, st_ishl, st_ishr, st_iushr, st_ladd, st_lmul, st_lshl, st_lushr, st_lcmp, st_i2l, st_l2i, st_i2b, st_i2c, st_i2d, st_i2f, st_dconst, st_fconst, st_ddiv, st_fdiv, st_dup, st_dup2, st_pop, st_goto, st_if_icmp, st_ifCond, st_tableswitch, st_lookupswitch, st_iaload, st_baload, st_laload, st_aaload, st_iastore, st_bastore, st_lastore, st_aastore, st_saload, st_faload, st_jsr, st_caload, st_d2i, st_d2f, st_ineg, st_ixor, st_dup_x1, st_aconst_null, st_ifnonnull, st_castore, st_getstatic, st_frem, st_drem, st_monitorexit, st_monitorenter, st_invokeinterface, st_newarray, st_anewarray, st_multianewarray, asI_c, asJ_c, asR_c, asD_c, asF_c, popI_c, popJ_c, popR_c, popD_c, popF_c, pop1_c, okSt_0, okSt_S, rcv_0, rcv_1, rcv_2, rcv_3, rcv_4, rcv_5, rcv_8, pI_c, pJ_c, pR_c, pV_c, pD_c, pF_c, cmp_eq, cmp_ne, cmp_lt, cmp_ge, cmp_gt, cmp_le, nth_0, nth_S, set_0, set_S, cat_int, cat_ref, cat_long, cat_double, cat_float, cat_null, catS_0, catS_S, swT_0, swT_S, swL_0, swL_S, Nat.add_zero, Nat.reduceAdd, Nat.reduceSub, Nat.reduceLT, Nat.reduceLeDiff, true_and, and_true, eq_self, eX0_visit_0, fX0_visit_0, eX0_visit_1, eX0_visit_2, iv0_72, c_X0_slotOf, eX0_visit_5, eX0_visit_7, eX0_visit_8, gf0_28, eX0_visit_11, eX0_visit_13, eX0_visit_14, tn_18, eX0_visit_17, eX0_visit_18, eX0_visit_19, gf0_38, eX0_visit_22, cI_150, eX0_visit_25, tn_34, eX0_visit_28, eX0_visit_29, cI_0, eX0_visit_30, pf0_42, eX0_visit_33, eX0_visit_34, fX0_visit_34, eX0_visit_35, gf0_9, eX0_visit_38, eX0_visit_39, eX0_visit_42, eX0_visit_43, eX0_visit_44, eX0_visit_45, gf0_15, eX0_visit_48, eX0_visit_49, eX0_visit_52, eX0_visit_53, cI_m1, eX0_visit_54, tn_61, eX0_visit_57, eX0_visit_58, tn_69, eX0_visit_61, eX0_visit_62, eX0_visit_65, eX0_visit_66, eX0_visit_67, cI_1, eX0_visit_68, eX0_visit_69, eX0_visit_70, eX0_visit_71, gf0_19, eX0_visit_74, eX0_visit_75, eX0_visit_78, eX0_visit_80, eX0_visit_81, fX0_visit_81, eX0_visit_82, gf0_34, eX0_visit_85, eX0_visit_86, iv0_76, c_X2_unpackMarking, eX0_visit_89, eX0_visit_90, gf0_22, eX0_visit_93, eX0_visit_94, eX0_visit_97, eX0_visit_98, eX0_visit_101, iv0_80, c_X2_enabledSet, eX0_visit_104, eX0_visit_105, eX0_visit_106, eX0_visit_107, eX0_visit_110, eX0_visit_111, eX0_visit_112, pf0_38, eX0_visit_115, eX0_visit_116, eX0_visit_119, eX0_visit_121, eX0_visit_122, eX0_visit_125, eX0_visit_126, d_X0_visit, re_X0_visit])
  refine ⟨s0, CI_of hC (fun _ _ z => z.elim) ?_⟩
  rintro r h' ⟨⟨j, rfl, hj, hr⟩, rfl⟩
  rcases hr with ⟨g1, g2, g3⟩ | ⟨n, g1, g2, g3⟩
  · have hne : ¬ ∃ n, n < exC E ∧ exK E n = q := fun ⟨n, a, b⟩ => g2 n a b
    rw [show visE w np nt E q fr tr = _ from iteC_f hne]
    rcases Nat.lt_or_ge (exC E) 150 with hc | hc
    · have hc2 : ¬ 150 ≤ exC E := by omega
      rw [iteC_f hc2]
      simp (disch := omega) only [nI_mul, nI_add, nI_clamp, nI_inE, nI_leE, nI_ltE, nI_eqE, nI_eqz, nI_ltz, nI_gez, nI_lez, nI_gtz, nI_m1, nI_m1', nI_ltm, nI_gem, nI_gtm, nI_lem, nI_00, nI_01, nI_10, nI_11, bI_z, bI_1, bI_0, bI_b, bI_nz, bit_e, arK_i, arK_b, arK_j, true_and, and_true, ne_eq, not_false_eq_true, not_true_eq_false, false_and, and_false, true_or, or_true, false_or, or_false, Classical.not_not, forall_const, true_implies, implies_true, false_implies, eq_self, s0, s1, s2, s3, s4, s5, s6, s7, k1, l1, k2, l2, k3, l3, k4, l4, k5, l5, k6, l6, v1, v2, g1, hc2]
      exact ⟨by omega, fun _ => c_visit34 hA0 hf hc hj g1 g3, fun z => absurd hc z⟩
    · have hc2 : 150 ≤ exC E := hc
      rw [iteC_t hc2]
      simp (disch := omega) only [nI_mul, nI_add, nI_clamp, nI_inE, nI_leE, nI_ltE, nI_eqE, nI_eqz, nI_ltz, nI_gez, nI_lez, nI_gtz, nI_m1, nI_m1', nI_ltm, nI_gem, nI_gtm, nI_lem, nI_00, nI_01, nI_10, nI_11, bI_z, bI_1, bI_0, bI_b, bI_nz, bit_e, arK_i, arK_b, arK_j, true_and, and_true, ne_eq, not_false_eq_true, not_true_eq_false, false_and, and_false, true_or, or_true, false_or, or_false, Classical.not_not, forall_const, true_implies, implies_true, false_implies, eq_self, sI_K, sI_L, sI_P, sI_J, sI_Z, sI_Ie, sR_K, sR_L, sR_P, sR_J, sR_Z, sR_Ie, sP_K, sP_L, sP_I, sP_J, sP_Z, sP_Pe, sJ_K, sJ_L, sJ_P, sJ_I, sJ_Z, sJ_Je, s0, s1, s2, s3, s4, s5, s6, s7, k1, l1, k2, l2, k3, l3, k4, l4, k5, l5, k6, l6, v1, v2, g1, hc2]
      refine ⟨by omega, fun z => absurd z (by omega), fun _ => ⟨⟨XS_of hA0.1 (fun _ => rfl) (fun _ => rfl) (fun _ => rfl), ⟨v0, (sI_Ik (by decide)).trans v1, sI_Ie.trans (bI_f id).symm, fun n hn => ?_⟩, ⟨hX.1, ?_, hX.2.2⟩, ?_⟩, FRr_sI (by omega) (by omega)⟩⟩
      · obtain ⟨y1, y2, y3, y4⟩ := v3 n hn
        exact ⟨y1, (sI_Ia (by omega)).trans y2, (sI_Ia (by omega)).trans y3, (sI_Ia (by omega)).trans y4⟩
      · obtain ⟨u, hN, hu⟩ := hX.2.1
        exact ⟨u, NW_fr hN (FRr_sI (Nat.le_refl i) (Nat.lt_succ_self i)) (by omega), hu⟩
      · have : mI (sI h' i 8 (nI 0)) (i + 6) = mI h' (i + 6) := funext fun k => sI_Ia (by omega)
        rw [this]; exact hT
  · have hex : ∃ n, n < exC E ∧ exK E n = q := ⟨n, g1, g3⟩
    rw [show visE w np nt E q fr tr = E from iteC_t hex]
    simp (disch := omega) only [nI_mul, nI_add, nI_clamp, nI_inE, nI_leE, nI_ltE, nI_eqE, nI_eqz, nI_ltz, nI_gez, nI_lez, nI_gtz, nI_m1, nI_m1', nI_ltm, nI_gem, nI_gtm, nI_lem, nI_00, nI_01, nI_10, nI_11, bI_z, bI_1, bI_0, bI_b, bI_nz, bit_e, arK_i, arK_b, arK_j, true_and, and_true, ne_eq, not_false_eq_true, not_true_eq_false, false_and, and_false, true_or, or_true, false_or, or_false, Classical.not_not, forall_const, true_implies, implies_true, false_implies, eq_self, s0, s1, s2, s3, s4, s5, s6, s7, k1, l1, k2, l2, k3, l3, k4, l4, k5, l5, k6, l6, v1, v2, g2]
    exact ⟨by omega, fun z => absurd z (by omega), fun _ => ⟨hA0, FRr_rfl⟩⟩
end EXP
