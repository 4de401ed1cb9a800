section HIS
variable {x : CX}
def FRs (h h' : MH) (S : Nat → Prop) : Prop := mZ h' = mZ h ∧ (∀ a, mK h' a = mK h a) ∧ (∀ a, mL h' a = mL h a) ∧ (∀ a, ¬ S a → ∀ k, mI h' a k = mI h a k ∧ mP h' a k = mP h a k ∧ mJ h' a k = mJ h a k)
theorem FRs_r {h h' : MH} {lo hi : Nat} {S : Nat → Prop} (a : FRr h h' lo hi) (hS : ∀ a, lo ≤ a → a < hi → S a) : FRs h h' S :=
  ⟨a.1, a.2.1, a.2.2.1, fun z hz k => a.2.2.2 z (Decidable.byContradiction fun g => hz (hS z (by omega) (by omega))) k⟩
theorem FRs_rfl {h : MH} {S : Nat → Prop} : FRs h h S := ⟨rfl, fun _ => rfl, fun _ => rfl, fun _ _ _ => ⟨rfl, rfl, rfl⟩⟩
theorem FRs_tr {h h' h'' : MH} {S : Nat → Prop} (a : FRs h h' S) (b : FRs h' h'' S) : FRs h h'' S :=
  ⟨b.1.trans a.1, fun z => (b.2.1 z).trans (a.2.1 z), fun z => (b.2.2.1 z).trans (a.2.2.1 z), fun z hz k => ⟨((b.2.2.2 z hz k).1).trans (a.2.2.2 z hz k).1, ((b.2.2.2 z hz k).2.1).trans (a.2.2.2 z hz k).2.1, ((b.2.2.2 z hz k).2.2).trans (a.2.2.2 z hz k).2.2⟩⟩
theorem FRs_mono {h h' : MH} {S T : Nat → Prop} (a : FRs h h' S) (hS : ∀ a, S a → T a) : FRs h h' T := ⟨a.1, a.2.1, a.2.2.1, fun z hz k => a.2.2.2 z (fun g => hz (hS z g)) k⟩
theorem FRs_sI {h : MH} {a k : Nat} {v : Int32} {S : Nat → Prop} (hS : S a) : FRs h (sI h a k v) S := FRs_r (FRr_sI (Nat.le_refl a) (Nat.lt_succ_self a)) fun z h1 h2 => by rw [show z = a by omega]; exact hS
theorem FRs_sJ {h : MH} {a k : Nat} {v : Int64} {S : Nat → Prop} (hS : S a) : FRs h (sJ h a k v) S := FRs_r (FRr_sJ (Nat.le_refl a) (Nat.lt_succ_self a)) fun z h1 h2 => by rw [show z = a by omega]; exact hS
theorem FRs_to {h h' : MH} {lo hi : Nat} {S : Nat → Prop} (a : FRs h h' S) (hS : ∀ a, S a → lo ≤ a ∧ a < hi) : FRr h h' lo hi :=
  ⟨a.1, a.2.1, a.2.2.1, fun z hz k => a.2.2.2 z (fun g => by have := hS z g; omega) k⟩
theorem NW_fs {h h' : MH} {i : Nat} {w : Nat → Int32} {S : Nat → Prop} (hN : NW h i w) (hF : FRs h h' S) (hd : ∀ a, i ≤ a → a < i + 7 → ¬ S a) : NW h' i w := by
  obtain ⟨⟨n0, n1, n2, A, B, C, D, E, G⟩, s2, s3, s4, s6, s7⟩ := hN
  have p : ∀ k, mP h' i k = mP h i k := fun k => (hF.2.2.2 i (hd i (by omega) (by omega)) k).2.1
  have q : ∀ k, mI h' i k = mI h i k := fun k => (hF.2.2.2 i (hd i (by omega) (by omega)) k).1
  have r : ∀ {a n off : Nat}, nA h w a n off → i ≤ a → a < i + 7 → nA h' w a n off := fun {a n off} hA g1 g2 =>
    ⟨hA.1, (hF.2.1 a).trans hA.2.1, (hF.2.2.1 a).trans hA.2.2.1, fun k hk => ((hF.2.2.2 a (hd a g1 g2) k).1).trans (hA.2.2.2 k hk)⟩
  refine ⟨⟨(hF.2.1 i).trans n0, (q 0).trans n1, (q 1).trans n2, ?_, ?_, ?_, ?_, ?_, ?_⟩, ?_⟩
  · rw [p]; exact r A (by omega) (by omega)
  · rw [p]; exact r B (by omega) (by omega)
  · rw [p]; exact r C (by omega) (by omega)
  · rw [p]; exact r D (by omega) (by omega)
  · rw [p]; exact r E (by omega) (by omega)
  · rw [p]; exact r G (by omega) (by omega)
  · simp only [NS, p]; exact ⟨s2, s3, s4, s6, s7⟩
/-- the nets before the latest changes, the latest first -/
def HSn (h : MH) (i : Nat) (P : Nat → Nat → Int32) (cnt nxt : Nat) : Prop :=
  mK h i = 2 ∧ mP h i 0 = i + 1 ∧ mI h i 1 = nI nxt ∧ nxt < 10 ∧ mI h i 2 = nI cnt ∧ cnt ≤ 10 ∧ mK h (i + 1) = 14 ∧ mL h (i + 1) = 10 ∧ (∀ j, j < 10 → mP h (i + 1) j = i + 2 + 7 * j ∧ ∃ w, NW h (i + 2 + 7 * j) w) ∧ ∀ m, m < cnt → NW h (i + 2 + 7 * ((nxt + 9 - m) % 10)) (P m)
def HS (h : MH) (i : Nat) (P : Nat → Nat → Int32) (cnt : Nat) : Prop := ∃ nxt, HSn h i P cnt nxt
theorem HSn_fs {h h' : MH} {i cnt nxt : Nat} {P : Nat → Nat → Int32} {S : Nat → Prop} (hH : HSn h i P cnt nxt) (hF : FRs h h' S) (hd : ∀ a, i ≤ a → a < i + 72 → ¬ S a) : HSn h' i P cnt nxt := by
  obtain ⟨a1, a2, a3, a4, a5, a6, a7, a8, a9, a10⟩ := hH
  have p : ∀ a k, i ≤ a → a < i + 72 → mP h' a k = mP h a k := fun a k g1 g2 => (hF.2.2.2 a (hd a g1 g2) k).2.1
  have q : ∀ a k, i ≤ a → a < i + 72 → mI h' a k = mI h a k := fun a k g1 g2 => (hF.2.2.2 a (hd a g1 g2) k).1
  refine ⟨(hF.2.1 i).trans a1, (p _ _ (by omega) (by omega)).trans a2, (q _ _ (by omega) (by omega)).trans a3, a4, (q _ _ (by omega) (by omega)).trans a5, a6, (hF.2.1 _).trans a7, (hF.2.2.1 _).trans a8, fun j hj => ⟨(p _ _ (by omega) (by omega)).trans (a9 j hj).1, ?_⟩, fun m hm => NW_fs (a10 m hm) hF fun a g1 g2 => hd a (by omega) (by omega)⟩
  obtain ⟨w, hw⟩ := (a9 j hj).2
  exact ⟨w, NW_fs hw hF fun a g1 g2 => hd a (by omega) (by omega)⟩
theorem HS_fs {h h' : MH} {i cnt : Nat} {P : Nat → Nat → Int32} {S : Nat → Prop} (hH : HS h i P cnt) (hF : FRs h h' S) (hd : ∀ a, i ≤ a → a < i + 72 → ¬ S a) : HS h' i P cnt :=
  let ⟨n, g⟩ := hH; ⟨n, HSn_fs g hF hd⟩
def pushP (u : Nat → Int32) (P : Nat → Nat → Int32) : Nat → Nat → Int32 := fun m => if m = 0 then u else P (m - 1)
def upto10 (n : Nat) : Nat := if n < 10 then n + 1 else 10
theorem HSn_push {h h1 : MH} {i cnt nxt : Nat} {P : Nat → Nat → Int32} {u : Nat → Int32} (hH : HSn h i P cnt nxt) (hN : NW h1 (i + 2 + 7 * nxt) u) (hF : FRr h h1 (i + 2 + 7 * nxt) (i + 2 + 7 * nxt + 7)) : HSn (sI (sI h1 i 1 (nI ((nxt + 1) % 10))) i 2 (nI (upto10 cnt))) i (pushP u P) (upto10 cnt) ((nxt + 1) % 10) := by
  obtain ⟨a1, a2, a3, a4, a5, a6, a7, a8, a9, a10⟩ := hH
  have hF2 : FRr h1 (sI (sI h1 i 1 (nI ((nxt + 1) % 10))) i 2 (nI (upto10 cnt))) i (i + 1) := FRr_tr (FRr_sI (Nat.le_refl i) (Nat.lt_succ_self i)) (FRr_sI (Nat.le_refl i) (Nat.lt_succ_self i))
  have hu : upto10 cnt ≤ 10 := by unfold upto10; split <;> omega
  refine ⟨(hF.2.1 i).trans a1, ((hF.2.2.2 i (by omega) 0).2.1).trans a2, by rw [sI_Ik (by decide), sI_Ie], Nat.mod_lt _ (by decide), sI_Ie, hu, (hF.2.1 _).trans a7, (hF.2.2.1 _).trans a8, fun j hj => ⟨((hF.2.2.2 (i + 1) (by omega) j).2.1).trans (a9 j hj).1, ?_⟩, fun m hm => ?_⟩
  · by_cases g : j = nxt
    · subst g; exact ⟨u, NW_fr hN hF2 (by omega)⟩
    · obtain ⟨w, hw⟩ := (a9 j hj).2
      exact ⟨w, NW_fr (NW_fr hw hF (by omega)) hF2 (by omega)⟩
  · rcases Nat.eq_zero_or_pos m with g | g
    · subst g
      rw [show ((nxt + 1) % 10 + 9 - 0) % 10 = nxt by omega]
      exact NW_fr hN hF2 (by omega)
    · have hm2 : m - 1 < cnt := by unfold upto10 at hm; split at hm <;> omega
      have hm3 : m < 10 := by unfold upto10 at hm; split at hm <;> omega
      have e : ((nxt + 1) % 10 + 9 - m) % 10 = (nxt + 9 - (m - 1)) % 10 := by omega
      have e2 : (nxt + 9 - (m - 1)) % 10 ≠ nxt := by omega
      rw [e, show pushP u P m = P (m - 1) from if_neg (by omega)]
      exact NW_fr (NW_fr (a10 (m - 1) hm2) hF (by omega)) hF2 (by omega)
theorem c_push {h : MH} {i j cnt : Nat} {P : Nat → Nat → Int32} {u : Nat → Int32} (hH : HS h i P cnt) (hN : NW h j u) (hij : i + 72 ≤ j ∨ j + 7 ≤ i) : CT x sX1_push [.ref i, .ref j] h (pV fun h' => HS h' i (pushP u P) (upto10 cnt) ∧ FRr h h' i (i + 72)) xNo := by
  obtain ⟨nxt, a1, a2, a3, a4, a5, a6, a7, a8, a9, a10⟩ := hH
  have r1 := (a9 nxt a4).1
  (refine CT_of (o := 1) rfl (by decide +kernel) (by simp [Value.category, sX1_push]) (MW_ev kX1_push 300 ?_); show evS _ _ _ _ _ _ 300 0 (0, 0) [.ref i, .ref j] [] _; simp only [st_iconst, st_lconst, st_ldc2_w, st_ldc, st_iload, st_lload, st_aload, st_istore, st_astore, st_lstore, st_iinc, st_iadd, st_isub, st_imul, st_idiv, st_irem, st_iand, st_ior, st_ishl, st_ishr, st_iushr, st_ladd, st_lmul, st_lshl, st_lushr, st_lcmp, st_i2l, st_l2i, st_i2b, st_i2c, st_i2d, st_i2f, st_dconst, st_fconst, st_ddiv, st_fdiv, st_dup, st_dup2, st_pop, st_goto, st_if_icmp, st_ifCond, st_tableswitch, st_lookupswitch, st_iaload, st_baload, st_laload, st_aaload, st_iastore, st_bastore, st_lastore, st_aastore, st_saload, st_faload, st_jsr, st_caload, st_d2i, st_d2f, st_ineg, st_ixor, st_dup_x1, st_aconst_null, st_ifnonnull, st_castore, st_getstatic, st_frem, st_drem, st_monitorexit, st_monitorenter, st_invokeinterface, st_newarray, st_anewarray, st_multianewarray, asI_c, asJ_c, asR_c, asD_c, asF_c, popI_c, popJ_c, popR_c, popD_c, popF_c, pop1_c, okSt_0, okSt_S, rcv_0, rcv_1, rcv_2, rcv_3, rcv_4, rcv_5, rcv_8, pI_c, pJ_c, pR_c, pV_c, pD_c, pF_c, cmp_eq, cmp_ne, cmp_lt, cmp_ge, cmp_gt, cmp_le, nth_0, nth_S, set_0, set_S, cat_int, cat_ref, cat_long, cat_double, cat_float, cat_null, catS_0, catS_S, swT_0, swT_S, swL_0, swL_S, Nat.add_zero, Nat.reduceAdd, Nat.reduceSub, Nat.reduceLT, Nat.reduceLeDiff, true_and, and_true, eq_self, eX1_push_0, fX1_push_0, eX1_push_1, gf1_11, eX1_push_4, eX1_push_5, gf1_18, eX1_push_8, eX1_push_9, eX1_push_10, iv1_25, c_X2_copyFrom, eX1_push_13, eX1_push_14, eX1_push_15, eX1_push_18, cI_1, eX1_push_19, eX1_push_20, cI_10, eX1_push_22, tn_34, eX1_push_25, eX1_push_26, eX1_push_29, eX1_push_30, eX1_push_31, tn_35, eX1_push_34, cI_0, eX1_push_35, pf1_18, eX1_push_38, eX1_push_39, eX1_push_40, gf1_22, eX1_push_43, eX1_push_44, eX1_push_45, eX1_push_47, eX1_push_50, pf1_22, eX1_push_53, d_X1_push, re_X1_push])
  simp (disch := omega) only [nI_mul, nI_add, nI_clamp, nI_inE, nI_leE, nI_ltE, nI_eqE, nI_eqz, nI_ltz, nI_gez, nI_lez, nI_gtz, nI_m1, nI_m1', nI_ltm, nI_gem, nI_gtm, nI_lem, nI_00, nI_01, nI_10, nI_11, bI_z, bI_1, bI_0, bI_b, bI_nz, bit_e, arK_i, arK_b, arK_j, true_and, and_true, ne_eq, not_false_eq_true, not_true_eq_false, false_and, and_false, true_or, or_true, false_or, or_false, Classical.not_not, forall_const, true_implies, implies_true, false_implies, eq_self, a1, a2, a3, a5, a7, a8, r1, rcv_2]
  have hH : HSn h i P cnt nxt := ⟨a1, a2, a3, a4, a5, a6, a7, a8, a9, a10⟩
  obtain ⟨w0, hw0⟩ := (a9 nxt a4).2
  refine ⟨by omega, by omega, hw0.1.1, CV_of (c_copyFrom hw0 hN (by omega)) (fun _ _ z => z.elim) fun h1 ⟨hN1, hF1⟩ => ?_⟩
  have hP := HSn_push hH hN1 hF1
  have b1 : mK h1 i = 2 := (hF1.2.1 i).trans a1
  have b3 : mI h1 i 1 = nI nxt := ((hF1.2.2.2 i (by omega) 1).1).trans a3
  have b5 : mI h1 i 2 = nI cnt := ((hF1.2.2.2 i (by omega) 2).1).trans a5
  have hFF : FRr h (sI (sI h1 i 1 (nI ((nxt + 1) % 10))) i 2 (nI (upto10 cnt))) i (i + 72) := FRr_tr (FRr_mono hF1 (by omega) (by omega)) (FRr_tr (FRr_sI (by omega) (by omega)) (FRr_sI (by omega) (by omega)))
  have ec : (if 10 < cnt + 1 then nI 10 else nI (cnt + 1)) = nI (upto10 cnt) := by
    unfold upto10
    split <;> split <;> first | rfl | (congr 1; omega)
  simp (disch := omega) only [nI_mul, nI_add, nI_clamp, nI_inE, nI_leE, nI_ltE, nI_eqE, nI_eqz, nI_ltz, nI_gez, nI_lez, nI_gtz, nI_m1, nI_m1', nI_ltm, nI_gem, nI_gtm, nI_lem, nI_00, nI_01, nI_10, nI_11, bI_z, bI_1, bI_0, bI_b, bI_nz, bit_e, arK_i, arK_b, arK_j, true_and, and_true, ne_eq, not_false_eq_true, not_true_eq_false, false_and, and_false, true_or, or_true, false_or, or_false, Classical.not_not, forall_const, true_implies, implies_true, false_implies, eq_self, sI_K, sI_L, sI_P, sI_J, sI_Z, sI_Ie, sR_K, sR_L, sR_P, sR_J, sR_Z, sR_Ie, sP_K, sP_L, sP_I, sP_J, sP_Z, sP_Pe, sJ_K, sJ_L, sJ_P, sJ_I, sJ_Z, sJ_Je, b1, b3, b5, sI_Ik, ec]
  refine ⟨fun g => ?_, fun g => ?_⟩
  · rw [show (nxt + 1) % 10 = 0 by omega] at hP hFF
    exact ⟨⟨_, hP⟩, hFF⟩
  · rw [show (nxt + 1) % 10 = nxt + 1 by omega] at hP hFF
    exact ⟨⟨_, hP⟩, hFF⟩
theorem c_popInto {h : MH} {i j cnt : Nat} {P : Nat → Nat → Int32} {u : Nat → Int32} (hH : HS h i P (cnt + 1)) (hN : NW h j u) (hij : i + 72 ≤ j ∨ j + 7 ≤ i) : CT x sX1_popInto [.ref i, .ref j] h (pV fun h' => HS h' i (fun m => P (m + 1)) cnt ∧ NW h' j (P 0) ∧ FRs h h' fun a => i ≤ a ∧ a < i + 72 ∨ j ≤ a ∧ a < j + 7) xNo := by
  obtain ⟨nxt, a1, a2, a3, a4, a5, a6, a7, a8, a9, a10⟩ := hH
  have key : ∀ n', n' = (nxt + 9) % 10 → ∀ h1, h1 = sI (sI h i 1 (nI n')) i 2 (nI cnt) → mK h1 j = 3 ∧ mP h1 (i + 1) n' = i + 2 + 7 * n' ∧ CALLV x sX2_copyFrom [.ref j, .ref (i + 2 + 7 * n')] h1 xNo fun h' => HS h' i (fun m => P (m + 1)) cnt ∧ NW h' j (P 0) ∧ FRs h h' fun a => i ≤ a ∧ a < i + 72 ∨ j ≤ a ∧ a < j + 7 := by
    intro n' hn h1 hh
    have hF2 : FRr h h1 i (i + 1) := by rw [hh]; exact FRr_tr (FRr_sI (Nat.le_refl i) (Nat.lt_succ_self i)) (FRr_sI (Nat.le_refl i) (Nat.lt_succ_self i))
    have hNj := NW_fr hN hF2 (by omega)
    have hR := NW_fr (a10 0 (by omega)) hF2 (by omega)
    rw [Nat.sub_zero, ← hn] at hR
    refine ⟨(hF2.2.1 j).trans hN.1.1, ((hF2.2.2.2 (i + 1) (by omega) n').2.1).trans (a9 n' (by omega)).1, CV_of (c_copyFrom hNj hR (by omega)) (fun _ _ z => z.elim) fun h2 ⟨hN2, hF3⟩ => ⟨⟨n', ?_⟩, hN2, FRs_tr (FRs_r hF2 fun a g1 g2 => Or.inl ⟨g1, by omega⟩) (FRs_r hF3 fun a g1 g2 => Or.inr ⟨g1, g2⟩)⟩⟩
    have hA : HSn h1 i (fun m => P (m + 1)) cnt n' := by
      refine ⟨(hF2.2.1 i).trans a1, ((by rw [hh]; rfl : mP h1 i 0 = mP h i 0)).trans a2, by rw [hh, sI_Ik (by decide), sI_Ie], by omega, by rw [hh, sI_Ie], by omega, (hF2.2.1 _).trans a7, (hF2.2.2.1 _).trans a8, fun j hj => ⟨((hF2.2.2.2 (i + 1) (by omega) j).2.1).trans (a9 j hj).1, ?_⟩, fun m hm => ?_⟩
      · obtain ⟨w, hw⟩ := (a9 j hj).2
        exact ⟨w, NW_fr hw hF2 (by omega)⟩
      · have := NW_fr (a10 (m + 1) (by omega)) hF2 (by omega)
        rwa [show (nxt + 9 - (m + 1)) % 10 = (n' + 9 - m) % 10 by omega] at this
    exact HSn_fs hA (FRs_r (S := fun a => j ≤ a ∧ a < j + 7) hF3 fun a g1 g2 => ⟨g1, g2⟩) fun a g1 g2 g => by omega
  (refine CT_of (o := 1) rfl (by decide +kernel) (by simp [Value.category, sX1_popInto]) (MW_ev kX1_popInto 300 ?_); show evS _ _ _ _ _ _ 300 0 (0, 0) [.ref i, .ref j] [] _; simp only [st_iconst, st_lconst, st_ldc2_w, st_ldc, st_iload, st_lload, st_aload, st_istore, st_astore, st_lstore, st_iinc, st_iadd, st_isub, st_imul, st_idiv, st_irem, st_iand, st_ior, st_ishl, st_ishr, st_iushr, st_ladd, st_lmul, st_lshl, st_lushr, st_lcmp, st_i2l, st_l2i, st_i2b, st_i2c, st_i2d, st_i2f, st_dconst, st_fconst, st_ddiv, st_fdiv, st_dup, st_dup2, st_pop, st_goto, st_if_icmp, st_ifCond, st_tableswitch, st_lookupswitch, st_iaload, st_baload, st_laload, st_aaload, st_iastore, st_bastore, st_lastore, st_aastore, st_saload, st_faload, st_jsr, st_caload, st_d2i, st_d2f, st_ineg, st_ixor, st_dup_x1, st_aconst_null, st_ifnonnull, st_castore, st_getstatic, st_frem, st_drem, st_monitorexit, st_monitorenter, st_invokeinterface, st_newarray, st_anewarray, st_multianewarray, asI_c, asJ_c, asR_c, asD_c, asF_c, popI_c, popJ_c, popR_c, popD_c, popF_c, pop1_c, okSt_0, okSt_S, rcv_0, rcv_1, rcv_2, rcv_3, rcv_4, rcv_5, rcv_8, pI_c, pJ_c, pR_c, pV_c, pD_c, pF_c, cmp_eq, cmp_ne, cmp_lt, cmp_ge, cmp_gt, cmp_le, nth_0, nth_S, set_0, set_S, cat_int, cat_ref, cat_long, cat_double, cat_float, cat_null, catS_0, catS_S, swT_0, swT_S, swL_0, swL_S, Nat.add_zero, Nat.reduceAdd, Nat.reduceSub, Nat.reduceLT, Nat.reduceLeDiff, true_and, and_true, eq_self, eX1_popInto_0, fX1_popInto_0, eX1_popInto_1, eX1_popInto_2, gf1_18, eX1_popInto_5, tn_17, eX1_popInto_8, eX1_popInto_9, eX1_popInto_12, cI_1, eX1_popInto_13, eX1_popInto_14, tn_19, eX1_popInto_17, cI_9, eX1_popInto_19, pf1_18, eX1_popInto_22, eX1_popInto_23, eX1_popInto_24, gf1_22, eX1_popInto_27, eX1_popInto_28, eX1_popInto_29, pf1_22, eX1_popInto_32, eX1_popInto_33, eX1_popInto_34, gf1_11, eX1_popInto_37, eX1_popInto_38, eX1_popInto_41, eX1_popInto_42, iv1_25, c_X2_copyFrom, eX1_popInto_45, d_X1_popInto, re_X1_popInto])
  rcases Nat.eq_zero_or_pos nxt with g | g
  · simp (disch := omega) only [nI_mul, nI_add, nI_clamp, nI_inE, nI_leE, nI_ltE, nI_eqE, nI_eqz, nI_ltz, nI_gez, nI_lez, nI_gtz, nI_m1, nI_m1', nI_ltm, nI_gem, nI_gtm, nI_lem, nI_00, nI_01, nI_10, nI_11, bI_z, bI_1, bI_0, bI_b, bI_nz, bit_e, arK_i, arK_b, arK_j, true_and, and_true, ne_eq, not_false_eq_true, not_true_eq_false, false_and, and_false, true_or, or_true, false_or, or_false, Classical.not_not, forall_const, true_implies, implies_true, false_implies, eq_self, sI_K, sI_L, sI_P, sI_J, sI_Z, sI_Ie, sR_K, sR_L, sR_P, sR_J, sR_Z, sR_Ie, sP_K, sP_L, sP_I, sP_J, sP_Z, sP_Pe, sJ_K, sJ_L, sJ_P, sJ_I, sJ_Z, sJ_Je, a1, a2, a3, a5, a7, a8, rcv_2, sI_Ik, nI_sub, Nat.add_sub_cancel, g]
    obtain ⟨k1, k2, k3⟩ := key 9 (by omega) _ rfl
    simp only [sI_P, sI_K] at k1 k2
    simp only [k1, k2]
    exact ⟨by omega, by omega, trivial, k3⟩
  · have g2 : ¬ nxt = 0 := by omega
    simp (disch := omega) only [nI_mul, nI_add, nI_clamp, nI_inE, nI_leE, nI_ltE, nI_eqE, nI_eqz, nI_ltz, nI_gez, nI_lez, nI_gtz, nI_m1, nI_m1', nI_ltm, nI_gem, nI_gtm, nI_lem, nI_00, nI_01, nI_10, nI_11, bI_z, bI_1, bI_0, bI_b, bI_nz, bit_e, arK_i, arK_b, arK_j, true_and, and_true, ne_eq, not_false_eq_true, not_true_eq_false, false_and, and_false, true_or, or_true, false_or, or_false, Classical.not_not, forall_const, true_implies, implies_true, false_implies, eq_self, sI_K, sI_L, sI_P, sI_J, sI_Z, sI_Ie, sR_K, sR_L, sR_P, sR_J, sR_Z, sR_Ie, sP_K, sP_L, sP_I, sP_J, sP_Z, sP_Pe, sJ_K, sJ_L, sJ_P, sJ_I, sJ_Z, sJ_Je, a1, a2, a3, a5, a7, a8, rcv_2, sI_Ik, nI_sub, Nat.add_sub_cancel, g2]
    obtain ⟨k1, k2, k3⟩ := key (nxt - 1) (by omega) _ rfl
    simp only [sI_P, sI_K] at k1 k2
    simp only [k1, k2]
    exact ⟨by omega, by omega, trivial, k3⟩
end HIS
