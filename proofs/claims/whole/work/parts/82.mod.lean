section MOD
variable {x : CX}
/-- alike: both failed in the same way, or neither and the same net and token -/
def CE (c d : CR) : Prop := d.1 = c.1 ∧ (c.1 = 0 → d.2.2 = c.2.2) ∧ (¬ c.1 = 0 → d.2.1 = c.2.1)
theorem CE_rfl {c : CR} : CE c c := ⟨rfl, fun _ => rfl, fun _ => rfl⟩
theorem CS_ce {h0 h : MH} {j n : Nat} {U : Nat → Int32} {c d : CR} (hC : CS h0 h j U n c) (he : CE c d) : CS h0 h j U n d := by
  obtain ⟨ek, eo, w, t⟩ := c
  obtain ⟨dk, dO, v, u⟩ := d
  obtain ⟨e1, e2, e3⟩ := he
  have e1 : dk = ek := e1
  subst e1
  by_cases g : dk = 0
  · have e2 : (v, u) = (w, t) := e2 g
    cases e2
    exact ⟨hC.1, hC.2.1, hC.2.2.1, hC.2.2.2.1, hC.2.2.2.2.1, fun z => absurd g z⟩
  · exact CS_bad hC g rfl (e3 g)
/-- another net, nothing failed -/
theorem CS_w {h0 h h' : MH} {j n np nt eo : Nat} {U w' : Nat → Int32} {c : CR} {S : Nat → Nat → Prop} (hC : CS h0 h j U n c) (g : c.1 = 0) (hN : MN h' j w') (hB : NB w' np nt) (hF : FI h h' S) (hS : ∀ a k, S a k → a = j + 1) : CS h0 h' j U n (0, eo, w', c.2.2.2) := by
  have hF := FI_mono hF hS
  obtain ⟨q1, q2, q3, -, q5, -⟩ := hC
  obtain ⟨m22, m18, m17, m19, mb, mv⟩ := q5 g
  exact ⟨TX_fi q1 hF fun a k hk => by omega, FI_tr q2 (FI_mono hF fun a k hk => Or.inr hk), ⟨(hF.2.2.2.2 j 21 (by omega)).trans (q3.1.trans (by rw [g])), show 0 < 4 by decide⟩, ⟨w', np, nt, hN, hB, fun _ => rfl⟩, fun _ => ⟨(hF.2.2.2.2 j 22 (by omega)).trans m22, (hF.2.2.2.2 j 18 (by omega)).trans m18, (hF.2.2.2.2 j 17 (by omega)).trans m17, (hF.2.2.2.2 j 19 (by omega)).trans m19, mb, fun z => (hF.2.2.2.2 j 20 (by omega)).trans (mv z)⟩, fun z => absurd rfl z⟩
theorem en_ok {c : CR} (h : (enS c).1 = 0) : c.1 = 0 ∧ c.2.2.2.1 = 3 ∧ enS c = c := by
  unfold enS at *
  by_cases g : c.1 = 0
  · rw [iteC_t g] at *
    by_cases g2 : c.2.2.2.1 = 3
    · rw [iteC_t g2]; exact ⟨g, g2, rfl⟩
    · rw [iteC_f g2, show fS 1 c = _ from iteC_t g] at h
      exact absurd (show (1 : Nat) = 0 from h) (by decide)
  · rw [iteC_f g] at h; exact absurd h g
theorem en_bad {c : CR} (h : ¬ c.1 = 0) : enS c = c := iteC_f h
theorem en_no {c : CR} (h : c.1 = 0) (h2 : ¬ c.2.2.2.1 = 3) : enS c = (1, c.2.2.2.2.1, c.2.2.1, c.2.2.2) := (iteC_t h).trans ((iteC_f h2).trans (iteC_t h))
theorem en_yes {c : CR} (h : c.1 = 0) (h2 : c.2.2.2.1 = 3) : enS c = c := (iteC_t h).trans (iteC_t h2)
theorem no_ok {U : Nat → Int32} {n : Nat} {lo hi : Int32} {c : CR} (h : (noS U n lo hi c).1 = 0) : c.1 = 0 := Classical.byContradiction fun g => by rw [noS_bad g] at h; exact g h
/-- the net is changed at the end, if a semicolon stands there -/
noncomputable def wrS (c : CR) (w : Nat → Int32) : CR := iteC ((enS c).1 = 0) (0, 0, w, c.2.2.2) (enS c)
theorem wr_ce {c d : CR} {w : Nat → Int32} (h1 : d.1 = c.1) (h2 : c.1 = 0 → d.2.2 = (w, c.2.2.2)) (h3 : ¬ c.1 = 0 → d.2.1 = c.2.1) : CE (wrS c w) (enS d) := by
  obtain ⟨ek, eo, v, t⟩ := c
  obtain ⟨dk, dO, u, s⟩ := d
  have h1 : dk = ek := h1
  subst h1
  unfold wrS
  by_cases g : dk = 0
  · have e := h2 g
    cases e
    by_cases g2 : t.1 = 3
    · rw [en_yes (c := (dk, eo, v, t)) g g2, en_yes (c := (dk, dO, w, t)) g g2, iteC_t g]
      exact ⟨g, fun _ => rfl, fun z => absurd rfl z⟩
    · rw [en_no (c := (dk, eo, v, t)) g g2, en_no (c := (dk, dO, w, t)) g g2, iteC_f (show ¬ (1 : Nat) = 0 by decide)]
      exact ⟨rfl, fun z => absurd (show (1 : Nat) = 0 from z) (by decide), fun _ => rfl⟩
  · rw [en_bad (c := (dk, eo, v, t)) g, en_bad (c := (dk, dO, u, s)) g, iteC_f g]
    exact ⟨rfl, fun z => absurd z g, fun _ => h3 g⟩
theorem m_arcCommand {h0 h : MH} {j n o p t : Nat} {U : Nat → Int32} {c : CR} {pv tv : Int32} (hC : CS h0 h j U n c) (ho : 18 ≤ o) (hp : c.1 = 0 → pv = nI p ∧ tv = nI t ∧ o + (t * 8 + p) < 268) : CT x sX5_arcCommand [.ref j, .int (nI o), .int pv, .int tv] h (pV fun h' => CS h0 h' j U n (wrS (noS U n (nI 0) (nI 9) c) (udW c.2.2.1 (o + (t * 8 + p)) (numS U n c.2.2.2 (nI 0) (nI 9)).2.2.1))) xNo := by
  have a0 := hC.1.1.1
  (refine CT_of (o := 5) rfl (by decide) (by simp [Value.category, sX5_arcCommand]) (MW_ev kX5_arcCommand 300 ?_); show evS _ _ _ _ _ _ 300 0 (0, 0) [.ref j, .int (nI o), .int pv, .int tv, .null] [] _; simp only [st_iconst, st_lconst, st_ldc2_w, st_ldc, st_iload, st_lload, st_aload, st_istore, st_astore, st_lstore, st_iinc, st_iadd, st_isub, st_imul, st_idiv, st_irem, st_iand, st_ior, st_ishl, st_ishr, st_iushr, st_ladd, st_lmul, st_lshl, st_lushr, st_lcmp, st_i2l, st_l2i, st_i2b, st_i2c, st_i2d, st_i2f, st_dconst, st_fconst, st_ddiv, st_fdiv, st_dup, st_dup2, st_pop, st_goto, st_if_icmp, st_ifCond, st_tableswitch, st_lookupswitch, st_iaload, st_baload, st_laload, st_aaload, st_iastore, st_bastore, st_lastore, st_aastore, st_saload, st_faload, st_jsr, st_getstatic, st_frem, st_drem, st_monitorexit, st_monitorenter, st_invokeinterface, st_newarray, st_anewarray, st_multianewarray, asI_c, asJ_c, asR_c, asD_c, asF_c, popI_c, popJ_c, popR_c, popD_c, popF_c, pop1_c, okSt_0, okSt_S, rcv_0, rcv_1, rcv_2, rcv_3, rcv_4, rcv_5, rcv_8, pI_c, pJ_c, pR_c, pV_c, pD_c, pF_c, cmp_eq, cmp_ne, cmp_lt, cmp_ge, cmp_gt, cmp_le, nth_0, nth_S, set_0, set_S, cat_int, cat_ref, cat_long, cat_double, cat_float, cat_null, catS_0, catS_S, swT_0, swT_S, swL_0, swL_S, Nat.add_zero, Nat.reduceAdd, Nat.reduceSub, Nat.reduceLT, Nat.reduceLeDiff, true_and, and_true, eq_self, eX5_arcCommand_0, fX5_arcCommand_0, eX5_arcCommand_1, cI_0, eX5_arcCommand_2, cI_9, eX5_arcCommand_4, iv5_223, c_X5_number, eX5_arcCommand_7, eX5_arcCommand_9, eX5_arcCommand_10, iv5_232, c_X5_ends, eX5_arcCommand_13, tn_25, eX5_arcCommand_16, eX5_arcCommand_17, eX5_arcCommand_18, eX5_arcCommand_19, eX5_arcCommand_20, eX5_arcCommand_22, iv5_51, c_X5_put, eX5_arcCommand_25, d_X5_arcCommand, re_X5_arcCommand])
  refine ⟨a0, CI_of (m_number hC) (fun _ _ z => z.elim) fun r h1 ⟨er, hC1⟩ => ⟨hC1.1.1.1, CI_of (m_ends hC1) (fun _ _ z => z.elim) fun r2 h2 ⟨er2, hC2⟩ => ?_⟩⟩
  subst er er2
  rw [bI_z]
  refine ⟨fun g => ?_, fun g => ?_⟩
  · rw [show wrS _ _ = _ from iteC_f g]; exact hC2
  · have g := Classical.not_not.mp g
    obtain ⟨g1, g2, ge⟩ := en_ok g
    have g0 := no_ok g1
    obtain ⟨rfl, rfl, hb⟩ := hp g0
    rw [show wrS _ _ = _ from iteC_t g]
    rw [ge] at hC2
    rw [iteC_t g1]
    obtain ⟨w, np, nt, hN, hB, hw⟩ := hC2.2.2.2.1
    have hw := hw g1
    rw [noS_ok g0] at hw
    have hw : w = c.2.2.1 := hw
    subst hw
    refine ⟨hC2.1.1.1, CV_of (m_put hN ho hb) (fun _ _ z => z.elim) fun h3 e3 => ?_⟩
    subst e3
    exact CS_w hC2 g1 (MN_s hN (by omega)) (ud_B hB (by omega)) (FI_sI (S := fun a k => a = j + 1) rfl) fun a k hk => hk
end MOD
