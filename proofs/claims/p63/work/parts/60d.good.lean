section GOO
/-! what every state of the script of calls has -/
theorem T_ud {w : Nat → Int32} {np nt k : Nat} {v : Int32} (hT : TRg w np nt) (h1 : np ≤ 8) (h2 : nt ≤ 10) (hk : (18 ≤ k ∧ k < 28) ∨ 188 ≤ k) : TRg (udW w k v) np nt := by
  refine ⟨fun p hp => ?_, fun t p ht hp => ?_⟩
  · rw [udW_n (by omega), udW_n (by omega)]; exact hT.1 p hp
  · rw [udW_n (by omega), udW_n (by omega)]; exact hT.2 t p ht hp
theorem T_tok {w : Nat → Int32} {np nt q : Nat} {v : Int32} (hT : TRg w np nt) (h1 : np ≤ 8) (hq : q < np) (ha : ¬ v < nI 0) (hb : ¬ w (10 + q) < v) : TRg (udW w (2 + q) v) np nt := by
  refine ⟨fun p hp => ?_, fun t p ht hp => ?_⟩
  · rw [udW_n (show 10 + p ≠ 2 + q by omega)]
    obtain ⟨t, c, e1, e2, e3, e4, e5⟩ := hT.1 p hp
    by_cases e : p = q
    · subst e
      rw [udW_e]
      rw [nI_0] at ha
      obtain ⟨k, hk, rfl⟩ := nI_of ha
      rw [e2, nI_ltI (by omega) hk] at hb
      exact ⟨k, c, rfl, e2, by omega, e4, e5⟩
    · rw [udW_n (by omega)]
      exact ⟨t, c, e1, e2, e3, e4, e5⟩
  · rw [udW_n (by omega), udW_n (by omega)]; exact hT.2 t p ht hp
theorem T_cap {w : Nat → Int32} {np nt q : Nat} {v : Int32} (hT : TRg w np nt) (h1 : np ≤ 8) (hq : q < np) (ha : ¬ v < nI 1) (hb : ¬ nI 30 < v) (hc : ¬ v < w (2 + q)) : TRg (udW w (10 + q) v) np nt := by
  refine ⟨fun p hp => ?_, fun t p ht hp => ?_⟩
  · rw [udW_n (show 2 + p ≠ 10 + q by omega)]
    obtain ⟨t, c, e1, e2, e3, e4, e5⟩ := hT.1 p hp
    by_cases e : p = q
    · subst e
      rw [udW_e]
      obtain ⟨k, hk1, hk2, rfl⟩ := num_pos (m := 30) (by decide) ha hb
      rw [e1, nI_ltI (by omega) (by omega)] at hc
      exact ⟨t, k, e1, rfl, by omega, hk1, hk2⟩
    · rw [udW_n (by omega)]
      exact ⟨t, c, e1, e2, e3, e4, e5⟩
  · rw [udW_n (by omega), udW_n (by omega)]; exact hT.2 t p ht hp
theorem T_arc {w : Nat → Int32} {np nt off t p : Nat} {v : Int32} (hT : TRg w np nt) (h1 : np ≤ 8) (h2 : nt ≤ 10) (ho : off = 28 ∨ off = 108 ∨ off = 188) (ht : t < nt) (hp : p < np) (hv : inR v 10) : TRg (udW w (off + (t * 8 + p)) v) np nt := by
  obtain ⟨k, hk, rfl⟩ := hv
  refine ⟨fun p' hp' => ?_, fun t' p' ht' hp' => ?_⟩
  · rw [udW_n (by omega), udW_n (by omega)]; exact hT.1 p' hp'
  · obtain ⟨a, b, e1, e2, e3, e4⟩ := hT.2 t' p' ht' hp'
    by_cases g1 : 28 + (t' * 8 + p') = off + (t * 8 + p)
    · rw [← g1, udW_e, udW_n (by omega)]
      exact ⟨k, b, rfl, by omega, e3, e4⟩
    · by_cases g2 : 108 + (t' * 8 + p') = off + (t * 8 + p)
      · rw [← g2, udW_e, udW_n (by omega)]
        exact ⟨a, k, e1, e2, rfl, by omega⟩
      · rw [udW_n g1, udW_n g2]
        exact ⟨a, b, e1, e2, e3, e4⟩
theorem GM_T {w v : Nat → Int32} {np nt : Nat} (hG : GM w v np) (hT : TRg w np nt) (h1 : np ≤ 8) : TRg v np nt := by
  refine ⟨fun p hp => ?_, fun t p ht hp => ?_⟩
  · obtain ⟨y, c, e1, e2, e3, e4⟩ := hG.2 p hp
    obtain ⟨t, c', f1, f2, f3, f4, f5⟩ := hT.1 p hp
    have ec : c = c' := (nI_eq (by omega) (by omega)).mp (e2.symm.trans f2)
    subst ec
    exact ⟨y, c, e1, (hG.1 _ (by omega)).trans e2, e3, f4, f5⟩
  · obtain ⟨a, b, e1, e2, e3, e4⟩ := hT.2 t p ht hp
    exact ⟨a, b, (hG.1 _ (by omega)).trans e1, e2, (hG.1 _ (by omega)).trans e3, e4⟩
theorem T_fire {w : Nat → Int32} {np nt t : Nat} (hT : TRg w np nt) (hB : NB w np nt) (ht : t < nt) (he : enW w np t) : TRg (fireW w np t) np nt :=
  T_ud (GM_T (GM_mv (GM_self hT) hT hB ht he).1 hT hB.2.2.2.1) hB.2.2.2.1 hB.2.2.2.2.2 (Or.inl (by have := hB.2.2.2.2.2; omega))
theorem T_run {np nt : Nat} : ∀ (n : Nat) (w : Nat → Int32), TRg w np nt → NB w np nt → TRg (runW np nt n w).2 np nt := by
  intro n
  induction n with
  | zero => exact fun w hT _ => hT
  | succ n ih =>
    intro w hT hB
    have hnt := hB.2.2.2.2.2
    rcases nx_dom w np nt with g | ⟨j, hj, g⟩
    · rw [run_end g]; exact hT
    · rw [run_go g (by omega)]
      exact ih _ (T_fire hT hB hj (nx_en hnt g (by omega)).2) (fire_B hB)
theorem T_sw {w : Nat → Int32} {np nt : Nat} (hT : TRg w np nt) (h1 : np ≤ 8) (h2 : nt ≤ 10) : TRg (swW w) np nt := by
  refine ⟨fun p hp => ?_, fun t p ht hp => ?_⟩
  · rw [sw_a (by omega), sw_a (by omega)]; exact hT.1 p hp
  · obtain ⟨a, b, e1, e2, e3, e4⟩ := hT.2 t p ht hp
    rw [sw_b (by omega), sw_c (by omega)]
    exact ⟨b, a, e3, e4, e1, e2⟩
theorem T_cl {np nt : Nat} (h1 : np ≤ 8) : TRg (clW np nt) np nt := by
  refine ⟨fun p hp => ⟨0, 30, ?_, ?_, by decide, by decide, by decide⟩, fun t p ht hp => ⟨0, 0, ?_, by decide, ?_, by decide⟩⟩ <;> unfold clW
  · rw [if_neg (by omega), if_neg (by omega), if_neg (by omega)]
  · rw [if_neg (by omega), if_neg (by omega), if_pos (by omega)]
  · rw [if_neg (by omega), if_neg (by omega), if_neg (by omega)]
  · rw [if_neg (by omega), if_neg (by omega), if_neg (by omega)]
/-- a good net -/
def GW (w : Nat → Int32) : Prop := ∃ np nt, NB w np nt ∧ TRg w np nt
theorem GW_n {w : Nat → Int32} (h : GW w) : NB w (npW w) (ntW w) ∧ TRg w (npW w) (ntW w) := by
  obtain ⟨np, nt, hB, hT⟩ := h
  rw [npW_e hB, ntW_e hB]; exact ⟨hB, hT⟩
theorem GW_cm {U w : Nat → Int32} {n : Nat} {t : TK} (h : GW w) : GW (cmS U n w (npW w) (ntW w) t).2.2.1 := by
  have hg := h
  obtain ⟨np, nt, hB, hT⟩ := h
  have w0 : w 0 = nI np := hB.1
  have w1 : w 1 = nI nt := hB.2.1
  have b1 := hB.2.2.1
  have b2 := hB.2.2.2.1
  have b3 := hB.2.2.2.2.1
  have b4 := hB.2.2.2.2.2
  rw [npW_e hB, ntW_e hB]
  have P := fun (c : Prop) (a b : CR) (ha : c → GW a.2.2.1) (hb : GW b.2.2.1) => show GW (iteC c a b).2.2.1 from (Classical.em c).elim (fun g => by rw [iteC_t g]; exact ha g) (fun g => by rw [iteC_f g]; exact hb)
  have nin : ∀ (t : TK) (m : Nat) (v : Int32), (numS U n t (nI 0) (v - nI 1)).1 = 0 → v = nI m → 0 < m → m < 1000 → ∃ q, q < m ∧ (numS U n t (nI 0) (v - nI 1)).2.2.1 = nI q := fun t m v g e z1 z2 => by subst e; exact num_in g z1 z2
  have n10 : ∀ t : TK, (numS U n t (nI 0) (nI 9)).1 = 0 → inR (numS U n t (nI 0) (nI 9)).2.2.1 10 := fun t g => by
    have := num_ok g
    rw [← inR_le (by decide) (by decide), nI_sub (by decide)]
    exact ⟨this.1, Int32.not_lt.mp this.2⟩
  have hA : ∀ t off, (off = 28 ∨ off = 108 ∨ off = 188) → GW (cmA U n w t off).2.2.1 := fun t off ho => by
    unfold cmA
    simp only []
    refine P _ _ _ (fun g1 => P _ _ _ (fun g2 => P _ _ _ (fun g3 => ?_) hg) hg) hg
    obtain ⟨p, hp, ep⟩ := nin _ np _ g1 w0 (by omega) (by omega)
    obtain ⟨q, hq, eq⟩ := nin _ nt _ g2 w1 (by omega) (by omega)
    show GW (udW w _ _)
    rw [ep, eq, nI_clamp (by omega), nI_clamp (by omega)]
    exact ⟨np, nt, ud_B hB (by omega), T_arc hT b2 b4 ho hq hp (n10 _ g3)⟩
  have hBB : ∀ t off, (off = 28 ∨ off = 108 ∨ off = 188) → GW (cmB U n w t off).2.2.1 := fun t off ho => by
    unfold cmB
    simp only []
    refine P _ _ _ (fun g1 => P _ _ _ (fun g2 => P _ _ _ (fun g3 => ?_) hg) hg) hg
    obtain ⟨p, hp, ep⟩ := nin _ nt _ g1 w1 (by omega) (by omega)
    obtain ⟨q, hq, eq⟩ := nin _ np _ g2 w0 (by omega) (by omega)
    show GW (udW w _ _)
    rw [ep, eq, nI_clamp (by omega), nI_clamp (by omega)]
    exact ⟨np, nt, ud_B hB (by omega), T_arc hT b2 b4 ho hp hq (n10 _ g3)⟩
  have hTT : ∀ t, GW (cmT U n w t).2.2.1 := fun t => by
    unfold cmT
    simp only []
    refine P _ _ _ (fun g1 => P _ _ _ (fun g2 => ?_) hg) hg
    obtain ⟨p, hp, ep⟩ := nin _ np _ g1 w0 (by omega) (by omega)
    have g3 := num_ok g2
    rw [ep, nI_clamp (by omega)] at g3
    show GW (udW w _ _)
    rw [ep, nI_clamp (by omega)]
    exact ⟨np, nt, ud_B hB (by omega), T_tok hT b2 hp g3.1 g3.2⟩
  have hC : ∀ t, GW (cmC U n w t).2.2.1 := fun t => by
    unfold cmC
    simp only []
    refine P _ _ _ (fun g1 => P _ _ _ (fun g2 => ?_) hg) hg
    obtain ⟨p, hp, ep⟩ := nin _ np _ g1 w0 (by omega) (by omega)
    have g3 := num_ok g2
    rw [ep, nI_clamp (by omega)] at g3
    show GW (udW w _ _)
    rw [ep, nI_clamp (by omega)]
    generalize (numS U n _ _ _).2.2.1 = v at g3
    refine ⟨np, nt, ud_B hB (by omega), T_cap hT b2 hp (fun z => ?_) g3.2 fun z => ?_⟩
    · by_cases g4 : nI 1 < w (2 + p)
      · rw [if_pos g4] at g3; exact g3.1 (Int32.lt_trans z g4)
      · rw [if_neg g4] at g3; exact g3.1 z
    · by_cases g4 : nI 1 < w (2 + p)
      · rw [if_pos g4] at g3; exact g3.1 z
      · rw [if_neg g4] at g3; exact g3.1 (Int32.lt_of_lt_of_le z (Int32.not_lt.mp g4))
  have hF : ∀ t, GW (cmF U n w np t).2.2.1 := fun t => by
    unfold cmF
    simp only []
    refine P _ _ _ (fun g1 => P _ _ _ (fun g2 => ?_) hg) hg
    obtain ⟨q, hq, eq⟩ := nin _ nt _ g1 w1 (by omega) (by omega)
    rw [eq, nI_clamp (by omega)] at g2
    show GW (fireW w np _)
    rw [eq, nI_clamp (by omega)]
    exact ⟨np, nt, fire_B hB, T_fire hT hB hq g2⟩
  have hR : ∀ t, GW (cmR U n w np nt t).2.2.1 := fun t => by
    unfold cmR
    simp only []
    exact P _ _ _ (fun g1 => ⟨np, nt, run_B hB, T_run _ _ hT hB⟩) hg
  unfold cmS
  simp only []
  exact P _ _ _ (fun _ => hg) (P _ _ _ (fun _ => hTT _) (P _ _ _ (fun _ => hC _) (P _ _ _ (fun _ => hA _ _ (Or.inl rfl)) (P _ _ _ (fun _ => hBB _ _ (Or.inr (Or.inl rfl))) (P _ _ _ (fun _ => hA _ _ (Or.inr (Or.inr rfl))) (P _ _ _ (fun _ => hF _) (hR _)))))))
theorem st_w {U : Nat → Int32} {n : Nat} {c : CR} : (stS U n c).2.2.1 = c.2.2.1 := by
  unfold stS
  exact iteC_P (fun q : CR => q.2.2.1 = c.2.2.1) sc_w rfl
theorem GW_sc {U w : Nat → Int32} {n : Nat} (h : (scX U n w).1 = 0) : GW (scX U n w).2.2.1 := by
  have lp : ∀ f c, (c.1 = 0 → GW c.2.2.1) → (lpS U n f c).1 = 0 → GW (lpS U n f c).2.2.1 := by
    intro f
    induction f with
    | zero => exact fun c hc h => hc h
    | succ f ih =>
      intro c hc h
      by_cases g : c.1 = 0 ∧ ¬ c.2.2.2.1 = 0
      · rw [show lpS U n (f + 1) c = _ from iteC_t g] at h ⊢
        exact ih _ (fun _ => by rw [st_w]; exact GW_cm (hc g.1)) h
      · rw [show lpS U n (f + 1) c = c from iteC_f g] at h ⊢
        exact hc h
  refine lp n _ (fun z => ?_) h
  have h0 : (hdS U n w (tokS U n 0)).1 = 0 := Classical.byContradiction fun g => g (by rwa [st_f g] at z)
  obtain ⟨np, nt, e, hB⟩ := hd_B h0
  rw [st_w]
  exact ⟨np, nt, hB, by rw [e]; exact T_cl hB.2.2.2.1⟩
/-- a good state -/
def GD (s : AS) : Prop := GW (aW s) ∧ (∀ m, m < aC s → GW (aP s m)) ∧ (aH s → GW (aS s)) ∧ ∀ k, k < aN s → IB (aU s k)
theorem GD_chg {s : AS} {w : Nat → Int32} (h : GD s) (hw : GW w) : GD (wW (chg s) w) := by
  refine ⟨hw, fun m hm => ?_, h.2.2.1, h.2.2.2⟩
  show GW (pushP (aW s) (aP s) m)
  have hm : m < upto10 (aC s) := hm
  unfold pushP
  by_cases g : m = 0
  · rw [if_pos g]; exact h.1
  · rw [if_neg g]
    refine h.2.1 _ ?_
    unfold upto10 at hm
    split at hm <;> omega
theorem GD_ite {c : Prop} {a b : AR} (ha : c → GD a.2.2) (hb : ¬ c → GD b.2.2) : GD (iteC c a b).2.2 := (Classical.em c).elim (fun g => by rw [iteC_t g]; exact ha g) fun g => by rw [iteC_f g]; exact hb g
theorem gd_ST {s : AS} {np nt : Nat} {p t : Int32} (h : GD s) (hB : NB (aW s) np nt) (hT : TRg (aW s) np nt) : GD (qST s np p t).2.2 := by
  refine GD_ite (fun ⟨q, hq, e⟩ => GD_ite (fun g => ?_) fun _ => h) fun _ => h
  have b := hB.2.2.2.1
  subst e
  rw [cl_nI (by omega)] at g
  show GD (wW (chg s) _)
  rw [cl_nI (by omega)]
  exact GD_chg h ⟨np, nt, ud_B hB (by omega), T_tok hT b hq (by rw [nI_0]; exact g.1) (Int32.not_lt.mpr g.2)⟩
theorem gd_SC {s : AS} {np nt : Nat} {p c : Int32} (h : GD s) (hB : NB (aW s) np nt) (hT : TRg (aW s) np nt) : GD (qSC s np p c).2.2 := by
  refine GD_ite (fun ⟨q, hq, e⟩ => GD_ite (fun g => GD_ite (fun _ => h) fun g2 => ?_) fun _ => h) fun _ => h
  have b := hB.2.2.2.1
  subst e
  rw [cl_nI (by omega)] at g2
  show GD (wW (chg s) _)
  rw [cl_nI (by omega)]
  exact GD_chg h ⟨np, nt, ud_B hB (by omega), T_cap hT b hq g.1 (Int32.not_lt.mpr g.2) g2⟩
theorem gd_Arc {s : AS} {np nt off : Nat} {p t v : Int32} (h : GD s) (hB : NB (aW s) np nt) (hT : TRg (aW s) np nt) (ho : off = 28 ∨ off = 108 ∨ off = 188) : GD (qArc s np nt off p t v).2.2 := by
  refine GD_ite (fun ⟨⟨q, hq, e⟩, ⟨r, hr, e2⟩⟩ => GD_ite (fun g => ?_) fun _ => h) fun _ => h
  have b := hB.2.2.2.1
  have b2 := hB.2.2.2.2.2
  subst e
  subst e2
  show GD (wW (chg s) _)
  rw [cl_nI (by omega), cl_nI (by omega)]
  exact GD_chg h ⟨np, nt, ud_B hB (by omega), T_arc hT b b2 ho hr hq g⟩
theorem gd_Fire {s : AS} {np nt : Nat} {t : Int32} (h : GD s) (hB : NB (aW s) np nt) (hT : TRg (aW s) np nt) : GD (qFire s np nt t).2.2 := by
  refine GD_ite (fun ⟨q, hq, e⟩ => GD_ite (fun g => ?_) fun _ => h) fun _ => h
  have b := hB.2.2.2.2.2
  subst e
  rw [cl_nI (by omega)] at g
  show GD (wW (chg s) _)
  rw [cl_nI (by omega)]
  exact GD_chg h ⟨np, nt, fire_B hB, T_fire hT hB hq g⟩
theorem gd_Run {s : AS} {np nt : Nat} {v : Int32} (h : GD s) (hB : NB (aW s) np nt) (hT : TRg (aW s) np nt) : GD (qRun s np nt v).2.2 :=
  GD_ite (fun _ => GD_chg h ⟨np, nt, run_B hB, T_run _ _ hT hB⟩) fun _ => h
theorem gd_MM {s : AS} {np nt : Nat} {v : Int32} (h : GD s) (hB : NB (aW s) np nt) (hT : TRg (aW s) np nt) : GD (qMM s np nt v).2.2 := by
  refine GD_ite (fun ⟨q, hq, e⟩ => ?_) fun _ => h
  have hJ := (exp_J hT hB).1
  have := hJ.1
  subst e
  show GD (wW (chg s) _)
  rw [cl_nI (by omega)]
  obtain ⟨u, hG, ek, -⟩ := hJ.2.1 q hq
  rw [ek, GM_un hG hB.2.2.2.1]
  exact GD_chg h ⟨np, nt, GM_B hG hB, GM_T hG hT hB.2.2.2.1⟩
theorem gd_Rev {s : AS} {np nt : Nat} (h : GD s) (hB : NB (aW s) np nt) (hT : TRg (aW s) np nt) : GD (qRev s np nt).2.2 :=
  GD_chg h ⟨np, nt, ⟨(sw_a (by omega)).trans hB.1, (sw_a (by omega)).trans hB.2.1, hB.2.2⟩, T_sw hT hB.2.2.2.1 hB.2.2.2.2.2⟩
theorem gd_Undo {s : AS} (h : GD s) : GD (qUndo s).2.2 := by
  refine GD_ite (fun _ => h) fun g => ⟨h.2.1 0 (by omega), fun m hm => h.2.1 (m + 1) ?_, h.2.2.1, h.2.2.2⟩
  have hm : m < aC s - 1 := hm
  omega
theorem gd_Sav {s : AS} {np : Nat} (h : GD s) : GD (qSav s np).2.2 := ⟨h.1, h.2.1, fun _ => h.1, h.2.2.2⟩
theorem gd_Res {s : AS} (h : GD s) : GD (qRes s).2.2 := GD_ite (fun g => ⟨h.2.2.1 g, fun m hm => absurd hm (Nat.not_lt_zero m), h.2.2.1, h.2.2.2⟩) fun _ => h
theorem gd_Trc {s : AS} {v : Int32} (h : GD s) (hn : aN s ≤ 500) : GD (qTrc s v).2.2 := by
  refine GD_ite (fun ⟨q, hq, e⟩ => ⟨h.1, h.2.1, h.2.2.1, fun k hk => h.2.2.2 k ?_⟩) fun _ => h
  have hk : k < cl v := hk
  rw [e, cl_nI (by omega)] at hk
  omega
theorem gd_App {s : AS} {a b c d e : Int32} (h : GD s) : GD (qApp s a b c d e).2.2 := by
  refine GD_ite (fun _ => h) fun _ => ⟨h.1, h.2.1, h.2.2.1, fun k _ => ?_⟩
  have ap : ∀ (U : Nat → Int32) (n : Nat) (v : Int32), (k < n → IB (U k)) → IB (apU U n v k) := fun U n v hu => by
    unfold apU
    by_cases g : k < n
    · rw [if_pos g]; exact hu g
    · rw [if_neg g]; exact ib_byS
  exact ap _ _ _ fun _ => ap _ _ _ fun _ => ap _ _ _ fun _ => ap _ _ _ fun _ => ap _ _ _ fun g => h.2.2.2 k g
theorem gd_Scr {s : AS} (h : GD s) : GD (qScr s).2.2 := by
  refine GD_ite (fun g => ⟨GW_sc g, fun m hm => ?_, h.2.2.1, fun k hk => absurd hk (Nat.not_lt_zero k)⟩) fun _ => ⟨h.1, h.2.1, h.2.2.1, fun k hk => absurd hk (Nat.not_lt_zero k)⟩
  exact (GD_chg h h.1).2.1 m hm
theorem gd_WM {s : AS} {np nt : Nat} (h : GD s) : GD (qWM s np nt).2.2 := ⟨h.1, h.2.1, h.2.2.1, h.2.2.2⟩
theorem fwN_t : ∀ p, p < 4 → fwN (2 + p) = nI (cl (fwN (2 + p))) ∧ fwN (10 + p) = nI (cl (fwN (10 + p))) ∧ cl (fwN (2 + p)) ≤ cl (fwN (10 + p)) ∧ 1 ≤ cl (fwN (10 + p)) ∧ cl (fwN (10 + p)) ≤ 30 := by decide +kernel
theorem fwN_a : ∀ t, t < 4 → ∀ p, p < 4 → fwN (28 + (t * 8 + p)) = nI (cl (fwN (28 + (t * 8 + p)))) ∧ cl (fwN (28 + (t * 8 + p))) ≤ 9 ∧ fwN (108 + (t * 8 + p)) = nI (cl (fwN (108 + (t * 8 + p)))) ∧ cl (fwN (108 + (t * 8 + p))) ≤ 9 := by decide +kernel
theorem fwN_B : NB fwN 4 4 := fire_B (fire_B fw_B)
theorem gd_0 : GD as0 := by
  refine ⟨⟨4, 4, fwN_B, fun p hp => ?_, fun t p ht hp => ?_⟩, fun m hm => absurd hm (Nat.not_lt_zero m), fun z => z.elim, fun k hk => absurd hk (Nat.not_lt_zero k)⟩
  · exact ⟨_, _, fwN_t p hp⟩
  · exact ⟨_, _, fwN_a t ht p hp⟩
end GOO
