section ABS
/-! what both sides hold and answer: net, history and its length, snapshot and whether there is one, text and its length, error's kind and place, report and its length -/
abbrev AS : Type := (Nat → Int32) × (Nat → Nat → Int32) × Nat × (Nat → Int32) × Prop × (Nat → Int32) × Nat × Int32 × Int32 × (Nat → Int32) × Nat
def aW (s : AS) : Nat → Int32 := s.1
def aP (s : AS) : Nat → Nat → Int32 := s.2.1
def aC (s : AS) : Nat := s.2.2.1
def aS (s : AS) : Nat → Int32 := s.2.2.2.1
def aH (s : AS) : Prop := s.2.2.2.2.1
def aU (s : AS) : Nat → Int32 := s.2.2.2.2.2.1
def aN (s : AS) : Nat := s.2.2.2.2.2.2.1
def aK (s : AS) : Int32 := s.2.2.2.2.2.2.2.1
def aO (s : AS) : Int32 := s.2.2.2.2.2.2.2.2.1
def aR (s : AS) : Nat → Int32 := s.2.2.2.2.2.2.2.2.2.1
def aM (s : AS) : Nat := s.2.2.2.2.2.2.2.2.2.2
/-- with another net -/
def wW (s : AS) (w : Nat → Int32) : AS := (w, s.2)
/-- before a change: the net is kept -/
def chg (s : AS) : AS := (aW s, pushP (aW s) (aP s), upto10 (aC s), s.2.2.2)
/-- an answer: 0 or the number of what is thrown, the value, what is left -/
abbrev AR : Type := Nat × Int32 × AS
def inR (v : Int32) (n : Nat) : Prop := ∃ k, k < n ∧ v = nI k
theorem inR_nat {k n : Nat} (h : k < n) : inR (nI k) n := ⟨k, h, rfl⟩
theorem inR_e {v : Int32} {n : Nat} (hn : n < 100000) : inR v n = (¬ v < 0 ∧ v < nI n) := propext ⟨fun ⟨k, hk, e⟩ => by
    subst e
    exact ⟨nI_pos (by omega), nI_lt hk (by omega)⟩, fun ⟨h1, h2⟩ => by
    obtain ⟨k, hk, e⟩ := nI_of h1
    subst e
    exact ⟨k, (nI_ltI hk (by omega)).mp h2, rfl⟩⟩
def okA (s : AS) (v : Int32) : AR := (0, v, s)
def noA (s : AS) (k : Nat) : AR := (k, 0, s)
def cl (v : Int32) : Nat := v.toNatClampNeg
theorem cl_nI {k : Nat} (h : k < 2 ^ 31) : cl (nI k) = k := nI_clamp h
noncomputable def qTok (s : AS) (np : Nat) (v : Int32) : AR := iteC (inR v np) (okA s (aW s (2 + cl v))) (noA s 1)
noncomputable def qCap (s : AS) (np : Nat) (v : Int32) : AR := iteC (inR v np) (okA s (aW s (10 + cl v))) (noA s 1)
noncomputable def qEff (s : AS) (np nt : Nat) (t p : Int32) : AR := iteC (inR t nt ∧ inR p np) (okA s (effW (aW s) (cl t) (cl p))) (noA s 1)
noncomputable def qPl (s : AS) (np nt off : Nat) (t : Int32) : AR := iteC (inR t nt) (okA s (wwS (fun k => aW s (off + k)) (cl t) np)) (noA s 1)
noncomputable def cnS (w : Nat → Int32) (p n : Nat) : Int32 := foN (fun t s => iteC (0 < w (28 + (t * 8 + p))) (s ||| bit t) s) (nI 0) n
noncomputable def qCon (s : AS) (np nt : Nat) (p : Int32) : AR := iteC (inR p np) (okA s (cnS (aW s) (cl p) nt)) (noA s 1)
noncomputable def qWhy (s : AS) (np nt : Nat) (t : Int32) : AR := iteC (inR t nt) (okA s (raW (aW s) (cl t) np)) (noA s 1)
noncomputable def qBlk (s : AS) (np nt : Nat) (t : Int32) : AR := iteC (inR t nt) (okA s (fbW (aW s) (cl t) np)) (noA s 1)
noncomputable def qFrd (s : AS) (nt : Nat) (t : Int32) : AR := iteC (inR t nt) (okA s (aW s (18 + cl t))) (noA s 1)
/-- how often a transition fires in a row -/
noncomputable def frS (np t : Nat) : Nat → (Nat → Int32) → Nat
  | 0, _ => 0
  | f + 1, w => iteC (enW w np t) (frS np t f (mvW w t np) + 1) 0
noncomputable def qRow (s : AS) (np nt : Nat) (t : Int32) : AR := iteC (inR t nt) (okA s (nI (frS np (cl t) 1000 (aW s)))) (noA s 1)
noncomputable def qCfl (s : AS) (np nt : Nat) (a b : Int32) : AR := iteC (inR a nt ∧ inR b nt) (okA s (bI (enW (aW s) np (cl a) ∧ enW (aW s) np (cl b) ∧ (¬ enW (mvW (aW s) (cl a) np) np (cl b) ∨ ¬ enW (mvW (aW s) (cl b) np) np (cl a))))) (noA s 1)
noncomputable def qMT (s : AS) (np nt : Nat) (v p : Int32) : AR := iteC (inR p np) (iteC (inR v (exC (expE (aW s) np nt))) (okA s (upT (exK (expE (aW s) np nt) (cl v)) (cl p))) (noA s 2)) (noA s 1)
noncomputable def qMD (s : AS) (np nt : Nat) (v : Int32) : AR := iteC (inR v (exC (expE (aW s) np nt))) (okA s (exD (expE (aW s) np nt) (cl v))) (noA s 1)
noncomputable def qMF (s : AS) (np nt : Nat) (v : Int32) : AR := iteC (inR v (exC (expE (aW s) np nt))) (okA s (exF (expE (aW s) np nt) (cl v))) (noA s 1)
noncomputable def dmS (E : EE) (n : Nat) : Int32 := foN (fun k a => iteC (exS E k = 0) (a + nI 1) a) (nI 0) n
noncomputable def mxS (E : EE) (p n : Nat) : Int32 := foN (fun k a => iteC (a < upT (exK E k) p) (upT (exK E k) p) a) (nI 0) n
noncomputable def qBnd (s : AS) (np nt : Nat) (p : Int32) : AR := iteC (inR p np) (okA s (mxS (expE (aW s) np nt) (cl p) (exC (expE (aW s) np nt)))) (noA s 1)
noncomputable def qCF (s : AS) (np nt : Nat) (t : Int32) : AR := iteC (inR t nt) (okA s (bI (∃ n, n < exC (expE (aW s) np nt) ∧ tb (exS (expE (aW s) np nt) n) (cl t)))) (noA s 1)
def lhE (E : EE) (w : Nat → Int32) (np nt n : Nat) : Prop := ∃ t, t < nt ∧ tb (exS E n) t ∧ exK E n + pcS w t np = exK E 0
/-- of the first that fits -/
noncomputable def fiN (c : Nat → Prop) (f : Nat → Int32) (n : Nat) : Int32 := iteC (∃ k, k < n ∧ c k) (f (cl (ffN c n))) (-1)
theorem fi_hit {c : Nat → Prop} {f : Nat → Int32} {n k : Nat} (hn : n < 100000) (h1 : k < n) (h2 : c k) (h3 : ∀ j, j < k → ¬ c j) : fiN c f n = f k := by
  unfold fiN
  rw [iteC_t ⟨k, h1, h2⟩, ff_hit h1 h2 h3, cl_nI (by omega)]
theorem fi_miss {c : Nat → Prop} {f : Nat → Int32} {n : Nat} (h : ∀ j, j < n → ¬ c j) : fiN c f n = -1 := iteC_f fun ⟨k, h1, h2⟩ => h k h1 h2
noncomputable def qDE (s : AS) (np nt : Nat) (p : Int32) : AR := iteC (inR p np) (okA s (fiN (fun n => upT (exK (expE (aW s) np nt) n) (cl p) = 0) (exD (expE (aW s) np nt)) (exC (expE (aW s) np nt)))) (noA s 1)
/-- digits -/
def dvS (v : Int32) : Nat → Int32
  | 0 => v
  | k + 1 => dvS v k / nI 10
def dgS (v : Int32) (k : Nat) : Int32 := dvS v k - dvS v k / nI 10 * nI 10
def okV (v : Int32) (m : Nat) : Prop := ¬ v < 0 ∧ dvS v m = 0
noncomputable def qPI (s : AS) (np nt : Nat) (v : Int32) : AR := iteC (okV v np) (okA s (bI (kwW (aW s) (dgS v) np nt))) (noA s 1)
noncomputable def qTI (s : AS) (np nt : Nat) (v : Int32) : AR := iteC (okV v nt) (okA s (bI (kmW (aW s) (dgS v) np nt))) (noA s 1)
def wtS (w v : Nat → Int32) (n : Nat) : Int32 := foN (fun p a => a + v p * w (2 + p)) (nI 0) n
noncomputable def qWT (s : AS) (np : Nat) (v : Int32) : AR := iteC (okV v np) (okA s (wtS (aW s) (dgS v) np)) (noA s 1)
def sbS (v : Int32) (p : Nat) : Int32 := v >>> (nI p &&& 31) &&& nI 1
def siW (w : Nat → Int32) (np nt k : Nat) : Prop := kwW w (sbS (nI k)) np nt
/-- the decimal number of a set -/
def vcS (v : Int32) : Int32 := foN (fun k a => a * nI 10 + sbS v (7 - k)) (nI 0) 8
noncomputable def snS (w : Nat → Int32) (np nt n : Nat) : Int32 := foN (fun k a => iteC (siW w np nt (k + 1)) (a + nI 1) a) (nI 0) n
noncomputable def cvS (w : Nat → Int32) (np nt n : Nat) : Int32 := foN (fun k a => iteC (siW w np nt (k + 1)) (a ||| nI (k + 1)) a) (nI 0) n
noncomputable def qTR (s : AS) (np nt : Nat) (p m : Int32) : AR := iteC (inR p np) (iteC (inR m 201) (okA s ((runW np nt (cl m) (aW s)).2 (2 + cl p))) (noA s 2)) (noA s 1)
noncomputable def rlS (w : Nat → Int32) (np nt : Nat) : Int32 := iteC (200 < (runW np nt 201 w).1) (-1) (nI (runW np nt 201 w).1)
/-- the tokens of a set stay in every marking -/
def ktE (E : EE) (np k : Nat) : Prop := ∀ n, n < exC E → foN (fun p a => iteC (tb (nI k) p) (a + upT (exK E n) p) a) (nI 0) np = foN (fun p a => iteC (tb (nI k) p) (a + upT (exK E 0) p) a) (nI 0) np
noncomputable def voS (w : Nat → Int32) (np nt n : Nat) : Int32 := foN (fun k a => iteC (siW w np nt (k + 1) ∧ ¬ ktE (expE w np nt) np (k + 1)) (a + nI 1) a) (porW w np) n
noncomputable def qRB (s : AS) (v : Int32) : Int32 := iteC (inR v (aM s)) (aR s (cl v)) (-1)
/-! what changes -/
noncomputable def qTrc (s : AS) (v : Int32) : AR := iteC (inR v (aN s + 1)) (okA (aW s, aP s, aC s, aS s, aH s, aU s, cl v, aK s, aO s, aR s, aM s) v) (noA s 1)
noncomputable def qST (s : AS) (np : Nat) (p t : Int32) : AR := iteC (inR p np) (iteC (¬ t < 0 ∧ t ≤ aW s (10 + cl p)) (okA (wW (chg s) (udW (aW s) (2 + cl p) t)) (aW s (2 + cl p))) (noA s 2)) (noA s 1)
noncomputable def qSC (s : AS) (np : Nat) (p c : Int32) : AR := iteC (inR p np) (iteC (¬ c < nI 1 ∧ c ≤ nI 30) (iteC (c < aW s (2 + cl p)) (noA s 3) (okA (wW (chg s) (udW (aW s) (10 + cl p) c)) (aW s (10 + cl p)))) (noA s 2)) (noA s 1)
noncomputable def qArc (s : AS) (np nt off : Nat) (p t v : Int32) : AR := iteC (inR p np ∧ inR t nt) (iteC (inR v 10) (okA (wW (chg s) (udW (aW s) (off + (cl t * 8 + cl p)) v)) (aW s (off + (cl t * 8 + cl p)))) (noA s 2)) (noA s 1)
noncomputable def qFire (s : AS) (np nt : Nat) (t : Int32) : AR := iteC (inR t nt) (iteC (enW (aW s) np (cl t)) (okA (wW (chg s) (fireW (aW s) np (cl t))) (aW s (18 + cl t) + nI 1)) (noA s 2)) (noA s 1)
noncomputable def qRun (s : AS) (np nt : Nat) (v : Int32) : AR := iteC (¬ v < nI 1 ∧ v ≤ nI 200) (okA (wW (chg s) (runW np nt (cl v) (aW s)).2) (nI (runW np nt (cl v) (aW s)).1)) (noA s 1)
noncomputable def qMM (s : AS) (np nt : Nat) (v : Int32) : AR := iteC (inR v (exC (expE (aW s) np nt))) (okA (wW (chg s) (unW (aW s) (exK (expE (aW s) np nt) (cl v)) np)) (exD (expE (aW s) np nt) (cl v))) (noA s 1)
/-- ones in a set of transitions -/
def pcN (v : Int32) : Int32 := foN (fun k a => a + sbS v k) (nI 0) 10
noncomputable def qRev (s : AS) (np nt : Nat) : AR := okA (wW (chg s) (swW (aW s))) (pcN (esW (swW (aW s)) np nt))
noncomputable def qUndo (s : AS) : AR := iteC (aC s = 0) (okA s (-1)) (okA (aP s 0, (fun m => aP s (m + 1)), aC s - 1, s.2.2.2) (nI (aC s - 1)))
def qSav (s : AS) (np : Nat) : AR := okA (aW s, aP s, aC s, aW s, True, s.2.2.2.2.2) (sumW (aW s) np)
noncomputable def qRes (s : AS) : AR := iteC (aH s) (okA (aS s, aP s, 0, s.2.2.2) (sumW (aS s) (npW (aS s)))) (noA s 1)
/-- text behind text -/
def apU (U : Nat → Int32) (n : Nat) (v : Int32) : Nat → Int32 := fun k => if k < n then U k else byS v (24 - 8 * (k - n))
def ap5 (U : Nat → Int32) (n : Nat) (a b c d e : Int32) : Nat → Int32 := apU (apU (apU (apU (apU U n a) (n + 4) b) (n + 8) c) (n + 12) d) (n + 16) e
noncomputable def qApp (s : AS) (a b c d e : Int32) : AR := iteC (480 < aN s) (okA s (-2)) (okA (aW s, aP s, aC s, aS s, aH s, ap5 (aU s) (aN s) a b c d e, aN s + 20, aK s, aO s, aR s, aM s) (nI (aN s + 20)))
noncomputable def exR (s : AS) : CR := scX (aU s) (aN s) (fun _ => 0)
noncomputable def qScr (s : AS) : AR := iteC ((exR s).1 = 0) (okA ((exR s).2.2.1, pushP (aW s) (aP s), upto10 (aC s), aS s, aH s, aU s, 0, nI 0, -1, aR s, aM s) (sumW (exR s).2.2.1 (npW (exR s).2.2.1)))
  (okA (aW s, aP s, aC s, aS s, aH s, aU s, 0, nI (exR s).1, nI (exR s).2.1, aR s, aM s) (-1))
/-- a report: its signs and how many -/
abbrev RT : Type := (Nat → Int32) × Nat
def rpC (c : Int32) (r : RT) : RT := (udW r.1 r.2 (vp_nar .byte c.toInt8.toInt32), r.2 + 1)
noncomputable def rpN (v : Int32) (r : RT) : RT := iteC (v < nI 10) (rpC (nI 48 + (v - v / nI 10 * nI 10)) r) (rpC (nI 48 + (v - v / nI 10 * nI 10)) (rpC (nI 48 + v / nI 10) r))
noncomputable def rpM (w : Nat → Int32) (n : Nat) (r : RT) : RT := foN (fun p r => rpN (w (2 + p)) (iteC (p = 0) r (rpC (nI 44) r))) r n
/-- the transitions of a set; whether none was written yet -/
noncomputable def rpT (v : Int32) (n : Nat) (r : RT) : Prop × RT := foN (fun t q => iteC (tb v t) (False, rpN (nI t) (iteC q.1 q.2 (rpC (nI 44) q.2))) q) (True, r) n
noncomputable def rpE (v : Int32) (nt : Nat) (r : RT) : RT := iteC (rpT v nt r).1 (rpC (nI 45) r) (rpT v nt r).2
noncomputable def rpW (w : Nat → Int32) (np nt : Nat) (R : Nat → Int32) : RT := rpE (esW w np nt) nt (rpC (nI 32) (rpM w np (R, 0)))
noncomputable def qWM (s : AS) (np nt : Nat) : AR := okA (aW s, aP s, aC s, aS s, aH s, aU s, aN s, aK s, aO s, (rpW (aW s) np nt (aR s)).1, (rpW (aW s) np nt (aR s)).2) (nI (rpW (aW s) np nt (aR s)).2)
end ABS
