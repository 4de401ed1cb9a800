section SCR
variable {x : CX}
theorem iteC_P {α : Type} {c : Prop} {a b : α} (P : α → Prop) (ha : P a) (hb : P b) : P (iteC c a b) := by
  unfold iteC
  split
  · exact ha
  · exact hb
theorem ud_B {w : Nat → Int32} {k np nt : Nat} {v : Int32} (hB : NB w np nt) (hk : 2 ≤ k) : NB (udW w k v) np nt := ⟨(udW_n (by omega)).trans hB.1, (udW_n (by omega)).trans hB.2.1, hB.2.2⟩
theorem cm_B {U w : Nat → Int32} {n np nt : Nat} {t : TK} (hB : NB w np nt) : NB (cmS U n w np nt t).2.2.1 np nt := by
  have hA : ∀ t off, 2 ≤ off → NB (cmA U n w t off).2.2.1 np nt := fun t off ho => by
    unfold cmA
    simp only []
    exact iteC_P (fun c : CR => NB c.2.2.1 np nt) (iteC_P (fun c : CR => NB c.2.2.1 np nt) (iteC_P (fun c : CR => NB c.2.2.1 np nt) (ud_B hB (by omega)) hB) hB) hB
  have hBB : ∀ t off, 2 ≤ off → NB (cmB U n w t off).2.2.1 np nt := fun t off ho => by
    unfold cmB
    simp only []
    exact iteC_P (fun c : CR => NB c.2.2.1 np nt) (iteC_P (fun c : CR => NB c.2.2.1 np nt) (iteC_P (fun c : CR => NB c.2.2.1 np nt) (ud_B hB (by omega)) hB) hB) hB
  have hT : ∀ t, NB (cmT U n w t).2.2.1 np nt := fun t => by
    unfold cmT
    simp only []
    exact iteC_P (fun c : CR => NB c.2.2.1 np nt) (iteC_P (fun c : CR => NB c.2.2.1 np nt) (ud_B hB (by omega)) hB) hB
  have hC : ∀ t, NB (cmC U n w t).2.2.1 np nt := fun t => by
    unfold cmC
    simp only []
    exact iteC_P (fun c : CR => NB c.2.2.1 np nt) (iteC_P (fun c : CR => NB c.2.2.1 np nt) (ud_B hB (by omega)) hB) hB
  have hF : ∀ t, NB (cmF U n w np t).2.2.1 np nt := fun t => by
    unfold cmF
    simp only []
    exact iteC_P (fun c : CR => NB c.2.2.1 np nt) (iteC_P (fun c : CR => NB c.2.2.1 np nt) (fire_B hB) hB) hB
  have hR : ∀ t, NB (cmR U n w np nt t).2.2.1 np nt := fun t => by
    unfold cmR
    simp only []
    exact iteC_P (fun c : CR => NB c.2.2.1 np nt) (run_B hB) hB
  unfold cmS
  simp only []
  exact iteC_P (fun c : CR => NB c.2.2.1 np nt) hB (iteC_P (fun c : CR => NB c.2.2.1 np nt) (hT _) (iteC_P (fun c : CR => NB c.2.2.1 np nt) (hC _) (iteC_P (fun c : CR => NB c.2.2.1 np nt) (hA _ _ (by decide)) (iteC_P (fun c : CR => NB c.2.2.1 np nt) (hBB _ _ (by decide)) (iteC_P (fun c : CR => NB c.2.2.1 np nt) (hA _ _ (by decide)) (iteC_P (fun c : CR => NB c.2.2.1 np nt) (hF _) (hR _)))))))
theorem num_ok {U : Nat → Int32} {n : Nat} {t : TK} {lo hi : Int32} (h : (numS U n t lo hi).1 = 0) : ¬ (numS U n t lo hi).2.2.1 < lo ∧ ¬ hi < (numS U n t lo hi).2.2.1 := by
  unfold numS at *
  by_cases g : t.1 = 2
  · rw [iteC_t g] at h ⊢
    by_cases g2 : valS U t.2.1 (t.2.2 - t.2.1) < lo ∨ hi < valS U t.2.1 (t.2.2 - t.2.1)
    · rw [iteC_t g2] at h; exact absurd (show (2 : Nat) = 0 from h) (by decide)
    · rw [iteC_f g2]; exact ⟨fun z => g2 (Or.inl z), fun z => g2 (Or.inr z)⟩
  · rw [iteC_f g] at h; exact absurd (show (1 : Nat) = 0 from h) (by decide)
theorem cl_B {np nt : Nat} (h1 : 1 ≤ np) (h2 : np ≤ 8) (h3 : 1 ≤ nt) (h4 : nt ≤ 10) : NB (clW np nt) np nt := ⟨rfl, rfl, h1, h2, h3, h4⟩
theorem hd_B {U w : Nat → Int32} {n : Nat} {t : TK} (h : (hdS U n w t).1 = 0) : ∃ np nt, (hdS U n w t).2.2.1 = clW np nt ∧ NB (hdS U n w t).2.2.1 np nt := by
  unfold hdS at *
  simp only [] at *
  by_cases g : wrdS U t 0
  · rw [iteC_t g] at h ⊢
    by_cases g1 : (numS U n (tokS U n t.2.2) (nI 1) (nI 8)).1 = 0
    · rw [iteC_t g1] at h ⊢
      by_cases g2 : (numS U n (numS U n (tokS U n t.2.2) (nI 1) (nI 8)).2.2.2 (nI 1) (nI 10)).1 = 0
      · rw [iteC_t g2]
        obtain ⟨p, hp1, hp2, ep⟩ := num_pos (m := 8) (by decide) (num_ok g1).1 (num_ok g1).2
        obtain ⟨q, hq1, hq2, eq⟩ := num_pos (m := 10) (by decide) (num_ok g2).1 (num_ok g2).2
        refine ⟨p, q, ?_, ?_⟩
        · show clW _ _ = _
          rw [ep, eq, nI_clamp (by omega), nI_clamp (by omega)]
        · show NB (clW _ _) _ _
          rw [ep, eq, nI_clamp (by omega), nI_clamp (by omega)]
          exact cl_B hp1 hp2 hq1 hq2
      · rw [iteC_f g2] at h; exact absurd h g2
    · rw [iteC_f g1] at h; exact absurd h g1
  · rw [iteC_f g] at h; exact absurd (show (1 : Nat) = 0 from h) (by decide)
/-- a semicolon -/
noncomputable def scS (U : Nat → Int32) (n : Nat) (w : Nat → Int32) (t : TK) : CR := iteC (t.1 = 3) (0, 0, w, tokS U n t.2.2) (1, t.2.1, w, t)
noncomputable def stS (U : Nat → Int32) (n : Nat) (c : CR) : CR := iteC (c.1 = 0) (scS U n c.2.2.1 c.2.2.2) c
def npW (w : Nat → Int32) : Nat := (w 0).toNatClampNeg
def ntW (w : Nat → Int32) : Nat := (w 1).toNatClampNeg
theorem npW_e {w : Nat → Int32} {np nt : Nat} (hB : NB w np nt) : npW w = np := by unfold npW; rw [hB.1, nI_clamp (by have := hB.2.2.2.1; omega)]
theorem ntW_e {w : Nat → Int32} {np nt : Nat} (hB : NB w np nt) : ntW w = nt := by unfold ntW; rw [hB.2.1, nI_clamp (by have := hB.2.2.2.2.2; omega)]
/-- commands, one after another, at most so many -/
noncomputable def lpS (U : Nat → Int32) (n : Nat) : Nat → CR → CR
  | 0, c => c
  | f + 1, c => iteC (c.1 = 0 ∧ ¬ c.2.2.2.1 = 0) (lpS U n f (stS U n (cmS U n c.2.2.1 (npW c.2.2.1) (ntW c.2.2.1) c.2.2.2))) c
/-- a script -/
noncomputable def scX (U : Nat → Int32) (n : Nat) (w : Nat → Int32) : CR := lpS U n n (stS U n (hdS U n w (tokS U n 0)))
theorem call_semi {h : MH} {i n : Nat} {U w : Nat → Int32} {t : TK} {xk : String → MH → Prop} {k : Int32 → MH → Prop} (hS : SC h i U n w t) (hk : ∀ r h', cmP h h' i U n (scS U n w t) r → k r h') : CALLI x sX3_readSemicolon [.ref i] h xk k := by
  refine CI_of (c_readSemicolon hS.1 hS.2.2.1 hS.2.2.2) (fun _ _ z => z.elim) fun r h' hp => hk r h' ?_
  rcases hp with ⟨g, e, f1, f2, f3⟩ | ⟨g, e, f1, f2⟩
  · rw [show scS U n w t = (1, t.2.1, w, t) from iteC_f g]
    exact ⟨SC_fo hS f1, FRr_mono f1.1 (Nat.le_refl _) (by omega), Or.inr ⟨by show ¬ 1 = 0; omega, e, f2, f3⟩⟩
  · rw [show scS U n w t = (0, 0, w, tokS U n t.2.2) from iteC_t g]
    exact ⟨SC_tk hS f1 f2 (tok_b hS.2.2.2.2.1), FRr_mono f1.1 (Nat.le_refl _) (by omega), Or.inl ⟨rfl, e, f1.2.2 3 (by unfold tkF; omega), f1.2.2 4 (by unfold tkF; omega)⟩⟩
/-- a script's object after some of it -/
def exP (h h' : MH) (i : Nat) (U : Nat → Int32) (n : Nat) (c : CR) : Prop := SC h' i U n c.2.2.1 c.2.2.2 ∧ FRr h h' i (i + 9) ∧ mI h' i 3 = nI c.1 ∧ mI h' i 4 = iteC (c.1 = 0) (-1) (nI c.2.1)
theorem exP_cm {h h1 h2 : MH} {i n : Nat} {U : Nat → Int32} {c c2 : CR} {r : Int32} (hp : exP h h1 i U n c) (hc : c.1 = 0) (hq : cmP h1 h2 i U n c2 r) : exP h h2 i U n c2 ∧ r = bI (c2.1 = 0) := by
  obtain ⟨p1, p2, p3, p4⟩ := hp
  obtain ⟨q1, q2, q3⟩ := hq
  rcases q3 with ⟨a, b, c3, d⟩ | ⟨a, b, c3, d⟩
  · refine ⟨⟨q1, FRr_tr p2 q2, ?_, ?_⟩, by rw [bI_t a, b]⟩
    · rw [c3, p3, hc, a]
    · rw [d, p4, iteC_t hc, iteC_t a]
  · exact ⟨⟨q1, FRr_tr p2 q2, c3, by rw [d, iteC_f a]⟩, by rw [bI_f a, b]⟩
end SCR
