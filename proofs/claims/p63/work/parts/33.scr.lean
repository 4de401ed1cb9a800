section SCR
variable {x : CX}
/-- reading a number: error's kind and place, value, next token -/
noncomputable def numS (U : Nat → Int32) (n : Nat) (t : TK) (lo hi : Int32) : Nat × Nat × Int32 × TK :=
  iteC (t.1 = 2) (iteC (valS U t.2.1 (t.2.2 - t.2.1) < lo ∨ hi < valS U t.2.1 (t.2.2 - t.2.1)) (2, t.2.1, -1, t) (0, 0, valS U t.2.1 (t.2.2 - t.2.1), tokS U n t.2.2)) (1, t.2.1, -1, t)
/-- a token within the text -/
def tkB (n : Nat) (t : TK) : Prop := t.2.1 ≤ t.2.2 ∧ t.2.2 ≤ n ∧ t.1 < 5
theorem num_b {U : Nat → Int32} {n : Nat} {t : TK} {lo hi : Int32} (ht : tkB n t) : tkB n (numS U n t lo hi).2.2.2 := by
  unfold numS
  by_cases g : t.1 = 2
  · rw [iteC_t g]
    by_cases g2 : valS U t.2.1 (t.2.2 - t.2.1) < lo ∨ hi < valS U t.2.1 (t.2.2 - t.2.1)
    · rw [iteC_t g2]; exact ht
    · rw [iteC_f g2]; exact tok_b ht.2.1
  · rw [iteC_f g]; exact ht
/-- a script with its net and its next token -/
def SC (h : MH) (i : Nat) (U : Nat → Int32) (n : Nat) (w : Nat → Int32) (t : TK) : Prop := SXs h i U n ∧ NW h (i + 2) w ∧ tkI h i t ∧ tkB n t
theorem SC_fo {h h' : MH} {i n : Nat} {U w : Nat → Int32} {t : TK} (hS : SC h i U n w t) (hF : FO h h' i (fun k => k = 3 ∨ k = 4)) : SC h' i U n w t :=
  ⟨SXs_fo hS.1 hF (by omega), NW_fr hS.2.1 hF.1 (by omega), ⟨(hF.2.2 5 (by omega)).trans hS.2.2.1.1, (hF.2.2 6 (by omega)).trans hS.2.2.1.2.1, (hF.2.2 7 (by omega)).trans hS.2.2.1.2.2⟩, hS.2.2.2⟩
theorem SC_tk {h h' : MH} {i n : Nat} {U w : Nat → Int32} {t t' : TK} (hS : SC h i U n w t) (hF : FO h h' i tkF) (hT : tkI h' i t') (hb : tkB n t') : SC h' i U n w t' :=
  ⟨SXs_fo hS.1 hF (by unfold tkF; omega), NW_fr hS.2.1 hF.1 (by omega), hT, hb⟩
theorem call_num {h : MH} {i n : Nat} {U w : Nat → Int32} {t : TK} {lo hi : Int32} {xk : String → MH → Prop} {k : Int32 → MH → Prop} (hS : SC h i U n w t)
    (hk : ∀ h', SC h' i U n w (numS U n t lo hi).2.2.2 → FRr h h' i (i + 1) → ((numS U n t lo hi).1 = 0 ∧ ¬ (numS U n t lo hi).2.2.1 < lo ∧ ¬ hi < (numS U n t lo hi).2.2.1 ∧ mI h' i 3 = mI h i 3 ∧ mI h' i 4 = mI h i 4 ∨ ¬ (numS U n t lo hi).1 = 0 ∧ (numS U n t lo hi).2.2.1 = -1 ∧ mI h' i 3 = nI (numS U n t lo hi).1 ∧ mI h' i 4 = nI (numS U n t lo hi).2.1) → k (numS U n t lo hi).2.2.1 h') : CALLI x sX3_readNumber [.ref i, .int lo, .int hi] h xk k := by
  refine CI_of (c_readNumber hS.1 hS.2.2.1 hS.2.2.2) (fun _ _ z => z.elim) fun r h' hp => ?_
  rcases hp with ⟨g, e, f1, f2, f3⟩ | ⟨g, gb, e, f1, f2, f3⟩ | ⟨g, gb, e, f1, f2⟩
  · have en : numS U n t lo hi = (1, t.2.1, -1, t) := iteC_f g
    rw [en] at hk
    rw [e]
    exact hk h' (SC_fo hS f1) f1.1 (Or.inr ⟨by show ¬ 1 = 0; omega, rfl, f2, f3⟩)
  · have en : numS U n t lo hi = (2, t.2.1, -1, t) := (iteC_t g).trans (iteC_t gb)
    rw [en] at hk
    rw [e]
    exact hk h' (SC_fo hS f1) f1.1 (Or.inr ⟨by show ¬ 2 = 0; omega, rfl, f2, f3⟩)
  · have en : numS U n t lo hi = (0, 0, valS U t.2.1 (t.2.2 - t.2.1), tokS U n t.2.2) := (iteC_t g).trans (iteC_f gb)
    rw [en] at hk
    rw [e]
    exact hk h' (SC_tk hS f1 f2 (tok_b hS.2.2.2.2.1)) f1.1 (Or.inl ⟨rfl, fun z => gb (Or.inl z), fun z => gb (Or.inr z), f1.2.2 3 (by unfold tkF; omega), f1.2.2 4 (by unfold tkF; omega)⟩)
/-- a number from 0 to below m -/
theorem num_nat {v : Int32} {m : Nat} (hm : m < 1000) (h1 : ¬ v < nI 0) (h2 : ¬ nI m - nI 1 < v) : ∃ j, j < m ∧ v = nI j := by
  rw [nI_0] at h1
  obtain ⟨j, hj, e⟩ := nI_of h1
  subst e
  rcases Nat.eq_zero_or_pos m with g | g
  · subst g
    exfalso
    apply h2
    rw [show nI 0 - nI 1 = -1 by decide]
    exact of_eq_true (nI_gtm hj)
  · rw [nI_sub (by omega), nI_ltI (by omega) hj] at h2
    exact ⟨j, by omega, rfl⟩
end SCR
