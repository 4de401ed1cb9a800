section PUR
/-- the reason at a place, as a number -/
def rsN (w : Nat → Int32) (t p : Nat) : Nat := if w (2 + p) < w (28 + (t * 8 + p)) then 1 else if ¬ w (188 + (t * 8 + p)) = 0 ∧ w (188 + (t * 8 + p)) ≤ w (2 + p) then 2 else if w (10 + p) < w (2 + p) - w (28 + (t * 8 + p)) + w (108 + (t * 8 + p)) then 3 else 0
theorem rs_e {w : Nat → Int32} {t p : Nat} : rsnW w t p = nI (rsN w t p) := by
  unfold rsnW rsN
  repeat' split
  all_goals rfl
theorem rs_le {w : Nat → Int32} {t p : Nat} : rsN w t p ≤ 3 := by
  unfold rsN
  repeat' split
  all_goals decide
def raN (w : Nat → Int32) (t n : Nat) : Nat := foN (fun p f => if rsN w t p ≠ 0 ∧ (f = 0 ∨ rsN w t p < f) then rsN w t p else f) 0 n
theorem ra_e {w : Nat → Int32} {t n : Nat} : raW w t n = nI (raN w t n) ∧ raN w t n ≤ 3 := by
  induction n with
  | zero => exact ⟨rfl, Nat.zero_le _⟩
  | succ n ih =>
    have h1 := rs_le (w := w) (t := t) (p := n)
    have e1 : raW w t (n + 1) = iteC (¬ rsnW w t n = 0 ∧ (raW w t n = 0 ∨ rsnW w t n < raW w t n)) (rsnW w t n) (raW w t n) := rfl
    have e2 : raN w t (n + 1) = if rsN w t n ≠ 0 ∧ (raN w t n = 0 ∨ rsN w t n < raN w t n) then rsN w t n else raN w t n := rfl
    rw [e1, e2, rs_e, ih.1, nI_eqz (by omega), nI_eqz (by omega), nI_ltI (by omega) (by omega)]
    unfold iteC
    split
    · exact ⟨rfl, h1⟩
    · exact ⟨rfl, ih.2⟩
theorem ra_c {w : Nat → Int32} {t n : Nat} : (raN w t n = 0 → ∀ p, p < n → rsN w t p = 0) ∧ (raN w t n ≠ 0 → (∃ p, p < n ∧ rsN w t p = raN w t n) ∧ ∀ p, p < n → rsN w t p = 0 ∨ raN w t n ≤ rsN w t p) := by
  induction n with
  | zero => exact ⟨fun _ p hp => absurd hp (Nat.not_lt_zero _), fun h => absurd rfl h⟩
  | succ n ih =>
    have e2 : raN w t (n + 1) = if rsN w t n ≠ 0 ∧ (raN w t n = 0 ∨ rsN w t n < raN w t n) then rsN w t n else raN w t n := rfl
    rw [e2]
    split
    · rename_i g
      refine ⟨fun z => absurd z g.1, fun _ => ⟨⟨n, Nat.lt_succ_self n, rfl⟩, lt_succ_all (fun p hp => ?_) (Or.inr (Nat.le_refl _))⟩⟩
      rcases g.2 with z | z
      · exact Or.inl (ih.1 z p hp)
      · exact ((ih.2 (by omega)).2 p hp).imp id fun q => by omega
    · rename_i g
      refine ⟨fun z => lt_succ_all (ih.1 z) (Classical.byContradiction fun q => g ⟨q, Or.inl z⟩), fun z => ⟨?_, lt_succ_all (ih.2 z).2 ?_⟩⟩
      · obtain ⟨p, hp, e⟩ := (ih.2 z).1
        exact ⟨p, by omega, e⟩
      · by_cases q : rsN w t n = 0
        · exact Or.inl q
        · refine Or.inr (Classical.byContradiction fun q2 => g ⟨q, Or.inr (by omega)⟩)
/-- a reason applies at a place -/
def apW (w : Nat → Int32) (k t p : Nat) : Prop := (k = 1 ∧ w (2 + p) < w (28 + (t * 8 + p))) ∨ (k = 2 ∧ ¬ w (188 + (t * 8 + p)) = 0 ∧ w (188 + (t * 8 + p)) ≤ w (2 + p)) ∨ (k = 3 ∧ w (10 + p) < w (2 + p) + effW w t p)
theorem ef_e {w : Nat → Int32} {t p : Nat} : w (2 + p) + effW w t p = w (2 + p) - w (28 + (t * 8 + p)) + w (108 + (t * 8 + p)) := by
  unfold effW
  rw [Int32.sub_eq_add_neg, Int32.sub_eq_add_neg, Int32.add_assoc, Int32.add_comm (w (108 + (t * 8 + p)))]
theorem rs_ap {w : Nat → Int32} {t p : Nat} (h : rsN w t p ≠ 0) : apW w (rsN w t p) t p := by
  unfold apW
  rw [ef_e]
  unfold rsN at *
  by_cases g1 : w (2 + p) < w (28 + (t * 8 + p))
  · rw [if_pos g1]; exact Or.inl ⟨rfl, g1⟩
  · rw [if_neg g1] at h ⊢
    by_cases g2 : ¬ w (188 + (t * 8 + p)) = 0 ∧ w (188 + (t * 8 + p)) ≤ w (2 + p)
    · rw [if_pos g2]; exact Or.inr (Or.inl ⟨rfl, g2⟩)
    · rw [if_neg g2] at h ⊢
      by_cases g3 : w (10 + p) < w (2 + p) - w (28 + (t * 8 + p)) + w (108 + (t * 8 + p))
      · rw [if_pos g3]; exact Or.inr (Or.inr ⟨rfl, g3⟩)
      · rw [if_neg g3] at h; exact absurd rfl h
theorem ap_rs {w : Nat → Int32} {k t p : Nat} (h : apW w k t p) : rsN w t p ≠ 0 ∧ rsN w t p ≤ k := by
  unfold apW at h
  rw [ef_e] at h
  unfold rsN
  by_cases g1 : w (2 + p) < w (28 + (t * 8 + p))
  · rw [if_pos g1]; exact ⟨by decide, by rcases h with h | h | h <;> omega⟩
  · rw [if_neg g1]
    by_cases g2 : ¬ w (188 + (t * 8 + p)) = 0 ∧ w (188 + (t * 8 + p)) ≤ w (2 + p)
    · rw [if_pos g2]
      exact ⟨by decide, by rcases h with ⟨-, h⟩ | ⟨h, -⟩ | ⟨h, -⟩ <;> first | exact absurd h g1 | omega⟩
    · rw [if_neg g2]
      rcases h with ⟨-, h⟩ | ⟨-, h⟩ | ⟨hk, h⟩
      · exact absurd h g1
      · exact absurd h g2
      · rw [if_pos h]; exact ⟨by decide, by omega⟩
theorem ff_congr {c d : Nat → Prop} {n : Nat} (h : ∀ k, k < n → (c k ↔ d k)) : ffN c n = ffN d n := by
  rcases ff_cases c n with ⟨k, h1, h2, h3, e⟩ | ⟨h1, e⟩
  · rw [e, ff_hit h1 ((h k h1).mp h2) fun j hj z => h3 j hj ((h j (by omega)).mpr z)]
  · rw [e, ff_miss fun j hj z => h1 j hj ((h j hj).mpr z)]
/-- the first reason that applies somewhere -/
theorem ra_first {w : Nat → Int32} {t np k : Nat} (hk : ∃ p, p < np ∧ apW w k t p) (hl : ∀ j, 1 ≤ j → j < k → ¬ ∃ p, p < np ∧ apW w j t p) : raN w t np = k := by
  obtain ⟨p, hp, h⟩ := hk
  obtain ⟨h1, h2⟩ := ap_rs h
  have hc := ra_c (w := w) (t := t) (n := np)
  have hne : raN w t np ≠ 0 := fun z => h1 (hc.1 z p hp)
  obtain ⟨⟨q, hq, e⟩, h3⟩ := hc.2 hne
  have h4 : raN w t np ≤ k := by
    rcases h3 p hp with z | z
    · exact absurd z h1
    · omega
  have h5 := rs_ap (w := w) (t := t) (p := q) (by omega)
  rw [e] at h5
  refine Nat.le_antisymm h4 (Classical.byContradiction fun z => hl _ (by omega) (by omega) ⟨q, hq, h5⟩)
theorem ra_none {w : Nat → Int32} {t np : Nat} (hl : ∀ j, 1 ≤ j → j < 4 → ¬ ∃ p, p < np ∧ apW w j t p) : raN w t np = 0 := by
  refine Classical.byContradiction fun hne => ?_
  obtain ⟨⟨q, hq, e⟩, -⟩ := (ra_c (w := w) (t := t) (n := np)).2 hne
  have h5 := rs_ap (w := w) (t := t) (p := q) (by omega)
  rw [e] at h5
  have := (ra_e (w := w) (t := t) (n := np)).2
  exact hl _ (by omega) (by omega) ⟨q, hq, h5⟩
theorem ra_en {w : Nat → Int32} {t np : Nat} : (raW w t np = 0) = enW w np t := by
  have h1 := ra_e (w := w) (t := t) (n := np)
  have hc := ra_c (w := w) (t := t) (n := np)
  rw [h1.1, nI_eqz (by omega)]
  refine propext ⟨fun z p hp => by rw [rs_e, hc.1 z p hp]; exact nI_0, fun z => Classical.byContradiction fun hne => ?_⟩
  obtain ⟨⟨q, hq, e⟩, -⟩ := hc.2 hne
  have := z q hq
  rw [rs_e, nI_eqz (by have := rs_le (w := w) (t := t) (p := q); omega)] at this
  omega
theorem fb_e {w : Nat → Int32} {t np : Nat} (h : ¬ raW w t np = 0) : fbW w t np = ffN (fun p => apW w (raN w t np) t p) np := by
  have h1 := ra_e (w := w) (t := t) (n := np)
  have hc := ra_c (w := w) (t := t) (n := np)
  rw [show fbW w t np = _ from iteC_f h]
  rw [h1.1, nI_eqz (by omega)] at h
  refine ff_congr fun p hp => ?_
  have hl := rs_le (w := w) (t := t) (p := p)
  rw [h1.1, rs_e, nI_eq (by omega) (by omega)]
  refine ⟨fun e => by have := rs_ap (w := w) (t := t) (p := p) (by omega); rwa [e] at this, fun z => ?_⟩
  obtain ⟨a1, a2⟩ := ap_rs z
  rcases (hc.2 h).2 p hp with q | q <;> omega
end PUR
section PUR
theorem ap1 {w : Nat → Int32} {t p : Nat} : apW w 1 t p = (w (2 + p) < w (28 + (t * 8 + p))) := propext ⟨fun h => by
  rcases h with ⟨_, h⟩ | ⟨h, _⟩ | ⟨h, _⟩
  · exact h
  · omega
  · omega, fun h => Or.inl ⟨rfl, h⟩⟩
theorem ap2 {w : Nat → Int32} {t p : Nat} : apW w 2 t p = (¬ w (188 + (t * 8 + p)) = 0 ∧ w (188 + (t * 8 + p)) ≤ w (2 + p)) := propext ⟨fun h => by
  rcases h with ⟨h, _⟩ | ⟨_, h⟩ | ⟨h, _⟩
  · omega
  · exact h
  · omega, fun h => Or.inr (Or.inl ⟨rfl, h⟩)⟩
theorem ap3 {w : Nat → Int32} {t p : Nat} : apW w 3 t p = (w (10 + p) < w (2 + p) + effW w t p) := propext ⟨fun h => by
  rcases h with ⟨h, _⟩ | ⟨h, _⟩ | ⟨_, h⟩
  · omega
  · omega
  · exact h, fun h => Or.inr (Or.inr ⟨rfl, h⟩)⟩
theorem or0 (s : Int32) : s ||| nI 0 = s := by rw [nI_0]; exact Int32.or_zero
end PUR
