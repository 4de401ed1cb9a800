section PET
variable {x : CX}
/-- tokens, capacities and weights are in their ranges -/
def TRg (w : Nat → Int32) (np nt : Nat) : Prop := (∀ p, p < np → ∃ t c, w (2 + p) = nI t ∧ w (10 + p) = nI c ∧ t ≤ c ∧ 1 ≤ c ∧ c ≤ 30) ∧ ∀ t p, t < nt → p < np → ∃ a b, w (28 + (t * 8 + p)) = nI a ∧ a ≤ 9 ∧ w (108 + (t * 8 + p)) = nI b ∧ b ≤ 9
def rmS (w : Nat → Int32) (n : Nat) : Int32 := foN (fun p a => a + w (10 + p)) (nI 0) n
theorem sum_nat {w : Nat → Int32} {np nt : Nat} (hT : TRg w np nt) : ∀ n, n ≤ np → ∃ a b, sumW w n = nI a ∧ rmS w n = nI b ∧ a ≤ b ∧ n ≤ b ∧ b ≤ 30 * n := by
  intro n
  induction n with
  | zero => exact fun _ => ⟨0, 0, rfl, rfl, Nat.le_refl _, Nat.le_refl _, Nat.le_refl _⟩
  | succ n ih =>
    intro hn
    obtain ⟨a, b, h1, h2, h3, h4, h5⟩ := ih (by omega)
    obtain ⟨t, c, e1, e2, e3, e4, e5⟩ := hT.1 n (by omega)
    refine ⟨a + t, b + c, ?_, ?_, by omega, by omega, by omega⟩
    · show sumW w n + w (2 + n) = _
      rw [h1, e1, nI_add]
    · show rmS w n + w (10 + n) = _
      rw [h2, e2, nI_add]
noncomputable def ldS (w : Nat → Int32) (np : Nat) : UInt64 := FP.ddiv (FP.i2d (sumW w np)) (FP.i2d (rmS w np))
theorem ld_ok {w : Nat → Int32} {np nt : Nat} (hB : NB w np nt) (hT : TRg w np nt) : vf_n64 (ldS w np) := by
  obtain ⟨a, b, h1, h2, h3, h4, h5⟩ := sum_nat hT np (Nat.le_refl _)
  have h6 := hB.2.2.1
  have h7 := hB.2.2.2.1
  unfold ldS
  rw [h1, h2]
  exact ddiv_ok b (by omega) a (by omega) (by omega)
theorem pc_nat : ∀ k, k < 1024 → ∃ j, j < 11 ∧ pcN (nI k) = nI j := by decide +kernel
noncomputable def shS (w : Nat → Int32) (np nt : Nat) : UInt32 := FP.fdiv (FP.i2f (pcN (esW w np nt))) (FP.i2f (nI nt))
theorem sh_ok {w : Nat → Int32} {np nt : Nat} (hB : NB w np nt) : vf_n32 (shS w np nt) := by
  have h5 := hB.2.2.2.2.2
  have h4 := hB.2.2.2.2.1
  obtain ⟨k, hk, ek, hb⟩ := es_nat (w := w) (np := np) nt h5
  have hp := pw_le h5
  obtain ⟨j, hj, ej⟩ := pc_nat k (by omega)
  unfold shS
  rw [ek, ej]
  exact fdiv_ok j (by omega) nt (by omega) (by omega)
/-! the report -/
def wR (s : AS) (r : RT) : AS := (aW s, aP s, aC s, aS s, aH s, aU s, aN s, aK s, aO s, r.1, r.2)
theorem rpC_2 {c : Int32} {r : RT} : (rpC c r).2 = r.2 + 1 := rfl
theorem rpN_2 {v : Int32} {r : RT} : (rpN v r).2 ≤ r.2 + 2 := by
  unfold rpN
  exact iteC_P (fun q : RT => q.2 ≤ r.2 + 2) (by rw [rpC_2]; omega) (by rw [rpC_2, rpC_2]; omega)
theorem rpT_2 {v : Int32} {n : Nat} {r : RT} : (rpT v n r).2.2 ≤ r.2 + 3 * n := by
  induction n with
  | zero => exact Nat.le_refl _
  | succ n ih =>
    show (iteC (tb v n) (False, rpN (nI n) (iteC (rpT v n r).1 (rpT v n r).2 (rpC (nI 44) (rpT v n r).2))) (rpT v n r)).2.2 ≤ _
    refine iteC_P (fun q : Prop × RT => q.2.2 ≤ r.2 + 3 * (n + 1)) ?_ (by omega)
    show (rpN (nI n) _).2 ≤ _
    have h1 := rpN_2 (v := nI n) (r := iteC (rpT v n r).1 (rpT v n r).2 (rpC (nI 44) (rpT v n r).2))
    have h2 := iteC_P (c := (rpT v n r).1) (a := (rpT v n r).2) (b := rpC (nI 44) (rpT v n r).2) (fun q : RT => q.2 ≤ r.2 + 3 * n + 1) (by omega) (by rw [rpC_2]; omega)
    omega
theorem rpM_2 {w R : Nat → Int32} {n : Nat} : (rpM w n (R, 0)).2 ≤ 3 * n := by
  induction n with
  | zero => exact Nat.le_refl _
  | succ n ih =>
    show (rpN (w (2 + n)) (iteC (n = 0) (rpM w n (R, 0)) (rpC (nI 44) (rpM w n (R, 0))))).2 ≤ _
    have h1 := rpN_2 (v := w (2 + n)) (r := iteC (n = 0) (rpM w n (R, 0)) (rpC (nI 44) (rpM w n (R, 0))))
    have h2 := iteC_P (c := n = 0) (a := rpM w n (R, 0)) (b := rpC (nI 44) (rpM w n (R, 0))) (fun q : RT => q.2 ≤ 3 * n + 1) (by omega) (by rw [rpC_2]; omega)
    omega
theorem rpT_f {v : Int32} {n : Nat} {r : RT} : (rpT v n r).1 = ∀ t, t < n → ¬ tb v t := by
  induction n with
  | zero => exact propext ⟨fun _ t ht => absurd ht (Nat.not_lt_zero _), fun _ => trivial⟩
  | succ n ih =>
    show (iteC (tb v n) (False, rpN (nI n) (iteC (rpT v n r).1 (rpT v n r).2 (rpC (nI 44) (rpT v n r).2))) (rpT v n r)).1 = _
    by_cases g : tb v n
    · rw [iteC_t g]
      exact propext ⟨fun z => z.elim, fun z => z n (Nat.lt_succ_self n) g⟩
    · rw [iteC_f g, ih]
      exact propext ⟨fun z => lt_succ_all z g, fun z t ht => z t (by omega)⟩
end PET
