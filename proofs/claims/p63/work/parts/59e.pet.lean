section PET
variable {x : CX}
/-- tokens, capacities and weights are in their ranges -/
def TRg (w : Nat → Int32) (np nt : Nat) : Prop := (∀ p, p < np → ∃ t c, w (2 + p) = nI t ∧ w (10 + p) = nI c ∧ t ≤ c ∧ 1 ≤ c ∧ c ≤ 30) ∧ ∀ t p, t < nt → p < np → ∃ a b, w (28 + (t * 8 + p)) = nI a ∧ a ≤ 9 ∧ w (108 + (t * 8 + p)) = nI b ∧ b ≤ 9
def rmS (w : Nat → Int32) (n : Nat) : Int32 := foN (fun p a => a + w (10 + p)) (nI 0) n
theorem sum_nat {w : Nat → Int32} {np nt : Nat} (hT : TRg w np nt) : ∀ n, n ≤ np → ∃ a b, sumW w n = nI a ∧ rmS w n = nI b ∧ a ≤ b ∧ n ≤ b ∧ b ≤ 30 * n := by
  intro n
  induction n with
  | zero => exact fun _ => ⟨0, 0, rfl, rfl, Nat.le_refl _, Nat.le_refl _, Nat.le_refl _⟩
  | succ n ih =>
    intro hn
    obtain ⟨a, b, h1, h2, h3, h4, h5⟩ := ih (by omega)
    obtain ⟨t, c, e1, e2, e3, e4, e5⟩ := hT.1 n (by omega)
    refine ⟨a + t, b + c, ?_, ?_, by omega, by omega, by omega⟩
    · show sumW w n + w (2 + n) = _
      rw [h1, e1, nI_add]
    · show rmS w n + w (10 + n) = _
      rw [h2, e2, nI_add]
theorem pc_nat : ∀ k, k < 1024 → ∃ j, j < 11 ∧ pcN (nI k) = nI j := by decide +kernel
end PET
