section PET
variable {x : CX}
/-! vectors -/
theorem nI_div {a b : Nat} (ha : a < 2 ^ 31) (hb : b < 2 ^ 31) : nI a / nI b = nI (a / b) := (Int32.ofNat_div ha hb).symm
theorem dv_nat {a : Nat} (ha : a < 2 ^ 31) : ∀ k, dvS (nI a) k = nI (a / 10 ^ k) := by
  intro k
  induction k with
  | zero => rw [Nat.pow_zero, Nat.div_one]; rfl
  | succ k ih =>
    have h1 : a / 10 ^ k ≤ a := Nat.div_le_self _ _
    show dvS (nI a) k / nI 10 = _
    rw [ih, nI_div (by omega) (by decide), Nat.div_div_eq_div_mul, ← Nat.pow_succ]
theorem dg_nat {a k : Nat} (ha : a < 2 ^ 31) : dgS (nI a) k = nI (a / 10 ^ k % 10) := by
  have h1 : a / 10 ^ k ≤ a := Nat.div_le_self _ _
  unfold dgS
  rw [dv_nat ha, nI_div (by omega) (by decide), nI_mul, nI_sub (by omega)]
  congr 1
  omega
theorem okV_nat {a m : Nat} (ha : a < 2 ^ 31) : okV (nI a) m = (a / 10 ^ m = 0) := by
  have h1 : a / 10 ^ m ≤ a := Nat.div_le_self _ _
  unfold okV
  rw [dv_nat ha, nI_ltz ha, nI_eqz (by omega), not_false_eq_true, true_and]
/-- a number has no digit behind so many -/
theorem dig_0 {a m : Nat} (ha : a < 2 ^ 31) (hm : m ≤ 10) (h : ∀ j, m ≤ j → j < 10 → a / 10 ^ j % 10 = 0) : a / 10 ^ m = 0 := by
  have : ∀ j, j ≤ 10 - m → a / 10 ^ (10 - j) = 0 := by
    intro j
    induction j with
    | zero => exact fun _ => Nat.div_eq_of_lt (Nat.lt_trans ha (by decide))
    | succ j ih =>
      intro hj
      have h1 := ih (by omega)
      have h2 := h (10 - (j + 1)) (by omega) (by omega)
      rw [show 10 - j = (10 - (j + 1)) + 1 by omega, Nat.pow_succ, ← Nat.div_div_eq_div_mul] at h1
      omega
  have := this (10 - m) (Nat.le_refl _)
  rwa [show 10 - (10 - m) = m by omega] at this
theorem dig_n {a m j : Nat} (hj : m ≤ j) (h : ¬ a / 10 ^ j % 10 = 0) : ¬ a / 10 ^ m = 0 := fun z => h (by
  rw [show j = m + (j - m) by omega, Nat.pow_add, ← Nat.div_div_eq_div_mul, z, Nat.zero_div])
def vcP (h : MH) (i : Nat) (s : AS) (v : Int32) (h' : MH) : Prop := (∀ k, k < 10 → mI h' (i + 117) k = dgS v k) ∧ PO h' i s ∧ FRr h h' (i + 117) (i + 118)
def vcX (h : MH) (i : Nat) (s : AS) (bad : Prop) (E : String) (h' : MH) : Prop := E = eIA ∧ bad ∧ PO h' i s ∧ FZ h h' i (i + 119)
end PET
