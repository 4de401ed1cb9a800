section ARI
theorem nI_mul (a b : Nat) : nI a * nI b = nI (a * b) := (Int32.ofNat_mul a b).symm
theorem nI_sub {a b : Nat} (h : b ≤ a) : nI a - nI b = nI (a - b) := by
  have e := nI_add (a - b) b
  rw [Nat.sub_add_cancel h] at e
  rw [← e]; exact Int32.add_sub_cancel _ _
theorem nI_eqz {n : Nat} (h : n < 2 ^ 31) : (nI n = 0) = (n = 0) := propext ⟨fun e => (Nat.eq_zero_or_pos n).elim id fun g => absurd e (nI_ne0 g h), fun e => by subst e; exact nI_0⟩
theorem nI_ltz {n : Nat} (h : n < 2 ^ 31) : (nI n < 0) = False := eq_false (nI_pos h)
theorem nI_gez {n : Nat} (h : n < 2 ^ 31) : ((0 : Int32) ≤ nI n) = True := eq_true (nI_pos' h)
theorem nI_lez {n : Nat} (h : n < 2 ^ 31) : (nI n ≤ 0) = (n = 0) := propext ⟨fun e => (Nat.eq_zero_or_pos n).elim id fun g => absurd e (nI_nle g h), fun e => by subst e; rw [nI_0]; exact Int32.le_refl 0⟩
theorem nI_gtz {n : Nat} (h : n < 2 ^ 31) : ((0 : Int32) < nI n) = (0 < n) := by rw [← nI_0]; exact propext (nI_ltI (by decide) h)
theorem nI_eqE {a b : Nat} (ha : a < 2 ^ 31) (hb : b < 2 ^ 31) : (nI a = nI b) = (a = b) := propext (nI_eq ha hb)
theorem nI_leE {a b : Nat} (ha : a < 2 ^ 31) (hb : b < 2 ^ 31) : (nI a ≤ nI b) = (a ≤ b) := propext (nI_leI ha hb)
theorem nI_ltE {a b : Nat} (ha : a < 2 ^ 31) (hb : b < 2 ^ 31) : (nI a < nI b) = (a < b) := propext (nI_ltI ha hb)
theorem nI_inE {n N : Nat} (h : n < N) (hN : N < 2 ^ 31) : vp_in (nI n) N = True := eq_true (vp_in_nI h hN)
theorem nI_m1 {n : Nat} (h : n < 2 ^ 31) : (nI n = -1) = False := eq_false fun e => by have := nI_pos h; rw [e] at this; exact this (by decide)
theorem nI_m1' {n : Nat} (h : n < 2 ^ 31) : (-1 = nI n) = False := eq_false fun e => by have := nI_pos h; rw [← e] at this; exact this (by decide)
theorem nI_ltm {n : Nat} (h : n < 2 ^ 31) : (nI n < -1) = False := eq_false fun e => by
  have h1 := Int32.lt_iff_toInt_lt.mp e
  rw [nI_toInt h] at h1
  have h2 : (-1 : Int32).toInt = -1 := by decide
  omega
/-- a loop that counts up -/
theorem loop_up {P : Nat → Prop} (n : Nat) (step : ∀ k, k ≤ n → (k < n → P (k + 1)) → P k) : ∀ k, k ≤ n → P k := by
  have : ∀ d k, k ≤ n → n - k = d → P k := by
    intro d
    induction d with
    | zero => intro k hk e; exact step k hk (fun g => absurd g (by omega))
    | succ d ih => intro k hk e; exact step k hk (fun g => ih (k + 1) g (by omega))
  exact fun k hk => this _ k hk rfl
def foN {α : Type} (f : Nat → α → α) (a : α) : Nat → α
  | 0 => a
  | k + 1 => f k (foN f a k)
theorem foN_0 {α : Type} {f : Nat → α → α} {a : α} : foN f a 0 = a := rfl
theorem foN_S {α : Type} {f : Nat → α → α} {a : α} {k : Nat} : foN f a (k + 1) = f k (foN f a k) := rfl
variable {x : CX}
theorem CI_pure {q : MS} {as : List Value} {h : MH} {v : Int32} {xk : String → MH → Prop} {k : Int32 → MH → Prop} (hc : CT x q as h (pI fun r h' => r = v ∧ h' = h) xNo) (hk : k v h) : CALLI x q as h xk k :=
  ⟨_, _, hc, fun _ _ g => g.elim, fun _ _ g => by obtain ⟨rfl, rfl⟩ := g; exact hk⟩
theorem CI_of {q : MS} {as : List Value} {h : MH} {p : Int32 → MH → Prop} {xp xk : String → MH → Prop} {k : Int32 → MH → Prop} (hc : CT x q as h (pI p) xp) (hx : ∀ E h', xp E h' → xk E h') (hk : ∀ r h', p r h' → k r h') : CALLI x q as h xk k :=
  ⟨_, _, hc, hx, hk⟩
theorem CV_of {q : MS} {as : List Value} {h : MH} {p : MH → Prop} {xp xk : String → MH → Prop} {k : MH → Prop} (hc : CT x q as h (pV p) xp) (hx : ∀ E h', xp E h' → xk E h') (hk : ∀ h', p h' → k h') : CALLV x q as h xk k :=
  ⟨_, _, hc, hx, hk⟩
end ARI
