section PUR
/-! packed markings -/
theorem pk_step : ∀ p, p < 8 → ∀ x, x < 32 → (nI x).toInt64 <<< shQ p = Int64.ofNat (x * 32 ^ p) := by decide +kernel
theorem pc_step : ∀ p, p < 8 → ∀ x, x < 31 → ∀ a, a < 10 → a ≤ x → ∀ b, b < 10 → (nI x).toInt64 <<< shQ p + (nI b - nI a).toInt64 <<< shQ p = (nI (x - a + b)).toInt64 <<< shQ p := by decide +kernel
def pkN (f : Nat → Nat) (n : Nat) : Nat := foN (fun p s => s + f p * 32 ^ p) 0 n
theorem pkN_S {f : Nat → Nat} {n : Nat} : pkN f (n + 1) = pkN f n + f n * 32 ^ n := rfl
theorem pkN_lt {f : Nat → Nat} {n : Nat} (hf : ∀ p, p < n → f p < 32) : pkN f n < 32 ^ n := by
  induction n with
  | zero => exact Nat.one_pos
  | succ n ih =>
    have h1 := ih fun p hp => hf p (by omega)
    have h2 := hf n (Nat.lt_succ_self n)
    rw [pkN_S, Nat.pow_succ]
    have h3 : f n * 32 ^ n ≤ 31 * 32 ^ n := Nat.mul_le_mul_right _ (by omega)
    omega
theorem pkN_dig {f : Nat → Nat} {n p : Nat} (hf : ∀ p, p < n → f p < 32) (hp : p < n) : pkN f n / 32 ^ p % 32 = f p := by
  induction n with
  | zero => exact absurd hp (Nat.not_lt_zero _)
  | succ n ih =>
    have h1 := pkN_lt (f := f) (n := n) fun p hp => hf p (by omega)
    have h2 := hf n (Nat.lt_succ_self n)
    have hpos : 0 < 32 ^ p := Nat.pow_pos (by decide)
    rw [pkN_S]
    rcases Nat.lt_succ_iff_lt_or_eq.mp hp with g | g
    · have e : f n * 32 ^ n = 32 ^ p * (f n * 32 ^ (n - p - 1) * 32) := by
        rw [Nat.mul_assoc (f n), ← Nat.pow_succ, Nat.mul_left_comm, ← Nat.pow_add]
        congr 2
        omega
      rw [e, Nat.add_mul_div_left _ _ hpos, Nat.add_mul_mod_self_right]
      exact ih (fun p hp => hf p (by omega)) g
    · subst g
      rw [Nat.mul_comm, Nat.add_mul_div_left _ _ hpos, Nat.div_eq_of_lt h1, Nat.zero_add, Nat.mod_eq_of_lt h2]
theorem pk_nat {v : Nat → Int32} {f : Nat → Nat} {n : Nat} (hn : n ≤ 8) (hv : ∀ p, p < n → v (2 + p) = nI (f p) ∧ f p < 32) : pkS v n = Int64.ofNat (pkN f n) := by
  induction n with
  | zero => rfl
  | succ n ih =>
    obtain ⟨h1, h2⟩ := hv n (Nat.lt_succ_self n)
    have e : pkS v (n + 1) = pkS v n + (v (2 + n)).toInt64 <<< shQ n := rfl
    rw [e, ih (by omega) fun p hp => hv p (by omega), h1, pk_step n (by omega) _ h2, pkN_S, Int64.ofNat_add]
theorem up_nat {K p : Nat} (hK : K < 2 ^ 63) (hp : p < 8) : upT (Int64.ofNat K) p = nI (K / 32 ^ p % 32) := by
  have hs : ∀ p, p < 8 → ((nI (5 * p)).toInt64.toUInt64 &&& Int64.toUInt64 63).toNat % 64 = 5 * p := by decide +kernel
  have e1 : ((Int64.ofNat K).toUInt64 >>> ((nI (5 * p)).toInt64.toUInt64 &&& Int64.toUInt64 63)) = UInt64.ofNat (K / 32 ^ p) := by
    refine UInt64.toNat_inj.mp ?_
    have hK2 : (Int64.ofNat K).toUInt64.toNat = K := by
      show (UInt64.ofNat K).toNat = K
      exact UInt64.toNat_ofNat_of_lt' (Nat.lt_of_lt_of_le hK (by decide))
    have hd : K / 32 ^ p < UInt64.size := Nat.lt_of_le_of_lt (Nat.div_le_self _ _) (Nat.lt_of_lt_of_le hK (by decide))
    rw [UInt64.toNat_shiftRight, hs p hp, hK2, Nat.shiftRight_eq_div_pow, Nat.pow_mul, UInt64.toNat_ofNat_of_lt' hd]
  unfold upT
  rw [e1]
  generalize K / 32 ^ p = n
  have e2 : (UInt64.ofNat n).toInt64.toInt32 = nI (n % 2 ^ 32) := by
    refine Int32.toBitVec_inj.mp ?_
    show (BitVec.ofNat 64 n).signExtend 32 = BitVec.ofNat 32 (n % 2 ^ 32)
    rw [BitVec.signExtend_eq_setWidth_of_le _ (by decide)]
    apply BitVec.eq_of_toNat_eq
    simp
  rw [e2, pk_andN (by omega) 5 (by decide)]
  congr 1
  omega
/-- a marking that a net may have -/
def GM (w v : Nat → Int32) (np : Nat) : Prop := (∀ m, m < 2 ∨ 2 + np ≤ m → v m = w m) ∧ ∀ p, p < np → ∃ y c, v (2 + p) = nI y ∧ w (10 + p) = nI c ∧ y ≤ c ∧ c ≤ 30
theorem GM_self {w : Nat → Int32} {np nt : Nat} (hT : TRg w np nt) : GM w w np := ⟨fun _ _ => rfl, fun p hp => let ⟨t, c, e1, e2, e3, _, e5⟩ := hT.1 p hp; ⟨t, c, e1, e2, e3, e5⟩⟩
theorem GM_f {w v : Nat → Int32} {np : Nat} (hG : GM w v np) : ∀ p, p < np → v (2 + p) = nI (cl (v (2 + p))) ∧ cl (v (2 + p)) < 32 := fun p hp => by
  obtain ⟨y, c, e1, e2, e3, e4⟩ := hG.2 p hp
  rw [e1, cl_nI (by omega)]
  exact ⟨rfl, by omega⟩
theorem GM_up {w v : Nat → Int32} {np p : Nat} (hG : GM w v np) (hn : np ≤ 8) (hp : p < np) : upT (pkS v np) p = v (2 + p) := by
  have hf := GM_f hG
  have h1 := pkN_lt (f := fun p => cl (v (2 + p))) (n := np) fun p hp => (hf p hp).2
  have h2 : 32 ^ np ≤ 32 ^ 8 := Nat.pow_le_pow_right (by decide) hn
  rw [pk_nat hn hf, up_nat (by omega) (by omega), pkN_dig (fun p hp => (hf p hp).2) hp]
  exact (hf p hp).1.symm
theorem GM_un {w v : Nat → Int32} {np : Nat} (hG : GM w v np) (hn : np ≤ 8) : unW w (pkS v np) np = v := funext fun m => by
  unfold unW
  split
  · rename_i g
    rw [GM_up hG hn (by omega)]
    congr 1
    omega
  · rename_i g
    exact (hG.1 m (by omega)).symm
theorem pk_0 {v : Nat → Int32} : pkS v 0 = 0 := by unfold pkS; exact foN_0
theorem pc_0 {w : Nat → Int32} {t : Nat} : pcS w t 0 = 0 := by unfold pcS; exact foN_0
theorem pk_congr {v u : Nat → Int32} {n : Nat} (h : ∀ p, p < n → v (2 + p) = u (2 + p)) : pkS v n = pkS u n := by
  induction n with
  | zero => rw [pk_0, pk_0]
  | succ n ih =>
    show pkS v n + (v (2 + n)).toInt64 <<< shQ n = pkS u n + (u (2 + n)).toInt64 <<< shQ n
    rw [ih fun p hp => h p (by omega), h n (Nat.lt_succ_self n)]
theorem GM_inj {w v u : Nat → Int32} {np : Nat} (hv : GM w v np) (hu : GM w u np) (hn : np ≤ 8) : (pkS v np = pkS u np) = (v = u) := propext ⟨fun e => by rw [← GM_un hv hn, ← GM_un hu hn, e], fun e => by rw [e]⟩
theorem GM_B {w v : Nat → Int32} {np nt : Nat} (hG : GM w v np) (hB : NB w np nt) : NB v np nt := ⟨(hG.1 0 (by omega)).trans hB.1, (hG.1 1 (by omega)).trans hB.2.1, hB.2.2⟩
theorem GM_mv {w v : Nat → Int32} {np nt t : Nat} (hG : GM w v np) (hT : TRg w np nt) (hB : NB w np nt) (ht : t < nt) (he : enW v np t) : GM w (mvW v t np) np ∧ pkS v np + pcS w t np = pkS (mvW v t np) np := by
  have hn := hB.2.2.2.1
  have hnt := hB.2.2.2.2.2
  have key : ∀ p, p < np → ∃ y a b c, v (2 + p) = nI y ∧ effW w t p = nI b - nI a ∧ mvW v t np (2 + p) = nI (y - a + b) ∧ w (10 + p) = nI c ∧ a ≤ y ∧ y - a + b ≤ c ∧ c ≤ 30 ∧ a < 10 ∧ b < 10 ∧ y < 31 := fun p hp => by
    obtain ⟨y, c, e1, e2, e3, e4⟩ := hG.2 p hp
    obtain ⟨a, b, f1, f2, f3, f4⟩ := hT.2 t p ht hp
    have g1 : v (28 + (t * 8 + p)) = nI a := (hG.1 _ (by omega)).trans f1
    have g2 : v (108 + (t * 8 + p)) = nI b := (hG.1 _ (by omega)).trans f3
    have g3 : v (10 + p) = nI c := (hG.1 _ (by omega)).trans e2
    have h0 := he p hp
    unfold rsnW at h0
    rw [e1, g1, g2, g3] at h0
    have ha : ¬ nI y < nI a := fun z => by rw [if_pos z] at h0; exact absurd h0 (by decide)
    rw [if_neg ha] at h0
    rw [nI_ltI (by omega) (by omega)] at ha
    have hc : ¬ nI c < nI y - nI a + nI b := fun z => by
      rw [if_pos z] at h0
      split at h0
      · exact absurd h0 (by decide)
      · exact absurd h0 (by decide)
    rw [nI_sub (by omega), nI_add, nI_ltI (by omega) (by omega)] at hc
    refine ⟨y, a, b, c, e1, by unfold effW; rw [f1, f3], ?_, e2, by omega, by omega, e4, by omega, by omega, by omega⟩
    have em : mvW v t np (2 + p) = v (2 + p) + effW v t p := by
      unfold mvW
      rw [if_pos (by omega), Nat.add_sub_cancel_left]
    rw [em, ef_e, e1, g1, g2, nI_sub (by omega), nI_add]
  refine ⟨⟨fun m hm => (if_neg (by omega)).trans (hG.1 m hm), fun p hp => ?_⟩, ?_⟩
  · obtain ⟨y, a, b, c, k1, k2, k3, k4, k5, k6, k7, -⟩ := key p hp
    exact ⟨_, c, k3, k4, k6, k7⟩
  · have : ∀ n, n ≤ np → pkS v n + pcS w t n = pkS (mvW v t np) n := by
      intro n
      induction n with
      | zero =>
        intro _
        rw [pk_0, pc_0, pk_0]
        exact Int64.add_zero _
      | succ n ih =>
        intro hn2
        obtain ⟨y, a, b, c, k1, k2, k3, k4, k5, k6, k7, k8, k9, k10⟩ := key n (by omega)
        have e1 : pkS v (n + 1) = pkS v n + (v (2 + n)).toInt64 <<< shQ n := rfl
        have e2 : pcS w t (n + 1) = pcS w t n + (effW w t n).toInt64 <<< shQ n := rfl
        have e3 : pkS (mvW v t np) (n + 1) = pkS (mvW v t np) n + (mvW v t np (2 + n)).toInt64 <<< shQ n := rfl
        rw [e1, e2, e3, ← ih (by omega), k1, k2, k3, ← pc_step n (by omega) y k10 a k8 k5 b k9]
        rw [Int64.add_assoc, Int64.add_assoc, ← Int64.add_assoc _ (pcS w t n), Int64.add_comm _ (pcS w t n), Int64.add_assoc]
    exact this np (Nat.le_refl _)
end PUR
