section ARI
theorem nI_mul (a b : Nat) : nI a * nI b = nI (a * b) := (Int32.ofNat_mul a b).symm
theorem nI_sub {a b : Nat} (h : b ≤ a) : nI a - nI b = nI (a - b) := by
  have e := nI_add (a - b) b
  rw [Nat.sub_add_cancel h] at e
  rw [← e]; exact Int32.add_sub_cancel _ _
theorem nI_eqz {n : Nat} (h : n < 2 ^ 31) : (nI n = 0) = (n = 0) := propext ⟨fun e => (Nat.eq_zero_or_pos n).elim id fun g => absurd e (nI_ne0 g h), fun e => by subst e; exact nI_0⟩
theorem nI_ltz {n : Nat} (h : n < 2 ^ 31) : (nI n < 0) = False := eq_false (nI_pos h)
theorem nI_gez {n : Nat} (h : n < 2 ^ 31) : ((0 : Int32) ≤ nI n) = True := eq_true (nI_pos' h)
theorem nI_lez {n : Nat} (h : n < 2 ^ 31) : (nI n ≤ 0) = (n = 0) := propext ⟨fun e => (Nat.eq_zero_or_pos n).elim id fun g => absurd e (nI_nle g h), fun e => by subst e; rw [nI_0]; exact Int32.le_refl 0⟩
theorem nI_gtz {n : Nat} (h : n < 2 ^ 31) : ((0 : Int32) < nI n) = (0 < n) := by rw [← nI_0]; exact propext (nI_ltI (by decide) h)
theorem nI_eqE {a b : Nat} (ha : a < 2 ^ 31) (hb : b < 2 ^ 31) : (nI a = nI b) = (a = b) := propext (nI_eq ha hb)
theorem nI_leE {a b : Nat} (ha : a < 2 ^ 31) (hb : b < 2 ^ 31) : (nI a ≤ nI b) = (a ≤ b) := propext (nI_leI ha hb)
theorem nI_ltE {a b : Nat} (ha : a < 2 ^ 31) (hb : b < 2 ^ 31) : (nI a < nI b) = (a < b) := propext (nI_ltI ha hb)
theorem nI_inE {n N : Nat} (h : n < N) (hN : N < 2 ^ 31) : vp_in (nI n) N = True := eq_true (vp_in_nI h hN)
theorem nI_m1 {n : Nat} (h : n < 2 ^ 31) : (nI n = -1) = False := eq_false fun e => by have := nI_pos h; rw [e] at this; exact this (by decide)
theorem nI_m1' {n : Nat} (h : n < 2 ^ 31) : (-1 = nI n) = False := eq_false fun e => by have := nI_pos h; rw [← e] at this; exact this (by decide)
theorem nI_ltm {n : Nat} (h : n < 2 ^ 31) : (nI n < -1) = False := eq_false fun e => by
  have h1 := Int32.lt_iff_toInt_lt.mp e
  rw [nI_toInt h] at h1
  have h2 : (-1 : Int32).toInt = -1 := by decide
  omega
theorem nI_gem {n : Nat} (h : n < 2 ^ 31) : (-1 ≤ nI n) = True := eq_true (Int32.le_iff_toInt_le.mpr (by
  rw [nI_toInt h]
  have h2 : (-1 : Int32).toInt = -1 := by decide
  omega))
theorem nI_gtm {n : Nat} (h : n < 2 ^ 31) : (-1 < nI n) = True := eq_true (Int32.lt_iff_toInt_lt.mpr (by
  rw [nI_toInt h]
  have h2 : (-1 : Int32).toInt = -1 := by decide
  omega))
theorem nI_lem {n : Nat} (h : n < 2 ^ 31) : (nI n ≤ -1) = False := eq_false (by
  rw [Int32.le_iff_toInt_le, nI_toInt h]
  have h2 : (-1 : Int32).toInt = -1 := by decide
  omega)
theorem arK_i : arK .int = 11 := id rfl
theorem arK_b : arK .byte = 12 := id rfl
theorem arK_j : arK .long = 13 := id rfl
theorem nI_00 : (nI 0 = 0) = True := eq_true nI_0
theorem nI_01 : (nI 0 = 1) = False := eq_false (by decide)
theorem nI_10 : (nI 1 = 0) = False := eq_false (by decide)
theorem nI_11 : (nI 1 = 1) = True := eq_true (by decide)
/-- a truth value's number -/
noncomputable def bI (c : Prop) : Int32 := @ite _ c (Classical.propDecidable c) (nI 1) (nI 0)
theorem bI_t {c : Prop} (h : c) : bI c = nI 1 := if_pos h
theorem bI_f {c : Prop} (h : ¬ c) : bI c = nI 0 := if_neg h
theorem bI_z {c : Prop} : (bI c = 0) = ¬ c := propext ⟨fun e h => by rw [bI_t h] at e; exact absurd e (by decide), fun h => by rw [bI_f h]; decide⟩
theorem bI_1 {c : Prop} : (nI 1 = bI c) = c := propext ⟨fun e => Classical.byContradiction fun h => by rw [bI_f h] at e; exact absurd e (by decide), fun h => (bI_t h).symm⟩
theorem bI_0 {c : Prop} : (nI 0 = bI c) = ¬ c := propext ⟨fun e h => by rw [bI_t h] at e; exact absurd e (by decide), fun h => (bI_f h).symm⟩
theorem bI_b {c : Prop} : (bI c = 0 ∨ bI c = 1) = True := eq_true ((Classical.em c).elim (fun h => Or.inr (by rw [bI_t h]; decide)) fun h => Or.inl (by rw [bI_f h]; decide))
theorem bI_nz {c : Prop} : (bI c = nI 1) = c := propext ⟨fun e => (cast bI_1 e.symm), fun h => bI_t h⟩
/-- a choice by a proposition -/
noncomputable def iteC {α : Type} (c : Prop) (a b : α) : α := @ite α c (Classical.propDecidable c) a b
theorem iteC_t {α : Type} {c : Prop} {a b : α} (h : c) : iteC c a b = a := if_pos h
theorem iteC_f {α : Type} {c : Prop} {a b : α} (h : ¬ c) : iteC c a b = b := if_neg h
def bit (k : Nat) : Int32 := nI 1 <<< (nI k &&& 31)
theorem bit_e {k : Nat} : nI 1 <<< (nI k &&& 31) = bit k := rfl
/-- a loop that counts up -/
theorem loop_up {P : Nat → Prop} (n : Nat) (step : ∀ k, k ≤ n → (k < n → P (k + 1)) → P k) : ∀ k, k ≤ n → P k := by
  have : ∀ d k, k ≤ n → n - k = d → P k := by
    intro d
    induction d with
    | zero => intro k hk e; exact step k hk (fun g => absurd g (by omega))
    | succ d ih => intro k hk e; exact step k hk (fun g => ih (k + 1) g (by omega))
  exact fun k hk => this _ k hk rfl
def foN {α : Type} (f : Nat → α → α) (a : α) : Nat → α
  | 0 => a
  | k + 1 => f k (foN f a k)
theorem foN_0 {α : Type} {f : Nat → α → α} {a : α} : foN f a 0 = a := rfl
theorem foN_S {α : Type} {f : Nat → α → α} {a : α} {k : Nat} : foN f a (k + 1) = f k (foN f a k) := rfl
/-- the first number below n that fits, or -1 -/
noncomputable def ffN (c : Nat → Prop) (n : Nat) : Int32 := iteC (∃ k, k < n ∧ c k ∧ ∀ j, j < k → ¬ c j) (nI (@ite Nat (∃ k, k < n ∧ c k ∧ ∀ j, j < k → ¬ c j) (Classical.propDecidable _) (Classical.epsilon fun k => k < n ∧ c k ∧ ∀ j, j < k → ¬ c j) 0)) (-1)
theorem ff_hit {c : Nat → Prop} {n k : Nat} (h1 : k < n) (h2 : c k) (h3 : ∀ j, j < k → ¬ c j) : ffN c n = nI k := by
  have he : ∃ k, k < n ∧ c k ∧ ∀ j, j < k → ¬ c j := ⟨k, h1, h2, h3⟩
  rw [ffN, iteC_t he, if_pos he]
  have hs := Classical.epsilon_spec he
  have : Classical.epsilon (fun k => k < n ∧ c k ∧ ∀ j, j < k → ¬ c j) = k := by
    rcases Nat.lt_trichotomy (Classical.epsilon (fun k => k < n ∧ c k ∧ ∀ j, j < k → ¬ c j)) k with g | g | g
    · exact absurd hs.2.1 (h3 _ g)
    · exact g
    · exact absurd h2 (hs.2.2 _ g)
  rw [this]
theorem ff_miss {c : Nat → Prop} {n : Nat} (h : ∀ j, j < n → ¬ c j) : ffN c n = -1 := iteC_f fun ⟨k, h1, h2, _⟩ => h k h1 h2
theorem ff_cases (c : Nat → Prop) (n : Nat) : (∃ k, k < n ∧ c k ∧ (∀ j, j < k → ¬ c j) ∧ ffN c n = nI k) ∨ ((∀ j, j < n → ¬ c j) ∧ ffN c n = -1) := by
  rcases Classical.em (∃ k, k < n ∧ c k ∧ ∀ j, j < k → ¬ c j) with ⟨k, h1, h2, h3⟩ | g
  · exact Or.inl ⟨k, h1, h2, h3, ff_hit h1 h2 h3⟩
  · have : ∀ j, j < n → ¬ c j := by
      intro j
      induction j using Nat.strongRecOn with
      | _ j ih => intro hj hc; exact g ⟨j, hj, hc, fun i hi => ih i hi (by omega)⟩
    exact Or.inr ⟨this, ff_miss this⟩
theorem lt_succ_all {P : Nat → Prop} {k : Nat} (h : ∀ p, p < k → P p) (hk : P k) : ∀ p, p < k + 1 → P p := fun p hp => (Nat.lt_succ_iff_lt_or_eq.mp hp).elim (h p) fun e => e ▸ hk
theorem nthN_set (L : List Value) (k j : Nat) : nthV (setV L k .null) j = .null ∨ nthV (setV L k .null) j = nthV L j := by
  induction L generalizing k j with
  | nil => exact Or.inr rfl
  | cons v t ih => cases k with
    | zero => cases j with
      | zero => exact Or.inl rfl
      | succ j => exact Or.inr rfl
    | succ k => cases j with
      | zero => exact Or.inr rfl
      | succ j => exact ih k j
theorem len_set (L : List Value) (k : Nat) (v : Value) : (setV L k v).length = L.length := by
  induction L generalizing k with
  | nil => rfl
  | cons v t ih => cases k with
    | zero => rfl
    | succ k => exact congrArg (· + 1) (ih k)
theorem MW_nul {x : CX} {q : MS} {o : Nat} {post : Option Value → MH → Prop} {xp : String → MH → Prop} {pc : Nat} {b : Nat × Nat} {L st : List Value} {h : MH} (k : Nat) (hs : MW x q o post xp pc b (setV L k .null) st h) : MW x q o post xp pc b L st h :=
  MW_wk (len_set L k _) (nthN_set L k) hs
/-- a vector with one number changed -/
def udW (w : Nat → Int32) (j : Nat) (v : Int32) : Nat → Int32 := fun m => if m = j then v else w m
theorem udW_e {w : Nat → Int32} {j : Nat} {v : Int32} : udW w j v j = v := if_pos rfl
theorem udW_n {w : Nat → Int32} {j m : Nat} {v : Int32} (h : m ≠ j) : udW w j v m = w m := if_neg h
/-- what lies outside a region is as it was -/
def FRr (h h' : MH) (lo hi : Nat) : Prop := mZ h' = mZ h ∧ (∀ a, mK h' a = mK h a) ∧ (∀ a, mL h' a = mL h a) ∧ (∀ a, a < lo ∨ hi ≤ a → ∀ k, mI h' a k = mI h a k ∧ mP h' a k = mP h a k ∧ mJ h' a k = mJ h a k)
theorem FRr_rfl {h : MH} {lo hi : Nat} : FRr h h lo hi := ⟨rfl, fun _ => rfl, fun _ => rfl, fun _ _ _ => ⟨rfl, rfl, rfl⟩⟩
theorem FRr_tr {h h' h'' : MH} {lo hi : Nat} (a : FRr h h' lo hi) (b : FRr h' h'' lo hi) : FRr h h'' lo hi :=
  ⟨b.1.trans a.1, fun z => (b.2.1 z).trans (a.2.1 z), fun z => (b.2.2.1 z).trans (a.2.2.1 z), fun z hz k => ⟨((b.2.2.2 z hz k).1).trans (a.2.2.2 z hz k).1, ((b.2.2.2 z hz k).2.1).trans (a.2.2.2 z hz k).2.1, ((b.2.2.2 z hz k).2.2).trans (a.2.2.2 z hz k).2.2⟩⟩
theorem FRr_mono {h h' : MH} {lo hi lo' hi' : Nat} (a : FRr h h' lo hi) (h1 : lo' ≤ lo) (h2 : hi ≤ hi') : FRr h h' lo' hi' := ⟨a.1, a.2.1, a.2.2.1, fun z hz k => a.2.2.2 z (by omega) k⟩
theorem FRr_sI {h : MH} {a k lo hi : Nat} {v : Int32} (h1 : lo ≤ a) (h2 : a < hi) : FRr h (sI h a k v) lo hi :=
  ⟨rfl, fun _ => rfl, fun _ => rfl, fun z hz j => ⟨if_neg (fun e => by omega), rfl, rfl⟩⟩
theorem FRr_sJ {h : MH} {a k lo hi : Nat} {v : Int64} (h1 : lo ≤ a) (h2 : a < hi) : FRr h (sJ h a k v) lo hi :=
  ⟨rfl, fun _ => rfl, fun _ => rfl, fun z hz j => ⟨rfl, rfl, if_neg (fun e => by omega)⟩⟩
theorem FRr_sP {h : MH} {a k lo hi : Nat} {v : Nat} (h1 : lo ≤ a) (h2 : a < hi) : FRr h (sP h a k v) lo hi :=
  ⟨rfl, fun _ => rfl, fun _ => rfl, fun z hz j => ⟨rfl, if_neg (fun e => by omega), rfl⟩⟩
theorem FRr_sR {h : MH} {a lo hi : Nat} {f : Nat → Int32} (h1 : lo ≤ a) (h2 : a < hi) : FRr h (sR h a f) lo hi :=
  ⟨rfl, fun _ => rfl, fun _ => rfl, fun z hz j => ⟨if_neg (fun e => by omega), rfl, rfl⟩⟩
theorem sI_K {h : MH} {a k z : Nat} {v : Int32} : mK (sI h a k v) z = mK h z := rfl
theorem sI_L {h : MH} {a k z : Nat} {v : Int32} : mL (sI h a k v) z = mL h z := rfl
theorem sI_P {h : MH} {a k z j : Nat} {v : Int32} : mP (sI h a k v) z j = mP h z j := rfl
theorem sI_J {h : MH} {a k z j : Nat} {v : Int32} : mJ (sI h a k v) z j = mJ h z j := rfl
theorem sI_Z {h : MH} {a k : Nat} {v : Int32} : mZ (sI h a k v) = mZ h := rfl
theorem sI_Ie {h : MH} {a k : Nat} {v : Int32} : mI (sI h a k v) a k = v := if_pos ⟨rfl, rfl⟩
theorem sI_Ia {h : MH} {a k z j : Nat} {v : Int32} (g : z ≠ a) : mI (sI h a k v) z j = mI h z j := if_neg fun e => g e.1
theorem sI_Ik {h : MH} {a k z j : Nat} {v : Int32} (g : j ≠ k) : mI (sI h a k v) z j = mI h z j := if_neg fun e => g e.2
theorem sI_I {h : MH} {a k z j : Nat} {v : Int32} : mI (sI h a k v) z j = if z = a ∧ j = k then v else mI h z j := rfl
theorem sN_Z {h : MH} {kd n : Nat} : mZ (sN h kd n) = mZ h + 1 := rfl
theorem sN_Ke {h : MH} {kd n a : Nat} (g : a = mZ h) : mK (sN h kd n) a = kd := if_pos g
theorem sN_Le {h : MH} {kd n a : Nat} (g : a = mZ h) : mL (sN h kd n) a = n := if_pos g
theorem sN_Ie {h : MH} {kd n a k : Nat} (g : a = mZ h) : mI (sN h kd n) a k = 0 := if_pos g
theorem sN_Pe {h : MH} {kd n a k : Nat} (g : a = mZ h) : mP (sN h kd n) a k = 0 := if_pos g
theorem sN_Je {h : MH} {kd n a k : Nat} (g : a = mZ h) : mJ (sN h kd n) a k = 0 := if_pos g
theorem sN_Ko {h : MH} {kd n a : Nat} (g : a < mZ h) : mK (sN h kd n) a = mK h a := if_neg (Nat.ne_of_lt g)
theorem sN_Lo {h : MH} {kd n a : Nat} (g : a < mZ h) : mL (sN h kd n) a = mL h a := if_neg (Nat.ne_of_lt g)
theorem sN_Io {h : MH} {kd n a k : Nat} (g : a < mZ h) : mI (sN h kd n) a k = mI h a k := if_neg (Nat.ne_of_lt g)
theorem sN_Po {h : MH} {kd n a k : Nat} (g : a < mZ h) : mP (sN h kd n) a k = mP h a k := if_neg (Nat.ne_of_lt g)
theorem sN_Jo {h : MH} {kd n a k : Nat} (g : a < mZ h) : mJ (sN h kd n) a k = mJ h a k := if_neg (Nat.ne_of_lt g)
theorem sM_Z {h : MH} {n k : Nat} : mZ (sM h n k) = mZ h + 1 + n := rfl
theorem sR_K {h : MH} {a z : Nat} {f : Nat → Int32} : mK (sR h a f) z = mK h z := rfl
theorem sR_L {h : MH} {a z : Nat} {f : Nat → Int32} : mL (sR h a f) z = mL h z := rfl
theorem sR_P {h : MH} {a z j : Nat} {f : Nat → Int32} : mP (sR h a f) z j = mP h z j := rfl
theorem sR_J {h : MH} {a z j : Nat} {f : Nat → Int32} : mJ (sR h a f) z j = mJ h z j := rfl
theorem sR_Z {h : MH} {a : Nat} {f : Nat → Int32} : mZ (sR h a f) = mZ h := rfl
theorem sR_Ie {h : MH} {a j : Nat} {f : Nat → Int32} : mI (sR h a f) a j = f j := if_pos rfl
theorem sR_Ia {h : MH} {a z j : Nat} {f : Nat → Int32} (g : z ≠ a) : mI (sR h a f) z j = mI h z j := if_neg g
theorem sP_K {h : MH} {a k z : Nat} {v : Nat} : mK (sP h a k v) z = mK h z := rfl
theorem sP_L {h : MH} {a k z : Nat} {v : Nat} : mL (sP h a k v) z = mL h z := rfl
theorem sP_I {h : MH} {a k z j : Nat} {v : Nat} : mI (sP h a k v) z j = mI h z j := rfl
theorem sP_J {h : MH} {a k z j : Nat} {v : Nat} : mJ (sP h a k v) z j = mJ h z j := rfl
theorem sP_Z {h : MH} {a k : Nat} {v : Nat} : mZ (sP h a k v) = mZ h := rfl
theorem sP_Pe {h : MH} {a k : Nat} {v : Nat} : mP (sP h a k v) a k = v := if_pos ⟨rfl, rfl⟩
theorem sP_Pa {h : MH} {a k z j : Nat} {v : Nat} (g : z ≠ a) : mP (sP h a k v) z j = mP h z j := if_neg fun e => g e.1
theorem sP_Pk {h : MH} {a k z j : Nat} {v : Nat} (g : j ≠ k) : mP (sP h a k v) z j = mP h z j := if_neg fun e => g e.2
theorem sJ_K {h : MH} {a k z : Nat} {v : Int64} : mK (sJ h a k v) z = mK h z := rfl
theorem sJ_L {h : MH} {a k z : Nat} {v : Int64} : mL (sJ h a k v) z = mL h z := rfl
theorem sJ_P {h : MH} {a k z j : Nat} {v : Int64} : mP (sJ h a k v) z j = mP h z j := rfl
theorem sJ_I {h : MH} {a k z j : Nat} {v : Int64} : mI (sJ h a k v) z j = mI h z j := rfl
theorem sJ_Z {h : MH} {a k : Nat} {v : Int64} : mZ (sJ h a k v) = mZ h := rfl
theorem sJ_Je {h : MH} {a k : Nat} {v : Int64} : mJ (sJ h a k v) a k = v := if_pos ⟨rfl, rfl⟩
theorem sJ_Ja {h : MH} {a k z j : Nat} {v : Int64} (g : z ≠ a) : mJ (sJ h a k v) z j = mJ h z j := if_neg fun e => g e.1
theorem sJ_Jk {h : MH} {a k z j : Nat} {v : Int64} (g : j ≠ k) : mJ (sJ h a k v) z j = mJ h z j := if_neg fun e => g e.2
variable {x : CX}
theorem CI_pure {q : MS} {as : List Value} {h : MH} {v : Int32} {xk : String → MH → Prop} {k : Int32 → MH → Prop} (hc : CT x q as h (pI fun r h' => r = v ∧ h' = h) xNo) (hk : k v h) : CALLI x q as h xk k :=
  ⟨_, _, hc, fun _ _ g => g.elim, fun _ _ g => by obtain ⟨rfl, rfl⟩ := g; exact hk⟩
theorem CI_of {q : MS} {as : List Value} {h : MH} {p : Int32 → MH → Prop} {xp xk : String → MH → Prop} {k : Int32 → MH → Prop} (hc : CT x q as h (pI p) xp) (hx : ∀ E h', xp E h' → xk E h') (hk : ∀ r h', p r h' → k r h') : CALLI x q as h xk k :=
  ⟨_, _, hc, hx, hk⟩
theorem CV_of {q : MS} {as : List Value} {h : MH} {p : MH → Prop} {xp xk : String → MH → Prop} {k : MH → Prop} (hc : CT x q as h (pV p) xp) (hx : ∀ E h', xp E h' → xk E h') (hk : ∀ h', p h' → k h') : CALLV x q as h xk k :=
  ⟨_, _, hc, hx, hk⟩
end ARI
