section PUT
/-! the markings of an exploration: each but the first comes from an earlier one by its transition; no two are alike -/
def EQ (w : Nat → Int32) (np nt : Nat) (E : EE) : Prop :=
  (∀ m, 1 ≤ m → m < exC E → ∃ e t, e < m ∧ t < nt ∧ exF E m = nI t ∧ exD E m = exD E e + nI 1 ∧ exK E m = exK E e + pcS w t np ∧ tb (exS E e) t) ∧
  (∀ m, m < exC E → ∀ e, e < m → exK E e ≠ exK E m) ∧ (exD E 0 = nI 0 ∧ exF E 0 = -1) ∧ ∀ m, m < exC E → ∃ d, d ≤ m ∧ exD E m = nI d ∧ (1 ≤ m → 1 ≤ d)
theorem add_EQ {w v : Nat → Int32} {np nt n t : Nat} {E : EE} (hQ : EQ w np nt E) (hC : exC E ≤ 150) (hn : n < exC E) (ht : t < nt) (hk : exK E n + pcS w t np = pkS v np) (hb : tb (exS E n) t) (hne : ¬ ∃ m, m < exC E ∧ exK E m = pkS v np) : EQ w np nt (addE w np nt E (pkS v np) (nI n) (nI t)) := by
  obtain ⟨q1, q2, q3, q4⟩ := hQ
  have h1 : ¬ nI n = -1 := fun e => by rw [nI_m1 (by omega)] at e; exact e
  have eK : ∀ m, exK (addE w np nt E (pkS v np) (nI n) (nI t)) m = udK (exK E) (exC E) (pkS v np) m := fun _ => rfl
  have eF : ∀ m, exF (addE w np nt E (pkS v np) (nI n) (nI t)) m = udW (exF E) (exC E) (nI t) m := fun _ => rfl
  have eD : ∀ m, exD (addE w np nt E (pkS v np) (nI n) (nI t)) m = udW (exD E) (exC E) (exD E n + nI 1) m := fun m => by
    show udW (exD E) (exC E) (iteC (nI n = -1) (nI 0) (exD E (nI n).toNatClampNeg + nI 1)) m = _
    rw [iteC_f h1, nI_clamp (by omega)]
  have eC : exC (addE w np nt E (pkS v np) (nI n) (nI t)) = exC E + 1 := rfl
  have eS : ∀ m, exS (addE w np nt E (pkS v np) (nI n) (nI t)) m = udW (exS E) (exC E) (esW (unW w (pkS v np) np) np nt) m := fun _ => rfl
  refine ⟨fun m hm1 hm => ?_, fun m hm e he => ?_, ?_, fun m hm => ?_⟩
  · rw [eC] at hm
    by_cases g : m = exC E
    · subst g
      refine ⟨n, t, hn, ht, ?_, ?_, ?_, ?_⟩
      · rw [eF, udW_e]
      · rw [eD, eD, udW_e, udW_n (by omega)]
      · rw [eK, eK, udK_e, udK_n (by omega)]; exact hk.symm
      · rw [eS, udW_n (by omega)]; exact hb
    · obtain ⟨e, t', h2, h3, h4, h5, h6, h7⟩ := q1 m hm1 (by omega)
      refine ⟨e, t', h2, h3, ?_, ?_, ?_, ?_⟩
      · rw [eF, udW_n g]; exact h4
      · rw [eD, eD, udW_n g, udW_n (by omega)]; exact h5
      · rw [eK, eK, udK_n g, udK_n (by omega)]; exact h6
      · rw [eS, udW_n (by omega)]; exact h7
  · rw [eC] at hm
    rw [eK, eK, udK_n (by omega)]
    by_cases g : m = exC E
    · subst g
      rw [udK_e]
      exact fun z => hne ⟨e, he, z⟩
    · rw [udK_n g]
      exact q2 m (by omega) e he
  · rw [eD, eF, udW_n (by omega), udW_n (by omega)]; exact q3
  · rw [eC] at hm
    rw [eD]
    by_cases g : m = exC E
    · subst g
      obtain ⟨d, d1, d2, -⟩ := q4 n hn
      rw [udW_e, d2, nI_add]
      exact ⟨d + 1, by omega, rfl, fun _ => by omega⟩
    · rw [udW_n g]
      exact q4 m (by omega)
theorem vis_EQ {w v : Nat → Int32} {np nt n t : Nat} {E : EE} (hQ : EQ w np nt E) (hC : exC E ≤ 150) (hn : n < exC E) (ht : t < nt) (hk : exK E n + pcS w t np = pkS v np) (hb : tb (exS E n) t) : EQ w np nt (visE w np nt E (pkS v np) (nI n) (nI t)) := by
  unfold visE
  by_cases g : ∃ m, m < exC E ∧ exK E m = pkS v np
  · rw [iteC_t g]; exact hQ
  rw [iteC_f g]
  by_cases g2 : 150 ≤ exC E
  · rw [iteC_t g2]; exact hQ
  · rw [iteC_f g2]; exact add_EQ hQ hC hn ht hk hb g
theorem stp_EQ {w : Nat → Int32} {np nt n t : Nat} {E : EE} (hE : EI w np nt E) (hQ : EQ w np nt E) (hT : TRg w np nt) (hB : NB w np nt) (hn : n < exC E) (ht : t < nt) : EQ w np nt (stpE w np nt n t E) := by
  obtain ⟨v, hG, hk, hs⟩ := hE.2.1 n hn
  unfold stpE
  by_cases g : tb (exS E n) t
  · have g0 := g
    rw [iteC_t g]
    rw [hs, tb_es hB.2.2.2.2.2 ht] at g
    obtain ⟨hG2, e⟩ := GM_mv hG hT hB ht g
    have e2 : exK E n + pcS w t np = pkS (mvW v t np) np := by rw [hk]; exact e
    rw [e2]
    exact vis_EQ hQ hE.1 hn ht e2 g0
  · rw [iteC_f g]; exact hQ
theorem row_EQ {w : Nat → Int32} {np nt n m : Nat} {E : EE} (hE : EI w np nt E) (hQ : EQ w np nt E) (hT : TRg w np nt) (hB : NB w np nt) (hn : n < exC E) (hm : m ≤ nt) : EQ w np nt (rowE w np nt n E m) := by
  induction m with
  | zero => exact hQ
  | succ m ih =>
    rw [row_S]
    exact stp_EQ (row_EI hE hT hB hn (by omega)) (ih (by omega)) hT hB (Nat.lt_of_lt_of_le hn row_le) (by omega)
theorem E1_Q {w : Nat → Int32} {np nt : Nat} : EQ w np nt (E1 w np nt) := by
  rw [E1_e]
  have eC : exC (addE w np nt E0 (pkS w np) (-1) (-1)) = 1 := rfl
  have eD : exD (addE w np nt E0 (pkS w np) (-1) (-1)) 0 = nI 0 := by
    show udW (exD E0) 0 (iteC ((-1 : Int32) = -1) (nI 0) _) 0 = _
    rw [udW_e, iteC_t rfl]
  have eF : exF (addE w np nt E0 (pkS w np) (-1) (-1)) 0 = -1 := by
    show udW (exF E0) 0 (-1) 0 = _
    rw [udW_e]
  refine ⟨fun m h1 h2 => ?_, fun m h1 e he => ?_, ⟨eD, eF⟩, fun m h1 => ?_⟩
  · rw [eC] at h2; omega
  · rw [eC] at h1; omega
  · rw [eC] at h1
    obtain rfl : m = 0 := by omega
    exact ⟨0, Nat.le_refl _, eD, fun h => absurd h (by decide)⟩
theorem all_Q {w : Nat → Int32} {np nt : Nat} (hT : TRg w np nt) (hB : NB w np nt) : ∀ k, EQ w np nt (allE w np nt k) := by
  intro k
  induction k with
  | zero => rw [all_0]; exact E1_Q
  | succ k ih =>
    show EQ w np nt (iteC (k < exC (allE w np nt k) ∧ exW (allE w np nt k)) (rowE w np nt k (allE w np nt k) nt) (allE w np nt k))
    by_cases g : k < exC (allE w np nt k) ∧ exW (allE w np nt k)
    · rw [iteC_t g]; exact row_EQ (all_J hT hB k).1 ih hT hB g.1 (Nat.le_refl _)
    · rw [iteC_f g]; exact ih
theorem exp_Q {w : Nat → Int32} {np nt : Nat} (hT : TRg w np nt) (hB : NB w np nt) : EQ w np nt (expE w np nt) := all_Q hT hB 150
/-- .. in tokens -/
theorem exp_0 {w : Nat → Int32} {np nt p : Nat} (hT : TRg w np nt) (hB : NB w np nt) (hp : p < np) : upT (exK (expE w np nt) 0) p = w (2 + p) := by
  rw [(exp_J hT hB).2.2, GM_up (GM_self hT) hB.2.2.2.1 hp]
theorem exp_step {w : Nat → Int32} {np nt m : Nat} (hT : TRg w np nt) (hB : NB w np nt) (h1 : 1 ≤ m) (hm : m < exC (expE w np nt)) : ∃ e t, e < m ∧ t < nt ∧ exF (expE w np nt) m = nI t ∧ exD (expE w np nt) m = exD (expE w np nt) e + nI 1 ∧ ∀ p, p < np → upT (exK (expE w np nt) m) p = upT (exK (expE w np nt) e) p + effW w t p := by
  obtain ⟨e, t, a1, a2, a3, a4, a5, a6⟩ := (exp_Q hT hB).1 m h1 hm
  obtain ⟨u, g1, g2, g3⟩ := (exp_J hT hB).1.2.1 e (by omega)
  rw [g3, tb_es hB.2.2.2.2.2 a2] at a6
  obtain ⟨k1, k2⟩ := GM_mv g1 hT hB a2 a6
  refine ⟨e, t, a1, a2, a3, a4, fun p hp => ?_⟩
  rw [a5, g2, k2, GM_up k1 hB.2.2.2.1 hp, GM_up g1 hB.2.2.2.1 hp]
  have hnp := hB.2.2.2.1
  unfold mvW
  rw [if_pos (by omega), Nat.add_sub_cancel_left]
  unfold effW
  rw [g1.1 (108 + (t * 8 + p)) (by omega), g1.1 (28 + (t * 8 + p)) (by omega)]
theorem exp_ne {w : Nat → Int32} {np nt m e : Nat} (hT : TRg w np nt) (hB : NB w np nt) (he : e < m) (hm : m < exC (expE w np nt)) : ∃ p, p < np ∧ upT (exK (expE w np nt) e) p ≠ upT (exK (expE w np nt) m) p := by
  refine Classical.byContradiction fun hc => (exp_Q hT hB).2.1 m hm e he ?_
  obtain ⟨u, g1, g2, -⟩ := (exp_J hT hB).1.2.1 e (by omega)
  obtain ⟨v, k1, k2, -⟩ := (exp_J hT hB).1.2.1 m hm
  rw [g2, k2]
  refine pk_congr fun p hp => ?_
  have := Classical.byContradiction fun z => hc ⟨p, hp, z⟩
  rwa [g2, k2, GM_up g1 hB.2.2.2.1 hp, GM_up k1 hB.2.2.2.1 hp] at this
theorem exp_d {w : Nat → Int32} {np nt m : Nat} (hT : TRg w np nt) (hB : NB w np nt) (hm : m < exC (expE w np nt)) : ∃ d, d ≤ m ∧ exD (expE w np nt) m = nI d ∧ (1 ≤ m → 1 ≤ d) := (exp_Q hT hB).2.2.2 m hm
theorem exp_00 {w : Nat → Int32} {np nt : Nat} (hT : TRg w np nt) (hB : NB w np nt) : exD (expE w np nt) 0 = nI 0 ∧ exF (expE w np nt) 0 = -1 := (exp_Q hT hB).2.2.1
/-! violations: a good net has none -/
theorem sb_01 : ∀ k, k < 256 → ∀ p, p < 8 → sbS (nI k) p = nI 1 ∨ sbS (nI k) p = nI 0 := by decide +kernel
theorem por_0 {w : Nat → Int32} {np nt : Nat} (hT : TRg w np nt) : ∀ n, n ≤ np → porW w n = nI 0 := by
  intro n
  induction n with
  | zero => intro _; unfold porW; exact foN_0
  | succ n ih =>
    intro hn
    obtain ⟨t, c, e1, e2, e3, e4, e5⟩ := hT.1 n (by omega)
    show iteC (w (2 + n) < 0 ∨ w (10 + n) < w (2 + n)) (porW w n + nI 1) (porW w n) = nI 0
    rw [iteC_f (fun z => z.elim (fun z => by rw [e1] at z; exact nI_pos (by omega) z) fun z => by rw [e1, e2, nI_ltI (by omega) (by omega)] at z; omega), ih (by omega)]
/-- the tokens of a set in a marking -/
noncomputable def tkS (k : Nat) (f : Nat → Int32) (n : Nat) : Int32 := foN (fun p a => iteC (tb (nI k) p) (a + f p) a) (nI 0) n
theorem sb_tb {k p : Nat} : tb (nI k) p = (sbS (nI k) p = nI 1) := rfl
theorem tk_add {k : Nat} (hk : k < 256) {f g d : Nat → Int32} : ∀ n, n ≤ 8 → (∀ p, p < n → f p = g p + d p) → tkS k f n = tkS k g n + foN (fun p s => s + sbS (nI k) p * d p) (nI 0) n := by
  intro n
  induction n with
  | zero => intro _ _; show nI 0 = nI 0 + nI 0; decide
  | succ n ih =>
    intro hn hf
    have e1 : tkS k f (n + 1) = iteC (tb (nI k) n) (tkS k f n + f n) (tkS k f n) := rfl
    have e2 : tkS k g (n + 1) = iteC (tb (nI k) n) (tkS k g n + g n) (tkS k g n) := rfl
    have e3 : foN (fun p s => s + sbS (nI k) p * d p) (nI 0) (n + 1) = foN (fun p s => s + sbS (nI k) p * d p) (nI 0) n + sbS (nI k) n * d n := rfl
    rw [e1, e2, e3, ih (by omega) fun p hp => hf p (by omega)]
    generalize foN (fun p s => s + sbS (nI k) p * d p) (nI 0) n = A
    rcases sb_01 k hk n (by omega) with h | h
    · rw [iteC_t (show tb (nI k) n from h), iteC_t (show tb (nI k) n from h), h, hf n (by omega), show (nI 1 : Int32) = 1 from rfl, Int32.one_mul]
      rw [Int32.add_assoc, Int32.add_assoc, ← Int32.add_assoc A, Int32.add_comm A, Int32.add_assoc]
    · have hn1 : ¬ tb (nI k) n := fun z => by
        have z : sbS (nI k) n = nI 1 := z
        rw [h] at z
        exact absurd z (by decide)
      rw [iteC_f hn1, iteC_f hn1, h, show (nI 0 : Int32) = 0 from rfl, Int32.zero_mul, Int32.add_zero]
theorem kt_of {w : Nat → Int32} {np nt k : Nat} (hT : TRg w np nt) (hB : NB w np nt) (hk : k < 256) (hs : siW w np nt k) : ktE (expE w np nt) np k := by
  have h : ∀ m, m < exC (expE w np nt) → tkS k (fun p => upT (exK (expE w np nt) m) p) np = tkS k (fun p => upT (exK (expE w np nt) 0) p) np := by
    intro m
    induction m using Nat.strongRecOn with
    | _ m ih =>
      intro hm
      by_cases g : m = 0
      · rw [g]
      · obtain ⟨e, t, a1, a2, -, -, a5⟩ := exp_step hT hB (by omega) hm
        rw [tk_add hk np hB.2.2.2.1 a5, ih e a1 (by omega)]
        have : foN (fun p s => s + sbS (nI k) p * effW w t p) (nI 0) np = 0 := hs t a2
        rw [this, Int32.add_zero]
  exact h
theorem vo_0 {w : Nat → Int32} {np nt : Nat} (hT : TRg w np nt) (hB : NB w np nt) : ∀ n, n < 256 → voS w np nt n = nI 0 := by
  intro n
  induction n with
  | zero => intro _; unfold voS; exact (foN_0).trans (por_0 hT np (Nat.le_refl _))
  | succ n ih =>
    intro hn
    show iteC (siW w np nt (n + 1) ∧ ¬ ktE (expE w np nt) np (n + 1)) (voS w np nt n + nI 1) (voS w np nt n) = nI 0
    rw [iteC_f (fun ⟨h1, h2⟩ => h2 (kt_of hT hB hn h1)), ih (by omega)]
end PUT
