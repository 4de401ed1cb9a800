section PUS
def EI (w : Nat → Int32) (np nt : Nat) (E : EE) : Prop := exC E ≤ 150 ∧ (∀ n, n < exC E → ∃ v, GM w v np ∧ exK E n = pkS v np ∧ exS E n = esW v np nt) ∧ (¬ exW E → 150 ≤ exC E)
theorem vis_EI {w v : Nat → Int32} {np nt : Nat} {E : EE} {fr tr : Int32} (hE : EI w np nt E) (hG : GM w v np) (hn : np ≤ 8) : EI w np nt (visE w np nt E (pkS v np) fr tr) := by
  obtain ⟨h1, h2, h3⟩ := hE
  unfold visE
  by_cases g : ∃ n, n < exC E ∧ exK E n = pkS v np
  · rw [iteC_t g]; exact ⟨h1, h2, h3⟩
  rw [iteC_f g]
  by_cases g2 : 150 ≤ exC E
  · rw [iteC_t g2]
    exact ⟨h1, h2, fun _ => g2⟩
  · rw [iteC_f g2]
    refine ⟨show exC E + 1 ≤ 150 by omega, fun n hn2 => ?_, fun z => absurd (h3 z) (by omega)⟩
    have hn3 : n < exC E + 1 := hn2
    show ∃ u, GM w u np ∧ udK (exK E) (exC E) (pkS v np) n = pkS u np ∧ udW (exS E) (exC E) (esW (unW w (pkS v np) np) np nt) n = esW u np nt
    by_cases e : n = exC E
    · rw [e, udK_e, udW_e, GM_un hG hn]
      exact ⟨v, hG, rfl, rfl⟩
    · rw [udK_n e, udW_n e]
      exact h2 n (by omega)
theorem vis_keep {w : Nat → Int32} {np nt n : Nat} {E : EE} {q : Int64} {fr tr : Int32} (hn : n < exC E) : exK (visE w np nt E q fr tr) n = exK E n ∧ exS (visE w np nt E q fr tr) n = exS E n := by
  unfold visE
  refine iteC_P (fun F : EE => exK F n = exK E n ∧ exS F n = exS E n) ⟨rfl, rfl⟩ (iteC_P (fun F : EE => exK F n = exK E n ∧ exS F n = exS E n) ⟨rfl, rfl⟩ ?_)
  exact ⟨udK_n (by omega), udW_n (by omega)⟩
noncomputable def stpE (w : Nat → Int32) (np nt n t : Nat) (E : EE) : EE := iteC (tb (exS E n) t) (visE w np nt E (exK E n + pcS w t np) (nI n) (nI t)) E
theorem row_S {w : Nat → Int32} {np nt n m : Nat} {E : EE} : rowE w np nt n E (m + 1) = stpE w np nt n m (rowE w np nt n E m) := rfl
theorem stp_EI {w : Nat → Int32} {np nt n t : Nat} {E : EE} (hE : EI w np nt E) (hT : TRg w np nt) (hB : NB w np nt) (hn : n < exC E) (ht : t < nt) : EI w np nt (stpE w np nt n t E) := by
  obtain ⟨v, hG, hk, hs⟩ := hE.2.1 n hn
  unfold stpE
  by_cases g : tb (exS E n) t
  · rw [iteC_t g]
    rw [hs, tb_es hB.2.2.2.2.2 ht] at g
    obtain ⟨hG2, e⟩ := GM_mv hG hT hB ht g
    rw [hk, e]
    exact vis_EI hE hG2 hB.2.2.2.1
  · rw [iteC_f g]; exact hE
theorem stp_le {w : Nat → Int32} {np nt n t : Nat} {E : EE} : exC E ≤ exC (stpE w np nt n t E) := by
  unfold stpE
  exact iteC_P (fun F : EE => exC E ≤ exC F) vis_le (Nat.le_refl _)
theorem row_EI {w : Nat → Int32} {np nt n m : Nat} {E : EE} (hE : EI w np nt E) (hT : TRg w np nt) (hB : NB w np nt) (hn : n < exC E) (hm : m ≤ nt) : EI w np nt (rowE w np nt n E m) := by
  induction m with
  | zero => exact hE
  | succ m ih =>
    rw [row_S]
    exact stp_EI (ih (by omega)) hT hB (Nat.lt_of_lt_of_le hn row_le) (by omega)
def EJ (w : Nat → Int32) (np nt : Nat) (E : EE) : Prop := EI w np nt E ∧ 0 < exC E ∧ exK E 0 = pkS w np
theorem stp_EJ {w : Nat → Int32} {np nt n t : Nat} {E : EE} (hE : EJ w np nt E) (hT : TRg w np nt) (hB : NB w np nt) (hn : n < exC E) (ht : t < nt) : EJ w np nt (stpE w np nt n t E) := by
  refine ⟨stp_EI hE.1 hT hB hn ht, Nat.lt_of_lt_of_le hE.2.1 stp_le, ?_⟩
  unfold stpE
  exact iteC_P (fun F : EE => exK F 0 = pkS w np) ((vis_keep hE.2.1).1.trans hE.2.2) hE.2.2
theorem row_EJ {w : Nat → Int32} {np nt n m : Nat} {E : EE} (hE : EJ w np nt E) (hT : TRg w np nt) (hB : NB w np nt) (hn : n < exC E) (hm : m ≤ nt) : EJ w np nt (rowE w np nt n E m) := by
  induction m with
  | zero => exact hE
  | succ m ih =>
    rw [row_S]
    exact stp_EJ (ih (by omega)) hT hB (Nat.lt_of_lt_of_le hn row_le) (by omega)
noncomputable def E1 (w : Nat → Int32) (np nt : Nat) : EE := visE w np nt E0 (pkS w np) (-1) (-1)
theorem E1_e {w : Nat → Int32} {np nt : Nat} : E1 w np nt = addE w np nt E0 (pkS w np) (-1) (-1) := (iteC_f fun ⟨n, hn, _⟩ => absurd hn (Nat.not_lt_zero n)).trans (iteC_f (show ¬ 150 ≤ 0 by decide))
theorem E1_J {w : Nat → Int32} {np nt : Nat} (hT : TRg w np nt) (hB : NB w np nt) : EJ w np nt (E1 w np nt) := by
  refine ⟨vis_EI (E := E0) ⟨Nat.zero_le _, fun n hn => absurd hn (Nat.not_lt_zero n), fun z => absurd trivial z⟩ (GM_self hT) hB.2.2.2.1, ?_, ?_⟩
  · rw [E1_e]; exact Nat.one_pos
  · rw [E1_e]
    show udK (exK E0) 0 (pkS w np) 0 = _
    exact udK_e
theorem all_0 {w : Nat → Int32} {np nt : Nat} : allE w np nt 0 = E1 w np nt := by unfold allE E1; exact foN_0
theorem all_J {w : Nat → Int32} {np nt : Nat} (hT : TRg w np nt) (hB : NB w np nt) : ∀ k, EJ w np nt (allE w np nt k) := by
  intro k
  induction k with
  | zero => rw [all_0]; exact E1_J hT hB
  | succ k ih =>
    show EJ w np nt (iteC (k < exC (allE w np nt k) ∧ exW (allE w np nt k)) (rowE w np nt k (allE w np nt k) nt) (allE w np nt k))
    by_cases g : k < exC (allE w np nt k) ∧ exW (allE w np nt k)
    · rw [iteC_t g]; exact row_EJ ih hT hB g.1 (Nat.le_refl _)
    · rw [iteC_f g]; exact ih
theorem exp_J {w : Nat → Int32} {np nt : Nat} (hT : TRg w np nt) (hB : NB w np nt) : EJ w np nt (expE w np nt) := all_J hT hB 150
theorem inR_le {v : Int32} {n : Nat} (hn : 0 < n) (h2 : n < 1000) : (¬ v < nI 0 ∧ v ≤ nI n - nI 1) = inR v n := by
  rw [inR_e (by omega), nI_0, nI_sub (by omega)]
  refine propext (and_congr_right fun g => ?_)
  obtain ⟨k, hk, rfl⟩ := nI_of g
  rw [nI_ltI hk (by omega), nI_leI hk (by omega)]
  omega
def IB (v : Int32) : Prop := ∃ b, b < 256 ∧ v = (nI b).toInt8.toInt32
theorem ib_byS {v : Int32} {sh : Nat} : IB (byS v sh) := by
  unfold byS
  rw [pk_vb]
  generalize (v >>> (nI sh &&& 31)).toInt8 = z
  refine ⟨z.toBitVec.toNat, z.toBitVec.isLt, congrArg Int8.toInt32 ?_⟩
  apply Int8.toBitVec_inj.mp
  show z.toBitVec = (BitVec.ofNat 32 z.toBitVec.toNat).signExtend 8
  rw [BitVec.signExtend_eq_setWidth_of_le _ (by decide)]
  apply BitVec.eq_of_toNat_eq
  have := z.toBitVec.isLt
  simp
theorem num_in {U : Nat → Int32} {n m : Nat} {t : TK} (h : (numS U n t (nI 0) (nI m - nI 1)).1 = 0) (h1 : 0 < m) (h2 : m < 1000) : inR (numS U n t (nI 0) (nI m - nI 1)).2.2.1 m := by
  have := num_ok h
  rw [← inR_le h1 h2]
  exact ⟨this.1, Int32.not_lt.mp this.2⟩
end PUS
