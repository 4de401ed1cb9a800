section PRS
variable {U w : Nat → Int32} {n e np nt : Nat}
theorem sgL_n {c : Nat} (h : c < 2 ^ 31) : sgL (nI c) = (97 ≤ c ∧ c ≤ 122) := by unfold sgL; rw [nI_leE (by decide) h, nI_leE h (by decide)]
theorem sgD_n {c : Nat} (h : c < 2 ^ 31) : sgD (nI c) = (48 ≤ c ∧ c ≤ 57) := by unfold sgD; rw [nI_leE (by decide) h, nI_leE h (by decide)]
theorem sgW_n {c : Nat} (h : c < 2 ^ 31) : sgW (nI c) = (c = 32 ∨ c = 10) := by unfold sgW; rw [nI_eqE h (by decide), nI_eqE h (by decide)]
theorem xtN_run {p : Nat → Prop} {m : Nat} : ∀ e, (∀ j, j < m → p (e + j)) → e + m ≤ n → (e + m < n → ¬ p (e + m)) → xtN p n e = e + m := by
  induction m with
  | zero =>
    intro e _ h1 h2
    rcases Nat.lt_or_ge e n with g | g
    · exact xtN_stop (h2 g)
    · exact xtN_end g
  | succ m ih =>
    intro e h0 h1 h2
    have h00 := h0 0 (Nat.succ_pos m)
    rw [Nat.add_zero] at h00
    rw [xtN_go (by omega) h00, ih (e + 1) (fun j hj => by have := h0 (j + 1) (by omega); rwa [show e + (j + 1) = e + 1 + j by omega] at this) (by omega) (fun g => by have := h2 (by omega); rwa [show e + (m + 1) = e + 1 + m by omega] at this)]
    omega
theorem tok_num {d c : Nat} (hn : e + 2 < n) (h0 : U e = nI 32) (h1 : U (e + 1) = nI (48 + d)) (hd : d < 10) (h2 : U (e + 2) = nI c) (hc : c < 48) : tokS U n e = (2, e + 1, e + 2) := by
  have a1 : xtN (fun k => sgW (U k)) n e = e + 1 := xtN_run (m := 1) e (fun j hj => by
    obtain rfl : j = 0 := by omega
    show sgW (U e)
    rw [h0, sgW_n (by decide)]; exact Or.inl rfl) (by omega) fun _ => by
    show ¬ sgW (U (e + 1))
    rw [h1, sgW_n (by omega)]; omega
  have a2 : xtN (fun k => sgD (U k)) n (e + 1) = e + 2 := xtN_run (m := 1) (e + 1) (fun j hj => by
    obtain rfl : j = 0 := by omega
    show sgD (U (e + 1))
    rw [h1, sgD_n (by omega)]; omega) (by omega) fun _ => by
    show ¬ sgD (U (e + 2))
    rw [h2, sgD_n (by omega)]; omega
  unfold tokS
  simp only [a1, a2]
  rw [iteC_f (by omega), iteC_f (by rw [h1, sgL_n (by omega)]; omega), iteC_t (by rw [h1, sgD_n (by omega)]; omega), if_neg (by omega)]
theorem tok_semi (hn : e < n) (h0 : U e = nI 59) : tokS U n e = (3, e, e + 1) := by
  have a1 : xtN (fun k => sgW (U k)) n e = e := xtN_stop (by
    show ¬ sgW (U e)
    rw [h0, sgW_n (by decide)]; decide)
  unfold tokS
  simp only [a1]
  rw [iteC_f (by omega), iteC_f (by rw [h0, sgL_n (by decide)]; decide), iteC_f (by rw [h0, sgD_n (by decide)]; decide), iteC_t h0]
theorem tok_word {m : Nat} {c : Nat → Nat} (hm : 1 ≤ m) (hn : e + m < n) (h0 : ∀ j, j < m → U (e + j) = nI (c j)) (h1 : ∀ j, j < m → 97 ≤ c j ∧ c j ≤ 122) (h2 : U (e + m) = nI 32) : tokS U n e = (1, e, e + m) := by
  have b0 := h0 0 (by omega)
  have b1 := h1 0 (by omega)
  rw [Nat.add_zero] at b0
  have a1 : xtN (fun k => sgW (U k)) n e = e := xtN_stop (by
    show ¬ sgW (U e)
    rw [b0, sgW_n (by omega)]; omega)
  have a2 : xtN (fun k => sgL (U k)) n e = e + m := xtN_run e (fun j hj => by
    have := h1 j hj
    show sgL (U (e + j))
    rw [h0 j hj, sgL_n (by omega)]; exact this) (by omega) fun _ => by
    show ¬ sgL (U (e + m))
    rw [h2, sgL_n (by decide)]; decide
  unfold tokS
  simp only [a1, a2]
  rw [iteC_f (by omega), iteC_t (by rw [b0, sgL_n (by omega)]; exact b1)]
theorem tok_end (he : e ≤ n) (h0 : ∀ k, e ≤ k → k < n → U k = nI 32) : tokS U n e = (0, n, n) := by
  have a1 : xtN (fun k => sgW (U k)) n e = n := by
    have := xtN_run (n := n) (p := fun k => sgW (U k)) (m := n - e) e (fun j hj => by
      show sgW (U (e + j))
      rw [h0 _ (by omega) (by omega), sgW_n (by decide)]; exact Or.inl rfl) (by omega) (fun g => by omega)
    rwa [show e + (n - e) = n by omega] at this
  unfold tokS
  simp only [a1]
  rw [iteC_t (Nat.le_refl n)]
/-- one digit's number -/
theorem num_1 {d c lo hi : Nat} (hn : e + 2 < n) (h0 : U e = nI 32) (h1 : U (e + 1) = nI (48 + d)) (hd : d < 10) (h2 : U (e + 2) = nI c) (hc : c < 48 ∨ c = 59) (hlo : lo ≤ d) (hhi : d ≤ hi) (hh : hi < 1000) : numS U n (tokS U n e) (nI lo) (nI hi) = (0, 0, nI d, tokS U n (e + 2)) := by
  have ht : tokS U n e = (2, e + 1, e + 2) := by
    rcases hc with hc | hc
    · exact tok_num hn h0 h1 hd h2 hc
    · have a1 : xtN (fun k => sgW (U k)) n e = e + 1 := xtN_run (m := 1) e (fun j hj => by
        obtain rfl : j = 0 := by omega
        show sgW (U e)
        rw [h0, sgW_n (by decide)]; exact Or.inl rfl) (by omega) fun _ => by
        show ¬ sgW (U (e + 1))
        rw [h1, sgW_n (by omega)]; omega
      have a2 : xtN (fun k => sgD (U k)) n (e + 1) = e + 2 := xtN_run (m := 1) (e + 1) (fun j hj => by
        obtain rfl : j = 0 := by omega
        show sgD (U (e + 1))
        rw [h1, sgD_n (by omega)]; omega) (by omega) fun _ => by
        show ¬ sgD (U (e + 2))
        rw [h2, sgD_n (by omega)]; omega
      unfold tokS
      simp only [a1, a2]
      rw [iteC_f (by omega), iteC_f (by rw [h1, sgL_n (by omega)]; omega), iteC_t (by rw [h1, sgD_n (by omega)]; omega), if_neg (by omega)]
  have hv : valS U (e + 1) 1 = nI d := by
    show nI 0 * nI 10 + U (e + 1 + 0) - nI 48 = nI d
    rw [Nat.add_zero, h1, nI_mul, nI_add, nI_sub (by omega)]
    congr 1
    omega
  rw [ht]
  unfold numS
  show iteC ((2 : Nat) = 2) (iteC (valS U (e + 1) (e + 2 - (e + 1)) < nI lo ∨ nI hi < valS U (e + 1) (e + 2 - (e + 1))) _ (0, 0, valS U (e + 1) (e + 2 - (e + 1)), tokS U n (e + 2))) _ = _
  rw [show e + 2 - (e + 1) = 1 by omega, hv, iteC_t rfl, iteC_f (by rw [nI_ltE (by omega) (by omega), nI_ltE (by omega) (by omega)]; omega)]
/-- a list at a place of the text -/
def At (U : Nat → Int32) (n e : Nat) (l : List Nat) : Prop := e + l.length ≤ n ∧ ∀ j, j < l.length → U (e + j) = nI (l.getD j 32)
theorem At_l {l1 l2 : List Nat} (h : At U n e (l1 ++ l2)) : At U n e l1 := by
  obtain ⟨h1, h2⟩ := h
  rw [List.length_append] at h1 h2
  refine ⟨by omega, fun j hj => ?_⟩
  rw [h2 j (by omega), List.getD_eq_getElem?_getD, List.getD_eq_getElem?_getD, List.getElem?_append_left hj]
theorem At_r {l1 l2 : List Nat} (h : At U n e (l1 ++ l2)) : At U n (e + l1.length) l2 := by
  obtain ⟨h1, h2⟩ := h
  rw [List.length_append] at h1 h2
  refine ⟨by omega, fun j hj => ?_⟩
  rw [show e + l1.length + j = e + (l1.length + j) by omega, h2 _ (by omega), List.getD_eq_getElem?_getD, List.getD_eq_getElem?_getD, List.getElem?_append_right (by omega), Nat.add_sub_cancel_left]
/-- what stays while such a script runs -/
def PW (w : Nat → Int32) (np nt : Nat) : Prop := NB w np nt ∧ (∀ p, p < 8 → w (10 + p) = nI 30) ∧ ∀ t, t < 10 → w (18 + t) = nI 0
theorem PW_ud {j : Nat} {v : Int32} (h : PW w np nt) (h1 : 2 ≤ j) (h2 : j < 10 ∨ 28 ≤ j) : PW (udW w j v) np nt := ⟨ud_B h.1 h1, fun p hp => (udW_n (by omega)).trans (h.2.1 p hp), fun t ht => (udW_n (by omega)).trans (h.2.2 t ht)⟩
theorem PW_cl (h1 : 1 ≤ np) (h2 : np ≤ 8) (h3 : 1 ≤ nt) (h4 : nt ≤ 10) : PW (clW np nt) np nt := by
  refine ⟨cl_B h1 h2 h3 h4, fun p hp => ?_, fun t ht => ?_⟩
  · unfold clW; rw [if_neg (by omega), if_neg (by omega), if_pos (by omega)]
  · unfold clW; rw [if_neg (by omega), if_neg (by omega), if_neg (by omega)]
def tkL (p k : Nat) : List Nat := [116, 111, 107, 101, 110, 115, 32, 48 + p, 32, 48 + k, 59]
def inL (p t v : Nat) : List Nat := [105, 110, 32, 48 + p, 32, 48 + t, 32, 48 + v, 59]
def ouL (t p v : Nat) : List Nat := [111, 117, 116, 32, 48 + t, 32, 48 + p, 32, 48 + v, 59]
def hdL (np nt : Nat) : List Nat := [110, 101, 116, 32, 48 + np, 32, 48 + nt, 59]
theorem ch_tk : ∀ j, j < 6 → chS 1 j = nI ([116, 111, 107, 101, 110, 115].getD j 32) := by decide +kernel
theorem ch_in : ∀ j, j < 2 → chS 3 j = nI ([105, 110].getD j 32) := by decide +kernel
theorem ch_ou : ∀ j, j < 3 → chS 4 j = nI ([111, 117, 116].getD j 32) := by decide +kernel
theorem ch_hd : ∀ j, j < 3 → chS 0 j = nI ([110, 101, 116].getD j 32) := by decide +kernel
theorem len_w : lenS.getD 0 0 = 3 ∧ lenS.getD 1 0 = 6 ∧ lenS.getD 2 0 = 8 ∧ lenS.getD 3 0 = 2 ∧ lenS.getD 4 0 = 3 := by decide +kernel
theorem st_semi {c : CR} {w' : Nat → Int32} (hn : e < n) (h0 : U e = nI 59) (hc : c = (0, 0, w', tokS U n e)) : stS U n c = (0, 0, w', tokS U n (e + 1)) := by
  subst hc
  rw [st_t rfl]
  show scS U n w' (tokS U n e) = _
  rw [tok_semi hn h0]
  exact iteC_t rfl
theorem m1_nI {k : Nat} (h : k < 1000) : ¬ nI k = -1 := fun e => cast (nI_m1 (by omega)) e
theorem nI_nn {a b : Nat} (ha : a < 1000) (hb : b < 1000) (h : a ≠ b) : ¬ nI a = nI b := fun e => h ((nI_eq (by omega) (by omega)).mp e)
/-- tokens p k; -/
theorem ps_tok {p k : Nat} (hA : At U n e (tkL p k)) (hW : PW w np nt) (hp : p < np) (hk : k < 10) : stS U n (cmS U n w np nt (tokS U n e)) = (0, 0, udW w (2 + p) (nI k), tokS U n (e + 11)) := by
  obtain ⟨h1, hA⟩ := hA
  have h1 : e + 11 ≤ n := h1
  have hA : ∀ j, j < 11 → U (e + j) = nI ((tkL p k).getD j 32) := hA
  have hnp := hW.1.2.2.2.1
  have ht : tokS U n e = (1, e, e + 6) := tok_word (m := 6) (c := fun j => [116, 111, 107, 101, 110, 115].getD j 32) (by decide) (by omega) (fun j hj => (hA j (by omega)).trans (by
    have : ∀ j, j < 6 → (tkL p k).getD j 32 = [116, 111, 107, 101, 110, 115].getD j 32 := fun j hj => by
      match j, hj with
      | 0, _ => rfl
      | 1, _ => rfl
      | 2, _ => rfl
      | 3, _ => rfl
      | 4, _ => rfl
      | 5, _ => rfl
    rw [this j hj])) (by decide) (hA 6 (by decide))
  have hw : wrdS U (1, e, e + 6) 1 := by
    refine ⟨rfl, ?_, fun j hj => ?_⟩
    · rw [len_w.2.1]; show e + 6 - e = 6; omega
    · rw [len_w.2.1] at hj
      rw [ch_tk j hj]
      refine (hA j (by omega)).trans ?_
      match j, hj with
      | 0, _ => rfl
      | 1, _ => rfl
      | 2, _ => rfl
      | 3, _ => rfl
      | 4, _ => rfl
      | 5, _ => rfl
  have ho : cmO U (1, e, e + 6) = nI 1 := iteC_t hw
  have e0 : w 0 - nI 1 = nI (np - 1) := by rw [hW.1.1]; exact nI_sub hW.1.2.2.1
  have n1 : numS U n (tokS U n (e + 6)) (nI 0) (w 0 - nI 1) = (0, 0, nI p, tokS U n (e + 8)) := by
    rw [e0]
    exact num_1 (c := 32) (by omega) (hA 6 (by decide)) (hA 7 (by decide)) (by omega) (hA 8 (by decide)) (Or.inl (by decide)) (Nat.zero_le _) (by omega) (by omega)
  have n2 : numS U n (tokS U n (e + 8)) (nI 0) (w (10 + p)) = (0, 0, nI k, tokS U n (e + 10)) := by
    rw [hW.2.1 p (by omega)]
    exact num_1 (c := 59) (by omega) (hA 8 (by decide)) (hA 9 (by decide)) hk (hA 10 (by decide)) (Or.inr rfl) (Nat.zero_le _) (by omega) (by omega)
  refine st_semi (e := e + 10) (by omega) (hA 10 (by decide)) ?_
  rw [ht]
  unfold cmS
  simp only [ho]
  rw [iteC_f (m1_nI (by decide)), iteC_t (by trivial)]
  unfold cmT
  simp only [n1, nI_clamp (show p < 2 ^ 31 by omega), n2]
  rw [iteC_t (by trivial), iteC_t (by trivial)]
/-- in p t v; -/
theorem ps_in {p t v : Nat} (hA : At U n e (inL p t v)) (hW : PW w np nt) (hp : p < np) (ht0 : t < nt) (hv : v < 10) : stS U n (cmS U n w np nt (tokS U n e)) = (0, 0, udW w (28 + (t * 8 + p)) (nI v), tokS U n (e + 9)) := by
  obtain ⟨h1, hA⟩ := hA
  have h1 : e + 9 ≤ n := h1
  have hA : ∀ j, j < 9 → U (e + j) = nI ((inL p t v).getD j 32) := hA
  have hnp := hW.1.2.2.2
  have ht : tokS U n e = (1, e, e + 2) := tok_word (m := 2) (c := fun j => [105, 110].getD j 32) (by decide) (by omega) (fun j hj => (hA j (by omega)).trans (by
    match j, hj with
    | 0, _ => rfl
    | 1, _ => rfl)) (by decide) (hA 2 (by decide))
  have hw : wrdS U (1, e, e + 2) 3 := by
    refine ⟨rfl, ?_, fun j hj => ?_⟩
    · rw [len_w.2.2.2.1]; show e + 2 - e = 2; omega
    · rw [len_w.2.2.2.1] at hj
      rw [ch_in j hj]
      refine (hA j (by omega)).trans ?_
      match j, hj with
      | 0, _ => rfl
      | 1, _ => rfl
  have w1 : ¬ wrdS U (1, e, e + 2) 1 := fun z => by have := z.2.1; rw [len_w.2.1] at this; have : e + 2 - e = 6 := this; omega
  have w2 : ¬ wrdS U (1, e, e + 2) 2 := fun z => by have := z.2.1; rw [len_w.2.2.1] at this; have : e + 2 - e = 8 := this; omega
  have ho : cmO U (1, e, e + 2) = nI 3 := (iteC_f w1).trans ((iteC_f w2).trans (iteC_t hw))
  have e0 : w 0 - nI 1 = nI (np - 1) := by rw [hW.1.1]; exact nI_sub hW.1.2.2.1
  have e1 : w 1 - nI 1 = nI (nt - 1) := by rw [hW.1.2.1]; exact nI_sub hW.1.2.2.2.2.1
  have n1 : numS U n (tokS U n (e + 2)) (nI 0) (w 0 - nI 1) = (0, 0, nI p, tokS U n (e + 4)) := by
    rw [e0]
    exact num_1 (c := 32) (by omega) (hA 2 (by decide)) (hA 3 (by decide)) (by omega) (hA 4 (by decide)) (Or.inl (by decide)) (Nat.zero_le _) (by omega) (by omega)
  have n2 : numS U n (tokS U n (e + 4)) (nI 0) (w 1 - nI 1) = (0, 0, nI t, tokS U n (e + 6)) := by
    rw [e1]
    exact num_1 (c := 32) (by omega) (hA 4 (by decide)) (hA 5 (by decide)) (by omega) (hA 6 (by decide)) (Or.inl (by decide)) (Nat.zero_le _) (by omega) (by omega)
  have n3 : numS U n (tokS U n (e + 6)) (nI 0) (nI 9) = (0, 0, nI v, tokS U n (e + 8)) :=
    num_1 (c := 59) (by omega) (hA 6 (by decide)) (hA 7 (by decide)) hv (hA 8 (by decide)) (Or.inr rfl) (Nat.zero_le _) (by omega) (by omega)
  refine st_semi (e := e + 8) (by omega) (hA 8 (by decide)) ?_
  rw [ht]
  unfold cmS
  simp only [ho]
  rw [iteC_f (m1_nI (by decide)), iteC_f (nI_nn (by decide) (by decide) (by decide)), iteC_f (nI_nn (by decide) (by decide) (by decide)), iteC_t (by trivial)]
  unfold cmA
  simp only [n1, n2, n3, nI_clamp (show p < 2 ^ 31 by omega), nI_clamp (show t < 2 ^ 31 by omega)]
  rw [iteC_t (by trivial), iteC_t (by trivial), iteC_t (by trivial)]
/-- out t p v; -/
theorem ps_ou {p t v : Nat} (hA : At U n e (ouL t p v)) (hW : PW w np nt) (hp : p < np) (ht0 : t < nt) (hv : v < 10) : stS U n (cmS U n w np nt (tokS U n e)) = (0, 0, udW w (108 + (t * 8 + p)) (nI v), tokS U n (e + 10)) := by
  obtain ⟨h1, hA⟩ := hA
  have h1 : e + 10 ≤ n := h1
  have hA : ∀ j, j < 10 → U (e + j) = nI ((ouL t p v).getD j 32) := hA
  have hnp := hW.1.2.2.2
  have ht : tokS U n e = (1, e, e + 3) := tok_word (m := 3) (c := fun j => [111, 117, 116].getD j 32) (by decide) (by omega) (fun j hj => (hA j (by omega)).trans (by
    match j, hj with
    | 0, _ => rfl
    | 1, _ => rfl
    | 2, _ => rfl)) (by decide) (hA 3 (by decide))
  have hw : wrdS U (1, e, e + 3) 4 := by
    refine ⟨rfl, ?_, fun j hj => ?_⟩
    · rw [len_w.2.2.2.2]; show e + 3 - e = 3; omega
    · rw [len_w.2.2.2.2] at hj
      rw [ch_ou j hj]
      refine (hA j (by omega)).trans ?_
      match j, hj with
      | 0, _ => rfl
      | 1, _ => rfl
      | 2, _ => rfl
  have w1 : ¬ wrdS U (1, e, e + 3) 1 := fun z => by have := z.2.1; rw [len_w.2.1] at this; have : e + 3 - e = 6 := this; omega
  have w2 : ¬ wrdS U (1, e, e + 3) 2 := fun z => by have := z.2.1; rw [len_w.2.2.1] at this; have : e + 3 - e = 8 := this; omega
  have w3 : ¬ wrdS U (1, e, e + 3) 3 := fun z => by have := z.2.1; rw [len_w.2.2.2.1] at this; have : e + 3 - e = 2 := this; omega
  have ho : cmO U (1, e, e + 3) = nI 4 := (iteC_f w1).trans ((iteC_f w2).trans ((iteC_f w3).trans (iteC_t hw)))
  have e0 : w 0 - nI 1 = nI (np - 1) := by rw [hW.1.1]; exact nI_sub hW.1.2.2.1
  have e1 : w 1 - nI 1 = nI (nt - 1) := by rw [hW.1.2.1]; exact nI_sub hW.1.2.2.2.2.1
  have n1 : numS U n (tokS U n (e + 3)) (nI 0) (w 1 - nI 1) = (0, 0, nI t, tokS U n (e + 5)) := by
    rw [e1]
    exact num_1 (c := 32) (by omega) (hA 3 (by decide)) (hA 4 (by decide)) (by omega) (hA 5 (by decide)) (Or.inl (by decide)) (Nat.zero_le _) (by omega) (by omega)
  have n2 : numS U n (tokS U n (e + 5)) (nI 0) (w 0 - nI 1) = (0, 0, nI p, tokS U n (e + 7)) := by
    rw [e0]
    exact num_1 (c := 32) (by omega) (hA 5 (by decide)) (hA 6 (by decide)) (by omega) (hA 7 (by decide)) (Or.inl (by decide)) (Nat.zero_le _) (by omega) (by omega)
  have n3 : numS U n (tokS U n (e + 7)) (nI 0) (nI 9) = (0, 0, nI v, tokS U n (e + 9)) :=
    num_1 (c := 59) (by omega) (hA 7 (by decide)) (hA 8 (by decide)) hv (hA 9 (by decide)) (Or.inr rfl) (Nat.zero_le _) (by omega) (by omega)
  refine st_semi (e := e + 9) (by omega) (hA 9 (by decide)) ?_
  rw [ht]
  unfold cmS
  simp only [ho]
  rw [iteC_f (m1_nI (by decide)), iteC_f (nI_nn (by decide) (by decide) (by decide)), iteC_f (nI_nn (by decide) (by decide) (by decide)), iteC_f (nI_nn (by decide) (by decide) (by decide)), iteC_t (by trivial)]
  unfold cmB
  simp only [n1, n2, n3, nI_clamp (show p < 2 ^ 31 by omega), nI_clamp (show t < 2 ^ 31 by omega)]
  rw [iteC_t (by trivial), iteC_t (by trivial), iteC_t (by trivial)]
/-- net P T; -/
theorem ps_hd (hA : At U n 0 (hdL np nt)) (h1 : 1 ≤ np) (h2 : np ≤ 8) (h3 : 1 ≤ nt) (h4 : nt ≤ 9) : stS U n (hdS U n w (tokS U n 0)) = (0, 0, clW np nt, tokS U n 8) := by
  obtain ⟨g1, hA⟩ := hA
  have g1 : 0 + 8 ≤ n := g1
  have hA : ∀ j, j < 8 → U (0 + j) = nI ((hdL np nt).getD j 32) := hA
  have ht : tokS U n 0 = (1, 0, 0 + 3) := tok_word (m := 3) (c := fun j => [110, 101, 116].getD j 32) (by decide) (by omega) (fun j hj => (hA j (by omega)).trans (by
    match j, hj with
    | 0, _ => rfl
    | 1, _ => rfl
    | 2, _ => rfl)) (by decide) (hA 3 (by decide))
  have hw : wrdS U (1, 0, 0 + 3) 0 := by
    refine ⟨rfl, ?_, fun j hj => ?_⟩
    · rw [len_w.1]; rfl
    · rw [len_w.1] at hj
      rw [ch_hd j hj]
      refine (hA j (by omega)).trans ?_
      match j, hj with
      | 0, _ => rfl
      | 1, _ => rfl
      | 2, _ => rfl
  have n1 : numS U n (tokS U n 3) (nI 1) (nI 8) = (0, 0, nI np, tokS U n 5) := num_1 (e := 3) (c := 32) (by omega) (hA 3 (by decide)) (hA 4 (by decide)) (by omega) (hA 5 (by decide)) (Or.inl (by decide)) h1 h2 (by omega)
  have n2 : numS U n (tokS U n 5) (nI 1) (nI 10) = (0, 0, nI nt, tokS U n 7) := num_1 (e := 5) (c := 59) (by omega) (hA 5 (by decide)) (hA 6 (by decide)) (by omega) (hA 7 (by decide)) (Or.inr rfl) h3 (by omega) (by omega)
  refine st_semi (e := 7) (by omega) (hA 7 (by decide)) ?_
  rw [ht]
  unfold hdS
  simp only [show (0 : Nat) + 3 = 3 from rfl, n1, n2, nI_clamp (show np < 2 ^ 31 by omega), nI_clamp (show nt < 2 ^ 31 by omega)]
  rw [iteC_t hw, iteC_t (by trivial), iteC_t (by trivial)]
theorem tok_nz {c : Nat} (hn : e < n) (h0 : U e = nI c) (h1 : 97 ≤ c ∧ c ≤ 122) : ¬ (tokS U n e).1 = 0 := by
  have a1 : xtN (fun k => sgW (U k)) n e = e := xtN_stop (by
    show ¬ sgW (U e)
    rw [h0, sgW_n (by omega)]; omega)
  unfold tokS
  simp only [a1]
  rw [iteC_f (by omega), iteC_t (by rw [h0, sgL_n (by omega)]; exact h1)]
  exact (by decide : ¬ (1 : Nat) = 0)
/-- a text out of pieces -/
def txS (hd : List Nat) (g : Nat → List Nat) : Nat → List Nat
  | 0 => hd
  | i + 1 => txS hd g i ++ g i
theorem at_pre {hd : List Nat} {g : Nat → List Nat} {i : Nat} : ∀ d, At U n 0 (txS hd g (i + d)) → At U n 0 (txS hd g i) := by
  intro d
  induction d with
  | zero => exact fun h => h
  | succ d ih => exact fun h => ih (At_l (show At U n 0 (txS hd g (i + d) ++ g (i + d)) from h))
theorem at_seg {hd : List Nat} {g : Nat → List Nat} {i m : Nat} (h : At U n 0 (txS hd g m)) (hi : i < m) : At U n (txS hd g i).length (g i) := by
  have h1 : At U n 0 (txS hd g (i + 1)) := at_pre (m - (i + 1)) (by rwa [show i + 1 + (m - (i + 1)) = m by omega])
  have h2 := At_r (show At U n 0 (txS hd g i ++ g i) from h1)
  rwa [Nat.zero_add] at h2
noncomputable def sgm (b : Prop) (p t v k : Nat) : List Nat := iteC b (inL p t v) (ouL t p v) ++ tkL p k
theorem lp_S {f : Nat} {c : CR} (h0 : c.1 = 0) (h1 : ¬ c.2.2.2.1 = 0) : lpS U n (f + 1) c = lpS U n f (stS U n (cmS U n c.2.2.1 (npW c.2.2.1) (ntW c.2.2.1) c.2.2.2)) := iteC_t ⟨h0, h1⟩
theorem lp_end {f : Nat} {c : CR} (h : c.2.2.2.1 = 0) : lpS U n f c = c := by
  cases f with
  | zero => rfl
  | succ f => exact iteC_f fun z => z.2 h
theorem lp_1 {f e2 : Nat} {v : Nat → Int32} (hW : PW w np nt) (hz : ¬ (tokS U n e).1 = 0) (hs : stS U n (cmS U n w np nt (tokS U n e)) = (0, 0, v, tokS U n e2)) : lpS U n (f + 1) (0, 0, w, tokS U n e) = lpS U n f (0, 0, v, tokS U n e2) := by
  rw [lp_S rfl hz]
  show lpS U n f (stS U n (cmS U n w (npW w) (ntW w) (tokS U n e))) = _
  rw [npW_e hW.1, ntW_e hW.1, hs]
theorem lp_2 {f : Nat} {b : Prop} {p t v k : Nat} (hA : At U n e (sgm b p t v k)) (hW : PW w np nt) (hp : p < np) (ht : t < nt) (hv : v < 10) (hk : k < 10) : ∃ w', PW w' np nt ∧ lpS U n (f + 2) (0, 0, w, tokS U n e) = lpS U n f (0, 0, w', tokS U n (e + (sgm b p t v k).length)) := by
  have hnp := hW.1.2.2.2
  unfold sgm at *
  have h1 := At_l hA
  have h2 := At_r hA
  by_cases g : b
  · rw [iteC_t g] at *
    have hW1 : PW (udW w (28 + (t * 8 + p)) (nI v)) np nt := PW_ud hW (by omega) (by omega)
    have hz1 : ¬ (tokS U n e).1 = 0 := tok_nz (c := 105) (by have : e + 9 ≤ n := h1.1; omega) (h1.2 0 (Nat.le_of_ble_eq_true rfl)) (by decide)
    have hz2 : ¬ (tokS U n (e + 9)).1 = 0 := tok_nz (c := 116) (by have : e + 9 + 11 ≤ n := h2.1; omega) (h2.2 0 (Nat.le_of_ble_eq_true rfl)) (by decide)
    refine ⟨udW (udW w (28 + (t * 8 + p)) (nI v)) (2 + p) (nI k), PW_ud hW1 (by omega) (by omega), ?_⟩
    rw [lp_1 hW hz1 (ps_in h1 hW hp ht hv), lp_1 hW1 hz2 (ps_tok h2 hW1 hp hk)]
    rfl
  · rw [iteC_f g] at *
    have hW1 : PW (udW w (108 + (t * 8 + p)) (nI v)) np nt := PW_ud hW (by omega) (by omega)
    have hz1 : ¬ (tokS U n e).1 = 0 := tok_nz (c := 111) (by have : e + 10 ≤ n := h1.1; omega) (h1.2 0 (Nat.le_of_ble_eq_true rfl)) (by decide)
    have hz2 : ¬ (tokS U n (e + 10)).1 = 0 := tok_nz (c := 116) (by have : e + 10 + 11 ≤ n := h2.1; omega) (h2.2 0 (Nat.le_of_ble_eq_true rfl)) (by decide)
    refine ⟨udW (udW w (108 + (t * 8 + p)) (nI v)) (2 + p) (nI k), PW_ud hW1 (by omega) (by omega), ?_⟩
    rw [lp_1 hW hz1 (ps_ou h1 hW hp ht hv), lp_1 hW1 hz2 (ps_tok h2 hW1 hp hk)]
    rfl
/-- such a script makes a net -/
theorem run_scr {b : Nat → Prop} {p t v k : Nat → Nat} {m : Nat} (h1 : 1 ≤ np) (h2 : np ≤ 8) (h3 : 1 ≤ nt) (h4 : nt ≤ 9) (hg : ∀ i, i < m → p i < np ∧ t i < nt ∧ v i < 10 ∧ k i < 10) (hm : 2 * m ≤ n) (hl : (txS (hdL np nt) (fun i => sgm (b i) (p i) (t i) (v i) (k i)) m).length ≤ n)
    (hU : ∀ j, j < n → U j = nI ((txS (hdL np nt) (fun i => sgm (b i) (p i) (t i) (v i) (k i)) m).getD j 32)) : ∃ w', PW w' np nt ∧ scX U n w = (0, 0, w', 0, n, n) := by
  obtain ⟨g, hgd⟩ : ∃ g : Nat → List Nat, g = fun i => sgm (b i) (p i) (t i) (v i) (k i) := ⟨_, rfl⟩
  rw [← hgd] at hl hU
  have hA : At U n 0 (txS (hdL np nt) g m) := ⟨by omega, fun j hj => by rw [Nat.zero_add]; exact hU j (by omega)⟩
  have hh : At U n 0 (hdL np nt) := at_pre (i := 0) m (by rwa [Nat.zero_add])
  have key : ∀ i, i ≤ m → ∃ w', PW w' np nt ∧ scX U n w = lpS U n (n - 2 * i) (0, 0, w', tokS U n (txS (hdL np nt) g i).length) := by
    intro i
    induction i with
    | zero =>
      intro _
      refine ⟨clW np nt, PW_cl h1 h2 h3 (by omega), ?_⟩
      unfold scX
      rw [ps_hd hh h1 h2 h3 h4]
      rfl
    | succ i ih =>
      intro hi
      obtain ⟨w1, hW, e⟩ := ih (by omega)
      obtain ⟨q1, q2, q3, q4⟩ := hg i (by omega)
      have hs := at_seg hA (show i < m by omega)
      have hgi : g i = sgm (b i) (p i) (t i) (v i) (k i) := by rw [hgd]
      rw [hgi] at hs
      obtain ⟨w2, hW2, e2⟩ := lp_2 (f := n - 2 * (i + 1)) hs hW q1 q2 q3 q4
      refine ⟨w2, hW2, ?_⟩
      rw [e, show n - 2 * i = n - 2 * (i + 1) + 2 by omega, e2]
      congr 2
      rw [show txS (hdL np nt) g (i + 1) = txS (hdL np nt) g i ++ g i from rfl, List.length_append, hgi]
  obtain ⟨w', hW, e⟩ := key m (Nat.le_refl m)
  refine ⟨w', hW, ?_⟩
  have ht : tokS U n (txS (hdL np nt) g m).length = (0, n, n) := tok_end hl fun j hj hjn => by
    rw [hU j hjn, List.getD_eq_getElem?_getD, List.getElem?_eq_none hj]
    rfl
  rw [e, ht]
  exact lp_end rfl
end PRS
