section MOD
variable {x : CX}
theorem tok_le {U : Nat → Int32} {n e : Nat} (he : e ≤ n) : e ≤ (tokS U n e).2.1 := by
  have b := xtN_b (p := fun k => sgW (U k)) he
  unfold tokS
  simp only []
  exact iteC_P (fun t : TK => e ≤ t.2.1) b.1 (iteC_P (fun t : TK => e ≤ t.2.1) b.1 (iteC_P (fun t : TK => e ≤ t.2.1) b.1 (iteC_P (fun t : TK => e ≤ t.2.1) b.1 b.1)))
theorem tok_gr {U : Nat → Int32} {n e : Nat} (he : e ≤ n) (hk : ¬ (tokS U n e).1 = 0) : e < (tokS U n e).2.2 := by
  have b := xtN_b (p := fun k => sgW (U k)) he
  unfold tokS at *
  simp only [] at *
  generalize xtN (fun k => sgW (U k)) n e = s at *
  by_cases g : n ≤ s
  · rw [iteC_t g] at hk; exact absurd rfl hk
  · rw [iteC_f g] at hk ⊢
    have gr : ∀ p : Nat → Prop, p s → e < xtN p n s := fun p hp => by
      rw [xtN_go (by omega) hp]
      have := xtN_b (p := p) (n := n) (e := s + 1) (by omega)
      omega
    by_cases g1 : sgL (U s)
    · rw [iteC_t g1]; exact gr _ g1
    · rw [iteC_f g1] at hk ⊢
      by_cases g2 : sgD (U s)
      · rw [iteC_t g2]; exact gr _ g2
      · rw [iteC_f g2] at hk ⊢
        exact iteC_P (fun t : TK => e < t.2.2) (show e < s + 1 by omega) (show e < s + 1 by omega)
/-- a later token -/
def TM (n : Nat) (t u : TK) : Prop := t.2.2 ≤ u.2.2 ∧ tkB n u
theorem TM_num {U : Nat → Int32} {n : Nat} {t0 t : TK} {lo hi : Int32} (h : TM n t0 t) : TM n t0 (numS U n t lo hi).2.2.2 := by
  refine ⟨?_, num_b h.2⟩
  have h1 := tok_le (U := U) h.2.2.1
  have h2 := (tok_b (U := U) h.2.2.1).1
  unfold numS
  exact iteC_P (fun q : Nat × Nat × Int32 × TK => t0.2.2 ≤ q.2.2.2.2.2) (iteC_P (fun q : Nat × Nat × Int32 × TK => t0.2.2 ≤ q.2.2.2.2.2) h.1 (Nat.le_trans h.1 (Nat.le_trans h1 h2))) h.1
theorem TM_tok {U : Nat → Int32} {n : Nat} {t : TK} (h : tkB n t) : TM n t (tokS U n t.2.2) := ⟨Nat.le_trans (tok_le h.2.1) (tok_b h.2.1).1, tok_b h.2.1⟩
theorem cm_TM {U w : Nat → Int32} {n np nt : Nat} {t : TK} (h : tkB n t) : TM n t (cmS U n w np nt t).2.2.2 := by
  have h0 : TM n t t := ⟨Nat.le_refl _, h⟩
  have h1 := TM_tok (U := U) h
  have i := fun (c : Prop) (a b : CR) (ha : TM n t a.2.2.2) (hb : TM n t b.2.2.2) => iteC_P (c := c) (fun q : CR => TM n t q.2.2.2) ha hb
  unfold cmS
  simp only []
  refine i _ _ _ h0 (i _ _ _ ?_ (i _ _ _ ?_ (i _ _ _ ?_ (i _ _ _ ?_ (i _ _ _ ?_ (i _ _ _ ?_ ?_))))))
  · exact i _ _ _ (i _ _ _ (TM_num (TM_num h1)) (TM_num (TM_num h1))) (TM_num h1)
  · exact i _ _ _ (i _ _ _ (TM_num (TM_num h1)) (TM_num (TM_num h1))) (TM_num h1)
  · exact i _ _ _ (i _ _ _ (i _ _ _ (TM_num (TM_num (TM_num h1))) (TM_num (TM_num (TM_num h1)))) (TM_num (TM_num h1))) (TM_num h1)
  · exact i _ _ _ (i _ _ _ (i _ _ _ (TM_num (TM_num (TM_num h1))) (TM_num (TM_num (TM_num h1)))) (TM_num (TM_num h1))) (TM_num h1)
  · exact i _ _ _ (i _ _ _ (i _ _ _ (TM_num (TM_num (TM_num h1))) (TM_num (TM_num (TM_num h1)))) (TM_num (TM_num h1))) (TM_num h1)
  · exact i _ _ _ (i _ _ _ (TM_num h1) (TM_num h1)) (TM_num h1)
  · exact i _ _ _ (TM_num h1) (TM_num h1)
theorem ad_en {U : Nat → Int32} {n : Nat} {d : CR} : adS U n (enS d) = stS U n d := by
  by_cases g : d.1 = 0
  · rw [st_t g]
    by_cases g2 : d.2.2.2.1 = 3
    · rw [en_yes g g2, ad_ok g, show scS U n d.2.2.1 d.2.2.2 = _ from iteC_t g2]
    · rw [en_no g g2, show scS U n d.2.2.1 d.2.2.2 = _ from iteC_f g2]
      exact iteC_f (show ¬ (1 : Nat) = 0 by decide)
  · rw [st_f g, en_bad g]; exact iteC_f g
end MOD
