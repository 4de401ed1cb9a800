section NET
variable {x : CX}
/-- where a net's arrays lie -/
def NS (h : MH) (i : Nat) : Prop := mP h i 2 = i + 1 ∧ mP h i 3 = i + 2 ∧ (mP h i 4 = i + 3 ∧ mP h i 5 = i + 4 ∨ mP h i 4 = i + 4 ∧ mP h i 5 = i + 3) ∧ mP h i 6 = i + 5 ∧ mP h i 7 = i + 6
def NW (h : MH) (i : Nat) (w : Nat → Int32) : Prop := NV h i w ∧ NS h i
theorem NV_eqv {h : MH} {i : Nat} {w w' : Nat → Int32} (hN : NV h i w) (e : ∀ m, m < 268 → w m = w' m) : NV h i w' := by
  obtain ⟨n0, n1, n2, ⟨a0, a1, a2, a3⟩, ⟨b0, b1, b2, b3⟩, ⟨c0, c1, c2, c3⟩, ⟨d0, d1, d2, d3⟩, ⟨e0, e1, e2, e3⟩, ⟨f0, f1, f2, f3⟩⟩ := hN
  exact ⟨n0, n1.trans (e _ (by decide)), n2.trans (e _ (by decide)), ⟨a0, a1, a2, fun k hk => (a3 k hk).trans (e _ (by omega))⟩, ⟨b0, b1, b2, fun k hk => (b3 k hk).trans (e _ (by omega))⟩, ⟨c0, c1, c2, fun k hk => (c3 k hk).trans (e _ (by omega))⟩, ⟨d0, d1, d2, fun k hk => (d3 k hk).trans (e _ (by omega))⟩, ⟨e0, e1, e2, fun k hk => (e3 k hk).trans (e _ (by omega))⟩, ⟨f0, f1, f2, fun k hk => (f3 k hk).trans (e _ (by omega))⟩⟩
theorem nA_fr {h h' : MH} {w : Nat → Int32} {a n off lo hi : Nat} (hA : nA h w a n off) (hF : FRr h h' lo hi) (ha : a < lo ∨ hi ≤ a) : nA h' w a n off :=
  ⟨hA.1, (hF.2.1 a).trans hA.2.1, (hF.2.2.1 a).trans hA.2.2.1, fun k hk => ((hF.2.2.2 a ha k).1).trans (hA.2.2.2 k hk)⟩
theorem NW_fr {h h' : MH} {i lo hi : Nat} {w : Nat → Int32} (hN : NW h i w) (hF : FRr h h' lo hi) (ha : i + 7 ≤ lo ∨ hi ≤ i) : NW h' i w := by
  obtain ⟨⟨n0, n1, n2, A, B, C, D, E, G⟩, s2, s3, s4, s6, s7⟩ := hN
  have p : ∀ k, mP h' i k = mP h i k := fun k => (hF.2.2.2 i (by omega) k).2.1
  have q : ∀ k, mI h' i k = mI h i k := fun k => (hF.2.2.2 i (by omega) k).1
  refine ⟨⟨(hF.2.1 i).trans n0, (q 0).trans n1, (q 1).trans n2, ?_, ?_, ?_, ?_, ?_, ?_⟩, ?_⟩
  · rw [p]; exact nA_fr A hF (by omega)
  · rw [p]; exact nA_fr B hF (by omega)
  · rw [p]; exact nA_fr C hF (by omega)
  · rw [p]; exact nA_fr D hF (by omega)
  · rw [p]; exact nA_fr E hF (by omega)
  · rw [p]; exact nA_fr G hF (by omega)
  · simp only [NS, p]; exact ⟨s2, s3, s4, s6, s7⟩
theorem nA_sI {h : MH} {w : Nat → Int32} {a n off k : Nat} {v : Int32} (hA : nA h w a n off) : nA (sI h a k v) (udW w (off + k) v) a n off :=
  ⟨hA.1, hA.2.1, hA.2.2.1, fun j hj => by
    by_cases g : j = k
    · subst g; rw [sI_Ie, udW_e]
    · rw [sI_Ik g, udW_n (by omega)]; exact hA.2.2.2 j hj⟩
theorem nA_sIo {h : MH} {w : Nat → Int32} {a a' n off k m : Nat} {v : Int32} (hA : nA h w a n off) (ha : a ≠ a') (hm : m < off ∨ off + n ≤ m) : nA (sI h a' k v) (udW w m v) a n off :=
  ⟨hA.1, hA.2.1, hA.2.2.1, fun j hj => by
    rw [sI_Ia ha, udW_n (by omega)]; exact hA.2.2.2 j hj⟩
theorem nA_ud {h : MH} {w : Nat → Int32} {a n off m : Nat} {v : Int32} (hA : nA h w a n off) (hm : m < off ∨ off + n ≤ m) : nA h (udW w m v) a n off :=
  ⟨hA.1, hA.2.1, hA.2.2.1, fun j hj => by
    rw [udW_n (by omega)]; exact hA.2.2.2 j hj⟩
/-- an array's number changes -/
theorem NW_s2 {h : MH} {i k : Nat} {w : Nat → Int32} {v : Int32} (hN : NW h i w) (hk : k < 8) : NW (sI h (i + 1) k v) i (udW w (2 + k) v) := by
  obtain ⟨⟨n0, n1, n2, A, B, C, D, E, G⟩, s2, s3, s4, s6, s7⟩ := hN
  refine ⟨⟨n0, by rw [sI_Ia (by omega), n1, udW_n (by omega)], by rw [sI_Ia (by omega), n2, udW_n (by omega)], ?_, ?_, ?_, ?_, ?_, ?_⟩, s2, s3, s4, s6, s7⟩
  · rw [sI_P, s2]; rw [s2] at A; exact nA_sI A
  all_goals (rw [sI_P]; exact nA_sIo (by assumption) (by omega) (by omega))
theorem NW_s3 {h : MH} {i k : Nat} {w : Nat → Int32} {v : Int32} (hN : NW h i w) (hk : k < 8) : NW (sI h (i + 2) k v) i (udW w (10 + k) v) := by
  obtain ⟨⟨n0, n1, n2, A, B, C, D, E, G⟩, s2, s3, s4, s6, s7⟩ := hN
  refine ⟨⟨n0, by rw [sI_Ia (by omega), n1, udW_n (by omega)], by rw [sI_Ia (by omega), n2, udW_n (by omega)], ?_, ?_, ?_, ?_, ?_, ?_⟩, s2, s3, s4, s6, s7⟩
  · rw [sI_P]; exact nA_sIo (by assumption) (by omega) (by omega)
  · rw [sI_P, s3]; rw [s3] at B; exact nA_sI B
  all_goals (rw [sI_P]; exact nA_sIo (by assumption) (by omega) (by omega))
theorem NW_s4 {h : MH} {i k : Nat} {w : Nat → Int32} {v : Int32} (hN : NW h i w) (hk : k < 80) : NW (sI h (mP h i 4) k v) i (udW w (28 + k) v) := by
  obtain ⟨⟨n0, n1, n2, A, B, C, D, E, G⟩, s2, s3, s4, s6, s7⟩ := hN
  refine ⟨⟨n0, by rw [sI_Ia (by omega), n1, udW_n (by omega)], by rw [sI_Ia (by omega), n2, udW_n (by omega)], ?_, ?_, ?_, ?_, ?_, ?_⟩, s2, s3, s4, s6, s7⟩
  · rw [sI_P]; exact nA_sIo A (by omega) (by omega)
  · rw [sI_P]; exact nA_sIo B (by omega) (by omega)
  · rw [sI_P]; exact nA_sI C
  · rw [sI_P]; exact nA_sIo D (by omega) (by omega)
  · rw [sI_P]; exact nA_sIo E (by omega) (by omega)
  · rw [sI_P]; exact nA_sIo G (by omega) (by omega)
theorem NW_s5 {h : MH} {i k : Nat} {w : Nat → Int32} {v : Int32} (hN : NW h i w) (hk : k < 80) : NW (sI h (mP h i 5) k v) i (udW w (108 + k) v) := by
  obtain ⟨⟨n0, n1, n2, A, B, C, D, E, G⟩, s2, s3, s4, s6, s7⟩ := hN
  refine ⟨⟨n0, by rw [sI_Ia (by omega), n1, udW_n (by omega)], by rw [sI_Ia (by omega), n2, udW_n (by omega)], ?_, ?_, ?_, ?_, ?_, ?_⟩, s2, s3, s4, s6, s7⟩
  · rw [sI_P]; exact nA_sIo A (by omega) (by omega)
  · rw [sI_P]; exact nA_sIo B (by omega) (by omega)
  · rw [sI_P]; exact nA_sIo C (by omega) (by omega)
  · rw [sI_P]; exact nA_sI D
  · rw [sI_P]; exact nA_sIo E (by omega) (by omega)
  · rw [sI_P]; exact nA_sIo G (by omega) (by omega)
theorem NW_s6 {h : MH} {i k : Nat} {w : Nat → Int32} {v : Int32} (hN : NW h i w) (hk : k < 80) : NW (sI h (i + 5) k v) i (udW w (188 + k) v) := by
  obtain ⟨⟨n0, n1, n2, A, B, C, D, E, G⟩, s2, s3, s4, s6, s7⟩ := hN
  refine ⟨⟨n0, by rw [sI_Ia (by omega), n1, udW_n (by omega)], by rw [sI_Ia (by omega), n2, udW_n (by omega)], ?_, ?_, ?_, ?_, ?_, ?_⟩, s2, s3, s4, s6, s7⟩
  · rw [sI_P]; exact nA_sIo A (by omega) (by omega)
  · rw [sI_P]; exact nA_sIo B (by omega) (by omega)
  · rw [sI_P]; exact nA_sIo C (by omega) (by omega)
  · rw [sI_P]; exact nA_sIo D (by omega) (by omega)
  · rw [sI_P, s6]; rw [s6] at E; exact nA_sI E
  · rw [sI_P]; exact nA_sIo G (by omega) (by omega)
theorem NW_s7 {h : MH} {i k : Nat} {w : Nat → Int32} {v : Int32} (hN : NW h i w) (hk : k < 10) : NW (sI h (i + 6) k v) i (udW w (18 + k) v) := by
  obtain ⟨⟨n0, n1, n2, A, B, C, D, E, G⟩, s2, s3, s4, s6, s7⟩ := hN
  refine ⟨⟨n0, by rw [sI_Ia (by omega), n1, udW_n (by omega)], by rw [sI_Ia (by omega), n2, udW_n (by omega)], ?_, ?_, ?_, ?_, ?_, ?_⟩, s2, s3, s4, s6, s7⟩
  · rw [sI_P]; exact nA_sIo A (by omega) (by omega)
  · rw [sI_P]; exact nA_sIo B (by omega) (by omega)
  · rw [sI_P]; exact nA_sIo C (by omega) (by omega)
  · rw [sI_P]; exact nA_sIo D (by omega) (by omega)
  · rw [sI_P]; exact nA_sIo E (by omega) (by omega)
  · rw [sI_P, s7]; rw [s7] at G; exact nA_sI G
theorem NW_s0 {h : MH} {i : Nat} {w : Nat → Int32} {v : Int32} (hN : NW h i w) : NW (sI h i 0 v) i (udW w 0 v) := by
  obtain ⟨⟨n0, n1, n2, A, B, C, D, E, G⟩, s2, s3, s4, s6, s7⟩ := hN
  refine ⟨⟨n0, by rw [sI_Ie, udW_e], by rw [sI_Ik (by omega), n2, udW_n (by omega)], ?_, ?_, ?_, ?_, ?_, ?_⟩, s2, s3, s4, s6, s7⟩
  all_goals (rw [sI_P]; exact nA_sIo (by assumption) (by omega) (by omega))
theorem NW_s1 {h : MH} {i : Nat} {w : Nat → Int32} {v : Int32} (hN : NW h i w) : NW (sI h i 1 v) i (udW w 1 v) := by
  obtain ⟨⟨n0, n1, n2, A, B, C, D, E, G⟩, s2, s3, s4, s6, s7⟩ := hN
  refine ⟨⟨n0, by rw [sI_Ik (by omega), n1, udW_n (by omega)], by rw [sI_Ie, udW_e], ?_, ?_, ?_, ?_, ?_, ?_⟩, s2, s3, s4, s6, s7⟩
  all_goals (rw [sI_P]; exact nA_sIo (by assumption) (by omega) (by omega))
theorem NW_s1_ {h : MH} {i : Nat} {w w' : Nat → Int32} (hN : NW h i w) (e : ∀ m, m < 268 → w m = w' m) : NW h i w' := ⟨NV_eqv hN.1 e, hN.2⟩
def mixR (w u : Nat → Int32) (off n : Nat) : Nat → Int32 := fun m => if off ≤ m ∧ m < off + n then u m else w m
theorem mix_i {w u : Nat → Int32} {off n m : Nat} (h1 : off ≤ m) (h2 : m < off + n) : mixR w u off n m = u m := if_pos ⟨h1, h2⟩
theorem mix_o {w u : Nat → Int32} {off n m : Nat} (h : m < off ∨ off + n ≤ m) : mixR w u off n m = w m := if_neg (by omega)
theorem nA_sR {h : MH} {w u : Nat → Int32} {a b n off : Nat} (hA : nA h w a n off) (hB : nA h u b n off) : nA (sR h a (va_cpy (mI h b) (mI h a) 0 0 n)) (mixR w u off n) a n off :=
  ⟨hA.1, hA.2.1, hA.2.2.1, fun j hj => by
    rw [sR_Ie, mix_i (by omega) (by omega)]
    exact (if_pos (by omega)).trans (by rw [Nat.zero_add, Nat.sub_zero]; exact hB.2.2.2 j hj)⟩
theorem nA_sRo {h : MH} {w u : Nat → Int32} {a a' n off off' n' : Nat} {f : Nat → Int32} (hA : nA h w a n off) (ha : a ≠ a') (hm : off + n ≤ off' ∨ off' + n' ≤ off) : nA (sR h a' f) (mixR w u off' n') a n off :=
  ⟨hA.1, hA.2.1, hA.2.2.1, fun j hj => by
    rw [sR_Ia ha, mix_o (by omega)]; exact hA.2.2.2 j hj⟩
theorem NW_c2 {h : MH} {i b : Nat} {w u : Nat → Int32} (hN : NW h i w) (hb : nA h u b 8 2) : NW (sR h (mP h i 2) (va_cpy (mI h b) (mI h (mP h i 2)) 0 0 8)) i (mixR w u 2 8) := by
  obtain ⟨⟨n0, n1, n2, A, B, C, D, E, G⟩, s2, s3, s4, s6, s7⟩ := hN
  refine ⟨⟨n0, by rw [sR_Ia (by omega), n1, mix_o (by omega)], by rw [sR_Ia (by omega), n2, mix_o (by omega)], ?_, ?_, ?_, ?_, ?_, ?_⟩, s2, s3, s4, s6, s7⟩
  · rw [sR_P]; exact nA_sR A hb
  · rw [sR_P]; exact nA_sRo B (by omega) (by omega)
  · rw [sR_P]; exact nA_sRo C (by omega) (by omega)
  · rw [sR_P]; exact nA_sRo D (by omega) (by omega)
  · rw [sR_P]; exact nA_sRo E (by omega) (by omega)
  · rw [sR_P]; exact nA_sRo G (by omega) (by omega)
theorem NW_c3 {h : MH} {i b : Nat} {w u : Nat → Int32} (hN : NW h i w) (hb : nA h u b 8 10) : NW (sR h (mP h i 3) (va_cpy (mI h b) (mI h (mP h i 3)) 0 0 8)) i (mixR w u 10 8) := by
  obtain ⟨⟨n0, n1, n2, A, B, C, D, E, G⟩, s2, s3, s4, s6, s7⟩ := hN
  refine ⟨⟨n0, by rw [sR_Ia (by omega), n1, mix_o (by omega)], by rw [sR_Ia (by omega), n2, mix_o (by omega)], ?_, ?_, ?_, ?_, ?_, ?_⟩, s2, s3, s4, s6, s7⟩
  · rw [sR_P]; exact nA_sRo A (by omega) (by omega)
  · rw [sR_P]; exact nA_sR B hb
  · rw [sR_P]; exact nA_sRo C (by omega) (by omega)
  · rw [sR_P]; exact nA_sRo D (by omega) (by omega)
  · rw [sR_P]; exact nA_sRo E (by omega) (by omega)
  · rw [sR_P]; exact nA_sRo G (by omega) (by omega)
theorem NW_c4 {h : MH} {i b : Nat} {w u : Nat → Int32} (hN : NW h i w) (hb : nA h u b 80 28) : NW (sR h (mP h i 4) (va_cpy (mI h b) (mI h (mP h i 4)) 0 0 80)) i (mixR w u 28 80) := by
  obtain ⟨⟨n0, n1, n2, A, B, C, D, E, G⟩, s2, s3, s4, s6, s7⟩ := hN
  refine ⟨⟨n0, by rw [sR_Ia (by omega), n1, mix_o (by omega)], by rw [sR_Ia (by omega), n2, mix_o (by omega)], ?_, ?_, ?_, ?_, ?_, ?_⟩, s2, s3, s4, s6, s7⟩
  · rw [sR_P]; exact nA_sRo A (by omega) (by omega)
  · rw [sR_P]; exact nA_sRo B (by omega) (by omega)
  · rw [sR_P]; exact nA_sR C hb
  · rw [sR_P]; exact nA_sRo D (by omega) (by omega)
  · rw [sR_P]; exact nA_sRo E (by omega) (by omega)
  · rw [sR_P]; exact nA_sRo G (by omega) (by omega)
theorem NW_c5 {h : MH} {i b : Nat} {w u : Nat → Int32} (hN : NW h i w) (hb : nA h u b 80 108) : NW (sR h (mP h i 5) (va_cpy (mI h b) (mI h (mP h i 5)) 0 0 80)) i (mixR w u 108 80) := by
  obtain ⟨⟨n0, n1, n2, A, B, C, D, E, G⟩, s2, s3, s4, s6, s7⟩ := hN
  refine ⟨⟨n0, by rw [sR_Ia (by omega), n1, mix_o (by omega)], by rw [sR_Ia (by omega), n2, mix_o (by omega)], ?_, ?_, ?_, ?_, ?_, ?_⟩, s2, s3, s4, s6, s7⟩
  · rw [sR_P]; exact nA_sRo A (by omega) (by omega)
  · rw [sR_P]; exact nA_sRo B (by omega) (by omega)
  · rw [sR_P]; exact nA_sRo C (by omega) (by omega)
  · rw [sR_P]; exact nA_sR D hb
  · rw [sR_P]; exact nA_sRo E (by omega) (by omega)
  · rw [sR_P]; exact nA_sRo G (by omega) (by omega)
theorem NW_c6 {h : MH} {i b : Nat} {w u : Nat → Int32} (hN : NW h i w) (hb : nA h u b 80 188) : NW (sR h (mP h i 6) (va_cpy (mI h b) (mI h (mP h i 6)) 0 0 80)) i (mixR w u 188 80) := by
  obtain ⟨⟨n0, n1, n2, A, B, C, D, E, G⟩, s2, s3, s4, s6, s7⟩ := hN
  refine ⟨⟨n0, by rw [sR_Ia (by omega), n1, mix_o (by omega)], by rw [sR_Ia (by omega), n2, mix_o (by omega)], ?_, ?_, ?_, ?_, ?_, ?_⟩, s2, s3, s4, s6, s7⟩
  · rw [sR_P]; exact nA_sRo A (by omega) (by omega)
  · rw [sR_P]; exact nA_sRo B (by omega) (by omega)
  · rw [sR_P]; exact nA_sRo C (by omega) (by omega)
  · rw [sR_P]; exact nA_sRo D (by omega) (by omega)
  · rw [sR_P]; exact nA_sR E hb
  · rw [sR_P]; exact nA_sRo G (by omega) (by omega)
theorem NW_c7 {h : MH} {i b : Nat} {w u : Nat → Int32} (hN : NW h i w) (hb : nA h u b 10 18) : NW (sR h (mP h i 7) (va_cpy (mI h b) (mI h (mP h i 7)) 0 0 10)) i (mixR w u 18 10) := by
  obtain ⟨⟨n0, n1, n2, A, B, C, D, E, G⟩, s2, s3, s4, s6, s7⟩ := hN
  refine ⟨⟨n0, by rw [sR_Ia (by omega), n1, mix_o (by omega)], by rw [sR_Ia (by omega), n2, mix_o (by omega)], ?_, ?_, ?_, ?_, ?_, ?_⟩, s2, s3, s4, s6, s7⟩
  · rw [sR_P]; exact nA_sRo A (by omega) (by omega)
  · rw [sR_P]; exact nA_sRo B (by omega) (by omega)
  · rw [sR_P]; exact nA_sRo C (by omega) (by omega)
  · rw [sR_P]; exact nA_sRo D (by omega) (by omega)
  · rw [sR_P]; exact nA_sRo E (by omega) (by omega)
  · rw [sR_P]; exact nA_sR G hb
end NET
