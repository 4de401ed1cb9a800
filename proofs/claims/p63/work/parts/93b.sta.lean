section STA
/-- the atoms of what is given -/
def atG : List Cond := flatC (Cond.and given_1 narrow_1)
theorem mem_of_at {i : Nat} {w : Cond} (h : atG[i]? = some w) : w ∈ atG := by first | exact List.mem_of_getElem? h | exact List.getElem?_mem h
def tmS (i : Nat) : Term := .string (oR (eS.getD i (0, 0, "")).1) (eS.getD i (0, 0, "")).2.1
def oS : List Nat := [318, 331, 348, 368, 383, 400, 422, 442, 502, 462, 550, 595, 643, 694, 257, 265, 273, 290, 302]
theorem sa_ex : ∀ i, i < 19 → atG[oS.getD i 0]? = some (Cond.exactly (tmS i) "java/lang/String") := by decide +kernel
theorem sa_co : ∀ i, i < 19 → atG[oS.getD i 0 + 1]? = some (Cond.eq (.field (tmS i) "java/lang/String" "coder" "B") (.int 0)) := by decide +kernel
theorem sa_ar : ∀ i, i < 19 → atG[oS.getD i 0 + 2]? = some (Cond.arrayOf (.field (tmS i) "java/lang/String" "value" "[B") .byte) := by decide +kernel
theorem sa_le : ∀ i, i < 19 → atG[oS.getD i 0 + 3]? = some (Cond.eq (.length (.field (tmS i) "java/lang/String" "value" "[B")) (.int (Int32.ofNat (lenS.getD i 0)))) := by decide +kernel
theorem sa_el : ∀ i, i < 19 → ∀ j, j < lenS.getD i 0 → atG[oS.getD i 0 + 4 + j]? = some (Cond.eq (.elem (.field (tmS i) "java/lang/String" "value" "[B") (.int (Int32.ofNat j))) (.int ((bytS.getD i []).getD j 0))) := by decide +kernel
theorem sa_sr : ∀ i, i < 19 → tables_1[[635, 677, 678, 679, 680, 681, 682, 683, 788, 777, 807, 829, 852, 931, 246, 456, 458, 592, 593].getD i 0]? = some (Cond.stringRef (oR (eS.getD i (0, 0, "")).1) (eS.getD i (0, 0, "")).2.1 (eS.getD i (0, 0, "")).2.2) := by decide +kernel
theorem sa_nc : ∀ i, i < 12 → atG[[226, 246, 256, 232, 242, 252, 233, 222, 253, 234, 223, 243].getD i 0]? = (ncP[i]?).map fun c => Cond.not (.castable c.1 c.2) := by decide +kernel
theorem sa_ng : ∀ i, i < 7 → tables_1[[497, 770, 800, 924, 499, 501, 503].getD i 0]? = wNG[i]? := by decide +kernel
theorem sa_in : ∀ i, i < 7 → tables_1[[158, 101, 37, 121, 26, 245, 464].getD i 0]? = some (Cond.instantiable (eR i) (eN i)) := by decide +kernel
theorem sd_el : ∀ j, j < 100 → atG[12 + j]? = some (Cond.eq (.elem (.static "java/lang/Integer" "DigitOnes" "[B") (.int (Int32.ofNat j))) (.int (dgT j))) := by decide +kernel
variable {s : State} {b : Nat}
/-- the strings that the constant pools name -/
theorem st_str (hgv : (Jvm.Cond.and given_1 narrow_1).before #[Value.ref b] s = true) {A : Nat → Prop} (hA : ∀ a : Nat, a < s.heap.size → ¬ A a) : ∃ adK adV : Nat → Nat, (∀ i, i < 19 → va_O "java/lang/String" (adK i) A s s.heap ∧ va_OF "java/lang/String" "coder" "B" (.int 0) (adK i) A s s.heap ∧ va_OF "java/lang/String" "value" "[B" (.ref (adV i)) (adK i) A s s.heap ∧ va_T .byte (adV i) (lenS.getD i 0) (fun j => .int ((bytS.getD i []).getD j 0)) A s s.heap) ∧ ∀ i, i < 19 → (tmS i).eval #[Value.ref b] s none [] s = some (.ref (adK i)) := by
  have hs : ∀ w ∈ atG, w.before #[Value.ref b] s = true := flat_of_before _ hgv
  have h0 : ∀ i : Nat, ∃ q : Nat × Nat, i < 19 → (va_O "java/lang/String" q.1 A s s.heap ∧ va_OF "java/lang/String" "coder" "B" (.int 0) q.1 A s s.heap ∧ va_OF "java/lang/String" "value" "[B" (.ref q.2) q.1 A s s.heap ∧ va_T .byte q.2 (lenS.getD i 0) (fun j => .int ((bytS.getD i []).getD j 0)) A s s.heap) ∧ (tmS i).eval #[Value.ref b] s none [] s = some (.ref q.1) := by
    intro i
    by_cases hi : i < 19
    · have hl := lenS_lt i
      obtain ⟨adK, adV, h1, h2⟩ := vk_Sof (args := #[Value.ref b]) (s := s) (N := 1) (tm := fun _ => tmS i) (len := [lenS.getD i 0]) (byt := [bytS.getD i []]) (A := A)
        (fun k hk => by obtain rfl : k = 0 := by omega
                        show lenS.getD i 0 < 2 ^ 31
                        omega)
        (fun _ _ => hs _ (mem_of_at (sa_ex i hi))) (fun _ _ => hs _ (mem_of_at (sa_co i hi))) (fun _ _ => hs _ (mem_of_at (sa_ar i hi)))
        (fun k hk => by obtain rfl : k = 0 := by omega
                        exact hs _ (mem_of_at (sa_le i hi)))
        (fun k hk j hj => by obtain rfl : k = 0 := by omega
                             exact hs _ (mem_of_at (sa_el i hi j hj)))
        (fun k j hk hj hne => absurd (by omega) hne) hA
      exact ⟨(adK 0, adV 0), fun _ => ⟨h1.1 0 (by decide), h2 0 (by decide)⟩⟩
    · exact ⟨(0, 0), fun h => absurd h hi⟩
  obtain ⟨ad, had⟩ := Classical.axiomOfChoice h0
  exact ⟨fun i => (ad i).1, fun i => (ad i).2, fun i hi => (had i hi).1, fun i hi => (had i hi).2⟩
theorem arr_of {U : State} {cA : ClassId} {k : Class} {comp : ClassId} {ty : FieldType} (h1 : U.vm.classes[cA]? = some k) (h2 : k.kind = .array comp ty) : ArrOfT U cA ty := fun _ _ => ⟨(fun z h => by cases h), k, h1, comp, h2⟩
/-- what the start gives -/
theorem st_GF {Ls : Nat} {xs : Nat → Int32} (l : Launch) (hflags : l.flags = flags0) (hXs : va_X b Ls xs s s.heap) (hbl : b < s.heap.size) (hLs : Ls < 2 ^ 31) (hts : ∀ w ∈ lw_tbl, w.before #[Value.ref b] s = true) (hgv : (Jvm.Cond.and given_1 narrow_1).before #[Value.ref b] s = true) : ∃ x : CX, x.1 = l ∧ xz x = s.heap.size ∧ xB x = b ∧ xN x = Ls ∧ GF x s s.heap := by
  have hs : ∀ w ∈ atG, w.before #[Value.ref b] s = true := flat_of_before _ hgv
  have ht1 : ∀ {i : Nat} {w : Cond}, tables_1[i]? = some w → w.before #[Value.ref b] s = true := fun h => hts _ (List.mem_append_right _ (by first | exact List.mem_of_getElem? h | exact List.getElem?_mem h))
  have hws : ∀ w ∈ WS, w.before #[Value.ref b] s = true := WS_ok hts
  have hA : ∀ a : Nat, a < s.heap.size → ¬ (fun q : Nat => s.heap.size ≤ q) a := fun a h => Nat.not_le.mpr h
  -- the classes
  have hK : ∀ c : Nat, ∃ q : ClassId × (Nat → Nat), c < 7 → u_Kn s (eR c) (eT c) (eN c) q.1 q.2 := by
    intro c
    by_cases hc : c < 7
    · obtain ⟨cC, iS, h⟩ := u_known (C := eR c) (T := eT c) (N := eN c) (n := eN c) hws (okW hc) (ht1 (sa_in c hc))
      exact ⟨(cC, iS), fun _ => h⟩
    · exact ⟨(0, fun _ => 0), fun h => absurd h hc⟩
  obtain ⟨kk, hkk⟩ := Classical.axiomOfChoice hK
  obtain ⟨adK, adV, hS1, hS2⟩ := st_str hgv hA
  obtain ⟨dA, d1, d2⟩ := va_Tof (f := fun j => .int (dgT j)) (tm := .static "java/lang/Integer" "DigitOnes" "[B") (ty := .byte) (N := 100) (by decide) (hs _ (mem_of_at (i := 10) (by decide +kernel))) (va_eqt (hs _ (mem_of_at (i := 11) (by decide +kernel)))) (fun j hj => va_eqt (hs _ (mem_of_at (sd_el j hj)))) hA
  obtain ⟨cI, kI, pI0, i1, i2, i3⟩ := Cond.arrayClass_spec (ht1 (i := 84) (w := .arrayClass .int) (by decide +kernel))
  obtain ⟨cB, kB, pB, b1, b2, b3⟩ := Cond.arrayClass_spec (ht1 (i := 156) (w := .arrayClass .byte) (by decide +kernel))
  obtain ⟨cJ, kJ, pJ0, j1, j2, j3⟩ := Cond.arrayClass_spec (ht1 (i := 197) (w := .arrayClass .long) (by decide +kernel))
  have hON := ht1 (i := 107) (w := .arrayOver (.object "PetriNet$Net")) (by decide +kernel)
  have hOA := ht1 (i := 1082) (w := .arrayOver (.array .int)) (by decide +kernel)
  obtain ⟨pN, cN, kN, n1, -, n3, n4, n5⟩ := Cond.arrayOver_spec hON
  obtain ⟨pA, cA, kA, a1, -, a3, a4, a5⟩ := arrayOverA_spec hOA
  refine ⟨(l, s.heap.size, (fun c => (kk c).1), (fun c => (kk c).2), (fun t => match t with | 0 => cI | 1 => cB | 2 => cJ | 3 => cN | _ => cA), adK, adV, dA, b, Ls, xs), rfl, rfl, rfl, rfl, fun c hc => hkk c hc, fun t ht => ?_, ?_, ?_, fun i hi => ?_, ?_, ?_, ?_, ?_, ?_, Nat.le_refl _, fun w hw => ?_, fun c hc => ?_, ?_, ?_, ⟨hXs, hbl, hLs⟩, va_Zof (ht1 (i := 416) (by decide +kernel)) (ht1 (i := 23) (by decide +kernel)) d1 hA, d2⟩
  · match t, ht with
    | 0, _ => exact ⟨arr_of i2 i3, i1⟩
    | 1, _ => exact ⟨arr_of b2 b3, b1⟩
    | 2, _ => exact ⟨arr_of j2 j3, j1⟩
    | 3, _ => exact ⟨arr_of n3 n4, kN, pN, n3, n4, n1, n5⟩
    | 4, _ => exact ⟨arr_of a3 a4, a5⟩
  · exact vx_Zqof (ht1 (i := 522) (by decide +kernel)) (ht1 (i := 7) (by decide +kernel)) (hs _ (mem_of_at (i := 215) (by decide +kernel))) hA
  · exact vx_Zqof (ht1 (i := 524) (by decide +kernel)) (ht1 (i := 7) (by decide +kernel)) (hs _ (mem_of_at (i := 216) (by decide +kernel))) hA
  · exact vk_R.of (ht1 (sa_sr i hi)) (hS2 i hi)
  · exact hS1
  · exact va_Zof (ht1 (i := 263) (by decide +kernel)) (ht1 (i := 16) (by decide +kernel)) (va_eqi (hs _ (mem_of_at (i := 4) (by decide +kernel)))) hA
  · exact va_Zqof (ht1 (i := 344) (by decide +kernel)) (ht1 (i := 20) (by decide +kernel)) (hs _ (mem_of_at (i := 5) (by decide +kernel))) hA
  · refine ⟨kA, a3, ?_⟩
    rw [a4]
    have e : s.vm.findClass ("[" ++ FieldType.int.toString) = some pA := a1
    rw [e] at i1
    cases i1
    rfl
  · show l.stackTraces = false
    unfold Launch.stackTraces
    rw [hflags]
    decide +kernel
  · obtain ⟨i, hi⟩ := List.getElem?_of_mem hw
    have h7 : i < 7 := by
      have := (List.getElem?_eq_some_iff.mp hi).1
      exact this
    exact va_Nw.of (wNG_on w hw) (ht1 ((sa_ng i h7).trans hi))
  · obtain ⟨i, hi⟩ := List.getElem?_of_mem hc
    have h12 : i < 12 := by
      have := (List.getElem?_eq_some_iff.mp hi).1
      exact this
    have h := sa_nc i h12
    rw [hi] at h
    exact va_Nc.of (hs _ (mem_of_at h))
  · exact va_AO.of hON
  · exact hOA
end STA
