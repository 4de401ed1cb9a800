section ASM
variable {x : CX} {q : MS} {o : Nat} {post : Option Value → MH → Prop} {xp : String → MH → Prop} {pc : Nat} {b : Nat × Nat} {L st : List Value} {h : MH}
theorem M_canon {i0 : Instr} {len : Nat} (ho : o < 15) (hd : decode q.2.1 pc = .ok (i0, len)) (hl : lenB i0 len = true) (hm : limB (canon o pc i0) q.2.2.1 = true) (ht : tgtB (canon o pc i0) = true) (hp : dpB (canon o pc i0) q.2.2.2.2.2.2.1 = true)
    (hs : stepE x q o post xp (canon o pc i0) len pc b L st h (MW x q o post xp)) : MW x q o post xp pc b L st h := by
  cases i0
  case iconst =>
    have hl : len = 1 := by simpa [lenB] using hl
    subst hl
    exact M_iconst hd hs
  case lconst =>
    have hl : len = 1 := by simpa [lenB] using hl
    subst hl
    exact M_lconst hd hs
  case iadd =>
    have hl : len = 1 := by simpa [lenB] using hl
    subst hl
    exact M_iadd hd hs
  case isub =>
    have hl : len = 1 := by simpa [lenB] using hl
    subst hl
    exact M_isub hd hs
  case imul =>
    have hl : len = 1 := by simpa [lenB] using hl
    subst hl
    exact M_imul hd hs
  case idiv =>
    have hl : len = 1 := by simpa [lenB] using hl
    subst hl
    exact M_idiv hd hs
  case irem =>
    have hl : len = 1 := by simpa [lenB] using hl
    subst hl
    exact M_irem hd hs
  case iand =>
    have hl : len = 1 := by simpa [lenB] using hl
    subst hl
    exact M_iand hd hs
  case ior =>
    have hl : len = 1 := by simpa [lenB] using hl
    subst hl
    exact M_ior hd hs
  case ishl =>
    have hl : len = 1 := by simpa [lenB] using hl
    subst hl
    exact M_ishl hd hs
  case ishr =>
    have hl : len = 1 := by simpa [lenB] using hl
    subst hl
    exact M_ishr hd hs
  case iushr =>
    have hl : len = 1 := by simpa [lenB] using hl
    subst hl
    exact M_iushr hd hs
  case ladd =>
    have hl : len = 1 := by simpa [lenB] using hl
    subst hl
    exact M_ladd hd hs
  case lmul =>
    have hl : len = 1 := by simpa [lenB] using hl
    subst hl
    exact M_lmul hd hs
  case lshl =>
    have hl : len = 1 := by simpa [lenB] using hl
    subst hl
    exact M_lshl hd hs
  case lushr =>
    have hl : len = 1 := by simpa [lenB] using hl
    subst hl
    exact M_lushr hd hs
  case lcmp =>
    have hl : len = 1 := by simpa [lenB] using hl
    subst hl
    exact M_lcmp hd hs
  case i2l =>
    have hl : len = 1 := by simpa [lenB] using hl
    subst hl
    exact M_i2l hd hs
  case l2i =>
    have hl : len = 1 := by simpa [lenB] using hl
    subst hl
    exact M_l2i hd hs
  case i2b =>
    have hl : len = 1 := by simpa [lenB] using hl
    subst hl
    exact M_i2b hd hs
  case i2c =>
    have hl : len = 1 := by simpa [lenB] using hl
    subst hl
    exact M_i2c hd hs
  case i2d =>
    have hl : len = 1 := by simpa [lenB] using hl
    subst hl
    exact M_i2d hd hs
  case i2f =>
    have hl : len = 1 := by simpa [lenB] using hl
    subst hl
    exact M_i2f hd hs
  case ddiv =>
    have hl : len = 1 := by simpa [lenB] using hl
    subst hl
    exact M_ddiv hd hs
  case fdiv =>
    have hl : len = 1 := by simpa [lenB] using hl
    subst hl
    exact M_fdiv hd hs
  case dconst =>
    have hl : len = 1 := by simpa [lenB] using hl
    subst hl
    exact M_dconst hd hs
  case fconst =>
    have hl : len = 1 := by simpa [lenB] using hl
    subst hl
    exact M_fconst hd hs
  case dup_x1 =>
    have hl : len = 1 := by simpa [lenB] using hl
    subst hl
    exact M_dup_x1 hd hs
  case ineg =>
    have hl : len = 1 := by simpa [lenB] using hl
    subst hl
    exact M_ineg hd hs
  case ixor =>
    have hl : len = 1 := by simpa [lenB] using hl
    subst hl
    exact M_ixor hd hs
  case aconst_null =>
    have hl : len = 1 := by simpa [lenB] using hl
    subst hl
    exact M_aconst_null hd hs
  case ifnonnull =>
    have hl : len = 3 := by simpa [lenB] using hl
    subst hl
    exact M_ifnonnull (of_decide_eq_true ht) hd hs
  case dup =>
    have hl : len = 1 := by simpa [lenB] using hl
    subst hl
    exact M_dup hd hs
  case dup2 =>
    have hl : len = 1 := by simpa [lenB] using hl
    subst hl
    exact M_dup2 hd hs
  case pop =>
    have hl : len = 1 := by simpa [lenB] using hl
    subst hl
    exact M_pop hd hs
  case iaload =>
    have hl : len = 1 := by simpa [lenB] using hl
    subst hl
    by_cases e : o = 6
    · have e2 : canon o pc .iaload = .caload := if_pos e
      rw [e2] at hs
      exact M_icald hd hs
    · have e2 : canon o pc .iaload = .iaload := if_neg e
      rw [e2] at hs
      exact M_iaload hd hs
  case laload =>
    have hl : len = 1 := by simpa [lenB] using hl
    subst hl
    exact M_laload hd hs
  case aaload =>
    have hl : len = 1 := by simpa [lenB] using hl
    subst hl
    exact M_aaload hd hs
  case iastore =>
    have hl : len = 1 := by simpa [lenB] using hl
    subst hl
    exact M_iastore hd hs
  case bastore =>
    have hl : len = 1 := by simpa [lenB] using hl
    subst hl
    exact M_bastore hd hs
  case lastore =>
    have hl : len = 1 := by simpa [lenB] using hl
    subst hl
    exact M_lastore hd hs
  case aastore =>
    have hl : len = 1 := by simpa [lenB] using hl
    subst hl
    exact M_aastore hd hs
  case ireturn =>
    have hl : len = 1 := by simpa [lenB] using hl
    subst hl
    exact M_ireturn hd hs
  case lreturn =>
    have hl : len = 1 := by simpa [lenB] using hl
    subst hl
    exact M_lreturn hd hs
  case areturn =>
    have hl : len = 1 := by simpa [lenB] using hl
    subst hl
    exact M_areturn hd hs
  case dreturn =>
    have hl : len = 1 := by simpa [lenB] using hl
    subst hl
    exact M_dreturn hd hs
  case freturn =>
    have hl : len = 1 := by simpa [lenB] using hl
    subst hl
    exact M_freturn hd hs
  case return_ =>
    have hl : len = 1 := by simpa [lenB] using hl
    subst hl
    exact M_return hd hs
  case iload_n =>
    have hl : len = 1 := by simpa [lenB] using hl
    subst hl
    exact M_iload_n hd hs
  case lload_n =>
    have hl : len = 1 := by simpa [lenB] using hl
    subst hl
    exact M_lload_n hd hs
  case aload_n =>
    have hl : len = 1 := by simpa [lenB] using hl
    subst hl
    exact M_aload_n hd hs
  case iload =>
    have hl : len = 2 := by simpa [lenB] using hl
    subst hl
    exact M_iload hd hs
  case lload =>
    have hl : len = 2 := by simpa [lenB] using hl
    subst hl
    exact M_lload hd hs
  case aload =>
    have hl : len = 2 := by simpa [lenB] using hl
    subst hl
    exact M_aload hd hs
  case istore_n =>
    have hl : len = 1 := by simpa [lenB] using hl
    subst hl
    exact M_istore_n (of_decide_eq_true hm) hd hs
  case astore_n =>
    have hl : len = 1 := by simpa [lenB] using hl
    subst hl
    exact M_astore_n (of_decide_eq_true hm) hd hs
  case lstore_n =>
    have hl : len = 1 := by simpa [lenB] using hl
    subst hl
    exact M_lstore_n (of_decide_eq_true hm) hd hs
  case istore =>
    have hl : len = 2 := by simpa [lenB] using hl
    subst hl
    exact M_istore (of_decide_eq_true hm) hd hs
  case astore =>
    have hl : len = 2 := by simpa [lenB] using hl
    subst hl
    exact M_astore (of_decide_eq_true hm) hd hs
  case lstore =>
    have hl : len = 2 := by simpa [lenB] using hl
    subst hl
    exact M_lstore (of_decide_eq_true hm) hd hs
  case iinc =>
    have hl : len = 3 := by simpa [lenB] using hl
    subst hl
    exact M_iinc (of_decide_eq_true hm) hd hs
  case bipush n =>
    have hl : len = 2 := by simpa [lenB] using hl
    subst hl
    by_cases e : (Int8.ofInt n).toInt32 = Int32.ofInt n
    · have e2 : canon o pc (.bipush n) = .iconst n := if_pos e
      rw [e2] at hs
      exact M_bipush e hd hs
    · have e2 : canon o pc (.bipush n) = .nop := if_neg e
      rw [e2] at hs
      exact False.elim hs
  case sipush n =>
    have hl : len = 3 := by simpa [lenB] using hl
    subst hl
    by_cases e : (Int16.ofInt n).toInt32 = Int32.ofInt n
    · have e2 : canon o pc (.sipush n) = .iconst n := if_pos e
      rw [e2] at hs
      exact M_sipush e hd hs
    · have e2 : canon o pc (.sipush n) = .nop := if_neg e
      rw [e2] at hs
      exact False.elim hs
  case ldc k =>
    have hl : len = 2 := by simpa [lenB] using hl
    subst hl
    cases e : kIT o k with
    | some n =>
      have e2 : canon o pc (.ldc k) = .iconst n := by simp only [canon, e]
      rw [e2] at hs
      exact M_ldcI e hd hs
    | none =>
      by_cases e3 : sIx o k < 19
      · have e2 : canon o pc (.ldc k) = .ldc (sIx o k) := by simp only [canon, e, if_pos e3]
        rw [e2] at hs
        exact M_ldcS e3 hd hs
      · have e2 : canon o pc (.ldc k) = .nop := by simp only [canon, e, if_neg e3]
        rw [e2] at hs
        exact False.elim hs
  case ldc_w k =>
    have hl : len = 3 := by simpa [lenB] using hl
    subst hl
    cases e : kIT o k with
    | some n =>
      have e2 : canon o pc (.ldc_w k) = .iconst n := by simp only [canon, e]
      rw [e2] at hs
      exact M_ldcw e hd hs
    | none =>
      by_cases e3 : sIx o k < 19
      · have e2 : canon o pc (.ldc_w k) = .ldc (sIx o k) := by simp only [canon, e, if_pos e3]
        rw [e2] at hs
        exact M_ldcSW e3 hd hs
      · have e2 : canon o pc (.ldc_w k) = .nop := by simp only [canon, e, if_neg e3]
        rw [e2] at hs
        exact False.elim hs
  case ldc2_w =>
    have hl : len = 3 := by simpa [lenB] using hl
    subst hl
    exact M_ldc2 hd hs
  case goto =>
    have hl : len = 3 := by simpa [lenB] using hl
    subst hl
    exact M_goto (of_decide_eq_true ht) hd hs
  case if_icmp =>
    have hl : len = 3 := by simpa [lenB] using hl
    subst hl
    exact M_icmp (of_decide_eq_true ht) hd hs
  case ifCond =>
    have hl : len = 3 := by simpa [lenB] using hl
    subst hl
    exact M_ifc (of_decide_eq_true ht) hd hs
  case tableswitch => exact M_tableswitch hd ht hs
  case lookupswitch => exact M_lookupswitch hd hl ht hs
  case new =>
    have hl : len = 3 := by simpa [lenB] using hl
    subst hl
    exact M_new hd hs
  case newarray =>
    have hl : len = 2 := by simpa [lenB] using hl
    subst hl
    exact M_newarray hd hs
  case anewarray =>
    have hl : len = 3 := by simpa [lenB] using hl
    subst hl
    exact M_anewarray hd hs
  case multianewarray =>
    have hl : len = 4 := by simpa [lenB] using hl
    subst hl
    exact M_multi hd hs
  case putfield =>
    have hl : len = 3 := by simpa [lenB] using hl
    subst hl
    exact M_putfield hd hs
  case invokevirtual k =>
    have hl : len = 3 := by simpa [lenB] using hl
    subst hl
    cases e : uT o k with
    | none =>
      have e2 : canon o pc (.invokevirtual k) = .invokevirtual k := by simp only [canon, e]
      rw [e2] at hs
      exact M_invokevirtual ho hd hs
    | some v =>
      have e2 : canon o pc (.invokevirtual k) = .instanceof k := by simp only [canon, e]
      rw [e2] at hs
      exact M_below hd hs
  case getfield k =>
    have hl : len = 3 := by simpa [lenB] using hl
    subst hl
    by_cases e : o = 8
    · by_cases e9 : k = 9
      · have e2 : canon o pc (.getfield k) = .jsr 0 := by simp only [canon, if_pos e, if_pos e9]
        rw [e2] at hs
        exact M_str (j := 0) e (Or.inl ⟨e9, rfl, rfl⟩) hd hs
      · by_cases e15 : k = 15
        · have e2 : canon o pc (.getfield k) = .jsr 1 := by simp only [canon, if_pos e, if_neg e9, if_pos e15]
          rw [e2] at hs
          exact M_str (j := 1) e (Or.inr ⟨e15, rfl, rfl⟩) hd hs
        · have e2 : canon o pc (.getfield k) = .nop := by simp only [canon, if_pos e, if_neg e9, if_neg e15]
          rw [e2] at hs
          exact False.elim hs
    · have e2 : canon o pc (.getfield k) = .getfield k := by simp only [canon, if_neg e]
      rw [e2] at hs
      exact M_getfield hd hs
  case getstatic k =>
    have hl : len = 3 := by simpa [lenB] using hl
    subst hl
    by_cases e : o = 8
    · by_cases e9 : k = 38
      · have e2 : canon o pc (.getstatic k) = .iconst 1 := by simp only [canon, if_pos e, if_pos e9]
        rw [e2] at hs
        subst e9
        exact M_getstatic1 e hd hs
      · by_cases e15 : k = 1053
        · have e2 : canon o pc (.getstatic k) = .getstatic k := by simp only [canon, if_pos e, if_neg e9, if_pos e15]
          rw [e2] at hs
          subst e15
          exact M_getstatic2 e hd hs
        · have e2 : canon o pc (.getstatic k) = .nop := by simp only [canon, if_pos e, if_neg e9, if_neg e15]
          rw [e2] at hs
          exact False.elim hs
    · by_cases e11 : o = 11 ∧ k = 18
      · have e2 : canon o pc (.getstatic k) = .iconst 1 := by simp only [canon, if_neg e, if_pos e11]
        rw [e2] at hs
        obtain ⟨e11, rfl⟩ := e11
        exact M_getstatic3 e11 hd hs
      · by_cases e7 : o = 7 ∧ k = 83
        · have e2 : canon o pc (.getstatic k) = .d2f := by simp only [canon, if_neg e, if_neg e11, if_pos e7]
          rw [e2] at hs
          obtain ⟨e7, rfl⟩ := e7
          exact M_getstatic4 e7 hd hs
        · have e2 : canon o pc (.getstatic k) = .nop := by simp only [canon, if_neg e, if_neg e11, if_neg e7]
          rw [e2] at hs
          exact False.elim hs
  case baload =>
    have hl : len = 1 := by simpa [lenB] using hl
    subst hl
    by_cases e : o = 7 ∨ o = 9 ∨ o = 11
    · have e2 : canon o pc .baload = .saload := if_pos e
      rw [e2] at hs
      exact M_strB hd hs
    · have e2 : canon o pc .baload = .baload := if_neg e
      rw [e2] at hs
      exact M_baload hd hs
  case arraylength =>
    have hl : len = 1 := by simpa [lenB] using hl
    subst hl
    by_cases e6 : o = 6
    · have e2 : canon o pc .arraylength = .d2i := if_pos e6
      rw [e2] at hs
      exact M_ilen hd hs
    · by_cases e : o = 8 ∨ o = 9 ∨ o = 11 ∨ o = 12
      · have e2 : canon o pc .arraylength = .faload := (if_neg e6).trans (if_pos e)
        rw [e2] at hs
        exact M_strL hd hs
      · have e2 : canon o pc .arraylength = .nop := (if_neg e6).trans (if_neg e)
        rw [e2] at hs
        exact False.elim hs
  case invokespecial k =>
    have hl : len = 3 := by simpa [lenB] using hl
    subst hl
    by_cases e : spT o k = 4
    · have e2 : canon o pc (.invokespecial k) = .monitorenter := if_pos e
      rw [e2] at hs hp
      exact M_objInit e (of_decide_eq_true hp) hd hs
    · cases es : sT o k with
      | none =>
        have e2 : canon o pc (.invokespecial k) = .invokespecial k := by simp only [canon, if_neg e, es]
        rw [e2] at hs
        exact M_invokespecial ho hd hs
      | some v =>
        have e2 : canon o pc (.invokespecial k) = .checkcast k := by simp only [canon, if_neg e, es]
        rw [e2] at hs
        exact M_super hd hs
  case invokestatic k =>
    have hl : len = 3 := by simpa [lenB] using hl
    subst hl
    match hk : spT o k with
    | 0 =>
      cases ew : wT o k with
      | none =>
        have e2 : canon o pc (.invokestatic k) = .invokestatic k := by simp only [canon, hk, ew]
        rw [e2] at hs
        exact M_invokestatic ho hd hs
      | some v =>
        have e2 : canon o pc (.invokestatic k) = .invokedynamic k := by simp only [canon, hk, ew]
        rw [e2] at hs
        exact M_wrap hd hs
    | 1 =>
      have e2 : canon o pc (.invokestatic k) = .frem := by simp only [canon, hk]
      rw [e2] at hs
      exact M_max hk hd hs
    | 2 =>
      have e2 : canon o pc (.invokestatic k) = .drem := by simp only [canon, hk]
      rw [e2] at hs
      exact M_min hk hd hs
    | 3 =>
      have e2 : canon o pc (.invokestatic k) = .monitorexit := by simp only [canon, hk]
      rw [e2] at hs hp
      exact M_copy hk (of_decide_eq_true hp) hd hs
    | 5 =>
      have e2 : canon o pc (.invokestatic k) = .castore := by simp only [canon, hk]
      rw [e2] at hs hp
      exact M_copyb hk (of_decide_eq_true hp) hd hs
    | 4 =>
      cases ew : wT o k with
      | none =>
        have e2 : canon o pc (.invokestatic k) = .invokestatic k := by simp only [canon, hk, ew]
        rw [e2] at hs
        exact M_invokestatic ho hd hs
      | some v =>
        have e2 : canon o pc (.invokestatic k) = .invokedynamic k := by simp only [canon, hk, ew]
        rw [e2] at hs
        exact M_wrap hd hs
    | n + 6 =>
      cases ew : wT o k with
      | none =>
        have e2 : canon o pc (.invokestatic k) = .invokestatic k := by simp only [canon, hk, ew]
        rw [e2] at hs
        exact M_invokestatic ho hd hs
      | some v =>
        have e2 : canon o pc (.invokestatic k) = .invokedynamic k := by simp only [canon, hk, ew]
        rw [e2] at hs
        exact M_wrap hd hs
  all_goals exact False.elim hs
theorem M_step {v : Instr × Nat × Bool} (ho : o < 15) (hc : chkI o q.2.1 q.2.2.1 q.2.2.2.2.2.2.1 pc v = true) (hs : stepE x q o post xp v.1 v.2.1 pc b L st h (MW x q o post xp)) : MW x q o post xp pc b L st h := by
  obtain ⟨j, len, cut⟩ := v
  dsimp only at hs
  have hgen : (match decode q.2.1 pc with
    | .ok (i0, len9) => decide (canon o pc i0 = j) && decide (len9 = len) && lenB i0 len9 && limB j q.2.2.1 && tgtB j && dpB j q.2.2.2.2.2.2.1
    | .error _ => false) = true → MW x q o post xp pc b L st h := by
    intro hg
    cases hd : decode q.2.1 pc with
    | error z => rw [hd] at hg; exact absurd hg Bool.false_ne_true
    | ok z =>
      obtain ⟨i0, len9⟩ := z
      rw [hd] at hg
      simp only [Bool.and_eq_true, decide_eq_true_eq] at hg
      obtain ⟨⟨⟨⟨⟨g1, g2⟩, g3⟩, g4⟩, g5⟩, g6⟩ := hg
      subst g1
      subst g2
      exact M_canon ho hd g3 g4 g5 g6 hs
  cases j
  case invokeinterface n t =>
    simp only [chkI, Bool.and_eq_true, decide_eq_true_eq] at hc
    obtain ⟨⟨⟨⟨⟨g1, g2⟩, g3⟩, g4⟩, g5⟩, g6⟩ := hc
    exact M_throw g1 g2 g3 g4 g6 g5 hs
  all_goals exact hgen hc
theorem asI_m {v : Value} {k k2 : Int32 → Prop} (hk : ∀ i, k i → k2 i) (h : asI v k) : asI v k2 := by
  cases v <;> first | exact hk _ h | exact False.elim h
theorem asJ_m {v : Value} {k k2 : Int64 → Prop} (hk : ∀ i, k i → k2 i) (h : asJ v k) : asJ v k2 := by
  cases v <;> first | exact hk _ h | exact False.elim h
theorem asR_m {v : Value} {k k2 : Nat → Prop} (hk : ∀ i, k i → k2 i) (h : asR v k) : asR v k2 := by
  cases v <;> first | exact hk _ h | exact False.elim h
theorem asD_m {v : Value} {k k2 : UInt64 → Prop} (hk : ∀ i, k i → k2 i) (h : asD v k) : asD v k2 := by
  cases v <;> first | exact hk _ h | exact False.elim h
theorem asF_m {v : Value} {k k2 : UInt32 → Prop} (hk : ∀ i, k i → k2 i) (h : asF v k) : asF v k2 := by
  cases v <;> first | exact hk _ h | exact False.elim h
theorem popI_m {st : List Value} {k k2 : Int32 → List Value → Prop} (hk : ∀ i r, k i r → k2 i r) (h : popI st k) : popI st k2 := by
  cases st with
  | nil => exact False.elim h
  | cons v r => cases v <;> first | exact hk _ _ h | exact False.elim h
theorem popJ_m {st : List Value} {k k2 : Int64 → List Value → Prop} (hk : ∀ i r, k i r → k2 i r) (h : popJ st k) : popJ st k2 := by
  cases st with
  | nil => exact False.elim h
  | cons v r => cases v <;> first | exact hk _ _ h | exact False.elim h
theorem popR_m {st : List Value} {k k2 : Nat → List Value → Prop} (hk : ∀ i r, k i r → k2 i r) (h : popR st k) : popR st k2 := by
  cases st with
  | nil => exact False.elim h
  | cons v r => cases v <;> first | exact hk _ _ h | exact False.elim h
theorem popD_m {st : List Value} {k k2 : UInt64 → List Value → Prop} (hk : ∀ i r, k i r → k2 i r) (h : popD st k) : popD st k2 := by
  cases st with
  | nil => exact False.elim h
  | cons v r => cases v <;> first | exact hk _ _ h | exact False.elim h
theorem popF_m {st : List Value} {k k2 : UInt32 → List Value → Prop} (hk : ∀ i r, k i r → k2 i r) (h : popF st k) : popF st k2 := by
  cases st with
  | nil => exact False.elim h
  | cons v r => cases v <;> first | exact hk _ _ h | exact False.elim h
theorem pop1_m {st : List Value} {k k2 : Value → List Value → Prop} (hk : ∀ i r, k i r → k2 i r) (h : pop1 st k) : pop1 st k2 := by
  cases st with
  | nil => exact False.elim h
  | cons v r => exact hk _ _ h
theorem popA_m : ∀ {n : Nat} {st acc : List Value} {k k2 : List Value → List Value → Prop}, (∀ as r, k as r → k2 as r) → popA n st acc k → popA n st acc k2
  | 0, _, _, _, _, hk, h => hk _ _ h
  | n + 1, [], _, _, _, _, h => False.elim h
  | n + 1, v :: st, acc, k, k2, hk, h => popA_m (n := n) (st := st) (acc := v :: acc) hk h
theorem swT_m {k k2 : Nat → Prop} (hk : ∀ t, k t → k2 t) : ∀ {l : List Int} {n : Int} {v : Int32}, swT l n v k → swT l n v k2
  | [], _, _, h => h
  | _ :: _, _, _, h => ⟨fun e => hk _ (h.1 e), swT_m hk h.2⟩
theorem swL_m {k k2 : Nat → Prop} (hk : ∀ t, k t → k2 t) : ∀ {l : List (Int × Int)} {d : Int} {v : Int32}, swL l d v k → swL l d v k2
  | [], _, _, h => hk _ h
  | (_, _) :: _, _, _, h => ⟨fun e => hk _ (h.1 e), fun e => swL_m hk (h.2 e)⟩
theorem callE_m {y : MS} {as r : List Value} {K K2 : Nat × Nat → List Value → MH → Prop} (hK : ∀ b st h, K b st h → K2 b st h) (hs : callE x q y as r h xp b K) : callE x q y as r h xp b K2 := by
  obtain ⟨a1, a2, a3, a4, a5, hs⟩ := hs
  refine ⟨a1, a2, a3, a4, a5, ?_⟩
  cases hr : y.2.2.2.1 with
  | none =>
    rw [hr] at hs
    obtain ⟨p1, xp1, hC, hx, hk⟩ := hs
    exact ⟨p1, xp1, hC, hx, fun h' g => hK _ _ _ (hk h' g)⟩
  | some t =>
    rw [hr] at hs
    cases t with
    | int => exact let ⟨p1, xp1, hC, hx, hk⟩ := hs; ⟨p1, xp1, hC, hx, fun r h' g => hK _ _ _ (hk r h' g)⟩
    | boolean => exact let ⟨p1, xp1, hC, hx, hk⟩ := hs; ⟨p1, xp1, hC, hx, fun r h' g => hK _ _ _ (hk r h' g)⟩
    | byte => exact let ⟨p1, xp1, hC, hx, hk⟩ := hs; ⟨p1, xp1, hC, hx, fun r h' g => hK _ _ _ (hk r h' g)⟩
    | char => exact let ⟨p1, xp1, hC, hx, hk⟩ := hs; ⟨p1, xp1, hC, hx, fun r h' g => hK _ _ _ (hk r h' g)⟩
    | long => exact let ⟨p1, xp1, hC, hx, hk⟩ := hs; ⟨p1, xp1, hC, hx, fun r h' g => hK _ _ _ (hk r h' g)⟩
    | object n => exact let ⟨p1, xp1, hC, hx, hk⟩ := hs; ⟨p1, xp1, hC, hx, fun r h' g => hK _ _ _ (hk r h' g)⟩
    | array n => exact let ⟨p1, xp1, hC, hx, hk⟩ := hs; ⟨p1, xp1, hC, hx, fun r h' g => hK _ _ _ (hk r h' g)⟩
    | _ => exact False.elim hs
theorem stepE_m {i : Instr} {len : Nat} {K K2 : KT} (hK : ∀ pc b L st h, K pc b L st h → K2 pc b L st h) (hs : stepE x q o post xp i len pc b L st h K) : stepE x q o post xp i len pc b L st h K2 := by
  cases i
  case iconst => exact hK _ _ _ _ _ hs
  case lconst => exact hK _ _ _ _ _ hs
  case ldc => exact hK _ _ _ _ _ hs
  case iload => exact asI_m (fun _ z => hK _ _ _ _ _ z) hs
  case lload => exact asJ_m (fun _ z => hK _ _ _ _ _ z) hs
  case aload => exact asR_m (fun _ z => hK _ _ _ _ _ z) hs
  case istore => exact popI_m (fun _ _ z => ⟨z.1, hK _ _ _ _ _ z.2⟩) hs
  case astore => exact popR_m (fun _ _ z => ⟨z.1, hK _ _ _ _ _ z.2⟩) hs
  case lstore => exact popJ_m (fun _ _ z => ⟨z.1, hK _ _ _ _ _ z.2⟩) hs
  case iinc => exact asI_m (fun _ z => ⟨z.1, hK _ _ _ _ _ z.2⟩) hs
  case ldc2_w => exact ⟨hs.1, hs.2.1, hK _ _ _ _ _ hs.2.2⟩
  case iadd => exact popI_m (fun _ _ z => popI_m (fun _ _ z => hK _ _ _ _ _ z) z) hs
  case isub => exact popI_m (fun _ _ z => popI_m (fun _ _ z => hK _ _ _ _ _ z) z) hs
  case imul => exact popI_m (fun _ _ z => popI_m (fun _ _ z => hK _ _ _ _ _ z) z) hs
  case iand => exact popI_m (fun _ _ z => popI_m (fun _ _ z => hK _ _ _ _ _ z) z) hs
  case ior => exact popI_m (fun _ _ z => popI_m (fun _ _ z => hK _ _ _ _ _ z) z) hs
  case ishl => exact popI_m (fun _ _ z => popI_m (fun _ _ z => hK _ _ _ _ _ z) z) hs
  case ishr => exact popI_m (fun _ _ z => popI_m (fun _ _ z => hK _ _ _ _ _ z) z) hs
  case iushr => exact popI_m (fun _ _ z => popI_m (fun _ _ z => hK _ _ _ _ _ z) z) hs
  case idiv => exact popI_m (fun _ _ z => popI_m (fun _ _ z => ⟨z.1, hK _ _ _ _ _ z.2⟩) z) hs
  case irem => exact popI_m (fun _ _ z => popI_m (fun _ _ z => ⟨z.1, hK _ _ _ _ _ z.2⟩) z) hs
  case ladd => exact popJ_m (fun _ _ z => popJ_m (fun _ _ z => hK _ _ _ _ _ z) z) hs
  case lmul => exact popJ_m (fun _ _ z => popJ_m (fun _ _ z => hK _ _ _ _ _ z) z) hs
  case lcmp => exact popJ_m (fun _ _ z => popJ_m (fun _ _ z => hK _ _ _ _ _ z) z) hs
  case lshl => exact popI_m (fun _ _ z => popJ_m (fun _ _ z => hK _ _ _ _ _ z) z) hs
  case lushr => exact popI_m (fun _ _ z => popJ_m (fun _ _ z => hK _ _ _ _ _ z) z) hs
  case i2l => exact popI_m (fun _ _ z => hK _ _ _ _ _ z) hs
  case i2b => exact popI_m (fun _ _ z => hK _ _ _ _ _ z) hs
  case i2c => exact popI_m (fun _ _ z => hK _ _ _ _ _ z) hs
  case i2d => exact popI_m (fun _ _ z => hK _ _ _ _ _ z) hs
  case i2f => exact popI_m (fun _ _ z => hK _ _ _ _ _ z) hs
  case l2i => exact popJ_m (fun _ _ z => hK _ _ _ _ _ z) hs
  case dconst => exact ⟨hs.1, hK _ _ _ _ _ hs.2⟩
  case fconst => exact ⟨hs.1, hK _ _ _ _ _ hs.2⟩
  case ddiv => exact popD_m (fun _ _ z => popD_m (fun _ _ z => ⟨z.1, hK _ _ _ _ _ z.2⟩) z) hs
  case fdiv => exact popF_m (fun _ _ z => popF_m (fun _ _ z => ⟨z.1, hK _ _ _ _ _ z.2⟩) z) hs
  case dup => exact pop1_m (fun _ _ z => ⟨z.1, hK _ _ _ _ _ z.2⟩) hs
  case pop => exact pop1_m (fun _ _ z => ⟨z.1, hK _ _ _ _ _ z.2⟩) hs
  case dup2 => exact pop1_m (fun _ _ z => pop1_m (fun _ _ z => ⟨z.1, z.2.1, hK _ _ _ _ _ z.2.2⟩) z) hs
  case goto => exact hK _ _ _ _ _ hs
  case if_icmp => exact popI_m (fun _ _ z => popI_m (fun _ _ z => ⟨fun e => hK _ _ _ _ _ (z.1 e), fun e => hK _ _ _ _ _ (z.2 e)⟩) z) hs
  case ifCond => exact popI_m (fun _ _ z => ⟨fun e => hK _ _ _ _ _ (z.1 e), fun e => hK _ _ _ _ _ (z.2 e)⟩) hs
  case tableswitch => exact popI_m (fun _ _ z => ⟨fun e => hK _ _ _ _ _ (z.1 e), swT_m (fun _ z => hK _ _ _ _ _ z) z.2⟩) hs
  case lookupswitch => exact popI_m (fun _ _ z => swL_m (fun _ z => hK _ _ _ _ _ z) z) hs
  case iaload => exact popI_m (fun _ _ z => popR_m (fun _ _ z => ⟨z.1, z.2.1, hK _ _ _ _ _ z.2.2⟩) z) hs
  case baload => exact popI_m (fun _ _ z => popR_m (fun _ _ z => ⟨z.1, z.2.1, hK _ _ _ _ _ z.2.2⟩) z) hs
  case laload => exact popI_m (fun _ _ z => popR_m (fun _ _ z => ⟨z.1, z.2.1, hK _ _ _ _ _ z.2.2⟩) z) hs
  case aaload => exact popI_m (fun _ _ z => popR_m (fun _ _ z => ⟨z.1, z.2.1, z.2.2.1, hK _ _ _ _ _ z.2.2.2⟩) z) hs
  case iastore => exact popI_m (fun _ _ z => popI_m (fun _ _ z => popR_m (fun _ _ z => ⟨z.1, z.2.1, hK _ _ _ _ _ z.2.2⟩) z) z) hs
  case bastore => exact popI_m (fun _ _ z => popI_m (fun _ _ z => popR_m (fun _ _ z => ⟨z.1, z.2.1, hK _ _ _ _ _ z.2.2⟩) z) z) hs
  case lastore => exact popJ_m (fun _ _ z => popI_m (fun _ _ z => popR_m (fun _ _ z => ⟨z.1, z.2.1, hK _ _ _ _ _ z.2.2⟩) z) z) hs
  case aastore => exact popR_m (fun _ _ z => popI_m (fun _ _ z => popR_m (fun _ _ z => ⟨z.1, z.2.1, z.2.2.1, hK _ _ _ _ _ z.2.2.2⟩) z) z) hs
  case saload => exact popI_m (fun _ _ z => popR_m (fun _ _ z => let ⟨n, f, a1, a2, a3, a4⟩ := z; ⟨n, f, a1, a2, a3, hK _ _ _ _ _ a4⟩) z) hs
  case caload => exact popI_m (fun _ _ z => popR_m (fun _ _ z => let ⟨n, f, a1, a2, a3⟩ := z; ⟨n, f, a1, a2, hK _ _ _ _ _ a3⟩) z) hs
  case d2f => exact hK _ _ _ _ _ hs
  case aconst_null => exact hK _ _ _ _ _ hs
  case ineg => exact popI_m (fun _ _ z => hK _ _ _ _ _ z) hs
  case ixor => exact popI_m (fun _ _ z => popI_m (fun _ _ z => hK _ _ _ _ _ z) z) hs
  case dup_x1 => exact pop1_m (fun _ _ z => pop1_m (fun _ _ z => ⟨z.1, z.2.1, hK _ _ _ _ _ z.2.2⟩) z) hs
  case ifnonnull => exact popR_m (fun _ _ z => hK _ _ _ _ _ z) hs
  case castore => exact popI_m (fun _ _ z => popI_m (fun _ _ z => popR_m (fun _ _ z => popI_m (fun _ _ z => popR_m (fun _ _ z => let ⟨m, f, a1, a2, a3, a4, a5, a6, a7, a8, a9, a10⟩ := z; ⟨m, f, a1, a2, a3, a4, a5, a6, a7, a8, a9, hK _ _ _ _ _ a10⟩) z) z) z) z) hs
  case faload => exact popR_m (fun _ _ z => let ⟨n, f, a1, a2⟩ := z; ⟨n, f, a1, hK _ _ _ _ _ a2⟩) hs
  case d2i => exact popR_m (fun _ _ z => let ⟨n, f, a1, a2⟩ := z; ⟨n, f, a1, hK _ _ _ _ _ a2⟩) hs
  case jsr => exact popR_m (fun _ _ z => let ⟨n, a1, a2⟩ := z; ⟨n, a1, hK _ _ _ _ _ a2⟩) hs
  case getstatic => exact fun v e => hK _ _ _ _ _ (hs v e)
  case getfield k =>
    cases hf : fT o k with
    | none => simp only [stepE, hf] at hs
    | some v =>
      obtain ⟨c, j⟩ := v
      simp only [stepE, hf] at hs ⊢
      refine popR_m (fun _ _ z => ⟨z.1, ?_⟩) hs
      have z2 := z.2
      cases hr : eRef c j with
      | true => rw [hr] at z2; exact ⟨z2.1, hK _ _ _ _ _ z2.2⟩
      | false => rw [hr] at z2; exact hK _ _ _ _ _ z2
  case putfield k =>
    cases hf : fT o k with
    | none => simp only [stepE, hf] at hs
    | some v =>
      obtain ⟨c, j⟩ := v
      simp only [stepE, hf] at hs ⊢
      refine pop1_m (fun _ _ z => popR_m (fun _ _ z => ⟨z.1, z.2.1, ?_⟩) z) hs
      have z2 := z.2.2
      cases hr : eRef c j with
      | true => rw [hr] at z2; exact asR_m (fun _ z => ⟨z.1, hK _ _ _ _ _ z.2⟩) z2
      | false => rw [hr] at z2; exact asI_m (fun _ z => ⟨z.1, z.2.1, hK _ _ _ _ _ z.2.2⟩) z2
  case frem => exact popI_m (fun _ _ z => popI_m (fun _ _ z => ⟨z.1, hK _ _ _ _ _ z.2⟩) z) hs
  case drem => exact popI_m (fun _ _ z => popI_m (fun _ _ z => ⟨z.1, hK _ _ _ _ _ z.2⟩) z) hs
  case monitorexit => exact popI_m (fun _ _ z => popI_m (fun _ _ z => popR_m (fun _ _ z => popI_m (fun _ _ z => popR_m (fun _ _ z => let ⟨a1, a2, a3, a4, a5, a6, a7, a8, a9, a10⟩ := z; ⟨a1, a2, a3, a4, a5, a6, a7, a8, a9, hK _ _ _ _ _ a10⟩) z) z) z) z) hs
  case monitorenter => exact popR_m (fun _ _ z => ⟨z.1, hK _ _ _ _ _ z.2⟩) hs
  case invokevirtual k =>
    cases hf : mT o k with
    | none => simp only [stepE, hf] at hs
    | some y =>
      simp only [stepE, hf] at hs ⊢
      refine popA_m (fun as r z => ?_) hs
      match as, z with
      | .ref a :: As, z => exact ⟨z.1, z.2.1, callE_m (fun _ _ _ z => hK _ _ _ _ _ z) z.2.2⟩
  case invokespecial k =>
    cases hf : mT o k with
    | none => simp only [stepE, hf] at hs
    | some y =>
      simp only [stepE, hf] at hs ⊢
      refine popA_m (fun as r z => ?_) hs
      match as, z with
      | .ref a :: As, z => exact ⟨z.1, z.2.1, z.2.2.1, callE_m (fun _ _ _ z => hK _ _ _ _ _ z) z.2.2.2⟩
  case invokestatic k =>
    cases hf : mT o k with
    | none => simp only [stepE, hf] at hs
    | some y =>
      simp only [stepE, hf] at hs ⊢
      exact popA_m (fun as r z => ⟨z.1, callE_m (fun _ _ _ z => hK _ _ _ _ _ z) z.2⟩) hs
  case new k =>
    cases hf : cT o k with
    | none => simp only [stepE, hf] at hs
    | some c =>
      simp only [stepE, hf] at hs ⊢
      exact ⟨hs.1, hs.2.1, hK _ _ _ _ _ hs.2.2⟩
  case invokedynamic k =>
    cases hf : wT o k with
    | none => simp only [stepE, hf] at hs
    | some v =>
      obtain ⟨y, hh⟩ := v
      simp only [stepE, hf] at hs ⊢
      exact popA_m (fun as r z => let ⟨a1, a2, a3, a4, a5, p, a6, a7⟩ := z; ⟨a1, a2, a3, a4, a5, p, a6, fun r' h' g => hK _ _ _ _ _ (a7 r' h' g)⟩) hs
  case instanceof k =>
    cases hf : uT o k with
    | none => simp only [stepE, hf] at hs
    | some v =>
      obtain ⟨y, xn, ow⟩ := v
      simp only [stepE, hf] at hs ⊢
      refine popA_m (fun as r z => ?_) hs
      match as, z with
      | .ref a :: As, z => exact ⟨z.1, callE_m (fun _ _ _ z => hK _ _ _ _ _ z) z.2⟩
  case checkcast k =>
    cases hf : sT o k with
    | none => simp only [stepE, hf] at hs
    | some y =>
      simp only [stepE, hf] at hs ⊢
      refine popA_m (fun as r z => ?_) hs
      match as, z with
      | .ref a :: As, z => exact ⟨z.1, callE_m (fun _ _ _ z => hK _ _ _ _ _ z) z.2⟩
  case newarray => exact popI_m (fun _ _ z => let ⟨a1, a2, a3, a4, a5, a6⟩ := z; ⟨a1, a2, a3, a4, a5, hK _ _ _ _ _ a6⟩) hs
  case anewarray => exact popI_m (fun _ _ z => let ⟨a1, a2, a3, a4, a5, a6, a7⟩ := z; ⟨a1, a2, a3, a4, a5, a6, hK _ _ _ _ _ a7⟩) hs
  case multianewarray => exact popI_m (fun _ _ z => popI_m (fun _ _ z => let ⟨a1, a2, a3, a4, a5, a6, a7, a8, a9, a10⟩ := z; ⟨a1, a2, a3, a4, a5, a6, a7, a8, a9, hK _ _ _ _ _ a10⟩) z) hs
  case invokeinterface => exact hs
  case ireturn => exact hs
  case lreturn => exact hs
  case areturn => exact hs
  case dreturn => exact hs
  case freturn => exact hs
  case return_ => exact hs
  all_goals exact False.elim hs
/-- a method's table, by its list -/
def tabE (l : TL) : Nat → Option (Instr × Nat × Bool) := fun k => tfind l k
theorem E_sound {l : TL} (ht : okT o q l) : ∀ (n pc : Nat) (b : Nat × Nat) (L st : List Value) (h : MH), evE x q o (tabE l) post xp n pc b L st h → MW x q o post xp pc b L st h
  | 0, _, _, _, _, _, hs => hs
  | n + 1, pc, b, L, st, h, hs => by
    unfold evE at hs
    cases hf : tabE l pc with
    | none => rw [hf] at hs; exact False.elim hs
    | some v =>
      obtain ⟨i, len, cut⟩ := v
      rw [hf] at hs
      cases cut with
      | true => exact hs
      | false => exact M_step (v := (i, len, false)) ht.1 (ht.2 _ (tfind_mem hf)) (stepE_m (fun pc b L st h z => E_sound ht n pc b L st h z) hs)
/-- THE ENGINE: from pc on, cut or not -/
theorem MW_ev {l : TL} (ht : okT o q l) (n : Nat) (hs : evS x q o (tabE l) post xp n pc b L st h) : MW x q o post xp pc b L st h := by
  unfold evS at hs
  cases hf : tabE l pc with
  | none => rw [hf] at hs; exact False.elim hs
  | some v =>
    obtain ⟨i, len, cut⟩ := v
    rw [hf] at hs
    exact M_step (v := (i, len, cut)) ht.1 (ht.2 _ (tfind_mem hf)) (stepE_m (fun pc b L st h z => E_sound ht n pc b L st h z) hs)
/-- locals forgotten -/
theorem MW_wk {L' : List Value} (hlen : L'.length = L.length) (hn : ∀ k, nthV L' k = .null ∨ nthV L' k = nthV L k) (hs : MW x q o post xp pc b L' st h) : MW x q o post xp pc b L st h := by
  intro p e s m args below meth c0 H locs cells slots ls hB hR hS hL h1 h2
  refine hs p e s m args below meth c0 H locs cells slots ls hB hR hS ⟨⟨hL.1.1, hL.1.2.1, fun z hz => ?_⟩, hlen.trans hL.2⟩ h1 h2
  obtain ⟨j, u⟩ := z
  obtain ⟨-, g1, g2⟩ := lvF_mem.mp hz
  rw [Nat.sub_zero] at g1
  rcases hn j with g | g
  · exact absurd (g1.symm.trans g) g2
  · exact hL.at (g.symm.trans g1) g2
/-- the budget may be made smaller -/
theorem MW_le {b' : Nat × Nat} (hb1 : b'.1 ≤ b.1) (hb2 : b'.2 ≤ b.2) (hs : MW x q o post xp pc b' L st h) : MW x q o post xp pc b L st h := by
  intro p e s m args below meth c0 H locs cells slots ls hB hR hS hL h1 h2
  exact hs p e s m args below meth c0 H locs cells slots ls hB hR hS hL (by omega) (by omega)
/-- the locals at a method's entry -/
def locE (as : List Value) (n : Nat) : List Value :=
  let l := as.flatMap fun v => if v.category = 2 then [v, .null] else [v]
  l ++ List.replicate (n - l.length) .null
theorem lvF_app : ∀ (a b : List Value) (k : Nat), lvF (a ++ b) k = lvF a k ++ lvF b (k + a.length)
  | [], b, k => rfl
  | v :: a, b, k => by
    show (if v = .null then _ else _) = (if v = .null then _ else _) ++ _
    have e := lvF_app a b (k + 1)
    have e2 : k + 1 + a.length = k + (v :: a).length := by simp; omega
    rw [e2] at e
    by_cases hv : v = .null
    · rw [if_pos hv, if_pos hv]; exact e
    · rw [if_neg hv, if_neg hv]; exact congrArg _ e
theorem lvF_nulls : ∀ (n k : Nat), lvF (List.replicate n .null) k = []
  | 0, _ => rfl
  | n + 1, k => by
    show (if Value.null = .null then _ else _) = _
    rw [if_pos rfl]
    exact lvF_nulls n (k + 1)
theorem lvF_args : ∀ (as : List Value) (k : Nat), ∀ z ∈ lvF (as.flatMap fun v => if v.category = 2 then [v, .null] else [v]) k, z ∈ lv_args k as
  | [], _, z, hz => absurd hz List.not_mem_nil
  | v :: as, k, z, hz => by
    rw [List.flatMap_cons, lvF_app] at hz
    unfold lv_args
    by_cases hc : v.category = 2
    · rw [if_pos hc] at hz
      have hv : v ≠ .null := by rintro rfl; cases hc
      have e : lvF [v, .null] k = [(k, v)] := by simp [lvF, hv]
      rw [e] at hz
      rcases List.mem_append.mp hz with g | g
      · rw [List.mem_singleton] at g
        rw [g]
        exact List.mem_cons_self
      · have := lvF_args as (k + 2) z g
        simp only [hc, if_true]
        exact List.mem_cons_of_mem _ this
    · rw [if_neg hc] at hz
      have hc1 : v.category = 1 := (lv_cat v).resolve_right hc
      rcases List.mem_append.mp hz with g | g
      · by_cases hv : v = .null
        · rw [hv] at g
          exact absurd g (by simp [lvF])
        · have e : lvF [v] k = [(k, v)] := by simp [lvF, hv]
          rw [e, List.mem_singleton] at g
          rw [g]
          exact List.mem_cons_self
      · have := lvF_args as (k + 1) z g
        simp only [hc, if_false]
        exact List.mem_cons_of_mem _ this
theorem lg_len (as : List Value) : (lg_sl as).length = (as.flatMap fun v => if v.category = 2 then [v, Value.null] else [v]).length := by
  induction as with
  | nil => rfl
  | cons v r ih =>
    have e1 : lg_sl (v :: r) = (if v.category = 2 then [.val v, .second] else [.val v]) ++ lg_sl r := rfl
    rw [e1, List.flatMap_cons, List.length_append, List.length_append, ih]
    by_cases hc : v.category = 2
    · rw [if_pos hc, if_pos hc]; rfl
    · rw [if_neg hc, if_neg hc]; rfl
/-- a body's contract, of a method that no native takes the place of -/
theorem x_ofW {l : Launch} {y : MethodName} {ws ws' : List Cond} {rm : Room} {Pc : Array Value → State → Prop} {Qc : Array Value → State → Outcome → State → Prop} {XC : String → State → State → Prop} {mc ms : Nat} {free : Addr → Prop} {cc : ByteArray} {maxL : Nat} {ret : Option FieldType}
    (hy : plainFor y = true) (hw : ws = Cond.code y cc maxL ret :: ws')
    (body : ∀ p e s m args below meth c s₁, BodyLoose p l y (headSpec ws rm) cc maxL ret e s m args below meth c s₁ → c.maxLocals = maxL → (∀ x ∈ c.exceptionTable.toList, False) → Pc args s →
      W p l e (headSpec ws rm).room s m args below meth c s.heap [] 0 0 (vx_MQ below Qc XC args s mc ms free) (entryFrame m args maxL)) : vx_Met l y ws rm Pc Qc XC mc ms free := by
  refine MetFree.of_bodySF (code := cc) (maxLocals := maxL) (ret := ret) hy ?_ ?_
  · intro args s m h hn
    obtain ⟨meth, c, h1, h2, h3, h4, h5, h6, -, -⟩ := Cond.code_spec hn (atoms_spec (ws := ws) h _ (by rw [hw]; exact List.mem_cons_self))
    exact ⟨meth, c, h1, h2, h3, h4, h5, h6⟩
  · intro p e s m args below meth c s₁ B hml hP _
    have hh0 : s₁.heap = s.heap := by rw [B.state]; rfl
    have ht : ∀ x ∈ c.exceptionTable.toList, False := by
      obtain ⟨meth9, c9, h1, h2, -, -, -, -, h7, -⟩ := Cond.code_spec B.named (atoms_spec (ws := ws) B.pre _ (by rw [hw]; exact List.mem_cons_self))
      cases Option.some.inj (h1.symm.trans B.method)
      cases Option.some.inj (h2.symm.trans (Stand.of_body B).code)
      intro x hx
      rw [Array.isEmpty_iff.mp h7] at hx
      cases hx
    obtain ⟨t, a1, o, b1, b2, b3⟩ := body p e s m args below meth c s₁ B hml ht hP s₁ hh0 (Stand.of_body B)
    exact ⟨t, o, a1, b1, b2, b3⟩
theorem CT_of {as : List Value} (ho : oR o = q.1.cls) (hp : plainFor q.1 = true) (hn : (as.flatMap fun v => if v.category = 2 then [v, Value.null] else [v]).length ≤ q.2.2.1)
    (hs : MW x q o post xp 0 (q.2.2.2.2.2.2.2.1, q.2.2.2.2.2.2.2.2) (locE as q.2.2.1) [] h) : CT x q as h post xp := by
  refine x_ofW (cc := q.2.1) (maxL := q.2.2.1) (ret := q.2.2.2.1) hp rfl fun p e s m args below meth c s₁ B hml hxt hv => ?_
  obtain ⟨rfl, hR, hG⟩ := hv
  have hts := atoms_spec (ws := wsE q) B.pre
  have hlen := lg_len as
  have hl := lv_entry as (n := q.2.2.1) (by rw [hlen]; exact hn)
  rw [lg_entry_eq]
  refine hs p e s m as.toArray below meth c s.heap [] 0 0 _ ⟨B.exec, B.bytes, hml, B.returns, fun w hw => hts w (List.mem_cons_of_mem _ hw), by rw [ho]; exact findClass_of_methodNamed B.named, B.notSynchronized, (name_of_methodNamed B.named B.method).1, hxt, hG⟩ hR va_S.rf ⟨⟨hl.1, hl.2.1, fun z hz => ?_⟩, ?_⟩ (by simp) (by simp)
  · unfold locE at hz
    rw [lvF_app] at hz
    rcases List.mem_append.mp hz with g | g
    · exact hl.2.2 z (lvF_args as 0 z g)
    · rw [lvF_nulls] at g
      exact absurd g List.not_mem_nil
  · unfold locE
    simp only [List.length_append, List.length_replicate]
    omega
end ASM
