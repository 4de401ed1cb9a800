section SND
variable {x : CX} {q : MS} {o : Nat} {post : Option Value → MH → Prop} {xp : String → MH → Prop} {pc : Nat} {b : Nat × Nat} {L st : List Value} {h : MH}
theorem asI_e {v : Value} {k : Int32 → Prop} (h : asI v k) : ∃ i, v = .int i ∧ k i := by
  cases v <;> first | exact ⟨_, rfl, h⟩ | exact absurd h id
theorem asJ_e {v : Value} {k : Int64 → Prop} (h : asJ v k) : ∃ i, v = .long i ∧ k i := by
  cases v <;> first | exact ⟨_, rfl, h⟩ | exact absurd h id
theorem asR_e {v : Value} {k : Nat → Prop} (h : asR v k) : ∃ i, v = .ref i ∧ k i := by
  cases v <;> first | exact ⟨_, rfl, h⟩ | exact absurd h id
theorem popI_e {st : List Value} {k : Int32 → List Value → Prop} (h : popI st k) : ∃ i r, st = .int i :: r ∧ k i r := by
  cases st with
  | nil => exact absurd h id
  | cons v r => cases v <;> first | exact ⟨_, _, rfl, h⟩ | exact absurd h id
theorem popJ_e {st : List Value} {k : Int64 → List Value → Prop} (h : popJ st k) : ∃ i r, st = .long i :: r ∧ k i r := by
  cases st with
  | nil => exact absurd h id
  | cons v r => cases v <;> first | exact ⟨_, _, rfl, h⟩ | exact absurd h id
theorem popR_e {st : List Value} {k : Nat → List Value → Prop} (h : popR st k) : ∃ i r, st = .ref i :: r ∧ k i r := by
  cases st with
  | nil => exact absurd h id
  | cons v r => cases v <;> first | exact ⟨_, _, rfl, h⟩ | exact absurd h id
theorem pop1_e {st : List Value} {k : Value → List Value → Prop} (h : pop1 st k) : ∃ v r, st = v :: r ∧ k v r := by
  cases st with
  | nil => exact absurd h id
  | cons v r => exact ⟨_, _, rfl, h⟩
theorem catS_eq (st : List Value) : catS st = (st.map fun v => v.category).sum := by
  induction st with
  | nil => rfl
  | cons v r ih => simp [catS, ih]
theorem lvF_mem {L : List Value} : ∀ {k j : Nat} {v : Value}, (j, v) ∈ lvF L k ↔ k ≤ j ∧ nthV L (j - k) = v ∧ v ≠ .null := by
  induction L with
  | nil =>
    intro k j v
    simp only [lvF, nthV, List.not_mem_nil, false_iff]
    rintro ⟨-, h1, h2⟩
    exact h2 h1.symm
  | cons w t ih =>
    intro k j v
    by_cases hw : w = .null
    · rw [lvF, if_pos hw, ih]
      constructor
      · rintro ⟨h1, h2, h3⟩
        refine ⟨by omega, ?_, h3⟩
        rw [show j - k = (j - (k + 1)) + 1 by omega]
        exact h2
      · rintro ⟨h1, h2, h3⟩
        rcases Nat.eq_or_lt_of_le h1 with e | e
        · rw [← e, Nat.sub_self] at h2
          exact absurd (h2.symm.trans hw) h3
        · refine ⟨e, ?_, h3⟩
          rw [show j - k = (j - (k + 1)) + 1 by omega] at h2
          exact h2
    · rw [lvF, if_neg hw, List.mem_cons, ih]
      constructor
      · rintro (e | ⟨h1, h2, h3⟩)
        · cases e
          exact ⟨Nat.le_refl _, by rw [Nat.sub_self]; rfl, hw⟩
        · refine ⟨by omega, ?_, h3⟩
          rw [show j - k = (j - (k + 1)) + 1 by omega]
          exact h2
      · rintro ⟨h1, h2, h3⟩
        rcases Nat.eq_or_lt_of_le h1 with e | e
        · subst e
          rw [Nat.sub_self] at h2
          left
          rw [← h2]
          rfl
        · right
          refine ⟨e, ?_, h3⟩
          rw [show j - k = (j - (k + 1)) + 1 by omega] at h2
          exact h2
theorem LR.at {ls : Array Slot} {n : Nat} {L : List Value} (h : LR ls n L) {k : Nat} {v : Value} (hv : nthV L k = v) (hn : v ≠ .null) : ls[k]? = some (.val v) :=
  h.1.2.2 (k, v) (lvF_mem.mpr ⟨Nat.zero_le _, hv, hn⟩)
theorem setV_len : ∀ (L : List Value) (k : Nat) (v : Value), (setV L k v).length = L.length
  | [], _, _ => rfl
  | _ :: _, 0, _ => rfl
  | _ :: t, k + 1, v => by simp [setV, setV_len t k v]
theorem nth_set : ∀ (L : List Value) (k j : Nat) (v : Value), nthV (setV L k v) j = if j = k ∧ k < L.length then v else nthV L j
  | [], k, j, v => by simp [setV, nthV]
  | w :: t, 0, 0, v => by simp [setV, nthV]
  | w :: t, 0, j + 1, v => by simp [setV, nthV]
  | w :: t, k + 1, 0, v => by simp [setV, nthV]
  | w :: t, k + 1, j + 1, v => by
    simp only [setV, nthV, nth_set t k j v, List.length_cons, Nat.add_lt_add_iff_right, Nat.add_right_cancel_iff]
theorem nth_out : ∀ (L : List Value) (j : Nat), L.length ≤ j → nthV L j = .null
  | [], _, _ => rfl
  | _ :: _, 0, h => by simp at h
  | _ :: t, j + 1, h => nth_out t j (by simpa using h)
theorem LR.set {ls ls' : Array Slot} {n : Nat} {L : List Value} {k : Nat} {v : Value} (h : LR ls n L) (hk : okSt L k) (hs : lv_has ls' n ((k, v) :: (lvF L 0).filter (fun q => !(q.1 == k) && !(q.1 + 1 == k && q.2.category == 2)))) : LR ls' n (setV L k v) := by
  refine ⟨⟨hs.1, hs.2.1, fun q hq => ?_⟩, by rw [setV_len]; exact h.2⟩
  obtain ⟨j, u⟩ := q
  obtain ⟨-, h2, h3⟩ := lvF_mem.mp hq
  rw [Nat.sub_zero, nth_set] at h2
  by_cases e : j = k ∧ k < L.length
  · rw [if_pos e] at h2
    rw [← h2]
    exact hs.2.2 (j, v) (by rw [e.1]; exact List.mem_cons_self)
  · rw [if_neg e] at h2
    have hm : (j, u) ∈ lvF L 0 := lvF_mem.mpr ⟨Nat.zero_le _, by rw [Nat.sub_zero]; exact h2, h3⟩
    have hjl : j < L.length := by
      rcases Nat.lt_or_ge j L.length with q | q
      · exact q
      · exact absurd (h2.symm.trans (nth_out L j q)) h3
    have hjk : j ≠ k := fun z => e ⟨z, by rw [← z]; exact hjl⟩
    refine hs.2.2 (j, u) (List.mem_cons_of_mem _ (List.mem_filter.mpr ⟨hm, ?_⟩))
    have h5 : ¬ (j + 1 = k ∧ u.category = 2) := by
      rintro ⟨z, hc⟩
      subst z
      have h6 : (nthV L j).category = 1 := hk
      rw [h2, hc] at h6
      cases h6
    simp only [Bool.and_eq_true, Bool.not_eq_true', beq_eq_false_iff_ne, ne_eq, Bool.and_eq_false_iff]
    refine ⟨hjk, ?_⟩
    by_cases z : j + 1 = k
    · right
      exact fun hc => h5 ⟨z, hc⟩
    · left
      exact z
theorem LR.set2 {ls ls' : Array Slot} {n : Nat} {L : List Value} {k : Nat} {v : Value} (h : LR ls n L) (hk : okSt L k) (hs : lv_has ls' n ((k, v) :: (lvF L 0).filter (fun q => !(q.1 == k) && (!(q.1 == k + 1) && !(q.1 + 1 == k && q.2.category == 2))))) : LR ls' n (setV (setV L k v) (k + 1) .null) := by
  have h0 : LR ls' n (setV (setV L k v) (k + 1) .null) ↔ ls'.size = n ∧ lv_wf ls' ∧ ∀ j u, nthV (setV (setV L k v) (k + 1) .null) j = u → u ≠ .null → ls'[j]? = some (.val u) := by
    constructor
    · intro g
      exact ⟨g.1.1, g.1.2.1, fun j u g1 g2 => g.at g1 g2⟩
    · rintro ⟨g1, g2, g3⟩
      refine ⟨⟨g1, g2, fun z hz => ?_⟩, by rw [setV_len, setV_len]; exact h.2⟩
      obtain ⟨j, u⟩ := z
      obtain ⟨-, h2, h3⟩ := lvF_mem.mp hz
      exact g3 j u h2 h3
  rw [h0]
  refine ⟨hs.1, hs.2.1, fun j u h2 h3 => ?_⟩
  rw [nth_set, setV_len] at h2
  by_cases e1 : j = k + 1 ∧ k + 1 < L.length
  · rw [if_pos e1] at h2
    exact absurd h2.symm h3
  · rw [if_neg e1, nth_set] at h2
    by_cases e : j = k ∧ k < L.length
    · rw [if_pos e] at h2
      rw [← h2]
      exact hs.2.2 (j, v) (by rw [e.1]; exact List.mem_cons_self)
    · rw [if_neg e] at h2
      have hm : (j, u) ∈ lvF L 0 := lvF_mem.mpr ⟨Nat.zero_le _, by rw [Nat.sub_zero]; exact h2, h3⟩
      have hjl : j < L.length := by
        rcases Nat.lt_or_ge j L.length with q | q
        · exact q
        · exact absurd (h2.symm.trans (nth_out L j q)) h3
      have hjk : j ≠ k := fun z => e ⟨z, by rw [← z]; exact hjl⟩
      have hjk1 : j ≠ k + 1 := fun z => e1 ⟨z, by rw [← z]; exact hjl⟩
      refine hs.2.2 (j, u) (List.mem_cons_of_mem _ (List.mem_filter.mpr ⟨hm, ?_⟩))
      have h5 : ¬ (j + 1 = k ∧ u.category = 2) := by
        rintro ⟨z, hc⟩
        subst z
        have h6 : (nthV L j).category = 1 := hk
        rw [h2, hc] at h6
        cases h6
      simp only [Bool.and_eq_true, Bool.not_eq_true', beq_eq_false_iff_ne, ne_eq, Bool.and_eq_false_iff]
      refine ⟨hjk, hjk1, ?_⟩
      by_cases z : j + 1 = k
      · right
        exact fun hc => h5 ⟨z, hc⟩
      · left
        exact z
theorem M_iconst {n : Int} (hd : decode q.2.1 pc = .ok (.iconst n, 1)) (hs : stepE x q o post xp (.iconst n) 1 pc b L st h (MW x q o post xp)) : MW x q o post xp pc b L st h := by
  intro p e s m args below meth c H locs cells slots ls hB hR hS hL h1 h2
  exact lv_iconst hB.1 hB.2.1 hd rfl (hs p e s m args below meth c H locs cells slots ls hB hR hS hL h1 h2)
theorem M_bipush {n : Int} (he : (Int8.ofInt n).toInt32 = Int32.ofInt n) (hd : decode q.2.1 pc = .ok (.bipush n, 2)) (hs : stepE x q o post xp (.iconst n) 2 pc b L st h (MW x q o post xp)) : MW x q o post xp pc b L st h := by
  intro p e s m args below meth c H locs cells slots ls hB hR hS hL h1 h2
  exact lv_bipush hB.1 hB.2.1 hd he (hs p e s m args below meth c H locs cells slots ls hB hR hS hL h1 h2)
theorem M_sipush {n : Int} (he : (Int16.ofInt n).toInt32 = Int32.ofInt n) (hd : decode q.2.1 pc = .ok (.sipush n, 3)) (hs : stepE x q o post xp (.iconst n) 3 pc b L st h (MW x q o post xp)) : MW x q o post xp pc b L st h := by
  intro p e s m args below meth c H locs cells slots ls hB hR hS hL h1 h2
  exact lv_sipush hB.1 hB.2.1 hd he (hs p e s m args below meth c H locs cells slots ls hB hR hS hL h1 h2)
theorem M_lconst {n : Fin 2} (hd : decode q.2.1 pc = .ok (.lconst n, 1)) (hs : stepE x q o post xp (.lconst n) 1 pc b L st h (MW x q o post xp)) : MW x q o post xp pc b L st h := by
  intro p e s m args below meth c H locs cells slots ls hB hR hS hL h1 h2
  exact lv_lconst hB.1 hB.2.1 hd rfl (hs p e s m args below meth c H locs cells slots ls hB hR hS hL h1 h2)
theorem M_iload_n {k : Fin 4} (hd : decode q.2.1 pc = .ok (.iload_n k, 1)) (hs : stepE x q o post xp (.iload k.val) 1 pc b L st h (MW x q o post xp)) : MW x q o post xp pc b L st h := by
  intro p e s m args below meth c H locs cells slots ls hB hR hS hL h1 h2
  obtain ⟨v, hv, hs⟩ := asI_e hs
  exact lv_iload_n hB.1 hB.2.1 hd rfl (hL.at hv (by simp)) (hs p e s m args below meth c H locs cells slots ls hB hR hS hL h1 h2)
theorem M_iload {k : Nat} (hd : decode q.2.1 pc = .ok (.iload k, 2)) (hs : stepE x q o post xp (.iload k) 2 pc b L st h (MW x q o post xp)) : MW x q o post xp pc b L st h := by
  intro p e s m args below meth c H locs cells slots ls hB hR hS hL h1 h2
  obtain ⟨v, hv, hs⟩ := asI_e hs
  exact lv_iload hB.1 hB.2.1 hd (hL.at hv (by simp)) (hs p e s m args below meth c H locs cells slots ls hB hR hS hL h1 h2)
theorem M_lload_n {k : Fin 4} (hd : decode q.2.1 pc = .ok (.lload_n k, 1)) (hs : stepE x q o post xp (.lload k.val) 1 pc b L st h (MW x q o post xp)) : MW x q o post xp pc b L st h := by
  intro p e s m args below meth c H locs cells slots ls hB hR hS hL h1 h2
  obtain ⟨v, hv, hs⟩ := asJ_e hs
  exact lv_lload_n hB.1 hB.2.1 hd rfl (hL.at hv (by simp)) (hs p e s m args below meth c H locs cells slots ls hB hR hS hL h1 h2)
theorem M_lload {k : Nat} (hd : decode q.2.1 pc = .ok (.lload k, 2)) (hs : stepE x q o post xp (.lload k) 2 pc b L st h (MW x q o post xp)) : MW x q o post xp pc b L st h := by
  intro p e s m args below meth c H locs cells slots ls hB hR hS hL h1 h2
  obtain ⟨v, hv, hs⟩ := asJ_e hs
  exact lv_lload hB.1 hB.2.1 hd (hL.at hv (by simp)) (hs p e s m args below meth c H locs cells slots ls hB hR hS hL h1 h2)
theorem M_aload_n {k : Fin 4} (hd : decode q.2.1 pc = .ok (.aload_n k, 1)) (hs : stepE x q o post xp (.aload k.val) 1 pc b L st h (MW x q o post xp)) : MW x q o post xp pc b L st h := by
  intro p e s m args below meth c H locs cells slots ls hB hR hS hL h1 h2
  obtain ⟨v, hv, hs⟩ := asR_e hs
  exact lv_aload_n hB.1 hB.2.1 hd rfl (hL.at hv (by simp)) (hs p e s m args below meth c H locs cells slots ls hB hR hS hL h1 h2)
theorem M_aload {k : Nat} (hd : decode q.2.1 pc = .ok (.aload k, 2)) (hs : stepE x q o post xp (.aload k) 2 pc b L st h (MW x q o post xp)) : MW x q o post xp pc b L st h := by
  intro p e s m args below meth c H locs cells slots ls hB hR hS hL h1 h2
  obtain ⟨v, hv, hs⟩ := asR_e hs
  exact lv_aload hB.1 hB.2.1 hd (hL.at hv (by simp)) (hs p e s m args below meth c H locs cells slots ls hB hR hS hL h1 h2)
theorem M_istore_n {k : Fin 4} (hk : k.val < q.2.2.1) (hd : decode q.2.1 pc = .ok (.istore_n k, 1)) (hs : stepE x q o post xp (.istore k.val) 1 pc b L st h (MW x q o post xp)) : MW x q o post xp pc b L st h := by
  intro p e s m args below meth c H locs cells slots ls hB hR hS hL h1 h2
  obtain ⟨v, r, rfl, hs⟩ := popI_e hs
  exact lv_istore_n hB.1 hB.2.1 hd rfl hL.1 hk rfl fun ls1 hl => hs.2 p e s m args below meth c H locs cells slots ls1 hB hR hS (hL.set hs.1 hl) h1 h2
theorem M_istore {k : Nat} (hk : k < q.2.2.1) (hd : decode q.2.1 pc = .ok (.istore k, 2)) (hs : stepE x q o post xp (.istore k) 2 pc b L st h (MW x q o post xp)) : MW x q o post xp pc b L st h := by
  intro p e s m args below meth c H locs cells slots ls hB hR hS hL h1 h2
  obtain ⟨v, r, rfl, hs⟩ := popI_e hs
  exact lv_istore hB.1 hB.2.1 hd hL.1 hk rfl fun ls1 hl => hs.2 p e s m args below meth c H locs cells slots ls1 hB hR hS (hL.set hs.1 hl) h1 h2
theorem M_astore_n {k : Fin 4} (hk : k.val < q.2.2.1) (hd : decode q.2.1 pc = .ok (.astore_n k, 1)) (hs : stepE x q o post xp (.astore k.val) 1 pc b L st h (MW x q o post xp)) : MW x q o post xp pc b L st h := by
  intro p e s m args below meth c H locs cells slots ls hB hR hS hL h1 h2
  obtain ⟨v, r, rfl, hs⟩ := popR_e hs
  exact lv_astore_n hB.1 hB.2.1 hd rfl hL.1 hk rfl fun ls1 hl => hs.2 p e s m args below meth c H locs cells slots ls1 hB hR hS (hL.set hs.1 hl) h1 h2
theorem M_astore {k : Nat} (hk : k < q.2.2.1) (hd : decode q.2.1 pc = .ok (.astore k, 2)) (hs : stepE x q o post xp (.astore k) 2 pc b L st h (MW x q o post xp)) : MW x q o post xp pc b L st h := by
  intro p e s m args below meth c H locs cells slots ls hB hR hS hL h1 h2
  obtain ⟨v, r, rfl, hs⟩ := popR_e hs
  exact lv_astore hB.1 hB.2.1 hd hL.1 hk rfl fun ls1 hl => hs.2 p e s m args below meth c H locs cells slots ls1 hB hR hS (hL.set hs.1 hl) h1 h2
theorem M_lstore_n {k : Fin 4} (hk : k.val + 1 < q.2.2.1) (hd : decode q.2.1 pc = .ok (.lstore_n k, 1)) (hs : stepE x q o post xp (.lstore k.val) 1 pc b L st h (MW x q o post xp)) : MW x q o post xp pc b L st h := by
  intro p e s m args below meth c H locs cells slots ls hB hR hS hL h1 h2
  obtain ⟨v, r, rfl, hs⟩ := popJ_e hs
  exact lv_lstore_n hB.1 hB.2.1 hd rfl hL.1 hk rfl fun ls1 hl => hs.2 p e s m args below meth c H locs cells slots ls1 hB hR hS (hL.set2 hs.1 hl) h1 h2
theorem M_lstore {k : Nat} (hk : k + 1 < q.2.2.1) (hd : decode q.2.1 pc = .ok (.lstore k, 2)) (hs : stepE x q o post xp (.lstore k) 2 pc b L st h (MW x q o post xp)) : MW x q o post xp pc b L st h := by
  intro p e s m args below meth c H locs cells slots ls hB hR hS hL h1 h2
  obtain ⟨v, r, rfl, hs⟩ := popJ_e hs
  exact lv_lstore hB.1 hB.2.1 hd hL.1 hk rfl fun ls1 hl => hs.2 p e s m args below meth c H locs cells slots ls1 hB hR hS (hL.set2 hs.1 hl) h1 h2
theorem M_iinc {k : Nat} {n : Int} (hk : k < q.2.2.1) (hd : decode q.2.1 pc = .ok (.iinc k n, 3)) (hs : stepE x q o post xp (.iinc k n) 3 pc b L st h (MW x q o post xp)) : MW x q o post xp pc b L st h := by
  intro p e s m args below meth c H locs cells slots ls hB hR hS hL h1 h2
  obtain ⟨v, hv, hs⟩ := asI_e hs
  obtain ⟨j, hj⟩ := List.getElem?_of_mem (lvF_mem.mpr ⟨Nat.zero_le k, hv, by simp⟩ : (k, Value.int v) ∈ lvF L 0)
  exact lv_iinc hB.1 hB.2.1 hd hL.1 hj rfl hk rfl fun ls1 hl => hs.2 p e s m args below meth c H locs cells slots ls1 hB hR hS (hL.set hs.1 hl) h1 h2
theorem M_iadd (hd : decode q.2.1 pc = .ok (.iadd, 1)) (hs : stepE x q o post xp (.iadd) 1 pc b L st h (MW x q o post xp)) : MW x q o post xp pc b L st h := by
  intro p e s m args below meth c H locs cells slots ls hB hR hS hL h1 h2
  obtain ⟨u, r, rfl, hs⟩ := popI_e hs
  obtain ⟨v, r, rfl, hs⟩ := popI_e hs
  exact lv_iadd hB.1 hB.2.1 hd (hs p e s m args below meth c H locs cells slots ls hB hR hS hL h1 h2)
theorem M_isub (hd : decode q.2.1 pc = .ok (.isub, 1)) (hs : stepE x q o post xp (.isub) 1 pc b L st h (MW x q o post xp)) : MW x q o post xp pc b L st h := by
  intro p e s m args below meth c H locs cells slots ls hB hR hS hL h1 h2
  obtain ⟨u, r, rfl, hs⟩ := popI_e hs
  obtain ⟨v, r, rfl, hs⟩ := popI_e hs
  exact lv_isub hB.1 hB.2.1 hd (hs p e s m args below meth c H locs cells slots ls hB hR hS hL h1 h2)
theorem M_imul (hd : decode q.2.1 pc = .ok (.imul, 1)) (hs : stepE x q o post xp (.imul) 1 pc b L st h (MW x q o post xp)) : MW x q o post xp pc b L st h := by
  intro p e s m args below meth c H locs cells slots ls hB hR hS hL h1 h2
  obtain ⟨u, r, rfl, hs⟩ := popI_e hs
  obtain ⟨v, r, rfl, hs⟩ := popI_e hs
  exact lv_imul hB.1 hB.2.1 hd (hs p e s m args below meth c H locs cells slots ls hB hR hS hL h1 h2)
theorem M_iand (hd : decode q.2.1 pc = .ok (.iand, 1)) (hs : stepE x q o post xp (.iand) 1 pc b L st h (MW x q o post xp)) : MW x q o post xp pc b L st h := by
  intro p e s m args below meth c H locs cells slots ls hB hR hS hL h1 h2
  obtain ⟨u, r, rfl, hs⟩ := popI_e hs
  obtain ⟨v, r, rfl, hs⟩ := popI_e hs
  exact lv_iand hB.1 hB.2.1 hd (hs p e s m args below meth c H locs cells slots ls hB hR hS hL h1 h2)
theorem M_ior (hd : decode q.2.1 pc = .ok (.ior, 1)) (hs : stepE x q o post xp (.ior) 1 pc b L st h (MW x q o post xp)) : MW x q o post xp pc b L st h := by
  intro p e s m args below meth c H locs cells slots ls hB hR hS hL h1 h2
  obtain ⟨u, r, rfl, hs⟩ := popI_e hs
  obtain ⟨v, r, rfl, hs⟩ := popI_e hs
  exact lv_ior hB.1 hB.2.1 hd (hs p e s m args below meth c H locs cells slots ls hB hR hS hL h1 h2)
theorem M_ishl (hd : decode q.2.1 pc = .ok (.ishl, 1)) (hs : stepE x q o post xp (.ishl) 1 pc b L st h (MW x q o post xp)) : MW x q o post xp pc b L st h := by
  intro p e s m args below meth c H locs cells slots ls hB hR hS hL h1 h2
  obtain ⟨u, r, rfl, hs⟩ := popI_e hs
  obtain ⟨v, r, rfl, hs⟩ := popI_e hs
  exact lv_ishl hB.1 hB.2.1 hd (hs p e s m args below meth c H locs cells slots ls hB hR hS hL h1 h2)
theorem M_ishr (hd : decode q.2.1 pc = .ok (.ishr, 1)) (hs : stepE x q o post xp (.ishr) 1 pc b L st h (MW x q o post xp)) : MW x q o post xp pc b L st h := by
  intro p e s m args below meth c H locs cells slots ls hB hR hS hL h1 h2
  obtain ⟨u, r, rfl, hs⟩ := popI_e hs
  obtain ⟨v, r, rfl, hs⟩ := popI_e hs
  exact lv_ishr hB.1 hB.2.1 hd (hs p e s m args below meth c H locs cells slots ls hB hR hS hL h1 h2)
theorem M_ixor (hd : decode q.2.1 pc = .ok (.ixor, 1)) (hs : stepE x q o post xp (.ixor) 1 pc b L st h (MW x q o post xp)) : MW x q o post xp pc b L st h := by
  intro p e s m args below meth c H locs cells slots ls hB hR hS hL h1 h2
  obtain ⟨u, r, rfl, hs⟩ := popI_e hs
  obtain ⟨v, r, rfl, hs⟩ := popI_e hs
  exact lv_ixor hB.1 hB.2.1 hd (hs p e s m args below meth c H locs cells slots ls hB hR hS hL h1 h2)
theorem M_ineg (hd : decode q.2.1 pc = .ok (.ineg, 1)) (hs : stepE x q o post xp (.ineg) 1 pc b L st h (MW x q o post xp)) : MW x q o post xp pc b L st h := by
  intro p e s m args below meth c H locs cells slots ls hB hR hS hL h1 h2
  obtain ⟨v, r, rfl, hs⟩ := popI_e hs
  exact lv_ineg hB.1 hB.2.1 hd (hs p e s m args below meth c H locs cells slots ls hB hR hS hL h1 h2)
theorem M_aconst_null (hd : decode q.2.1 pc = .ok (.aconst_null, 1)) (hs : stepE x q o post xp (.aconst_null) 1 pc b L st h (MW x q o post xp)) : MW x q o post xp pc b L st h := by
  intro p e s m args below meth c H locs cells slots ls hB hR hS hL h1 h2
  exact lv_null hB.1 hB.2.1 hd (hs p e s m args below meth c H locs cells slots ls hB hR hS hL h1 h2)
theorem M_dup_x1 (hd : decode q.2.1 pc = .ok (.dup_x1, 1)) (hs : stepE x q o post xp (.dup_x1) 1 pc b L st h (MW x q o post xp)) : MW x q o post xp pc b L st h := by
  intro p e s m args below meth c H locs cells slots ls hB hR hS hL h1 h2
  obtain ⟨v, r, rfl, hs⟩ := pop1_e hs
  obtain ⟨u, r, rfl, hs⟩ := pop1_e hs
  exact lv_dup_x1 hB.1 hB.2.1 hd hs.1 hs.2.1 (hs.2.2 p e s m args below meth c H locs cells slots ls hB hR hS hL h1 h2)
theorem M_idiv (hd : decode q.2.1 pc = .ok (.idiv, 1)) (hs : stepE x q o post xp (.idiv) 1 pc b L st h (MW x q o post xp)) : MW x q o post xp pc b L st h := by
  intro p e s m args below meth c H locs cells slots ls hB hR hS hL h1 h2
  obtain ⟨u, r, rfl, hs⟩ := popI_e hs
  obtain ⟨v, r, rfl, hs⟩ := popI_e hs
  exact lv_idiv hB.1 hB.2.1 hd hs.1 (hs.2 p e s m args below meth c H locs cells slots ls hB hR hS hL h1 h2)
theorem M_irem (hd : decode q.2.1 pc = .ok (.irem, 1)) (hs : stepE x q o post xp (.irem) 1 pc b L st h (MW x q o post xp)) : MW x q o post xp pc b L st h := by
  intro p e s m args below meth c H locs cells slots ls hB hR hS hL h1 h2
  obtain ⟨u, r, rfl, hs⟩ := popI_e hs
  obtain ⟨v, r, rfl, hs⟩ := popI_e hs
  exact lv_irem hB.1 hB.2.1 hd hs.1 (hs.2 p e s m args below meth c H locs cells slots ls hB hR hS hL h1 h2)
theorem M_iushr (hd : decode q.2.1 pc = .ok (.iushr, 1)) (hs : stepE x q o post xp (.iushr) 1 pc b L st h (MW x q o post xp)) : MW x q o post xp pc b L st h := by
  intro p e s m args below meth c H locs cells slots ls hB hR hS hL h1 h2
  obtain ⟨u, r, rfl, hs⟩ := popI_e hs
  obtain ⟨v, r, rfl, hs⟩ := popI_e hs
  exact lv_iushr hB.1 hB.2.1 hd rfl (hs p e s m args below meth c H locs cells slots ls hB hR hS hL h1 h2)
theorem M_ladd (hd : decode q.2.1 pc = .ok (.ladd, 1)) (hs : stepE x q o post xp (.ladd) 1 pc b L st h (MW x q o post xp)) : MW x q o post xp pc b L st h := by
  intro p e s m args below meth c H locs cells slots ls hB hR hS hL h1 h2
  obtain ⟨u, r, rfl, hs⟩ := popJ_e hs
  obtain ⟨v, r, rfl, hs⟩ := popJ_e hs
  exact lv_ladd hB.1 hB.2.1 hd (hs p e s m args below meth c H locs cells slots ls hB hR hS hL h1 h2)
theorem M_lmul (hd : decode q.2.1 pc = .ok (.lmul, 1)) (hs : stepE x q o post xp (.lmul) 1 pc b L st h (MW x q o post xp)) : MW x q o post xp pc b L st h := by
  intro p e s m args below meth c H locs cells slots ls hB hR hS hL h1 h2
  obtain ⟨u, r, rfl, hs⟩ := popJ_e hs
  obtain ⟨v, r, rfl, hs⟩ := popJ_e hs
  exact lv_lmul hB.1 hB.2.1 hd (hs p e s m args below meth c H locs cells slots ls hB hR hS hL h1 h2)
theorem M_lshl (hd : decode q.2.1 pc = .ok (.lshl, 1)) (hs : stepE x q o post xp (.lshl) 1 pc b L st h (MW x q o post xp)) : MW x q o post xp pc b L st h := by
  intro p e s m args below meth c H locs cells slots ls hB hR hS hL h1 h2
  obtain ⟨u, r, rfl, hs⟩ := popI_e hs
  obtain ⟨v, r, rfl, hs⟩ := popJ_e hs
  exact lv_lshl hB.1 hB.2.1 hd rfl (hs p e s m args below meth c H locs cells slots ls hB hR hS hL h1 h2)
theorem M_lushr (hd : decode q.2.1 pc = .ok (.lushr, 1)) (hs : stepE x q o post xp (.lushr) 1 pc b L st h (MW x q o post xp)) : MW x q o post xp pc b L st h := by
  intro p e s m args below meth c H locs cells slots ls hB hR hS hL h1 h2
  obtain ⟨u, r, rfl, hs⟩ := popI_e hs
  obtain ⟨v, r, rfl, hs⟩ := popJ_e hs
  exact lv_lushr hB.1 hB.2.1 hd rfl (hs p e s m args below meth c H locs cells slots ls hB hR hS hL h1 h2)
theorem M_lcmp (hd : decode q.2.1 pc = .ok (.lcmp, 1)) (hs : stepE x q o post xp (.lcmp) 1 pc b L st h (MW x q o post xp)) : MW x q o post xp pc b L st h := by
  intro p e s m args below meth c H locs cells slots ls hB hR hS hL h1 h2
  obtain ⟨u, r, rfl, hs⟩ := popJ_e hs
  obtain ⟨v, r, rfl, hs⟩ := popJ_e hs
  exact W.lcmp hB.1 hB.2.1 hd (hs p e s m args below meth c H locs cells slots ls hB hR hS hL h1 h2)
theorem M_i2l (hd : decode q.2.1 pc = .ok (.i2l, 1)) (hs : stepE x q o post xp (.i2l) 1 pc b L st h (MW x q o post xp)) : MW x q o post xp pc b L st h := by
  intro p e s m args below meth c H locs cells slots ls hB hR hS hL h1 h2
  obtain ⟨v, r, rfl, hs⟩ := popI_e hs
  exact lv_i2l hB.1 hB.2.1 hd rfl (hs p e s m args below meth c H locs cells slots ls hB hR hS hL h1 h2)
theorem M_l2i (hd : decode q.2.1 pc = .ok (.l2i, 1)) (hs : stepE x q o post xp (.l2i) 1 pc b L st h (MW x q o post xp)) : MW x q o post xp pc b L st h := by
  intro p e s m args below meth c H locs cells slots ls hB hR hS hL h1 h2
  obtain ⟨v, r, rfl, hs⟩ := popJ_e hs
  exact lv_l2i hB.1 hB.2.1 hd rfl (hs p e s m args below meth c H locs cells slots ls hB hR hS hL h1 h2)
theorem M_i2b (hd : decode q.2.1 pc = .ok (.i2b, 1)) (hs : stepE x q o post xp (.i2b) 1 pc b L st h (MW x q o post xp)) : MW x q o post xp pc b L st h := by
  intro p e s m args below meth c H locs cells slots ls hB hR hS hL h1 h2
  obtain ⟨v, r, rfl, hs⟩ := popI_e hs
  exact lv_i2b hB.1 hB.2.1 hd rfl (hs p e s m args below meth c H locs cells slots ls hB hR hS hL h1 h2)
theorem M_i2c (hd : decode q.2.1 pc = .ok (.i2c, 1)) (hs : stepE x q o post xp (.i2c) 1 pc b L st h (MW x q o post xp)) : MW x q o post xp pc b L st h := by
  intro p e s m args below meth c H locs cells slots ls hB hR hS hL h1 h2
  obtain ⟨v, r, rfl, hs⟩ := popI_e hs
  exact lv_i2c hB.1 hB.2.1 hd rfl (hs p e s m args below meth c H locs cells slots ls hB hR hS hL h1 h2)
theorem M_i2d (hd : decode q.2.1 pc = .ok (.i2d, 1)) (hs : stepE x q o post xp (.i2d) 1 pc b L st h (MW x q o post xp)) : MW x q o post xp pc b L st h := by
  intro p e s m args below meth c H locs cells slots ls hB hR hS hL h1 h2
  obtain ⟨v, r, rfl, hs⟩ := popI_e hs
  exact lv_i2d hB.1 hB.2.1 hd (hs p e s m args below meth c H locs cells slots ls hB hR hS hL h1 h2)
theorem M_i2f (hd : decode q.2.1 pc = .ok (.i2f, 1)) (hs : stepE x q o post xp (.i2f) 1 pc b L st h (MW x q o post xp)) : MW x q o post xp pc b L st h := by
  intro p e s m args below meth c H locs cells slots ls hB hR hS hL h1 h2
  obtain ⟨v, r, rfl, hs⟩ := popI_e hs
  exact lv_i2f hB.1 hB.2.1 hd (hs p e s m args below meth c H locs cells slots ls hB hR hS hL h1 h2)
theorem M_dup (hd : decode q.2.1 pc = .ok (.dup, 1)) (hs : stepE x q o post xp (.dup) 1 pc b L st h (MW x q o post xp)) : MW x q o post xp pc b L st h := by
  intro p e s m args below meth c H locs cells slots ls hB hR hS hL h1 h2
  obtain ⟨v, r, rfl, hs⟩ := pop1_e hs
  exact lv_dup hB.1 hB.2.1 hd hs.1 (hs.2 p e s m args below meth c H locs cells slots ls hB hR hS hL h1 h2)
theorem M_pop (hd : decode q.2.1 pc = .ok (.pop, 1)) (hs : stepE x q o post xp (.pop) 1 pc b L st h (MW x q o post xp)) : MW x q o post xp pc b L st h := by
  intro p e s m args below meth c H locs cells slots ls hB hR hS hL h1 h2
  obtain ⟨v, r, rfl, hs⟩ := pop1_e hs
  exact lv_pop hB.1 hB.2.1 hd hs.1 (hs.2 p e s m args below meth c H locs cells slots ls hB hR hS hL h1 h2)
theorem M_dup2 (hd : decode q.2.1 pc = .ok (.dup2, 1)) (hs : stepE x q o post xp (.dup2) 1 pc b L st h (MW x q o post xp)) : MW x q o post xp pc b L st h := by
  intro p e s m args below meth c H locs cells slots ls hB hR hS hL h1 h2
  obtain ⟨v, r, rfl, hs⟩ := pop1_e hs
  obtain ⟨u, r, rfl, hs⟩ := pop1_e hs
  exact lv_dup2_11 hB.1 hB.2.1 hd hs.1 hs.2.1 (hs.2.2 p e s m args below meth c H locs cells slots ls hB hR hS hL h1 h2)
theorem tgt_nat {t : Int} (h : 0 ≤ t) : t = (t.toNat : Int) := (Int.toNat_of_nonneg h).symm
theorem M_goto {off : Int} (ht : 0 ≤ (pc : Int) + off) (hd : decode q.2.1 pc = .ok (.goto off, 3)) (hs : stepE x q o post xp (.goto ((pc : Int) + off)) 3 pc b L st h (MW x q o post xp)) : MW x q o post xp pc b L st h := by
  intro p e s m args below meth c H locs cells slots ls hB hR hS hL h1 h2
  exact lv_goto hB.1 hB.2.1 hd (tgt_nat ht) (hs p e s m args below meth c H locs cells slots ls hB hR hS hL h1 h2)
theorem M_ifnonnull {off : Int} (ht : 0 ≤ (pc : Int) + off) (hd : decode q.2.1 pc = .ok (.ifnonnull off, 3)) (hs : stepE x q o post xp (.ifnonnull ((pc : Int) + off)) 3 pc b L st h (MW x q o post xp)) : MW x q o post xp pc b L st h := by
  intro p e s m args below meth c H locs cells slots ls hB hR hS hL h1 h2
  obtain ⟨a, r, rfl, hs⟩ := popR_e hs
  exact lv_ifnonnull hB.1 hB.2.1 hd (tgt_nat ht) (hs p e s m args below meth c H locs cells slots ls hB hR hS hL h1 h2)
theorem M_icmp {cd : ClassFile.Cond} {off : Int} (ht : 0 ≤ (pc : Int) + off) (hd : decode q.2.1 pc = .ok (.if_icmp cd off, 3)) (hs : stepE x q o post xp (.if_icmp cd ((pc : Int) + off)) 3 pc b L st h (MW x q o post xp)) : MW x q o post xp pc b L st h := by
  intro p e s m args below meth c H locs cells slots ls hB hR hS hL h1 h2
  obtain ⟨u, r, rfl, hs⟩ := popI_e hs
  obtain ⟨v, r, rfl, hs⟩ := popI_e hs
  cases cd
  case eq => exact lv_icmp_eq hB.1 hB.2.1 hd (tgt_nat ht) (fun z => hs.1 z p e s m args below meth c H locs cells slots ls hB hR hS hL h1 h2) (fun z => hs.2 z p e s m args below meth c H locs cells slots ls hB hR hS hL h1 h2)
  case ne => exact lv_icmp_ne hB.1 hB.2.1 hd (tgt_nat ht) (fun z => hs.1 z p e s m args below meth c H locs cells slots ls hB hR hS hL h1 h2) (fun z => hs.2 (fun y => y z) p e s m args below meth c H locs cells slots ls hB hR hS hL h1 h2)
  case lt => exact lv_icmp_lt hB.1 hB.2.1 hd (tgt_nat ht) (fun z => hs.1 z p e s m args below meth c H locs cells slots ls hB hR hS hL h1 h2) (fun z => hs.2 z p e s m args below meth c H locs cells slots ls hB hR hS hL h1 h2)
  case ge => exact lv_icmp_ge hB.1 hB.2.1 hd (tgt_nat ht) (fun z => hs.1 z p e s m args below meth c H locs cells slots ls hB hR hS hL h1 h2) (fun z => hs.2 z p e s m args below meth c H locs cells slots ls hB hR hS hL h1 h2)
  case gt => exact lv_icmp_gt hB.1 hB.2.1 hd (tgt_nat ht) (fun z => hs.1 z p e s m args below meth c H locs cells slots ls hB hR hS hL h1 h2) (fun z => hs.2 z p e s m args below meth c H locs cells slots ls hB hR hS hL h1 h2)
  case le => exact lv_icmp_le hB.1 hB.2.1 hd (tgt_nat ht) (fun z => hs.1 z p e s m args below meth c H locs cells slots ls hB hR hS hL h1 h2) (fun z => hs.2 z p e s m args below meth c H locs cells slots ls hB hR hS hL h1 h2)
theorem M_ifc {cd : ClassFile.Cond} {off : Int} (ht : 0 ≤ (pc : Int) + off) (hd : decode q.2.1 pc = .ok (.ifCond cd off, 3)) (hs : stepE x q o post xp (.ifCond cd ((pc : Int) + off)) 3 pc b L st h (MW x q o post xp)) : MW x q o post xp pc b L st h := by
  intro p e s m args below meth c H locs cells slots ls hB hR hS hL h1 h2
  obtain ⟨v, r, rfl, hs⟩ := popI_e hs
  cases cd
  case eq => exact lv_if_eq hB.1 hB.2.1 hd (tgt_nat ht) (fun z => hs.1 z p e s m args below meth c H locs cells slots ls hB hR hS hL h1 h2) (fun z => hs.2 z p e s m args below meth c H locs cells slots ls hB hR hS hL h1 h2)
  case ne => exact lv_if_ne hB.1 hB.2.1 hd (tgt_nat ht) (fun z => hs.1 z p e s m args below meth c H locs cells slots ls hB hR hS hL h1 h2) (fun z => hs.2 (fun y => y z) p e s m args below meth c H locs cells slots ls hB hR hS hL h1 h2)
  case lt => exact lv_if_lt hB.1 hB.2.1 hd (tgt_nat ht) (fun z => hs.1 z p e s m args below meth c H locs cells slots ls hB hR hS hL h1 h2) (fun z => hs.2 z p e s m args below meth c H locs cells slots ls hB hR hS hL h1 h2)
  case ge => exact lv_if_ge hB.1 hB.2.1 hd (tgt_nat ht) (fun z => hs.1 z p e s m args below meth c H locs cells slots ls hB hR hS hL h1 h2) (fun z => hs.2 z p e s m args below meth c H locs cells slots ls hB hR hS hL h1 h2)
  case gt => exact lv_if_gt hB.1 hB.2.1 hd (tgt_nat ht) (fun z => hs.1 z p e s m args below meth c H locs cells slots ls hB hR hS hL h1 h2) (fun z => hs.2 z p e s m args below meth c H locs cells slots ls hB hR hS hL h1 h2)
  case le => exact lv_if_le hB.1 hB.2.1 hd (tgt_nat ht) (fun z => hs.1 z p e s m args below meth c H locs cells slots ls hB hR hS hL h1 h2) (fun z => hs.2 z p e s m args below meth c H locs cells slots ls hB hR hS hL h1 h2)
end SND
