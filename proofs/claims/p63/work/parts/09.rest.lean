section SNR
variable {x : CX} {q y : MS} {o : Nat} {post post' : Option Value → MH → Prop} {xp xp' : String → MH → Prop} {pc : Nat} {b : Nat × Nat} {L st : List Value} {h : MH}
/-! ends -/
theorem E_post {s t : State} {H : Heap} {locs : List Loc} {args : Array Value} {v : Option Value} (hR : RP x h H) (hS : va_S (xA x) s.heap H locs) (ht : t.heap = H) (hp : post v h) : QcE x post args s (.returned v) t :=
  ⟨⟨v, h, rfl, hp, by rw [ht]; exact hR⟩, hS.F ht⟩
theorem M_ireturn (hd : decode q.2.1 pc = .ok (.ireturn, 1)) (hs : stepE x q o post xp .ireturn 1 pc b L st h (MW x q o post xp)) : MW x q o post xp pc b L st h := by
  intro p e s m args below meth c H locs cells slots ls hB hR hS hL h1 h2
  match st, hs with
  | [.int v], hs =>
    obtain ⟨hr, hp⟩ := hs
    refine W.widen (k := q.2.2.2.2.2.2.2.1) (n := q.2.2.2.2.2.2.2.2) (by omega) (by omega) (vx_ret ?_)
    rcases hr with hr | ⟨hr, hv⟩ | ⟨hr, hv⟩ | ⟨hr, hv⟩
    · exact W.iret hB.1 hB.2.1 (hB.2.2.2.1.trans hr) (fun t ht _ => E_post hR hS ht hp) hS.2.2 hd hB.2.2.2.2.2.2.1
    · exact W.zret (ty := .boolean) hB.1 hB.2.1 (hB.2.2.2.1.trans hr) (by rcases hv with rfl | rfl <;> rfl) (fun t ht _ => E_post hR hS ht hp) hS.2.2 hd hB.2.2.2.2.2.2.1
    · exact W.zret (ty := .byte) hB.1 hB.2.1 (hB.2.2.2.1.trans hr) (by rw [hv]; rfl) (fun t ht _ => E_post hR hS ht hp) hS.2.2 hd hB.2.2.2.2.2.2.1
    · exact W.zret (ty := .char) hB.1 hB.2.1 (hB.2.2.2.1.trans hr) hv (fun t ht _ => E_post hR hS ht hp) hS.2.2 hd hB.2.2.2.2.2.2.1
theorem M_lreturn (hd : decode q.2.1 pc = .ok (.lreturn, 1)) (hs : stepE x q o post xp .lreturn 1 pc b L st h (MW x q o post xp)) : MW x q o post xp pc b L st h := by
  intro p e s m args below meth c H locs cells slots ls hB hR hS hL h1 h2
  match st, hs with
  | [.long v], hs =>
    obtain ⟨hr, hp⟩ := hs
    refine W.widen (k := q.2.2.2.2.2.2.2.1) (n := q.2.2.2.2.2.2.2.2) (by omega) (by omega) (vx_ret ?_)
    exact W.lret hB.1 hB.2.1 (hB.2.2.2.1.trans hr) (fun t ht _ => E_post hR hS ht hp) hS.2.2 hd hB.2.2.2.2.2.2.1
theorem M_dreturn (hd : decode q.2.1 pc = .ok (.dreturn, 1)) (hs : stepE x q o post xp .dreturn 1 pc b L st h (MW x q o post xp)) : MW x q o post xp pc b L st h := by
  intro p e s m args below meth c H locs cells slots ls hB hR hS hL h1 h2
  match st, hs with
  | [.double v], hs =>
    obtain ⟨hr, hp⟩ := hs
    refine W.widen (k := q.2.2.2.2.2.2.2.1) (n := q.2.2.2.2.2.2.2.2) (by omega) (by omega) (vx_ret ?_)
    exact W.dret hB.1 hB.2.1 (hB.2.2.2.1.trans hr) (fun t ht _ => E_post hR hS ht hp) hS.2.2 hd hB.2.2.2.2.2.2.1
theorem M_freturn (hd : decode q.2.1 pc = .ok (.freturn, 1)) (hs : stepE x q o post xp .freturn 1 pc b L st h (MW x q o post xp)) : MW x q o post xp pc b L st h := by
  intro p e s m args below meth c H locs cells slots ls hB hR hS hL h1 h2
  match st, hs with
  | [.float v], hs =>
    obtain ⟨hr, hp⟩ := hs
    refine W.widen (k := q.2.2.2.2.2.2.2.1) (n := q.2.2.2.2.2.2.2.2) (by omega) (by omega) (vx_ret ?_)
    exact W.fret hB.1 hB.2.1 (hB.2.2.2.1.trans hr) (fun t ht _ => E_post hR hS ht hp) hS.2.2 hd hB.2.2.2.2.2.2.1
theorem M_areturn (hd : decode q.2.1 pc = .ok (.areturn, 1)) (hs : stepE x q o post xp .areturn 1 pc b L st h (MW x q o post xp)) : MW x q o post xp pc b L st h := by
  intro p e s m args below meth c H locs cells slots ls hB hR hS hL h1 h2
  match st, hs with
  | [.ref v], hs =>
    obtain ⟨hr, hp⟩ := hs
    refine W.widen (k := q.2.2.2.2.2.2.2.1) (n := q.2.2.2.2.2.2.2.2) (by omega) (by omega) (vx_ret ?_)
    cases ho : q.2.2.2.1 with
    | none => rw [ho] at hr; exact absurd hr id
    | some t =>
      rw [ho] at hr
      cases t <;> first | exact absurd hr id | exact W.aret hB.1 hB.2.1 (hB.2.2.2.1.trans ho) (Or.inl ⟨_, rfl⟩) (Or.inr ⟨_, rfl⟩) (fun t ht _ => E_post hR hS ht hp) hS.2.2 hd hB.2.2.2.2.2.2.1 | exact W.aret hB.1 hB.2.1 (hB.2.2.2.1.trans ho) (Or.inr ⟨_, rfl⟩) (Or.inr ⟨_, rfl⟩) (fun t ht _ => E_post hR hS ht hp) hS.2.2 hd hB.2.2.2.2.2.2.1
theorem M_return (hd : decode q.2.1 pc = .ok (.return_, 1)) (hs : stepE x q o post xp .return_ 1 pc b L st h (MW x q o post xp)) : MW x q o post xp pc b L st h := by
  intro p e s m args below meth c H locs cells slots ls hB hR hS hL h1 h2
  obtain ⟨hr, rfl, hp⟩ := hs
  refine W.widen (k := q.2.2.2.2.2.2.2.1) (n := q.2.2.2.2.2.2.2.2) (by omega) (by omega) (vx_ret ?_)
  exact W.vret hB.1 hB.2.1 (hB.2.2.2.1.trans hr) (fun t ht _ => E_post hR hS ht hp) hS.2.2 hd hB.2.2.2.2.2.2.1
/-! doubles -/
theorem popD_e {st : List Value} {k : UInt64 → List Value → Prop} (h : popD st k) : ∃ i r, st = .double i :: r ∧ k i r := by
  cases st with
  | nil => exact absurd h id
  | cons v r => cases v <;> first | exact ⟨_, _, rfl, h⟩ | exact absurd h id
theorem popF_e {st : List Value} {k : UInt32 → List Value → Prop} (h : popF st k) : ∃ i r, st = .float i :: r ∧ k i r := by
  cases st with
  | nil => exact absurd h id
  | cons v r => cases v <;> first | exact ⟨_, _, rfl, h⟩ | exact absurd h id
theorem M_ddiv (hd : decode q.2.1 pc = .ok (.ddiv, 1)) (hs : stepE x q o post xp .ddiv 1 pc b L st h (MW x q o post xp)) : MW x q o post xp pc b L st h := by
  intro p e s m args below meth c H locs cells slots ls hB hR hS hL h1 h2
  obtain ⟨u, r, rfl, hs⟩ := popD_e hs
  obtain ⟨v, r, rfl, hn, hs⟩ := popD_e hs
  exact lv_ddiv hB.1 hB.2.1 hd hn (hs p e s m args below meth c H locs cells slots ls hB hR hS hL h1 h2)
theorem M_fdiv (hd : decode q.2.1 pc = .ok (.fdiv, 1)) (hs : stepE x q o post xp .fdiv 1 pc b L st h (MW x q o post xp)) : MW x q o post xp pc b L st h := by
  intro p e s m args below meth c H locs cells slots ls hB hR hS hL h1 h2
  obtain ⟨u, r, rfl, hs⟩ := popF_e hs
  obtain ⟨v, r, rfl, hn, hs⟩ := popF_e hs
  exact lv_fdiv hB.1 hB.2.1 hd hn (hs p e s m args below meth c H locs cells slots ls hB hR hS hL h1 h2)
theorem M_dconst {n : Fin 2} (hd : decode q.2.1 pc = .ok (.dconst n, 1)) (hs : stepE x q o post xp (.dconst n) 1 pc b L st h (MW x q o post xp)) : MW x q o post xp pc b L st h := by
  intro p e s m args below meth c H locs cells slots ls hB hR hS hL h1 h2
  obtain ⟨rfl, hs⟩ := hs
  exact lv_dconst0 hB.1 hB.2.1 hd (hs p e s m args below meth c H locs cells slots ls hB hR hS hL h1 h2)
theorem M_fconst {n : Fin 3} (hd : decode q.2.1 pc = .ok (.fconst n, 1)) (hs : stepE x q o post xp (.fconst n) 1 pc b L st h (MW x q o post xp)) : MW x q o post xp pc b L st h := by
  intro p e s m args below meth c H locs cells slots ls hB hR hS hL h1 h2
  obtain ⟨rfl, hs⟩ := hs
  exact lv_fconst0 hB.1 hB.2.1 hd (hs p e s m args below meth c H locs cells slots ls hB hR hS hL h1 h2)
/-! switches -/
theorem swT_e {v : Int32} {k : Nat → Prop} : ∀ {l : List Int} {n : Int}, swT l n v k → ∀ (j : Nat) (t : Int), l[j]? = some t → v.toInt = n + j → k t.toNat
  | [], _, _, j, t, h, _ => by simp at h
  | u :: r, n, hw, 0, t, h, e => by
    cases h
    exact hw.1 (by rw [e]; simp)
  | u :: r, n, hw, j + 1, t, h, e => swT_e hw.2 j t h (by rw [e]; push_cast; omega)
theorem M_tableswitch {d lo hi : Int} {offs : Array Int} {len : Nat} (hd : decode q.2.1 pc = .ok (.tableswitch d lo hi offs, len)) (ht : tgtB (.tableswitch ((pc : Int) + d) lo hi (offs.map fun z => (pc : Int) + z)) = true)
    (hs : stepE x q o post xp (.tableswitch ((pc : Int) + d) lo hi (offs.map fun z => (pc : Int) + z)) len pc b L st h (MW x q o post xp)) : MW x q o post xp pc b L st h := by
  intro p e s m args below meth c H locs cells slots ls hB hR hS hL h1 h2
  obtain ⟨v, r, rfl, hs1, hs2⟩ := popI_e hs
  simp only [tgtB, Bool.and_eq_true, decide_eq_true_eq, Array.size_map] at ht
  obtain ⟨⟨t1, t2⟩, t3⟩ := ht
  by_cases hv : v.toInt < lo ∨ hi < v.toInt
  · exact lv_tableOut hB.1 hB.2.1 hd hv (tgt_nat t1) (hs1 hv p e s m args below meth c H locs cells slots ls hB hR hS hL h1 h2)
  · have hj : (v.toInt - lo).toNat < offs.size := by omega
    have e1 : offs[(v.toInt - lo).toNat]? = some offs[(v.toInt - lo).toNat] := Array.getElem?_eq_getElem hj
    have e2 : (offs.map fun z => (pc : Int) + z).toList[(v.toInt - lo).toNat]? = some ((pc : Int) + offs[(v.toInt - lo).toNat]) := by simp [e1]
    have t4 : 0 ≤ (pc : Int) + offs[(v.toInt - lo).toNat] := by
      have := List.all_eq_true.mp t2 _ (List.mem_of_getElem? e2)
      simpa using this
    exact lv_tableIn hB.1 hB.2.1 hd (fun z => hv (Or.inl z)) (fun z => hv (Or.inr z)) e1 (tgt_nat t4) (swT_e hs2 _ _ e2 (by omega) p e s m args below meth c H locs cells slots ls hB hR hS hL h1 h2)
theorem swL_e {pc d : Int} {v : Int32} {k : Nat → Prop} : ∀ {l : List (Int × Int)}, swL (l.map fun z => (z.1, pc + z.2)) (pc + d) v k → k (pc + Op.lookupswitch.offset l d v.toInt).toNat
  | [], h => h
  | (a, t) :: r, h => by
    by_cases e : v.toInt = a
    · rw [Op.lookupswitch.offset_cons, if_pos (by simpa using e.symm)]
      exact h.1 e
    · rw [Op.lookupswitch.offset_cons, if_neg (by simpa using fun z => e z.symm)]
      exact swL_e (h.2 e)
theorem lk_pos {pc d : Int} {z : Int} : ∀ {l : List (Int × Int)}, 0 ≤ pc + d → (l.map fun z => (z.1, pc + z.2)).all (fun t => decide (0 ≤ t.2)) = true → 0 ≤ pc + Op.lookupswitch.offset l d z
  | [], h, _ => h
  | (a, t) :: r, h, h2 => by
    simp only [List.map_cons, List.all_cons, Bool.and_eq_true, decide_eq_true_eq] at h2
    rw [Op.lookupswitch.offset_cons]
    split
    · exact h2.1
    · exact lk_pos h h2.2
theorem M_lookupswitch {d : Int} {ps : Array (Int × Int)} {len : Nat} (hd : decode q.2.1 pc = .ok (.lookupswitch d ps, len)) (hp : (ps.toList.zip (ps.toList.drop 1)).all (fun (a, next) => a.1 < next.1) = true) (ht : tgtB (.lookupswitch ((pc : Int) + d) (ps.map fun z => (z.1, (pc : Int) + z.2))) = true)
    (hs : stepE x q o post xp (.lookupswitch ((pc : Int) + d) (ps.map fun z => (z.1, (pc : Int) + z.2))) len pc b L st h (MW x q o post xp)) : MW x q o post xp pc b L st h := by
  intro p e s m args below meth c H locs cells slots ls hB hR hS hL h1 h2
  obtain ⟨v, r, rfl, hs9⟩ := popI_e hs
  simp only [tgtB, Bool.and_eq_true, decide_eq_true_eq, Array.toList_map] at ht
  rw [Array.toList_map] at hs9
  exact lv_lookup hB.1 hB.2.1 hd hp rfl (tgt_nat (lk_pos ht.1 ht.2)) (swL_e hs9 p e s m args below meth c H locs cells slots ls hB hR hS hL h1 h2)
/-! throws -/
theorem RP.grown {H H' : Heap} (hR : RP x h H) (hz : H.size ≤ H'.size) (hk : ∀ a : Nat, a < H.size → H'[a]? = H[a]?) : RP x (sZ h H'.size) H' := by
  refine ⟨rfl, hR.2.1, fun a c hc ha => ?_, fun a t ht ha => ?_⟩
  · exact (hR.obj hc ha).kept (hk a (hR.lt hc ha))
  · exact (hk a (hR.alt ht ha)).trans (hR.arr ht ha)
def xIx : Nat → Nat := fun n => match n with
  | 3 => 13
  | _ => 7
def xRx : Nat → ByteArray := fun n => match n with
  | 0 => prog_15_method_2_code
  | 1 => prog_17_method_2_code
  | 2 => prog_16_method_2_code
  | _ => prog_31_method_4_code
def xAt (n : Nat) : List Cond := Cond.classLink (oR 4) (xL n).2.1 (xL n).1 :: Cond.initialized (xL n).1 :: x_at (oR 4) (xL n).2.2 (xL n).1 (xIx n) (xRx n) ["java/lang/RuntimeException", "java/lang/Exception"]
theorem xL_in0 : ∀ w ∈ xAt 0, (w ∈ lw_tbl ∧ goodWord w = true) ∨ w ∈ wNG := by decide +kernel
theorem xL_in1 : ∀ w ∈ xAt 1, (w ∈ lw_tbl ∧ goodWord w = true) ∨ w ∈ wNG := by decide +kernel
theorem xL_in2 : ∀ w ∈ xAt 2, (w ∈ lw_tbl ∧ goodWord w = true) ∨ w ∈ wNG := by decide +kernel
theorem xL_in3 : ∀ w ∈ xAt 3, (w ∈ lw_tbl ∧ goodWord w = true) ∨ w ∈ wNG := by decide +kernel
theorem xL_in : ∀ n, n < 4 → ∀ w ∈ xAt n, (w ∈ lw_tbl ∧ goodWord w = true) ∨ w ∈ wNG
  | 0, _ => xL_in0
  | 1, _ => xL_in1
  | 2, _ => xL_in2
  | 3, _ => xL_in3
theorem xL_ot : ∀ n, n < 4 → (∀ w ∈ xAt n, vx_ot w = true) := by decide +kernel
theorem xRx_ok : ∀ n, n < 4 → decode (xRx n) 0 = .ok (.aload_n 0, 1) ∧ decode (xRx n) 1 = .ok (.aload_n 1, 1) ∧ decode (xRx n) 2 = .ok (.invokespecial (xIx n), 3) ∧ decode (xRx n) 5 = .ok (.return_, 1) := by decide +kernel
theorem xL_fit : ∀ n, n < 4 → Bundle.fit (xL n).1 = true := by decide +kernel
theorem eS_own : ∀ t, t < 14 → 8 ≤ t → oR (eS.getD t (0, 0, "")).1 = oR 4 := by decide +kernel
theorem M_throw {n t len : Nat} (hn : n < 4) (ht1 : 8 ≤ t) (ht2 : t < 14) (ho : o = 4) (hd : (thr1 q.2.1 pc n t || thr2 q.2.1 pc n t) = true) (hdp : 5 ≤ q.2.2.2.2.2.2.1)
    (hs : stepE x q o post xp (.invokeinterface n t) len pc b L st h (MW x q o post xp)) : MW x q o post xp pc b L st h := by
  intro p e s m args below meth c H locs cells slots ls hB hR hS hL h1 h2
  obtain ⟨hcat, b1, b2, hs⟩ := hs
  subst ho
  have hts := hB.2.2.2.2.1
  have hG := hB.2.2.2.2.2.2.2.2.2
  have hw : ∀ w ∈ xAt n, w.before args s = true := by
    intro w hw
    rcases xL_in n hn w hw with g | g
    · exact hts _ (List.mem_filter.mpr ⟨List.mem_append_right _ g.1, g.2⟩)
    · exact va_Nw.use (wNG_on w g) (hG.2.2.2.2.2.2.2.2.2.2.2.1 w g)
  have hstr := hG.2.2.2.2.1 t (by omega)
  rw [eS_own t ht2 ht1] at hstr
  have hxx : ∀ t9 : State, s.vm.Alike t9.vm → H.size ≤ t9.heap.size → (∀ q : Nat, q < H.size → t9.heap[q]? = H[q]?) → XcE x xp (xL n).1 s t9 := by
    intro t9 _ g1 g2
    refine ⟨⟨sZ h t9.heap.size, hs _ (by rw [← hR.1]; exact g1), hR.grown g1 g2⟩, Nat.le_trans hS.1 g1, fun z hz hA => ?_⟩
    rw [g2 z (Nat.lt_of_lt_of_le hz hS.1)]
    exact hS.2.1 z hz hA
  have hl : (rmE q).frames = q.2.2.2.2.2.2.1 + 1 := rfl
  have hl2 : (rmE q).locals = 40 * (q.2.2.2.2.2.2.1 + 1) := rfl
  rw [catS_eq] at hcat
  obtain ⟨w, d0, d3, d4, d6, d9⟩ : ∃ w, decode q.2.1 pc = .ok (.new (xL n).2.1, 3) ∧ decode q.2.1 (pc + 3) = .ok (.dup, 1) ∧ ((decode q.2.1 (pc + 4) = .ok (.ldc (eS.getD t (0, 0, "")).2.1, 2) ∧ w = 2) ∨ (decode q.2.1 (pc + 4) = .ok (.ldc_w (eS.getD t (0, 0, "")).2.1, 3) ∧ w = 3)) ∧ decode q.2.1 (pc + 4 + w) = .ok (.invokespecial (xL n).2.2, 3) ∧ decode q.2.1 (pc + 4 + w + 3) = .ok (.athrow, 1) := by
    rw [Bool.or_eq_true] at hd
    rcases hd with hd | hd
    · simp only [thr1, Bool.and_eq_true, decide_eq_true_eq] at hd
      obtain ⟨⟨⟨⟨d0, d3⟩, d4⟩, d6⟩, d9⟩ := hd
      exact ⟨2, d0, d3, Or.inl ⟨d4, rfl⟩, d6, d9⟩
    · simp only [thr2, Bool.and_eq_true, decide_eq_true_eq] at hd
      obtain ⟨⟨⟨⟨d0, d3⟩, d4⟩, d6⟩, d9⟩ := hd
      exact ⟨3, d0, d3, Or.inr ⟨d4, rfl⟩, d6, d9⟩
  obtain ⟨x0, x1, x2, x5⟩ := xRx_ok n hn
  exact x_throw hB.1 hB.2.1 hG.2.2.2.2.2.2.2.2.2.1 x0 x1 x2 x5 hB.2.2.2.2.2.1 (xL_fit n hn) (by decide) (hw _ List.mem_cons_self) (hw _ (List.mem_cons_of_mem _ List.mem_cons_self)) hstr (fun w g => hw w (List.mem_cons_of_mem _ (List.mem_cons_of_mem _ g))) (xL_ot n hn) hG.2.2.1 hG.2.2.2.1 hS (hL.1.1.trans hB.2.2.1.symm)
      d0 d3 d4 d6 d9 hB.2.2.2.2.2.2.2.2.1 (by rw [hl]; simp; omega) (by rw [hl2]; simp; omega) (by show _ ≤ q.2.2.2.2.2.2.2.1; omega) (by show _ ≤ q.2.2.2.2.2.2.2.2; omega) hB.2.2.2.2.2.2.1 hxx hS.2.2 (by omega) (by omega)
end SNR
