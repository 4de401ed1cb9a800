theorem cT_ok : ∀ q ∈ cTL, q.2 < 7 ∧ Cond.classLink (oR q.1.1) q.1.2 (eR q.2) ∈ WS ∧ Cond.instantiable (eR q.2) (eN q.2) ∈ WS ∧ Cond.initialized (eR q.2) ∈ WS := by
  intro q hq
  simp only [cTL, List.mem_cons, List.not_mem_nil, or_false] at hq
  rcases hq with rfl | rfl | rfl | rfl | rfl | rfl | rfl | rfl | rfl | rfl
  · exact ⟨by decide, ws_of 163 (by decide +kernel) (by decide +kernel), ws_of 37 (by decide +kernel) (by decide +kernel), ws_of 2 (by decide +kernel) (by decide +kernel)⟩
  · exact ⟨by decide, ws_of 106 (by decide +kernel) (by decide +kernel), ws_of 37 (by decide +kernel) (by decide +kernel), ws_of 2 (by decide +kernel) (by decide +kernel)⟩
  · exact ⟨by decide, ws_of 126 (by decide +kernel) (by decide +kernel), ws_of 37 (by decide +kernel) (by decide +kernel), ws_of 2 (by decide +kernel) (by decide +kernel)⟩
  · exact ⟨by decide, ws_of 36 (by decide +kernel) (by decide +kernel), ws_of 37 (by decide +kernel) (by decide +kernel), ws_of 2 (by decide +kernel) (by decide +kernel)⟩
  · exact ⟨by decide, ws_of 100 (by decide +kernel) (by decide +kernel), ws_of 101 (by decide +kernel) (by decide +kernel), ws_of 3 (by decide +kernel) (by decide +kernel)⟩
  · exact ⟨by decide, ws_of 120 (by decide +kernel) (by decide +kernel), ws_of 121 (by decide +kernel) (by decide +kernel), ws_of 4 (by decide +kernel) (by decide +kernel)⟩
  · exact ⟨by decide, ws_of 157 (by decide +kernel) (by decide +kernel), ws_of 158 (by decide +kernel) (by decide +kernel), ws_of 5 (by decide +kernel) (by decide +kernel)⟩
  · exact ⟨by decide, ws_of 463 (by decide +kernel) (by decide +kernel), ws_of 464 (by decide +kernel) (by decide +kernel), ws_of 16 (by decide +kernel) (by decide +kernel)⟩
  · exact ⟨by decide, ws_of 25 (by decide +kernel) (by decide +kernel), ws_of 26 (by decide +kernel) (by decide +kernel), ws_of 1 (by decide +kernel) (by decide +kernel)⟩
  · exact ⟨by decide, ws_of 244 (by decide +kernel) (by decide +kernel), ws_of 245 (by decide +kernel) (by decide +kernel), ws_of 15 (by decide +kernel) (by decide +kernel)⟩
theorem cT_mem {o k c : Nat} (h : cT o k = some c) : ((o, k), c) ∈ cTL := by
  unfold cT at h
  rw [Option.map_eq_some_iff] at h
  obtain ⟨⟨⟨o1, k1⟩, c1⟩, h1, h2⟩ := h
  have h3 := List.find?_some h1
  simp only [Bool.and_eq_true, beq_iff_eq] at h3
  obtain ⟨rfl, rfl⟩ := h3
  cases h2
  exact List.mem_of_find?_eq_some h1
theorem spT_mem {o k v : Nat} (h : spT o k = v) (hv : v ≠ 0) : ((o, k), v) ∈ spL := by
  unfold spT at h
  cases h1 : spL.find? fun q => q.1.1 == o && q.1.2 == k with
  | none => rw [h1] at h; exact absurd h.symm hv
  | some q =>
    rw [h1] at h
    obtain ⟨⟨o1, k1⟩, c1⟩ := q
    have h3 := List.find?_some h1
    simp only [Bool.and_eq_true, beq_iff_eq] at h3
    obtain ⟨rfl, rfl⟩ := h3
    cases h
    exact List.mem_of_find?_eq_some h1
theorem kIT_mem {o k : Nat} {v : Int} (h : kIT o k = some v) : ((o, k), v) ∈ kIL := by
  unfold kIT at h
  rw [Option.map_eq_some_iff] at h
  obtain ⟨⟨⟨o1, k1⟩, c1⟩, h1, h2⟩ := h
  have h3 := List.find?_some h1
  simp only [Bool.and_eq_true, beq_iff_eq] at h3
  obtain ⟨rfl, rfl⟩ := h3
  cases h2
  exact List.mem_of_find?_eq_some h1
theorem sp1_ok {o k : Nat} (h : spT o k = 1) : Cond.methodLink (oR o) k Lib.Math.max.name ∈ WS := by
  have h2 := spT_mem h (by decide)
  simp only [spL, List.mem_cons, List.not_mem_nil, or_false, Prod.mk.injEq] at h2
  rcases h2 with ⟨⟨rfl, rfl⟩, h2⟩ | ⟨⟨rfl, rfl⟩, h2⟩ | ⟨⟨rfl, rfl⟩, h2⟩ | ⟨⟨rfl, rfl⟩, h2⟩ | ⟨⟨rfl, rfl⟩, h2⟩ | ⟨⟨rfl, rfl⟩, h2⟩ | ⟨⟨rfl, rfl⟩, h2⟩ | ⟨⟨rfl, rfl⟩, h2⟩ | ⟨⟨rfl, rfl⟩, h2⟩ | ⟨⟨rfl, rfl⟩, h2⟩ | ⟨⟨rfl, rfl⟩, h2⟩ | ⟨⟨rfl, rfl⟩, h2⟩ | ⟨⟨rfl, rfl⟩, h2⟩ | ⟨⟨rfl, rfl⟩, h2⟩ | ⟨⟨rfl, rfl⟩, h2⟩ | ⟨⟨rfl, rfl⟩, h2⟩ | ⟨⟨rfl, rfl⟩, h2⟩
  · exact absurd h2 (by decide)
  · exact absurd h2 (by decide)
  · exact absurd h2 (by decide)
  · exact absurd h2 (by decide)
  · exact absurd h2 (by decide)
  · exact absurd h2 (by decide)
  · exact ws_of 692 (by decide +kernel) (by decide +kernel)
  · exact absurd h2 (by decide)
  · exact ws_of 910 (by decide +kernel) (by decide +kernel)
  · exact absurd h2 (by decide)
  · exact absurd h2 (by decide)
  · exact absurd h2 (by decide)
  · exact absurd h2 (by decide)
  · exact absurd h2 (by decide)
  · exact absurd h2 (by decide)
  · exact absurd h2 (by decide)
  · exact ws_of 302 (by decide +kernel) (by decide +kernel)
theorem sp2_ok {o k : Nat} (h : spT o k = 2) : Cond.methodLink (oR o) k Lib.Math.min.name ∈ WS := by
  have h2 := spT_mem h (by decide)
  simp only [spL, List.mem_cons, List.not_mem_nil, or_false, Prod.mk.injEq] at h2
  rcases h2 with ⟨⟨rfl, rfl⟩, h2⟩ | ⟨⟨rfl, rfl⟩, h2⟩ | ⟨⟨rfl, rfl⟩, h2⟩ | ⟨⟨rfl, rfl⟩, h2⟩ | ⟨⟨rfl, rfl⟩, h2⟩ | ⟨⟨rfl, rfl⟩, h2⟩ | ⟨⟨rfl, rfl⟩, h2⟩ | ⟨⟨rfl, rfl⟩, h2⟩ | ⟨⟨rfl, rfl⟩, h2⟩ | ⟨⟨rfl, rfl⟩, h2⟩ | ⟨⟨rfl, rfl⟩, h2⟩ | ⟨⟨rfl, rfl⟩, h2⟩ | ⟨⟨rfl, rfl⟩, h2⟩ | ⟨⟨rfl, rfl⟩, h2⟩ | ⟨⟨rfl, rfl⟩, h2⟩ | ⟨⟨rfl, rfl⟩, h2⟩ | ⟨⟨rfl, rfl⟩, h2⟩
  · exact absurd h2 (by decide)
  · exact absurd h2 (by decide)
  · exact ws_of 738 (by decide +kernel) (by decide +kernel)
  · exact absurd h2 (by decide)
  · exact absurd h2 (by decide)
  · exact absurd h2 (by decide)
  · exact absurd h2 (by decide)
  · exact absurd h2 (by decide)
  · exact absurd h2 (by decide)
  · exact ws_of 1080 (by decide +kernel) (by decide +kernel)
  · exact absurd h2 (by decide)
  · exact absurd h2 (by decide)
  · exact absurd h2 (by decide)
  · exact ws_of 602 (by decide +kernel) (by decide +kernel)
  · exact absurd h2 (by decide)
  · exact ws_of 319 (by decide +kernel) (by decide +kernel)
  · exact absurd h2 (by decide)
theorem sp3_ok {o k : Nat} (h : spT o k = 3) : Cond.methodLink (oR o) k arraycopyName ∈ WS := by
  have h2 := spT_mem h (by decide)
  simp only [spL, List.mem_cons, List.not_mem_nil, or_false, Prod.mk.injEq] at h2
  rcases h2 with ⟨⟨rfl, rfl⟩, h2⟩ | ⟨⟨rfl, rfl⟩, h2⟩ | ⟨⟨rfl, rfl⟩, h2⟩ | ⟨⟨rfl, rfl⟩, h2⟩ | ⟨⟨rfl, rfl⟩, h2⟩ | ⟨⟨rfl, rfl⟩, h2⟩ | ⟨⟨rfl, rfl⟩, h2⟩ | ⟨⟨rfl, rfl⟩, h2⟩ | ⟨⟨rfl, rfl⟩, h2⟩ | ⟨⟨rfl, rfl⟩, h2⟩ | ⟨⟨rfl, rfl⟩, h2⟩ | ⟨⟨rfl, rfl⟩, h2⟩ | ⟨⟨rfl, rfl⟩, h2⟩ | ⟨⟨rfl, rfl⟩, h2⟩ | ⟨⟨rfl, rfl⟩, h2⟩ | ⟨⟨rfl, rfl⟩, h2⟩ | ⟨⟨rfl, rfl⟩, h2⟩
  · exact absurd h2 (by decide)
  · exact absurd h2 (by decide)
  · exact absurd h2 (by decide)
  · exact absurd h2 (by decide)
  · exact ws_of 737 (by decide +kernel) (by decide +kernel)
  · exact absurd h2 (by decide)
  · exact absurd h2 (by decide)
  · exact absurd h2 (by decide)
  · exact absurd h2 (by decide)
  · exact absurd h2 (by decide)
  · exact absurd h2 (by decide)
  · exact absurd h2 (by decide)
  · exact absurd h2 (by decide)
  · exact absurd h2 (by decide)
  · exact absurd h2 (by decide)
  · exact absurd h2 (by decide)
  · exact absurd h2 (by decide)
theorem sp4_ok {o k : Nat} (h : spT o k = 4) : Cond.methodLink (oR o) k Lib.objectInit ∈ WS := by
  have h2 := spT_mem h (by decide)
  simp only [spL, List.mem_cons, List.not_mem_nil, or_false, Prod.mk.injEq] at h2
  rcases h2 with ⟨⟨rfl, rfl⟩, h2⟩ | ⟨⟨rfl, rfl⟩, h2⟩ | ⟨⟨rfl, rfl⟩, h2⟩ | ⟨⟨rfl, rfl⟩, h2⟩ | ⟨⟨rfl, rfl⟩, h2⟩ | ⟨⟨rfl, rfl⟩, h2⟩ | ⟨⟨rfl, rfl⟩, h2⟩ | ⟨⟨rfl, rfl⟩, h2⟩ | ⟨⟨rfl, rfl⟩, h2⟩ | ⟨⟨rfl, rfl⟩, h2⟩ | ⟨⟨rfl, rfl⟩, h2⟩ | ⟨⟨rfl, rfl⟩, h2⟩ | ⟨⟨rfl, rfl⟩, h2⟩ | ⟨⟨rfl, rfl⟩, h2⟩ | ⟨⟨rfl, rfl⟩, h2⟩ | ⟨⟨rfl, rfl⟩, h2⟩ | ⟨⟨rfl, rfl⟩, h2⟩
  · exact ws_of 162 (by decide +kernel) (by decide +kernel)
  · exact ws_of 105 (by decide +kernel) (by decide +kernel)
  · exact absurd h2 (by decide)
  · exact ws_of 41 (by decide +kernel) (by decide +kernel)
  · exact absurd h2 (by decide)
  · exact ws_of 125 (by decide +kernel) (by decide +kernel)
  · exact absurd h2 (by decide)
  · exact ws_of 30 (by decide +kernel) (by decide +kernel)
  · exact absurd h2 (by decide)
  · exact absurd h2 (by decide)
  · exact ws_of 471 (by decide +kernel) (by decide +kernel)
  · exact absurd h2 (by decide)
  · exact ws_of 253 (by decide +kernel) (by decide +kernel)
  · exact absurd h2 (by decide)
  · exact absurd h2 (by decide)
  · exact absurd h2 (by decide)
  · exact absurd h2 (by decide)
theorem sp5_ok {o k : Nat} (h : spT o k = 5) : Cond.methodLink (oR o) k arraycopyName ∈ WS := by
  have h2 := spT_mem h (by decide)
  simp only [spL, List.mem_cons, List.not_mem_nil, or_false, Prod.mk.injEq] at h2
  rcases h2 with ⟨⟨rfl, rfl⟩, h2⟩ | ⟨⟨rfl, rfl⟩, h2⟩ | ⟨⟨rfl, rfl⟩, h2⟩ | ⟨⟨rfl, rfl⟩, h2⟩ | ⟨⟨rfl, rfl⟩, h2⟩ | ⟨⟨rfl, rfl⟩, h2⟩ | ⟨⟨rfl, rfl⟩, h2⟩ | ⟨⟨rfl, rfl⟩, h2⟩ | ⟨⟨rfl, rfl⟩, h2⟩ | ⟨⟨rfl, rfl⟩, h2⟩ | ⟨⟨rfl, rfl⟩, h2⟩ | ⟨⟨rfl, rfl⟩, h2⟩ | ⟨⟨rfl, rfl⟩, h2⟩ | ⟨⟨rfl, rfl⟩, h2⟩ | ⟨⟨rfl, rfl⟩, h2⟩ | ⟨⟨rfl, rfl⟩, h2⟩ | ⟨⟨rfl, rfl⟩, h2⟩
  · exact absurd h2 (by decide)
  · exact absurd h2 (by decide)
  · exact absurd h2 (by decide)
  · exact absurd h2 (by decide)
  · exact absurd h2 (by decide)
  · exact absurd h2 (by decide)
  · exact absurd h2 (by decide)
  · exact absurd h2 (by decide)
  · exact absurd h2 (by decide)
  · exact absurd h2 (by decide)
  · exact absurd h2 (by decide)
  · exact ws_of 388 (by decide +kernel) (by decide +kernel)
  · exact absurd h2 (by decide)
  · exact absurd h2 (by decide)
  · exact ws_of 322 (by decide +kernel) (by decide +kernel)
  · exact absurd h2 (by decide)
  · exact absurd h2 (by decide)
theorem jm_max : Cond.static Lib.Math.max.name ∈ WS ∧ Cond.initialized "java/lang/Math" ∈ WS ∧ Cond.code Lib.Math.max.name Lib.Math.max.code 2 (some .int) ∈ WS := ⟨ws_of 303 (by decide +kernel) (by decide +kernel), ws_of 12 (by decide +kernel) (by decide +kernel), ws_of 304 (by decide +kernel) (by decide +kernel)⟩
theorem jm_min : Cond.static Lib.Math.min.name ∈ WS ∧ Cond.initialized "java/lang/Math" ∈ WS ∧ Cond.code Lib.Math.min.name Lib.Math.min.code 2 (some .int) ∈ WS := ⟨ws_of 320 (by decide +kernel) (by decide +kernel), ws_of 12 (by decide +kernel) (by decide +kernel), ws_of 321 (by decide +kernel) (by decide +kernel)⟩
theorem jm_cpy : Cond.static arraycopyName ∈ WS ∧ Cond.native arraycopyName ∈ WS ∧ Cond.initialized "java/lang/System" ∈ WS := ⟨ws_of 323 (by decide +kernel) (by decide +kernel), ws_of 324 (by decide +kernel) (by decide +kernel), ws_of 6 (by decide +kernel) (by decide +kernel)⟩
theorem jm_obj : Cond.instanceMethod Lib.objectInit ∈ WS ∧ Cond.code Lib.objectInit ⟨#[0xb1]⟩ 1 none ∈ WS := ⟨ws_of 31 (by decide +kernel) (by decide +kernel), ws_of 32 (by decide +kernel) (by decide +kernel)⟩
theorem jm_k : ∀ q ∈ kIL, Cond.constant (oR q.1.1) q.1.2 (Int32.ofInt q.2) ∈ WS := List.forall_mem_cons.mpr ⟨ws_of 264 (by decide +kernel) (by decide +kernel), List.forall_mem_cons.mpr ⟨ws_of 265 (by decide +kernel) (by decide +kernel), List.forall_mem_cons.mpr ⟨ws_of 305 (by decide +kernel) (by decide +kernel), List.forall_mem_cons.mpr ⟨ws_of 449 (by decide +kernel) (by decide +kernel), List.forall_mem_cons.mpr ⟨ws_of 951 (by decide +kernel) (by decide +kernel), List.forall_mem_cons.mpr ⟨ws_of 952 (by decide +kernel) (by decide +kernel), List.forall_mem_cons.mpr ⟨ws_of 953 (by decide +kernel) (by decide +kernel), fun _ h => absurd h List.not_mem_nil⟩⟩⟩⟩⟩⟩⟩
theorem jm_l : Cond.constantLong (oR 0) 84 (-7046029254386353131) ∈ WS := ws_of 894 (by decide +kernel) (by decide +kernel)
theorem jm_ai : Cond.arrayClass .int ∈ WS ∧ Cond.arrayClass .byte ∈ WS ∧ Cond.arrayClass .long ∈ WS := ⟨ws_of 84 (by decide +kernel) (by decide +kernel), ws_of 156 (by decide +kernel) (by decide +kernel), ws_of 197 (by decide +kernel) (by decide +kernel)⟩
theorem jm_hn : Cond.classLink (oR 1) 9 "PetriNet$Net" ∈ WS := ws_of 106 (by decide +kernel) (by decide +kernel)
theorem jm_mm : Cond.classLink (oR 6) 242 "[[I" ∈ WS := ws_of 1081 (by decide +kernel) (by decide +kernel)
theorem jm_cs : Cond.fieldLink (oR 11) 18 "java/lang/String" "COMPACT_STRINGS" "Z" ∈ WS := ws_of 330 (by decide +kernel) (by decide +kernel)
theorem jm_dg : Cond.fieldLink (oR 7) 83 "java/lang/Integer" "DigitOnes" "[B" ∈ WS := ws_of 415 (by decide +kernel) (by decide +kernel)
theorem jm_sv : Cond.fieldLink (oR 8) 9 "java/lang/String" "value" "[B" ∈ WS ∧ Cond.fieldLink (oR 8) 15 "java/lang/String" "coder" "B" ∈ WS ∧ Cond.fieldLink (oR 8) 38 "java/lang/String" "COMPACT_STRINGS" "Z" ∈ WS ∧ Cond.fieldLink (oR 8) 1053 "jdk/internal/util/Preconditions" "SIOOBE_FORMATTER" "Ljava/util/function/BiFunction;" ∈ WS := ⟨ws_of 581 (by decide +kernel) (by decide +kernel), ws_of 582 (by decide +kernel) (by decide +kernel), ws_of 262 (by decide +kernel) (by decide +kernel), ws_of 343 (by decide +kernel) (by decide +kernel)⟩
section SNN
variable {x : CX} {q : MS} {o : Nat} {post : Option Value → MH → Prop} {xp : String → MH → Prop} {pc : Nat} {b : Nat × Nat} {L st : List Value} {h : MH}
theorem RP.new {H H1 : Heap} {kd n : Nat} (hR : RP x h H) (hz : xz x ≤ H.size) (z1 : H1.size = H.size + 1) (o1 : ∀ q : Nat, q < H.size → H1[q]? = H[q]?)
    (ho : ∀ c, c < 7 → kd = c + 1 → t_OB H.size (xC x c) (eN c) (xS x c) H1 (fun k => if eRef c k = true then .null else .int 0))
    (ha : ∀ t, t < 5 → kd = t + 11 → H1[H.size]? = some (arrV (xT x t) n (fun _ => match t with | 0 => .int 0 | 1 => .int 0 | 2 => .long 0 | _ => .null))) : RP x (sN h kd n) H1 := by
  have hsz := hR.1
  unfold mZ at hsz
  refine ⟨by rw [z1, hR.1]; rfl, fun a hk => ?_, fun a c hc hk => ?_, fun a t ht hk => ?_⟩
  · by_cases e : a = h.1
    · rw [e, ← hsz]; exact hz
    · refine hR.2.1 a ?_
      have e2 : mK (sN h kd n) a = mK h a := if_neg e
      rw [← e2]
      exact hk
  · by_cases e : a = h.1
    · have e2 : mK (sN h kd n) a = kd := if_pos e
      rw [e2] at hk
      rw [e, ← hsz]
      refine (ho c hc hk).to fun k _ => ?_
      show _ = (if eRef c k = true then rv (if H.size = h.1 then 0 else _) else .int (if H.size = h.1 then 0 else _))
      rw [if_pos hsz, if_pos hsz]
      rfl
    · have e2 : mK (sN h kd n) a = mK h a := if_neg e
      rw [e2] at hk
      refine ((hR.obj hc hk).kept (o1 a (hR.lt hc hk))).to fun k _ => ?_
      show (if _ then rv _ else Value.int _) = (if eRef c k = true then rv (if a = h.1 then 0 else _) else .int (if a = h.1 then 0 else _))
      rw [if_neg e, if_neg e]
      rfl
  · by_cases e : a = h.1
    · have e2 : mK (sN h kd n) a = kd := if_pos e
      rw [e2] at hk
      have e3 : mL (sN h kd n) a = n := if_pos e
      rw [e3, e, ← hsz, ha t ht hk]
      refine congrArg some (arrV_cong fun j => ?_)
      match t, ht with
      | 0, _ => exact congrArg Value.int (if_pos hsz).symm
      | 1, _ => exact congrArg Value.int (if_pos hsz).symm
      | 2, _ => exact congrArg Value.long (if_pos hsz).symm
      | 3, _ => exact (congrArg rv (if_pos hsz : (if H.size = h.1 then 0 else _) = 0)).symm
      | 4, _ => exact (congrArg rv (if_pos hsz : (if H.size = h.1 then 0 else _) = 0)).symm
    · have e2 : mK (sN h kd n) a = mK h a := if_neg e
      have e3 : mL (sN h kd n) a = mL h a := if_neg e
      rw [e2] at hk
      rw [e3, o1 a (hR.alt ht hk), hR.arr ht hk]
      refine congrArg some (arrV_cong fun j => ?_)
      match t, ht with
      | 0, _ => exact congrArg Value.int (if_neg e).symm
      | 1, _ => exact congrArg Value.int (if_neg e).symm
      | 2, _ => exact congrArg Value.long (if_neg e).symm
      | 3, _ => exact (congrArg rv (if_neg e : (if a = h.1 then 0 else _) = mP h a j)).symm
      | 4, _ => exact (congrArg rv (if_neg e : (if a = h.1 then 0 else _) = mP h a j)).symm
theorem va_S.grow {s : State} {H H1 : Heap} {locs : List Loc} (hS : va_S (xA x) s.heap H locs) (z1 : H.size ≤ H1.size) (o1 : ∀ q : Nat, q < H.size → H1[q]? = H[q]?) : va_S (xA x) s.heap H1 locs :=
  ⟨Nat.le_trans hS.1 z1, fun y h1 h2 => (o1 y (Nat.lt_of_lt_of_le h1 hS.1)).trans (hS.2.1 y h1 h2), hS.2.2⟩
theorem eDef : ∀ c, c < 7 → ∀ k, k < eN c → defaultValue (eTy c k) = (if eRef c k = true then .null else .int 0) := by decide +kernel
theorem M_new {k : Nat} (hd : decode q.2.1 pc = .ok (.new k, 3)) (hs : stepE x q o post xp (.new k) 3 pc b L st h (MW x q o post xp)) : MW x q o post xp pc b L st h := by
  intro p e s m args below meth c0 H locs cells slots ls hB hR hS hL h1 h2
  cases hf : cT o k with
  | none => simp only [stepE, hf] at hs
  | some c =>
    simp only [stepE, hf] at hs
    obtain ⟨c1, c2, hs⟩ := hs
    obtain ⟨hc, g1, g2, g3⟩ := cT_ok _ (cT_mem hf)
    dsimp only at hc g1 g2 g3
    have hts := hB.2.2.2.2.1
    have hG := hB.2.2.2.2.2.2.2.2.2
    have hKn := hG.1 c hc
    have hz : xz x ≤ H.size := Nat.le_trans hG.2.2.2.2.2.2.2.2.2.2.1 hS.1
    refine W.newcK hB.1 hB.2.1 hB.2.2.2.2.2.1 (hts _ g1) (hts _ g2) (hts _ g3) rfl hd (by show _ ≤ q.2.2.2.2.2.2.2.1; omega) (by show _ ≤ q.2.2.2.2.2.2.2.2; omega) hKn.2.1 rfl fun H1 kC hkC e1 z1 o1 => ?_
    have hr := hs p e s m args below meth c0 H1 locs (cells + 1) (slots + eN c) ls hB (hR.new hz z1 o1 (fun c9 hc9 hk9 => ?_) (fun t ht hk9 => by omega)) (hS.grow (by omega) o1) hL (by show _ + (b.1 - 1) ≤ _; omega) (by show _ + (b.2 - eN c) ≤ _; omega)
    · rw [← hR.1] at hr
      exact hr
    · have : c9 = c := by omega
      subst this
      exact (u_born (eTy c9) hts (okW hc) hKn hkC e1 (eTy_ok hc)).to fun k hk => eDef c9 hc k hk
theorem M_newarray {t : ArrayType} (hd : decode q.2.1 pc = .ok (.newarray t, 2)) (hs : stepE x q o post xp (.newarray t) 2 pc b L st h (MW x q o post xp)) : MW x q o post xp pc b L st h := by
  intro p e s m args below meth c0 H locs cells slots ls hB hR hS hL h1 h2
  obtain ⟨n, r, rfl, hk, hn, hn2, c1, c2, hs⟩ := popI_e hs
  have hts := hB.2.2.2.2.1
  have hG := hB.2.2.2.2.2.2.2.2.2
  have hz : xz x ≤ H.size := Nat.le_trans hG.2.2.2.2.2.2.2.2.2.2.1 hS.1
  have key : ∀ (t0 : Nat) (ty : FieldType) (dv : Value), newarray.typeOf t = ty → arK t = t0 + 11 → t0 < 3 → aTy t0 = ty → defaultValue ty = dv → (Cond.arrayClass ty).before args s = true → componentBytes ty ≤ 8 → dv = (match t0 with | 0 => .int 0 | 1 => .int 0 | 2 => .long 0 | _ => .null) →
      W p x.1 e (rmE q) s m args below meth c0 H locs cells slots (vx_MQ below (QcE x post) (XcE x xp) args s q.2.2.2.2.2.2.2.1 q.2.2.2.2.2.2.2.2 (xA x)) (F0 m pc ls (.int n :: r)) := by
    intro t0 ty dv e1 e2 e3 e4 e5 e6 e7 e8
    subst e1
    refine va_newaK hB.1 hB.2.1 e6 rfl hd rfl hn rfl (by have := Nat.mul_le_mul hn2 e7; omega) (by show _ ≤ q.2.2.2.2.2.2.2.1; omega) (by show _ ≤ q.2.2.2.2.2.2.2.2; omega) rfl fun H1 cA g1 z1 o1 hAr hNm => ?_
    have hcA : cA = xT x t0 := by
      have h9 := (hG.2.1 t0 (by omega)).2
      rw [e4] at h9
      match t0, e3, e4, h9 with
      | 0, _, e4, h9 => rw [← e4] at h9 hNm; exact (Option.some.inj ((h9 : s.vm.findClass _ = _).symm.trans hNm)).symm
      | 1, _, e4, h9 => rw [← e4] at h9 hNm; exact (Option.some.inj ((h9 : s.vm.findClass _ = _).symm.trans hNm)).symm
      | 2, _, e4, h9 => rw [← e4] at h9 hNm; exact (Option.some.inj ((h9 : s.vm.findClass _ = _).symm.trans hNm)).symm
    have hr := hs p e s m args below meth c0 H1 locs (cells + 1) (slots + n.toNatClampNeg) ls hB (hR.new hz z1 o1 (fun c9 hc9 hk9 => by omega) (fun t9 ht hk9 => ?_)) (hS.grow (by omega) o1) hL (by show _ + (b.1 - 1) ≤ _; omega) (by show _ + (b.2 - _) ≤ _; omega)
    · rw [← hR.1] at hr
      exact hr
    · have : t9 = t0 := by omega
      subst this
      rw [g1, hcA]
      refine congrArg some (arrV_cong fun j => ?_)
      rw [e5, e8]
  have hai := jm_ai
  cases t with
  | int => exact key 0 .int (.int 0) rfl rfl (by decide) rfl rfl (hts _ hai.1) (by decide) rfl
  | byte => exact key 1 .byte (.int 0) rfl rfl (by decide) rfl rfl (hts _ hai.2.1) (by decide) rfl
  | long => exact key 2 .long (.long 0) rfl rfl (by decide) rfl rfl (hts _ hai.2.2) (by decide) rfl
  | _ => exact absurd rfl hk
theorem M_anewarray {k : Nat} (hd : decode q.2.1 pc = .ok (.anewarray k, 3)) (hs : stepE x q o post xp (.anewarray k) 3 pc b L st h (MW x q o post xp)) : MW x q o post xp pc b L st h := by
  intro p e s m args below meth c0 H locs cells slots ls hB hR hS hL h1 h2
  obtain ⟨n, r, rfl, rfl, rfl, hn, hn2, c1, c2, hs⟩ := popI_e hs
  have hts := hB.2.2.2.2.1
  have hG := hB.2.2.2.2.2.2.2.2.2
  have hz : xz x ≤ H.size := Nat.le_trans hG.2.2.2.2.2.2.2.2.2.2.1 hS.1
  refine W.anew hB.1 hB.2.1 hB.2.2.2.2.2.1 (hts _ jm_hn) (va_AO.use hG.2.2.2.2.2.2.2.2.2.2.2.2.2.1) rfl hd rfl hn (by omega) (by show _ ≤ q.2.2.2.2.2.2.2.1; omega) (by show _ ≤ q.2.2.2.2.2.2.2.2; omega) fun cA kA comp f1 f2 f3 f4 => ?_
  generalize hH1 : H.push ({ cls := cA, slots := Array.replicate n.toNatClampNeg .null, vm := .none } : Cell) = H1
  have z1 : H1.size = H.size + 1 := by rw [← hH1, Array.size_push]
  have e1 : H1[H.size]? = some (arrV cA n.toNatClampNeg (fun _ => .null)) := by rw [← hH1, Array.getElem?_push_size, ← arrV_new]
  have o1 : ∀ q : Nat, q < H.size → H1[q]? = H[q]? := fun q hq => by rw [← hH1, Array.getElem?_push, if_neg (Nat.ne_of_lt hq)]
  have hcA : cA = xT x 3 := by
    obtain ⟨kA9, comp9, -, -, -, k4⟩ := (hG.2.1 3 (by decide)).2
    exact (Option.some.inj (k4.symm.trans f1)).symm
  have hr := hs p e s m args below meth c0 H1 locs (cells + 1) (slots + n.toNatClampNeg) ls hB (hR.new hz z1 o1 (fun c9 hc9 hk9 => by omega) (fun t9 ht hk9 => ?_)) (hS.grow (by omega) o1) hL (by show _ + (b.1 - 1) ≤ _; omega) (by show _ + (b.2 - _) ≤ _; omega)
  · rw [← hR.1] at hr
    exact hr
  · have : t9 = 3 := by omega
    subst this
    rw [e1, hcA]
    rfl
theorem M_objInit {k : Nat} (hk : spT o k = 4) (hdp : 0 < q.2.2.2.2.2.2.1) (hd : decode q.2.1 pc = .ok (.invokespecial k, 3)) (hs : stepE x q o post xp .monitorenter 3 pc b L st h (MW x q o post xp)) : MW x q o post xp pc b L st h := by
  intro p e s m args below meth c0 H locs cells slots ls hB hR hS hL h1 h2
  obtain ⟨a, r, rfl, hcat, hs⟩ := popR_e hs
  rw [catS_eq] at hcat
  have hts := hB.2.2.2.2.1
  exact W.objInit hB.1 hB.2.1 hB.2.2.2.2.2.1 (hts _ (sp4_ok hk)) (hts _ jm_obj.1) (hts _ jm_obj.2) rfl (hL.1.1.trans hB.2.2.1.symm) rfl hd (by show 1 ≤ q.2.2.2.2.2.2.1 + 1; omega) (by show 2 * 0 + _ + 12 ≤ 40 * (q.2.2.2.2.2.2.1 + 1); omega) (hs p e s m args below meth c0 H locs cells slots ls hB hR hS hL h1 h2)
theorem M_max {k : Nat} (hk : spT o k = 1) (hd : decode q.2.1 pc = .ok (.invokestatic k, 3)) (hs : stepE x q o post xp .frem 3 pc b L st h (MW x q o post xp)) : MW x q o post xp pc b L st h := by
  intro p e s m args below meth c0 H locs cells slots ls hB hR hS hL h1 h2
  obtain ⟨u, r, rfl, hs⟩ := popI_e hs
  obtain ⟨v, r, rfl, hcat, hs⟩ := popI_e hs
  rw [catS_eq] at hcat
  have hts := hB.2.2.2.2.1
  exact va_mmax hB.1 hB.2.1 (hB.2.2.1.trans hL.1.1.symm) hB.2.2.2.2.2.1 (hts _ (sp1_ok hk)) (hts _ jm_max.1) (hts _ jm_max.2.1) (hts _ jm_max.2.2) (by show 1 ≤ q.2.2.2.2.2.2.1 + 1; omega) (by show _ + 13 ≤ 40 * (q.2.2.2.2.2.2.1 + 1); omega) (by show _ ≤ q.2.2.2.2.2.2.2.1; omega) (by show _ ≤ q.2.2.2.2.2.2.2.2; omega) hd (hs p e s m args below meth c0 H locs cells slots ls hB hR hS hL h1 h2)
theorem M_min {k : Nat} (hk : spT o k = 2) (hd : decode q.2.1 pc = .ok (.invokestatic k, 3)) (hs : stepE x q o post xp .drem 3 pc b L st h (MW x q o post xp)) : MW x q o post xp pc b L st h := by
  intro p e s m args below meth c0 H locs cells slots ls hB hR hS hL h1 h2
  obtain ⟨u, r, rfl, hs⟩ := popI_e hs
  obtain ⟨v, r, rfl, hcat, hs⟩ := popI_e hs
  rw [catS_eq] at hcat
  have hts := hB.2.2.2.2.1
  exact va_mmin hB.1 hB.2.1 (hB.2.2.1.trans hL.1.1.symm) hB.2.2.2.2.2.1 (hts _ (sp2_ok hk)) (hts _ jm_min.1) (hts _ jm_min.2.1) (hts _ jm_min.2.2) (by show 1 ≤ q.2.2.2.2.2.2.1 + 1; omega) (by show _ + 13 ≤ 40 * (q.2.2.2.2.2.2.1 + 1); omega) (by show _ ≤ q.2.2.2.2.2.2.2.1; omega) (by show _ ≤ q.2.2.2.2.2.2.2.2; omega) hd (hs p e s m args below meth c0 H locs cells slots ls hB hR hS hL h1 h2)
theorem M_ldcw {k : Nat} {n : Int} (hk : kIT o k = some n) (hd : decode q.2.1 pc = .ok (.ldc_w k, 3)) (hs : stepE x q o post xp (.iconst n) 3 pc b L st h (MW x q o post xp)) : MW x q o post xp pc b L st h := by
  intro p e s m args below meth c0 H locs cells slots ls hB hR hS hL h1 h2
  have hts := hB.2.2.2.2.1
  exact lv_ldcw hB.1 hB.2.1 hB.2.2.2.2.2.1 (hts _ (jm_k _ (kIT_mem hk))) hd (hs p e s m args below meth c0 H locs cells slots ls hB hR hS hL h1 h2)
theorem M_ldcI {k : Nat} {n : Int} (hk : kIT o k = some n) (hd : decode q.2.1 pc = .ok (.ldc k, 2)) (hs : stepE x q o post xp (.iconst n) 2 pc b L st h (MW x q o post xp)) : MW x q o post xp pc b L st h := by
  intro p e s m args below meth c0 H locs cells slots ls hB hR hS hL h1 h2
  have hts := hB.2.2.2.2.1
  exact lv_ldc hB.1 hB.2.1 hB.2.2.2.2.2.1 (hts _ (jm_k _ (kIT_mem hk))) hd (hs p e s m args below meth c0 H locs cells slots ls hB hR hS hL h1 h2)
theorem M_ldc2 {k : Nat} (hd : decode q.2.1 pc = .ok (.ldc2_w k, 3)) (hs : stepE x q o post xp (.ldc2_w k) 3 pc b L st h (MW x q o post xp)) : MW x q o post xp pc b L st h := by
  intro p e s m args below meth c0 H locs cells slots ls hB hR hS hL h1 h2
  obtain ⟨rfl, rfl, hs⟩ := hs
  have hts := hB.2.2.2.2.1
  exact lv_ldc2 hB.1 hB.2.1 hB.2.2.2.2.2.1 (hts _ jm_l) hd (hs p e s m args below meth c0 H locs cells slots ls hB hR hS hL h1 h2)
theorem sIx_ok {o k : Nat} (h : sIx o k < 19) : (eS.getD (sIx o k) (0, 0, "")).1 = o ∧ (eS.getD (sIx o k) (0, 0, "")).2.1 = k := by
  have h1 : sIx o k < eS.length := h
  have h2 := List.findIdx_getElem (w := h1)
  simp only [Bool.and_eq_true, beq_iff_eq] at h2
  have e : eS.getD (sIx o k) (0, 0, "") = eS[sIx o k] := by rw [List.getD_eq_getElem?_getD, List.getElem?_eq_getElem h1]; rfl
  rw [e]
  exact h2
theorem M_ldcS {k : Nat} (hk : sIx o k < 19) (hd : decode q.2.1 pc = .ok (.ldc k, 2)) (hs : stepE x q o post xp (.ldc (sIx o k)) 2 pc b L st h (MW x q o post xp)) : MW x q o post xp pc b L st h := by
  intro p e s m args below meth c0 H locs cells slots ls hB hR hS hL h1 h2
  have hG := hB.2.2.2.2.2.2.2.2.2
  have hstr := hG.2.2.2.2.1 _ hk
  rw [(sIx_ok hk).1, (sIx_ok hk).2] at hstr
  exact va_ldcS hB.1 hB.2.1 hB.2.2.2.2.2.1 hstr hd (hs p e s m args below meth c0 H locs cells slots ls hB hR hS hL h1 h2)
theorem M_ldcSW {k : Nat} (hk : sIx o k < 19) (hd : decode q.2.1 pc = .ok (.ldc_w k, 3)) (hs : stepE x q o post xp (.ldc (sIx o k)) 3 pc b L st h (MW x q o post xp)) : MW x q o post xp pc b L st h := by
  intro p e s m args below meth c0 H locs cells slots ls hB hR hS hL h1 h2
  have hG := hB.2.2.2.2.2.2.2.2.2
  have hstr := hG.2.2.2.2.1 _ hk
  rw [(sIx_ok hk).1, (sIx_ok hk).2] at hstr
  intro T hT X
  obtain ⟨t, a1, b1⟩ := hs p e s m args below meth c0 H locs cells slots ls hB hR hS hL h1 h2 T hT X
  exact ⟨t, X.ldcStringW hB.1 hB.2.2.2.2.2.1 hstr.1 hstr.2 (g := F0 m pc ls st) rfl (by rw [hB.2.1]; exact hd) t a1, b1⟩
theorem M_getstatic1 (ho : o = 8) (hd : decode q.2.1 pc = .ok (.getstatic 38, 3)) (hs : stepE x q o post xp (.iconst 1) 3 pc b L st h (MW x q o post xp)) : MW x q o post xp pc b L st h := by
  subst ho
  intro p e s m args below meth c0 H locs cells slots ls hB hR hS hL h1 h2
  have hG := hB.2.2.2.2.2.2.2.2.2
  have hts := hB.2.2.2.2.1
  exact va_gets hB.1 hB.2.1 hG.2.2.2.2.2.2.1 hS hB.2.2.2.2.2.1 (hts _ jm_sv.2.2.1) (fun _ h => h) hd (hs p e s m args below meth c0 H locs cells slots ls hB hR hS hL h1 h2)
theorem M_getstatic2 (ho : o = 8) (hd : decode q.2.1 pc = .ok (.getstatic 1053, 3)) (hs : stepE x q o post xp (.getstatic 1053) 3 pc b L st h (MW x q o post xp)) : MW x q o post xp pc b L st h := by
  subst ho
  intro p e s m args below meth c0 H locs cells slots ls hB hR hS hL h1 h2
  have hG := hB.2.2.2.2.2.2.2.2.2
  have hts := hB.2.2.2.2.1
  rcases hG.2.2.2.2.2.2.2.1 with hz | ⟨t, hz⟩
  · exact va_gets hB.1 hB.2.1 hz hS hB.2.2.2.2.2.1 (hts _ jm_sv.2.2.2) (fun _ h => h) hd (hs .null rfl p e s m args below meth c0 H locs cells slots ls hB hR hS hL h1 h2)
  · exact va_gets hB.1 hB.2.1 hz hS hB.2.2.2.2.2.1 (hts _ jm_sv.2.2.2) (fun _ h => h) hd (hs (.ref t) rfl p e s m args below meth c0 H locs cells slots ls hB hR hS hL h1 h2)
theorem M_getstatic3 (ho : o = 11) (hd : decode q.2.1 pc = .ok (.getstatic 18, 3)) (hs : stepE x q o post xp (.iconst 1) 3 pc b L st h (MW x q o post xp)) : MW x q o post xp pc b L st h := by
  subst ho
  intro p e s m args below meth c0 H locs cells slots ls hB hR hS hL h1 h2
  have hG := hB.2.2.2.2.2.2.2.2.2
  have hts := hB.2.2.2.2.1
  exact va_gets hB.1 hB.2.1 hG.2.2.2.2.2.2.1 hS hB.2.2.2.2.2.1 (hts _ jm_cs) (fun _ h => h) hd (hs p e s m args below meth c0 H locs cells slots ls hB hR hS hL h1 h2)
theorem M_getstatic4 (ho : o = 7) (hd : decode q.2.1 pc = .ok (.getstatic 83, 3)) (hs : stepE x q o post xp .d2f 3 pc b L st h (MW x q o post xp)) : MW x q o post xp pc b L st h := by
  subst ho
  intro p e s m args below meth c0 H locs cells slots ls hB hR hS hL h1 h2
  have hG := hB.2.2.2.2.2.2.2.2.2
  have hts := hB.2.2.2.2.1
  exact va_gets hB.1 hB.2.1 (GF_d1 hG) hS hB.2.2.2.2.2.1 (hts _ jm_dg) (fun _ h => h) hd (hs p e s m args below meth c0 H locs cells slots ls hB hR hS hL h1 h2)
/-- a String's field: a constant's or one of our own -/
theorem M_str {f : Int} {k j : Nat} (ho : o = 8) (hkj : (k = 9 ∧ f = 0 ∧ j = 0) ∨ (k = 15 ∧ f = 1 ∧ j = 1)) (hd : decode q.2.1 pc = .ok (.getfield k, 3)) (hs : stepE x q o post xp (.jsr f) 3 pc b L st h (MW x q o post xp)) : MW x q o post xp pc b L st h := by
  subst ho
  by_cases hex : ∃ a r, st = .ref a :: r ∧ mK h a = 7 ∧ mI h a 1 = 0 ∧ mP h a 0 ≠ 0 ∧ MW x q 8 post xp (pc + 3) b L ((if f = 0 then .ref (mP h a 0) else .int 0) :: r) h
  · obtain ⟨a, r, rfl, k1, k2, k3, k4⟩ := hex
    refine M_getfield hd ?_
    rcases hkj with ⟨rfl, rfl, rfl⟩ | ⟨rfl, rfl, rfl⟩
    · exact ⟨k1, k3, k4⟩
    · refine ⟨k1, ?_⟩
      rw [← k2] at k4
      exact k4
  · intro p e s m args below meth c0 H locs cells slots ls hB hR hS hL h1 h2
    obtain ⟨a, r, rfl, v, hv, hs9⟩ := popR_e hs
    have hG := hB.2.2.2.2.2.2.2.2.2
    have hts := hB.2.2.2.2.1
    rcases hv with ⟨n, hn, rfl, rfl⟩ | ⟨k1, k2, rfl, k4⟩
    · rcases hkj with ⟨rfl, rfl, rfl⟩ | ⟨rfl, rfl, rfl⟩
      · exact vk_getf hB.1 hB.2.1 (hG.2.2.2.2.2.1 n hn).2.2.1 hS hB.2.2.2.2.2.1 (hts _ jm_sv.1) (fun _ h => h) hd (hs9 p e s m args below meth c0 H locs cells slots ls hB hR hS hL h1 h2)
      · exact vk_getf hB.1 hB.2.1 (hG.2.2.2.2.2.1 n hn).2.1 hS hB.2.2.2.2.2.1 (hts _ jm_sv.2.1) (fun _ h => h) hd (hs9 p e s m args below meth c0 H locs cells slots ls hB hR hS hL h1 h2)
    · exact absurd ⟨a, r, rfl, k1, k2, k4, hs9⟩ hex
/-- a row of bytes, where it lies -/
theorem BV_cell {s : State} {H : Heap} {locs : List Loc} {a n : Nat} {f : Nat → Int32} (hG : GF x s s.heap) (hS : va_S (xA x) s.heap H locs) (hR : RP x h H) (hb : BV x h a n f) : ∃ cell : Cell, H[a]? = some cell ∧ s.isArrayOf cell .byte ∧ cell.vm ≠ .unknown ∧ n ≤ cell.slots.size ∧ cell.slots.size.toInt32 = Int32.ofNat n ∧ ∀ j, j < n → cell.slots[j]? = some (.int (f j)) := by
  rcases hb with ⟨i, hi, rfl, rfl, rfl⟩ | ⟨k1, rfl, rfl⟩ | ⟨rfl, rfl, rfl⟩
  · obtain ⟨scr, k1, k2, k3, k4, k5, k6, k7⟩ := (hG.2.2.2.2.2.1 i hi).2.2.2.kept hS.2.1
    exact ⟨scr, k1, k2, k3, k4, k5, k6⟩
  · refine ⟨_, hR.arr (t := 1) (by decide) k1, (hG.2.1 1 (by decide)).1 _ _, (fun z => by cases z), Nat.le_of_eq (arrV_size _ _ _).symm, ?_, fun j hj => by rw [arrV_read _ _ hj]; rfl⟩
    exact congrArg Int32.ofNat (arrV_size _ _ _)
  · obtain ⟨scr, k1, k2, k3, k4, k5, k6, k7⟩ := (GF_d2 hG).kept hS.2.1
    exact ⟨scr, k1, k2, k3, k4, k5, k6⟩
theorem M_strB (hd : decode q.2.1 pc = .ok (.baload, 1)) (hs : stepE x q o post xp .saload 1 pc b L st h (MW x q o post xp)) : MW x q o post xp pc b L st h := by
  intro p e s m args below meth c0 H locs cells slots ls hB hR hS hL h1 h2
  obtain ⟨j, r, rfl, hs⟩ := popI_e hs
  obtain ⟨a, r, rfl, n, f, hb, hv, hn31, hs⟩ := popR_e hs
  obtain ⟨scr, k1, k2, k3, k4, k5, k6⟩ := BV_cell hB.2.2.2.2.2.2.2.2.2 hS hR hb
  have hlt : j.toNatClampNeg < n := Nat.not_le.mp fun z => hv (Or.inr z)
  refine W.bald (v := .int (f j.toNatClampNeg)) hB.1 hB.2.1 k1 k2 k3 (fun z => ?_) (k6 _ hlt) rfl rfl hd (hs p e s m args below meth c0 H locs cells slots ls hB hR hS hL h1 h2)
  rcases z with z | z
  · exact hv (Or.inl z)
  · omega
theorem M_strL (hd : decode q.2.1 pc = .ok (.arraylength, 1)) (hs : stepE x q o post xp .faload 1 pc b L st h (MW x q o post xp)) : MW x q o post xp pc b L st h := by
  intro p e s m args below meth c0 H locs cells slots ls hB hR hS hL h1 h2
  obtain ⟨a, r, rfl, n, f, hb, hs9⟩ := popR_e hs
  obtain ⟨scr, k1, k2, k3, k4, k5, k6⟩ := BV_cell hB.2.2.2.2.2.2.2.2.2 hS hR hb
  exact W.alen hB.1 hB.2.1 k1 k2 k5 rfl rfl hd (hs9 p e s m args below meth c0 H locs cells slots ls hB hR hS hL h1 h2)
theorem M_icald (hd : decode q.2.1 pc = .ok (.iaload, 1)) (hs : stepE x q o post xp .caload 1 pc b L st h (MW x q o post xp)) : MW x q o post xp pc b L st h := by
  intro p e s m args below meth c0 H locs cells slots ls hB hR hS hL h1 h2
  obtain ⟨j, r, rfl, hs⟩ := popI_e hs
  obtain ⟨a, r, rfl, n, f, hb, hv, hs⟩ := popR_e hs
  rcases hb with ⟨k1, rfl, rfl⟩ | ⟨rfl, rfl, rfl⟩
  · exact M_iaload hd (show stepE x q o post xp .iaload 1 pc b L (.int j :: .ref a :: r) h (MW x q o post xp) from ⟨k1, hv, hs⟩) p e s m args below meth c0 H locs cells slots ls hB hR hS hL h1 h2
  · obtain ⟨g1, g2, g3⟩ := GF_s hB.2.2.2.2.2.2.2.2.2
    exact va_sld hB.1 hB.2.1 g1 (Nat.lt_of_lt_of_le g2 (GF_z hB.2.2.2.2.2.2.2.2.2)) (fun z => absurd z (Nat.not_le.mpr g2)) hS hv hd (hs p e s m args below meth c0 H locs cells slots ls hB hR hS hL h1 h2)
theorem M_ilen (hd : decode q.2.1 pc = .ok (.arraylength, 1)) (hs : stepE x q o post xp .d2i 1 pc b L st h (MW x q o post xp)) : MW x q o post xp pc b L st h := by
  intro p e s m args below meth c0 H locs cells slots ls hB hR hS hL h1 h2
  obtain ⟨a, r, rfl, n, f, hb, hs⟩ := popR_e hs
  rcases hb with ⟨k1, rfl, rfl⟩ | ⟨rfl, rfl, rfl⟩
  · exact W.alen hB.1 hB.2.1 (hR.arr (t := 0) (by decide) k1) ((hB.2.2.2.2.2.2.2.2.2.2.1 0 (by decide)).1 _ _) (by rw [arrV_size]; rfl) rfl rfl hd (hs p e s m args below meth c0 H locs cells slots ls hB hR hS hL h1 h2)
  · obtain ⟨g1, g2, g3⟩ := GF_s hB.2.2.2.2.2.2.2.2.2
    exact va_slen hB.1 hB.2.1 g1 (Nat.lt_of_lt_of_le g2 (GF_z hB.2.2.2.2.2.2.2.2.2)) (fun z => absurd z (Nat.not_le.mpr g2)) hS hd (hs p e s m args below meth c0 H locs cells slots ls hB hR hS hL h1 h2)
theorem M_copyb {k : Nat} (hk : spT o k = 5) (hdp : 0 < q.2.2.2.2.2.2.1) (hd : decode q.2.1 pc = .ok (.invokestatic k, 3)) (hs : stepE x q o post xp .castore 3 pc b L st h (MW x q o post xp)) : MW x q o post xp pc b L st h := by
  intro p e s m args below meth c0 H locs cells slots ls hB hR hS hL h1 h2
  obtain ⟨n, r, rfl, hs⟩ := popI_e hs
  obtain ⟨dp, r, rfl, hs⟩ := popI_e hs
  obtain ⟨a, r, rfl, hs⟩ := popR_e hs
  obtain ⟨sp, r, rfl, hs⟩ := popI_e hs
  obtain ⟨a0, r, rfl, n0, f, hcat, hk0, hk1, n1, n2, n3, n4, n5, hfit, hs9⟩ := popR_e hs
  rw [catS_eq] at hcat
  have hts := hB.2.2.2.2.1
  have hG := hB.2.2.2.2.2.2.2.2.2
  have nn : ∀ z : Int32, ¬ z < 0 → z.toInt = (z.toNatClampNeg : Int) := by
    intro z hz
    have hz0 : (0 : Int) ≤ z.toInt := by
      have := Int32.not_lt.mp hz
      simpa using Int32.le_iff_toInt_le.mp this
    show z.toInt = ((z.toInt.toNat : Nat) : Int)
    omega
  intro T hT X
  obtain ⟨scr, hc0, hs2, hs3, hs4, -, hs5⟩ := BV_cell hG hS hR hk0
  obtain ⟨hs6, k0, hkk0, cm0, hkd0⟩ := hs2
  have hc1 := hR.arr (t := 1) (by decide) hk1
  obtain ⟨-, k1, hkk1, cm1, hkd1⟩ := (hG.2.1 1 (by decide)).1 (mL h a) (avE 1 h a)
  obtain ⟨vm', X', step⟩ := X.arraycopy hB.1 hB.2.2.2.2.2.1 (hts _ (sp5_ok hk)) (hts _ jm_cpy.2.1) (hts _ jm_cpy.1) (hts _ jm_cpy.2.2) (src := a0) (dst := a) (cs := scr) (cd := arrV (xT x 1) (mL h a) (avE 1 h a)) (srcPos := sp) (destPos := dp) (n := n) (by rw [hT]; exact hc0) (by rw [hT]; exact hc1)
    hs6 (fun _ h => by cases h) hs3 (fun h => by cases h) hkk0 hkk1 hkd0 hkd1 (by simp [refKind, aTy]) n1 n2 n3
    (by rw [nn sp n1, nn n n3]; omega)
    (by rw [nn dp n2, nn n n3, arrV_size]; omega)
    (fun vm₁ _ i hi => by
      have e : scr.slots.getD (sp.toNatClampNeg + i) .null = .int (f (sp.toNatClampNeg + i)) := by
        rw [Array.getD_eq_getD_getElem?, hs5 _ (by omega)]
        rfl
      refine ⟨?_, ?_⟩
      · rw [e]
        exact hfit i hi
      · rw [e]
        exact trivial)
    (g := F0 m pc ls (.int n :: .int dp :: .ref a :: .int sp :: .ref a0 :: r)) rfl (by rw [hB.2.2.1, ← hL.1.1]) (rest := r) rfl (by rw [hB.2.1]; exact hd) (by show 1 ≤ q.2.2.2.2.2.2.1 + 1; omega) (by have e0 : nativeFrameWords "java/lang/System" "arraycopy" 5 ≤ 60 := by decide
                                                                                                                                                                                                        show 2 * 0 + _ + _ ≤ 40 * (q.2.2.2.2.2.2.1 + 1); omega)
  have e1 : copied scr (arrV (xT x 1) (mL h a) (avE 1 h a)) sp dp n = arrV (xT x 1) (mL h a) (fun j => .int (va_cpy f (mI h a) sp.toNatClampNeg dp.toNatClampNeg n.toNatClampNeg j)) := va_copiedX (fun z => .int z) scr (xT x 1) f (mI h a) hs5 n4
  rw [e1] at X' step
  have hl : a < H.size := (Array.getElem?_eq_some_iff.mp hc1).1
  generalize hH1 : H.setIfInBounds a (arrV (xT x 1) (mL h a) (fun j => .int (va_cpy f (mI h a) sp.toNatClampNeg dp.toNatClampNeg n.toNatClampNeg j))) = H1
  have hheap : ((T.setVm vm').setCell a (arrV (xT x 1) (mL h a) (fun j => .int (va_cpy f (mI h a) sp.toNatClampNeg dp.toNatClampNeg n.toNatClampNeg j)))).heap = H1 := by rw [← hH1, ← hT]; rfl
  have oq : ∀ q : Nat, q ≠ a → H1[q]? = H[q]? := fun q hq => by rw [← hH1]; simp [Array.getElem?_setIfInBounds, Ne.symm hq]
  have ea : H1[a]? = some (arrV (xT x 1) (mL h a) (fun j => .int (va_cpy f (mI h a) sp.toNatClampNeg dp.toNatClampNeg n.toNatClampNeg j))) := by rw [← hH1]; simp [Array.getElem?_setIfInBounds, hl]
  have z1 : H1.size = H.size := by rw [← hH1]; simp
  have hRn : RP x (sR h a (va_cpy f (mI h a) sp.toNatClampNeg dp.toNatClampNeg n.toNatClampNeg)) H1 := by
    refine hR.upd z1 oq rfl (fun _ => rfl) (fun _ => rfl) (fun b hb y => ⟨?_, rfl, rfl⟩) (fun c2 hc2 hk2 => by omega) (fun t ht hk2 => ?_)
    · show (if b = a then _ else _) = _
      rw [if_neg hb]
      rfl
    · have : t = 1 := by omega
      subst this
      rw [ea]
      refine congrArg some (arrV_cong fun y => ?_)
      show _ = Value.int (if a = a then _ else _)
      rw [if_pos rfl]
  have hSn : ∀ L9 : List Loc, (∀ z ∈ L9, z.base = a) → va_S (xA x) s.heap H1 (locs ++ L9) := by
    intro L9 h9
    refine ⟨by rw [z1]; exact hS.1, fun y g1 g2 => ?_, fun y hy => ?_⟩
    · rw [oq y (fun e => g2 (by rw [e]; exact hR.in (k := 11) hk1))]
      exact hS.2.1 y g1 g2
    · rcases List.mem_append.mp hy with h | h
      · exact hS.2.2 y h
      · rw [h9 y h]
        exact hR.in (k := 11) hk1
  obtain ⟨t, a1, b1⟩ := hs9 p e s m args below meth c0 H1 _ cells slots ls hB hRn (hSn _ (fun z hz => by obtain ⟨_, -, rfl⟩ := List.mem_map.mp hz; rfl)) hL h1 h2 _ hheap X'
  exact ⟨t, step t a1, b1⟩
theorem M_copy {k : Nat} (hk : spT o k = 3) (hdp : 0 < q.2.2.2.2.2.2.1) (hd : decode q.2.1 pc = .ok (.invokestatic k, 3)) (hs : stepE x q o post xp .monitorexit 3 pc b L st h (MW x q o post xp)) : MW x q o post xp pc b L st h := by
  intro p e s m args below meth c0 H locs cells slots ls hB hR hS hL h1 h2
  obtain ⟨n, r, rfl, hs⟩ := popI_e hs
  obtain ⟨dp, r, rfl, hs⟩ := popI_e hs
  obtain ⟨a, r, rfl, hs⟩ := popR_e hs
  obtain ⟨sp, r, rfl, hs⟩ := popI_e hs
  obtain ⟨a0, r, rfl, hcat, hk0, hk1, n1, n2, n3, n4, n5, hne, hs9⟩ := popR_e hs
  rw [catS_eq] at hcat
  have hts := hB.2.2.2.2.1
  have hG := hB.2.2.2.2.2.2.2.2.2
  have nn : ∀ z : Int32, ¬ z < 0 → z.toInt = (z.toNatClampNeg : Int) := by
    intro z hz
    have hz0 : (0 : Int) ≤ z.toInt := by
      have := Int32.not_lt.mp hz
      simpa using Int32.le_iff_toInt_le.mp this
    show z.toInt = ((z.toInt.toNat : Nat) : Int)
    omega
  intro T hT X
  have hc0 := hR.arr (t := 0) (by decide) hk0
  have hc1 := hR.arr (t := 0) (by decide) hk1
  obtain ⟨-, k0, hkk0, cm0, hkd0⟩ := (hG.2.1 0 (by decide)).1 (mL h a0) (avE 0 h a0)
  obtain ⟨-, k1, hkk1, cm1, hkd1⟩ := (hG.2.1 0 (by decide)).1 (mL h a) (avE 0 h a)
  obtain ⟨vm', X', step⟩ := X.arraycopy hB.1 hB.2.2.2.2.2.1 (hts _ (sp3_ok hk)) (hts _ jm_cpy.2.1) (hts _ jm_cpy.1) (hts _ jm_cpy.2.2) (src := a0) (dst := a) (cs := arrV (xT x 0) (mL h a0) (avE 0 h a0)) (cd := arrV (xT x 0) (mL h a) (avE 0 h a)) (srcPos := sp) (destPos := dp) (n := n) (by rw [hT]; exact hc0) (by rw [hT]; exact hc1)
    (fun _ h => by cases h) (fun _ h => by cases h) (fun h => by cases h) (fun h => by cases h) hkk0 hkk1 hkd0 hkd1 (by simp [refKind, aTy]) n1 n2 n3
    (by rw [nn sp n1, nn n n3, arrV_size]; omega)
    (by rw [nn dp n2, nn n n3, arrV_size]; omega)
    (fun vm₁ _ i hi => by
      have e : (arrV (xT x 0) (mL h a0) (avE 0 h a0)).slots.getD (sp.toNatClampNeg + i) .null = .int (mI h a0 (sp.toNatClampNeg + i)) := by
        rw [Array.getD_eq_getD_getElem?, arrV_read _ _ (by omega)]
        rfl
      refine ⟨?_, ?_⟩
      · rw [e]
        rfl
      · rw [e]
        exact trivial)
    (g := F0 m pc ls (.int n :: .int dp :: .ref a :: .int sp :: .ref a0 :: r)) rfl (by rw [hB.2.2.1, ← hL.1.1]) (rest := r) rfl (by rw [hB.2.1]; exact hd) (by show 1 ≤ q.2.2.2.2.2.2.1 + 1; omega) (by have e0 : nativeFrameWords "java/lang/System" "arraycopy" 5 ≤ 60 := by decide
                                                                                                                                                                                                        show 2 * 0 + _ + _ ≤ 40 * (q.2.2.2.2.2.2.1 + 1); omega)
  have e1 : copied (arrV (xT x 0) (mL h a0) (avE 0 h a0)) (arrV (xT x 0) (mL h a) (avE 0 h a)) sp dp n = arrV (xT x 0) (mL h a) (fun j => .int (va_cpy (mI h a0) (mI h a) sp.toNatClampNeg dp.toNatClampNeg n.toNatClampNeg j)) := va_copied (fun z => .int z) (xT x 0) (xT x 0) (mI h a0) (mI h a) n4
  rw [e1] at X' step
  have hl : a < H.size := (Array.getElem?_eq_some_iff.mp hc1).1
  generalize hH1 : H.setIfInBounds a (arrV (xT x 0) (mL h a) (fun j => .int (va_cpy (mI h a0) (mI h a) sp.toNatClampNeg dp.toNatClampNeg n.toNatClampNeg j))) = H1
  have hheap : ((T.setVm vm').setCell a (arrV (xT x 0) (mL h a) (fun j => .int (va_cpy (mI h a0) (mI h a) sp.toNatClampNeg dp.toNatClampNeg n.toNatClampNeg j)))).heap = H1 := by rw [← hH1, ← hT]; rfl
  have oq : ∀ q : Nat, q ≠ a → H1[q]? = H[q]? := fun q hq => by rw [← hH1]; simp [Array.getElem?_setIfInBounds, Ne.symm hq]
  have ea : H1[a]? = some (arrV (xT x 0) (mL h a) (fun j => .int (va_cpy (mI h a0) (mI h a) sp.toNatClampNeg dp.toNatClampNeg n.toNatClampNeg j))) := by rw [← hH1]; simp [Array.getElem?_setIfInBounds, hl]
  have z1 : H1.size = H.size := by rw [← hH1]; simp
  have hRn : RP x (sR h a (va_cpy (mI h a0) (mI h a) sp.toNatClampNeg dp.toNatClampNeg n.toNatClampNeg)) H1 := by
    refine hR.upd z1 oq rfl (fun _ => rfl) (fun _ => rfl) (fun b hb y => ⟨?_, rfl, rfl⟩) (fun c2 hc2 hk2 => by omega) (fun t ht hk2 => ?_)
    · show (if b = a then _ else _) = _
      rw [if_neg hb]
      rfl
    · have : t = 0 := by omega
      subst this
      rw [ea]
      refine congrArg some (arrV_cong fun y => ?_)
      show _ = Value.int (if a = a then _ else _)
      rw [if_pos rfl]
  have hSn : ∀ L9 : List Loc, (∀ z ∈ L9, z.base = a) → va_S (xA x) s.heap H1 (locs ++ L9) := by
    intro L9 h9
    refine ⟨by rw [z1]; exact hS.1, fun y g1 g2 => ?_, fun y hy => ?_⟩
    · rw [oq y (fun e => g2 (by rw [e]; exact hR.in (k := 10) hk1))]
      exact hS.2.1 y g1 g2
    · rcases List.mem_append.mp hy with h | h
      · exact hS.2.2 y h
      · rw [h9 y h]
        exact hR.in (k := 10) hk1
  obtain ⟨t, a1, b1⟩ := hs9 p e s m args below meth c0 H1 _ cells slots ls hB hRn (hSn _ (fun z hz => by obtain ⟨_, -, rfl⟩ := List.mem_map.mp hz; rfl)) hL h1 h2 _ hheap X'
  exact ⟨t, step t a1, b1⟩
theorem M_multi {k d : Nat} (hd : decode q.2.1 pc = .ok (.multianewarray k d, 4)) (hs : stepE x q o post xp (.multianewarray k d) 4 pc b L st h (MW x q o post xp)) : MW x q o post xp pc b L st h := by
  intro p e s m args below meth c0 H locs cells slots ls hB hR hS hL h1 h2
  obtain ⟨u, r, rfl, hs⟩ := popI_e hs
  obtain ⟨n, r, rfl, rfl, rfl, rfl, n1, n2, n3, n4, c1, c2, hs9⟩ := popI_e hs
  have hts := hB.2.2.2.2.1
  have hG := hB.2.2.2.2.2.2.2.2.2
  have hz : xz x ≤ H.size := Nat.le_trans hG.2.2.2.2.2.2.2.2.2.2.1 hS.1
  intro T hT Xs
  obtain ⟨vm₁, cA, comp, -, fA, fC, hO, -, X', step⟩ := Xs.multianewarray2F hB.1 hB.2.2.2.2.2.1 (ty := .int) (hts _ jm_mm) hG.2.2.2.2.2.2.2.2.2.2.2.2.2.2.1 (hts _ jm_ai.1) (g := F0 m pc ls (.int u :: .int n :: r)) rfl (by rw [hB.2.1]; exact hd) rfl n1 n2 (by omega) (by show _ * 4 ≤ _; omega) (by omega) rfl rfl (by show _ ≤ q.2.2.2.2.2.2.2.1; omega) (by show _ ≤ q.2.2.2.2.2.2.2.2; omega)
  have eA : cA = xT x 4 := (Option.some.inj ((show s.vm.findClass _ = some (xT x 4) from (hG.2.1 4 (by decide)).2).symm.trans fA)).symm
  have eC : comp = xT x 0 := (Option.some.inj ((show s.vm.findClass _ = some (xT x 0) from (hG.2.1 0 (by decide)).2).symm.trans fC)).symm
  subst eA
  subst eC
  generalize hF : Jvm.Free.Multi.fill (T.setVm vm₁) (xT x 4) (xT x 0) n.toNatClampNeg u.toNatClampNeg (defaultValue .int) n.toNatClampNeg = F at X' step
  have hTh : (T.setVm vm₁).heap = H := hT
  have ff := Jvm.Free.Multi.fill_facts (T.setVm vm₁) (xT x 4) (xT x 0) n.toNatClampNeg u.toNatClampNeg (defaultValue .int) n.toNatClampNeg
  rw [hF, hTh] at ff
  obtain ⟨f1, f2, -⟩ := ff
  have hold : ∀ y : Nat, y < H.size → F.heap[y]? = H[y]? := fun y hy => by
    have := Jvm.Free.Multi.fill_old (T.setVm vm₁) (xT x 4) (xT x 0) n.toNatClampNeg u.toNatClampNeg (defaultValue .int) (a := y) (by rw [hTh]; exact hy) n.toNatClampNeg
    rw [hF, hTh] at this
    exact this
  have hrow : ∀ j : Nat, j < n.toNatClampNeg → F.heap[H.size + 1 + j]? = some (arrV (xT x 0) u.toNatClampNeg (fun _ => .int 0)) := fun j hj => by
    have := Jvm.Free.Multi.fill_inner (T.setVm vm₁) (xT x 4) (xT x 0) n.toNatClampNeg u.toNatClampNeg (defaultValue .int) n.toNatClampNeg j hj
    rw [hF, hTh] at this
    rw [this]
    exact congrArg some (arrV_new _ _ _)
  have hout : ∀ i, Jvm.Free.Multi.outerC (xT x 4) n.toNatClampNeg H.size i = arrV (xT x 4) n.toNatClampNeg (fun j => rv (if j < i then H.size + 1 + j else 0)) := by
    intro i
    induction i with
    | zero =>
      refine (arrV_new _ _ _).trans (arrV_cong fun j => ?_)
      rw [if_neg (Nat.not_lt_zero j)]
      rfl
    | succ i ih =>
      show (Jvm.Free.Multi.outerC (xT x 4) n.toNatClampNeg H.size i).setSlot i (.ref (H.size + 1 + i)) = _
      rw [ih, arrV_store]
      refine arrV_cong fun j => ?_
      show (if j = i then _ else _) = _
      by_cases e : j = i
      · subst e
        rw [if_pos rfl, if_pos (Nat.lt_succ_self j), rv, if_neg (by omega)]
      · rw [if_neg e]
        show rv (if j < i then _ else _) = _
        by_cases e2 : j < i
        · rw [if_pos e2, if_pos (by omega)]
        · rw [if_neg e2, if_neg (by omega)]
  rw [hout] at f2
  have hsz : H.size = h.1 := hR.1
  have hRn : RP x (sM h n.toNatClampNeg u.toNatClampNeg) F.heap := by
    refine ⟨by rw [f1, hsz]; rfl, fun a hk => ?_, fun a c hc hk => ?_, fun a t ht hk => ?_⟩
    · by_cases e : h.1 ≤ a
      · omega
      · refine hR.2.1 a ?_
        have e2 : mK (sM h n.toNatClampNeg u.toNatClampNeg) a = mK h a := by
          show (if a = h.1 then 15 else if h.1 < a ∧ a < _ then 11 else _) = _
          rw [if_neg (by omega), if_neg (by omega)]
          rfl
        rw [← e2]
        exact hk
    · have e : ¬ (h.1 ≤ a ∧ a < h.1 + 1 + n.toNatClampNeg) := by
        rintro ⟨g1, g2⟩
        have hk' : (if a = h.1 then 15 else if h.1 < a ∧ a < h.1 + 1 + n.toNatClampNeg then 11 else h.2.1 a) = c + 1 := hk
        by_cases g3 : a = h.1
        · rw [if_pos g3] at hk'; omega
        · rw [if_neg g3, if_pos (by omega)] at hk'; omega
      have e2 : mK (sM h n.toNatClampNeg u.toNatClampNeg) a = mK h a := by
        show (if a = h.1 then 15 else if h.1 < a ∧ a < _ then 11 else _) = _
        rw [if_neg (by omega), if_neg (by omega)]
        rfl
      rw [e2] at hk
      refine ((hR.obj hc hk).kept (hold a (hR.lt hc hk))).to fun y _ => ?_
      show (if _ then rv _ else Value.int _) = (if eRef c y = true then rv (if a = h.1 then _ else _) else .int (if h.1 ≤ a ∧ a < _ then 0 else _))
      have e9 : ¬ a = h.1 := fun z => e ⟨by omega, by omega⟩
      rw [if_neg e9, if_neg e]
      rfl
    · have hk' : (if a = h.1 then 15 else if h.1 < a ∧ a < h.1 + 1 + n.toNatClampNeg then 11 else h.2.1 a) = t + 11 := hk
      by_cases g3 : a = h.1
      · rw [if_pos g3] at hk'
        have : t = 4 := by omega
        subst this
        have e3 : mL (sM h n.toNatClampNeg u.toNatClampNeg) a = n.toNatClampNeg := if_pos g3
        rw [e3, g3, ← hsz, f2]
        refine congrArg some (arrV_cong fun j => ?_)
        show rv _ = rv (if H.size = h.1 then (if j < n.toNatClampNeg then h.1 + 1 + j else 0) else _)
        rw [if_pos hsz, hsz]
      · rw [if_neg g3] at hk'
        by_cases g4 : h.1 < a ∧ a < h.1 + 1 + n.toNatClampNeg
        · rw [if_pos g4] at hk'
          have : t = 0 := by omega
          subst this
          have e3 : mL (sM h n.toNatClampNeg u.toNatClampNeg) a = u.toNatClampNeg := (if_neg g3).trans (if_pos g4)
          have e4 : a = H.size + 1 + (a - (H.size + 1)) := by omega
          rw [e3, e4, hrow _ (by omega), ← e4]
          refine congrArg some (arrV_cong fun j => ?_)
          show _ = Value.int (if h.1 ≤ a ∧ a < _ then 0 else _)
          rw [if_pos (by omega)]
        · rw [if_neg g4] at hk'
          have e3 : mL (sM h n.toNatClampNeg u.toNatClampNeg) a = mL h a := (if_neg g3).trans (if_neg g4)
          have hk2 : mK h a = t + 11 := hk'
          rw [e3, hold a (hR.alt ht hk2), hR.arr ht hk2]
          refine congrArg some (arrV_cong fun j => ?_)
          have g5 : ¬ (h.1 ≤ a ∧ a < h.1 + 1 + n.toNatClampNeg) := by omega
          match t, ht with
          | 0, _ => exact congrArg Value.int (if_neg g5).symm
          | 1, _ => exact congrArg Value.int (if_neg g5).symm
          | 2, _ => rfl
          | 3, _ => exact (congrArg rv (if_neg g3 : (if a = h.1 then _ else _) = mP h a j)).symm
          | 4, _ => exact (congrArg rv (if_neg g3 : (if a = h.1 then _ else _) = mP h a j)).symm
  have hsn := hs9 p e s m args below meth c0 F.heap locs (cells + 1 + n.toNatClampNeg) (slots + n.toNatClampNeg + n.toNatClampNeg * u.toNatClampNeg) ls hB hRn (hS.grow (by omega) hold) hL (by show _ + (b.1 - _) ≤ _; omega) (by show _ + (b.2 - _) ≤ _; omega)
  obtain ⟨t, a1, b1⟩ := hsn F rfl X'
  have e9 : mZ h = T.heap.size := by rw [hT]; exact hsz.symm
  rw [e9] at a1
  exact ⟨t, step t a1, b1⟩
end SNN

